/-! EQUATIONS of the methods 0 .. 53 -/
-- J6_bitCount_0f7a4
theorem eJ6_bitCount (k : Nat) (p1 : Int32) (σ : Sto) : C nJ6_bitCount k [.int p1] σ =
  some (((((((((p1 - (((Int32.toUInt32 p1 >>> (Int32.toUInt32 1 &&& Int32.toUInt32 31)).toInt32) &&& 1431655765)) &&& 858993459) + (((Int32.toUInt32 (p1 - (((Int32.toUInt32 p1 >>> (Int32.toUInt32 1 &&& Int32.toUInt32 31)).toInt32) &&& 1431655765)) >>> (Int32.toUInt32 2 &&& Int32.toUInt32 31)).toInt32) &&& 858993459)) + ((Int32.toUInt32 (((p1 - (((Int32.toUInt32 p1 >>> (Int32.toUInt32 1 &&& Int32.toUInt32 31)).toInt32) &&& 1431655765)) &&& 858993459) + (((Int32.toUInt32 (p1 - (((Int32.toUInt32 p1 >>> (Int32.toUInt32 1 &&& Int32.toUInt32 31)).toInt32) &&& 1431655765)) >>> (Int32.toUInt32 2 &&& Int32.toUInt32 31)).toInt32) &&& 858993459)) >>> (Int32.toUInt32 4 &&& Int32.toUInt32 31)).toInt32)) &&& 252645135) + ((Int32.toUInt32 (((((p1 - (((Int32.toUInt32 p1 >>> (Int32.toUInt32 1 &&& Int32.toUInt32 31)).toInt32) &&& 1431655765)) &&& 858993459) + (((Int32.toUInt32 (p1 - (((Int32.toUInt32 p1 >>> (Int32.toUInt32 1 &&& Int32.toUInt32 31)).toInt32) &&& 1431655765)) >>> (Int32.toUInt32 2 &&& Int32.toUInt32 31)).toInt32) &&& 858993459)) + ((Int32.toUInt32 (((p1 - (((Int32.toUInt32 p1 >>> (Int32.toUInt32 1 &&& Int32.toUInt32 31)).toInt32) &&& 1431655765)) &&& 858993459) + (((Int32.toUInt32 (p1 - (((Int32.toUInt32 p1 >>> (Int32.toUInt32 1 &&& Int32.toUInt32 31)).toInt32) &&& 1431655765)) >>> (Int32.toUInt32 2 &&& Int32.toUInt32 31)).toInt32) &&& 858993459)) >>> (Int32.toUInt32 4 &&& Int32.toUInt32 31)).toInt32)) &&& 252645135) >>> (Int32.toUInt32 8 &&& Int32.toUInt32 31)).toInt32)) + ((Int32.toUInt32 ((((((p1 - (((Int32.toUInt32 p1 >>> (Int32.toUInt32 1 &&& Int32.toUInt32 31)).toInt32) &&& 1431655765)) &&& 858993459) + (((Int32.toUInt32 (p1 - (((Int32.toUInt32 p1 >>> (Int32.toUInt32 1 &&& Int32.toUInt32 31)).toInt32) &&& 1431655765)) >>> (Int32.toUInt32 2 &&& Int32.toUInt32 31)).toInt32) &&& 858993459)) + ((Int32.toUInt32 (((p1 - (((Int32.toUInt32 p1 >>> (Int32.toUInt32 1 &&& Int32.toUInt32 31)).toInt32) &&& 1431655765)) &&& 858993459) + (((Int32.toUInt32 (p1 - (((Int32.toUInt32 p1 >>> (Int32.toUInt32 1 &&& Int32.toUInt32 31)).toInt32) &&& 1431655765)) >>> (Int32.toUInt32 2 &&& Int32.toUInt32 31)).toInt32) &&& 858993459)) >>> (Int32.toUInt32 4 &&& Int32.toUInt32 31)).toInt32)) &&& 252645135) + ((Int32.toUInt32 (((((p1 - (((Int32.toUInt32 p1 >>> (Int32.toUInt32 1 &&& Int32.toUInt32 31)).toInt32) &&& 1431655765)) &&& 858993459) + (((Int32.toUInt32 (p1 - (((Int32.toUInt32 p1 >>> (Int32.toUInt32 1 &&& Int32.toUInt32 31)).toInt32) &&& 1431655765)) >>> (Int32.toUInt32 2 &&& Int32.toUInt32 31)).toInt32) &&& 858993459)) + ((Int32.toUInt32 (((p1 - (((Int32.toUInt32 p1 >>> (Int32.toUInt32 1 &&& Int32.toUInt32 31)).toInt32) &&& 1431655765)) &&& 858993459) + (((Int32.toUInt32 (p1 - (((Int32.toUInt32 p1 >>> (Int32.toUInt32 1 &&& Int32.toUInt32 31)).toInt32) &&& 1431655765)) >>> (Int32.toUInt32 2 &&& Int32.toUInt32 31)).toInt32) &&& 858993459)) >>> (Int32.toUInt32 4 &&& Int32.toUInt32 31)).toInt32)) &&& 252645135) >>> (Int32.toUInt32 8 &&& Int32.toUInt32 31)).toInt32)) >>> (Int32.toUInt32 16 &&& Int32.toUInt32 31)).toInt32)) &&& 63), 0, σ) := (unr_R [] nJ6_bitCount k 400 0 _ _ _).trans rfl
-- J0_length_8abf5
theorem eJ0_length (k : Nat)  (w : Nat) (hw : w = 100 ∨ w = 101 ∨ w = 102 ∨ w = 103 ∨ w = 104 ∨ w = 105 ∨ w = 106 ∨ w = 107 ∨ w = 108 ∨ w = 109 ∨ w = 110 ∨ w = 111) (σ : Sto) : C nJ0_length k [.ref w] σ =
  (C nJ0_coder k [.ref w] σ).bind fun r1 =>
    some (((Int32.ofNat (byteOf ((w + 100) - 200)).length) >>> (r1.1 &&& 31)), 0, r1.2.2) := by rcases hw with rfl | rfl | rfl | rfl | rfl | rfl | rfl | rfl | rfl | rfl | rfl | rfl <;> exact (unr_R [] nJ0_length k 400 0 _ _ _).trans rfl
-- J0_coder_7d493
theorem eJ0_coder (k : Nat)  (w : Nat) (hw : w = 100 ∨ w = 101 ∨ w = 102 ∨ w = 103 ∨ w = 104 ∨ w = 105 ∨ w = 106 ∨ w = 107 ∨ w = 108 ∨ w = 109 ∨ w = 110 ∨ w = 111) (σ : Sto) : C nJ0_coder k [.ref w] σ =
  if nok 2 0 = true then
    some (0, 0, σ)
  else
    none := by rcases hw with rfl | rfl | rfl | rfl | rfl | rfl | rfl | rfl | rfl | rfl | rfl | rfl <;> exact (unr_R [] nJ0_coder k 400 0 _ _ _).trans rfl
-- J0_isLatin1_aae02
theorem eJ0_isLatin1 (k : Nat)  (w : Nat) (hw : w = 100 ∨ w = 101 ∨ w = 102 ∨ w = 103 ∨ w = 104 ∨ w = 105 ∨ w = 106 ∨ w = 107 ∨ w = 108 ∨ w = 109 ∨ w = 110 ∨ w = 111) (σ : Sto) : C nJ0_isLatin1 k [.ref w] σ =
  some (1, 0, σ) := by rcases hw with rfl | rfl | rfl | rfl | rfl | rfl | rfl | rfl | rfl | rfl | rfl | rfl <;> exact (unr_R [] nJ0_isLatin1 k 400 0 _ _ _).trans rfl
-- J0_charAt_5068e
theorem eJ0_charAt (k : Nat)  (w : Nat) (hw : w = 100 ∨ w = 101 ∨ w = 102 ∨ w = 103 ∨ w = 104 ∨ w = 105 ∨ w = 106 ∨ w = 107 ∨ w = 108 ∨ w = 109 ∨ w = 110 ∨ w = 111) (p1 : Int32) (σ : Sto) : C nJ0_charAt k [.ref w, .int p1] σ =
  (C nJ0_isLatin1 k [.ref w] σ).bind fun r1 =>
    if r1.1 = 0 then
      none
    else
      (C nJ1_charAt k [.ref (w + 100), .int p1] r1.2.2).bind fun r2 =>
        if nok 3 r2.1 = true then
          some (r2.1, 0, r2.2.2)
        else
          none := by rcases hw with rfl | rfl | rfl | rfl | rfl | rfl | rfl | rfl | rfl | rfl | rfl | rfl <;> exact (unr_R [] nJ0_charAt k 400 0 _ _ _).trans rfl
-- J0_checkIndex_df160
theorem eJ0_checkIndex (k : Nat) (p1 : Int32) (p2 : Int32) (σ : Sto) : C nJ0_checkIndex k [.int p1, .int p2] σ =
  (C nJ3_checkIndex k [.int p1, .int p2, .ref 300] σ).bind fun r1 =>
    some (0, 0, r1.2.2) := (unr_R [] nJ0_checkIndex k 400 0 _ _ _).trans rfl
-- J1_charAt_3b067
theorem eJ1_charAt (k : Nat)  (v : Nat) (hv : v = 200 ∨ v = 201 ∨ v = 202 ∨ v = 203 ∨ v = 204 ∨ v = 205 ∨ v = 206 ∨ v = 207 ∨ v = 208 ∨ v = 209 ∨ v = 210 ∨ v = 211) (p2 : Int32) (σ : Sto) : C nJ1_charAt k [.ref v, .int p2] σ =
  (C nJ0_checkIndex k [.int p2, .int (Int32.ofNat (byteOf (v - 200)).length)] σ).bind fun r1 =>
    if inb p2 (byteOf (v - 200)).length = true then
      if nok 3 ((Int32.toUInt32 (((byteOf (v - 200)).getD p2.toNatClampNeg 0) &&& 255) % 65536).toInt32) = true then
        some (((Int32.toUInt32 (((byteOf (v - 200)).getD p2.toNatClampNeg 0) &&& 255) % 65536).toInt32), 0, r1.2.2)
      else
        none
    else
      none := by rcases hv with rfl | rfl | rfl | rfl | rfl | rfl | rfl | rfl | rfl | rfl | rfl | rfl <;> exact (unr_R [] nJ1_charAt k 400 0 _ _ _).trans rfl
-- J3_checkIndex_8e157
theorem eJ3_checkIndex (k : Nat) (p1 : Int32) (p2 : Int32) (σ : Sto) : C nJ3_checkIndex k [.int p1, .int p2, .ref 300] σ =
  if p1 < 0 then
    none
  else
    if p1 < p2 then
      some (p1, 0, σ)
    else
      none := (unr_R [] nJ3_checkIndex k 400 0 _ _ _).trans rfl
-- X0_faultOf
theorem eD_faultOf (k : Nat) (p1 : Int32) (σ : Sto) : C nD_faultOf k [.ref 7, .int p1] σ =
  (C nD_take k [.ref 7] (su (su (su (su σ 7 2 (minI p1 160)) 7 3 0) 7 7 (-1)) 7 8 (((su (su (su σ 7 2 (minI p1 160)) 7 3 0) 7 7 (-1)) 2 4) * 160))).bind fun r1 =>
    R nD_faultOf k 22 [.ref 7, .int p1, .int 0, .null] [] r1.2.2 := (unr_R [22] nD_faultOf k 400 0 _ _ _).trans rfl
theorem eD_faultOf_22 (k : Nat) (v1 : Int32) (v2 : Int32) (u3 : Value) (σ : Sto) : R nD_faultOf k 22 [.ref 7, .int v1, .int v2, u3] [] σ =
  if v2 < 3 then
    (C nD_expect k [.ref 7, .int (10 + v2)] σ).bind fun r1 =>
      if inb (((σ 2 4) * 3) + v2) 18 = true then
        (C nD_either k [.ref 7, .int 0] (su r1.2.2 4 (((σ 2 4) * 3) + v2).toNatClampNeg (r1.2.2 7 8))).bind fun r2 =>
          if inb (((σ 2 4) * 3) + v2) 18 = true then
            (C nD_expect k [.ref 7, .int 4] (su r2.2.2 5 (((σ 2 4) * 3) + v2).toNatClampNeg (r2.2.2 7 8))).bind fun r3 =>
              R nD_faultOf k 22 [.ref 7, .int v1, .int (v2 + 1), .int (((σ 2 4) * 3) + v2)] [] r3.2.2
          else
            none
      else
        none
  else
    (C nD_expect k [.ref 7, .int 5] σ).bind fun r1 =>
      some ((r1.2.2 7 7), 0, r1.2.2) := (unr_R [22] nD_faultOf k 400 22 _ _ _).trans rfl
-- X0_fail
theorem eD_fail (k : Nat) (σ : Sto) : C nD_fail k [.ref 7] σ =
  if (σ 7 7) = (-1) then
    some (0, 0, (su (su σ 7 7 (σ 7 4)) 7 5 6))
  else
    some (0, 0, (su σ 7 5 6)) := (unr_R [] nD_fail k 400 0 _ _ _).trans rfl
-- X0_expect
theorem eD_expect (k : Nat) (p1 : Int32) (σ : Sto) : C nD_expect k [.ref 7, .int p1] σ =
  if (σ 7 5) = p1 then
    (C nD_take k [.ref 7] σ).bind fun r1 =>
      some (0, 0, r1.2.2)
  else
    (C nD_fail k [.ref 7] σ).bind fun r1 =>
      some (0, 0, r1.2.2) := (unr_R [] nD_expect k 400 0 _ _ _).trans rfl
-- X0_write
theorem eD_write (k : Nat) (p1 : Int32) (σ : Sto) : C nD_write k [.ref 7, .int p1] σ =
  if (σ 7 8) < 960 then
    if inb (σ 7 8) 960 = true then
      some (0, 0, (su (su σ 3 (σ 7 8).toNatClampNeg p1) 7 8 (((su σ 3 (σ 7 8).toNatClampNeg p1) 7 8) + 1)))
    else
      none
  else
    some (0, 0, σ) := (unr_R [] nD_write k 400 0 _ _ _).trans rfl
-- X0_either
theorem eD_either (k : Nat) (p1 : Int32) (σ : Sto) : C nD_either k [.ref 7, .int p1] σ =
  (C nD_both k [.ref 7, .int p1] σ).bind fun r1 =>
    R nD_either k 5 [.ref 7, .int p1, .int 0] [] r1.2.2 := (unr_R [5] nD_either k 400 0 _ _ _).trans rfl
theorem eD_either_5 (k : Nat) (v1 : Int32) (v2 : Int32) (σ : Sto) : R nD_either k 5 [.ref 7, .int v1, .int v2] [] σ =
  if v2 < 160 then
    if (σ 7 5) = (-9) then
      (C nD_take k [.ref 7] σ).bind fun r1 =>
        (C nD_both k [.ref 7, .int v1] r1.2.2).bind fun r2 =>
          (C nD_write k [.ref 7, .int (-9)] r2.2.2).bind fun r3 =>
            R nD_either k 5 [.ref 7, .int v1, .int (v2 + 1)] [] r3.2.2
    else
      some (0, 0, σ)
  else
    some (0, 0, σ) := (unr_R [5] nD_either k 400 5 _ _ _).trans rfl
-- X0_both
theorem eD_both (k : Nat) (p1 : Int32) (σ : Sto) : C nD_both k [.ref 7, .int p1] σ =
  (C nD_negation k [.ref 7, .int p1] σ).bind fun r1 =>
    R nD_both k 5 [.ref 7, .int p1, .int 0] [] r1.2.2 := (unr_R [5] nD_both k 400 0 _ _ _).trans rfl
theorem eD_both_5 (k : Nat) (v1 : Int32) (v2 : Int32) (σ : Sto) : R nD_both k 5 [.ref 7, .int v1, .int v2] [] σ =
  if v2 < 160 then
    if (σ 7 5) = (-10) then
      (C nD_take k [.ref 7] σ).bind fun r1 =>
        (C nD_negation k [.ref 7, .int v1] r1.2.2).bind fun r2 =>
          (C nD_write k [.ref 7, .int (-10)] r2.2.2).bind fun r3 =>
            R nD_both k 5 [.ref 7, .int v1, .int (v2 + 1)] [] r3.2.2
    else
      some (0, 0, σ)
  else
    some (0, 0, σ) := (unr_R [5] nD_both k 400 5 _ _ _).trans rfl
-- X0_negation
theorem eD_negation (k : Nat) (p1 : Int32) (σ : Sto) : C nD_negation k [.ref 7, .int p1] σ =
  if (σ 7 5) = (-8) then
    if p1 < 5 then
      (C nD_take k [.ref 7] σ).bind fun r1 =>
        if k < 6 then
          (C nD_negation (k + 1) [.ref 7, .int (p1 + 1)] r1.2.2).bind fun r2 =>
            (C nD_write k [.ref 7, .int (-8)] r2.2.2).bind fun r3 =>
              some (0, 0, r3.2.2)
        else
          none
    else
      (C nD_fail k [.ref 7] σ).bind fun r1 =>
        some (0, 0, r1.2.2)
  else
    (C nD_comparison k [.ref 7, .int p1] σ).bind fun r1 =>
      some (0, 0, r1.2.2) := (unr_R [] nD_negation k 400 0 _ _ _).trans rfl
-- X0_comparison
theorem eD_comparison (k : Nat) (p1 : Int32) (σ : Sto) : C nD_comparison k [.ref 7, .int p1] σ =
  (C nD_sum k [.ref 7, .int p1] σ).bind fun r1 =>
    if (r1.2.2 7 5) = (-11) then
      (C nD_take k [.ref 7] r1.2.2).bind fun r2 =>
        (C nD_sum k [.ref 7, .int p1] r2.2.2).bind fun r3 =>
          (C nD_write k [.ref 7, .int (r1.2.2 7 5)] r3.2.2).bind fun r4 =>
            some (0, 0, r4.2.2)
    else
      if (r1.2.2 7 5) = (-12) then
        (C nD_take k [.ref 7] r1.2.2).bind fun r2 =>
          (C nD_sum k [.ref 7, .int p1] r2.2.2).bind fun r3 =>
            (C nD_write k [.ref 7, .int (r1.2.2 7 5)] r3.2.2).bind fun r4 =>
              some (0, 0, r4.2.2)
      else
        some (0, 0, r1.2.2) := (unr_R [] nD_comparison k 400 0 _ _ _).trans rfl
-- X0_sum
theorem eD_sum (k : Nat) (p1 : Int32) (σ : Sto) : C nD_sum k [.ref 7, .int p1] σ =
  (C nD_term k [.ref 7, .int p1] σ).bind fun r1 =>
    R nD_sum k 5 [.ref 7, .int p1, .int 0, .null] [] r1.2.2 := (unr_R [5] nD_sum k 400 0 _ _ _).trans rfl
theorem eD_sum_5 (k : Nat) (v1 : Int32) (v2 : Int32) (u3 : Value) (σ : Sto) : R nD_sum k 5 [.ref 7, .int v1, .int v2, u3] [] σ =
  if v2 < 160 then
    if (σ 7 5) = (-13) then
      (C nD_take k [.ref 7] σ).bind fun r1 =>
        (C nD_term k [.ref 7, .int v1] r1.2.2).bind fun r2 =>
          (C nD_write k [.ref 7, .int (σ 7 5)] r2.2.2).bind fun r3 =>
            R nD_sum k 5 [.ref 7, .int v1, .int (v2 + 1), .int (σ 7 5)] [] r3.2.2
    else
      if (σ 7 5) = (-14) then
        (C nD_take k [.ref 7] σ).bind fun r1 =>
          (C nD_term k [.ref 7, .int v1] r1.2.2).bind fun r2 =>
            (C nD_write k [.ref 7, .int (σ 7 5)] r2.2.2).bind fun r3 =>
              R nD_sum k 5 [.ref 7, .int v1, .int (v2 + 1), .int (σ 7 5)] [] r3.2.2
      else
        some (0, 0, σ)
  else
    some (0, 0, σ) := (unr_R [5] nD_sum k 400 5 _ _ _).trans rfl
-- X0_term
theorem eD_term (k : Nat) (p1 : Int32) (σ : Sto) : C nD_term k [.ref 7, .int p1] σ =
  (C nD_one k [.ref 7, .int p1] σ).bind fun r1 =>
    R nD_term k 5 [.ref 7, .int p1, .int 0] [] r1.2.2 := (unr_R [5] nD_term k 400 0 _ _ _).trans rfl
theorem eD_term_5 (k : Nat) (v1 : Int32) (v2 : Int32) (σ : Sto) : R nD_term k 5 [.ref 7, .int v1, .int v2] [] σ =
  if v2 < 160 then
    if (σ 7 5) = (-15) then
      (C nD_take k [.ref 7] σ).bind fun r1 =>
        (C nD_one k [.ref 7, .int v1] r1.2.2).bind fun r2 =>
          (C nD_write k [.ref 7, .int (-15)] r2.2.2).bind fun r3 =>
            R nD_term k 5 [.ref 7, .int v1, .int (v2 + 1)] [] r3.2.2
    else
      some (0, 0, σ)
  else
    some (0, 0, σ) := (unr_R [5] nD_term k 400 5 _ _ _).trans rfl
-- X0_one
theorem eD_one (k : Nat) (p1 : Int32) (σ : Sto) : C nD_one k [.ref 7, .int p1] σ =
  if (σ 7 5) = (-14) then
    R nD_one k 8 [.ref 7, .int p1, .null] [] σ
  else
    if (σ 7 5) = 2 then
      R nD_one k 8 [.ref 7, .int p1, .null] [] σ
    else
      if (σ 7 5) = 1 then
        (C nD_write k [.ref 7, .int (σ 7 6)] σ).bind fun r1 =>
          (C nD_take k [.ref 7] r1.2.2).bind fun r2 =>
            some (0, 0, r2.2.2)
      else
        if (-1) < (σ 7 5) then
          (C nD_fail k [.ref 7] σ).bind fun r1 =>
            some (0, 0, r1.2.2)
        else
          if (σ 7 5) < (-6) then
            (C nD_fail k [.ref 7] σ).bind fun r1 =>
              some (0, 0, r1.2.2)
          else
            (C nD_write k [.ref 7, .int (σ 7 5)] σ).bind fun r1 =>
              (C nD_take k [.ref 7] r1.2.2).bind fun r2 =>
                some (0, 0, r2.2.2) := (unr_R [8] nD_one k 400 0 _ _ _).trans rfl
set_option maxRecDepth 1000000 in
theorem eD_one_8 (k : Nat) (v1 : Int32) (σ : Sto) : R nD_one k 8 [.ref 7, .int v1, .null] [] σ =
  if (σ 7 5) = 1 then
    (C nD_write k [.ref 7, .int (σ 7 6)] σ).bind fun r1 =>
      (C nD_take k [.ref 7] r1.2.2).bind fun r2 =>
        some (0, 0, r2.2.2)
  else
    if (-1) < (σ 7 5) then
      if v1 < 5 then
        if (σ 7 5) = (-14) then
          (C nD_take k [.ref 7] σ).bind fun r1 =>
            if k < 6 then
              (C nD_one (k + 1) [.ref 7, .int (v1 + 1)] r1.2.2).bind fun r2 =>
                (C nD_write k [.ref 7, .int (-7)] r2.2.2).bind fun r3 =>
                  some (0, 0, r3.2.2)
            else
              none
        else
          (C nD_take k [.ref 7] σ).bind fun r1 =>
            if k < 6 then
              (C nD_either (k + 1) [.ref 7, .int (v1 + 1)] r1.2.2).bind fun r2 =>
                (C nD_expect k [.ref 7, .int 3] r2.2.2).bind fun r3 =>
                  some (0, 0, r3.2.2)
            else
              none
      else
        (C nD_fail k [.ref 7] σ).bind fun r1 =>
          some (0, 0, r1.2.2)
    else
      if (σ 7 5) < (-6) then
        if v1 < 5 then
          if (σ 7 5) = (-14) then
            (C nD_take k [.ref 7] σ).bind fun r1 =>
              if k < 6 then
                (C nD_one (k + 1) [.ref 7, .int (v1 + 1)] r1.2.2).bind fun r2 =>
                  (C nD_write k [.ref 7, .int (-7)] r2.2.2).bind fun r3 =>
                    some (0, 0, r3.2.2)
              else
                none
          else
            (C nD_take k [.ref 7] σ).bind fun r1 =>
              if k < 6 then
                (C nD_either (k + 1) [.ref 7, .int (v1 + 1)] r1.2.2).bind fun r2 =>
                  (C nD_expect k [.ref 7, .int 3] r2.2.2).bind fun r3 =>
                    some (0, 0, r3.2.2)
              else
                none
        else
          (C nD_fail k [.ref 7] σ).bind fun r1 =>
            some (0, 0, r1.2.2)
      else
        (C nD_write k [.ref 7, .int (σ 7 5)] σ).bind fun r1 =>
          (C nD_take k [.ref 7] r1.2.2).bind fun r2 =>
            some (0, 0, r2.2.2) := (unr_R [8] nD_one k 400 8 _ _ _).trans rfl
-- X0_take
theorem eD_take (k : Nat) (σ : Sto) : C nD_take k [.ref 7] σ =
  if (σ 7 7) = (-1) then
    R nD_take k 8 [.ref 7, .int (σ 7 3)] [] σ
  else
    some (0, 0, σ) := (unr_R [8, 31] nD_take k 400 0 _ _ _).trans rfl
theorem eD_take_8 (k : Nat) (v1 : Int32) (σ : Sto) : R nD_take k 8 [.ref 7, .int v1] [] σ =
  if v1 < (σ 7 2) then
    if inb v1 160 = true then
      if (σ 1 v1.toNatClampNeg) = 32 then
        R nD_take k 8 [.ref 7, .int (v1 + 1)] [] (su σ 7 3 (v1 + 1))
      else
        if inb v1 160 = true then
          if (σ 1 v1.toNatClampNeg) = 10 then
            R nD_take k 8 [.ref 7, .int (v1 + 1)] [] (su σ 7 3 (v1 + 1))
          else
            R nD_take k 31 [.ref 7, .int v1] [] σ
        else
          none
    else
      none
  else
    R nD_take k 31 [.ref 7, .int v1] [] σ := (unr_R [8, 31] nD_take k 400 8 _ _ _).trans rfl
theorem eD_take_31 (k : Nat) (v1 : Int32) (σ : Sto) : R nD_take k 31 [.ref 7, .int v1] [] σ =
  if ((su σ 7 4 (σ 7 3)) 7 3) < ((su σ 7 4 (σ 7 3)) 7 2) then
    if inb ((su σ 7 4 (σ 7 3)) 7 3) 160 = true then
      (C nD_isLetter k [.int ((su σ 7 4 (σ 7 3)) 1 ((su σ 7 4 (σ 7 3)) 7 3).toNatClampNeg)] (su σ 7 4 (σ 7 3))).bind fun r1 =>
        if r1.1 = 0 then
          if inb (r1.2.2 7 3) 160 = true then
            (C nD_isDigit k [.int (r1.2.2 1 (r1.2.2 7 3).toNatClampNeg)] r1.2.2).bind fun r2 =>
              if r2.1 = 0 then
                if inb (r2.2.2 7 3) 160 = true then
                  (C nD_signOf k [.int (r2.2.2 1 (r2.2.2 7 3).toNatClampNeg)] r2.2.2).bind fun r3 =>
                    some (0, 0, (su (su r3.2.2 7 5 r3.1) 7 3 (((su r3.2.2 7 5 r3.1) 7 3) + 1)))
                else
                  none
              else
                (C nD_takeNumber k [.ref 7] r2.2.2).bind fun r3 =>
                  some (0, 0, r3.2.2)
          else
            none
        else
          (C nD_takeWord k [.ref 7] r1.2.2).bind fun r2 =>
            some (0, 0, r2.2.2)
    else
      none
  else
    some (0, 0, (su (su σ 7 4 (σ 7 3)) 7 5 5)) := (unr_R [8, 31] nD_take k 400 31 _ _ _).trans rfl
-- X0_takeWord
theorem eD_takeWord (k : Nat) (σ : Sto) : C nD_takeWord k [.ref 7] σ =
  R nD_takeWord k 3 [.ref 7, .int (σ 7 4)] [] σ := (unr_R [3, 20] nD_takeWord k 400 0 _ _ _).trans rfl
theorem eD_takeWord_3 (k : Nat) (v1 : Int32) (σ : Sto) : R nD_takeWord k 3 [.ref 7, .int v1] [] σ =
  if v1 < (σ 7 2) then
    if inb v1 160 = true then
      (C nD_isLetter k [.int (σ 1 v1.toNatClampNeg)] σ).bind fun r1 =>
        if r1.1 = 0 then
          R nD_takeWord k 20 [.ref 7, .int v1] [] r1.2.2
        else
          R nD_takeWord k 3 [.ref 7, .int (v1 + 1)] [] (su r1.2.2 7 3 (v1 + 1))
    else
      none
  else
    R nD_takeWord k 20 [.ref 7, .int v1] [] σ := (unr_R [3, 20] nD_takeWord k 400 3 _ _ _).trans rfl
set_option maxRecDepth 1000000 in
theorem eD_takeWord_20 (k : Nat) (v1 : Int32) (σ : Sto) : R nD_takeWord k 20 [.ref 7, .int v1] [] σ =
  (C nD_isWord k [.ref 7, .ref 100] σ).bind fun r1 =>
    if r1.1 = 0 then
      (C nD_isWord k [.ref 7, .ref 101] r1.2.2).bind fun r2 =>
        if r2.1 = 0 then
          (C nD_isWord k [.ref 7, .ref 102] r2.2.2).bind fun r3 =>
            if r3.1 = 0 then
              (C nD_isWord k [.ref 7, .ref 103] r3.2.2).bind fun r4 =>
                if r4.1 = 0 then
                  (C nD_isWord k [.ref 7, .ref 104] r4.2.2).bind fun r5 =>
                    if r5.1 = 0 then
                      (C nD_isWord k [.ref 7, .ref 105] r5.2.2).bind fun r6 =>
                        if r6.1 = 0 then
                          (C nD_isWord k [.ref 7, .ref 106] r6.2.2).bind fun r7 =>
                            if r7.1 = 0 then
                              (C nD_isWord k [.ref 7, .ref 107] r7.2.2).bind fun r8 =>
                                if r8.1 = 0 then
                                  (C nD_isWord k [.ref 7, .ref 108] r8.2.2).bind fun r9 =>
                                    if r9.1 = 0 then
                                      (C nD_isWord k [.ref 7, .ref 109] r9.2.2).bind fun r10 =>
                                        if r10.1 = 0 then
                                          (C nD_isWord k [.ref 7, .ref 110] r10.2.2).bind fun r11 =>
                                            if r11.1 = 0 then
                                              (C nD_isWord k [.ref 7, .ref 111] r11.2.2).bind fun r12 =>
                                                if r12.1 = 0 then
                                                  some (0, 0, (su r12.2.2 7 5 6))
                                                else
                                                  some (0, 0, (su r12.2.2 7 5 (-6)))
                                            else
                                              some (0, 0, (su r11.2.2 7 5 (-5)))
                                        else
                                          some (0, 0, (su r10.2.2 7 5 (-4)))
                                    else
                                      some (0, 0, (su r9.2.2 7 5 (-3)))
                                else
                                  some (0, 0, (su r8.2.2 7 5 (-2)))
                            else
                              some (0, 0, (su r7.2.2 7 5 (-1)))
                        else
                          some (0, 0, (su r6.2.2 7 5 (-8)))
                    else
                      some (0, 0, (su r5.2.2 7 5 (-10)))
                else
                  some (0, 0, (su r4.2.2 7 5 (-9)))
            else
              some (0, 0, (su r3.2.2 7 5 12))
        else
          some (0, 0, (su r2.2.2 7 5 11))
    else
      some (0, 0, (su r1.2.2 7 5 10)) := (unr_R [3, 20] nD_takeWord k 400 20 _ _ _).trans rfl
-- X0_isWord
theorem eD_isWord (k : Nat)  (w : Nat) (hw : w = 100 ∨ w = 101 ∨ w = 102 ∨ w = 103 ∨ w = 104 ∨ w = 105 ∨ w = 106 ∨ w = 107 ∨ w = 108 ∨ w = 109 ∨ w = 110 ∨ w = 111) (σ : Sto) : C nD_isWord k [.ref 7, .ref w] σ =
  (C nJ0_length k [.ref w] σ).bind fun r1 =>
    if ((σ 7 3) - (σ 7 4)) = r1.1 then
      R nD_isWord k 12 [.ref 7, .ref w, .int 0] [] r1.2.2
    else
      some (0, 0, r1.2.2) := by rcases hw with rfl | rfl | rfl | rfl | rfl | rfl | rfl | rfl | rfl | rfl | rfl | rfl <;> exact (unr_R [12] nD_isWord k 400 0 _ _ _).trans rfl
theorem eD_isWord_12 (k : Nat)  (w : Nat) (hw : w = 100 ∨ w = 101 ∨ w = 102 ∨ w = 103 ∨ w = 104 ∨ w = 105 ∨ w = 106 ∨ w = 107 ∨ w = 108 ∨ w = 109 ∨ w = 110 ∨ w = 111) (v2 : Int32) (σ : Sto) : R nD_isWord k 12 [.ref 7, .ref w, .int v2] [] σ =
  (C nJ0_length k [.ref w] σ).bind fun r1 =>
    if v2 < r1.1 then
      if inb ((r1.2.2 7 4) + v2) 160 = true then
        (C nJ0_charAt k [.ref w, .int v2] r1.2.2).bind fun r2 =>
          if (r1.2.2 1 ((r1.2.2 7 4) + v2).toNatClampNeg) = r2.1 then
            R nD_isWord k 12 [.ref 7, .ref w, .int (v2 + 1)] [] r2.2.2
          else
            some (0, 0, r2.2.2)
      else
        none
    else
      some (1, 0, r1.2.2) := by rcases hw with rfl | rfl | rfl | rfl | rfl | rfl | rfl | rfl | rfl | rfl | rfl | rfl <;> exact (unr_R [12] nD_isWord k 400 12 _ _ _).trans rfl
-- X0_takeNumber
theorem eD_takeNumber (k : Nat) (σ : Sto) : C nD_takeNumber k [.ref 7] σ =
  R nD_takeNumber k 6 [.ref 7, .int ((su σ 7 6 0) 7 4)] [] (su σ 7 6 0) := (unr_R [6] nD_takeNumber k 400 0 _ _ _).trans rfl
theorem eD_takeNumber_6 (k : Nat) (v1 : Int32) (σ : Sto) : R nD_takeNumber k 6 [.ref 7, .int v1] [] σ =
  if v1 < (σ 7 2) then
    if inb v1 160 = true then
      (C nD_isDigit k [.int (σ 1 v1.toNatClampNeg)] σ).bind fun r1 =>
        if r1.1 = 0 then
          if 4 < ((r1.2.2 7 3) - (r1.2.2 7 4)) then
            some (0, 0, (su r1.2.2 7 5 6))
          else
            some (0, 0, (su r1.2.2 7 5 1))
        else
          if inb v1 160 = true then
            R nD_takeNumber k 6 [.ref 7, .int (v1 + 1)] [] (su (su r1.2.2 7 3 (v1 + 1)) 7 6 (((((su r1.2.2 7 3 (v1 + 1)) 7 6) * 10) + ((su r1.2.2 7 3 (v1 + 1)) 1 v1.toNatClampNeg)) - 48))
          else
            none
    else
      none
  else
    if 4 < ((σ 7 3) - (σ 7 4)) then
      some (0, 0, (su σ 7 5 6))
    else
      some (0, 0, (su σ 7 5 1)) := (unr_R [6] nD_takeNumber k 400 6 _ _ _).trans rfl
-- X0_isLetter
theorem eD_isLetter (k : Nat) (p1 : Int32) (σ : Sto) : C nD_isLetter k [.int p1] σ =
  if p1 < 97 then
    some (0, 0, σ)
  else
    if 122 < p1 then
      some (0, 0, σ)
    else
      some (1, 0, σ) := (unr_R [] nD_isLetter k 400 0 _ _ _).trans rfl
-- X0_isDigit
theorem eD_isDigit (k : Nat) (p1 : Int32) (σ : Sto) : C nD_isDigit k [.int p1] σ =
  if p1 < 48 then
    some (0, 0, σ)
  else
    if 57 < p1 then
      some (0, 0, σ)
    else
      some (1, 0, σ) := (unr_R [] nD_isDigit k 400 0 _ _ _).trans rfl
-- X0_signOf
set_option maxRecDepth 1000000 in
theorem eD_signOf (k : Nat) (p1 : Int32) (σ : Sto) : C nD_signOf k [.int p1] σ =
  if p1 = 40 then
    some (2, 0, σ)
  else
    if p1 = 41 then
      some (3, 0, σ)
    else
      if p1 = 42 then
        some ((-15), 0, σ)
      else
        if p1 = 43 then
          some ((-13), 0, σ)
        else
          if p1 = 44 then
            some (6, 0, σ)
          else
            if p1 = 45 then
              some ((-14), 0, σ)
            else
              if p1 = 46 then
                some (6, 0, σ)
              else
                if p1 = 47 then
                  some (6, 0, σ)
                else
                  if p1 = 48 then
                    some (6, 0, σ)
                  else
                    if p1 = 49 then
                      some (6, 0, σ)
                    else
                      if p1 = 50 then
                        some (6, 0, σ)
                      else
                        if p1 = 51 then
                          some (6, 0, σ)
                        else
                          if p1 = 52 then
                            some (6, 0, σ)
                          else
                            if p1 = 53 then
                              some (6, 0, σ)
                            else
                              if p1 = 54 then
                                some (6, 0, σ)
                              else
                                if p1 = 55 then
                                  some (6, 0, σ)
                                else
                                  if p1 = 56 then
                                    some (6, 0, σ)
                                  else
                                    if p1 = 57 then
                                      some (6, 0, σ)
                                    else
                                      if p1 = 58 then
                                        some (6, 0, σ)
                                      else
                                        if p1 = 59 then
                                          some (4, 0, σ)
                                        else
                                          if p1 = 60 then
                                            some ((-11), 0, σ)
                                          else
                                            if p1 = 61 then
                                              some ((-12), 0, σ)
                                            else
                                              some (6, 0, σ) := (unr_R [] nD_signOf k 400 0 _ _ _).trans rfl
-- X1_has
theorem eH_has (k : Nat) (p1 : Int32) (σ : Sto) : C nH_has k [.ref 8, .int p1] σ =
  if p1 < 0 then
    some (0, 0, σ)
  else
    if p1 < 4 then
      some (1, 0, σ)
    else
      some (0, 0, σ) := (unr_R [] nH_has k 400 0 _ _ _).trans rfl
-- X1_holds
theorem eH_holds (k : Nat) (p1 : Int32) (p2 : Int64) (p3 : Int32) (σ : Sto) : C nH_holds k [.ref 8, .int p1, .long p2, .int p3] σ =
  if (lg_cmp p2 0) < 0 then
    some (0, 0, σ)
  else
    if inb p1 4 = true then
      if 0 < (lg_cmp (p2 + (Int32.toInt64 p3)) (Int32.toInt64 (σ 11 p1.toNatClampNeg))) then
        some (0, 0, σ)
      else
        some (1, 0, σ)
    else
      none := (unr_R [] nH_holds k 400 0 _ _ _).trans rfl
-- X1_renew
theorem eH_renew (k : Nat) (p1 : Int32) (p2 : Int32) (p3 : Int32) (σ : Sto) : C nH_renew k [.ref 8, .int p1, .int p2, .int p3] σ =
  if inb p1 4 = true then
    if inb p1 4 = true then
      R nH_renew k 12 [.ref 8, .int p1, .int p2, .int p3, .int 0] [] (su (su σ 10 p1.toNatClampNeg p2) 11 p1.toNatClampNeg p3)
    else
      none
  else
    none := (unr_R [12] nH_renew k 400 0 _ _ _).trans rfl
theorem eH_renew_12 (k : Nat) (v1 : Int32) (v2 : Int32) (v3 : Int32) (v4 : Int32) (σ : Sto) : R nH_renew k 12 [.ref 8, .int v1, .int v2, .int v3, .int v4] [] σ =
  if v4 < v3 then
    if inb ((v1 * 40) + v4) 160 = true then
      R nH_renew k 12 [.ref 8, .int v1, .int v2, .int v3, .int (v4 + 1)] [] (su σ 9 ((v1 * 40) + v4).toNatClampNeg 0)
    else
      none
  else
    some (0, 0, σ) := (unr_R [12] nH_renew k 400 12 _ _ _).trans rfl
-- X1_read
theorem eH_read (k : Nat) (p1 : Int32) (p2 : Int32) (σ : Sto) : C nH_read k [.ref 8, .int p1, .int p2] σ =
  if inb ((p1 * 40) + p2) 160 = true then
    some ((σ 9 ((p1 * 40) + p2).toNatClampNeg), 0, σ)
  else
    none := (unr_R [] nH_read k 400 0 _ _ _).trans rfl
-- X1_write
theorem eH_write (k : Nat) (p1 : Int32) (p2 : Int32) (p3 : Int32) (σ : Sto) : C nH_write k [.ref 8, .int p1, .int p2, .int p3] σ =
  if inb p1 4 = true then
    if (σ 10 p1.toNatClampNeg) = 0 then
      if inb ((p1 * 40) + p2) 160 = true then
        some (0, 0, (su σ 9 ((p1 * 40) + p2).toNatClampNeg ((Int32.toInt8 p3).toInt32)))
      else
        none
    else
      if inb p1 4 = true then
        if (σ 10 p1.toNatClampNeg) = 1 then
          if inb ((p1 * 40) + p2) 160 = true then
            some (0, 0, (su σ 9 ((p1 * 40) + p2).toNatClampNeg ((Int32.toInt16 p3).toInt32)))
          else
            none
        else
          if inb ((p1 * 40) + p2) 160 = true then
            some (0, 0, (su σ 9 ((p1 * 40) + p2).toNatClampNeg p3))
          else
            none
      else
        none
  else
    none := (unr_R [] nH_write k 400 0 _ _ _).trans rfl
-- X1_carry
theorem eH_carry (k : Nat) (p1 : Int32) (p2 : Int32) (p3 : Int32) (p4 : Int32) (p5 : Int32) (σ : Sto) : C nH_carry k [.ref 8, .int p1, .int p2, .int p3, .int p4, .int p5] σ =
  if 0 ≤ (((p1 * 40) + p2)).toInt ∧ 0 ≤ (((p3 * 40) + p4)).toInt ∧ 0 ≤ (p5).toInt ∧ (((p1 * 40) + p2)).toInt + (p5).toInt ≤ ((160 : Nat) : Int) ∧ (((p3 * 40) + p4)).toInt + (p5).toInt ≤ ((160 : Nat) : Int) then
    some (0, 0, (cpy σ 9 9 ((p1 * 40) + p2) ((p3 * 40) + p4) p5))
  else
    none := (unr_R [] nH_carry k 400 0 _ _ _).trans rfl
-- X2_becomes
theorem eS_becomes (k : Nat) (c d : Nat) (hc : (c = 18 ∧ d = 12) ∨ (c = 24 ∧ d = 12) ∨ (c = 12 ∧ d = 24)) (σ : Sto) : C nS_becomes k [.ref c, .ref d] σ =
  R nS_becomes k 2 [.ref c, .ref d, .int 0] [] σ := by rcases hc with ⟨rfl, rfl⟩ | ⟨rfl, rfl⟩ | ⟨rfl, rfl⟩ <;> exact (unr_R [2] nS_becomes k 400 0 _ _ _).trans rfl
set_option maxRecDepth 1000000 in
theorem eS_becomes_2 (k : Nat) (c d : Nat) (hc : (c = 18 ∧ d = 12) ∨ (c = 24 ∧ d = 12) ∨ (c = 12 ∧ d = 24)) (v2 : Int32) (σ : Sto) : R nS_becomes k 2 [.ref c, .ref d, .int v2] [] σ =
  if v2 < (σ d 6) then
    if inb v2 6 = true then
      if inb v2 6 = true then
        if inb v2 6 = true then
          if inb v2 6 = true then
            if inb v2 6 = true then
              if inb v2 6 = true then
                if inb v2 6 = true then
                  if inb v2 6 = true ∧ zb ((su (su (su σ (c + 1) v2.toNatClampNeg (σ (d + 1) v2.toNatClampNeg)) (c + 2) v2.toNatClampNeg ((su σ (c + 1) v2.toNatClampNeg (σ (d + 1) v2.toNatClampNeg)) (d + 2) v2.toNatClampNeg)) (c + 3) v2.toNatClampNeg ((su (su σ (c + 1) v2.toNatClampNeg (σ (d + 1) v2.toNatClampNeg)) (c + 2) v2.toNatClampNeg ((su σ (c + 1) v2.toNatClampNeg (σ (d + 1) v2.toNatClampNeg)) (d + 2) v2.toNatClampNeg)) (d + 3) v2.toNatClampNeg)) (d + 4) v2.toNatClampNeg) = true then
                    if inb v2 6 = true then
                      if inb v2 6 = true then
                        R nS_becomes k 2 [.ref c, .ref d, .int (v2 + 1)] [] (su (su (su (su (su σ (c + 1) v2.toNatClampNeg (σ (d + 1) v2.toNatClampNeg)) (c + 2) v2.toNatClampNeg ((su σ (c + 1) v2.toNatClampNeg (σ (d + 1) v2.toNatClampNeg)) (d + 2) v2.toNatClampNeg)) (c + 3) v2.toNatClampNeg ((su (su σ (c + 1) v2.toNatClampNeg (σ (d + 1) v2.toNatClampNeg)) (c + 2) v2.toNatClampNeg ((su σ (c + 1) v2.toNatClampNeg (σ (d + 1) v2.toNatClampNeg)) (d + 2) v2.toNatClampNeg)) (d + 3) v2.toNatClampNeg)) (c + 4) v2.toNatClampNeg ((su (su (su σ (c + 1) v2.toNatClampNeg (σ (d + 1) v2.toNatClampNeg)) (c + 2) v2.toNatClampNeg ((su σ (c + 1) v2.toNatClampNeg (σ (d + 1) v2.toNatClampNeg)) (d + 2) v2.toNatClampNeg)) (c + 3) v2.toNatClampNeg ((su (su σ (c + 1) v2.toNatClampNeg (σ (d + 1) v2.toNatClampNeg)) (c + 2) v2.toNatClampNeg ((su σ (c + 1) v2.toNatClampNeg (σ (d + 1) v2.toNatClampNeg)) (d + 2) v2.toNatClampNeg)) (d + 3) v2.toNatClampNeg)) (d + 4) v2.toNatClampNeg)) (c + 5) v2.toNatClampNeg ((su (su (su (su σ (c + 1) v2.toNatClampNeg (σ (d + 1) v2.toNatClampNeg)) (c + 2) v2.toNatClampNeg ((su σ (c + 1) v2.toNatClampNeg (σ (d + 1) v2.toNatClampNeg)) (d + 2) v2.toNatClampNeg)) (c + 3) v2.toNatClampNeg ((su (su σ (c + 1) v2.toNatClampNeg (σ (d + 1) v2.toNatClampNeg)) (c + 2) v2.toNatClampNeg ((su σ (c + 1) v2.toNatClampNeg (σ (d + 1) v2.toNatClampNeg)) (d + 2) v2.toNatClampNeg)) (d + 3) v2.toNatClampNeg)) (c + 4) v2.toNatClampNeg ((su (su (su σ (c + 1) v2.toNatClampNeg (σ (d + 1) v2.toNatClampNeg)) (c + 2) v2.toNatClampNeg ((su σ (c + 1) v2.toNatClampNeg (σ (d + 1) v2.toNatClampNeg)) (d + 2) v2.toNatClampNeg)) (c + 3) v2.toNatClampNeg ((su (su σ (c + 1) v2.toNatClampNeg (σ (d + 1) v2.toNatClampNeg)) (c + 2) v2.toNatClampNeg ((su σ (c + 1) v2.toNatClampNeg (σ (d + 1) v2.toNatClampNeg)) (d + 2) v2.toNatClampNeg)) (d + 3) v2.toNatClampNeg)) (d + 4) v2.toNatClampNeg)) (d + 5) v2.toNatClampNeg))
                      else
                        none
                    else
                      none
                  else
                    none
                else
                  none
              else
                none
            else
              none
          else
            none
        else
          none
      else
        none
    else
      none
  else
    some (0, 0, (su (su (su (su (su (su σ c 6 (σ d 6)) c 7 ((su σ c 6 (σ d 6)) d 7)) c 8 ((su (su σ c 6 (σ d 6)) c 7 ((su σ c 6 (σ d 6)) d 7)) d 8)) c 9 ((su (su (su σ c 6 (σ d 6)) c 7 ((su σ c 6 (σ d 6)) d 7)) c 8 ((su (su σ c 6 (σ d 6)) c 7 ((su σ c 6 (σ d 6)) d 7)) d 8)) d 9)) c 10 ((su (su (su (su σ c 6 (σ d 6)) c 7 ((su σ c 6 (σ d 6)) d 7)) c 8 ((su (su σ c 6 (σ d 6)) c 7 ((su σ c 6 (σ d 6)) d 7)) d 8)) c 9 ((su (su (su σ c 6 (σ d 6)) c 7 ((su σ c 6 (σ d 6)) d 7)) c 8 ((su (su σ c 6 (σ d 6)) c 7 ((su σ c 6 (σ d 6)) d 7)) d 8)) d 9)) d 10)) c 11 ((su (su (su (su (su σ c 6 (σ d 6)) c 7 ((su σ c 6 (σ d 6)) d 7)) c 8 ((su (su σ c 6 (σ d 6)) c 7 ((su σ c 6 (σ d 6)) d 7)) d 8)) c 9 ((su (su (su σ c 6 (σ d 6)) c 7 ((su σ c 6 (σ d 6)) d 7)) c 8 ((su (su σ c 6 (σ d 6)) c 7 ((su σ c 6 (σ d 6)) d 7)) d 8)) d 9)) c 10 ((su (su (su (su σ c 6 (σ d 6)) c 7 ((su σ c 6 (σ d 6)) d 7)) c 8 ((su (su σ c 6 (σ d 6)) c 7 ((su σ c 6 (σ d 6)) d 7)) d 8)) c 9 ((su (su (su σ c 6 (σ d 6)) c 7 ((su σ c 6 (σ d 6)) d 7)) c 8 ((su (su σ c 6 (σ d 6)) c 7 ((su σ c 6 (σ d 6)) d 7)) d 8)) d 9)) d 10)) d 11))) := by rcases hc with ⟨rfl, rfl⟩ | ⟨rfl, rfl⟩ | ⟨rfl, rfl⟩ <;> exact (unr_R [2] nS_becomes k 400 2 _ _ _).trans rfl
-- X2_has
theorem eS_has (k : Nat)  (c : Nat) (hc : c = 12 ∨ c = 18 ∨ c = 24) (p1 : Int64) (σ : Sto) : C nS_has k [.ref c, .long p1] σ =
  if (lg_cmp p1 0) < 0 then
    some (0, 0, σ)
  else
    if (lg_cmp p1 (Int32.toInt64 (σ c 6))) < 0 then
      some (1, 0, σ)
    else
      some (0, 0, σ) := by rcases hc with rfl | rfl | rfl <;> exact (unr_R [] nS_has k 400 0 _ _ _).trans rfl
-- X2_welcome
theorem eS_welcome (k : Nat)  (c : Nat) (hc : c = 12 ∨ c = 18 ∨ c = 24) (p1 : Int32) (p2 : Int32) (σ : Sto) : C nS_welcome k [.ref c, .int p1, .int p2] σ =
  (C nF_within k [.int p1, .int 0, .int 59] σ).bind fun r1 =>
    if r1.1 = 0 then
      some ((-2), 0, r1.2.2)
    else
      (C nF_within k [.int p2, .int 0, .int 63] r1.2.2).bind fun r2 =>
        if r2.1 = 0 then
          some ((-2), 0, r2.2.2)
        else
          if (r2.2.2 c 6) < 6 then
            if inb (r2.2.2 c 6) 6 = true then
              if inb (r2.2.2 c 6) 6 = true then
                if inb (r2.2.2 c 6) 6 = true then
                  if inb (r2.2.2 c 6) 6 = true ∧ zb 0 = true then
                    if inb (r2.2.2 c 6) 6 = true then
                      some ((r2.2.2 c 6), 0, (su (su (su (su (su (su r2.2.2 (c + 1) (r2.2.2 c 6).toNatClampNeg (p1 / 10)) (c + 2) (r2.2.2 c 6).toNatClampNeg (p1 - p1 / 10 * 10)) (c + 3) (r2.2.2 c 6).toNatClampNeg p2) (c + 4) (r2.2.2 c 6).toNatClampNeg 0) (c + 5) (r2.2.2 c 6).toNatClampNeg 0) c 6 (((su (su (su (su (su r2.2.2 (c + 1) (r2.2.2 c 6).toNatClampNeg (p1 / 10)) (c + 2) (r2.2.2 c 6).toNatClampNeg (p1 - p1 / 10 * 10)) (c + 3) (r2.2.2 c 6).toNatClampNeg p2) (c + 4) (r2.2.2 c 6).toNatClampNeg 0) (c + 5) (r2.2.2 c 6).toNatClampNeg 0) c 6) + 1)))
                    else
                      none
                  else
                    none
                else
                  none
              else
                none
            else
              none
          else
            some ((-4), 0, r2.2.2) := by rcases hc with rfl | rfl | rfl <;> exact (unr_R [] nS_welcome k 400 0 _ _ _).trans rfl
-- X2_isSeen
theorem eS_isSeen (k : Nat)  (c : Nat) (hc : c = 12 ∨ c = 18 ∨ c = 24) (p1 : Int32) (σ : Sto) : C nS_isSeen k [.ref c, .int p1] σ =
  if inb p1 6 = true then
    if (σ (c + 3) p1.toNatClampNeg) = (-1) then
      some (0, 0, σ)
    else
      if inb p1 6 = true then
        if (σ (c + 4) p1.toNatClampNeg) = 0 then
          some (1, 0, σ)
        else
          some (0, 0, σ)
      else
        none
  else
    none := by rcases hc with rfl | rfl | rfl <;> exact (unr_R [] nS_isSeen k 400 0 _ _ _).trans rfl
-- X2_isOver
theorem eS_isOver (k : Nat)  (c : Nat) (hc : c = 12 ∨ c = 18 ∨ c = 24) (p1 : Int32) (σ : Sto) : C nS_isOver k [.ref c, .int p1] σ =
  if inb p1 6 = true then
    if (σ (c + 3) p1.toNatClampNeg) = (-1) then
      if (σ c 9) = p1 then
        some (0, 0, σ)
      else
        some (1, 0, σ)
    else
      some (0, 0, σ)
  else
    none := by rcases hc with rfl | rfl | rfl <;> exact (unr_R [] nS_isOver k 400 0 _ _ _).trans rfl
-- X2_isAlone
theorem eS_isAlone (k : Nat)  (c : Nat) (hc : c = 12 ∨ c = 18 ∨ c = 24) (p1 : Int32) (σ : Sto) : C nS_isAlone k [.ref c, .int p1] σ =
  (C nS_isSeen k [.ref c, .int p1] σ).bind fun r1 =>
    if r1.1 = 0 then
      some (0, 0, r1.2.2)
    else
      (C nS_gapAbout k [.ref c, .int p1] r1.2.2).bind fun r2 =>
        R nS_isAlone k 12 [.ref c, .int p1, .int r2.1, .int 0] [] r2.2.2 := by rcases hc with rfl | rfl | rfl <;> exact (unr_R [12] nS_isAlone k 400 0 _ _ _).trans rfl
theorem eS_isAlone_12 (k : Nat)  (c : Nat) (hc : c = 12 ∨ c = 18 ∨ c = 24) (v1 : Int32) (v2 : Int32) (v3 : Int32) (σ : Sto) : R nS_isAlone k 12 [.ref c, .int v1, .int v2, .int v3] [] σ =
  if v3 < (σ c 6) then
    if v3 = v1 then
      R nS_isAlone k 12 [.ref c, .int v1, .int v2, .int (v3 + 1)] [] σ
    else
      (C nS_isSeen k [.ref c, .int v3] σ).bind fun r1 =>
        if r1.1 = 0 then
          R nS_isAlone k 12 [.ref c, .int v1, .int v2, .int (v3 + 1)] [] r1.2.2
        else
          if inb v3 6 = true then
            if inb v1 6 = true then
              if (absI ((r1.2.2 (c + 3) v3.toNatClampNeg) - (r1.2.2 (c + 3) v1.toNatClampNeg))) < v2 then
                some (0, 0, r1.2.2)
              else
                R nS_isAlone k 12 [.ref c, .int v1, .int v2, .int (v3 + 1)] [] r1.2.2
            else
              none
          else
            none
  else
    some (1, 0, σ) := by rcases hc with rfl | rfl | rfl <;> exact (unr_R [12] nS_isAlone k 400 12 _ _ _).trans rfl
-- X2_farFrom
theorem eS_farFrom (k : Nat)  (c : Nat) (hc : c = 12 ∨ c = 18 ∨ c = 24) (p1 : Int32) (σ : Sto) : C nS_farFrom k [.ref c, .int p1] σ =
  R nS_farFrom k 4 [.ref c, .int p1, .int (-1), .int 0, .null] [] σ := by rcases hc with rfl | rfl | rfl <;> exact (unr_R [4] nS_farFrom k 400 0 _ _ _).trans rfl
theorem eS_farFrom_4 (k : Nat)  (c : Nat) (hc : c = 12 ∨ c = 18 ∨ c = 24) (v1 : Int32) (v2 : Int32) (v3 : Int32) (u4 : Value) (σ : Sto) : R nS_farFrom k 4 [.ref c, .int v1, .int v2, .int v3, u4] [] σ =
  if v3 < (σ c 6) then
    if v3 = v1 then
      R nS_farFrom k 4 [.ref c, .int v1, .int v2, .int (v3 + 1), u4] [] σ
    else
      (C nS_isSeen k [.ref c, .int v3] σ).bind fun r1 =>
        if r1.1 = 0 then
          R nS_farFrom k 4 [.ref c, .int v1, .int v2, .int (v3 + 1), u4] [] r1.2.2
        else
          if inb v1 6 = true then
            if (r1.2.2 (c + 3) v1.toNatClampNeg) = (-1) then
              R nS_farFrom k 4 [.ref c, .int v1, .int v2, .int (v3 + 1), u4] [] r1.2.2
            else
              if inb v3 6 = true then
                if inb v1 6 = true then
                  if v2 = (-1) then
                    R nS_farFrom k 4 [.ref c, .int v1, .int (absI ((r1.2.2 (c + 3) v3.toNatClampNeg) - (r1.2.2 (c + 3) v1.toNatClampNeg))), .int (v3 + 1), .int (absI ((r1.2.2 (c + 3) v3.toNatClampNeg) - (r1.2.2 (c + 3) v1.toNatClampNeg)))] [] r1.2.2
                  else
                    R nS_farFrom k 4 [.ref c, .int v1, .int (minI v2 (absI ((r1.2.2 (c + 3) v3.toNatClampNeg) - (r1.2.2 (c + 3) v1.toNatClampNeg)))), .int (v3 + 1), .int (absI ((r1.2.2 (c + 3) v3.toNatClampNeg) - (r1.2.2 (c + 3) v1.toNatClampNeg)))] [] r1.2.2
                else
                  none
              else
                none
          else
            none
  else
    some (v2, 0, σ) := by rcases hc with rfl | rfl | rfl <;> exact (unr_R [4] nS_farFrom k 400 4 _ _ _).trans rfl
-- X2_areNeighbours
set_option maxRecDepth 1000000 in
theorem eS_areNeighbours (k : Nat)  (c : Nat) (hc : c = 12 ∨ c = 18 ∨ c = 24) (p1 : Int32) (p2 : Int32) (σ : Sto) : C nS_areNeighbours k [.ref c, .int p1, .int p2] σ =
  if inb p1 6 = true then
    if inb p2 6 = true then
      if (σ (c + 3) p1.toNatClampNeg) < (σ (c + 3) p2.toNatClampNeg) then
        (C nS_isSeen k [.ref c, .int p1] σ).bind fun r1 =>
          if r1.1 = 0 then
            some (0, 0, r1.2.2)
          else
            (C nS_isSeen k [.ref c, .int p2] r1.2.2).bind fun r2 =>
              if r2.1 = 0 then
                some (0, 0, r2.2.2)
              else
                R nS_areNeighbours k 39 [.ref c, .int p1, .int p2, .int 1, .int 0] [] r2.2.2
      else
        if inb p1 6 = true then
          if inb p2 6 = true then
            if (σ (c + 3) p1.toNatClampNeg) = (σ (c + 3) p2.toNatClampNeg) then
              if p1 < p2 then
                (C nS_isSeen k [.ref c, .int p1] σ).bind fun r1 =>
                  if r1.1 = 0 then
                    some (0, 0, r1.2.2)
                  else
                    (C nS_isSeen k [.ref c, .int p2] r1.2.2).bind fun r2 =>
                      if r2.1 = 0 then
                        some (0, 0, r2.2.2)
                      else
                        R nS_areNeighbours k 39 [.ref c, .int p1, .int p2, .int 1, .int 0] [] r2.2.2
              else
                some (0, 0, σ)
            else
              some (0, 0, σ)
          else
            none
        else
          none
    else
      none
  else
    none := by rcases hc with rfl | rfl | rfl <;> exact (unr_R [39] nS_areNeighbours k 400 0 _ _ _).trans rfl
theorem eS_areNeighbours_39 (k : Nat)  (c : Nat) (hc : c = 12 ∨ c = 18 ∨ c = 24) (v1 : Int32) (v2 : Int32) (v3 : Int32) (v4 : Int32) (σ : Sto) : R nS_areNeighbours k 39 [.ref c, .int v1, .int v2, .int v3, .int v4] [] σ =
  if v4 < (σ c 6) then
    (C nS_isSeen k [.ref c, .int v4] σ).bind fun r1 =>
      if r1.1 = 0 then
        R nS_areNeighbours k 39 [.ref c, .int v1, .int v2, .int v3, .int (v4 + 1)] [] r1.2.2
      else
        if inb v4 6 = true then
          if inb v1 6 = true then
            if (r1.2.2 (c + 3) v1.toNatClampNeg) < (r1.2.2 (c + 3) v4.toNatClampNeg) then
              if inb v4 6 = true then
                if inb v2 6 = true then
                  if (r1.2.2 (c + 3) v4.toNatClampNeg) < (r1.2.2 (c + 3) v2.toNatClampNeg) then
                    some (0, 0, r1.2.2)
                  else
                    R nS_areNeighbours k 39 [.ref c, .int v1, .int v2, .int v3, .int (v4 + 1)] [] r1.2.2
                else
                  none
              else
                none
            else
              R nS_areNeighbours k 39 [.ref c, .int v1, .int v2, .int v3, .int (v4 + 1)] [] r1.2.2
          else
            none
        else
          none
  else
    some (1, 0, σ) := by rcases hc with rfl | rfl | rfl <;> exact (unr_R [39] nS_areNeighbours k 400 39 _ _ _).trans rfl
-- X2_gapAbout
theorem eS_gapAbout (k : Nat)  (c : Nat) (hc : c = 12 ∨ c = 18 ∨ c = 24) (p1 : Int32) (σ : Sto) : C nS_gapAbout k [.ref c, .int p1] σ =
  if inb p1 6 = true then
    if (σ (c + 1) p1.toNatClampNeg) = 1 then
      (C nT_says k [.ref 2, .int 0, .ref c, .int p1] σ).bind fun r1 =>
        some ((r1.1 / 2), 0, r1.2.2)
    else
      if (σ (c + 1) p1.toNatClampNeg) = 2 then
        (C nT_says k [.ref 2, .int 0, .ref c, .int p1] σ).bind fun r1 =>
          if inb p1 6 = true then
            some ((r1.1 + (r1.2.2 (c + 2) p1.toNatClampNeg)), 0, r1.2.2)
          else
            none
      else
        if (σ (c + 1) p1.toNatClampNeg) = 3 then
          (C nT_says k [.ref 2, .int 0, .ref c, .int p1] σ).bind fun r1 =>
            some ((r1.1 / 2), 0, r1.2.2)
        else
          if (σ (c + 1) p1.toNatClampNeg) = 4 then
            (C nT_says k [.ref 2, .int 0, .ref c, .int p1] σ).bind fun r1 =>
              if inb p1 6 = true then
                some ((r1.1 + (r1.2.2 (c + 2) p1.toNatClampNeg)), 0, r1.2.2)
              else
                none
          else
            if (σ (c + 1) p1.toNatClampNeg) = 5 then
              some (0, 0, σ)
            else
              (C nT_says k [.ref 2, .int 0, .ref c, .int p1] σ).bind fun r1 =>
                some (r1.1, 0, r1.2.2)
  else
    none := by rcases hc with rfl | rfl | rfl <;> exact (unr_R [] nS_gapAbout k 400 0 _ _ _).trans rfl
-- X2_likedHow
set_option maxRecDepth 1000000 in
theorem eS_likedHow (k : Nat)  (c : Nat) (hc : c = 12 ∨ c = 18 ∨ c = 24) (p1 : Int32) (σ : Sto) : C nS_likedHow k [.ref c, .int p1] σ =
  if inb p1 6 = true then
    if (σ (c + 1) p1.toNatClampNeg) = 1 then
      (C nT_says k [.ref 2, .int 1, .ref c, .int p1] σ).bind fun r1 =>
        if inb p1 6 = true then
          some ((r1.1 - (r1.2.2 (c + 2) p1.toNatClampNeg)), 0, r1.2.2)
        else
          none
    else
      if (σ (c + 1) p1.toNatClampNeg) = 2 then
        (C nT_says k [.ref 2, .int 1, .ref c, .int p1] σ).bind fun r1 =>
          some (r1.1, 0, r1.2.2)
      else
        if (σ (c + 1) p1.toNatClampNeg) = 3 then
          if ((σ c 7) - (σ c 7) / 4 * 4) = 0 then
            some (99, 0, σ)
          else
            (C nT_says k [.ref 2, .int 1, .ref c, .int p1] σ).bind fun r1 =>
              if inb p1 6 = true then
                some ((r1.1 - (r1.2.2 (c + 2) p1.toNatClampNeg)), 0, r1.2.2)
              else
                none
        else
          if (σ (c + 1) p1.toNatClampNeg) = 4 then
            (C nT_says k [.ref 2, .int 1, .ref c, .int p1] σ).bind fun r1 =>
              some ((-r1.1), 0, r1.2.2)
          else
            if (σ (c + 1) p1.toNatClampNeg) = 5 then
              if inb p1 6 = true then
                some ((10 * (σ (c + 2) p1.toNatClampNeg)), 0, σ)
              else
                none
            else
              (C nT_says k [.ref 2, .int 1, .ref c, .int p1] σ).bind fun r1 =>
                some (r1.1, 0, r1.2.2)
  else
    none := by rcases hc with rfl | rfl | rfl <;> exact (unr_R [] nS_likedHow k 400 0 _ _ _).trans rfl
-- X2_walksFar
set_option maxRecDepth 1000000 in
theorem eS_walksFar (k : Nat)  (c : Nat) (hc : c = 12 ∨ c = 18 ∨ c = 24) (p1 : Int32) (σ : Sto) : C nS_walksFar k [.ref c, .int p1] σ =
  if inb p1 6 = true then
    if (σ (c + 1) p1.toNatClampNeg) = 2 then
      (C nT_says k [.ref 2, .int 2, .ref c, .int p1] σ).bind fun r1 =>
        (C nS_isAlone k [.ref c, .int p1] r1.2.2).bind fun r2 =>
          if r2.1 = 0 then
            some ((r1.1 + 0), 0, r2.2.2)
          else
            some ((r1.1 + 1), 0, r2.2.2)
    else
      if (σ (c + 1) p1.toNatClampNeg) = 3 then
        (C nS_isAlone k [.ref c, .int p1] σ).bind fun r1 =>
          if r1.1 = 0 then
            (C nT_says k [.ref 2, .int 2, .ref c, .int p1] r1.2.2).bind fun r2 =>
              some (((-1) - r2.1), 0, r2.2.2)
          else
            some (0, 0, r1.2.2)
      else
        if (σ (c + 1) p1.toNatClampNeg) = 4 then
          if ((σ c 7) - (σ c 7) / 2 * 2) = 0 then
            if inb p1 6 = true then
              some ((σ (c + 2) p1.toNatClampNeg), 0, σ)
            else
              none
          else
            if inb p1 6 = true then
              some ((-(σ (c + 2) p1.toNatClampNeg)), 0, σ)
            else
              none
        else
          (C nT_says k [.ref 2, .int 2, .ref c, .int p1] σ).bind fun r1 =>
            some (r1.1, 0, r1.2.2)
  else
    none := by rcases hc with rfl | rfl | rfl <;> exact (unr_R [] nS_walksFar k 400 0 _ _ _).trans rfl
-- X2_choice
theorem eS_choice (k : Nat)  (c : Nat) (hc : c = 12 ∨ c = 18 ∨ c = 24) (σ : Sto) : C nS_choice k [.ref c] σ =
  R nS_choice k 6 [.ref c, .int (-1), .int 0, .int 0, .null] [] σ := by rcases hc with rfl | rfl | rfl <;> exact (unr_R [6] nS_choice k 400 0 _ _ _).trans rfl
theorem eS_choice_6 (k : Nat)  (c : Nat) (hc : c = 12 ∨ c = 18 ∨ c = 24) (v1 : Int32) (v2 : Int32) (v3 : Int32) (u4 : Value) (σ : Sto) : R nS_choice k 6 [.ref c, .int v1, .int v2, .int v3, u4] [] σ =
  if v3 < (σ c 6) then
    (C nS_isAlone k [.ref c, .int v3] σ).bind fun r1 =>
      if r1.1 = 0 then
        R nS_choice k 6 [.ref c, .int v1, .int v2, .int (v3 + 1), u4] [] r1.2.2
      else
        (C nS_likedHow k [.ref c, .int v3] r1.2.2).bind fun r2 =>
          if v1 = (-1) then
            R nS_choice k 6 [.ref c, .int v3, .int r2.1, .int (v3 + 1), .int r2.1] [] r2.2.2
          else
            if v2 < r2.1 then
              R nS_choice k 6 [.ref c, .int v3, .int r2.1, .int (v3 + 1), .int r2.1] [] r2.2.2
            else
              R nS_choice k 6 [.ref c, .int v1, .int v2, .int (v3 + 1), .int r2.1] [] r2.2.2
  else
    some (v1, 0, σ) := by rcases hc with rfl | rfl | rfl <;> exact (unr_R [6] nS_choice k 400 6 _ _ _).trans rfl
-- X2_goOn
theorem eS_goOn (k : Nat)  (c : Nat) (hc : c = 12 ∨ c = 18 ∨ c = 24) (p1 : Int32) (p2 : Int32) (σ : Sto) : C nS_goOn k [.ref c, .int p1, .int p2] σ =
  if inb p1 6 = true then
    if inb p1 6 = true then
      some (0, 0, (su σ (c + 3) p1.toNatClampNeg (maxI 0 (minI 63 ((σ (c + 3) p1.toNatClampNeg) + p2)))))
    else
      none
  else
    none := by rcases hc with rfl | rfl | rfl <;> exact (unr_R [] nS_goOn k 400 0 _ _ _).trans rfl
-- X2_passHour
theorem eS_passHour (k : Nat)  (c : Nat) (hc : c = 12 ∨ c = 18 ∨ c = 24) (σ : Sto) : C nS_passHour k [.ref c] σ =
  if 0 < (σ c 8) then
    if ((su σ c 8 ((σ c 8) - 1)) c 8) = 0 then
      R nS_passHour k 26 [.ref c, .int (-1), .int 0] [] (su (su σ c 8 ((σ c 8) - 1)) c 9 (-1))
    else
      R nS_passHour k 26 [.ref c, .int (-1), .int 0] [] (su σ c 8 ((σ c 8) - 1))
  else
    (C nS_choice k [.ref c] σ).bind fun r1 =>
      (C nS_fetch k [.ref c, .int r1.1] r1.2.2).bind fun r2 =>
        R nS_passHour k 26 [.ref c, .int r1.1, .int 0] [] r2.2.2 := by rcases hc with rfl | rfl | rfl <;> exact (unr_R [26] nS_passHour k 400 0 _ _ _).trans rfl
theorem eS_passHour_26 (k : Nat)  (c : Nat) (hc : c = 12 ∨ c = 18 ∨ c = 24) (v1 : Int32) (v2 : Int32) (σ : Sto) : R nS_passHour k 26 [.ref c, .int v1, .int v2] [] σ =
  if v2 < (σ c 6) then
    if inb v2 6 = true then
      if (σ (c + 3) v2.toNatClampNeg) = (-1) then
        R nS_passHour k 26 [.ref c, .int v1, .int (v2 + 1)] [] σ
      else
        (C nS_walksFar k [.ref c, .int v2] σ).bind fun r1 =>
          (C nS_goOn k [.ref c, .int v2, .int r1.1] r1.2.2).bind fun r2 =>
            if inb v2 6 = true then
              if inb v2 6 = true then
                R nS_passHour k 26 [.ref c, .int v1, .int (v2 + 1)] [] (su r2.2.2 (c + 5) v2.toNatClampNeg (minI 99 ((r2.2.2 (c + 5) v2.toNatClampNeg) + 1)))
              else
                none
            else
              none
    else
      none
  else
    some (v1, 0, (su σ c 7 ((σ c 7) + 1))) := by rcases hc with rfl | rfl | rfl <;> exact (unr_R [26] nS_passHour k 400 26 _ _ _).trans rfl
-- X2_fetch
theorem eS_fetch (k : Nat)  (c : Nat) (hc : c = 12 ∨ c = 18 ∨ c = 24) (p1 : Int32) (σ : Sto) : C nS_fetch k [.ref c, .int p1] σ =
  if p1 = (-1) then
    some (0, 0, σ)
  else
    if inb p1 6 = true then
      if inb p1 6 = true then
        some (0, 0, (su (su (su (su σ c 8 (1 + ((absI ((2 * (σ (c + 3) p1.toNatClampNeg)) - 63)) / 20))) (c + 3) p1.toNatClampNeg (-1)) c 9 p1) c 10 (minI 9999 (((su (su (su σ c 8 (1 + ((absI ((2 * (σ (c + 3) p1.toNatClampNeg)) - 63)) / 20))) (c + 3) p1.toNatClampNeg (-1)) c 9 p1) c 10) + 1))))
      else
        none
    else
      none := by rcases hc with rfl | rfl | rfl <;> exact (unr_R [] nS_fetch k 400 0 _ _ _).trans rfl
-- X2_aloneBits
theorem eS_aloneBits (k : Nat)  (c : Nat) (hc : c = 12 ∨ c = 18 ∨ c = 24) (σ : Sto) : C nS_aloneBits k [.ref c] σ =
  R nS_aloneBits k 4 [.ref c, .int 0, .int 0] [] σ := by rcases hc with rfl | rfl | rfl <;> exact (unr_R [4] nS_aloneBits k 400 0 _ _ _).trans rfl
theorem eS_aloneBits_4 (k : Nat)  (c : Nat) (hc : c = 12 ∨ c = 18 ∨ c = 24) (v1 : Int32) (v2 : Int32) (σ : Sto) : R nS_aloneBits k 4 [.ref c, .int v1, .int v2] [] σ =
  if v2 < (σ c 6) then
    (C nS_isAlone k [.ref c, .int v2] σ).bind fun r1 =>
      if r1.1 = 0 then
        R nS_aloneBits k 4 [.ref c, .int v1, .int (v2 + 1)] [] r1.2.2
      else
        R nS_aloneBits k 4 [.ref c, .int (v1 ||| (1 <<< (v2 &&& 31))), .int (v2 + 1)] [] r1.2.2
  else
    some (v1, 0, σ) := by rcases hc with rfl | rfl | rfl <;> exact (unr_R [4] nS_aloneBits k 400 4 _ _ _).trans rfl
-- X2_seenBits
theorem eS_seenBits (k : Nat)  (c : Nat) (hc : c = 12 ∨ c = 18 ∨ c = 24) (σ : Sto) : C nS_seenBits k [.ref c] σ =
  R nS_seenBits k 4 [.ref c, .int 0, .int 0] [] σ := by rcases hc with rfl | rfl | rfl <;> exact (unr_R [4] nS_seenBits k 400 0 _ _ _).trans rfl
theorem eS_seenBits_4 (k : Nat)  (c : Nat) (hc : c = 12 ∨ c = 18 ∨ c = 24) (v1 : Int32) (v2 : Int32) (σ : Sto) : R nS_seenBits k 4 [.ref c, .int v1, .int v2] [] σ =
  if v2 < (σ c 6) then
    (C nS_isSeen k [.ref c, .int v2] σ).bind fun r1 =>
      if r1.1 = 0 then
        R nS_seenBits k 4 [.ref c, .int v1, .int (v2 + 1)] [] r1.2.2
      else
        R nS_seenBits k 4 [.ref c, .int (v1 ||| (1 <<< (v2 &&& 31))), .int (v2 + 1)] [] r1.2.2
  else
    some (v1, 0, σ) := by rcases hc with rfl | rfl | rfl <;> exact (unr_R [4] nS_seenBits k 400 4 _ _ _).trans rfl
-- X2_overBits
theorem eS_overBits (k : Nat)  (c : Nat) (hc : c = 12 ∨ c = 18 ∨ c = 24) (σ : Sto) : C nS_overBits k [.ref c] σ =
  R nS_overBits k 4 [.ref c, .int 0, .int 0] [] σ := by rcases hc with rfl | rfl | rfl <;> exact (unr_R [4] nS_overBits k 400 0 _ _ _).trans rfl
theorem eS_overBits_4 (k : Nat)  (c : Nat) (hc : c = 12 ∨ c = 18 ∨ c = 24) (v1 : Int32) (v2 : Int32) (σ : Sto) : R nS_overBits k 4 [.ref c, .int v1, .int v2] [] σ =
  if v2 < (σ c 6) then
    (C nS_isOver k [.ref c, .int v2] σ).bind fun r1 =>
      if r1.1 = 0 then
        R nS_overBits k 4 [.ref c, .int v1, .int (v2 + 1)] [] r1.2.2
      else
        R nS_overBits k 4 [.ref c, .int (v1 ||| (1 <<< (v2 &&& 31))), .int (v2 + 1)] [] r1.2.2
  else
    some (v1, 0, σ) := by rcases hc with rfl | rfl | rfl <;> exact (unr_R [4] nS_overBits k 400 4 _ _ _).trans rfl
-- X2_valueOf
set_option maxRecDepth 1000000 in
theorem eS_valueOf (k : Nat)  (c : Nat) (hc : c = 12 ∨ c = 18 ∨ c = 24) (p1 : Int32) (p2 : Int32) (σ : Sto) : C nS_valueOf k [.ref c, .int p1, .int p2] σ =
  if p1 = (-6) then
    if inb p2 6 = true then
      some ((σ (c + 2) p2.toNatClampNeg), 0, σ)
    else
      none
  else
    if p1 = (-5) then
      some ((σ c 10), 0, σ)
    else
      if p1 = (-4) then
        R nS_valueOf k 35 [.ref c, .int p1, .int p2, .int 0, .int 0] [] σ
      else
        if p1 = (-3) then
          some ((σ c 7), 0, σ)
        else
          if p1 = (-2) then
            if inb p2 6 = true then
              some ((σ (c + 5) p2.toNatClampNeg), 0, σ)
            else
              none
          else
            if p1 = (-1) then
              if inb p2 6 = true then
                if (σ (c + 3) p2.toNatClampNeg) = (-1) then
                  some (0, 0, σ)
                else
                  if inb p2 6 = true then
                    some ((σ (c + 3) p2.toNatClampNeg), 0, σ)
                  else
                    none
              else
                none
            else
              R nS_valueOf k 35 [.ref c, .int p1, .int p2, .int 0, .int 0] [] σ := by rcases hc with rfl | rfl | rfl <;> exact (unr_R [35] nS_valueOf k 400 0 _ _ _).trans rfl
theorem eS_valueOf_35 (k : Nat)  (c : Nat) (hc : c = 12 ∨ c = 18 ∨ c = 24) (v1 : Int32) (v2 : Int32) (v3 : Int32) (v4 : Int32) (σ : Sto) : R nS_valueOf k 35 [.ref c, .int v1, .int v2, .int v3, .int v4] [] σ =
  if v4 < (σ c 6) then
    if inb v4 6 = true then
      if (σ (c + 3) v4.toNatClampNeg) = (-1) then
        R nS_valueOf k 35 [.ref c, .int v1, .int v2, .int v3, .int (v4 + 1)] [] σ
      else
        if inb v4 6 = true then
          if (σ (c + 4) v4.toNatClampNeg) = 0 then
            R nS_valueOf k 35 [.ref c, .int v1, .int v2, .int (v3 + 1), .int (v4 + 1)] [] σ
          else
            R nS_valueOf k 35 [.ref c, .int v1, .int v2, .int v3, .int (v4 + 1)] [] σ
        else
          none
    else
      none
  else
    some (v3, 0, σ) := by rcases hc with rfl | rfl | rfl <;> exact (unr_R [35] nS_valueOf k 400 35 _ _ _).trans rfl
-- X3_addFirstLaw
theorem eT_addFirstLaw (k : Nat) (σ : Sto) : C nT_addFirstLaw k [.ref 2] σ =
  R nT_addFirstLaw k 17 [.ref 2, .int 0] [] (su (su (su σ 3 (0 : Int32).toNatClampNeg 5) 3 (1 : Int32).toNatClampNeg (-2)) 3 (2 : Int32).toNatClampNeg 0) := (unr_R [17] nT_addFirstLaw k 400 0 _ _ _).trans rfl
theorem eT_addFirstLaw_17 (k : Nat) (v1 : Int32) (σ : Sto) : R nT_addFirstLaw k 17 [.ref 2, .int v1] [] σ =
  if v1 < 3 then
    if inb v1 18 = true then
      if inb v1 18 = true then
        R nT_addFirstLaw k 17 [.ref 2, .int (v1 + 1)] [] (su (su σ 4 v1.toNatClampNeg v1) 5 v1.toNatClampNeg (v1 + 1))
      else
        none
    else
      none
  else
    some (0, 0, (su σ 2 4 1)) := (unr_R [17] nT_addFirstLaw k 400 17 _ _ _).trans rfl
-- X3_says
theorem eT_says (k : Nat)  (c : Nat) (hc : c = 12 ∨ c = 18 ∨ c = 24) (p1 : Int32) (p3 : Int32) (σ : Sto) : C nT_says k [.ref 2, .int p1, .ref c, .int p3] σ =
  if inb (((σ c 11) * 3) + p1) 18 = true then
    R nT_says k 14 [.ref 2, .int p1, .ref c, .int p3, .int (((σ c 11) * 3) + p1), .int (-1), .int (σ 4 (((σ c 11) * 3) + p1).toNatClampNeg), .null] [] σ
  else
    none := by rcases hc with rfl | rfl | rfl <;> exact (unr_R [14, 20, 28, 47, 77, 99] nT_says k 400 0 _ _ _).trans rfl
theorem eT_says_14 (k : Nat)  (c : Nat) (hc : c = 12 ∨ c = 18 ∨ c = 24) (v1 : Int32) (v3 : Int32) (v4 : Int32) (v5 : Int32) (v6 : Int32) (u7 : Value) (σ : Sto) : R nT_says k 14 [.ref 2, .int v1, .ref c, .int v3, .int v4, .int v5, .int v6, u7] [] σ =
  if inb v4 18 = true then
    if v6 < (σ 5 v4.toNatClampNeg) then
      R nT_says k 20 [.ref 2, .int v1, .ref c, .int v3, .int v4, .int v5, .int v6, u7] [] σ
    else
      R nT_says k 99 [.ref 2, .int v1, .ref c, .int v3, .int v4, .int v5, .int v6, u7] [] σ
  else
    none := by rcases hc with rfl | rfl | rfl <;> exact (unr_R [14, 20, 28, 47, 77, 99] nT_says k 400 14 _ _ _).trans rfl
theorem eT_says_20 (k : Nat)  (c : Nat) (hc : c = 12 ∨ c = 18 ∨ c = 24) (v1 : Int32) (v3 : Int32) (v4 : Int32) (v5 : Int32) (v6 : Int32) (u7 : Value) (σ : Sto) : R nT_says k 20 [.ref 2, .int v1, .ref c, .int v3, .int v4, .int v5, .int v6, u7] [] σ =
  if inb v6 960 = true then
    if (σ 3 v6.toNatClampNeg) < (-6) then
      R nT_says k 47 [.ref 2, .int v1, .ref c, .int v3, .int v4, .int v5, .int v6, .int (σ 3 v6.toNatClampNeg)] [] σ
    else
      R nT_says k 28 [.ref 2, .int v1, .ref c, .int v3, .int v4, .int v5, .int v6, .int (σ 3 v6.toNatClampNeg)] [] σ
  else
    none := by rcases hc with rfl | rfl | rfl <;> exact (unr_R [14, 20, 28, 47, 77, 99] nT_says k 400 20 _ _ _).trans rfl
theorem eT_says_28 (k : Nat)  (c : Nat) (hc : c = 12 ∨ c = 18 ∨ c = 24) (v1 : Int32) (v3 : Int32) (v4 : Int32) (v5 : Int32) (v6 : Int32) (v7 : Int32) (σ : Sto) : R nT_says k 28 [.ref 2, .int v1, .ref c, .int v3, .int v4, .int v5, .int v6, .int v7] [] σ =
  if (v5 + 1) < 160 then
    if v7 < 0 then
      (C nS_valueOf k [.ref c, .int v7, .int v3] σ).bind fun r1 =>
        if inb (v5 + 1) 160 = true then
          R nT_says k 14 [.ref 2, .int v1, .ref c, .int v3, .int v4, .int (v5 + 1), .int (v6 + 1), .int v7] [] (su r1.2.2 6 (v5 + 1).toNatClampNeg r1.1)
        else
          none
    else
      if inb (v5 + 1) 160 = true then
        R nT_says k 14 [.ref 2, .int v1, .ref c, .int v3, .int v4, .int (v5 + 1), .int (v6 + 1), .int v7] [] (su σ 6 (v5 + 1).toNatClampNeg v7)
      else
        none
  else
    some (0, 0, σ) := by rcases hc with rfl | rfl | rfl <;> exact (unr_R [14, 20, 28, 47, 77, 99] nT_says k 400 28 _ _ _).trans rfl
theorem eT_says_47 (k : Nat)  (c : Nat) (hc : c = 12 ∨ c = 18 ∨ c = 24) (v1 : Int32) (v3 : Int32) (v4 : Int32) (v5 : Int32) (v6 : Int32) (v7 : Int32) (σ : Sto) : R nT_says k 47 [.ref 2, .int v1, .ref c, .int v3, .int v4, .int v5, .int v6, .int v7] [] σ =
  if v7 < (-8) then
    R nT_says k 77 [.ref 2, .int v1, .ref c, .int v3, .int v4, .int (v5 + (-1)), .int v6, .int v7] [] σ
  else
    if v5 < 0 then
      some (0, 0, σ)
    else
      if v7 = (-7) then
        if inb v5 160 = true then
          if inb v5 160 = true then
            R nT_says k 14 [.ref 2, .int v1, .ref c, .int v3, .int v4, .int v5, .int (v6 + 1), .int v7] [] (su σ 6 v5.toNatClampNeg (-(σ 6 v5.toNatClampNeg)))
          else
            none
        else
          none
      else
        if inb v5 160 = true then
          if (σ 6 v5.toNatClampNeg) = 0 then
            if inb v5 160 = true then
              R nT_says k 14 [.ref 2, .int v1, .ref c, .int v3, .int v4, .int v5, .int (v6 + 1), .int v7] [] (su σ 6 v5.toNatClampNeg 1)
            else
              none
          else
            if inb v5 160 = true then
              R nT_says k 14 [.ref 2, .int v1, .ref c, .int v3, .int v4, .int v5, .int (v6 + 1), .int v7] [] (su σ 6 v5.toNatClampNeg 0)
            else
              none
        else
          none := by rcases hc with rfl | rfl | rfl <;> exact (unr_R [14, 20, 28, 47, 77, 99] nT_says k 400 47 _ _ _).trans rfl
theorem eT_says_77 (k : Nat)  (c : Nat) (hc : c = 12 ∨ c = 18 ∨ c = 24) (v1 : Int32) (v3 : Int32) (v4 : Int32) (v5 : Int32) (v6 : Int32) (v7 : Int32) (σ : Sto) : R nT_says k 77 [.ref 2, .int v1, .ref c, .int v3, .int v4, .int v5, .int v6, .int v7] [] σ =
  if v5 < 0 then
    some (0, 0, σ)
  else
    if inb v5 160 = true then
      if inb (v5 + 1) 160 = true then
        (C nT_joined k [.int v7, .int (σ 6 v5.toNatClampNeg), .int (σ 6 (v5 + 1).toNatClampNeg)] σ).bind fun r1 =>
          if inb v5 160 = true then
            R nT_says k 14 [.ref 2, .int v1, .ref c, .int v3, .int v4, .int v5, .int (v6 + 1), .int v7] [] (su r1.2.2 6 v5.toNatClampNeg r1.1)
          else
            none
      else
        none
    else
      none := by rcases hc with rfl | rfl | rfl <;> exact (unr_R [14, 20, 28, 47, 77, 99] nT_says k 400 77 _ _ _).trans rfl
theorem eT_says_99 (k : Nat)  (c : Nat) (hc : c = 12 ∨ c = 18 ∨ c = 24) (v1 : Int32) (v3 : Int32) (v4 : Int32) (v5 : Int32) (v6 : Int32) (u7 : Value) (σ : Sto) : R nT_says k 99 [.ref 2, .int v1, .ref c, .int v3, .int v4, .int v5, .int v6, u7] [] σ =
  if v5 < 0 then
    if v1 = 0 then
      some ((maxI 0 (minI 99 0)), 0, σ)
    else
      some ((maxI (-99) (minI 99 0)), 0, σ)
  else
    if inb v5 160 = true then
      if v1 = 0 then
        some ((maxI 0 (minI 99 (σ 6 v5.toNatClampNeg))), 0, σ)
      else
        some ((maxI (-99) (minI 99 (σ 6 v5.toNatClampNeg))), 0, σ)
    else
      none := by rcases hc with rfl | rfl | rfl <;> exact (unr_R [14, 20, 28, 47, 77, 99] nT_says k 400 99 _ _ _).trans rfl
-- X3_joined
set_option maxRecDepth 1000000 in
theorem eT_joined (k : Nat) (p1 : Int32) (p2 : Int32) (p3 : Int32) (σ : Sto) : C nT_joined k [.int p1, .int p2, .int p3] σ =
  if p1 = (-15) then
    some ((p2 * p3), 0, σ)
  else
    if p1 = (-14) then
      some ((p2 - p3), 0, σ)
    else
      if p1 = (-13) then
        some ((p2 + p3), 0, σ)
      else
        if p1 = (-12) then
          if p2 = p3 then
            some (1, 0, σ)
          else
            some (0, 0, σ)
        else
          if p1 = (-11) then
            if p2 < p3 then
              some (1, 0, σ)
            else
              some (0, 0, σ)
          else
            if p1 = (-10) then
              if p2 = 0 then
                some (0, 0, σ)
              else
                if p3 = 0 then
                  some (0, 0, σ)
                else
                  some (1, 0, σ)
            else
              if p1 = (-9) then
                if p2 = 0 then
                  if p3 = 0 then
                    some (0, 0, σ)
                  else
                    some (1, 0, σ)
                else
                  some (1, 0, σ)
              else
                some (0, 0, σ) := (unr_R [] nT_joined k 400 0 _ _ _).trans rfl
