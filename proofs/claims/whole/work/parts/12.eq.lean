/-! EQUATIONS of the methods 104 .. 156 -/
-- X5_in
theorem eM_in (k : Nat) (p1 : Int32) (p2 : Int32) (p3 : Int32) (σ : Sto) : C nM_in k [.int p1, .int p2, .int p3] σ =
  if p1 < p2 then
    some (0, 0, σ)
  else
    if p3 < p1 then
      some (0, 0, σ)
    else
      some (1, 0, σ) := (unr_R [] nM_in k 400 0 _ _ _).trans rfl
-- X5_within
theorem eM_within (k : Nat) (p1 : Int32) (p2 : Int32) (p3 : Int32) (σ : Sto) : C nM_within k [.int p1, .int p2, .int p3] σ =
  if p1 < p2 then
    some (p2, 0, σ)
  else
    if p3 < p1 then
      some (p3, 0, σ)
    else
      some (p1, 0, σ) := (unr_R [] nM_within k 400 0 _ _ _).trans rfl
-- X5_onesOf
theorem eM_onesOf (k : Nat) (p1 : Int32) (σ : Sto) : C nM_onesOf k [.int p1] σ =
  R nM_onesOf k 4 [.int p1, .int 0, .int 0] [] σ := (unr_R [4] nM_onesOf k 400 0 _ _ _).trans rfl
theorem eM_onesOf_4 (k : Nat) (v0 : Int32) (v1 : Int32) (v2 : Int32) (σ : Sto) : R nM_onesOf k 4 [.int v0, .int v1, .int v2] [] σ =
  if v2 < 6 then
    R nM_onesOf k 4 [.int v0, .int (v1 + ((v0 >>> (v2 &&& 31)) &&& 1)), .int (v2 + 1)] [] σ
  else
    some (v1, 0, σ) := (unr_R [4] nM_onesOf k 400 4 _ _ _).trans rfl
-- X5_isOne
theorem eM_isOne (k : Nat) (p1 : Int32) (σ : Sto) : C nM_isOne k [.ref 30, .int p1] σ =
  (C nM_in k [.int p1, .int 0, .int ((σ 30 0) - 1)] σ).bind fun r1 =>
    if nok 1 r1.1 = true then
      some (r1.1, 0, r1.2.2)
    else
      none := (unr_R [] nM_isOne k 400 0 _ _ _).trans rfl
-- X5_isAt
theorem eM_isAt (k : Nat) (p1 : Int32) (σ : Sto) : C nM_isAt k [.ref 30, .int p1] σ =
  if inb (3 * p1) 18 = true then
    if (σ 33 (3 * p1).toNatClampNeg) = (-1) then
      some (0, 0, σ)
    else
      some (1, 0, σ)
  else
    none := (unr_R [] nM_isAt k 400 0 _ _ _).trans rfl
-- X5_isSeen
theorem eM_isSeen (k : Nat) (p1 : Int32) (σ : Sto) : C nM_isSeen k [.ref 30, .int p1] σ =
  (C nM_isAt k [.ref 30, .int p1] σ).bind fun r1 =>
    if r1.1 = 0 then
      some (0, 0, r1.2.2)
    else
      if inb ((3 * p1) + 1) 18 = true then
        if (r1.2.2 33 ((3 * p1) + 1).toNatClampNeg) = 0 then
          some (1, 0, r1.2.2)
        else
          some (0, 0, r1.2.2)
      else
        none := (unr_R [] nM_isSeen k 400 0 _ _ _).trans rfl
-- X5_seenSet
theorem eM_seenSet (k : Nat) (σ : Sto) : C nM_seenSet k [.ref 30] σ =
  R nM_seenSet k 4 [.ref 30, .int 0, .int 0] [] σ := (unr_R [4] nM_seenSet k 400 0 _ _ _).trans rfl
theorem eM_seenSet_4 (k : Nat) (v1 : Int32) (v2 : Int32) (σ : Sto) : R nM_seenSet k 4 [.ref 30, .int v1, .int v2] [] σ =
  if v2 < (σ 30 0) then
    (C nM_isSeen k [.ref 30, .int v2] σ).bind fun r1 =>
      if r1.1 = 0 then
        R nM_seenSet k 4 [.ref 30, .int (v1 ||| 0), .int (v2 + 1)] [] r1.2.2
      else
        R nM_seenSet k 4 [.ref 30, .int (v1 ||| (1 <<< (v2 &&& 31))), .int (v2 + 1)] [] r1.2.2
  else
    some (v1, 0, σ) := (unr_R [4] nM_seenSet k 400 4 _ _ _).trans rfl
-- X5_isOver
theorem eM_isOver (k : Nat) (p1 : Int32) (σ : Sto) : C nM_isOver k [.ref 30, .int p1] σ =
  (C nM_isAt k [.ref 30, .int p1] σ).bind fun r1 =>
    if r1.1 = 0 then
      if (r1.2.2 34 (1 : Int32).toNatClampNeg) = p1 then
        some (0, 0, r1.2.2)
      else
        some (1, 0, r1.2.2)
    else
      some (0, 0, r1.2.2) := (unr_R [] nM_isOver k 400 0 _ _ _).trans rfl
-- X5_overSet
theorem eM_overSet (k : Nat) (σ : Sto) : C nM_overSet k [.ref 30] σ =
  R nM_overSet k 4 [.ref 30, .int 0, .int 0] [] σ := (unr_R [4] nM_overSet k 400 0 _ _ _).trans rfl
theorem eM_overSet_4 (k : Nat) (v1 : Int32) (v2 : Int32) (σ : Sto) : R nM_overSet k 4 [.ref 30, .int v1, .int v2] [] σ =
  if v2 < (σ 30 0) then
    (C nM_isOver k [.ref 30, .int v2] σ).bind fun r1 =>
      if r1.1 = 0 then
        R nM_overSet k 4 [.ref 30, .int (v1 ||| 0), .int (v2 + 1)] [] r1.2.2
      else
        R nM_overSet k 4 [.ref 30, .int (v1 ||| (1 <<< (v2 &&& 31))), .int (v2 + 1)] [] r1.2.2
  else
    some (v1, 0, σ) := (unr_R [4] nM_overSet k 400 4 _ _ _).trans rfl
-- X5_count
theorem eM_count (k : Nat) (p1 : Int32) (σ : Sto) : C nM_count k [.ref 30, .int p1] σ =
  if p1 = 0 then
    some ((σ 30 0), 0, σ)
  else
    if p1 = 1 then
      some ((σ 34 (3 : Int32).toNatClampNeg), 0, σ)
    else
      if p1 = 2 then
        some ((σ 34 (2 : Int32).toNatClampNeg), 0, σ)
      else
        if p1 = 3 then
          some ((σ 30 9), 0, σ)
        else
          if p1 = 4 then
            some ((σ 30 10), 0, σ)
          else
            if p1 = 5 then
              some ((σ 30 6), 0, σ)
            else
              some ((-2), 0, σ) := (unr_R [] nM_count k 400 0 _ _ _).trans rfl
-- X5_bay
theorem eM_bay (k : Nat) (p1 : Int32) (p2 : Int32) (σ : Sto) : C nM_bay k [.ref 30, .int p1, .int p2] σ =
  (C nM_in k [.int p1, .int 0, .int 1] σ).bind fun r1 =>
    if r1.1 = 0 then
      some ((-2), 0, r1.2.2)
    else
      if p1 = 0 then
        (C nM_in k [.int p2, .int 0, .int 9999] r1.2.2).bind fun r2 =>
          if r2.1 = 0 then
            some ((-2), 0, r2.2.2)
          else
            if p1 = 0 then
              some ((r2.2.2 34 (3 : Int32).toNatClampNeg), 0, (su r2.2.2 34 (3 : Int32).toNatClampNeg p2))
            else
              some ((r2.2.2 34 (0 : Int32).toNatClampNeg), 0, (su r2.2.2 34 (0 : Int32).toNatClampNeg p2))
      else
        (C nM_in k [.int p2, .int 0, .int 99] r1.2.2).bind fun r2 =>
          if r2.1 = 0 then
            some ((-2), 0, r2.2.2)
          else
            if p1 = 0 then
              some ((r2.2.2 34 (3 : Int32).toNatClampNeg), 0, (su r2.2.2 34 (3 : Int32).toNatClampNeg p2))
            else
              some ((r2.2.2 34 (0 : Int32).toNatClampNeg), 0, (su r2.2.2 34 (0 : Int32).toNatClampNeg p2)) := (unr_R [] nM_bay k 400 0 _ _ _).trans rfl
-- X5_ferry
theorem eM_ferry (k : Nat) (p1 : Int32) (σ : Sto) : C nM_ferry k [.ref 30, .int p1] σ =
  if p1 = 0 then
    if inb p1 4 = true then
      some ((σ 34 p1.toNatClampNeg), 0, σ)
    else
      none
  else
    if p1 = 1 then
      if inb p1 4 = true then
        some ((σ 34 p1.toNatClampNeg), 0, σ)
      else
        none
    else
      if p1 = 2 then
        (C nM_choice k [.ref 30] σ).bind fun r1 =>
          some (r1.1, 0, r1.2.2)
      else
        if p1 = 3 then
          (C nM_aloneSet k [.ref 30] σ).bind fun r1 =>
            some (r1.1, 0, r1.2.2)
        else
          if p1 = 4 then
            (C nM_seenSet k [.ref 30] σ).bind fun r1 =>
              some (r1.1, 0, r1.2.2)
          else
            if p1 = 5 then
              (C nM_overSet k [.ref 30] σ).bind fun r1 =>
                some (r1.1, 0, r1.2.2)
            else
              some ((-7), 0, σ) := (unr_R [] nM_ferry k 400 0 _ _ _).trans rfl
-- X5_isByte
theorem eM_isByte (k : Nat) (p1 : Int32) (σ : Sto) : C nM_isByte k [.int p1] σ =
  (C nM_in k [.int p1, .int 0, .int 255] σ).bind fun r1 =>
    if nok 1 r1.1 = true then
      some (r1.1, 0, r1.2.2)
    else
      none := (unr_R [] nM_isByte k 400 0 _ _ _).trans rfl
-- X5_feed
theorem eM_feed (k : Nat) (p1 : Int32) (p2 : Int32) (p3 : Int32) (p4 : Int32) (p5 : Int32) (p6 : Int32) (σ : Sto) : C nM_feed k [.ref 30, .int p1, .int p2, .int p3, .int p4, .int p5, .int p6] σ =
  (C nM_in k [.int p1, .int 1, .int 5] σ).bind fun r1 =>
    if r1.1 = 0 then
      some ((-2), 0, r1.2.2)
    else
      (C nM_isByte k [.int p2] r1.2.2).bind fun r2 =>
        if r2.1 = 0 then
          some ((-2), 0, r2.2.2)
        else
          (C nM_isByte k [.int p3] r2.2.2).bind fun r3 =>
            if r3.1 = 0 then
              some ((-2), 0, r3.2.2)
            else
              (C nM_isByte k [.int p4] r3.2.2).bind fun r4 =>
                if r4.1 = 0 then
                  some ((-2), 0, r4.2.2)
                else
                  (C nM_isByte k [.int p5] r4.2.2).bind fun r5 =>
                    if r5.1 = 0 then
                      some ((-2), 0, r5.2.2)
                    else
                      (C nM_isByte k [.int p6] r5.2.2).bind fun r6 =>
                        if r6.1 = 0 then
                          some ((-2), 0, r6.2.2)
                        else
                          if 160 < ((r6.2.2 30 6) + p1) then
                            some ((-4), 0, r6.2.2)
                          else
                            R nM_feed k 32 [.ref 30, .int p1, .int p2, .int p3, .int p4, .int p5, .int p6, .int 0] [] r6.2.2 := (unr_R [32, 59] nM_feed k 400 0 _ _ _).trans rfl
theorem eM_feed_32 (k : Nat) (v1 : Int32) (v2 : Int32) (v3 : Int32) (v4 : Int32) (v5 : Int32) (v6 : Int32) (v7 : Int32) (σ : Sto) : R nM_feed k 32 [.ref 30, .int v1, .int v2, .int v3, .int v4, .int v5, .int v6, .int v7] [] σ =
  if v7 < v1 then
    if v7 = 0 then
      R nM_feed k 59 [.ref 30, .int v1, .int v2, .int v3, .int v4, .int v5, .int v6, .int v7] [.int v2, .int (σ 30 6), .ref 35] σ
    else
      if v7 = 1 then
        R nM_feed k 59 [.ref 30, .int v1, .int v2, .int v3, .int v4, .int v5, .int v6, .int v7] [.int v3, .int (σ 30 6), .ref 35] σ
      else
        if v7 = 2 then
          R nM_feed k 59 [.ref 30, .int v1, .int v2, .int v3, .int v4, .int v5, .int v6, .int v7] [.int v4, .int (σ 30 6), .ref 35] σ
        else
          if v7 = 3 then
            R nM_feed k 59 [.ref 30, .int v1, .int v2, .int v3, .int v4, .int v5, .int v6, .int v7] [.int v5, .int (σ 30 6), .ref 35] σ
          else
            R nM_feed k 59 [.ref 30, .int v1, .int v2, .int v3, .int v4, .int v5, .int v6, .int v7] [.int v6, .int (σ 30 6), .ref 35] σ
  else
    some ((σ 30 6), 0, σ) := (unr_R [32, 59] nM_feed k 400 32 _ _ _).trans rfl
theorem eM_feed_59 (k : Nat) (v1 : Int32) (v2 : Int32) (v3 : Int32) (v4 : Int32) (v5 : Int32) (v6 : Int32) (v7 : Int32) (s0 : Int32) (s1 : Int32) (σ : Sto) : R nM_feed k 59 [.ref 30, .int v1, .int v2, .int v3, .int v4, .int v5, .int v6, .int v7] [.int s0, .int s1, .ref 35] σ =
  if inb s1 160 = true then
    R nM_feed k 32 [.ref 30, .int v1, .int v2, .int v3, .int v4, .int v5, .int v6, .int (v7 + 1)] [] (su (su σ 35 s1.toNatClampNeg s0) 30 6 (((su σ 35 s1.toNatClampNeg s0) 30 6) + 1))
  else
    none := (unr_R [32, 59] nM_feed k 400 59 _ _ _).trans rfl
-- X5_wordFrom
theorem eM_wordFrom (k : Nat) (p1 : Int32) (p2 : Int32) (σ : Sto) : C nM_wordFrom k [.ref 30, .int p1, .int p2] σ =
  R nM_wordFrom k 2 [.ref 30, .int p1, .int p2, .int 0, .null, .null] [] σ := (unr_R [2, 16, 42] nM_wordFrom k 400 0 _ _ _).trans rfl
theorem eM_wordFrom_2 (k : Nat) (v1 : Int32) (v2 : Int32) (v3 : Int32) (u4 : Value) (u5 : Value) (σ : Sto) : R nM_wordFrom k 2 [.ref 30, .int v1, .int v2, .int v3, u4, u5] [] σ =
  if v3 < 12 then
    if 8 < (v2 - v1) then
      R nM_wordFrom k 16 [.ref 30, .int v1, .int v2, .int v3, .int 0, .int 0] [] σ
    else
      R nM_wordFrom k 16 [.ref 30, .int v1, .int v2, .int v3, .int 1, .int 0] [] σ
  else
    some (12, 0, σ) := (unr_R [2, 16, 42] nM_wordFrom k 400 2 _ _ _).trans rfl
theorem eM_wordFrom_16 (k : Nat) (v1 : Int32) (v2 : Int32) (v3 : Int32) (v4 : Int32) (v5 : Int32) (σ : Sto) : R nM_wordFrom k 16 [.ref 30, .int v1, .int v2, .int v3, .int v4, .int v5] [] σ =
  if v5 < 8 then
    if v4 = 0 then
      if v4 = 0 then
        R nM_wordFrom k 2 [.ref 30, .int v1, .int v2, .int (v3 + 1), .int v4, .int v5] [] σ
      else
        some (v3, 0, σ)
    else
      if inb ((8 * v3) + v5) 96 = true then
        if (v1 + v5) < v2 then
          if inb (v1 + v5) 160 = true then
            R nM_wordFrom k 42 [.ref 30, .int v1, .int v2, .int v3, .int v4, .int v5] [.int (σ 35 (v1 + v5).toNatClampNeg), .int (σ 44 ((8 * v3) + v5).toNatClampNeg)] σ
          else
            none
        else
          R nM_wordFrom k 42 [.ref 30, .int v1, .int v2, .int v3, .int v4, .int v5] [.int 32, .int (σ 44 ((8 * v3) + v5).toNatClampNeg)] σ
      else
        none
  else
    if v4 = 0 then
      R nM_wordFrom k 2 [.ref 30, .int v1, .int v2, .int (v3 + 1), .int v4, .int v5] [] σ
    else
      some (v3, 0, σ) := (unr_R [2, 16, 42] nM_wordFrom k 400 16 _ _ _).trans rfl
theorem eM_wordFrom_42 (k : Nat) (v1 : Int32) (v2 : Int32) (v3 : Int32) (v4 : Int32) (v5 : Int32) (s0 : Int32) (s1 : Int32) (σ : Sto) : R nM_wordFrom k 42 [.ref 30, .int v1, .int v2, .int v3, .int v4, .int v5] [.int s0, .int s1] σ =
  if s1 = s0 then
    R nM_wordFrom k 16 [.ref 30, .int v1, .int v2, .int v3, .int 1, .int (v5 + 1)] [] σ
  else
    R nM_wordFrom k 16 [.ref 30, .int v1, .int v2, .int v3, .int 0, .int (v5 + 1)] [] σ := (unr_R [2, 16, 42] nM_wordFrom k 400 42 _ _ _).trans rfl
-- X5_next
theorem eM_next (k : Nat) (σ : Sto) : C nM_next k [.ref 30] σ =
  if (σ 30 18) < (σ 30 6) then
    if inb (σ 30 18) 160 = true then
      if (σ 35 (σ 30 18).toNatClampNeg) = 32 then
        R nM_next k 19 [.ref 30, .null, .null] [] σ
      else
        if inb (σ 30 18) 160 = true then
          if (σ 35 (σ 30 18).toNatClampNeg) = 10 then
            R nM_next k 19 [.ref 30, .null, .null] [] σ
          else
            R nM_next k 26 [.ref 30, .null, .null] [] σ
        else
          none
    else
      none
  else
    R nM_next k 26 [.ref 30, .null, .null] [] σ := (unr_R [0, 19, 26, 53, 74, 102, 112, 121, 153, 162, 169, 195, 198, 205, 212] nM_next k 400 0 _ _ _).trans rfl
theorem eM_next_0 (k : Nat) (σ : Sto) : R nM_next k 0 [.ref 30, .null, .null] [] σ =
  if (σ 30 18) < (σ 30 6) then
    if inb (σ 30 18) 160 = true then
      if (σ 35 (σ 30 18).toNatClampNeg) = 32 then
        R nM_next k 19 [.ref 30, .null, .null] [] σ
      else
        if inb (σ 30 18) 160 = true then
          if (σ 35 (σ 30 18).toNatClampNeg) = 10 then
            R nM_next k 19 [.ref 30, .null, .null] [] σ
          else
            R nM_next k 26 [.ref 30, .null, .null] [] σ
        else
          none
    else
      none
  else
    R nM_next k 26 [.ref 30, .null, .null] [] σ := (unr_R [0, 19, 26, 53, 74, 102, 112, 121, 153, 162, 169, 195, 198, 205, 212] nM_next k 400 0 _ _ _).trans rfl
theorem eM_next_19 (k : Nat) (σ : Sto) : R nM_next k 19 [.ref 30, .null, .null] [] σ =
  R nM_next k 0 [.ref 30, .null, .null] [] (su σ 30 18 ((σ 30 18) + 1)) := (unr_R [0, 19, 26, 53, 74, 102, 112, 121, 153, 162, 169, 195, 198, 205, 212] nM_next k 400 19 _ _ _).trans rfl
set_option maxRecDepth 1000000 in
theorem eM_next_26 (k : Nat) (σ : Sto) : R nM_next k 26 [.ref 30, .null, .null] [] σ =
  if ((su (su (su σ 30 19 (σ 30 18)) 30 20 0) 30 21 0) 30 18) = ((su (su (su σ 30 19 (σ 30 18)) 30 20 0) 30 21 0) 30 6) then
    some (0, 0, (su (su (su σ 30 19 (σ 30 18)) 30 20 0) 30 21 0))
  else
    if inb ((su (su (su σ 30 19 (σ 30 18)) 30 20 0) 30 21 0) 30 18) 160 = true then
      (C nM_in k [.int ((su (su (su σ 30 19 (σ 30 18)) 30 20 0) 30 21 0) 35 ((su (su (su σ 30 19 (σ 30 18)) 30 20 0) 30 21 0) 30 18).toNatClampNeg), .int 97, .int 122] (su (su (su σ 30 19 (σ 30 18)) 30 20 0) 30 21 0)).bind fun r1 =>
        if r1.1 = 0 then
          (C nM_in k [.int ((su (su (su σ 30 19 (σ 30 18)) 30 20 0) 30 21 0) 35 ((su (su (su σ 30 19 (σ 30 18)) 30 20 0) 30 21 0) 30 18).toNatClampNeg), .int 48, .int 57] r1.2.2).bind fun r2 =>
            if r2.1 = 0 then
              if ((su (su (su σ 30 19 (σ 30 18)) 30 20 0) 30 21 0) 35 ((su (su (su σ 30 19 (σ 30 18)) 30 20 0) 30 21 0) 30 18).toNatClampNeg) = 40 then
                R nM_next k 195 [.ref 30, .int ((su (su (su σ 30 19 (σ 30 18)) 30 20 0) 30 21 0) 35 ((su (su (su σ 30 19 (σ 30 18)) 30 20 0) 30 21 0) 30 18).toNatClampNeg), .null] [] r2.2.2
              else
                if ((su (su (su σ 30 19 (σ 30 18)) 30 20 0) 30 21 0) 35 ((su (su (su σ 30 19 (σ 30 18)) 30 20 0) 30 21 0) 30 18).toNatClampNeg) = 41 then
                  R nM_next k 195 [.ref 30, .int ((su (su (su σ 30 19 (σ 30 18)) 30 20 0) 30 21 0) 35 ((su (su (su σ 30 19 (σ 30 18)) 30 20 0) 30 21 0) 30 18).toNatClampNeg), .null] [] r2.2.2
                else
                  if ((su (su (su σ 30 19 (σ 30 18)) 30 20 0) 30 21 0) 35 ((su (su (su σ 30 19 (σ 30 18)) 30 20 0) 30 21 0) 30 18).toNatClampNeg) = 59 then
                    R nM_next k 195 [.ref 30, .int ((su (su (su σ 30 19 (σ 30 18)) 30 20 0) 30 21 0) 35 ((su (su (su σ 30 19 (σ 30 18)) 30 20 0) 30 21 0) 30 18).toNatClampNeg), .null] [] r2.2.2
                  else
                    if ((su (su (su σ 30 19 (σ 30 18)) 30 20 0) 30 21 0) 35 ((su (su (su σ 30 19 (σ 30 18)) 30 20 0) 30 21 0) 30 18).toNatClampNeg) = 43 then
                      R nM_next k 195 [.ref 30, .int ((su (su (su σ 30 19 (σ 30 18)) 30 20 0) 30 21 0) 35 ((su (su (su σ 30 19 (σ 30 18)) 30 20 0) 30 21 0) 30 18).toNatClampNeg), .null] [] r2.2.2
                    else
                      if ((su (su (su σ 30 19 (σ 30 18)) 30 20 0) 30 21 0) 35 ((su (su (su σ 30 19 (σ 30 18)) 30 20 0) 30 21 0) 30 18).toNatClampNeg) = 45 then
                        R nM_next k 195 [.ref 30, .int ((su (su (su σ 30 19 (σ 30 18)) 30 20 0) 30 21 0) 35 ((su (su (su σ 30 19 (σ 30 18)) 30 20 0) 30 21 0) 30 18).toNatClampNeg), .null] [] r2.2.2
                      else
                        if ((su (su (su σ 30 19 (σ 30 18)) 30 20 0) 30 21 0) 35 ((su (su (su σ 30 19 (σ 30 18)) 30 20 0) 30 21 0) 30 18).toNatClampNeg) = 42 then
                          R nM_next k 195 [.ref 30, .int ((su (su (su σ 30 19 (σ 30 18)) 30 20 0) 30 21 0) 35 ((su (su (su σ 30 19 (σ 30 18)) 30 20 0) 30 21 0) 30 18).toNatClampNeg), .null] [] r2.2.2
                        else
                          if ((su (su (su σ 30 19 (σ 30 18)) 30 20 0) 30 21 0) 35 ((su (su (su σ 30 19 (σ 30 18)) 30 20 0) 30 21 0) 30 18).toNatClampNeg) = 60 then
                            R nM_next k 195 [.ref 30, .int ((su (su (su σ 30 19 (σ 30 18)) 30 20 0) 30 21 0) 35 ((su (su (su σ 30 19 (σ 30 18)) 30 20 0) 30 21 0) 30 18).toNatClampNeg), .null] [] r2.2.2
                          else
                            if ((su (su (su σ 30 19 (σ 30 18)) 30 20 0) 30 21 0) 35 ((su (su (su σ 30 19 (σ 30 18)) 30 20 0) 30 21 0) 30 18).toNatClampNeg) = 61 then
                              R nM_next k 195 [.ref 30, .int ((su (su (su σ 30 19 (σ 30 18)) 30 20 0) 30 21 0) 35 ((su (su (su σ 30 19 (σ 30 18)) 30 20 0) 30 21 0) 30 18).toNatClampNeg), .null] [] r2.2.2
                            else
                              R nM_next k 198 [.ref 30, .int ((su (su (su σ 30 19 (σ 30 18)) 30 20 0) 30 21 0) 35 ((su (su (su σ 30 19 (σ 30 18)) 30 20 0) 30 21 0) 30 18).toNatClampNeg), .null] [.int 0] r2.2.2
            else
              R nM_next k 121 [.ref 30, .int ((su (su (su σ 30 19 (σ 30 18)) 30 20 0) 30 21 0) 35 ((su (su (su σ 30 19 (σ 30 18)) 30 20 0) 30 21 0) 30 18).toNatClampNeg), .int 0] [] r2.2.2
        else
          R nM_next k 53 [.ref 30, .int ((su (su (su σ 30 19 (σ 30 18)) 30 20 0) 30 21 0) 35 ((su (su (su σ 30 19 (σ 30 18)) 30 20 0) 30 21 0) 30 18).toNatClampNeg), .null] [] r1.2.2
    else
      none := (unr_R [0, 19, 26, 53, 74, 102, 112, 121, 153, 162, 169, 195, 198, 205, 212] nM_next k 400 26 _ _ _).trans rfl
theorem eM_next_53 (k : Nat) (v1 : Int32) (σ : Sto) : R nM_next k 53 [.ref 30, .int v1, .null] [] σ =
  if (σ 30 18) < (σ 30 6) then
    if inb (σ 30 18) 160 = true then
      (C nM_in k [.int (σ 35 (σ 30 18).toNatClampNeg), .int 97, .int 122] σ).bind fun r1 =>
        if r1.1 = 0 then
          R nM_next k 74 [.ref 30, .int v1, .null] [] r1.2.2
        else
          R nM_next k 53 [.ref 30, .int v1, .null] [] (su r1.2.2 30 18 ((r1.2.2 30 18) + 1))
    else
      none
  else
    R nM_next k 74 [.ref 30, .int v1, .null] [] σ := (unr_R [0, 19, 26, 53, 74, 102, 112, 121, 153, 162, 169, 195, 198, 205, 212] nM_next k 400 53 _ _ _).trans rfl
theorem eM_next_74 (k : Nat) (v1 : Int32) (σ : Sto) : R nM_next k 74 [.ref 30, .int v1, .null] [] σ =
  (C nM_wordFrom k [.ref 30, .int (σ 30 19), .int (σ 30 18)] σ).bind fun r1 =>
    if r1.1 < 3 then
      R nM_next k 102 [.ref 30, .int v1, .int r1.1] [.int 3, .ref 30] r1.2.2
    else
      if r1.1 < 9 then
        R nM_next k 102 [.ref 30, .int v1, .int r1.1] [.int 2, .ref 30] r1.2.2
      else
        if r1.1 = 12 then
          R nM_next k 102 [.ref 30, .int v1, .int r1.1] [.int (-1), .ref 30] r1.2.2
        else
          R nM_next k 102 [.ref 30, .int v1, .int r1.1] [.int ((4 + r1.1) - 9), .ref 30] r1.2.2 := (unr_R [0, 19, 26, 53, 74, 102, 112, 121, 153, 162, 169, 195, 198, 205, 212] nM_next k 400 74 _ _ _).trans rfl
theorem eM_next_102 (k : Nat) (v1 : Int32) (v2 : Int32) (s0 : Int32) (σ : Sto) : R nM_next k 102 [.ref 30, .int v1, .int v2] [.int s0, .ref 30] σ =
  if v2 < 3 then
    R nM_next k 112 [.ref 30, .int v1, .int v2] [.int v2, .ref 30] (su σ 30 20 s0)
  else
    R nM_next k 112 [.ref 30, .int v1, .int v2] [.int (v2 - 3), .ref 30] (su σ 30 20 s0) := (unr_R [0, 19, 26, 53, 74, 102, 112, 121, 153, 162, 169, 195, 198, 205, 212] nM_next k 400 102 _ _ _).trans rfl
theorem eM_next_112 (k : Nat) (v1 : Int32) (v2 : Int32) (s0 : Int32) (σ : Sto) : R nM_next k 112 [.ref 30, .int v1, .int v2] [.int s0, .ref 30] σ =
  R nM_next k 212 [.ref 30, .int v1, .int v2] [] (su σ 30 21 s0) := (unr_R [0, 19, 26, 53, 74, 102, 112, 121, 153, 162, 169, 195, 198, 205, 212] nM_next k 400 112 _ _ _).trans rfl
theorem eM_next_121 (k : Nat) (v1 : Int32) (v2 : Int32) (σ : Sto) : R nM_next k 121 [.ref 30, .int v1, .int v2] [] σ =
  if (σ 30 18) < (σ 30 6) then
    if inb (σ 30 18) 160 = true then
      (C nM_in k [.int (σ 35 (σ 30 18).toNatClampNeg), .int 48, .int 57] σ).bind fun r1 =>
        if r1.1 = 0 then
          R nM_next k 162 [.ref 30, .int v1, .int v2] [] r1.2.2
        else
          if v2 < 4 then
            if inb (r1.2.2 30 18) 160 = true then
              R nM_next k 153 [.ref 30, .int v1, .int v2] [.int (((10 * (r1.2.2 30 21)) + (r1.2.2 35 (r1.2.2 30 18).toNatClampNeg)) - 48), .ref 30] r1.2.2
            else
              none
          else
            R nM_next k 153 [.ref 30, .int v1, .int v2] [.int 0, .ref 30] r1.2.2
    else
      none
  else
    R nM_next k 162 [.ref 30, .int v1, .int v2] [] σ := (unr_R [0, 19, 26, 53, 74, 102, 112, 121, 153, 162, 169, 195, 198, 205, 212] nM_next k 400 121 _ _ _).trans rfl
theorem eM_next_153 (k : Nat) (v1 : Int32) (v2 : Int32) (s0 : Int32) (σ : Sto) : R nM_next k 153 [.ref 30, .int v1, .int v2] [.int s0, .ref 30] σ =
  R nM_next k 121 [.ref 30, .int v1, .int (v2 + 1)] [] (su (su σ 30 21 s0) 30 18 (((su σ 30 21 s0) 30 18) + 1)) := (unr_R [0, 19, 26, 53, 74, 102, 112, 121, 153, 162, 169, 195, 198, 205, 212] nM_next k 400 153 _ _ _).trans rfl
theorem eM_next_162 (k : Nat) (v1 : Int32) (v2 : Int32) (σ : Sto) : R nM_next k 162 [.ref 30, .int v1, .int v2] [] σ =
  if 4 < v2 then
    R nM_next k 169 [.ref 30, .int v1, .int v2] [.int (-1), .ref 30] σ
  else
    R nM_next k 169 [.ref 30, .int v1, .int v2] [.int 1, .ref 30] σ := (unr_R [0, 19, 26, 53, 74, 102, 112, 121, 153, 162, 169, 195, 198, 205, 212] nM_next k 400 162 _ _ _).trans rfl
theorem eM_next_169 (k : Nat) (v1 : Int32) (v2 : Int32) (s0 : Int32) (σ : Sto) : R nM_next k 169 [.ref 30, .int v1, .int v2] [.int s0, .ref 30] σ =
  R nM_next k 212 [.ref 30, .int v1, .int v2] [] (su σ 30 20 s0) := (unr_R [0, 19, 26, 53, 74, 102, 112, 121, 153, 162, 169, 195, 198, 205, 212] nM_next k 400 169 _ _ _).trans rfl
theorem eM_next_195 (k : Nat) (v1 : Int32) (σ : Sto) : R nM_next k 195 [.ref 30, .int v1, .null] [] σ =
  R nM_next k 198 [.ref 30, .int v1, .null] [.int 1] σ := (unr_R [0, 19, 26, 53, 74, 102, 112, 121, 153, 162, 169, 195, 198, 205, 212] nM_next k 400 195 _ _ _).trans rfl
theorem eM_next_198 (k : Nat) (v1 : Int32) (s0 : Int32) (σ : Sto) : R nM_next k 198 [.ref 30, .int v1, .null] [.int s0] σ =
  if s0 = 0 then
    R nM_next k 205 [.ref 30, .int v1, .int s0] [.int (-1), .ref 30] σ
  else
    R nM_next k 205 [.ref 30, .int v1, .int s0] [.int v1, .ref 30] σ := (unr_R [0, 19, 26, 53, 74, 102, 112, 121, 153, 162, 169, 195, 198, 205, 212] nM_next k 400 198 _ _ _).trans rfl
theorem eM_next_205 (k : Nat) (v1 : Int32) (v2 : Int32) (s0 : Int32) (σ : Sto) : R nM_next k 205 [.ref 30, .int v1, .int v2] [.int s0, .ref 30] σ =
  R nM_next k 212 [.ref 30, .int v1, .int v2] [] (su (su σ 30 20 s0) 30 18 (((su σ 30 20 s0) 30 18) + 1)) := (unr_R [0, 19, 26, 53, 74, 102, 112, 121, 153, 162, 169, 195, 198, 205, 212] nM_next k 400 205 _ _ _).trans rfl
theorem eM_next_212 (k : Nat) (v1 : Int32) (v2 : Int32) (σ : Sto) : R nM_next k 212 [.ref 30, .int v1, .int v2] [] σ =
  some (0, 0, σ) := (unr_R [0, 19, 26, 53, 74, 102, 112, 121, 153, 162, 169, 195, 198, 205, 212] nM_next k 400 212 _ _ _).trans rfl
-- X5_rank
theorem eM_rank (k : Nat) (p1 : Int32) (σ : Sto) : C nM_rank k [.int p1] σ =
  if p1 = 0 then
    some (0, 0, σ)
  else
    if p1 = 11 then
      some (1, 0, σ)
    else
      if p1 = 12 then
        some (2, 0, σ)
      else
        if p1 = 13 then
          some (3, 0, σ)
        else
          if 15 < p1 then
            if 17 < p1 then
              if p1 = 18 then
                some (6, 0, σ)
              else
                some (7, 0, σ)
            else
              some (5, 0, σ)
          else
            some (4, 0, σ) := (unr_R [] nM_rank k 400 0 _ _ _).trans rfl
-- X5_puts
theorem eM_puts (k : Nat) (p1 : Int32) (σ : Sto) : C nM_puts k [.ref 30, .int p1] σ =
  if inb ((200 * (σ 30 9)) + (σ 30 26)) 1200 = true then
    some (0, 0, (su (su σ 36 ((200 * (σ 30 9)) + (σ 30 26)).toNatClampNeg p1) 30 26 (((su σ 36 ((200 * (σ 30 9)) + (σ 30 26)).toNatClampNeg p1) 30 26) + 1)))
  else
    none := (unr_R [] nM_puts k 400 0 _ _ _).trans rfl
-- X5_unwinds
theorem eM_unwinds (k : Nat) (p1 : Int32) (σ : Sto) : C nM_unwinds k [.ref 30, .int p1] σ =
  if 0 < (σ 30 24) then
    if inb ((σ 30 24) - 1) 200 = true then
      (C nM_rank k [.int (σ 45 ((σ 30 24) - 1).toNatClampNeg)] σ).bind fun r1 =>
        if r1.1 < p1 then
          some (0, 0, r1.2.2)
        else
          if inb ((su r1.2.2 30 24 ((r1.2.2 30 24) - 1)) 30 24) 200 = true then
            if ((su r1.2.2 30 24 ((r1.2.2 30 24) - 1)) 45 ((su r1.2.2 30 24 ((r1.2.2 30 24) - 1)) 30 24).toNatClampNeg) = 13 then
              (C nM_puts k [.ref 30, .int ((su r1.2.2 30 24 ((r1.2.2 30 24) - 1)) 45 ((su r1.2.2 30 24 ((r1.2.2 30 24) - 1)) 30 24).toNatClampNeg)] (su (su r1.2.2 30 24 ((r1.2.2 30 24) - 1)) 30 25 (((su r1.2.2 30 24 ((r1.2.2 30 24) - 1)) 30 25) - 1))).bind fun r2 =>
                R nM_unwinds k 0 [.ref 30, .int p1, .int ((su r1.2.2 30 24 ((r1.2.2 30 24) - 1)) 45 ((su r1.2.2 30 24 ((r1.2.2 30 24) - 1)) 30 24).toNatClampNeg)] [] r2.2.2
            else
              if ((su r1.2.2 30 24 ((r1.2.2 30 24) - 1)) 45 ((su r1.2.2 30 24 ((r1.2.2 30 24) - 1)) 30 24).toNatClampNeg) = 19 then
                (C nM_puts k [.ref 30, .int ((su r1.2.2 30 24 ((r1.2.2 30 24) - 1)) 45 ((su r1.2.2 30 24 ((r1.2.2 30 24) - 1)) 30 24).toNatClampNeg)] (su (su r1.2.2 30 24 ((r1.2.2 30 24) - 1)) 30 25 (((su r1.2.2 30 24 ((r1.2.2 30 24) - 1)) 30 25) - 1))).bind fun r2 =>
                  R nM_unwinds k 0 [.ref 30, .int p1, .int ((su r1.2.2 30 24 ((r1.2.2 30 24) - 1)) 45 ((su r1.2.2 30 24 ((r1.2.2 30 24) - 1)) 30 24).toNatClampNeg)] [] r2.2.2
              else
                (C nM_puts k [.ref 30, .int ((su r1.2.2 30 24 ((r1.2.2 30 24) - 1)) 45 ((su r1.2.2 30 24 ((r1.2.2 30 24) - 1)) 30 24).toNatClampNeg)] (su (su r1.2.2 30 24 ((r1.2.2 30 24) - 1)) 30 25 (((su r1.2.2 30 24 ((r1.2.2 30 24) - 1)) 30 25) - 0))).bind fun r2 =>
                  R nM_unwinds k 0 [.ref 30, .int p1, .int ((su r1.2.2 30 24 ((r1.2.2 30 24) - 1)) 45 ((su r1.2.2 30 24 ((r1.2.2 30 24) - 1)) 30 24).toNatClampNeg)] [] r2.2.2
          else
            none
    else
      none
  else
    some (0, 0, σ) := (unr_R [0] nM_unwinds k 400 0 _ _ _).trans rfl
theorem eM_unwinds_0 (k : Nat) (v1 : Int32) (v2 : Int32) (σ : Sto) : R nM_unwinds k 0 [.ref 30, .int v1, .int v2] [] σ =
  if 0 < (σ 30 24) then
    if inb ((σ 30 24) - 1) 200 = true then
      (C nM_rank k [.int (σ 45 ((σ 30 24) - 1).toNatClampNeg)] σ).bind fun r1 =>
        if r1.1 < v1 then
          some (0, 0, r1.2.2)
        else
          if inb ((su r1.2.2 30 24 ((r1.2.2 30 24) - 1)) 30 24) 200 = true then
            if ((su r1.2.2 30 24 ((r1.2.2 30 24) - 1)) 45 ((su r1.2.2 30 24 ((r1.2.2 30 24) - 1)) 30 24).toNatClampNeg) = 13 then
              (C nM_puts k [.ref 30, .int ((su r1.2.2 30 24 ((r1.2.2 30 24) - 1)) 45 ((su r1.2.2 30 24 ((r1.2.2 30 24) - 1)) 30 24).toNatClampNeg)] (su (su r1.2.2 30 24 ((r1.2.2 30 24) - 1)) 30 25 (((su r1.2.2 30 24 ((r1.2.2 30 24) - 1)) 30 25) - 1))).bind fun r2 =>
                R nM_unwinds k 0 [.ref 30, .int v1, .int ((su r1.2.2 30 24 ((r1.2.2 30 24) - 1)) 45 ((su r1.2.2 30 24 ((r1.2.2 30 24) - 1)) 30 24).toNatClampNeg)] [] r2.2.2
            else
              if ((su r1.2.2 30 24 ((r1.2.2 30 24) - 1)) 45 ((su r1.2.2 30 24 ((r1.2.2 30 24) - 1)) 30 24).toNatClampNeg) = 19 then
                (C nM_puts k [.ref 30, .int ((su r1.2.2 30 24 ((r1.2.2 30 24) - 1)) 45 ((su r1.2.2 30 24 ((r1.2.2 30 24) - 1)) 30 24).toNatClampNeg)] (su (su r1.2.2 30 24 ((r1.2.2 30 24) - 1)) 30 25 (((su r1.2.2 30 24 ((r1.2.2 30 24) - 1)) 30 25) - 1))).bind fun r2 =>
                  R nM_unwinds k 0 [.ref 30, .int v1, .int ((su r1.2.2 30 24 ((r1.2.2 30 24) - 1)) 45 ((su r1.2.2 30 24 ((r1.2.2 30 24) - 1)) 30 24).toNatClampNeg)] [] r2.2.2
              else
                (C nM_puts k [.ref 30, .int ((su r1.2.2 30 24 ((r1.2.2 30 24) - 1)) 45 ((su r1.2.2 30 24 ((r1.2.2 30 24) - 1)) 30 24).toNatClampNeg)] (su (su r1.2.2 30 24 ((r1.2.2 30 24) - 1)) 30 25 (((su r1.2.2 30 24 ((r1.2.2 30 24) - 1)) 30 25) - 0))).bind fun r2 =>
                  R nM_unwinds k 0 [.ref 30, .int v1, .int ((su r1.2.2 30 24 ((r1.2.2 30 24) - 1)) 45 ((su r1.2.2 30 24 ((r1.2.2 30 24) - 1)) 30 24).toNatClampNeg)] [] r2.2.2
          else
            none
    else
      none
  else
    some (0, 0, σ) := (unr_R [0] nM_unwinds k 400 0 _ _ _).trans rfl
-- X5_holds
theorem eM_holds (k : Nat) (p1 : Int32) (σ : Sto) : C nM_holds k [.ref 30, .int p1] σ =
  if inb (σ 30 24) 200 = true then
    some (0, 0, (su (su σ 45 (σ 30 24).toNatClampNeg p1) 30 24 (((su σ 45 (σ 30 24).toNatClampNeg p1) 30 24) + 1)))
  else
    none := (unr_R [] nM_holds k 400 0 _ _ _).trans rfl
-- X5_opensOne
theorem eM_opensOne (k : Nat) (p1 : Int32) (σ : Sto) : C nM_opensOne k [.ref 30, .int p1] σ =
  if (σ 30 25) = 5 then
    some (0, 0, σ)
  else
    (C nM_holds k [.ref 30, .int p1] (su σ 30 25 ((σ 30 25) + 1))).bind fun r1 =>
      some (1, 0, r1.2.2) := (unr_R [] nM_opensOne k 400 0 _ _ _).trans rfl
-- X5_between
set_option maxRecDepth 1000000 in
theorem eM_between (k : Nat) (p1 : Int32) (σ : Sto) : C nM_between k [.ref 30, .int p1] σ =
  (C nM_rank k [.int p1] σ).bind fun r1 =>
    if r1.1 = 4 then
      (C nM_unwinds k [.ref 30, .int 5] r1.2.2).bind fun r2 =>
        (C nM_rank k [.int p1] r2.2.2).bind fun r3 =>
          if r3.1 = 4 then
            if 0 < (r3.2.2 30 24) then
              if inb ((r3.2.2 30 24) - 1) 200 = true then
                (C nM_rank k [.int (r3.2.2 45 ((r3.2.2 30 24) - 1).toNatClampNeg)] r3.2.2).bind fun r4 =>
                  if r4.1 = 4 then
                    some (0, 0, r4.2.2)
                  else
                    (C nM_holds k [.ref 30, .int p1] r4.2.2).bind fun r5 =>
                      some (1, 0, r5.2.2)
              else
                none
            else
              (C nM_holds k [.ref 30, .int p1] r3.2.2).bind fun r4 =>
                some (1, 0, r4.2.2)
          else
            (C nM_holds k [.ref 30, .int p1] r3.2.2).bind fun r4 =>
              some (1, 0, r4.2.2)
    else
      (C nM_rank k [.int p1] r1.2.2).bind fun r2 =>
        (C nM_unwinds k [.ref 30, .int r2.1] r2.2.2).bind fun r3 =>
          (C nM_rank k [.int p1] r3.2.2).bind fun r4 =>
            if r4.1 = 4 then
              if 0 < (r4.2.2 30 24) then
                if inb ((r4.2.2 30 24) - 1) 200 = true then
                  (C nM_rank k [.int (r4.2.2 45 ((r4.2.2 30 24) - 1).toNatClampNeg)] r4.2.2).bind fun r5 =>
                    if r5.1 = 4 then
                      some (0, 0, r5.2.2)
                    else
                      (C nM_holds k [.ref 30, .int p1] r5.2.2).bind fun r6 =>
                        some (1, 0, r6.2.2)
                else
                  none
              else
                (C nM_holds k [.ref 30, .int p1] r4.2.2).bind fun r5 =>
                  some (1, 0, r5.2.2)
            else
              (C nM_holds k [.ref 30, .int p1] r4.2.2).bind fun r5 =>
                some (1, 0, r5.2.2) := (unr_R [] nM_between k 400 0 _ _ _).trans rfl
-- X5_signOf
theorem eM_signOf (k : Nat) (σ : Sto) : C nM_signOf k [.ref 30] σ =
  if (σ 30 20) = 4 then
    some (11, 0, σ)
  else
    if (σ 30 20) = 5 then
      some (12, 0, σ)
    else
      if (σ 30 20) = 60 then
        some (14, 0, σ)
      else
        if (σ 30 20) = 61 then
          some (15, 0, σ)
        else
          if (σ 30 20) = 43 then
            some (16, 0, σ)
          else
            if (σ 30 20) = 45 then
              some (17, 0, σ)
            else
              if (σ 30 20) = 42 then
                some (18, 0, σ)
              else
                some ((-1), 0, σ) := (unr_R [] nM_signOf k 400 0 _ _ _).trans rfl
-- X5_eRead
theorem eM_eRead (k : Nat) (σ : Sto) : C nM_eRead k [.ref 30] σ =
  R nM_eRead k 10 [.ref 30, .int 1, .int 1, .null] [] (su (su σ 30 24 0) 30 25 0) := (unr_R [10, 22, 34, 53, 94, 133, 143] nM_eRead k 400 0 _ _ _).trans rfl
set_option maxRecDepth 1000000 in
theorem eM_eRead_10 (k : Nat) (v1 : Int32) (v2 : Int32) (u3 : Value) (σ : Sto) : R nM_eRead k 10 [.ref 30, .int v1, .int v2, u3] [] σ =
  (C nM_next k [.ref 30] σ).bind fun r1 =>
    if v1 = 0 then
      if (r1.2.2 30 20) = 59 then
        (C nM_unwinds k [.ref 30, .int 1] r1.2.2).bind fun r2 =>
          if (r2.2.2 30 24) = 0 then
            R nM_eRead k 94 [.ref 30, .int v1, .int v2, u3] [.int 1] r2.2.2
          else
            R nM_eRead k 94 [.ref 30, .int v1, .int v2, u3] [.int 0] r2.2.2
      else
        if (r1.2.2 30 20) = 41 then
          (C nM_unwinds k [.ref 30, .int 1] r1.2.2).bind fun r2 =>
            if (r2.2.2 30 24) = 0 then
              some (0, 0, r2.2.2)
            else
              (C nM_unwinds k [.ref 30, .int 7] (su (su r2.2.2 30 24 ((r2.2.2 30 24) - 1)) 30 25 (((su r2.2.2 30 24 ((r2.2.2 30 24) - 1)) 30 25) - 1))).bind fun r3 =>
                R nM_eRead k 10 [.ref 30, .int v1, .int v2, u3] [] r3.2.2
        else
          (C nM_signOf k [.ref 30] r1.2.2).bind fun r2 =>
            if r2.1 = (-1) then
              R nM_eRead k 133 [.ref 30, .int v1, .int v2, .int r2.1] [] r2.2.2
            else
              (C nM_between k [.ref 30, .int r2.1] r2.2.2).bind fun r3 =>
                if r3.1 = 0 then
                  R nM_eRead k 133 [.ref 30, .int v1, .int v2, .int r2.1] [] r3.2.2
                else
                  if 12 < r2.1 then
                    R nM_eRead k 143 [.ref 30, .int 1, .int v2, .int r2.1] [.int 0] r3.2.2
                  else
                    R nM_eRead k 143 [.ref 30, .int 1, .int v2, .int r2.1] [.int 1] r3.2.2
    else
      if (r1.2.2 30 20) = 1 then
        R nM_eRead k 22 [.ref 30, .int v1, .int v2, u3] [] r1.2.2
      else
        if (r1.2.2 30 20) = 2 then
          R nM_eRead k 22 [.ref 30, .int v1, .int v2, u3] [] r1.2.2
        else
          if (r1.2.2 30 20) = 6 then
            if v2 = 0 then
              R nM_eRead k 53 [.ref 30, .int v1, .int v2, u3] [] r1.2.2
            else
              (C nM_opensOne k [.ref 30, .int 13] r1.2.2).bind fun r2 =>
                if r2.1 = 0 then
                  some (0, 0, r2.2.2)
                else
                  R nM_eRead k 10 [.ref 30, .int v1, .int v2, u3] [] r2.2.2
          else
            R nM_eRead k 53 [.ref 30, .int v1, .int v2, u3] [] r1.2.2 := (unr_R [10, 22, 34, 53, 94, 133, 143] nM_eRead k 400 10 _ _ _).trans rfl
theorem eM_eRead_22 (k : Nat) (v1 : Int32) (v2 : Int32) (u3 : Value) (σ : Sto) : R nM_eRead k 22 [.ref 30, .int v1, .int v2, u3] [] σ =
  if (σ 30 20) = 1 then
    R nM_eRead k 34 [.ref 30, .int v1, .int v2, u3] [.int (100000 + (σ 30 21)), .ref 30] σ
  else
    R nM_eRead k 34 [.ref 30, .int v1, .int v2, u3] [.int (σ 30 21), .ref 30] σ := (unr_R [10, 22, 34, 53, 94, 133, 143] nM_eRead k 400 22 _ _ _).trans rfl
theorem eM_eRead_34 (k : Nat) (v1 : Int32) (v2 : Int32) (u3 : Value) (s0 : Int32) (σ : Sto) : R nM_eRead k 34 [.ref 30, .int v1, .int v2, u3] [.int s0, .ref 30] σ =
  (C nM_puts k [.ref 30, .int s0] σ).bind fun r1 =>
    (C nM_unwinds k [.ref 30, .int 7] r1.2.2).bind fun r2 =>
      R nM_eRead k 10 [.ref 30, .int 0, .int v2, u3] [] r2.2.2 := (unr_R [10, 22, 34, 53, 94, 133, 143] nM_eRead k 400 34 _ _ _).trans rfl
theorem eM_eRead_53 (k : Nat) (v1 : Int32) (v2 : Int32) (u3 : Value) (σ : Sto) : R nM_eRead k 53 [.ref 30, .int v1, .int v2, u3] [] σ =
  if (σ 30 20) = 45 then
    (C nM_opensOne k [.ref 30, .int 19] σ).bind fun r1 =>
      if r1.1 = 0 then
        some (0, 0, r1.2.2)
      else
        R nM_eRead k 10 [.ref 30, .int v1, .int 0, u3] [] r1.2.2
  else
    if (σ 30 20) = 40 then
      (C nM_opensOne k [.ref 30, .int 0] σ).bind fun r1 =>
        if r1.1 = 0 then
          some (0, 0, r1.2.2)
        else
          R nM_eRead k 10 [.ref 30, .int v1, .int 1, u3] [] r1.2.2
    else
      some (0, 0, σ) := (unr_R [10, 22, 34, 53, 94, 133, 143] nM_eRead k 400 53 _ _ _).trans rfl
theorem eM_eRead_94 (k : Nat) (v1 : Int32) (v2 : Int32) (u3 : Value) (s0 : Int32) (σ : Sto) : R nM_eRead k 94 [.ref 30, .int v1, .int v2, u3] [.int s0] σ =
  if nok 1 s0 = true then
    some (s0, 0, σ)
  else
    none := (unr_R [10, 22, 34, 53, 94, 133, 143] nM_eRead k 400 94 _ _ _).trans rfl
theorem eM_eRead_133 (k : Nat) (v1 : Int32) (v2 : Int32) (v3 : Int32) (σ : Sto) : R nM_eRead k 133 [.ref 30, .int v1, .int v2, .int v3] [] σ =
  some (0, 0, σ) := (unr_R [10, 22, 34, 53, 94, 133, 143] nM_eRead k 400 133 _ _ _).trans rfl
theorem eM_eRead_143 (k : Nat) (v1 : Int32) (v2 : Int32) (v3 : Int32) (s0 : Int32) (σ : Sto) : R nM_eRead k 143 [.ref 30, .int v1, .int v2, .int v3] [.int s0] σ =
  R nM_eRead k 10 [.ref 30, .int v1, .int s0, .int v3] [] σ := (unr_R [10, 22, 34, 53, 94, 133, 143] nM_eRead k 400 143 _ _ _).trans rfl
-- X5_text
theorem eM_text (k : Nat) (σ : Sto) : C nM_text k [.ref 30] σ =
  if (σ 30 9) = 6 then
    some ((-4), 0, σ)
  else
    R nM_text k 16 [.ref 30, .int 1, .int 0] [] (su (su σ 30 18 0) 30 26 0) := (unr_R [16, 33, 57] nM_text k 400 0 _ _ _).trans rfl
theorem eM_text_16 (k : Nat) (v1 : Int32) (v2 : Int32) (σ : Sto) : R nM_text k 16 [.ref 30, .int v1, .int v2] [] σ =
  if v2 < 3 then
    if v1 = 0 then
      R nM_text k 57 [.ref 30, .int v1, .int v2] [] σ
    else
      (C nM_next k [.ref 30] σ).bind fun r1 =>
        if (r1.2.2 30 20) = 3 then
          if (r1.2.2 30 21) = v2 then
            if inb ((4 * (r1.2.2 30 9)) + v2) 24 = true then
              (C nM_eRead k [.ref 30] (su r1.2.2 37 ((4 * (r1.2.2 30 9)) + v2).toNatClampNeg (r1.2.2 30 26))).bind fun r2 =>
                if r2.1 = 0 then
                  R nM_text k 16 [.ref 30, .int 0, .int (v2 + 1)] [] r2.2.2
                else
                  R nM_text k 16 [.ref 30, .int 1, .int (v2 + 1)] [] r2.2.2
            else
              none
          else
            R nM_text k 33 [.ref 30, .int v1, .int v2] [] r1.2.2
        else
          R nM_text k 33 [.ref 30, .int v1, .int v2] [] r1.2.2
  else
    R nM_text k 57 [.ref 30, .int v1, .int v2] [] σ := (unr_R [16, 33, 57] nM_text k 400 16 _ _ _).trans rfl
theorem eM_text_33 (k : Nat) (v1 : Int32) (v2 : Int32) (σ : Sto) : R nM_text k 33 [.ref 30, .int v1, .int v2] [] σ =
  if inb ((4 * (σ 30 9)) + v2) 24 = true then
    R nM_text k 16 [.ref 30, .int 0, .int (v2 + 1)] [] (su σ 37 ((4 * (σ 30 9)) + v2).toNatClampNeg (σ 30 26))
  else
    none := (unr_R [16, 33, 57] nM_text k 400 33 _ _ _).trans rfl
theorem eM_text_57 (k : Nat) (v1 : Int32) (v2 : Int32) (σ : Sto) : R nM_text k 57 [.ref 30, .int v1, .int v2] [] σ =
  if v1 = 0 then
    if inb ((4 * (σ 30 9)) + 3) 24 = true then
      if v1 = 0 then
        some (((-100) - ((su (su σ 37 ((4 * (σ 30 9)) + 3).toNatClampNeg (σ 30 26)) 30 6 0) 30 19)), 0, (su (su σ 37 ((4 * (σ 30 9)) + 3).toNatClampNeg (σ 30 26)) 30 6 0))
      else
        some ((((su (su (su σ 37 ((4 * (σ 30 9)) + 3).toNatClampNeg (σ 30 26)) 30 6 0) 30 9 (((su (su σ 37 ((4 * (σ 30 9)) + 3).toNatClampNeg (σ 30 26)) 30 6 0) 30 9) + 1)) 30 9) - 1), 0, (su (su (su σ 37 ((4 * (σ 30 9)) + 3).toNatClampNeg (σ 30 26)) 30 6 0) 30 9 (((su (su σ 37 ((4 * (σ 30 9)) + 3).toNatClampNeg (σ 30 26)) 30 6 0) 30 9) + 1)))
    else
      none
  else
    (C nM_next k [.ref 30] σ).bind fun r1 =>
      if (r1.2.2 30 20) = 0 then
        if inb ((4 * (r1.2.2 30 9)) + 3) 24 = true then
          some ((((su (su (su r1.2.2 37 ((4 * (r1.2.2 30 9)) + 3).toNatClampNeg (r1.2.2 30 26)) 30 6 0) 30 9 (((su (su r1.2.2 37 ((4 * (r1.2.2 30 9)) + 3).toNatClampNeg (r1.2.2 30 26)) 30 6 0) 30 9) + 1)) 30 9) - 1), 0, (su (su (su r1.2.2 37 ((4 * (r1.2.2 30 9)) + 3).toNatClampNeg (r1.2.2 30 26)) 30 6 0) 30 9 (((su (su r1.2.2 37 ((4 * (r1.2.2 30 9)) + 3).toNatClampNeg (r1.2.2 30 26)) 30 6 0) 30 9) + 1)))
        else
          none
      else
        if inb ((4 * (r1.2.2 30 9)) + 3) 24 = true then
          some (((-100) - ((su (su r1.2.2 37 ((4 * (r1.2.2 30 9)) + 3).toNatClampNeg (r1.2.2 30 26)) 30 6 0) 30 19)), 0, (su (su r1.2.2 37 ((4 * (r1.2.2 30 9)) + 3).toNatClampNeg (r1.2.2 30 26)) 30 6 0))
        else
          none := (unr_R [16, 33, 57] nM_text k 400 57 _ _ _).trans rfl
-- X5_two
set_option maxRecDepth 1000000 in
theorem eM_two (k : Nat) (p1 : Int32) (p2 : Int32) (p3 : Int32) (σ : Sto) : C nM_two k [.int p1, .int p2, .int p3] σ =
  if p1 = 11 then
    if p2 = 0 then
      if p3 = 0 then
        some (0, 0, σ)
      else
        some (1, 0, σ)
    else
      some (1, 0, σ)
  else
    if p1 = 12 then
      if p2 = 0 then
        some (0, 0, σ)
      else
        if p3 = 0 then
          some (0, 0, σ)
        else
          some (1, 0, σ)
    else
      if p1 = 13 then
        some ((p2 * p3), 0, σ)
      else
        if p1 = 14 then
          if p2 < p3 then
            some (1, 0, σ)
          else
            some (0, 0, σ)
        else
          if p1 = 15 then
            if p2 = p3 then
              some (1, 0, σ)
            else
              some (0, 0, σ)
          else
            if p1 = 16 then
              some ((p2 + p3), 0, σ)
            else
              if p1 = 17 then
                some ((p2 - p3), 0, σ)
              else
                some ((p2 * p3), 0, σ) := (unr_R [] nM_two k 400 0 _ _ _).trans rfl
-- X5_says
theorem eM_says (k : Nat) (p1 : Int32) (σ : Sto) : C nM_says k [.ref 30, .int p1] σ =
  if inb ((4 * (σ 30 10)) + p1) 24 = true then
    R nM_says k 12 [.ref 30, .int p1, .int 0, .int (σ 37 ((4 * (σ 30 10)) + p1).toNatClampNeg), .null] [] σ
  else
    none := (unr_R [12, 25, 41, 58, 96] nM_says k 400 0 _ _ _).trans rfl
theorem eM_says_12 (k : Nat) (v1 : Int32) (v2 : Int32) (v3 : Int32) (u4 : Value) (σ : Sto) : R nM_says k 12 [.ref 30, .int v1, .int v2, .int v3, u4] [] σ =
  if inb (((4 * (σ 30 10)) + v1) + 1) 24 = true then
    if v3 < (σ 37 (((4 * (σ 30 10)) + v1) + 1).toNatClampNeg) then
      R nM_says k 25 [.ref 30, .int v1, .int v2, .int v3, u4] [] σ
    else
      some ((σ 46 (0 : Int32).toNatClampNeg), 0, σ)
  else
    none := (unr_R [12, 25, 41, 58, 96] nM_says k 400 12 _ _ _).trans rfl
theorem eM_says_25 (k : Nat) (v1 : Int32) (v2 : Int32) (v3 : Int32) (u4 : Value) (σ : Sto) : R nM_says k 25 [.ref 30, .int v1, .int v2, .int v3, u4] [] σ =
  if inb ((200 * (σ 30 10)) + v3) 1200 = true then
    if (σ 36 ((200 * (σ 30 10)) + v3).toNatClampNeg) < 100000 then
      if (σ 36 ((200 * (σ 30 10)) + v3).toNatClampNeg) < 11 then
        R nM_says k 41 [.ref 30, .int v1, .int v2, .int v3, .int (σ 36 ((200 * (σ 30 10)) + v3).toNatClampNeg)] [] σ
      else
        R nM_says k 58 [.ref 30, .int v1, .int v2, .int v3, .int (σ 36 ((200 * (σ 30 10)) + v3).toNatClampNeg)] [] σ
    else
      R nM_says k 41 [.ref 30, .int v1, .int v2, .int v3, .int (σ 36 ((200 * (σ 30 10)) + v3).toNatClampNeg)] [] σ
  else
    none := (unr_R [12, 25, 41, 58, 96] nM_says k 400 25 _ _ _).trans rfl
theorem eM_says_41 (k : Nat) (v1 : Int32) (v2 : Int32) (v3 : Int32) (v4 : Int32) (σ : Sto) : R nM_says k 41 [.ref 30, .int v1, .int v2, .int v3, .int v4] [] σ =
  if v4 < 11 then
    if inb v4 6 = true then
      if inb v2 200 = true then
        R nM_says k 12 [.ref 30, .int v1, .int (v2 + 1), .int (v3 + 1), .int v4] [] (su σ 46 v2.toNatClampNeg (σ 47 v4.toNatClampNeg))
      else
        none
    else
      none
  else
    if inb v2 200 = true then
      R nM_says k 12 [.ref 30, .int v1, .int (v2 + 1), .int (v3 + 1), .int v4] [] (su σ 46 v2.toNatClampNeg (v4 - 100000))
    else
      none := (unr_R [12, 25, 41, 58, 96] nM_says k 400 41 _ _ _).trans rfl
theorem eM_says_58 (k : Nat) (v1 : Int32) (v2 : Int32) (v3 : Int32) (v4 : Int32) (σ : Sto) : R nM_says k 58 [.ref 30, .int v1, .int v2, .int v3, .int v4] [] σ =
  if v4 = 13 then
    if inb (v2 - 1) 200 = true then
      if (σ 46 (v2 - 1).toNatClampNeg) = 0 then
        if inb (v2 - 1) 200 = true then
          R nM_says k 12 [.ref 30, .int v1, .int v2, .int (v3 + 1), .int v4] [] (su σ 46 (v2 - 1).toNatClampNeg 1)
        else
          none
      else
        if inb (v2 - 1) 200 = true then
          R nM_says k 12 [.ref 30, .int v1, .int v2, .int (v3 + 1), .int v4] [] (su σ 46 (v2 - 1).toNatClampNeg 0)
        else
          none
    else
      none
  else
    if v4 = 19 then
      if inb (v2 - 1) 200 = true then
        if inb (v2 - 1) 200 = true then
          R nM_says k 12 [.ref 30, .int v1, .int v2, .int (v3 + 1), .int v4] [] (su σ 46 (v2 - 1).toNatClampNeg (-(σ 46 (v2 - 1).toNatClampNeg)))
        else
          none
      else
        none
    else
      R nM_says k 96 [.ref 30, .int v1, .int (v2 + (-1)), .int v3, .int v4] [] σ := (unr_R [12, 25, 41, 58, 96] nM_says k 400 58 _ _ _).trans rfl
theorem eM_says_96 (k : Nat) (v1 : Int32) (v2 : Int32) (v3 : Int32) (v4 : Int32) (σ : Sto) : R nM_says k 96 [.ref 30, .int v1, .int v2, .int v3, .int v4] [] σ =
  if inb (v2 - 1) 200 = true then
    if inb v2 200 = true then
      (C nM_two k [.int v4, .int (σ 46 (v2 - 1).toNatClampNeg), .int (σ 46 v2.toNatClampNeg)] σ).bind fun r1 =>
        if inb (v2 - 1) 200 = true then
          R nM_says k 12 [.ref 30, .int v1, .int v2, .int (v3 + 1), .int v4] [] (su r1.2.2 46 (v2 - 1).toNatClampNeg r1.1)
        else
          none
    else
      none
  else
    none := (unr_R [12, 25, 41, 58, 96] nM_says k 400 96 _ _ _).trans rfl
-- X5_force
theorem eM_force (k : Nat) (p1 : Int32) (σ : Sto) : C nM_force k [.ref 30, .int p1] σ =
  (C nM_in k [.int p1, .int 0, .int ((σ 30 9) - 1)] σ).bind fun r1 =>
    if r1.1 = 0 then
      some ((-2), 0, r1.2.2)
    else
      some ((r1.2.2 30 10), 0, (su r1.2.2 30 10 p1)) := (unr_R [] nM_force k 400 0 _ _ _).trans rfl
-- X5_asksOf
set_option maxRecDepth 1000000 in
theorem eM_asksOf (k : Nat) (p1 : Int32) (p2 : Int32) (σ : Sto) : C nM_asksOf k [.ref 30, .int p1, .int p2] σ =
  (C nM_isAt k [.ref 30, .int p2] σ).bind fun r1 =>
    if r1.1 = 0 then
      if inb ((3 * p2) + 2) 18 = true then
        (C nM_seenSet k [.ref 30] (su (su (su r1.2.2 47 (0 : Int32).toNatClampNeg 0) 47 (1 : Int32).toNatClampNeg ((su r1.2.2 47 (0 : Int32).toNatClampNeg 0) 33 ((3 * p2) + 2).toNatClampNeg)) 47 (2 : Int32).toNatClampNeg ((su (su r1.2.2 47 (0 : Int32).toNatClampNeg 0) 47 (1 : Int32).toNatClampNeg ((su r1.2.2 47 (0 : Int32).toNatClampNeg 0) 33 ((3 * p2) + 2).toNatClampNeg)) 34 (3 : Int32).toNatClampNeg))).bind fun r2 =>
          (C nM_onesOf k [.int r2.1] r2.2.2).bind fun r3 =>
            if inb p2 6 = true then
              (C nM_says k [.ref 30, .int p1] (su (su (su r3.2.2 47 (3 : Int32).toNatClampNeg r3.1) 47 (4 : Int32).toNatClampNeg ((su r3.2.2 47 (3 : Int32).toNatClampNeg r3.1) 34 (2 : Int32).toNatClampNeg)) 47 (5 : Int32).toNatClampNeg ((su (su r3.2.2 47 (3 : Int32).toNatClampNeg r3.1) 47 (4 : Int32).toNatClampNeg ((su r3.2.2 47 (3 : Int32).toNatClampNeg r3.1) 34 (2 : Int32).toNatClampNeg)) 32 p2.toNatClampNeg))).bind fun r4 =>
                if p1 = 0 then
                  (C nM_within k [.int r4.1, .int 0, .int 99] r4.2.2).bind fun r5 =>
                    some (r5.1, 0, r5.2.2)
                else
                  (C nM_within k [.int r4.1, .int (-99), .int 99] r4.2.2).bind fun r5 =>
                    some (r5.1, 0, r5.2.2)
            else
              none
      else
        none
    else
      if inb (3 * p2) 18 = true then
        if inb ((3 * p2) + 2) 18 = true then
          (C nM_seenSet k [.ref 30] (su (su (su r1.2.2 47 (0 : Int32).toNatClampNeg (r1.2.2 33 (3 * p2).toNatClampNeg)) 47 (1 : Int32).toNatClampNeg ((su r1.2.2 47 (0 : Int32).toNatClampNeg (r1.2.2 33 (3 * p2).toNatClampNeg)) 33 ((3 * p2) + 2).toNatClampNeg)) 47 (2 : Int32).toNatClampNeg ((su (su r1.2.2 47 (0 : Int32).toNatClampNeg (r1.2.2 33 (3 * p2).toNatClampNeg)) 47 (1 : Int32).toNatClampNeg ((su r1.2.2 47 (0 : Int32).toNatClampNeg (r1.2.2 33 (3 * p2).toNatClampNeg)) 33 ((3 * p2) + 2).toNatClampNeg)) 34 (3 : Int32).toNatClampNeg))).bind fun r2 =>
            (C nM_onesOf k [.int r2.1] r2.2.2).bind fun r3 =>
              if inb p2 6 = true then
                (C nM_says k [.ref 30, .int p1] (su (su (su r3.2.2 47 (3 : Int32).toNatClampNeg r3.1) 47 (4 : Int32).toNatClampNeg ((su r3.2.2 47 (3 : Int32).toNatClampNeg r3.1) 34 (2 : Int32).toNatClampNeg)) 47 (5 : Int32).toNatClampNeg ((su (su r3.2.2 47 (3 : Int32).toNatClampNeg r3.1) 47 (4 : Int32).toNatClampNeg ((su r3.2.2 47 (3 : Int32).toNatClampNeg r3.1) 34 (2 : Int32).toNatClampNeg)) 32 p2.toNatClampNeg))).bind fun r4 =>
                  if p1 = 0 then
                    (C nM_within k [.int r4.1, .int 0, .int 99] r4.2.2).bind fun r5 =>
                      some (r5.1, 0, r5.2.2)
                  else
                    (C nM_within k [.int r4.1, .int (-99), .int 99] r4.2.2).bind fun r5 =>
                      some (r5.1, 0, r5.2.2)
              else
                none
        else
          none
      else
        none := (unr_R [] nM_asksOf k 400 0 _ _ _).trans rfl
-- X5_asks
theorem eM_asks (k : Nat) (p1 : Int32) (p2 : Int32) (σ : Sto) : C nM_asks k [.ref 30, .int p1, .int p2] σ =
  (C nM_in k [.int p1, .int 0, .int 2] σ).bind fun r1 =>
    if r1.1 = 0 then
      some ((-1000), 0, r1.2.2)
    else
      (C nM_isOne k [.ref 30, .int p2] r1.2.2).bind fun r2 =>
        if r2.1 = 0 then
          some ((-1000), 0, r2.2.2)
        else
          (C nM_asksOf k [.ref 30, .int p1, .int p2] r2.2.2).bind fun r3 =>
            some (r3.1, 0, r3.2.2) := (unr_R [] nM_asks k 400 0 _ _ _).trans rfl
-- X5_traveller
theorem eM_traveller (k : Nat) (p1 : Int32) (p2 : Int32) (σ : Sto) : C nM_traveller k [.ref 30, .int p1, .int p2] σ =
  (C nM_in k [.int p1, .int 0, .int 59] σ).bind fun r1 =>
    if r1.1 = 0 then
      some ((-2), 0, r1.2.2)
    else
      (C nM_in k [.int p2, .int 0, .int 63] r1.2.2).bind fun r2 =>
        if r2.1 = 0 then
          some ((-2), 0, r2.2.2)
        else
          if (r2.2.2 30 0) = 6 then
            some ((-4), 0, r2.2.2)
          else
            if inb (r2.2.2 30 0) 6 = true then
              R nM_traveller k 26 [.ref 30, .int p1, .int p2] [] (su r2.2.2 31 (r2.2.2 30 0).toNatClampNeg (p1 / 10))
            else
              none := (unr_R [26, 34, 42, 52, 62] nM_traveller k 400 0 _ _ _).trans rfl
theorem eM_traveller_26 (k : Nat) (v1 : Int32) (v2 : Int32) (σ : Sto) : R nM_traveller k 26 [.ref 30, .int v1, .int v2] [] σ =
  if inb (σ 30 0) 6 = true then
    R nM_traveller k 34 [.ref 30, .int v1, .int v2] [] (su σ 32 (σ 30 0).toNatClampNeg (v1 - v1 / 10 * 10))
  else
    none := (unr_R [26, 34, 42, 52, 62] nM_traveller k 400 26 _ _ _).trans rfl
theorem eM_traveller_34 (k : Nat) (v1 : Int32) (v2 : Int32) (σ : Sto) : R nM_traveller k 34 [.ref 30, .int v1, .int v2] [] σ =
  if inb (3 * (σ 30 0)) 18 = true then
    R nM_traveller k 42 [.ref 30, .int v1, .int v2] [] (su σ 33 (3 * (σ 30 0)).toNatClampNeg v2)
  else
    none := (unr_R [26, 34, 42, 52, 62] nM_traveller k 400 34 _ _ _).trans rfl
theorem eM_traveller_42 (k : Nat) (v1 : Int32) (v2 : Int32) (σ : Sto) : R nM_traveller k 42 [.ref 30, .int v1, .int v2] [] σ =
  if inb ((3 * (σ 30 0)) + 1) 18 = true then
    R nM_traveller k 52 [.ref 30, .int v1, .int v2] [] (su σ 33 ((3 * (σ 30 0)) + 1).toNatClampNeg 0)
  else
    none := (unr_R [26, 34, 42, 52, 62] nM_traveller k 400 42 _ _ _).trans rfl
theorem eM_traveller_52 (k : Nat) (v1 : Int32) (v2 : Int32) (σ : Sto) : R nM_traveller k 52 [.ref 30, .int v1, .int v2] [] σ =
  if inb ((3 * (σ 30 0)) + 2) 18 = true then
    R nM_traveller k 62 [.ref 30, .int v1, .int v2] [] (su σ 33 ((3 * (σ 30 0)) + 2).toNatClampNeg 0)
  else
    none := (unr_R [26, 34, 42, 52, 62] nM_traveller k 400 52 _ _ _).trans rfl
theorem eM_traveller_62 (k : Nat) (v1 : Int32) (v2 : Int32) (σ : Sto) : R nM_traveller k 62 [.ref 30, .int v1, .int v2] [] σ =
  some ((((su σ 30 0 ((σ 30 0) + 1)) 30 0) - 1), 0, (su σ 30 0 ((σ 30 0) + 1))) := (unr_R [26, 34, 42, 52, 62] nM_traveller k 400 62 _ _ _).trans rfl
-- X5_put
theorem eM_put (k : Nat) (p1 : Int32) (p2 : Int32) (p3 : Int32) (σ : Sto) : C nM_put k [.ref 30, .int p1, .int p2, .int p3] σ =
  (C nM_isOne k [.ref 30, .int p1] σ).bind fun r1 =>
    if r1.1 = 0 then
      some ((-5), 0, r1.2.2)
    else
      if p2 = 0 then
        R nM_put k 16 [.ref 30, .int p1, .int p2, .int p3, .null, .null, .null] [.int 63] r1.2.2
      else
        if p2 = 1 then
          R nM_put k 16 [.ref 30, .int p1, .int p2, .int p3, .null, .null, .null] [.int 1] r1.2.2
        else
          R nM_put k 16 [.ref 30, .int p1, .int p2, .int p3, .null, .null, .null] [.int 99] r1.2.2 := (unr_R [16, 28] nM_put k 400 0 _ _ _).trans rfl
theorem eM_put_16 (k : Nat) (v1 : Int32) (v2 : Int32) (v3 : Int32) (s0 : Int32) (σ : Sto) : R nM_put k 16 [.ref 30, .int v1, .int v2, .int v3, .null, .null, .null] [.int s0] σ =
  (C nM_in k [.int v2, .int 0, .int 2] σ).bind fun r1 =>
    if r1.1 = 0 then
      some ((-7), 0, r1.2.2)
    else
      if v2 = 0 then
        R nM_put k 28 [.ref 30, .int v1, .int v2, .int v3, .int s0, .null, .null] [.int (-1), .int v3] r1.2.2
      else
        R nM_put k 28 [.ref 30, .int v1, .int v2, .int v3, .int s0, .null, .null] [.int 0, .int v3] r1.2.2 := (unr_R [16, 28] nM_put k 400 16 _ _ _).trans rfl
theorem eM_put_28 (k : Nat) (v1 : Int32) (v2 : Int32) (v3 : Int32) (v4 : Int32) (s0 : Int32) (s1 : Int32) (σ : Sto) : R nM_put k 28 [.ref 30, .int v1, .int v2, .int v3, .int v4, .null, .null] [.int s0, .int s1] σ =
  (C nM_in k [.int s1, .int s0, .int v4] σ).bind fun r1 =>
    if r1.1 = 0 then
      some ((-7), 0, r1.2.2)
    else
      if v2 = 0 then
        if (r1.2.2 34 (1 : Int32).toNatClampNeg) = v1 then
          some ((-7), 0, r1.2.2)
        else
          if inb ((3 * v1) + v2) 18 = true then
            if inb ((3 * v1) + v2) 18 = true then
              some ((r1.2.2 33 ((3 * v1) + v2).toNatClampNeg), 0, (su r1.2.2 33 ((3 * v1) + v2).toNatClampNeg v3))
            else
              none
          else
            none
      else
        if inb ((3 * v1) + v2) 18 = true then
          if inb ((3 * v1) + v2) 18 = true then
            some ((r1.2.2 33 ((3 * v1) + v2).toNatClampNeg), 0, (su r1.2.2 33 ((3 * v1) + v2).toNatClampNeg v3))
          else
            none
        else
          none := (unr_R [16, 28] nM_put k 400 28 _ _ _).trans rfl
-- X5_gapOf
theorem eM_gapOf (k : Nat) (p1 : Int32) (σ : Sto) : C nM_gapOf k [.ref 30, .int p1] σ =
  if inb p1 6 = true then
    if (σ 31 p1.toNatClampNeg) = 5 then
      some (0, 0, σ)
    else
      (C nM_asksOf k [.ref 30, .int 0, .int p1] σ).bind fun r1 =>
        if inb p1 6 = true then
          if (r1.2.2 31 p1.toNatClampNeg) = 1 then
            some ((r1.1 / 2), 0, r1.2.2)
          else
            if inb p1 6 = true then
              if (r1.2.2 31 p1.toNatClampNeg) = 3 then
                some ((r1.1 / 2), 0, r1.2.2)
              else
                if inb p1 6 = true then
                  if (r1.2.2 31 p1.toNatClampNeg) = 0 then
                    some (r1.1, 0, r1.2.2)
                  else
                    if inb p1 6 = true then
                      some ((r1.1 + (r1.2.2 32 p1.toNatClampNeg)), 0, r1.2.2)
                    else
                      none
                else
                  none
            else
              none
        else
          none
  else
    none := (unr_R [] nM_gapOf k 400 0 _ _ _).trans rfl
-- X5_likedOf
set_option maxRecDepth 1000000 in
theorem eM_likedOf (k : Nat) (p1 : Int32) (σ : Sto) : C nM_likedOf k [.ref 30, .int p1] σ =
  if inb p1 6 = true then
    if (σ 31 p1.toNatClampNeg) = 5 then
      if inb p1 6 = true then
        some ((10 * (σ 32 p1.toNatClampNeg)), 0, σ)
      else
        none
    else
      (C nM_asksOf k [.ref 30, .int 1, .int p1] σ).bind fun r1 =>
        if inb p1 6 = true then
          if (r1.2.2 31 p1.toNatClampNeg) = 1 then
            if inb p1 6 = true then
              some ((r1.1 - (r1.2.2 32 p1.toNatClampNeg)), 0, r1.2.2)
            else
              none
          else
            if (r1.2.2 31 p1.toNatClampNeg) = 2 then
              some (r1.1, 0, r1.2.2)
            else
              if (r1.2.2 31 p1.toNatClampNeg) = 3 then
                if ((r1.2.2 34 (3 : Int32).toNatClampNeg) - (r1.2.2 34 (3 : Int32).toNatClampNeg) / 4 * 4) = 0 then
                  some (99, 0, r1.2.2)
                else
                  if inb p1 6 = true then
                    some ((r1.1 - (r1.2.2 32 p1.toNatClampNeg)), 0, r1.2.2)
                  else
                    none
              else
                if (r1.2.2 31 p1.toNatClampNeg) = 4 then
                  some ((-r1.1), 0, r1.2.2)
                else
                  some (r1.1, 0, r1.2.2)
        else
          none
  else
    none := (unr_R [] nM_likedOf k 400 0 _ _ _).trans rfl
-- X5_walksOf
set_option maxRecDepth 1000000 in
theorem eM_walksOf (k : Nat) (p1 : Int32) (σ : Sto) : C nM_walksOf k [.ref 30, .int p1] σ =
  if inb p1 6 = true then
    if (σ 31 p1.toNatClampNeg) = 4 then
      if ((σ 34 (3 : Int32).toNatClampNeg) - (σ 34 (3 : Int32).toNatClampNeg) / 2 * 2) = 0 then
        if inb p1 6 = true then
          some ((σ 32 p1.toNatClampNeg), 0, σ)
        else
          none
      else
        if inb p1 6 = true then
          some ((-(σ 32 p1.toNatClampNeg)), 0, σ)
        else
          none
    else
      (C nM_asksOf k [.ref 30, .int 2, .int p1] σ).bind fun r1 =>
        if inb p1 6 = true then
          if (r1.2.2 31 p1.toNatClampNeg) = 2 then
            (C nM_isAlone k [.ref 30, .int p1] r1.2.2).bind fun r2 =>
              if r2.1 = 0 then
                some (r1.1, 0, r2.2.2)
              else
                some ((r1.1 + 1), 0, r2.2.2)
          else
            if (r1.2.2 31 p1.toNatClampNeg) = 3 then
              (C nM_isAlone k [.ref 30, .int p1] r1.2.2).bind fun r2 =>
                if r2.1 = 0 then
                  some (((-1) - r1.1), 0, r2.2.2)
                else
                  some (0, 0, r2.2.2)
            else
              some (r1.1, 0, r1.2.2)
        else
          none
  else
    none := (unr_R [] nM_walksOf k 400 0 _ _ _).trans rfl
-- X5_farOf
theorem eM_farOf (k : Nat) (p1 : Int32) (σ : Sto) : C nM_farOf k [.ref 30, .int p1] σ =
  R nM_farOf k 4 [.ref 30, .int p1, .int (-1), .int 0, .null] [] σ := (unr_R [4, 39] nM_farOf k 400 0 _ _ _).trans rfl
theorem eM_farOf_4 (k : Nat) (v1 : Int32) (v2 : Int32) (v3 : Int32) (u4 : Value) (σ : Sto) : R nM_farOf k 4 [.ref 30, .int v1, .int v2, .int v3, u4] [] σ =
  if v3 < (σ 30 0) then
    (C nM_isAt k [.ref 30, .int v1] σ).bind fun r1 =>
      if r1.1 = 0 then
        some (v2, 0, r1.2.2)
      else
        if v3 = v1 then
          R nM_farOf k 4 [.ref 30, .int v1, .int v2, .int (v3 + 1), u4] [] r1.2.2
        else
          (C nM_isSeen k [.ref 30, .int v3] r1.2.2).bind fun r2 =>
            if r2.1 = 0 then
              R nM_farOf k 4 [.ref 30, .int v1, .int v2, .int (v3 + 1), u4] [] r2.2.2
            else
              if inb (3 * v3) 18 = true then
                if inb (3 * v1) 18 = true then
                  if ((r2.2.2 33 (3 * v3).toNatClampNeg) - (r2.2.2 33 (3 * v1).toNatClampNeg)) < 0 then
                    R nM_farOf k 39 [.ref 30, .int v1, .int v2, .int v3, .int ((r2.2.2 33 (3 * v3).toNatClampNeg) - (r2.2.2 33 (3 * v1).toNatClampNeg))] [.int (-((r2.2.2 33 (3 * v3).toNatClampNeg) - (r2.2.2 33 (3 * v1).toNatClampNeg)))] r2.2.2
                  else
                    R nM_farOf k 39 [.ref 30, .int v1, .int v2, .int v3, .int ((r2.2.2 33 (3 * v3).toNatClampNeg) - (r2.2.2 33 (3 * v1).toNatClampNeg))] [.int ((r2.2.2 33 (3 * v3).toNatClampNeg) - (r2.2.2 33 (3 * v1).toNatClampNeg))] r2.2.2
                else
                  none
              else
                none
  else
    some (v2, 0, σ) := (unr_R [4, 39] nM_farOf k 400 4 _ _ _).trans rfl
theorem eM_farOf_39 (k : Nat) (v1 : Int32) (v2 : Int32) (v3 : Int32) (v4 : Int32) (s0 : Int32) (σ : Sto) : R nM_farOf k 39 [.ref 30, .int v1, .int v2, .int v3, .int v4] [.int s0] σ =
  if v2 = (-1) then
    R nM_farOf k 4 [.ref 30, .int v1, .int s0, .int (v3 + 1), .int s0] [] σ
  else
    if s0 < v2 then
      R nM_farOf k 4 [.ref 30, .int v1, .int s0, .int (v3 + 1), .int s0] [] σ
    else
      R nM_farOf k 4 [.ref 30, .int v1, .int v2, .int (v3 + 1), .int s0] [] σ := (unr_R [4, 39] nM_farOf k 400 39 _ _ _).trans rfl
-- X5_isAlone
theorem eM_isAlone (k : Nat) (p1 : Int32) (σ : Sto) : C nM_isAlone k [.ref 30, .int p1] σ =
  (C nM_isSeen k [.ref 30, .int p1] σ).bind fun r1 =>
    if r1.1 = 0 then
      some (0, 0, r1.2.2)
    else
      (C nM_farOf k [.ref 30, .int p1] r1.2.2).bind fun r2 =>
        if r2.1 = (-1) then
          some (1, 0, r2.2.2)
        else
          (C nM_gapOf k [.ref 30, .int p1] r2.2.2).bind fun r3 =>
            if r2.1 < r3.1 then
              some (0, 0, r3.2.2)
            else
              some (1, 0, r3.2.2) := (unr_R [] nM_isAlone k 400 0 _ _ _).trans rfl
-- X5_aloneSet
theorem eM_aloneSet (k : Nat) (σ : Sto) : C nM_aloneSet k [.ref 30] σ =
  R nM_aloneSet k 4 [.ref 30, .int 0, .int 0] [] σ := (unr_R [4] nM_aloneSet k 400 0 _ _ _).trans rfl
theorem eM_aloneSet_4 (k : Nat) (v1 : Int32) (v2 : Int32) (σ : Sto) : R nM_aloneSet k 4 [.ref 30, .int v1, .int v2] [] σ =
  if v2 < (σ 30 0) then
    (C nM_isAlone k [.ref 30, .int v2] σ).bind fun r1 =>
      if r1.1 = 0 then
        R nM_aloneSet k 4 [.ref 30, .int (v1 ||| 0), .int (v2 + 1)] [] r1.2.2
      else
        R nM_aloneSet k 4 [.ref 30, .int (v1 ||| (1 <<< (v2 &&& 31))), .int (v2 + 1)] [] r1.2.2
  else
    some (v1, 0, σ) := (unr_R [4] nM_aloneSet k 400 4 _ _ _).trans rfl
-- X5_choice
theorem eM_choice (k : Nat) (σ : Sto) : C nM_choice k [.ref 30] σ =
  R nM_choice k 6 [.ref 30, .int (-1), .int 0, .int 0, .null, .null] [] σ := (unr_R [6] nM_choice k 400 0 _ _ _).trans rfl
theorem eM_choice_6 (k : Nat) (v1 : Int32) (v2 : Int32) (v3 : Int32) (u4 : Value) (u5 : Value) (σ : Sto) : R nM_choice k 6 [.ref 30, .int v1, .int v2, .int v3, u4, u5] [] σ =
  if v3 < (σ 30 0) then
    (C nM_isAlone k [.ref 30, .int v3] σ).bind fun r1 =>
      if r1.1 = 0 then
        R nM_choice k 6 [.ref 30, .int v1, .int v2, .int (v3 + 1), u4, u5] [] r1.2.2
      else
        (C nM_likedOf k [.ref 30, .int v3] r1.2.2).bind fun r2 =>
          if v1 = (-1) then
            R nM_choice k 6 [.ref 30, .int v3, .int r2.1, .int (v3 + 1), .int r2.1, .int 1] [] r2.2.2
          else
            if v2 < r2.1 then
              R nM_choice k 6 [.ref 30, .int v3, .int r2.1, .int (v3 + 1), .int r2.1, .int 1] [] r2.2.2
            else
              R nM_choice k 6 [.ref 30, .int v1, .int v2, .int (v3 + 1), .int r2.1, .int 0] [] r2.2.2
  else
    some (v1, 0, σ) := (unr_R [6] nM_choice k 400 6 _ _ _).trans rfl
-- X5_told
set_option maxRecDepth 1000000 in
theorem eM_told (k : Nat) (p1 : Int32) (p2 : Int32) (σ : Sto) : C nM_told k [.ref 30, .int p1, .int p2] σ =
  (C nM_isOne k [.ref 30, .int p1] σ).bind fun r1 =>
    if r1.1 = 0 then
      some ((-5), 0, r1.2.2)
    else
      if p2 = 0 then
        if inb ((3 * p1) + p2) 18 = true then
          some ((r1.2.2 33 ((3 * p1) + p2).toNatClampNeg), 0, r1.2.2)
        else
          none
      else
        if p2 = 1 then
          if inb ((3 * p1) + p2) 18 = true then
            some ((r1.2.2 33 ((3 * p1) + p2).toNatClampNeg), 0, r1.2.2)
          else
            none
        else
          if p2 = 2 then
            if inb ((3 * p1) + p2) 18 = true then
              some ((r1.2.2 33 ((3 * p1) + p2).toNatClampNeg), 0, r1.2.2)
            else
              none
          else
            if p2 = 3 then
              if inb p1 6 = true then
                some ((r1.2.2 31 p1.toNatClampNeg), 0, r1.2.2)
              else
                none
            else
              if p2 = 4 then
                if inb p1 6 = true then
                  some ((r1.2.2 32 p1.toNatClampNeg), 0, r1.2.2)
                else
                  none
              else
                if p2 = 5 then
                  (C nM_gapOf k [.ref 30, .int p1] r1.2.2).bind fun r2 =>
                    some (r2.1, 0, r2.2.2)
                else
                  if p2 = 6 then
                    (C nM_likedOf k [.ref 30, .int p1] r1.2.2).bind fun r2 =>
                      some ((1000 + r2.1), 0, r2.2.2)
                  else
                    if p2 = 7 then
                      (C nM_walksOf k [.ref 30, .int p1] r1.2.2).bind fun r2 =>
                        some ((1000 + r2.1), 0, r2.2.2)
                    else
                      if p2 = 8 then
                        (C nM_isAlone k [.ref 30, .int p1] r1.2.2).bind fun r2 =>
                          if r2.1 = 0 then
                            R nM_told k 50 [.ref 30, .int p1, .int p2] [.int 0] r2.2.2
                          else
                            R nM_told k 50 [.ref 30, .int p1, .int p2] [.int 1] r2.2.2
                      else
                        if p2 = 9 then
                          (C nM_farOf k [.ref 30, .int p1] r1.2.2).bind fun r2 =>
                            some (r2.1, 0, r2.2.2)
                        else
                          some ((-7), 0, r1.2.2) := (unr_R [50] nM_told k 400 0 _ _ _).trans rfl
theorem eM_told_50 (k : Nat) (v1 : Int32) (v2 : Int32) (s0 : Int32) (σ : Sto) : R nM_told k 50 [.ref 30, .int v1, .int v2] [.int s0] σ =
  some (s0, 0, σ) := (unr_R [50] nM_told k 400 50 _ _ _).trans rfl
-- X5_fetches
theorem eM_fetches (k : Nat) (p1 : Int32) (σ : Sto) : C nM_fetches k [.ref 30, .int p1] σ =
  if inb (3 * p1) 18 = true then
    if ((2 * (σ 33 (3 * p1).toNatClampNeg)) - 63) < 0 then
      (C nM_within k [.int (((su (su σ 34 (0 : Int32).toNatClampNeg (1 + ((-((2 * (σ 33 (3 * p1).toNatClampNeg)) - 63)) / 20))) 34 (1 : Int32).toNatClampNeg p1) 34 (2 : Int32).toNatClampNeg) + 1), .int 0, .int 9999] (su (su σ 34 (0 : Int32).toNatClampNeg (1 + ((-((2 * (σ 33 (3 * p1).toNatClampNeg)) - 63)) / 20))) 34 (1 : Int32).toNatClampNeg p1)).bind fun r1 =>
        if inb (3 * p1) 18 = true then
          some (0, 0, (su (su r1.2.2 34 (2 : Int32).toNatClampNeg r1.1) 33 (3 * p1).toNatClampNeg (-1)))
        else
          none
    else
      (C nM_within k [.int (((su (su σ 34 (0 : Int32).toNatClampNeg (1 + (((2 * (σ 33 (3 * p1).toNatClampNeg)) - 63) / 20))) 34 (1 : Int32).toNatClampNeg p1) 34 (2 : Int32).toNatClampNeg) + 1), .int 0, .int 9999] (su (su σ 34 (0 : Int32).toNatClampNeg (1 + (((2 * (σ 33 (3 * p1).toNatClampNeg)) - 63) / 20))) 34 (1 : Int32).toNatClampNeg p1)).bind fun r1 =>
        if inb (3 * p1) 18 = true then
          some (0, 0, (su (su r1.2.2 34 (2 : Int32).toNatClampNeg r1.1) 33 (3 * p1).toNatClampNeg (-1)))
        else
          none
  else
    none := (unr_R [] nM_fetches k 400 0 _ _ _).trans rfl
-- X5_hourOf
theorem eM_hourOf (k : Nat) (σ : Sto) : C nM_hourOf k [.ref 30] σ =
  if 0 < (σ 34 (0 : Int32).toNatClampNeg) then
    if ((su σ 34 (0 : Int32).toNatClampNeg ((σ 34 (0 : Int32).toNatClampNeg) - 1)) 34 (0 : Int32).toNatClampNeg) = 0 then
      R nM_hourOf k 42 [.ref 30, .int (-1), .int 0] [] (su (su σ 34 (0 : Int32).toNatClampNeg ((σ 34 (0 : Int32).toNatClampNeg) - 1)) 34 (1 : Int32).toNatClampNeg (-1))
    else
      R nM_hourOf k 42 [.ref 30, .int (-1), .int 0] [] (su (su σ 34 (0 : Int32).toNatClampNeg ((σ 34 (0 : Int32).toNatClampNeg) - 1)) 34 (1 : Int32).toNatClampNeg ((su σ 34 (0 : Int32).toNatClampNeg ((σ 34 (0 : Int32).toNatClampNeg) - 1)) 34 (1 : Int32).toNatClampNeg))
  else
    (C nM_choice k [.ref 30] σ).bind fun r1 =>
      if r1.1 = (-1) then
        R nM_hourOf k 42 [.ref 30, .int r1.1, .int 0] [] r1.2.2
      else
        (C nM_fetches k [.ref 30, .int r1.1] r1.2.2).bind fun r2 =>
          R nM_hourOf k 42 [.ref 30, .int r1.1, .int 0] [] r2.2.2 := (unr_R [42] nM_hourOf k 400 0 _ _ _).trans rfl
theorem eM_hourOf_42 (k : Nat) (v1 : Int32) (v2 : Int32) (σ : Sto) : R nM_hourOf k 42 [.ref 30, .int v1, .int v2] [] σ =
  if v2 < (σ 30 0) then
    (C nM_isAt k [.ref 30, .int v2] σ).bind fun r1 =>
      if r1.1 = 0 then
        R nM_hourOf k 42 [.ref 30, .int v1, .int (v2 + 1)] [] r1.2.2
      else
        if inb (3 * v2) 18 = true then
          (C nM_walksOf k [.ref 30, .int v2] r1.2.2).bind fun r2 =>
            (C nM_within k [.int ((r1.2.2 33 (3 * v2).toNatClampNeg) + r2.1), .int 0, .int 63] r2.2.2).bind fun r3 =>
              if inb (3 * v2) 18 = true then
                if inb ((3 * v2) + 2) 18 = true then
                  (C nM_within k [.int (((su r3.2.2 33 (3 * v2).toNatClampNeg r3.1) 33 ((3 * v2) + 2).toNatClampNeg) + 1), .int 0, .int 99] (su r3.2.2 33 (3 * v2).toNatClampNeg r3.1)).bind fun r4 =>
                    if inb ((3 * v2) + 2) 18 = true then
                      R nM_hourOf k 42 [.ref 30, .int v1, .int (v2 + 1)] [] (su r4.2.2 33 ((3 * v2) + 2).toNatClampNeg r4.1)
                    else
                      none
                else
                  none
              else
                none
        else
          none
  else
    some (v1, 0, (su σ 34 (3 : Int32).toNatClampNeg ((σ 34 (3 : Int32).toNatClampNeg) + 1))) := (unr_R [42] nM_hourOf k 400 42 _ _ _).trans rfl
-- X5_hour
theorem eM_hour (k : Nat) (σ : Sto) : C nM_hour k [.ref 30] σ =
  if (σ 34 (3 : Int32).toNatClampNeg) = 9999 then
    some ((-3), 0, σ)
  else
    (C nM_hourOf k [.ref 30] σ).bind fun r1 =>
      some (r1.1, 0, r1.2.2) := (unr_R [] nM_hour k 400 0 _ _ _).trans rfl
-- X5_walk
theorem eM_walk (k : Nat) (p1 : Int32) (p2 : Int32) (σ : Sto) : C nM_walk k [.ref 30, .int p1, .int p2] σ =
  (C nM_isOne k [.ref 30, .int p1] σ).bind fun r1 =>
    if r1.1 = 0 then
      some ((-5), 0, r1.2.2)
    else
      (C nM_in k [.int p2, .int (-63), .int 63] r1.2.2).bind fun r2 =>
        if r2.1 = 0 then
          some ((-7), 0, r2.2.2)
        else
          (C nM_isAt k [.ref 30, .int p1] r2.2.2).bind fun r3 =>
            if r3.1 = 0 then
              some ((-3), 0, r3.2.2)
            else
              if inb (3 * p1) 18 = true then
                (C nM_within k [.int ((r3.2.2 33 (3 * p1).toNatClampNeg) + p2), .int 0, .int 63] r3.2.2).bind fun r4 =>
                  if inb (3 * p1) 18 = true then
                    if inb (3 * p1) 18 = true then
                      some (((su r4.2.2 33 (3 * p1).toNatClampNeg r4.1) 33 (3 * p1).toNatClampNeg), 0, (su r4.2.2 33 (3 * p1).toNatClampNeg r4.1))
                    else
                      none
                  else
                    none
              else
                none := (unr_R [] nM_walk k 400 0 _ _ _).trans rfl
-- X5_keeps
theorem eM_keeps (k : Nat) (σ : Sto) : C nM_keeps k [.ref 30] σ =
  R nM_keeps k 2 [.ref 30, .int 0] [] σ := (unr_R [2, 17] nM_keeps k 400 0 _ _ _).trans rfl
theorem eM_keeps_2 (k : Nat) (v1 : Int32) (σ : Sto) : R nM_keeps k 2 [.ref 30, .int v1] [] σ =
  if v1 < 18 then
    if inb v1 18 = true then
      if inb v1 22 = true then
        R nM_keeps k 2 [.ref 30, .int (v1 + 1)] [] (su σ 48 v1.toNatClampNeg (σ 33 v1.toNatClampNeg))
      else
        none
    else
      none
  else
    R nM_keeps k 17 [.ref 30, .int 0] [] σ := (unr_R [2, 17] nM_keeps k 400 2 _ _ _).trans rfl
theorem eM_keeps_17 (k : Nat) (v1 : Int32) (σ : Sto) : R nM_keeps k 17 [.ref 30, .int v1] [] σ =
  if v1 < 4 then
    if inb v1 4 = true then
      if inb (18 + v1) 22 = true then
        R nM_keeps k 17 [.ref 30, .int (v1 + 1)] [] (su σ 48 (18 + v1).toNatClampNeg (σ 34 v1.toNatClampNeg))
      else
        none
    else
      none
  else
    some (0, 0, σ) := (unr_R [2, 17] nM_keeps k 400 17 _ _ _).trans rfl
-- X5_lays
theorem eM_lays (k : Nat) (σ : Sto) : C nM_lays k [.ref 30] σ =
  R nM_lays k 2 [.ref 30, .int 0] [] σ := (unr_R [2, 17] nM_lays k 400 0 _ _ _).trans rfl
theorem eM_lays_2 (k : Nat) (v1 : Int32) (σ : Sto) : R nM_lays k 2 [.ref 30, .int v1] [] σ =
  if v1 < 18 then
    if inb v1 22 = true then
      if inb v1 18 = true then
        R nM_lays k 2 [.ref 30, .int (v1 + 1)] [] (su σ 33 v1.toNatClampNeg (σ 48 v1.toNatClampNeg))
      else
        none
    else
      none
  else
    R nM_lays k 17 [.ref 30, .int 0] [] σ := (unr_R [2, 17] nM_lays k 400 2 _ _ _).trans rfl
theorem eM_lays_17 (k : Nat) (v1 : Int32) (σ : Sto) : R nM_lays k 17 [.ref 30, .int v1] [] σ =
  if v1 < 4 then
    if inb (18 + v1) 22 = true then
      if inb v1 4 = true then
        R nM_lays k 17 [.ref 30, .int (v1 + 1)] [] (su σ 34 v1.toNatClampNeg (σ 48 (18 + v1).toNatClampNeg))
      else
        none
    else
      none
  else
    some (0, 0, σ) := (unr_R [2, 17] nM_lays k 400 17 _ _ _).trans rfl
-- X5_goes
theorem eM_goes (k : Nat) (p1 : Int32) (σ : Sto) : C nM_goes k [.ref 30, .int p1] σ =
  R nM_goes k 7 [.ref 30, .int p1, .int 0, .int 0, .null] [] (su σ 30 30 0) := (unr_R [7] nM_goes k 400 0 _ _ _).trans rfl
theorem eM_goes_7 (k : Nat) (v1 : Int32) (v2 : Int32) (v3 : Int32) (u4 : Value) (σ : Sto) : R nM_goes k 7 [.ref 30, .int v1, .int v2, .int v3, u4] [] σ =
  if v3 < v1 then
    (C nM_hourOf k [.ref 30] σ).bind fun r1 =>
      if r1.1 = (-1) then
        if r1.1 = (-1) then
          R nM_goes k 7 [.ref 30, .int v1, .int (v2 + 0), .int (v3 + 1), .int r1.1] [] (su r1.2.2 30 30 (r1.2.2 30 30))
        else
          R nM_goes k 7 [.ref 30, .int v1, .int (v2 + 0), .int (v3 + 1), .int r1.1] [] (su r1.2.2 30 30 (((10 * (r1.2.2 30 30)) + r1.1) + 1))
      else
        if r1.1 = (-1) then
          R nM_goes k 7 [.ref 30, .int v1, .int (v2 + 1), .int (v3 + 1), .int r1.1] [] (su r1.2.2 30 30 (r1.2.2 30 30))
        else
          R nM_goes k 7 [.ref 30, .int v1, .int (v2 + 1), .int (v3 + 1), .int r1.1] [] (su r1.2.2 30 30 (((10 * (r1.2.2 30 30)) + r1.1) + 1))
  else
    some (v2, 0, σ) := (unr_R [7] nM_goes k 400 7 _ _ _).trans rfl
-- X5_run
theorem eM_run (k : Nat) (p1 : Int32) (p2 : Int32) (σ : Sto) : C nM_run k [.ref 30, .int p1, .int p2] σ =
  (C nM_in k [.int p2, .int 0, .int 2] σ).bind fun r1 =>
    if r1.1 = 0 then
      (C nM_in k [.int p2, .int 10, .int (9 + (r1.2.2 30 0))] r1.2.2).bind fun r2 =>
        if r2.1 = 0 then
          (C nM_in k [.int p2, .int 20, .int (19 + (r2.2.2 30 0))] r2.2.2).bind fun r3 =>
            if r3.1 = 0 then
              (C nM_in k [.int p1, .int 0, .int 60] r3.2.2).bind fun r4 =>
                if r4.1 = 0 then
                  some ((-2), 0, r4.2.2)
                else
                  some ((-2), 0, r4.2.2)
            else
              R nM_run k 21 [.ref 30, .int p1, .int p2, .null, .null] [] r3.2.2
        else
          R nM_run k 21 [.ref 30, .int p1, .int p2, .null, .null] [] r2.2.2
    else
      R nM_run k 21 [.ref 30, .int p1, .int p2, .null, .null] [] r1.2.2 := (unr_R [21] nM_run k 400 0 _ _ _).trans rfl
theorem eM_run_21 (k : Nat) (v1 : Int32) (v2 : Int32) (σ : Sto) : R nM_run k 21 [.ref 30, .int v1, .int v2, .null, .null] [] σ =
  (C nM_in k [.int v1, .int 0, .int 60] σ).bind fun r1 =>
    if r1.1 = 0 then
      some ((-2), 0, r1.2.2)
    else
      (C nM_keeps k [.ref 30] r1.2.2).bind fun r2 =>
        (C nM_goes k [.ref 30, .int v1] r2.2.2).bind fun r3 =>
          if v2 = 0 then
            (C nM_lays k [.ref 30] r3.2.2).bind fun r4 =>
              some (r3.1, 0, r4.2.2)
          else
            if v2 = 1 then
              (C nM_lays k [.ref 30] r3.2.2).bind fun r4 =>
                some ((r3.2.2 30 30), 0, r4.2.2)
            else
              if v2 = 2 then
                (C nM_overSet k [.ref 30] r3.2.2).bind fun r4 =>
                  (C nM_lays k [.ref 30] r4.2.2).bind fun r5 =>
                    some (r4.1, 0, r5.2.2)
              else
                if v2 < 20 then
                  if inb (3 * (v2 - 10)) 18 = true then
                    (C nM_lays k [.ref 30] r3.2.2).bind fun r4 =>
                      some ((r3.2.2 33 (3 * (v2 - 10)).toNatClampNeg), 0, r4.2.2)
                  else
                    none
                else
                  if inb ((3 * (v2 - 20)) + 2) 18 = true then
                    (C nM_lays k [.ref 30] r3.2.2).bind fun r4 =>
                      some ((r3.2.2 33 ((3 * (v2 - 20)) + 2).toNatClampNeg), 0, r4.2.2)
                  else
                    none := (unr_R [21] nM_run k 400 21 _ _ _).trans rfl
-- X5_isNow
theorem eM_isNow (k : Nat) (p1 : Int32) (p2 : Int32) (σ : Sto) : C nM_isNow k [.ref 30, .int p1, .int p2] σ =
  if p2 = 0 then
    (C nM_isOver k [.ref 30, .int p1] σ).bind fun r1 =>
      if nok 1 r1.1 = true then
        some (r1.1, 0, r1.2.2)
      else
        none
  else
    if p2 = 1 then
      (C nM_isAlone k [.ref 30, .int p1] σ).bind fun r1 =>
        if nok 1 r1.1 = true then
          some (r1.1, 0, r1.2.2)
        else
          none
    else
      if (σ 34 (0 : Int32).toNatClampNeg) = 0 then
        (C nM_aloneSet k [.ref 30] σ).bind fun r1 =>
          if r1.1 = 0 then
            some (1, 0, r1.2.2)
          else
            some (0, 0, r1.2.2)
      else
        some (0, 0, σ) := (unr_R [] nM_isNow k 400 0 _ _ _).trans rfl
-- X5_firstTime
theorem eM_firstTime (k : Nat) (p1 : Int32) (p2 : Int32) (σ : Sto) : C nM_firstTime k [.ref 30, .int p1, .int p2] σ =
  R nM_firstTime k 4 [.ref 30, .int p1, .int p2, .int (-1), .int 0] [] σ := (unr_R [4] nM_firstTime k 400 0 _ _ _).trans rfl
theorem eM_firstTime_4 (k : Nat) (v1 : Int32) (v2 : Int32) (v3 : Int32) (v4 : Int32) (σ : Sto) : R nM_firstTime k 4 [.ref 30, .int v1, .int v2, .int v3, .int v4] [] σ =
  if 60 < v4 then
    some (v3, 0, σ)
  else
    if v3 = (-1) then
      (C nM_isNow k [.ref 30, .int v1, .int v2] σ).bind fun r1 =>
        if r1.1 = 0 then
          (C nM_hourOf k [.ref 30] r1.2.2).bind fun r2 =>
            R nM_firstTime k 4 [.ref 30, .int v1, .int v2, .int (-1), .int (v4 + 1)] [] r2.2.2
        else
          (C nM_hourOf k [.ref 30] r1.2.2).bind fun r2 =>
            R nM_firstTime k 4 [.ref 30, .int v1, .int v2, .int v4, .int (v4 + 1)] [] r2.2.2
    else
      some (v3, 0, σ) := (unr_R [4] nM_firstTime k 400 4 _ _ _).trans rfl
-- X5_when
theorem eM_when (k : Nat) (p1 : Int32) (p2 : Int32) (σ : Sto) : C nM_when k [.ref 30, .int p1, .int p2] σ =
  (C nM_in k [.int p2, .int 0, .int 2] σ).bind fun r1 =>
    if r1.1 = 0 then
      some ((-7), 0, r1.2.2)
    else
      if p2 < 2 then
        (C nM_isOne k [.ref 30, .int p1] r1.2.2).bind fun r2 =>
          if r2.1 = 0 then
            some ((-5), 0, r2.2.2)
          else
            (C nM_keeps k [.ref 30] r2.2.2).bind fun r3 =>
              (C nM_firstTime k [.ref 30, .int p1, .int p2] r3.2.2).bind fun r4 =>
                (C nM_lays k [.ref 30] r4.2.2).bind fun r5 =>
                  some (r4.1, 0, r5.2.2)
      else
        (C nM_keeps k [.ref 30] r1.2.2).bind fun r2 =>
          (C nM_firstTime k [.ref 30, .int p1, .int p2] r2.2.2).bind fun r3 =>
            (C nM_lays k [.ref 30] r3.2.2).bind fun r4 =>
              some (r3.1, 0, r4.2.2) := (unr_R [] nM_when k 400 0 _ _ _).trans rfl
-- X5_fetchedIn
theorem eM_fetchedIn (k : Nat) (p1 : Int32) (σ : Sto) : C nM_fetchedIn k [.ref 30, .int p1] σ =
  (C nM_keeps k [.ref 30] σ).bind fun r1 =>
    (C nM_goes k [.ref 30, .int p1] r1.2.2).bind fun r2 =>
      (C nM_lays k [.ref 30] r2.2.2).bind fun r3 =>
        some (r2.1, 0, r3.2.2) := (unr_R [] nM_fetchedIn k 400 0 _ _ _).trans rfl
-- X5_hide
theorem eM_hide (k : Nat) (p1 : Int32) (p2 : Int32) (σ : Sto) : C nM_hide k [.ref 30, .int p1, .int p2] σ =
  (C nM_in k [.int p1, .int 0, .int 60] σ).bind fun r1 =>
    if r1.1 = 0 then
      some ((-2), 0, r1.2.2)
    else
      (C nM_in k [.int p2, .int 0, .int 1] r1.2.2).bind fun r2 =>
        if r2.1 = 0 then
          some ((-2), 0, r2.2.2)
        else
          (C nM_fetchedIn k [.ref 30, .int p1] r2.2.2).bind fun r3 =>
            R nM_hide k 20 [.ref 30, .int p1, .int p2, .int (-1), .int r3.1, .int 0, .null] [] r3.2.2 := (unr_R [20] nM_hide k 400 0 _ _ _).trans rfl
theorem eM_hide_20 (k : Nat) (v1 : Int32) (v2 : Int32) (v3 : Int32) (v4 : Int32) (v5 : Int32) (u6 : Value) (σ : Sto) : R nM_hide k 20 [.ref 30, .int v1, .int v2, .int v3, .int v4, .int v5, u6] [] σ =
  if v5 < (σ 30 0) then
    (C nM_isSeen k [.ref 30, .int v5] σ).bind fun r1 =>
      if r1.1 = 0 then
        R nM_hide k 20 [.ref 30, .int v1, .int v2, .int v3, .int v4, .int (v5 + 1), u6] [] r1.2.2
      else
        if inb ((3 * v5) + 1) 18 = true then
          (C nM_fetchedIn k [.ref 30, .int v1] (su r1.2.2 33 ((3 * v5) + 1).toNatClampNeg 1)).bind fun r2 =>
            if inb ((3 * v5) + 1) 18 = true then
              if v4 < r2.1 then
                if v4 < r2.1 then
                  R nM_hide k 20 [.ref 30, .int v1, .int v2, .int v5, .int r2.1, .int (v5 + 1), .int r2.1] [] (su r2.2.2 33 ((3 * v5) + 1).toNatClampNeg 0)
                else
                  R nM_hide k 20 [.ref 30, .int v1, .int v2, .int v5, .int v4, .int (v5 + 1), .int r2.1] [] (su r2.2.2 33 ((3 * v5) + 1).toNatClampNeg 0)
              else
                if v4 < r2.1 then
                  R nM_hide k 20 [.ref 30, .int v1, .int v2, .int v3, .int r2.1, .int (v5 + 1), .int r2.1] [] (su r2.2.2 33 ((3 * v5) + 1).toNatClampNeg 0)
                else
                  R nM_hide k 20 [.ref 30, .int v1, .int v2, .int v3, .int v4, .int (v5 + 1), .int r2.1] [] (su r2.2.2 33 ((3 * v5) + 1).toNatClampNeg 0)
            else
              none
        else
          none
  else
    if v2 = 0 then
      some (v3, 0, σ)
    else
      some (v4, 0, σ) := (unr_R [20] nM_hide k 400 20 _ _ _).trans rfl
