/-! EQUATIONS of the methods 107 .. 159 -/
-- X5_in
theorem q107_e (k : Nat) (p1 : Int32) (p2 : Int32) (p3 : Int32) (σ : Sto) : C 107 k [.int p1, .int p2, .int p3] σ =
  if p1 < p2 then
    some (0, 0, σ)
  else
    if p3 < p1 then
      some (0, 0, σ)
    else
      some (1, 0, σ) := (unr_R [] 107 k 400 0 _ _ _).trans rfl
-- X5_within
theorem q108_e (k : Nat) (p1 : Int32) (p2 : Int32) (p3 : Int32) (σ : Sto) : C 108 k [.int p1, .int p2, .int p3] σ =
  if p1 < p2 then
    some (p2, 0, σ)
  else
    if p3 < p1 then
      some (p3, 0, σ)
    else
      some (p1, 0, σ) := (unr_R [] 108 k 400 0 _ _ _).trans rfl
-- X5_onesOf
theorem q109_e (k : Nat) (p1 : Int32) (σ : Sto) : C 109 k [.int p1] σ =
  R 109 k 4 [.int p1, .int 0, .int 0] [] σ := (unr_R [4] 109 k 400 0 _ _ _).trans rfl
theorem q109_4 (k : Nat) (v0 : Int32) (v1 : Int32) (v2 : Int32) (σ : Sto) : R 109 k 4 [.int v0, .int v1, .int v2] [] σ =
  if v2 < 6 then
    R 109 k 4 [.int v0, .int (v1 + ((v0 >>> (v2 &&& 31)) &&& 1)), .int (v2 + 1)] [] σ
  else
    some (v1, 0, σ) := (unr_R [4] 109 k 400 4 _ _ _).trans rfl
-- X5_isOne
theorem q110_e (k : Nat) (p1 : Int32) (σ : Sto) : C 110 k [.ref 30, .int p1] σ =
  (C 107 k [.int p1, .int 0, .int ((σ 30 0) - 1)] σ).bind fun r1 =>
    if nok 1 r1.1 = true then
      some (r1.1, 0, r1.2.2)
    else
      none := (unr_R [] 110 k 400 0 _ _ _).trans rfl
-- X5_isAt
theorem q111_e (k : Nat) (p1 : Int32) (σ : Sto) : C 111 k [.ref 30, .int p1] σ =
  if inb (3 * p1) 18 = true then
    if (σ 33 (3 * p1).toNatClampNeg) = (-1) then
      some (0, 0, σ)
    else
      some (1, 0, σ)
  else
    none := (unr_R [] 111 k 400 0 _ _ _).trans rfl
-- X5_isSeen
theorem q112_e (k : Nat) (p1 : Int32) (σ : Sto) : C 112 k [.ref 30, .int p1] σ =
  (C 111 k [.ref 30, .int p1] σ).bind fun r1 =>
    if r1.1 = 0 then
      some (0, 0, r1.2.2)
    else
      if inb ((3 * p1) + 1) 18 = true then
        if (r1.2.2 33 ((3 * p1) + 1).toNatClampNeg) = 0 then
          some (1, 0, r1.2.2)
        else
          some (0, 0, r1.2.2)
      else
        none := (unr_R [] 112 k 400 0 _ _ _).trans rfl
-- X5_seenSet
theorem q113_e (k : Nat) (σ : Sto) : C 113 k [.ref 30] σ =
  R 113 k 4 [.ref 30, .int 0, .int 0] [] σ := (unr_R [4] 113 k 400 0 _ _ _).trans rfl
theorem q113_4 (k : Nat) (v1 : Int32) (v2 : Int32) (σ : Sto) : R 113 k 4 [.ref 30, .int v1, .int v2] [] σ =
  if v2 < (σ 30 0) then
    (C 112 k [.ref 30, .int v2] σ).bind fun r1 =>
      if r1.1 = 0 then
        R 113 k 4 [.ref 30, .int (v1 ||| 0), .int (v2 + 1)] [] r1.2.2
      else
        R 113 k 4 [.ref 30, .int (v1 ||| (1 <<< (v2 &&& 31))), .int (v2 + 1)] [] r1.2.2
  else
    some (v1, 0, σ) := (unr_R [4] 113 k 400 4 _ _ _).trans rfl
-- X5_isOver
theorem q114_e (k : Nat) (p1 : Int32) (σ : Sto) : C 114 k [.ref 30, .int p1] σ =
  (C 111 k [.ref 30, .int p1] σ).bind fun r1 =>
    if r1.1 = 0 then
      if (r1.2.2 34 (1 : Int32).toNatClampNeg) = p1 then
        some (0, 0, r1.2.2)
      else
        some (1, 0, r1.2.2)
    else
      some (0, 0, r1.2.2) := (unr_R [] 114 k 400 0 _ _ _).trans rfl
-- X5_overSet
theorem q115_e (k : Nat) (σ : Sto) : C 115 k [.ref 30] σ =
  R 115 k 4 [.ref 30, .int 0, .int 0] [] σ := (unr_R [4] 115 k 400 0 _ _ _).trans rfl
theorem q115_4 (k : Nat) (v1 : Int32) (v2 : Int32) (σ : Sto) : R 115 k 4 [.ref 30, .int v1, .int v2] [] σ =
  if v2 < (σ 30 0) then
    (C 114 k [.ref 30, .int v2] σ).bind fun r1 =>
      if r1.1 = 0 then
        R 115 k 4 [.ref 30, .int (v1 ||| 0), .int (v2 + 1)] [] r1.2.2
      else
        R 115 k 4 [.ref 30, .int (v1 ||| (1 <<< (v2 &&& 31))), .int (v2 + 1)] [] r1.2.2
  else
    some (v1, 0, σ) := (unr_R [4] 115 k 400 4 _ _ _).trans rfl
-- X5_count
theorem q116_e (k : Nat) (p1 : Int32) (σ : Sto) : C 116 k [.ref 30, .int p1] σ =
  if p1 = 0 then
    some ((σ 30 0), 0, σ)
  else
    if p1 = 1 then
      some ((σ 34 (3 : Int32).toNatClampNeg), 0, σ)
    else
      if p1 = 2 then
        some ((σ 34 (2 : Int32).toNatClampNeg), 0, σ)
      else
        if p1 = 3 then
          some ((σ 30 9), 0, σ)
        else
          if p1 = 4 then
            some ((σ 30 10), 0, σ)
          else
            if p1 = 5 then
              some ((σ 30 6), 0, σ)
            else
              some ((-2), 0, σ) := (unr_R [] 116 k 400 0 _ _ _).trans rfl
-- X5_bay
theorem q117_e (k : Nat) (p1 : Int32) (p2 : Int32) (σ : Sto) : C 117 k [.ref 30, .int p1, .int p2] σ =
  (C 107 k [.int p1, .int 0, .int 1] σ).bind fun r1 =>
    if r1.1 = 0 then
      some ((-2), 0, r1.2.2)
    else
      if p1 = 0 then
        (C 107 k [.int p2, .int 0, .int 9999] r1.2.2).bind fun r2 =>
          if r2.1 = 0 then
            some ((-2), 0, r2.2.2)
          else
            if p1 = 0 then
              some ((r2.2.2 34 (3 : Int32).toNatClampNeg), 0, (su r2.2.2 34 (3 : Int32).toNatClampNeg p2))
            else
              some ((r2.2.2 34 (0 : Int32).toNatClampNeg), 0, (su r2.2.2 34 (0 : Int32).toNatClampNeg p2))
      else
        (C 107 k [.int p2, .int 0, .int 99] r1.2.2).bind fun r2 =>
          if r2.1 = 0 then
            some ((-2), 0, r2.2.2)
          else
            if p1 = 0 then
              some ((r2.2.2 34 (3 : Int32).toNatClampNeg), 0, (su r2.2.2 34 (3 : Int32).toNatClampNeg p2))
            else
              some ((r2.2.2 34 (0 : Int32).toNatClampNeg), 0, (su r2.2.2 34 (0 : Int32).toNatClampNeg p2)) := (unr_R [] 117 k 400 0 _ _ _).trans rfl
-- X5_ferry
theorem q118_e (k : Nat) (p1 : Int32) (σ : Sto) : C 118 k [.ref 30, .int p1] σ =
  if p1 = 0 then
    if inb p1 4 = true then
      some ((σ 34 p1.toNatClampNeg), 0, σ)
    else
      none
  else
    if p1 = 1 then
      if inb p1 4 = true then
        some ((σ 34 p1.toNatClampNeg), 0, σ)
      else
        none
    else
      if p1 = 2 then
        (C 145 k [.ref 30] σ).bind fun r1 =>
          some (r1.1, 0, r1.2.2)
      else
        if p1 = 3 then
          (C 144 k [.ref 30] σ).bind fun r1 =>
            some (r1.1, 0, r1.2.2)
        else
          if p1 = 4 then
            (C 113 k [.ref 30] σ).bind fun r1 =>
              some (r1.1, 0, r1.2.2)
          else
            if p1 = 5 then
              (C 115 k [.ref 30] σ).bind fun r1 =>
                some (r1.1, 0, r1.2.2)
            else
              some ((-7), 0, σ) := (unr_R [] 118 k 400 0 _ _ _).trans rfl
-- X5_isByte
theorem q119_e (k : Nat) (p1 : Int32) (σ : Sto) : C 119 k [.int p1] σ =
  (C 107 k [.int p1, .int 0, .int 255] σ).bind fun r1 =>
    if nok 1 r1.1 = true then
      some (r1.1, 0, r1.2.2)
    else
      none := (unr_R [] 119 k 400 0 _ _ _).trans rfl
-- X5_feed
theorem q120_e (k : Nat) (p1 : Int32) (p2 : Int32) (p3 : Int32) (p4 : Int32) (p5 : Int32) (p6 : Int32) (σ : Sto) : C 120 k [.ref 30, .int p1, .int p2, .int p3, .int p4, .int p5, .int p6] σ =
  (C 107 k [.int p1, .int 1, .int 5] σ).bind fun r1 =>
    if r1.1 = 0 then
      some ((-2), 0, r1.2.2)
    else
      (C 119 k [.int p2] r1.2.2).bind fun r2 =>
        if r2.1 = 0 then
          some ((-2), 0, r2.2.2)
        else
          (C 119 k [.int p3] r2.2.2).bind fun r3 =>
            if r3.1 = 0 then
              some ((-2), 0, r3.2.2)
            else
              (C 119 k [.int p4] r3.2.2).bind fun r4 =>
                if r4.1 = 0 then
                  some ((-2), 0, r4.2.2)
                else
                  (C 119 k [.int p5] r4.2.2).bind fun r5 =>
                    if r5.1 = 0 then
                      some ((-2), 0, r5.2.2)
                    else
                      (C 119 k [.int p6] r5.2.2).bind fun r6 =>
                        if r6.1 = 0 then
                          some ((-2), 0, r6.2.2)
                        else
                          if 160 < ((r6.2.2 30 6) + p1) then
                            some ((-4), 0, r6.2.2)
                          else
                            R 120 k 32 [.ref 30, .int p1, .int p2, .int p3, .int p4, .int p5, .int p6, .int 0] [] r6.2.2 := (unr_R [32, 59] 120 k 400 0 _ _ _).trans rfl
theorem q120_32 (k : Nat) (v1 : Int32) (v2 : Int32) (v3 : Int32) (v4 : Int32) (v5 : Int32) (v6 : Int32) (v7 : Int32) (σ : Sto) : R 120 k 32 [.ref 30, .int v1, .int v2, .int v3, .int v4, .int v5, .int v6, .int v7] [] σ =
  if v7 < v1 then
    if v7 = 0 then
      R 120 k 59 [.ref 30, .int v1, .int v2, .int v3, .int v4, .int v5, .int v6, .int v7] [.int v2, .int (σ 30 6), .ref 35] σ
    else
      if v7 = 1 then
        R 120 k 59 [.ref 30, .int v1, .int v2, .int v3, .int v4, .int v5, .int v6, .int v7] [.int v3, .int (σ 30 6), .ref 35] σ
      else
        if v7 = 2 then
          R 120 k 59 [.ref 30, .int v1, .int v2, .int v3, .int v4, .int v5, .int v6, .int v7] [.int v4, .int (σ 30 6), .ref 35] σ
        else
          if v7 = 3 then
            R 120 k 59 [.ref 30, .int v1, .int v2, .int v3, .int v4, .int v5, .int v6, .int v7] [.int v5, .int (σ 30 6), .ref 35] σ
          else
            R 120 k 59 [.ref 30, .int v1, .int v2, .int v3, .int v4, .int v5, .int v6, .int v7] [.int v6, .int (σ 30 6), .ref 35] σ
  else
    some ((σ 30 6), 0, σ) := (unr_R [32, 59] 120 k 400 32 _ _ _).trans rfl
theorem q120_59 (k : Nat) (v1 : Int32) (v2 : Int32) (v3 : Int32) (v4 : Int32) (v5 : Int32) (v6 : Int32) (v7 : Int32) (s0 : Int32) (s1 : Int32) (σ : Sto) : R 120 k 59 [.ref 30, .int v1, .int v2, .int v3, .int v4, .int v5, .int v6, .int v7] [.int s0, .int s1, .ref 35] σ =
  if inb s1 160 = true then
    R 120 k 32 [.ref 30, .int v1, .int v2, .int v3, .int v4, .int v5, .int v6, .int (v7 + 1)] [] (su (su σ 35 s1.toNatClampNeg s0) 30 6 (((su σ 35 s1.toNatClampNeg s0) 30 6) + 1))
  else
    none := (unr_R [32, 59] 120 k 400 59 _ _ _).trans rfl
-- X5_wordFrom
theorem q121_e (k : Nat) (p1 : Int32) (p2 : Int32) (σ : Sto) : C 121 k [.ref 30, .int p1, .int p2] σ =
  R 121 k 2 [.ref 30, .int p1, .int p2, .int 0, .null, .null] [] σ := (unr_R [2, 16, 42] 121 k 400 0 _ _ _).trans rfl
theorem q121_2 (k : Nat) (v1 : Int32) (v2 : Int32) (v3 : Int32) (u4 : Value) (u5 : Value) (σ : Sto) : R 121 k 2 [.ref 30, .int v1, .int v2, .int v3, u4, u5] [] σ =
  if v3 < 12 then
    if 8 < (v2 - v1) then
      R 121 k 16 [.ref 30, .int v1, .int v2, .int v3, .int 0, .int 0] [] σ
    else
      R 121 k 16 [.ref 30, .int v1, .int v2, .int v3, .int 1, .int 0] [] σ
  else
    some (12, 0, σ) := (unr_R [2, 16, 42] 121 k 400 2 _ _ _).trans rfl
theorem q121_16 (k : Nat) (v1 : Int32) (v2 : Int32) (v3 : Int32) (v4 : Int32) (v5 : Int32) (σ : Sto) : R 121 k 16 [.ref 30, .int v1, .int v2, .int v3, .int v4, .int v5] [] σ =
  if v5 < 8 then
    if v4 = 0 then
      if v4 = 0 then
        R 121 k 2 [.ref 30, .int v1, .int v2, .int (v3 + 1), .int v4, .int v5] [] σ
      else
        some (v3, 0, σ)
    else
      if inb ((8 * v3) + v5) 96 = true then
        if (v1 + v5) < v2 then
          if inb (v1 + v5) 160 = true then
            R 121 k 42 [.ref 30, .int v1, .int v2, .int v3, .int v4, .int v5] [.int (σ 35 (v1 + v5).toNatClampNeg), .int (σ 44 ((8 * v3) + v5).toNatClampNeg)] σ
          else
            none
        else
          R 121 k 42 [.ref 30, .int v1, .int v2, .int v3, .int v4, .int v5] [.int 32, .int (σ 44 ((8 * v3) + v5).toNatClampNeg)] σ
      else
        none
  else
    if v4 = 0 then
      R 121 k 2 [.ref 30, .int v1, .int v2, .int (v3 + 1), .int v4, .int v5] [] σ
    else
      some (v3, 0, σ) := (unr_R [2, 16, 42] 121 k 400 16 _ _ _).trans rfl
theorem q121_42 (k : Nat) (v1 : Int32) (v2 : Int32) (v3 : Int32) (v4 : Int32) (v5 : Int32) (s0 : Int32) (s1 : Int32) (σ : Sto) : R 121 k 42 [.ref 30, .int v1, .int v2, .int v3, .int v4, .int v5] [.int s0, .int s1] σ =
  if s1 = s0 then
    R 121 k 16 [.ref 30, .int v1, .int v2, .int v3, .int 1, .int (v5 + 1)] [] σ
  else
    R 121 k 16 [.ref 30, .int v1, .int v2, .int v3, .int 0, .int (v5 + 1)] [] σ := (unr_R [2, 16, 42] 121 k 400 42 _ _ _).trans rfl
-- X5_next
theorem q122_e (k : Nat) (σ : Sto) : C 122 k [.ref 30] σ =
  if (σ 30 18) < (σ 30 6) then
    if inb (σ 30 18) 160 = true then
      if (σ 35 (σ 30 18).toNatClampNeg) = 32 then
        R 122 k 19 [.ref 30, .null, .null] [] σ
      else
        if inb (σ 30 18) 160 = true then
          if (σ 35 (σ 30 18).toNatClampNeg) = 10 then
            R 122 k 19 [.ref 30, .null, .null] [] σ
          else
            R 122 k 26 [.ref 30, .null, .null] [] σ
        else
          none
    else
      none
  else
    R 122 k 26 [.ref 30, .null, .null] [] σ := (unr_R [0, 19, 26, 53, 74, 102, 112, 121, 153, 162, 169, 195, 198, 205, 212] 122 k 400 0 _ _ _).trans rfl
theorem q122_0 (k : Nat) (σ : Sto) : R 122 k 0 [.ref 30, .null, .null] [] σ =
  if (σ 30 18) < (σ 30 6) then
    if inb (σ 30 18) 160 = true then
      if (σ 35 (σ 30 18).toNatClampNeg) = 32 then
        R 122 k 19 [.ref 30, .null, .null] [] σ
      else
        if inb (σ 30 18) 160 = true then
          if (σ 35 (σ 30 18).toNatClampNeg) = 10 then
            R 122 k 19 [.ref 30, .null, .null] [] σ
          else
            R 122 k 26 [.ref 30, .null, .null] [] σ
        else
          none
    else
      none
  else
    R 122 k 26 [.ref 30, .null, .null] [] σ := (unr_R [0, 19, 26, 53, 74, 102, 112, 121, 153, 162, 169, 195, 198, 205, 212] 122 k 400 0 _ _ _).trans rfl
theorem q122_19 (k : Nat) (σ : Sto) : R 122 k 19 [.ref 30, .null, .null] [] σ =
  R 122 k 0 [.ref 30, .null, .null] [] (su σ 30 18 ((σ 30 18) + 1)) := (unr_R [0, 19, 26, 53, 74, 102, 112, 121, 153, 162, 169, 195, 198, 205, 212] 122 k 400 19 _ _ _).trans rfl
set_option maxRecDepth 1000000 in
theorem q122_26 (k : Nat) (σ : Sto) : R 122 k 26 [.ref 30, .null, .null] [] σ =
  if ((su (su (su σ 30 19 (σ 30 18)) 30 20 0) 30 21 0) 30 18) = ((su (su (su σ 30 19 (σ 30 18)) 30 20 0) 30 21 0) 30 6) then
    some (0, 0, (su (su (su σ 30 19 (σ 30 18)) 30 20 0) 30 21 0))
  else
    if inb ((su (su (su σ 30 19 (σ 30 18)) 30 20 0) 30 21 0) 30 18) 160 = true then
      (C 107 k [.int ((su (su (su σ 30 19 (σ 30 18)) 30 20 0) 30 21 0) 35 ((su (su (su σ 30 19 (σ 30 18)) 30 20 0) 30 21 0) 30 18).toNatClampNeg), .int 97, .int 122] (su (su (su σ 30 19 (σ 30 18)) 30 20 0) 30 21 0)).bind fun r1 =>
        if r1.1 = 0 then
          (C 107 k [.int ((su (su (su σ 30 19 (σ 30 18)) 30 20 0) 30 21 0) 35 ((su (su (su σ 30 19 (σ 30 18)) 30 20 0) 30 21 0) 30 18).toNatClampNeg), .int 48, .int 57] r1.2.2).bind fun r2 =>
            if r2.1 = 0 then
              if ((su (su (su σ 30 19 (σ 30 18)) 30 20 0) 30 21 0) 35 ((su (su (su σ 30 19 (σ 30 18)) 30 20 0) 30 21 0) 30 18).toNatClampNeg) = 40 then
                R 122 k 195 [.ref 30, .int ((su (su (su σ 30 19 (σ 30 18)) 30 20 0) 30 21 0) 35 ((su (su (su σ 30 19 (σ 30 18)) 30 20 0) 30 21 0) 30 18).toNatClampNeg), .null] [] r2.2.2
              else
                if ((su (su (su σ 30 19 (σ 30 18)) 30 20 0) 30 21 0) 35 ((su (su (su σ 30 19 (σ 30 18)) 30 20 0) 30 21 0) 30 18).toNatClampNeg) = 41 then
                  R 122 k 195 [.ref 30, .int ((su (su (su σ 30 19 (σ 30 18)) 30 20 0) 30 21 0) 35 ((su (su (su σ 30 19 (σ 30 18)) 30 20 0) 30 21 0) 30 18).toNatClampNeg), .null] [] r2.2.2
                else
                  if ((su (su (su σ 30 19 (σ 30 18)) 30 20 0) 30 21 0) 35 ((su (su (su σ 30 19 (σ 30 18)) 30 20 0) 30 21 0) 30 18).toNatClampNeg) = 59 then
                    R 122 k 195 [.ref 30, .int ((su (su (su σ 30 19 (σ 30 18)) 30 20 0) 30 21 0) 35 ((su (su (su σ 30 19 (σ 30 18)) 30 20 0) 30 21 0) 30 18).toNatClampNeg), .null] [] r2.2.2
                  else
                    if ((su (su (su σ 30 19 (σ 30 18)) 30 20 0) 30 21 0) 35 ((su (su (su σ 30 19 (σ 30 18)) 30 20 0) 30 21 0) 30 18).toNatClampNeg) = 43 then
                      R 122 k 195 [.ref 30, .int ((su (su (su σ 30 19 (σ 30 18)) 30 20 0) 30 21 0) 35 ((su (su (su σ 30 19 (σ 30 18)) 30 20 0) 30 21 0) 30 18).toNatClampNeg), .null] [] r2.2.2
                    else
                      if ((su (su (su σ 30 19 (σ 30 18)) 30 20 0) 30 21 0) 35 ((su (su (su σ 30 19 (σ 30 18)) 30 20 0) 30 21 0) 30 18).toNatClampNeg) = 45 then
                        R 122 k 195 [.ref 30, .int ((su (su (su σ 30 19 (σ 30 18)) 30 20 0) 30 21 0) 35 ((su (su (su σ 30 19 (σ 30 18)) 30 20 0) 30 21 0) 30 18).toNatClampNeg), .null] [] r2.2.2
                      else
                        if ((su (su (su σ 30 19 (σ 30 18)) 30 20 0) 30 21 0) 35 ((su (su (su σ 30 19 (σ 30 18)) 30 20 0) 30 21 0) 30 18).toNatClampNeg) = 42 then
                          R 122 k 195 [.ref 30, .int ((su (su (su σ 30 19 (σ 30 18)) 30 20 0) 30 21 0) 35 ((su (su (su σ 30 19 (σ 30 18)) 30 20 0) 30 21 0) 30 18).toNatClampNeg), .null] [] r2.2.2
                        else
                          if ((su (su (su σ 30 19 (σ 30 18)) 30 20 0) 30 21 0) 35 ((su (su (su σ 30 19 (σ 30 18)) 30 20 0) 30 21 0) 30 18).toNatClampNeg) = 60 then
                            R 122 k 195 [.ref 30, .int ((su (su (su σ 30 19 (σ 30 18)) 30 20 0) 30 21 0) 35 ((su (su (su σ 30 19 (σ 30 18)) 30 20 0) 30 21 0) 30 18).toNatClampNeg), .null] [] r2.2.2
                          else
                            if ((su (su (su σ 30 19 (σ 30 18)) 30 20 0) 30 21 0) 35 ((su (su (su σ 30 19 (σ 30 18)) 30 20 0) 30 21 0) 30 18).toNatClampNeg) = 61 then
                              R 122 k 195 [.ref 30, .int ((su (su (su σ 30 19 (σ 30 18)) 30 20 0) 30 21 0) 35 ((su (su (su σ 30 19 (σ 30 18)) 30 20 0) 30 21 0) 30 18).toNatClampNeg), .null] [] r2.2.2
                            else
                              R 122 k 198 [.ref 30, .int ((su (su (su σ 30 19 (σ 30 18)) 30 20 0) 30 21 0) 35 ((su (su (su σ 30 19 (σ 30 18)) 30 20 0) 30 21 0) 30 18).toNatClampNeg), .null] [.int 0] r2.2.2
            else
              R 122 k 121 [.ref 30, .int ((su (su (su σ 30 19 (σ 30 18)) 30 20 0) 30 21 0) 35 ((su (su (su σ 30 19 (σ 30 18)) 30 20 0) 30 21 0) 30 18).toNatClampNeg), .int 0] [] r2.2.2
        else
          R 122 k 53 [.ref 30, .int ((su (su (su σ 30 19 (σ 30 18)) 30 20 0) 30 21 0) 35 ((su (su (su σ 30 19 (σ 30 18)) 30 20 0) 30 21 0) 30 18).toNatClampNeg), .null] [] r1.2.2
    else
      none := (unr_R [0, 19, 26, 53, 74, 102, 112, 121, 153, 162, 169, 195, 198, 205, 212] 122 k 400 26 _ _ _).trans rfl
theorem q122_53 (k : Nat) (v1 : Int32) (σ : Sto) : R 122 k 53 [.ref 30, .int v1, .null] [] σ =
  if (σ 30 18) < (σ 30 6) then
    if inb (σ 30 18) 160 = true then
      (C 107 k [.int (σ 35 (σ 30 18).toNatClampNeg), .int 97, .int 122] σ).bind fun r1 =>
        if r1.1 = 0 then
          R 122 k 74 [.ref 30, .int v1, .null] [] r1.2.2
        else
          R 122 k 53 [.ref 30, .int v1, .null] [] (su r1.2.2 30 18 ((r1.2.2 30 18) + 1))
    else
      none
  else
    R 122 k 74 [.ref 30, .int v1, .null] [] σ := (unr_R [0, 19, 26, 53, 74, 102, 112, 121, 153, 162, 169, 195, 198, 205, 212] 122 k 400 53 _ _ _).trans rfl
theorem q122_74 (k : Nat) (v1 : Int32) (σ : Sto) : R 122 k 74 [.ref 30, .int v1, .null] [] σ =
  (C 121 k [.ref 30, .int (σ 30 19), .int (σ 30 18)] σ).bind fun r1 =>
    if r1.1 < 3 then
      R 122 k 102 [.ref 30, .int v1, .int r1.1] [.int 3, .ref 30] r1.2.2
    else
      if r1.1 < 9 then
        R 122 k 102 [.ref 30, .int v1, .int r1.1] [.int 2, .ref 30] r1.2.2
      else
        if r1.1 = 12 then
          R 122 k 102 [.ref 30, .int v1, .int r1.1] [.int (-1), .ref 30] r1.2.2
        else
          R 122 k 102 [.ref 30, .int v1, .int r1.1] [.int ((4 + r1.1) - 9), .ref 30] r1.2.2 := (unr_R [0, 19, 26, 53, 74, 102, 112, 121, 153, 162, 169, 195, 198, 205, 212] 122 k 400 74 _ _ _).trans rfl
theorem q122_102 (k : Nat) (v1 : Int32) (v2 : Int32) (s0 : Int32) (σ : Sto) : R 122 k 102 [.ref 30, .int v1, .int v2] [.int s0, .ref 30] σ =
  if v2 < 3 then
    R 122 k 112 [.ref 30, .int v1, .int v2] [.int v2, .ref 30] (su σ 30 20 s0)
  else
    R 122 k 112 [.ref 30, .int v1, .int v2] [.int (v2 - 3), .ref 30] (su σ 30 20 s0) := (unr_R [0, 19, 26, 53, 74, 102, 112, 121, 153, 162, 169, 195, 198, 205, 212] 122 k 400 102 _ _ _).trans rfl
theorem q122_112 (k : Nat) (v1 : Int32) (v2 : Int32) (s0 : Int32) (σ : Sto) : R 122 k 112 [.ref 30, .int v1, .int v2] [.int s0, .ref 30] σ =
  R 122 k 212 [.ref 30, .int v1, .int v2] [] (su σ 30 21 s0) := (unr_R [0, 19, 26, 53, 74, 102, 112, 121, 153, 162, 169, 195, 198, 205, 212] 122 k 400 112 _ _ _).trans rfl
theorem q122_121 (k : Nat) (v1 : Int32) (v2 : Int32) (σ : Sto) : R 122 k 121 [.ref 30, .int v1, .int v2] [] σ =
  if (σ 30 18) < (σ 30 6) then
    if inb (σ 30 18) 160 = true then
      (C 107 k [.int (σ 35 (σ 30 18).toNatClampNeg), .int 48, .int 57] σ).bind fun r1 =>
        if r1.1 = 0 then
          R 122 k 162 [.ref 30, .int v1, .int v2] [] r1.2.2
        else
          if v2 < 4 then
            if inb (r1.2.2 30 18) 160 = true then
              R 122 k 153 [.ref 30, .int v1, .int v2] [.int (((10 * (r1.2.2 30 21)) + (r1.2.2 35 (r1.2.2 30 18).toNatClampNeg)) - 48), .ref 30] r1.2.2
            else
              none
          else
            R 122 k 153 [.ref 30, .int v1, .int v2] [.int 0, .ref 30] r1.2.2
    else
      none
  else
    R 122 k 162 [.ref 30, .int v1, .int v2] [] σ := (unr_R [0, 19, 26, 53, 74, 102, 112, 121, 153, 162, 169, 195, 198, 205, 212] 122 k 400 121 _ _ _).trans rfl
theorem q122_153 (k : Nat) (v1 : Int32) (v2 : Int32) (s0 : Int32) (σ : Sto) : R 122 k 153 [.ref 30, .int v1, .int v2] [.int s0, .ref 30] σ =
  R 122 k 121 [.ref 30, .int v1, .int (v2 + 1)] [] (su (su σ 30 21 s0) 30 18 (((su σ 30 21 s0) 30 18) + 1)) := (unr_R [0, 19, 26, 53, 74, 102, 112, 121, 153, 162, 169, 195, 198, 205, 212] 122 k 400 153 _ _ _).trans rfl
theorem q122_162 (k : Nat) (v1 : Int32) (v2 : Int32) (σ : Sto) : R 122 k 162 [.ref 30, .int v1, .int v2] [] σ =
  if 4 < v2 then
    R 122 k 169 [.ref 30, .int v1, .int v2] [.int (-1), .ref 30] σ
  else
    R 122 k 169 [.ref 30, .int v1, .int v2] [.int 1, .ref 30] σ := (unr_R [0, 19, 26, 53, 74, 102, 112, 121, 153, 162, 169, 195, 198, 205, 212] 122 k 400 162 _ _ _).trans rfl
theorem q122_169 (k : Nat) (v1 : Int32) (v2 : Int32) (s0 : Int32) (σ : Sto) : R 122 k 169 [.ref 30, .int v1, .int v2] [.int s0, .ref 30] σ =
  R 122 k 212 [.ref 30, .int v1, .int v2] [] (su σ 30 20 s0) := (unr_R [0, 19, 26, 53, 74, 102, 112, 121, 153, 162, 169, 195, 198, 205, 212] 122 k 400 169 _ _ _).trans rfl
theorem q122_195 (k : Nat) (v1 : Int32) (σ : Sto) : R 122 k 195 [.ref 30, .int v1, .null] [] σ =
  R 122 k 198 [.ref 30, .int v1, .null] [.int 1] σ := (unr_R [0, 19, 26, 53, 74, 102, 112, 121, 153, 162, 169, 195, 198, 205, 212] 122 k 400 195 _ _ _).trans rfl
theorem q122_198 (k : Nat) (v1 : Int32) (s0 : Int32) (σ : Sto) : R 122 k 198 [.ref 30, .int v1, .null] [.int s0] σ =
  if s0 = 0 then
    R 122 k 205 [.ref 30, .int v1, .int s0] [.int (-1), .ref 30] σ
  else
    R 122 k 205 [.ref 30, .int v1, .int s0] [.int v1, .ref 30] σ := (unr_R [0, 19, 26, 53, 74, 102, 112, 121, 153, 162, 169, 195, 198, 205, 212] 122 k 400 198 _ _ _).trans rfl
theorem q122_205 (k : Nat) (v1 : Int32) (v2 : Int32) (s0 : Int32) (σ : Sto) : R 122 k 205 [.ref 30, .int v1, .int v2] [.int s0, .ref 30] σ =
  R 122 k 212 [.ref 30, .int v1, .int v2] [] (su (su σ 30 20 s0) 30 18 (((su σ 30 20 s0) 30 18) + 1)) := (unr_R [0, 19, 26, 53, 74, 102, 112, 121, 153, 162, 169, 195, 198, 205, 212] 122 k 400 205 _ _ _).trans rfl
theorem q122_212 (k : Nat) (v1 : Int32) (v2 : Int32) (σ : Sto) : R 122 k 212 [.ref 30, .int v1, .int v2] [] σ =
  some (0, 0, σ) := (unr_R [0, 19, 26, 53, 74, 102, 112, 121, 153, 162, 169, 195, 198, 205, 212] 122 k 400 212 _ _ _).trans rfl
-- X5_rank
theorem q123_e (k : Nat) (p1 : Int32) (σ : Sto) : C 123 k [.int p1] σ =
  if p1 = 0 then
    some (0, 0, σ)
  else
    if p1 = 11 then
      some (1, 0, σ)
    else
      if p1 = 12 then
        some (2, 0, σ)
      else
        if p1 = 13 then
          some (3, 0, σ)
        else
          if 15 < p1 then
            if 17 < p1 then
              if p1 = 18 then
                some (6, 0, σ)
              else
                some (7, 0, σ)
            else
              some (5, 0, σ)
          else
            some (4, 0, σ) := (unr_R [] 123 k 400 0 _ _ _).trans rfl
-- X5_puts
theorem q124_e (k : Nat) (p1 : Int32) (σ : Sto) : C 124 k [.ref 30, .int p1] σ =
  if inb ((200 * (σ 30 9)) + (σ 30 26)) 1200 = true then
    some (0, 0, (su (su σ 36 ((200 * (σ 30 9)) + (σ 30 26)).toNatClampNeg p1) 30 26 (((su σ 36 ((200 * (σ 30 9)) + (σ 30 26)).toNatClampNeg p1) 30 26) + 1)))
  else
    none := (unr_R [] 124 k 400 0 _ _ _).trans rfl
-- X5_unwinds
theorem q125_e (k : Nat) (p1 : Int32) (σ : Sto) : C 125 k [.ref 30, .int p1] σ =
  if 0 < (σ 30 24) then
    if inb ((σ 30 24) - 1) 200 = true then
      (C 123 k [.int (σ 45 ((σ 30 24) - 1).toNatClampNeg)] σ).bind fun r1 =>
        if r1.1 < p1 then
          some (0, 0, r1.2.2)
        else
          if inb ((su r1.2.2 30 24 ((r1.2.2 30 24) - 1)) 30 24) 200 = true then
            if ((su r1.2.2 30 24 ((r1.2.2 30 24) - 1)) 45 ((su r1.2.2 30 24 ((r1.2.2 30 24) - 1)) 30 24).toNatClampNeg) = 13 then
              (C 124 k [.ref 30, .int ((su r1.2.2 30 24 ((r1.2.2 30 24) - 1)) 45 ((su r1.2.2 30 24 ((r1.2.2 30 24) - 1)) 30 24).toNatClampNeg)] (su (su r1.2.2 30 24 ((r1.2.2 30 24) - 1)) 30 25 (((su r1.2.2 30 24 ((r1.2.2 30 24) - 1)) 30 25) - 1))).bind fun r2 =>
                R 125 k 0 [.ref 30, .int p1, .int ((su r1.2.2 30 24 ((r1.2.2 30 24) - 1)) 45 ((su r1.2.2 30 24 ((r1.2.2 30 24) - 1)) 30 24).toNatClampNeg)] [] r2.2.2
            else
              if ((su r1.2.2 30 24 ((r1.2.2 30 24) - 1)) 45 ((su r1.2.2 30 24 ((r1.2.2 30 24) - 1)) 30 24).toNatClampNeg) = 19 then
                (C 124 k [.ref 30, .int ((su r1.2.2 30 24 ((r1.2.2 30 24) - 1)) 45 ((su r1.2.2 30 24 ((r1.2.2 30 24) - 1)) 30 24).toNatClampNeg)] (su (su r1.2.2 30 24 ((r1.2.2 30 24) - 1)) 30 25 (((su r1.2.2 30 24 ((r1.2.2 30 24) - 1)) 30 25) - 1))).bind fun r2 =>
                  R 125 k 0 [.ref 30, .int p1, .int ((su r1.2.2 30 24 ((r1.2.2 30 24) - 1)) 45 ((su r1.2.2 30 24 ((r1.2.2 30 24) - 1)) 30 24).toNatClampNeg)] [] r2.2.2
              else
                (C 124 k [.ref 30, .int ((su r1.2.2 30 24 ((r1.2.2 30 24) - 1)) 45 ((su r1.2.2 30 24 ((r1.2.2 30 24) - 1)) 30 24).toNatClampNeg)] (su (su r1.2.2 30 24 ((r1.2.2 30 24) - 1)) 30 25 (((su r1.2.2 30 24 ((r1.2.2 30 24) - 1)) 30 25) - 0))).bind fun r2 =>
                  R 125 k 0 [.ref 30, .int p1, .int ((su r1.2.2 30 24 ((r1.2.2 30 24) - 1)) 45 ((su r1.2.2 30 24 ((r1.2.2 30 24) - 1)) 30 24).toNatClampNeg)] [] r2.2.2
          else
            none
    else
      none
  else
    some (0, 0, σ) := (unr_R [0] 125 k 400 0 _ _ _).trans rfl
theorem q125_0 (k : Nat) (v1 : Int32) (v2 : Int32) (σ : Sto) : R 125 k 0 [.ref 30, .int v1, .int v2] [] σ =
  if 0 < (σ 30 24) then
    if inb ((σ 30 24) - 1) 200 = true then
      (C 123 k [.int (σ 45 ((σ 30 24) - 1).toNatClampNeg)] σ).bind fun r1 =>
        if r1.1 < v1 then
          some (0, 0, r1.2.2)
        else
          if inb ((su r1.2.2 30 24 ((r1.2.2 30 24) - 1)) 30 24) 200 = true then
            if ((su r1.2.2 30 24 ((r1.2.2 30 24) - 1)) 45 ((su r1.2.2 30 24 ((r1.2.2 30 24) - 1)) 30 24).toNatClampNeg) = 13 then
              (C 124 k [.ref 30, .int ((su r1.2.2 30 24 ((r1.2.2 30 24) - 1)) 45 ((su r1.2.2 30 24 ((r1.2.2 30 24) - 1)) 30 24).toNatClampNeg)] (su (su r1.2.2 30 24 ((r1.2.2 30 24) - 1)) 30 25 (((su r1.2.2 30 24 ((r1.2.2 30 24) - 1)) 30 25) - 1))).bind fun r2 =>
                R 125 k 0 [.ref 30, .int v1, .int ((su r1.2.2 30 24 ((r1.2.2 30 24) - 1)) 45 ((su r1.2.2 30 24 ((r1.2.2 30 24) - 1)) 30 24).toNatClampNeg)] [] r2.2.2
            else
              if ((su r1.2.2 30 24 ((r1.2.2 30 24) - 1)) 45 ((su r1.2.2 30 24 ((r1.2.2 30 24) - 1)) 30 24).toNatClampNeg) = 19 then
                (C 124 k [.ref 30, .int ((su r1.2.2 30 24 ((r1.2.2 30 24) - 1)) 45 ((su r1.2.2 30 24 ((r1.2.2 30 24) - 1)) 30 24).toNatClampNeg)] (su (su r1.2.2 30 24 ((r1.2.2 30 24) - 1)) 30 25 (((su r1.2.2 30 24 ((r1.2.2 30 24) - 1)) 30 25) - 1))).bind fun r2 =>
                  R 125 k 0 [.ref 30, .int v1, .int ((su r1.2.2 30 24 ((r1.2.2 30 24) - 1)) 45 ((su r1.2.2 30 24 ((r1.2.2 30 24) - 1)) 30 24).toNatClampNeg)] [] r2.2.2
              else
                (C 124 k [.ref 30, .int ((su r1.2.2 30 24 ((r1.2.2 30 24) - 1)) 45 ((su r1.2.2 30 24 ((r1.2.2 30 24) - 1)) 30 24).toNatClampNeg)] (su (su r1.2.2 30 24 ((r1.2.2 30 24) - 1)) 30 25 (((su r1.2.2 30 24 ((r1.2.2 30 24) - 1)) 30 25) - 0))).bind fun r2 =>
                  R 125 k 0 [.ref 30, .int v1, .int ((su r1.2.2 30 24 ((r1.2.2 30 24) - 1)) 45 ((su r1.2.2 30 24 ((r1.2.2 30 24) - 1)) 30 24).toNatClampNeg)] [] r2.2.2
          else
            none
    else
      none
  else
    some (0, 0, σ) := (unr_R [0] 125 k 400 0 _ _ _).trans rfl
-- X5_holds
theorem q126_e (k : Nat) (p1 : Int32) (σ : Sto) : C 126 k [.ref 30, .int p1] σ =
  if inb (σ 30 24) 200 = true then
    some (0, 0, (su (su σ 45 (σ 30 24).toNatClampNeg p1) 30 24 (((su σ 45 (σ 30 24).toNatClampNeg p1) 30 24) + 1)))
  else
    none := (unr_R [] 126 k 400 0 _ _ _).trans rfl
-- X5_opensOne
theorem q127_e (k : Nat) (p1 : Int32) (σ : Sto) : C 127 k [.ref 30, .int p1] σ =
  if (σ 30 25) = 5 then
    some (0, 0, σ)
  else
    (C 126 k [.ref 30, .int p1] (su σ 30 25 ((σ 30 25) + 1))).bind fun r1 =>
      some (1, 0, r1.2.2) := (unr_R [] 127 k 400 0 _ _ _).trans rfl
-- X5_between
set_option maxRecDepth 1000000 in
theorem q128_e (k : Nat) (p1 : Int32) (σ : Sto) : C 128 k [.ref 30, .int p1] σ =
  (C 123 k [.int p1] σ).bind fun r1 =>
    if r1.1 = 4 then
      (C 125 k [.ref 30, .int 5] r1.2.2).bind fun r2 =>
        (C 123 k [.int p1] r2.2.2).bind fun r3 =>
          if r3.1 = 4 then
            if 0 < (r3.2.2 30 24) then
              if inb ((r3.2.2 30 24) - 1) 200 = true then
                (C 123 k [.int (r3.2.2 45 ((r3.2.2 30 24) - 1).toNatClampNeg)] r3.2.2).bind fun r4 =>
                  if r4.1 = 4 then
                    some (0, 0, r4.2.2)
                  else
                    (C 126 k [.ref 30, .int p1] r4.2.2).bind fun r5 =>
                      some (1, 0, r5.2.2)
              else
                none
            else
              (C 126 k [.ref 30, .int p1] r3.2.2).bind fun r4 =>
                some (1, 0, r4.2.2)
          else
            (C 126 k [.ref 30, .int p1] r3.2.2).bind fun r4 =>
              some (1, 0, r4.2.2)
    else
      (C 123 k [.int p1] r1.2.2).bind fun r2 =>
        (C 125 k [.ref 30, .int r2.1] r2.2.2).bind fun r3 =>
          (C 123 k [.int p1] r3.2.2).bind fun r4 =>
            if r4.1 = 4 then
              if 0 < (r4.2.2 30 24) then
                if inb ((r4.2.2 30 24) - 1) 200 = true then
                  (C 123 k [.int (r4.2.2 45 ((r4.2.2 30 24) - 1).toNatClampNeg)] r4.2.2).bind fun r5 =>
                    if r5.1 = 4 then
                      some (0, 0, r5.2.2)
                    else
                      (C 126 k [.ref 30, .int p1] r5.2.2).bind fun r6 =>
                        some (1, 0, r6.2.2)
                else
                  none
              else
                (C 126 k [.ref 30, .int p1] r4.2.2).bind fun r5 =>
                  some (1, 0, r5.2.2)
            else
              (C 126 k [.ref 30, .int p1] r4.2.2).bind fun r5 =>
                some (1, 0, r5.2.2) := (unr_R [] 128 k 400 0 _ _ _).trans rfl
-- X5_signOf
theorem q129_e (k : Nat) (σ : Sto) : C 129 k [.ref 30] σ =
  if (σ 30 20) = 4 then
    some (11, 0, σ)
  else
    if (σ 30 20) = 5 then
      some (12, 0, σ)
    else
      if (σ 30 20) = 60 then
        some (14, 0, σ)
      else
        if (σ 30 20) = 61 then
          some (15, 0, σ)
        else
          if (σ 30 20) = 43 then
            some (16, 0, σ)
          else
            if (σ 30 20) = 45 then
              some (17, 0, σ)
            else
              if (σ 30 20) = 42 then
                some (18, 0, σ)
              else
                some ((-1), 0, σ) := (unr_R [] 129 k 400 0 _ _ _).trans rfl
-- X5_eRead
theorem q130_e (k : Nat) (σ : Sto) : C 130 k [.ref 30] σ =
  R 130 k 10 [.ref 30, .int 1, .int 1, .null] [] (su (su σ 30 24 0) 30 25 0) := (unr_R [10, 22, 34, 53, 94, 133, 143] 130 k 400 0 _ _ _).trans rfl
set_option maxRecDepth 1000000 in
theorem q130_10 (k : Nat) (v1 : Int32) (v2 : Int32) (u3 : Value) (σ : Sto) : R 130 k 10 [.ref 30, .int v1, .int v2, u3] [] σ =
  (C 122 k [.ref 30] σ).bind fun r1 =>
    if v1 = 0 then
      if (r1.2.2 30 20) = 59 then
        (C 125 k [.ref 30, .int 1] r1.2.2).bind fun r2 =>
          if (r2.2.2 30 24) = 0 then
            R 130 k 94 [.ref 30, .int v1, .int v2, u3] [.int 1] r2.2.2
          else
            R 130 k 94 [.ref 30, .int v1, .int v2, u3] [.int 0] r2.2.2
      else
        if (r1.2.2 30 20) = 41 then
          (C 125 k [.ref 30, .int 1] r1.2.2).bind fun r2 =>
            if (r2.2.2 30 24) = 0 then
              some (0, 0, r2.2.2)
            else
              (C 125 k [.ref 30, .int 7] (su (su r2.2.2 30 24 ((r2.2.2 30 24) - 1)) 30 25 (((su r2.2.2 30 24 ((r2.2.2 30 24) - 1)) 30 25) - 1))).bind fun r3 =>
                R 130 k 10 [.ref 30, .int v1, .int v2, u3] [] r3.2.2
        else
          (C 129 k [.ref 30] r1.2.2).bind fun r2 =>
            if r2.1 = (-1) then
              R 130 k 133 [.ref 30, .int v1, .int v2, .int r2.1] [] r2.2.2
            else
              (C 128 k [.ref 30, .int r2.1] r2.2.2).bind fun r3 =>
                if r3.1 = 0 then
                  R 130 k 133 [.ref 30, .int v1, .int v2, .int r2.1] [] r3.2.2
                else
                  if 12 < r2.1 then
                    R 130 k 143 [.ref 30, .int 1, .int v2, .int r2.1] [.int 0] r3.2.2
                  else
                    R 130 k 143 [.ref 30, .int 1, .int v2, .int r2.1] [.int 1] r3.2.2
    else
      if (r1.2.2 30 20) = 1 then
        R 130 k 22 [.ref 30, .int v1, .int v2, u3] [] r1.2.2
      else
        if (r1.2.2 30 20) = 2 then
          R 130 k 22 [.ref 30, .int v1, .int v2, u3] [] r1.2.2
        else
          if (r1.2.2 30 20) = 6 then
            if v2 = 0 then
              R 130 k 53 [.ref 30, .int v1, .int v2, u3] [] r1.2.2
            else
              (C 127 k [.ref 30, .int 13] r1.2.2).bind fun r2 =>
                if r2.1 = 0 then
                  some (0, 0, r2.2.2)
                else
                  R 130 k 10 [.ref 30, .int v1, .int v2, u3] [] r2.2.2
          else
            R 130 k 53 [.ref 30, .int v1, .int v2, u3] [] r1.2.2 := (unr_R [10, 22, 34, 53, 94, 133, 143] 130 k 400 10 _ _ _).trans rfl
theorem q130_22 (k : Nat) (v1 : Int32) (v2 : Int32) (u3 : Value) (σ : Sto) : R 130 k 22 [.ref 30, .int v1, .int v2, u3] [] σ =
  if (σ 30 20) = 1 then
    R 130 k 34 [.ref 30, .int v1, .int v2, u3] [.int (100000 + (σ 30 21)), .ref 30] σ
  else
    R 130 k 34 [.ref 30, .int v1, .int v2, u3] [.int (σ 30 21), .ref 30] σ := (unr_R [10, 22, 34, 53, 94, 133, 143] 130 k 400 22 _ _ _).trans rfl
theorem q130_34 (k : Nat) (v1 : Int32) (v2 : Int32) (u3 : Value) (s0 : Int32) (σ : Sto) : R 130 k 34 [.ref 30, .int v1, .int v2, u3] [.int s0, .ref 30] σ =
  (C 124 k [.ref 30, .int s0] σ).bind fun r1 =>
    (C 125 k [.ref 30, .int 7] r1.2.2).bind fun r2 =>
      R 130 k 10 [.ref 30, .int 0, .int v2, u3] [] r2.2.2 := (unr_R [10, 22, 34, 53, 94, 133, 143] 130 k 400 34 _ _ _).trans rfl
theorem q130_53 (k : Nat) (v1 : Int32) (v2 : Int32) (u3 : Value) (σ : Sto) : R 130 k 53 [.ref 30, .int v1, .int v2, u3] [] σ =
  if (σ 30 20) = 45 then
    (C 127 k [.ref 30, .int 19] σ).bind fun r1 =>
      if r1.1 = 0 then
        some (0, 0, r1.2.2)
      else
        R 130 k 10 [.ref 30, .int v1, .int 0, u3] [] r1.2.2
  else
    if (σ 30 20) = 40 then
      (C 127 k [.ref 30, .int 0] σ).bind fun r1 =>
        if r1.1 = 0 then
          some (0, 0, r1.2.2)
        else
          R 130 k 10 [.ref 30, .int v1, .int 1, u3] [] r1.2.2
    else
      some (0, 0, σ) := (unr_R [10, 22, 34, 53, 94, 133, 143] 130 k 400 53 _ _ _).trans rfl
theorem q130_94 (k : Nat) (v1 : Int32) (v2 : Int32) (u3 : Value) (s0 : Int32) (σ : Sto) : R 130 k 94 [.ref 30, .int v1, .int v2, u3] [.int s0] σ =
  if nok 1 s0 = true then
    some (s0, 0, σ)
  else
    none := (unr_R [10, 22, 34, 53, 94, 133, 143] 130 k 400 94 _ _ _).trans rfl
theorem q130_133 (k : Nat) (v1 : Int32) (v2 : Int32) (v3 : Int32) (σ : Sto) : R 130 k 133 [.ref 30, .int v1, .int v2, .int v3] [] σ =
  some (0, 0, σ) := (unr_R [10, 22, 34, 53, 94, 133, 143] 130 k 400 133 _ _ _).trans rfl
theorem q130_143 (k : Nat) (v1 : Int32) (v2 : Int32) (v3 : Int32) (s0 : Int32) (σ : Sto) : R 130 k 143 [.ref 30, .int v1, .int v2, .int v3] [.int s0] σ =
  R 130 k 10 [.ref 30, .int v1, .int s0, .int v3] [] σ := (unr_R [10, 22, 34, 53, 94, 133, 143] 130 k 400 143 _ _ _).trans rfl
-- X5_text
theorem q131_e (k : Nat) (σ : Sto) : C 131 k [.ref 30] σ =
  if (σ 30 9) = 6 then
    some ((-4), 0, σ)
  else
    R 131 k 16 [.ref 30, .int 1, .int 0] [] (su (su σ 30 18 0) 30 26 0) := (unr_R [16, 33, 57] 131 k 400 0 _ _ _).trans rfl
theorem q131_16 (k : Nat) (v1 : Int32) (v2 : Int32) (σ : Sto) : R 131 k 16 [.ref 30, .int v1, .int v2] [] σ =
  if v2 < 3 then
    if v1 = 0 then
      R 131 k 57 [.ref 30, .int v1, .int v2] [] σ
    else
      (C 122 k [.ref 30] σ).bind fun r1 =>
        if (r1.2.2 30 20) = 3 then
          if (r1.2.2 30 21) = v2 then
            if inb ((4 * (r1.2.2 30 9)) + v2) 24 = true then
              (C 130 k [.ref 30] (su r1.2.2 37 ((4 * (r1.2.2 30 9)) + v2).toNatClampNeg (r1.2.2 30 26))).bind fun r2 =>
                if r2.1 = 0 then
                  R 131 k 16 [.ref 30, .int 0, .int (v2 + 1)] [] r2.2.2
                else
                  R 131 k 16 [.ref 30, .int 1, .int (v2 + 1)] [] r2.2.2
            else
              none
          else
            R 131 k 33 [.ref 30, .int v1, .int v2] [] r1.2.2
        else
          R 131 k 33 [.ref 30, .int v1, .int v2] [] r1.2.2
  else
    R 131 k 57 [.ref 30, .int v1, .int v2] [] σ := (unr_R [16, 33, 57] 131 k 400 16 _ _ _).trans rfl
theorem q131_33 (k : Nat) (v1 : Int32) (v2 : Int32) (σ : Sto) : R 131 k 33 [.ref 30, .int v1, .int v2] [] σ =
  if inb ((4 * (σ 30 9)) + v2) 24 = true then
    R 131 k 16 [.ref 30, .int 0, .int (v2 + 1)] [] (su σ 37 ((4 * (σ 30 9)) + v2).toNatClampNeg (σ 30 26))
  else
    none := (unr_R [16, 33, 57] 131 k 400 33 _ _ _).trans rfl
theorem q131_57 (k : Nat) (v1 : Int32) (v2 : Int32) (σ : Sto) : R 131 k 57 [.ref 30, .int v1, .int v2] [] σ =
  if v1 = 0 then
    if inb ((4 * (σ 30 9)) + 3) 24 = true then
      if v1 = 0 then
        some (((-100) - ((su (su σ 37 ((4 * (σ 30 9)) + 3).toNatClampNeg (σ 30 26)) 30 6 0) 30 19)), 0, (su (su σ 37 ((4 * (σ 30 9)) + 3).toNatClampNeg (σ 30 26)) 30 6 0))
      else
        some ((((su (su (su σ 37 ((4 * (σ 30 9)) + 3).toNatClampNeg (σ 30 26)) 30 6 0) 30 9 (((su (su σ 37 ((4 * (σ 30 9)) + 3).toNatClampNeg (σ 30 26)) 30 6 0) 30 9) + 1)) 30 9) - 1), 0, (su (su (su σ 37 ((4 * (σ 30 9)) + 3).toNatClampNeg (σ 30 26)) 30 6 0) 30 9 (((su (su σ 37 ((4 * (σ 30 9)) + 3).toNatClampNeg (σ 30 26)) 30 6 0) 30 9) + 1)))
    else
      none
  else
    (C 122 k [.ref 30] σ).bind fun r1 =>
      if (r1.2.2 30 20) = 0 then
        if inb ((4 * (r1.2.2 30 9)) + 3) 24 = true then
          some ((((su (su (su r1.2.2 37 ((4 * (r1.2.2 30 9)) + 3).toNatClampNeg (r1.2.2 30 26)) 30 6 0) 30 9 (((su (su r1.2.2 37 ((4 * (r1.2.2 30 9)) + 3).toNatClampNeg (r1.2.2 30 26)) 30 6 0) 30 9) + 1)) 30 9) - 1), 0, (su (su (su r1.2.2 37 ((4 * (r1.2.2 30 9)) + 3).toNatClampNeg (r1.2.2 30 26)) 30 6 0) 30 9 (((su (su r1.2.2 37 ((4 * (r1.2.2 30 9)) + 3).toNatClampNeg (r1.2.2 30 26)) 30 6 0) 30 9) + 1)))
        else
          none
      else
        if inb ((4 * (r1.2.2 30 9)) + 3) 24 = true then
          some (((-100) - ((su (su r1.2.2 37 ((4 * (r1.2.2 30 9)) + 3).toNatClampNeg (r1.2.2 30 26)) 30 6 0) 30 19)), 0, (su (su r1.2.2 37 ((4 * (r1.2.2 30 9)) + 3).toNatClampNeg (r1.2.2 30 26)) 30 6 0))
        else
          none := (unr_R [16, 33, 57] 131 k 400 57 _ _ _).trans rfl
-- X5_two
set_option maxRecDepth 1000000 in
theorem q132_e (k : Nat) (p1 : Int32) (p2 : Int32) (p3 : Int32) (σ : Sto) : C 132 k [.int p1, .int p2, .int p3] σ =
  if p1 = 11 then
    if p2 = 0 then
      if p3 = 0 then
        some (0, 0, σ)
      else
        some (1, 0, σ)
    else
      some (1, 0, σ)
  else
    if p1 = 12 then
      if p2 = 0 then
        some (0, 0, σ)
      else
        if p3 = 0 then
          some (0, 0, σ)
        else
          some (1, 0, σ)
    else
      if p1 = 13 then
        some ((p2 * p3), 0, σ)
      else
        if p1 = 14 then
          if p2 < p3 then
            some (1, 0, σ)
          else
            some (0, 0, σ)
        else
          if p1 = 15 then
            if p2 = p3 then
              some (1, 0, σ)
            else
              some (0, 0, σ)
          else
            if p1 = 16 then
              some ((p2 + p3), 0, σ)
            else
              if p1 = 17 then
                some ((p2 - p3), 0, σ)
              else
                some ((p2 * p3), 0, σ) := (unr_R [] 132 k 400 0 _ _ _).trans rfl
-- X5_says
theorem q133_e (k : Nat) (p1 : Int32) (σ : Sto) : C 133 k [.ref 30, .int p1] σ =
  if inb ((4 * (σ 30 10)) + p1) 24 = true then
    R 133 k 12 [.ref 30, .int p1, .int 0, .int (σ 37 ((4 * (σ 30 10)) + p1).toNatClampNeg), .null] [] σ
  else
    none := (unr_R [12, 25, 41, 58, 96] 133 k 400 0 _ _ _).trans rfl
theorem q133_12 (k : Nat) (v1 : Int32) (v2 : Int32) (v3 : Int32) (u4 : Value) (σ : Sto) : R 133 k 12 [.ref 30, .int v1, .int v2, .int v3, u4] [] σ =
  if inb (((4 * (σ 30 10)) + v1) + 1) 24 = true then
    if v3 < (σ 37 (((4 * (σ 30 10)) + v1) + 1).toNatClampNeg) then
      R 133 k 25 [.ref 30, .int v1, .int v2, .int v3, u4] [] σ
    else
      some ((σ 46 (0 : Int32).toNatClampNeg), 0, σ)
  else
    none := (unr_R [12, 25, 41, 58, 96] 133 k 400 12 _ _ _).trans rfl
theorem q133_25 (k : Nat) (v1 : Int32) (v2 : Int32) (v3 : Int32) (u4 : Value) (σ : Sto) : R 133 k 25 [.ref 30, .int v1, .int v2, .int v3, u4] [] σ =
  if inb ((200 * (σ 30 10)) + v3) 1200 = true then
    if (σ 36 ((200 * (σ 30 10)) + v3).toNatClampNeg) < 100000 then
      if (σ 36 ((200 * (σ 30 10)) + v3).toNatClampNeg) < 11 then
        R 133 k 41 [.ref 30, .int v1, .int v2, .int v3, .int (σ 36 ((200 * (σ 30 10)) + v3).toNatClampNeg)] [] σ
      else
        R 133 k 58 [.ref 30, .int v1, .int v2, .int v3, .int (σ 36 ((200 * (σ 30 10)) + v3).toNatClampNeg)] [] σ
    else
      R 133 k 41 [.ref 30, .int v1, .int v2, .int v3, .int (σ 36 ((200 * (σ 30 10)) + v3).toNatClampNeg)] [] σ
  else
    none := (unr_R [12, 25, 41, 58, 96] 133 k 400 25 _ _ _).trans rfl
theorem q133_41 (k : Nat) (v1 : Int32) (v2 : Int32) (v3 : Int32) (v4 : Int32) (σ : Sto) : R 133 k 41 [.ref 30, .int v1, .int v2, .int v3, .int v4] [] σ =
  if v4 < 11 then
    if inb v4 6 = true then
      if inb v2 200 = true then
        R 133 k 12 [.ref 30, .int v1, .int (v2 + 1), .int (v3 + 1), .int v4] [] (su σ 46 v2.toNatClampNeg (σ 47 v4.toNatClampNeg))
      else
        none
    else
      none
  else
    if inb v2 200 = true then
      R 133 k 12 [.ref 30, .int v1, .int (v2 + 1), .int (v3 + 1), .int v4] [] (su σ 46 v2.toNatClampNeg (v4 - 100000))
    else
      none := (unr_R [12, 25, 41, 58, 96] 133 k 400 41 _ _ _).trans rfl
theorem q133_58 (k : Nat) (v1 : Int32) (v2 : Int32) (v3 : Int32) (v4 : Int32) (σ : Sto) : R 133 k 58 [.ref 30, .int v1, .int v2, .int v3, .int v4] [] σ =
  if v4 = 13 then
    if inb (v2 - 1) 200 = true then
      if (σ 46 (v2 - 1).toNatClampNeg) = 0 then
        if inb (v2 - 1) 200 = true then
          R 133 k 12 [.ref 30, .int v1, .int v2, .int (v3 + 1), .int v4] [] (su σ 46 (v2 - 1).toNatClampNeg 1)
        else
          none
      else
        if inb (v2 - 1) 200 = true then
          R 133 k 12 [.ref 30, .int v1, .int v2, .int (v3 + 1), .int v4] [] (su σ 46 (v2 - 1).toNatClampNeg 0)
        else
          none
    else
      none
  else
    if v4 = 19 then
      if inb (v2 - 1) 200 = true then
        if inb (v2 - 1) 200 = true then
          R 133 k 12 [.ref 30, .int v1, .int v2, .int (v3 + 1), .int v4] [] (su σ 46 (v2 - 1).toNatClampNeg (-(σ 46 (v2 - 1).toNatClampNeg)))
        else
          none
      else
        none
    else
      R 133 k 96 [.ref 30, .int v1, .int (v2 + (-1)), .int v3, .int v4] [] σ := (unr_R [12, 25, 41, 58, 96] 133 k 400 58 _ _ _).trans rfl
theorem q133_96 (k : Nat) (v1 : Int32) (v2 : Int32) (v3 : Int32) (v4 : Int32) (σ : Sto) : R 133 k 96 [.ref 30, .int v1, .int v2, .int v3, .int v4] [] σ =
  if inb (v2 - 1) 200 = true then
    if inb v2 200 = true then
      (C 132 k [.int v4, .int (σ 46 (v2 - 1).toNatClampNeg), .int (σ 46 v2.toNatClampNeg)] σ).bind fun r1 =>
        if inb (v2 - 1) 200 = true then
          R 133 k 12 [.ref 30, .int v1, .int v2, .int (v3 + 1), .int v4] [] (su r1.2.2 46 (v2 - 1).toNatClampNeg r1.1)
        else
          none
    else
      none
  else
    none := (unr_R [12, 25, 41, 58, 96] 133 k 400 96 _ _ _).trans rfl
-- X5_force
theorem q134_e (k : Nat) (p1 : Int32) (σ : Sto) : C 134 k [.ref 30, .int p1] σ =
  (C 107 k [.int p1, .int 0, .int ((σ 30 9) - 1)] σ).bind fun r1 =>
    if r1.1 = 0 then
      some ((-2), 0, r1.2.2)
    else
      some ((r1.2.2 30 10), 0, (su r1.2.2 30 10 p1)) := (unr_R [] 134 k 400 0 _ _ _).trans rfl
-- X5_asksOf
set_option maxRecDepth 1000000 in
theorem q135_e (k : Nat) (p1 : Int32) (p2 : Int32) (σ : Sto) : C 135 k [.ref 30, .int p1, .int p2] σ =
  (C 111 k [.ref 30, .int p2] σ).bind fun r1 =>
    if r1.1 = 0 then
      if inb ((3 * p2) + 2) 18 = true then
        (C 113 k [.ref 30] (su (su (su r1.2.2 47 (0 : Int32).toNatClampNeg 0) 47 (1 : Int32).toNatClampNeg ((su r1.2.2 47 (0 : Int32).toNatClampNeg 0) 33 ((3 * p2) + 2).toNatClampNeg)) 47 (2 : Int32).toNatClampNeg ((su (su r1.2.2 47 (0 : Int32).toNatClampNeg 0) 47 (1 : Int32).toNatClampNeg ((su r1.2.2 47 (0 : Int32).toNatClampNeg 0) 33 ((3 * p2) + 2).toNatClampNeg)) 34 (3 : Int32).toNatClampNeg))).bind fun r2 =>
          (C 109 k [.int r2.1] r2.2.2).bind fun r3 =>
            if inb p2 6 = true then
              (C 133 k [.ref 30, .int p1] (su (su (su r3.2.2 47 (3 : Int32).toNatClampNeg r3.1) 47 (4 : Int32).toNatClampNeg ((su r3.2.2 47 (3 : Int32).toNatClampNeg r3.1) 34 (2 : Int32).toNatClampNeg)) 47 (5 : Int32).toNatClampNeg ((su (su r3.2.2 47 (3 : Int32).toNatClampNeg r3.1) 47 (4 : Int32).toNatClampNeg ((su r3.2.2 47 (3 : Int32).toNatClampNeg r3.1) 34 (2 : Int32).toNatClampNeg)) 32 p2.toNatClampNeg))).bind fun r4 =>
                if p1 = 0 then
                  (C 108 k [.int r4.1, .int 0, .int 99] r4.2.2).bind fun r5 =>
                    some (r5.1, 0, r5.2.2)
                else
                  (C 108 k [.int r4.1, .int (-99), .int 99] r4.2.2).bind fun r5 =>
                    some (r5.1, 0, r5.2.2)
            else
              none
      else
        none
    else
      if inb (3 * p2) 18 = true then
        if inb ((3 * p2) + 2) 18 = true then
          (C 113 k [.ref 30] (su (su (su r1.2.2 47 (0 : Int32).toNatClampNeg (r1.2.2 33 (3 * p2).toNatClampNeg)) 47 (1 : Int32).toNatClampNeg ((su r1.2.2 47 (0 : Int32).toNatClampNeg (r1.2.2 33 (3 * p2).toNatClampNeg)) 33 ((3 * p2) + 2).toNatClampNeg)) 47 (2 : Int32).toNatClampNeg ((su (su r1.2.2 47 (0 : Int32).toNatClampNeg (r1.2.2 33 (3 * p2).toNatClampNeg)) 47 (1 : Int32).toNatClampNeg ((su r1.2.2 47 (0 : Int32).toNatClampNeg (r1.2.2 33 (3 * p2).toNatClampNeg)) 33 ((3 * p2) + 2).toNatClampNeg)) 34 (3 : Int32).toNatClampNeg))).bind fun r2 =>
            (C 109 k [.int r2.1] r2.2.2).bind fun r3 =>
              if inb p2 6 = true then
                (C 133 k [.ref 30, .int p1] (su (su (su r3.2.2 47 (3 : Int32).toNatClampNeg r3.1) 47 (4 : Int32).toNatClampNeg ((su r3.2.2 47 (3 : Int32).toNatClampNeg r3.1) 34 (2 : Int32).toNatClampNeg)) 47 (5 : Int32).toNatClampNeg ((su (su r3.2.2 47 (3 : Int32).toNatClampNeg r3.1) 47 (4 : Int32).toNatClampNeg ((su r3.2.2 47 (3 : Int32).toNatClampNeg r3.1) 34 (2 : Int32).toNatClampNeg)) 32 p2.toNatClampNeg))).bind fun r4 =>
                  if p1 = 0 then
                    (C 108 k [.int r4.1, .int 0, .int 99] r4.2.2).bind fun r5 =>
                      some (r5.1, 0, r5.2.2)
                  else
                    (C 108 k [.int r4.1, .int (-99), .int 99] r4.2.2).bind fun r5 =>
                      some (r5.1, 0, r5.2.2)
              else
                none
        else
          none
      else
        none := (unr_R [] 135 k 400 0 _ _ _).trans rfl
-- X5_asks
theorem q136_e (k : Nat) (p1 : Int32) (p2 : Int32) (σ : Sto) : C 136 k [.ref 30, .int p1, .int p2] σ =
  (C 107 k [.int p1, .int 0, .int 2] σ).bind fun r1 =>
    if r1.1 = 0 then
      some ((-1000), 0, r1.2.2)
    else
      (C 110 k [.ref 30, .int p2] r1.2.2).bind fun r2 =>
        if r2.1 = 0 then
          some ((-1000), 0, r2.2.2)
        else
          (C 135 k [.ref 30, .int p1, .int p2] r2.2.2).bind fun r3 =>
            some (r3.1, 0, r3.2.2) := (unr_R [] 136 k 400 0 _ _ _).trans rfl
-- X5_traveller
theorem q137_e (k : Nat) (p1 : Int32) (p2 : Int32) (σ : Sto) : C 137 k [.ref 30, .int p1, .int p2] σ =
  (C 107 k [.int p1, .int 0, .int 59] σ).bind fun r1 =>
    if r1.1 = 0 then
      some ((-2), 0, r1.2.2)
    else
      (C 107 k [.int p2, .int 0, .int 63] r1.2.2).bind fun r2 =>
        if r2.1 = 0 then
          some ((-2), 0, r2.2.2)
        else
          if (r2.2.2 30 0) = 6 then
            some ((-4), 0, r2.2.2)
          else
            if inb (r2.2.2 30 0) 6 = true then
              R 137 k 26 [.ref 30, .int p1, .int p2] [] (su r2.2.2 31 (r2.2.2 30 0).toNatClampNeg (p1 / 10))
            else
              none := (unr_R [26, 34, 42, 52, 62] 137 k 400 0 _ _ _).trans rfl
theorem q137_26 (k : Nat) (v1 : Int32) (v2 : Int32) (σ : Sto) : R 137 k 26 [.ref 30, .int v1, .int v2] [] σ =
  if inb (σ 30 0) 6 = true then
    R 137 k 34 [.ref 30, .int v1, .int v2] [] (su σ 32 (σ 30 0).toNatClampNeg (v1 - v1 / 10 * 10))
  else
    none := (unr_R [26, 34, 42, 52, 62] 137 k 400 26 _ _ _).trans rfl
theorem q137_34 (k : Nat) (v1 : Int32) (v2 : Int32) (σ : Sto) : R 137 k 34 [.ref 30, .int v1, .int v2] [] σ =
  if inb (3 * (σ 30 0)) 18 = true then
    R 137 k 42 [.ref 30, .int v1, .int v2] [] (su σ 33 (3 * (σ 30 0)).toNatClampNeg v2)
  else
    none := (unr_R [26, 34, 42, 52, 62] 137 k 400 34 _ _ _).trans rfl
theorem q137_42 (k : Nat) (v1 : Int32) (v2 : Int32) (σ : Sto) : R 137 k 42 [.ref 30, .int v1, .int v2] [] σ =
  if inb ((3 * (σ 30 0)) + 1) 18 = true then
    R 137 k 52 [.ref 30, .int v1, .int v2] [] (su σ 33 ((3 * (σ 30 0)) + 1).toNatClampNeg 0)
  else
    none := (unr_R [26, 34, 42, 52, 62] 137 k 400 42 _ _ _).trans rfl
theorem q137_52 (k : Nat) (v1 : Int32) (v2 : Int32) (σ : Sto) : R 137 k 52 [.ref 30, .int v1, .int v2] [] σ =
  if inb ((3 * (σ 30 0)) + 2) 18 = true then
    R 137 k 62 [.ref 30, .int v1, .int v2] [] (su σ 33 ((3 * (σ 30 0)) + 2).toNatClampNeg 0)
  else
    none := (unr_R [26, 34, 42, 52, 62] 137 k 400 52 _ _ _).trans rfl
theorem q137_62 (k : Nat) (v1 : Int32) (v2 : Int32) (σ : Sto) : R 137 k 62 [.ref 30, .int v1, .int v2] [] σ =
  some ((((su σ 30 0 ((σ 30 0) + 1)) 30 0) - 1), 0, (su σ 30 0 ((σ 30 0) + 1))) := (unr_R [26, 34, 42, 52, 62] 137 k 400 62 _ _ _).trans rfl
-- X5_put
theorem q138_e (k : Nat) (p1 : Int32) (p2 : Int32) (p3 : Int32) (σ : Sto) : C 138 k [.ref 30, .int p1, .int p2, .int p3] σ =
  (C 110 k [.ref 30, .int p1] σ).bind fun r1 =>
    if r1.1 = 0 then
      some ((-5), 0, r1.2.2)
    else
      if p2 = 0 then
        R 138 k 16 [.ref 30, .int p1, .int p2, .int p3, .null, .null, .null] [.int 63] r1.2.2
      else
        if p2 = 1 then
          R 138 k 16 [.ref 30, .int p1, .int p2, .int p3, .null, .null, .null] [.int 1] r1.2.2
        else
          R 138 k 16 [.ref 30, .int p1, .int p2, .int p3, .null, .null, .null] [.int 99] r1.2.2 := (unr_R [16, 28] 138 k 400 0 _ _ _).trans rfl
theorem q138_16 (k : Nat) (v1 : Int32) (v2 : Int32) (v3 : Int32) (s0 : Int32) (σ : Sto) : R 138 k 16 [.ref 30, .int v1, .int v2, .int v3, .null, .null, .null] [.int s0] σ =
  (C 107 k [.int v2, .int 0, .int 2] σ).bind fun r1 =>
    if r1.1 = 0 then
      some ((-7), 0, r1.2.2)
    else
      if v2 = 0 then
        R 138 k 28 [.ref 30, .int v1, .int v2, .int v3, .int s0, .null, .null] [.int (-1), .int v3] r1.2.2
      else
        R 138 k 28 [.ref 30, .int v1, .int v2, .int v3, .int s0, .null, .null] [.int 0, .int v3] r1.2.2 := (unr_R [16, 28] 138 k 400 16 _ _ _).trans rfl
theorem q138_28 (k : Nat) (v1 : Int32) (v2 : Int32) (v3 : Int32) (v4 : Int32) (s0 : Int32) (s1 : Int32) (σ : Sto) : R 138 k 28 [.ref 30, .int v1, .int v2, .int v3, .int v4, .null, .null] [.int s0, .int s1] σ =
  (C 107 k [.int s1, .int s0, .int v4] σ).bind fun r1 =>
    if r1.1 = 0 then
      some ((-7), 0, r1.2.2)
    else
      if v2 = 0 then
        if (r1.2.2 34 (1 : Int32).toNatClampNeg) = v1 then
          some ((-7), 0, r1.2.2)
        else
          if inb ((3 * v1) + v2) 18 = true then
            if inb ((3 * v1) + v2) 18 = true then
              some ((r1.2.2 33 ((3 * v1) + v2).toNatClampNeg), 0, (su r1.2.2 33 ((3 * v1) + v2).toNatClampNeg v3))
            else
              none
          else
            none
      else
        if inb ((3 * v1) + v2) 18 = true then
          if inb ((3 * v1) + v2) 18 = true then
            some ((r1.2.2 33 ((3 * v1) + v2).toNatClampNeg), 0, (su r1.2.2 33 ((3 * v1) + v2).toNatClampNeg v3))
          else
            none
        else
          none := (unr_R [16, 28] 138 k 400 28 _ _ _).trans rfl
-- X5_gapOf
theorem q139_e (k : Nat) (p1 : Int32) (σ : Sto) : C 139 k [.ref 30, .int p1] σ =
  if inb p1 6 = true then
    if (σ 31 p1.toNatClampNeg) = 5 then
      some (0, 0, σ)
    else
      (C 135 k [.ref 30, .int 0, .int p1] σ).bind fun r1 =>
        if inb p1 6 = true then
          if (r1.2.2 31 p1.toNatClampNeg) = 1 then
            some ((r1.1 / 2), 0, r1.2.2)
          else
            if inb p1 6 = true then
              if (r1.2.2 31 p1.toNatClampNeg) = 3 then
                some ((r1.1 / 2), 0, r1.2.2)
              else
                if inb p1 6 = true then
                  if (r1.2.2 31 p1.toNatClampNeg) = 0 then
                    some (r1.1, 0, r1.2.2)
                  else
                    if inb p1 6 = true then
                      some ((r1.1 + (r1.2.2 32 p1.toNatClampNeg)), 0, r1.2.2)
                    else
                      none
                else
                  none
            else
              none
        else
          none
  else
    none := (unr_R [] 139 k 400 0 _ _ _).trans rfl
-- X5_likedOf
set_option maxRecDepth 1000000 in
theorem q140_e (k : Nat) (p1 : Int32) (σ : Sto) : C 140 k [.ref 30, .int p1] σ =
  if inb p1 6 = true then
    if (σ 31 p1.toNatClampNeg) = 5 then
      if inb p1 6 = true then
        some ((10 * (σ 32 p1.toNatClampNeg)), 0, σ)
      else
        none
    else
      (C 135 k [.ref 30, .int 1, .int p1] σ).bind fun r1 =>
        if inb p1 6 = true then
          if (r1.2.2 31 p1.toNatClampNeg) = 1 then
            if inb p1 6 = true then
              some ((r1.1 - (r1.2.2 32 p1.toNatClampNeg)), 0, r1.2.2)
            else
              none
          else
            if (r1.2.2 31 p1.toNatClampNeg) = 2 then
              some (r1.1, 0, r1.2.2)
            else
              if (r1.2.2 31 p1.toNatClampNeg) = 3 then
                if ((r1.2.2 34 (3 : Int32).toNatClampNeg) - (r1.2.2 34 (3 : Int32).toNatClampNeg) / 4 * 4) = 0 then
                  some (99, 0, r1.2.2)
                else
                  if inb p1 6 = true then
                    some ((r1.1 - (r1.2.2 32 p1.toNatClampNeg)), 0, r1.2.2)
                  else
                    none
              else
                if (r1.2.2 31 p1.toNatClampNeg) = 4 then
                  some ((-r1.1), 0, r1.2.2)
                else
                  some (r1.1, 0, r1.2.2)
        else
          none
  else
    none := (unr_R [] 140 k 400 0 _ _ _).trans rfl
-- X5_walksOf
set_option maxRecDepth 1000000 in
theorem q141_e (k : Nat) (p1 : Int32) (σ : Sto) : C 141 k [.ref 30, .int p1] σ =
  if inb p1 6 = true then
    if (σ 31 p1.toNatClampNeg) = 4 then
      if ((σ 34 (3 : Int32).toNatClampNeg) - (σ 34 (3 : Int32).toNatClampNeg) / 2 * 2) = 0 then
        if inb p1 6 = true then
          some ((σ 32 p1.toNatClampNeg), 0, σ)
        else
          none
      else
        if inb p1 6 = true then
          some ((-(σ 32 p1.toNatClampNeg)), 0, σ)
        else
          none
    else
      (C 135 k [.ref 30, .int 2, .int p1] σ).bind fun r1 =>
        if inb p1 6 = true then
          if (r1.2.2 31 p1.toNatClampNeg) = 2 then
            (C 143 k [.ref 30, .int p1] r1.2.2).bind fun r2 =>
              if r2.1 = 0 then
                some (r1.1, 0, r2.2.2)
              else
                some ((r1.1 + 1), 0, r2.2.2)
          else
            if (r1.2.2 31 p1.toNatClampNeg) = 3 then
              (C 143 k [.ref 30, .int p1] r1.2.2).bind fun r2 =>
                if r2.1 = 0 then
                  some (((-1) - r1.1), 0, r2.2.2)
                else
                  some (0, 0, r2.2.2)
            else
              some (r1.1, 0, r1.2.2)
        else
          none
  else
    none := (unr_R [] 141 k 400 0 _ _ _).trans rfl
-- X5_farOf
theorem q142_e (k : Nat) (p1 : Int32) (σ : Sto) : C 142 k [.ref 30, .int p1] σ =
  R 142 k 4 [.ref 30, .int p1, .int (-1), .int 0, .null] [] σ := (unr_R [4, 39] 142 k 400 0 _ _ _).trans rfl
theorem q142_4 (k : Nat) (v1 : Int32) (v2 : Int32) (v3 : Int32) (u4 : Value) (σ : Sto) : R 142 k 4 [.ref 30, .int v1, .int v2, .int v3, u4] [] σ =
  if v3 < (σ 30 0) then
    (C 111 k [.ref 30, .int v1] σ).bind fun r1 =>
      if r1.1 = 0 then
        some (v2, 0, r1.2.2)
      else
        if v3 = v1 then
          R 142 k 4 [.ref 30, .int v1, .int v2, .int (v3 + 1), u4] [] r1.2.2
        else
          (C 112 k [.ref 30, .int v3] r1.2.2).bind fun r2 =>
            if r2.1 = 0 then
              R 142 k 4 [.ref 30, .int v1, .int v2, .int (v3 + 1), u4] [] r2.2.2
            else
              if inb (3 * v3) 18 = true then
                if inb (3 * v1) 18 = true then
                  if ((r2.2.2 33 (3 * v3).toNatClampNeg) - (r2.2.2 33 (3 * v1).toNatClampNeg)) < 0 then
                    R 142 k 39 [.ref 30, .int v1, .int v2, .int v3, .int ((r2.2.2 33 (3 * v3).toNatClampNeg) - (r2.2.2 33 (3 * v1).toNatClampNeg))] [.int (-((r2.2.2 33 (3 * v3).toNatClampNeg) - (r2.2.2 33 (3 * v1).toNatClampNeg)))] r2.2.2
                  else
                    R 142 k 39 [.ref 30, .int v1, .int v2, .int v3, .int ((r2.2.2 33 (3 * v3).toNatClampNeg) - (r2.2.2 33 (3 * v1).toNatClampNeg))] [.int ((r2.2.2 33 (3 * v3).toNatClampNeg) - (r2.2.2 33 (3 * v1).toNatClampNeg))] r2.2.2
                else
                  none
              else
                none
  else
    some (v2, 0, σ) := (unr_R [4, 39] 142 k 400 4 _ _ _).trans rfl
theorem q142_39 (k : Nat) (v1 : Int32) (v2 : Int32) (v3 : Int32) (v4 : Int32) (s0 : Int32) (σ : Sto) : R 142 k 39 [.ref 30, .int v1, .int v2, .int v3, .int v4] [.int s0] σ =
  if v2 = (-1) then
    R 142 k 4 [.ref 30, .int v1, .int s0, .int (v3 + 1), .int s0] [] σ
  else
    if s0 < v2 then
      R 142 k 4 [.ref 30, .int v1, .int s0, .int (v3 + 1), .int s0] [] σ
    else
      R 142 k 4 [.ref 30, .int v1, .int v2, .int (v3 + 1), .int s0] [] σ := (unr_R [4, 39] 142 k 400 39 _ _ _).trans rfl
-- X5_isAlone
theorem q143_e (k : Nat) (p1 : Int32) (σ : Sto) : C 143 k [.ref 30, .int p1] σ =
  (C 112 k [.ref 30, .int p1] σ).bind fun r1 =>
    if r1.1 = 0 then
      some (0, 0, r1.2.2)
    else
      (C 142 k [.ref 30, .int p1] r1.2.2).bind fun r2 =>
        if r2.1 = (-1) then
          some (1, 0, r2.2.2)
        else
          (C 139 k [.ref 30, .int p1] r2.2.2).bind fun r3 =>
            if r2.1 < r3.1 then
              some (0, 0, r3.2.2)
            else
              some (1, 0, r3.2.2) := (unr_R [] 143 k 400 0 _ _ _).trans rfl
-- X5_aloneSet
theorem q144_e (k : Nat) (σ : Sto) : C 144 k [.ref 30] σ =
  R 144 k 4 [.ref 30, .int 0, .int 0] [] σ := (unr_R [4] 144 k 400 0 _ _ _).trans rfl
theorem q144_4 (k : Nat) (v1 : Int32) (v2 : Int32) (σ : Sto) : R 144 k 4 [.ref 30, .int v1, .int v2] [] σ =
  if v2 < (σ 30 0) then
    (C 143 k [.ref 30, .int v2] σ).bind fun r1 =>
      if r1.1 = 0 then
        R 144 k 4 [.ref 30, .int (v1 ||| 0), .int (v2 + 1)] [] r1.2.2
      else
        R 144 k 4 [.ref 30, .int (v1 ||| (1 <<< (v2 &&& 31))), .int (v2 + 1)] [] r1.2.2
  else
    some (v1, 0, σ) := (unr_R [4] 144 k 400 4 _ _ _).trans rfl
-- X5_choice
theorem q145_e (k : Nat) (σ : Sto) : C 145 k [.ref 30] σ =
  R 145 k 6 [.ref 30, .int (-1), .int 0, .int 0, .null, .null] [] σ := (unr_R [6] 145 k 400 0 _ _ _).trans rfl
theorem q145_6 (k : Nat) (v1 : Int32) (v2 : Int32) (v3 : Int32) (u4 : Value) (u5 : Value) (σ : Sto) : R 145 k 6 [.ref 30, .int v1, .int v2, .int v3, u4, u5] [] σ =
  if v3 < (σ 30 0) then
    (C 143 k [.ref 30, .int v3] σ).bind fun r1 =>
      if r1.1 = 0 then
        R 145 k 6 [.ref 30, .int v1, .int v2, .int (v3 + 1), u4, u5] [] r1.2.2
      else
        (C 140 k [.ref 30, .int v3] r1.2.2).bind fun r2 =>
          if v1 = (-1) then
            R 145 k 6 [.ref 30, .int v3, .int r2.1, .int (v3 + 1), .int r2.1, .int 1] [] r2.2.2
          else
            if v2 < r2.1 then
              R 145 k 6 [.ref 30, .int v3, .int r2.1, .int (v3 + 1), .int r2.1, .int 1] [] r2.2.2
            else
              R 145 k 6 [.ref 30, .int v1, .int v2, .int (v3 + 1), .int r2.1, .int 0] [] r2.2.2
  else
    some (v1, 0, σ) := (unr_R [6] 145 k 400 6 _ _ _).trans rfl
-- X5_told
set_option maxRecDepth 1000000 in
theorem q146_e (k : Nat) (p1 : Int32) (p2 : Int32) (σ : Sto) : C 146 k [.ref 30, .int p1, .int p2] σ =
  (C 110 k [.ref 30, .int p1] σ).bind fun r1 =>
    if r1.1 = 0 then
      some ((-5), 0, r1.2.2)
    else
      if p2 = 0 then
        if inb ((3 * p1) + p2) 18 = true then
          some ((r1.2.2 33 ((3 * p1) + p2).toNatClampNeg), 0, r1.2.2)
        else
          none
      else
        if p2 = 1 then
          if inb ((3 * p1) + p2) 18 = true then
            some ((r1.2.2 33 ((3 * p1) + p2).toNatClampNeg), 0, r1.2.2)
          else
            none
        else
          if p2 = 2 then
            if inb ((3 * p1) + p2) 18 = true then
              some ((r1.2.2 33 ((3 * p1) + p2).toNatClampNeg), 0, r1.2.2)
            else
              none
          else
            if p2 = 3 then
              if inb p1 6 = true then
                some ((r1.2.2 31 p1.toNatClampNeg), 0, r1.2.2)
              else
                none
            else
              if p2 = 4 then
                if inb p1 6 = true then
                  some ((r1.2.2 32 p1.toNatClampNeg), 0, r1.2.2)
                else
                  none
              else
                if p2 = 5 then
                  (C 139 k [.ref 30, .int p1] r1.2.2).bind fun r2 =>
                    some (r2.1, 0, r2.2.2)
                else
                  if p2 = 6 then
                    (C 140 k [.ref 30, .int p1] r1.2.2).bind fun r2 =>
                      some ((1000 + r2.1), 0, r2.2.2)
                  else
                    if p2 = 7 then
                      (C 141 k [.ref 30, .int p1] r1.2.2).bind fun r2 =>
                        some ((1000 + r2.1), 0, r2.2.2)
                    else
                      if p2 = 8 then
                        (C 143 k [.ref 30, .int p1] r1.2.2).bind fun r2 =>
                          if r2.1 = 0 then
                            R 146 k 50 [.ref 30, .int p1, .int p2] [.int 0] r2.2.2
                          else
                            R 146 k 50 [.ref 30, .int p1, .int p2] [.int 1] r2.2.2
                      else
                        if p2 = 9 then
                          (C 142 k [.ref 30, .int p1] r1.2.2).bind fun r2 =>
                            some (r2.1, 0, r2.2.2)
                        else
                          some ((-7), 0, r1.2.2) := (unr_R [50] 146 k 400 0 _ _ _).trans rfl
theorem q146_50 (k : Nat) (v1 : Int32) (v2 : Int32) (s0 : Int32) (σ : Sto) : R 146 k 50 [.ref 30, .int v1, .int v2] [.int s0] σ =
  some (s0, 0, σ) := (unr_R [50] 146 k 400 50 _ _ _).trans rfl
-- X5_fetches
theorem q147_e (k : Nat) (p1 : Int32) (σ : Sto) : C 147 k [.ref 30, .int p1] σ =
  if inb (3 * p1) 18 = true then
    if ((2 * (σ 33 (3 * p1).toNatClampNeg)) - 63) < 0 then
      (C 108 k [.int (((su (su σ 34 (0 : Int32).toNatClampNeg (1 + ((-((2 * (σ 33 (3 * p1).toNatClampNeg)) - 63)) / 20))) 34 (1 : Int32).toNatClampNeg p1) 34 (2 : Int32).toNatClampNeg) + 1), .int 0, .int 9999] (su (su σ 34 (0 : Int32).toNatClampNeg (1 + ((-((2 * (σ 33 (3 * p1).toNatClampNeg)) - 63)) / 20))) 34 (1 : Int32).toNatClampNeg p1)).bind fun r1 =>
        if inb (3 * p1) 18 = true then
          some (0, 0, (su (su r1.2.2 34 (2 : Int32).toNatClampNeg r1.1) 33 (3 * p1).toNatClampNeg (-1)))
        else
          none
    else
      (C 108 k [.int (((su (su σ 34 (0 : Int32).toNatClampNeg (1 + (((2 * (σ 33 (3 * p1).toNatClampNeg)) - 63) / 20))) 34 (1 : Int32).toNatClampNeg p1) 34 (2 : Int32).toNatClampNeg) + 1), .int 0, .int 9999] (su (su σ 34 (0 : Int32).toNatClampNeg (1 + (((2 * (σ 33 (3 * p1).toNatClampNeg)) - 63) / 20))) 34 (1 : Int32).toNatClampNeg p1)).bind fun r1 =>
        if inb (3 * p1) 18 = true then
          some (0, 0, (su (su r1.2.2 34 (2 : Int32).toNatClampNeg r1.1) 33 (3 * p1).toNatClampNeg (-1)))
        else
          none
  else
    none := (unr_R [] 147 k 400 0 _ _ _).trans rfl
-- X5_hourOf
theorem q148_e (k : Nat) (σ : Sto) : C 148 k [.ref 30] σ =
  if 0 < (σ 34 (0 : Int32).toNatClampNeg) then
    if ((su σ 34 (0 : Int32).toNatClampNeg ((σ 34 (0 : Int32).toNatClampNeg) - 1)) 34 (0 : Int32).toNatClampNeg) = 0 then
      R 148 k 42 [.ref 30, .int (-1), .int 0] [] (su (su σ 34 (0 : Int32).toNatClampNeg ((σ 34 (0 : Int32).toNatClampNeg) - 1)) 34 (1 : Int32).toNatClampNeg (-1))
    else
      R 148 k 42 [.ref 30, .int (-1), .int 0] [] (su (su σ 34 (0 : Int32).toNatClampNeg ((σ 34 (0 : Int32).toNatClampNeg) - 1)) 34 (1 : Int32).toNatClampNeg ((su σ 34 (0 : Int32).toNatClampNeg ((σ 34 (0 : Int32).toNatClampNeg) - 1)) 34 (1 : Int32).toNatClampNeg))
  else
    (C 145 k [.ref 30] σ).bind fun r1 =>
      if r1.1 = (-1) then
        R 148 k 42 [.ref 30, .int r1.1, .int 0] [] r1.2.2
      else
        (C 147 k [.ref 30, .int r1.1] r1.2.2).bind fun r2 =>
          R 148 k 42 [.ref 30, .int r1.1, .int 0] [] r2.2.2 := (unr_R [42] 148 k 400 0 _ _ _).trans rfl
theorem q148_42 (k : Nat) (v1 : Int32) (v2 : Int32) (σ : Sto) : R 148 k 42 [.ref 30, .int v1, .int v2] [] σ =
  if v2 < (σ 30 0) then
    (C 111 k [.ref 30, .int v2] σ).bind fun r1 =>
      if r1.1 = 0 then
        R 148 k 42 [.ref 30, .int v1, .int (v2 + 1)] [] r1.2.2
      else
        if inb (3 * v2) 18 = true then
          (C 141 k [.ref 30, .int v2] r1.2.2).bind fun r2 =>
            (C 108 k [.int ((r1.2.2 33 (3 * v2).toNatClampNeg) + r2.1), .int 0, .int 63] r2.2.2).bind fun r3 =>
              if inb (3 * v2) 18 = true then
                if inb ((3 * v2) + 2) 18 = true then
                  (C 108 k [.int (((su r3.2.2 33 (3 * v2).toNatClampNeg r3.1) 33 ((3 * v2) + 2).toNatClampNeg) + 1), .int 0, .int 99] (su r3.2.2 33 (3 * v2).toNatClampNeg r3.1)).bind fun r4 =>
                    if inb ((3 * v2) + 2) 18 = true then
                      R 148 k 42 [.ref 30, .int v1, .int (v2 + 1)] [] (su r4.2.2 33 ((3 * v2) + 2).toNatClampNeg r4.1)
                    else
                      none
                else
                  none
              else
                none
        else
          none
  else
    some (v1, 0, (su σ 34 (3 : Int32).toNatClampNeg ((σ 34 (3 : Int32).toNatClampNeg) + 1))) := (unr_R [42] 148 k 400 42 _ _ _).trans rfl
-- X5_hour
theorem q149_e (k : Nat) (σ : Sto) : C 149 k [.ref 30] σ =
  if (σ 34 (3 : Int32).toNatClampNeg) = 9999 then
    some ((-3), 0, σ)
  else
    (C 148 k [.ref 30] σ).bind fun r1 =>
      some (r1.1, 0, r1.2.2) := (unr_R [] 149 k 400 0 _ _ _).trans rfl
-- X5_walk
theorem q150_e (k : Nat) (p1 : Int32) (p2 : Int32) (σ : Sto) : C 150 k [.ref 30, .int p1, .int p2] σ =
  (C 110 k [.ref 30, .int p1] σ).bind fun r1 =>
    if r1.1 = 0 then
      some ((-5), 0, r1.2.2)
    else
      (C 107 k [.int p2, .int (-63), .int 63] r1.2.2).bind fun r2 =>
        if r2.1 = 0 then
          some ((-7), 0, r2.2.2)
        else
          (C 111 k [.ref 30, .int p1] r2.2.2).bind fun r3 =>
            if r3.1 = 0 then
              some ((-3), 0, r3.2.2)
            else
              if inb (3 * p1) 18 = true then
                (C 108 k [.int ((r3.2.2 33 (3 * p1).toNatClampNeg) + p2), .int 0, .int 63] r3.2.2).bind fun r4 =>
                  if inb (3 * p1) 18 = true then
                    if inb (3 * p1) 18 = true then
                      some (((su r4.2.2 33 (3 * p1).toNatClampNeg r4.1) 33 (3 * p1).toNatClampNeg), 0, (su r4.2.2 33 (3 * p1).toNatClampNeg r4.1))
                    else
                      none
                  else
                    none
              else
                none := (unr_R [] 150 k 400 0 _ _ _).trans rfl
-- X5_keeps
theorem q151_e (k : Nat) (σ : Sto) : C 151 k [.ref 30] σ =
  R 151 k 2 [.ref 30, .int 0] [] σ := (unr_R [2, 17] 151 k 400 0 _ _ _).trans rfl
theorem q151_2 (k : Nat) (v1 : Int32) (σ : Sto) : R 151 k 2 [.ref 30, .int v1] [] σ =
  if v1 < 18 then
    if inb v1 18 = true then
      if inb v1 22 = true then
        R 151 k 2 [.ref 30, .int (v1 + 1)] [] (su σ 48 v1.toNatClampNeg (σ 33 v1.toNatClampNeg))
      else
        none
    else
      none
  else
    R 151 k 17 [.ref 30, .int 0] [] σ := (unr_R [2, 17] 151 k 400 2 _ _ _).trans rfl
theorem q151_17 (k : Nat) (v1 : Int32) (σ : Sto) : R 151 k 17 [.ref 30, .int v1] [] σ =
  if v1 < 4 then
    if inb v1 4 = true then
      if inb (18 + v1) 22 = true then
        R 151 k 17 [.ref 30, .int (v1 + 1)] [] (su σ 48 (18 + v1).toNatClampNeg (σ 34 v1.toNatClampNeg))
      else
        none
    else
      none
  else
    some (0, 0, σ) := (unr_R [2, 17] 151 k 400 17 _ _ _).trans rfl
-- X5_lays
theorem q152_e (k : Nat) (σ : Sto) : C 152 k [.ref 30] σ =
  R 152 k 2 [.ref 30, .int 0] [] σ := (unr_R [2, 17] 152 k 400 0 _ _ _).trans rfl
theorem q152_2 (k : Nat) (v1 : Int32) (σ : Sto) : R 152 k 2 [.ref 30, .int v1] [] σ =
  if v1 < 18 then
    if inb v1 22 = true then
      if inb v1 18 = true then
        R 152 k 2 [.ref 30, .int (v1 + 1)] [] (su σ 33 v1.toNatClampNeg (σ 48 v1.toNatClampNeg))
      else
        none
    else
      none
  else
    R 152 k 17 [.ref 30, .int 0] [] σ := (unr_R [2, 17] 152 k 400 2 _ _ _).trans rfl
theorem q152_17 (k : Nat) (v1 : Int32) (σ : Sto) : R 152 k 17 [.ref 30, .int v1] [] σ =
  if v1 < 4 then
    if inb (18 + v1) 22 = true then
      if inb v1 4 = true then
        R 152 k 17 [.ref 30, .int (v1 + 1)] [] (su σ 34 v1.toNatClampNeg (σ 48 (18 + v1).toNatClampNeg))
      else
        none
    else
      none
  else
    some (0, 0, σ) := (unr_R [2, 17] 152 k 400 17 _ _ _).trans rfl
-- X5_goes
theorem q153_e (k : Nat) (p1 : Int32) (σ : Sto) : C 153 k [.ref 30, .int p1] σ =
  R 153 k 7 [.ref 30, .int p1, .int 0, .int 0, .null] [] (su σ 30 30 0) := (unr_R [7] 153 k 400 0 _ _ _).trans rfl
theorem q153_7 (k : Nat) (v1 : Int32) (v2 : Int32) (v3 : Int32) (u4 : Value) (σ : Sto) : R 153 k 7 [.ref 30, .int v1, .int v2, .int v3, u4] [] σ =
  if v3 < v1 then
    (C 148 k [.ref 30] σ).bind fun r1 =>
      if r1.1 = (-1) then
        if r1.1 = (-1) then
          R 153 k 7 [.ref 30, .int v1, .int (v2 + 0), .int (v3 + 1), .int r1.1] [] (su r1.2.2 30 30 (r1.2.2 30 30))
        else
          R 153 k 7 [.ref 30, .int v1, .int (v2 + 0), .int (v3 + 1), .int r1.1] [] (su r1.2.2 30 30 (((10 * (r1.2.2 30 30)) + r1.1) + 1))
      else
        if r1.1 = (-1) then
          R 153 k 7 [.ref 30, .int v1, .int (v2 + 1), .int (v3 + 1), .int r1.1] [] (su r1.2.2 30 30 (r1.2.2 30 30))
        else
          R 153 k 7 [.ref 30, .int v1, .int (v2 + 1), .int (v3 + 1), .int r1.1] [] (su r1.2.2 30 30 (((10 * (r1.2.2 30 30)) + r1.1) + 1))
  else
    some (v2, 0, σ) := (unr_R [7] 153 k 400 7 _ _ _).trans rfl
-- X5_run
theorem q154_e (k : Nat) (p1 : Int32) (p2 : Int32) (σ : Sto) : C 154 k [.ref 30, .int p1, .int p2] σ =
  (C 107 k [.int p2, .int 0, .int 2] σ).bind fun r1 =>
    if r1.1 = 0 then
      (C 107 k [.int p2, .int 10, .int (9 + (r1.2.2 30 0))] r1.2.2).bind fun r2 =>
        if r2.1 = 0 then
          (C 107 k [.int p2, .int 20, .int (19 + (r2.2.2 30 0))] r2.2.2).bind fun r3 =>
            if r3.1 = 0 then
              (C 107 k [.int p1, .int 0, .int 60] r3.2.2).bind fun r4 =>
                if r4.1 = 0 then
                  some ((-2), 0, r4.2.2)
                else
                  some ((-2), 0, r4.2.2)
            else
              R 154 k 21 [.ref 30, .int p1, .int p2, .null, .null] [] r3.2.2
        else
          R 154 k 21 [.ref 30, .int p1, .int p2, .null, .null] [] r2.2.2
    else
      R 154 k 21 [.ref 30, .int p1, .int p2, .null, .null] [] r1.2.2 := (unr_R [21] 154 k 400 0 _ _ _).trans rfl
theorem q154_21 (k : Nat) (v1 : Int32) (v2 : Int32) (σ : Sto) : R 154 k 21 [.ref 30, .int v1, .int v2, .null, .null] [] σ =
  (C 107 k [.int v1, .int 0, .int 60] σ).bind fun r1 =>
    if r1.1 = 0 then
      some ((-2), 0, r1.2.2)
    else
      (C 151 k [.ref 30] r1.2.2).bind fun r2 =>
        (C 153 k [.ref 30, .int v1] r2.2.2).bind fun r3 =>
          if v2 = 0 then
            (C 152 k [.ref 30] r3.2.2).bind fun r4 =>
              some (r3.1, 0, r4.2.2)
          else
            if v2 = 1 then
              (C 152 k [.ref 30] r3.2.2).bind fun r4 =>
                some ((r3.2.2 30 30), 0, r4.2.2)
            else
              if v2 = 2 then
                (C 115 k [.ref 30] r3.2.2).bind fun r4 =>
                  (C 152 k [.ref 30] r4.2.2).bind fun r5 =>
                    some (r4.1, 0, r5.2.2)
              else
                if v2 < 20 then
                  if inb (3 * (v2 - 10)) 18 = true then
                    (C 152 k [.ref 30] r3.2.2).bind fun r4 =>
                      some ((r3.2.2 33 (3 * (v2 - 10)).toNatClampNeg), 0, r4.2.2)
                  else
                    none
                else
                  if inb ((3 * (v2 - 20)) + 2) 18 = true then
                    (C 152 k [.ref 30] r3.2.2).bind fun r4 =>
                      some ((r3.2.2 33 ((3 * (v2 - 20)) + 2).toNatClampNeg), 0, r4.2.2)
                  else
                    none := (unr_R [21] 154 k 400 21 _ _ _).trans rfl
-- X5_isNow
theorem q155_e (k : Nat) (p1 : Int32) (p2 : Int32) (σ : Sto) : C 155 k [.ref 30, .int p1, .int p2] σ =
  if p2 = 0 then
    (C 114 k [.ref 30, .int p1] σ).bind fun r1 =>
      if nok 1 r1.1 = true then
        some (r1.1, 0, r1.2.2)
      else
        none
  else
    if p2 = 1 then
      (C 143 k [.ref 30, .int p1] σ).bind fun r1 =>
        if nok 1 r1.1 = true then
          some (r1.1, 0, r1.2.2)
        else
          none
    else
      if (σ 34 (0 : Int32).toNatClampNeg) = 0 then
        (C 144 k [.ref 30] σ).bind fun r1 =>
          if r1.1 = 0 then
            some (1, 0, r1.2.2)
          else
            some (0, 0, r1.2.2)
      else
        some (0, 0, σ) := (unr_R [] 155 k 400 0 _ _ _).trans rfl
-- X5_firstTime
theorem q156_e (k : Nat) (p1 : Int32) (p2 : Int32) (σ : Sto) : C 156 k [.ref 30, .int p1, .int p2] σ =
  R 156 k 4 [.ref 30, .int p1, .int p2, .int (-1), .int 0] [] σ := (unr_R [4] 156 k 400 0 _ _ _).trans rfl
theorem q156_4 (k : Nat) (v1 : Int32) (v2 : Int32) (v3 : Int32) (v4 : Int32) (σ : Sto) : R 156 k 4 [.ref 30, .int v1, .int v2, .int v3, .int v4] [] σ =
  if 60 < v4 then
    some (v3, 0, σ)
  else
    if v3 = (-1) then
      (C 155 k [.ref 30, .int v1, .int v2] σ).bind fun r1 =>
        if r1.1 = 0 then
          (C 148 k [.ref 30] r1.2.2).bind fun r2 =>
            R 156 k 4 [.ref 30, .int v1, .int v2, .int (-1), .int (v4 + 1)] [] r2.2.2
        else
          (C 148 k [.ref 30] r1.2.2).bind fun r2 =>
            R 156 k 4 [.ref 30, .int v1, .int v2, .int v4, .int (v4 + 1)] [] r2.2.2
    else
      some (v3, 0, σ) := (unr_R [4] 156 k 400 4 _ _ _).trans rfl
-- X5_when
theorem q157_e (k : Nat) (p1 : Int32) (p2 : Int32) (σ : Sto) : C 157 k [.ref 30, .int p1, .int p2] σ =
  (C 107 k [.int p2, .int 0, .int 2] σ).bind fun r1 =>
    if r1.1 = 0 then
      some ((-7), 0, r1.2.2)
    else
      if p2 < 2 then
        (C 110 k [.ref 30, .int p1] r1.2.2).bind fun r2 =>
          if r2.1 = 0 then
            some ((-5), 0, r2.2.2)
          else
            (C 151 k [.ref 30] r2.2.2).bind fun r3 =>
              (C 156 k [.ref 30, .int p1, .int p2] r3.2.2).bind fun r4 =>
                (C 152 k [.ref 30] r4.2.2).bind fun r5 =>
                  some (r4.1, 0, r5.2.2)
      else
        (C 151 k [.ref 30] r1.2.2).bind fun r2 =>
          (C 156 k [.ref 30, .int p1, .int p2] r2.2.2).bind fun r3 =>
            (C 152 k [.ref 30] r3.2.2).bind fun r4 =>
              some (r3.1, 0, r4.2.2) := (unr_R [] 157 k 400 0 _ _ _).trans rfl
-- X5_fetchedIn
theorem q158_e (k : Nat) (p1 : Int32) (σ : Sto) : C 158 k [.ref 30, .int p1] σ =
  (C 151 k [.ref 30] σ).bind fun r1 =>
    (C 153 k [.ref 30, .int p1] r1.2.2).bind fun r2 =>
      (C 152 k [.ref 30] r2.2.2).bind fun r3 =>
        some (r2.1, 0, r3.2.2) := (unr_R [] 158 k 400 0 _ _ _).trans rfl
-- X5_hide
theorem q159_e (k : Nat) (p1 : Int32) (p2 : Int32) (σ : Sto) : C 159 k [.ref 30, .int p1, .int p2] σ =
  (C 107 k [.int p1, .int 0, .int 60] σ).bind fun r1 =>
    if r1.1 = 0 then
      some ((-2), 0, r1.2.2)
    else
      (C 107 k [.int p2, .int 0, .int 1] r1.2.2).bind fun r2 =>
        if r2.1 = 0 then
          some ((-2), 0, r2.2.2)
        else
          (C 158 k [.ref 30, .int p1] r2.2.2).bind fun r3 =>
            R 159 k 20 [.ref 30, .int p1, .int p2, .int (-1), .int r3.1, .int 0, .null] [] r3.2.2 := (unr_R [20] 159 k 400 0 _ _ _).trans rfl
theorem q159_20 (k : Nat) (v1 : Int32) (v2 : Int32) (v3 : Int32) (v4 : Int32) (v5 : Int32) (u6 : Value) (σ : Sto) : R 159 k 20 [.ref 30, .int v1, .int v2, .int v3, .int v4, .int v5, u6] [] σ =
  if v5 < (σ 30 0) then
    (C 112 k [.ref 30, .int v5] σ).bind fun r1 =>
      if r1.1 = 0 then
        R 159 k 20 [.ref 30, .int v1, .int v2, .int v3, .int v4, .int (v5 + 1), u6] [] r1.2.2
      else
        if inb ((3 * v5) + 1) 18 = true then
          (C 158 k [.ref 30, .int v1] (su r1.2.2 33 ((3 * v5) + 1).toNatClampNeg 1)).bind fun r2 =>
            if inb ((3 * v5) + 1) 18 = true then
              if v4 < r2.1 then
                if v4 < r2.1 then
                  R 159 k 20 [.ref 30, .int v1, .int v2, .int v5, .int r2.1, .int (v5 + 1), .int r2.1] [] (su r2.2.2 33 ((3 * v5) + 1).toNatClampNeg 0)
                else
                  R 159 k 20 [.ref 30, .int v1, .int v2, .int v5, .int v4, .int (v5 + 1), .int r2.1] [] (su r2.2.2 33 ((3 * v5) + 1).toNatClampNeg 0)
              else
                if v4 < r2.1 then
                  R 159 k 20 [.ref 30, .int v1, .int v2, .int v3, .int r2.1, .int (v5 + 1), .int r2.1] [] (su r2.2.2 33 ((3 * v5) + 1).toNatClampNeg 0)
                else
                  R 159 k 20 [.ref 30, .int v1, .int v2, .int v3, .int v4, .int (v5 + 1), .int r2.1] [] (su r2.2.2 33 ((3 * v5) + 1).toNatClampNeg 0)
            else
              none
        else
          none
  else
    if v2 = 0 then
      some (v3, 0, σ)
    else
      some (v4, 0, σ) := (unr_R [20] 159 k 400 20 _ _ _).trans rfl
