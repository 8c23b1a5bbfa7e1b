/-! EQUATIONS of the methods 57 .. 106 -/
-- X4_count
theorem q57_e (k : Nat) (p1 : Int32) (σ : Sto) : C 57 k [.ref 0, .int p1] σ =
  if p1 = 0 then
    some ((σ 12 6), 0, σ)
  else
    if p1 = 1 then
      some ((σ 12 7), 0, σ)
    else
      if p1 = 2 then
        some ((σ 12 10), 0, σ)
      else
        if p1 = 3 then
          some ((σ 2 4), 0, σ)
        else
          if p1 = 4 then
            some ((σ 12 11), 0, σ)
          else
            if p1 = 5 then
              some ((σ 0 7), 0, σ)
            else
              some ((-2), 0, σ) := (unr_R [] 57 k 400 0 _ _ _).trans rfl
-- X4_bay
theorem q58_e (k : Nat) (p1 : Int32) (p2 : Int32) (σ : Sto) : C 58 k [.ref 0, .int p1, .int p2] σ =
  if p1 = 0 then
    (C 93 k [.int p2, .int 0, .int 9999] σ).bind fun r1 =>
      if r1.1 = 0 then
        if p1 = 1 then
          (C 93 k [.int p2, .int 0, .int 99] r1.2.2).bind fun r2 =>
            if r2.1 = 0 then
              some ((-2), 0, r2.2.2)
            else
              some ((r2.2.2 12 8), 0, (su r2.2.2 12 8 p2))
        else
          some ((-2), 0, r1.2.2)
      else
        some ((r1.2.2 12 7), 0, (su r1.2.2 12 7 p2))
  else
    if p1 = 1 then
      (C 93 k [.int p2, .int 0, .int 99] σ).bind fun r1 =>
        if r1.1 = 0 then
          some ((-2), 0, r1.2.2)
        else
          some ((r1.2.2 12 8), 0, (su r1.2.2 12 8 p2))
    else
      some ((-2), 0, σ) := (unr_R [] 58 k 400 0 _ _ _).trans rfl
-- X4_ferry
theorem q59_e (k : Nat) (p1 : Int32) (σ : Sto) : C 59 k [.ref 0, .int p1] σ =
  if p1 = 0 then
    some ((σ 12 8), 0, σ)
  else
    if p1 = 1 then
      some ((σ 12 9), 0, σ)
    else
      if p1 = 2 then
        (C 46 k [.ref 12] σ).bind fun r1 =>
          some (r1.1, 0, r1.2.2)
      else
        if p1 = 3 then
          (C 50 k [.ref 12] σ).bind fun r1 =>
            some (r1.1, 0, r1.2.2)
        else
          if p1 = 4 then
            (C 51 k [.ref 12] σ).bind fun r1 =>
              some (r1.1, 0, r1.2.2)
          else
            if p1 = 5 then
              (C 52 k [.ref 12] σ).bind fun r1 =>
                some (r1.1, 0, r1.2.2)
            else
              some ((-7), 0, σ) := (unr_R [] 59 k 400 0 _ _ _).trans rfl
-- X4_feed
set_option maxRecDepth 1000000 in
theorem q60_e (k : Nat) (p1 : Int32) (p2 : Int32) (p3 : Int32) (p4 : Int32) (p5 : Int32) (p6 : Int32) (σ : Sto) : C 60 k [.ref 0, .int p1, .int p2, .int p3, .int p4, .int p5, .int p6] σ =
  (C 93 k [.int p1, .int 1, .int 5] σ).bind fun r1 =>
    if r1.1 = 0 then
      some ((-2), 0, r1.2.2)
    else
      (C 94 k [.int p2] r1.2.2).bind fun r2 =>
        if r2.1 = 0 then
          some ((-2), 0, r2.2.2)
        else
          (C 94 k [.int p3] r2.2.2).bind fun r3 =>
            if r3.1 = 0 then
              some ((-2), 0, r3.2.2)
            else
              (C 94 k [.int p4] r3.2.2).bind fun r4 =>
                if r4.1 = 0 then
                  some ((-2), 0, r4.2.2)
                else
                  (C 94 k [.int p5] r4.2.2).bind fun r5 =>
                    if r5.1 = 0 then
                      some ((-2), 0, r5.2.2)
                    else
                      (C 94 k [.int p6] r5.2.2).bind fun r6 =>
                        if r6.1 = 0 then
                          some ((-2), 0, r6.2.2)
                        else
                          if (160 - (r6.2.2 0 7)) < p1 then
                            some ((-4), 0, r6.2.2)
                          else
                            (C 96 k [.ref 0, .int p2] r6.2.2).bind fun r7 =>
                              if 1 < p1 then
                                (C 96 k [.ref 0, .int p3] r7.2.2).bind fun r8 =>
                                  R 60 k 39 [.ref 0, .int p1, .int p2, .int p3, .int p4, .int p5, .int p6] [] r8.2.2
                              else
                                R 60 k 39 [.ref 0, .int p1, .int p2, .int p3, .int p4, .int p5, .int p6] [] r7.2.2 := (unr_R [39] 60 k 400 0 _ _ _).trans rfl
theorem q60_39 (k : Nat) (v1 : Int32) (v2 : Int32) (v3 : Int32) (v4 : Int32) (v5 : Int32) (v6 : Int32) (σ : Sto) : R 60 k 39 [.ref 0, .int v1, .int v2, .int v3, .int v4, .int v5, .int v6] [] σ =
  if 2 < v1 then
    (C 96 k [.ref 0, .int v4] σ).bind fun r1 =>
      if 3 < v1 then
        (C 96 k [.ref 0, .int v5] r1.2.2).bind fun r2 =>
          if 4 < v1 then
            (C 96 k [.ref 0, .int v6] r2.2.2).bind fun r3 =>
              some ((r3.2.2 0 7), 0, r3.2.2)
          else
            some ((r2.2.2 0 7), 0, r2.2.2)
      else
        if 4 < v1 then
          (C 96 k [.ref 0, .int v6] r1.2.2).bind fun r2 =>
            some ((r2.2.2 0 7), 0, r2.2.2)
        else
          some ((r1.2.2 0 7), 0, r1.2.2)
  else
    if 3 < v1 then
      (C 96 k [.ref 0, .int v5] σ).bind fun r1 =>
        if 4 < v1 then
          (C 96 k [.ref 0, .int v6] r1.2.2).bind fun r2 =>
            some ((r2.2.2 0 7), 0, r2.2.2)
        else
          some ((r1.2.2 0 7), 0, r1.2.2)
    else
      if 4 < v1 then
        (C 96 k [.ref 0, .int v6] σ).bind fun r1 =>
          some ((r1.2.2 0 7), 0, r1.2.2)
      else
        some ((σ 0 7), 0, σ) := (unr_R [39] 60 k 400 39 _ _ _).trans rfl
-- X4_text
theorem q61_e (k : Nat) (σ : Sto) : C 61 k [.ref 0] σ =
  if (σ 2 4) < 6 then
    (C 11 k [.ref 7, .int (σ 0 7)] σ).bind fun r1 =>
      if r1.1 = (-1) then
        some ((((su (su r1.2.2 0 7 0) 2 4 (((su r1.2.2 0 7 0) 2 4) + 1)) 2 4) - 1), 0, (su (su r1.2.2 0 7 0) 2 4 (((su r1.2.2 0 7 0) 2 4) + 1)))
      else
        some (((-100) - r1.1), 0, (su r1.2.2 0 7 0))
  else
    some ((-4), 0, σ) := (unr_R [] 61 k 400 0 _ _ _).trans rfl
-- X4_force
theorem q62_e (k : Nat) (p1 : Int32) (σ : Sto) : C 62 k [.ref 0, .int p1] σ =
  (C 93 k [.int p1, .int 0, .int ((σ 2 4) - 1)] σ).bind fun r1 =>
    if r1.1 = 0 then
      some ((-2), 0, r1.2.2)
    else
      some ((r1.2.2 12 11), 0, (su r1.2.2 12 11 p1)) := (unr_R [] 62 k 400 0 _ _ _).trans rfl
-- X4_asks
theorem q63_e (k : Nat) (p1 : Int32) (p2 : Int32) (σ : Sto) : C 63 k [.ref 0, .int p1, .int p2] σ =
  (C 93 k [.int p1, .int 0, .int 2] σ).bind fun r1 =>
    if r1.1 = 0 then
      some ((-1000), 0, r1.2.2)
    else
      (C 36 k [.ref 12, .long (Int32.toInt64 p2)] r1.2.2).bind fun r2 =>
        if r2.1 = 0 then
          some ((-1000), 0, r2.2.2)
        else
          (C 55 k [.ref 2, .int p1, .ref 12, .int p2] r2.2.2).bind fun r3 =>
            some (r3.1, 0, r3.2.2) := (unr_R [] 63 k 400 0 _ _ _).trans rfl
-- X4_traveller
theorem q64_e (k : Nat) (p1 : Int32) (p2 : Int32) (σ : Sto) : C 64 k [.ref 0, .int p1, .int p2] σ =
  (C 37 k [.ref 12, .int p1, .int p2] σ).bind fun r1 =>
    some (r1.1, 0, r1.2.2) := (unr_R [] 64 k 400 0 _ _ _).trans rfl
-- X4_put
theorem q65_e (k : Nat) (p1 : Int32) (p2 : Int32) (p3 : Int32) (σ : Sto) : C 65 k [.ref 0, .int p1, .int p2, .int p3] σ =
  (C 36 k [.ref 12, .long (Int32.toInt64 p1)] σ).bind fun r1 =>
    if r1.1 = 0 then
      some ((-5), 0, r1.2.2)
    else
      if p2 = 0 then
        if (r1.2.2 12 9) = p1 then
          R 65 k 35 [.ref 0, .int p1, .int p2, .int p3, .int (-7)] [] r1.2.2
        else
          (C 93 k [.int p3, .int (-1), .int 63] r1.2.2).bind fun r2 =>
            if r2.1 = 0 then
              R 65 k 35 [.ref 0, .int p1, .int p2, .int p3, .int (-7)] [] r2.2.2
            else
              if inb p1 6 = true then
                if inb p1 6 = true then
                  some ((r2.2.2 15 p1.toNatClampNeg), 0, (su r2.2.2 15 p1.toNatClampNeg p3))
                else
                  none
              else
                none
      else
        R 65 k 35 [.ref 0, .int p1, .int p2, .int p3, .int (-7)] [] r1.2.2 := (unr_R [35, 62] 65 k 400 0 _ _ _).trans rfl
theorem q65_35 (k : Nat) (v1 : Int32) (v2 : Int32) (v3 : Int32) (v4 : Int32) (σ : Sto) : R 65 k 35 [.ref 0, .int v1, .int v2, .int v3, .int v4] [] σ =
  if v2 = 1 then
    (C 93 k [.int v3, .int 0, .int 1] σ).bind fun r1 =>
      if r1.1 = 0 then
        R 65 k 62 [.ref 0, .int v1, .int v2, .int v3, .int v4] [] r1.2.2
      else
        if inb v1 6 = true then
          (C 95 k [.int (r1.2.2 16 v1.toNatClampNeg)] r1.2.2).bind fun r2 =>
            if v3 = 1 then
              if inb v1 6 = true ∧ zb 1 = true then
                some (r2.1, 0, (su r2.2.2 16 v1.toNatClampNeg 1))
              else
                none
            else
              if inb v1 6 = true ∧ zb 0 = true then
                some (r2.1, 0, (su r2.2.2 16 v1.toNatClampNeg 0))
              else
                none
        else
          none
  else
    R 65 k 62 [.ref 0, .int v1, .int v2, .int v3, .int v4] [] σ := (unr_R [35, 62] 65 k 400 35 _ _ _).trans rfl
theorem q65_62 (k : Nat) (v1 : Int32) (v2 : Int32) (v3 : Int32) (v4 : Int32) (σ : Sto) : R 65 k 62 [.ref 0, .int v1, .int v2, .int v3, .int v4] [] σ =
  if v2 = 2 then
    (C 93 k [.int v3, .int 0, .int 99] σ).bind fun r1 =>
      if r1.1 = 0 then
        some (v4, 0, r1.2.2)
      else
        if inb v1 6 = true then
          if inb v1 6 = true then
            some ((r1.2.2 17 v1.toNatClampNeg), 0, (su r1.2.2 17 v1.toNatClampNeg v3))
          else
            none
        else
          none
  else
    some (v4, 0, σ) := (unr_R [35, 62] 65 k 400 62 _ _ _).trans rfl
-- X4_told
set_option maxRecDepth 1000000 in
theorem q66_e (k : Nat) (p1 : Int32) (p2 : Int32) (σ : Sto) : C 66 k [.ref 0, .int p1, .int p2] σ =
  (C 36 k [.ref 12, .long (Int32.toInt64 p1)] σ).bind fun r1 =>
    if r1.1 = 0 then
      some ((-5), 0, r1.2.2)
    else
      if p2 = 0 then
        if inb p1 6 = true then
          some ((r1.2.2 15 p1.toNatClampNeg), 0, r1.2.2)
        else
          none
      else
        if p2 = 1 then
          if inb p1 6 = true then
            (C 95 k [.int (r1.2.2 16 p1.toNatClampNeg)] r1.2.2).bind fun r2 =>
              some (r2.1, 0, r2.2.2)
          else
            none
        else
          if p2 = 2 then
            if inb p1 6 = true then
              some ((r1.2.2 17 p1.toNatClampNeg), 0, r1.2.2)
            else
              none
          else
            if p2 = 3 then
              if inb p1 6 = true then
                some ((r1.2.2 13 p1.toNatClampNeg), 0, r1.2.2)
              else
                none
            else
              if p2 = 4 then
                if inb p1 6 = true then
                  some ((r1.2.2 14 p1.toNatClampNeg), 0, r1.2.2)
                else
                  none
              else
                if p2 = 5 then
                  (C 43 k [.ref 12, .int p1] r1.2.2).bind fun r2 =>
                    some (r2.1, 0, r2.2.2)
                else
                  if p2 = 6 then
                    (C 44 k [.ref 12, .int p1] r1.2.2).bind fun r2 =>
                      some ((r2.1 + 1000), 0, r2.2.2)
                  else
                    if p2 = 7 then
                      (C 45 k [.ref 12, .int p1] r1.2.2).bind fun r2 =>
                        some ((r2.1 + 1000), 0, r2.2.2)
                    else
                      if p2 = 8 then
                        (C 40 k [.ref 12, .int p1] r1.2.2).bind fun r2 =>
                          (C 95 k [.int r2.1] r2.2.2).bind fun r3 =>
                            some (r3.1, 0, r3.2.2)
                      else
                        if p2 = 9 then
                          (C 41 k [.ref 12, .int p1] r1.2.2).bind fun r2 =>
                            some (r2.1, 0, r2.2.2)
                        else
                          some ((-7), 0, r1.2.2) := (unr_R [] 66 k 400 0 _ _ _).trans rfl
-- X4_hour
theorem q67_e (k : Nat) (σ : Sto) : C 67 k [.ref 0] σ =
  if (σ 12 7) < 9999 then
    (C 48 k [.ref 12] σ).bind fun r1 =>
      some (r1.1, 0, r1.2.2)
  else
    some ((-3), 0, σ) := (unr_R [] 67 k 400 0 _ _ _).trans rfl
-- X4_walk
theorem q68_e (k : Nat) (p1 : Int32) (p2 : Int32) (σ : Sto) : C 68 k [.ref 0, .int p1, .int p2] σ =
  (C 36 k [.ref 12, .long (Int32.toInt64 p1)] σ).bind fun r1 =>
    if r1.1 = 0 then
      some ((-5), 0, r1.2.2)
    else
      (C 93 k [.int p2, .int (-63), .int 63] r1.2.2).bind fun r2 =>
        if r2.1 = 0 then
          some ((-7), 0, r2.2.2)
        else
          if inb p1 6 = true then
            if (r2.2.2 15 p1.toNatClampNeg) = (-1) then
              some ((-3), 0, r2.2.2)
            else
              (C 47 k [.ref 12, .int p1, .int p2] r2.2.2).bind fun r3 =>
                if inb p1 6 = true then
                  some ((r3.2.2 15 p1.toNatClampNeg), 0, r3.2.2)
                else
                  none
          else
            none := (unr_R [] 68 k 400 0 _ _ _).trans rfl
-- X4_run
theorem q69_e (k : Nat) (p1 : Int32) (p2 : Int32) (σ : Sto) : C 69 k [.ref 0, .int p1, .int p2] σ =
  (C 93 k [.int p2, .int 0, .int 2] σ).bind fun r1 =>
    (C 36 k [.ref 12, .long ((Int32.toInt64 p2) - 10)] r1.2.2).bind fun r2 =>
      (C 36 k [.ref 12, .long ((Int32.toInt64 p2) - 20)] r2.2.2).bind fun r3 =>
        (C 93 k [.int p1, .int 0, .int 60] r3.2.2).bind fun r4 =>
          if r4.1 = 0 then
            some ((-2), 0, r4.2.2)
          else
            if r1.1 = 0 then
              if r2.1 = 0 then
                if r3.1 = 0 then
                  some ((-2), 0, r4.2.2)
                else
                  (C 35 k [.ref 18, .ref 12] r4.2.2).bind fun r5 =>
                    R 69 k 45 [.ref 0, .int p1, .int p2, .int r1.1, .int r2.1, .int r3.1, .int 0, .int 0, .int 0, .null] [] r5.2.2
              else
                (C 35 k [.ref 18, .ref 12] r4.2.2).bind fun r5 =>
                  R 69 k 45 [.ref 0, .int p1, .int p2, .int r1.1, .int r2.1, .int r3.1, .int 0, .int 0, .int 0, .null] [] r5.2.2
            else
              (C 35 k [.ref 18, .ref 12] r4.2.2).bind fun r5 =>
                R 69 k 45 [.ref 0, .int p1, .int p2, .int r1.1, .int r2.1, .int r3.1, .int 0, .int 0, .int 0, .null] [] r5.2.2 := (unr_R [45] 69 k 400 0 _ _ _).trans rfl
theorem q69_45 (k : Nat) (v1 : Int32) (v2 : Int32) (v3 : Int32) (v4 : Int32) (v5 : Int32) (v6 : Int32) (v7 : Int32) (v8 : Int32) (u9 : Value) (σ : Sto) : R 69 k 45 [.ref 0, .int v1, .int v2, .int v3, .int v4, .int v5, .int v6, .int v7, .int v8, u9] [] σ =
  if v8 < v1 then
    (C 48 k [.ref 18] σ).bind fun r1 =>
      if r1.1 = (-1) then
        R 69 k 45 [.ref 0, .int v1, .int v2, .int v3, .int v4, .int v5, .int v6, .int v7, .int (v8 + 1), .int r1.1] [] r1.2.2
      else
        R 69 k 45 [.ref 0, .int v1, .int v2, .int v3, .int v4, .int v5, .int (v6 + 1), .int (((v7 * 10) + r1.1) + 1), .int (v8 + 1), .int r1.1] [] r1.2.2
  else
    if v4 = 0 then
      if v5 = 0 then
        if v2 = 0 then
          some (v6, 0, σ)
        else
          if v2 = 1 then
            some (v7, 0, σ)
          else
            (C 52 k [.ref 18] σ).bind fun r1 =>
              some (r1.1, 0, r1.2.2)
      else
        if inb (v2 - 20) 6 = true then
          some ((σ 23 (v2 - 20).toNatClampNeg), 0, σ)
        else
          none
    else
      if inb (v2 - 10) 6 = true then
        some ((σ 21 (v2 - 10).toNatClampNeg), 0, σ)
      else
        none := (unr_R [45] 69 k 400 45 _ _ _).trans rfl
-- X4_when
theorem q70_e (k : Nat) (p1 : Int32) (p2 : Int32) (σ : Sto) : C 70 k [.ref 0, .int p1, .int p2] σ =
  (C 93 k [.int p2, .int 0, .int 2] σ).bind fun r1 =>
    if r1.1 = 0 then
      some ((-7), 0, r1.2.2)
    else
      if p2 = 2 then
        (C 35 k [.ref 18, .ref 12] r1.2.2).bind fun r2 =>
          R 70 k 25 [.ref 0, .int p1, .int p2, .int 0, .null] [] r2.2.2
      else
        (C 36 k [.ref 12, .long (Int32.toInt64 p1)] r1.2.2).bind fun r2 =>
          if r2.1 = 0 then
            some ((-5), 0, r2.2.2)
          else
            (C 35 k [.ref 18, .ref 12] r2.2.2).bind fun r3 =>
              R 70 k 25 [.ref 0, .int p1, .int p2, .int 0, .null] [] r3.2.2 := (unr_R [25] 70 k 400 0 _ _ _).trans rfl
theorem q70_25 (k : Nat) (v1 : Int32) (v2 : Int32) (v3 : Int32) (u4 : Value) (σ : Sto) : R 70 k 25 [.ref 0, .int v1, .int v2, .int v3, u4] [] σ =
  if 60 < v3 then
    some ((-1), 0, σ)
  else
    if v2 = 0 then
      (C 39 k [.ref 18, .int v1] σ).bind fun r1 =>
        if r1.1 = 0 then
          (C 48 k [.ref 18] r1.2.2).bind fun r2 =>
            R 70 k 25 [.ref 0, .int v1, .int v2, .int (v3 + 1), .int r1.1] [] r2.2.2
        else
          some (v3, 0, r1.2.2)
    else
      if v2 = 1 then
        (C 40 k [.ref 18, .int v1] σ).bind fun r1 =>
          if r1.1 = 0 then
            (C 48 k [.ref 18] r1.2.2).bind fun r2 =>
              R 70 k 25 [.ref 0, .int v1, .int v2, .int (v3 + 1), .int r1.1] [] r2.2.2
          else
            some (v3, 0, r1.2.2)
      else
        if (σ 18 8) = 0 then
          (C 50 k [.ref 18] σ).bind fun r1 =>
            if r1.1 = 0 then
              some (v3, 0, r1.2.2)
            else
              (C 48 k [.ref 18] r1.2.2).bind fun r2 =>
                R 70 k 25 [.ref 0, .int v1, .int v2, .int (v3 + 1), .int 0] [] r2.2.2
        else
          (C 48 k [.ref 18] σ).bind fun r1 =>
            R 70 k 25 [.ref 0, .int v1, .int v2, .int (v3 + 1), .int 0] [] r1.2.2 := (unr_R [25] 70 k 400 25 _ _ _).trans rfl
-- X4_hide
theorem q71_e (k : Nat) (p1 : Int32) (p2 : Int32) (σ : Sto) : C 71 k [.ref 0, .int p1, .int p2] σ =
  (C 93 k [.int p1, .int 0, .int 60] σ).bind fun r1 =>
    if r1.1 = 0 then
      some ((-2), 0, r1.2.2)
    else
      (C 93 k [.int p2, .int 0, .int 1] r1.2.2).bind fun r2 =>
        if r2.1 = 0 then
          some ((-2), 0, r2.2.2)
        else
          (C 35 k [.ref 18, .ref 12] r2.2.2).bind fun r3 =>
            (C 98 k [.ref 0, .int p1] r3.2.2).bind fun r4 =>
              R 71 k 25 [.ref 0, .int p1, .int p2, .int r4.1, .int (-1), .int 0, .null] [] r4.2.2 := (unr_R [25] 71 k 400 0 _ _ _).trans rfl
theorem q71_25 (k : Nat) (v1 : Int32) (v2 : Int32) (v3 : Int32) (v4 : Int32) (v5 : Int32) (u6 : Value) (σ : Sto) : R 71 k 25 [.ref 0, .int v1, .int v2, .int v3, .int v4, .int v5, u6] [] σ =
  if v5 < (σ 12 6) then
    (C 38 k [.ref 12, .int v5] σ).bind fun r1 =>
      if r1.1 = 0 then
        R 71 k 25 [.ref 0, .int v1, .int v2, .int v3, .int v4, .int (v5 + 1), u6] [] r1.2.2
      else
        (C 35 k [.ref 18, .ref 12] r1.2.2).bind fun r2 =>
          if inb v5 6 = true ∧ zb 1 = true then
            (C 98 k [.ref 0, .int v1] (su r2.2.2 22 v5.toNatClampNeg 1)).bind fun r3 =>
              if v3 < r3.1 then
                R 71 k 25 [.ref 0, .int v1, .int v2, .int r3.1, .int v5, .int (v5 + 1), .int r3.1] [] r3.2.2
              else
                R 71 k 25 [.ref 0, .int v1, .int v2, .int v3, .int v4, .int (v5 + 1), .int r3.1] [] r3.2.2
          else
            none
  else
    if v2 = 0 then
      some (v4, 0, σ)
    else
      some (v3, 0, σ) := (unr_R [25] 71 k 400 25 _ _ _).trans rfl
-- X4_stand
theorem q72_e (k : Nat) (p1 : Int32) (p2 : Int32) (σ : Sto) : C 72 k [.ref 0, .int p1, .int p2] σ =
  (C 36 k [.ref 12, .long (Int32.toInt64 p1)] σ).bind fun r1 =>
    if r1.1 = 0 then
      some ((-5), 0, r1.2.2)
    else
      (C 93 k [.int p2, .int 0, .int 1] r1.2.2).bind fun r2 =>
        if r2.1 = 0 then
          some ((-7), 0, r2.2.2)
        else
          if (r2.2.2 12 9) = p1 then
            some ((-3), 0, r2.2.2)
          else
            R 72 k 28 [.ref 0, .int p1, .int p2, .int (-1), .int 61, .int 0, .null] [] r2.2.2 := (unr_R [28] 72 k 400 0 _ _ _).trans rfl
theorem q72_28 (k : Nat) (v1 : Int32) (v2 : Int32) (v3 : Int32) (v4 : Int32) (v5 : Int32) (u6 : Value) (σ : Sto) : R 72 k 28 [.ref 0, .int v1, .int v2, .int v3, .int v4, .int v5, u6] [] σ =
  if v5 < 64 then
    (C 35 k [.ref 18, .ref 12] σ).bind fun r1 =>
      if inb v1 6 = true then
        if inb v1 6 = true ∧ zb 0 = true then
          (C 99 k [.ref 0, .int v1, .int (v4 - 1)] (su (su r1.2.2 21 v1.toNatClampNeg v5) 22 v1.toNatClampNeg 0)).bind fun r2 =>
            if r2.1 = (-1) then
              R 72 k 28 [.ref 0, .int v1, .int v2, .int v3, .int v4, .int (v5 + 1), .int r2.1] [] r2.2.2
            else
              R 72 k 28 [.ref 0, .int v1, .int v2, .int v5, .int r2.1, .int (v5 + 1), .int r2.1] [] r2.2.2
        else
          none
      else
        none
  else
    if v2 = 0 then
      some (v3, 0, σ)
    else
      if v3 = (-1) then
        some (v3, 0, σ)
      else
        some (v4, 0, σ) := (unr_R [28] 72 k 400 28 _ _ _).trans rfl
-- X4_apart
theorem q73_e (k : Nat) (p1 : Int32) (p2 : Int32) (σ : Sto) : C 73 k [.ref 0, .int p1, .int p2] σ =
  (C 36 k [.ref 12, .long (Int32.toInt64 p1)] σ).bind fun r1 =>
    if r1.1 = 0 then
      some ((-5), 0, r1.2.2)
    else
      (C 93 k [.int p2, .int 0, .int 1] r1.2.2).bind fun r2 =>
        if r2.1 = 0 then
          some ((-7), 0, r2.2.2)
        else
          (C 38 k [.ref 12, .int p1] r2.2.2).bind fun r3 =>
            if r3.1 = 0 then
              some ((-1), 0, r3.2.2)
            else
              if inb p1 6 = true then
                (C 35 k [.ref 18, .ref 12] r3.2.2).bind fun r4 =>
                  R 73 k 35 [.ref 0, .int p1, .int p2, .int (r3.2.2 15 p1.toNatClampNeg), .int 0] [] r4.2.2
              else
                none := (unr_R [35] 73 k 400 0 _ _ _).trans rfl
theorem q73_35 (k : Nat) (v1 : Int32) (v2 : Int32) (v3 : Int32) (v4 : Int32) (σ : Sto) : R 73 k 35 [.ref 0, .int v1, .int v2, .int v3, .int v4] [] σ =
  if v4 < 64 then
    (C 100 k [.ref 0, .int v1, .int (v3 - v4)] σ).bind fun r1 =>
      if r1.1 = 0 then
        (C 100 k [.ref 0, .int v1, .int (v3 + v4)] r1.2.2).bind fun r2 =>
          if r2.1 = 0 then
            R 73 k 35 [.ref 0, .int v1, .int v2, .int v3, .int (v4 + 1)] [] r2.2.2
          else
            if v2 = 0 then
              some (v4, 0, r2.2.2)
            else
              some ((v3 + v4), 0, r2.2.2)
      else
        if v2 = 0 then
          some (v4, 0, r1.2.2)
        else
          some ((v3 - v4), 0, r1.2.2)
  else
    some ((-1), 0, σ) := (unr_R [35] 73 k 400 35 _ _ _).trans rfl
-- X4_breakwater
theorem q74_e (k : Nat) (p1 : Int32) (σ : Sto) : C 74 k [.ref 0, .int p1] σ =
  (C 93 k [.int p1, .int 0, .int 1] σ).bind fun r1 =>
    if r1.1 = 0 then
      some ((-2), 0, r1.2.2)
    else
      (C 51 k [.ref 12] r1.2.2).bind fun r2 =>
        R 74 k 15 [.ref 0, .int p1, .int r2.1, .int r2.1, .int 0, .null] [] r2.2.2 := (unr_R [15] 74 k 400 0 _ _ _).trans rfl
theorem q74_15 (k : Nat) (v1 : Int32) (v2 : Int32) (v3 : Int32) (v4 : Int32) (u5 : Value) (σ : Sto) : R 74 k 15 [.ref 0, .int v1, .int v2, .int v3, .int v4, u5] [] σ =
  if v4 < v2 then
    if (v4 &&& (v2 ^^^ (-1))) = 0 then
      (C 0 k [.int v4] σ).bind fun r1 =>
        (C 0 k [.int v3] r1.2.2).bind fun r2 =>
          if r1.1 < r2.1 then
            (C 101 k [.ref 0, .int v4] r2.2.2).bind fun r3 =>
              if r3.1 = 0 then
                R 74 k 15 [.ref 0, .int v1, .int v2, .int v3, .int (v4 + 1), .int 1] [] r3.2.2
              else
                R 74 k 15 [.ref 0, .int v1, .int v2, .int v4, .int (v4 + 1), .int 1] [] r3.2.2
          else
            R 74 k 15 [.ref 0, .int v1, .int v2, .int v3, .int (v4 + 1), .int 1] [] r2.2.2
    else
      R 74 k 15 [.ref 0, .int v1, .int v2, .int v3, .int (v4 + 1), .int 0] [] σ
  else
    if v1 = 0 then
      some (v3, 0, σ)
    else
      (C 0 k [.int v3] σ).bind fun r1 =>
        some (r1.1, 0, r1.2.2) := (unr_R [15] 74 k 400 15 _ _ _).trans rfl
-- X4_gap
theorem q75_e (k : Nat) (p1 : Int32) (σ : Sto) : C 75 k [.ref 0, .int p1] σ =
  (C 93 k [.int p1, .int 0, .int 1] σ).bind fun r1 =>
    if r1.1 = 0 then
      some ((-2), 0, r1.2.2)
    else
      R 75 k 13 [.ref 0, .int p1, .int (-1), .int (-1), .int 0, .null] [] r1.2.2 := (unr_R [13, 20] 75 k 400 0 _ _ _).trans rfl
theorem q75_13 (k : Nat) (v1 : Int32) (v2 : Int32) (v3 : Int32) (v4 : Int32) (u5 : Value) (σ : Sto) : R 75 k 13 [.ref 0, .int v1, .int v2, .int v3, .int v4, u5] [] σ =
  if v4 < (σ 12 6) then
    R 75 k 20 [.ref 0, .int v1, .int v2, .int v3, .int v4, .int 0] [] σ
  else
    if v1 = 0 then
      some (v2, 0, σ)
    else
      some (v3, 0, σ) := (unr_R [13, 20] 75 k 400 13 _ _ _).trans rfl
theorem q75_20 (k : Nat) (v1 : Int32) (v2 : Int32) (v3 : Int32) (v4 : Int32) (v5 : Int32) (σ : Sto) : R 75 k 20 [.ref 0, .int v1, .int v2, .int v3, .int v4, .int v5] [] σ =
  if v5 < (σ 12 6) then
    (C 42 k [.ref 12, .int v4, .int v5] σ).bind fun r1 =>
      if r1.1 = 0 then
        R 75 k 20 [.ref 0, .int v1, .int v2, .int v3, .int v4, .int (v5 + 1)] [] r1.2.2
      else
        if inb v5 6 = true then
          if inb v4 6 = true then
            if v3 < ((r1.2.2 15 v5.toNatClampNeg) - (r1.2.2 15 v4.toNatClampNeg)) then
              if inb v5 6 = true then
                if inb v4 6 = true then
                  R 75 k 20 [.ref 0, .int v1, .int ((10 * v4) + v5), .int ((r1.2.2 15 v5.toNatClampNeg) - (r1.2.2 15 v4.toNatClampNeg)), .int v4, .int (v5 + 1)] [] r1.2.2
                else
                  none
              else
                none
            else
              R 75 k 20 [.ref 0, .int v1, .int v2, .int v3, .int v4, .int (v5 + 1)] [] r1.2.2
          else
            none
        else
          none
  else
    R 75 k 13 [.ref 0, .int v1, .int v2, .int v3, .int (v4 + 1), .int v5] [] σ := (unr_R [13, 20] 75 k 400 20 _ _ _).trans rfl
-- X4_middle
theorem q76_e (k : Nat) (p1 : Int32) (σ : Sto) : C 76 k [.ref 0, .int p1] σ =
  R 76 k 6 [.ref 0, .int p1, .long 0, .null, .long 0, .null, .int 0] [] σ := (unr_R [6] 76 k 400 0 _ _ _).trans rfl
theorem q76_6 (k : Nat) (v1 : Int32) (v2 : Int64) (v4 : Int64) (v6 : Int32) (σ : Sto) : R 76 k 6 [.ref 0, .int v1, .long v2, .null, .long v4, .null, .int v6] [] σ =
  if v6 < (σ 12 6) then
    if inb v6 6 = true then
      if (σ 15 v6.toNatClampNeg) = (-1) then
        R 76 k 6 [.ref 0, .int v1, .long v2, .null, .long v4, .null, .int (v6 + 1)] [] σ
      else
        if inb v6 6 = true then
          R 76 k 6 [.ref 0, .int v1, .long (v2 + (Int32.toInt64 (σ 15 v6.toNatClampNeg))), .null, .long (v4 + 1), .null, .int (v6 + 1)] [] σ
        else
          none
    else
      none
  else
    (C 106 k [.long v2, .long v4, .int v1] σ).bind fun r1 =>
      some (0, r1.2.1, r1.2.2) := (unr_R [6] 76 k 400 6 _ _ _).trans rfl
-- X4_judge
theorem q77_e (k : Nat) (p1 : Int32) (σ : Sto) : C 77 k [.ref 0, .int p1] σ =
  (C 102 k [.ref 0, .int p1] σ).bind fun r1 =>
    if r1.1 = 0 then
      (C 35 k [.ref 18, .ref 12] r1.2.2).bind fun r2 =>
        (C 103 k [.ref 0, .int p1] r2.2.2).bind fun r3 =>
          some (r3.1, 0, r3.2.2)
    else
      some (r1.1, 0, r1.2.2) := (unr_R [] 77 k 400 0 _ _ _).trans rfl
-- X4_kinds
theorem q78_e (k : Nat) (p1 : Int32) (p2 : Int32) (p3 : Int32) (σ : Sto) : C 78 k [.ref 0, .int p1, .int p2, .int p3] σ =
  (C 102 k [.ref 0, .int p1] σ).bind fun r1 =>
    if r1.1 = 0 then
      (C 36 k [.ref 12, .long (Int32.toInt64 p2)] r1.2.2).bind fun r2 =>
        if r2.1 = 0 then
          some ((-5), 0, r2.2.2)
        else
          (C 93 k [.int p3, .int 0, .int 1] r2.2.2).bind fun r3 =>
            if r3.1 = 0 then
              some ((-7), 0, r3.2.2)
            else
              if p3 = 0 then
                R 78 k 33 [.ref 0, .int p1, .int p2, .int p3, .int r1.1, .int 6, .int 0, .int 0] [] r3.2.2
              else
                R 78 k 33 [.ref 0, .int p1, .int p2, .int p3, .int r1.1, .int 10, .int 0, .int 0] [] r3.2.2
    else
      some (r1.1, 0, r1.2.2) := (unr_R [33] 78 k 400 0 _ _ _).trans rfl
theorem q78_33 (k : Nat) (v1 : Int32) (v2 : Int32) (v3 : Int32) (v4 : Int32) (v5 : Int32) (v6 : Int32) (v7 : Int32) (σ : Sto) : R 78 k 33 [.ref 0, .int v1, .int v2, .int v3, .int v4, .int v5, .int v6, .int v7] [] σ =
  if v7 < v5 then
    (C 35 k [.ref 18, .ref 12] σ).bind fun r1 =>
      if v3 = 0 then
        if inb v2 6 = true then
          (C 103 k [.ref 0, .int v1] (su r1.2.2 19 v2.toNatClampNeg v7)).bind fun r2 =>
            if r2.1 = (-1) then
              R 78 k 33 [.ref 0, .int v1, .int v2, .int v3, .int v4, .int v5, .int (v6 ||| (1 <<< (v7 &&& 31))), .int (v7 + 1)] [] r2.2.2
            else
              R 78 k 33 [.ref 0, .int v1, .int v2, .int v3, .int v4, .int v5, .int v6, .int (v7 + 1)] [] r2.2.2
        else
          none
      else
        if inb v2 6 = true then
          (C 103 k [.ref 0, .int v1] (su r1.2.2 20 v2.toNatClampNeg v7)).bind fun r2 =>
            if r2.1 = (-1) then
              R 78 k 33 [.ref 0, .int v1, .int v2, .int v3, .int v4, .int v5, .int (v6 ||| (1 <<< (v7 &&& 31))), .int (v7 + 1)] [] r2.2.2
            else
              R 78 k 33 [.ref 0, .int v1, .int v2, .int v3, .int v4, .int v5, .int v6, .int (v7 + 1)] [] r2.2.2
        else
          none
  else
    some (v6, 0, σ) := (unr_R [33] 78 k 400 33 _ _ _).trans rfl
-- X4_places
theorem q79_e (k : Nat) (p1 : Int32) (p2 : Int32) (σ : Sto) : C 79 k [.ref 0, .int p1, .int p2] σ =
  (C 102 k [.ref 0, .int p1] σ).bind fun r1 =>
    if r1.1 = 0 then
      (C 36 k [.ref 12, .long (Int32.toInt64 p2)] r1.2.2).bind fun r2 =>
        if r2.1 = 0 then
          some (0, (-4611686018427387904), r2.2.2)
        else
          if inb p2 6 = true then
            if (r2.2.2 15 p2.toNatClampNeg) = (-1) then
              some (0, (-4611686018427387904), r2.2.2)
            else
              R 79 k 23 [.ref 0, .int p1, .int p2, .long 0, .null, .int 0] [] r2.2.2
          else
            none
    else
      some (0, (-4611686018427387904), r1.2.2) := (unr_R [23] 79 k 400 0 _ _ _).trans rfl
theorem q79_23 (k : Nat) (v1 : Int32) (v2 : Int32) (v3 : Int64) (v5 : Int32) (σ : Sto) : R 79 k 23 [.ref 0, .int v1, .int v2, .long v3, .null, .int v5] [] σ =
  if v5 < 64 then
    (C 35 k [.ref 18, .ref 12] σ).bind fun r1 =>
      if inb v2 6 = true then
        (C 103 k [.ref 0, .int v1] (su r1.2.2 21 v2.toNatClampNeg v5)).bind fun r2 =>
          if r2.1 = (-1) then
            R 79 k 23 [.ref 0, .int v1, .int v2, .long (v3 ||| (1 <<< (Int32.toInt64 v5 &&& 63))), .null, .int (v5 + 1)] [] r2.2.2
          else
            R 79 k 23 [.ref 0, .int v1, .int v2, .long v3, .null, .int (v5 + 1)] [] r2.2.2
      else
        none
  else
    some (0, v3, σ) := (unr_R [23] 79 k 400 23 _ _ _).trans rfl
-- X4_turned
theorem q80_e (k : Nat) (p1 : Int32) (σ : Sto) : C 80 k [.ref 0, .int p1] σ =
  (C 102 k [.ref 0, .int p1] σ).bind fun r1 =>
    if r1.1 = 0 then
      R 80 k 12 [.ref 0, .int p1, .int r1.1, .int 0, .int 0] [] r1.2.2
    else
      some (r1.1, 0, r1.2.2) := (unr_R [12] 80 k 400 0 _ _ _).trans rfl
theorem q80_12 (k : Nat) (v1 : Int32) (v2 : Int32) (v3 : Int32) (v4 : Int32) (σ : Sto) : R 80 k 12 [.ref 0, .int v1, .int v2, .int v3, .int v4] [] σ =
  if v4 < (σ 12 6) then
    (C 35 k [.ref 18, .ref 12] σ).bind fun r1 =>
      if inb v4 6 = true then
        if (r1.2.2 16 v4.toNatClampNeg) = 0 then
          if inb v4 6 = true ∧ zb 1 = true then
            (C 103 k [.ref 0, .int v1] (su r1.2.2 22 v4.toNatClampNeg 1)).bind fun r2 =>
              if r2.1 = (-1) then
                R 80 k 12 [.ref 0, .int v1, .int v2, .int (v3 ||| (1 <<< (v4 &&& 31))), .int (v4 + 1)] [] r2.2.2
              else
                R 80 k 12 [.ref 0, .int v1, .int v2, .int v3, .int (v4 + 1)] [] r2.2.2
          else
            none
        else
          if inb v4 6 = true ∧ zb 0 = true then
            (C 103 k [.ref 0, .int v1] (su r1.2.2 22 v4.toNatClampNeg 0)).bind fun r2 =>
              if r2.1 = (-1) then
                R 80 k 12 [.ref 0, .int v1, .int v2, .int (v3 ||| (1 <<< (v4 &&& 31))), .int (v4 + 1)] [] r2.2.2
              else
                R 80 k 12 [.ref 0, .int v1, .int v2, .int v3, .int (v4 + 1)] [] r2.2.2
          else
            none
      else
        none
  else
    some (v3, 0, σ) := (unr_R [12] 80 k 400 12 _ _ _).trans rfl
-- X4_waits
theorem q81_e (k : Nat) (p1 : Int32) (p2 : Int32) (p3 : Int32) (σ : Sto) : C 81 k [.ref 0, .int p1, .int p2, .int p3] σ =
  (C 102 k [.ref 0, .int p1] σ).bind fun r1 =>
    if r1.1 = 0 then
      (C 36 k [.ref 12, .long (Int32.toInt64 p2)] r1.2.2).bind fun r2 =>
        if r2.1 = 0 then
          some ((-5), 0, r2.2.2)
        else
          (C 93 k [.int p3, .int 0, .int 1] r2.2.2).bind fun r3 =>
            if r3.1 = 0 then
              some ((-7), 0, r3.2.2)
            else
              R 81 k 29 [.ref 0, .int p1, .int p2, .int p3, .int r1.1, .int 0, .int (-1), .int 99] [] r3.2.2
    else
      some (r1.1, 0, r1.2.2) := (unr_R [29] 81 k 400 0 _ _ _).trans rfl
theorem q81_29 (k : Nat) (v1 : Int32) (v2 : Int32) (v3 : Int32) (v4 : Int32) (v5 : Int32) (v6 : Int32) (v7 : Int32) (σ : Sto) : R 81 k 29 [.ref 0, .int v1, .int v2, .int v3, .int v4, .int v5, .int v6, .int v7] [] σ =
  if v7 < 0 then
    if v3 = 0 then
      some (v5, 0, σ)
    else
      some (v6, 0, σ)
  else
    (C 35 k [.ref 18, .ref 12] σ).bind fun r1 =>
      if inb v2 6 = true then
        (C 103 k [.ref 0, .int v1] (su r1.2.2 23 v2.toNatClampNeg v7)).bind fun r2 =>
          if r2.1 = (-1) then
            R 81 k 29 [.ref 0, .int v1, .int v2, .int v3, .int v4, .int (v5 + 1), .int v7, .int (v7 + (-1))] [] r2.2.2
          else
            R 81 k 29 [.ref 0, .int v1, .int v2, .int v3, .int v4, .int v5, .int v6, .int (v7 + (-1))] [] r2.2.2
      else
        none := (unr_R [29] 81 k 400 29 _ _ _).trans rfl
-- X4_laws
theorem q82_e (k : Nat) (p1 : Int32) (σ : Sto) : C 82 k [.ref 0, .int p1] σ =
  (C 102 k [.ref 0, .int p1] σ).bind fun r1 =>
    if r1.1 = 0 then
      R 82 k 12 [.ref 0, .int p1, .int r1.1, .int 0, .int 0] [] r1.2.2
    else
      some (r1.1, 0, r1.2.2) := (unr_R [12] 82 k 400 0 _ _ _).trans rfl
theorem q82_12 (k : Nat) (v1 : Int32) (v2 : Int32) (v3 : Int32) (v4 : Int32) (σ : Sto) : R 82 k 12 [.ref 0, .int v1, .int v2, .int v3, .int v4] [] σ =
  if v4 < (σ 2 4) then
    (C 35 k [.ref 18, .ref 12] σ).bind fun r1 =>
      (C 103 k [.ref 0, .int v1] (su r1.2.2 18 11 v4)).bind fun r2 =>
        if r2.1 = (-1) then
          R 82 k 12 [.ref 0, .int v1, .int v2, .int (v3 ||| (1 <<< (v4 &&& 31))), .int (v4 + 1)] [] r2.2.2
        else
          R 82 k 12 [.ref 0, .int v1, .int v2, .int v3, .int (v4 + 1)] [] r2.2.2
  else
    some (v3, 0, σ) := (unr_R [12] 82 k 400 12 _ _ _).trans rfl
-- X4_film
theorem q83_e (k : Nat) (p1 : Int32) (p2 : Int32) (σ : Sto) : C 83 k [.ref 0, .int p1, .int p2] σ =
  (C 29 k [.ref 8, .int p1] σ).bind fun r1 =>
    if r1.1 = 0 then
      some ((-2), 0, r1.2.2)
    else
      (C 93 k [.int p2, .int 0, .int 24] r1.2.2).bind fun r2 =>
        if r2.1 = 0 then
          some ((-7), 0, r2.2.2)
        else
          (C 31 k [.ref 8, .int p1, .int 0, .int p2] r2.2.2).bind fun r3 =>
            (C 35 k [.ref 18, .ref 12] r3.2.2).bind fun r4 =>
              R 83 k 27 [.ref 0, .int p1, .int p2, .int 0] [] r4.2.2 := (unr_R [27] 83 k 400 0 _ _ _).trans rfl
theorem q83_27 (k : Nat) (v1 : Int32) (v2 : Int32) (v3 : Int32) (σ : Sto) : R 83 k 27 [.ref 0, .int v1, .int v2, .int v3] [] σ =
  if v3 < v2 then
    (C 48 k [.ref 18] σ).bind fun r1 =>
      (C 33 k [.ref 8, .int v1, .int v3, .int (r1.1 + 1)] r1.2.2).bind fun r2 =>
        R 83 k 27 [.ref 0, .int v1, .int v2, .int (v3 + 1)] [] r2.2.2
  else
    some (v2, 0, σ) := (unr_R [27] 83 k 400 27 _ _ _).trans rfl
-- X4_drawn
theorem q84_e (k : Nat) (p1 : Int32) (p2 : Int32) (σ : Sto) : C 84 k [.ref 0, .int p1, .int p2] σ =
  (C 93 k [.int p1, .int 0, .int 99999] σ).bind fun r1 =>
    if r1.1 = 0 then
      some ((-2), 0, r1.2.2)
    else
      (C 93 k [.int p2, .int 0, .int 1] r1.2.2).bind fun r2 =>
        if r2.1 = 0 then
          some ((-2), 0, r2.2.2)
        else
          (C 104 k [.ref 0, .int p1] r2.2.2).bind fun r3 =>
            if p2 = 0 then
              some (r3.1, 0, r3.2.2)
            else
              (C 52 k [.ref 18] r3.2.2).bind fun r4 =>
                some (r4.1, 0, r4.2.2) := (unr_R [] 84 k 400 0 _ _ _).trans rfl
-- X4_odds
theorem q85_e (k : Nat) (p1 : Int32) (p2 : Int32) (p3 : Int32) (p4 : Int32) (σ : Sto) : C 85 k [.ref 0, .int p1, .int p2, .int p3, .int p4] σ =
  (C 93 k [.int p1, .int 0, .int 99999] σ).bind fun r1 =>
    if r1.1 = 0 then
      some (0, (-4611686018427387904), r1.2.2)
    else
      (C 93 k [.int p2, .int 1, .int 40] r1.2.2).bind fun r2 =>
        if r2.1 = 0 then
          some (0, (-4611686018427387904), r2.2.2)
        else
          (C 93 k [.int p3, .int 0, .int 12] r2.2.2).bind fun r3 =>
            if r3.1 = 0 then
              some (0, (-4611686018427387904), r3.2.2)
            else
              R 85 k 21 [.ref 0, .int p1, .int p2, .int p3, .int p4, .int 0, .int 0] [] r3.2.2 := (unr_R [21] 85 k 400 0 _ _ _).trans rfl
theorem q85_21 (k : Nat) (v1 : Int32) (v2 : Int32) (v3 : Int32) (v4 : Int32) (v5 : Int32) (v6 : Int32) (σ : Sto) : R 85 k 21 [.ref 0, .int v1, .int v2, .int v3, .int v4, .int v5, .int v6] [] σ =
  if v6 < v2 then
    (C 104 k [.ref 0, .int (v1 + v6)] σ).bind fun r1 =>
      if r1.1 < v3 then
        R 85 k 21 [.ref 0, .int v1, .int v2, .int v3, .int v4, .int v5, .int (v6 + 1)] [] r1.2.2
      else
        R 85 k 21 [.ref 0, .int v1, .int v2, .int v3, .int v4, .int (v5 + 1), .int (v6 + 1)] [] r1.2.2
  else
    (C 106 k [.long (Int32.toInt64 v5), .long (Int32.toInt64 v2), .int v4] σ).bind fun r1 =>
      some (0, r1.2.1, r1.2.2) := (unr_R [21] 85 k 400 21 _ _ _).trans rfl
-- X4_image
theorem q86_e (k : Nat) (σ : Sto) : C 86 k [.ref 0] σ =
  (C 35 k [.ref 24, .ref 12] σ).bind fun r1 =>
    some (((su r1.2.2 0 8 1) 12 6), 0, (su r1.2.2 0 8 1)) := (unr_R [] 86 k 400 0 _ _ _).trans rfl
-- X4_back
theorem q87_e (k : Nat) (σ : Sto) : C 87 k [.ref 0] σ =
  if (σ 0 8) = 0 then
    some ((-3), 0, σ)
  else
    (C 35 k [.ref 12, .ref 24] σ).bind fun r1 =>
      some ((r1.2.2 12 6), 0, r1.2.2) := (unr_R [] 87 k 400 0 _ _ _).trans rfl
-- X4_sheet
theorem q88_e (k : Nat) (p1 : Int32) (p2 : Int32) (p3 : Int32) (σ : Sto) : C 88 k [.ref 0, .int p1, .int p2, .int p3] σ =
  (C 29 k [.ref 8, .int p1] σ).bind fun r1 =>
    if r1.1 = 0 then
      some ((-2), 0, r1.2.2)
    else
      (C 93 k [.int p2, .int (-1), .int 2] r1.2.2).bind fun r2 =>
        if r2.1 = 0 then
          some ((-2), 0, r2.2.2)
        else
          if p2 = (-1) then
            (C 31 k [.ref 8, .int p1, .int (-1), .int 0] r2.2.2).bind fun r3 =>
              some (1, 0, r3.2.2)
          else
            if 40 < p3 then
              some ((-2), 0, r2.2.2)
            else
              if p3 < 0 then
                some ((-14), 0, r2.2.2)
              else
                (C 31 k [.ref 8, .int p1, .int p2, .int p3] r2.2.2).bind fun r3 =>
                  some (1, 0, r3.2.2) := (unr_R [] 88 k 400 0 _ _ _).trans rfl
-- X4_cell
theorem q89_e (k : Nat) (p1 : Int32) (p2 : Int32) (p3 : Int32) (σ : Sto) : C 89 k [.ref 0, .int p1, .int p2, .int p3] σ =
  (C 29 k [.ref 8, .int p1] σ).bind fun r1 =>
    if r1.1 = 0 then
      some ((-2), 0, r1.2.2)
    else
      if inb p1 4 = true then
        if (r1.2.2 10 p1.toNatClampNeg) = (-1) then
          some ((-11), 0, r1.2.2)
        else
          if inb p1 4 = true then
            (C 93 k [.int p2, .int 0, .int ((r1.2.2 11 p1.toNatClampNeg) - 1)] r1.2.2).bind fun r2 =>
              if r2.1 = 0 then
                some ((-12), 0, r2.2.2)
              else
                (C 33 k [.ref 8, .int p1, .int p2, .int p3] r2.2.2).bind fun r3 =>
                  some (1, 0, r3.2.2)
          else
            none
      else
        none := (unr_R [] 89 k 400 0 _ _ _).trans rfl
-- X4_copy
set_option maxRecDepth 1000000 in
theorem q90_e (k : Nat) (p1 : Int32) (p2 : Int32) (p3 : Int32) (p4 : Int32) (p5 : Int32) (σ : Sto) : C 90 k [.ref 0, .int p1, .int p2, .int p3, .int p4, .int p5] σ =
  (C 29 k [.ref 8, .int p1] σ).bind fun r1 =>
    if r1.1 = 0 then
      some ((-2), 0, r1.2.2)
    else
      (C 29 k [.ref 8, .int p3] r1.2.2).bind fun r2 =>
        if r2.1 = 0 then
          some ((-2), 0, r2.2.2)
        else
          if inb p1 4 = true then
            if (r2.2.2 10 p1.toNatClampNeg) = (-1) then
              some ((-11), 0, r2.2.2)
            else
              if inb p3 4 = true then
                if (r2.2.2 10 p3.toNatClampNeg) = (-1) then
                  some ((-11), 0, r2.2.2)
                else
                  if inb p1 4 = true then
                    if inb p3 4 = true then
                      if (r2.2.2 10 p1.toNatClampNeg) = (r2.2.2 10 p3.toNatClampNeg) then
                        if p5 < 0 then
                          some ((-12), 0, r2.2.2)
                        else
                          (C 30 k [.ref 8, .int p1, .long (Int32.toInt64 p2), .int p5] r2.2.2).bind fun r3 =>
                            if r3.1 = 0 then
                              some ((-12), 0, r3.2.2)
                            else
                              (C 30 k [.ref 8, .int p3, .long (Int32.toInt64 p4), .int p5] r3.2.2).bind fun r4 =>
                                if r4.1 = 0 then
                                  some ((-12), 0, r4.2.2)
                                else
                                  (C 34 k [.ref 8, .int p1, .int p2, .int p3, .int p4, .int p5] r4.2.2).bind fun r5 =>
                                    some (p5, 0, r5.2.2)
                      else
                        some ((-13), 0, r2.2.2)
                    else
                      none
                  else
                    none
              else
                none
          else
            none := (unr_R [] 90 k 400 0 _ _ _).trans rfl
-- X4_peopleBy
theorem q91_e (k : Nat) (p1 : Int32) (p2 : Int32) (p3 : Int32) (p4 : Int32) (σ : Sto) : C 91 k [.ref 0, .int p1, .int p2, .int p3, .int p4] σ =
  (C 29 k [.ref 8, .int p1] σ).bind fun r1 =>
    if r1.1 = 0 then
      some ((-2), 0, r1.2.2)
    else
      (C 93 k [.int p2, .int 0, .int 2] r1.2.2).bind fun r2 =>
        if r2.1 = 0 then
          some ((-2), 0, r2.2.2)
        else
          (C 93 k [.int p4, .int 0, .int 6] r2.2.2).bind fun r3 =>
            if r3.1 = 0 then
              some ((-2), 0, r3.2.2)
            else
              if inb p1 4 = true then
                if (r3.2.2 10 p1.toNatClampNeg) = (-1) then
                  some ((-11), 0, r3.2.2)
                else
                  if inb p1 4 = true then
                    if (r3.2.2 10 p1.toNatClampNeg) = p2 then
                      R 91 k 39 [.ref 0, .int p1, .int p2, .int p3, .int p4, .int 0, .int 0, .null, .null, .null] [] r3.2.2
                    else
                      some ((-13), 0, r3.2.2)
                  else
                    none
              else
                none := (unr_R [39] 91 k 400 0 _ _ _).trans rfl
theorem q91_39 (k : Nat) (v1 : Int32) (v2 : Int32) (v3 : Int32) (v4 : Int32) (v5 : Int32) (v6 : Int32) (u7 : Value) (u9 : Value) (σ : Sto) : R 91 k 39 [.ref 0, .int v1, .int v2, .int v3, .int v4, .int v5, .int v6, u7, .null, u9] [] σ =
  if v6 < v4 then
    (C 30 k [.ref 8, .int v1, .long ((Int32.toInt64 v3) + (2 * (Int32.toInt64 v6))), .int 2] σ).bind fun r1 =>
      if r1.1 = 0 then
        some ((-12), 0, r1.2.2)
      else
        (C 32 k [.ref 8, .int v1, .int (Int64.toInt32 ((Int32.toInt64 v3) + (2 * (Int32.toInt64 v6))))] r1.2.2).bind fun r2 =>
          (C 32 k [.ref 8, .int v1, .int ((Int64.toInt32 ((Int32.toInt64 v3) + (2 * (Int32.toInt64 v6)))) + 1)] r2.2.2).bind fun r3 =>
            (C 37 k [.ref 12, .int r2.1, .int r3.1] r3.2.2).bind fun r4 =>
              if r4.1 < 0 then
                R 91 k 39 [.ref 0, .int v1, .int v2, .int v3, .int v4, .int v5, .int (v6 + 1), .long ((Int32.toInt64 v3) + (2 * (Int32.toInt64 v6))), .null, .int (Int64.toInt32 ((Int32.toInt64 v3) + (2 * (Int32.toInt64 v6))))] [] r4.2.2
              else
                R 91 k 39 [.ref 0, .int v1, .int v2, .int v3, .int v4, .int (v5 + 1), .int (v6 + 1), .long ((Int32.toInt64 v3) + (2 * (Int32.toInt64 v6))), .null, .int (Int64.toInt32 ((Int32.toInt64 v3) + (2 * (Int32.toInt64 v6))))] [] r4.2.2
  else
    some (v5, 0, σ) := (unr_R [39] 91 k 400 39 _ _ _).trans rfl
-- X4_taken
set_option maxRecDepth 1000000 in
theorem q92_e (k : Nat) (p1 : Int32) (p2 : Int32) (σ : Sto) : C 92 k [.ref 0, .int p1, .int p2] σ =
  (C 93 k [.int p2, .int 0, .int 6] σ).bind fun r1 =>
    if r1.1 = 0 then
      some ((-2), 0, r1.2.2)
    else
      (C 93 k [.int p1, .int 0, .int 11] r1.2.2).bind fun r2 =>
        if r2.1 = 0 then
          some ((-12), 0, r2.2.2)
        else
          if p1 < 6 then
            (C 36 k [.ref 12, .long (Int32.toInt64 (p1 - p1 / 6 * 6))] r2.2.2).bind fun r3 =>
              if r3.1 = 0 then
                some ((-11), 0, r3.2.2)
              else
                if inb (p1 - p1 / 6 * 6) 6 = true then
                  (C 97 k [.int (r3.2.2 13 (p1 - p1 / 6 * 6).toNatClampNeg), .int p2] r3.2.2).bind fun r4 =>
                    if r4.1 = 0 then
                      some ((-13), 0, r4.2.2)
                    else
                      some ((p1 - p1 / 6 * 6), 0, r4.2.2)
                else
                  none
          else
            (C 36 k [.ref 12, .long (Int32.toInt64 (p1 - p1 / 6 * 6))] r2.2.2).bind fun r3 =>
              if r3.1 = 0 then
                some ((-11), 0, r3.2.2)
              else
                if p2 = 6 then
                  if inb (p1 - p1 / 6 * 6) 6 = true then
                    some ((r3.2.2 17 (p1 - p1 / 6 * 6).toNatClampNeg), 0, r3.2.2)
                  else
                    none
                else
                  some ((-13), 0, r3.2.2) := (unr_R [] 92 k 400 0 _ _ _).trans rfl
-- X4_within
theorem q93_e (k : Nat) (p1 : Int32) (p2 : Int32) (p3 : Int32) (σ : Sto) : C 93 k [.int p1, .int p2, .int p3] σ =
  if p1 < p2 then
    some (0, 0, σ)
  else
    if p3 < p1 then
      some (0, 0, σ)
    else
      some (1, 0, σ) := (unr_R [] 93 k 400 0 _ _ _).trans rfl
-- X4_isByte
theorem q94_e (k : Nat) (p1 : Int32) (σ : Sto) : C 94 k [.int p1] σ =
  (C 93 k [.int p1, .int 0, .int 255] σ).bind fun r1 =>
    if nok 1 r1.1 = true then
      some (r1.1, 0, r1.2.2)
    else
      none := (unr_R [] 94 k 400 0 _ _ _).trans rfl
-- X4_bit
theorem q95_e (k : Nat) (p1 : Int32) (σ : Sto) : C 95 k [.int p1] σ =
  if p1 = 0 then
    some (0, 0, σ)
  else
    some (1, 0, σ) := (unr_R [] 95 k 400 0 _ _ _).trans rfl
-- X4_tapeOne
theorem q96_e (k : Nat) (p1 : Int32) (σ : Sto) : C 96 k [.ref 0, .int p1] σ =
  if (σ 0 7) < 160 then
    if inb (σ 0 7) 160 = true then
      some (0, 0, (su (su σ 1 (σ 0 7).toNatClampNeg p1) 0 7 (((su σ 1 (σ 0 7).toNatClampNeg p1) 0 7) + 1)))
    else
      none
  else
    some (0, 0, σ) := (unr_R [] 96 k 400 0 _ _ _).trans rfl
-- X4_isOfKind
theorem q97_e (k : Nat) (p1 : Int32) (p2 : Int32) (σ : Sto) : C 97 k [.int p1, .int p2] σ =
  if p2 = 0 then
    some (1, 0, σ)
  else
    if p1 = p2 then
      some (1, 0, σ)
    else
      if p2 = 1 then
        if p1 = 3 then
          some (1, 0, σ)
        else
          if p2 = 2 then
            if p1 = 4 then
              some (1, 0, σ)
            else
              some (0, 0, σ)
          else
            some (0, 0, σ)
      else
        if p2 = 2 then
          if p1 = 4 then
            some (1, 0, σ)
          else
            some (0, 0, σ)
        else
          some (0, 0, σ) := (unr_R [] 97 k 400 0 _ _ _).trans rfl
-- X4_fetchedInThought
theorem q98_e (k : Nat) (p1 : Int32) (σ : Sto) : C 98 k [.ref 0, .int p1] σ =
  R 98 k 4 [.ref 0, .int p1, .int 0, .int 0] [] σ := (unr_R [4] 98 k 400 0 _ _ _).trans rfl
theorem q98_4 (k : Nat) (v1 : Int32) (v2 : Int32) (v3 : Int32) (σ : Sto) : R 98 k 4 [.ref 0, .int v1, .int v2, .int v3] [] σ =
  if v3 < v1 then
    (C 48 k [.ref 18] σ).bind fun r1 =>
      if r1.1 = (-1) then
        R 98 k 4 [.ref 0, .int v1, .int v2, .int (v3 + 1)] [] r1.2.2
      else
        R 98 k 4 [.ref 0, .int v1, .int (v2 + 1), .int (v3 + 1)] [] r1.2.2
  else
    some (v2, 0, σ) := (unr_R [4] 98 k 400 4 _ _ _).trans rfl
-- X4_hoursTillOver
theorem q99_e (k : Nat) (p1 : Int32) (p2 : Int32) (σ : Sto) : C 99 k [.ref 0, .int p1, .int p2] σ =
  R 99 k 2 [.ref 0, .int p1, .int p2, .int 0] [] σ := (unr_R [2] 99 k 400 0 _ _ _).trans rfl
theorem q99_2 (k : Nat) (v1 : Int32) (v2 : Int32) (v3 : Int32) (σ : Sto) : R 99 k 2 [.ref 0, .int v1, .int v2, .int v3] [] σ =
  if v2 < v3 then
    some ((-1), 0, σ)
  else
    (C 39 k [.ref 18, .int v1] σ).bind fun r1 =>
      if r1.1 = 0 then
        if v3 < v2 then
          (C 48 k [.ref 18] r1.2.2).bind fun r2 =>
            R 99 k 2 [.ref 0, .int v1, .int v2, .int (v3 + 1)] [] r2.2.2
        else
          R 99 k 2 [.ref 0, .int v1, .int v2, .int (v3 + 1)] [] r1.2.2
      else
        some (v3, 0, r1.2.2) := (unr_R [2] 99 k 400 2 _ _ _).trans rfl
-- X4_wouldBeAlone
theorem q100_e (k : Nat) (p1 : Int32) (p2 : Int32) (σ : Sto) : C 100 k [.ref 0, .int p1, .int p2] σ =
  (C 93 k [.int p2, .int 0, .int 63] σ).bind fun r1 =>
    if r1.1 = 0 then
      some (0, 0, r1.2.2)
    else
      if inb p1 6 = true then
        (C 40 k [.ref 18, .int p1] (su r1.2.2 21 p1.toNatClampNeg p2)).bind fun r2 =>
          if nok 1 r2.1 = true then
            some (r2.1, 0, r2.2.2)
          else
            none
      else
        none := (unr_R [] 100 k 400 0 _ _ _).trans rfl
-- X4_othersAloneWithout
theorem q101_e (k : Nat) (p1 : Int32) (σ : Sto) : C 101 k [.ref 0, .int p1] σ =
  (C 35 k [.ref 18, .ref 12] σ).bind fun r1 =>
    R 101 k 7 [.ref 0, .int p1, .int 0] [] r1.2.2 := (unr_R [7] 101 k 400 0 _ _ _).trans rfl
theorem q101_7 (k : Nat) (v1 : Int32) (v2 : Int32) (σ : Sto) : R 101 k 7 [.ref 0, .int v1, .int v2] [] σ =
  if v2 < (σ 12 6) then
    if ((v1 >>> (v2 &&& 31)) &&& 1) = 1 then
      if inb v2 6 = true ∧ zb 1 = true then
        R 101 k 7 [.ref 0, .int v1, .int (v2 + 1)] [] (su σ 22 v2.toNatClampNeg 1)
      else
        none
    else
      R 101 k 7 [.ref 0, .int v1, .int (v2 + 1)] [] σ
  else
    (C 50 k [.ref 18] σ).bind fun r1 =>
      (C 51 k [.ref 18] r1.2.2).bind fun r2 =>
        if r1.1 = r2.1 then
          some (1, 0, r2.2.2)
        else
          some (0, 0, r2.2.2) := (unr_R [7] 101 k 400 7 _ _ _).trans rfl
-- X4_refusalToJudge
theorem q102_e (k : Nat) (p1 : Int32) (σ : Sto) : C 102 k [.ref 0, .int p1] σ =
  (C 29 k [.ref 8, .int p1] σ).bind fun r1 =>
    if r1.1 = 0 then
      some ((-2), 0, r1.2.2)
    else
      if inb p1 4 = true then
        if (r1.2.2 10 p1.toNatClampNeg) = (-1) then
          some ((-11), 0, r1.2.2)
        else
          if inb p1 4 = true then
            if 24 < (r1.2.2 11 p1.toNatClampNeg) then
              some ((-2), 0, r1.2.2)
            else
              some (0, 0, r1.2.2)
          else
            none
      else
        none := (unr_R [] 102 k 400 0 _ _ _).trans rfl
-- X4_firstOtherwise
theorem q103_e (k : Nat) (p1 : Int32) (σ : Sto) : C 103 k [.ref 0, .int p1] σ =
  R 103 k 2 [.ref 0, .int p1, .int 0] [] σ := (unr_R [2] 103 k 400 0 _ _ _).trans rfl
theorem q103_2 (k : Nat) (v1 : Int32) (v2 : Int32) (σ : Sto) : R 103 k 2 [.ref 0, .int v1, .int v2] [] σ =
  if inb v1 4 = true then
    if v2 < (σ 11 v1.toNatClampNeg) then
      (C 48 k [.ref 18] σ).bind fun r1 =>
        (C 32 k [.ref 8, .int v1, .int v2] r1.2.2).bind fun r2 =>
          if (r1.1 + 1) = r2.1 then
            R 103 k 2 [.ref 0, .int v1, .int (v2 + 1)] [] r2.2.2
          else
            some (v2, 0, r2.2.2)
    else
      some ((-1), 0, σ)
  else
    none := (unr_R [2] 103 k 400 2 _ _ _).trans rfl
-- X4_fetchedAmongGulls
theorem q104_e (k : Nat) (p1 : Int32) (σ : Sto) : C 104 k [.ref 0, .int p1] σ =
  (C 35 k [.ref 18, .ref 12] σ).bind fun r1 =>
    R 104 k 14 [.ref 0, .int p1, .long ((Int32.toInt64 p1) + 1), .null, .int 0, .int 0, .null] [] r1.2.2 := (unr_R [14, 50] 104 k 400 0 _ _ _).trans rfl
theorem q104_14 (k : Nat) (v1 : Int32) (v2 : Int64) (v4 : Int32) (v5 : Int32) (u6 : Value) (σ : Sto) : R 104 k 14 [.ref 0, .int v1, .long v2, .null, .int v4, .int v5, u6] [] σ =
  if v5 < 12 then
    (C 105 k [.long v2] σ).bind fun r1 =>
      (C 105 k [.long r1.2.1] r1.2.2).bind fun r2 =>
        (C 36 k [.ref 18, .long (Int32.toInt64 (Int64.toInt32 (r1.2.1 - r1.2.1 / 6 * 6)))] r2.2.2).bind fun r3 =>
          if r3.1 = 0 then
            R 104 k 50 [.ref 0, .int v1, .long r2.2.1, .null, .int v4, .int v5, .int (Int64.toInt32 (r1.2.1 - r1.2.1 / 6 * 6))] [] r3.2.2
          else
            if inb (Int64.toInt32 (r1.2.1 - r1.2.1 / 6 * 6)) 6 = true then
              if (r3.2.2 21 (Int64.toInt32 (r1.2.1 - r1.2.1 / 6 * 6)).toNatClampNeg) = (-1) then
                R 104 k 50 [.ref 0, .int v1, .long r2.2.1, .null, .int v4, .int v5, .int (Int64.toInt32 (r1.2.1 - r1.2.1 / 6 * 6))] [] r3.2.2
              else
                if inb (Int64.toInt32 (r1.2.1 - r1.2.1 / 6 * 6)) 6 = true then
                  R 104 k 50 [.ref 0, .int v1, .long r2.2.1, .null, .int v4, .int v5, .int (Int64.toInt32 (r1.2.1 - r1.2.1 / 6 * 6))] [] (su r3.2.2 21 (Int64.toInt32 (r1.2.1 - r1.2.1 / 6 * 6)).toNatClampNeg (Int64.toInt32 (r2.2.1 - r2.2.1 / 64 * 64)))
                else
                  none
            else
              none
  else
    some (v4, 0, σ) := (unr_R [14, 50] 104 k 400 14 _ _ _).trans rfl
theorem q104_50 (k : Nat) (v1 : Int32) (v2 : Int64) (v4 : Int32) (v5 : Int32) (v6 : Int32) (σ : Sto) : R 104 k 50 [.ref 0, .int v1, .long v2, .null, .int v4, .int v5, .int v6] [] σ =
  (C 48 k [.ref 18] σ).bind fun r1 =>
    if r1.1 = (-1) then
      R 104 k 14 [.ref 0, .int v1, .long v2, .null, .int v4, .int (v5 + 1), .int v6] [] r1.2.2
    else
      R 104 k 14 [.ref 0, .int v1, .long v2, .null, .int (v4 + 1), .int (v5 + 1), .int v6] [] r1.2.2 := (unr_R [14, 50] 104 k 400 50 _ _ _).trans rfl
-- X4_lotAfter
theorem q105_e (k : Nat) (p1 : Int64) (σ : Sto) : C 105 k [.long p1] σ =
  some (0, ((p1 * 48271) - (p1 * 48271) / 2147483647 * 2147483647), σ) := (unr_R [] 105 k 400 0 _ _ _).trans rfl
-- X4_fraction
theorem q106_e (k : Nat) (p1 : Int64) (p2 : Int64) (p3 : Int32) (σ : Sto) : C 106 k [.long p1, .long p2, .int p3] σ =
  if (lg_cmp p2 1) < 0 then
    some (0, (-4611686018427387904), σ)
  else
    (C 93 k [.int p3, .int 0, .int 1] σ).bind fun r1 =>
      if r1.1 = 0 then
        some (0, (-4611686018427387904), r1.2.2)
      else
        R 106 k 17 [.long p1, .null, .long p2, .null, .int p3, .long p2, .null, .long p1, .null, .int 0, .null, .null] [] r1.2.2 := (unr_R [17] 106 k 400 0 _ _ _).trans rfl
set_option maxRecDepth 1000000 in
theorem q106_17 (k : Nat) (v0 : Int64) (v2 : Int64) (v4 : Int32) (v5 : Int64) (v7 : Int64) (v9 : Int32) (u10 : Value) (σ : Sto) : R 106 k 17 [.long v0, .null, .long v2, .null, .int v4, .long v5, .null, .long v7, .null, .int v9, u10, .null] [] σ =
  if (lg_cmp (Int32.toInt64 v9) 100) < 0 then
    if (lg_cmp v7 0) = 0 then
      if (lg_cmp v5 0) = 0 then
        some (0, (-4611686018427387904), σ)
      else
        if v4 = 0 then
          if v5 = 0 then
            none
          else
            some (0, (v0 / v5), σ)
        else
          if v5 = 0 then
            none
          else
            some (0, (v2 / v5), σ)
    else
      if v7 = 0 then
        none
      else
        R 106 k 17 [.long v0, .null, .long v2, .null, .int v4, .long v7, .null, .long (v5 - v5 / v7 * v7), .null, .int (v9 + 1), .long (v5 - v5 / v7 * v7), .null] [] σ
  else
    if (lg_cmp v5 0) = 0 then
      some (0, (-4611686018427387904), σ)
    else
      if v4 = 0 then
        if v5 = 0 then
          none
        else
          some (0, (v0 / v5), σ)
      else
        if v5 = 0 then
          none
        else
          some (0, (v2 / v5), σ) := (unr_R [17] 106 k 400 17 _ _ _).trans rfl
