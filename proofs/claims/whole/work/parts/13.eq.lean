/-! EQUATIONS of the methods 157 .. 184 -/
-- X5_stand
theorem eM_stand (k : Nat) (p1 : Int32) (p2 : Int32) (σ : Sto) : C nM_stand k [.ref 30, .int p1, .int p2] σ =
  (C nM_isOne k [.ref 30, .int p1] σ).bind fun r1 =>
    if r1.1 = 0 then
      some ((-5), 0, r1.2.2)
    else
      (C nM_in k [.int p2, .int 0, .int 1] r1.2.2).bind fun r2 =>
        if r2.1 = 0 then
          some ((-7), 0, r2.2.2)
        else
          if (r2.2.2 34 (1 : Int32).toNatClampNeg) = p1 then
            some ((-3), 0, r2.2.2)
          else
            (C nM_keeps k [.ref 30] r2.2.2).bind fun r3 =>
              R nM_stand k 29 [.ref 30, .int p1, .int p2, .int (-1), .int (-1), .int 0, .null, .null] [] r3.2.2 := (unr_R [29] nM_stand k 400 0 _ _ _).trans rfl
theorem eM_stand_29 (k : Nat) (v1 : Int32) (v2 : Int32) (v3 : Int32) (v4 : Int32) (v5 : Int32) (u6 : Value) (u7 : Value) (σ : Sto) : R nM_stand k 29 [.ref 30, .int v1, .int v2, .int v3, .int v4, .int v5, u6, u7] [] σ =
  if v5 < 64 then
    if inb (3 * v1) 18 = true then
      if inb ((3 * v1) + 1) 18 = true then
        (C nM_firstTime k [.ref 30, .int v1, .int 0] (su (su σ 33 (3 * v1).toNatClampNeg v5) 33 ((3 * v1) + 1).toNatClampNeg 0)).bind fun r1 =>
          (C nM_lays k [.ref 30] r1.2.2).bind fun r2 =>
            if r1.1 = (-1) then
              R nM_stand k 29 [.ref 30, .int v1, .int v2, .int v3, .int v4, .int (v5 + 1), .int r1.1, .int 0] [] r2.2.2
            else
              if v3 = (-1) then
                R nM_stand k 29 [.ref 30, .int v1, .int v2, .int v5, .int r1.1, .int (v5 + 1), .int r1.1, .int 1] [] r2.2.2
              else
                if r1.1 < v4 then
                  R nM_stand k 29 [.ref 30, .int v1, .int v2, .int v5, .int r1.1, .int (v5 + 1), .int r1.1, .int 1] [] r2.2.2
                else
                  R nM_stand k 29 [.ref 30, .int v1, .int v2, .int v3, .int v4, .int (v5 + 1), .int r1.1, .int 0] [] r2.2.2
      else
        none
    else
      none
  else
    if v2 = 0 then
      some (v3, 0, σ)
    else
      some (v4, 0, σ) := (unr_R [29] nM_stand k 400 29 _ _ _).trans rfl
-- X5_apart
theorem eM_apart (k : Nat) (p1 : Int32) (p2 : Int32) (σ : Sto) : C nM_apart k [.ref 30, .int p1, .int p2] σ =
  (C nM_isOne k [.ref 30, .int p1] σ).bind fun r1 =>
    if r1.1 = 0 then
      some ((-5), 0, r1.2.2)
    else
      (C nM_in k [.int p2, .int 0, .int 1] r1.2.2).bind fun r2 =>
        if r2.1 = 0 then
          some ((-7), 0, r2.2.2)
        else
          (C nM_isSeen k [.ref 30, .int p1] r2.2.2).bind fun r3 =>
            if r3.1 = 0 then
              some ((-1), 0, r3.2.2)
            else
              if inb (3 * p1) 18 = true then
                R nM_apart k 32 [.ref 30, .int p1, .int p2, .int (r3.2.2 33 (3 * p1).toNatClampNeg), .int (-1), .int (-1), .int 0, .null, .null] [] r3.2.2
              else
                none := (unr_R [32, 52] nM_apart k 400 0 _ _ _).trans rfl
theorem eM_apart_32 (k : Nat) (v1 : Int32) (v2 : Int32) (v3 : Int32) (v4 : Int32) (v5 : Int32) (v6 : Int32) (u7 : Value) (u8 : Value) (σ : Sto) : R nM_apart k 32 [.ref 30, .int v1, .int v2, .int v3, .int v4, .int v5, .int v6, u7, u8] [] σ =
  if v6 < 64 then
    if inb (3 * v1) 18 = true then
      if v6 < v3 then
        R nM_apart k 52 [.ref 30, .int v1, .int v2, .int v3, .int v4, .int v5, .int v6, u7, u8] [.int (v3 - v6)] (su σ 33 (3 * v1).toNatClampNeg v6)
      else
        R nM_apart k 52 [.ref 30, .int v1, .int v2, .int v3, .int v4, .int v5, .int v6, u7, u8] [.int (v6 - v3)] (su σ 33 (3 * v1).toNatClampNeg v6)
    else
      none
  else
    if inb (3 * v1) 18 = true then
      if v2 = 0 then
        some (v5, 0, (su σ 33 (3 * v1).toNatClampNeg v3))
      else
        some (v4, 0, (su σ 33 (3 * v1).toNatClampNeg v3))
    else
      none := (unr_R [32, 52] nM_apart k 400 32 _ _ _).trans rfl
theorem eM_apart_52 (k : Nat) (v1 : Int32) (v2 : Int32) (v3 : Int32) (v4 : Int32) (v5 : Int32) (v6 : Int32) (u7 : Value) (u8 : Value) (s0 : Int32) (σ : Sto) : R nM_apart k 52 [.ref 30, .int v1, .int v2, .int v3, .int v4, .int v5, .int v6, u7, u8] [.int s0] σ =
  (C nM_isAlone k [.ref 30, .int v1] σ).bind fun r1 =>
    if r1.1 = 0 then
      R nM_apart k 32 [.ref 30, .int v1, .int v2, .int v3, .int v4, .int v5, .int (v6 + 1), .int s0, .int 0] [] r1.2.2
    else
      if v4 = (-1) then
        R nM_apart k 32 [.ref 30, .int v1, .int v2, .int v3, .int v6, .int s0, .int (v6 + 1), .int s0, .int 1] [] r1.2.2
      else
        if s0 < v5 then
          R nM_apart k 32 [.ref 30, .int v1, .int v2, .int v3, .int v6, .int s0, .int (v6 + 1), .int s0, .int 1] [] r1.2.2
        else
          R nM_apart k 32 [.ref 30, .int v1, .int v2, .int v3, .int v4, .int v5, .int (v6 + 1), .int s0, .int 0] [] r1.2.2 := (unr_R [32, 52] nM_apart k 400 52 _ _ _).trans rfl
-- X5_areAllAlone
theorem eM_areAllAlone (k : Nat) (p1 : Int32) (p2 : Int32) (σ : Sto) : C nM_areAllAlone k [.ref 30, .int p1, .int p2] σ =
  R nM_areAllAlone k 2 [.ref 30, .int p1, .int p2, .int 0, .null] [] σ := (unr_R [2, 47] nM_areAllAlone k 400 0 _ _ _).trans rfl
theorem eM_areAllAlone_2 (k : Nat) (v1 : Int32) (v2 : Int32) (v3 : Int32) (σ : Sto) : R nM_areAllAlone k 2 [.ref 30, .int v1, .int v2, .int v3, .null] [] σ =
  if v3 < (σ 30 0) then
    if ((v1 >>> (v3 &&& 31)) &&& 1) = 1 then
      if inb ((3 * v3) + 1) 18 = true then
        R nM_areAllAlone k 2 [.ref 30, .int v1, .int v2, .int (v3 + 1), .null] [] (su σ 33 ((3 * v3) + 1).toNatClampNeg 1)
      else
        none
    else
      if inb ((3 * v3) + 1) 18 = true then
        if inb ((3 * v3) + 1) 18 = true then
          R nM_areAllAlone k 2 [.ref 30, .int v1, .int v2, .int (v3 + 1), .null] [] (su σ 33 ((3 * v3) + 1).toNatClampNeg (σ 33 ((3 * v3) + 1).toNatClampNeg))
        else
          none
      else
        none
  else
    (C nM_aloneSet k [.ref 30] σ).bind fun r1 =>
      if r1.1 = (v2 &&& (v1 ^^^ (-1))) then
        R nM_areAllAlone k 47 [.ref 30, .int v1, .int v2, .int 1, .int 0] [] r1.2.2
      else
        R nM_areAllAlone k 47 [.ref 30, .int v1, .int v2, .int 0, .int 0] [] r1.2.2 := (unr_R [2, 47] nM_areAllAlone k 400 2 _ _ _).trans rfl
theorem eM_areAllAlone_47 (k : Nat) (v1 : Int32) (v2 : Int32) (v3 : Int32) (v4 : Int32) (σ : Sto) : R nM_areAllAlone k 47 [.ref 30, .int v1, .int v2, .int v3, .int v4] [] σ =
  if v4 < (σ 30 0) then
    if ((v1 >>> (v4 &&& 31)) &&& 1) = 1 then
      if inb ((3 * v4) + 1) 18 = true then
        R nM_areAllAlone k 47 [.ref 30, .int v1, .int v2, .int v3, .int (v4 + 1)] [] (su σ 33 ((3 * v4) + 1).toNatClampNeg 0)
      else
        none
    else
      if inb ((3 * v4) + 1) 18 = true then
        if inb ((3 * v4) + 1) 18 = true then
          R nM_areAllAlone k 47 [.ref 30, .int v1, .int v2, .int v3, .int (v4 + 1)] [] (su σ 33 ((3 * v4) + 1).toNatClampNeg (σ 33 ((3 * v4) + 1).toNatClampNeg))
        else
          none
      else
        none
  else
    if nok 1 v3 = true then
      some (v3, 0, σ)
    else
      none := (unr_R [2, 47] nM_areAllAlone k 400 47 _ _ _).trans rfl
-- X5_breakwater
theorem eM_breakwater (k : Nat) (p1 : Int32) (σ : Sto) : C nM_breakwater k [.ref 30, .int p1] σ =
  (C nM_in k [.int p1, .int 0, .int 1] σ).bind fun r1 =>
    if r1.1 = 0 then
      some ((-2), 0, r1.2.2)
    else
      (C nM_seenSet k [.ref 30] r1.2.2).bind fun r2 =>
        R nM_breakwater k 16 [.ref 30, .int p1, .int r2.1, .int (-1), .int (-1), .int 0, .null, .null] [] r2.2.2 := (unr_R [16, 35] nM_breakwater k 400 0 _ _ _).trans rfl
theorem eM_breakwater_16 (k : Nat) (v1 : Int32) (v2 : Int32) (v3 : Int32) (v4 : Int32) (v5 : Int32) (u6 : Value) (u7 : Value) (σ : Sto) : R nM_breakwater k 16 [.ref 30, .int v1, .int v2, .int v3, .int v4, .int v5, u6, u7] [] σ =
  if v5 < (1 <<< ((σ 30 0) &&& 31)) then
    if (v5 &&& (v2 ^^^ (-1))) = 0 then
      if v3 = (-1) then
        R nM_breakwater k 35 [.ref 30, .int v1, .int v2, .int v3, .int v4, .int v5, u6, u7] [] σ
      else
        (C nM_onesOf k [.int v5] σ).bind fun r1 =>
          if r1.1 < v4 then
            R nM_breakwater k 35 [.ref 30, .int v1, .int v2, .int v3, .int v4, .int v5, u6, u7] [] r1.2.2
          else
            R nM_breakwater k 16 [.ref 30, .int v1, .int v2, .int v3, .int v4, .int (v5 + 1), .int 0, u7] [] r1.2.2
    else
      R nM_breakwater k 16 [.ref 30, .int v1, .int v2, .int v3, .int v4, .int (v5 + 1), .int 0, u7] [] σ
  else
    if v1 = 0 then
      some (v3, 0, σ)
    else
      some (v4, 0, σ) := (unr_R [16, 35] nM_breakwater k 400 16 _ _ _).trans rfl
theorem eM_breakwater_35 (k : Nat) (v1 : Int32) (v2 : Int32) (v3 : Int32) (v4 : Int32) (v5 : Int32) (u6 : Value) (u7 : Value) (σ : Sto) : R nM_breakwater k 35 [.ref 30, .int v1, .int v2, .int v3, .int v4, .int v5, u6, u7] [] σ =
  (C nM_areAllAlone k [.ref 30, .int v5, .int v2] σ).bind fun r1 =>
    if r1.1 = 0 then
      if r1.1 = 0 then
        R nM_breakwater k 16 [.ref 30, .int v1, .int v2, .int v3, .int v4, .int (v5 + 1), .int 1, .int r1.1] [] r1.2.2
      else
        (C nM_onesOf k [.int v5] r1.2.2).bind fun r2 =>
          R nM_breakwater k 16 [.ref 30, .int v1, .int v2, .int v3, .int r2.1, .int (v5 + 1), .int 1, .int r1.1] [] r2.2.2
    else
      if r1.1 = 0 then
        R nM_breakwater k 16 [.ref 30, .int v1, .int v2, .int v5, .int v4, .int (v5 + 1), .int 1, .int r1.1] [] r1.2.2
      else
        (C nM_onesOf k [.int v5] r1.2.2).bind fun r2 =>
          R nM_breakwater k 16 [.ref 30, .int v1, .int v2, .int v5, .int r2.1, .int (v5 + 1), .int 1, .int r1.1] [] r2.2.2 := (unr_R [16, 35] nM_breakwater k 400 35 _ _ _).trans rfl
-- X5_isBetween
theorem eM_isBetween (k : Nat) (p1 : Int32) (p2 : Int32) (σ : Sto) : C nM_isBetween k [.ref 30, .int p1, .int p2] σ =
  R nM_isBetween k 2 [.ref 30, .int p1, .int p2, .int 0] [] σ := (unr_R [2] nM_isBetween k 400 0 _ _ _).trans rfl
theorem eM_isBetween_2 (k : Nat) (v1 : Int32) (v2 : Int32) (v3 : Int32) (σ : Sto) : R nM_isBetween k 2 [.ref 30, .int v1, .int v2, .int v3] [] σ =
  if v3 < (σ 30 0) then
    (C nM_isSeen k [.ref 30, .int v3] σ).bind fun r1 =>
      if r1.1 = 0 then
        R nM_isBetween k 2 [.ref 30, .int v1, .int v2, .int (v3 + 1)] [] r1.2.2
      else
        if inb (3 * v3) 18 = true then
          if inb (3 * v1) 18 = true then
            if (r1.2.2 33 (3 * v1).toNatClampNeg) < (r1.2.2 33 (3 * v3).toNatClampNeg) then
              if inb (3 * v3) 18 = true then
                if inb (3 * v2) 18 = true then
                  if (r1.2.2 33 (3 * v3).toNatClampNeg) < (r1.2.2 33 (3 * v2).toNatClampNeg) then
                    some (1, 0, r1.2.2)
                  else
                    R nM_isBetween k 2 [.ref 30, .int v1, .int v2, .int (v3 + 1)] [] r1.2.2
                else
                  none
              else
                none
            else
              R nM_isBetween k 2 [.ref 30, .int v1, .int v2, .int (v3 + 1)] [] r1.2.2
          else
            none
        else
          none
  else
    some (0, 0, σ) := (unr_R [2] nM_isBetween k 400 2 _ _ _).trans rfl
-- X5_gap
theorem eM_gap (k : Nat) (p1 : Int32) (σ : Sto) : C nM_gap k [.ref 30, .int p1] σ =
  (C nM_in k [.int p1, .int 0, .int 1] σ).bind fun r1 =>
    if r1.1 = 0 then
      some ((-2), 0, r1.2.2)
    else
      R nM_gap k 13 [.ref 30, .int p1, .int (-1), .int (-1), .int 0, .null, .null, .null] [] r1.2.2 := (unr_R [13, 19, 55, 57, 58, 72, 82, 88, 89, 98] nM_gap k 400 0 _ _ _).trans rfl
theorem eM_gap_13 (k : Nat) (v1 : Int32) (v2 : Int32) (v3 : Int32) (v4 : Int32) (u5 : Value) (u6 : Value) (u7 : Value) (σ : Sto) : R nM_gap k 13 [.ref 30, .int v1, .int v2, .int v3, .int v4, u5, u6, u7] [] σ =
  if v4 < (σ 30 0) then
    R nM_gap k 19 [.ref 30, .int v1, .int v2, .int v3, .int v4, .int 0, u6, u7] [] σ
  else
    if v1 = 0 then
      R nM_gap k 98 [.ref 30, .int v1, .int v2, .int v3, .int v4, u5, u6, u7] [.int v2] σ
    else
      R nM_gap k 98 [.ref 30, .int v1, .int v2, .int v3, .int v4, u5, u6, u7] [.int v3] σ := (unr_R [13, 19, 55, 57, 58, 72, 82, 88, 89, 98] nM_gap k 400 13 _ _ _).trans rfl
theorem eM_gap_19 (k : Nat) (v1 : Int32) (v2 : Int32) (v3 : Int32) (v4 : Int32) (v5 : Int32) (u6 : Value) (u7 : Value) (σ : Sto) : R nM_gap k 19 [.ref 30, .int v1, .int v2, .int v3, .int v4, .int v5, u6, u7] [] σ =
  if v5 < (σ 30 0) then
    if inb (3 * v5) 18 = true then
      if inb (3 * v4) 18 = true then
        if v4 = v5 then
          R nM_gap k 57 [.ref 30, .int v1, .int v2, .int v3, .int v4, .int v5, .int ((σ 33 (3 * v5).toNatClampNeg) - (σ 33 (3 * v4).toNatClampNeg)), u7] [] σ
        else
          (C nM_isSeen k [.ref 30, .int v4] σ).bind fun r1 =>
            if r1.1 = 0 then
              R nM_gap k 57 [.ref 30, .int v1, .int v2, .int v3, .int v4, .int v5, .int ((σ 33 (3 * v5).toNatClampNeg) - (σ 33 (3 * v4).toNatClampNeg)), u7] [] r1.2.2
            else
              (C nM_isSeen k [.ref 30, .int v5] r1.2.2).bind fun r2 =>
                if r2.1 = 0 then
                  R nM_gap k 57 [.ref 30, .int v1, .int v2, .int v3, .int v4, .int v5, .int ((σ 33 (3 * v5).toNatClampNeg) - (σ 33 (3 * v4).toNatClampNeg)), u7] [] r2.2.2
                else
                  if 0 < ((σ 33 (3 * v5).toNatClampNeg) - (σ 33 (3 * v4).toNatClampNeg)) then
                    R nM_gap k 55 [.ref 30, .int v1, .int v2, .int v3, .int v4, .int v5, .int ((σ 33 (3 * v5).toNatClampNeg) - (σ 33 (3 * v4).toNatClampNeg)), u7] [] r2.2.2
                  else
                    if ((σ 33 (3 * v5).toNatClampNeg) - (σ 33 (3 * v4).toNatClampNeg)) = 0 then
                      if v4 < v5 then
                        R nM_gap k 55 [.ref 30, .int v1, .int v2, .int v3, .int v4, .int v5, .int ((σ 33 (3 * v5).toNatClampNeg) - (σ 33 (3 * v4).toNatClampNeg)), u7] [] r2.2.2
                      else
                        R nM_gap k 57 [.ref 30, .int v1, .int v2, .int v3, .int v4, .int v5, .int ((σ 33 (3 * v5).toNatClampNeg) - (σ 33 (3 * v4).toNatClampNeg)), u7] [] r2.2.2
                    else
                      R nM_gap k 57 [.ref 30, .int v1, .int v2, .int v3, .int v4, .int v5, .int ((σ 33 (3 * v5).toNatClampNeg) - (σ 33 (3 * v4).toNatClampNeg)), u7] [] r2.2.2
      else
        none
    else
      none
  else
    R nM_gap k 13 [.ref 30, .int v1, .int v2, .int v3, .int (v4 + 1), .int v5, u6, u7] [] σ := (unr_R [13, 19, 55, 57, 58, 72, 82, 88, 89, 98] nM_gap k 400 19 _ _ _).trans rfl
theorem eM_gap_55 (k : Nat) (v1 : Int32) (v2 : Int32) (v3 : Int32) (v4 : Int32) (v5 : Int32) (v6 : Int32) (u7 : Value) (σ : Sto) : R nM_gap k 55 [.ref 30, .int v1, .int v2, .int v3, .int v4, .int v5, .int v6, u7] [] σ =
  R nM_gap k 58 [.ref 30, .int v1, .int v2, .int v3, .int v4, .int v5, .int v6, u7] [.int 1] σ := (unr_R [13, 19, 55, 57, 58, 72, 82, 88, 89, 98] nM_gap k 400 55 _ _ _).trans rfl
theorem eM_gap_57 (k : Nat) (v1 : Int32) (v2 : Int32) (v3 : Int32) (v4 : Int32) (v5 : Int32) (v6 : Int32) (u7 : Value) (σ : Sto) : R nM_gap k 57 [.ref 30, .int v1, .int v2, .int v3, .int v4, .int v5, .int v6, u7] [] σ =
  R nM_gap k 58 [.ref 30, .int v1, .int v2, .int v3, .int v4, .int v5, .int v6, u7] [.int 0] σ := (unr_R [13, 19, 55, 57, 58, 72, 82, 88, 89, 98] nM_gap k 400 57 _ _ _).trans rfl
theorem eM_gap_58 (k : Nat) (v1 : Int32) (v2 : Int32) (v3 : Int32) (v4 : Int32) (v5 : Int32) (v6 : Int32) (u7 : Value) (s0 : Int32) (σ : Sto) : R nM_gap k 58 [.ref 30, .int v1, .int v2, .int v3, .int v4, .int v5, .int v6, u7] [.int s0] σ =
  if s0 = 0 then
    R nM_gap k 89 [.ref 30, .int v1, .int v2, .int v3, .int v4, .int v5, .int v6, .int s0] [] σ
  else
    if v3 < v6 then
      (C nM_isBetween k [.ref 30, .int v4, .int v5] σ).bind fun r1 =>
        if r1.1 = 0 then
          R nM_gap k 72 [.ref 30, .int v1, .int v2, .int v3, .int v4, .int v5, .int v6, .int s0] [.int 1] r1.2.2
        else
          R nM_gap k 72 [.ref 30, .int v1, .int v2, .int v3, .int v4, .int v5, .int v6, .int s0] [.int 0] r1.2.2
    else
      R nM_gap k 89 [.ref 30, .int v1, .int v2, .int v3, .int v4, .int v5, .int v6, .int s0] [] σ := (unr_R [13, 19, 55, 57, 58, 72, 82, 88, 89, 98] nM_gap k 400 58 _ _ _).trans rfl
theorem eM_gap_72 (k : Nat) (v1 : Int32) (v2 : Int32) (v3 : Int32) (v4 : Int32) (v5 : Int32) (v6 : Int32) (v7 : Int32) (s0 : Int32) (σ : Sto) : R nM_gap k 72 [.ref 30, .int v1, .int v2, .int v3, .int v4, .int v5, .int v6, .int v7] [.int s0] σ =
  if s0 = 0 then
    R nM_gap k 82 [.ref 30, .int v1, .int v2, .int v3, .int v4, .int v5, .int v6, .int s0] [.int v2] σ
  else
    R nM_gap k 82 [.ref 30, .int v1, .int v2, .int v3, .int v4, .int v5, .int v6, .int s0] [.int ((10 * v4) + v5)] σ := (unr_R [13, 19, 55, 57, 58, 72, 82, 88, 89, 98] nM_gap k 400 72 _ _ _).trans rfl
theorem eM_gap_82 (k : Nat) (v1 : Int32) (v2 : Int32) (v3 : Int32) (v4 : Int32) (v5 : Int32) (v6 : Int32) (v7 : Int32) (s0 : Int32) (σ : Sto) : R nM_gap k 82 [.ref 30, .int v1, .int v2, .int v3, .int v4, .int v5, .int v6, .int v7] [.int s0] σ =
  if v7 = 0 then
    R nM_gap k 88 [.ref 30, .int v1, .int s0, .int v3, .int v4, .int v5, .int v6, .int v7] [.int v3] σ
  else
    R nM_gap k 88 [.ref 30, .int v1, .int s0, .int v3, .int v4, .int v5, .int v6, .int v7] [.int v6] σ := (unr_R [13, 19, 55, 57, 58, 72, 82, 88, 89, 98] nM_gap k 400 82 _ _ _).trans rfl
theorem eM_gap_88 (k : Nat) (v1 : Int32) (v2 : Int32) (v3 : Int32) (v4 : Int32) (v5 : Int32) (v6 : Int32) (v7 : Int32) (s0 : Int32) (σ : Sto) : R nM_gap k 88 [.ref 30, .int v1, .int v2, .int v3, .int v4, .int v5, .int v6, .int v7] [.int s0] σ =
  R nM_gap k 89 [.ref 30, .int v1, .int v2, .int s0, .int v4, .int v5, .int v6, .int v7] [] σ := (unr_R [13, 19, 55, 57, 58, 72, 82, 88, 89, 98] nM_gap k 400 88 _ _ _).trans rfl
theorem eM_gap_89 (k : Nat) (v1 : Int32) (v2 : Int32) (v3 : Int32) (v4 : Int32) (v5 : Int32) (v6 : Int32) (v7 : Int32) (σ : Sto) : R nM_gap k 89 [.ref 30, .int v1, .int v2, .int v3, .int v4, .int v5, .int v6, .int v7] [] σ =
  R nM_gap k 19 [.ref 30, .int v1, .int v2, .int v3, .int v4, .int (v5 + 1), .int v6, .int v7] [] σ := (unr_R [13, 19, 55, 57, 58, 72, 82, 88, 89, 98] nM_gap k 400 89 _ _ _).trans rfl
theorem eM_gap_98 (k : Nat) (v1 : Int32) (v2 : Int32) (v3 : Int32) (v4 : Int32) (u5 : Value) (u6 : Value) (u7 : Value) (s0 : Int32) (σ : Sto) : R nM_gap k 98 [.ref 30, .int v1, .int v2, .int v3, .int v4, u5, u6, u7] [.int s0] σ =
  some (s0, 0, σ) := (unr_R [13, 19, 55, 57, 58, 72, 82, 88, 89, 98] nM_gap k 400 98 _ _ _).trans rfl
-- X5_lowest
theorem eM_lowest (k : Nat) (p1 : Int64) (p2 : Int64) (p3 : Int32) (σ : Sto) : C nM_lowest k [.long p1, .long p2, .int p3] σ =
  if (lg_cmp p1 0) = 0 then
    some (0, (Int32.toInt64 p3), σ)
  else
    R nM_lowest k 11 [.long p1, .null, .long p2, .null, .int p3, .long p1, .null, .long p2, .null, .null, .null] [] σ := (unr_R [11] nM_lowest k 400 0 _ _ _).trans rfl
theorem eM_lowest_11 (k : Nat) (v0 : Int64) (v2 : Int64) (v4 : Int32) (v5 : Int64) (v7 : Int64) (u9 : Value) (σ : Sto) : R nM_lowest k 11 [.long v0, .null, .long v2, .null, .int v4, .long v5, .null, .long v7, .null, u9, .null] [] σ =
  if (lg_cmp v7 0) = 0 then
    if v4 = 0 then
      if v5 = 0 then
        none
      else
        some (0, (v0 / v5), σ)
    else
      if v5 = 0 then
        none
      else
        some (0, (v2 / v5), σ)
  else
    if v7 = 0 then
      none
    else
      R nM_lowest k 11 [.long v0, .null, .long v2, .null, .int v4, .long v7, .null, .long (v5 - v5 / v7 * v7), .null, .long (v5 - v5 / v7 * v7), .null] [] σ := (unr_R [11] nM_lowest k 400 11 _ _ _).trans rfl
-- X5_middle
theorem eM_middle (k : Nat) (p1 : Int32) (σ : Sto) : C nM_middle k [.ref 30, .int p1] σ =
  R nM_middle k 6 [.ref 30, .int p1, .int 0, .int 0, .int 0] [] σ := (unr_R [6] nM_middle k 400 0 _ _ _).trans rfl
theorem eM_middle_6 (k : Nat) (v1 : Int32) (v2 : Int32) (v3 : Int32) (v4 : Int32) (σ : Sto) : R nM_middle k 6 [.ref 30, .int v1, .int v2, .int v3, .int v4] [] σ =
  if v4 < (σ 30 0) then
    (C nM_isAt k [.ref 30, .int v4] σ).bind fun r1 =>
      if r1.1 = 0 then
        (C nM_isAt k [.ref 30, .int v4] r1.2.2).bind fun r2 =>
          if r2.1 = 0 then
            R nM_middle k 6 [.ref 30, .int v1, .int (v2 + 0), .int (v3 + 0), .int (v4 + 1)] [] r2.2.2
          else
            R nM_middle k 6 [.ref 30, .int v1, .int (v2 + 0), .int (v3 + 1), .int (v4 + 1)] [] r2.2.2
      else
        if inb (3 * v4) 18 = true then
          (C nM_isAt k [.ref 30, .int v4] r1.2.2).bind fun r2 =>
            if r2.1 = 0 then
              R nM_middle k 6 [.ref 30, .int v1, .int (v2 + (r1.2.2 33 (3 * v4).toNatClampNeg)), .int (v3 + 0), .int (v4 + 1)] [] r2.2.2
            else
              R nM_middle k 6 [.ref 30, .int v1, .int (v2 + (r1.2.2 33 (3 * v4).toNatClampNeg)), .int (v3 + 1), .int (v4 + 1)] [] r2.2.2
        else
          none
  else
    (C nM_in k [.int v1, .int 0, .int 1] σ).bind fun r1 =>
      if r1.1 = 0 then
        some (0, (-4611686018427387904), r1.2.2)
      else
        if 0 < v3 then
          (C nM_lowest k [.long (Int32.toInt64 v2), .long (Int32.toInt64 v3), .int v1] r1.2.2).bind fun r2 =>
            some (0, r2.2.1, r2.2.2)
        else
          some (0, (-4611686018427387904), r1.2.2) := (unr_R [6] nM_middle k 400 6 _ _ _).trans rfl
-- X5_sheetWrong
theorem eM_sheetWrong (k : Nat) (p1 : Int32) (σ : Sto) : C nM_sheetWrong k [.ref 30, .int p1] σ =
  (C nM_in k [.int p1, .int 0, .int 3] σ).bind fun r1 =>
    if r1.1 = 0 then
      some ((-2), 0, r1.2.2)
    else
      if inb p1 4 = true then
        if (r1.2.2 40 p1.toNatClampNeg) = (-1) then
          some ((-11), 0, r1.2.2)
        else
          if inb p1 4 = true then
            if 24 < (r1.2.2 41 p1.toNatClampNeg) then
              some ((-2), 0, r1.2.2)
            else
              some (0, 0, r1.2.2)
          else
            none
      else
        none := (unr_R [] nM_sheetWrong k 400 0 _ _ _).trans rfl
-- X5_unlike
theorem eM_unlike (k : Nat) (p1 : Int32) (σ : Sto) : C nM_unlike k [.ref 30, .int p1] σ =
  (C nM_keeps k [.ref 30] σ).bind fun r1 =>
    R nM_unlike k 6 [.ref 30, .int p1, .int (-1), .int 0] [] r1.2.2 := (unr_R [6] nM_unlike k 400 0 _ _ _).trans rfl
theorem eM_unlike_6 (k : Nat) (v1 : Int32) (v2 : Int32) (v3 : Int32) (σ : Sto) : R nM_unlike k 6 [.ref 30, .int v1, .int v2, .int v3] [] σ =
  if inb v1 4 = true then
    if v3 < (σ 41 v1.toNatClampNeg) then
      if v2 = (-1) then
        if inb ((40 * v1) + v3) 160 = true then
          (C nM_hourOf k [.ref 30] σ).bind fun r1 =>
            if (σ 42 ((40 * v1) + v3).toNatClampNeg) = (r1.1 + 1) then
              R nM_unlike k 6 [.ref 30, .int v1, .int (-1), .int (v3 + 1)] [] r1.2.2
            else
              R nM_unlike k 6 [.ref 30, .int v1, .int v3, .int (v3 + 1)] [] r1.2.2
        else
          none
      else
        (C nM_lays k [.ref 30] σ).bind fun r1 =>
          some (v2, 0, r1.2.2)
    else
      (C nM_lays k [.ref 30] σ).bind fun r1 =>
        some (v2, 0, r1.2.2)
  else
    none := (unr_R [6] nM_unlike k 400 6 _ _ _).trans rfl
-- X5_judge
theorem eM_judge (k : Nat) (p1 : Int32) (σ : Sto) : C nM_judge k [.ref 30, .int p1] σ =
  (C nM_sheetWrong k [.ref 30, .int p1] σ).bind fun r1 =>
    if r1.1 = 0 then
      (C nM_unlike k [.ref 30, .int p1] r1.2.2).bind fun r2 =>
        some (r2.1, 0, r2.2.2)
    else
      some (r1.1, 0, r1.2.2) := (unr_R [] nM_judge k 400 0 _ _ _).trans rfl
-- X5_kinds
theorem eM_kinds (k : Nat) (p1 : Int32) (p2 : Int32) (p3 : Int32) (σ : Sto) : C nM_kinds k [.ref 30, .int p1, .int p2, .int p3] σ =
  (C nM_sheetWrong k [.ref 30, .int p1] σ).bind fun r1 =>
    if r1.1 = 0 then
      (C nM_isOne k [.ref 30, .int p2] r1.2.2).bind fun r2 =>
        if r2.1 = 0 then
          some ((-5), 0, r2.2.2)
        else
          (C nM_in k [.int p3, .int 0, .int 1] r2.2.2).bind fun r3 =>
            if r3.1 = 0 then
              some ((-7), 0, r3.2.2)
            else
              if inb p2 6 = true then
                if inb p2 6 = true then
                  R nM_kinds k 35 [.ref 30, .int p1, .int p2, .int p3, .int r1.1, .int (r3.2.2 31 p2.toNatClampNeg), .int (r3.2.2 32 p2.toNatClampNeg), .int 0, .int 0] [] r3.2.2
                else
                  none
              else
                none
    else
      some (r1.1, 0, r1.2.2) := (unr_R [35, 50] nM_kinds k 400 0 _ _ _).trans rfl
theorem eM_kinds_35 (k : Nat) (v1 : Int32) (v2 : Int32) (v3 : Int32) (v4 : Int32) (v5 : Int32) (v6 : Int32) (v7 : Int32) (v8 : Int32) (σ : Sto) : R nM_kinds k 35 [.ref 30, .int v1, .int v2, .int v3, .int v4, .int v5, .int v6, .int v7, .int v8] [] σ =
  if v3 = 0 then
    if v8 < 6 then
      if v3 = 0 then
        R nM_kinds k 50 [.ref 30, .int v1, .int v2, .int v3, .int v4, .int v5, .int v6, .int v7, .int v8] [.int v8, .int v2, .ref 31] σ
      else
        R nM_kinds k 50 [.ref 30, .int v1, .int v2, .int v3, .int v4, .int v5, .int v6, .int v7, .int v8] [.int v5, .int v2, .ref 31] σ
    else
      if inb v2 6 = true then
        if inb v2 6 = true then
          some (v7, 0, (su (su σ 31 v2.toNatClampNeg v5) 32 v2.toNatClampNeg v6))
        else
          none
      else
        none
  else
    if v8 < 10 then
      if v3 = 0 then
        R nM_kinds k 50 [.ref 30, .int v1, .int v2, .int v3, .int v4, .int v5, .int v6, .int v7, .int v8] [.int v8, .int v2, .ref 31] σ
      else
        R nM_kinds k 50 [.ref 30, .int v1, .int v2, .int v3, .int v4, .int v5, .int v6, .int v7, .int v8] [.int v5, .int v2, .ref 31] σ
    else
      if inb v2 6 = true then
        if inb v2 6 = true then
          some (v7, 0, (su (su σ 31 v2.toNatClampNeg v5) 32 v2.toNatClampNeg v6))
        else
          none
      else
        none := (unr_R [35, 50] nM_kinds k 400 35 _ _ _).trans rfl
theorem eM_kinds_50 (k : Nat) (v1 : Int32) (v2 : Int32) (v3 : Int32) (v4 : Int32) (v5 : Int32) (v6 : Int32) (v7 : Int32) (v8 : Int32) (s0 : Int32) (s1 : Int32) (σ : Sto) : R nM_kinds k 50 [.ref 30, .int v1, .int v2, .int v3, .int v4, .int v5, .int v6, .int v7, .int v8] [.int s0, .int s1, .ref 31] σ =
  if inb s1 6 = true then
    if v3 = 1 then
      if inb v2 6 = true then
        (C nM_unlike k [.ref 30, .int v1] (su (su σ 31 s1.toNatClampNeg s0) 32 v2.toNatClampNeg v8)).bind fun r1 =>
          if r1.1 = (-1) then
            R nM_kinds k 35 [.ref 30, .int v1, .int v2, .int v3, .int v4, .int v5, .int v6, .int (v7 ||| (1 <<< (v8 &&& 31))), .int (v8 + 1)] [] r1.2.2
          else
            R nM_kinds k 35 [.ref 30, .int v1, .int v2, .int v3, .int v4, .int v5, .int v6, .int (v7 ||| 0), .int (v8 + 1)] [] r1.2.2
      else
        none
    else
      if inb v2 6 = true then
        (C nM_unlike k [.ref 30, .int v1] (su (su σ 31 s1.toNatClampNeg s0) 32 v2.toNatClampNeg v6)).bind fun r1 =>
          if r1.1 = (-1) then
            R nM_kinds k 35 [.ref 30, .int v1, .int v2, .int v3, .int v4, .int v5, .int v6, .int (v7 ||| (1 <<< (v8 &&& 31))), .int (v8 + 1)] [] r1.2.2
          else
            R nM_kinds k 35 [.ref 30, .int v1, .int v2, .int v3, .int v4, .int v5, .int v6, .int (v7 ||| 0), .int (v8 + 1)] [] r1.2.2
      else
        none
  else
    none := (unr_R [35, 50] nM_kinds k 400 50 _ _ _).trans rfl
-- X5_places
theorem eM_places (k : Nat) (p1 : Int32) (p2 : Int32) (σ : Sto) : C nM_places k [.ref 30, .int p1, .int p2] σ =
  (C nM_sheetWrong k [.ref 30, .int p1] σ).bind fun r1 =>
    if r1.1 = 0 then
      (C nM_isOne k [.ref 30, .int p2] r1.2.2).bind fun r2 =>
        if r2.1 = 0 then
          some (0, (-4611686018427387904), r2.2.2)
        else
          if inb (3 * p2) 18 = true then
            if (r2.2.2 33 (3 * p2).toNatClampNeg) = (-1) then
              some (0, (-4611686018427387904), r2.2.2)
            else
              R nM_places k 26 [.ref 30, .int p1, .int p2, .int (r2.2.2 33 (3 * p2).toNatClampNeg), .long 0, .null, .int 0] [] r2.2.2
          else
            none
    else
      some (0, (-4611686018427387904), r1.2.2) := (unr_R [26] nM_places k 400 0 _ _ _).trans rfl
theorem eM_places_26 (k : Nat) (v1 : Int32) (v2 : Int32) (v3 : Int32) (v4 : Int64) (v6 : Int32) (σ : Sto) : R nM_places k 26 [.ref 30, .int v1, .int v2, .int v3, .long v4, .null, .int v6] [] σ =
  if v6 < 64 then
    if inb (3 * v2) 18 = true then
      (C nM_unlike k [.ref 30, .int v1] (su σ 33 (3 * v2).toNatClampNeg v6)).bind fun r1 =>
        if r1.1 = (-1) then
          R nM_places k 26 [.ref 30, .int v1, .int v2, .int v3, .long (v4 ||| (1 <<< (Int32.toInt64 v6 &&& 63))), .null, .int (v6 + 1)] [] r1.2.2
        else
          R nM_places k 26 [.ref 30, .int v1, .int v2, .int v3, .long (v4 ||| 0), .null, .int (v6 + 1)] [] r1.2.2
    else
      none
  else
    if inb (3 * v2) 18 = true then
      some (0, v4, (su σ 33 (3 * v2).toNatClampNeg v3))
    else
      none := (unr_R [26] nM_places k 400 26 _ _ _).trans rfl
-- X5_turned
theorem eM_turned (k : Nat) (p1 : Int32) (σ : Sto) : C nM_turned k [.ref 30, .int p1] σ =
  (C nM_sheetWrong k [.ref 30, .int p1] σ).bind fun r1 =>
    if r1.1 = 0 then
      R nM_turned k 12 [.ref 30, .int p1, .int r1.1, .int 0, .int 0] [] r1.2.2
    else
      some (r1.1, 0, r1.2.2) := (unr_R [12] nM_turned k 400 0 _ _ _).trans rfl
theorem eM_turned_12 (k : Nat) (v1 : Int32) (v2 : Int32) (v3 : Int32) (v4 : Int32) (σ : Sto) : R nM_turned k 12 [.ref 30, .int v1, .int v2, .int v3, .int v4] [] σ =
  if v4 < (σ 30 0) then
    if inb ((3 * v4) + 1) 18 = true then
      if inb ((3 * v4) + 1) 18 = true then
        (C nM_unlike k [.ref 30, .int v1] (su σ 33 ((3 * v4) + 1).toNatClampNeg (1 - (σ 33 ((3 * v4) + 1).toNatClampNeg)))).bind fun r1 =>
          if r1.1 = (-1) then
            if inb ((3 * v4) + 1) 18 = true then
              if inb ((3 * v4) + 1) 18 = true then
                R nM_turned k 12 [.ref 30, .int v1, .int v2, .int (v3 ||| (1 <<< (v4 &&& 31))), .int (v4 + 1)] [] (su r1.2.2 33 ((3 * v4) + 1).toNatClampNeg (1 - (r1.2.2 33 ((3 * v4) + 1).toNatClampNeg)))
              else
                none
            else
              none
          else
            if inb ((3 * v4) + 1) 18 = true then
              if inb ((3 * v4) + 1) 18 = true then
                R nM_turned k 12 [.ref 30, .int v1, .int v2, .int (v3 ||| 0), .int (v4 + 1)] [] (su r1.2.2 33 ((3 * v4) + 1).toNatClampNeg (1 - (r1.2.2 33 ((3 * v4) + 1).toNatClampNeg)))
              else
                none
            else
              none
      else
        none
    else
      none
  else
    some (v3, 0, σ) := (unr_R [12] nM_turned k 400 12 _ _ _).trans rfl
-- X5_waits
theorem eM_waits (k : Nat) (p1 : Int32) (p2 : Int32) (p3 : Int32) (σ : Sto) : C nM_waits k [.ref 30, .int p1, .int p2, .int p3] σ =
  (C nM_sheetWrong k [.ref 30, .int p1] σ).bind fun r1 =>
    if r1.1 = 0 then
      (C nM_isOne k [.ref 30, .int p2] r1.2.2).bind fun r2 =>
        if r2.1 = 0 then
          some ((-5), 0, r2.2.2)
        else
          (C nM_in k [.int p3, .int 0, .int 1] r2.2.2).bind fun r3 =>
            if r3.1 = 0 then
              some ((-7), 0, r3.2.2)
            else
              if inb ((3 * p2) + 2) 18 = true then
                R nM_waits k 36 [.ref 30, .int p1, .int p2, .int p3, .int r1.1, .int (r3.2.2 33 ((3 * p2) + 2).toNatClampNeg), .int 0, .int (-1), .int 0, .null] [] r3.2.2
              else
                none
    else
      some (r1.1, 0, r1.2.2) := (unr_R [36] nM_waits k 400 0 _ _ _).trans rfl
theorem eM_waits_36 (k : Nat) (v1 : Int32) (v2 : Int32) (v3 : Int32) (v4 : Int32) (v5 : Int32) (v6 : Int32) (v7 : Int32) (v8 : Int32) (u9 : Value) (σ : Sto) : R nM_waits k 36 [.ref 30, .int v1, .int v2, .int v3, .int v4, .int v5, .int v6, .int v7, .int v8, u9] [] σ =
  if 99 < v8 then
    if inb ((3 * v2) + 2) 18 = true then
      if v3 = 0 then
        some (v6, 0, (su σ 33 ((3 * v2) + 2).toNatClampNeg v5))
      else
        some (v7, 0, (su σ 33 ((3 * v2) + 2).toNatClampNeg v5))
    else
      none
  else
    if inb ((3 * v2) + 2) 18 = true then
      (C nM_unlike k [.ref 30, .int v1] (su σ 33 ((3 * v2) + 2).toNatClampNeg v8)).bind fun r1 =>
        if r1.1 = (-1) then
          if v7 = (-1) then
            R nM_waits k 36 [.ref 30, .int v1, .int v2, .int v3, .int v4, .int v5, .int (v6 + 1), .int v8, .int (v8 + 1), .int 1] [] r1.2.2
          else
            R nM_waits k 36 [.ref 30, .int v1, .int v2, .int v3, .int v4, .int v5, .int (v6 + 1), .int v7, .int (v8 + 1), .int 1] [] r1.2.2
        else
          R nM_waits k 36 [.ref 30, .int v1, .int v2, .int v3, .int v4, .int v5, .int (v6 + 0), .int v7, .int (v8 + 1), .int 0] [] r1.2.2
    else
      none := (unr_R [36] nM_waits k 400 36 _ _ _).trans rfl
-- X5_laws
theorem eM_laws (k : Nat) (p1 : Int32) (σ : Sto) : C nM_laws k [.ref 30, .int p1] σ =
  (C nM_sheetWrong k [.ref 30, .int p1] σ).bind fun r1 =>
    if r1.1 = 0 then
      R nM_laws k 15 [.ref 30, .int p1, .int r1.1, .int (r1.2.2 30 10), .int 0, .int 0] [] r1.2.2
    else
      some (r1.1, 0, r1.2.2) := (unr_R [15] nM_laws k 400 0 _ _ _).trans rfl
theorem eM_laws_15 (k : Nat) (v1 : Int32) (v2 : Int32) (v3 : Int32) (v4 : Int32) (v5 : Int32) (σ : Sto) : R nM_laws k 15 [.ref 30, .int v1, .int v2, .int v3, .int v4, .int v5] [] σ =
  if v5 < (σ 30 9) then
    (C nM_unlike k [.ref 30, .int v1] (su σ 30 10 v5)).bind fun r1 =>
      if r1.1 = (-1) then
        R nM_laws k 15 [.ref 30, .int v1, .int v2, .int v3, .int (v4 ||| (1 <<< (v5 &&& 31))), .int (v5 + 1)] [] r1.2.2
      else
        R nM_laws k 15 [.ref 30, .int v1, .int v2, .int v3, .int (v4 ||| 0), .int (v5 + 1)] [] r1.2.2
  else
    some (v4, 0, (su σ 30 10 v3)) := (unr_R [15] nM_laws k 400 15 _ _ _).trans rfl
-- X5_film
theorem eM_film (k : Nat) (p1 : Int32) (p2 : Int32) (σ : Sto) : C nM_film k [.ref 30, .int p1, .int p2] σ =
  (C nM_in k [.int p1, .int 0, .int 3] σ).bind fun r1 =>
    if r1.1 = 0 then
      some ((-2), 0, r1.2.2)
    else
      (C nM_in k [.int p2, .int 0, .int 24] r1.2.2).bind fun r2 =>
        if r2.1 = 0 then
          some ((-7), 0, r2.2.2)
        else
          if inb p1 4 = true then
            if inb p1 4 = true then
              (C nM_keeps k [.ref 30] (su (su r2.2.2 40 p1.toNatClampNeg 0) 41 p1.toNatClampNeg p2)).bind fun r3 =>
                R nM_film k 28 [.ref 30, .int p1, .int p2, .int 0] [] r3.2.2
            else
              none
          else
            none := (unr_R [28] nM_film k 400 0 _ _ _).trans rfl
theorem eM_film_28 (k : Nat) (v1 : Int32) (v2 : Int32) (v3 : Int32) (σ : Sto) : R nM_film k 28 [.ref 30, .int v1, .int v2, .int v3] [] σ =
  if v3 < 40 then
    if v3 < v2 then
      (C nM_hourOf k [.ref 30] σ).bind fun r1 =>
        if inb ((40 * v1) + v3) 160 = true then
          R nM_film k 28 [.ref 30, .int v1, .int v2, .int (v3 + 1)] [] (su r1.2.2 42 ((40 * v1) + v3).toNatClampNeg (r1.1 + 1))
        else
          none
    else
      if inb ((40 * v1) + v3) 160 = true then
        R nM_film k 28 [.ref 30, .int v1, .int v2, .int (v3 + 1)] [] (su σ 42 ((40 * v1) + v3).toNatClampNeg 0)
      else
        none
  else
    (C nM_lays k [.ref 30] σ).bind fun r1 =>
      some (v2, 0, r1.2.2) := (unr_R [28] nM_film k 400 28 _ _ _).trans rfl
-- X5_gulls
theorem eM_gulls (k : Nat) (p1 : Int32) (σ : Sto) : C nM_gulls k [.ref 30, .int p1] σ =
  (C nM_keeps k [.ref 30] σ).bind fun r1 =>
    R nM_gulls k 11 [.ref 30, .int p1, .long ((Int32.toInt64 p1) + 1), .null, .int 0, .int 0, .null] [] r1.2.2 := (unr_R [11, 20, 25, 31] nM_gulls k 400 0 _ _ _).trans rfl
theorem eM_gulls_11 (k : Nat) (v1 : Int32) (v2 : Int64) (v4 : Int32) (v5 : Int32) (u6 : Value) (σ : Sto) : R nM_gulls k 11 [.ref 30, .int v1, .long v2, .null, .int v4, .int v5, u6] [] σ =
  if v5 < 12 then
    R nM_gulls k 20 [.ref 30, .int v1, .long ((v2 * 48271) - (v2 * 48271) / 2147483647 * 2147483647), .null, .int v4, .int v5, u6] [] σ
  else
    (C nM_overSet k [.ref 30] σ).bind fun r1 =>
      (C nM_lays k [.ref 30] (su r1.2.2 30 31 r1.1)).bind fun r2 =>
        some (v4, 0, r2.2.2) := (unr_R [11, 20, 25, 31] nM_gulls k 400 11 _ _ _).trans rfl
theorem eM_gulls_20 (k : Nat) (v1 : Int32) (v2 : Int64) (v4 : Int32) (v5 : Int32) (u6 : Value) (σ : Sto) : R nM_gulls k 20 [.ref 30, .int v1, .long v2, .null, .int v4, .int v5, u6] [] σ =
  R nM_gulls k 25 [.ref 30, .int v1, .long v2, .null, .int v4, .int v5, .int (Int64.toInt32 (v2 - v2 / 6 * 6))] [] σ := (unr_R [11, 20, 25, 31] nM_gulls k 400 20 _ _ _).trans rfl
theorem eM_gulls_25 (k : Nat) (v1 : Int32) (v2 : Int64) (v4 : Int32) (v5 : Int32) (v6 : Int32) (σ : Sto) : R nM_gulls k 25 [.ref 30, .int v1, .long v2, .null, .int v4, .int v5, .int v6] [] σ =
  R nM_gulls k 31 [.ref 30, .int v1, .long ((v2 * 48271) - (v2 * 48271) / 2147483647 * 2147483647), .null, .int v4, .int v5, .int v6] [] σ := (unr_R [11, 20, 25, 31] nM_gulls k 400 25 _ _ _).trans rfl
theorem eM_gulls_31 (k : Nat) (v1 : Int32) (v2 : Int64) (v4 : Int32) (v5 : Int32) (v6 : Int32) (σ : Sto) : R nM_gulls k 31 [.ref 30, .int v1, .long v2, .null, .int v4, .int v5, .int v6] [] σ =
  if v6 < (σ 30 0) then
    (C nM_isAt k [.ref 30, .int v6] σ).bind fun r1 =>
      if r1.1 = 0 then
        if inb (3 * v6) 18 = true then
          (C nM_hourOf k [.ref 30] (su r1.2.2 33 (3 * v6).toNatClampNeg (-1))).bind fun r2 =>
            if r2.1 = (-1) then
              R nM_gulls k 11 [.ref 30, .int v1, .long v2, .null, .int (v4 + 0), .int (v5 + 1), .int v6] [] r2.2.2
            else
              R nM_gulls k 11 [.ref 30, .int v1, .long v2, .null, .int (v4 + 1), .int (v5 + 1), .int v6] [] r2.2.2
        else
          none
      else
        if inb (3 * v6) 18 = true then
          (C nM_hourOf k [.ref 30] (su r1.2.2 33 (3 * v6).toNatClampNeg (Int64.toInt32 (v2 - v2 / 64 * 64)))).bind fun r2 =>
            if r2.1 = (-1) then
              R nM_gulls k 11 [.ref 30, .int v1, .long v2, .null, .int (v4 + 0), .int (v5 + 1), .int v6] [] r2.2.2
            else
              R nM_gulls k 11 [.ref 30, .int v1, .long v2, .null, .int (v4 + 1), .int (v5 + 1), .int v6] [] r2.2.2
        else
          none
  else
    (C nM_hourOf k [.ref 30] σ).bind fun r1 =>
      if r1.1 = (-1) then
        R nM_gulls k 11 [.ref 30, .int v1, .long v2, .null, .int (v4 + 0), .int (v5 + 1), .int v6] [] r1.2.2
      else
        R nM_gulls k 11 [.ref 30, .int v1, .long v2, .null, .int (v4 + 1), .int (v5 + 1), .int v6] [] r1.2.2 := (unr_R [11, 20, 25, 31] nM_gulls k 400 31 _ _ _).trans rfl
-- X5_drawn
theorem eM_drawn (k : Nat) (p1 : Int32) (p2 : Int32) (σ : Sto) : C nM_drawn k [.ref 30, .int p1, .int p2] σ =
  (C nM_in k [.int p1, .int 0, .int 99999] σ).bind fun r1 =>
    if r1.1 = 0 then
      some ((-2), 0, r1.2.2)
    else
      (C nM_in k [.int p2, .int 0, .int 1] r1.2.2).bind fun r2 =>
        if r2.1 = 0 then
          some ((-2), 0, r2.2.2)
        else
          (C nM_gulls k [.ref 30, .int p1] r2.2.2).bind fun r3 =>
            if p2 = 0 then
              some (r3.1, 0, r3.2.2)
            else
              some ((r3.2.2 30 31), 0, r3.2.2) := (unr_R [] nM_drawn k 400 0 _ _ _).trans rfl
-- X5_odds
theorem eM_odds (k : Nat) (p1 : Int32) (p2 : Int32) (p3 : Int32) (p4 : Int32) (σ : Sto) : C nM_odds k [.ref 30, .int p1, .int p2, .int p3, .int p4] σ =
  (C nM_in k [.int p1, .int 0, .int 99999] σ).bind fun r1 =>
    if r1.1 = 0 then
      some (0, (-4611686018427387904), r1.2.2)
    else
      (C nM_in k [.int p2, .int 1, .int 40] r1.2.2).bind fun r2 =>
        if r2.1 = 0 then
          some (0, (-4611686018427387904), r2.2.2)
        else
          (C nM_in k [.int p3, .int 0, .int 12] r2.2.2).bind fun r3 =>
            if r3.1 = 0 then
              some (0, (-4611686018427387904), r3.2.2)
            else
              (C nM_in k [.int p4, .int 0, .int 1] r3.2.2).bind fun r4 =>
                if r4.1 = 0 then
                  some (0, (-4611686018427387904), r4.2.2)
                else
                  R nM_odds k 26 [.ref 30, .int p1, .int p2, .int p3, .int p4, .long 0, .null, .int 0] [] r4.2.2 := (unr_R [26] nM_odds k 400 0 _ _ _).trans rfl
theorem eM_odds_26 (k : Nat) (v1 : Int32) (v2 : Int32) (v3 : Int32) (v4 : Int32) (v5 : Int64) (v7 : Int32) (σ : Sto) : R nM_odds k 26 [.ref 30, .int v1, .int v2, .int v3, .int v4, .long v5, .null, .int v7] [] σ =
  if v7 < v2 then
    (C nM_gulls k [.ref 30, .int (v1 + v7)] σ).bind fun r1 =>
      if r1.1 < v3 then
        R nM_odds k 26 [.ref 30, .int v1, .int v2, .int v3, .int v4, .long (v5 + 0), .null, .int (v7 + 1)] [] r1.2.2
      else
        R nM_odds k 26 [.ref 30, .int v1, .int v2, .int v3, .int v4, .long (v5 + 1), .null, .int (v7 + 1)] [] r1.2.2
  else
    (C nM_lowest k [.long v5, .long (Int32.toInt64 v2), .int v4] σ).bind fun r1 =>
      some (0, r1.2.1, r1.2.2) := (unr_R [26] nM_odds k 400 26 _ _ _).trans rfl
-- X5_image
theorem eM_image (k : Nat) (σ : Sto) : C nM_image k [.ref 30] σ =
  R nM_image k 5 [.ref 30, .int 0] [] (su σ 30 11 1) := (unr_R [5, 20] nM_image k 400 0 _ _ _).trans rfl
theorem eM_image_5 (k : Nat) (v1 : Int32) (σ : Sto) : R nM_image k 5 [.ref 30, .int v1] [] σ =
  if v1 < 18 then
    if inb v1 18 = true then
      if inb v1 22 = true then
        R nM_image k 5 [.ref 30, .int (v1 + 1)] [] (su σ 38 v1.toNatClampNeg (σ 33 v1.toNatClampNeg))
      else
        none
    else
      none
  else
    R nM_image k 20 [.ref 30, .int 0] [] σ := (unr_R [5, 20] nM_image k 400 5 _ _ _).trans rfl
theorem eM_image_20 (k : Nat) (v1 : Int32) (σ : Sto) : R nM_image k 20 [.ref 30, .int v1] [] σ =
  if v1 < 4 then
    if inb v1 4 = true then
      if inb (18 + v1) 22 = true then
        R nM_image k 20 [.ref 30, .int (v1 + 1)] [] (su σ 38 (18 + v1).toNatClampNeg (σ 34 v1.toNatClampNeg))
      else
        none
    else
      none
  else
    some (((su (su σ 39 (0 : Int32).toNatClampNeg (σ 30 0)) 39 (1 : Int32).toNatClampNeg ((su σ 39 (0 : Int32).toNatClampNeg (σ 30 0)) 30 10)) 30 0), 0, (su (su σ 39 (0 : Int32).toNatClampNeg (σ 30 0)) 39 (1 : Int32).toNatClampNeg ((su σ 39 (0 : Int32).toNatClampNeg (σ 30 0)) 30 10))) := (unr_R [5, 20] nM_image k 400 20 _ _ _).trans rfl
-- X5_back
theorem eM_back (k : Nat) (σ : Sto) : C nM_back k [.ref 30] σ =
  if (σ 30 11) = 0 then
    some ((-3), 0, σ)
  else
    R nM_back k 7 [.ref 30, .int 0] [] σ := (unr_R [7, 22] nM_back k 400 0 _ _ _).trans rfl
theorem eM_back_7 (k : Nat) (v1 : Int32) (σ : Sto) : R nM_back k 7 [.ref 30, .int v1] [] σ =
  if v1 < 18 then
    if inb v1 22 = true then
      if inb v1 18 = true then
        R nM_back k 7 [.ref 30, .int (v1 + 1)] [] (su σ 33 v1.toNatClampNeg (σ 38 v1.toNatClampNeg))
      else
        none
    else
      none
  else
    R nM_back k 22 [.ref 30, .int 0] [] σ := (unr_R [7, 22] nM_back k 400 7 _ _ _).trans rfl
theorem eM_back_22 (k : Nat) (v1 : Int32) (σ : Sto) : R nM_back k 22 [.ref 30, .int v1] [] σ =
  if v1 < 4 then
    if inb (18 + v1) 22 = true then
      if inb v1 4 = true then
        R nM_back k 22 [.ref 30, .int (v1 + 1)] [] (su σ 34 v1.toNatClampNeg (σ 38 (18 + v1).toNatClampNeg))
      else
        none
    else
      none
  else
    some (((su (su σ 30 0 (σ 39 (0 : Int32).toNatClampNeg)) 30 10 ((su σ 30 0 (σ 39 (0 : Int32).toNatClampNeg)) 39 (1 : Int32).toNatClampNeg)) 30 0), 0, (su (su σ 30 0 (σ 39 (0 : Int32).toNatClampNeg)) 30 10 ((su σ 30 0 (σ 39 (0 : Int32).toNatClampNeg)) 39 (1 : Int32).toNatClampNeg))) := (unr_R [7, 22] nM_back k 400 22 _ _ _).trans rfl
-- X5_sheet
theorem eM_sheet (k : Nat) (p1 : Int32) (p2 : Int32) (p3 : Int32) (σ : Sto) : C nM_sheet k [.ref 30, .int p1, .int p2, .int p3] σ =
  (C nM_in k [.int p1, .int 0, .int 3] σ).bind fun r1 =>
    if r1.1 = 0 then
      some ((-2), 0, r1.2.2)
    else
      (C nM_in k [.int p2, .int (-1), .int 2] r1.2.2).bind fun r2 =>
        if r2.1 = 0 then
          some ((-2), 0, r2.2.2)
        else
          if p2 = (-1) then
            if p2 = (-1) then
              R nM_sheet k 25 [.ref 30, .int p1, .int p2, .int p3, .null] [] r2.2.2
            else
              if p3 < 0 then
                some ((-14), 0, r2.2.2)
              else
                R nM_sheet k 25 [.ref 30, .int p1, .int p2, .int p3, .null] [] r2.2.2
          else
            if 40 < p3 then
              some ((-2), 0, r2.2.2)
            else
              if p2 = (-1) then
                R nM_sheet k 25 [.ref 30, .int p1, .int p2, .int p3, .null] [] r2.2.2
              else
                if p3 < 0 then
                  some ((-14), 0, r2.2.2)
                else
                  R nM_sheet k 25 [.ref 30, .int p1, .int p2, .int p3, .null] [] r2.2.2 := (unr_R [25, 42] nM_sheet k 400 0 _ _ _).trans rfl
theorem eM_sheet_25 (k : Nat) (v1 : Int32) (v2 : Int32) (v3 : Int32) (σ : Sto) : R nM_sheet k 25 [.ref 30, .int v1, .int v2, .int v3, .null] [] σ =
  if inb v1 4 = true then
    if v2 = (-1) then
      if inb v1 4 = true then
        R nM_sheet k 42 [.ref 30, .int v1, .int v2, .int v3, .int 0] [] (su (su σ 40 v1.toNatClampNeg v2) 41 v1.toNatClampNeg 0)
      else
        none
    else
      if inb v1 4 = true then
        R nM_sheet k 42 [.ref 30, .int v1, .int v2, .int v3, .int 0] [] (su (su σ 40 v1.toNatClampNeg v2) 41 v1.toNatClampNeg v3)
      else
        none
  else
    none := (unr_R [25, 42] nM_sheet k 400 25 _ _ _).trans rfl
theorem eM_sheet_42 (k : Nat) (v1 : Int32) (v2 : Int32) (v3 : Int32) (v4 : Int32) (σ : Sto) : R nM_sheet k 42 [.ref 30, .int v1, .int v2, .int v3, .int v4] [] σ =
  if v4 < 40 then
    if inb ((40 * v1) + v4) 160 = true then
      R nM_sheet k 42 [.ref 30, .int v1, .int v2, .int v3, .int (v4 + 1)] [] (su σ 42 ((40 * v1) + v4).toNatClampNeg 0)
    else
      none
  else
    some (1, 0, σ) := (unr_R [25, 42] nM_sheet k 400 42 _ _ _).trans rfl
-- X5_cell
set_option maxRecDepth 1000000 in
theorem eM_cell (k : Nat) (p1 : Int32) (p2 : Int32) (p3 : Int32) (σ : Sto) : C nM_cell k [.ref 30, .int p1, .int p2, .int p3] σ =
  (C nM_in k [.int p1, .int 0, .int 3] σ).bind fun r1 =>
    if r1.1 = 0 then
      some ((-2), 0, r1.2.2)
    else
      if inb p1 4 = true then
        if (r1.2.2 40 p1.toNatClampNeg) = (-1) then
          some ((-11), 0, r1.2.2)
        else
          if inb p1 4 = true then
            (C nM_in k [.int p2, .int 0, .int ((r1.2.2 41 p1.toNatClampNeg) - 1)] r1.2.2).bind fun r2 =>
              if r2.1 = 0 then
                some ((-12), 0, r2.2.2)
              else
                if inb p1 4 = true then
                  if (r2.2.2 40 p1.toNatClampNeg) = 0 then
                    if inb ((40 * p1) + p2) 160 = true then
                      some (1, 0, (su r2.2.2 42 ((40 * p1) + p2).toNatClampNeg ((Int32.toInt8 p3).toInt32)))
                    else
                      none
                  else
                    if inb p1 4 = true then
                      if (r2.2.2 40 p1.toNatClampNeg) = 1 then
                        if inb ((40 * p1) + p2) 160 = true then
                          some (1, 0, (su r2.2.2 42 ((40 * p1) + p2).toNatClampNeg ((Int32.toInt16 p3).toInt32)))
                        else
                          none
                      else
                        if inb ((40 * p1) + p2) 160 = true then
                          some (1, 0, (su r2.2.2 42 ((40 * p1) + p2).toNatClampNeg p3))
                        else
                          none
                    else
                      none
                else
                  none
          else
            none
      else
        none := (unr_R [] nM_cell k 400 0 _ _ _).trans rfl
-- X5_copy
set_option maxRecDepth 1000000 in
theorem eM_copy (k : Nat) (p1 : Int32) (p2 : Int32) (p3 : Int32) (p4 : Int32) (p5 : Int32) (σ : Sto) : C nM_copy k [.ref 30, .int p1, .int p2, .int p3, .int p4, .int p5] σ =
  (C nM_in k [.int p1, .int 0, .int 3] σ).bind fun r1 =>
    if r1.1 = 0 then
      R nM_copy k 10 [.ref 30, .int p1, .int p2, .int p3, .int p4, .int p5, .null, .null, .null, .null] [] r1.2.2
    else
      (C nM_in k [.int p3, .int 0, .int 3] r1.2.2).bind fun r2 =>
        if r2.1 = 0 then
          R nM_copy k 10 [.ref 30, .int p1, .int p2, .int p3, .int p4, .int p5, .null, .null, .null, .null] [] r2.2.2
        else
          if inb p1 4 = true then
            if (r2.2.2 40 p1.toNatClampNeg) = (-1) then
              R nM_copy k 24 [.ref 30, .int p1, .int p2, .int p3, .int p4, .int p5, .null, .null, .null, .null] [] r2.2.2
            else
              if inb p3 4 = true then
                if (r2.2.2 40 p3.toNatClampNeg) = (-1) then
                  R nM_copy k 24 [.ref 30, .int p1, .int p2, .int p3, .int p4, .int p5, .null, .null, .null, .null] [] r2.2.2
                else
                  if inb p1 4 = true then
                    if inb p3 4 = true then
                      if (r2.2.2 40 p1.toNatClampNeg) = (r2.2.2 40 p3.toNatClampNeg) then
                        if p5 < 0 then
                          R nM_copy k 71 [.ref 30, .int p1, .int p2, .int p3, .int p4, .int p5, .null, .null, .null, .null] [] r2.2.2
                        else
                          if p2 < 0 then
                            R nM_copy k 71 [.ref 30, .int p1, .int p2, .int p3, .int p4, .int p5, .null, .null, .null, .null] [] r2.2.2
                          else
                            if p4 < 0 then
                              R nM_copy k 71 [.ref 30, .int p1, .int p2, .int p3, .int p4, .int p5, .null, .null, .null, .null] [] r2.2.2
                            else
                              if inb p1 4 = true then
                                if (r2.2.2 41 p1.toNatClampNeg) < p2 then
                                  R nM_copy k 71 [.ref 30, .int p1, .int p2, .int p3, .int p4, .int p5, .null, .null, .null, .null] [] r2.2.2
                                else
                                  if inb p3 4 = true then
                                    if (r2.2.2 41 p3.toNatClampNeg) < p4 then
                                      R nM_copy k 71 [.ref 30, .int p1, .int p2, .int p3, .int p4, .int p5, .null, .null, .null, .null] [] r2.2.2
                                    else
                                      if inb p1 4 = true then
                                        if ((r2.2.2 41 p1.toNatClampNeg) - p2) < p5 then
                                          R nM_copy k 71 [.ref 30, .int p1, .int p2, .int p3, .int p4, .int p5, .null, .null, .null, .null] [] r2.2.2
                                        else
                                          if inb p3 4 = true then
                                            if ((r2.2.2 41 p3.toNatClampNeg) - p4) < p5 then
                                              R nM_copy k 71 [.ref 30, .int p1, .int p2, .int p3, .int p4, .int p5, .null, .null, .null, .null] [] r2.2.2
                                            else
                                              R nM_copy k 87 [.ref 30, .int p1, .int p2, .int p3, .int p4, .int p5, .int ((40 * p1) + p2), .int ((40 * p3) + p4), .int 0, .null] [] r2.2.2
                                          else
                                            none
                                      else
                                        none
                                  else
                                    none
                              else
                                none
                      else
                        some ((-13), 0, r2.2.2)
                    else
                      none
                  else
                    none
              else
                none
          else
            none := (unr_R [10, 24, 71, 87, 100] nM_copy k 400 0 _ _ _).trans rfl
theorem eM_copy_10 (k : Nat) (v1 : Int32) (v2 : Int32) (v3 : Int32) (v4 : Int32) (v5 : Int32) (σ : Sto) : R nM_copy k 10 [.ref 30, .int v1, .int v2, .int v3, .int v4, .int v5, .null, .null, .null, .null] [] σ =
  some ((-2), 0, σ) := (unr_R [10, 24, 71, 87, 100] nM_copy k 400 10 _ _ _).trans rfl
theorem eM_copy_24 (k : Nat) (v1 : Int32) (v2 : Int32) (v3 : Int32) (v4 : Int32) (v5 : Int32) (σ : Sto) : R nM_copy k 24 [.ref 30, .int v1, .int v2, .int v3, .int v4, .int v5, .null, .null, .null, .null] [] σ =
  some ((-11), 0, σ) := (unr_R [10, 24, 71, 87, 100] nM_copy k 400 24 _ _ _).trans rfl
theorem eM_copy_71 (k : Nat) (v1 : Int32) (v2 : Int32) (v3 : Int32) (v4 : Int32) (v5 : Int32) (σ : Sto) : R nM_copy k 71 [.ref 30, .int v1, .int v2, .int v3, .int v4, .int v5, .null, .null, .null, .null] [] σ =
  some ((-12), 0, σ) := (unr_R [10, 24, 71, 87, 100] nM_copy k 400 71 _ _ _).trans rfl
theorem eM_copy_87 (k : Nat) (v1 : Int32) (v2 : Int32) (v3 : Int32) (v4 : Int32) (v5 : Int32) (v6 : Int32) (v7 : Int32) (v8 : Int32) (u9 : Value) (σ : Sto) : R nM_copy k 87 [.ref 30, .int v1, .int v2, .int v3, .int v4, .int v5, .int v6, .int v7, .int v8, u9] [] σ =
  if v8 < v5 then
    if v6 < v7 then
      R nM_copy k 100 [.ref 30, .int v1, .int v2, .int v3, .int v4, .int v5, .int v6, .int v7, .int v8, u9] [.int ((v5 - 1) - v8)] σ
    else
      R nM_copy k 100 [.ref 30, .int v1, .int v2, .int v3, .int v4, .int v5, .int v6, .int v7, .int v8, u9] [.int v8] σ
  else
    some (v5, 0, σ) := (unr_R [10, 24, 71, 87, 100] nM_copy k 400 87 _ _ _).trans rfl
theorem eM_copy_100 (k : Nat) (v1 : Int32) (v2 : Int32) (v3 : Int32) (v4 : Int32) (v5 : Int32) (v6 : Int32) (v7 : Int32) (v8 : Int32) (u9 : Value) (s0 : Int32) (σ : Sto) : R nM_copy k 100 [.ref 30, .int v1, .int v2, .int v3, .int v4, .int v5, .int v6, .int v7, .int v8, u9] [.int s0] σ =
  if inb (v6 + s0) 160 = true then
    if inb (v7 + s0) 160 = true then
      R nM_copy k 87 [.ref 30, .int v1, .int v2, .int v3, .int v4, .int v5, .int v6, .int v7, .int (v8 + 1), .int s0] [] (su σ 42 (v7 + s0).toNatClampNeg (σ 42 (v6 + s0).toNatClampNeg))
    else
      none
  else
    none := (unr_R [10, 24, 71, 87, 100] nM_copy k 400 100 _ _ _).trans rfl
-- X5_peopleBy
theorem eM_peopleBy (k : Nat) (p1 : Int32) (p2 : Int32) (p3 : Int32) (p4 : Int32) (σ : Sto) : C nM_peopleBy k [.ref 30, .int p1, .int p2, .int p3, .int p4] σ =
  (C nM_in k [.int p1, .int 0, .int 3] σ).bind fun r1 =>
    if r1.1 = 0 then
      some ((-2), 0, r1.2.2)
    else
      (C nM_in k [.int p2, .int 0, .int 2] r1.2.2).bind fun r2 =>
        if r2.1 = 0 then
          some ((-2), 0, r2.2.2)
        else
          (C nM_in k [.int p4, .int 0, .int 6] r2.2.2).bind fun r3 =>
            if r3.1 = 0 then
              some ((-2), 0, r3.2.2)
            else
              if inb p1 4 = true then
                if (r3.2.2 40 p1.toNatClampNeg) = (-1) then
                  some ((-11), 0, r3.2.2)
                else
                  if inb p1 4 = true then
                    if (r3.2.2 40 p1.toNatClampNeg) = p2 then
                      R nM_peopleBy k 37 [.ref 30, .int p1, .int p2, .int p3, .int p4, .int 0, .int 0, .null, .null] [] r3.2.2
                    else
                      some ((-13), 0, r3.2.2)
                  else
                    none
              else
                none := (unr_R [37] nM_peopleBy k 400 0 _ _ _).trans rfl
theorem eM_peopleBy_37 (k : Nat) (v1 : Int32) (v2 : Int32) (v3 : Int32) (v4 : Int32) (v5 : Int32) (v6 : Int32) (u7 : Value) (u8 : Value) (σ : Sto) : R nM_peopleBy k 37 [.ref 30, .int v1, .int v2, .int v3, .int v4, .int v5, .int v6, u7, u8] [] σ =
  if v6 < v4 then
    if v3 < 0 then
      some ((-12), 0, σ)
    else
      if (v3 + (2 * v6)) < v3 then
        some ((-12), 0, σ)
      else
        if inb v1 4 = true then
          if ((σ 41 v1.toNatClampNeg) - 2) < (v3 + (2 * v6)) then
            some ((-12), 0, σ)
          else
            if inb ((40 * v1) + (v3 + (2 * v6))) 160 = true then
              if inb (((40 * v1) + (v3 + (2 * v6))) + 1) 160 = true then
                (C nM_traveller k [.ref 30, .int (σ 42 ((40 * v1) + (v3 + (2 * v6))).toNatClampNeg), .int (σ 42 (((40 * v1) + (v3 + (2 * v6))) + 1).toNatClampNeg)] σ).bind fun r1 =>
                  if r1.1 < 0 then
                    R nM_peopleBy k 37 [.ref 30, .int v1, .int v2, .int v3, .int v4, .int (v5 + 0), .int (v6 + 1), .int (v3 + (2 * v6)), .int ((40 * v1) + (v3 + (2 * v6)))] [] r1.2.2
                  else
                    R nM_peopleBy k 37 [.ref 30, .int v1, .int v2, .int v3, .int v4, .int (v5 + 1), .int (v6 + 1), .int (v3 + (2 * v6)), .int ((40 * v1) + (v3 + (2 * v6)))] [] r1.2.2
              else
                none
            else
              none
        else
          none
  else
    some (v5, 0, σ) := (unr_R [37] nM_peopleBy k 400 37 _ _ _).trans rfl
-- X5_isUnder
theorem eM_isUnder (k : Nat) (p1 : Int32) (p2 : Int32) (σ : Sto) : C nM_isUnder k [.int p1, .int p2] σ =
  if p2 = 0 then
    some (1, 0, σ)
  else
    if p1 = p2 then
      some (1, 0, σ)
    else
      if p2 = 1 then
        if p1 = 3 then
          some (1, 0, σ)
        else
          if p2 = 2 then
            if p1 = 4 then
              some (1, 0, σ)
            else
              some (0, 0, σ)
          else
            some (0, 0, σ)
      else
        if p2 = 2 then
          if p1 = 4 then
            some (1, 0, σ)
          else
            some (0, 0, σ)
        else
          some (0, 0, σ) := (unr_R [] nM_isUnder k 400 0 _ _ _).trans rfl
-- X5_taken
theorem eM_taken (k : Nat) (p1 : Int32) (p2 : Int32) (σ : Sto) : C nM_taken k [.ref 30, .int p1, .int p2] σ =
  (C nM_in k [.int p2, .int 0, .int 6] σ).bind fun r1 =>
    if r1.1 = 0 then
      some ((-2), 0, r1.2.2)
    else
      (C nM_in k [.int p1, .int 0, .int 11] r1.2.2).bind fun r2 =>
        if r2.1 = 0 then
          some ((-12), 0, r2.2.2)
        else
          if (p1 - p1 / 6 * 6) < (r2.2.2 30 0) then
            if p1 < 6 then
              if p2 < 6 then
                if inb p1 6 = true then
                  (C nM_isUnder k [.int (r2.2.2 31 p1.toNatClampNeg), .int p2] r2.2.2).bind fun r3 =>
                    if r3.1 = 0 then
                      some ((-13), 0, r3.2.2)
                    else
                      some (p1, 0, r3.2.2)
                else
                  none
              else
                some ((-13), 0, r2.2.2)
            else
              if p2 = 6 then
                if inb ((3 * (p1 - 6)) + 2) 18 = true then
                  some ((r2.2.2 33 ((3 * (p1 - 6)) + 2).toNatClampNeg), 0, r2.2.2)
                else
                  none
              else
                some ((-13), 0, r2.2.2)
          else
            some ((-11), 0, r2.2.2) := (unr_R [] nM_taken k 400 0 _ _ _).trans rfl
