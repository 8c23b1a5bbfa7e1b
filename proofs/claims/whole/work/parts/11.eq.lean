/-! EQUATIONS of the methods 54 .. 103 -/
-- X4_count
theorem eF_count (k : Nat) (p1 : Int32) (σ : Sto) : C nF_count k [.ref 0, .int p1] σ =
  if p1 = 0 then
    some ((σ 12 6), 0, σ)
  else
    if p1 = 1 then
      some ((σ 12 7), 0, σ)
    else
      if p1 = 2 then
        some ((σ 12 10), 0, σ)
      else
        if p1 = 3 then
          some ((σ 2 4), 0, σ)
        else
          if p1 = 4 then
            some ((σ 12 11), 0, σ)
          else
            if p1 = 5 then
              some ((σ 0 7), 0, σ)
            else
              some ((-2), 0, σ) := (unr_R [] nF_count k 400 0 _ _ _).trans rfl
-- X4_bay
theorem eF_bay (k : Nat) (p1 : Int32) (p2 : Int32) (σ : Sto) : C nF_bay k [.ref 0, .int p1, .int p2] σ =
  if p1 = 0 then
    (C nF_within k [.int p2, .int 0, .int 9999] σ).bind fun r1 =>
      if r1.1 = 0 then
        if p1 = 1 then
          (C nF_within k [.int p2, .int 0, .int 99] r1.2.2).bind fun r2 =>
            if r2.1 = 0 then
              some ((-2), 0, r2.2.2)
            else
              some ((r2.2.2 12 8), 0, (su r2.2.2 12 8 p2))
        else
          some ((-2), 0, r1.2.2)
      else
        some ((r1.2.2 12 7), 0, (su r1.2.2 12 7 p2))
  else
    if p1 = 1 then
      (C nF_within k [.int p2, .int 0, .int 99] σ).bind fun r1 =>
        if r1.1 = 0 then
          some ((-2), 0, r1.2.2)
        else
          some ((r1.2.2 12 8), 0, (su r1.2.2 12 8 p2))
    else
      some ((-2), 0, σ) := (unr_R [] nF_bay k 400 0 _ _ _).trans rfl
-- X4_ferry
theorem eF_ferry (k : Nat) (p1 : Int32) (σ : Sto) : C nF_ferry k [.ref 0, .int p1] σ =
  if p1 = 0 then
    some ((σ 12 8), 0, σ)
  else
    if p1 = 1 then
      some ((σ 12 9), 0, σ)
    else
      if p1 = 2 then
        (C nS_choice k [.ref 12] σ).bind fun r1 =>
          some (r1.1, 0, r1.2.2)
      else
        if p1 = 3 then
          (C nS_aloneBits k [.ref 12] σ).bind fun r1 =>
            some (r1.1, 0, r1.2.2)
        else
          if p1 = 4 then
            (C nS_seenBits k [.ref 12] σ).bind fun r1 =>
              some (r1.1, 0, r1.2.2)
          else
            if p1 = 5 then
              (C nS_overBits k [.ref 12] σ).bind fun r1 =>
                some (r1.1, 0, r1.2.2)
            else
              some ((-7), 0, σ) := (unr_R [] nF_ferry k 400 0 _ _ _).trans rfl
-- X4_feed
set_option maxRecDepth 1000000 in
theorem eF_feed (k : Nat) (p1 : Int32) (p2 : Int32) (p3 : Int32) (p4 : Int32) (p5 : Int32) (p6 : Int32) (σ : Sto) : C nF_feed k [.ref 0, .int p1, .int p2, .int p3, .int p4, .int p5, .int p6] σ =
  (C nF_within k [.int p1, .int 1, .int 5] σ).bind fun r1 =>
    if r1.1 = 0 then
      some ((-2), 0, r1.2.2)
    else
      (C nF_isByte k [.int p2] r1.2.2).bind fun r2 =>
        if r2.1 = 0 then
          some ((-2), 0, r2.2.2)
        else
          (C nF_isByte k [.int p3] r2.2.2).bind fun r3 =>
            if r3.1 = 0 then
              some ((-2), 0, r3.2.2)
            else
              (C nF_isByte k [.int p4] r3.2.2).bind fun r4 =>
                if r4.1 = 0 then
                  some ((-2), 0, r4.2.2)
                else
                  (C nF_isByte k [.int p5] r4.2.2).bind fun r5 =>
                    if r5.1 = 0 then
                      some ((-2), 0, r5.2.2)
                    else
                      (C nF_isByte k [.int p6] r5.2.2).bind fun r6 =>
                        if r6.1 = 0 then
                          some ((-2), 0, r6.2.2)
                        else
                          if (160 - (r6.2.2 0 7)) < p1 then
                            some ((-4), 0, r6.2.2)
                          else
                            (C nF_tapeOne k [.ref 0, .int p2] r6.2.2).bind fun r7 =>
                              if 1 < p1 then
                                (C nF_tapeOne k [.ref 0, .int p3] r7.2.2).bind fun r8 =>
                                  R nF_feed k 39 [.ref 0, .int p1, .int p2, .int p3, .int p4, .int p5, .int p6] [] r8.2.2
                              else
                                R nF_feed k 39 [.ref 0, .int p1, .int p2, .int p3, .int p4, .int p5, .int p6] [] r7.2.2 := (unr_R [39] nF_feed k 400 0 _ _ _).trans rfl
theorem eF_feed_39 (k : Nat) (v1 : Int32) (v2 : Int32) (v3 : Int32) (v4 : Int32) (v5 : Int32) (v6 : Int32) (σ : Sto) : R nF_feed k 39 [.ref 0, .int v1, .int v2, .int v3, .int v4, .int v5, .int v6] [] σ =
  if 2 < v1 then
    (C nF_tapeOne k [.ref 0, .int v4] σ).bind fun r1 =>
      if 3 < v1 then
        (C nF_tapeOne k [.ref 0, .int v5] r1.2.2).bind fun r2 =>
          if 4 < v1 then
            (C nF_tapeOne k [.ref 0, .int v6] r2.2.2).bind fun r3 =>
              some ((r3.2.2 0 7), 0, r3.2.2)
          else
            some ((r2.2.2 0 7), 0, r2.2.2)
      else
        if 4 < v1 then
          (C nF_tapeOne k [.ref 0, .int v6] r1.2.2).bind fun r2 =>
            some ((r2.2.2 0 7), 0, r2.2.2)
        else
          some ((r1.2.2 0 7), 0, r1.2.2)
  else
    if 3 < v1 then
      (C nF_tapeOne k [.ref 0, .int v5] σ).bind fun r1 =>
        if 4 < v1 then
          (C nF_tapeOne k [.ref 0, .int v6] r1.2.2).bind fun r2 =>
            some ((r2.2.2 0 7), 0, r2.2.2)
        else
          some ((r1.2.2 0 7), 0, r1.2.2)
    else
      if 4 < v1 then
        (C nF_tapeOne k [.ref 0, .int v6] σ).bind fun r1 =>
          some ((r1.2.2 0 7), 0, r1.2.2)
      else
        some ((σ 0 7), 0, σ) := (unr_R [39] nF_feed k 400 39 _ _ _).trans rfl
-- X4_text
theorem eF_text (k : Nat) (σ : Sto) : C nF_text k [.ref 0] σ =
  if (σ 2 4) < 6 then
    (C nD_faultOf k [.ref 7, .int (σ 0 7)] σ).bind fun r1 =>
      if r1.1 = (-1) then
        some ((((su (su r1.2.2 0 7 0) 2 4 (((su r1.2.2 0 7 0) 2 4) + 1)) 2 4) - 1), 0, (su (su r1.2.2 0 7 0) 2 4 (((su r1.2.2 0 7 0) 2 4) + 1)))
      else
        some (((-100) - r1.1), 0, (su r1.2.2 0 7 0))
  else
    some ((-4), 0, σ) := (unr_R [] nF_text k 400 0 _ _ _).trans rfl
-- X4_force
theorem eF_force (k : Nat) (p1 : Int32) (σ : Sto) : C nF_force k [.ref 0, .int p1] σ =
  (C nF_within k [.int p1, .int 0, .int ((σ 2 4) - 1)] σ).bind fun r1 =>
    if r1.1 = 0 then
      some ((-2), 0, r1.2.2)
    else
      some ((r1.2.2 12 11), 0, (su r1.2.2 12 11 p1)) := (unr_R [] nF_force k 400 0 _ _ _).trans rfl
-- X4_asks
theorem eF_asks (k : Nat) (p1 : Int32) (p2 : Int32) (σ : Sto) : C nF_asks k [.ref 0, .int p1, .int p2] σ =
  (C nF_within k [.int p1, .int 0, .int 2] σ).bind fun r1 =>
    if r1.1 = 0 then
      some ((-1000), 0, r1.2.2)
    else
      (C nS_has k [.ref 12, .long (Int32.toInt64 p2)] r1.2.2).bind fun r2 =>
        if r2.1 = 0 then
          some ((-1000), 0, r2.2.2)
        else
          (C nT_says k [.ref 2, .int p1, .ref 12, .int p2] r2.2.2).bind fun r3 =>
            some (r3.1, 0, r3.2.2) := (unr_R [] nF_asks k 400 0 _ _ _).trans rfl
-- X4_traveller
theorem eF_traveller (k : Nat) (p1 : Int32) (p2 : Int32) (σ : Sto) : C nF_traveller k [.ref 0, .int p1, .int p2] σ =
  (C nS_welcome k [.ref 12, .int p1, .int p2] σ).bind fun r1 =>
    some (r1.1, 0, r1.2.2) := (unr_R [] nF_traveller k 400 0 _ _ _).trans rfl
-- X4_put
theorem eF_put (k : Nat) (p1 : Int32) (p2 : Int32) (p3 : Int32) (σ : Sto) : C nF_put k [.ref 0, .int p1, .int p2, .int p3] σ =
  (C nS_has k [.ref 12, .long (Int32.toInt64 p1)] σ).bind fun r1 =>
    if r1.1 = 0 then
      some ((-5), 0, r1.2.2)
    else
      if p2 = 0 then
        if (r1.2.2 12 9) = p1 then
          R nF_put k 35 [.ref 0, .int p1, .int p2, .int p3, .int (-7)] [] r1.2.2
        else
          (C nF_within k [.int p3, .int (-1), .int 63] r1.2.2).bind fun r2 =>
            if r2.1 = 0 then
              R nF_put k 35 [.ref 0, .int p1, .int p2, .int p3, .int (-7)] [] r2.2.2
            else
              if inb p1 6 = true then
                if inb p1 6 = true then
                  some ((r2.2.2 15 p1.toNatClampNeg), 0, (su r2.2.2 15 p1.toNatClampNeg p3))
                else
                  none
              else
                none
      else
        R nF_put k 35 [.ref 0, .int p1, .int p2, .int p3, .int (-7)] [] r1.2.2 := (unr_R [35, 62] nF_put k 400 0 _ _ _).trans rfl
theorem eF_put_35 (k : Nat) (v1 : Int32) (v2 : Int32) (v3 : Int32) (v4 : Int32) (σ : Sto) : R nF_put k 35 [.ref 0, .int v1, .int v2, .int v3, .int v4] [] σ =
  if v2 = 1 then
    (C nF_within k [.int v3, .int 0, .int 1] σ).bind fun r1 =>
      if r1.1 = 0 then
        R nF_put k 62 [.ref 0, .int v1, .int v2, .int v3, .int v4] [] r1.2.2
      else
        if inb v1 6 = true then
          (C nF_bit k [.int (r1.2.2 16 v1.toNatClampNeg)] r1.2.2).bind fun r2 =>
            if v3 = 1 then
              if inb v1 6 = true ∧ zb 1 = true then
                some (r2.1, 0, (su r2.2.2 16 v1.toNatClampNeg 1))
              else
                none
            else
              if inb v1 6 = true ∧ zb 0 = true then
                some (r2.1, 0, (su r2.2.2 16 v1.toNatClampNeg 0))
              else
                none
        else
          none
  else
    R nF_put k 62 [.ref 0, .int v1, .int v2, .int v3, .int v4] [] σ := (unr_R [35, 62] nF_put k 400 35 _ _ _).trans rfl
theorem eF_put_62 (k : Nat) (v1 : Int32) (v2 : Int32) (v3 : Int32) (v4 : Int32) (σ : Sto) : R nF_put k 62 [.ref 0, .int v1, .int v2, .int v3, .int v4] [] σ =
  if v2 = 2 then
    (C nF_within k [.int v3, .int 0, .int 99] σ).bind fun r1 =>
      if r1.1 = 0 then
        some (v4, 0, r1.2.2)
      else
        if inb v1 6 = true then
          if inb v1 6 = true then
            some ((r1.2.2 17 v1.toNatClampNeg), 0, (su r1.2.2 17 v1.toNatClampNeg v3))
          else
            none
        else
          none
  else
    some (v4, 0, σ) := (unr_R [35, 62] nF_put k 400 62 _ _ _).trans rfl
-- X4_told
set_option maxRecDepth 1000000 in
theorem eF_told (k : Nat) (p1 : Int32) (p2 : Int32) (σ : Sto) : C nF_told k [.ref 0, .int p1, .int p2] σ =
  (C nS_has k [.ref 12, .long (Int32.toInt64 p1)] σ).bind fun r1 =>
    if r1.1 = 0 then
      some ((-5), 0, r1.2.2)
    else
      if p2 = 0 then
        if inb p1 6 = true then
          some ((r1.2.2 15 p1.toNatClampNeg), 0, r1.2.2)
        else
          none
      else
        if p2 = 1 then
          if inb p1 6 = true then
            (C nF_bit k [.int (r1.2.2 16 p1.toNatClampNeg)] r1.2.2).bind fun r2 =>
              some (r2.1, 0, r2.2.2)
          else
            none
        else
          if p2 = 2 then
            if inb p1 6 = true then
              some ((r1.2.2 17 p1.toNatClampNeg), 0, r1.2.2)
            else
              none
          else
            if p2 = 3 then
              if inb p1 6 = true then
                some ((r1.2.2 13 p1.toNatClampNeg), 0, r1.2.2)
              else
                none
            else
              if p2 = 4 then
                if inb p1 6 = true then
                  some ((r1.2.2 14 p1.toNatClampNeg), 0, r1.2.2)
                else
                  none
              else
                if p2 = 5 then
                  (C nS_gapAbout k [.ref 12, .int p1] r1.2.2).bind fun r2 =>
                    some (r2.1, 0, r2.2.2)
                else
                  if p2 = 6 then
                    (C nS_likedHow k [.ref 12, .int p1] r1.2.2).bind fun r2 =>
                      some ((r2.1 + 1000), 0, r2.2.2)
                  else
                    if p2 = 7 then
                      (C nS_walksFar k [.ref 12, .int p1] r1.2.2).bind fun r2 =>
                        some ((r2.1 + 1000), 0, r2.2.2)
                    else
                      if p2 = 8 then
                        (C nS_isAlone k [.ref 12, .int p1] r1.2.2).bind fun r2 =>
                          (C nF_bit k [.int r2.1] r2.2.2).bind fun r3 =>
                            some (r3.1, 0, r3.2.2)
                      else
                        if p2 = 9 then
                          (C nS_farFrom k [.ref 12, .int p1] r1.2.2).bind fun r2 =>
                            some (r2.1, 0, r2.2.2)
                        else
                          some ((-7), 0, r1.2.2) := (unr_R [] nF_told k 400 0 _ _ _).trans rfl
-- X4_hour
theorem eF_hour (k : Nat) (σ : Sto) : C nF_hour k [.ref 0] σ =
  if (σ 12 7) < 9999 then
    (C nS_passHour k [.ref 12] σ).bind fun r1 =>
      some (r1.1, 0, r1.2.2)
  else
    some ((-3), 0, σ) := (unr_R [] nF_hour k 400 0 _ _ _).trans rfl
-- X4_walk
theorem eF_walk (k : Nat) (p1 : Int32) (p2 : Int32) (σ : Sto) : C nF_walk k [.ref 0, .int p1, .int p2] σ =
  (C nS_has k [.ref 12, .long (Int32.toInt64 p1)] σ).bind fun r1 =>
    if r1.1 = 0 then
      some ((-5), 0, r1.2.2)
    else
      (C nF_within k [.int p2, .int (-63), .int 63] r1.2.2).bind fun r2 =>
        if r2.1 = 0 then
          some ((-7), 0, r2.2.2)
        else
          if inb p1 6 = true then
            if (r2.2.2 15 p1.toNatClampNeg) = (-1) then
              some ((-3), 0, r2.2.2)
            else
              (C nS_goOn k [.ref 12, .int p1, .int p2] r2.2.2).bind fun r3 =>
                if inb p1 6 = true then
                  some ((r3.2.2 15 p1.toNatClampNeg), 0, r3.2.2)
                else
                  none
          else
            none := (unr_R [] nF_walk k 400 0 _ _ _).trans rfl
-- X4_run
theorem eF_run (k : Nat) (p1 : Int32) (p2 : Int32) (σ : Sto) : C nF_run k [.ref 0, .int p1, .int p2] σ =
  (C nF_within k [.int p2, .int 0, .int 2] σ).bind fun r1 =>
    (C nS_has k [.ref 12, .long ((Int32.toInt64 p2) - 10)] r1.2.2).bind fun r2 =>
      (C nS_has k [.ref 12, .long ((Int32.toInt64 p2) - 20)] r2.2.2).bind fun r3 =>
        (C nF_within k [.int p1, .int 0, .int 60] r3.2.2).bind fun r4 =>
          if r4.1 = 0 then
            some ((-2), 0, r4.2.2)
          else
            if r1.1 = 0 then
              if r2.1 = 0 then
                if r3.1 = 0 then
                  some ((-2), 0, r4.2.2)
                else
                  (C nS_becomes k [.ref 18, .ref 12] r4.2.2).bind fun r5 =>
                    R nF_run k 45 [.ref 0, .int p1, .int p2, .int r1.1, .int r2.1, .int r3.1, .int 0, .int 0, .int 0, .null] [] r5.2.2
              else
                (C nS_becomes k [.ref 18, .ref 12] r4.2.2).bind fun r5 =>
                  R nF_run k 45 [.ref 0, .int p1, .int p2, .int r1.1, .int r2.1, .int r3.1, .int 0, .int 0, .int 0, .null] [] r5.2.2
            else
              (C nS_becomes k [.ref 18, .ref 12] r4.2.2).bind fun r5 =>
                R nF_run k 45 [.ref 0, .int p1, .int p2, .int r1.1, .int r2.1, .int r3.1, .int 0, .int 0, .int 0, .null] [] r5.2.2 := (unr_R [45] nF_run k 400 0 _ _ _).trans rfl
theorem eF_run_45 (k : Nat) (v1 : Int32) (v2 : Int32) (v3 : Int32) (v4 : Int32) (v5 : Int32) (v6 : Int32) (v7 : Int32) (v8 : Int32) (u9 : Value) (σ : Sto) : R nF_run k 45 [.ref 0, .int v1, .int v2, .int v3, .int v4, .int v5, .int v6, .int v7, .int v8, u9] [] σ =
  if v8 < v1 then
    (C nS_passHour k [.ref 18] σ).bind fun r1 =>
      if r1.1 = (-1) then
        R nF_run k 45 [.ref 0, .int v1, .int v2, .int v3, .int v4, .int v5, .int v6, .int v7, .int (v8 + 1), .int r1.1] [] r1.2.2
      else
        R nF_run k 45 [.ref 0, .int v1, .int v2, .int v3, .int v4, .int v5, .int (v6 + 1), .int (((v7 * 10) + r1.1) + 1), .int (v8 + 1), .int r1.1] [] r1.2.2
  else
    if v4 = 0 then
      if v5 = 0 then
        if v2 = 0 then
          some (v6, 0, σ)
        else
          if v2 = 1 then
            some (v7, 0, σ)
          else
            (C nS_overBits k [.ref 18] σ).bind fun r1 =>
              some (r1.1, 0, r1.2.2)
      else
        if inb (v2 - 20) 6 = true then
          some ((σ 23 (v2 - 20).toNatClampNeg), 0, σ)
        else
          none
    else
      if inb (v2 - 10) 6 = true then
        some ((σ 21 (v2 - 10).toNatClampNeg), 0, σ)
      else
        none := (unr_R [45] nF_run k 400 45 _ _ _).trans rfl
-- X4_when
theorem eF_when (k : Nat) (p1 : Int32) (p2 : Int32) (σ : Sto) : C nF_when k [.ref 0, .int p1, .int p2] σ =
  (C nF_within k [.int p2, .int 0, .int 2] σ).bind fun r1 =>
    if r1.1 = 0 then
      some ((-7), 0, r1.2.2)
    else
      if p2 = 2 then
        (C nS_becomes k [.ref 18, .ref 12] r1.2.2).bind fun r2 =>
          R nF_when k 25 [.ref 0, .int p1, .int p2, .int 0, .null] [] r2.2.2
      else
        (C nS_has k [.ref 12, .long (Int32.toInt64 p1)] r1.2.2).bind fun r2 =>
          if r2.1 = 0 then
            some ((-5), 0, r2.2.2)
          else
            (C nS_becomes k [.ref 18, .ref 12] r2.2.2).bind fun r3 =>
              R nF_when k 25 [.ref 0, .int p1, .int p2, .int 0, .null] [] r3.2.2 := (unr_R [25] nF_when k 400 0 _ _ _).trans rfl
theorem eF_when_25 (k : Nat) (v1 : Int32) (v2 : Int32) (v3 : Int32) (u4 : Value) (σ : Sto) : R nF_when k 25 [.ref 0, .int v1, .int v2, .int v3, u4] [] σ =
  if 60 < v3 then
    some ((-1), 0, σ)
  else
    if v2 = 0 then
      (C nS_isOver k [.ref 18, .int v1] σ).bind fun r1 =>
        if r1.1 = 0 then
          (C nS_passHour k [.ref 18] r1.2.2).bind fun r2 =>
            R nF_when k 25 [.ref 0, .int v1, .int v2, .int (v3 + 1), .int r1.1] [] r2.2.2
        else
          some (v3, 0, r1.2.2)
    else
      if v2 = 1 then
        (C nS_isAlone k [.ref 18, .int v1] σ).bind fun r1 =>
          if r1.1 = 0 then
            (C nS_passHour k [.ref 18] r1.2.2).bind fun r2 =>
              R nF_when k 25 [.ref 0, .int v1, .int v2, .int (v3 + 1), .int r1.1] [] r2.2.2
          else
            some (v3, 0, r1.2.2)
      else
        if (σ 18 8) = 0 then
          (C nS_aloneBits k [.ref 18] σ).bind fun r1 =>
            if r1.1 = 0 then
              some (v3, 0, r1.2.2)
            else
              (C nS_passHour k [.ref 18] r1.2.2).bind fun r2 =>
                R nF_when k 25 [.ref 0, .int v1, .int v2, .int (v3 + 1), .int 0] [] r2.2.2
        else
          (C nS_passHour k [.ref 18] σ).bind fun r1 =>
            R nF_when k 25 [.ref 0, .int v1, .int v2, .int (v3 + 1), .int 0] [] r1.2.2 := (unr_R [25] nF_when k 400 25 _ _ _).trans rfl
-- X4_hide
theorem eF_hide (k : Nat) (p1 : Int32) (p2 : Int32) (σ : Sto) : C nF_hide k [.ref 0, .int p1, .int p2] σ =
  (C nF_within k [.int p1, .int 0, .int 60] σ).bind fun r1 =>
    if r1.1 = 0 then
      some ((-2), 0, r1.2.2)
    else
      (C nF_within k [.int p2, .int 0, .int 1] r1.2.2).bind fun r2 =>
        if r2.1 = 0 then
          some ((-2), 0, r2.2.2)
        else
          (C nS_becomes k [.ref 18, .ref 12] r2.2.2).bind fun r3 =>
            (C nF_fetchedInThought k [.ref 0, .int p1] r3.2.2).bind fun r4 =>
              R nF_hide k 25 [.ref 0, .int p1, .int p2, .int r4.1, .int (-1), .int 0, .null] [] r4.2.2 := (unr_R [25] nF_hide k 400 0 _ _ _).trans rfl
theorem eF_hide_25 (k : Nat) (v1 : Int32) (v2 : Int32) (v3 : Int32) (v4 : Int32) (v5 : Int32) (u6 : Value) (σ : Sto) : R nF_hide k 25 [.ref 0, .int v1, .int v2, .int v3, .int v4, .int v5, u6] [] σ =
  if v5 < (σ 12 6) then
    (C nS_isSeen k [.ref 12, .int v5] σ).bind fun r1 =>
      if r1.1 = 0 then
        R nF_hide k 25 [.ref 0, .int v1, .int v2, .int v3, .int v4, .int (v5 + 1), u6] [] r1.2.2
      else
        (C nS_becomes k [.ref 18, .ref 12] r1.2.2).bind fun r2 =>
          if inb v5 6 = true ∧ zb 1 = true then
            (C nF_fetchedInThought k [.ref 0, .int v1] (su r2.2.2 22 v5.toNatClampNeg 1)).bind fun r3 =>
              if v3 < r3.1 then
                R nF_hide k 25 [.ref 0, .int v1, .int v2, .int r3.1, .int v5, .int (v5 + 1), .int r3.1] [] r3.2.2
              else
                R nF_hide k 25 [.ref 0, .int v1, .int v2, .int v3, .int v4, .int (v5 + 1), .int r3.1] [] r3.2.2
          else
            none
  else
    if v2 = 0 then
      some (v4, 0, σ)
    else
      some (v3, 0, σ) := (unr_R [25] nF_hide k 400 25 _ _ _).trans rfl
-- X4_stand
theorem eF_stand (k : Nat) (p1 : Int32) (p2 : Int32) (σ : Sto) : C nF_stand k [.ref 0, .int p1, .int p2] σ =
  (C nS_has k [.ref 12, .long (Int32.toInt64 p1)] σ).bind fun r1 =>
    if r1.1 = 0 then
      some ((-5), 0, r1.2.2)
    else
      (C nF_within k [.int p2, .int 0, .int 1] r1.2.2).bind fun r2 =>
        if r2.1 = 0 then
          some ((-7), 0, r2.2.2)
        else
          if (r2.2.2 12 9) = p1 then
            some ((-3), 0, r2.2.2)
          else
            R nF_stand k 28 [.ref 0, .int p1, .int p2, .int (-1), .int 61, .int 0, .null] [] r2.2.2 := (unr_R [28] nF_stand k 400 0 _ _ _).trans rfl
theorem eF_stand_28 (k : Nat) (v1 : Int32) (v2 : Int32) (v3 : Int32) (v4 : Int32) (v5 : Int32) (u6 : Value) (σ : Sto) : R nF_stand k 28 [.ref 0, .int v1, .int v2, .int v3, .int v4, .int v5, u6] [] σ =
  if v5 < 64 then
    (C nS_becomes k [.ref 18, .ref 12] σ).bind fun r1 =>
      if inb v1 6 = true then
        if inb v1 6 = true ∧ zb 0 = true then
          (C nF_hoursTillOver k [.ref 0, .int v1, .int (v4 - 1)] (su (su r1.2.2 21 v1.toNatClampNeg v5) 22 v1.toNatClampNeg 0)).bind fun r2 =>
            if r2.1 = (-1) then
              R nF_stand k 28 [.ref 0, .int v1, .int v2, .int v3, .int v4, .int (v5 + 1), .int r2.1] [] r2.2.2
            else
              R nF_stand k 28 [.ref 0, .int v1, .int v2, .int v5, .int r2.1, .int (v5 + 1), .int r2.1] [] r2.2.2
        else
          none
      else
        none
  else
    if v2 = 0 then
      some (v3, 0, σ)
    else
      if v3 = (-1) then
        some (v3, 0, σ)
      else
        some (v4, 0, σ) := (unr_R [28] nF_stand k 400 28 _ _ _).trans rfl
-- X4_apart
theorem eF_apart (k : Nat) (p1 : Int32) (p2 : Int32) (σ : Sto) : C nF_apart k [.ref 0, .int p1, .int p2] σ =
  (C nS_has k [.ref 12, .long (Int32.toInt64 p1)] σ).bind fun r1 =>
    if r1.1 = 0 then
      some ((-5), 0, r1.2.2)
    else
      (C nF_within k [.int p2, .int 0, .int 1] r1.2.2).bind fun r2 =>
        if r2.1 = 0 then
          some ((-7), 0, r2.2.2)
        else
          (C nS_isSeen k [.ref 12, .int p1] r2.2.2).bind fun r3 =>
            if r3.1 = 0 then
              some ((-1), 0, r3.2.2)
            else
              if inb p1 6 = true then
                (C nS_becomes k [.ref 18, .ref 12] r3.2.2).bind fun r4 =>
                  R nF_apart k 35 [.ref 0, .int p1, .int p2, .int (r3.2.2 15 p1.toNatClampNeg), .int 0] [] r4.2.2
              else
                none := (unr_R [35] nF_apart k 400 0 _ _ _).trans rfl
theorem eF_apart_35 (k : Nat) (v1 : Int32) (v2 : Int32) (v3 : Int32) (v4 : Int32) (σ : Sto) : R nF_apart k 35 [.ref 0, .int v1, .int v2, .int v3, .int v4] [] σ =
  if v4 < 64 then
    (C nF_wouldBeAlone k [.ref 0, .int v1, .int (v3 - v4)] σ).bind fun r1 =>
      if r1.1 = 0 then
        (C nF_wouldBeAlone k [.ref 0, .int v1, .int (v3 + v4)] r1.2.2).bind fun r2 =>
          if r2.1 = 0 then
            R nF_apart k 35 [.ref 0, .int v1, .int v2, .int v3, .int (v4 + 1)] [] r2.2.2
          else
            if v2 = 0 then
              some (v4, 0, r2.2.2)
            else
              some ((v3 + v4), 0, r2.2.2)
      else
        if v2 = 0 then
          some (v4, 0, r1.2.2)
        else
          some ((v3 - v4), 0, r1.2.2)
  else
    some ((-1), 0, σ) := (unr_R [35] nF_apart k 400 35 _ _ _).trans rfl
-- X4_breakwater
theorem eF_breakwater (k : Nat) (p1 : Int32) (σ : Sto) : C nF_breakwater k [.ref 0, .int p1] σ =
  (C nF_within k [.int p1, .int 0, .int 1] σ).bind fun r1 =>
    if r1.1 = 0 then
      some ((-2), 0, r1.2.2)
    else
      (C nS_seenBits k [.ref 12] r1.2.2).bind fun r2 =>
        R nF_breakwater k 15 [.ref 0, .int p1, .int r2.1, .int r2.1, .int 0, .null] [] r2.2.2 := (unr_R [15] nF_breakwater k 400 0 _ _ _).trans rfl
theorem eF_breakwater_15 (k : Nat) (v1 : Int32) (v2 : Int32) (v3 : Int32) (v4 : Int32) (u5 : Value) (σ : Sto) : R nF_breakwater k 15 [.ref 0, .int v1, .int v2, .int v3, .int v4, u5] [] σ =
  if v4 < v2 then
    if (v4 &&& (v2 ^^^ (-1))) = 0 then
      (C nJ6_bitCount k [.int v4] σ).bind fun r1 =>
        (C nJ6_bitCount k [.int v3] r1.2.2).bind fun r2 =>
          if r1.1 < r2.1 then
            (C nF_othersAloneWithout k [.ref 0, .int v4] r2.2.2).bind fun r3 =>
              if r3.1 = 0 then
                R nF_breakwater k 15 [.ref 0, .int v1, .int v2, .int v3, .int (v4 + 1), .int 1] [] r3.2.2
              else
                R nF_breakwater k 15 [.ref 0, .int v1, .int v2, .int v4, .int (v4 + 1), .int 1] [] r3.2.2
          else
            R nF_breakwater k 15 [.ref 0, .int v1, .int v2, .int v3, .int (v4 + 1), .int 1] [] r2.2.2
    else
      R nF_breakwater k 15 [.ref 0, .int v1, .int v2, .int v3, .int (v4 + 1), .int 0] [] σ
  else
    if v1 = 0 then
      some (v3, 0, σ)
    else
      (C nJ6_bitCount k [.int v3] σ).bind fun r1 =>
        some (r1.1, 0, r1.2.2) := (unr_R [15] nF_breakwater k 400 15 _ _ _).trans rfl
-- X4_gap
theorem eF_gap (k : Nat) (p1 : Int32) (σ : Sto) : C nF_gap k [.ref 0, .int p1] σ =
  (C nF_within k [.int p1, .int 0, .int 1] σ).bind fun r1 =>
    if r1.1 = 0 then
      some ((-2), 0, r1.2.2)
    else
      R nF_gap k 13 [.ref 0, .int p1, .int (-1), .int (-1), .int 0, .null] [] r1.2.2 := (unr_R [13, 20] nF_gap k 400 0 _ _ _).trans rfl
theorem eF_gap_13 (k : Nat) (v1 : Int32) (v2 : Int32) (v3 : Int32) (v4 : Int32) (u5 : Value) (σ : Sto) : R nF_gap k 13 [.ref 0, .int v1, .int v2, .int v3, .int v4, u5] [] σ =
  if v4 < (σ 12 6) then
    R nF_gap k 20 [.ref 0, .int v1, .int v2, .int v3, .int v4, .int 0] [] σ
  else
    if v1 = 0 then
      some (v2, 0, σ)
    else
      some (v3, 0, σ) := (unr_R [13, 20] nF_gap k 400 13 _ _ _).trans rfl
theorem eF_gap_20 (k : Nat) (v1 : Int32) (v2 : Int32) (v3 : Int32) (v4 : Int32) (v5 : Int32) (σ : Sto) : R nF_gap k 20 [.ref 0, .int v1, .int v2, .int v3, .int v4, .int v5] [] σ =
  if v5 < (σ 12 6) then
    (C nS_areNeighbours k [.ref 12, .int v4, .int v5] σ).bind fun r1 =>
      if r1.1 = 0 then
        R nF_gap k 20 [.ref 0, .int v1, .int v2, .int v3, .int v4, .int (v5 + 1)] [] r1.2.2
      else
        if inb v5 6 = true then
          if inb v4 6 = true then
            if v3 < ((r1.2.2 15 v5.toNatClampNeg) - (r1.2.2 15 v4.toNatClampNeg)) then
              if inb v5 6 = true then
                if inb v4 6 = true then
                  R nF_gap k 20 [.ref 0, .int v1, .int ((10 * v4) + v5), .int ((r1.2.2 15 v5.toNatClampNeg) - (r1.2.2 15 v4.toNatClampNeg)), .int v4, .int (v5 + 1)] [] r1.2.2
                else
                  none
              else
                none
            else
              R nF_gap k 20 [.ref 0, .int v1, .int v2, .int v3, .int v4, .int (v5 + 1)] [] r1.2.2
          else
            none
        else
          none
  else
    R nF_gap k 13 [.ref 0, .int v1, .int v2, .int v3, .int (v4 + 1), .int v5] [] σ := (unr_R [13, 20] nF_gap k 400 20 _ _ _).trans rfl
-- X4_middle
theorem eF_middle (k : Nat) (p1 : Int32) (σ : Sto) : C nF_middle k [.ref 0, .int p1] σ =
  R nF_middle k 6 [.ref 0, .int p1, .long 0, .null, .long 0, .null, .int 0] [] σ := (unr_R [6] nF_middle k 400 0 _ _ _).trans rfl
theorem eF_middle_6 (k : Nat) (v1 : Int32) (v2 : Int64) (v4 : Int64) (v6 : Int32) (σ : Sto) : R nF_middle k 6 [.ref 0, .int v1, .long v2, .null, .long v4, .null, .int v6] [] σ =
  if v6 < (σ 12 6) then
    if inb v6 6 = true then
      if (σ 15 v6.toNatClampNeg) = (-1) then
        R nF_middle k 6 [.ref 0, .int v1, .long v2, .null, .long v4, .null, .int (v6 + 1)] [] σ
      else
        if inb v6 6 = true then
          R nF_middle k 6 [.ref 0, .int v1, .long (v2 + (Int32.toInt64 (σ 15 v6.toNatClampNeg))), .null, .long (v4 + 1), .null, .int (v6 + 1)] [] σ
        else
          none
    else
      none
  else
    (C nF_fraction k [.long v2, .long v4, .int v1] σ).bind fun r1 =>
      some (0, r1.2.1, r1.2.2) := (unr_R [6] nF_middle k 400 6 _ _ _).trans rfl
-- X4_judge
theorem eF_judge (k : Nat) (p1 : Int32) (σ : Sto) : C nF_judge k [.ref 0, .int p1] σ =
  (C nF_refusalToJudge k [.ref 0, .int p1] σ).bind fun r1 =>
    if r1.1 = 0 then
      (C nS_becomes k [.ref 18, .ref 12] r1.2.2).bind fun r2 =>
        (C nF_firstOtherwise k [.ref 0, .int p1] r2.2.2).bind fun r3 =>
          some (r3.1, 0, r3.2.2)
    else
      some (r1.1, 0, r1.2.2) := (unr_R [] nF_judge k 400 0 _ _ _).trans rfl
-- X4_kinds
theorem eF_kinds (k : Nat) (p1 : Int32) (p2 : Int32) (p3 : Int32) (σ : Sto) : C nF_kinds k [.ref 0, .int p1, .int p2, .int p3] σ =
  (C nF_refusalToJudge k [.ref 0, .int p1] σ).bind fun r1 =>
    if r1.1 = 0 then
      (C nS_has k [.ref 12, .long (Int32.toInt64 p2)] r1.2.2).bind fun r2 =>
        if r2.1 = 0 then
          some ((-5), 0, r2.2.2)
        else
          (C nF_within k [.int p3, .int 0, .int 1] r2.2.2).bind fun r3 =>
            if r3.1 = 0 then
              some ((-7), 0, r3.2.2)
            else
              if p3 = 0 then
                R nF_kinds k 33 [.ref 0, .int p1, .int p2, .int p3, .int r1.1, .int 6, .int 0, .int 0] [] r3.2.2
              else
                R nF_kinds k 33 [.ref 0, .int p1, .int p2, .int p3, .int r1.1, .int 10, .int 0, .int 0] [] r3.2.2
    else
      some (r1.1, 0, r1.2.2) := (unr_R [33] nF_kinds k 400 0 _ _ _).trans rfl
theorem eF_kinds_33 (k : Nat) (v1 : Int32) (v2 : Int32) (v3 : Int32) (v4 : Int32) (v5 : Int32) (v6 : Int32) (v7 : Int32) (σ : Sto) : R nF_kinds k 33 [.ref 0, .int v1, .int v2, .int v3, .int v4, .int v5, .int v6, .int v7] [] σ =
  if v7 < v5 then
    (C nS_becomes k [.ref 18, .ref 12] σ).bind fun r1 =>
      if v3 = 0 then
        if inb v2 6 = true then
          (C nF_firstOtherwise k [.ref 0, .int v1] (su r1.2.2 19 v2.toNatClampNeg v7)).bind fun r2 =>
            if r2.1 = (-1) then
              R nF_kinds k 33 [.ref 0, .int v1, .int v2, .int v3, .int v4, .int v5, .int (v6 ||| (1 <<< (v7 &&& 31))), .int (v7 + 1)] [] r2.2.2
            else
              R nF_kinds k 33 [.ref 0, .int v1, .int v2, .int v3, .int v4, .int v5, .int v6, .int (v7 + 1)] [] r2.2.2
        else
          none
      else
        if inb v2 6 = true then
          (C nF_firstOtherwise k [.ref 0, .int v1] (su r1.2.2 20 v2.toNatClampNeg v7)).bind fun r2 =>
            if r2.1 = (-1) then
              R nF_kinds k 33 [.ref 0, .int v1, .int v2, .int v3, .int v4, .int v5, .int (v6 ||| (1 <<< (v7 &&& 31))), .int (v7 + 1)] [] r2.2.2
            else
              R nF_kinds k 33 [.ref 0, .int v1, .int v2, .int v3, .int v4, .int v5, .int v6, .int (v7 + 1)] [] r2.2.2
        else
          none
  else
    some (v6, 0, σ) := (unr_R [33] nF_kinds k 400 33 _ _ _).trans rfl
-- X4_places
theorem eF_places (k : Nat) (p1 : Int32) (p2 : Int32) (σ : Sto) : C nF_places k [.ref 0, .int p1, .int p2] σ =
  (C nF_refusalToJudge k [.ref 0, .int p1] σ).bind fun r1 =>
    if r1.1 = 0 then
      (C nS_has k [.ref 12, .long (Int32.toInt64 p2)] r1.2.2).bind fun r2 =>
        if r2.1 = 0 then
          some (0, (-4611686018427387904), r2.2.2)
        else
          if inb p2 6 = true then
            if (r2.2.2 15 p2.toNatClampNeg) = (-1) then
              some (0, (-4611686018427387904), r2.2.2)
            else
              R nF_places k 23 [.ref 0, .int p1, .int p2, .long 0, .null, .int 0] [] r2.2.2
          else
            none
    else
      some (0, (-4611686018427387904), r1.2.2) := (unr_R [23] nF_places k 400 0 _ _ _).trans rfl
theorem eF_places_23 (k : Nat) (v1 : Int32) (v2 : Int32) (v3 : Int64) (v5 : Int32) (σ : Sto) : R nF_places k 23 [.ref 0, .int v1, .int v2, .long v3, .null, .int v5] [] σ =
  if v5 < 64 then
    (C nS_becomes k [.ref 18, .ref 12] σ).bind fun r1 =>
      if inb v2 6 = true then
        (C nF_firstOtherwise k [.ref 0, .int v1] (su r1.2.2 21 v2.toNatClampNeg v5)).bind fun r2 =>
          if r2.1 = (-1) then
            R nF_places k 23 [.ref 0, .int v1, .int v2, .long (v3 ||| (1 <<< (Int32.toInt64 v5 &&& 63))), .null, .int (v5 + 1)] [] r2.2.2
          else
            R nF_places k 23 [.ref 0, .int v1, .int v2, .long v3, .null, .int (v5 + 1)] [] r2.2.2
      else
        none
  else
    some (0, v3, σ) := (unr_R [23] nF_places k 400 23 _ _ _).trans rfl
-- X4_turned
theorem eF_turned (k : Nat) (p1 : Int32) (σ : Sto) : C nF_turned k [.ref 0, .int p1] σ =
  (C nF_refusalToJudge k [.ref 0, .int p1] σ).bind fun r1 =>
    if r1.1 = 0 then
      R nF_turned k 12 [.ref 0, .int p1, .int r1.1, .int 0, .int 0] [] r1.2.2
    else
      some (r1.1, 0, r1.2.2) := (unr_R [12] nF_turned k 400 0 _ _ _).trans rfl
theorem eF_turned_12 (k : Nat) (v1 : Int32) (v2 : Int32) (v3 : Int32) (v4 : Int32) (σ : Sto) : R nF_turned k 12 [.ref 0, .int v1, .int v2, .int v3, .int v4] [] σ =
  if v4 < (σ 12 6) then
    (C nS_becomes k [.ref 18, .ref 12] σ).bind fun r1 =>
      if inb v4 6 = true then
        if (r1.2.2 16 v4.toNatClampNeg) = 0 then
          if inb v4 6 = true ∧ zb 1 = true then
            (C nF_firstOtherwise k [.ref 0, .int v1] (su r1.2.2 22 v4.toNatClampNeg 1)).bind fun r2 =>
              if r2.1 = (-1) then
                R nF_turned k 12 [.ref 0, .int v1, .int v2, .int (v3 ||| (1 <<< (v4 &&& 31))), .int (v4 + 1)] [] r2.2.2
              else
                R nF_turned k 12 [.ref 0, .int v1, .int v2, .int v3, .int (v4 + 1)] [] r2.2.2
          else
            none
        else
          if inb v4 6 = true ∧ zb 0 = true then
            (C nF_firstOtherwise k [.ref 0, .int v1] (su r1.2.2 22 v4.toNatClampNeg 0)).bind fun r2 =>
              if r2.1 = (-1) then
                R nF_turned k 12 [.ref 0, .int v1, .int v2, .int (v3 ||| (1 <<< (v4 &&& 31))), .int (v4 + 1)] [] r2.2.2
              else
                R nF_turned k 12 [.ref 0, .int v1, .int v2, .int v3, .int (v4 + 1)] [] r2.2.2
          else
            none
      else
        none
  else
    some (v3, 0, σ) := (unr_R [12] nF_turned k 400 12 _ _ _).trans rfl
-- X4_waits
theorem eF_waits (k : Nat) (p1 : Int32) (p2 : Int32) (p3 : Int32) (σ : Sto) : C nF_waits k [.ref 0, .int p1, .int p2, .int p3] σ =
  (C nF_refusalToJudge k [.ref 0, .int p1] σ).bind fun r1 =>
    if r1.1 = 0 then
      (C nS_has k [.ref 12, .long (Int32.toInt64 p2)] r1.2.2).bind fun r2 =>
        if r2.1 = 0 then
          some ((-5), 0, r2.2.2)
        else
          (C nF_within k [.int p3, .int 0, .int 1] r2.2.2).bind fun r3 =>
            if r3.1 = 0 then
              some ((-7), 0, r3.2.2)
            else
              R nF_waits k 29 [.ref 0, .int p1, .int p2, .int p3, .int r1.1, .int 0, .int (-1), .int 99] [] r3.2.2
    else
      some (r1.1, 0, r1.2.2) := (unr_R [29] nF_waits k 400 0 _ _ _).trans rfl
theorem eF_waits_29 (k : Nat) (v1 : Int32) (v2 : Int32) (v3 : Int32) (v4 : Int32) (v5 : Int32) (v6 : Int32) (v7 : Int32) (σ : Sto) : R nF_waits k 29 [.ref 0, .int v1, .int v2, .int v3, .int v4, .int v5, .int v6, .int v7] [] σ =
  if v7 < 0 then
    if v3 = 0 then
      some (v5, 0, σ)
    else
      some (v6, 0, σ)
  else
    (C nS_becomes k [.ref 18, .ref 12] σ).bind fun r1 =>
      if inb v2 6 = true then
        (C nF_firstOtherwise k [.ref 0, .int v1] (su r1.2.2 23 v2.toNatClampNeg v7)).bind fun r2 =>
          if r2.1 = (-1) then
            R nF_waits k 29 [.ref 0, .int v1, .int v2, .int v3, .int v4, .int (v5 + 1), .int v7, .int (v7 + (-1))] [] r2.2.2
          else
            R nF_waits k 29 [.ref 0, .int v1, .int v2, .int v3, .int v4, .int v5, .int v6, .int (v7 + (-1))] [] r2.2.2
      else
        none := (unr_R [29] nF_waits k 400 29 _ _ _).trans rfl
-- X4_laws
theorem eF_laws (k : Nat) (p1 : Int32) (σ : Sto) : C nF_laws k [.ref 0, .int p1] σ =
  (C nF_refusalToJudge k [.ref 0, .int p1] σ).bind fun r1 =>
    if r1.1 = 0 then
      R nF_laws k 12 [.ref 0, .int p1, .int r1.1, .int 0, .int 0] [] r1.2.2
    else
      some (r1.1, 0, r1.2.2) := (unr_R [12] nF_laws k 400 0 _ _ _).trans rfl
theorem eF_laws_12 (k : Nat) (v1 : Int32) (v2 : Int32) (v3 : Int32) (v4 : Int32) (σ : Sto) : R nF_laws k 12 [.ref 0, .int v1, .int v2, .int v3, .int v4] [] σ =
  if v4 < (σ 2 4) then
    (C nS_becomes k [.ref 18, .ref 12] σ).bind fun r1 =>
      (C nF_firstOtherwise k [.ref 0, .int v1] (su r1.2.2 18 11 v4)).bind fun r2 =>
        if r2.1 = (-1) then
          R nF_laws k 12 [.ref 0, .int v1, .int v2, .int (v3 ||| (1 <<< (v4 &&& 31))), .int (v4 + 1)] [] r2.2.2
        else
          R nF_laws k 12 [.ref 0, .int v1, .int v2, .int v3, .int (v4 + 1)] [] r2.2.2
  else
    some (v3, 0, σ) := (unr_R [12] nF_laws k 400 12 _ _ _).trans rfl
-- X4_film
theorem eF_film (k : Nat) (p1 : Int32) (p2 : Int32) (σ : Sto) : C nF_film k [.ref 0, .int p1, .int p2] σ =
  (C nH_has k [.ref 8, .int p1] σ).bind fun r1 =>
    if r1.1 = 0 then
      some ((-2), 0, r1.2.2)
    else
      (C nF_within k [.int p2, .int 0, .int 24] r1.2.2).bind fun r2 =>
        if r2.1 = 0 then
          some ((-7), 0, r2.2.2)
        else
          (C nH_renew k [.ref 8, .int p1, .int 0, .int p2] r2.2.2).bind fun r3 =>
            (C nS_becomes k [.ref 18, .ref 12] r3.2.2).bind fun r4 =>
              R nF_film k 27 [.ref 0, .int p1, .int p2, .int 0] [] r4.2.2 := (unr_R [27] nF_film k 400 0 _ _ _).trans rfl
theorem eF_film_27 (k : Nat) (v1 : Int32) (v2 : Int32) (v3 : Int32) (σ : Sto) : R nF_film k 27 [.ref 0, .int v1, .int v2, .int v3] [] σ =
  if v3 < v2 then
    (C nS_passHour k [.ref 18] σ).bind fun r1 =>
      (C nH_write k [.ref 8, .int v1, .int v3, .int (r1.1 + 1)] r1.2.2).bind fun r2 =>
        R nF_film k 27 [.ref 0, .int v1, .int v2, .int (v3 + 1)] [] r2.2.2
  else
    some (v2, 0, σ) := (unr_R [27] nF_film k 400 27 _ _ _).trans rfl
-- X4_drawn
theorem eF_drawn (k : Nat) (p1 : Int32) (p2 : Int32) (σ : Sto) : C nF_drawn k [.ref 0, .int p1, .int p2] σ =
  (C nF_within k [.int p1, .int 0, .int 99999] σ).bind fun r1 =>
    if r1.1 = 0 then
      some ((-2), 0, r1.2.2)
    else
      (C nF_within k [.int p2, .int 0, .int 1] r1.2.2).bind fun r2 =>
        if r2.1 = 0 then
          some ((-2), 0, r2.2.2)
        else
          (C nF_fetchedAmongGulls k [.ref 0, .int p1] r2.2.2).bind fun r3 =>
            if p2 = 0 then
              some (r3.1, 0, r3.2.2)
            else
              (C nS_overBits k [.ref 18] r3.2.2).bind fun r4 =>
                some (r4.1, 0, r4.2.2) := (unr_R [] nF_drawn k 400 0 _ _ _).trans rfl
-- X4_odds
theorem eF_odds (k : Nat) (p1 : Int32) (p2 : Int32) (p3 : Int32) (p4 : Int32) (σ : Sto) : C nF_odds k [.ref 0, .int p1, .int p2, .int p3, .int p4] σ =
  (C nF_within k [.int p1, .int 0, .int 99999] σ).bind fun r1 =>
    if r1.1 = 0 then
      some (0, (-4611686018427387904), r1.2.2)
    else
      (C nF_within k [.int p2, .int 1, .int 40] r1.2.2).bind fun r2 =>
        if r2.1 = 0 then
          some (0, (-4611686018427387904), r2.2.2)
        else
          (C nF_within k [.int p3, .int 0, .int 12] r2.2.2).bind fun r3 =>
            if r3.1 = 0 then
              some (0, (-4611686018427387904), r3.2.2)
            else
              R nF_odds k 21 [.ref 0, .int p1, .int p2, .int p3, .int p4, .int 0, .int 0] [] r3.2.2 := (unr_R [21] nF_odds k 400 0 _ _ _).trans rfl
theorem eF_odds_21 (k : Nat) (v1 : Int32) (v2 : Int32) (v3 : Int32) (v4 : Int32) (v5 : Int32) (v6 : Int32) (σ : Sto) : R nF_odds k 21 [.ref 0, .int v1, .int v2, .int v3, .int v4, .int v5, .int v6] [] σ =
  if v6 < v2 then
    (C nF_fetchedAmongGulls k [.ref 0, .int (v1 + v6)] σ).bind fun r1 =>
      if r1.1 < v3 then
        R nF_odds k 21 [.ref 0, .int v1, .int v2, .int v3, .int v4, .int v5, .int (v6 + 1)] [] r1.2.2
      else
        R nF_odds k 21 [.ref 0, .int v1, .int v2, .int v3, .int v4, .int (v5 + 1), .int (v6 + 1)] [] r1.2.2
  else
    (C nF_fraction k [.long (Int32.toInt64 v5), .long (Int32.toInt64 v2), .int v4] σ).bind fun r1 =>
      some (0, r1.2.1, r1.2.2) := (unr_R [21] nF_odds k 400 21 _ _ _).trans rfl
-- X4_image
theorem eF_image (k : Nat) (σ : Sto) : C nF_image k [.ref 0] σ =
  (C nS_becomes k [.ref 24, .ref 12] σ).bind fun r1 =>
    some (((su r1.2.2 0 8 1) 12 6), 0, (su r1.2.2 0 8 1)) := (unr_R [] nF_image k 400 0 _ _ _).trans rfl
-- X4_back
theorem eF_back (k : Nat) (σ : Sto) : C nF_back k [.ref 0] σ =
  if (σ 0 8) = 0 then
    some ((-3), 0, σ)
  else
    (C nS_becomes k [.ref 12, .ref 24] σ).bind fun r1 =>
      some ((r1.2.2 12 6), 0, r1.2.2) := (unr_R [] nF_back k 400 0 _ _ _).trans rfl
-- X4_sheet
theorem eF_sheet (k : Nat) (p1 : Int32) (p2 : Int32) (p3 : Int32) (σ : Sto) : C nF_sheet k [.ref 0, .int p1, .int p2, .int p3] σ =
  (C nH_has k [.ref 8, .int p1] σ).bind fun r1 =>
    if r1.1 = 0 then
      some ((-2), 0, r1.2.2)
    else
      (C nF_within k [.int p2, .int (-1), .int 2] r1.2.2).bind fun r2 =>
        if r2.1 = 0 then
          some ((-2), 0, r2.2.2)
        else
          if p2 = (-1) then
            (C nH_renew k [.ref 8, .int p1, .int (-1), .int 0] r2.2.2).bind fun r3 =>
              some (1, 0, r3.2.2)
          else
            if 40 < p3 then
              some ((-2), 0, r2.2.2)
            else
              if p3 < 0 then
                some ((-14), 0, r2.2.2)
              else
                (C nH_renew k [.ref 8, .int p1, .int p2, .int p3] r2.2.2).bind fun r3 =>
                  some (1, 0, r3.2.2) := (unr_R [] nF_sheet k 400 0 _ _ _).trans rfl
-- X4_cell
theorem eF_cell (k : Nat) (p1 : Int32) (p2 : Int32) (p3 : Int32) (σ : Sto) : C nF_cell k [.ref 0, .int p1, .int p2, .int p3] σ =
  (C nH_has k [.ref 8, .int p1] σ).bind fun r1 =>
    if r1.1 = 0 then
      some ((-2), 0, r1.2.2)
    else
      if inb p1 4 = true then
        if (r1.2.2 10 p1.toNatClampNeg) = (-1) then
          some ((-11), 0, r1.2.2)
        else
          if inb p1 4 = true then
            (C nF_within k [.int p2, .int 0, .int ((r1.2.2 11 p1.toNatClampNeg) - 1)] r1.2.2).bind fun r2 =>
              if r2.1 = 0 then
                some ((-12), 0, r2.2.2)
              else
                (C nH_write k [.ref 8, .int p1, .int p2, .int p3] r2.2.2).bind fun r3 =>
                  some (1, 0, r3.2.2)
          else
            none
      else
        none := (unr_R [] nF_cell k 400 0 _ _ _).trans rfl
-- X4_copy
set_option maxRecDepth 1000000 in
theorem eF_copy (k : Nat) (p1 : Int32) (p2 : Int32) (p3 : Int32) (p4 : Int32) (p5 : Int32) (σ : Sto) : C nF_copy k [.ref 0, .int p1, .int p2, .int p3, .int p4, .int p5] σ =
  (C nH_has k [.ref 8, .int p1] σ).bind fun r1 =>
    if r1.1 = 0 then
      some ((-2), 0, r1.2.2)
    else
      (C nH_has k [.ref 8, .int p3] r1.2.2).bind fun r2 =>
        if r2.1 = 0 then
          some ((-2), 0, r2.2.2)
        else
          if inb p1 4 = true then
            if (r2.2.2 10 p1.toNatClampNeg) = (-1) then
              some ((-11), 0, r2.2.2)
            else
              if inb p3 4 = true then
                if (r2.2.2 10 p3.toNatClampNeg) = (-1) then
                  some ((-11), 0, r2.2.2)
                else
                  if inb p1 4 = true then
                    if inb p3 4 = true then
                      if (r2.2.2 10 p1.toNatClampNeg) = (r2.2.2 10 p3.toNatClampNeg) then
                        if p5 < 0 then
                          some ((-12), 0, r2.2.2)
                        else
                          (C nH_holds k [.ref 8, .int p1, .long (Int32.toInt64 p2), .int p5] r2.2.2).bind fun r3 =>
                            if r3.1 = 0 then
                              some ((-12), 0, r3.2.2)
                            else
                              (C nH_holds k [.ref 8, .int p3, .long (Int32.toInt64 p4), .int p5] r3.2.2).bind fun r4 =>
                                if r4.1 = 0 then
                                  some ((-12), 0, r4.2.2)
                                else
                                  (C nH_carry k [.ref 8, .int p1, .int p2, .int p3, .int p4, .int p5] r4.2.2).bind fun r5 =>
                                    some (p5, 0, r5.2.2)
                      else
                        some ((-13), 0, r2.2.2)
                    else
                      none
                  else
                    none
              else
                none
          else
            none := (unr_R [] nF_copy k 400 0 _ _ _).trans rfl
-- X4_peopleBy
theorem eF_peopleBy (k : Nat) (p1 : Int32) (p2 : Int32) (p3 : Int32) (p4 : Int32) (σ : Sto) : C nF_peopleBy k [.ref 0, .int p1, .int p2, .int p3, .int p4] σ =
  (C nH_has k [.ref 8, .int p1] σ).bind fun r1 =>
    if r1.1 = 0 then
      some ((-2), 0, r1.2.2)
    else
      (C nF_within k [.int p2, .int 0, .int 2] r1.2.2).bind fun r2 =>
        if r2.1 = 0 then
          some ((-2), 0, r2.2.2)
        else
          (C nF_within k [.int p4, .int 0, .int 6] r2.2.2).bind fun r3 =>
            if r3.1 = 0 then
              some ((-2), 0, r3.2.2)
            else
              if inb p1 4 = true then
                if (r3.2.2 10 p1.toNatClampNeg) = (-1) then
                  some ((-11), 0, r3.2.2)
                else
                  if inb p1 4 = true then
                    if (r3.2.2 10 p1.toNatClampNeg) = p2 then
                      R nF_peopleBy k 39 [.ref 0, .int p1, .int p2, .int p3, .int p4, .int 0, .int 0, .null, .null, .null] [] r3.2.2
                    else
                      some ((-13), 0, r3.2.2)
                  else
                    none
              else
                none := (unr_R [39] nF_peopleBy k 400 0 _ _ _).trans rfl
theorem eF_peopleBy_39 (k : Nat) (v1 : Int32) (v2 : Int32) (v3 : Int32) (v4 : Int32) (v5 : Int32) (v6 : Int32) (u7 : Value) (u9 : Value) (σ : Sto) : R nF_peopleBy k 39 [.ref 0, .int v1, .int v2, .int v3, .int v4, .int v5, .int v6, u7, .null, u9] [] σ =
  if v6 < v4 then
    (C nH_holds k [.ref 8, .int v1, .long ((Int32.toInt64 v3) + (2 * (Int32.toInt64 v6))), .int 2] σ).bind fun r1 =>
      if r1.1 = 0 then
        some ((-12), 0, r1.2.2)
      else
        (C nH_read k [.ref 8, .int v1, .int (Int64.toInt32 ((Int32.toInt64 v3) + (2 * (Int32.toInt64 v6))))] r1.2.2).bind fun r2 =>
          (C nH_read k [.ref 8, .int v1, .int ((Int64.toInt32 ((Int32.toInt64 v3) + (2 * (Int32.toInt64 v6)))) + 1)] r2.2.2).bind fun r3 =>
            (C nS_welcome k [.ref 12, .int r2.1, .int r3.1] r3.2.2).bind fun r4 =>
              if r4.1 < 0 then
                R nF_peopleBy k 39 [.ref 0, .int v1, .int v2, .int v3, .int v4, .int v5, .int (v6 + 1), .long ((Int32.toInt64 v3) + (2 * (Int32.toInt64 v6))), .null, .int (Int64.toInt32 ((Int32.toInt64 v3) + (2 * (Int32.toInt64 v6))))] [] r4.2.2
              else
                R nF_peopleBy k 39 [.ref 0, .int v1, .int v2, .int v3, .int v4, .int (v5 + 1), .int (v6 + 1), .long ((Int32.toInt64 v3) + (2 * (Int32.toInt64 v6))), .null, .int (Int64.toInt32 ((Int32.toInt64 v3) + (2 * (Int32.toInt64 v6))))] [] r4.2.2
  else
    some (v5, 0, σ) := (unr_R [39] nF_peopleBy k 400 39 _ _ _).trans rfl
-- X4_taken
set_option maxRecDepth 1000000 in
theorem eF_taken (k : Nat) (p1 : Int32) (p2 : Int32) (σ : Sto) : C nF_taken k [.ref 0, .int p1, .int p2] σ =
  (C nF_within k [.int p2, .int 0, .int 6] σ).bind fun r1 =>
    if r1.1 = 0 then
      some ((-2), 0, r1.2.2)
    else
      (C nF_within k [.int p1, .int 0, .int 11] r1.2.2).bind fun r2 =>
        if r2.1 = 0 then
          some ((-12), 0, r2.2.2)
        else
          if p1 < 6 then
            (C nS_has k [.ref 12, .long (Int32.toInt64 (p1 - p1 / 6 * 6))] r2.2.2).bind fun r3 =>
              if r3.1 = 0 then
                some ((-11), 0, r3.2.2)
              else
                if inb (p1 - p1 / 6 * 6) 6 = true then
                  (C nF_isOfKind k [.int (r3.2.2 13 (p1 - p1 / 6 * 6).toNatClampNeg), .int p2] r3.2.2).bind fun r4 =>
                    if r4.1 = 0 then
                      some ((-13), 0, r4.2.2)
                    else
                      some ((p1 - p1 / 6 * 6), 0, r4.2.2)
                else
                  none
          else
            (C nS_has k [.ref 12, .long (Int32.toInt64 (p1 - p1 / 6 * 6))] r2.2.2).bind fun r3 =>
              if r3.1 = 0 then
                some ((-11), 0, r3.2.2)
              else
                if p2 = 6 then
                  if inb (p1 - p1 / 6 * 6) 6 = true then
                    some ((r3.2.2 17 (p1 - p1 / 6 * 6).toNatClampNeg), 0, r3.2.2)
                  else
                    none
                else
                  some ((-13), 0, r3.2.2) := (unr_R [] nF_taken k 400 0 _ _ _).trans rfl
-- X4_within
theorem eF_within (k : Nat) (p1 : Int32) (p2 : Int32) (p3 : Int32) (σ : Sto) : C nF_within k [.int p1, .int p2, .int p3] σ =
  if p1 < p2 then
    some (0, 0, σ)
  else
    if p3 < p1 then
      some (0, 0, σ)
    else
      some (1, 0, σ) := (unr_R [] nF_within k 400 0 _ _ _).trans rfl
-- X4_isByte
theorem eF_isByte (k : Nat) (p1 : Int32) (σ : Sto) : C nF_isByte k [.int p1] σ =
  (C nF_within k [.int p1, .int 0, .int 255] σ).bind fun r1 =>
    if nok 1 r1.1 = true then
      some (r1.1, 0, r1.2.2)
    else
      none := (unr_R [] nF_isByte k 400 0 _ _ _).trans rfl
-- X4_bit
theorem eF_bit (k : Nat) (p1 : Int32) (σ : Sto) : C nF_bit k [.int p1] σ =
  if p1 = 0 then
    some (0, 0, σ)
  else
    some (1, 0, σ) := (unr_R [] nF_bit k 400 0 _ _ _).trans rfl
-- X4_tapeOne
theorem eF_tapeOne (k : Nat) (p1 : Int32) (σ : Sto) : C nF_tapeOne k [.ref 0, .int p1] σ =
  if (σ 0 7) < 160 then
    if inb (σ 0 7) 160 = true then
      some (0, 0, (su (su σ 1 (σ 0 7).toNatClampNeg p1) 0 7 (((su σ 1 (σ 0 7).toNatClampNeg p1) 0 7) + 1)))
    else
      none
  else
    some (0, 0, σ) := (unr_R [] nF_tapeOne k 400 0 _ _ _).trans rfl
-- X4_isOfKind
theorem eF_isOfKind (k : Nat) (p1 : Int32) (p2 : Int32) (σ : Sto) : C nF_isOfKind k [.int p1, .int p2] σ =
  if p2 = 0 then
    some (1, 0, σ)
  else
    if p1 = p2 then
      some (1, 0, σ)
    else
      if p2 = 1 then
        if p1 = 3 then
          some (1, 0, σ)
        else
          if p2 = 2 then
            if p1 = 4 then
              some (1, 0, σ)
            else
              some (0, 0, σ)
          else
            some (0, 0, σ)
      else
        if p2 = 2 then
          if p1 = 4 then
            some (1, 0, σ)
          else
            some (0, 0, σ)
        else
          some (0, 0, σ) := (unr_R [] nF_isOfKind k 400 0 _ _ _).trans rfl
-- X4_fetchedInThought
theorem eF_fetchedInThought (k : Nat) (p1 : Int32) (σ : Sto) : C nF_fetchedInThought k [.ref 0, .int p1] σ =
  R nF_fetchedInThought k 4 [.ref 0, .int p1, .int 0, .int 0] [] σ := (unr_R [4] nF_fetchedInThought k 400 0 _ _ _).trans rfl
theorem eF_fetchedInThought_4 (k : Nat) (v1 : Int32) (v2 : Int32) (v3 : Int32) (σ : Sto) : R nF_fetchedInThought k 4 [.ref 0, .int v1, .int v2, .int v3] [] σ =
  if v3 < v1 then
    (C nS_passHour k [.ref 18] σ).bind fun r1 =>
      if r1.1 = (-1) then
        R nF_fetchedInThought k 4 [.ref 0, .int v1, .int v2, .int (v3 + 1)] [] r1.2.2
      else
        R nF_fetchedInThought k 4 [.ref 0, .int v1, .int (v2 + 1), .int (v3 + 1)] [] r1.2.2
  else
    some (v2, 0, σ) := (unr_R [4] nF_fetchedInThought k 400 4 _ _ _).trans rfl
-- X4_hoursTillOver
theorem eF_hoursTillOver (k : Nat) (p1 : Int32) (p2 : Int32) (σ : Sto) : C nF_hoursTillOver k [.ref 0, .int p1, .int p2] σ =
  R nF_hoursTillOver k 2 [.ref 0, .int p1, .int p2, .int 0] [] σ := (unr_R [2] nF_hoursTillOver k 400 0 _ _ _).trans rfl
theorem eF_hoursTillOver_2 (k : Nat) (v1 : Int32) (v2 : Int32) (v3 : Int32) (σ : Sto) : R nF_hoursTillOver k 2 [.ref 0, .int v1, .int v2, .int v3] [] σ =
  if v2 < v3 then
    some ((-1), 0, σ)
  else
    (C nS_isOver k [.ref 18, .int v1] σ).bind fun r1 =>
      if r1.1 = 0 then
        if v3 < v2 then
          (C nS_passHour k [.ref 18] r1.2.2).bind fun r2 =>
            R nF_hoursTillOver k 2 [.ref 0, .int v1, .int v2, .int (v3 + 1)] [] r2.2.2
        else
          R nF_hoursTillOver k 2 [.ref 0, .int v1, .int v2, .int (v3 + 1)] [] r1.2.2
      else
        some (v3, 0, r1.2.2) := (unr_R [2] nF_hoursTillOver k 400 2 _ _ _).trans rfl
-- X4_wouldBeAlone
theorem eF_wouldBeAlone (k : Nat) (p1 : Int32) (p2 : Int32) (σ : Sto) : C nF_wouldBeAlone k [.ref 0, .int p1, .int p2] σ =
  (C nF_within k [.int p2, .int 0, .int 63] σ).bind fun r1 =>
    if r1.1 = 0 then
      some (0, 0, r1.2.2)
    else
      if inb p1 6 = true then
        (C nS_isAlone k [.ref 18, .int p1] (su r1.2.2 21 p1.toNatClampNeg p2)).bind fun r2 =>
          if nok 1 r2.1 = true then
            some (r2.1, 0, r2.2.2)
          else
            none
      else
        none := (unr_R [] nF_wouldBeAlone k 400 0 _ _ _).trans rfl
-- X4_othersAloneWithout
theorem eF_othersAloneWithout (k : Nat) (p1 : Int32) (σ : Sto) : C nF_othersAloneWithout k [.ref 0, .int p1] σ =
  (C nS_becomes k [.ref 18, .ref 12] σ).bind fun r1 =>
    R nF_othersAloneWithout k 7 [.ref 0, .int p1, .int 0] [] r1.2.2 := (unr_R [7] nF_othersAloneWithout k 400 0 _ _ _).trans rfl
theorem eF_othersAloneWithout_7 (k : Nat) (v1 : Int32) (v2 : Int32) (σ : Sto) : R nF_othersAloneWithout k 7 [.ref 0, .int v1, .int v2] [] σ =
  if v2 < (σ 12 6) then
    if ((v1 >>> (v2 &&& 31)) &&& 1) = 1 then
      if inb v2 6 = true ∧ zb 1 = true then
        R nF_othersAloneWithout k 7 [.ref 0, .int v1, .int (v2 + 1)] [] (su σ 22 v2.toNatClampNeg 1)
      else
        none
    else
      R nF_othersAloneWithout k 7 [.ref 0, .int v1, .int (v2 + 1)] [] σ
  else
    (C nS_aloneBits k [.ref 18] σ).bind fun r1 =>
      (C nS_seenBits k [.ref 18] r1.2.2).bind fun r2 =>
        if r1.1 = r2.1 then
          some (1, 0, r2.2.2)
        else
          some (0, 0, r2.2.2) := (unr_R [7] nF_othersAloneWithout k 400 7 _ _ _).trans rfl
-- X4_refusalToJudge
theorem eF_refusalToJudge (k : Nat) (p1 : Int32) (σ : Sto) : C nF_refusalToJudge k [.ref 0, .int p1] σ =
  (C nH_has k [.ref 8, .int p1] σ).bind fun r1 =>
    if r1.1 = 0 then
      some ((-2), 0, r1.2.2)
    else
      if inb p1 4 = true then
        if (r1.2.2 10 p1.toNatClampNeg) = (-1) then
          some ((-11), 0, r1.2.2)
        else
          if inb p1 4 = true then
            if 24 < (r1.2.2 11 p1.toNatClampNeg) then
              some ((-2), 0, r1.2.2)
            else
              some (0, 0, r1.2.2)
          else
            none
      else
        none := (unr_R [] nF_refusalToJudge k 400 0 _ _ _).trans rfl
-- X4_firstOtherwise
theorem eF_firstOtherwise (k : Nat) (p1 : Int32) (σ : Sto) : C nF_firstOtherwise k [.ref 0, .int p1] σ =
  R nF_firstOtherwise k 2 [.ref 0, .int p1, .int 0] [] σ := (unr_R [2] nF_firstOtherwise k 400 0 _ _ _).trans rfl
theorem eF_firstOtherwise_2 (k : Nat) (v1 : Int32) (v2 : Int32) (σ : Sto) : R nF_firstOtherwise k 2 [.ref 0, .int v1, .int v2] [] σ =
  if inb v1 4 = true then
    if v2 < (σ 11 v1.toNatClampNeg) then
      (C nS_passHour k [.ref 18] σ).bind fun r1 =>
        (C nH_read k [.ref 8, .int v1, .int v2] r1.2.2).bind fun r2 =>
          if (r1.1 + 1) = r2.1 then
            R nF_firstOtherwise k 2 [.ref 0, .int v1, .int (v2 + 1)] [] r2.2.2
          else
            some (v2, 0, r2.2.2)
    else
      some ((-1), 0, σ)
  else
    none := (unr_R [2] nF_firstOtherwise k 400 2 _ _ _).trans rfl
-- X4_fetchedAmongGulls
theorem eF_fetchedAmongGulls (k : Nat) (p1 : Int32) (σ : Sto) : C nF_fetchedAmongGulls k [.ref 0, .int p1] σ =
  (C nS_becomes k [.ref 18, .ref 12] σ).bind fun r1 =>
    R nF_fetchedAmongGulls k 14 [.ref 0, .int p1, .long ((Int32.toInt64 p1) + 1), .null, .int 0, .int 0, .null] [] r1.2.2 := (unr_R [14, 50] nF_fetchedAmongGulls k 400 0 _ _ _).trans rfl
theorem eF_fetchedAmongGulls_14 (k : Nat) (v1 : Int32) (v2 : Int64) (v4 : Int32) (v5 : Int32) (u6 : Value) (σ : Sto) : R nF_fetchedAmongGulls k 14 [.ref 0, .int v1, .long v2, .null, .int v4, .int v5, u6] [] σ =
  if v5 < 12 then
    (C nF_lotAfter k [.long v2] σ).bind fun r1 =>
      (C nF_lotAfter k [.long r1.2.1] r1.2.2).bind fun r2 =>
        (C nS_has k [.ref 18, .long (Int32.toInt64 (Int64.toInt32 (r1.2.1 - r1.2.1 / 6 * 6)))] r2.2.2).bind fun r3 =>
          if r3.1 = 0 then
            R nF_fetchedAmongGulls k 50 [.ref 0, .int v1, .long r2.2.1, .null, .int v4, .int v5, .int (Int64.toInt32 (r1.2.1 - r1.2.1 / 6 * 6))] [] r3.2.2
          else
            if inb (Int64.toInt32 (r1.2.1 - r1.2.1 / 6 * 6)) 6 = true then
              if (r3.2.2 21 (Int64.toInt32 (r1.2.1 - r1.2.1 / 6 * 6)).toNatClampNeg) = (-1) then
                R nF_fetchedAmongGulls k 50 [.ref 0, .int v1, .long r2.2.1, .null, .int v4, .int v5, .int (Int64.toInt32 (r1.2.1 - r1.2.1 / 6 * 6))] [] r3.2.2
              else
                if inb (Int64.toInt32 (r1.2.1 - r1.2.1 / 6 * 6)) 6 = true then
                  R nF_fetchedAmongGulls k 50 [.ref 0, .int v1, .long r2.2.1, .null, .int v4, .int v5, .int (Int64.toInt32 (r1.2.1 - r1.2.1 / 6 * 6))] [] (su r3.2.2 21 (Int64.toInt32 (r1.2.1 - r1.2.1 / 6 * 6)).toNatClampNeg (Int64.toInt32 (r2.2.1 - r2.2.1 / 64 * 64)))
                else
                  none
            else
              none
  else
    some (v4, 0, σ) := (unr_R [14, 50] nF_fetchedAmongGulls k 400 14 _ _ _).trans rfl
theorem eF_fetchedAmongGulls_50 (k : Nat) (v1 : Int32) (v2 : Int64) (v4 : Int32) (v5 : Int32) (v6 : Int32) (σ : Sto) : R nF_fetchedAmongGulls k 50 [.ref 0, .int v1, .long v2, .null, .int v4, .int v5, .int v6] [] σ =
  (C nS_passHour k [.ref 18] σ).bind fun r1 =>
    if r1.1 = (-1) then
      R nF_fetchedAmongGulls k 14 [.ref 0, .int v1, .long v2, .null, .int v4, .int (v5 + 1), .int v6] [] r1.2.2
    else
      R nF_fetchedAmongGulls k 14 [.ref 0, .int v1, .long v2, .null, .int (v4 + 1), .int (v5 + 1), .int v6] [] r1.2.2 := (unr_R [14, 50] nF_fetchedAmongGulls k 400 50 _ _ _).trans rfl
-- X4_lotAfter
theorem eF_lotAfter (k : Nat) (p1 : Int64) (σ : Sto) : C nF_lotAfter k [.long p1] σ =
  some (0, ((p1 * 48271) - (p1 * 48271) / 2147483647 * 2147483647), σ) := (unr_R [] nF_lotAfter k 400 0 _ _ _).trans rfl
-- X4_fraction
theorem eF_fraction (k : Nat) (p1 : Int64) (p2 : Int64) (p3 : Int32) (σ : Sto) : C nF_fraction k [.long p1, .long p2, .int p3] σ =
  if (lg_cmp p2 1) < 0 then
    some (0, (-4611686018427387904), σ)
  else
    (C nF_within k [.int p3, .int 0, .int 1] σ).bind fun r1 =>
      if r1.1 = 0 then
        some (0, (-4611686018427387904), r1.2.2)
      else
        R nF_fraction k 17 [.long p1, .null, .long p2, .null, .int p3, .long p2, .null, .long p1, .null, .int 0, .null, .null] [] r1.2.2 := (unr_R [17] nF_fraction k 400 0 _ _ _).trans rfl
set_option maxRecDepth 1000000 in
theorem eF_fraction_17 (k : Nat) (v0 : Int64) (v2 : Int64) (v4 : Int32) (v5 : Int64) (v7 : Int64) (v9 : Int32) (u10 : Value) (σ : Sto) : R nF_fraction k 17 [.long v0, .null, .long v2, .null, .int v4, .long v5, .null, .long v7, .null, .int v9, u10, .null] [] σ =
  if (lg_cmp (Int32.toInt64 v9) 100) < 0 then
    if (lg_cmp v7 0) = 0 then
      if (lg_cmp v5 0) = 0 then
        some (0, (-4611686018427387904), σ)
      else
        if v4 = 0 then
          if v5 = 0 then
            none
          else
            some (0, (v0 / v5), σ)
        else
          if v5 = 0 then
            none
          else
            some (0, (v2 / v5), σ)
    else
      if v7 = 0 then
        none
      else
        R nF_fraction k 17 [.long v0, .null, .long v2, .null, .int v4, .long v7, .null, .long (v5 - v5 / v7 * v7), .null, .int (v9 + 1), .long (v5 - v5 / v7 * v7), .null] [] σ
  else
    if (lg_cmp v5 0) = 0 then
      some (0, (-4611686018427387904), σ)
    else
      if v4 = 0 then
        if v5 = 0 then
          none
        else
          some (0, (v0 / v5), σ)
      else
        if v5 = 0 then
          none
        else
          some (0, (v2 / v5), σ) := (unr_R [17] nF_fraction k 400 17 _ _ _).trans rfl
