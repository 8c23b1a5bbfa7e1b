/-! EQUATIONS of the methods 185 .. 185 -/
-- L_law
set_option maxRecDepth 1000000 in
theorem eL_law_10 (k : Nat) (v3 : Int32) (σ : Sto) : R nL_law k 10 [.ref 99, .ref 0, .ref 30, .int v3] [] σ =
  if ((σ 98 0) - 7) < v3 then
    some (1, 0, σ)
  else
    if inb v3 (σ 98 0).toNatClampNeg = true then
      if ((σ 99 v3.toNatClampNeg) &&& 63) = 0 then
        R nL_law k 22 [.ref 99, .ref 0, .ref 30, .int v3] [] σ
      else
        if ((σ 99 v3.toNatClampNeg) &&& 63) = 1 then
          R nL_law k 39 [.ref 99, .ref 0, .ref 30, .int v3] [] σ
        else
          if ((σ 99 v3.toNatClampNeg) &&& 63) = 2 then
            R nL_law k 66 [.ref 99, .ref 0, .ref 30, .int v3] [] σ
          else
            if ((σ 99 v3.toNatClampNeg) &&& 63) = 3 then
              R nL_law k 83 [.ref 99, .ref 0, .ref 30, .int v3] [] σ
            else
              if ((σ 99 v3.toNatClampNeg) &&& 63) = 4 then
                R nL_law k 150 [.ref 99, .ref 0, .ref 30, .int v3] [] σ
              else
                if ((σ 99 v3.toNatClampNeg) &&& 63) = 5 then
                  R nL_law k 157 [.ref 99, .ref 0, .ref 30, .int v3] [] σ
                else
                  if ((σ 99 v3.toNatClampNeg) &&& 63) = 6 then
                    R nL_law k 174 [.ref 99, .ref 0, .ref 30, .int v3] [] σ
                  else
                    if ((σ 99 v3.toNatClampNeg) &&& 63) = 7 then
                      R nL_law k 201 [.ref 99, .ref 0, .ref 30, .int v3] [] σ
                    else
                      if ((σ 99 v3.toNatClampNeg) &&& 63) = 8 then
                        R nL_law k 228 [.ref 99, .ref 0, .ref 30, .int v3] [] σ
                      else
                        if ((σ 99 v3.toNatClampNeg) &&& 63) = 9 then
                          R nL_law k 265 [.ref 99, .ref 0, .ref 30, .int v3] [] σ
                        else
                          if ((σ 99 v3.toNatClampNeg) &&& 63) = 10 then
                            R nL_law k 292 [.ref 99, .ref 0, .ref 30, .int v3] [] σ
                          else
                            if ((σ 99 v3.toNatClampNeg) &&& 63) = 11 then
                              R nL_law k 299 [.ref 99, .ref 0, .ref 30, .int v3] [] σ
                            else
                              if ((σ 99 v3.toNatClampNeg) &&& 63) = 12 then
                                R nL_law k 326 [.ref 99, .ref 0, .ref 30, .int v3] [] σ
                              else
                                if ((σ 99 v3.toNatClampNeg) &&& 63) = 13 then
                                  R nL_law k 353 [.ref 99, .ref 0, .ref 30, .int v3] [] σ
                                else
                                  if ((σ 99 v3.toNatClampNeg) &&& 63) = 14 then
                                    R nL_law k 380 [.ref 99, .ref 0, .ref 30, .int v3] [] σ
                                  else
                                    if ((σ 99 v3.toNatClampNeg) &&& 63) = 15 then
                                      R nL_law k 407 [.ref 99, .ref 0, .ref 30, .int v3] [] σ
                                    else
                                      if ((σ 99 v3.toNatClampNeg) &&& 63) = 16 then
                                        R nL_law k 434 [.ref 99, .ref 0, .ref 30, .int v3] [] σ
                                      else
                                        if ((σ 99 v3.toNatClampNeg) &&& 63) = 17 then
                                          R nL_law k 461 [.ref 99, .ref 0, .ref 30, .int v3] [] σ
                                        else
                                          if ((σ 99 v3.toNatClampNeg) &&& 63) = 18 then
                                            R nL_law k 478 [.ref 99, .ref 0, .ref 30, .int v3] [] σ
                                          else
                                            if ((σ 99 v3.toNatClampNeg) &&& 63) = 19 then
                                              R nL_law k 495 [.ref 99, .ref 0, .ref 30, .int v3] [] σ
                                            else
                                              if ((σ 99 v3.toNatClampNeg) &&& 63) = 20 then
                                                R nL_law k 513 [.ref 99, .ref 0, .ref 30, .int v3] [] σ
                                              else
                                                if ((σ 99 v3.toNatClampNeg) &&& 63) = 21 then
                                                  R nL_law k 530 [.ref 99, .ref 0, .ref 30, .int v3] [] σ
                                                else
                                                  if ((σ 99 v3.toNatClampNeg) &&& 63) = 22 then
                                                    R nL_law k 567 [.ref 99, .ref 0, .ref 30, .int v3] [] σ
                                                  else
                                                    if ((σ 99 v3.toNatClampNeg) &&& 63) = 23 then
                                                      R nL_law k 595 [.ref 99, .ref 0, .ref 30, .int v3] [] σ
                                                    else
                                                      if ((σ 99 v3.toNatClampNeg) &&& 63) = 24 then
                                                        R nL_law k 612 [.ref 99, .ref 0, .ref 30, .int v3] [] σ
                                                      else
                                                        if ((σ 99 v3.toNatClampNeg) &&& 63) = 25 then
                                                          R nL_law k 649 [.ref 99, .ref 0, .ref 30, .int v3] [] σ
                                                        else
                                                          if ((σ 99 v3.toNatClampNeg) &&& 63) = 26 then
                                                            R nL_law k 666 [.ref 99, .ref 0, .ref 30, .int v3] [] σ
                                                          else
                                                            if ((σ 99 v3.toNatClampNeg) &&& 63) = 27 then
                                                              R nL_law k 693 [.ref 99, .ref 0, .ref 30, .int v3] [] σ
                                                            else
                                                              if ((σ 99 v3.toNatClampNeg) &&& 63) = 28 then
                                                                R nL_law k 720 [.ref 99, .ref 0, .ref 30, .int v3] [] σ
                                                              else
                                                                if ((σ 99 v3.toNatClampNeg) &&& 63) = 29 then
                                                                  R nL_law k 768 [.ref 99, .ref 0, .ref 30, .int v3] [] σ
                                                                else
                                                                  if ((σ 99 v3.toNatClampNeg) &&& 63) = 30 then
                                                                    R nL_law k 775 [.ref 99, .ref 0, .ref 30, .int v3] [] σ
                                                                  else
                                                                    if ((σ 99 v3.toNatClampNeg) &&& 63) = 31 then
                                                                      R nL_law k 782 [.ref 99, .ref 0, .ref 30, .int v3] [] σ
                                                                    else
                                                                      if ((σ 99 v3.toNatClampNeg) &&& 63) = 32 then
                                                                        R nL_law k 819 [.ref 99, .ref 0, .ref 30, .int v3] [] σ
                                                                      else
                                                                        if ((σ 99 v3.toNatClampNeg) &&& 63) = 33 then
                                                                          R nL_law k 856 [.ref 99, .ref 0, .ref 30, .int v3] [] σ
                                                                        else
                                                                          if ((σ 99 v3.toNatClampNeg) &&& 63) = 34 then
                                                                            R nL_law k 913 [.ref 99, .ref 0, .ref 30, .int v3] [] σ
                                                                          else
                                                                            if ((σ 99 v3.toNatClampNeg) &&& 63) = 35 then
                                                                              R nL_law k 960 [.ref 99, .ref 0, .ref 30, .int v3] [] σ
                                                                            else
                                                                              R nL_law k 987 [.ref 99, .ref 0, .ref 30, .int v3] [] σ
    else
      none := (unr_R [10, 22, 39, 66, 83, 150, 157, 174, 201, 228, 265, 292, 299, 326, 353, 380, 407, 434, 461, 478, 495, 513, 530, 567, 595, 612, 649, 666, 693, 720, 768, 775, 782, 819, 856, 913, 960, 987] nL_law k 400 10 _ _ _).trans rfl
theorem eL_law_22 (k : Nat) (v3 : Int32) (σ : Sto) : R nL_law k 22 [.ref 99, .ref 0, .ref 30, .int v3] [] σ =
  if inb (v3 + 1) (σ 98 0).toNatClampNeg = true then
    (C nF_count k [.ref 0, .int (σ 99 (v3 + 1).toNatClampNeg)] σ).bind fun r1 =>
      if inb (v3 + 1) (r1.2.2 98 0).toNatClampNeg = true then
        (C nM_count k [.ref 30, .int (r1.2.2 99 (v3 + 1).toNatClampNeg)] r1.2.2).bind fun r2 =>
          if r1.1 = r2.1 then
            R nL_law k 987 [.ref 99, .ref 0, .ref 30, .int v3] [] r2.2.2
          else
            some (0, 0, r2.2.2)
      else
        none
  else
    none := (unr_R [10, 22, 39, 66, 83, 150, 157, 174, 201, 228, 265, 292, 299, 326, 353, 380, 407, 434, 461, 478, 495, 513, 530, 567, 595, 612, 649, 666, 693, 720, 768, 775, 782, 819, 856, 913, 960, 987] nL_law k 400 22 _ _ _).trans rfl
theorem eL_law_39 (k : Nat) (v3 : Int32) (σ : Sto) : R nL_law k 39 [.ref 99, .ref 0, .ref 30, .int v3] [] σ =
  if inb (v3 + 1) (σ 98 0).toNatClampNeg = true then
    if inb (v3 + 2) (σ 98 0).toNatClampNeg = true then
      (C nF_bay k [.ref 0, .int (σ 99 (v3 + 1).toNatClampNeg), .int (σ 99 (v3 + 2).toNatClampNeg)] σ).bind fun r1 =>
        if inb (v3 + 1) (r1.2.2 98 0).toNatClampNeg = true then
          if inb (v3 + 2) (r1.2.2 98 0).toNatClampNeg = true then
            (C nM_bay k [.ref 30, .int (r1.2.2 99 (v3 + 1).toNatClampNeg), .int (r1.2.2 99 (v3 + 2).toNatClampNeg)] r1.2.2).bind fun r2 =>
              if r1.1 = r2.1 then
                R nL_law k 987 [.ref 99, .ref 0, .ref 30, .int v3] [] r2.2.2
              else
                some (0, 0, r2.2.2)
          else
            none
        else
          none
    else
      none
  else
    none := (unr_R [10, 22, 39, 66, 83, 150, 157, 174, 201, 228, 265, 292, 299, 326, 353, 380, 407, 434, 461, 478, 495, 513, 530, 567, 595, 612, 649, 666, 693, 720, 768, 775, 782, 819, 856, 913, 960, 987] nL_law k 400 39 _ _ _).trans rfl
theorem eL_law_66 (k : Nat) (v3 : Int32) (σ : Sto) : R nL_law k 66 [.ref 99, .ref 0, .ref 30, .int v3] [] σ =
  if inb (v3 + 1) (σ 98 0).toNatClampNeg = true then
    (C nF_ferry k [.ref 0, .int (σ 99 (v3 + 1).toNatClampNeg)] σ).bind fun r1 =>
      if inb (v3 + 1) (r1.2.2 98 0).toNatClampNeg = true then
        (C nM_ferry k [.ref 30, .int (r1.2.2 99 (v3 + 1).toNatClampNeg)] r1.2.2).bind fun r2 =>
          if r1.1 = r2.1 then
            R nL_law k 987 [.ref 99, .ref 0, .ref 30, .int v3] [] r2.2.2
          else
            some (0, 0, r2.2.2)
      else
        none
  else
    none := (unr_R [10, 22, 39, 66, 83, 150, 157, 174, 201, 228, 265, 292, 299, 326, 353, 380, 407, 434, 461, 478, 495, 513, 530, 567, 595, 612, 649, 666, 693, 720, 768, 775, 782, 819, 856, 913, 960, 987] nL_law k 400 66 _ _ _).trans rfl
set_option maxRecDepth 1000000 in
theorem eL_law_83 (k : Nat) (v3 : Int32) (σ : Sto) : R nL_law k 83 [.ref 99, .ref 0, .ref 30, .int v3] [] σ =
  if inb (v3 + 1) (σ 98 0).toNatClampNeg = true then
    if inb (v3 + 2) (σ 98 0).toNatClampNeg = true then
      if inb (v3 + 3) (σ 98 0).toNatClampNeg = true then
        if inb (v3 + 4) (σ 98 0).toNatClampNeg = true then
          if inb (v3 + 5) (σ 98 0).toNatClampNeg = true then
            if inb (v3 + 6) (σ 98 0).toNatClampNeg = true then
              (C nF_feed k [.ref 0, .int (σ 99 (v3 + 1).toNatClampNeg), .int (σ 99 (v3 + 2).toNatClampNeg), .int (σ 99 (v3 + 3).toNatClampNeg), .int (σ 99 (v3 + 4).toNatClampNeg), .int (σ 99 (v3 + 5).toNatClampNeg), .int (σ 99 (v3 + 6).toNatClampNeg)] σ).bind fun r1 =>
                if inb (v3 + 1) (r1.2.2 98 0).toNatClampNeg = true then
                  if inb (v3 + 2) (r1.2.2 98 0).toNatClampNeg = true then
                    if inb (v3 + 3) (r1.2.2 98 0).toNatClampNeg = true then
                      if inb (v3 + 4) (r1.2.2 98 0).toNatClampNeg = true then
                        if inb (v3 + 5) (r1.2.2 98 0).toNatClampNeg = true then
                          if inb (v3 + 6) (r1.2.2 98 0).toNatClampNeg = true then
                            (C nM_feed k [.ref 30, .int (r1.2.2 99 (v3 + 1).toNatClampNeg), .int (r1.2.2 99 (v3 + 2).toNatClampNeg), .int (r1.2.2 99 (v3 + 3).toNatClampNeg), .int (r1.2.2 99 (v3 + 4).toNatClampNeg), .int (r1.2.2 99 (v3 + 5).toNatClampNeg), .int (r1.2.2 99 (v3 + 6).toNatClampNeg)] r1.2.2).bind fun r2 =>
                              if r1.1 = r2.1 then
                                R nL_law k 987 [.ref 99, .ref 0, .ref 30, .int v3] [] r2.2.2
                              else
                                some (0, 0, r2.2.2)
                          else
                            none
                        else
                          none
                      else
                        none
                    else
                      none
                  else
                    none
                else
                  none
            else
              none
          else
            none
        else
          none
      else
        none
    else
      none
  else
    none := (unr_R [10, 22, 39, 66, 83, 150, 157, 174, 201, 228, 265, 292, 299, 326, 353, 380, 407, 434, 461, 478, 495, 513, 530, 567, 595, 612, 649, 666, 693, 720, 768, 775, 782, 819, 856, 913, 960, 987] nL_law k 400 83 _ _ _).trans rfl
theorem eL_law_150 (k : Nat) (v3 : Int32) (σ : Sto) : R nL_law k 150 [.ref 99, .ref 0, .ref 30, .int v3] [] σ =
  (C nF_text k [.ref 0] σ).bind fun r1 =>
    (C nM_text k [.ref 30] r1.2.2).bind fun r2 =>
      if r1.1 = r2.1 then
        R nL_law k 987 [.ref 99, .ref 0, .ref 30, .int v3] [] r2.2.2
      else
        some (0, 0, r2.2.2) := (unr_R [10, 22, 39, 66, 83, 150, 157, 174, 201, 228, 265, 292, 299, 326, 353, 380, 407, 434, 461, 478, 495, 513, 530, 567, 595, 612, 649, 666, 693, 720, 768, 775, 782, 819, 856, 913, 960, 987] nL_law k 400 150 _ _ _).trans rfl
theorem eL_law_157 (k : Nat) (v3 : Int32) (σ : Sto) : R nL_law k 157 [.ref 99, .ref 0, .ref 30, .int v3] [] σ =
  if inb (v3 + 1) (σ 98 0).toNatClampNeg = true then
    (C nF_force k [.ref 0, .int (σ 99 (v3 + 1).toNatClampNeg)] σ).bind fun r1 =>
      if inb (v3 + 1) (r1.2.2 98 0).toNatClampNeg = true then
        (C nM_force k [.ref 30, .int (r1.2.2 99 (v3 + 1).toNatClampNeg)] r1.2.2).bind fun r2 =>
          if r1.1 = r2.1 then
            R nL_law k 987 [.ref 99, .ref 0, .ref 30, .int v3] [] r2.2.2
          else
            some (0, 0, r2.2.2)
      else
        none
  else
    none := (unr_R [10, 22, 39, 66, 83, 150, 157, 174, 201, 228, 265, 292, 299, 326, 353, 380, 407, 434, 461, 478, 495, 513, 530, 567, 595, 612, 649, 666, 693, 720, 768, 775, 782, 819, 856, 913, 960, 987] nL_law k 400 157 _ _ _).trans rfl
theorem eL_law_174 (k : Nat) (v3 : Int32) (σ : Sto) : R nL_law k 174 [.ref 99, .ref 0, .ref 30, .int v3] [] σ =
  if inb (v3 + 1) (σ 98 0).toNatClampNeg = true then
    if inb (v3 + 2) (σ 98 0).toNatClampNeg = true then
      (C nF_asks k [.ref 0, .int (σ 99 (v3 + 1).toNatClampNeg), .int (σ 99 (v3 + 2).toNatClampNeg)] σ).bind fun r1 =>
        if inb (v3 + 1) (r1.2.2 98 0).toNatClampNeg = true then
          if inb (v3 + 2) (r1.2.2 98 0).toNatClampNeg = true then
            (C nM_asks k [.ref 30, .int (r1.2.2 99 (v3 + 1).toNatClampNeg), .int (r1.2.2 99 (v3 + 2).toNatClampNeg)] r1.2.2).bind fun r2 =>
              if r1.1 = r2.1 then
                R nL_law k 987 [.ref 99, .ref 0, .ref 30, .int v3] [] r2.2.2
              else
                some (0, 0, r2.2.2)
          else
            none
        else
          none
    else
      none
  else
    none := (unr_R [10, 22, 39, 66, 83, 150, 157, 174, 201, 228, 265, 292, 299, 326, 353, 380, 407, 434, 461, 478, 495, 513, 530, 567, 595, 612, 649, 666, 693, 720, 768, 775, 782, 819, 856, 913, 960, 987] nL_law k 400 174 _ _ _).trans rfl
theorem eL_law_201 (k : Nat) (v3 : Int32) (σ : Sto) : R nL_law k 201 [.ref 99, .ref 0, .ref 30, .int v3] [] σ =
  if inb (v3 + 1) (σ 98 0).toNatClampNeg = true then
    if inb (v3 + 2) (σ 98 0).toNatClampNeg = true then
      (C nF_traveller k [.ref 0, .int (σ 99 (v3 + 1).toNatClampNeg), .int (σ 99 (v3 + 2).toNatClampNeg)] σ).bind fun r1 =>
        if inb (v3 + 1) (r1.2.2 98 0).toNatClampNeg = true then
          if inb (v3 + 2) (r1.2.2 98 0).toNatClampNeg = true then
            (C nM_traveller k [.ref 30, .int (r1.2.2 99 (v3 + 1).toNatClampNeg), .int (r1.2.2 99 (v3 + 2).toNatClampNeg)] r1.2.2).bind fun r2 =>
              if r1.1 = r2.1 then
                R nL_law k 987 [.ref 99, .ref 0, .ref 30, .int v3] [] r2.2.2
              else
                some (0, 0, r2.2.2)
          else
            none
        else
          none
    else
      none
  else
    none := (unr_R [10, 22, 39, 66, 83, 150, 157, 174, 201, 228, 265, 292, 299, 326, 353, 380, 407, 434, 461, 478, 495, 513, 530, 567, 595, 612, 649, 666, 693, 720, 768, 775, 782, 819, 856, 913, 960, 987] nL_law k 400 201 _ _ _).trans rfl
theorem eL_law_228 (k : Nat) (v3 : Int32) (σ : Sto) : R nL_law k 228 [.ref 99, .ref 0, .ref 30, .int v3] [] σ =
  if inb (v3 + 1) (σ 98 0).toNatClampNeg = true then
    if inb (v3 + 2) (σ 98 0).toNatClampNeg = true then
      if inb (v3 + 3) (σ 98 0).toNatClampNeg = true then
        (C nF_put k [.ref 0, .int (σ 99 (v3 + 1).toNatClampNeg), .int (σ 99 (v3 + 2).toNatClampNeg), .int (σ 99 (v3 + 3).toNatClampNeg)] σ).bind fun r1 =>
          if inb (v3 + 1) (r1.2.2 98 0).toNatClampNeg = true then
            if inb (v3 + 2) (r1.2.2 98 0).toNatClampNeg = true then
              if inb (v3 + 3) (r1.2.2 98 0).toNatClampNeg = true then
                (C nM_put k [.ref 30, .int (r1.2.2 99 (v3 + 1).toNatClampNeg), .int (r1.2.2 99 (v3 + 2).toNatClampNeg), .int (r1.2.2 99 (v3 + 3).toNatClampNeg)] r1.2.2).bind fun r2 =>
                  if r1.1 = r2.1 then
                    R nL_law k 987 [.ref 99, .ref 0, .ref 30, .int v3] [] r2.2.2
                  else
                    some (0, 0, r2.2.2)
              else
                none
            else
              none
          else
            none
      else
        none
    else
      none
  else
    none := (unr_R [10, 22, 39, 66, 83, 150, 157, 174, 201, 228, 265, 292, 299, 326, 353, 380, 407, 434, 461, 478, 495, 513, 530, 567, 595, 612, 649, 666, 693, 720, 768, 775, 782, 819, 856, 913, 960, 987] nL_law k 400 228 _ _ _).trans rfl
theorem eL_law_265 (k : Nat) (v3 : Int32) (σ : Sto) : R nL_law k 265 [.ref 99, .ref 0, .ref 30, .int v3] [] σ =
  if inb (v3 + 1) (σ 98 0).toNatClampNeg = true then
    if inb (v3 + 2) (σ 98 0).toNatClampNeg = true then
      (C nF_told k [.ref 0, .int (σ 99 (v3 + 1).toNatClampNeg), .int (σ 99 (v3 + 2).toNatClampNeg)] σ).bind fun r1 =>
        if inb (v3 + 1) (r1.2.2 98 0).toNatClampNeg = true then
          if inb (v3 + 2) (r1.2.2 98 0).toNatClampNeg = true then
            (C nM_told k [.ref 30, .int (r1.2.2 99 (v3 + 1).toNatClampNeg), .int (r1.2.2 99 (v3 + 2).toNatClampNeg)] r1.2.2).bind fun r2 =>
              if r1.1 = r2.1 then
                R nL_law k 987 [.ref 99, .ref 0, .ref 30, .int v3] [] r2.2.2
              else
                some (0, 0, r2.2.2)
          else
            none
        else
          none
    else
      none
  else
    none := (unr_R [10, 22, 39, 66, 83, 150, 157, 174, 201, 228, 265, 292, 299, 326, 353, 380, 407, 434, 461, 478, 495, 513, 530, 567, 595, 612, 649, 666, 693, 720, 768, 775, 782, 819, 856, 913, 960, 987] nL_law k 400 265 _ _ _).trans rfl
theorem eL_law_292 (k : Nat) (v3 : Int32) (σ : Sto) : R nL_law k 292 [.ref 99, .ref 0, .ref 30, .int v3] [] σ =
  (C nF_hour k [.ref 0] σ).bind fun r1 =>
    (C nM_hour k [.ref 30] r1.2.2).bind fun r2 =>
      if r1.1 = r2.1 then
        R nL_law k 987 [.ref 99, .ref 0, .ref 30, .int v3] [] r2.2.2
      else
        some (0, 0, r2.2.2) := (unr_R [10, 22, 39, 66, 83, 150, 157, 174, 201, 228, 265, 292, 299, 326, 353, 380, 407, 434, 461, 478, 495, 513, 530, 567, 595, 612, 649, 666, 693, 720, 768, 775, 782, 819, 856, 913, 960, 987] nL_law k 400 292 _ _ _).trans rfl
theorem eL_law_299 (k : Nat) (v3 : Int32) (σ : Sto) : R nL_law k 299 [.ref 99, .ref 0, .ref 30, .int v3] [] σ =
  if inb (v3 + 1) (σ 98 0).toNatClampNeg = true then
    if inb (v3 + 2) (σ 98 0).toNatClampNeg = true then
      (C nF_walk k [.ref 0, .int (σ 99 (v3 + 1).toNatClampNeg), .int (σ 99 (v3 + 2).toNatClampNeg)] σ).bind fun r1 =>
        if inb (v3 + 1) (r1.2.2 98 0).toNatClampNeg = true then
          if inb (v3 + 2) (r1.2.2 98 0).toNatClampNeg = true then
            (C nM_walk k [.ref 30, .int (r1.2.2 99 (v3 + 1).toNatClampNeg), .int (r1.2.2 99 (v3 + 2).toNatClampNeg)] r1.2.2).bind fun r2 =>
              if r1.1 = r2.1 then
                R nL_law k 987 [.ref 99, .ref 0, .ref 30, .int v3] [] r2.2.2
              else
                some (0, 0, r2.2.2)
          else
            none
        else
          none
    else
      none
  else
    none := (unr_R [10, 22, 39, 66, 83, 150, 157, 174, 201, 228, 265, 292, 299, 326, 353, 380, 407, 434, 461, 478, 495, 513, 530, 567, 595, 612, 649, 666, 693, 720, 768, 775, 782, 819, 856, 913, 960, 987] nL_law k 400 299 _ _ _).trans rfl
theorem eL_law_326 (k : Nat) (v3 : Int32) (σ : Sto) : R nL_law k 326 [.ref 99, .ref 0, .ref 30, .int v3] [] σ =
  if inb (v3 + 1) (σ 98 0).toNatClampNeg = true then
    if inb (v3 + 2) (σ 98 0).toNatClampNeg = true then
      (C nF_run k [.ref 0, .int (σ 99 (v3 + 1).toNatClampNeg), .int (σ 99 (v3 + 2).toNatClampNeg)] σ).bind fun r1 =>
        if inb (v3 + 1) (r1.2.2 98 0).toNatClampNeg = true then
          if inb (v3 + 2) (r1.2.2 98 0).toNatClampNeg = true then
            (C nM_run k [.ref 30, .int (r1.2.2 99 (v3 + 1).toNatClampNeg), .int (r1.2.2 99 (v3 + 2).toNatClampNeg)] r1.2.2).bind fun r2 =>
              if r1.1 = r2.1 then
                R nL_law k 987 [.ref 99, .ref 0, .ref 30, .int v3] [] r2.2.2
              else
                some (0, 0, r2.2.2)
          else
            none
        else
          none
    else
      none
  else
    none := (unr_R [10, 22, 39, 66, 83, 150, 157, 174, 201, 228, 265, 292, 299, 326, 353, 380, 407, 434, 461, 478, 495, 513, 530, 567, 595, 612, 649, 666, 693, 720, 768, 775, 782, 819, 856, 913, 960, 987] nL_law k 400 326 _ _ _).trans rfl
theorem eL_law_353 (k : Nat) (v3 : Int32) (σ : Sto) : R nL_law k 353 [.ref 99, .ref 0, .ref 30, .int v3] [] σ =
  if inb (v3 + 1) (σ 98 0).toNatClampNeg = true then
    if inb (v3 + 2) (σ 98 0).toNatClampNeg = true then
      (C nF_when k [.ref 0, .int (σ 99 (v3 + 1).toNatClampNeg), .int (σ 99 (v3 + 2).toNatClampNeg)] σ).bind fun r1 =>
        if inb (v3 + 1) (r1.2.2 98 0).toNatClampNeg = true then
          if inb (v3 + 2) (r1.2.2 98 0).toNatClampNeg = true then
            (C nM_when k [.ref 30, .int (r1.2.2 99 (v3 + 1).toNatClampNeg), .int (r1.2.2 99 (v3 + 2).toNatClampNeg)] r1.2.2).bind fun r2 =>
              if r1.1 = r2.1 then
                R nL_law k 987 [.ref 99, .ref 0, .ref 30, .int v3] [] r2.2.2
              else
                some (0, 0, r2.2.2)
          else
            none
        else
          none
    else
      none
  else
    none := (unr_R [10, 22, 39, 66, 83, 150, 157, 174, 201, 228, 265, 292, 299, 326, 353, 380, 407, 434, 461, 478, 495, 513, 530, 567, 595, 612, 649, 666, 693, 720, 768, 775, 782, 819, 856, 913, 960, 987] nL_law k 400 353 _ _ _).trans rfl
theorem eL_law_380 (k : Nat) (v3 : Int32) (σ : Sto) : R nL_law k 380 [.ref 99, .ref 0, .ref 30, .int v3] [] σ =
  if inb (v3 + 1) (σ 98 0).toNatClampNeg = true then
    if inb (v3 + 2) (σ 98 0).toNatClampNeg = true then
      (C nF_hide k [.ref 0, .int (σ 99 (v3 + 1).toNatClampNeg), .int (σ 99 (v3 + 2).toNatClampNeg)] σ).bind fun r1 =>
        if inb (v3 + 1) (r1.2.2 98 0).toNatClampNeg = true then
          if inb (v3 + 2) (r1.2.2 98 0).toNatClampNeg = true then
            (C nM_hide k [.ref 30, .int (r1.2.2 99 (v3 + 1).toNatClampNeg), .int (r1.2.2 99 (v3 + 2).toNatClampNeg)] r1.2.2).bind fun r2 =>
              if r1.1 = r2.1 then
                R nL_law k 987 [.ref 99, .ref 0, .ref 30, .int v3] [] r2.2.2
              else
                some (0, 0, r2.2.2)
          else
            none
        else
          none
    else
      none
  else
    none := (unr_R [10, 22, 39, 66, 83, 150, 157, 174, 201, 228, 265, 292, 299, 326, 353, 380, 407, 434, 461, 478, 495, 513, 530, 567, 595, 612, 649, 666, 693, 720, 768, 775, 782, 819, 856, 913, 960, 987] nL_law k 400 380 _ _ _).trans rfl
theorem eL_law_407 (k : Nat) (v3 : Int32) (σ : Sto) : R nL_law k 407 [.ref 99, .ref 0, .ref 30, .int v3] [] σ =
  if inb (v3 + 1) (σ 98 0).toNatClampNeg = true then
    if inb (v3 + 2) (σ 98 0).toNatClampNeg = true then
      (C nF_stand k [.ref 0, .int (σ 99 (v3 + 1).toNatClampNeg), .int (σ 99 (v3 + 2).toNatClampNeg)] σ).bind fun r1 =>
        if inb (v3 + 1) (r1.2.2 98 0).toNatClampNeg = true then
          if inb (v3 + 2) (r1.2.2 98 0).toNatClampNeg = true then
            (C nM_stand k [.ref 30, .int (r1.2.2 99 (v3 + 1).toNatClampNeg), .int (r1.2.2 99 (v3 + 2).toNatClampNeg)] r1.2.2).bind fun r2 =>
              if r1.1 = r2.1 then
                R nL_law k 987 [.ref 99, .ref 0, .ref 30, .int v3] [] r2.2.2
              else
                some (0, 0, r2.2.2)
          else
            none
        else
          none
    else
      none
  else
    none := (unr_R [10, 22, 39, 66, 83, 150, 157, 174, 201, 228, 265, 292, 299, 326, 353, 380, 407, 434, 461, 478, 495, 513, 530, 567, 595, 612, 649, 666, 693, 720, 768, 775, 782, 819, 856, 913, 960, 987] nL_law k 400 407 _ _ _).trans rfl
theorem eL_law_434 (k : Nat) (v3 : Int32) (σ : Sto) : R nL_law k 434 [.ref 99, .ref 0, .ref 30, .int v3] [] σ =
  if inb (v3 + 1) (σ 98 0).toNatClampNeg = true then
    if inb (v3 + 2) (σ 98 0).toNatClampNeg = true then
      (C nF_apart k [.ref 0, .int (σ 99 (v3 + 1).toNatClampNeg), .int (σ 99 (v3 + 2).toNatClampNeg)] σ).bind fun r1 =>
        if inb (v3 + 1) (r1.2.2 98 0).toNatClampNeg = true then
          if inb (v3 + 2) (r1.2.2 98 0).toNatClampNeg = true then
            (C nM_apart k [.ref 30, .int (r1.2.2 99 (v3 + 1).toNatClampNeg), .int (r1.2.2 99 (v3 + 2).toNatClampNeg)] r1.2.2).bind fun r2 =>
              if r1.1 = r2.1 then
                R nL_law k 987 [.ref 99, .ref 0, .ref 30, .int v3] [] r2.2.2
              else
                some (0, 0, r2.2.2)
          else
            none
        else
          none
    else
      none
  else
    none := (unr_R [10, 22, 39, 66, 83, 150, 157, 174, 201, 228, 265, 292, 299, 326, 353, 380, 407, 434, 461, 478, 495, 513, 530, 567, 595, 612, 649, 666, 693, 720, 768, 775, 782, 819, 856, 913, 960, 987] nL_law k 400 434 _ _ _).trans rfl
theorem eL_law_461 (k : Nat) (v3 : Int32) (σ : Sto) : R nL_law k 461 [.ref 99, .ref 0, .ref 30, .int v3] [] σ =
  if inb (v3 + 1) (σ 98 0).toNatClampNeg = true then
    (C nF_breakwater k [.ref 0, .int (σ 99 (v3 + 1).toNatClampNeg)] σ).bind fun r1 =>
      if inb (v3 + 1) (r1.2.2 98 0).toNatClampNeg = true then
        (C nM_breakwater k [.ref 30, .int (r1.2.2 99 (v3 + 1).toNatClampNeg)] r1.2.2).bind fun r2 =>
          if r1.1 = r2.1 then
            R nL_law k 987 [.ref 99, .ref 0, .ref 30, .int v3] [] r2.2.2
          else
            some (0, 0, r2.2.2)
      else
        none
  else
    none := (unr_R [10, 22, 39, 66, 83, 150, 157, 174, 201, 228, 265, 292, 299, 326, 353, 380, 407, 434, 461, 478, 495, 513, 530, 567, 595, 612, 649, 666, 693, 720, 768, 775, 782, 819, 856, 913, 960, 987] nL_law k 400 461 _ _ _).trans rfl
theorem eL_law_478 (k : Nat) (v3 : Int32) (σ : Sto) : R nL_law k 478 [.ref 99, .ref 0, .ref 30, .int v3] [] σ =
  if inb (v3 + 1) (σ 98 0).toNatClampNeg = true then
    (C nF_gap k [.ref 0, .int (σ 99 (v3 + 1).toNatClampNeg)] σ).bind fun r1 =>
      if inb (v3 + 1) (r1.2.2 98 0).toNatClampNeg = true then
        (C nM_gap k [.ref 30, .int (r1.2.2 99 (v3 + 1).toNatClampNeg)] r1.2.2).bind fun r2 =>
          if r1.1 = r2.1 then
            R nL_law k 987 [.ref 99, .ref 0, .ref 30, .int v3] [] r2.2.2
          else
            some (0, 0, r2.2.2)
      else
        none
  else
    none := (unr_R [10, 22, 39, 66, 83, 150, 157, 174, 201, 228, 265, 292, 299, 326, 353, 380, 407, 434, 461, 478, 495, 513, 530, 567, 595, 612, 649, 666, 693, 720, 768, 775, 782, 819, 856, 913, 960, 987] nL_law k 400 478 _ _ _).trans rfl
theorem eL_law_495 (k : Nat) (v3 : Int32) (σ : Sto) : R nL_law k 495 [.ref 99, .ref 0, .ref 30, .int v3] [] σ =
  if inb (v3 + 1) (σ 98 0).toNatClampNeg = true then
    (C nF_middle k [.ref 0, .int (σ 99 (v3 + 1).toNatClampNeg)] σ).bind fun r1 =>
      if inb (v3 + 1) (r1.2.2 98 0).toNatClampNeg = true then
        (C nM_middle k [.ref 30, .int (r1.2.2 99 (v3 + 1).toNatClampNeg)] r1.2.2).bind fun r2 =>
          if (lg_cmp r1.2.1 r2.2.1) = 0 then
            R nL_law k 987 [.ref 99, .ref 0, .ref 30, .int v3] [] r2.2.2
          else
            some (0, 0, r2.2.2)
      else
        none
  else
    none := (unr_R [10, 22, 39, 66, 83, 150, 157, 174, 201, 228, 265, 292, 299, 326, 353, 380, 407, 434, 461, 478, 495, 513, 530, 567, 595, 612, 649, 666, 693, 720, 768, 775, 782, 819, 856, 913, 960, 987] nL_law k 400 495 _ _ _).trans rfl
theorem eL_law_513 (k : Nat) (v3 : Int32) (σ : Sto) : R nL_law k 513 [.ref 99, .ref 0, .ref 30, .int v3] [] σ =
  if inb (v3 + 1) (σ 98 0).toNatClampNeg = true then
    (C nF_judge k [.ref 0, .int (σ 99 (v3 + 1).toNatClampNeg)] σ).bind fun r1 =>
      if inb (v3 + 1) (r1.2.2 98 0).toNatClampNeg = true then
        (C nM_judge k [.ref 30, .int (r1.2.2 99 (v3 + 1).toNatClampNeg)] r1.2.2).bind fun r2 =>
          if r1.1 = r2.1 then
            R nL_law k 987 [.ref 99, .ref 0, .ref 30, .int v3] [] r2.2.2
          else
            some (0, 0, r2.2.2)
      else
        none
  else
    none := (unr_R [10, 22, 39, 66, 83, 150, 157, 174, 201, 228, 265, 292, 299, 326, 353, 380, 407, 434, 461, 478, 495, 513, 530, 567, 595, 612, 649, 666, 693, 720, 768, 775, 782, 819, 856, 913, 960, 987] nL_law k 400 513 _ _ _).trans rfl
theorem eL_law_530 (k : Nat) (v3 : Int32) (σ : Sto) : R nL_law k 530 [.ref 99, .ref 0, .ref 30, .int v3] [] σ =
  if inb (v3 + 1) (σ 98 0).toNatClampNeg = true then
    if inb (v3 + 2) (σ 98 0).toNatClampNeg = true then
      if inb (v3 + 3) (σ 98 0).toNatClampNeg = true then
        (C nF_kinds k [.ref 0, .int (σ 99 (v3 + 1).toNatClampNeg), .int (σ 99 (v3 + 2).toNatClampNeg), .int (σ 99 (v3 + 3).toNatClampNeg)] σ).bind fun r1 =>
          if inb (v3 + 1) (r1.2.2 98 0).toNatClampNeg = true then
            if inb (v3 + 2) (r1.2.2 98 0).toNatClampNeg = true then
              if inb (v3 + 3) (r1.2.2 98 0).toNatClampNeg = true then
                (C nM_kinds k [.ref 30, .int (r1.2.2 99 (v3 + 1).toNatClampNeg), .int (r1.2.2 99 (v3 + 2).toNatClampNeg), .int (r1.2.2 99 (v3 + 3).toNatClampNeg)] r1.2.2).bind fun r2 =>
                  if r1.1 = r2.1 then
                    R nL_law k 987 [.ref 99, .ref 0, .ref 30, .int v3] [] r2.2.2
                  else
                    some (0, 0, r2.2.2)
              else
                none
            else
              none
          else
            none
      else
        none
    else
      none
  else
    none := (unr_R [10, 22, 39, 66, 83, 150, 157, 174, 201, 228, 265, 292, 299, 326, 353, 380, 407, 434, 461, 478, 495, 513, 530, 567, 595, 612, 649, 666, 693, 720, 768, 775, 782, 819, 856, 913, 960, 987] nL_law k 400 530 _ _ _).trans rfl
theorem eL_law_567 (k : Nat) (v3 : Int32) (σ : Sto) : R nL_law k 567 [.ref 99, .ref 0, .ref 30, .int v3] [] σ =
  if inb (v3 + 1) (σ 98 0).toNatClampNeg = true then
    if inb (v3 + 2) (σ 98 0).toNatClampNeg = true then
      (C nF_places k [.ref 0, .int (σ 99 (v3 + 1).toNatClampNeg), .int (σ 99 (v3 + 2).toNatClampNeg)] σ).bind fun r1 =>
        if inb (v3 + 1) (r1.2.2 98 0).toNatClampNeg = true then
          if inb (v3 + 2) (r1.2.2 98 0).toNatClampNeg = true then
            (C nM_places k [.ref 30, .int (r1.2.2 99 (v3 + 1).toNatClampNeg), .int (r1.2.2 99 (v3 + 2).toNatClampNeg)] r1.2.2).bind fun r2 =>
              if (lg_cmp r1.2.1 r2.2.1) = 0 then
                R nL_law k 987 [.ref 99, .ref 0, .ref 30, .int v3] [] r2.2.2
              else
                some (0, 0, r2.2.2)
          else
            none
        else
          none
    else
      none
  else
    none := (unr_R [10, 22, 39, 66, 83, 150, 157, 174, 201, 228, 265, 292, 299, 326, 353, 380, 407, 434, 461, 478, 495, 513, 530, 567, 595, 612, 649, 666, 693, 720, 768, 775, 782, 819, 856, 913, 960, 987] nL_law k 400 567 _ _ _).trans rfl
theorem eL_law_595 (k : Nat) (v3 : Int32) (σ : Sto) : R nL_law k 595 [.ref 99, .ref 0, .ref 30, .int v3] [] σ =
  if inb (v3 + 1) (σ 98 0).toNatClampNeg = true then
    (C nF_turned k [.ref 0, .int (σ 99 (v3 + 1).toNatClampNeg)] σ).bind fun r1 =>
      if inb (v3 + 1) (r1.2.2 98 0).toNatClampNeg = true then
        (C nM_turned k [.ref 30, .int (r1.2.2 99 (v3 + 1).toNatClampNeg)] r1.2.2).bind fun r2 =>
          if r1.1 = r2.1 then
            R nL_law k 987 [.ref 99, .ref 0, .ref 30, .int v3] [] r2.2.2
          else
            some (0, 0, r2.2.2)
      else
        none
  else
    none := (unr_R [10, 22, 39, 66, 83, 150, 157, 174, 201, 228, 265, 292, 299, 326, 353, 380, 407, 434, 461, 478, 495, 513, 530, 567, 595, 612, 649, 666, 693, 720, 768, 775, 782, 819, 856, 913, 960, 987] nL_law k 400 595 _ _ _).trans rfl
theorem eL_law_612 (k : Nat) (v3 : Int32) (σ : Sto) : R nL_law k 612 [.ref 99, .ref 0, .ref 30, .int v3] [] σ =
  if inb (v3 + 1) (σ 98 0).toNatClampNeg = true then
    if inb (v3 + 2) (σ 98 0).toNatClampNeg = true then
      if inb (v3 + 3) (σ 98 0).toNatClampNeg = true then
        (C nF_waits k [.ref 0, .int (σ 99 (v3 + 1).toNatClampNeg), .int (σ 99 (v3 + 2).toNatClampNeg), .int (σ 99 (v3 + 3).toNatClampNeg)] σ).bind fun r1 =>
          if inb (v3 + 1) (r1.2.2 98 0).toNatClampNeg = true then
            if inb (v3 + 2) (r1.2.2 98 0).toNatClampNeg = true then
              if inb (v3 + 3) (r1.2.2 98 0).toNatClampNeg = true then
                (C nM_waits k [.ref 30, .int (r1.2.2 99 (v3 + 1).toNatClampNeg), .int (r1.2.2 99 (v3 + 2).toNatClampNeg), .int (r1.2.2 99 (v3 + 3).toNatClampNeg)] r1.2.2).bind fun r2 =>
                  if r1.1 = r2.1 then
                    R nL_law k 987 [.ref 99, .ref 0, .ref 30, .int v3] [] r2.2.2
                  else
                    some (0, 0, r2.2.2)
              else
                none
            else
              none
          else
            none
      else
        none
    else
      none
  else
    none := (unr_R [10, 22, 39, 66, 83, 150, 157, 174, 201, 228, 265, 292, 299, 326, 353, 380, 407, 434, 461, 478, 495, 513, 530, 567, 595, 612, 649, 666, 693, 720, 768, 775, 782, 819, 856, 913, 960, 987] nL_law k 400 612 _ _ _).trans rfl
theorem eL_law_649 (k : Nat) (v3 : Int32) (σ : Sto) : R nL_law k 649 [.ref 99, .ref 0, .ref 30, .int v3] [] σ =
  if inb (v3 + 1) (σ 98 0).toNatClampNeg = true then
    (C nF_laws k [.ref 0, .int (σ 99 (v3 + 1).toNatClampNeg)] σ).bind fun r1 =>
      if inb (v3 + 1) (r1.2.2 98 0).toNatClampNeg = true then
        (C nM_laws k [.ref 30, .int (r1.2.2 99 (v3 + 1).toNatClampNeg)] r1.2.2).bind fun r2 =>
          if r1.1 = r2.1 then
            R nL_law k 987 [.ref 99, .ref 0, .ref 30, .int v3] [] r2.2.2
          else
            some (0, 0, r2.2.2)
      else
        none
  else
    none := (unr_R [10, 22, 39, 66, 83, 150, 157, 174, 201, 228, 265, 292, 299, 326, 353, 380, 407, 434, 461, 478, 495, 513, 530, 567, 595, 612, 649, 666, 693, 720, 768, 775, 782, 819, 856, 913, 960, 987] nL_law k 400 649 _ _ _).trans rfl
theorem eL_law_666 (k : Nat) (v3 : Int32) (σ : Sto) : R nL_law k 666 [.ref 99, .ref 0, .ref 30, .int v3] [] σ =
  if inb (v3 + 1) (σ 98 0).toNatClampNeg = true then
    if inb (v3 + 2) (σ 98 0).toNatClampNeg = true then
      (C nF_film k [.ref 0, .int (σ 99 (v3 + 1).toNatClampNeg), .int (σ 99 (v3 + 2).toNatClampNeg)] σ).bind fun r1 =>
        if inb (v3 + 1) (r1.2.2 98 0).toNatClampNeg = true then
          if inb (v3 + 2) (r1.2.2 98 0).toNatClampNeg = true then
            (C nM_film k [.ref 30, .int (r1.2.2 99 (v3 + 1).toNatClampNeg), .int (r1.2.2 99 (v3 + 2).toNatClampNeg)] r1.2.2).bind fun r2 =>
              if r1.1 = r2.1 then
                R nL_law k 987 [.ref 99, .ref 0, .ref 30, .int v3] [] r2.2.2
              else
                some (0, 0, r2.2.2)
          else
            none
        else
          none
    else
      none
  else
    none := (unr_R [10, 22, 39, 66, 83, 150, 157, 174, 201, 228, 265, 292, 299, 326, 353, 380, 407, 434, 461, 478, 495, 513, 530, 567, 595, 612, 649, 666, 693, 720, 768, 775, 782, 819, 856, 913, 960, 987] nL_law k 400 666 _ _ _).trans rfl
theorem eL_law_693 (k : Nat) (v3 : Int32) (σ : Sto) : R nL_law k 693 [.ref 99, .ref 0, .ref 30, .int v3] [] σ =
  if inb (v3 + 1) (σ 98 0).toNatClampNeg = true then
    if inb (v3 + 2) (σ 98 0).toNatClampNeg = true then
      (C nF_drawn k [.ref 0, .int (σ 99 (v3 + 1).toNatClampNeg), .int (σ 99 (v3 + 2).toNatClampNeg)] σ).bind fun r1 =>
        if inb (v3 + 1) (r1.2.2 98 0).toNatClampNeg = true then
          if inb (v3 + 2) (r1.2.2 98 0).toNatClampNeg = true then
            (C nM_drawn k [.ref 30, .int (r1.2.2 99 (v3 + 1).toNatClampNeg), .int (r1.2.2 99 (v3 + 2).toNatClampNeg)] r1.2.2).bind fun r2 =>
              if r1.1 = r2.1 then
                R nL_law k 987 [.ref 99, .ref 0, .ref 30, .int v3] [] r2.2.2
              else
                some (0, 0, r2.2.2)
          else
            none
        else
          none
    else
      none
  else
    none := (unr_R [10, 22, 39, 66, 83, 150, 157, 174, 201, 228, 265, 292, 299, 326, 353, 380, 407, 434, 461, 478, 495, 513, 530, 567, 595, 612, 649, 666, 693, 720, 768, 775, 782, 819, 856, 913, 960, 987] nL_law k 400 693 _ _ _).trans rfl
theorem eL_law_720 (k : Nat) (v3 : Int32) (σ : Sto) : R nL_law k 720 [.ref 99, .ref 0, .ref 30, .int v3] [] σ =
  if inb (v3 + 1) (σ 98 0).toNatClampNeg = true then
    if inb (v3 + 2) (σ 98 0).toNatClampNeg = true then
      if inb (v3 + 3) (σ 98 0).toNatClampNeg = true then
        if inb (v3 + 4) (σ 98 0).toNatClampNeg = true then
          (C nF_odds k [.ref 0, .int (σ 99 (v3 + 1).toNatClampNeg), .int (σ 99 (v3 + 2).toNatClampNeg), .int (σ 99 (v3 + 3).toNatClampNeg), .int (σ 99 (v3 + 4).toNatClampNeg)] σ).bind fun r1 =>
            if inb (v3 + 1) (r1.2.2 98 0).toNatClampNeg = true then
              if inb (v3 + 2) (r1.2.2 98 0).toNatClampNeg = true then
                if inb (v3 + 3) (r1.2.2 98 0).toNatClampNeg = true then
                  if inb (v3 + 4) (r1.2.2 98 0).toNatClampNeg = true then
                    (C nM_odds k [.ref 30, .int (r1.2.2 99 (v3 + 1).toNatClampNeg), .int (r1.2.2 99 (v3 + 2).toNatClampNeg), .int (r1.2.2 99 (v3 + 3).toNatClampNeg), .int (r1.2.2 99 (v3 + 4).toNatClampNeg)] r1.2.2).bind fun r2 =>
                      if (lg_cmp r1.2.1 r2.2.1) = 0 then
                        R nL_law k 987 [.ref 99, .ref 0, .ref 30, .int v3] [] r2.2.2
                      else
                        some (0, 0, r2.2.2)
                  else
                    none
                else
                  none
              else
                none
            else
              none
        else
          none
      else
        none
    else
      none
  else
    none := (unr_R [10, 22, 39, 66, 83, 150, 157, 174, 201, 228, 265, 292, 299, 326, 353, 380, 407, 434, 461, 478, 495, 513, 530, 567, 595, 612, 649, 666, 693, 720, 768, 775, 782, 819, 856, 913, 960, 987] nL_law k 400 720 _ _ _).trans rfl
theorem eL_law_768 (k : Nat) (v3 : Int32) (σ : Sto) : R nL_law k 768 [.ref 99, .ref 0, .ref 30, .int v3] [] σ =
  (C nF_image k [.ref 0] σ).bind fun r1 =>
    (C nM_image k [.ref 30] r1.2.2).bind fun r2 =>
      if r1.1 = r2.1 then
        R nL_law k 987 [.ref 99, .ref 0, .ref 30, .int v3] [] r2.2.2
      else
        some (0, 0, r2.2.2) := (unr_R [10, 22, 39, 66, 83, 150, 157, 174, 201, 228, 265, 292, 299, 326, 353, 380, 407, 434, 461, 478, 495, 513, 530, 567, 595, 612, 649, 666, 693, 720, 768, 775, 782, 819, 856, 913, 960, 987] nL_law k 400 768 _ _ _).trans rfl
theorem eL_law_775 (k : Nat) (v3 : Int32) (σ : Sto) : R nL_law k 775 [.ref 99, .ref 0, .ref 30, .int v3] [] σ =
  (C nF_back k [.ref 0] σ).bind fun r1 =>
    (C nM_back k [.ref 30] r1.2.2).bind fun r2 =>
      if r1.1 = r2.1 then
        R nL_law k 987 [.ref 99, .ref 0, .ref 30, .int v3] [] r2.2.2
      else
        some (0, 0, r2.2.2) := (unr_R [10, 22, 39, 66, 83, 150, 157, 174, 201, 228, 265, 292, 299, 326, 353, 380, 407, 434, 461, 478, 495, 513, 530, 567, 595, 612, 649, 666, 693, 720, 768, 775, 782, 819, 856, 913, 960, 987] nL_law k 400 775 _ _ _).trans rfl
theorem eL_law_782 (k : Nat) (v3 : Int32) (σ : Sto) : R nL_law k 782 [.ref 99, .ref 0, .ref 30, .int v3] [] σ =
  if inb (v3 + 1) (σ 98 0).toNatClampNeg = true then
    if inb (v3 + 2) (σ 98 0).toNatClampNeg = true then
      if inb (v3 + 3) (σ 98 0).toNatClampNeg = true then
        (C nF_sheet k [.ref 0, .int (σ 99 (v3 + 1).toNatClampNeg), .int (σ 99 (v3 + 2).toNatClampNeg), .int (σ 99 (v3 + 3).toNatClampNeg)] σ).bind fun r1 =>
          if inb (v3 + 1) (r1.2.2 98 0).toNatClampNeg = true then
            if inb (v3 + 2) (r1.2.2 98 0).toNatClampNeg = true then
              if inb (v3 + 3) (r1.2.2 98 0).toNatClampNeg = true then
                (C nM_sheet k [.ref 30, .int (r1.2.2 99 (v3 + 1).toNatClampNeg), .int (r1.2.2 99 (v3 + 2).toNatClampNeg), .int (r1.2.2 99 (v3 + 3).toNatClampNeg)] r1.2.2).bind fun r2 =>
                  if r1.1 = r2.1 then
                    R nL_law k 987 [.ref 99, .ref 0, .ref 30, .int v3] [] r2.2.2
                  else
                    some (0, 0, r2.2.2)
              else
                none
            else
              none
          else
            none
      else
        none
    else
      none
  else
    none := (unr_R [10, 22, 39, 66, 83, 150, 157, 174, 201, 228, 265, 292, 299, 326, 353, 380, 407, 434, 461, 478, 495, 513, 530, 567, 595, 612, 649, 666, 693, 720, 768, 775, 782, 819, 856, 913, 960, 987] nL_law k 400 782 _ _ _).trans rfl
theorem eL_law_819 (k : Nat) (v3 : Int32) (σ : Sto) : R nL_law k 819 [.ref 99, .ref 0, .ref 30, .int v3] [] σ =
  if inb (v3 + 1) (σ 98 0).toNatClampNeg = true then
    if inb (v3 + 2) (σ 98 0).toNatClampNeg = true then
      if inb (v3 + 3) (σ 98 0).toNatClampNeg = true then
        (C nF_cell k [.ref 0, .int (σ 99 (v3 + 1).toNatClampNeg), .int (σ 99 (v3 + 2).toNatClampNeg), .int (σ 99 (v3 + 3).toNatClampNeg)] σ).bind fun r1 =>
          if inb (v3 + 1) (r1.2.2 98 0).toNatClampNeg = true then
            if inb (v3 + 2) (r1.2.2 98 0).toNatClampNeg = true then
              if inb (v3 + 3) (r1.2.2 98 0).toNatClampNeg = true then
                (C nM_cell k [.ref 30, .int (r1.2.2 99 (v3 + 1).toNatClampNeg), .int (r1.2.2 99 (v3 + 2).toNatClampNeg), .int (r1.2.2 99 (v3 + 3).toNatClampNeg)] r1.2.2).bind fun r2 =>
                  if r1.1 = r2.1 then
                    R nL_law k 987 [.ref 99, .ref 0, .ref 30, .int v3] [] r2.2.2
                  else
                    some (0, 0, r2.2.2)
              else
                none
            else
              none
          else
            none
      else
        none
    else
      none
  else
    none := (unr_R [10, 22, 39, 66, 83, 150, 157, 174, 201, 228, 265, 292, 299, 326, 353, 380, 407, 434, 461, 478, 495, 513, 530, 567, 595, 612, 649, 666, 693, 720, 768, 775, 782, 819, 856, 913, 960, 987] nL_law k 400 819 _ _ _).trans rfl
set_option maxRecDepth 1000000 in
theorem eL_law_856 (k : Nat) (v3 : Int32) (σ : Sto) : R nL_law k 856 [.ref 99, .ref 0, .ref 30, .int v3] [] σ =
  if inb (v3 + 1) (σ 98 0).toNatClampNeg = true then
    if inb (v3 + 2) (σ 98 0).toNatClampNeg = true then
      if inb (v3 + 3) (σ 98 0).toNatClampNeg = true then
        if inb (v3 + 4) (σ 98 0).toNatClampNeg = true then
          if inb (v3 + 5) (σ 98 0).toNatClampNeg = true then
            (C nF_copy k [.ref 0, .int (σ 99 (v3 + 1).toNatClampNeg), .int (σ 99 (v3 + 2).toNatClampNeg), .int (σ 99 (v3 + 3).toNatClampNeg), .int (σ 99 (v3 + 4).toNatClampNeg), .int (σ 99 (v3 + 5).toNatClampNeg)] σ).bind fun r1 =>
              if inb (v3 + 1) (r1.2.2 98 0).toNatClampNeg = true then
                if inb (v3 + 2) (r1.2.2 98 0).toNatClampNeg = true then
                  if inb (v3 + 3) (r1.2.2 98 0).toNatClampNeg = true then
                    if inb (v3 + 4) (r1.2.2 98 0).toNatClampNeg = true then
                      if inb (v3 + 5) (r1.2.2 98 0).toNatClampNeg = true then
                        (C nM_copy k [.ref 30, .int (r1.2.2 99 (v3 + 1).toNatClampNeg), .int (r1.2.2 99 (v3 + 2).toNatClampNeg), .int (r1.2.2 99 (v3 + 3).toNatClampNeg), .int (r1.2.2 99 (v3 + 4).toNatClampNeg), .int (r1.2.2 99 (v3 + 5).toNatClampNeg)] r1.2.2).bind fun r2 =>
                          if r1.1 = r2.1 then
                            R nL_law k 987 [.ref 99, .ref 0, .ref 30, .int v3] [] r2.2.2
                          else
                            some (0, 0, r2.2.2)
                      else
                        none
                    else
                      none
                  else
                    none
                else
                  none
              else
                none
          else
            none
        else
          none
      else
        none
    else
      none
  else
    none := (unr_R [10, 22, 39, 66, 83, 150, 157, 174, 201, 228, 265, 292, 299, 326, 353, 380, 407, 434, 461, 478, 495, 513, 530, 567, 595, 612, 649, 666, 693, 720, 768, 775, 782, 819, 856, 913, 960, 987] nL_law k 400 856 _ _ _).trans rfl
theorem eL_law_913 (k : Nat) (v3 : Int32) (σ : Sto) : R nL_law k 913 [.ref 99, .ref 0, .ref 30, .int v3] [] σ =
  if inb (v3 + 1) (σ 98 0).toNatClampNeg = true then
    if inb (v3 + 2) (σ 98 0).toNatClampNeg = true then
      if inb (v3 + 3) (σ 98 0).toNatClampNeg = true then
        if inb (v3 + 4) (σ 98 0).toNatClampNeg = true then
          (C nF_peopleBy k [.ref 0, .int (σ 99 (v3 + 1).toNatClampNeg), .int (σ 99 (v3 + 2).toNatClampNeg), .int (σ 99 (v3 + 3).toNatClampNeg), .int (σ 99 (v3 + 4).toNatClampNeg)] σ).bind fun r1 =>
            if inb (v3 + 1) (r1.2.2 98 0).toNatClampNeg = true then
              if inb (v3 + 2) (r1.2.2 98 0).toNatClampNeg = true then
                if inb (v3 + 3) (r1.2.2 98 0).toNatClampNeg = true then
                  if inb (v3 + 4) (r1.2.2 98 0).toNatClampNeg = true then
                    (C nM_peopleBy k [.ref 30, .int (r1.2.2 99 (v3 + 1).toNatClampNeg), .int (r1.2.2 99 (v3 + 2).toNatClampNeg), .int (r1.2.2 99 (v3 + 3).toNatClampNeg), .int (r1.2.2 99 (v3 + 4).toNatClampNeg)] r1.2.2).bind fun r2 =>
                      if r1.1 = r2.1 then
                        R nL_law k 987 [.ref 99, .ref 0, .ref 30, .int v3] [] r2.2.2
                      else
                        some (0, 0, r2.2.2)
                  else
                    none
                else
                  none
              else
                none
            else
              none
        else
          none
      else
        none
    else
      none
  else
    none := (unr_R [10, 22, 39, 66, 83, 150, 157, 174, 201, 228, 265, 292, 299, 326, 353, 380, 407, 434, 461, 478, 495, 513, 530, 567, 595, 612, 649, 666, 693, 720, 768, 775, 782, 819, 856, 913, 960, 987] nL_law k 400 913 _ _ _).trans rfl
theorem eL_law_960 (k : Nat) (v3 : Int32) (σ : Sto) : R nL_law k 960 [.ref 99, .ref 0, .ref 30, .int v3] [] σ =
  if inb (v3 + 1) (σ 98 0).toNatClampNeg = true then
    if inb (v3 + 2) (σ 98 0).toNatClampNeg = true then
      (C nF_taken k [.ref 0, .int (σ 99 (v3 + 1).toNatClampNeg), .int (σ 99 (v3 + 2).toNatClampNeg)] σ).bind fun r1 =>
        if inb (v3 + 1) (r1.2.2 98 0).toNatClampNeg = true then
          if inb (v3 + 2) (r1.2.2 98 0).toNatClampNeg = true then
            (C nM_taken k [.ref 30, .int (r1.2.2 99 (v3 + 1).toNatClampNeg), .int (r1.2.2 99 (v3 + 2).toNatClampNeg)] r1.2.2).bind fun r2 =>
              if r1.1 = r2.1 then
                R nL_law k 987 [.ref 99, .ref 0, .ref 30, .int v3] [] r2.2.2
              else
                some (0, 0, r2.2.2)
          else
            none
        else
          none
    else
      none
  else
    none := (unr_R [10, 22, 39, 66, 83, 150, 157, 174, 201, 228, 265, 292, 299, 326, 353, 380, 407, 434, 461, 478, 495, 513, 530, 567, 595, 612, 649, 666, 693, 720, 768, 775, 782, 819, 856, 913, 960, 987] nL_law k 400 960 _ _ _).trans rfl
theorem eL_law_987 (k : Nat) (v3 : Int32) (σ : Sto) : R nL_law k 987 [.ref 99, .ref 0, .ref 30, .int v3] [] σ =
  R nL_law k 10 [.ref 99, .ref 0, .ref 30, .int (v3 + 7)] [] σ := (unr_R [10, 22, 39, 66, 83, 150, 157, 174, 201, 228, 265, 292, 299, 326, 353, 380, 407, 434, 461, 478, 495, 513, 530, 567, 595, 612, 649, 666, 693, 720, 768, 775, 782, 819, 856, 913, 960, 987] nL_law k 400 987 _ _ _).trans rfl
