/-! EQUATIONS of the methods 188 .. 188 -/
-- L_law
set_option maxRecDepth 1000000 in
theorem q188_10 (k : Nat) (v3 : Int32) (σ : Sto) : R 188 k 10 [.ref 99, .ref 0, .ref 30, .int v3] [] σ =
  if ((σ 98 0) - 7) < v3 then
    some (1, 0, σ)
  else
    if inb v3 (σ 98 0).toNatClampNeg = true then
      if ((σ 99 v3.toNatClampNeg) &&& 63) = 0 then
        R 188 k 22 [.ref 99, .ref 0, .ref 30, .int v3] [] σ
      else
        if ((σ 99 v3.toNatClampNeg) &&& 63) = 1 then
          R 188 k 39 [.ref 99, .ref 0, .ref 30, .int v3] [] σ
        else
          if ((σ 99 v3.toNatClampNeg) &&& 63) = 2 then
            R 188 k 66 [.ref 99, .ref 0, .ref 30, .int v3] [] σ
          else
            if ((σ 99 v3.toNatClampNeg) &&& 63) = 3 then
              R 188 k 83 [.ref 99, .ref 0, .ref 30, .int v3] [] σ
            else
              if ((σ 99 v3.toNatClampNeg) &&& 63) = 4 then
                R 188 k 150 [.ref 99, .ref 0, .ref 30, .int v3] [] σ
              else
                if ((σ 99 v3.toNatClampNeg) &&& 63) = 5 then
                  R 188 k 157 [.ref 99, .ref 0, .ref 30, .int v3] [] σ
                else
                  if ((σ 99 v3.toNatClampNeg) &&& 63) = 6 then
                    R 188 k 174 [.ref 99, .ref 0, .ref 30, .int v3] [] σ
                  else
                    if ((σ 99 v3.toNatClampNeg) &&& 63) = 7 then
                      R 188 k 201 [.ref 99, .ref 0, .ref 30, .int v3] [] σ
                    else
                      if ((σ 99 v3.toNatClampNeg) &&& 63) = 8 then
                        R 188 k 228 [.ref 99, .ref 0, .ref 30, .int v3] [] σ
                      else
                        if ((σ 99 v3.toNatClampNeg) &&& 63) = 9 then
                          R 188 k 265 [.ref 99, .ref 0, .ref 30, .int v3] [] σ
                        else
                          if ((σ 99 v3.toNatClampNeg) &&& 63) = 10 then
                            R 188 k 292 [.ref 99, .ref 0, .ref 30, .int v3] [] σ
                          else
                            if ((σ 99 v3.toNatClampNeg) &&& 63) = 11 then
                              R 188 k 299 [.ref 99, .ref 0, .ref 30, .int v3] [] σ
                            else
                              if ((σ 99 v3.toNatClampNeg) &&& 63) = 12 then
                                R 188 k 326 [.ref 99, .ref 0, .ref 30, .int v3] [] σ
                              else
                                if ((σ 99 v3.toNatClampNeg) &&& 63) = 13 then
                                  R 188 k 353 [.ref 99, .ref 0, .ref 30, .int v3] [] σ
                                else
                                  if ((σ 99 v3.toNatClampNeg) &&& 63) = 14 then
                                    R 188 k 380 [.ref 99, .ref 0, .ref 30, .int v3] [] σ
                                  else
                                    if ((σ 99 v3.toNatClampNeg) &&& 63) = 15 then
                                      R 188 k 407 [.ref 99, .ref 0, .ref 30, .int v3] [] σ
                                    else
                                      if ((σ 99 v3.toNatClampNeg) &&& 63) = 16 then
                                        R 188 k 434 [.ref 99, .ref 0, .ref 30, .int v3] [] σ
                                      else
                                        if ((σ 99 v3.toNatClampNeg) &&& 63) = 17 then
                                          R 188 k 461 [.ref 99, .ref 0, .ref 30, .int v3] [] σ
                                        else
                                          if ((σ 99 v3.toNatClampNeg) &&& 63) = 18 then
                                            R 188 k 478 [.ref 99, .ref 0, .ref 30, .int v3] [] σ
                                          else
                                            if ((σ 99 v3.toNatClampNeg) &&& 63) = 19 then
                                              R 188 k 495 [.ref 99, .ref 0, .ref 30, .int v3] [] σ
                                            else
                                              if ((σ 99 v3.toNatClampNeg) &&& 63) = 20 then
                                                R 188 k 513 [.ref 99, .ref 0, .ref 30, .int v3] [] σ
                                              else
                                                if ((σ 99 v3.toNatClampNeg) &&& 63) = 21 then
                                                  R 188 k 530 [.ref 99, .ref 0, .ref 30, .int v3] [] σ
                                                else
                                                  if ((σ 99 v3.toNatClampNeg) &&& 63) = 22 then
                                                    R 188 k 567 [.ref 99, .ref 0, .ref 30, .int v3] [] σ
                                                  else
                                                    if ((σ 99 v3.toNatClampNeg) &&& 63) = 23 then
                                                      R 188 k 595 [.ref 99, .ref 0, .ref 30, .int v3] [] σ
                                                    else
                                                      if ((σ 99 v3.toNatClampNeg) &&& 63) = 24 then
                                                        R 188 k 612 [.ref 99, .ref 0, .ref 30, .int v3] [] σ
                                                      else
                                                        if ((σ 99 v3.toNatClampNeg) &&& 63) = 25 then
                                                          R 188 k 649 [.ref 99, .ref 0, .ref 30, .int v3] [] σ
                                                        else
                                                          if ((σ 99 v3.toNatClampNeg) &&& 63) = 26 then
                                                            R 188 k 666 [.ref 99, .ref 0, .ref 30, .int v3] [] σ
                                                          else
                                                            if ((σ 99 v3.toNatClampNeg) &&& 63) = 27 then
                                                              R 188 k 693 [.ref 99, .ref 0, .ref 30, .int v3] [] σ
                                                            else
                                                              if ((σ 99 v3.toNatClampNeg) &&& 63) = 28 then
                                                                R 188 k 720 [.ref 99, .ref 0, .ref 30, .int v3] [] σ
                                                              else
                                                                if ((σ 99 v3.toNatClampNeg) &&& 63) = 29 then
                                                                  R 188 k 768 [.ref 99, .ref 0, .ref 30, .int v3] [] σ
                                                                else
                                                                  if ((σ 99 v3.toNatClampNeg) &&& 63) = 30 then
                                                                    R 188 k 775 [.ref 99, .ref 0, .ref 30, .int v3] [] σ
                                                                  else
                                                                    if ((σ 99 v3.toNatClampNeg) &&& 63) = 31 then
                                                                      R 188 k 782 [.ref 99, .ref 0, .ref 30, .int v3] [] σ
                                                                    else
                                                                      if ((σ 99 v3.toNatClampNeg) &&& 63) = 32 then
                                                                        R 188 k 819 [.ref 99, .ref 0, .ref 30, .int v3] [] σ
                                                                      else
                                                                        if ((σ 99 v3.toNatClampNeg) &&& 63) = 33 then
                                                                          R 188 k 856 [.ref 99, .ref 0, .ref 30, .int v3] [] σ
                                                                        else
                                                                          if ((σ 99 v3.toNatClampNeg) &&& 63) = 34 then
                                                                            R 188 k 913 [.ref 99, .ref 0, .ref 30, .int v3] [] σ
                                                                          else
                                                                            if ((σ 99 v3.toNatClampNeg) &&& 63) = 35 then
                                                                              R 188 k 960 [.ref 99, .ref 0, .ref 30, .int v3] [] σ
                                                                            else
                                                                              R 188 k 987 [.ref 99, .ref 0, .ref 30, .int v3] [] σ
    else
      none := (unr_R [10, 22, 39, 66, 83, 150, 157, 174, 201, 228, 265, 292, 299, 326, 353, 380, 407, 434, 461, 478, 495, 513, 530, 567, 595, 612, 649, 666, 693, 720, 768, 775, 782, 819, 856, 913, 960, 987] 188 k 400 10 _ _ _).trans rfl
theorem q188_22 (k : Nat) (v3 : Int32) (σ : Sto) : R 188 k 22 [.ref 99, .ref 0, .ref 30, .int v3] [] σ =
  if inb (v3 + 1) (σ 98 0).toNatClampNeg = true then
    (C 57 k [.ref 0, .int (σ 99 (v3 + 1).toNatClampNeg)] σ).bind fun r1 =>
      if inb (v3 + 1) (r1.2.2 98 0).toNatClampNeg = true then
        (C 116 k [.ref 30, .int (r1.2.2 99 (v3 + 1).toNatClampNeg)] r1.2.2).bind fun r2 =>
          if r1.1 = r2.1 then
            R 188 k 987 [.ref 99, .ref 0, .ref 30, .int v3] [] r2.2.2
          else
            some (0, 0, r2.2.2)
      else
        none
  else
    none := (unr_R [10, 22, 39, 66, 83, 150, 157, 174, 201, 228, 265, 292, 299, 326, 353, 380, 407, 434, 461, 478, 495, 513, 530, 567, 595, 612, 649, 666, 693, 720, 768, 775, 782, 819, 856, 913, 960, 987] 188 k 400 22 _ _ _).trans rfl
theorem q188_39 (k : Nat) (v3 : Int32) (σ : Sto) : R 188 k 39 [.ref 99, .ref 0, .ref 30, .int v3] [] σ =
  if inb (v3 + 1) (σ 98 0).toNatClampNeg = true then
    if inb (v3 + 2) (σ 98 0).toNatClampNeg = true then
      (C 58 k [.ref 0, .int (σ 99 (v3 + 1).toNatClampNeg), .int (σ 99 (v3 + 2).toNatClampNeg)] σ).bind fun r1 =>
        if inb (v3 + 1) (r1.2.2 98 0).toNatClampNeg = true then
          if inb (v3 + 2) (r1.2.2 98 0).toNatClampNeg = true then
            (C 117 k [.ref 30, .int (r1.2.2 99 (v3 + 1).toNatClampNeg), .int (r1.2.2 99 (v3 + 2).toNatClampNeg)] r1.2.2).bind fun r2 =>
              if r1.1 = r2.1 then
                R 188 k 987 [.ref 99, .ref 0, .ref 30, .int v3] [] r2.2.2
              else
                some (0, 0, r2.2.2)
          else
            none
        else
          none
    else
      none
  else
    none := (unr_R [10, 22, 39, 66, 83, 150, 157, 174, 201, 228, 265, 292, 299, 326, 353, 380, 407, 434, 461, 478, 495, 513, 530, 567, 595, 612, 649, 666, 693, 720, 768, 775, 782, 819, 856, 913, 960, 987] 188 k 400 39 _ _ _).trans rfl
theorem q188_66 (k : Nat) (v3 : Int32) (σ : Sto) : R 188 k 66 [.ref 99, .ref 0, .ref 30, .int v3] [] σ =
  if inb (v3 + 1) (σ 98 0).toNatClampNeg = true then
    (C 59 k [.ref 0, .int (σ 99 (v3 + 1).toNatClampNeg)] σ).bind fun r1 =>
      if inb (v3 + 1) (r1.2.2 98 0).toNatClampNeg = true then
        (C 118 k [.ref 30, .int (r1.2.2 99 (v3 + 1).toNatClampNeg)] r1.2.2).bind fun r2 =>
          if r1.1 = r2.1 then
            R 188 k 987 [.ref 99, .ref 0, .ref 30, .int v3] [] r2.2.2
          else
            some (0, 0, r2.2.2)
      else
        none
  else
    none := (unr_R [10, 22, 39, 66, 83, 150, 157, 174, 201, 228, 265, 292, 299, 326, 353, 380, 407, 434, 461, 478, 495, 513, 530, 567, 595, 612, 649, 666, 693, 720, 768, 775, 782, 819, 856, 913, 960, 987] 188 k 400 66 _ _ _).trans rfl
set_option maxRecDepth 1000000 in
theorem q188_83 (k : Nat) (v3 : Int32) (σ : Sto) : R 188 k 83 [.ref 99, .ref 0, .ref 30, .int v3] [] σ =
  if inb (v3 + 1) (σ 98 0).toNatClampNeg = true then
    if inb (v3 + 2) (σ 98 0).toNatClampNeg = true then
      if inb (v3 + 3) (σ 98 0).toNatClampNeg = true then
        if inb (v3 + 4) (σ 98 0).toNatClampNeg = true then
          if inb (v3 + 5) (σ 98 0).toNatClampNeg = true then
            if inb (v3 + 6) (σ 98 0).toNatClampNeg = true then
              (C 60 k [.ref 0, .int (σ 99 (v3 + 1).toNatClampNeg), .int (σ 99 (v3 + 2).toNatClampNeg), .int (σ 99 (v3 + 3).toNatClampNeg), .int (σ 99 (v3 + 4).toNatClampNeg), .int (σ 99 (v3 + 5).toNatClampNeg), .int (σ 99 (v3 + 6).toNatClampNeg)] σ).bind fun r1 =>
                if inb (v3 + 1) (r1.2.2 98 0).toNatClampNeg = true then
                  if inb (v3 + 2) (r1.2.2 98 0).toNatClampNeg = true then
                    if inb (v3 + 3) (r1.2.2 98 0).toNatClampNeg = true then
                      if inb (v3 + 4) (r1.2.2 98 0).toNatClampNeg = true then
                        if inb (v3 + 5) (r1.2.2 98 0).toNatClampNeg = true then
                          if inb (v3 + 6) (r1.2.2 98 0).toNatClampNeg = true then
                            (C 120 k [.ref 30, .int (r1.2.2 99 (v3 + 1).toNatClampNeg), .int (r1.2.2 99 (v3 + 2).toNatClampNeg), .int (r1.2.2 99 (v3 + 3).toNatClampNeg), .int (r1.2.2 99 (v3 + 4).toNatClampNeg), .int (r1.2.2 99 (v3 + 5).toNatClampNeg), .int (r1.2.2 99 (v3 + 6).toNatClampNeg)] r1.2.2).bind fun r2 =>
                              if r1.1 = r2.1 then
                                R 188 k 987 [.ref 99, .ref 0, .ref 30, .int v3] [] r2.2.2
                              else
                                some (0, 0, r2.2.2)
                          else
                            none
                        else
                          none
                      else
                        none
                    else
                      none
                  else
                    none
                else
                  none
            else
              none
          else
            none
        else
          none
      else
        none
    else
      none
  else
    none := (unr_R [10, 22, 39, 66, 83, 150, 157, 174, 201, 228, 265, 292, 299, 326, 353, 380, 407, 434, 461, 478, 495, 513, 530, 567, 595, 612, 649, 666, 693, 720, 768, 775, 782, 819, 856, 913, 960, 987] 188 k 400 83 _ _ _).trans rfl
theorem q188_150 (k : Nat) (v3 : Int32) (σ : Sto) : R 188 k 150 [.ref 99, .ref 0, .ref 30, .int v3] [] σ =
  (C 61 k [.ref 0] σ).bind fun r1 =>
    (C 131 k [.ref 30] r1.2.2).bind fun r2 =>
      if r1.1 = r2.1 then
        R 188 k 987 [.ref 99, .ref 0, .ref 30, .int v3] [] r2.2.2
      else
        some (0, 0, r2.2.2) := (unr_R [10, 22, 39, 66, 83, 150, 157, 174, 201, 228, 265, 292, 299, 326, 353, 380, 407, 434, 461, 478, 495, 513, 530, 567, 595, 612, 649, 666, 693, 720, 768, 775, 782, 819, 856, 913, 960, 987] 188 k 400 150 _ _ _).trans rfl
theorem q188_157 (k : Nat) (v3 : Int32) (σ : Sto) : R 188 k 157 [.ref 99, .ref 0, .ref 30, .int v3] [] σ =
  if inb (v3 + 1) (σ 98 0).toNatClampNeg = true then
    (C 62 k [.ref 0, .int (σ 99 (v3 + 1).toNatClampNeg)] σ).bind fun r1 =>
      if inb (v3 + 1) (r1.2.2 98 0).toNatClampNeg = true then
        (C 134 k [.ref 30, .int (r1.2.2 99 (v3 + 1).toNatClampNeg)] r1.2.2).bind fun r2 =>
          if r1.1 = r2.1 then
            R 188 k 987 [.ref 99, .ref 0, .ref 30, .int v3] [] r2.2.2
          else
            some (0, 0, r2.2.2)
      else
        none
  else
    none := (unr_R [10, 22, 39, 66, 83, 150, 157, 174, 201, 228, 265, 292, 299, 326, 353, 380, 407, 434, 461, 478, 495, 513, 530, 567, 595, 612, 649, 666, 693, 720, 768, 775, 782, 819, 856, 913, 960, 987] 188 k 400 157 _ _ _).trans rfl
theorem q188_174 (k : Nat) (v3 : Int32) (σ : Sto) : R 188 k 174 [.ref 99, .ref 0, .ref 30, .int v3] [] σ =
  if inb (v3 + 1) (σ 98 0).toNatClampNeg = true then
    if inb (v3 + 2) (σ 98 0).toNatClampNeg = true then
      (C 63 k [.ref 0, .int (σ 99 (v3 + 1).toNatClampNeg), .int (σ 99 (v3 + 2).toNatClampNeg)] σ).bind fun r1 =>
        if inb (v3 + 1) (r1.2.2 98 0).toNatClampNeg = true then
          if inb (v3 + 2) (r1.2.2 98 0).toNatClampNeg = true then
            (C 136 k [.ref 30, .int (r1.2.2 99 (v3 + 1).toNatClampNeg), .int (r1.2.2 99 (v3 + 2).toNatClampNeg)] r1.2.2).bind fun r2 =>
              if r1.1 = r2.1 then
                R 188 k 987 [.ref 99, .ref 0, .ref 30, .int v3] [] r2.2.2
              else
                some (0, 0, r2.2.2)
          else
            none
        else
          none
    else
      none
  else
    none := (unr_R [10, 22, 39, 66, 83, 150, 157, 174, 201, 228, 265, 292, 299, 326, 353, 380, 407, 434, 461, 478, 495, 513, 530, 567, 595, 612, 649, 666, 693, 720, 768, 775, 782, 819, 856, 913, 960, 987] 188 k 400 174 _ _ _).trans rfl
theorem q188_201 (k : Nat) (v3 : Int32) (σ : Sto) : R 188 k 201 [.ref 99, .ref 0, .ref 30, .int v3] [] σ =
  if inb (v3 + 1) (σ 98 0).toNatClampNeg = true then
    if inb (v3 + 2) (σ 98 0).toNatClampNeg = true then
      (C 64 k [.ref 0, .int (σ 99 (v3 + 1).toNatClampNeg), .int (σ 99 (v3 + 2).toNatClampNeg)] σ).bind fun r1 =>
        if inb (v3 + 1) (r1.2.2 98 0).toNatClampNeg = true then
          if inb (v3 + 2) (r1.2.2 98 0).toNatClampNeg = true then
            (C 137 k [.ref 30, .int (r1.2.2 99 (v3 + 1).toNatClampNeg), .int (r1.2.2 99 (v3 + 2).toNatClampNeg)] r1.2.2).bind fun r2 =>
              if r1.1 = r2.1 then
                R 188 k 987 [.ref 99, .ref 0, .ref 30, .int v3] [] r2.2.2
              else
                some (0, 0, r2.2.2)
          else
            none
        else
          none
    else
      none
  else
    none := (unr_R [10, 22, 39, 66, 83, 150, 157, 174, 201, 228, 265, 292, 299, 326, 353, 380, 407, 434, 461, 478, 495, 513, 530, 567, 595, 612, 649, 666, 693, 720, 768, 775, 782, 819, 856, 913, 960, 987] 188 k 400 201 _ _ _).trans rfl
theorem q188_228 (k : Nat) (v3 : Int32) (σ : Sto) : R 188 k 228 [.ref 99, .ref 0, .ref 30, .int v3] [] σ =
  if inb (v3 + 1) (σ 98 0).toNatClampNeg = true then
    if inb (v3 + 2) (σ 98 0).toNatClampNeg = true then
      if inb (v3 + 3) (σ 98 0).toNatClampNeg = true then
        (C 65 k [.ref 0, .int (σ 99 (v3 + 1).toNatClampNeg), .int (σ 99 (v3 + 2).toNatClampNeg), .int (σ 99 (v3 + 3).toNatClampNeg)] σ).bind fun r1 =>
          if inb (v3 + 1) (r1.2.2 98 0).toNatClampNeg = true then
            if inb (v3 + 2) (r1.2.2 98 0).toNatClampNeg = true then
              if inb (v3 + 3) (r1.2.2 98 0).toNatClampNeg = true then
                (C 138 k [.ref 30, .int (r1.2.2 99 (v3 + 1).toNatClampNeg), .int (r1.2.2 99 (v3 + 2).toNatClampNeg), .int (r1.2.2 99 (v3 + 3).toNatClampNeg)] r1.2.2).bind fun r2 =>
                  if r1.1 = r2.1 then
                    R 188 k 987 [.ref 99, .ref 0, .ref 30, .int v3] [] r2.2.2
                  else
                    some (0, 0, r2.2.2)
              else
                none
            else
              none
          else
            none
      else
        none
    else
      none
  else
    none := (unr_R [10, 22, 39, 66, 83, 150, 157, 174, 201, 228, 265, 292, 299, 326, 353, 380, 407, 434, 461, 478, 495, 513, 530, 567, 595, 612, 649, 666, 693, 720, 768, 775, 782, 819, 856, 913, 960, 987] 188 k 400 228 _ _ _).trans rfl
theorem q188_265 (k : Nat) (v3 : Int32) (σ : Sto) : R 188 k 265 [.ref 99, .ref 0, .ref 30, .int v3] [] σ =
  if inb (v3 + 1) (σ 98 0).toNatClampNeg = true then
    if inb (v3 + 2) (σ 98 0).toNatClampNeg = true then
      (C 66 k [.ref 0, .int (σ 99 (v3 + 1).toNatClampNeg), .int (σ 99 (v3 + 2).toNatClampNeg)] σ).bind fun r1 =>
        if inb (v3 + 1) (r1.2.2 98 0).toNatClampNeg = true then
          if inb (v3 + 2) (r1.2.2 98 0).toNatClampNeg = true then
            (C 146 k [.ref 30, .int (r1.2.2 99 (v3 + 1).toNatClampNeg), .int (r1.2.2 99 (v3 + 2).toNatClampNeg)] r1.2.2).bind fun r2 =>
              if r1.1 = r2.1 then
                R 188 k 987 [.ref 99, .ref 0, .ref 30, .int v3] [] r2.2.2
              else
                some (0, 0, r2.2.2)
          else
            none
        else
          none
    else
      none
  else
    none := (unr_R [10, 22, 39, 66, 83, 150, 157, 174, 201, 228, 265, 292, 299, 326, 353, 380, 407, 434, 461, 478, 495, 513, 530, 567, 595, 612, 649, 666, 693, 720, 768, 775, 782, 819, 856, 913, 960, 987] 188 k 400 265 _ _ _).trans rfl
theorem q188_292 (k : Nat) (v3 : Int32) (σ : Sto) : R 188 k 292 [.ref 99, .ref 0, .ref 30, .int v3] [] σ =
  (C 67 k [.ref 0] σ).bind fun r1 =>
    (C 149 k [.ref 30] r1.2.2).bind fun r2 =>
      if r1.1 = r2.1 then
        R 188 k 987 [.ref 99, .ref 0, .ref 30, .int v3] [] r2.2.2
      else
        some (0, 0, r2.2.2) := (unr_R [10, 22, 39, 66, 83, 150, 157, 174, 201, 228, 265, 292, 299, 326, 353, 380, 407, 434, 461, 478, 495, 513, 530, 567, 595, 612, 649, 666, 693, 720, 768, 775, 782, 819, 856, 913, 960, 987] 188 k 400 292 _ _ _).trans rfl
theorem q188_299 (k : Nat) (v3 : Int32) (σ : Sto) : R 188 k 299 [.ref 99, .ref 0, .ref 30, .int v3] [] σ =
  if inb (v3 + 1) (σ 98 0).toNatClampNeg = true then
    if inb (v3 + 2) (σ 98 0).toNatClampNeg = true then
      (C 68 k [.ref 0, .int (σ 99 (v3 + 1).toNatClampNeg), .int (σ 99 (v3 + 2).toNatClampNeg)] σ).bind fun r1 =>
        if inb (v3 + 1) (r1.2.2 98 0).toNatClampNeg = true then
          if inb (v3 + 2) (r1.2.2 98 0).toNatClampNeg = true then
            (C 150 k [.ref 30, .int (r1.2.2 99 (v3 + 1).toNatClampNeg), .int (r1.2.2 99 (v3 + 2).toNatClampNeg)] r1.2.2).bind fun r2 =>
              if r1.1 = r2.1 then
                R 188 k 987 [.ref 99, .ref 0, .ref 30, .int v3] [] r2.2.2
              else
                some (0, 0, r2.2.2)
          else
            none
        else
          none
    else
      none
  else
    none := (unr_R [10, 22, 39, 66, 83, 150, 157, 174, 201, 228, 265, 292, 299, 326, 353, 380, 407, 434, 461, 478, 495, 513, 530, 567, 595, 612, 649, 666, 693, 720, 768, 775, 782, 819, 856, 913, 960, 987] 188 k 400 299 _ _ _).trans rfl
theorem q188_326 (k : Nat) (v3 : Int32) (σ : Sto) : R 188 k 326 [.ref 99, .ref 0, .ref 30, .int v3] [] σ =
  if inb (v3 + 1) (σ 98 0).toNatClampNeg = true then
    if inb (v3 + 2) (σ 98 0).toNatClampNeg = true then
      (C 69 k [.ref 0, .int (σ 99 (v3 + 1).toNatClampNeg), .int (σ 99 (v3 + 2).toNatClampNeg)] σ).bind fun r1 =>
        if inb (v3 + 1) (r1.2.2 98 0).toNatClampNeg = true then
          if inb (v3 + 2) (r1.2.2 98 0).toNatClampNeg = true then
            (C 154 k [.ref 30, .int (r1.2.2 99 (v3 + 1).toNatClampNeg), .int (r1.2.2 99 (v3 + 2).toNatClampNeg)] r1.2.2).bind fun r2 =>
              if r1.1 = r2.1 then
                R 188 k 987 [.ref 99, .ref 0, .ref 30, .int v3] [] r2.2.2
              else
                some (0, 0, r2.2.2)
          else
            none
        else
          none
    else
      none
  else
    none := (unr_R [10, 22, 39, 66, 83, 150, 157, 174, 201, 228, 265, 292, 299, 326, 353, 380, 407, 434, 461, 478, 495, 513, 530, 567, 595, 612, 649, 666, 693, 720, 768, 775, 782, 819, 856, 913, 960, 987] 188 k 400 326 _ _ _).trans rfl
theorem q188_353 (k : Nat) (v3 : Int32) (σ : Sto) : R 188 k 353 [.ref 99, .ref 0, .ref 30, .int v3] [] σ =
  if inb (v3 + 1) (σ 98 0).toNatClampNeg = true then
    if inb (v3 + 2) (σ 98 0).toNatClampNeg = true then
      (C 70 k [.ref 0, .int (σ 99 (v3 + 1).toNatClampNeg), .int (σ 99 (v3 + 2).toNatClampNeg)] σ).bind fun r1 =>
        if inb (v3 + 1) (r1.2.2 98 0).toNatClampNeg = true then
          if inb (v3 + 2) (r1.2.2 98 0).toNatClampNeg = true then
            (C 157 k [.ref 30, .int (r1.2.2 99 (v3 + 1).toNatClampNeg), .int (r1.2.2 99 (v3 + 2).toNatClampNeg)] r1.2.2).bind fun r2 =>
              if r1.1 = r2.1 then
                R 188 k 987 [.ref 99, .ref 0, .ref 30, .int v3] [] r2.2.2
              else
                some (0, 0, r2.2.2)
          else
            none
        else
          none
    else
      none
  else
    none := (unr_R [10, 22, 39, 66, 83, 150, 157, 174, 201, 228, 265, 292, 299, 326, 353, 380, 407, 434, 461, 478, 495, 513, 530, 567, 595, 612, 649, 666, 693, 720, 768, 775, 782, 819, 856, 913, 960, 987] 188 k 400 353 _ _ _).trans rfl
theorem q188_380 (k : Nat) (v3 : Int32) (σ : Sto) : R 188 k 380 [.ref 99, .ref 0, .ref 30, .int v3] [] σ =
  if inb (v3 + 1) (σ 98 0).toNatClampNeg = true then
    if inb (v3 + 2) (σ 98 0).toNatClampNeg = true then
      (C 71 k [.ref 0, .int (σ 99 (v3 + 1).toNatClampNeg), .int (σ 99 (v3 + 2).toNatClampNeg)] σ).bind fun r1 =>
        if inb (v3 + 1) (r1.2.2 98 0).toNatClampNeg = true then
          if inb (v3 + 2) (r1.2.2 98 0).toNatClampNeg = true then
            (C 159 k [.ref 30, .int (r1.2.2 99 (v3 + 1).toNatClampNeg), .int (r1.2.2 99 (v3 + 2).toNatClampNeg)] r1.2.2).bind fun r2 =>
              if r1.1 = r2.1 then
                R 188 k 987 [.ref 99, .ref 0, .ref 30, .int v3] [] r2.2.2
              else
                some (0, 0, r2.2.2)
          else
            none
        else
          none
    else
      none
  else
    none := (unr_R [10, 22, 39, 66, 83, 150, 157, 174, 201, 228, 265, 292, 299, 326, 353, 380, 407, 434, 461, 478, 495, 513, 530, 567, 595, 612, 649, 666, 693, 720, 768, 775, 782, 819, 856, 913, 960, 987] 188 k 400 380 _ _ _).trans rfl
theorem q188_407 (k : Nat) (v3 : Int32) (σ : Sto) : R 188 k 407 [.ref 99, .ref 0, .ref 30, .int v3] [] σ =
  if inb (v3 + 1) (σ 98 0).toNatClampNeg = true then
    if inb (v3 + 2) (σ 98 0).toNatClampNeg = true then
      (C 72 k [.ref 0, .int (σ 99 (v3 + 1).toNatClampNeg), .int (σ 99 (v3 + 2).toNatClampNeg)] σ).bind fun r1 =>
        if inb (v3 + 1) (r1.2.2 98 0).toNatClampNeg = true then
          if inb (v3 + 2) (r1.2.2 98 0).toNatClampNeg = true then
            (C 160 k [.ref 30, .int (r1.2.2 99 (v3 + 1).toNatClampNeg), .int (r1.2.2 99 (v3 + 2).toNatClampNeg)] r1.2.2).bind fun r2 =>
              if r1.1 = r2.1 then
                R 188 k 987 [.ref 99, .ref 0, .ref 30, .int v3] [] r2.2.2
              else
                some (0, 0, r2.2.2)
          else
            none
        else
          none
    else
      none
  else
    none := (unr_R [10, 22, 39, 66, 83, 150, 157, 174, 201, 228, 265, 292, 299, 326, 353, 380, 407, 434, 461, 478, 495, 513, 530, 567, 595, 612, 649, 666, 693, 720, 768, 775, 782, 819, 856, 913, 960, 987] 188 k 400 407 _ _ _).trans rfl
theorem q188_434 (k : Nat) (v3 : Int32) (σ : Sto) : R 188 k 434 [.ref 99, .ref 0, .ref 30, .int v3] [] σ =
  if inb (v3 + 1) (σ 98 0).toNatClampNeg = true then
    if inb (v3 + 2) (σ 98 0).toNatClampNeg = true then
      (C 73 k [.ref 0, .int (σ 99 (v3 + 1).toNatClampNeg), .int (σ 99 (v3 + 2).toNatClampNeg)] σ).bind fun r1 =>
        if inb (v3 + 1) (r1.2.2 98 0).toNatClampNeg = true then
          if inb (v3 + 2) (r1.2.2 98 0).toNatClampNeg = true then
            (C 161 k [.ref 30, .int (r1.2.2 99 (v3 + 1).toNatClampNeg), .int (r1.2.2 99 (v3 + 2).toNatClampNeg)] r1.2.2).bind fun r2 =>
              if r1.1 = r2.1 then
                R 188 k 987 [.ref 99, .ref 0, .ref 30, .int v3] [] r2.2.2
              else
                some (0, 0, r2.2.2)
          else
            none
        else
          none
    else
      none
  else
    none := (unr_R [10, 22, 39, 66, 83, 150, 157, 174, 201, 228, 265, 292, 299, 326, 353, 380, 407, 434, 461, 478, 495, 513, 530, 567, 595, 612, 649, 666, 693, 720, 768, 775, 782, 819, 856, 913, 960, 987] 188 k 400 434 _ _ _).trans rfl
theorem q188_461 (k : Nat) (v3 : Int32) (σ : Sto) : R 188 k 461 [.ref 99, .ref 0, .ref 30, .int v3] [] σ =
  if inb (v3 + 1) (σ 98 0).toNatClampNeg = true then
    (C 74 k [.ref 0, .int (σ 99 (v3 + 1).toNatClampNeg)] σ).bind fun r1 =>
      if inb (v3 + 1) (r1.2.2 98 0).toNatClampNeg = true then
        (C 163 k [.ref 30, .int (r1.2.2 99 (v3 + 1).toNatClampNeg)] r1.2.2).bind fun r2 =>
          if r1.1 = r2.1 then
            R 188 k 987 [.ref 99, .ref 0, .ref 30, .int v3] [] r2.2.2
          else
            some (0, 0, r2.2.2)
      else
        none
  else
    none := (unr_R [10, 22, 39, 66, 83, 150, 157, 174, 201, 228, 265, 292, 299, 326, 353, 380, 407, 434, 461, 478, 495, 513, 530, 567, 595, 612, 649, 666, 693, 720, 768, 775, 782, 819, 856, 913, 960, 987] 188 k 400 461 _ _ _).trans rfl
theorem q188_478 (k : Nat) (v3 : Int32) (σ : Sto) : R 188 k 478 [.ref 99, .ref 0, .ref 30, .int v3] [] σ =
  if inb (v3 + 1) (σ 98 0).toNatClampNeg = true then
    (C 75 k [.ref 0, .int (σ 99 (v3 + 1).toNatClampNeg)] σ).bind fun r1 =>
      if inb (v3 + 1) (r1.2.2 98 0).toNatClampNeg = true then
        (C 165 k [.ref 30, .int (r1.2.2 99 (v3 + 1).toNatClampNeg)] r1.2.2).bind fun r2 =>
          if r1.1 = r2.1 then
            R 188 k 987 [.ref 99, .ref 0, .ref 30, .int v3] [] r2.2.2
          else
            some (0, 0, r2.2.2)
      else
        none
  else
    none := (unr_R [10, 22, 39, 66, 83, 150, 157, 174, 201, 228, 265, 292, 299, 326, 353, 380, 407, 434, 461, 478, 495, 513, 530, 567, 595, 612, 649, 666, 693, 720, 768, 775, 782, 819, 856, 913, 960, 987] 188 k 400 478 _ _ _).trans rfl
theorem q188_495 (k : Nat) (v3 : Int32) (σ : Sto) : R 188 k 495 [.ref 99, .ref 0, .ref 30, .int v3] [] σ =
  if inb (v3 + 1) (σ 98 0).toNatClampNeg = true then
    (C 76 k [.ref 0, .int (σ 99 (v3 + 1).toNatClampNeg)] σ).bind fun r1 =>
      if inb (v3 + 1) (r1.2.2 98 0).toNatClampNeg = true then
        (C 167 k [.ref 30, .int (r1.2.2 99 (v3 + 1).toNatClampNeg)] r1.2.2).bind fun r2 =>
          if (lg_cmp r1.2.1 r2.2.1) = 0 then
            R 188 k 987 [.ref 99, .ref 0, .ref 30, .int v3] [] r2.2.2
          else
            some (0, 0, r2.2.2)
      else
        none
  else
    none := (unr_R [10, 22, 39, 66, 83, 150, 157, 174, 201, 228, 265, 292, 299, 326, 353, 380, 407, 434, 461, 478, 495, 513, 530, 567, 595, 612, 649, 666, 693, 720, 768, 775, 782, 819, 856, 913, 960, 987] 188 k 400 495 _ _ _).trans rfl
theorem q188_513 (k : Nat) (v3 : Int32) (σ : Sto) : R 188 k 513 [.ref 99, .ref 0, .ref 30, .int v3] [] σ =
  if inb (v3 + 1) (σ 98 0).toNatClampNeg = true then
    (C 77 k [.ref 0, .int (σ 99 (v3 + 1).toNatClampNeg)] σ).bind fun r1 =>
      if inb (v3 + 1) (r1.2.2 98 0).toNatClampNeg = true then
        (C 170 k [.ref 30, .int (r1.2.2 99 (v3 + 1).toNatClampNeg)] r1.2.2).bind fun r2 =>
          if r1.1 = r2.1 then
            R 188 k 987 [.ref 99, .ref 0, .ref 30, .int v3] [] r2.2.2
          else
            some (0, 0, r2.2.2)
      else
        none
  else
    none := (unr_R [10, 22, 39, 66, 83, 150, 157, 174, 201, 228, 265, 292, 299, 326, 353, 380, 407, 434, 461, 478, 495, 513, 530, 567, 595, 612, 649, 666, 693, 720, 768, 775, 782, 819, 856, 913, 960, 987] 188 k 400 513 _ _ _).trans rfl
theorem q188_530 (k : Nat) (v3 : Int32) (σ : Sto) : R 188 k 530 [.ref 99, .ref 0, .ref 30, .int v3] [] σ =
  if inb (v3 + 1) (σ 98 0).toNatClampNeg = true then
    if inb (v3 + 2) (σ 98 0).toNatClampNeg = true then
      if inb (v3 + 3) (σ 98 0).toNatClampNeg = true then
        (C 78 k [.ref 0, .int (σ 99 (v3 + 1).toNatClampNeg), .int (σ 99 (v3 + 2).toNatClampNeg), .int (σ 99 (v3 + 3).toNatClampNeg)] σ).bind fun r1 =>
          if inb (v3 + 1) (r1.2.2 98 0).toNatClampNeg = true then
            if inb (v3 + 2) (r1.2.2 98 0).toNatClampNeg = true then
              if inb (v3 + 3) (r1.2.2 98 0).toNatClampNeg = true then
                (C 171 k [.ref 30, .int (r1.2.2 99 (v3 + 1).toNatClampNeg), .int (r1.2.2 99 (v3 + 2).toNatClampNeg), .int (r1.2.2 99 (v3 + 3).toNatClampNeg)] r1.2.2).bind fun r2 =>
                  if r1.1 = r2.1 then
                    R 188 k 987 [.ref 99, .ref 0, .ref 30, .int v3] [] r2.2.2
                  else
                    some (0, 0, r2.2.2)
              else
                none
            else
              none
          else
            none
      else
        none
    else
      none
  else
    none := (unr_R [10, 22, 39, 66, 83, 150, 157, 174, 201, 228, 265, 292, 299, 326, 353, 380, 407, 434, 461, 478, 495, 513, 530, 567, 595, 612, 649, 666, 693, 720, 768, 775, 782, 819, 856, 913, 960, 987] 188 k 400 530 _ _ _).trans rfl
theorem q188_567 (k : Nat) (v3 : Int32) (σ : Sto) : R 188 k 567 [.ref 99, .ref 0, .ref 30, .int v3] [] σ =
  if inb (v3 + 1) (σ 98 0).toNatClampNeg = true then
    if inb (v3 + 2) (σ 98 0).toNatClampNeg = true then
      (C 79 k [.ref 0, .int (σ 99 (v3 + 1).toNatClampNeg), .int (σ 99 (v3 + 2).toNatClampNeg)] σ).bind fun r1 =>
        if inb (v3 + 1) (r1.2.2 98 0).toNatClampNeg = true then
          if inb (v3 + 2) (r1.2.2 98 0).toNatClampNeg = true then
            (C 172 k [.ref 30, .int (r1.2.2 99 (v3 + 1).toNatClampNeg), .int (r1.2.2 99 (v3 + 2).toNatClampNeg)] r1.2.2).bind fun r2 =>
              if (lg_cmp r1.2.1 r2.2.1) = 0 then
                R 188 k 987 [.ref 99, .ref 0, .ref 30, .int v3] [] r2.2.2
              else
                some (0, 0, r2.2.2)
          else
            none
        else
          none
    else
      none
  else
    none := (unr_R [10, 22, 39, 66, 83, 150, 157, 174, 201, 228, 265, 292, 299, 326, 353, 380, 407, 434, 461, 478, 495, 513, 530, 567, 595, 612, 649, 666, 693, 720, 768, 775, 782, 819, 856, 913, 960, 987] 188 k 400 567 _ _ _).trans rfl
theorem q188_595 (k : Nat) (v3 : Int32) (σ : Sto) : R 188 k 595 [.ref 99, .ref 0, .ref 30, .int v3] [] σ =
  if inb (v3 + 1) (σ 98 0).toNatClampNeg = true then
    (C 80 k [.ref 0, .int (σ 99 (v3 + 1).toNatClampNeg)] σ).bind fun r1 =>
      if inb (v3 + 1) (r1.2.2 98 0).toNatClampNeg = true then
        (C 173 k [.ref 30, .int (r1.2.2 99 (v3 + 1).toNatClampNeg)] r1.2.2).bind fun r2 =>
          if r1.1 = r2.1 then
            R 188 k 987 [.ref 99, .ref 0, .ref 30, .int v3] [] r2.2.2
          else
            some (0, 0, r2.2.2)
      else
        none
  else
    none := (unr_R [10, 22, 39, 66, 83, 150, 157, 174, 201, 228, 265, 292, 299, 326, 353, 380, 407, 434, 461, 478, 495, 513, 530, 567, 595, 612, 649, 666, 693, 720, 768, 775, 782, 819, 856, 913, 960, 987] 188 k 400 595 _ _ _).trans rfl
theorem q188_612 (k : Nat) (v3 : Int32) (σ : Sto) : R 188 k 612 [.ref 99, .ref 0, .ref 30, .int v3] [] σ =
  if inb (v3 + 1) (σ 98 0).toNatClampNeg = true then
    if inb (v3 + 2) (σ 98 0).toNatClampNeg = true then
      if inb (v3 + 3) (σ 98 0).toNatClampNeg = true then
        (C 81 k [.ref 0, .int (σ 99 (v3 + 1).toNatClampNeg), .int (σ 99 (v3 + 2).toNatClampNeg), .int (σ 99 (v3 + 3).toNatClampNeg)] σ).bind fun r1 =>
          if inb (v3 + 1) (r1.2.2 98 0).toNatClampNeg = true then
            if inb (v3 + 2) (r1.2.2 98 0).toNatClampNeg = true then
              if inb (v3 + 3) (r1.2.2 98 0).toNatClampNeg = true then
                (C 174 k [.ref 30, .int (r1.2.2 99 (v3 + 1).toNatClampNeg), .int (r1.2.2 99 (v3 + 2).toNatClampNeg), .int (r1.2.2 99 (v3 + 3).toNatClampNeg)] r1.2.2).bind fun r2 =>
                  if r1.1 = r2.1 then
                    R 188 k 987 [.ref 99, .ref 0, .ref 30, .int v3] [] r2.2.2
                  else
                    some (0, 0, r2.2.2)
              else
                none
            else
              none
          else
            none
      else
        none
    else
      none
  else
    none := (unr_R [10, 22, 39, 66, 83, 150, 157, 174, 201, 228, 265, 292, 299, 326, 353, 380, 407, 434, 461, 478, 495, 513, 530, 567, 595, 612, 649, 666, 693, 720, 768, 775, 782, 819, 856, 913, 960, 987] 188 k 400 612 _ _ _).trans rfl
theorem q188_649 (k : Nat) (v3 : Int32) (σ : Sto) : R 188 k 649 [.ref 99, .ref 0, .ref 30, .int v3] [] σ =
  if inb (v3 + 1) (σ 98 0).toNatClampNeg = true then
    (C 82 k [.ref 0, .int (σ 99 (v3 + 1).toNatClampNeg)] σ).bind fun r1 =>
      if inb (v3 + 1) (r1.2.2 98 0).toNatClampNeg = true then
        (C 175 k [.ref 30, .int (r1.2.2 99 (v3 + 1).toNatClampNeg)] r1.2.2).bind fun r2 =>
          if r1.1 = r2.1 then
            R 188 k 987 [.ref 99, .ref 0, .ref 30, .int v3] [] r2.2.2
          else
            some (0, 0, r2.2.2)
      else
        none
  else
    none := (unr_R [10, 22, 39, 66, 83, 150, 157, 174, 201, 228, 265, 292, 299, 326, 353, 380, 407, 434, 461, 478, 495, 513, 530, 567, 595, 612, 649, 666, 693, 720, 768, 775, 782, 819, 856, 913, 960, 987] 188 k 400 649 _ _ _).trans rfl
theorem q188_666 (k : Nat) (v3 : Int32) (σ : Sto) : R 188 k 666 [.ref 99, .ref 0, .ref 30, .int v3] [] σ =
  if inb (v3 + 1) (σ 98 0).toNatClampNeg = true then
    if inb (v3 + 2) (σ 98 0).toNatClampNeg = true then
      (C 83 k [.ref 0, .int (σ 99 (v3 + 1).toNatClampNeg), .int (σ 99 (v3 + 2).toNatClampNeg)] σ).bind fun r1 =>
        if inb (v3 + 1) (r1.2.2 98 0).toNatClampNeg = true then
          if inb (v3 + 2) (r1.2.2 98 0).toNatClampNeg = true then
            (C 176 k [.ref 30, .int (r1.2.2 99 (v3 + 1).toNatClampNeg), .int (r1.2.2 99 (v3 + 2).toNatClampNeg)] r1.2.2).bind fun r2 =>
              if r1.1 = r2.1 then
                R 188 k 987 [.ref 99, .ref 0, .ref 30, .int v3] [] r2.2.2
              else
                some (0, 0, r2.2.2)
          else
            none
        else
          none
    else
      none
  else
    none := (unr_R [10, 22, 39, 66, 83, 150, 157, 174, 201, 228, 265, 292, 299, 326, 353, 380, 407, 434, 461, 478, 495, 513, 530, 567, 595, 612, 649, 666, 693, 720, 768, 775, 782, 819, 856, 913, 960, 987] 188 k 400 666 _ _ _).trans rfl
theorem q188_693 (k : Nat) (v3 : Int32) (σ : Sto) : R 188 k 693 [.ref 99, .ref 0, .ref 30, .int v3] [] σ =
  if inb (v3 + 1) (σ 98 0).toNatClampNeg = true then
    if inb (v3 + 2) (σ 98 0).toNatClampNeg = true then
      (C 84 k [.ref 0, .int (σ 99 (v3 + 1).toNatClampNeg), .int (σ 99 (v3 + 2).toNatClampNeg)] σ).bind fun r1 =>
        if inb (v3 + 1) (r1.2.2 98 0).toNatClampNeg = true then
          if inb (v3 + 2) (r1.2.2 98 0).toNatClampNeg = true then
            (C 178 k [.ref 30, .int (r1.2.2 99 (v3 + 1).toNatClampNeg), .int (r1.2.2 99 (v3 + 2).toNatClampNeg)] r1.2.2).bind fun r2 =>
              if r1.1 = r2.1 then
                R 188 k 987 [.ref 99, .ref 0, .ref 30, .int v3] [] r2.2.2
              else
                some (0, 0, r2.2.2)
          else
            none
        else
          none
    else
      none
  else
    none := (unr_R [10, 22, 39, 66, 83, 150, 157, 174, 201, 228, 265, 292, 299, 326, 353, 380, 407, 434, 461, 478, 495, 513, 530, 567, 595, 612, 649, 666, 693, 720, 768, 775, 782, 819, 856, 913, 960, 987] 188 k 400 693 _ _ _).trans rfl
theorem q188_720 (k : Nat) (v3 : Int32) (σ : Sto) : R 188 k 720 [.ref 99, .ref 0, .ref 30, .int v3] [] σ =
  if inb (v3 + 1) (σ 98 0).toNatClampNeg = true then
    if inb (v3 + 2) (σ 98 0).toNatClampNeg = true then
      if inb (v3 + 3) (σ 98 0).toNatClampNeg = true then
        if inb (v3 + 4) (σ 98 0).toNatClampNeg = true then
          (C 85 k [.ref 0, .int (σ 99 (v3 + 1).toNatClampNeg), .int (σ 99 (v3 + 2).toNatClampNeg), .int (σ 99 (v3 + 3).toNatClampNeg), .int (σ 99 (v3 + 4).toNatClampNeg)] σ).bind fun r1 =>
            if inb (v3 + 1) (r1.2.2 98 0).toNatClampNeg = true then
              if inb (v3 + 2) (r1.2.2 98 0).toNatClampNeg = true then
                if inb (v3 + 3) (r1.2.2 98 0).toNatClampNeg = true then
                  if inb (v3 + 4) (r1.2.2 98 0).toNatClampNeg = true then
                    (C 179 k [.ref 30, .int (r1.2.2 99 (v3 + 1).toNatClampNeg), .int (r1.2.2 99 (v3 + 2).toNatClampNeg), .int (r1.2.2 99 (v3 + 3).toNatClampNeg), .int (r1.2.2 99 (v3 + 4).toNatClampNeg)] r1.2.2).bind fun r2 =>
                      if (lg_cmp r1.2.1 r2.2.1) = 0 then
                        R 188 k 987 [.ref 99, .ref 0, .ref 30, .int v3] [] r2.2.2
                      else
                        some (0, 0, r2.2.2)
                  else
                    none
                else
                  none
              else
                none
            else
              none
        else
          none
      else
        none
    else
      none
  else
    none := (unr_R [10, 22, 39, 66, 83, 150, 157, 174, 201, 228, 265, 292, 299, 326, 353, 380, 407, 434, 461, 478, 495, 513, 530, 567, 595, 612, 649, 666, 693, 720, 768, 775, 782, 819, 856, 913, 960, 987] 188 k 400 720 _ _ _).trans rfl
theorem q188_768 (k : Nat) (v3 : Int32) (σ : Sto) : R 188 k 768 [.ref 99, .ref 0, .ref 30, .int v3] [] σ =
  (C 86 k [.ref 0] σ).bind fun r1 =>
    (C 180 k [.ref 30] r1.2.2).bind fun r2 =>
      if r1.1 = r2.1 then
        R 188 k 987 [.ref 99, .ref 0, .ref 30, .int v3] [] r2.2.2
      else
        some (0, 0, r2.2.2) := (unr_R [10, 22, 39, 66, 83, 150, 157, 174, 201, 228, 265, 292, 299, 326, 353, 380, 407, 434, 461, 478, 495, 513, 530, 567, 595, 612, 649, 666, 693, 720, 768, 775, 782, 819, 856, 913, 960, 987] 188 k 400 768 _ _ _).trans rfl
theorem q188_775 (k : Nat) (v3 : Int32) (σ : Sto) : R 188 k 775 [.ref 99, .ref 0, .ref 30, .int v3] [] σ =
  (C 87 k [.ref 0] σ).bind fun r1 =>
    (C 181 k [.ref 30] r1.2.2).bind fun r2 =>
      if r1.1 = r2.1 then
        R 188 k 987 [.ref 99, .ref 0, .ref 30, .int v3] [] r2.2.2
      else
        some (0, 0, r2.2.2) := (unr_R [10, 22, 39, 66, 83, 150, 157, 174, 201, 228, 265, 292, 299, 326, 353, 380, 407, 434, 461, 478, 495, 513, 530, 567, 595, 612, 649, 666, 693, 720, 768, 775, 782, 819, 856, 913, 960, 987] 188 k 400 775 _ _ _).trans rfl
theorem q188_782 (k : Nat) (v3 : Int32) (σ : Sto) : R 188 k 782 [.ref 99, .ref 0, .ref 30, .int v3] [] σ =
  if inb (v3 + 1) (σ 98 0).toNatClampNeg = true then
    if inb (v3 + 2) (σ 98 0).toNatClampNeg = true then
      if inb (v3 + 3) (σ 98 0).toNatClampNeg = true then
        (C 88 k [.ref 0, .int (σ 99 (v3 + 1).toNatClampNeg), .int (σ 99 (v3 + 2).toNatClampNeg), .int (σ 99 (v3 + 3).toNatClampNeg)] σ).bind fun r1 =>
          if inb (v3 + 1) (r1.2.2 98 0).toNatClampNeg = true then
            if inb (v3 + 2) (r1.2.2 98 0).toNatClampNeg = true then
              if inb (v3 + 3) (r1.2.2 98 0).toNatClampNeg = true then
                (C 182 k [.ref 30, .int (r1.2.2 99 (v3 + 1).toNatClampNeg), .int (r1.2.2 99 (v3 + 2).toNatClampNeg), .int (r1.2.2 99 (v3 + 3).toNatClampNeg)] r1.2.2).bind fun r2 =>
                  if r1.1 = r2.1 then
                    R 188 k 987 [.ref 99, .ref 0, .ref 30, .int v3] [] r2.2.2
                  else
                    some (0, 0, r2.2.2)
              else
                none
            else
              none
          else
            none
      else
        none
    else
      none
  else
    none := (unr_R [10, 22, 39, 66, 83, 150, 157, 174, 201, 228, 265, 292, 299, 326, 353, 380, 407, 434, 461, 478, 495, 513, 530, 567, 595, 612, 649, 666, 693, 720, 768, 775, 782, 819, 856, 913, 960, 987] 188 k 400 782 _ _ _).trans rfl
theorem q188_819 (k : Nat) (v3 : Int32) (σ : Sto) : R 188 k 819 [.ref 99, .ref 0, .ref 30, .int v3] [] σ =
  if inb (v3 + 1) (σ 98 0).toNatClampNeg = true then
    if inb (v3 + 2) (σ 98 0).toNatClampNeg = true then
      if inb (v3 + 3) (σ 98 0).toNatClampNeg = true then
        (C 89 k [.ref 0, .int (σ 99 (v3 + 1).toNatClampNeg), .int (σ 99 (v3 + 2).toNatClampNeg), .int (σ 99 (v3 + 3).toNatClampNeg)] σ).bind fun r1 =>
          if inb (v3 + 1) (r1.2.2 98 0).toNatClampNeg = true then
            if inb (v3 + 2) (r1.2.2 98 0).toNatClampNeg = true then
              if inb (v3 + 3) (r1.2.2 98 0).toNatClampNeg = true then
                (C 183 k [.ref 30, .int (r1.2.2 99 (v3 + 1).toNatClampNeg), .int (r1.2.2 99 (v3 + 2).toNatClampNeg), .int (r1.2.2 99 (v3 + 3).toNatClampNeg)] r1.2.2).bind fun r2 =>
                  if r1.1 = r2.1 then
                    R 188 k 987 [.ref 99, .ref 0, .ref 30, .int v3] [] r2.2.2
                  else
                    some (0, 0, r2.2.2)
              else
                none
            else
              none
          else
            none
      else
        none
    else
      none
  else
    none := (unr_R [10, 22, 39, 66, 83, 150, 157, 174, 201, 228, 265, 292, 299, 326, 353, 380, 407, 434, 461, 478, 495, 513, 530, 567, 595, 612, 649, 666, 693, 720, 768, 775, 782, 819, 856, 913, 960, 987] 188 k 400 819 _ _ _).trans rfl
set_option maxRecDepth 1000000 in
theorem q188_856 (k : Nat) (v3 : Int32) (σ : Sto) : R 188 k 856 [.ref 99, .ref 0, .ref 30, .int v3] [] σ =
  if inb (v3 + 1) (σ 98 0).toNatClampNeg = true then
    if inb (v3 + 2) (σ 98 0).toNatClampNeg = true then
      if inb (v3 + 3) (σ 98 0).toNatClampNeg = true then
        if inb (v3 + 4) (σ 98 0).toNatClampNeg = true then
          if inb (v3 + 5) (σ 98 0).toNatClampNeg = true then
            (C 90 k [.ref 0, .int (σ 99 (v3 + 1).toNatClampNeg), .int (σ 99 (v3 + 2).toNatClampNeg), .int (σ 99 (v3 + 3).toNatClampNeg), .int (σ 99 (v3 + 4).toNatClampNeg), .int (σ 99 (v3 + 5).toNatClampNeg)] σ).bind fun r1 =>
              if inb (v3 + 1) (r1.2.2 98 0).toNatClampNeg = true then
                if inb (v3 + 2) (r1.2.2 98 0).toNatClampNeg = true then
                  if inb (v3 + 3) (r1.2.2 98 0).toNatClampNeg = true then
                    if inb (v3 + 4) (r1.2.2 98 0).toNatClampNeg = true then
                      if inb (v3 + 5) (r1.2.2 98 0).toNatClampNeg = true then
                        (C 184 k [.ref 30, .int (r1.2.2 99 (v3 + 1).toNatClampNeg), .int (r1.2.2 99 (v3 + 2).toNatClampNeg), .int (r1.2.2 99 (v3 + 3).toNatClampNeg), .int (r1.2.2 99 (v3 + 4).toNatClampNeg), .int (r1.2.2 99 (v3 + 5).toNatClampNeg)] r1.2.2).bind fun r2 =>
                          if r1.1 = r2.1 then
                            R 188 k 987 [.ref 99, .ref 0, .ref 30, .int v3] [] r2.2.2
                          else
                            some (0, 0, r2.2.2)
                      else
                        none
                    else
                      none
                  else
                    none
                else
                  none
              else
                none
          else
            none
        else
          none
      else
        none
    else
      none
  else
    none := (unr_R [10, 22, 39, 66, 83, 150, 157, 174, 201, 228, 265, 292, 299, 326, 353, 380, 407, 434, 461, 478, 495, 513, 530, 567, 595, 612, 649, 666, 693, 720, 768, 775, 782, 819, 856, 913, 960, 987] 188 k 400 856 _ _ _).trans rfl
theorem q188_913 (k : Nat) (v3 : Int32) (σ : Sto) : R 188 k 913 [.ref 99, .ref 0, .ref 30, .int v3] [] σ =
  if inb (v3 + 1) (σ 98 0).toNatClampNeg = true then
    if inb (v3 + 2) (σ 98 0).toNatClampNeg = true then
      if inb (v3 + 3) (σ 98 0).toNatClampNeg = true then
        if inb (v3 + 4) (σ 98 0).toNatClampNeg = true then
          (C 91 k [.ref 0, .int (σ 99 (v3 + 1).toNatClampNeg), .int (σ 99 (v3 + 2).toNatClampNeg), .int (σ 99 (v3 + 3).toNatClampNeg), .int (σ 99 (v3 + 4).toNatClampNeg)] σ).bind fun r1 =>
            if inb (v3 + 1) (r1.2.2 98 0).toNatClampNeg = true then
              if inb (v3 + 2) (r1.2.2 98 0).toNatClampNeg = true then
                if inb (v3 + 3) (r1.2.2 98 0).toNatClampNeg = true then
                  if inb (v3 + 4) (r1.2.2 98 0).toNatClampNeg = true then
                    (C 185 k [.ref 30, .int (r1.2.2 99 (v3 + 1).toNatClampNeg), .int (r1.2.2 99 (v3 + 2).toNatClampNeg), .int (r1.2.2 99 (v3 + 3).toNatClampNeg), .int (r1.2.2 99 (v3 + 4).toNatClampNeg)] r1.2.2).bind fun r2 =>
                      if r1.1 = r2.1 then
                        R 188 k 987 [.ref 99, .ref 0, .ref 30, .int v3] [] r2.2.2
                      else
                        some (0, 0, r2.2.2)
                  else
                    none
                else
                  none
              else
                none
            else
              none
        else
          none
      else
        none
    else
      none
  else
    none := (unr_R [10, 22, 39, 66, 83, 150, 157, 174, 201, 228, 265, 292, 299, 326, 353, 380, 407, 434, 461, 478, 495, 513, 530, 567, 595, 612, 649, 666, 693, 720, 768, 775, 782, 819, 856, 913, 960, 987] 188 k 400 913 _ _ _).trans rfl
theorem q188_960 (k : Nat) (v3 : Int32) (σ : Sto) : R 188 k 960 [.ref 99, .ref 0, .ref 30, .int v3] [] σ =
  if inb (v3 + 1) (σ 98 0).toNatClampNeg = true then
    if inb (v3 + 2) (σ 98 0).toNatClampNeg = true then
      (C 92 k [.ref 0, .int (σ 99 (v3 + 1).toNatClampNeg), .int (σ 99 (v3 + 2).toNatClampNeg)] σ).bind fun r1 =>
        if inb (v3 + 1) (r1.2.2 98 0).toNatClampNeg = true then
          if inb (v3 + 2) (r1.2.2 98 0).toNatClampNeg = true then
            (C 187 k [.ref 30, .int (r1.2.2 99 (v3 + 1).toNatClampNeg), .int (r1.2.2 99 (v3 + 2).toNatClampNeg)] r1.2.2).bind fun r2 =>
              if r1.1 = r2.1 then
                R 188 k 987 [.ref 99, .ref 0, .ref 30, .int v3] [] r2.2.2
              else
                some (0, 0, r2.2.2)
          else
            none
        else
          none
    else
      none
  else
    none := (unr_R [10, 22, 39, 66, 83, 150, 157, 174, 201, 228, 265, 292, 299, 326, 353, 380, 407, 434, 461, 478, 495, 513, 530, 567, 595, 612, 649, 666, 693, 720, 768, 775, 782, 819, 856, 913, 960, 987] 188 k 400 960 _ _ _).trans rfl
theorem q188_987 (k : Nat) (v3 : Int32) (σ : Sto) : R 188 k 987 [.ref 99, .ref 0, .ref 30, .int v3] [] σ =
  R 188 k 10 [.ref 99, .ref 0, .ref 30, .int (v3 + 7)] [] σ := (unr_R [10, 22, 39, 66, 83, 150, 157, 174, 201, 228, 265, 292, 299, 326, 353, 380, 407, 434, 461, 478, 495, 513, 530, 567, 595, 612, 649, 666, 693, 720, 768, 775, 782, 819, 856, 913, 960, 987] 188 k 400 987 _ _ _).trans rfl
