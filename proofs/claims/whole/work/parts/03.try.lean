theorem zz_e (K : Nat → Nat → Nat → List Value → List Value → Sto → Option Rs) (k : Nat) (p : Int32) (σ : Sto) : unr ShF K [12] 40 k 60 0 [.ref 12, .int p, .null, .null] [] σ =
   (K 38 k 0 (ent 38 [.ref 12, .int p]) [] σ).bind fun r => if r.1 = 0 then some (0, 0, r.2.2) else
     (K 43 k 0 (ent 43 [.ref 12, .int p]) [] r.2.2).bind fun r1 => K 40 k 12 [.ref 12, .int p, .int r1.1, .int 0] [] r1.2.2 := rfl
