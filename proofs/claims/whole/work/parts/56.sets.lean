/-! SETS OF PEOPLE, AS BITS -/
theorem c_bits {k : Nat} {σ : Sto} (m : Fin 64) : C nJ6_bitCount k [.int (nI m.1)] σ = some (onesG (nI m.1) 6, 0, σ) := by
  rw [eJ6_bitCount k]
  refine congrArg (fun z => some (z, (0 : Int64), σ)) ?_
  revert m
  decide +kernel
def bitQ (x : Int32) (p : Nat) : Bool := decide (((x >>> (nI p &&& 31)) &&& 1) = 1)
def subQ (m S : Nat) : Prop := (nI m &&& (nI S ^^^ (-1))) = 0
theorem d_sub : ∀ m S : Fin 64, (nI m.1 &&& (nI S.1 ^^^ (-1))) = 0 → m.1 ≤ S.1 ∧ (m.1 < S.1 → onesG (nI m.1) 6 < onesG (nI S.1) 6) ∧ (S.1 < m.1 → onesG (nI S.1) 6 < onesG (nI m.1) 6) := by decide +kernel
theorem d_self : ∀ S : Fin 64, (nI S.1 &&& (nI S.1 ^^^ (-1))) = 0 := by decide +kernel
theorem d_q : ∀ m S : Fin 64, (nI m.1 &&& (nI S.1 ^^^ (-1))) = 0 → ∀ p : Fin 6, bitQ (nI m.1) p.1 = true → bitQ (nI S.1) p.1 = true := by decide +kernel
theorem d_nat : ∀ (b0 b1 b2 b3 b4 b5 : Bool) (n : Fin 7), 0 ≤ (bitsS (selB b0 b1 b2 b3 b4 b5) n.1).toInt ∧ (bitsS (selB b0 b1 b2 b3 b4 b5) n.1).toInt < 2 ^ n.1 := by decide +kernel
theorem d_bit : ∀ (b0 b1 b2 b3 b4 b5 : Bool) (n : Fin 7) (p : Fin 6), bitQ (bitsS (selB b0 b1 b2 b3 b4 b5) n.1) p.1 = (decide (p.1 < n.1) && selB b0 b1 b2 b3 b4 b5 p.1) := by decide +kernel
theorem d_less : ∀ (m S : Fin 64) (n : Fin 7), bitsS (fun i => bitQ (nI S.1) i && !bitQ (nI m.1) i) n.1 = bitsS (fun i => bitQ (nI S.1) i) n.1 &&& (nI m.1 ^^^ (-1)) := by decide +kernel
theorem d_pow : ∀ n : Fin 7, (1 : Int32) <<< (nI n.1 &&& 31) = nI (2 ^ n.1) := by decide +kernel
