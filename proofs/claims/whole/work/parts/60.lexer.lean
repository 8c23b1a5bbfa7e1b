/-! THE TAPE, READ: tokens as they begin at a place. A token is told by the component's number for it. -/
def runS (f : Int32 → Bool) (r : Rw) : Nat → Nat → Nat
  | 0, p => p
  | d + 1, p => if f (r p) = true then runS f r d (p + 1) else p
theorem run_in {f : Int32 → Bool} {r : Rw} : ∀ d p, p ≤ runS f r d p ∧ runS f r d p ≤ p + d := by
  intro d
  induction d with
  | zero => intro p; exact ⟨Nat.le_refl _, Nat.le_refl _⟩
  | succ d ih =>
    intro p
    unfold runS
    split
    · have := ih (p + 1); omega
    · omega
def blB (x : Int32) : Bool := decide (x = 32) || decide (x = 10)
def leB (x : Int32) : Bool := decide (97 ≤ x.toInt ∧ x.toInt ≤ 122)
def diB (x : Int32) : Bool := decide (48 ≤ x.toInt ∧ x.toInt ≤ 57)
def slL (r : Rw) : Nat → Nat → List Int32
  | 0, _ => []
  | d + 1, s => r s :: slL r d (s + 1)
theorem sl_len {r : Rw} : ∀ d s, (slL r d s).length = d := by
  intro d
  induction d with
  | zero => intro s; rfl
  | succ d ih => intro s; show (slL r d (s + 1)).length + 1 = d + 1; rw [ih]
/-- which of the words it is; 12: none -/
def wdL (l : List Int32) : Nat := if l = byteOf 0 then 0 else if l = byteOf 1 then 1 else if l = byteOf 2 then 2 else if l = byteOf 6 then 3 else if l = byteOf 7 then 4 else if l = byteOf 8 then 5 else if l = byteOf 9 then 6 else if l = byteOf 10 then 7 else if l = byteOf 11 then 8 else if l = byteOf 3 then 9 else if l = byteOf 4 then 10 else if l = byteOf 5 then 11 else 12
def wkL (k : Nat) : Int32 := if k = 0 then 10 else if k = 1 then 11 else if k = 2 then 12 else if k = 3 then -1 else if k = 4 then -2 else if k = 5 then -3 else if k = 6 then -4 else if k = 7 then -5 else if k = 8 then -6 else if k = 9 then -9 else if k = 10 then -10 else if k = 11 then -8 else 6
def sgL (x : Int32) : Int32 := if x = 40 then 2 else if x = 41 then 3 else if x = 42 then -15 else if x = 43 then -13 else if x = 45 then -14 else if x = 59 then 4 else if x = 60 then -11 else if x = 61 then -12 else 6
def vaL (r : Rw) (s : Nat) : Nat → Int32
  | 0 => 0
  | d + 1 => vaL r s d * 10 + r (s + d) - 48
def nxA (r : Rw) (n s : Nat) : Nat := if n ≤ s then s else if leB (r s) = true then runS leB r (n - s) s else if diB (r s) = true then runS diB r (n - s) s else s + 1
def tkA (r : Rw) (n s : Nat) : Int32 := if n ≤ s then 5 else if leB (r s) = true then wkL (wdL (slL r (runS leB r (n - s) s - s) s)) else if diB (r s) = true then (if 4 < runS diB r (n - s) s - s then 6 else 1) else sgL (r s)
def stL (r : Rw) (n p : Nat) : Nat := runS blB r (n - p) p
def nxL (r : Rw) (n p : Nat) : Nat := nxA r n (stL r n p)
def tkL (r : Rw) (n p : Nat) : Int32 := tkA r n (stL r n p)
def vlL (r : Rw) (n p : Nat) : Int32 := vaL r (stL r n p) (runS diB r (n - stL r n p) (stL r n p) - stL r n p)
theorem st_in {r : Rw} {n p : Nat} (h : p ≤ n) : p ≤ stL r n p ∧ stL r n p ≤ n := by
  have := run_in (f := blB) (r := r) (n - p) p
  unfold stL
  omega
theorem run_1 {f : Int32 → Bool} {r : Rw} {d p : Nat} (h : f (r p) = true) : runS f r (d + 1) p = runS f r d (p + 1) := by
  show (if f (r p) = true then runS f r d (p + 1) else p) = _
  rw [if_pos h]
theorem run_0 {f : Int32 → Bool} {r : Rw} {d p : Nat} (h : ¬ f (r p) = true) : runS f r (d + 1) p = p := by
  show (if f (r p) = true then runS f r d (p + 1) else p) = _
  rw [if_neg h]
theorem nx_in {r : Rw} {n s : Nat} (h : s ≤ n) : s ≤ nxA r n s ∧ nxA r n s ≤ n ∧ (s < n → s < nxA r n s) := by
  unfold nxA
  by_cases h1 : n ≤ s
  · rw [if_pos h1]; omega
  rw [if_neg h1]
  have hd : n - s = (n - s - 1) + 1 := by omega
  by_cases h2 : leB (r s) = true
  · rw [if_pos h2, hd, run_1 h2]
    have := run_in (f := leB) (r := r) (n - s - 1) (s + 1)
    omega
  rw [if_neg h2]
  by_cases h3 : diB (r s) = true
  · rw [if_pos h3, hd, run_1 h3]
    have := run_in (f := diB) (r := r) (n - s - 1) (s + 1)
    omega
  rw [if_neg h3]
  omega
/-- a token that isn't the end takes a byte at least -/
theorem tk_nx {r : Rw} {n p : Nat} (h : p ≤ n) (ht : ¬ tkL r n p = 5) : p < nxL r n p ∧ nxL r n p ≤ n := by
  have h1 := st_in (r := r) h
  have h2 := nx_in (r := r) h1.2
  have h3 : stL r n p < n := by
    refine Nat.lt_of_not_le fun hle => ht ?_
    unfold tkL tkA
    rw [if_pos hle]
  unfold nxL
  have := h2.2.2 h3
  omega
theorem nx_le {r : Rw} {n p : Nat} (h : p ≤ n) : p ≤ nxL r n p ∧ nxL r n p ≤ n := by
  have h1 := st_in (r := r) h
  have h2 := nx_in (r := r) h1.2
  unfold nxL
  omega
/-! the component reads a token -/
def Bas (r : Rw) (n : Nat) (σ : Sto) : Prop := σ 7 2 = nI n ∧ ∀ i, i < n → σ 1 i = r i
def TkC (r : Rw) (n p : Nat) (σ : Sto) : Prop := σ 7 7 = -1 ∧ σ 7 5 = tkL r n p ∧ σ 7 4 = nI (stL r n p) ∧ σ 7 3 = nI (nxL r n p) ∧ (tkL r n p = 1 → σ 7 6 = vlL r n p)
/-- of the reader's cells only those of a token change -/
def Fk (σ σ' : Sto) : Prop := Fr [7] σ σ' ∧ ∀ i, i < 3 ∨ 6 < i → σ' 7 i = σ 7 i
theorem Fk.rf {σ : Sto} : Fk σ σ := ⟨Fr.rf, fun _ _ => rfl⟩
theorem Fk.tr {σ σ1 σ2 : Sto} (h1 : Fk σ σ1) (h2 : Fk σ1 σ2) : Fk σ σ2 := ⟨h1.1.tr h2.1, fun i hi => (h2.2 i hi).trans (h1.2 i hi)⟩
theorem Fk.su {σ σ' : Sto} (h : Fk σ σ') {i : Nat} {v : Int32} (h3 : 3 ≤ i) (h6 : i ≤ 6) : Fk σ (su σ' 7 i v) := ⟨h.1.su (by decide), fun j hj => (su_o (by omega)).trans (h.2 j hj)⟩
theorem Bas.fk {r : Rw} {n : Nat} {σ σ' : Sto} (h : Bas r n σ) (hf : Fk σ σ') : Bas r n σ' := ⟨(hf.2 2 (by omega)).trans h.1, fun i hi => by rw [hf.1 1 (by decide)]; exact h.2 i hi⟩
theorem c_letter {k : Nat} {x : Int32} {σ : Sto} : C nD_isLetter k [.int x] σ = some (b2 (leB x), 0, σ) := by
  have e1 : (97 : Int32).toInt = 97 := by decide
  have e2 : (122 : Int32).toInt = 122 := by decide
  rw [eD_isLetter k]
  unfold leB
  by_cases h1 : x < 97
  · rw [if_pos h1]
    rw [i_lt, e1] at h1
    rw [decide_eq_false (by omega)]
    rfl
  rw [if_neg h1]
  rw [i_lt, e1] at h1
  by_cases h2 : 122 < x
  · rw [if_pos h2]
    rw [i_lt, e2] at h2
    rw [decide_eq_false (by omega)]
    rfl
  rw [if_neg h2]
  rw [i_lt, e2] at h2
  rw [decide_eq_true (by omega)]
  rfl
theorem c_digit {k : Nat} {x : Int32} {σ : Sto} : C nD_isDigit k [.int x] σ = some (b2 (diB x), 0, σ) := by
  have e1 : (48 : Int32).toInt = 48 := by decide
  have e2 : (57 : Int32).toInt = 57 := by decide
  rw [eD_isDigit k]
  unfold diB
  by_cases h1 : x < 48
  · rw [if_pos h1]
    rw [i_lt, e1] at h1
    rw [decide_eq_false (by omega)]
    rfl
  rw [if_neg h1]
  rw [i_lt, e1] at h1
  by_cases h2 : 57 < x
  · rw [if_pos h2]
    rw [i_lt, e2] at h2
    rw [decide_eq_false (by omega)]
    rfl
  rw [if_neg h2]
  rw [i_lt, e2] at h2
  rw [decide_eq_true (by omega)]
  rfl
theorem b2_if {α : Type} {b : Bool} {x y : α} : (if b2 b = 0 then x else y) = if b = true then y else x := by cases b <;> rfl
set_option maxRecDepth 100000 in
theorem c_sign {k : Nat} {x : Int32} {σ : Sto} : C nD_signOf k [.int x] σ = some (sgL x, 0, σ) := by
  rw [eD_signOf k]
  unfold sgL
  by_cases h40 : x = 40
  · rw [if_pos h40, if_pos h40]
  rw [if_neg h40, if_neg h40]
  by_cases h41 : x = 41
  · rw [if_pos h41, if_pos h41]
  rw [if_neg h41, if_neg h41]
  by_cases h42 : x = 42
  · rw [if_pos h42, if_pos h42]
  rw [if_neg h42, if_neg h42]
  by_cases h43 : x = 43
  · rw [if_pos h43, if_pos h43]
  rw [if_neg h43, if_neg h43]
  by_cases h44 : x = 44
  · rw [if_pos h44, if_neg (by rw [h44]; decide), if_neg (by rw [h44]; decide), if_neg (by rw [h44]; decide), if_neg (by rw [h44]; decide)]
  rw [if_neg h44]
  by_cases h45 : x = 45
  · rw [if_pos h45, if_pos h45]
  rw [if_neg h45, if_neg h45]
  by_cases h46 : x = 46
  · rw [if_pos h46, if_neg (by rw [h46]; decide), if_neg (by rw [h46]; decide), if_neg (by rw [h46]; decide)]
  rw [if_neg h46]
  by_cases h47 : x = 47
  · rw [if_pos h47, if_neg (by rw [h47]; decide), if_neg (by rw [h47]; decide), if_neg (by rw [h47]; decide)]
  rw [if_neg h47]
  by_cases h48 : x = 48
  · rw [if_pos h48, if_neg (by rw [h48]; decide), if_neg (by rw [h48]; decide), if_neg (by rw [h48]; decide)]
  rw [if_neg h48]
  by_cases h49 : x = 49
  · rw [if_pos h49, if_neg (by rw [h49]; decide), if_neg (by rw [h49]; decide), if_neg (by rw [h49]; decide)]
  rw [if_neg h49]
  by_cases h50 : x = 50
  · rw [if_pos h50, if_neg (by rw [h50]; decide), if_neg (by rw [h50]; decide), if_neg (by rw [h50]; decide)]
  rw [if_neg h50]
  by_cases h51 : x = 51
  · rw [if_pos h51, if_neg (by rw [h51]; decide), if_neg (by rw [h51]; decide), if_neg (by rw [h51]; decide)]
  rw [if_neg h51]
  by_cases h52 : x = 52
  · rw [if_pos h52, if_neg (by rw [h52]; decide), if_neg (by rw [h52]; decide), if_neg (by rw [h52]; decide)]
  rw [if_neg h52]
  by_cases h53 : x = 53
  · rw [if_pos h53, if_neg (by rw [h53]; decide), if_neg (by rw [h53]; decide), if_neg (by rw [h53]; decide)]
  rw [if_neg h53]
  by_cases h54 : x = 54
  · rw [if_pos h54, if_neg (by rw [h54]; decide), if_neg (by rw [h54]; decide), if_neg (by rw [h54]; decide)]
  rw [if_neg h54]
  by_cases h55 : x = 55
  · rw [if_pos h55, if_neg (by rw [h55]; decide), if_neg (by rw [h55]; decide), if_neg (by rw [h55]; decide)]
  rw [if_neg h55]
  by_cases h56 : x = 56
  · rw [if_pos h56, if_neg (by rw [h56]; decide), if_neg (by rw [h56]; decide), if_neg (by rw [h56]; decide)]
  rw [if_neg h56]
  by_cases h57 : x = 57
  · rw [if_pos h57, if_neg (by rw [h57]; decide), if_neg (by rw [h57]; decide), if_neg (by rw [h57]; decide)]
  rw [if_neg h57]
  by_cases h58 : x = 58
  · rw [if_pos h58, if_neg (by rw [h58]; decide), if_neg (by rw [h58]; decide), if_neg (by rw [h58]; decide)]
  rw [if_neg h58]
  by_cases h59 : x = 59
  · rw [if_pos h59, if_pos h59]
  rw [if_neg h59, if_neg h59]
  by_cases h60 : x = 60
  · rw [if_pos h60, if_pos h60]
  rw [if_neg h60, if_neg h60]
  by_cases h61 : x = 61
  · rw [if_pos h61, if_pos h61]
  rw [if_neg h61, if_neg h61]
