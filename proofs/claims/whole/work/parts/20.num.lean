/-! numbers -/
theorem i_lt {a b : Int32} : a < b ↔ a.toInt < b.toInt := Int32.lt_iff_toInt_lt
theorem i_eq {a b : Int32} : a = b ↔ a.toInt = b.toInt := Int32.toInt_inj.symm
theorem i_add {a b : Int32} (h1 : -2147483648 ≤ a.toInt + b.toInt) (h2 : a.toInt + b.toInt < 2147483648) : (a + b).toInt = a.toInt + b.toInt := by
  rw [Int32.toInt_add, Int.bmod_eq_of_le (by omega) (by omega)]
theorem i_sub {a b : Int32} (h1 : -2147483648 ≤ a.toInt - b.toInt) (h2 : a.toInt - b.toInt < 2147483648) : (a - b).toInt = a.toInt - b.toInt := by
  rw [Int32.toInt_sub, Int.bmod_eq_of_le (by omega) (by omega)]
theorem i_mul {a b : Int32} (h1 : -2147483648 ≤ a.toInt * b.toInt) (h2 : a.toInt * b.toInt < 2147483648) : (a * b).toInt = a.toInt * b.toInt := by
  rw [Int32.toInt_mul, Int.bmod_eq_of_le (by omega) (by omega)]
theorem i_neg {a : Int32} (h1 : -2147483648 < a.toInt) : (-a).toInt = -a.toInt := by
  have h2 := Int32.toInt_lt a
  rw [Int32.toInt_neg, Int.bmod_eq_of_le (by omega) (by omega)]
theorem ix {p n : Nat} (h : p < n) (hn : n < 2 ^ 31) : (nI p).toNatClampNeg = p := nI_clamp (Nat.lt_trans h hn)
theorem ib {p n : Nat} (h : p < n) (hn : n < 2 ^ 31) : inb (nI p) n = true := by
  unfold inb
  rw [nI_toInt (Nat.lt_trans h hn), Bool.and_eq_true, decide_eq_true_eq, decide_eq_true_eq]
  omega
theorem inb_iff {x : Int32} {n : Nat} : inb x n = true ↔ 0 ≤ x.toInt ∧ x.toInt < n := by
  unfold inb
  rw [Bool.and_eq_true, decide_eq_true_eq, decide_eq_true_eq]
theorem inb_of {x : Int32} {n : Nat} (h : inb x n = true) (hn : n < 2 ^ 31) : ∃ j, j < n ∧ x = nI j := by
  obtain ⟨h1, h2⟩ := inb_iff.mp h
  refine ⟨x.toInt.toNat, by omega, Int32.toInt_inj.mp ?_⟩
  rw [nI_toInt (by omega)]
  omega
theorem nI_inj {a b : Nat} (ha : a < 2 ^ 31) (hb : b < 2 ^ 31) (h : nI a = nI b) : a = b := (nI_eq ha hb).mp h
theorem nI_nm {a : Nat} (ha : a < 2 ^ 31) : ¬ nI a = -1 := by
  rw [i_eq, nI_toInt ha]
  have : (-1 : Int32).toInt = -1 := by decide
  omega
def b2 (b : Bool) : Int32 := if b then 1 else 0
theorem b2_0 {b : Bool} : b2 b = 0 ↔ b = false := by cases b <;> decide
theorem b2_zb {b : Bool} : zb (b2 b) = true := by cases b <;> decide
theorem b2_nok {b : Bool} : nok 1 (b2 b) = true := by cases b <;> decide
theorem b2_t {p : Prop} [Decidable p] (h : p) : b2 (decide p) = 1 := by simp [b2, h]
/-- frames: all cells but some are as they were -/
def Fr (l : List Nat) (σ σ' : Sto) : Prop := ∀ c, c ∉ l → σ' c = σ c
theorem Fr.rf {l : List Nat} {σ : Sto} : Fr l σ σ := fun _ _ => rfl
theorem Fr.tr {l : List Nat} {σ σ1 σ2 : Sto} (h1 : Fr l σ σ1) (h2 : Fr l σ1 σ2) : Fr l σ σ2 := fun c hc => (h2 c hc).trans (h1 c hc)
theorem Fr.mono {l l' : List Nat} {σ σ' : Sto} (h : Fr l σ σ') (hl : ∀ c, c ∈ l → c ∈ l') : Fr l' σ σ' := fun c hc => h c (fun z => hc (hl c z))
theorem Fr.su {l : List Nat} {σ σ' : Sto} (h : Fr l σ σ') {c i : Nat} {v : Int32} (hc : c ∈ l) : Fr l σ (su σ' c i v) := fun c' hc' => (su_ne (fun (e : c' = c) => hc' (by rw [e]; exact hc))).trans (h c' hc')
theorem su_e {σ : Sto} {c i : Nat} {v : Int32} : su σ c i v c i = v := by rw [su_row, upd_s]
theorem su_o {σ : Sto} {c i j : Nat} {v : Int32} (h : j ≠ i) : su σ c i v c j = σ c j := by rw [su_row, upd_n h]
theorem su_at {σ : Sto} {c i : Nat} {v : Int32} (c' j : Nat) : su σ c i v c' j = if c' = c ∧ j = i then v else σ c' j := by
  by_cases h : c' = c
  · subst h
    by_cases h2 : j = i
    · subst h2; simp [su_e]
    · simp [su_o h2, h2]
  · simp [su_ne h, h]
theorem bs {a : Rs} {f : Rs → Option Rs} : (some a).bind f = f a := rfl
theorem n10 : ¬ (1 : Int32) = 0 := by decide
theorem b2F : b2 false = 0 := rfl
theorem b2T : b2 true = 1 := rfl
theorem ib6 {p : Nat} (h : p < 6) : inb (nI p) 6 = true := ib h (by decide)
theorem ix6 {p : Nat} (h : p < 6) : (nI p).toNatClampNeg = p := ix h (by decide)
