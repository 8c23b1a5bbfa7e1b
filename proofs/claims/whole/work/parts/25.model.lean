/-! THE MODEL'S CELLS -/
def phi (x : Int32) : Int32 :=
  if x = -1 then 0 else if x = -2 then 1 else if x = -3 then 2 else if x = -4 then 3 else if x = -5 then 4 else if x = -6 then 5 else if x = -7 then 19 else if x = -8 then 13
  else if x = -9 then 11 else if x = -10 then 12 else if x = -11 then 14 else if x = -12 then 15 else if x = -13 then 16 else if x = -14 then 17 else if x = -15 then 18 else 100000 + x
def RepM (σ : Sto) (t : St) : Prop := (σ 30 0 = nI (sN t) ∧ σ 30 10 = nI (sL t) ∧ σ 34 0 = sO t ∧ σ 34 1 = sB t ∧ σ 34 2 = sF t ∧ σ 34 3 = sH t) ∧
  ∀ i, i < sN t → σ 31 i = rK t i ∧ σ 32 i = rM t i ∧ σ 33 (3 * i) = rP t i ∧ σ 33 (3 * i + 1) = rD t i ∧ σ 33 (3 * i + 2) = rW t i
def TxM (σ : Sto) (TX : TXT) (K : Nat) : Prop := ∀ l, l < K → ∀ part, part < 3 → ∃ b, b + (TX l part).length ≤ 200 ∧ σ 37 (4 * l + part) = nI b ∧ σ 37 (4 * l + part + 1) = nI (b + (TX l part).length) ∧ ∀ j x, (TX l part)[j]? = some x → σ 36 (200 * l + (b + j)) = phi x
theorem RepM.fr {l : List Nat} {σ σ' : Sto} {t : St} (h : RepM σ t) (hf : Fr l σ σ') (h0 : ∀ j, j < 5 → 30 + j ∉ l) : RepM σ' t := by
  have e0 : σ' 30 = σ 30 := hf 30 (h0 0 (by omega))
  have e1 : σ' 31 = σ 31 := hf 31 (h0 1 (by omega))
  have e2 : σ' 32 = σ 32 := hf 32 (h0 2 (by omega))
  have e3 : σ' 33 = σ 33 := hf 33 (h0 3 (by omega))
  have e4 : σ' 34 = σ 34 := hf 34 (h0 4 (by omega))
  unfold RepM
  rw [e0, e1, e2, e3, e4]
  exact h
theorem TxM.fr {l : List Nat} {σ σ' : Sto} {TX : TXT} {K : Nat} (h : TxM σ TX K) (hf : Fr l σ σ') (h3 : 36 ∉ l) (h4 : 37 ∉ l) : TxM σ' TX K := by
  unfold TxM
  rw [hf 36 h3, hf 37 h4]
  exact h
theorem RepM.n {σ : Sto} {t : St} (h : RepM σ t) : σ 30 0 = nI (sN t) := h.1.1
theorem RepM.L {σ : Sto} {t : St} (h : RepM σ t) : σ 30 10 = nI (sL t) := h.1.2.1
theorem RepM.O {σ : Sto} {t : St} (h : RepM σ t) : σ 34 0 = sO t := h.1.2.2.1
theorem RepM.B {σ : Sto} {t : St} (h : RepM σ t) : σ 34 1 = sB t := h.1.2.2.2.1
theorem RepM.F {σ : Sto} {t : St} (h : RepM σ t) : σ 34 2 = sF t := h.1.2.2.2.2.1
theorem RepM.H {σ : Sto} {t : St} (h : RepM σ t) : σ 34 3 = sH t := h.1.2.2.2.2.2
theorem RepM.K {σ : Sto} {t : St} (h : RepM σ t) {p : Nat} (hp : p < sN t) : σ 31 p = rK t p := (h.2 p hp).1
theorem RepM.M {σ : Sto} {t : St} (h : RepM σ t) {p : Nat} (hp : p < sN t) : σ 32 p = rM t p := (h.2 p hp).2.1
theorem RepM.P {σ : Sto} {t : St} (h : RepM σ t) {p : Nat} (hp : p < sN t) : σ 33 (3 * p) = rP t p := (h.2 p hp).2.2.1
theorem RepM.D {σ : Sto} {t : St} (h : RepM σ t) {p : Nat} (hp : p < sN t) : σ 33 (3 * p + 1) = rD t p := (h.2 p hp).2.2.2.1
theorem RepM.W {σ : Sto} {t : St} (h : RepM σ t) {p : Nat} (hp : p < sN t) : σ 33 (3 * p + 2) = rW t p := (h.2 p hp).2.2.2.2
theorem z0 : (0 : Int32).toNatClampNeg = 0 := by decide
theorem z1 : (1 : Int32).toNatClampNeg = 1 := by decide
theorem z2 : (2 : Int32).toNatClampNeg = 2 := by decide
theorem z3 : (3 : Int32).toNatClampNeg = 3 := by decide
theorem z4 : (4 : Int32).toNatClampNeg = 4 := by decide
theorem z5 : (5 : Int32).toNatClampNeg = 5 := by decide
theorem i3 (p : Nat) : 3 * nI p = nI (3 * p) := pk_mul 3 p
theorem nI_2 (a : Nat) : nI a + 2 = nI (a + 2) := nI_add a 2
theorem ibn {i n : Nat} (h : i < n) (hn : n < 2147483648) : inb (nI i) n = true := ib h hn
theorem ixn {i : Nat} (h : i < 2147483648) : (nI i).toNatClampNeg = i := nI_clamp h
theorem m_isAt {k : Nat} {σ : Sto} {t : St} (hr : RepM σ t) (hN : sN t ≤ 6) {p : Nat} (hp : p < sN t) : C nM_isAt k [.ref 30, .int (nI p)] σ = some (b2 (decide (¬ rP t p = -1)), 0, σ) := by
  rw [eM_isAt k]
  simp only [i3, ibn (show 3 * p < 18 by omega) (by decide), ixn (show 3 * p < 2147483648 by omega), hr.P hp, ↓reduceIte]
  by_cases h1 : rP t p = -1 <;> simp [h1, b2]
theorem m_seen {k : Nat} {σ : Sto} {t : St} (hr : RepM σ t) (hN : sN t ≤ 6) {p : Nat} (hp : p < sN t) : C nM_isSeen k [.ref 30, .int (nI p)] σ = some (b2 (seenS t p), 0, σ) := by
  rw [eM_isSeen k, m_isAt hr hN hp, bs]
  simp only [i3, nI_1, ibn (show 3 * p + 1 < 18 by omega) (by decide), ixn (show 3 * p + 1 < 2147483648 by omega), hr.D hp, ↓reduceIte]
  unfold seenS
  by_cases h1 : rP t p = -1
  · simp [h1, b2]
  · by_cases h2 : rD t p = 0 <;> simp [h1, h2, b2]
theorem m_over {k : Nat} {σ : Sto} {t : St} (hr : RepM σ t) (hN : sN t ≤ 6) {p : Nat} (hp : p < sN t) : C nM_isOver k [.ref 30, .int (nI p)] σ = some (b2 (overS t p), 0, σ) := by
  rw [eM_isOver k, m_isAt hr hN hp, bs]
  simp only [z1, hr.B]
  unfold overS
  by_cases h1 : rP t p = -1
  · by_cases h2 : sB t = nI p <;> simp [h1, h2, b2]
  · simp [h1, b2]
theorem m_within {k : Nat} {σ : Sto} {v lo hi : Int32} (h : lo.toInt ≤ hi.toInt) : C nM_within k [.int v, .int lo, .int hi] σ = some (maxI lo (minI hi v), 0, σ) := by
  rw [eM_within k]
  unfold maxI minI
  by_cases h1 : v < lo
  · rw [if_pos h1]
    rw [i_lt] at h1
    have h2 : v < hi := by rw [i_lt]; omega
    rw [if_pos h2, if_neg (by rw [i_lt]; omega)]
  · rw [if_neg h1]
    rw [i_lt] at h1
    by_cases h2 : hi < v
    · rw [if_pos h2]
      rw [i_lt] at h2
      rw [if_neg (show ¬ v < hi by rw [i_lt]; omega)]
      by_cases h3 : lo < hi
      · rw [if_pos h3]
      · rw [if_neg h3]
        rw [i_lt] at h3
        rw [show hi = lo from by rw [i_eq]; omega]
    · rw [if_neg h2]
      rw [i_lt] at h2
      by_cases h4 : v < hi
      · rw [if_pos h4]
        by_cases h5 : lo < v
        · rw [if_pos h5]
        · rw [if_neg h5]
          rw [i_lt] at h5
          rw [show v = lo from by rw [i_eq]; omega]
      · rw [if_neg h4]
        rw [i_lt] at h4
        have e : v = hi := by rw [i_eq]; omega
        subst e
        by_cases h5 : lo < v
        · rw [if_pos h5]
        · rw [if_neg h5]
          rw [i_lt] at h5
          rw [show v = lo from by rw [i_eq]; omega]
theorem max0 {z : Int32} (h : 0 ≤ z.toInt) : maxI 0 z = z := by
  have e0 : (0 : Int32).toInt = 0 := by decide
  unfold maxI
  by_cases h1 : (0 : Int32) < z
  · rw [if_pos h1]
  · rw [if_neg h1]
    rw [i_lt] at h1
    rw [i_eq]
    omega
theorem m_seenSet {k : Nat} {σ : Sto} {t : St} (hr : RepM σ t) (hN : sN t ≤ 6) : C nM_seenSet k [.ref 30] σ = some (bitsS (seenS t) (sN t), 0, σ) := by
  have L : ∀ d m, m + d = sN t → R nM_seenSet k 4 [.ref 30, .int (bitsS (seenS t) m), .int (nI m)] [] σ = some (bitsS (seenS t) (sN t), 0, σ) := by
    intro d
    induction d with
    | zero =>
      intro m hm
      have e : m = sN t := by omega
      subst e
      rw [eM_seenSet_4 k, hr.n, if_neg (nI_nlt (by omega) (by omega))]
    | succ d ih =>
      intro m hm
      have h1 : m < sN t := by omega
      have e : bitsS (seenS t) (m + 1) = if seenS t m = true then bitsS (seenS t) m ||| (1 <<< (nI m &&& 31)) else bitsS (seenS t) m := rfl
      have h2 := ih (m + 1) (by omega)
      rw [eM_seenSet_4 k, hr.n, if_pos (nI_lt h1 (by omega)), m_seen hr hN h1, bs]
      simp only [nI_1, Int32.or_zero]
      rw [e] at h2
      cases h4 : seenS t m with
      | false =>
        rw [if_neg (by rw [h4]; decide)] at h2
        exact h2
      | true =>
        rw [if_pos h4] at h2
        exact h2
  rw [eM_seenSet k]
  exact L (sN t) 0 (Nat.zero_add _)
theorem m_overSet {k : Nat} {σ : Sto} {t : St} (hr : RepM σ t) (hN : sN t ≤ 6) : C nM_overSet k [.ref 30] σ = some (bitsS (overS t) (sN t), 0, σ) := by
  have L : ∀ d m, m + d = sN t → R nM_overSet k 4 [.ref 30, .int (bitsS (overS t) m), .int (nI m)] [] σ = some (bitsS (overS t) (sN t), 0, σ) := by
    intro d
    induction d with
    | zero =>
      intro m hm
      have e : m = sN t := by omega
      subst e
      rw [eM_overSet_4 k, hr.n, if_neg (nI_nlt (by omega) (by omega))]
    | succ d ih =>
      intro m hm
      have h1 : m < sN t := by omega
      have e : bitsS (overS t) (m + 1) = if overS t m = true then bitsS (overS t) m ||| (1 <<< (nI m &&& 31)) else bitsS (overS t) m := rfl
      have h2 := ih (m + 1) (by omega)
      rw [eM_overSet_4 k, hr.n, if_pos (nI_lt h1 (by omega)), m_over hr hN h1, bs]
      simp only [nI_1, Int32.or_zero]
      rw [e] at h2
      cases h4 : overS t m with
      | false =>
        rw [if_neg (by rw [h4]; decide)] at h2
        exact h2
      | true =>
        rw [if_pos h4] at h2
        exact h2
  rw [eM_overSet k]
  exact L (sN t) 0 (Nat.zero_add _)
def onesG (x : Int32) : Nat → Int32
  | 0 => 0
  | m + 1 => onesG x m + ((x >>> (nI m &&& 31)) &&& 1)
theorem m_onesOf {k : Nat} {σ : Sto} (x : Int32) : C nM_onesOf k [.int x] σ = some (onesG x 6, 0, σ) := by
  have L : ∀ d m, m + d = 6 → R nM_onesOf k 4 [.int x, .int (onesG x m), .int (nI m)] [] σ = some (onesG x 6, 0, σ) := by
    intro d
    induction d with
    | zero =>
      intro m hm
      have e : m = 6 := by omega
      subst e
      rw [eM_onesOf_4 k, if_neg (by decide)]
    | succ d ih =>
      intro m hm
      rw [eM_onesOf_4 k, if_pos (show nI m < 6 from nI_lt (b := 6) (by omega) (by decide)), nI_1]
      exact ih (m + 1) (by omega)
  rw [eM_onesOf k]
  exact L 6 0 rfl
theorem bits_congr {f g : Nat → Bool} : ∀ {n : Nat}, (∀ i, i < n → f i = g i) → bitsS f n = bitsS g n := by
  intro n
  induction n with
  | zero => intro _; rfl
  | succ n ih =>
    intro h
    unfold bitsS
    rw [h n (by omega), ih (fun i hi => h i (by omega))]
def selB (b0 b1 b2 b3 b4 b5 : Bool) : Nat → Bool
  | 0 => b0
  | 1 => b1
  | 2 => b2
  | 3 => b3
  | 4 => b4
  | _ => b5
theorem sel_eq {f : Nat → Bool} {i : Nat} (h : i < 6) : f i = selB (f 0) (f 1) (f 2) (f 3) (f 4) (f 5) i := by
  match i, h with
  | 0, _ => rfl
  | 1, _ => rfl
  | 2, _ => rfl
  | 3, _ => rfl
  | 4, _ => rfl
  | 5, _ => rfl
def cntB (f : Nat → Bool) : Nat → Nat
  | 0 => 0
  | m + 1 => if f m = true then cntB f m + 1 else cntB f m
theorem cntB_congr {f g : Nat → Bool} : ∀ {n : Nat}, (∀ i, i < n → f i = g i) → cntB f n = cntB g n := by
  intro n
  induction n with
  | zero => intro _; rfl
  | succ n ih =>
    intro h
    unfold cntB
    rw [h n (by omega), ih (fun i hi => h i (by omega))]
theorem ones_dec : ∀ (b0 b1 b2 b3 b4 b5 : Bool) (n : Fin 7), onesG (bitsS (selB b0 b1 b2 b3 b4 b5) n.1) 6 = nI (cntB (selB b0 b1 b2 b3 b4 b5) n.1) := by decide +kernel
theorem ones_bits (f : Nat → Bool) {n : Nat} (h : n ≤ 6) : onesG (bitsS f n) 6 = nI (cntB f n) := by
  have h1 : ∀ i, i < n → f i = selB (f 0) (f 1) (f 2) (f 3) (f 4) (f 5) i := fun i hi => sel_eq (by omega)
  rw [bits_congr h1, cntB_congr h1]
  exact ones_dec _ _ _ _ _ _ ⟨n, by omega⟩
theorem cnt_B (t : St) : ∀ m, cntB (seenS t) m = cntS t m := by
  intro m
  induction m with
  | zero => rfl
  | succ m ih =>
    unfold cntB cntS
    rw [ih]
theorem z_cases {z : Int32} (h1 : -15 ≤ z.toInt) (h2 : z.toInt < 0) : z = -1 ∨ z = -2 ∨ z = -3 ∨ z = -4 ∨ z = -5 ∨ z = -6 ∨ z = -7 ∨ z = -8 ∨ z = -9 ∨ z = -10 ∨ z = -11 ∨ z = -12 ∨ z = -13 ∨ z = -14 ∨ z = -15 := by
  have e : ∀ a : Int32, z = a ↔ z.toInt = a.toInt := fun a => i_eq
  rw [e, e, e, e, e, e, e, e, e, e, e, e, e, e, e]
  rw [show (-1 : Int32).toInt = -1 by decide, show (-2 : Int32).toInt = -2 by decide, show (-3 : Int32).toInt = -3 by decide, show (-4 : Int32).toInt = -4 by decide, show (-5 : Int32).toInt = -5 by decide,
    show (-6 : Int32).toInt = -6 by decide, show (-7 : Int32).toInt = -7 by decide, show (-8 : Int32).toInt = -8 by decide, show (-9 : Int32).toInt = -9 by decide, show (-10 : Int32).toInt = -10 by decide,
    show (-11 : Int32).toInt = -11 by decide, show (-12 : Int32).toInt = -12 by decide, show (-13 : Int32).toInt = -13 by decide, show (-14 : Int32).toInt = -14 by decide, show (-15 : Int32).toInt = -15 by decide]
  omega
theorem m_two {k : Nat} {σ : Sto} {z : Int32} (h1 : -15 ≤ z.toInt) (h2 : z.toInt ≤ -9) (x y : Int32) : C nM_two k [.int (phi z), .int x, .int y] σ = some (joinS z x y, 0, σ) := by
  have c1 : ∀ {z : Int32} {n : Int}, z.toInt = n → ¬ n ≤ -9 → z.toInt ≤ -9 → False := fun a b c => b (a ▸ c)
  rw [eM_two k]
  rcases z_cases h1 (by omega) with h | h | h | h | h | h | h | h | h | h | h | h | h | h | h
  · subst h; exact absurd h2 (by decide)
  · subst h; exact absurd h2 (by decide)
  · subst h; exact absurd h2 (by decide)
  · subst h; exact absurd h2 (by decide)
  · subst h; exact absurd h2 (by decide)
  · subst h; exact absurd h2 (by decide)
  · subst h; exact absurd h2 (by decide)
  · subst h; exact absurd h2 (by decide)
  · subst h
    rw [show phi (-9) = 11 by decide]
    simp (config := { decide := true }) only [joinS, ↓reduceIte]
    split
    · split <;> rfl
    · rfl
  · subst h
    rw [show phi (-10) = 12 by decide]
    simp (config := { decide := true }) only [joinS, ↓reduceIte]
    split
    · rfl
    · split <;> rfl
  · subst h
    rw [show phi (-11) = 14 by decide]
    simp (config := { decide := true }) only [joinS, ↓reduceIte]
    split <;> rfl
  · subst h
    rw [show phi (-12) = 15 by decide]
    simp (config := { decide := true }) only [joinS, ↓reduceIte]
    split <;> rfl
  · subst h
    rw [show phi (-13) = 16 by decide]
    simp (config := { decide := true }) only [joinS, ↓reduceIte]
  · subst h
    rw [show phi (-14) = 17 by decide]
    simp (config := { decide := true }) only [joinS, ↓reduceIte]
  · subst h
    rw [show phi (-15) = 18 by decide]
    simp (config := { decide := true }) only [joinS, ↓reduceIte]
