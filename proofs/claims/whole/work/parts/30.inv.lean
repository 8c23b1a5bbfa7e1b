/-! THE WHOLE STATE: the strand now, the one kept and whether it is; the texts and how many; how much is taped, and what; the sheets: sorts, sizes, numbers -/
abbrev Ab : Type := (St × St × Bool) × (TXT × Nat) × (Nat × Rw) × (Rw × (Nat → Nat) × (Nat → Rw))
def aT (a : Ab) : St := a.1.1
def aK (a : Ab) : St := a.1.2.1
def aI (a : Ab) : Bool := a.1.2.2
def aX (a : Ab) : TXT := a.2.1.1
def aN (a : Ab) : Nat := a.2.1.2
def aL (a : Ab) : Nat := a.2.2.1.1
def aR (a : Ab) : Rw := a.2.2.1.2
def aS (a : Ab) : Rw := a.2.2.2.1
def aZ (a : Ab) : Nat → Nat := a.2.2.2.2.1
def aC (a : Ab) : Nat → Rw := a.2.2.2.2.2
def setT (a : Ab) (t : St) : Ab := ((t, aK a, aI a), a.2)
/-- what the sheets' rows say -/
def RepH (so si ce : Rw) (a : Ab) : Prop := ∀ s, s < 4 → so s = aS a s ∧ (¬ aS a s = -1 → si s = nI (aZ a s) ∧ ∀ i, i < aZ a s → ce (40 * s + i) = aC a s i)
def InvC (σ : Sto) (a : Ab) : Prop := (RepS σ 12 (aT a) ∧ TxS σ (aX a) (aN a)) ∧ (aI a = true → RepS σ 24 (aK a)) ∧ σ 2 4 = nI (aN a) ∧ σ 0 7 = nI (aL a) ∧ σ 0 8 = b2 (aI a) ∧ (∀ i, i < aL a → σ 1 i = aR a i) ∧ RepH (σ 10) (σ 11) (σ 9) a
def Img (σ : Sto) (t : St) : Prop := (∀ i, i < sN t → σ 38 (3 * i) = rP t i ∧ σ 38 (3 * i + 1) = rD t i ∧ σ 38 (3 * i + 2) = rW t i) ∧ σ 38 18 = sO t ∧ σ 38 19 = sB t ∧ σ 38 20 = sF t ∧ σ 38 21 = sH t ∧ σ 39 0 = nI (sN t) ∧ σ 39 1 = nI (sL t)
def InvM (σ : Sto) (a : Ab) : Prop := (RepM σ (aT a) ∧ TxM σ (aX a) (aN a)) ∧ (aI a = true → Img σ (aK a)) ∧ σ 30 9 = nI (aN a) ∧ σ 30 6 = nI (aL a) ∧ σ 30 11 = b2 (aI a) ∧ (∀ i, i < aL a → σ 35 i = aR a i) ∧ RepH (σ 40) (σ 41) (σ 42) a
def WfA (a : Ab) : Prop := Ok (aX a) (aN a) (aT a) ∧ (sH (aT a)).toInt ≤ 9999 ∧ (aI a = true → Ok (aX a) (aN a) (aK a) ∧ (sH (aK a)).toInt ≤ 9999 ∧ sN (aK a) ≤ sN (aT a) ∧ ∀ i, i < sN (aK a) → rK (aT a) i = rK (aK a) i ∧ rM (aT a) i = rM (aK a) i) ∧
  aL a ≤ 160 ∧ ∀ s, s < 4 → (-1 ≤ (aS a s).toInt ∧ (aS a s).toInt ≤ 2) ∧ aZ a s ≤ 40
def FC (σ σ' : Sto) : Prop := ∀ c, 30 ≤ c → σ' c = σ c
def FM (σ σ' : Sto) : Prop := ∀ c, c < 30 ∨ 48 < c ∨ c = 44 → σ' c = σ c
theorem Fr.c {l : List Nat} {σ σ' : Sto} (h : Fr l σ σ') (hl : ∀ c, c ∈ l → c < 30) : FC σ σ' := fun c hc => h c fun hm => by have := hl c hm; omega
theorem Fr.m {l : List Nat} {σ σ' : Sto} (h : Fr l σ σ') (hl : ∀ c, c ∈ l → 30 ≤ c ∧ c ≤ 48 ∧ c ≠ 44) : FM σ σ' := fun c hc => h c fun hm => by have := hl c hm; omega
theorem FC.tr {σ σ1 σ2 : Sto} (h1 : FC σ σ1) (h2 : FC σ1 σ2) : FC σ σ2 := fun c hc => (h2 c hc).trans (h1 c hc)
theorem FM.tr {σ σ1 σ2 : Sto} (h1 : FM σ σ1) (h2 : FM σ1 σ2) : FM σ σ2 := fun c hc => (h2 c hc).trans (h1 c hc)
theorem FC.rf {σ : Sto} : FC σ σ := fun _ _ => rfl
theorem FM.rf {σ : Sto} : FM σ σ := fun _ _ => rfl
theorem FC.su {σ σ' : Sto} (h : FC σ σ') {c i : Nat} {v : Int32} (hc : c < 30) : FC σ (su σ' c i v) := fun c' hc' => (su_ne (by omega)).trans (h c' hc')
theorem FM.su {σ σ' : Sto} (h : FM σ σ') {c i : Nat} {v : Int32} (hc : 30 ≤ c) (hc2 : c ≤ 48 ∧ c ≠ 44) : FM σ (su σ' c i v) := fun c' hc' => (su_ne (by omega)).trans (h c' hc')
theorem InvC.fr {l : List Nat} {σ σ' : Sto} {a : Ab} (h : InvC σ a) (hf : Fr l σ σ') (hl : ∀ c, c ∈ l → c = 6 ∨ c = 7 ∨ c = 8 ∨ (18 ≤ c ∧ c ≤ 23) ∨ 30 ≤ c) : InvC σ' a := by
  have q : ∀ c, ¬ (c = 6 ∨ c = 7 ∨ c = 8 ∨ (18 ≤ c ∧ c ≤ 23) ∨ 30 ≤ c) → σ' c = σ c := fun c hc => hf c fun hm => hc (hl c hm)
  have n : ∀ c, ¬ (c = 6 ∨ c = 7 ∨ c = 8 ∨ (18 ≤ c ∧ c ≤ 23) ∨ 30 ≤ c) → c ∉ l := fun c hc hm => hc (hl c hm)
  obtain ⟨⟨h1, h2⟩, h3, h4, h5, h6, h7, h8⟩ := h
  refine ⟨⟨h1.fr hf fun j hj => n _ (by omega), h2.fr hf (n 3 (by omega)) (n 4 (by omega)) (n 5 (by omega))⟩, fun hi => (h3 hi).fr hf fun j hj => n _ (by omega), ?_, ?_, ?_, ?_, ?_⟩
  · rw [q 2 (by omega)]; exact h4
  · rw [q 0 (by omega)]; exact h5
  · rw [q 0 (by omega)]; exact h6
  · rw [q 1 (by omega)]; exact h7
  · rw [q 9 (by omega), q 10 (by omega), q 11 (by omega)]; exact h8
theorem InvC.fm {σ σ' : Sto} {a : Ab} (h : InvC σ a) (hf : FM σ σ') : InvC σ' a := by
  have q : ∀ c, c < 30 → σ' c = σ c := fun c hc => hf c (Or.inl hc)
  obtain ⟨⟨h1, h2⟩, h3, h4, h5, h6, h7, h8⟩ := h
  have e : ∀ (c : Nat) (t : St), c + 5 < 30 → RepS σ c t → RepS σ' c t := by
    intro c t hc hr
    unfold RepS
    rw [q c (by omega), q (c + 1) (by omega), q (c + 2) (by omega), q (c + 3) (by omega), q (c + 4) (by omega), q (c + 5) (by omega)]
    exact hr
  refine ⟨⟨e 12 _ (by omega) h1, ?_⟩, fun hi => e 24 _ (by omega) (h3 hi), ?_, ?_, ?_, ?_, ?_⟩
  · unfold TxS
    rw [q 3 (by omega), q 4 (by omega), q 5 (by omega)]
    exact h2
  · rw [q 2 (by omega)]; exact h4
  · rw [q 0 (by omega)]; exact h5
  · rw [q 0 (by omega)]; exact h6
  · rw [q 1 (by omega)]; exact h7
  · rw [q 9 (by omega), q 10 (by omega), q 11 (by omega)]; exact h8
theorem InvM.fc {σ σ' : Sto} {a : Ab} (h : InvM σ a) (hf : FC σ σ') : InvM σ' a := by
  have q : ∀ c, 30 ≤ c → σ' c = σ c := fun c hc => hf c hc
  unfold InvM RepM TxM Img
  rw [q 30 (by omega), q 31 (by omega), q 32 (by omega), q 33 (by omega), q 34 (by omega), q 35 (by omega), q 36 (by omega), q 37 (by omega), q 38 (by omega), q 39 (by omega), q 40 (by omega), q 41 (by omega), q 42 (by omega)]
  exact h
theorem InvM.fr {l : List Nat} {σ σ' : Sto} {a : Ab} (h : InvM σ a) (hf : Fr l σ σ') (hl : ∀ c, c ∈ l → c < 30 ∨ 43 ≤ c) : InvM σ' a := by
  have q : ∀ c, 30 ≤ c → c < 43 → σ' c = σ c := fun c hc h2 => hf c fun hm => by have := hl c hm; omega
  unfold InvM RepM TxM Img
  rw [q 30 (by omega) (by omega), q 31 (by omega) (by omega), q 32 (by omega) (by omega), q 33 (by omega) (by omega), q 34 (by omega) (by omega), q 35 (by omega) (by omega), q 36 (by omega) (by omega), q 37 (by omega) (by omega), q 38 (by omega) (by omega), q 39 (by omega) (by omega), q 40 (by omega) (by omega), q 41 (by omega) (by omega), q 42 (by omega) (by omega)]
  exact h
/-- the strand now is another, all else is as it was -/
theorem InvC.st {σ σ' : Sto} {a : Ab} {t : St} (h : InvC σ a) (hf : Fr (wr 12) σ σ') (hr : RepS σ' 12 t) : InvC σ' (setT a t) := by
  have w : ∀ c, ¬ c = 6 → ¬ (12 ≤ c ∧ c ≤ 17) → σ' c = σ c := fun c h1 h2 => hf c (by unfold wr; simp only [List.mem_cons, List.not_mem_nil, or_false, not_or]; omega)
  obtain ⟨⟨h1, h2⟩, h3, h4, h5, h6, h7, h8⟩ := h
  refine ⟨⟨hr, h2.fr hf (by decide) (by decide) (by decide)⟩, fun hi => (h3 hi).fr hf fun j hj => by unfold wr; simp only [List.mem_cons, List.not_mem_nil, or_false, not_or]; omega, ?_, ?_, ?_, ?_, ?_⟩
  · rw [w 2 (by omega) (by omega)]; exact h4
  · rw [w 0 (by omega) (by omega)]; exact h5
  · rw [w 0 (by omega) (by omega)]; exact h6
  · rw [w 1 (by omega) (by omega)]; exact h7
  · rw [w 9 (by omega) (by omega), w 10 (by omega) (by omega), w 11 (by omega) (by omega)]; exact h8
theorem InvM.st {σ σ' : Sto} {a : Ab} {t : St} (h : InvM σ a) (hf : Fr wm σ σ') (hr : RepM σ' t) : InvM σ' (setT a t) := by
  have w : ∀ c, 30 ≤ c → c ≠ 33 → c ≠ 34 → c < 43 → σ' c = σ c := fun c h1 h2 h3 h4 => hf c (by unfold wm; simp only [List.mem_cons, List.not_mem_nil, or_false, not_or]; omega)
  obtain ⟨⟨h1, h2⟩, h3, h4, h5, h6, h7, h8⟩ := h
  refine ⟨⟨hr, h2.fr hf (by decide) (by decide)⟩, fun hi => ?_, ?_, ?_, ?_, ?_, ?_⟩
  · unfold Img
    rw [w 38 (by omega) (by omega) (by omega) (by omega), w 39 (by omega) (by omega) (by omega) (by omega)]
    exact h3 hi
  · rw [w 30 (by omega) (by omega) (by omega) (by omega)]; exact h4
  · rw [w 30 (by omega) (by omega) (by omega) (by omega)]; exact h5
  · rw [w 30 (by omega) (by omega) (by omega) (by omega)]; exact h6
  · rw [w 35 (by omega) (by omega) (by omega) (by omega)]; exact h7
  · rw [w 40 (by omega) (by omega) (by omega) (by omega), w 41 (by omega) (by omega) (by omega) (by omega), w 42 (by omega) (by omega) (by omega) (by omega)]; exact h8
/-- one call of both: the same answer, and both stand as one state says -/
def StepC (nx : Nat) (xs : List Value) (v : Int32 × Int64) (a a' : Ab) : Prop := ∀ σ, InvC σ a → ∃ σ', C nx 0 (.ref 0 :: xs) σ = some (v.1, v.2, σ') ∧ InvC σ' a' ∧ FC σ σ'
def StepM (ny : Nat) (xs : List Value) (v : Int32 × Int64) (a a' : Ab) : Prop := ∀ σ, InvM σ a → ∃ σ', C ny 0 (.ref 30 :: xs) σ = some (v.1, v.2, σ') ∧ InvM σ' a' ∧ FM σ σ'
def Step (nx ny : Nat) (xs : List Value) (a : Ab) : Prop := ∃ v a', WfA a' ∧ StepC nx xs v a a' ∧ StepM ny xs v a a'
/-! numbers within bounds, for both -/
theorem c_in {k : Nat} {σ : Sto} (v lo hi : Int32) : C nF_within k [.int v, .int lo, .int hi] σ = some (b2 (decide (lo.toInt ≤ v.toInt ∧ v.toInt ≤ hi.toInt)), 0, σ) := by
  rw [eF_within k]
  by_cases h1 : v < lo
  · rw [if_pos h1]
    rw [i_lt] at h1
    rw [decide_eq_false (by omega)]
    rfl
  · rw [if_neg h1]
    rw [i_lt] at h1
    by_cases h2 : hi < v
    · rw [if_pos h2]
      rw [i_lt] at h2
      rw [decide_eq_false (by omega)]
      rfl
    · rw [if_neg h2]
      rw [i_lt] at h2
      rw [decide_eq_true (by omega)]
      rfl
theorem m_in {k : Nat} {σ : Sto} (v lo hi : Int32) : C nM_in k [.int v, .int lo, .int hi] σ = some (b2 (decide (lo.toInt ≤ v.toInt ∧ v.toInt ≤ hi.toInt)), 0, σ) := by
  rw [eM_in k]
  by_cases h1 : v < lo
  · rw [if_pos h1]
    rw [i_lt] at h1
    rw [decide_eq_false (by omega)]
    rfl
  · rw [if_neg h1]
    rw [i_lt] at h1
    by_cases h2 : hi < v
    · rw [if_pos h2]
      rw [i_lt] at h2
      rw [decide_eq_false (by omega)]
      rfl
    · rw [if_neg h2]
      rw [i_lt] at h2
      rw [decide_eq_true (by omega)]
      rfl
def isOneS (t : St) (x : Int32) : Bool := decide (0 ≤ x.toInt ∧ x.toInt < (sN t : Int))
theorem lg_lt (x : Int64) (y : Int64) : (lg_cmp x y < 0) ↔ x.toInt < y.toInt := by
  unfold lg_cmp
  by_cases h : y < x
  · rw [if_pos h]
    rw [Int64.lt_iff_toInt_lt] at h
    exact ⟨fun hh => absurd hh (by decide), fun hh => (by omega)⟩
  · rw [if_neg h]
    rw [Int64.lt_iff_toInt_lt] at h
    by_cases h2 : x = y
    · rw [if_pos h2, h2]
      exact ⟨fun hh => absurd hh (by decide), fun hh => (by omega)⟩
    · rw [if_neg h2]
      have h3 : ¬ x.toInt = y.toInt := fun e => h2 (Int64.toInt_inj.mp e)
      exact ⟨fun _ => (by omega), fun _ => (by decide)⟩
theorem c_has {k c : Nat} (hc : c = 12 ∨ c = 18 ∨ c = 24) {σ : Sto} {t : St} (hr : RepS σ c t) (hN : sN t ≤ 6) (x : Int64) : C nS_has k [.ref c, .long x] σ = some (b2 (decide (0 ≤ x.toInt ∧ x.toInt < (sN t : Int))), 0, σ) := by
  have e0 : (0 : Int64).toInt = 0 := by decide
  have en : (Int32.toInt64 (nI (sN t))).toInt = (sN t : Int) := by rw [Int32.toInt_toInt64, nI_toInt (by omega)]
  rw [eS_has k c hc, hr.n]
  by_cases h1 : lg_cmp x 0 < 0
  · rw [if_pos h1]
    rw [lg_lt, e0] at h1
    rw [decide_eq_false (by omega)]
    rfl
  · rw [if_neg h1]
    rw [lg_lt, e0] at h1
    by_cases h2 : lg_cmp x (Int32.toInt64 (nI (sN t))) < 0
    · rw [if_pos h2]
      rw [lg_lt, en] at h2
      rw [decide_eq_true (by omega)]
      rfl
    · rw [if_neg h2]
      rw [lg_lt, en] at h2
      rw [decide_eq_false (by omega)]
      rfl
theorem c_has32 {k c : Nat} (hc : c = 12 ∨ c = 18 ∨ c = 24) {σ : Sto} {t : St} (hr : RepS σ c t) (hN : sN t ≤ 6) (x : Int32) : C nS_has k [.ref c, .long (Int32.toInt64 x)] σ = some (b2 (isOneS t x), 0, σ) := by
  rw [c_has hc hr hN, Int32.toInt_toInt64]
  rfl
theorem m_one {k : Nat} {σ : Sto} {t : St} (hr : RepM σ t) (hN : sN t ≤ 6) (x : Int32) : C nM_isOne k [.ref 30, .int x] σ = some (b2 (isOneS t x), 0, σ) := by
  rw [eM_isOne k, hr.n, m_in, bs]
  have t1 : (1 : Int32).toInt = 1 := by decide
  have tn := nI_toInt (n := sN t) (by omega)
  have e : ((nI (sN t)) - 1).toInt = (sN t : Int) - 1 := by rw [i_sub (by omega) (by omega), tn, t1]
  have e0 : (0 : Int32).toInt = 0 := by decide
  have e2 : decide (0 ≤ x.toInt ∧ x.toInt ≤ (sN t : Int) - 1) = isOneS t x := by
    unfold isOneS
    rw [decide_eq_decide]
    omega
  rw [if_pos b2_nok, e, e0, e2]
theorem one_of {t : St} {x : Int32} (hN : sN t ≤ 6) (h : isOneS t x = true) : ∃ p, p < sN t ∧ x = nI p := by
  unfold isOneS at h
  rw [decide_eq_true_eq] at h
  refine ⟨x.toInt.toNat, by omega, ?_⟩
  rw [i_eq, nI_toInt (by omega)]
  omega
theorem c_bit {k : Nat} {σ : Sto} {v : Int32} (h : v = 0 ∨ v = 1) : C nF_bit k [.int v] σ = some (v, 0, σ) := by
  rw [eF_bit k]
  rcases h with h | h
  · rw [h]; rfl
  · rw [h]; rfl
theorem c_bitb {k : Nat} {σ : Sto} {b : Bool} : C nF_bit k [.int (b2 b)] σ = some (b2 b, 0, σ) := c_bit (by cases b; exact Or.inl rfl; exact Or.inr rfl)
theorem WfA.st {a : Ab} (h : WfA a) {t : St} (ho : Ok (aX a) (aN a) t) (hh : (sH t).toInt ≤ 9999) (hn : sN (aT a) ≤ sN t) (hk : ∀ i, i < sN (aT a) → rK t i = rK (aT a) i ∧ rM t i = rM (aT a) i) : WfA (setT a t) := by
  obtain ⟨h1, h2, h3, h4, h5⟩ := h
  refine ⟨ho, hh, fun hi => ?_, h4, h5⟩
  obtain ⟨g1, g2, g3, g4⟩ := h3 hi
  refine ⟨g1, g2, Nat.le_trans g3 hn, fun i hi2 => ?_⟩
  obtain ⟨q1, q2⟩ := hk i (Nat.lt_of_lt_of_le hi2 g3)
  obtain ⟨q3, q4⟩ := g4 i hi2
  exact ⟨q1.trans q3, q2.trans q4⟩
