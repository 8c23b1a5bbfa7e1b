/-! BREAKWATER: the first of the fewest -/
def fewQ (o : Option Nat) (m : Nat) : Bool := match o with
  | none => true
  | some b => decide (onesG (nI m) 6 < onesG (nI b) 6)
def brkS (TX : TXT) (t : St) (S : Nat) : Nat → Option Nat
  | 0 => none
  | m + 1 => if (nI m &&& (nI S ^^^ (-1))) = 0 then (if fewQ (brkS TX t S m) m = true then (if allS TX t m = true then some m else brkS TX t S m) else brkS TX t S m) else brkS TX t S m
theorem brk_1 {TX : TXT} {t : St} {S m : Nat} : brkS TX t S (m + 1) = if (nI m &&& (nI S ^^^ (-1))) = 0 then (if fewQ (brkS TX t S m) m = true then (if allS TX t m = true then some m else brkS TX t S m) else brkS TX t S m) else brkS TX t S m := rfl
theorem brk_in {TX : TXT} {t : St} {S : Nat} : ∀ m, ∀ b, brkS TX t S m = some b → b < m ∧ (nI b &&& (nI S ^^^ (-1))) = 0 := by
  intro m
  induction m with
  | zero => intro b h; cases h
  | succ m ih =>
    intro b h
    have ih2 : brkS TX t S m = some b → b < m + 1 ∧ (nI b &&& (nI S ^^^ (-1))) = 0 := fun z => ⟨by have := (ih b z).1; omega, (ih b z).2⟩
    rw [brk_1] at h
    by_cases h1 : (nI m &&& (nI S ^^^ (-1))) = 0
    · rw [if_pos h1] at h
      by_cases h2 : fewQ (brkS TX t S m) m = true
      · rw [if_pos h2] at h
        by_cases h3 : allS TX t m = true
        · rw [if_pos h3] at h
          cases h
          exact ⟨by omega, h1⟩
        · rw [if_neg h3] at h; exact ih2 h
      · rw [if_neg h2] at h; exact ih2 h
    · rw [if_neg h1] at h; exact ih2 h
def clsB (o : Option Nat) (S : Nat) : Nat := match o with
  | none => S
  | some b => b
theorem bits_false {f : Nat → Bool} {n : Nat} (h : ∀ i, i < n → f i = false) : bitsS f n = 0 := by
  induction n with
  | zero => rfl
  | succ n ih =>
    unfold bitsS
    rw [h n (by omega), if_neg (by decide), ih fun i hi => h i (by omega)]
theorem all_S {TX : TXT} {t : St} {S : Nat} (hN : sN t ≤ 6) (eS : bitsS (seenS t) (sN t) = nI S) : allS TX t S = true := by
  have h1 : ∀ p, p < sN t → seenS (hdT t S (sN t)) p = false := by
    intro p hp
    rw [seen_hdT hp, ← eS, bits_bit _ hN (by omega), decide_eq_true hp, Bool.true_and]
    cases seenS t p <;> rfl
  have h2 : ∀ p, p < sN t → aloneS TX (hdT t S (sN t)) p = false := by
    intro p hp
    unfold aloneS
    rw [h1 p hp, Bool.false_and]
  unfold allS
  rw [show sN (hdT t S (sN t)) = sN t from rfl, bits_false h1, bits_false h2]
  rfl
theorem brk_end {TX : TXT} {t : St} {S : Nat} (hN : sN t ≤ 6) (hS : S < 64) (eS : bitsS (seenS t) (sN t) = nI S) : ∀ d, S + 1 + d ≤ 64 → brkS TX t S (S + 1 + d) = some (clsB (brkS TX t S S) S) := by
  intro d
  induction d with
  | zero =>
    intro _
    show brkS TX t S (S + 1) = _
    rw [brk_1, if_pos (d_self ⟨S, hS⟩), all_S hN eS, if_pos rfl]
    cases hb : brkS TX t S S with
    | none => rfl
    | some b =>
      have h1 := brk_in S b hb
      have h2 := (d_sub ⟨b, by omega⟩ ⟨S, hS⟩ h1.2).2.1 h1.1
      rw [if_neg]
      · rfl
      · show ¬ decide (onesG (nI S) 6 < onesG (nI b) 6) = true
        rw [decide_eq_true_eq, i_lt]
        rw [i_lt] at h2
        have h2 : (onesG (nI b) 6).toInt < (onesG (nI S) 6).toInt := h2
        omega
  | succ d ih =>
    intro hd
    show brkS TX t S (S + 1 + d + 1) = _
    rw [brk_1, if_neg, ih (by omega)]
    intro h
    have := (d_sub ⟨S + 1 + d, by omega⟩ ⟨S, hS⟩ h).1
    have : S + 1 + d ≤ S := this
    omega
theorem c_brkL {a : Ab} (hw : WfA a) {S : Nat} (hS : S < 64) {y : Int32} : ∀ d m u σ, m + d = S → InvC σ a →
    ∃ σ', R nF_breakwater 0 15 [.ref 0, .int y, .int (nI S), .int (nI (clsB (brkS (aX a) (aT a) S m) S)), .int (nI m), u] [] σ =
      some (if y = 0 then nI (clsB (brkS (aX a) (aT a) S S) S) else onesG (nI (clsB (brkS (aX a) (aT a) S S) S)) 6, 0, σ') ∧ InvC σ' a ∧ FC σ σ' := by
  have hcl : ∀ m, m ≤ S → clsB (brkS (aX a) (aT a) S m) S < 64 := by
    intro m hm
    cases hb : brkS (aX a) (aT a) S m with
    | none => exact hS
    | some b =>
      have := (brk_in m b hb).1
      show b < 64
      omega
  intro d
  induction d with
  | zero =>
    intro m u σ hm h
    have e : m = S := by omega
    subst e
    rw [eF_breakwater_15 0, if_neg (nI_nlt (by omega) (by omega)), c_bits ⟨_, hcl m (Nat.le_refl _)⟩, bs]
    refine ⟨σ, ?_, h, FC.rf⟩
    split <;> rfl
  | succ d ih =>
    intro m u σ hm h
    have e := brk_1 (TX := aX a) (t := aT a) (S := S) (m := m)
    rw [eF_breakwater_15 0, if_pos (nI_lt (by omega) (by omega)), nI_1]
    by_cases h1 : (nI m &&& (nI S ^^^ (-1))) = 0
    · rw [if_pos h1] at e
      rw [if_pos h1, c_bits ⟨m, by omega⟩, bs]; (try dsimp only); rw [c_bits ⟨_, hcl m (by omega)⟩, bs]
      have hq : (onesG (nI m) 6 < onesG (nI (clsB (brkS (aX a) (aT a) S m) S)) 6) ↔ fewQ (brkS (aX a) (aT a) S m) m = true := by
        cases hb : brkS (aX a) (aT a) S m with
        | none =>
          have h2 := (d_sub ⟨m, by omega⟩ ⟨S, hS⟩ h1).2.1 (show m < S by omega)
          exact ⟨fun _ => rfl, fun _ => h2⟩
        | some b => exact (decide_eq_true_iff).symm
      by_cases h2 : fewQ (brkS (aX a) (aT a) S m) m = true
      · rw [if_pos h2] at e
        obtain ⟨σ1, e1, h3, f1⟩ := c_others hw (show m < 64 by omega) h
        rw [if_pos (hq.mpr h2), e1, bs]
        cases h4 : allS (aX a) (aT a) m with
        | false =>
          rw [h4, if_neg (by decide)] at e
          obtain ⟨σ2, e2, i2, f2⟩ := ih (m + 1) (.int 1) σ1 (by omega) h3
          rw [e] at e2
          rw [b2F, if_pos rfl]
          exact ⟨σ2, e2, i2, f1.tr f2⟩
        | true =>
          rw [h4, if_pos rfl] at e
          obtain ⟨σ2, e2, i2, f2⟩ := ih (m + 1) (.int 1) σ1 (by omega) h3
          rw [e] at e2
          rw [b2T, if_neg n10]
          exact ⟨σ2, e2, i2, f1.tr f2⟩
      · rw [if_neg h2] at e
        obtain ⟨σ2, e2, i2, f2⟩ := ih (m + 1) (.int 1) σ (by omega) h
        rw [e] at e2
        rw [if_neg (fun z => h2 (hq.mp z))]
        exact ⟨σ2, e2, i2, f2⟩
    · rw [if_neg h1] at e
      obtain ⟨σ2, e2, i2, f2⟩ := ih (m + 1) (.int 0) σ (by omega) h
      rw [e] at e2
      rw [if_neg h1]
      exact ⟨σ2, e2, i2, f2⟩
def mBest (o : Option Nat) : Int32 := match o with
  | none => -1
  | some b => nI b
def mFew (o : Option Nat) : Int32 := match o with
  | none => -1
  | some b => onesG (nI b) 6
theorem m_brkL {a : Ab} (hw : WfA a) {S : Nat} (hS : S < 2 ^ sN (aT a)) (eS : bitsS (seenS (aT a)) (sN (aT a)) = nI S) {y : Int32} : ∀ d m u7 u8 σ, m + d = 2 ^ sN (aT a) → InvM σ a →
    ∃ σ', R nM_breakwater 0 16 [.ref 30, .int y, .int (nI S), .int (mBest (brkS (aX a) (aT a) S m)), .int (mFew (brkS (aX a) (aT a) S m)), .int (nI m), u7, u8] [] σ =
      some (if y = 0 then mBest (brkS (aX a) (aT a) S (2 ^ sN (aT a))) else mFew (brkS (aX a) (aT a) S (2 ^ sN (aT a))), 0, σ') ∧ InvM σ' a ∧ FM σ σ' := by
  have hN := hw.1.n
  have hp : 2 ^ sN (aT a) ≤ 2 ^ 6 := Nat.pow_le_pow_right (by omega) hN
  have hl : ∀ σ, InvM σ a → (1 : Int32) <<< (σ 30 0 &&& 31) = nI (2 ^ sN (aT a)) := fun σ h => by rw [h.at.1.n]; exact d_pow ⟨sN (aT a), by omega⟩
  intro d
  induction d with
  | zero =>
    intro m u7 u8 σ hm h
    have e : m = 2 ^ sN (aT a) := by omega
    rw [e, eM_breakwater_16 0, hl σ h, if_neg (nI_nlt (by omega) (by omega))]
    refine ⟨σ, ?_, h, FM.rf⟩
    split <;> rfl
  | succ d ih =>
    intro m u7 u8 σ hm h
    have e := brk_1 (TX := aX a) (t := aT a) (S := S) (m := m)
    rw [eM_breakwater_16 0, hl σ h, if_pos (nI_lt (by omega) (by omega)), nI_1]
    by_cases h1 : (nI m &&& (nI S ^^^ (-1))) = 0
    · rw [if_pos h1] at e
      rw [if_pos h1]
      have fin : fewQ (brkS (aX a) (aT a) S m) m = true → ∃ σ', R nM_breakwater 0 35 [.ref 30, .int y, .int (nI S), .int (mBest (brkS (aX a) (aT a) S m)), .int (mFew (brkS (aX a) (aT a) S m)), .int (nI m), u7, u8] [] σ =
          some (if y = 0 then mBest (brkS (aX a) (aT a) S (2 ^ sN (aT a))) else mFew (brkS (aX a) (aT a) S (2 ^ sN (aT a))), 0, σ') ∧ InvM σ' a ∧ FM σ σ' := by
        intro h2
        rw [if_pos h2] at e
        obtain ⟨σ1, e1, h3, f1⟩ := m_all hw (show m < 64 by omega) (show S < 64 by omega) eS h1 h
        rw [eM_breakwater_35 0, e1, bs]; (try dsimp only); rw [nI_1]
        cases h4 : allS (aX a) (aT a) m with
        | false =>
          rw [h4, if_neg (by decide)] at e
          obtain ⟨σ2, e2, i2, f2⟩ := ih (m + 1) (.int 1) (.int (b2 false)) σ1 (by omega) h3
          rw [e] at e2
          rw [if_pos (show b2 false = 0 from rfl), if_pos (show b2 false = 0 from rfl)]
          exact ⟨σ2, e2, i2, f1.tr f2⟩
        | true =>
          rw [h4, if_pos rfl] at e
          obtain ⟨σ2, e2, i2, f2⟩ := ih (m + 1) (.int 1) (.int (b2 true)) σ1 (by omega) h3
          rw [e] at e2
          rw [if_neg (show ¬ b2 true = 0 from n10), if_neg (show ¬ b2 true = 0 from n10), m_onesOf, bs]
          exact ⟨σ2, e2, i2, f1.tr f2⟩
      cases hb : brkS (aX a) (aT a) S m with
      | none =>
        rw [hb] at fin
        rw [if_pos (show mBest none = -1 from rfl)]
        exact fin rfl
      | some b =>
        have hb1 := (brk_in m b hb).1
        rw [if_neg (show ¬ mBest (some b) = -1 from nI_nm (by omega)), m_onesOf, bs]
        by_cases h2 : onesG (nI m) 6 < onesG (nI b) 6
        · rw [hb] at fin
          rw [if_pos (show onesG (nI m) 6 < mFew (some b) from h2)]
          exact fin (decide_eq_true h2)
        · rw [if_neg (show ¬ onesG (nI m) 6 < mFew (some b) from h2)]
          rw [hb, if_neg (show ¬ fewQ (some b) m = true from fun z => h2 (of_decide_eq_true z))] at e
          obtain ⟨σ2, e2, i2, f2⟩ := ih (m + 1) (.int 0) u8 σ (by omega) h
          rw [e] at e2
          exact ⟨σ2, e2, i2, f2⟩
    · rw [if_neg h1] at e
      obtain ⟨σ2, e2, i2, f2⟩ := ih (m + 1) (.int 0) u8 σ (by omega) h
      rw [e] at e2
      rw [if_neg h1]
      exact ⟨σ2, e2, i2, f2⟩
theorem s_breakwater {a : Ab} (hw : WfA a) (x : Int32) : Step nF_breakwater nM_breakwater [.int x] a := by
  have ho := hw.1
  have hN := ho.n
  have e0 : (0 : Int32).toInt = 0 := by decide
  have e1 : (1 : Int32).toInt = 1 := by decide
  by_cases hx : 0 ≤ x.toInt ∧ x.toInt ≤ 1
  rotate_left
  · have q := in_f e0 e1 hx
    refine same hw (-2) (fun σ h => ?_) (fun σ h => ?_)
    · rw [eF_breakwater 0, c_in, q, bs]; (try dsimp only); rw [if_pos rfl]
      exact ⟨σ, rfl, Fr.rf⟩
    · rw [eM_breakwater 0, m_in, q, bs]; (try dsimp only); rw [if_pos rfl]
      exact ⟨σ, rfl, Fr.rf⟩
  have q := in_t e0 e1 hx
  obtain ⟨S, hS, eS⟩ := bits_nat (seenS (aT a)) hN
  have hp : 2 ^ sN (aT a) ≤ 2 ^ 6 := Nat.pow_le_pow_right (by omega) hN
  have hend := brk_end (TX := aX a) hN (show S < 64 by omega) eS (2 ^ sN (aT a) - (S + 1)) (by omega)
  rw [show S + 1 + (2 ^ sN (aT a) - (S + 1)) = 2 ^ sN (aT a) by omega] at hend
  refine think hw (if x = 0 then nI (clsB (brkS (aX a) (aT a) S S) S) else onesG (nI (clsB (brkS (aX a) (aT a) S S) S)) 6) (fun σ h => ?_) (fun σ h => ?_)
  · obtain ⟨σ2, e2, i2, f2⟩ := c_brkL hw (show S < 64 by omega) (y := x) S 0 .null σ (Nat.zero_add _) h
    rw [eF_breakwater 0, c_in, q, bs]; (try dsimp only); rw [if_neg n10, c_seenBits h12 h.at.1 hN, bs]; (try dsimp only); rw [eS]
    exact ⟨σ2, e2, i2, f2⟩
  · obtain ⟨σ2, e2, i2, f2⟩ := m_brkL hw hS eS (y := x) (2 ^ sN (aT a)) 0 .null .null σ (Nat.zero_add _) h
    rw [hend] at e2
    rw [eM_breakwater 0, m_in, q, bs]; (try dsimp only); rw [if_neg n10, m_seenSet h.at.1 hN, bs]; (try dsimp only); rw [eS]
    exact ⟨σ2, e2, i2, f2⟩
