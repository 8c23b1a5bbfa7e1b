/-! ODDS -/
def oddS (TX : TXT) (t : St) (s least : Int32) : Nat → Nat
  | 0 => 0
  | m + 1 => if nI (manG TX t (seedL (s + nI m)) 12) < least then oddS TX t s least m else oddS TX t s least m + 1
theorem odd_le {TX : TXT} {t : St} {s least : Int32} : ∀ m, oddS TX t s least m ≤ m := by
  intro m
  induction m with
  | zero => exact Nat.le_refl _
  | succ m ih =>
    unfold oddS
    split <;> omega
theorem seed_at {s : Int32} {m : Nat} (h1 : 0 ≤ s.toInt ∧ s.toInt ≤ 99999) (hm : m < 41) : 0 ≤ (s + nI m).toInt ∧ (s + nI m).toInt ≤ 200000 := by
  rw [i_add (by rw [nI_toInt (by omega)]; omega) (by rw [nI_toInt (by omega)]; omega), nI_toInt (by omega)]
  omega
theorem c_oddL {a : Ab} (hw : WfA a) {s least z : Int32} {n : Nat} (hs : 0 ≤ s.toInt ∧ s.toInt ≤ 99999) (hn : n < 41) : ∀ d m σ, m + d = n → InvC σ a →
    ∃ σ', R nF_odds 0 21 [.ref 0, .int s, .int (nI n), .int least, .int z, .int (nI (oddS (aX a) (aT a) s least m)), .int (nI m)] [] σ = some (0, fracS (oddS (aX a) (aT a) s least n) n z, σ') ∧ InvC σ' a ∧ FC σ σ' := by
  intro d
  induction d with
  | zero =>
    intro m σ hm h
    have e : m = n := by omega
    subst e
    have hl := odd_le (TX := aX a) (t := aT a) (s := s) (least := least) m
    rw [eF_odds_21 0, if_neg (nI_nlt (by omega) (by omega)), c_frac (by omega) (by omega), bs]
    exact ⟨σ, rfl, h, FC.rf⟩
  | succ d ih =>
    intro m σ hm h
    have hb := seed_at hs (show m < 41 by omega)
    obtain ⟨σ1, e1, h1, f1⟩ := c_gulls hw hb.1 hb.2 h
    obtain ⟨σ2, e2, h2, f2⟩ := ih (m + 1) σ1 (by omega) h1.2
    have em : oddS (aX a) (aT a) s least (m + 1) = if nI (manG (aX a) (aT a) (seedL (s + nI m)) 12) < least then oddS (aX a) (aT a) s least m else oddS (aX a) (aT a) s least m + 1 := rfl
    refine ⟨σ2, ?_, h2, f1.tr f2⟩
    rw [← e2, em, eF_odds_21 0, if_pos (nI_lt (by omega) (by omega)), e1, bs]; (try dsimp only); rw [nI_1, nI_1]
    by_cases hq : nI (manG (aX a) (aT a) (seedL (s + nI m)) 12) < least
    · rw [if_pos hq, if_pos hq]
    · rw [if_neg hq, if_neg hq]
theorem m_oddL {a : Ab} (hw : WfA a) {s least z : Int32} {n : Nat} (hs : 0 ≤ s.toInt ∧ s.toInt ≤ 99999) (hn : n < 41) (hn0 : ¬ n = 0) (hz : z = 0 ∨ z = 1) : ∀ d m σ, m + d = n → InvM σ a →
    ∃ σ', R nM_odds 0 26 [.ref 30, .int s, .int (nI n), .int least, .int z, .long (Int32.toInt64 (nI (oddS (aX a) (aT a) s least m))), .null, .int (nI m)] [] σ = some (0, fracS (oddS (aX a) (aT a) s least n) n z, σ') ∧ InvM σ' a ∧ FM σ σ' := by
  intro d
  induction d with
  | zero =>
    intro m σ hm h
    have e : m = n := by omega
    subst e
    have hl := odd_le (TX := aX a) (t := aT a) (s := s) (least := least) m
    rw [eM_odds_26 0, if_neg (nI_nlt (by omega) (by omega)), m_low (by omega) (by omega) hn0 hz, bs]
    exact ⟨σ, rfl, h, FM.rf⟩
  | succ d ih =>
    intro m σ hm h
    have hl := odd_le (TX := aX a) (t := aT a) (s := s) (least := least) m
    have hb := seed_at hs (show m < 41 by omega)
    obtain ⟨σ1, e1, h1, f1, _⟩ := m_gulls hw hb.1 hb.2 h
    obtain ⟨σ2, e2, h2, f2⟩ := ih (m + 1) σ1 (by omega) h1
    have em : oddS (aX a) (aT a) s least (m + 1) = if nI (manG (aX a) (aT a) (seedL (s + nI m)) 12) < least then oddS (aX a) (aT a) s least m else oddS (aX a) (aT a) s least m + 1 := rfl
    refine ⟨σ2, ?_, h2, f1.tr f2⟩
    rw [← e2, em, eM_odds_26 0, if_pos (nI_lt (by omega) (by omega)), e1, bs]; (try dsimp only); rw [nI_1]
    by_cases hq : nI (manG (aX a) (aT a) (seedL (s + nI m)) 12) < least
    · rw [if_pos hq, if_pos hq, Int64.add_zero]
    · rw [if_neg hq, if_neg hq, l1, yN_add (by omega)]
theorem s_odds {a : Ab} (hw : WfA a) (x y v z : Int32) : Step nF_odds nM_odds [.int x, .int y, .int v, .int z] a := by
  have e0 : (0 : Int32).toInt = 0 := by decide
  have e1 : (1 : Int32).toInt = 1 := by decide
  have e12 : (12 : Int32).toInt = 12 := by decide
  have e40 : (40 : Int32).toInt = 40 := by decide
  have e9 : (99999 : Int32).toInt = 99999 := by decide
  have ask : ∀ w : Int64, (∀ σ, InvC σ a → ∃ σ', C nF_odds 0 (.ref 0 :: [.int x, .int y, .int v, .int z]) σ = some (0, w, σ') ∧ InvC σ' a ∧ FC σ σ') → (∀ σ, InvM σ a → ∃ σ', C nM_odds 0 (.ref 30 :: [.int x, .int y, .int v, .int z]) σ = some (0, w, σ') ∧ InvM σ' a ∧ FM σ σ') → Step nF_odds nM_odds [.int x, .int y, .int v, .int z] a :=
    fun w h1 h2 => ⟨(0, w), a, hw, h1, h2⟩
  by_cases hx : 0 ≤ x.toInt ∧ x.toInt ≤ 99999
  rotate_left
  · have q := in_f e0 e9 hx
    refine ask (-4611686018427387904) (fun σ h => ?_) (fun σ h => ?_)
    · rw [eF_odds 0, c_in, q, bs]; (try dsimp only); rw [if_pos rfl]
      exact ⟨σ, rfl, h, FC.rf⟩
    · rw [eM_odds 0, m_in, q, bs]; (try dsimp only); rw [if_pos rfl]
      exact ⟨σ, rfl, h, FM.rf⟩
  have q := in_t e0 e9 hx
  by_cases hy : 1 ≤ y.toInt ∧ y.toInt ≤ 40
  rotate_left
  · have q2 := in_f e1 e40 hy
    refine ask (-4611686018427387904) (fun σ h => ?_) (fun σ h => ?_)
    · rw [eF_odds 0, c_in, q, bs]; (try dsimp only); rw [if_neg n10, c_in, q2, bs]; (try dsimp only); rw [if_pos rfl]
      exact ⟨σ, rfl, h, FC.rf⟩
    · rw [eM_odds 0, m_in, q, bs]; (try dsimp only); rw [if_neg n10, m_in, q2, bs]; (try dsimp only); rw [if_pos rfl]
      exact ⟨σ, rfl, h, FM.rf⟩
  have q2 := in_t e1 e40 hy
  by_cases hv : 0 ≤ v.toInt ∧ v.toInt ≤ 12
  rotate_left
  · have q3 := in_f e0 e12 hv
    refine ask (-4611686018427387904) (fun σ h => ?_) (fun σ h => ?_)
    · rw [eF_odds 0, c_in, q, bs]; (try dsimp only); rw [if_neg n10, c_in, q2, bs]; (try dsimp only); rw [if_neg n10, c_in, q3, bs]; (try dsimp only); rw [if_pos rfl]
      exact ⟨σ, rfl, h, FC.rf⟩
    · rw [eM_odds 0, m_in, q, bs]; (try dsimp only); rw [if_neg n10, m_in, q2, bs]; (try dsimp only); rw [if_neg n10, m_in, q3, bs]; (try dsimp only); rw [if_pos rfl]
      exact ⟨σ, rfl, h, FM.rf⟩
  have q3 := in_t e0 e12 hv
  obtain ⟨n, hn, en⟩ := nI_in1 (x := y) (n := 41) (by omega) (by omega)
  have hn0 : ¬ n = 0 := by
    intro e
    rw [en, e, show (nI 0).toInt = 0 by decide] at hy
    omega
  subst en
  refine ask (fracS (oddS (aX a) (aT a) x v n) n z) (fun σ h => ?_) (fun σ h => ?_)
  · obtain ⟨σ2, g2, h2, f2⟩ := c_oddL hw (least := v) (z := z) hx hn n 0 σ (Nat.zero_add _) h
    rw [eF_odds 0, c_in, q, bs]; (try dsimp only); rw [if_neg n10, c_in, q2, bs]; (try dsimp only); rw [if_neg n10, c_in, q3, bs]; (try dsimp only); rw [if_neg n10]
    exact ⟨σ2, g2, h2, f2⟩
  · by_cases hz : 0 ≤ z.toInt ∧ z.toInt ≤ 1
    · have ez : z = 0 ∨ z = 1 := by
        rw [i_eq, i_eq, e0, e1]
        omega
      obtain ⟨σ2, g2, h2, f2⟩ := m_oddL hw (least := v) (z := z) hx hn hn0 ez n 0 σ (Nat.zero_add _) h
      rw [eM_odds 0, m_in, q, bs]; (try dsimp only); rw [if_neg n10, m_in, q2, bs]; (try dsimp only); rw [if_neg n10, m_in, q3, bs]; (try dsimp only); rw [if_neg n10, m_in, in_t e0 e1 hz, bs]; (try dsimp only); rw [if_neg n10]
      exact ⟨σ2, g2, h2, f2⟩
    · have hf : fracS (oddS (aX a) (aT a) x v n) n z = -4611686018427387904 := by
        unfold fracS
        rw [if_neg hn0, if_neg (fun e => hz (by rw [e]; decide)), if_neg (fun e => hz (by rw [e]; decide))]
      rw [eM_odds 0, m_in, q, bs]; (try dsimp only); rw [if_neg n10, m_in, q2, bs]; (try dsimp only); rw [if_neg n10, m_in, q3, bs]; (try dsimp only); rw [if_neg n10, m_in, in_f e0 e1 hz, bs]; (try dsimp only); rw [if_pos rfl, hf]
      exact ⟨σ, rfl, h, FM.rf⟩
