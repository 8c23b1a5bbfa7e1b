/-! CALLS THAT ASK OR CHANGE ONE THING -/
theorem h12 : (12 : Nat) = 12 ∨ (12 : Nat) = 18 ∨ (12 : Nat) = 24 := Or.inl rfl
theorem h18 : (18 : Nat) = 12 ∨ (18 : Nat) = 18 ∨ (18 : Nat) = 24 := Or.inr (Or.inl rfl)
theorem InvC.at {σ : Sto} {a : Ab} (h : InvC σ a) : At σ 12 (aX a) (aN a) (aT a) := h.1
theorem InvM.at {σ : Sto} {a : Ab} (h : InvM σ a) : AtM σ (aX a) (aN a) (aT a) := h.1
theorem InvC.f6 {σ σ' : Sto} {a : Ab} (h : InvC σ a) (hf : Fr [6] σ σ') : InvC σ' a := h.fr hf (by simp)
theorem InvM.f2 {σ σ' : Sto} {a : Ab} (h : InvM σ a) (hf : Fr [46, 47] σ σ') : InvM σ' a := h.fr hf (by simp)
theorem f6c {σ σ' : Sto} (hf : Fr [6] σ σ') : FC σ σ' := hf.c (by simp)
theorem f2m {σ σ' : Sto} (hf : Fr [46, 47] σ σ') : FM σ σ' := hf.m (by simp)
theorem wrc {σ σ' : Sto} (hf : Fr (wr 12) σ σ') : FC σ σ' := hf.c (by decide)
theorem wmm {σ σ' : Sto} (hf : Fr wm σ σ') : FM σ σ' := hf.m (by decide)
/-- both ask only -/
theorem same {nx ny : Nat} {xs : List Value} {a : Ab} (hw : WfA a) (v : Int32) (h1 : ∀ σ, InvC σ a → ∃ σ', C nx 0 (.ref 0 :: xs) σ = some (v, 0, σ') ∧ Fr [6] σ σ') (h2 : ∀ σ, InvM σ a → ∃ σ', C ny 0 (.ref 30 :: xs) σ = some (v, 0, σ') ∧ Fr [46, 47] σ σ') : Step nx ny xs a := by
  refine ⟨(v, 0), a, hw, fun σ h => ?_, fun σ h => ?_⟩
  · obtain ⟨σ', e, f⟩ := h1 σ h
    exact ⟨σ', e, h.f6 f, f6c f⟩
  · obtain ⟨σ', e, f⟩ := h2 σ h
    exact ⟨σ', e, h.f2 f, f2m f⟩
theorem s_count {a : Ab} (hw : WfA a) (x : Int32) : Step nF_count nM_count [.int x] a := by
  by_cases h0 : x = 0
  · exact same hw (nI (sN (aT a))) (fun σ h => ⟨σ, by rw [eF_count 0, if_pos h0, h.at.1.n], Fr.rf⟩) (fun σ h => ⟨σ, by rw [eM_count 0, if_pos h0, h.at.1.n], Fr.rf⟩)
  by_cases h1 : x = 1
  · exact same hw (sH (aT a)) (fun σ h => ⟨σ, by rw [eF_count 0, if_neg h0, if_pos h1, h.at.1.H], Fr.rf⟩) (fun σ h => ⟨σ, by rw [eM_count 0, if_neg h0, if_pos h1, z3, h.at.1.H], Fr.rf⟩)
  by_cases h2 : x = 2
  · exact same hw (sF (aT a)) (fun σ h => ⟨σ, by rw [eF_count 0, if_neg h0, if_neg h1, if_pos h2, h.at.1.F], Fr.rf⟩) (fun σ h => ⟨σ, by rw [eM_count 0, if_neg h0, if_neg h1, if_pos h2, z2, h.at.1.F], Fr.rf⟩)
  by_cases h3 : x = 3
  · exact same hw (nI (aN a)) (fun σ h => ⟨σ, by rw [eF_count 0, if_neg h0, if_neg h1, if_neg h2, if_pos h3, h.2.2.1], Fr.rf⟩) (fun σ h => ⟨σ, by rw [eM_count 0, if_neg h0, if_neg h1, if_neg h2, if_pos h3, h.2.2.1], Fr.rf⟩)
  by_cases h4 : x = 4
  · exact same hw (nI (sL (aT a))) (fun σ h => ⟨σ, by rw [eF_count 0, if_neg h0, if_neg h1, if_neg h2, if_neg h3, if_pos h4, h.at.1.L], Fr.rf⟩) (fun σ h => ⟨σ, by rw [eM_count 0, if_neg h0, if_neg h1, if_neg h2, if_neg h3, if_pos h4, h.at.1.L], Fr.rf⟩)
  by_cases h5 : x = 5
  · exact same hw (nI (aL a)) (fun σ h => ⟨σ, by rw [eF_count 0, if_neg h0, if_neg h1, if_neg h2, if_neg h3, if_neg h4, if_pos h5, h.2.2.2.1], Fr.rf⟩) (fun σ h => ⟨σ, by rw [eM_count 0, if_neg h0, if_neg h1, if_neg h2, if_neg h3, if_neg h4, if_pos h5, h.2.2.2.1], Fr.rf⟩)
  · exact same hw (-2) (fun σ h => ⟨σ, by rw [eF_count 0, if_neg h0, if_neg h1, if_neg h2, if_neg h3, if_neg h4, if_neg h5], Fr.rf⟩) (fun σ h => ⟨σ, by rw [eM_count 0, if_neg h0, if_neg h1, if_neg h2, if_neg h3, if_neg h4, if_neg h5], Fr.rf⟩)
theorem s_bay {a : Ab} (hw : WfA a) (x y : Int32) : Step nF_bay nM_bay [.int x, .int y] a := by
  have e9 : (9999 : Int32).toInt = 9999 := by decide
  have e0 : (0 : Int32).toInt = 0 := by decide
  have e99 : (99 : Int32).toInt = 99 := by decide
  have e1 : (1 : Int32).toInt = 1 := by decide
  by_cases h0 : x = 0
  · subst h0
    by_cases hv : 0 ≤ y.toInt ∧ y.toInt ≤ 9999
    · refine ⟨(sH (aT a), 0), setT a (uH (aT a) y), hw.st (Ok.uH hw.1) hv.2 (Nat.le_refl _) (fun i _ => ⟨rfl, rfl⟩), fun σ h => ?_, fun σ h => ?_⟩
      · have q : b2 (decide ((0 : Int32).toInt ≤ y.toInt ∧ y.toInt ≤ (9999 : Int32).toInt)) = 1 := b2_t (by rw [e0, e9]; exact hv)
        rw [eF_bay 0, if_pos rfl, c_in, q, bs]; (try dsimp only); rw [if_neg n10, h.at.1.H]
        exact ⟨_, rfl, h.st (Fr.rf.su (by decide)) h.at.1.s7, FC.rf.su (by decide)⟩
      · have q : b2 (decide ((0 : Int32).toInt ≤ y.toInt ∧ y.toInt ≤ (9999 : Int32).toInt)) = 1 := b2_t (by rw [e0, e9]; exact hv)
        rw [eM_bay 0, m_in, bs]; (try dsimp only); rw [if_neg (by decide), if_pos rfl, m_in, q, bs]; (try dsimp only); rw [if_neg n10, if_pos rfl, z3, h.at.1.H]
        exact ⟨_, rfl, h.st (Fr.rf.su (by decide)) h.at.1.sH, FM.rf.su (by decide) (by decide)⟩
    · have q : b2 (decide ((0 : Int32).toInt ≤ y.toInt ∧ y.toInt ≤ (9999 : Int32).toInt)) = 0 := by rw [e0, e9, decide_eq_false hv]; rfl
      refine same hw (-2) (fun σ h => ?_) (fun σ h => ?_)
      · rw [eF_bay 0, if_pos rfl, c_in, q, bs]; (try dsimp only); rw [if_pos rfl, if_neg (by decide)]
        exact ⟨σ, rfl, Fr.rf⟩
      · rw [eM_bay 0, m_in, bs]; (try dsimp only); rw [if_neg (by decide), if_pos rfl, m_in, q, bs]; (try dsimp only); rw [if_pos rfl]
        exact ⟨σ, rfl, Fr.rf⟩
  by_cases h1 : x = 1
  · subst h1
    by_cases hv : 0 ≤ y.toInt ∧ y.toInt ≤ 99
    · have q : b2 (decide ((0 : Int32).toInt ≤ y.toInt ∧ y.toInt ≤ (99 : Int32).toInt)) = 1 := b2_t (by rw [e0, e99]; exact hv)
      refine ⟨(sO (aT a), 0), setT a (uO (aT a) y), hw.st (Ok.uO hw.1) hw.2.1 (Nat.le_refl _) (fun i _ => ⟨rfl, rfl⟩), fun σ h => ?_, fun σ h => ?_⟩
      · rw [eF_bay 0, if_neg h0, if_pos rfl, c_in, q, bs]; (try dsimp only); rw [if_neg n10, h.at.1.O]
        exact ⟨_, rfl, h.st (Fr.rf.su (by decide)) h.at.1.s8, FC.rf.su (by decide)⟩
      · rw [eM_bay 0, m_in, bs]; (try dsimp only); rw [if_neg (by decide), if_neg h0, m_in, q, bs]; (try dsimp only); rw [if_neg n10, if_neg h0, z0, h.at.1.O]
        exact ⟨_, rfl, h.st (Fr.rf.su (by decide)) h.at.1.sO, FM.rf.su (by decide) (by decide)⟩
    · have q : b2 (decide ((0 : Int32).toInt ≤ y.toInt ∧ y.toInt ≤ (99 : Int32).toInt)) = 0 := by rw [e0, e99, decide_eq_false hv]; rfl
      refine same hw (-2) (fun σ h => ?_) (fun σ h => ?_)
      · rw [eF_bay 0, if_neg h0, if_pos rfl, c_in, q, bs]; (try dsimp only); rw [if_pos rfl]
        exact ⟨σ, rfl, Fr.rf⟩
      · rw [eM_bay 0, m_in, bs]; (try dsimp only); rw [if_neg (by decide), if_neg h0, m_in, q, bs]; (try dsimp only); rw [if_pos rfl]
        exact ⟨σ, rfl, Fr.rf⟩
  · have q : b2 (decide ((0 : Int32).toInt ≤ x.toInt ∧ x.toInt ≤ (1 : Int32).toInt)) = 0 := by
      rw [e0, e1, decide_eq_false]
      · rfl
      · rw [i_eq, e0] at h0
        rw [i_eq, e1] at h1
        omega
    refine same hw (-2) (fun σ h => ?_) (fun σ h => ?_)
    · rw [eF_bay 0, if_neg h0, if_neg h1]
      exact ⟨σ, rfl, Fr.rf⟩
    · rw [eM_bay 0, m_in, q, bs]; (try dsimp only); rw [if_pos rfl]
      exact ⟨σ, rfl, Fr.rf⟩
theorem s_ferry {a : Ab} (hw : WfA a) (x : Int32) : Step nF_ferry nM_ferry [.int x] a := by
  have ho := hw.1
  by_cases h0 : x = 0
  · subst h0
    exact same hw (sO (aT a)) (fun σ h => ⟨σ, by rw [eF_ferry 0, if_pos rfl, h.at.1.O], Fr.rf⟩) (fun σ h => ⟨σ, by rw [eM_ferry 0, if_pos rfl, if_pos (by decide), z0, h.at.1.O], Fr.rf⟩)
  by_cases h1 : x = 1
  · subst h1
    exact same hw (sB (aT a)) (fun σ h => ⟨σ, by rw [eF_ferry 0, if_neg h0, if_pos rfl, h.at.1.B], Fr.rf⟩) (fun σ h => ⟨σ, by rw [eM_ferry 0, if_neg h0, if_pos rfl, if_pos (by decide), z1, h.at.1.B], Fr.rf⟩)
  by_cases h2 : x = 2
  · refine same hw (choiceS (aX a) (aT a)) (fun σ h => ?_) (fun σ h => ?_)
    · obtain ⟨σ', e, f⟩ := c_choice (k := 0) h12 h.at ho
      exact ⟨σ', by rw [eF_ferry 0, if_neg h0, if_neg h1, if_pos h2, e, bs], f⟩
    · obtain ⟨σ', e, f⟩ := m_choice (k := 0) h.at ho
      exact ⟨σ', by rw [eM_ferry 0, if_neg h0, if_neg h1, if_pos h2, e, bs], f⟩
  by_cases h3 : x = 3
  · refine same hw (bitsS (aloneS (aX a) (aT a)) (sN (aT a))) (fun σ h => ?_) (fun σ h => ?_)
    · obtain ⟨σ', e, f⟩ := c_aloneBits (k := 0) h12 h.at ho
      exact ⟨σ', by rw [eF_ferry 0, if_neg h0, if_neg h1, if_neg h2, if_pos h3, e, bs], f⟩
    · obtain ⟨σ', e, f⟩ := m_aloneSet (k := 0) h.at ho
      exact ⟨σ', by rw [eM_ferry 0, if_neg h0, if_neg h1, if_neg h2, if_pos h3, e, bs], f⟩
  by_cases h4 : x = 4
  · exact same hw (bitsS (seenS (aT a)) (sN (aT a))) (fun σ h => ⟨σ, by rw [eF_ferry 0, if_neg h0, if_neg h1, if_neg h2, if_neg h3, if_pos h4, c_seenBits h12 h.at.1 ho.n, bs], Fr.rf⟩) (fun σ h => ⟨σ, by rw [eM_ferry 0, if_neg h0, if_neg h1, if_neg h2, if_neg h3, if_pos h4, m_seenSet h.at.1 ho.n, bs], Fr.rf⟩)
  by_cases h5 : x = 5
  · exact same hw (bitsS (overS (aT a)) (sN (aT a))) (fun σ h => ⟨σ, by rw [eF_ferry 0, if_neg h0, if_neg h1, if_neg h2, if_neg h3, if_neg h4, if_pos h5, c_overBits h12 h.at.1 ho.n, bs], Fr.rf⟩) (fun σ h => ⟨σ, by rw [eM_ferry 0, if_neg h0, if_neg h1, if_neg h2, if_neg h3, if_neg h4, if_pos h5, m_overSet h.at.1 ho.n, bs], Fr.rf⟩)
  · exact same hw (-7) (fun σ h => ⟨σ, by rw [eF_ferry 0, if_neg h0, if_neg h1, if_neg h2, if_neg h3, if_neg h4, if_neg h5], Fr.rf⟩) (fun σ h => ⟨σ, by rw [eM_ferry 0, if_neg h0, if_neg h1, if_neg h2, if_neg h3, if_neg h4, if_neg h5], Fr.rf⟩)
theorem nI_in1 {x : Int32} {n : Nat} (hn : n < 2147483648) (h : 0 ≤ x.toInt ∧ x.toInt < (n : Int)) : ∃ j, j < n ∧ x = nI j := by
  refine ⟨x.toInt.toNat, by omega, ?_⟩
  rw [i_eq, nI_toInt (by omega)]
  omega
theorem nI_m1 {n : Nat} (hn : n < 2147483648) : ((nI n) - 1).toInt = (n : Int) - 1 := by
  have t1 : (1 : Int32).toInt = 1 := by decide
  have tn := nI_toInt (n := n) (by omega)
  rw [i_sub (by omega) (by omega), tn, t1]
theorem s_force {a : Ab} (hw : WfA a) (x : Int32) : Step nF_force nM_force [.int x] a := by
  have e0 : (0 : Int32).toInt = 0 := by decide
  have hK := hw.1.2.2.1
  have e1 := nI_m1 (n := aN a) (by omega)
  by_cases hx : 0 ≤ x.toInt ∧ x.toInt < (aN a : Int)
  · obtain ⟨j, hj, ej⟩ := nI_in1 (by omega) hx
    have q : b2 (decide ((0 : Int32).toInt ≤ x.toInt ∧ x.toInt ≤ ((nI (aN a)) - 1).toInt)) = 1 := b2_t (by rw [e0, e1]; omega)
    refine ⟨(nI (sL (aT a)), 0), setT a (uL (aT a) j), hw.st (Ok.uL hw.1 hj) hw.2.1 (Nat.le_refl _) (fun i _ => ⟨rfl, rfl⟩), fun σ h => ?_, fun σ h => ?_⟩
    · rw [eF_force 0, h.2.2.1, c_in, q, bs]; (try dsimp only); rw [if_neg n10, h.at.1.L, ej]
      exact ⟨_, rfl, h.st (Fr.rf.su (by decide)) h.at.1.s11, FC.rf.su (by decide)⟩
    · rw [eM_force 0, h.2.2.1, m_in, q, bs]; (try dsimp only); rw [if_neg n10, h.at.1.L, ej]
      obtain ⟨⟨g1, g2⟩, g3, g4, g5, g6, g7, g8⟩ := h
      refine ⟨_, rfl, ⟨⟨g1.sL, g2.su (by decide) (by decide)⟩, fun hi => ?_, ?_, ?_, ?_, ?_, ?_⟩, FM.rf.su (by decide) (by decide)⟩
      · have g3 := g3 hi
        unfold Img
        rw [su_ne (by decide), su_ne (by decide)]
        exact g3
      · rw [su_o (by decide)]; exact g4
      · rw [su_o (by decide)]; exact g5
      · rw [su_o (by decide)]; exact g6
      · rw [su_ne (by decide)]; exact g7
      · rw [su_ne (by decide), su_ne (by decide), su_ne (by decide)]; exact g8
  · have q : b2 (decide ((0 : Int32).toInt ≤ x.toInt ∧ x.toInt ≤ ((nI (aN a)) - 1).toInt)) = 0 := by
      rw [e0, e1, decide_eq_false (by omega)]
      rfl
    refine same hw (-2) (fun σ h => ?_) (fun σ h => ?_)
    · rw [eF_force 0, h.2.2.1, c_in, q, bs]; (try dsimp only); rw [if_pos rfl]
      exact ⟨σ, rfl, Fr.rf⟩
    · rw [eM_force 0, h.2.2.1, m_in, q, bs]; (try dsimp only); rw [if_pos rfl]
      exact ⟨σ, rfl, Fr.rf⟩
theorem s_asks {a : Ab} (hw : WfA a) (x y : Int32) : Step nF_asks nM_asks [.int x, .int y] a := by
  have ho := hw.1
  have e0 : (0 : Int32).toInt = 0 := by decide
  have e2 : (2 : Int32).toInt = 2 := by decide
  by_cases hx : 0 ≤ x.toInt ∧ x.toInt < 3
  · have q : b2 (decide ((0 : Int32).toInt ≤ x.toInt ∧ x.toInt ≤ (2 : Int32).toInt)) = 1 := b2_t (by rw [e0, e2]; omega)
    obtain ⟨part, hp, ep⟩ := nI_in1 (n := 3) (by omega) hx
    cases hy : isOneS (aT a) y with
    | false =>
      refine same hw (-1000) (fun σ h => ?_) (fun σ h => ?_)
      · rw [eF_asks 0, c_in, q, bs]; (try dsimp only); rw [if_neg n10, c_has32 h12 h.at.1 ho.n, bs]; (try dsimp only); rw [hy, b2F, if_pos rfl]
        exact ⟨σ, rfl, Fr.rf⟩
      · rw [eM_asks 0, m_in, q, bs]; (try dsimp only); rw [if_neg n10, m_one h.at.1 ho.n, bs]; (try dsimp only); rw [hy, b2F, if_pos rfl]
        exact ⟨σ, rfl, Fr.rf⟩
    | true =>
      obtain ⟨p, hp2, ep2⟩ := one_of ho.n hy
      refine same hw (saysS (aX a) (aT a) part p) (fun σ h => ?_) (fun σ h => ?_)
      · obtain ⟨σ', e, f⟩ := c_saysA (k := 0) h12 h.at ho hp2 hp
        rw [eF_asks 0, c_in, q, bs]; (try dsimp only); rw [if_neg n10, c_has32 h12 h.at.1 ho.n, bs]; (try dsimp only); rw [hy, b2T, if_neg n10, ep, ep2, e, bs]
        exact ⟨σ', rfl, f⟩
      · obtain ⟨σ', e, f⟩ := m_asks (k := 0) h.at ho hp2 hp
        rw [eM_asks 0, m_in, q, bs]; (try dsimp only); rw [if_neg n10, m_one h.at.1 ho.n, bs]; (try dsimp only); rw [hy, b2T, if_neg n10, ep, ep2, e, bs]
        exact ⟨σ', rfl, f⟩
  · have q : b2 (decide ((0 : Int32).toInt ≤ x.toInt ∧ x.toInt ≤ (2 : Int32).toInt)) = 0 := by
      rw [e0, e2, decide_eq_false (by omega)]
      rfl
    refine same hw (-1000) (fun σ h => ?_) (fun σ h => ?_)
    · rw [eF_asks 0, c_in, q, bs]; (try dsimp only); rw [if_pos rfl]
      exact ⟨σ, rfl, Fr.rf⟩
    · rw [eM_asks 0, m_in, q, bs]; (try dsimp only); rw [if_pos rfl]
      exact ⟨σ, rfl, Fr.rf⟩
theorem Ok.hid {TX : TXT} {K : Nat} {t : St} (h : Ok TX K t) {p : Nat} (hp : p < sN t) : rD t p = 0 ∨ rD t p = 1 := (h.p hp).2.2.2.1
theorem s_told {a : Ab} (hw : WfA a) (x y : Int32) : Step nF_told nM_told [.int x, .int y] a := by
  have ho := hw.1
  cases hx : isOneS (aT a) x with
  | false =>
    refine same hw (-5) (fun σ h => ?_) (fun σ h => ?_)
    · rw [eF_told 0, c_has32 h12 h.at.1 ho.n, bs]; (try dsimp only); rw [hx, b2F, if_pos rfl]
      exact ⟨σ, rfl, Fr.rf⟩
    · rw [eM_told 0, m_one h.at.1 ho.n, bs]; (try dsimp only); rw [hx, b2F, if_pos rfl]
      exact ⟨σ, rfl, Fr.rf⟩
  | true =>
    obtain ⟨p, hp, ep⟩ := one_of ho.n hx
    have h6 : p < 6 := Nat.lt_of_lt_of_le hp ho.n
    have i0 := ibn (show 3 * p < 18 by omega) (by decide)
    have i1 := ibn (show 3 * p + 1 < 18 by omega) (by decide)
    have i2 := ibn (show 3 * p + 2 < 18 by omega) (by decide)
    have j0 := ixn (show 3 * p < 2147483648 by omega)
    have j1 := ixn (show 3 * p + 1 < 2147483648 by omega)
    have j2 := ixn (show 3 * p + 2 < 2147483648 by omega)
    subst ep
    by_cases h0 : y = 0
    · subst h0
      refine same hw (rP (aT a) p) (fun σ h => ⟨σ, ?_, Fr.rf⟩) (fun σ h => ⟨σ, ?_, Fr.rf⟩)
      · rw [eF_told 0, c_has32 h12 h.at.1 ho.n, bs]; (try dsimp only); rw [hx, b2T, if_neg n10, if_pos rfl, if_pos (ib6 h6), ix6 h6, show σ 15 p = _ from h.at.1.P hp]
      · rw [eM_told 0, m_one h.at.1 ho.n, bs]; (try dsimp only); rw [hx, b2T, if_neg n10, if_pos rfl, i3, Int32.add_zero, if_pos i0, j0, h.at.1.P hp]
    by_cases h1 : y = 1
    · subst h1
      refine same hw (rD (aT a) p) (fun σ h => ⟨σ, ?_, Fr.rf⟩) (fun σ h => ⟨σ, ?_, Fr.rf⟩)
      · rw [eF_told 0, c_has32 h12 h.at.1 ho.n, bs]; (try dsimp only); rw [hx, b2T, if_neg n10, if_neg h0, if_pos rfl, if_pos (ib6 h6), ix6 h6, show σ 16 p = _ from h.at.1.D hp, c_bit (ho.hid hp), bs]
      · rw [eM_told 0, m_one h.at.1 ho.n, bs]; (try dsimp only); rw [hx, b2T, if_neg n10, if_neg h0, if_pos rfl, i3, nI_1, if_pos i1, j1, h.at.1.D hp]
    by_cases h2 : y = 2
    · subst h2
      refine same hw (rW (aT a) p) (fun σ h => ⟨σ, ?_, Fr.rf⟩) (fun σ h => ⟨σ, ?_, Fr.rf⟩)
      · rw [eF_told 0, c_has32 h12 h.at.1 ho.n, bs]; (try dsimp only); rw [hx, b2T, if_neg n10, if_neg h0, if_neg h1, if_pos rfl, if_pos (ib6 h6), ix6 h6, show σ 17 p = _ from h.at.1.W hp]
      · rw [eM_told 0, m_one h.at.1 ho.n, bs]; (try dsimp only); rw [hx, b2T, if_neg n10, if_neg h0, if_neg h1, if_pos rfl, i3, nI_2, if_pos i2, j2, h.at.1.W hp]
    by_cases h3 : y = 3
    · subst h3
      refine same hw (rK (aT a) p) (fun σ h => ⟨σ, ?_, Fr.rf⟩) (fun σ h => ⟨σ, ?_, Fr.rf⟩)
      · rw [eF_told 0, c_has32 h12 h.at.1 ho.n, bs]; (try dsimp only); rw [hx, b2T, if_neg n10, if_neg h0, if_neg h1, if_neg h2, if_pos rfl, if_pos (ib6 h6), ix6 h6, show σ 13 p = _ from h.at.1.K hp]
      · rw [eM_told 0, m_one h.at.1 ho.n, bs]; (try dsimp only); rw [hx, b2T, if_neg n10, if_neg h0, if_neg h1, if_neg h2, if_pos rfl, if_pos (ib6 h6), ix6 h6, h.at.1.K hp]
    by_cases h4 : y = 4
    · subst h4
      refine same hw (rM (aT a) p) (fun σ h => ⟨σ, ?_, Fr.rf⟩) (fun σ h => ⟨σ, ?_, Fr.rf⟩)
      · rw [eF_told 0, c_has32 h12 h.at.1 ho.n, bs]; (try dsimp only); rw [hx, b2T, if_neg n10, if_neg h0, if_neg h1, if_neg h2, if_neg h3, if_pos rfl, if_pos (ib6 h6), ix6 h6, show σ 14 p = _ from h.at.1.M hp]
      · rw [eM_told 0, m_one h.at.1 ho.n, bs]; (try dsimp only); rw [hx, b2T, if_neg n10, if_neg h0, if_neg h1, if_neg h2, if_neg h3, if_pos rfl, if_pos (ib6 h6), ix6 h6, h.at.1.M hp]
    by_cases h5 : y = 5
    · subst h5
      refine same hw (gapS (aX a) (aT a) p) (fun σ h => ?_) (fun σ h => ?_)
      · obtain ⟨σ', e, f⟩ := c_gap (k := 0) h12 h.at ho hp
        exact ⟨σ', by rw [eF_told 0, c_has32 h12 h.at.1 ho.n, bs]; (try dsimp only); rw [hx, b2T, if_neg n10, if_neg h0, if_neg h1, if_neg h2, if_neg h3, if_neg h4, if_pos rfl, e, bs], f⟩
      · obtain ⟨σ', e, f⟩ := m_gap (k := 0) h.at ho hp
        exact ⟨σ', by rw [eM_told 0, m_one h.at.1 ho.n, bs]; (try dsimp only); rw [hx, b2T, if_neg n10, if_neg h0, if_neg h1, if_neg h2, if_neg h3, if_neg h4, if_pos rfl, e, bs], f⟩
    by_cases h7 : y = 6
    · subst h7
      refine same hw (likedS (aX a) (aT a) p + 1000) (fun σ h => ?_) (fun σ h => ?_)
      · obtain ⟨σ', e, f⟩ := c_liked (k := 0) h12 h.at ho hp
        exact ⟨σ', by rw [eF_told 0, c_has32 h12 h.at.1 ho.n, bs]; (try dsimp only); rw [hx, b2T, if_neg n10, if_neg h0, if_neg h1, if_neg h2, if_neg h3, if_neg h4, if_neg h5, if_pos rfl, e, bs], f⟩
      · obtain ⟨σ', e, f⟩ := m_liked (k := 0) h.at ho hp
        exact ⟨σ', by rw [eM_told 0, m_one h.at.1 ho.n, bs]; (try dsimp only); rw [hx, b2T, if_neg n10, if_neg h0, if_neg h1, if_neg h2, if_neg h3, if_neg h4, if_neg h5, if_pos rfl, e, bs]; (try dsimp only); rw [Int32.add_comm], f⟩
    by_cases h8 : y = 7
    · subst h8
      refine same hw (walksS (aX a) (aT a) p + 1000) (fun σ h => ?_) (fun σ h => ?_)
      · obtain ⟨σ', e, f⟩ := c_walks (k := 0) h12 h.at ho hp
        exact ⟨σ', by rw [eF_told 0, c_has32 h12 h.at.1 ho.n, bs]; (try dsimp only); rw [hx, b2T, if_neg n10, if_neg h0, if_neg h1, if_neg h2, if_neg h3, if_neg h4, if_neg h5, if_neg h7, if_pos rfl, e, bs], f⟩
      · obtain ⟨σ', e, f⟩ := m_walks (k := 0) h.at ho hp
        exact ⟨σ', by rw [eM_told 0, m_one h.at.1 ho.n, bs]; (try dsimp only); rw [hx, b2T, if_neg n10, if_neg h0, if_neg h1, if_neg h2, if_neg h3, if_neg h4, if_neg h5, if_neg h7, if_pos rfl, e, bs]; (try dsimp only); rw [Int32.add_comm], f⟩
    by_cases h9 : y = 8
    · subst h9
      refine same hw (b2 (aloneS (aX a) (aT a) p)) (fun σ h => ?_) (fun σ h => ?_)
      · obtain ⟨σ', e, f⟩ := c_alone (k := 0) h12 h.at ho hp
        exact ⟨σ', by rw [eF_told 0, c_has32 h12 h.at.1 ho.n, bs]; (try dsimp only); rw [hx, b2T, if_neg n10, if_neg h0, if_neg h1, if_neg h2, if_neg h3, if_neg h4, if_neg h5, if_neg h7, if_neg h8, if_pos rfl, e, bs]; (try dsimp only); rw [c_bitb, bs], f⟩
      · obtain ⟨σ', e, f⟩ := m_alone (k := 0) h.at ho hp
        refine ⟨σ', ?_, f⟩
        rw [eM_told 0, m_one h.at.1 ho.n, bs]; (try dsimp only); rw [hx, b2T, if_neg n10, if_neg h0, if_neg h1, if_neg h2, if_neg h3, if_neg h4, if_neg h5, if_neg h7, if_neg h8, if_pos rfl, e, bs]
        cases h10 : aloneS (aX a) (aT a) p with
        | false => rw [if_pos (show (b2 false, (0 : Int64), σ').1 = 0 from rfl), eM_told_50 0]; rfl
        | true => rw [if_neg (show ¬ (b2 true, (0 : Int64), σ').1 = 0 from n10), eM_told_50 0]; rfl
    by_cases h11 : y = 9
    · subst h11
      refine same hw (farS (aT a) p (sN (aT a))) (fun σ h => ?_) (fun σ h => ?_)
      · exact ⟨σ, by rw [eF_told 0, c_has32 h12 h.at.1 ho.n, bs]; (try dsimp only); rw [hx, b2T, if_neg n10, if_neg h0, if_neg h1, if_neg h2, if_neg h3, if_neg h4, if_neg h5, if_neg h7, if_neg h8, if_neg h9, if_pos rfl, c_far h12 h.at.1 ho.n hp, bs], Fr.rf⟩
      · exact ⟨σ, by rw [eM_told 0, m_one h.at.1 ho.n, bs]; (try dsimp only); rw [hx, b2T, if_neg n10, if_neg h0, if_neg h1, if_neg h2, if_neg h3, if_neg h4, if_neg h5, if_neg h7, if_neg h8, if_neg h9, if_pos rfl, m_far h.at.1 ho.n hp, bs], Fr.rf⟩
    · refine same hw (-7) (fun σ h => ?_) (fun σ h => ?_)
      · exact ⟨σ, by rw [eF_told 0, c_has32 h12 h.at.1 ho.n, bs]; (try dsimp only); rw [hx, b2T, if_neg n10, if_neg h0, if_neg h1, if_neg h2, if_neg h3, if_neg h4, if_neg h5, if_neg h7, if_neg h8, if_neg h9, if_neg h11], Fr.rf⟩
      · exact ⟨σ, by rw [eM_told 0, m_one h.at.1 ho.n, bs]; (try dsimp only); rw [hx, b2T, if_neg n10, if_neg h0, if_neg h1, if_neg h2, if_neg h3, if_neg h4, if_neg h5, if_neg h7, if_neg h8, if_neg h9, if_neg h11], Fr.rf⟩
