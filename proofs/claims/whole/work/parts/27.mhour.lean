theorem AtM.f2 {σ σ' : Sto} {TX : TXT} {K : Nat} {t : St} (h : AtM σ TX K t) (hf : Fr [46, 47] σ σ') : AtM σ' TX K t := h.fm hf
theorem kind_or {TX : TXT} {K : Nat} {t : St} (ho : Ok TX K t) {p : Nat} (hp : p < sN t) : rK t p = 0 ∨ rK t p = 1 ∨ rK t p = 2 ∨ rK t p = 3 ∨ rK t p = 4 ∨ rK t p = 5 := by
  have h := (ho.p hp).1
  rw [i_eq, i_eq, i_eq, i_eq, i_eq, i_eq, show (0 : Int32).toInt = 0 by decide, show (1 : Int32).toInt = 1 by decide, show (2 : Int32).toInt = 2 by decide, show (3 : Int32).toInt = 3 by decide, show (4 : Int32).toInt = 4 by decide, show (5 : Int32).toInt = 5 by decide]
  omega
theorem m_gap {k : Nat} {σ : Sto} {t : St} {TX : TXT} {K : Nat} (ha : AtM σ TX K t) (ho : Ok TX K t) {p : Nat} (hp : p < sN t) :
    ∃ σ', C nM_gapOf k [.ref 30, .int (nI p)] σ = some (gapS TX t p, 0, σ') ∧ Fr [46, 47] σ σ' := by
  have h6 : p < 6 := Nat.lt_of_lt_of_le hp ho.n
  obtain ⟨σ', e, f⟩ := m_asks (k := k) ha ho hp (by decide : 0 < 3)
  rw [show nI 0 = 0 from rfl] at e
  have a1 := ha.fm f
  rw [eM_gapOf k]
  simp only [ib6 h6, ix6 h6, ha.1.K hp, e, bs, a1.1.K hp, a1.1.M hp, ↓reduceIte]
  unfold gapS
  rcases kind_or ho hp with h | h | h | h | h | h
  · rw [h]; exact ⟨σ', rfl, f⟩
  · rw [h]; exact ⟨σ', rfl, f⟩
  · rw [h]; exact ⟨σ', rfl, f⟩
  · rw [h]; exact ⟨σ', rfl, f⟩
  · rw [h]; exact ⟨σ', rfl, f⟩
  · rw [h]; exact ⟨σ, rfl, Fr.rf⟩
theorem m_liked {k : Nat} {σ : Sto} {t : St} {TX : TXT} {K : Nat} (ha : AtM σ TX K t) (ho : Ok TX K t) {p : Nat} (hp : p < sN t) :
    ∃ σ', C nM_likedOf k [.ref 30, .int (nI p)] σ = some (likedS TX t p, 0, σ') ∧ Fr [46, 47] σ σ' := by
  have h6 : p < 6 := Nat.lt_of_lt_of_le hp ho.n
  obtain ⟨σ', e, f⟩ := m_asks (k := k) ha ho hp (by decide : 1 < 3)
  rw [show nI 1 = 1 from rfl] at e
  have a1 := ha.fm f
  rw [eM_likedOf k]
  simp only [ib6 h6, ix6 h6, z3, ha.1.K hp, ha.1.M hp, e, bs, a1.1.K hp, a1.1.M hp, a1.1.H, ↓reduceIte]
  unfold likedS modS
  rcases kind_or ho hp with h | h | h | h | h | h
  · rw [h]; exact ⟨σ', rfl, f⟩
  · rw [h]; exact ⟨σ', rfl, f⟩
  · rw [h]; exact ⟨σ', rfl, f⟩
  · rw [h]
    simp (config := { decide := true }) only [↓reduceIte]
    by_cases h2 : sH t - sH t / 4 * 4 = 0
    · rw [if_pos h2, if_pos h2]; exact ⟨σ', rfl, f⟩
    · rw [if_neg h2, if_neg h2]; exact ⟨σ', rfl, f⟩
  · rw [h]; exact ⟨σ', rfl, f⟩
  · rw [h]; exact ⟨σ, rfl, Fr.rf⟩
theorem m_farL {k : Nat} {σ : Sto} {t : St} (hr : RepM σ t) (hN : sN t ≤ 6) {p : Nat} (hp : p < sN t) (hat : ¬ rP t p = -1) : ∀ d m u, m + d = sN t →
    R nM_farOf k 4 [.ref 30, .int (nI p), .int (farS t p m), .int (nI m), u] [] σ = some (farS t p (sN t), 0, σ) := by
  intro d
  induction d with
  | zero =>
    intro m u hm
    have e : m = sN t := by omega
    subst e
    rw [eM_farOf_4 k, hr.n, if_neg (nI_nlt (by omega) (by omega))]
  | succ d ih =>
    intro m u hm
    have h1 : m < sN t := by omega
    have e : farS t p (m + 1) = if m = p then farS t p m else if seenS t m = false then farS t p m else if rP t p = -1 then farS t p m
      else if farS t p m = -1 then distS t m p else minI (farS t p m) (distS t m p) := rfl
    have h2 := fun u => ih (m + 1) u (by omega)
    rw [e] at h2
    rw [eM_farOf_4 k, hr.n, if_pos (nI_lt h1 (by omega)), m_isAt hr hN hp, bs, m_seen hr hN h1, bs]
    simp only [i3, ibn (show 3 * p < 18 by omega) (by decide), ibn (show 3 * m < 18 by omega) (by decide), ixn (show 3 * p < 2147483648 by omega), ixn (show 3 * m < 2147483648 by omega), hr.P h1, hr.P hp, ↓reduceIte, nI_1, nI_eq (show m < 2 ^ 31 by omega) (show p < 2 ^ 31 by omega)]
    rw [if_neg (show ¬ b2 (decide (¬ rP t p = -1)) = 0 by simp [hat, b2])]
    by_cases h3 : m = p
    · rw [if_pos h3]
      rw [if_pos h3] at h2
      exact h2 _
    rw [if_neg h3]
    rw [if_neg h3] at h2
    cases h4 : seenS t m with
    | false =>
      rw [if_pos h4] at h2
      rw [b2F, if_pos rfl]
      exact h2 _
    | true =>
      rw [if_neg (by rw [h4]; decide), if_neg hat] at h2
      rw [b2T, if_neg n10]
      have fin : ∀ v4, R nM_farOf k 39 [.ref 30, .int (nI p), .int (farS t p m), .int (nI m), .int v4] [.int (distS t m p)] σ = some (farS t p (sN t), 0, σ) := by
        intro v4
        rw [eM_farOf_39 k, nI_1]
        by_cases h7 : farS t p m = -1
        · rw [if_pos h7] at h2 ⊢
          exact h2 _
        · rw [if_neg h7] at h2 ⊢
          unfold minI at h2
          by_cases h8 : distS t m p < farS t p m
          · rw [if_pos h8] at h2 ⊢
            exact h2 _
          · rw [if_neg h8] at h2 ⊢
            exact h2 _
      have e0 : (0 : Int32).toInt = 0 := by decide
      by_cases h5 : rP t m - rP t p < 0
      · rw [if_pos h5]
        have e5 : -(rP t m - rP t p) = distS t m p := by
          unfold distS absI
          rw [i_lt] at h5
          rw [if_neg (by rw [Int32.le_iff_toInt_le]; omega), Int32.zero_sub]
        rw [e5]
        exact fin _
      · rw [if_neg h5]
        have e5 : rP t m - rP t p = distS t m p := by
          unfold distS absI
          rw [i_lt] at h5
          rw [if_pos (by rw [Int32.le_iff_toInt_le]; omega)]
        rw [e5]
        exact fin _
theorem far_none {t : St} {p : Nat} (h : rP t p = -1) : ∀ m, farS t p m = -1 := by
  intro m
  induction m with
  | zero => rfl
  | succ m ih =>
    unfold farS
    rw [ih]
    split
    · rfl
    · split
      · rfl
      · rfl
theorem m_far {k : Nat} {σ : Sto} {t : St} (hr : RepM σ t) (hN : sN t ≤ 6) {p : Nat} (hp : p < sN t) : C nM_farOf k [.ref 30, .int (nI p)] σ = some (farS t p (sN t), 0, σ) := by
  rw [eM_farOf k]
  by_cases h : rP t p = -1
  · rw [eM_farOf_4 k, hr.n, if_pos (show (0 : Int32) < nI (sN t) from nI_lt (a := 0) (by omega) (by omega)), m_isAt hr hN hp, bs, if_pos (show b2 (decide (¬ rP t p = -1)) = 0 by simp [h, b2]), far_none h]
  · exact m_farL hr hN hp h (sN t) 0 .null (Nat.zero_add _)
theorem dist_ok {TX : TXT} {K : Nat} {t : St} (ho : Ok TX K t) {q p : Nat} (hq : q < sN t) (hp : p < sN t) : 0 ≤ (distS t q p).toInt ∧ (distS t q p).toInt ≤ 64 := by
  have h1 := (ho.p hq).2.2.1
  have h2 := (ho.p hp).2.2.1
  have e0 : (0 : Int32).toInt = 0 := by decide
  have e1 : (rP t q - rP t p).toInt = (rP t q).toInt - (rP t p).toInt := i_sub (by omega) (by omega)
  have e2 : (0 - (rP t q - rP t p)).toInt = 0 - (rP t q - rP t p).toInt := by rw [i_sub (by omega) (by omega), e0]
  unfold distS absI
  by_cases h : 0 ≤ rP t q - rP t p
  · rw [if_pos h]
    rw [Int32.le_iff_toInt_le] at h
    omega
  · rw [if_neg h]
    rw [Int32.le_iff_toInt_le] at h
    omega
theorem far_near {TX : TXT} {K : Nat} {t : St} (ho : Ok TX K t) {p : Nat} (hp : p < sN t) (hat : ¬ rP t p = -1) : ∀ m, m ≤ sN t →
    (farS t p m = -1 ∧ ∀ g, nearS t p g m = false) ∨ (0 ≤ (farS t p m).toInt ∧ ∀ g, nearS t p g m = decide (farS t p m < g)) := by
  intro m
  induction m with
  | zero => intro _; exact Or.inl ⟨rfl, fun _ => rfl⟩
  | succ m ih =>
    intro hm
    have ih := ih (by omega)
    have hd := dist_ok ho (show m < sN t by omega) hp
    have e : farS t p (m + 1) = if m = p then farS t p m else if seenS t m = false then farS t p m else if rP t p = -1 then farS t p m
      else if farS t p m = -1 then distS t m p else minI (farS t p m) (distS t m p) := rfl
    have e2 : ∀ g, nearS t p g (m + 1) = (nearS t p g m || (decide (m ≠ p) && seenS t m && decide (distS t m p < g))) := fun _ => rfl
    by_cases h3 : m = p
    · rw [if_pos h3] at e
      rw [e]
      have e3 : ∀ g, nearS t p g (m + 1) = nearS t p g m := fun g => by rw [e2]; simp [h3]
      simp only [e3]
      exact ih
    rw [if_neg h3] at e
    cases h4 : seenS t m with
    | false =>
      rw [if_pos h4] at e
      rw [e]
      have e3 : ∀ g, nearS t p g (m + 1) = nearS t p g m := fun g => by rw [e2]; simp [h4]
      simp only [e3]
      exact ih
    | true =>
      rw [if_neg (by rw [h4]; decide), if_neg hat] at e
      have e3 : ∀ g, nearS t p g (m + 1) = (nearS t p g m || decide (distS t m p < g)) := fun g => by rw [e2]; simp [h3, h4]
      simp only [e3]
      right
      rcases ih with ⟨i1, i2⟩ | ⟨i1, i2⟩
      · rw [if_pos i1] at e
        rw [e]
        refine ⟨hd.1, fun g => ?_⟩
        rw [i2, Bool.false_or]
      · rw [if_neg (by
          intro h
          rw [h] at i1
          exact absurd i1 (by decide))] at e
        rw [e]
        unfold minI
        by_cases h8 : distS t m p < farS t p m
        · rw [if_pos h8]
          refine ⟨hd.1, fun g => ?_⟩
          rw [i2]
          rw [Bool.eq_iff_iff, Bool.or_eq_true, decide_eq_true_eq, decide_eq_true_eq]
          rw [i_lt] at h8
          rw [i_lt, i_lt]
          omega
        · rw [if_neg h8]
          refine ⟨i1, fun g => ?_⟩
          rw [i2]
          rw [Bool.eq_iff_iff, Bool.or_eq_true, decide_eq_true_eq, decide_eq_true_eq]
          rw [i_lt] at h8
          rw [i_lt, i_lt]
          omega
theorem m_alone {k : Nat} {σ : Sto} {t : St} {TX : TXT} {K : Nat} (ha : AtM σ TX K t) (ho : Ok TX K t) {p : Nat} (hp : p < sN t) :
    ∃ σ', C nM_isAlone k [.ref 30, .int (nI p)] σ = some (b2 (aloneS TX t p), 0, σ') ∧ Fr [46, 47] σ σ' := by
  rw [eM_isAlone k, m_seen ha.1 ho.n hp, bs]
  unfold aloneS
  cases h : seenS t p with
  | false => exact ⟨σ, rfl, Fr.rf⟩
  | true =>
    rw [if_neg (show ¬ (b2 true, (0 : Int64), σ).1 = 0 from n10), m_far ha.1 ho.n hp, bs]
    simp only []
    rcases far_near ho hp (seen_at h) (sN t) (Nat.le_refl _) with ⟨h1, h2⟩ | ⟨h1, h2⟩
    · rw [if_pos h1, h2]
      exact ⟨σ, rfl, Fr.rf⟩
    · obtain ⟨σ', e, f⟩ := m_gap (k := k) ha ho hp
      rw [if_neg (by
        intro h
        rw [h] at h1
        exact absurd h1 (by decide)), e, bs, h2]
      refine ⟨σ', ?_, f⟩
      by_cases h3 : farS t p (sN t) < gapS TX t p
      · simp [h3, b2]
      · simp [h3, b2]
theorem m_aloneSet {k : Nat} {σ : Sto} {t : St} {TX : TXT} {K : Nat} (ha : AtM σ TX K t) (ho : Ok TX K t) :
    ∃ σ', C nM_aloneSet k [.ref 30] σ = some (bitsS (aloneS TX t) (sN t), 0, σ') ∧ Fr [46, 47] σ σ' := by
  have hN := ho.n
  have L : ∀ d m σ, AtM σ TX K t → m + d = sN t → ∃ σ', R nM_aloneSet k 4 [.ref 30, .int (bitsS (aloneS TX t) m), .int (nI m)] [] σ = some (bitsS (aloneS TX t) (sN t), 0, σ') ∧ Fr [46, 47] σ σ' := by
    intro d
    induction d with
    | zero =>
      intro m σ ha hm
      have e : m = sN t := by omega
      subst e
      rw [eM_aloneSet_4 k, ha.1.n, if_neg (nI_nlt (by omega) (by omega))]
      exact ⟨σ, rfl, Fr.rf⟩
    | succ d ih =>
      intro m σ ha hm
      have h1 : m < sN t := by omega
      have e : bitsS (aloneS TX t) (m + 1) = if aloneS TX t m = true then bitsS (aloneS TX t) m ||| (1 <<< (nI m &&& 31)) else bitsS (aloneS TX t) m := rfl
      obtain ⟨σ1, e1, f1⟩ := m_alone (k := k) ha ho h1
      have ha1 := ha.fm f1
      have h2 := ih (m + 1) σ1 ha1 (by omega)
      rw [eM_aloneSet_4 k, ha.1.n, if_pos (nI_lt h1 (by omega)), e1, bs]
      simp only [nI_1, Int32.or_zero]
      rw [e] at h2
      cases h4 : aloneS TX t m with
      | false =>
        rw [if_neg (by rw [h4]; decide)] at h2
        obtain ⟨σ3, e3, f3⟩ := h2
        exact ⟨σ3, e3, f1.tr f3⟩
      | true =>
        rw [if_pos h4] at h2
        obtain ⟨σ3, e3, f3⟩ := h2
        exact ⟨σ3, e3, f1.tr f3⟩
  rw [eM_aloneSet k]
  exact L (sN t) 0 σ ha (Nat.zero_add _)
theorem m_walks {k : Nat} {σ : Sto} {t : St} {TX : TXT} {K : Nat} (ha : AtM σ TX K t) (ho : Ok TX K t) {p : Nat} (hp : p < sN t) :
    ∃ σ', C nM_walksOf k [.ref 30, .int (nI p)] σ = some (walksS TX t p, 0, σ') ∧ Fr [46, 47] σ σ' := by
  have h6 : p < 6 := Nat.lt_of_lt_of_le hp ho.n
  obtain ⟨σ1, e1, f1⟩ := m_asks (k := k) ha ho hp (by decide : 2 < 3)
  have a1 := ha.fm f1
  obtain ⟨σ2, e2, f2⟩ := m_alone (k := k) a1 ho hp
  rw [show nI 2 = 2 from rfl] at e1
  rw [eM_walksOf k]
  simp only [ib6 h6, ix6 h6, z3, ha.1.K hp, ha.1.M hp, ha.1.H, e1, e2, bs, a1.1.K hp, a1.1.M hp, ↓reduceIte]
  unfold walksS modS
  rcases kind_or ho hp with h | h | h | h | h | h
  · rw [h]; exact ⟨σ1, rfl, f1⟩
  · rw [h]; exact ⟨σ1, rfl, f1⟩
  · rw [h]
    simp (config := { decide := true }) only [↓reduceIte]
    cases h2 : aloneS TX t p
    · rw [b2F, if_pos rfl, Int32.add_zero]; exact ⟨σ2, rfl, f1.tr f2⟩
    · rw [b2T, if_neg n10]; exact ⟨σ2, rfl, f1.tr f2⟩
  · rw [h]
    simp (config := { decide := true }) only [↓reduceIte]
    cases h2 : aloneS TX t p
    · exact ⟨σ2, rfl, f1.tr f2⟩
    · exact ⟨σ2, rfl, f1.tr f2⟩
  · rw [h]
    simp (config := { decide := true }) only [↓reduceIte]
    by_cases h2 : sH t - sH t / 2 * 2 = 0
    · rw [if_pos h2, if_pos h2]; exact ⟨σ, rfl, Fr.rf⟩
    · rw [if_neg h2, if_neg h2]; exact ⟨σ, rfl, Fr.rf⟩
  · rw [h]; exact ⟨σ1, rfl, f1⟩
theorem m_choice {k : Nat} {σ : Sto} {t : St} {TX : TXT} {K : Nat} (ha : AtM σ TX K t) (ho : Ok TX K t) :
    ∃ σ', C nM_choice k [.ref 30] σ = some (choiceS TX t, 0, σ') ∧ Fr [46, 47] σ σ' := by
  have hN := ho.n
  have L : ∀ d m u w σ, AtM σ TX K t → m + d = sN t → ∃ σ', R nM_choice k 6 [.ref 30, .int (choS TX t m).1, .int (choS TX t m).2, .int (nI m), u, w] [] σ = some (choiceS TX t, 0, σ') ∧ Fr [46, 47] σ σ' := by
    intro d
    induction d with
    | zero =>
      intro m u w σ ha hm
      have e : m = sN t := by omega
      subst e
      rw [eM_choice_6 k, ha.1.n, if_neg (nI_nlt (by omega) (by omega))]
      exact ⟨σ, rfl, Fr.rf⟩
    | succ d ih =>
      intro m u w σ ha hm
      have h1 : m < sN t := by omega
      have e : choS TX t (m + 1) = if aloneS TX t m = false then choS TX t m else if (choS TX t m).1 = -1 then (nI m, likedS TX t m) else if (choS TX t m).2 < likedS TX t m then (nI m, likedS TX t m) else choS TX t m := rfl
      have h2 := fun u w σ ha => ih (m + 1) u w σ ha (by omega)
      obtain ⟨σ1, e1, f1⟩ := m_alone (k := k) ha ho h1
      have ha1 := ha.fm f1
      obtain ⟨σ2, e2, f2⟩ := m_liked (k := k) ha1 ho h1
      have ha2 := ha1.fm f2
      rw [eM_choice_6 k, ha.1.n, if_pos (nI_lt h1 (by omega)), e1, bs]
      simp only [e2, bs, nI_1]
      cases h4 : aloneS TX t m with
      | false =>
        rw [e, if_pos h4] at h2
        obtain ⟨σ3, e3, f3⟩ := h2 u w σ1 ha1
        exact ⟨σ3, e3, f1.tr f3⟩
      | true =>
        rw [e, if_neg (by rw [h4]; decide)] at h2
        rw [b2T, if_neg n10]
        by_cases h5 : (choS TX t m).1 = -1
        · rw [if_pos h5] at h2 ⊢
          obtain ⟨σ3, e3, f3⟩ := h2 _ _ σ2 ha2
          exact ⟨σ3, e3, (f1.tr f2).tr f3⟩
        rw [if_neg h5] at h2 ⊢
        by_cases h7 : (choS TX t m).2 < likedS TX t m
        · rw [if_pos h7] at h2 ⊢
          obtain ⟨σ3, e3, f3⟩ := h2 _ _ σ2 ha2
          exact ⟨σ3, e3, (f1.tr f2).tr f3⟩
        · rw [if_neg h7] at h2 ⊢
          obtain ⟨σ3, e3, f3⟩ := h2 _ _ σ2 ha2
          exact ⟨σ3, e3, (f1.tr f2).tr f3⟩
  rw [eM_choice k]
  exact L (sN t) 0 .null .null σ ha (Nat.zero_add _)
