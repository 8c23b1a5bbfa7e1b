/-- what the strand's askings want of a store -/
def At (σ : Sto) (c : Nat) (TX : TXT) (K : Nat) (t : St) : Prop := RepS σ c t ∧ TxS σ TX K
def Ok (TX : TXT) (K : Nat) (t : St) : Prop := Wf t ∧ sL t < K ∧ wfT TX K
theorem At.f6 {σ σ' : Sto} {c : Nat} {TX : TXT} {K : Nat} {t : St} (h : At σ c TX K t) (hc : c = 12 ∨ c = 18 ∨ c = 24) (hf : Fr [6] σ σ') : At σ' c TX K t := ⟨h.1.f6 hc hf, h.2.f6 hf⟩
theorem Ok.n {TX : TXT} {K : Nat} {t : St} (h : Ok TX K t) : sN t ≤ 6 := h.1.1
theorem Ok.p {TX : TXT} {K : Nat} {t : St} (h : Ok TX K t) {i : Nat} (hi : i < sN t) : okP t i := h.1.2.2.2 i hi
theorem c_saysA {k c : Nat} (hc : c = 12 ∨ c = 18 ∨ c = 24) {σ : Sto} {t : St} {TX : TXT} {K : Nat} (ha : At σ c TX K t) (ho : Ok TX K t) {p part : Nat} (hp : p < sN t) (hpart : part < 3) :
    ∃ σ', C nT_says k [.ref 2, .int (nI part), .ref c, .int (nI p)] σ = some (saysS TX t part p, 0, σ') ∧ Fr [6] σ σ' := c_says hc ha.1 ha.2 ho.n ho.2.1 ho.2.2 hp hpart
theorem c_gap {k c : Nat} (hc : c = 12 ∨ c = 18 ∨ c = 24) {σ : Sto} {t : St} {TX : TXT} {K : Nat} (ha : At σ c TX K t) (ho : Ok TX K t) {p : Nat} (hp : p < sN t) :
    ∃ σ', C nS_gapAbout k [.ref c, .int (nI p)] σ = some (gapS TX t p, 0, σ') ∧ Fr [6] σ σ' := by
  have h6 : p < 6 := Nat.lt_of_lt_of_le hp ho.n
  obtain ⟨σ', e, f⟩ := c_saysA (k := k) hc ha ho hp (by decide : 0 < 3)
  rw [show nI 0 = 0 from rfl] at e
  have hM := (ha.1.f6 hc f).M hp
  rw [eS_gapAbout k c hc]
  simp only [ib6 h6, ix6 h6, ha.1.K hp, e, bs, hM, ↓reduceIte]
  unfold gapS
  by_cases h1 : rK t p = 1
  · rw [if_pos h1, if_pos h1]; exact ⟨σ', rfl, f⟩
  rw [if_neg h1, if_neg h1]
  by_cases h1 : rK t p = 2
  · rw [if_pos h1, if_pos h1]; exact ⟨σ', rfl, f⟩
  rw [if_neg h1, if_neg h1]
  by_cases h1 : rK t p = 3
  · rw [if_pos h1, if_pos h1]; exact ⟨σ', rfl, f⟩
  rw [if_neg h1, if_neg h1]
  by_cases h1 : rK t p = 4
  · rw [if_pos h1, if_pos h1]; exact ⟨σ', rfl, f⟩
  rw [if_neg h1, if_neg h1]
  by_cases h1 : rK t p = 5
  · rw [if_pos h1, if_pos h1]; exact ⟨σ, rfl, Fr.rf⟩
  rw [if_neg h1, if_neg h1]
  exact ⟨σ', rfl, f⟩
theorem c_liked {k c : Nat} (hc : c = 12 ∨ c = 18 ∨ c = 24) {σ : Sto} {t : St} {TX : TXT} {K : Nat} (ha : At σ c TX K t) (ho : Ok TX K t) {p : Nat} (hp : p < sN t) :
    ∃ σ', C nS_likedHow k [.ref c, .int (nI p)] σ = some (likedS TX t p, 0, σ') ∧ Fr [6] σ σ' := by
  have h6 : p < 6 := Nat.lt_of_lt_of_le hp ho.n
  obtain ⟨σ', e, f⟩ := c_saysA (k := k) hc ha ho hp (by decide : 1 < 3)
  rw [show nI 1 = 1 from rfl] at e
  have hM := (ha.1.f6 hc f).M hp
  rw [eS_likedHow k c hc]
  simp only [ib6 h6, ix6 h6, ha.1.K hp, ha.1.M hp, ha.1.H, e, bs, hM, ↓reduceIte]
  unfold likedS modS
  by_cases h1 : rK t p = 1
  · rw [if_pos h1, if_pos h1]; exact ⟨σ', rfl, f⟩
  rw [if_neg h1, if_neg h1]
  by_cases h1 : rK t p = 2
  · rw [if_pos h1, if_pos h1]; exact ⟨σ', rfl, f⟩
  rw [if_neg h1, if_neg h1]
  by_cases h1 : rK t p = 3
  · rw [if_pos h1, if_pos h1]
    by_cases h2 : sH t - sH t / 4 * 4 = 0
    · rw [if_pos h2, if_pos h2]; exact ⟨σ, rfl, Fr.rf⟩
    · rw [if_neg h2, if_neg h2]; exact ⟨σ', rfl, f⟩
  rw [if_neg h1, if_neg h1]
  by_cases h1 : rK t p = 4
  · rw [if_pos h1, if_pos h1]; exact ⟨σ', rfl, f⟩
  rw [if_neg h1, if_neg h1]
  by_cases h1 : rK t p = 5
  · rw [if_pos h1, if_pos h1]; exact ⟨σ, rfl, Fr.rf⟩
  rw [if_neg h1, if_neg h1]
  exact ⟨σ', rfl, f⟩
theorem near_iff {t : St} {p : Nat} {g : Int32} : ∀ {n : Nat}, nearS t p g n = true ↔ ∃ q, q < n ∧ q ≠ p ∧ seenS t q = true ∧ distS t q p < g := by
  intro n
  induction n with
  | zero => exact ⟨fun h => (by cases h), fun ⟨q, h, _⟩ => (by omega)⟩
  | succ n ih =>
    unfold nearS
    rw [Bool.or_eq_true, ih, Bool.and_eq_true, Bool.and_eq_true, decide_eq_true_eq, decide_eq_true_eq]
    constructor
    · rintro (⟨q, h1, h2⟩ | ⟨⟨h1, h2⟩, h3⟩)
      · exact ⟨q, by omega, h2⟩
      · exact ⟨n, by omega, h1, h2, h3⟩
    · rintro ⟨q, h1, h2, h3, h4⟩
      by_cases hq : q = n
      · subst hq
        exact Or.inr ⟨⟨h2, h3⟩, h4⟩
      · exact Or.inl ⟨q, by omega, h2, h3, h4⟩
theorem near_far {t : St} {p : Nat} {g : Int32} {n q : Nat} (h1 : q < n) (h2 : q ≠ p) (h3 : seenS t q = true) (h4 : distS t q p < g) : nearS t p g n = true := near_iff.mpr ⟨q, h1, h2, h3, h4⟩
theorem c_aloneL {k c : Nat} (hc : c = 12 ∨ c = 18 ∨ c = 24) {σ : Sto} {t : St} (hr : RepS σ c t) (hN : sN t ≤ 6) {p : Nat} (hp : p < sN t) {g : Int32} : ∀ d m, m + d = sN t → nearS t p g m = false →
    R nS_isAlone k 12 [.ref c, .int (nI p), .int g, .int (nI m)] [] σ = some (b2 (!nearS t p g (sN t)), 0, σ) := by
  intro d
  induction d with
  | zero =>
    intro m hm h
    have e : m = sN t := by omega
    subst e
    rw [eS_isAlone_12 k c hc, hr.n, if_neg (nI_nlt (by omega) (by omega)), h]
    rfl
  | succ d ih =>
    intro m hm h
    have h1 : m < sN t := by omega
    have h6 : m < 6 := by omega
    have h6p : p < 6 := by omega
    have e : nearS t p g (m + 1) = (nearS t p g m || (decide (m ≠ p) && seenS t m && decide (distS t m p < g))) := rfl
    rw [eS_isAlone_12 k c hc, hr.n, if_pos (nI_lt h1 (by omega)), c_seen hc hr hN h1, bs]
    simp only [ib6 h6, ix6 h6, ib6 h6p, ix6 h6p, hr.P h1, hr.P hp, ↓reduceIte, nI_1, nI_eq (show m < 2 ^ 31 by omega) (show p < 2 ^ 31 by omega)]
    by_cases h2 : m = p
    · rw [if_pos h2]
      exact ih (m + 1) (by omega) (by rw [e, h]; simp [h2])
    rw [if_neg h2]
    cases h3 : seenS t m with
    | false =>
      rw [b2F, if_pos rfl]
      exact ih (m + 1) (by omega) (by rw [e, h]; simp [h3])
    | true =>
      rw [b2T, if_neg n10]
      by_cases h4 : absI (rP t m - rP t p) < g
      · rw [if_pos h4, near_far h1 h2 h3 h4]
        rfl
      · rw [if_neg h4]
        refine ih (m + 1) (by omega) ?_
        have h5 : ¬ distS t m p < g := h4
        rw [e, h]
        simp [h5]
theorem c_alone {k c : Nat} (hc : c = 12 ∨ c = 18 ∨ c = 24) {σ : Sto} {t : St} {TX : TXT} {K : Nat} (ha : At σ c TX K t) (ho : Ok TX K t) {p : Nat} (hp : p < sN t) :
    ∃ σ', C nS_isAlone k [.ref c, .int (nI p)] σ = some (b2 (aloneS TX t p), 0, σ') ∧ Fr [6] σ σ' := by
  rw [eS_isAlone k c hc, c_seen hc ha.1 ho.n hp, bs]
  unfold aloneS
  cases h : seenS t p with
  | false => exact ⟨σ, rfl, Fr.rf⟩
  | true =>
    obtain ⟨σ', e, f⟩ := c_gap (k := k) hc ha ho hp
    have h2 := c_aloneL (k := k) hc (ha.1.f6 hc f) ho.n hp (g := gapS TX t p) (sN t) 0 (Nat.zero_add _) rfl
    rw [if_neg (show ¬ (b2 true, (0 : Int64), σ).1 = 0 from n10), e, bs]
    exact ⟨σ', h2, f⟩
theorem c_farL {k c : Nat} (hc : c = 12 ∨ c = 18 ∨ c = 24) {σ : Sto} {t : St} (hr : RepS σ c t) (hN : sN t ≤ 6) {p : Nat} (hp : p < sN t) : ∀ d m u, m + d = sN t →
    R nS_farFrom k 4 [.ref c, .int (nI p), .int (farS t p m), .int (nI m), u] [] σ = some (farS t p (sN t), 0, σ) := by
  intro d
  induction d with
  | zero =>
    intro m u hm
    have e : m = sN t := by omega
    subst e
    rw [eS_farFrom_4 k c hc, hr.n, if_neg (nI_nlt (by omega) (by omega))]
  | succ d ih =>
    intro m u hm
    have h1 : m < sN t := by omega
    have h6 : m < 6 := by omega
    have h6p : p < 6 := by omega
    have e : farS t p (m + 1) = if m = p then farS t p m else if seenS t m = false then farS t p m else if rP t p = -1 then farS t p m
      else if farS t p m = -1 then distS t m p else minI (farS t p m) (distS t m p) := rfl
    have h2 := fun u => ih (m + 1) u (by omega)
    rw [e] at h2
    rw [eS_farFrom_4 k c hc, hr.n, if_pos (nI_lt h1 (by omega)), c_seen hc hr hN h1, bs]
    simp only [ib6 h6, ix6 h6, ib6 h6p, ix6 h6p, hr.P h1, hr.P hp, ↓reduceIte, nI_1, nI_eq (show m < 2 ^ 31 by omega) (show p < 2 ^ 31 by omega)]
    by_cases h3 : m = p
    · rw [if_pos h3]
      rw [if_pos h3] at h2
      exact h2 _
    rw [if_neg h3]
    rw [if_neg h3] at h2
    cases h4 : seenS t m with
    | false =>
      rw [if_pos h4] at h2
      rw [b2F, if_pos rfl]
      exact h2 _
    | true =>
      rw [if_neg (by rw [h4]; decide)] at h2
      rw [b2T, if_neg n10]
      by_cases h5 : rP t p = -1
      · rw [if_pos h5] at h2 ⊢
        exact h2 _
      rw [if_neg h5] at h2 ⊢
      by_cases h7 : farS t p m = -1
      · rw [if_pos h7] at h2 ⊢
        exact h2 _
      · rw [if_neg h7] at h2 ⊢
        exact h2 _
theorem c_far {k c : Nat} (hc : c = 12 ∨ c = 18 ∨ c = 24) {σ : Sto} {t : St} (hr : RepS σ c t) (hN : sN t ≤ 6) {p : Nat} (hp : p < sN t) : C nS_farFrom k [.ref c, .int (nI p)] σ = some (farS t p (sN t), 0, σ) := by
  rw [eS_farFrom k c hc]
  exact c_farL hc hr hN hp (sN t) 0 .null (Nat.zero_add _)
theorem c_walks {k c : Nat} (hc : c = 12 ∨ c = 18 ∨ c = 24) {σ : Sto} {t : St} {TX : TXT} {K : Nat} (ha : At σ c TX K t) (ho : Ok TX K t) {p : Nat} (hp : p < sN t) :
    ∃ σ', C nS_walksFar k [.ref c, .int (nI p)] σ = some (walksS TX t p, 0, σ') ∧ Fr [6] σ σ' := by
  have h6 : p < 6 := Nat.lt_of_lt_of_le hp ho.n
  obtain ⟨σ1, e1, f1⟩ := c_saysA (k := k) hc ha ho hp (by decide : 2 < 3)
  obtain ⟨σ2, e2, f2⟩ := c_alone (k := k) hc (ha.f6 hc f1) ho hp
  obtain ⟨σ3, e3, f3⟩ := c_alone (k := k) hc ha ho hp
  obtain ⟨σ4, e4, f4⟩ := c_saysA (k := k) hc (ha.f6 hc f3) ho hp (by decide : 2 < 3)
  rw [show nI 2 = 2 from rfl] at e1 e4
  rw [eS_walksFar k c hc]
  simp only [ib6 h6, ix6 h6, ha.1.K hp, ha.1.M hp, ha.1.H, e1, e2, e3, e4, bs, ↓reduceIte]
  unfold walksS modS
  by_cases h1 : rK t p = 2
  · rw [if_pos h1, if_pos h1]
    cases h2 : aloneS TX t p
    · exact ⟨σ2, rfl, f1.tr f2⟩
    · exact ⟨σ2, rfl, f1.tr f2⟩
  rw [if_neg h1, if_neg h1]
  by_cases h1 : rK t p = 3
  · rw [if_pos h1, if_pos h1]
    cases h2 : aloneS TX t p
    · exact ⟨σ4, rfl, f3.tr f4⟩
    · exact ⟨σ3, rfl, f3⟩
  rw [if_neg h1, if_neg h1]
  by_cases h1 : rK t p = 4
  · rw [if_pos h1, if_pos h1]
    by_cases h2 : sH t - sH t / 2 * 2 = 0
    · rw [if_pos h2, if_pos h2]; exact ⟨σ, rfl, Fr.rf⟩
    · rw [if_neg h2, if_neg h2]; exact ⟨σ, rfl, Fr.rf⟩
  rw [if_neg h1, if_neg h1]
  exact ⟨σ1, rfl, f1⟩
theorem c_choL {k c : Nat} (hc : c = 12 ∨ c = 18 ∨ c = 24) {t : St} {TX : TXT} {K : Nat} (ho : Ok TX K t) : ∀ d m u σ, At σ c TX K t → m + d = sN t →
    ∃ σ', R nS_choice k 6 [.ref c, .int (choS TX t m).1, .int (choS TX t m).2, .int (nI m), u] [] σ = some (choiceS TX t, 0, σ') ∧ Fr [6] σ σ' := by
  intro d
  have hN := ho.n
  induction d with
  | zero =>
    intro m u σ ha hm
    have e : m = sN t := by omega
    subst e
    rw [eS_choice_6 k c hc, ha.1.n, if_neg (nI_nlt (by omega) (by omega))]
    exact ⟨σ, rfl, Fr.rf⟩
  | succ d ih =>
    intro m u σ ha hm
    have h1 : m < sN t := by omega
    have e : choS TX t (m + 1) = if aloneS TX t m = false then choS TX t m else if (choS TX t m).1 = -1 then (nI m, likedS TX t m) else if (choS TX t m).2 < likedS TX t m then (nI m, likedS TX t m) else choS TX t m := rfl
    have h2 := fun u σ ha => ih (m + 1) u σ ha (by omega)
    obtain ⟨σ1, e1, f1⟩ := c_alone (k := k) hc ha ho h1
    have ha1 := ha.f6 hc f1
    obtain ⟨σ2, e2, f2⟩ := c_liked (k := k) hc ha1 ho h1
    have ha2 := ha1.f6 hc f2
    rw [eS_choice_6 k c hc, ha.1.n, if_pos (nI_lt h1 (by omega)), e1, bs]
    simp only [e2, bs, nI_1]
    cases h4 : aloneS TX t m with
    | false =>
      rw [e, if_pos h4] at h2
      obtain ⟨σ3, e3, f3⟩ := h2 u σ1 ha1
      exact ⟨σ3, e3, f1.tr f3⟩
    | true =>
      rw [e, if_neg (by rw [h4]; decide)] at h2
      rw [b2T, if_neg n10]
      by_cases h5 : (choS TX t m).1 = -1
      · rw [if_pos h5] at h2 ⊢
        obtain ⟨σ3, e3, f3⟩ := h2 _ σ2 ha2
        exact ⟨σ3, e3, (f1.tr f2).tr f3⟩
      rw [if_neg h5] at h2 ⊢
      by_cases h7 : (choS TX t m).2 < likedS TX t m
      · rw [if_pos h7] at h2 ⊢
        obtain ⟨σ3, e3, f3⟩ := h2 _ σ2 ha2
        exact ⟨σ3, e3, (f1.tr f2).tr f3⟩
      · rw [if_neg h7] at h2 ⊢
        obtain ⟨σ3, e3, f3⟩ := h2 _ σ2 ha2
        exact ⟨σ3, e3, (f1.tr f2).tr f3⟩
theorem c_choice {k c : Nat} (hc : c = 12 ∨ c = 18 ∨ c = 24) {σ : Sto} {t : St} {TX : TXT} {K : Nat} (ha : At σ c TX K t) (ho : Ok TX K t) :
    ∃ σ', C nS_choice k [.ref c] σ = some (choiceS TX t, 0, σ') ∧ Fr [6] σ σ' := by
  rw [eS_choice k c hc]
  exact c_choL hc ho (sN t) 0 .null σ ha (Nat.zero_add _)
theorem cho_or {TX : TXT} {t : St} : ∀ m, (choS TX t m).1 = -1 ∨ ∃ p, p < m ∧ (choS TX t m).1 = nI p ∧ aloneS TX t p = true := by
  intro m
  induction m with
  | zero => exact Or.inl rfl
  | succ m ih =>
    have e : choS TX t (m + 1) = if aloneS TX t m = false then choS TX t m else if (choS TX t m).1 = -1 then (nI m, likedS TX t m) else if (choS TX t m).2 < likedS TX t m then (nI m, likedS TX t m) else choS TX t m := rfl
    have ih' : (choS TX t m).1 = -1 ∨ ∃ p, p < m + 1 ∧ (choS TX t m).1 = nI p ∧ aloneS TX t p = true := by
      rcases ih with h | ⟨p, h1, h2⟩
      · exact Or.inl h
      · exact Or.inr ⟨p, by omega, h2⟩
    rw [e]
    cases h4 : aloneS TX t m with
    | false => rw [if_pos rfl]; exact ih'
    | true =>
      rw [if_neg (by decide)]
      split
      · exact Or.inr ⟨m, by omega, rfl, h4⟩
      · split
        · exact Or.inr ⟨m, by omega, rfl, h4⟩
        · exact ih'
theorem choice_or (TX : TXT) (t : St) : choiceS TX t = -1 ∨ ∃ p, p < sN t ∧ choiceS TX t = nI p ∧ aloneS TX t p = true := cho_or (sN t)
theorem alone_seen {TX : TXT} {t : St} {p : Nat} (h : aloneS TX t p = true) : seenS t p = true := by
  unfold aloneS at h
  rw [Bool.and_eq_true] at h
  exact h.1
theorem seen_at {t : St} {p : Nat} (h : seenS t p = true) : ¬ rP t p = -1 := by
  unfold seenS at h
  rw [Bool.and_eq_true, decide_eq_true_eq] at h
  exact h.1
