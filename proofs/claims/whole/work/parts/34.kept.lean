/-! A STRAND BECOMES ANOTHER; THE MODEL'S ROWS ARE KEPT AND LAID BACK -/
def ws (c : Nat) : List Nat := [c, c + 1, c + 2, c + 3, c + 4, c + 5]
theorem c_becomes {k c d : Nat} (hc : (c = 18 ∧ d = 12) ∨ (c = 24 ∧ d = 12) ∨ (c = 12 ∧ d = 24)) {t : St} {TX : TXT} {K : Nat} (ho : Ok TX K t) {σ : Sto} (hr : RepS σ d t) :
    ∃ σ', C nS_becomes k [.ref c, .ref d] σ = some (0, 0, σ') ∧ RepS σ' c t ∧ Fr (ws c) σ σ' := by
  have hN := ho.n
  have hcd : ∀ i j, i < 6 → j < 6 → d + j ≠ c + i := by
    intro i j hi hj
    omega
  have hdc : d ≠ c := hcd 0 0 (by decide) (by decide)
  have eD : ∀ (σ : Sto) i v, su σ c i v d = σ d := fun _ _ _ => su_ne hdc
  have q : ∀ (i j : Nat) (σ : Sto) (p : Nat) (v : Int32), i < 6 → j < 6 → su σ (c + i) p v (d + j) = σ (d + j) := fun i j σ p v hi hj => su_ne (hcd i j hi hj)
  have q12 := fun σ p v => q 1 2 σ p v (by decide) (by decide)
  have q13 := fun σ p v => q 1 3 σ p v (by decide) (by decide)
  have q14 := fun σ p v => q 1 4 σ p v (by decide) (by decide)
  have q15 := fun σ p v => q 1 5 σ p v (by decide) (by decide)
  have q23 := fun σ p v => q 2 3 σ p v (by decide) (by decide)
  have q24 := fun σ p v => q 2 4 σ p v (by decide) (by decide)
  have q25 := fun σ p v => q 2 5 σ p v (by decide) (by decide)
  have q34 := fun σ p v => q 3 4 σ p v (by decide) (by decide)
  have q35 := fun σ p v => q 3 5 σ p v (by decide) (by decide)
  have q45 := fun σ p v => q 4 5 σ p v (by decide) (by decide)
  have L : ∀ δ m σ0, m + δ = sN t → RepS σ0 d t → (∀ i, i < m → σ0 (c + 1) i = rK t i ∧ σ0 (c + 2) i = rM t i ∧ σ0 (c + 3) i = rP t i ∧ σ0 (c + 4) i = rD t i ∧ σ0 (c + 5) i = rW t i) →
      ∃ σ', R nS_becomes k 2 [.ref c, .ref d, .int (nI m)] [] σ0 = some (0, 0, σ') ∧ RepS σ' c t ∧ Fr (ws c) σ0 σ' := by
    intro δ
    induction δ with
    | zero =>
      intro m σ0 hm hr0 hi
      have e : m = sN t := by omega
      subst e
      rw [eS_becomes_2 k c d hc, if_neg (show ¬ nI (sN t) < σ0 d 6 from by rw [hr0.n]; exact nI_nlt (by omega) (by omega))]
      simp only [eD, hr0.n, hr0.H, hr0.O, hr0.B, hr0.F, hr0.L]
      refine ⟨_, rfl, ⟨?_, fun i hi2 => ?_⟩, ?_⟩
      · simp [su_at]
      · have n1 : c + 1 ≠ c := by omega
        have n2 : c + 2 ≠ c := by omega
        have n3 : c + 3 ≠ c := by omega
        have n4 : c + 4 ≠ c := by omega
        have n5 : c + 5 ≠ c := by omega
        rw [su_ne n1, su_ne n1, su_ne n1, su_ne n1, su_ne n1, su_ne n1, su_ne n2, su_ne n2, su_ne n2, su_ne n2, su_ne n2, su_ne n2, su_ne n3, su_ne n3, su_ne n3, su_ne n3, su_ne n3, su_ne n3,
          su_ne n4, su_ne n4, su_ne n4, su_ne n4, su_ne n4, su_ne n4, su_ne n5, su_ne n5, su_ne n5, su_ne n5, su_ne n5, su_ne n5]
        exact hi i hi2
      · have m0 : c ∈ ws c := by unfold ws; simp
        exact (((((Fr.rf.su m0).su m0).su m0).su m0).su m0).su m0
    | succ δ ih =>
      intro m σ0 hm hr0 hi
      have h1 : m < sN t := by omega
      have h6 : m < 6 := by omega
      have hz : zb (rD t m) = true := by
        rcases ho.hid h1 with h | h
        · rw [h]; decide
        · rw [h]; decide
      rw [eS_becomes_2 k c d hc, if_pos (show nI m < σ0 d 6 from by rw [hr0.n]; exact nI_lt h1 (by omega))]
      simp only [ib6 h6, ix6 h6, q12, q13, q14, q15, q23, q24, q25, q34, q35, q45, hr0.K h1, hr0.M h1, hr0.P h1, hr0.D h1, hr0.W h1, hz, and_self, ↓reduceIte, nI_1]
      have m1 : c + 1 ∈ ws c := by unfold ws; simp
      have m2 : c + 2 ∈ ws c := by unfold ws; simp
      have m3 : c + 3 ∈ ws c := by unfold ws; simp
      have m4 : c + 4 ∈ ws c := by unfold ws; simp
      have m5 : c + 5 ∈ ws c := by unfold ws; simp
      have fr : Fr (ws c) σ0 (su (su (su (su (su σ0 (c + 1) m (rK t m)) (c + 2) m (rM t m)) (c + 3) m (rP t m)) (c + 4) m (rD t m)) (c + 5) m (rW t m)) := ((((Fr.rf.su m1).su m2).su m3).su m4).su m5
      obtain ⟨σ', e1, r1, f1⟩ := ih (m + 1) _ (by omega) (hr0.fr fr fun j hj hm2 => by
        unfold ws at hm2
        simp only [List.mem_cons, List.not_mem_nil, or_false] at hm2
        have g0 := hcd 0 j (by omega) hj
        have g1 := hcd 1 j (by omega) hj
        have g2 := hcd 2 j (by omega) hj
        have g3 := hcd 3 j (by omega) hj
        have g4 := hcd 4 j (by omega) hj
        have g5 := hcd 5 j (by omega) hj
        omega) (fun i hi2 => by
          have v1 : (su (su (su (su (su σ0 (c + 1) m (rK t m)) (c + 2) m (rM t m)) (c + 3) m (rP t m)) (c + 4) m (rD t m)) (c + 5) m (rW t m)) (c + 1) = upd (σ0 (c + 1)) m (rK t m) := by
            rw [su_ne (by omega), su_ne (by omega), su_ne (by omega), su_ne (by omega), su_row]
          have v2 : (su (su (su (su (su σ0 (c + 1) m (rK t m)) (c + 2) m (rM t m)) (c + 3) m (rP t m)) (c + 4) m (rD t m)) (c + 5) m (rW t m)) (c + 2) = upd (σ0 (c + 2)) m (rM t m) := by
            rw [su_ne (by omega), su_ne (by omega), su_ne (by omega), su_row, su_ne (by omega)]
          have v3 : (su (su (su (su (su σ0 (c + 1) m (rK t m)) (c + 2) m (rM t m)) (c + 3) m (rP t m)) (c + 4) m (rD t m)) (c + 5) m (rW t m)) (c + 3) = upd (σ0 (c + 3)) m (rP t m) := by
            rw [su_ne (by omega), su_ne (by omega), su_row, su_ne (by omega), su_ne (by omega)]
          have v4 : (su (su (su (su (su σ0 (c + 1) m (rK t m)) (c + 2) m (rM t m)) (c + 3) m (rP t m)) (c + 4) m (rD t m)) (c + 5) m (rW t m)) (c + 4) = upd (σ0 (c + 4)) m (rD t m) := by
            rw [su_ne (by omega), su_row, su_ne (by omega), su_ne (by omega), su_ne (by omega)]
          have v5 : (su (su (su (su (su σ0 (c + 1) m (rK t m)) (c + 2) m (rM t m)) (c + 3) m (rP t m)) (c + 4) m (rD t m)) (c + 5) m (rW t m)) (c + 5) = upd (σ0 (c + 5)) m (rW t m) := by
            rw [su_row, su_ne (by omega), su_ne (by omega), su_ne (by omega), su_ne (by omega)]
          rw [v1, v2, v3, v4, v5]
          by_cases hn : i = m
          · subst hn
            exact ⟨upd_s, upd_s, upd_s, upd_s, upd_s⟩
          · rw [upd_n hn, upd_n hn, upd_n hn, upd_n hn, upd_n hn]
            exact hi i (by omega))
      exact ⟨σ', e1, r1, fr.tr f1⟩
  rw [eS_becomes k c d hc]
  exact L (sN t) 0 σ (Nat.zero_add _) hr (fun i hi => (by omega))
theorem t_becomes {k : Nat} {σ : Sto} {a : Ab} (hw : WfA a) (h : InvC σ a) : ∃ σ', C nS_becomes k [.ref 18, .ref 12] σ = some (0, 0, σ') ∧ At σ' 18 (aX a) (aN a) (aT a) ∧ InvC σ' a ∧ FC σ σ' := by
  obtain ⟨σ', e, r, f⟩ := c_becomes (k := k) (Or.inl ⟨rfl, rfl⟩) hw.1 h.at.1
  have hi := h.fr f (by decide)
  exact ⟨σ', e, ⟨r, hi.at.2⟩, hi, f.c (by decide)⟩
theorem keeps_l1 {k : Nat} : ∀ d m σ, m + d = 18 → ∃ σ', R nM_keeps k 2 [.ref 30, .int (nI m)] [] σ = R nM_keeps k 2 [.ref 30, .int (nI 18)] [] σ' ∧ Fr [48] σ σ' ∧ ∀ j, σ' 48 j = if m ≤ j ∧ j < 18 then σ 33 j else σ 48 j := by
  intro d
  induction d with
  | zero =>
    intro m σ hm
    have e : m = 18 := by omega
    subst e
    exact ⟨σ, rfl, Fr.rf, fun j => by rw [if_neg (by omega)]⟩
  | succ d ih =>
    intro m σ hm
    have f0 : Fr [48] σ (su σ 48 m (σ 33 m)) := Fr.rf.su (by decide)
    obtain ⟨σ', e, f, g⟩ := ih (m + 1) (su σ 48 m (σ 33 m)) (by omega)
    refine ⟨σ', ?_, f0.tr f, fun j => ?_⟩
    · rw [eM_keeps_2 k (nI m), if_pos (show nI m < 18 from nI_lt (b := 18) (by omega) (by decide)), if_pos (ibn (by omega) (by decide)), if_pos (ibn (by omega) (by decide)), ixn (by omega), nI_1]
      exact e
    · rw [g, su_ne (show 33 ≠ 48 by decide), su_row]
      by_cases hj : j = m
      · subst hj
        rw [if_neg (by omega), upd_s, if_pos (by omega)]
      · rw [upd_n hj]
        by_cases hj2 : m + 1 ≤ j ∧ j < 18
        · rw [if_pos hj2, if_pos (by omega)]
        · rw [if_neg hj2, if_neg (by omega)]
theorem keeps_l2 {k : Nat} : ∀ d m σ, m + d = 4 → ∃ σ', R nM_keeps k 17 [.ref 30, .int (nI m)] [] σ = R nM_keeps k 17 [.ref 30, .int (nI 4)] [] σ' ∧ Fr [48] σ σ' ∧ ∀ j, σ' 48 j = if 18 + m ≤ j ∧ j < 22 then σ 34 (j - 18) else σ 48 j := by
  intro d
  induction d with
  | zero =>
    intro m σ hm
    have e : m = 4 := by omega
    subst e
    exact ⟨σ, rfl, Fr.rf, fun j => by rw [if_neg (by omega)]⟩
  | succ d ih =>
    intro m σ hm
    have f0 : Fr [48] σ (su σ 48 (18 + m) (σ 34 m)) := Fr.rf.su (by decide)
    have e18 : 18 + nI m = nI (18 + m) := nI_add 18 m
    obtain ⟨σ', e, f, g⟩ := ih (m + 1) (su σ 48 (18 + m) (σ 34 m)) (by omega)
    refine ⟨σ', ?_, f0.tr f, fun j => ?_⟩
    · rw [eM_keeps_17 k (nI m), if_pos (show nI m < 4 from nI_lt (b := 4) (by omega) (by decide)), e18, if_pos (ibn (by omega) (by decide)), if_pos (ibn (by omega) (by decide)), ixn (by omega), ixn (by omega), nI_1]
      exact e
    · rw [g, su_ne (show 34 ≠ 48 by decide), su_row]
      by_cases hj : j = 18 + m
      · subst hj
        rw [if_neg (by omega), upd_s, if_pos (by omega), show 18 + m - 18 = m by omega]
      · rw [upd_n hj]
        by_cases hj2 : 18 + (m + 1) ≤ j ∧ j < 22
        · rw [if_pos hj2, if_pos (by omega)]
        · rw [if_neg hj2, if_neg (by omega)]
theorem lays_l1 {k : Nat} : ∀ d m σ, m + d = 18 → ∃ σ', R nM_lays k 2 [.ref 30, .int (nI m)] [] σ = R nM_lays k 2 [.ref 30, .int (nI 18)] [] σ' ∧ Fr [33] σ σ' ∧ ∀ j, σ' 33 j = if m ≤ j ∧ j < 18 then σ 48 j else σ 33 j := by
  intro d
  induction d with
  | zero =>
    intro m σ hm
    have e : m = 18 := by omega
    subst e
    exact ⟨σ, rfl, Fr.rf, fun j => by rw [if_neg (by omega)]⟩
  | succ d ih =>
    intro m σ hm
    have f0 : Fr [33] σ (su σ 33 m (σ 48 m)) := Fr.rf.su (by decide)
    obtain ⟨σ', e, f, g⟩ := ih (m + 1) (su σ 33 m (σ 48 m)) (by omega)
    refine ⟨σ', ?_, f0.tr f, fun j => ?_⟩
    · rw [eM_lays_2 k (nI m), if_pos (show nI m < 18 from nI_lt (b := 18) (by omega) (by decide)), if_pos (ibn (by omega) (by decide)), if_pos (ibn (by omega) (by decide)), ixn (by omega), nI_1]
      exact e
    · rw [g, su_ne (show 48 ≠ 33 by decide), su_row]
      by_cases hj : j = m
      · subst hj
        rw [if_neg (by omega), upd_s, if_pos (by omega)]
      · rw [upd_n hj]
        by_cases hj2 : m + 1 ≤ j ∧ j < 18
        · rw [if_pos hj2, if_pos (by omega)]
        · rw [if_neg hj2, if_neg (by omega)]
theorem lays_l2 {k : Nat} : ∀ d m σ, m + d = 4 → ∃ σ', R nM_lays k 17 [.ref 30, .int (nI m)] [] σ = R nM_lays k 17 [.ref 30, .int (nI 4)] [] σ' ∧ Fr [34] σ σ' ∧ ∀ j, σ' 34 j = if m ≤ j ∧ j < 4 then σ 48 (18 + j) else σ 34 j := by
  intro d
  induction d with
  | zero =>
    intro m σ hm
    have e : m = 4 := by omega
    subst e
    exact ⟨σ, rfl, Fr.rf, fun j => by rw [if_neg (by omega)]⟩
  | succ d ih =>
    intro m σ hm
    have f0 : Fr [34] σ (su σ 34 m (σ 48 (18 + m))) := Fr.rf.su (by decide)
    have e18 : 18 + nI m = nI (18 + m) := nI_add 18 m
    obtain ⟨σ', e, f, g⟩ := ih (m + 1) (su σ 34 m (σ 48 (18 + m))) (by omega)
    refine ⟨σ', ?_, f0.tr f, fun j => ?_⟩
    · rw [eM_lays_17 k (nI m), if_pos (show nI m < 4 from nI_lt (b := 4) (by omega) (by decide)), e18, if_pos (ibn (by omega) (by decide)), if_pos (ibn (by omega) (by decide)), ixn (by omega), ixn (by omega), nI_1]
      exact e
    · rw [g, su_ne (show 48 ≠ 34 by decide), su_row]
      by_cases hj : j = m
      · subst hj
        rw [if_neg (by omega), upd_s, if_pos (by omega)]
      · rw [upd_n hj]
        by_cases hj2 : m + 1 ≤ j ∧ j < 4
        · rw [if_pos hj2, if_pos (by omega)]
        · rw [if_neg hj2, if_neg (by omega)]
theorem image_l1 {k : Nat} : ∀ d m σ, m + d = 18 → ∃ σ', R nM_image k 5 [.ref 30, .int (nI m)] [] σ = R nM_image k 5 [.ref 30, .int (nI 18)] [] σ' ∧ Fr [38] σ σ' ∧ ∀ j, σ' 38 j = if m ≤ j ∧ j < 18 then σ 33 j else σ 38 j := by
  intro d
  induction d with
  | zero =>
    intro m σ hm
    have e : m = 18 := by omega
    subst e
    exact ⟨σ, rfl, Fr.rf, fun j => by rw [if_neg (by omega)]⟩
  | succ d ih =>
    intro m σ hm
    have f0 : Fr [38] σ (su σ 38 m (σ 33 m)) := Fr.rf.su (by decide)
    obtain ⟨σ', e, f, g⟩ := ih (m + 1) (su σ 38 m (σ 33 m)) (by omega)
    refine ⟨σ', ?_, f0.tr f, fun j => ?_⟩
    · rw [eM_image_5 k (nI m), if_pos (show nI m < 18 from nI_lt (b := 18) (by omega) (by decide)), if_pos (ibn (by omega) (by decide)), if_pos (ibn (by omega) (by decide)), ixn (by omega), nI_1]
      exact e
    · rw [g, su_ne (show 33 ≠ 38 by decide), su_row]
      by_cases hj : j = m
      · subst hj
        rw [if_neg (by omega), upd_s, if_pos (by omega)]
      · rw [upd_n hj]
        by_cases hj2 : m + 1 ≤ j ∧ j < 18
        · rw [if_pos hj2, if_pos (by omega)]
        · rw [if_neg hj2, if_neg (by omega)]
theorem image_l2 {k : Nat} : ∀ d m σ, m + d = 4 → ∃ σ', R nM_image k 20 [.ref 30, .int (nI m)] [] σ = R nM_image k 20 [.ref 30, .int (nI 4)] [] σ' ∧ Fr [38] σ σ' ∧ ∀ j, σ' 38 j = if 18 + m ≤ j ∧ j < 22 then σ 34 (j - 18) else σ 38 j := by
  intro d
  induction d with
  | zero =>
    intro m σ hm
    have e : m = 4 := by omega
    subst e
    exact ⟨σ, rfl, Fr.rf, fun j => by rw [if_neg (by omega)]⟩
  | succ d ih =>
    intro m σ hm
    have f0 : Fr [38] σ (su σ 38 (18 + m) (σ 34 m)) := Fr.rf.su (by decide)
    have e18 : 18 + nI m = nI (18 + m) := nI_add 18 m
    obtain ⟨σ', e, f, g⟩ := ih (m + 1) (su σ 38 (18 + m) (σ 34 m)) (by omega)
    refine ⟨σ', ?_, f0.tr f, fun j => ?_⟩
    · rw [eM_image_20 k (nI m), if_pos (show nI m < 4 from nI_lt (b := 4) (by omega) (by decide)), e18, if_pos (ibn (by omega) (by decide)), if_pos (ibn (by omega) (by decide)), ixn (by omega), ixn (by omega), nI_1]
      exact e
    · rw [g, su_ne (show 34 ≠ 38 by decide), su_row]
      by_cases hj : j = 18 + m
      · subst hj
        rw [if_neg (by omega), upd_s, if_pos (by omega), show 18 + m - 18 = m by omega]
      · rw [upd_n hj]
        by_cases hj2 : 18 + (m + 1) ≤ j ∧ j < 22
        · rw [if_pos hj2, if_pos (by omega)]
        · rw [if_neg hj2, if_neg (by omega)]
theorem back_l1 {k : Nat} : ∀ d m σ, m + d = 18 → ∃ σ', R nM_back k 7 [.ref 30, .int (nI m)] [] σ = R nM_back k 7 [.ref 30, .int (nI 18)] [] σ' ∧ Fr [33] σ σ' ∧ ∀ j, σ' 33 j = if m ≤ j ∧ j < 18 then σ 38 j else σ 33 j := by
  intro d
  induction d with
  | zero =>
    intro m σ hm
    have e : m = 18 := by omega
    subst e
    exact ⟨σ, rfl, Fr.rf, fun j => by rw [if_neg (by omega)]⟩
  | succ d ih =>
    intro m σ hm
    have f0 : Fr [33] σ (su σ 33 m (σ 38 m)) := Fr.rf.su (by decide)
    obtain ⟨σ', e, f, g⟩ := ih (m + 1) (su σ 33 m (σ 38 m)) (by omega)
    refine ⟨σ', ?_, f0.tr f, fun j => ?_⟩
    · rw [eM_back_7 k (nI m), if_pos (show nI m < 18 from nI_lt (b := 18) (by omega) (by decide)), if_pos (ibn (by omega) (by decide)), if_pos (ibn (by omega) (by decide)), ixn (by omega), nI_1]
      exact e
    · rw [g, su_ne (show 38 ≠ 33 by decide), su_row]
      by_cases hj : j = m
      · subst hj
        rw [if_neg (by omega), upd_s, if_pos (by omega)]
      · rw [upd_n hj]
        by_cases hj2 : m + 1 ≤ j ∧ j < 18
        · rw [if_pos hj2, if_pos (by omega)]
        · rw [if_neg hj2, if_neg (by omega)]
theorem back_l2 {k : Nat} : ∀ d m σ, m + d = 4 → ∃ σ', R nM_back k 22 [.ref 30, .int (nI m)] [] σ = R nM_back k 22 [.ref 30, .int (nI 4)] [] σ' ∧ Fr [34] σ σ' ∧ ∀ j, σ' 34 j = if m ≤ j ∧ j < 4 then σ 38 (18 + j) else σ 34 j := by
  intro d
  induction d with
  | zero =>
    intro m σ hm
    have e : m = 4 := by omega
    subst e
    exact ⟨σ, rfl, Fr.rf, fun j => by rw [if_neg (by omega)]⟩
  | succ d ih =>
    intro m σ hm
    have f0 : Fr [34] σ (su σ 34 m (σ 38 (18 + m))) := Fr.rf.su (by decide)
    have e18 : 18 + nI m = nI (18 + m) := nI_add 18 m
    obtain ⟨σ', e, f, g⟩ := ih (m + 1) (su σ 34 m (σ 38 (18 + m))) (by omega)
    refine ⟨σ', ?_, f0.tr f, fun j => ?_⟩
    · rw [eM_back_22 k (nI m), if_pos (show nI m < 4 from nI_lt (b := 4) (by omega) (by decide)), e18, if_pos (ibn (by omega) (by decide)), if_pos (ibn (by omega) (by decide)), ixn (by omega), ixn (by omega), nI_1]
      exact e
    · rw [g, su_ne (show 38 ≠ 34 by decide), su_row]
      by_cases hj : j = m
      · subst hj
        rw [if_neg (by omega), upd_s, if_pos (by omega)]
      · rw [upd_n hj]
        by_cases hj2 : m + 1 ≤ j ∧ j < 4
        · rw [if_pos hj2, if_pos (by omega)]
        · rw [if_neg hj2, if_neg (by omega)]
/-- the strand as the model keeps it -/
def K48 (σ : Sto) (t : St) : Prop := (∀ i, i < sN t → σ 48 (3 * i) = rP t i ∧ σ 48 (3 * i + 1) = rD t i ∧ σ 48 (3 * i + 2) = rW t i) ∧ σ 48 18 = sO t ∧ σ 48 19 = sB t ∧ σ 48 20 = sF t ∧ σ 48 21 = sH t
theorem K48.fr {l : List Nat} {σ σ' : Sto} {t : St} (h : K48 σ t) (hf : Fr l σ σ') (hl : 48 ∉ l) : K48 σ' t := by
  unfold K48
  rw [hf 48 hl]
  exact h
theorem m_keeps {k : Nat} {σ : Sto} {t : St} (hr : RepM σ t) (hN : sN t ≤ 6) : ∃ σ', C nM_keeps k [.ref 30] σ = some (0, 0, σ') ∧ K48 σ' t ∧ Fr [48] σ σ' := by
  obtain ⟨σ1, e1, f1, g1⟩ := keeps_l1 (k := k) 18 0 σ rfl
  obtain ⟨σ2, e2, f2, g2⟩ := keeps_l2 (k := k) 4 0 σ1 rfl
  rw [eM_keeps k, show (0 : Int32) = nI 0 from rfl, e1, eM_keeps_2 k, if_neg (by decide), show (0 : Int32) = nI 0 from rfl, e2, eM_keeps_17 k, if_neg (by decide)]
  have e34 : σ1 34 = σ 34 := f1 34 (by decide)
  refine ⟨σ2, rfl, ⟨fun i hi => ?_, ?_⟩, f1.tr f2⟩
  · rw [g2, g2, g2, if_neg (by omega), if_neg (by omega), if_neg (by omega), g1, g1, g1, if_pos (by omega), if_pos (by omega), if_pos (by omega)]
    exact ⟨hr.P hi, hr.D hi, hr.W hi⟩
  · rw [g2, g2, g2, g2, if_pos (by omega), if_pos (by omega), if_pos (by omega), if_pos (by omega), e34]
    exact ⟨hr.O, hr.B, hr.F, hr.H⟩
theorem m_lays {k : Nat} {σ : Sto} {t : St} (hN : sN t ≤ 6) (hk : K48 σ t) (h1 : σ 30 0 = nI (sN t)) (h2 : σ 30 10 = nI (sL t)) (h3 : ∀ i, i < sN t → σ 31 i = rK t i ∧ σ 32 i = rM t i) :
    ∃ σ', C nM_lays k [.ref 30] σ = some (0, 0, σ') ∧ RepM σ' t ∧ Fr [33, 34] σ σ' := by
  obtain ⟨σ1, e1, f1, g1⟩ := lays_l1 (k := k) 18 0 σ rfl
  obtain ⟨σ2, e2, f2, g2⟩ := lays_l2 (k := k) 4 0 σ1 rfl
  rw [eM_lays k, show (0 : Int32) = nI 0 from rfl, e1, eM_lays_2 k, if_neg (by decide), show (0 : Int32) = nI 0 from rfl, e2, eM_lays_17 k, if_neg (by decide)]
  have e48 : σ1 48 = σ 48 := f1 48 (by decide)
  have fr : Fr [33, 34] σ σ2 := (f1.mono (by decide)).tr (f2.mono (by decide))
  refine ⟨σ2, rfl, ⟨?_, fun i hi => ?_⟩, fr⟩
  · rw [fr 30 (by decide), g2, g2, g2, g2, if_pos (by omega), if_pos (by omega), if_pos (by omega), if_pos (by omega), e48]
    exact ⟨h1, h2, hk.2⟩
  · rw [fr 31 (by decide), fr 32 (by decide), f2 33 (by decide), g1, g1, g1, if_pos (by omega), if_pos (by omega), if_pos (by omega)]
    exact ⟨(h3 i hi).1, (h3 i hi).2, hk.1 i hi⟩
theorem s_image {a : Ab} (hw : WfA a) : Step nF_image nM_image [] a := by
  have ho := hw.1
  have hN := ho.n
  refine ⟨(nI (sN (aT a)), 0), ((aT a, aT a, true), a.2), ⟨ho, hw.2.1, fun _ => ⟨ho, hw.2.1, Nat.le_refl _, fun i _ => ⟨rfl, rfl⟩⟩, hw.2.2.2⟩, fun σ h => ?_, fun σ h => ?_⟩
  · obtain ⟨σ', e, r, f⟩ := c_becomes (k := 0) (Or.inr (Or.inl ⟨rfl, rfl⟩)) ho h.at.1
    have w : ∀ c, c < 18 → σ' c = σ c := fun c hc => f c (by unfold ws; simp only [List.mem_cons, List.not_mem_nil, or_false, not_or]; omega)
    have w1 : ∀ c, c < 18 → c ≠ 0 → su σ' 0 8 1 c = σ c := fun c hc h0 => (su_ne h0).trans (w c hc)
    rw [eF_image 0, e, bs]; (try dsimp only); rw [show su σ' 0 8 1 12 6 = nI (sN (aT a)) from by rw [w1 12 (by omega) (by omega)]; exact h.at.1.n]
    obtain ⟨⟨h1, h2⟩, h3, h4, h5, h6, h7, h8⟩ := h
    have f2 : Fr [0, 24, 25, 26, 27, 28, 29] σ (su σ' 0 8 1) := (f.mono (by decide)).su (by decide)
    refine ⟨_, rfl, ⟨⟨h1.fr f2 (by decide), h2.fr f2 (by decide) (by decide) (by decide)⟩, fun _ => r.fr (l := [0]) (Fr.rf.su (by decide)) (by decide), ?_, ?_, ?_, ?_, ?_⟩, f2.c (by decide)⟩
    · rw [w1 2 (by omega) (by omega)]; exact h4
    · rw [su_o (by decide), w 0 (by omega)]; exact h5
    · rw [su_e]; rfl
    · rw [w1 1 (by omega) (by omega)]; exact h7
    · rw [w1 9 (by omega) (by omega), w1 10 (by omega) (by omega), w1 11 (by omega) (by omega)]; exact h8
  · obtain ⟨σ1, e1, f1, g1⟩ := image_l1 (k := 0) 18 0 (su σ 30 11 1) rfl
    obtain ⟨σ2, e2, f2, g2⟩ := image_l2 (k := 0) 4 0 σ1 rfl
    have hr := h.at.1
    have f0 : Fr [30, 38] σ σ2 := (Fr.su (c := 30) (i := 11) (v := 1) Fr.rf (by decide)).tr ((f1.mono (by decide)).tr (f2.mono (by decide)))
    have e30 : σ2 30 = upd (σ 30) 11 1 := by rw [f2 30 (by decide), f1 30 (by decide), su_row]
    have n30 : σ2 30 0 = nI (sN (aT a)) := by rw [e30, upd_n (by decide)]; exact hr.n
    have l30 : σ2 30 10 = nI (sL (aT a)) := by rw [e30, upd_n (by decide)]; exact hr.L
    rw [eM_image 0, show (0 : Int32) = nI 0 from rfl, e1, eM_image_5 0, if_neg (by decide), show (0 : Int32) = nI 0 from rfl, e2, eM_image_20 0, if_neg (by decide), z0, z1]
    simp only [su_ne (show 30 ≠ 39 by decide), n30, l30]
    have f3 : Fr [30, 38, 39] σ (su (su σ2 39 0 (nI (sN (aT a)))) 39 1 (nI (sL (aT a)))) := ((f0.mono (by decide)).su (by decide)).su (by decide)
    have w : ∀ c, c ≠ 30 → c ≠ 38 → c ≠ 39 → (su (su σ2 39 0 (nI (sN (aT a)))) 39 1 (nI (sL (aT a)))) c = σ c := fun c a1 a2 a3 => f3 c (by simp only [List.mem_cons, List.not_mem_nil, or_false, not_or]; omega)
    have w30 : (su (su σ2 39 0 (nI (sN (aT a)))) 39 1 (nI (sL (aT a)))) 30 = upd (σ 30) 11 1 := by rw [su_ne (by decide), su_ne (by decide), e30]
    obtain ⟨⟨h1, h2⟩, h3, h4, h5, h6, h7, h8⟩ := h
    refine ⟨_, rfl, ⟨⟨?_, h2.fr f3 (by decide) (by decide)⟩, fun _ => ?_, ?_, ?_, ?_, ?_, ?_⟩, f3.m (by decide)⟩
    · refine ⟨?_, fun i hi => ?_⟩
      · rw [w30, w 34 (by decide) (by decide) (by decide), upd_n (by decide), upd_n (by decide)]
        exact h1.1
      · rw [w 31 (by decide) (by decide) (by decide), w 32 (by decide) (by decide) (by decide), w 33 (by decide) (by decide) (by decide)]
        exact h1.2 i hi
    · have e38 : (su (su σ2 39 0 (nI (sN (aT a)))) 39 1 (nI (sL (aT a)))) 38 = σ2 38 := by rw [su_ne (by decide), su_ne (by decide)]
      have e33 : su σ 30 11 1 33 = σ 33 := su_ne (by decide)
      have e34 : σ1 34 = σ 34 := by rw [f1 34 (by decide), su_ne (by decide)]
      unfold Img
      rw [e38]
      refine ⟨fun i hi => ?_, ?_, ?_, ?_, ?_, ?_, ?_⟩
      · have hi : i < sN (aT a) := hi
        rw [g2, g2, g2, if_neg (by omega), if_neg (by omega), if_neg (by omega), g1, g1, g1, if_pos (by omega), if_pos (by omega), if_pos (by omega), e33]
        exact ⟨hr.P hi, hr.D hi, hr.W hi⟩
      · rw [g2, if_pos (by omega), e34]; exact hr.O
      · rw [g2, if_pos (by omega), e34]; exact hr.B
      · rw [g2, if_pos (by omega), e34]; exact hr.F
      · rw [g2, if_pos (by omega), e34]; exact hr.H
      · rw [su_o (by decide), su_e]; rfl
      · rw [su_e]; rfl
    · rw [w30, upd_n (by decide)]; exact h4
    · rw [w30, upd_n (by decide)]; exact h5
    · rw [w30, upd_s]; rfl
    · rw [w 35 (by decide) (by decide) (by decide)]; exact h7
    · rw [w 40 (by decide) (by decide) (by decide), w 41 (by decide) (by decide) (by decide), w 42 (by decide) (by decide) (by decide)]; exact h8
