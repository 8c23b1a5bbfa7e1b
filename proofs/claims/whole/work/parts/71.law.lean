/-! THE LAW'S LOOP -/
theorem Step.b {nx ny : Nat} {xs : List Value} {a : Ab} (h : Step nx ny xs a) {σ : Sto} (hc : InvC σ a) (hm : InvM σ a) : ∃ (v : Int32 × Int64) (a' : Ab) (σ1 σ2 : Sto), WfA a' ∧ C nx 0 (.ref 0 :: xs) σ = some (v.1, v.2, σ1) ∧ C ny 0 (.ref 30 :: xs) σ1 = some (v.1, v.2, σ2) ∧ InvC σ2 a' ∧ InvM σ2 a' ∧ (∀ c, c = 44 ∨ 48 < c → σ1 c = σ c) ∧ (∀ c, c = 44 ∨ 48 < c → σ2 c = σ c) := by
  obtain ⟨v, a', hw, h1, h2⟩ := h
  obtain ⟨σ1, e1, c1, f1⟩ := h1 σ hc
  obtain ⟨σ2, e2, m2, f2⟩ := h2 σ1 (hm.fc f1)
  exact ⟨v, a', σ1, σ2, hw, e1, e2, c1.fm f2, m2, fun c hc => f1 c (by omega), fun c hc => (f2 c (by omega)).trans (f1 c (by omega))⟩
theorem text_b {a : Ab} (hw : WfA a) {σ : Sto} (hc : InvC σ a) (hm : InvM σ a) (hd : Wrd σ) : ∃ (v : Int32 × Int64) (a' : Ab) (σ1 σ2 : Sto), WfA a' ∧ C nF_text 0 (.ref 0 :: []) σ = some (v.1, v.2, σ1) ∧ C nM_text 0 (.ref 30 :: []) σ1 = some (v.1, v.2, σ2) ∧ InvC σ2 a' ∧ InvM σ2 a' ∧ (∀ c, c = 44 ∨ 48 < c → σ1 c = σ c) ∧ (∀ c, c = 44 ∨ 48 < c → σ2 c = σ c) := by
  obtain ⟨v, a1, σ1, _, _, e1, _, f1, _⟩ := t_both hw hc hm hd
  have hd1 : Wrd σ1 := fun k c hk hc => by rw [f1 44 (by omega)]; exact hd k c hk hc
  obtain ⟨v2, a2, σ1', σ2, w2, e1', c1', f1', e2, m2, f2⟩ := t_both hw hc (hm.fc f1) hd1
  have e := e1.symm.trans e1'
  cases e
  exact ⟨(v, 0), a2, σ1, σ2, w2, e1, e2, c1'.fm f2, m2, fun c hc => f1 c (by omega), fun c hc => (f2 c (by omega)).trans (f1 c (by omega))⟩
def LawI (σ : Sto) (xx : Nat → Int32) (LL : Nat) (a : Ab) : Prop := WfA a ∧ InvC σ a ∧ InvM σ a ∧ Wrd σ ∧ σ 99 = xx ∧ σ 98 0 = nI LL
theorem law_in {i LL : Nat} (hL : LL ≤ 3584) (hi : i + 7 ≤ LL) {σ : Sto} (h : σ 98 0 = nI LL) {j : Nat} {v : Int32} (hj : j < 7) (hv : nI i + v = nI (i + j)) : inb (nI i + v) (σ 98 0).toNatClampNeg = true := by
  rw [hv, h, ixn (by omega)]
  exact ibn (by omega) (by omega)
theorem law_0 {xx : Nat → Int32} {LL i : Nat} (hL : LL ≤ 3584) (hi : i + 7 ≤ LL) {σ : Sto} {a : Ab} (I : LawI σ xx LL a) (K : ∀ σ a, LawI σ xx LL a → ∃ σ', R nL_law 0 987 [.ref 99, .ref 0, .ref 30, .int (nI i)] [] σ = some (1, 0, σ')) : ∃ σ', R nL_law 0 22 [.ref 99, .ref 0, .ref 30, .int (nI i)] [] σ = some (1, 0, σ') := by
  obtain ⟨hw, hc, hm, hd, h99, h98⟩ := I
  obtain ⟨v, a2, σ1, σ2, w2, e1, e2, c2, m2, f1, f2⟩ := (s_count hw (σ 99 (nI i + 1).toNatClampNeg)).b hc hm
  have g98 : σ1 98 0 = nI LL := by rw [f1 98 (by omega)]; exact h98
  rw [← f1 99 (by omega)] at e2
  rw [eL_law_22 0, if_pos (law_in hL hi h98 (j := 1) (v := 1) (by omega) (nI_add i 1)), e1, bs]
  rw [if_pos (show inb (nI i + 1) (σ1 98 0).toNatClampNeg = true from law_in hL hi g98 (j := 1) (v := 1) (by omega) (nI_add i 1))]
  dsimp only
  rw [e2, bs]
  rw [if_pos (rfl)]
  exact K σ2 a2 ⟨w2, c2, m2, fun k c hk hc => by rw [f2 44 (by omega)]; exact hd k c hk hc, (f2 99 (by omega)).trans h99, by rw [f2 98 (by omega)]; exact h98⟩
theorem law_1 {xx : Nat → Int32} {LL i : Nat} (hL : LL ≤ 3584) (hi : i + 7 ≤ LL) {σ : Sto} {a : Ab} (I : LawI σ xx LL a) (K : ∀ σ a, LawI σ xx LL a → ∃ σ', R nL_law 0 987 [.ref 99, .ref 0, .ref 30, .int (nI i)] [] σ = some (1, 0, σ')) : ∃ σ', R nL_law 0 39 [.ref 99, .ref 0, .ref 30, .int (nI i)] [] σ = some (1, 0, σ') := by
  obtain ⟨hw, hc, hm, hd, h99, h98⟩ := I
  obtain ⟨v, a2, σ1, σ2, w2, e1, e2, c2, m2, f1, f2⟩ := (s_bay hw (σ 99 (nI i + 1).toNatClampNeg) (σ 99 (nI i + 2).toNatClampNeg)).b hc hm
  have g98 : σ1 98 0 = nI LL := by rw [f1 98 (by omega)]; exact h98
  rw [← f1 99 (by omega)] at e2
  rw [eL_law_39 0, if_pos (law_in hL hi h98 (j := 1) (v := 1) (by omega) (nI_add i 1)), if_pos (law_in hL hi h98 (j := 2) (v := 2) (by omega) (nI_add i 2)), e1, bs]
  rw [if_pos (show inb (nI i + 1) (σ1 98 0).toNatClampNeg = true from law_in hL hi g98 (j := 1) (v := 1) (by omega) (nI_add i 1)), if_pos (show inb (nI i + 2) (σ1 98 0).toNatClampNeg = true from law_in hL hi g98 (j := 2) (v := 2) (by omega) (nI_add i 2))]
  dsimp only
  rw [e2, bs]
  rw [if_pos (rfl)]
  exact K σ2 a2 ⟨w2, c2, m2, fun k c hk hc => by rw [f2 44 (by omega)]; exact hd k c hk hc, (f2 99 (by omega)).trans h99, by rw [f2 98 (by omega)]; exact h98⟩
theorem law_2 {xx : Nat → Int32} {LL i : Nat} (hL : LL ≤ 3584) (hi : i + 7 ≤ LL) {σ : Sto} {a : Ab} (I : LawI σ xx LL a) (K : ∀ σ a, LawI σ xx LL a → ∃ σ', R nL_law 0 987 [.ref 99, .ref 0, .ref 30, .int (nI i)] [] σ = some (1, 0, σ')) : ∃ σ', R nL_law 0 66 [.ref 99, .ref 0, .ref 30, .int (nI i)] [] σ = some (1, 0, σ') := by
  obtain ⟨hw, hc, hm, hd, h99, h98⟩ := I
  obtain ⟨v, a2, σ1, σ2, w2, e1, e2, c2, m2, f1, f2⟩ := (s_ferry hw (σ 99 (nI i + 1).toNatClampNeg)).b hc hm
  have g98 : σ1 98 0 = nI LL := by rw [f1 98 (by omega)]; exact h98
  rw [← f1 99 (by omega)] at e2
  rw [eL_law_66 0, if_pos (law_in hL hi h98 (j := 1) (v := 1) (by omega) (nI_add i 1)), e1, bs]
  rw [if_pos (show inb (nI i + 1) (σ1 98 0).toNatClampNeg = true from law_in hL hi g98 (j := 1) (v := 1) (by omega) (nI_add i 1))]
  dsimp only
  rw [e2, bs]
  rw [if_pos (rfl)]
  exact K σ2 a2 ⟨w2, c2, m2, fun k c hk hc => by rw [f2 44 (by omega)]; exact hd k c hk hc, (f2 99 (by omega)).trans h99, by rw [f2 98 (by omega)]; exact h98⟩
theorem law_3 {xx : Nat → Int32} {LL i : Nat} (hL : LL ≤ 3584) (hi : i + 7 ≤ LL) {σ : Sto} {a : Ab} (I : LawI σ xx LL a) (K : ∀ σ a, LawI σ xx LL a → ∃ σ', R nL_law 0 987 [.ref 99, .ref 0, .ref 30, .int (nI i)] [] σ = some (1, 0, σ')) : ∃ σ', R nL_law 0 83 [.ref 99, .ref 0, .ref 30, .int (nI i)] [] σ = some (1, 0, σ') := by
  obtain ⟨hw, hc, hm, hd, h99, h98⟩ := I
  obtain ⟨v, a2, σ1, σ2, w2, e1, e2, c2, m2, f1, f2⟩ := (s_feed hw (σ 99 (nI i + 1).toNatClampNeg) (σ 99 (nI i + 2).toNatClampNeg) (σ 99 (nI i + 3).toNatClampNeg) (σ 99 (nI i + 4).toNatClampNeg) (σ 99 (nI i + 5).toNatClampNeg) (σ 99 (nI i + 6).toNatClampNeg)).b hc hm
  have g98 : σ1 98 0 = nI LL := by rw [f1 98 (by omega)]; exact h98
  rw [← f1 99 (by omega)] at e2
  rw [eL_law_83 0, if_pos (law_in hL hi h98 (j := 1) (v := 1) (by omega) (nI_add i 1)), if_pos (law_in hL hi h98 (j := 2) (v := 2) (by omega) (nI_add i 2)), if_pos (law_in hL hi h98 (j := 3) (v := 3) (by omega) (nI_add i 3)), if_pos (law_in hL hi h98 (j := 4) (v := 4) (by omega) (nI_add i 4)), if_pos (law_in hL hi h98 (j := 5) (v := 5) (by omega) (nI_add i 5)), if_pos (law_in hL hi h98 (j := 6) (v := 6) (by omega) (nI_add i 6)), e1, bs]
  rw [if_pos (show inb (nI i + 1) (σ1 98 0).toNatClampNeg = true from law_in hL hi g98 (j := 1) (v := 1) (by omega) (nI_add i 1)), if_pos (show inb (nI i + 2) (σ1 98 0).toNatClampNeg = true from law_in hL hi g98 (j := 2) (v := 2) (by omega) (nI_add i 2)), if_pos (show inb (nI i + 3) (σ1 98 0).toNatClampNeg = true from law_in hL hi g98 (j := 3) (v := 3) (by omega) (nI_add i 3)), if_pos (show inb (nI i + 4) (σ1 98 0).toNatClampNeg = true from law_in hL hi g98 (j := 4) (v := 4) (by omega) (nI_add i 4)), if_pos (show inb (nI i + 5) (σ1 98 0).toNatClampNeg = true from law_in hL hi g98 (j := 5) (v := 5) (by omega) (nI_add i 5)), if_pos (show inb (nI i + 6) (σ1 98 0).toNatClampNeg = true from law_in hL hi g98 (j := 6) (v := 6) (by omega) (nI_add i 6))]
  dsimp only
  rw [e2, bs]
  rw [if_pos (rfl)]
  exact K σ2 a2 ⟨w2, c2, m2, fun k c hk hc => by rw [f2 44 (by omega)]; exact hd k c hk hc, (f2 99 (by omega)).trans h99, by rw [f2 98 (by omega)]; exact h98⟩
theorem law_4 {xx : Nat → Int32} {LL i : Nat} (hL : LL ≤ 3584) (hi : i + 7 ≤ LL) {σ : Sto} {a : Ab} (I : LawI σ xx LL a) (K : ∀ σ a, LawI σ xx LL a → ∃ σ', R nL_law 0 987 [.ref 99, .ref 0, .ref 30, .int (nI i)] [] σ = some (1, 0, σ')) : ∃ σ', R nL_law 0 150 [.ref 99, .ref 0, .ref 30, .int (nI i)] [] σ = some (1, 0, σ') := by
  obtain ⟨hw, hc, hm, hd, h99, h98⟩ := I
  obtain ⟨v, a2, σ1, σ2, w2, e1, e2, c2, m2, f1, f2⟩ := text_b hw hc hm hd
  have g98 : σ1 98 0 = nI LL := by rw [f1 98 (by omega)]; exact h98
  rw [eL_law_150 0, e1, bs]
  dsimp only
  rw [e2, bs]
  rw [if_pos (rfl)]
  exact K σ2 a2 ⟨w2, c2, m2, fun k c hk hc => by rw [f2 44 (by omega)]; exact hd k c hk hc, (f2 99 (by omega)).trans h99, by rw [f2 98 (by omega)]; exact h98⟩
theorem law_5 {xx : Nat → Int32} {LL i : Nat} (hL : LL ≤ 3584) (hi : i + 7 ≤ LL) {σ : Sto} {a : Ab} (I : LawI σ xx LL a) (K : ∀ σ a, LawI σ xx LL a → ∃ σ', R nL_law 0 987 [.ref 99, .ref 0, .ref 30, .int (nI i)] [] σ = some (1, 0, σ')) : ∃ σ', R nL_law 0 157 [.ref 99, .ref 0, .ref 30, .int (nI i)] [] σ = some (1, 0, σ') := by
  obtain ⟨hw, hc, hm, hd, h99, h98⟩ := I
  obtain ⟨v, a2, σ1, σ2, w2, e1, e2, c2, m2, f1, f2⟩ := (s_force hw (σ 99 (nI i + 1).toNatClampNeg)).b hc hm
  have g98 : σ1 98 0 = nI LL := by rw [f1 98 (by omega)]; exact h98
  rw [← f1 99 (by omega)] at e2
  rw [eL_law_157 0, if_pos (law_in hL hi h98 (j := 1) (v := 1) (by omega) (nI_add i 1)), e1, bs]
  rw [if_pos (show inb (nI i + 1) (σ1 98 0).toNatClampNeg = true from law_in hL hi g98 (j := 1) (v := 1) (by omega) (nI_add i 1))]
  dsimp only
  rw [e2, bs]
  rw [if_pos (rfl)]
  exact K σ2 a2 ⟨w2, c2, m2, fun k c hk hc => by rw [f2 44 (by omega)]; exact hd k c hk hc, (f2 99 (by omega)).trans h99, by rw [f2 98 (by omega)]; exact h98⟩
theorem law_6 {xx : Nat → Int32} {LL i : Nat} (hL : LL ≤ 3584) (hi : i + 7 ≤ LL) {σ : Sto} {a : Ab} (I : LawI σ xx LL a) (K : ∀ σ a, LawI σ xx LL a → ∃ σ', R nL_law 0 987 [.ref 99, .ref 0, .ref 30, .int (nI i)] [] σ = some (1, 0, σ')) : ∃ σ', R nL_law 0 174 [.ref 99, .ref 0, .ref 30, .int (nI i)] [] σ = some (1, 0, σ') := by
  obtain ⟨hw, hc, hm, hd, h99, h98⟩ := I
  obtain ⟨v, a2, σ1, σ2, w2, e1, e2, c2, m2, f1, f2⟩ := (s_asks hw (σ 99 (nI i + 1).toNatClampNeg) (σ 99 (nI i + 2).toNatClampNeg)).b hc hm
  have g98 : σ1 98 0 = nI LL := by rw [f1 98 (by omega)]; exact h98
  rw [← f1 99 (by omega)] at e2
  rw [eL_law_174 0, if_pos (law_in hL hi h98 (j := 1) (v := 1) (by omega) (nI_add i 1)), if_pos (law_in hL hi h98 (j := 2) (v := 2) (by omega) (nI_add i 2)), e1, bs]
  rw [if_pos (show inb (nI i + 1) (σ1 98 0).toNatClampNeg = true from law_in hL hi g98 (j := 1) (v := 1) (by omega) (nI_add i 1)), if_pos (show inb (nI i + 2) (σ1 98 0).toNatClampNeg = true from law_in hL hi g98 (j := 2) (v := 2) (by omega) (nI_add i 2))]
  dsimp only
  rw [e2, bs]
  rw [if_pos (rfl)]
  exact K σ2 a2 ⟨w2, c2, m2, fun k c hk hc => by rw [f2 44 (by omega)]; exact hd k c hk hc, (f2 99 (by omega)).trans h99, by rw [f2 98 (by omega)]; exact h98⟩
theorem law_7 {xx : Nat → Int32} {LL i : Nat} (hL : LL ≤ 3584) (hi : i + 7 ≤ LL) {σ : Sto} {a : Ab} (I : LawI σ xx LL a) (K : ∀ σ a, LawI σ xx LL a → ∃ σ', R nL_law 0 987 [.ref 99, .ref 0, .ref 30, .int (nI i)] [] σ = some (1, 0, σ')) : ∃ σ', R nL_law 0 201 [.ref 99, .ref 0, .ref 30, .int (nI i)] [] σ = some (1, 0, σ') := by
  obtain ⟨hw, hc, hm, hd, h99, h98⟩ := I
  obtain ⟨v, a2, σ1, σ2, w2, e1, e2, c2, m2, f1, f2⟩ := (s_traveller hw (σ 99 (nI i + 1).toNatClampNeg) (σ 99 (nI i + 2).toNatClampNeg)).b hc hm
  have g98 : σ1 98 0 = nI LL := by rw [f1 98 (by omega)]; exact h98
  rw [← f1 99 (by omega)] at e2
  rw [eL_law_201 0, if_pos (law_in hL hi h98 (j := 1) (v := 1) (by omega) (nI_add i 1)), if_pos (law_in hL hi h98 (j := 2) (v := 2) (by omega) (nI_add i 2)), e1, bs]
  rw [if_pos (show inb (nI i + 1) (σ1 98 0).toNatClampNeg = true from law_in hL hi g98 (j := 1) (v := 1) (by omega) (nI_add i 1)), if_pos (show inb (nI i + 2) (σ1 98 0).toNatClampNeg = true from law_in hL hi g98 (j := 2) (v := 2) (by omega) (nI_add i 2))]
  dsimp only
  rw [e2, bs]
  rw [if_pos (rfl)]
  exact K σ2 a2 ⟨w2, c2, m2, fun k c hk hc => by rw [f2 44 (by omega)]; exact hd k c hk hc, (f2 99 (by omega)).trans h99, by rw [f2 98 (by omega)]; exact h98⟩
theorem law_8 {xx : Nat → Int32} {LL i : Nat} (hL : LL ≤ 3584) (hi : i + 7 ≤ LL) {σ : Sto} {a : Ab} (I : LawI σ xx LL a) (K : ∀ σ a, LawI σ xx LL a → ∃ σ', R nL_law 0 987 [.ref 99, .ref 0, .ref 30, .int (nI i)] [] σ = some (1, 0, σ')) : ∃ σ', R nL_law 0 228 [.ref 99, .ref 0, .ref 30, .int (nI i)] [] σ = some (1, 0, σ') := by
  obtain ⟨hw, hc, hm, hd, h99, h98⟩ := I
  obtain ⟨v, a2, σ1, σ2, w2, e1, e2, c2, m2, f1, f2⟩ := (s_put hw (σ 99 (nI i + 1).toNatClampNeg) (σ 99 (nI i + 2).toNatClampNeg) (σ 99 (nI i + 3).toNatClampNeg)).b hc hm
  have g98 : σ1 98 0 = nI LL := by rw [f1 98 (by omega)]; exact h98
  rw [← f1 99 (by omega)] at e2
  rw [eL_law_228 0, if_pos (law_in hL hi h98 (j := 1) (v := 1) (by omega) (nI_add i 1)), if_pos (law_in hL hi h98 (j := 2) (v := 2) (by omega) (nI_add i 2)), if_pos (law_in hL hi h98 (j := 3) (v := 3) (by omega) (nI_add i 3)), e1, bs]
  rw [if_pos (show inb (nI i + 1) (σ1 98 0).toNatClampNeg = true from law_in hL hi g98 (j := 1) (v := 1) (by omega) (nI_add i 1)), if_pos (show inb (nI i + 2) (σ1 98 0).toNatClampNeg = true from law_in hL hi g98 (j := 2) (v := 2) (by omega) (nI_add i 2)), if_pos (show inb (nI i + 3) (σ1 98 0).toNatClampNeg = true from law_in hL hi g98 (j := 3) (v := 3) (by omega) (nI_add i 3))]
  dsimp only
  rw [e2, bs]
  rw [if_pos (rfl)]
  exact K σ2 a2 ⟨w2, c2, m2, fun k c hk hc => by rw [f2 44 (by omega)]; exact hd k c hk hc, (f2 99 (by omega)).trans h99, by rw [f2 98 (by omega)]; exact h98⟩
theorem law_9 {xx : Nat → Int32} {LL i : Nat} (hL : LL ≤ 3584) (hi : i + 7 ≤ LL) {σ : Sto} {a : Ab} (I : LawI σ xx LL a) (K : ∀ σ a, LawI σ xx LL a → ∃ σ', R nL_law 0 987 [.ref 99, .ref 0, .ref 30, .int (nI i)] [] σ = some (1, 0, σ')) : ∃ σ', R nL_law 0 265 [.ref 99, .ref 0, .ref 30, .int (nI i)] [] σ = some (1, 0, σ') := by
  obtain ⟨hw, hc, hm, hd, h99, h98⟩ := I
  obtain ⟨v, a2, σ1, σ2, w2, e1, e2, c2, m2, f1, f2⟩ := (s_told hw (σ 99 (nI i + 1).toNatClampNeg) (σ 99 (nI i + 2).toNatClampNeg)).b hc hm
  have g98 : σ1 98 0 = nI LL := by rw [f1 98 (by omega)]; exact h98
  rw [← f1 99 (by omega)] at e2
  rw [eL_law_265 0, if_pos (law_in hL hi h98 (j := 1) (v := 1) (by omega) (nI_add i 1)), if_pos (law_in hL hi h98 (j := 2) (v := 2) (by omega) (nI_add i 2)), e1, bs]
  rw [if_pos (show inb (nI i + 1) (σ1 98 0).toNatClampNeg = true from law_in hL hi g98 (j := 1) (v := 1) (by omega) (nI_add i 1)), if_pos (show inb (nI i + 2) (σ1 98 0).toNatClampNeg = true from law_in hL hi g98 (j := 2) (v := 2) (by omega) (nI_add i 2))]
  dsimp only
  rw [e2, bs]
  rw [if_pos (rfl)]
  exact K σ2 a2 ⟨w2, c2, m2, fun k c hk hc => by rw [f2 44 (by omega)]; exact hd k c hk hc, (f2 99 (by omega)).trans h99, by rw [f2 98 (by omega)]; exact h98⟩
theorem law_10 {xx : Nat → Int32} {LL i : Nat} (hL : LL ≤ 3584) (hi : i + 7 ≤ LL) {σ : Sto} {a : Ab} (I : LawI σ xx LL a) (K : ∀ σ a, LawI σ xx LL a → ∃ σ', R nL_law 0 987 [.ref 99, .ref 0, .ref 30, .int (nI i)] [] σ = some (1, 0, σ')) : ∃ σ', R nL_law 0 292 [.ref 99, .ref 0, .ref 30, .int (nI i)] [] σ = some (1, 0, σ') := by
  obtain ⟨hw, hc, hm, hd, h99, h98⟩ := I
  obtain ⟨v, a2, σ1, σ2, w2, e1, e2, c2, m2, f1, f2⟩ := (s_hour hw).b hc hm
  have g98 : σ1 98 0 = nI LL := by rw [f1 98 (by omega)]; exact h98
  rw [eL_law_292 0, e1, bs]
  dsimp only
  rw [e2, bs]
  rw [if_pos (rfl)]
  exact K σ2 a2 ⟨w2, c2, m2, fun k c hk hc => by rw [f2 44 (by omega)]; exact hd k c hk hc, (f2 99 (by omega)).trans h99, by rw [f2 98 (by omega)]; exact h98⟩
theorem law_11 {xx : Nat → Int32} {LL i : Nat} (hL : LL ≤ 3584) (hi : i + 7 ≤ LL) {σ : Sto} {a : Ab} (I : LawI σ xx LL a) (K : ∀ σ a, LawI σ xx LL a → ∃ σ', R nL_law 0 987 [.ref 99, .ref 0, .ref 30, .int (nI i)] [] σ = some (1, 0, σ')) : ∃ σ', R nL_law 0 299 [.ref 99, .ref 0, .ref 30, .int (nI i)] [] σ = some (1, 0, σ') := by
  obtain ⟨hw, hc, hm, hd, h99, h98⟩ := I
  obtain ⟨v, a2, σ1, σ2, w2, e1, e2, c2, m2, f1, f2⟩ := (s_walk hw (σ 99 (nI i + 1).toNatClampNeg) (σ 99 (nI i + 2).toNatClampNeg)).b hc hm
  have g98 : σ1 98 0 = nI LL := by rw [f1 98 (by omega)]; exact h98
  rw [← f1 99 (by omega)] at e2
  rw [eL_law_299 0, if_pos (law_in hL hi h98 (j := 1) (v := 1) (by omega) (nI_add i 1)), if_pos (law_in hL hi h98 (j := 2) (v := 2) (by omega) (nI_add i 2)), e1, bs]
  rw [if_pos (show inb (nI i + 1) (σ1 98 0).toNatClampNeg = true from law_in hL hi g98 (j := 1) (v := 1) (by omega) (nI_add i 1)), if_pos (show inb (nI i + 2) (σ1 98 0).toNatClampNeg = true from law_in hL hi g98 (j := 2) (v := 2) (by omega) (nI_add i 2))]
  dsimp only
  rw [e2, bs]
  rw [if_pos (rfl)]
  exact K σ2 a2 ⟨w2, c2, m2, fun k c hk hc => by rw [f2 44 (by omega)]; exact hd k c hk hc, (f2 99 (by omega)).trans h99, by rw [f2 98 (by omega)]; exact h98⟩
theorem law_12 {xx : Nat → Int32} {LL i : Nat} (hL : LL ≤ 3584) (hi : i + 7 ≤ LL) {σ : Sto} {a : Ab} (I : LawI σ xx LL a) (K : ∀ σ a, LawI σ xx LL a → ∃ σ', R nL_law 0 987 [.ref 99, .ref 0, .ref 30, .int (nI i)] [] σ = some (1, 0, σ')) : ∃ σ', R nL_law 0 326 [.ref 99, .ref 0, .ref 30, .int (nI i)] [] σ = some (1, 0, σ') := by
  obtain ⟨hw, hc, hm, hd, h99, h98⟩ := I
  obtain ⟨v, a2, σ1, σ2, w2, e1, e2, c2, m2, f1, f2⟩ := (s_run hw (σ 99 (nI i + 1).toNatClampNeg) (σ 99 (nI i + 2).toNatClampNeg)).b hc hm
  have g98 : σ1 98 0 = nI LL := by rw [f1 98 (by omega)]; exact h98
  rw [← f1 99 (by omega)] at e2
  rw [eL_law_326 0, if_pos (law_in hL hi h98 (j := 1) (v := 1) (by omega) (nI_add i 1)), if_pos (law_in hL hi h98 (j := 2) (v := 2) (by omega) (nI_add i 2)), e1, bs]
  rw [if_pos (show inb (nI i + 1) (σ1 98 0).toNatClampNeg = true from law_in hL hi g98 (j := 1) (v := 1) (by omega) (nI_add i 1)), if_pos (show inb (nI i + 2) (σ1 98 0).toNatClampNeg = true from law_in hL hi g98 (j := 2) (v := 2) (by omega) (nI_add i 2))]
  dsimp only
  rw [e2, bs]
  rw [if_pos (rfl)]
  exact K σ2 a2 ⟨w2, c2, m2, fun k c hk hc => by rw [f2 44 (by omega)]; exact hd k c hk hc, (f2 99 (by omega)).trans h99, by rw [f2 98 (by omega)]; exact h98⟩
theorem law_13 {xx : Nat → Int32} {LL i : Nat} (hL : LL ≤ 3584) (hi : i + 7 ≤ LL) {σ : Sto} {a : Ab} (I : LawI σ xx LL a) (K : ∀ σ a, LawI σ xx LL a → ∃ σ', R nL_law 0 987 [.ref 99, .ref 0, .ref 30, .int (nI i)] [] σ = some (1, 0, σ')) : ∃ σ', R nL_law 0 353 [.ref 99, .ref 0, .ref 30, .int (nI i)] [] σ = some (1, 0, σ') := by
  obtain ⟨hw, hc, hm, hd, h99, h98⟩ := I
  obtain ⟨v, a2, σ1, σ2, w2, e1, e2, c2, m2, f1, f2⟩ := (s_when hw (σ 99 (nI i + 1).toNatClampNeg) (σ 99 (nI i + 2).toNatClampNeg)).b hc hm
  have g98 : σ1 98 0 = nI LL := by rw [f1 98 (by omega)]; exact h98
  rw [← f1 99 (by omega)] at e2
  rw [eL_law_353 0, if_pos (law_in hL hi h98 (j := 1) (v := 1) (by omega) (nI_add i 1)), if_pos (law_in hL hi h98 (j := 2) (v := 2) (by omega) (nI_add i 2)), e1, bs]
  rw [if_pos (show inb (nI i + 1) (σ1 98 0).toNatClampNeg = true from law_in hL hi g98 (j := 1) (v := 1) (by omega) (nI_add i 1)), if_pos (show inb (nI i + 2) (σ1 98 0).toNatClampNeg = true from law_in hL hi g98 (j := 2) (v := 2) (by omega) (nI_add i 2))]
  dsimp only
  rw [e2, bs]
  rw [if_pos (rfl)]
  exact K σ2 a2 ⟨w2, c2, m2, fun k c hk hc => by rw [f2 44 (by omega)]; exact hd k c hk hc, (f2 99 (by omega)).trans h99, by rw [f2 98 (by omega)]; exact h98⟩
theorem law_14 {xx : Nat → Int32} {LL i : Nat} (hL : LL ≤ 3584) (hi : i + 7 ≤ LL) {σ : Sto} {a : Ab} (I : LawI σ xx LL a) (K : ∀ σ a, LawI σ xx LL a → ∃ σ', R nL_law 0 987 [.ref 99, .ref 0, .ref 30, .int (nI i)] [] σ = some (1, 0, σ')) : ∃ σ', R nL_law 0 380 [.ref 99, .ref 0, .ref 30, .int (nI i)] [] σ = some (1, 0, σ') := by
  obtain ⟨hw, hc, hm, hd, h99, h98⟩ := I
  obtain ⟨v, a2, σ1, σ2, w2, e1, e2, c2, m2, f1, f2⟩ := (s_hide hw (σ 99 (nI i + 1).toNatClampNeg) (σ 99 (nI i + 2).toNatClampNeg)).b hc hm
  have g98 : σ1 98 0 = nI LL := by rw [f1 98 (by omega)]; exact h98
  rw [← f1 99 (by omega)] at e2
  rw [eL_law_380 0, if_pos (law_in hL hi h98 (j := 1) (v := 1) (by omega) (nI_add i 1)), if_pos (law_in hL hi h98 (j := 2) (v := 2) (by omega) (nI_add i 2)), e1, bs]
  rw [if_pos (show inb (nI i + 1) (σ1 98 0).toNatClampNeg = true from law_in hL hi g98 (j := 1) (v := 1) (by omega) (nI_add i 1)), if_pos (show inb (nI i + 2) (σ1 98 0).toNatClampNeg = true from law_in hL hi g98 (j := 2) (v := 2) (by omega) (nI_add i 2))]
  dsimp only
  rw [e2, bs]
  rw [if_pos (rfl)]
  exact K σ2 a2 ⟨w2, c2, m2, fun k c hk hc => by rw [f2 44 (by omega)]; exact hd k c hk hc, (f2 99 (by omega)).trans h99, by rw [f2 98 (by omega)]; exact h98⟩
theorem law_15 {xx : Nat → Int32} {LL i : Nat} (hL : LL ≤ 3584) (hi : i + 7 ≤ LL) {σ : Sto} {a : Ab} (I : LawI σ xx LL a) (K : ∀ σ a, LawI σ xx LL a → ∃ σ', R nL_law 0 987 [.ref 99, .ref 0, .ref 30, .int (nI i)] [] σ = some (1, 0, σ')) : ∃ σ', R nL_law 0 407 [.ref 99, .ref 0, .ref 30, .int (nI i)] [] σ = some (1, 0, σ') := by
  obtain ⟨hw, hc, hm, hd, h99, h98⟩ := I
  obtain ⟨v, a2, σ1, σ2, w2, e1, e2, c2, m2, f1, f2⟩ := (s_stand hw (σ 99 (nI i + 1).toNatClampNeg) (σ 99 (nI i + 2).toNatClampNeg)).b hc hm
  have g98 : σ1 98 0 = nI LL := by rw [f1 98 (by omega)]; exact h98
  rw [← f1 99 (by omega)] at e2
  rw [eL_law_407 0, if_pos (law_in hL hi h98 (j := 1) (v := 1) (by omega) (nI_add i 1)), if_pos (law_in hL hi h98 (j := 2) (v := 2) (by omega) (nI_add i 2)), e1, bs]
  rw [if_pos (show inb (nI i + 1) (σ1 98 0).toNatClampNeg = true from law_in hL hi g98 (j := 1) (v := 1) (by omega) (nI_add i 1)), if_pos (show inb (nI i + 2) (σ1 98 0).toNatClampNeg = true from law_in hL hi g98 (j := 2) (v := 2) (by omega) (nI_add i 2))]
  dsimp only
  rw [e2, bs]
  rw [if_pos (rfl)]
  exact K σ2 a2 ⟨w2, c2, m2, fun k c hk hc => by rw [f2 44 (by omega)]; exact hd k c hk hc, (f2 99 (by omega)).trans h99, by rw [f2 98 (by omega)]; exact h98⟩
theorem law_16 {xx : Nat → Int32} {LL i : Nat} (hL : LL ≤ 3584) (hi : i + 7 ≤ LL) {σ : Sto} {a : Ab} (I : LawI σ xx LL a) (K : ∀ σ a, LawI σ xx LL a → ∃ σ', R nL_law 0 987 [.ref 99, .ref 0, .ref 30, .int (nI i)] [] σ = some (1, 0, σ')) : ∃ σ', R nL_law 0 434 [.ref 99, .ref 0, .ref 30, .int (nI i)] [] σ = some (1, 0, σ') := by
  obtain ⟨hw, hc, hm, hd, h99, h98⟩ := I
  obtain ⟨v, a2, σ1, σ2, w2, e1, e2, c2, m2, f1, f2⟩ := (s_apart hw (σ 99 (nI i + 1).toNatClampNeg) (σ 99 (nI i + 2).toNatClampNeg)).b hc hm
  have g98 : σ1 98 0 = nI LL := by rw [f1 98 (by omega)]; exact h98
  rw [← f1 99 (by omega)] at e2
  rw [eL_law_434 0, if_pos (law_in hL hi h98 (j := 1) (v := 1) (by omega) (nI_add i 1)), if_pos (law_in hL hi h98 (j := 2) (v := 2) (by omega) (nI_add i 2)), e1, bs]
  rw [if_pos (show inb (nI i + 1) (σ1 98 0).toNatClampNeg = true from law_in hL hi g98 (j := 1) (v := 1) (by omega) (nI_add i 1)), if_pos (show inb (nI i + 2) (σ1 98 0).toNatClampNeg = true from law_in hL hi g98 (j := 2) (v := 2) (by omega) (nI_add i 2))]
  dsimp only
  rw [e2, bs]
  rw [if_pos (rfl)]
  exact K σ2 a2 ⟨w2, c2, m2, fun k c hk hc => by rw [f2 44 (by omega)]; exact hd k c hk hc, (f2 99 (by omega)).trans h99, by rw [f2 98 (by omega)]; exact h98⟩
theorem law_17 {xx : Nat → Int32} {LL i : Nat} (hL : LL ≤ 3584) (hi : i + 7 ≤ LL) {σ : Sto} {a : Ab} (I : LawI σ xx LL a) (K : ∀ σ a, LawI σ xx LL a → ∃ σ', R nL_law 0 987 [.ref 99, .ref 0, .ref 30, .int (nI i)] [] σ = some (1, 0, σ')) : ∃ σ', R nL_law 0 461 [.ref 99, .ref 0, .ref 30, .int (nI i)] [] σ = some (1, 0, σ') := by
  obtain ⟨hw, hc, hm, hd, h99, h98⟩ := I
  obtain ⟨v, a2, σ1, σ2, w2, e1, e2, c2, m2, f1, f2⟩ := (s_breakwater hw (σ 99 (nI i + 1).toNatClampNeg)).b hc hm
  have g98 : σ1 98 0 = nI LL := by rw [f1 98 (by omega)]; exact h98
  rw [← f1 99 (by omega)] at e2
  rw [eL_law_461 0, if_pos (law_in hL hi h98 (j := 1) (v := 1) (by omega) (nI_add i 1)), e1, bs]
  rw [if_pos (show inb (nI i + 1) (σ1 98 0).toNatClampNeg = true from law_in hL hi g98 (j := 1) (v := 1) (by omega) (nI_add i 1))]
  dsimp only
  rw [e2, bs]
  rw [if_pos (rfl)]
  exact K σ2 a2 ⟨w2, c2, m2, fun k c hk hc => by rw [f2 44 (by omega)]; exact hd k c hk hc, (f2 99 (by omega)).trans h99, by rw [f2 98 (by omega)]; exact h98⟩
theorem law_18 {xx : Nat → Int32} {LL i : Nat} (hL : LL ≤ 3584) (hi : i + 7 ≤ LL) {σ : Sto} {a : Ab} (I : LawI σ xx LL a) (K : ∀ σ a, LawI σ xx LL a → ∃ σ', R nL_law 0 987 [.ref 99, .ref 0, .ref 30, .int (nI i)] [] σ = some (1, 0, σ')) : ∃ σ', R nL_law 0 478 [.ref 99, .ref 0, .ref 30, .int (nI i)] [] σ = some (1, 0, σ') := by
  obtain ⟨hw, hc, hm, hd, h99, h98⟩ := I
  obtain ⟨v, a2, σ1, σ2, w2, e1, e2, c2, m2, f1, f2⟩ := (s_gap hw (σ 99 (nI i + 1).toNatClampNeg)).b hc hm
  have g98 : σ1 98 0 = nI LL := by rw [f1 98 (by omega)]; exact h98
  rw [← f1 99 (by omega)] at e2
  rw [eL_law_478 0, if_pos (law_in hL hi h98 (j := 1) (v := 1) (by omega) (nI_add i 1)), e1, bs]
  rw [if_pos (show inb (nI i + 1) (σ1 98 0).toNatClampNeg = true from law_in hL hi g98 (j := 1) (v := 1) (by omega) (nI_add i 1))]
  dsimp only
  rw [e2, bs]
  rw [if_pos (rfl)]
  exact K σ2 a2 ⟨w2, c2, m2, fun k c hk hc => by rw [f2 44 (by omega)]; exact hd k c hk hc, (f2 99 (by omega)).trans h99, by rw [f2 98 (by omega)]; exact h98⟩
theorem law_19 {xx : Nat → Int32} {LL i : Nat} (hL : LL ≤ 3584) (hi : i + 7 ≤ LL) {σ : Sto} {a : Ab} (I : LawI σ xx LL a) (K : ∀ σ a, LawI σ xx LL a → ∃ σ', R nL_law 0 987 [.ref 99, .ref 0, .ref 30, .int (nI i)] [] σ = some (1, 0, σ')) : ∃ σ', R nL_law 0 495 [.ref 99, .ref 0, .ref 30, .int (nI i)] [] σ = some (1, 0, σ') := by
  obtain ⟨hw, hc, hm, hd, h99, h98⟩ := I
  obtain ⟨v, a2, σ1, σ2, w2, e1, e2, c2, m2, f1, f2⟩ := (s_middle hw (σ 99 (nI i + 1).toNatClampNeg)).b hc hm
  have g98 : σ1 98 0 = nI LL := by rw [f1 98 (by omega)]; exact h98
  rw [← f1 99 (by omega)] at e2
  rw [eL_law_495 0, if_pos (law_in hL hi h98 (j := 1) (v := 1) (by omega) (nI_add i 1)), e1, bs]
  rw [if_pos (show inb (nI i + 1) (σ1 98 0).toNatClampNeg = true from law_in hL hi g98 (j := 1) (v := 1) (by omega) (nI_add i 1))]
  dsimp only
  rw [e2, bs]
  rw [if_pos (lg_0.mpr rfl)]
  exact K σ2 a2 ⟨w2, c2, m2, fun k c hk hc => by rw [f2 44 (by omega)]; exact hd k c hk hc, (f2 99 (by omega)).trans h99, by rw [f2 98 (by omega)]; exact h98⟩
theorem law_20 {xx : Nat → Int32} {LL i : Nat} (hL : LL ≤ 3584) (hi : i + 7 ≤ LL) {σ : Sto} {a : Ab} (I : LawI σ xx LL a) (K : ∀ σ a, LawI σ xx LL a → ∃ σ', R nL_law 0 987 [.ref 99, .ref 0, .ref 30, .int (nI i)] [] σ = some (1, 0, σ')) : ∃ σ', R nL_law 0 513 [.ref 99, .ref 0, .ref 30, .int (nI i)] [] σ = some (1, 0, σ') := by
  obtain ⟨hw, hc, hm, hd, h99, h98⟩ := I
  obtain ⟨v, a2, σ1, σ2, w2, e1, e2, c2, m2, f1, f2⟩ := (s_judge hw (σ 99 (nI i + 1).toNatClampNeg)).b hc hm
  have g98 : σ1 98 0 = nI LL := by rw [f1 98 (by omega)]; exact h98
  rw [← f1 99 (by omega)] at e2
  rw [eL_law_513 0, if_pos (law_in hL hi h98 (j := 1) (v := 1) (by omega) (nI_add i 1)), e1, bs]
  rw [if_pos (show inb (nI i + 1) (σ1 98 0).toNatClampNeg = true from law_in hL hi g98 (j := 1) (v := 1) (by omega) (nI_add i 1))]
  dsimp only
  rw [e2, bs]
  rw [if_pos (rfl)]
  exact K σ2 a2 ⟨w2, c2, m2, fun k c hk hc => by rw [f2 44 (by omega)]; exact hd k c hk hc, (f2 99 (by omega)).trans h99, by rw [f2 98 (by omega)]; exact h98⟩
theorem law_21 {xx : Nat → Int32} {LL i : Nat} (hL : LL ≤ 3584) (hi : i + 7 ≤ LL) {σ : Sto} {a : Ab} (I : LawI σ xx LL a) (K : ∀ σ a, LawI σ xx LL a → ∃ σ', R nL_law 0 987 [.ref 99, .ref 0, .ref 30, .int (nI i)] [] σ = some (1, 0, σ')) : ∃ σ', R nL_law 0 530 [.ref 99, .ref 0, .ref 30, .int (nI i)] [] σ = some (1, 0, σ') := by
  obtain ⟨hw, hc, hm, hd, h99, h98⟩ := I
  obtain ⟨v, a2, σ1, σ2, w2, e1, e2, c2, m2, f1, f2⟩ := (s_kinds hw (σ 99 (nI i + 1).toNatClampNeg) (σ 99 (nI i + 2).toNatClampNeg) (σ 99 (nI i + 3).toNatClampNeg)).b hc hm
  have g98 : σ1 98 0 = nI LL := by rw [f1 98 (by omega)]; exact h98
  rw [← f1 99 (by omega)] at e2
  rw [eL_law_530 0, if_pos (law_in hL hi h98 (j := 1) (v := 1) (by omega) (nI_add i 1)), if_pos (law_in hL hi h98 (j := 2) (v := 2) (by omega) (nI_add i 2)), if_pos (law_in hL hi h98 (j := 3) (v := 3) (by omega) (nI_add i 3)), e1, bs]
  rw [if_pos (show inb (nI i + 1) (σ1 98 0).toNatClampNeg = true from law_in hL hi g98 (j := 1) (v := 1) (by omega) (nI_add i 1)), if_pos (show inb (nI i + 2) (σ1 98 0).toNatClampNeg = true from law_in hL hi g98 (j := 2) (v := 2) (by omega) (nI_add i 2)), if_pos (show inb (nI i + 3) (σ1 98 0).toNatClampNeg = true from law_in hL hi g98 (j := 3) (v := 3) (by omega) (nI_add i 3))]
  dsimp only
  rw [e2, bs]
  rw [if_pos (rfl)]
  exact K σ2 a2 ⟨w2, c2, m2, fun k c hk hc => by rw [f2 44 (by omega)]; exact hd k c hk hc, (f2 99 (by omega)).trans h99, by rw [f2 98 (by omega)]; exact h98⟩
theorem law_22 {xx : Nat → Int32} {LL i : Nat} (hL : LL ≤ 3584) (hi : i + 7 ≤ LL) {σ : Sto} {a : Ab} (I : LawI σ xx LL a) (K : ∀ σ a, LawI σ xx LL a → ∃ σ', R nL_law 0 987 [.ref 99, .ref 0, .ref 30, .int (nI i)] [] σ = some (1, 0, σ')) : ∃ σ', R nL_law 0 567 [.ref 99, .ref 0, .ref 30, .int (nI i)] [] σ = some (1, 0, σ') := by
  obtain ⟨hw, hc, hm, hd, h99, h98⟩ := I
  obtain ⟨v, a2, σ1, σ2, w2, e1, e2, c2, m2, f1, f2⟩ := (s_places hw (σ 99 (nI i + 1).toNatClampNeg) (σ 99 (nI i + 2).toNatClampNeg)).b hc hm
  have g98 : σ1 98 0 = nI LL := by rw [f1 98 (by omega)]; exact h98
  rw [← f1 99 (by omega)] at e2
  rw [eL_law_567 0, if_pos (law_in hL hi h98 (j := 1) (v := 1) (by omega) (nI_add i 1)), if_pos (law_in hL hi h98 (j := 2) (v := 2) (by omega) (nI_add i 2)), e1, bs]
  rw [if_pos (show inb (nI i + 1) (σ1 98 0).toNatClampNeg = true from law_in hL hi g98 (j := 1) (v := 1) (by omega) (nI_add i 1)), if_pos (show inb (nI i + 2) (σ1 98 0).toNatClampNeg = true from law_in hL hi g98 (j := 2) (v := 2) (by omega) (nI_add i 2))]
  dsimp only
  rw [e2, bs]
  rw [if_pos (lg_0.mpr rfl)]
  exact K σ2 a2 ⟨w2, c2, m2, fun k c hk hc => by rw [f2 44 (by omega)]; exact hd k c hk hc, (f2 99 (by omega)).trans h99, by rw [f2 98 (by omega)]; exact h98⟩
theorem law_23 {xx : Nat → Int32} {LL i : Nat} (hL : LL ≤ 3584) (hi : i + 7 ≤ LL) {σ : Sto} {a : Ab} (I : LawI σ xx LL a) (K : ∀ σ a, LawI σ xx LL a → ∃ σ', R nL_law 0 987 [.ref 99, .ref 0, .ref 30, .int (nI i)] [] σ = some (1, 0, σ')) : ∃ σ', R nL_law 0 595 [.ref 99, .ref 0, .ref 30, .int (nI i)] [] σ = some (1, 0, σ') := by
  obtain ⟨hw, hc, hm, hd, h99, h98⟩ := I
  obtain ⟨v, a2, σ1, σ2, w2, e1, e2, c2, m2, f1, f2⟩ := (s_turned hw (σ 99 (nI i + 1).toNatClampNeg)).b hc hm
  have g98 : σ1 98 0 = nI LL := by rw [f1 98 (by omega)]; exact h98
  rw [← f1 99 (by omega)] at e2
  rw [eL_law_595 0, if_pos (law_in hL hi h98 (j := 1) (v := 1) (by omega) (nI_add i 1)), e1, bs]
  rw [if_pos (show inb (nI i + 1) (σ1 98 0).toNatClampNeg = true from law_in hL hi g98 (j := 1) (v := 1) (by omega) (nI_add i 1))]
  dsimp only
  rw [e2, bs]
  rw [if_pos (rfl)]
  exact K σ2 a2 ⟨w2, c2, m2, fun k c hk hc => by rw [f2 44 (by omega)]; exact hd k c hk hc, (f2 99 (by omega)).trans h99, by rw [f2 98 (by omega)]; exact h98⟩
theorem law_24 {xx : Nat → Int32} {LL i : Nat} (hL : LL ≤ 3584) (hi : i + 7 ≤ LL) {σ : Sto} {a : Ab} (I : LawI σ xx LL a) (K : ∀ σ a, LawI σ xx LL a → ∃ σ', R nL_law 0 987 [.ref 99, .ref 0, .ref 30, .int (nI i)] [] σ = some (1, 0, σ')) : ∃ σ', R nL_law 0 612 [.ref 99, .ref 0, .ref 30, .int (nI i)] [] σ = some (1, 0, σ') := by
  obtain ⟨hw, hc, hm, hd, h99, h98⟩ := I
  obtain ⟨v, a2, σ1, σ2, w2, e1, e2, c2, m2, f1, f2⟩ := (s_waits hw (σ 99 (nI i + 1).toNatClampNeg) (σ 99 (nI i + 2).toNatClampNeg) (σ 99 (nI i + 3).toNatClampNeg)).b hc hm
  have g98 : σ1 98 0 = nI LL := by rw [f1 98 (by omega)]; exact h98
  rw [← f1 99 (by omega)] at e2
  rw [eL_law_612 0, if_pos (law_in hL hi h98 (j := 1) (v := 1) (by omega) (nI_add i 1)), if_pos (law_in hL hi h98 (j := 2) (v := 2) (by omega) (nI_add i 2)), if_pos (law_in hL hi h98 (j := 3) (v := 3) (by omega) (nI_add i 3)), e1, bs]
  rw [if_pos (show inb (nI i + 1) (σ1 98 0).toNatClampNeg = true from law_in hL hi g98 (j := 1) (v := 1) (by omega) (nI_add i 1)), if_pos (show inb (nI i + 2) (σ1 98 0).toNatClampNeg = true from law_in hL hi g98 (j := 2) (v := 2) (by omega) (nI_add i 2)), if_pos (show inb (nI i + 3) (σ1 98 0).toNatClampNeg = true from law_in hL hi g98 (j := 3) (v := 3) (by omega) (nI_add i 3))]
  dsimp only
  rw [e2, bs]
  rw [if_pos (rfl)]
  exact K σ2 a2 ⟨w2, c2, m2, fun k c hk hc => by rw [f2 44 (by omega)]; exact hd k c hk hc, (f2 99 (by omega)).trans h99, by rw [f2 98 (by omega)]; exact h98⟩
theorem law_25 {xx : Nat → Int32} {LL i : Nat} (hL : LL ≤ 3584) (hi : i + 7 ≤ LL) {σ : Sto} {a : Ab} (I : LawI σ xx LL a) (K : ∀ σ a, LawI σ xx LL a → ∃ σ', R nL_law 0 987 [.ref 99, .ref 0, .ref 30, .int (nI i)] [] σ = some (1, 0, σ')) : ∃ σ', R nL_law 0 649 [.ref 99, .ref 0, .ref 30, .int (nI i)] [] σ = some (1, 0, σ') := by
  obtain ⟨hw, hc, hm, hd, h99, h98⟩ := I
  obtain ⟨v, a2, σ1, σ2, w2, e1, e2, c2, m2, f1, f2⟩ := (s_laws hw (σ 99 (nI i + 1).toNatClampNeg)).b hc hm
  have g98 : σ1 98 0 = nI LL := by rw [f1 98 (by omega)]; exact h98
  rw [← f1 99 (by omega)] at e2
  rw [eL_law_649 0, if_pos (law_in hL hi h98 (j := 1) (v := 1) (by omega) (nI_add i 1)), e1, bs]
  rw [if_pos (show inb (nI i + 1) (σ1 98 0).toNatClampNeg = true from law_in hL hi g98 (j := 1) (v := 1) (by omega) (nI_add i 1))]
  dsimp only
  rw [e2, bs]
  rw [if_pos (rfl)]
  exact K σ2 a2 ⟨w2, c2, m2, fun k c hk hc => by rw [f2 44 (by omega)]; exact hd k c hk hc, (f2 99 (by omega)).trans h99, by rw [f2 98 (by omega)]; exact h98⟩
theorem law_26 {xx : Nat → Int32} {LL i : Nat} (hL : LL ≤ 3584) (hi : i + 7 ≤ LL) {σ : Sto} {a : Ab} (I : LawI σ xx LL a) (K : ∀ σ a, LawI σ xx LL a → ∃ σ', R nL_law 0 987 [.ref 99, .ref 0, .ref 30, .int (nI i)] [] σ = some (1, 0, σ')) : ∃ σ', R nL_law 0 666 [.ref 99, .ref 0, .ref 30, .int (nI i)] [] σ = some (1, 0, σ') := by
  obtain ⟨hw, hc, hm, hd, h99, h98⟩ := I
  obtain ⟨v, a2, σ1, σ2, w2, e1, e2, c2, m2, f1, f2⟩ := (s_film hw (σ 99 (nI i + 1).toNatClampNeg) (σ 99 (nI i + 2).toNatClampNeg)).b hc hm
  have g98 : σ1 98 0 = nI LL := by rw [f1 98 (by omega)]; exact h98
  rw [← f1 99 (by omega)] at e2
  rw [eL_law_666 0, if_pos (law_in hL hi h98 (j := 1) (v := 1) (by omega) (nI_add i 1)), if_pos (law_in hL hi h98 (j := 2) (v := 2) (by omega) (nI_add i 2)), e1, bs]
  rw [if_pos (show inb (nI i + 1) (σ1 98 0).toNatClampNeg = true from law_in hL hi g98 (j := 1) (v := 1) (by omega) (nI_add i 1)), if_pos (show inb (nI i + 2) (σ1 98 0).toNatClampNeg = true from law_in hL hi g98 (j := 2) (v := 2) (by omega) (nI_add i 2))]
  dsimp only
  rw [e2, bs]
  rw [if_pos (rfl)]
  exact K σ2 a2 ⟨w2, c2, m2, fun k c hk hc => by rw [f2 44 (by omega)]; exact hd k c hk hc, (f2 99 (by omega)).trans h99, by rw [f2 98 (by omega)]; exact h98⟩
theorem law_27 {xx : Nat → Int32} {LL i : Nat} (hL : LL ≤ 3584) (hi : i + 7 ≤ LL) {σ : Sto} {a : Ab} (I : LawI σ xx LL a) (K : ∀ σ a, LawI σ xx LL a → ∃ σ', R nL_law 0 987 [.ref 99, .ref 0, .ref 30, .int (nI i)] [] σ = some (1, 0, σ')) : ∃ σ', R nL_law 0 693 [.ref 99, .ref 0, .ref 30, .int (nI i)] [] σ = some (1, 0, σ') := by
  obtain ⟨hw, hc, hm, hd, h99, h98⟩ := I
  obtain ⟨v, a2, σ1, σ2, w2, e1, e2, c2, m2, f1, f2⟩ := (s_drawn hw (σ 99 (nI i + 1).toNatClampNeg) (σ 99 (nI i + 2).toNatClampNeg)).b hc hm
  have g98 : σ1 98 0 = nI LL := by rw [f1 98 (by omega)]; exact h98
  rw [← f1 99 (by omega)] at e2
  rw [eL_law_693 0, if_pos (law_in hL hi h98 (j := 1) (v := 1) (by omega) (nI_add i 1)), if_pos (law_in hL hi h98 (j := 2) (v := 2) (by omega) (nI_add i 2)), e1, bs]
  rw [if_pos (show inb (nI i + 1) (σ1 98 0).toNatClampNeg = true from law_in hL hi g98 (j := 1) (v := 1) (by omega) (nI_add i 1)), if_pos (show inb (nI i + 2) (σ1 98 0).toNatClampNeg = true from law_in hL hi g98 (j := 2) (v := 2) (by omega) (nI_add i 2))]
  dsimp only
  rw [e2, bs]
  rw [if_pos (rfl)]
  exact K σ2 a2 ⟨w2, c2, m2, fun k c hk hc => by rw [f2 44 (by omega)]; exact hd k c hk hc, (f2 99 (by omega)).trans h99, by rw [f2 98 (by omega)]; exact h98⟩
theorem law_28 {xx : Nat → Int32} {LL i : Nat} (hL : LL ≤ 3584) (hi : i + 7 ≤ LL) {σ : Sto} {a : Ab} (I : LawI σ xx LL a) (K : ∀ σ a, LawI σ xx LL a → ∃ σ', R nL_law 0 987 [.ref 99, .ref 0, .ref 30, .int (nI i)] [] σ = some (1, 0, σ')) : ∃ σ', R nL_law 0 720 [.ref 99, .ref 0, .ref 30, .int (nI i)] [] σ = some (1, 0, σ') := by
  obtain ⟨hw, hc, hm, hd, h99, h98⟩ := I
  obtain ⟨v, a2, σ1, σ2, w2, e1, e2, c2, m2, f1, f2⟩ := (s_odds hw (σ 99 (nI i + 1).toNatClampNeg) (σ 99 (nI i + 2).toNatClampNeg) (σ 99 (nI i + 3).toNatClampNeg) (σ 99 (nI i + 4).toNatClampNeg)).b hc hm
  have g98 : σ1 98 0 = nI LL := by rw [f1 98 (by omega)]; exact h98
  rw [← f1 99 (by omega)] at e2
  rw [eL_law_720 0, if_pos (law_in hL hi h98 (j := 1) (v := 1) (by omega) (nI_add i 1)), if_pos (law_in hL hi h98 (j := 2) (v := 2) (by omega) (nI_add i 2)), if_pos (law_in hL hi h98 (j := 3) (v := 3) (by omega) (nI_add i 3)), if_pos (law_in hL hi h98 (j := 4) (v := 4) (by omega) (nI_add i 4)), e1, bs]
  rw [if_pos (show inb (nI i + 1) (σ1 98 0).toNatClampNeg = true from law_in hL hi g98 (j := 1) (v := 1) (by omega) (nI_add i 1)), if_pos (show inb (nI i + 2) (σ1 98 0).toNatClampNeg = true from law_in hL hi g98 (j := 2) (v := 2) (by omega) (nI_add i 2)), if_pos (show inb (nI i + 3) (σ1 98 0).toNatClampNeg = true from law_in hL hi g98 (j := 3) (v := 3) (by omega) (nI_add i 3)), if_pos (show inb (nI i + 4) (σ1 98 0).toNatClampNeg = true from law_in hL hi g98 (j := 4) (v := 4) (by omega) (nI_add i 4))]
  dsimp only
  rw [e2, bs]
  rw [if_pos (lg_0.mpr rfl)]
  exact K σ2 a2 ⟨w2, c2, m2, fun k c hk hc => by rw [f2 44 (by omega)]; exact hd k c hk hc, (f2 99 (by omega)).trans h99, by rw [f2 98 (by omega)]; exact h98⟩
theorem law_29 {xx : Nat → Int32} {LL i : Nat} (hL : LL ≤ 3584) (hi : i + 7 ≤ LL) {σ : Sto} {a : Ab} (I : LawI σ xx LL a) (K : ∀ σ a, LawI σ xx LL a → ∃ σ', R nL_law 0 987 [.ref 99, .ref 0, .ref 30, .int (nI i)] [] σ = some (1, 0, σ')) : ∃ σ', R nL_law 0 768 [.ref 99, .ref 0, .ref 30, .int (nI i)] [] σ = some (1, 0, σ') := by
  obtain ⟨hw, hc, hm, hd, h99, h98⟩ := I
  obtain ⟨v, a2, σ1, σ2, w2, e1, e2, c2, m2, f1, f2⟩ := (s_image hw).b hc hm
  have g98 : σ1 98 0 = nI LL := by rw [f1 98 (by omega)]; exact h98
  rw [eL_law_768 0, e1, bs]
  dsimp only
  rw [e2, bs]
  rw [if_pos (rfl)]
  exact K σ2 a2 ⟨w2, c2, m2, fun k c hk hc => by rw [f2 44 (by omega)]; exact hd k c hk hc, (f2 99 (by omega)).trans h99, by rw [f2 98 (by omega)]; exact h98⟩
theorem law_30 {xx : Nat → Int32} {LL i : Nat} (hL : LL ≤ 3584) (hi : i + 7 ≤ LL) {σ : Sto} {a : Ab} (I : LawI σ xx LL a) (K : ∀ σ a, LawI σ xx LL a → ∃ σ', R nL_law 0 987 [.ref 99, .ref 0, .ref 30, .int (nI i)] [] σ = some (1, 0, σ')) : ∃ σ', R nL_law 0 775 [.ref 99, .ref 0, .ref 30, .int (nI i)] [] σ = some (1, 0, σ') := by
  obtain ⟨hw, hc, hm, hd, h99, h98⟩ := I
  obtain ⟨v, a2, σ1, σ2, w2, e1, e2, c2, m2, f1, f2⟩ := (s_back hw).b hc hm
  have g98 : σ1 98 0 = nI LL := by rw [f1 98 (by omega)]; exact h98
  rw [eL_law_775 0, e1, bs]
  dsimp only
  rw [e2, bs]
  rw [if_pos (rfl)]
  exact K σ2 a2 ⟨w2, c2, m2, fun k c hk hc => by rw [f2 44 (by omega)]; exact hd k c hk hc, (f2 99 (by omega)).trans h99, by rw [f2 98 (by omega)]; exact h98⟩
theorem law_31 {xx : Nat → Int32} {LL i : Nat} (hL : LL ≤ 3584) (hi : i + 7 ≤ LL) {σ : Sto} {a : Ab} (I : LawI σ xx LL a) (K : ∀ σ a, LawI σ xx LL a → ∃ σ', R nL_law 0 987 [.ref 99, .ref 0, .ref 30, .int (nI i)] [] σ = some (1, 0, σ')) : ∃ σ', R nL_law 0 782 [.ref 99, .ref 0, .ref 30, .int (nI i)] [] σ = some (1, 0, σ') := by
  obtain ⟨hw, hc, hm, hd, h99, h98⟩ := I
  obtain ⟨v, a2, σ1, σ2, w2, e1, e2, c2, m2, f1, f2⟩ := (s_sheet hw (σ 99 (nI i + 1).toNatClampNeg) (σ 99 (nI i + 2).toNatClampNeg) (σ 99 (nI i + 3).toNatClampNeg)).b hc hm
  have g98 : σ1 98 0 = nI LL := by rw [f1 98 (by omega)]; exact h98
  rw [← f1 99 (by omega)] at e2
  rw [eL_law_782 0, if_pos (law_in hL hi h98 (j := 1) (v := 1) (by omega) (nI_add i 1)), if_pos (law_in hL hi h98 (j := 2) (v := 2) (by omega) (nI_add i 2)), if_pos (law_in hL hi h98 (j := 3) (v := 3) (by omega) (nI_add i 3)), e1, bs]
  rw [if_pos (show inb (nI i + 1) (σ1 98 0).toNatClampNeg = true from law_in hL hi g98 (j := 1) (v := 1) (by omega) (nI_add i 1)), if_pos (show inb (nI i + 2) (σ1 98 0).toNatClampNeg = true from law_in hL hi g98 (j := 2) (v := 2) (by omega) (nI_add i 2)), if_pos (show inb (nI i + 3) (σ1 98 0).toNatClampNeg = true from law_in hL hi g98 (j := 3) (v := 3) (by omega) (nI_add i 3))]
  dsimp only
  rw [e2, bs]
  rw [if_pos (rfl)]
  exact K σ2 a2 ⟨w2, c2, m2, fun k c hk hc => by rw [f2 44 (by omega)]; exact hd k c hk hc, (f2 99 (by omega)).trans h99, by rw [f2 98 (by omega)]; exact h98⟩
theorem law_32 {xx : Nat → Int32} {LL i : Nat} (hL : LL ≤ 3584) (hi : i + 7 ≤ LL) {σ : Sto} {a : Ab} (I : LawI σ xx LL a) (K : ∀ σ a, LawI σ xx LL a → ∃ σ', R nL_law 0 987 [.ref 99, .ref 0, .ref 30, .int (nI i)] [] σ = some (1, 0, σ')) : ∃ σ', R nL_law 0 819 [.ref 99, .ref 0, .ref 30, .int (nI i)] [] σ = some (1, 0, σ') := by
  obtain ⟨hw, hc, hm, hd, h99, h98⟩ := I
  obtain ⟨v, a2, σ1, σ2, w2, e1, e2, c2, m2, f1, f2⟩ := (s_cell hw (σ 99 (nI i + 1).toNatClampNeg) (σ 99 (nI i + 2).toNatClampNeg) (σ 99 (nI i + 3).toNatClampNeg)).b hc hm
  have g98 : σ1 98 0 = nI LL := by rw [f1 98 (by omega)]; exact h98
  rw [← f1 99 (by omega)] at e2
  rw [eL_law_819 0, if_pos (law_in hL hi h98 (j := 1) (v := 1) (by omega) (nI_add i 1)), if_pos (law_in hL hi h98 (j := 2) (v := 2) (by omega) (nI_add i 2)), if_pos (law_in hL hi h98 (j := 3) (v := 3) (by omega) (nI_add i 3)), e1, bs]
  rw [if_pos (show inb (nI i + 1) (σ1 98 0).toNatClampNeg = true from law_in hL hi g98 (j := 1) (v := 1) (by omega) (nI_add i 1)), if_pos (show inb (nI i + 2) (σ1 98 0).toNatClampNeg = true from law_in hL hi g98 (j := 2) (v := 2) (by omega) (nI_add i 2)), if_pos (show inb (nI i + 3) (σ1 98 0).toNatClampNeg = true from law_in hL hi g98 (j := 3) (v := 3) (by omega) (nI_add i 3))]
  dsimp only
  rw [e2, bs]
  rw [if_pos (rfl)]
  exact K σ2 a2 ⟨w2, c2, m2, fun k c hk hc => by rw [f2 44 (by omega)]; exact hd k c hk hc, (f2 99 (by omega)).trans h99, by rw [f2 98 (by omega)]; exact h98⟩
theorem law_33 {xx : Nat → Int32} {LL i : Nat} (hL : LL ≤ 3584) (hi : i + 7 ≤ LL) {σ : Sto} {a : Ab} (I : LawI σ xx LL a) (K : ∀ σ a, LawI σ xx LL a → ∃ σ', R nL_law 0 987 [.ref 99, .ref 0, .ref 30, .int (nI i)] [] σ = some (1, 0, σ')) : ∃ σ', R nL_law 0 856 [.ref 99, .ref 0, .ref 30, .int (nI i)] [] σ = some (1, 0, σ') := by
  obtain ⟨hw, hc, hm, hd, h99, h98⟩ := I
  obtain ⟨v, a2, σ1, σ2, w2, e1, e2, c2, m2, f1, f2⟩ := (s_copy hw (σ 99 (nI i + 1).toNatClampNeg) (σ 99 (nI i + 2).toNatClampNeg) (σ 99 (nI i + 3).toNatClampNeg) (σ 99 (nI i + 4).toNatClampNeg) (σ 99 (nI i + 5).toNatClampNeg)).b hc hm
  have g98 : σ1 98 0 = nI LL := by rw [f1 98 (by omega)]; exact h98
  rw [← f1 99 (by omega)] at e2
  rw [eL_law_856 0, if_pos (law_in hL hi h98 (j := 1) (v := 1) (by omega) (nI_add i 1)), if_pos (law_in hL hi h98 (j := 2) (v := 2) (by omega) (nI_add i 2)), if_pos (law_in hL hi h98 (j := 3) (v := 3) (by omega) (nI_add i 3)), if_pos (law_in hL hi h98 (j := 4) (v := 4) (by omega) (nI_add i 4)), if_pos (law_in hL hi h98 (j := 5) (v := 5) (by omega) (nI_add i 5)), e1, bs]
  rw [if_pos (show inb (nI i + 1) (σ1 98 0).toNatClampNeg = true from law_in hL hi g98 (j := 1) (v := 1) (by omega) (nI_add i 1)), if_pos (show inb (nI i + 2) (σ1 98 0).toNatClampNeg = true from law_in hL hi g98 (j := 2) (v := 2) (by omega) (nI_add i 2)), if_pos (show inb (nI i + 3) (σ1 98 0).toNatClampNeg = true from law_in hL hi g98 (j := 3) (v := 3) (by omega) (nI_add i 3)), if_pos (show inb (nI i + 4) (σ1 98 0).toNatClampNeg = true from law_in hL hi g98 (j := 4) (v := 4) (by omega) (nI_add i 4)), if_pos (show inb (nI i + 5) (σ1 98 0).toNatClampNeg = true from law_in hL hi g98 (j := 5) (v := 5) (by omega) (nI_add i 5))]
  dsimp only
  rw [e2, bs]
  rw [if_pos (rfl)]
  exact K σ2 a2 ⟨w2, c2, m2, fun k c hk hc => by rw [f2 44 (by omega)]; exact hd k c hk hc, (f2 99 (by omega)).trans h99, by rw [f2 98 (by omega)]; exact h98⟩
theorem law_34 {xx : Nat → Int32} {LL i : Nat} (hL : LL ≤ 3584) (hi : i + 7 ≤ LL) {σ : Sto} {a : Ab} (I : LawI σ xx LL a) (K : ∀ σ a, LawI σ xx LL a → ∃ σ', R nL_law 0 987 [.ref 99, .ref 0, .ref 30, .int (nI i)] [] σ = some (1, 0, σ')) : ∃ σ', R nL_law 0 913 [.ref 99, .ref 0, .ref 30, .int (nI i)] [] σ = some (1, 0, σ') := by
  obtain ⟨hw, hc, hm, hd, h99, h98⟩ := I
  obtain ⟨v, a2, σ1, σ2, w2, e1, e2, c2, m2, f1, f2⟩ := (s_peopleBy hw (σ 99 (nI i + 1).toNatClampNeg) (σ 99 (nI i + 2).toNatClampNeg) (σ 99 (nI i + 3).toNatClampNeg) (σ 99 (nI i + 4).toNatClampNeg)).b hc hm
  have g98 : σ1 98 0 = nI LL := by rw [f1 98 (by omega)]; exact h98
  rw [← f1 99 (by omega)] at e2
  rw [eL_law_913 0, if_pos (law_in hL hi h98 (j := 1) (v := 1) (by omega) (nI_add i 1)), if_pos (law_in hL hi h98 (j := 2) (v := 2) (by omega) (nI_add i 2)), if_pos (law_in hL hi h98 (j := 3) (v := 3) (by omega) (nI_add i 3)), if_pos (law_in hL hi h98 (j := 4) (v := 4) (by omega) (nI_add i 4)), e1, bs]
  rw [if_pos (show inb (nI i + 1) (σ1 98 0).toNatClampNeg = true from law_in hL hi g98 (j := 1) (v := 1) (by omega) (nI_add i 1)), if_pos (show inb (nI i + 2) (σ1 98 0).toNatClampNeg = true from law_in hL hi g98 (j := 2) (v := 2) (by omega) (nI_add i 2)), if_pos (show inb (nI i + 3) (σ1 98 0).toNatClampNeg = true from law_in hL hi g98 (j := 3) (v := 3) (by omega) (nI_add i 3)), if_pos (show inb (nI i + 4) (σ1 98 0).toNatClampNeg = true from law_in hL hi g98 (j := 4) (v := 4) (by omega) (nI_add i 4))]
  dsimp only
  rw [e2, bs]
  rw [if_pos (rfl)]
  exact K σ2 a2 ⟨w2, c2, m2, fun k c hk hc => by rw [f2 44 (by omega)]; exact hd k c hk hc, (f2 99 (by omega)).trans h99, by rw [f2 98 (by omega)]; exact h98⟩
theorem law_35 {xx : Nat → Int32} {LL i : Nat} (hL : LL ≤ 3584) (hi : i + 7 ≤ LL) {σ : Sto} {a : Ab} (I : LawI σ xx LL a) (K : ∀ σ a, LawI σ xx LL a → ∃ σ', R nL_law 0 987 [.ref 99, .ref 0, .ref 30, .int (nI i)] [] σ = some (1, 0, σ')) : ∃ σ', R nL_law 0 960 [.ref 99, .ref 0, .ref 30, .int (nI i)] [] σ = some (1, 0, σ') := by
  obtain ⟨hw, hc, hm, hd, h99, h98⟩ := I
  obtain ⟨v, a2, σ1, σ2, w2, e1, e2, c2, m2, f1, f2⟩ := (s_taken hw (σ 99 (nI i + 1).toNatClampNeg) (σ 99 (nI i + 2).toNatClampNeg)).b hc hm
  have g98 : σ1 98 0 = nI LL := by rw [f1 98 (by omega)]; exact h98
  rw [← f1 99 (by omega)] at e2
  rw [eL_law_960 0, if_pos (law_in hL hi h98 (j := 1) (v := 1) (by omega) (nI_add i 1)), if_pos (law_in hL hi h98 (j := 2) (v := 2) (by omega) (nI_add i 2)), e1, bs]
  rw [if_pos (show inb (nI i + 1) (σ1 98 0).toNatClampNeg = true from law_in hL hi g98 (j := 1) (v := 1) (by omega) (nI_add i 1)), if_pos (show inb (nI i + 2) (σ1 98 0).toNatClampNeg = true from law_in hL hi g98 (j := 2) (v := 2) (by omega) (nI_add i 2))]
  dsimp only
  rw [e2, bs]
  rw [if_pos (rfl)]
  exact K σ2 a2 ⟨w2, c2, m2, fun k c hk hc => by rw [f2 44 (by omega)]; exact hd k c hk hc, (f2 99 (by omega)).trans h99, by rw [f2 98 (by omega)]; exact h98⟩
set_option maxRecDepth 100000 in
theorem law_loop {xx : Nat → Int32} {LL : Nat} (hL : LL ≤ 3584) : ∀ d i σ a, LL < i + d → LawI σ xx LL a → i ≤ 4000 → ∃ σ', R nL_law 0 10 [.ref 99, .ref 0, .ref 30, .int (nI i)] [] σ = some (1, 0, σ') := by
  intro d
  have e7 : (7 : Int32).toInt = 7 := by decide
  have em : (nI LL - 7).toInt = (LL : Int) - 7 := by rw [i_sub (by rw [nI_toInt (by omega), e7]; omega) (by rw [nI_toInt (by omega), e7]; omega), nI_toInt (by omega), e7]
  have fin : ∀ i σ, σ 98 0 = nI LL → LL < i + 7 → i ≤ 4000 → ∃ σ', R nL_law 0 10 [.ref 99, .ref 0, .ref 30, .int (nI i)] [] σ = some (1, 0, σ') := by
    intro i σ h hi h4
    rw [eL_law_10 0, if_pos (show σ 98 0 - 7 < nI i from by rw [h, i_lt, em, nI_toInt (by omega)]; omega)]
    exact ⟨σ, rfl⟩
  induction d with
  | zero => intro i σ a hd I h4; exact fin i σ I.2.2.2.2.2 (by omega) h4
  | succ d ih =>
    intro i σ a hd I h4
    by_cases hi : LL < i + 7
    · exact fin i σ I.2.2.2.2.2 hi h4
    have hi : i + 7 ≤ LL := by omega
    have K : ∀ σ a, LawI σ xx LL a → ∃ σ', R nL_law 0 987 [.ref 99, .ref 0, .ref 30, .int (nI i)] [] σ = some (1, 0, σ') := by
      intro σ a I
      rw [eL_law_987 0, show nI i + 7 = nI (i + 7) from nI_add i 7]
      exact ih (i + 7) σ a (by omega) I (by omega)
    have h98 := I.2.2.2.2.2
    rw [eL_law_10 0, if_neg (show ¬ σ 98 0 - 7 < nI i from by rw [h98, i_lt, em, nI_toInt (by omega)]; omega), if_pos (show inb (nI i) (σ 98 0).toNatClampNeg = true from by rw [h98, ixn (by omega)]; exact ibn (by omega) (by omega))]
    generalize σ 99 (nI i).toNatClampNeg &&& 63 = z
    by_cases h0 : z = 0
    · rw [if_pos h0]
      exact law_0 hL hi I K
    rw [if_neg h0]
    by_cases h1 : z = 1
    · rw [if_pos h1]
      exact law_1 hL hi I K
    rw [if_neg h1]
    by_cases h2 : z = 2
    · rw [if_pos h2]
      exact law_2 hL hi I K
    rw [if_neg h2]
    by_cases h3 : z = 3
    · rw [if_pos h3]
      exact law_3 hL hi I K
    rw [if_neg h3]
    by_cases h4 : z = 4
    · rw [if_pos h4]
      exact law_4 hL hi I K
    rw [if_neg h4]
    by_cases h5 : z = 5
    · rw [if_pos h5]
      exact law_5 hL hi I K
    rw [if_neg h5]
    by_cases h6 : z = 6
    · rw [if_pos h6]
      exact law_6 hL hi I K
    rw [if_neg h6]
    by_cases h7 : z = 7
    · rw [if_pos h7]
      exact law_7 hL hi I K
    rw [if_neg h7]
    by_cases h8 : z = 8
    · rw [if_pos h8]
      exact law_8 hL hi I K
    rw [if_neg h8]
    by_cases h9 : z = 9
    · rw [if_pos h9]
      exact law_9 hL hi I K
    rw [if_neg h9]
    by_cases h10 : z = 10
    · rw [if_pos h10]
      exact law_10 hL hi I K
    rw [if_neg h10]
    by_cases h11 : z = 11
    · rw [if_pos h11]
      exact law_11 hL hi I K
    rw [if_neg h11]
    by_cases h12 : z = 12
    · rw [if_pos h12]
      exact law_12 hL hi I K
    rw [if_neg h12]
    by_cases h13 : z = 13
    · rw [if_pos h13]
      exact law_13 hL hi I K
    rw [if_neg h13]
    by_cases h14 : z = 14
    · rw [if_pos h14]
      exact law_14 hL hi I K
    rw [if_neg h14]
    by_cases h15 : z = 15
    · rw [if_pos h15]
      exact law_15 hL hi I K
    rw [if_neg h15]
    by_cases h16 : z = 16
    · rw [if_pos h16]
      exact law_16 hL hi I K
    rw [if_neg h16]
    by_cases h17 : z = 17
    · rw [if_pos h17]
      exact law_17 hL hi I K
    rw [if_neg h17]
    by_cases h18 : z = 18
    · rw [if_pos h18]
      exact law_18 hL hi I K
    rw [if_neg h18]
    by_cases h19 : z = 19
    · rw [if_pos h19]
      exact law_19 hL hi I K
    rw [if_neg h19]
    by_cases h20 : z = 20
    · rw [if_pos h20]
      exact law_20 hL hi I K
    rw [if_neg h20]
    by_cases h21 : z = 21
    · rw [if_pos h21]
      exact law_21 hL hi I K
    rw [if_neg h21]
    by_cases h22 : z = 22
    · rw [if_pos h22]
      exact law_22 hL hi I K
    rw [if_neg h22]
    by_cases h23 : z = 23
    · rw [if_pos h23]
      exact law_23 hL hi I K
    rw [if_neg h23]
    by_cases h24 : z = 24
    · rw [if_pos h24]
      exact law_24 hL hi I K
    rw [if_neg h24]
    by_cases h25 : z = 25
    · rw [if_pos h25]
      exact law_25 hL hi I K
    rw [if_neg h25]
    by_cases h26 : z = 26
    · rw [if_pos h26]
      exact law_26 hL hi I K
    rw [if_neg h26]
    by_cases h27 : z = 27
    · rw [if_pos h27]
      exact law_27 hL hi I K
    rw [if_neg h27]
    by_cases h28 : z = 28
    · rw [if_pos h28]
      exact law_28 hL hi I K
    rw [if_neg h28]
    by_cases h29 : z = 29
    · rw [if_pos h29]
      exact law_29 hL hi I K
    rw [if_neg h29]
    by_cases h30 : z = 30
    · rw [if_pos h30]
      exact law_30 hL hi I K
    rw [if_neg h30]
    by_cases h31 : z = 31
    · rw [if_pos h31]
      exact law_31 hL hi I K
    rw [if_neg h31]
    by_cases h32 : z = 32
    · rw [if_pos h32]
      exact law_32 hL hi I K
    rw [if_neg h32]
    by_cases h33 : z = 33
    · rw [if_pos h33]
      exact law_33 hL hi I K
    rw [if_neg h33]
    by_cases h34 : z = 34
    · rw [if_pos h34]
      exact law_34 hL hi I K
    rw [if_neg h34]
    by_cases h35 : z = 35
    · rw [if_pos h35]
      exact law_35 hL hi I K
    rw [if_neg h35]
    exact K σ a I
