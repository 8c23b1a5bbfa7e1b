/-! GAP -/
def betS (t : St) (x y : Nat) : Nat → Bool
  | 0 => false
  | m + 1 => betS t x y m || (seenS t m && decide (rP t x < rP t m) && decide (rP t m < rP t y))
theorem bet_up {t : St} {x y m : Nat} : ∀ {n : Nat}, m < n → seenS t m = true → rP t x < rP t m → rP t m < rP t y → betS t x y n = true := by
  intro n
  induction n with
  | zero => intro h; omega
  | succ n ih =>
    intro h h1 h2 h3
    unfold betS
    by_cases hq : m = n
    · subst hq
      simp [h1, h2, h3]
    · rw [ih (by omega) h1 h2 h3]
      rfl
theorem m_between {k : Nat} {σ : Sto} {t : St} (hr : RepM σ t) (hN : sN t ≤ 6) {x y : Nat} (hx : x < sN t) (hy : y < sN t) : C nM_isBetween k [.ref 30, .int (nI x), .int (nI y)] σ = some (b2 (betS t x y (sN t)), 0, σ) := by
  have L : ∀ d m, m + d = sN t → betS t x y m = false → R nM_isBetween k 2 [.ref 30, .int (nI x), .int (nI y), .int (nI m)] [] σ = some (b2 (betS t x y (sN t)), 0, σ) := by
    intro d
    induction d with
    | zero =>
      intro m hm hb
      have e : m = sN t := by omega
      subst e
      rw [eM_isBetween_2 k, if_neg (show ¬ nI (sN t) < σ 30 0 from by rw [hr.n]; exact nI_nlt (by omega) (by omega)), hb]
      rfl
    | succ d ih =>
      intro m hm hb
      have h1 : m < sN t := by omega
      have eb : betS t x y (m + 1) = (betS t x y m || (seenS t m && decide (rP t x < rP t m) && decide (rP t m < rP t y))) := rfl
      rw [eM_isBetween_2 k, if_pos (show nI m < σ 30 0 from by rw [hr.n]; exact nI_lt (by omega) (by omega)), m_seen hr hN h1, bs]
      simp only [i3, ibn (show 3 * m < 18 by omega) (by decide), ibn (show 3 * x < 18 by omega) (by decide), ibn (show 3 * y < 18 by omega) (by decide), ixn (show 3 * m < 2147483648 by omega), ixn (show 3 * x < 2147483648 by omega), ixn (show 3 * y < 2147483648 by omega), hr.P h1, hr.P hx, hr.P hy, ↓reduceIte, nI_1]
      rcases Bool.eq_false_or_eq_true (seenS t m) with g | g
      · rw [if_neg (show ¬ b2 (seenS t m) = 0 by rw [g]; exact n10)]
        by_cases c1 : rP t x < rP t m
        · rw [if_pos c1]
          by_cases c2 : rP t m < rP t y
          · rw [if_pos c2, bet_up h1 g c1 c2]
            rfl
          · rw [if_neg c2]
            exact ih (m + 1) (by omega) (by rw [eb, hb]; simp [c2])
        · rw [if_neg c1]
          exact ih (m + 1) (by omega) (by rw [eb, hb]; simp [c1])
      · rw [if_pos (show b2 (seenS t m) = 0 by rw [g]; rfl)]
        exact ih (m + 1) (by omega) (by rw [eb, hb]; simp [g])
  rw [eM_isBetween k]
  exact L (sN t) 0 (Nat.zero_add _) rfl
def neiS (t : St) (x y : Nat) : Bool := (decide (rP t x < rP t y) || (decide (rP t x = rP t y) && decide (x < y))) && seenS t x && seenS t y && !betS t x y (sN t)
theorem c_nei {k : Nat} {σ : Sto} {t : St} (hr : RepS σ 12 t) (hN : sN t ≤ 6) {x y : Nat} (hx : x < sN t) (hy : y < sN t) : C nS_areNeighbours k [.ref 12, .int (nI x), .int (nI y)] σ = some (b2 (neiS t x y), 0, σ) := by
  have hx6 : x < 6 := by omega
  have hy6 : y < 6 := by omega
  have L : ∀ d m v3, m + d = sN t → betS t x y m = false → R nS_areNeighbours k 39 [.ref 12, .int (nI x), .int (nI y), .int v3, .int (nI m)] [] σ = some (b2 (!betS t x y (sN t)), 0, σ) := by
    intro d
    induction d with
    | zero =>
      intro m v3 hm hb
      have e : m = sN t := by omega
      subst e
      rw [eS_areNeighbours_39 k 12 h12, if_neg (show ¬ nI (sN t) < σ 12 6 from by rw [hr.n]; exact nI_nlt (by omega) (by omega)), hb]
      rfl
    | succ d ih =>
      intro m v3 hm hb
      have h1 : m < sN t := by omega
      have h6 : m < 6 := by omega
      have eb : betS t x y (m + 1) = (betS t x y m || (seenS t m && decide (rP t x < rP t m) && decide (rP t m < rP t y))) := rfl
      rw [eS_areNeighbours_39 k 12 h12, if_pos (show nI m < σ 12 6 from by rw [hr.n]; exact nI_lt (by omega) (by omega)), c_seen h12 hr hN h1, bs]
      simp only [ib6 h6, ix6 h6, ib6 hx6, ix6 hx6, ib6 hy6, ix6 hy6, hr.P h1, hr.P hx, hr.P hy, ↓reduceIte, nI_1]
      rcases Bool.eq_false_or_eq_true (seenS t m) with g | g
      · rw [if_neg (show ¬ b2 (seenS t m) = 0 by rw [g]; exact n10)]
        by_cases c1 : rP t x < rP t m
        · rw [if_pos c1]
          by_cases c2 : rP t m < rP t y
          · rw [if_pos c2, bet_up h1 g c1 c2]
            rfl
          · rw [if_neg c2]
            exact ih (m + 1) v3 (by omega) (by rw [eb, hb]; simp [c2])
        · rw [if_neg c1]
          exact ih (m + 1) v3 (by omega) (by rw [eb, hb]; simp [c1])
      · rw [if_pos (show b2 (seenS t m) = 0 by rw [g]; rfl)]
        exact ih (m + 1) v3 (by omega) (by rw [eb, hb]; simp [g])
  have L0 := L (sN t) 0 1 (Nat.zero_add _) rfl
  have rest : (C nS_isSeen k [.ref 12, .int (nI x)] σ).bind (fun r1 =>
          if r1.1 = 0 then
            some (0, 0, r1.2.2)
          else
            (C nS_isSeen k [.ref 12, .int (nI y)] r1.2.2).bind fun r2 =>
              if r2.1 = 0 then
                some (0, 0, r2.2.2)
              else
                R nS_areNeighbours k 39 [.ref 12, .int (nI x), .int (nI y), .int 1, .int 0] [] r2.2.2) = some (b2 (seenS t x && seenS t y && !betS t x y (sN t)), 0, σ) := by
    rw [c_seen h12 hr hN hx, bs]; (try dsimp only); rw [c_seen h12 hr hN hy]
    cases seenS t x
    · rfl
    · cases seenS t y
      · rfl
      · exact L0
  rw [eS_areNeighbours k 12 h12]
  simp only [ib6 hx6, ix6 hx6, ib6 hy6, ix6 hy6, hr.P hx, hr.P hy, ↓reduceIte]
  unfold neiS
  by_cases c1 : rP t x < rP t y
  · rw [if_pos c1, rest]
    simp [c1]
  · rw [if_neg c1]
    by_cases c2 : rP t x = rP t y
    · rw [if_pos c2]
      by_cases c3 : x < y
      · rw [if_pos (nI_lt c3 (by omega)), rest]
        simp [c2, c3]
      · rw [if_neg (nI_nlt (by omega) (by omega))]
        simp [c1, c3, b2]
    · rw [if_neg c2]
      simp [c1, c2, b2]
