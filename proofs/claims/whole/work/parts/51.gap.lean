def gp1 (t : St) (x : Nat) (s : Int32 × Int32) : Nat → Int32 × Int32
  | 0 => s
  | y + 1 => if neiS t x y = true then (if (gp1 t x s y).2 < rP t y - rP t x then (nI (10 * x + y), rP t y - rP t x) else gp1 t x s y) else gp1 t x s y
def gp2 (t : St) : Nat → Int32 × Int32
  | 0 => (-1, -1)
  | x + 1 => gp1 t x (gp2 t x) (sN t)
theorem gp1_s (t : St) (x : Nat) (s : Int32 × Int32) (y : Nat) : gp1 t x s (y + 1) = if neiS t x y = true then (if (gp1 t x s y).2 < rP t y - rP t x then (nI (10 * x + y), rP t y - rP t x) else gp1 t x s y) else gp1 t x s y := rfl
theorem n10x (x y : Nat) : 10 * nI x + nI y = nI (10 * x + y) := by
  rw [show (10 : Int32) * nI x = nI (10 * x) from pk_mul 10 x, nI_add]
theorem nei_gap {TX : TXT} {K : Nat} {t : St} (ho : Ok TX K t) {x y : Nat} (hx : x < sN t) (hy : y < sN t) : neiS t x y = (decide (x ≠ y) && seenS t x && seenS t y && (decide (0 < rP t y - rP t x) || (decide (rP t y - rP t x = 0) && decide (x < y))) && !betS t x y (sN t)) := by
  have h1 := (ho.p hx).2.2.1
  have h2 := (ho.p hy).2.2.1
  have e0 : (0 : Int32).toInt = 0 := by decide
  have ed : (rP t y - rP t x).toInt = (rP t y).toInt - (rP t x).toInt := i_sub (by omega) (by omega)
  have c1 : (rP t x < rP t y) ↔ (0 < rP t y - rP t x) := by rw [i_lt, i_lt, ed, e0]; omega
  have c2 : (rP t x = rP t y) ↔ (rP t y - rP t x = 0) := by rw [i_eq, i_eq, ed, e0]; omega
  have c3 : rP t x < rP t y → x ≠ y := fun h e => by
    subst e
    rw [i_lt] at h
    omega
  unfold neiS
  by_cases g1 : rP t x < rP t y
  · have g1' := c1.mp g1
    have g3 := c3 g1
    simp [g1, g1', g3]
  · have g1' : ¬ 0 < rP t y - rP t x := fun h => g1 (c1.mpr h)
    by_cases g2 : rP t x = rP t y
    · have g2' := c2.mp g2
      by_cases g4 : x < y
      · have g5 : x ≠ y := by omega
        simp [g1', g2, g2', g4, g5]
      · simp [g1, g1', g4]
    · have g2' : ¬ rP t y - rP t x = 0 := fun h => g2 (c2.mpr h)
      simp [g1, g1', g2, g2']
theorem s_gap {a : Ab} (hw : WfA a) (z : Int32) : Step nF_gap nM_gap [.int z] a := by
  have ho := hw.1
  have hN := ho.n
  have e0 : (0 : Int32).toInt = 0 := by decide
  have e1 : (1 : Int32).toInt = 1 := by decide
  by_cases hz : 0 ≤ z.toInt ∧ z.toInt ≤ 1
  rotate_left
  · have q := in_f e0 e1 hz
    refine same hw (-2) (fun σ h => ?_) (fun σ h => ?_)
    · rw [eF_gap 0, c_in, q, bs]; (try dsimp only); rw [if_pos rfl]
      exact ⟨σ, rfl, Fr.rf⟩
    · rw [eM_gap 0, m_in, q, bs]; (try dsimp only); rw [if_pos rfl]
      exact ⟨σ, rfl, Fr.rf⟩
  have q := in_t e0 e1 hz
  refine think hw (if z = 0 then (gp2 (aT a) (sN (aT a))).1 else (gp2 (aT a) (sN (aT a))).2) (fun σ h => ?_) (fun σ h => ?_)
  · have hr := h.at.1
    have L1 : ∀ x, x < sN (aT a) → ∀ s : Int32 × Int32, ∀ d m, m + d = sN (aT a) → R nF_gap 0 20 [.ref 0, .int z, .int (gp1 (aT a) x s m).1, .int (gp1 (aT a) x s m).2, .int (nI x), .int (nI m)] [] σ = R nF_gap 0 13 [.ref 0, .int z, .int (gp1 (aT a) x s (sN (aT a))).1, .int (gp1 (aT a) x s (sN (aT a))).2, .int (nI (x + 1)), .int (nI (sN (aT a)))] [] σ := by
      intro x hx s d
      have hx6 : x < 6 := by omega
      induction d with
      | zero =>
        intro m hm
        have e : m = sN (aT a) := by omega
        subst e
        rw [eF_gap_20 0, if_neg (show ¬ nI (sN (aT a)) < σ 12 6 from by rw [hr.n]; exact nI_nlt (by omega) (by omega)), nI_1]
      | succ d ih =>
        intro m hm
        have h1 : m < sN (aT a) := by omega
        have h6 : m < 6 := by omega
        rw [← ih (m + 1) (by omega), gp1_s, eF_gap_20 0, if_pos (show nI m < σ 12 6 from by rw [hr.n]; exact nI_lt (by omega) (by omega)), c_nei hr hN hx h1, bs]; (try dsimp only); rw [nI_1]
        have hm15 : σ 15 m = rP (aT a) m := hr.P h1
        have hx15 : σ 15 x = rP (aT a) x := hr.P hx
        rcases Bool.eq_false_or_eq_true (neiS (aT a) x m) with g | g
        · rw [if_neg (show ¬ b2 (neiS (aT a) x m) = 0 by rw [g]; exact n10), if_pos g, if_pos (ib6 h6), if_pos (ib6 hx6), ix6 h6, ix6 hx6]
          by_cases c : (gp1 (aT a) x s m).2 < rP (aT a) m - rP (aT a) x
          · rw [if_pos (show (gp1 (aT a) x s m).2 < σ 15 m - σ 15 x from by rw [hm15, hx15]; exact c), if_pos c, if_pos (ib6 h6), if_pos (ib6 hx6), hm15, hx15, n10x]
          · rw [if_neg (show ¬ (gp1 (aT a) x s m).2 < σ 15 m - σ 15 x from by rw [hm15, hx15]; exact c), if_neg c]
        · rw [if_pos (show b2 (neiS (aT a) x m) = 0 by rw [g]; rfl), if_neg (show ¬ neiS (aT a) x m = true by rw [g]; decide)]
    have L2 : ∀ d m u, m + d = sN (aT a) → R nF_gap 0 13 [.ref 0, .int z, .int (gp2 (aT a) m).1, .int (gp2 (aT a) m).2, .int (nI m), u] [] σ = some (if z = 0 then (gp2 (aT a) (sN (aT a))).1 else (gp2 (aT a) (sN (aT a))).2, 0, σ) := by
      intro d
      induction d with
      | zero =>
        intro m u hm
        have e : m = sN (aT a) := by omega
        subst e
        rw [eF_gap_13 0, if_neg (show ¬ nI (sN (aT a)) < σ 12 6 from by rw [hr.n]; exact nI_nlt (by omega) (by omega))]
        split <;> rfl
      | succ d ih =>
        intro m u hm
        rw [eF_gap_13 0, if_pos (show nI m < σ 12 6 from by rw [hr.n]; exact nI_lt (by omega) (by omega))]
        exact (L1 m (by omega) (gp2 (aT a) m) (sN (aT a)) 0 (Nat.zero_add _)).trans (ih (m + 1) _ (by omega))
    rw [eF_gap 0, c_in, q, bs]; (try dsimp only); rw [if_neg n10]
    exact ⟨σ, L2 (sN (aT a)) 0 .null (Nat.zero_add _), h, FC.rf⟩
  · have hr := h.at.1
    have L1 : ∀ x, x < sN (aT a) → ∀ s : Int32 × Int32, ∀ d m u w, m + d = sN (aT a) → ∃ u' w', R nM_gap 0 19 [.ref 30, .int z, .int (gp1 (aT a) x s m).1, .int (gp1 (aT a) x s m).2, .int (nI x), .int (nI m), u, w] [] σ = R nM_gap 0 13 [.ref 30, .int z, .int (gp1 (aT a) x s (sN (aT a))).1, .int (gp1 (aT a) x s (sN (aT a))).2, .int (nI (x + 1)), .int (nI (sN (aT a))), u', w'] [] σ := by
      intro x hx s d
      have hx6 : x < 6 := by omega
      induction d with
      | zero =>
        intro m u w hm
        have e : m = sN (aT a) := by omega
        subst e
        rw [eM_gap_19 0, if_neg (show ¬ nI (sN (aT a)) < σ 30 0 from by rw [hr.n]; exact nI_nlt (by omega) (by omega)), nI_1]
        exact ⟨u, w, rfl⟩
      | succ d ih =>
        intro m u w hm
        have h1 : m < sN (aT a) := by omega
        have e89 : ∀ (s1 s2 : Int32) (w7 : Int32), R nM_gap 0 89 [.ref 30, .int z, .int s1, .int s2, .int (nI x), .int (nI m), .int (rP (aT a) m - rP (aT a) x), .int w7] [] σ = R nM_gap 0 19 [.ref 30, .int z, .int s1, .int s2, .int (nI x), .int (nI (m + 1)), .int (rP (aT a) m - rP (aT a) x), .int w7] [] σ := fun s1 s2 w7 => by rw [eM_gap_89 0, nI_1]
        have e58 : ∀ g : Bool, ∃ w7, R nM_gap 0 58 [.ref 30, .int z, .int (gp1 (aT a) x s m).1, .int (gp1 (aT a) x s m).2, .int (nI x), .int (nI m), .int (rP (aT a) m - rP (aT a) x), w] [.int (b2 g)] σ =
            R nM_gap 0 19 [.ref 30, .int z, .int (if (g && !betS (aT a) x m (sN (aT a))) = true then (if (gp1 (aT a) x s m).2 < rP (aT a) m - rP (aT a) x then (nI (10 * x + m), rP (aT a) m - rP (aT a) x) else gp1 (aT a) x s m) else gp1 (aT a) x s m).1, .int (if (g && !betS (aT a) x m (sN (aT a))) = true then (if (gp1 (aT a) x s m).2 < rP (aT a) m - rP (aT a) x then (nI (10 * x + m), rP (aT a) m - rP (aT a) x) else gp1 (aT a) x s m) else gp1 (aT a) x s m).2, .int (nI x), .int (nI (m + 1)), .int (rP (aT a) m - rP (aT a) x), .int w7] [] σ := by
          intro g
          cases g with
          | false =>
            rw [eM_gap_58 0, if_pos (show b2 false = 0 from rfl), e89]
            exact ⟨b2 false, rfl⟩
          | true =>
            rw [eM_gap_58 0, if_neg (show ¬ b2 true = 0 from n10)]
            by_cases c : (gp1 (aT a) x s m).2 < rP (aT a) m - rP (aT a) x
            · rw [if_pos c, m_between hr hN hx h1, bs]; (try dsimp only); rw [if_pos c]
              cases betS (aT a) x m (sN (aT a)) with
              | false =>
                rw [if_pos (show b2 false = 0 from rfl), eM_gap_72 0, if_neg (by decide), eM_gap_82 0, if_neg (by decide), eM_gap_88 0, e89, n10x]
                exact ⟨1, rfl⟩
              | true =>
                rw [if_neg (show ¬ b2 true = 0 from n10), eM_gap_72 0, if_pos rfl, eM_gap_82 0, if_pos rfl, eM_gap_88 0, e89]
                exact ⟨0, rfl⟩
            · rw [if_neg c, e89, if_neg c]
              refine ⟨b2 true, ?_⟩
              cases betS (aT a) x m (sN (aT a)) <;> rfl
        have e19 : R nM_gap 0 19 [.ref 30, .int z, .int (gp1 (aT a) x s m).1, .int (gp1 (aT a) x s m).2, .int (nI x), .int (nI m), u, w] [] σ =
            R nM_gap 0 58 [.ref 30, .int z, .int (gp1 (aT a) x s m).1, .int (gp1 (aT a) x s m).2, .int (nI x), .int (nI m), .int (rP (aT a) m - rP (aT a) x), w] [.int (b2 (decide (x ≠ m) && seenS (aT a) x && seenS (aT a) m && (decide (0 < rP (aT a) m - rP (aT a) x) || (decide (rP (aT a) m - rP (aT a) x = 0) && decide (x < m)))))] σ := by
          rw [eM_gap_19 0, if_pos (show nI m < σ 30 0 from by rw [hr.n]; exact nI_lt (by omega) (by omega)), i3, i3, if_pos (ibn (show 3 * m < 18 by omega) (by decide)), if_pos (ibn (show 3 * x < 18 by omega) (by decide)), ixn (show 3 * m < 2147483648 by omega), ixn (show 3 * x < 2147483648 by omega), hr.P h1, hr.P hx]
          by_cases c0 : x = m
          · rw [if_pos (by rw [c0]), eM_gap_57 0]
            simp [c0, b2]
          · rw [if_neg (fun e => c0 (nI_inj (by omega) (by omega) e)), m_seen hr hN hx, bs]
            rcases Bool.eq_false_or_eq_true (seenS (aT a) x) with g1 | g1
            · rw [if_neg (show ¬ b2 (seenS (aT a) x) = 0 by rw [g1]; exact n10), m_seen hr hN h1, bs]
              rcases Bool.eq_false_or_eq_true (seenS (aT a) m) with g2 | g2
              · rw [if_neg (show ¬ b2 (seenS (aT a) m) = 0 by rw [g2]; exact n10)]
                by_cases c1 : 0 < rP (aT a) m - rP (aT a) x
                · rw [if_pos c1, eM_gap_55 0]
                  simp [c0, g1, g2, c1, b2]
                · rw [if_neg c1]
                  by_cases c2 : rP (aT a) m - rP (aT a) x = 0
                  · rw [if_pos c2]
                    by_cases c3 : x < m
                    · rw [if_pos (nI_lt c3 (by omega)), eM_gap_55 0]
                      simp [c0, g1, g2, c2, c3, b2]
                    · rw [if_neg (nI_nlt (by omega) (by omega)), eM_gap_57 0]
                      simp [c1, c3, b2]
                  · rw [if_neg c2, eM_gap_57 0]
                    simp [c1, c2, b2]
              · rw [if_pos (show b2 (seenS (aT a) m) = 0 by rw [g2]; rfl), eM_gap_57 0]
                simp [g2, b2]
            · rw [if_pos (show b2 (seenS (aT a) x) = 0 by rw [g1]; rfl), eM_gap_57 0]
              simp [g1, b2]
        obtain ⟨w7, e3⟩ := e58 (decide (x ≠ m) && seenS (aT a) x && seenS (aT a) m && (decide (0 < rP (aT a) m - rP (aT a) x) || (decide (rP (aT a) m - rP (aT a) x = 0) && decide (x < m))))
        rw [← nei_gap ho hx h1, ← gp1_s] at e3
        obtain ⟨u', w', e4⟩ := ih (m + 1) _ _ (by omega)
        exact ⟨u', w', e19.trans (e3.trans e4)⟩
    have L2 : ∀ d m u w v, m + d = sN (aT a) → R nM_gap 0 13 [.ref 30, .int z, .int (gp2 (aT a) m).1, .int (gp2 (aT a) m).2, .int (nI m), u, w, v] [] σ = some (if z = 0 then (gp2 (aT a) (sN (aT a))).1 else (gp2 (aT a) (sN (aT a))).2, 0, σ) := by
      intro d
      induction d with
      | zero =>
        intro m u w v hm
        have e : m = sN (aT a) := by omega
        subst e
        rw [eM_gap_13 0, if_neg (show ¬ nI (sN (aT a)) < σ 30 0 from by rw [hr.n]; exact nI_nlt (by omega) (by omega)), eM_gap_98 0, eM_gap_98 0]
        split <;> rfl
      | succ d ih =>
        intro m u w v hm
        obtain ⟨u', w', e2⟩ := L1 m (by omega) (gp2 (aT a) m) (sN (aT a)) 0 w v (Nat.zero_add _)
        rw [eM_gap_13 0, if_pos (show nI m < σ 30 0 from by rw [hr.n]; exact nI_lt (by omega) (by omega))]
        exact e2.trans (ih (m + 1) _ _ _ (by omega))
    rw [eM_gap 0, m_in, q, bs]; (try dsimp only); rw [if_neg n10]
    exact ⟨σ, L2 (sN (aT a)) 0 .null .null .null (Nat.zero_add _), h, FM.rf⟩
