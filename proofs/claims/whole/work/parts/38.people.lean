theorem c_read {k : Nat} {σ : Sto} {s i : Nat} (hs : s < 4) (hi : i < 40) : C nH_read k [.ref 8, .int (nI s), .int (nI i)] σ = some (σ 9 (40 * s + i), 0, σ) := by
  rw [eH_read k, nI_40, if_pos (ibn (show 40 * s + i < 160 by omega) (by decide)), ixn (show 40 * s + i < 2147483648 by omega)]
theorem i64_of (n : Nat) (h : n < 2147483648) : Int64.toInt32 (Int32.toInt64 (nI n)) = nI n := by
  rw [Int32.toInt32_toInt64]
/-- the place of a pair -/
theorem pair_at {x : Int32} {m : Nat} (hm : m < 100) : (Int32.toInt64 x + 2 * Int32.toInt64 (nI m)).toInt = x.toInt + 2 * m := by
  have h1 := Int32.le_toInt x
  have h2 := Int32.toInt_lt x
  have e2 : (2 : Int64).toInt = 2 := by decide
  have em : (Int32.toInt64 (nI m)).toInt = (m : Int) := by rw [Int32.toInt_toInt64, nI_toInt (by omega)]
  have ep : (2 * Int32.toInt64 (nI m)).toInt = 2 * m := by rw [l_mul (by rw [e2, em]; omega) (by rw [e2, em]; omega), e2, em]
  rw [l_add (by rw [ep, Int32.toInt_toInt64]; omega) (by rw [ep, Int32.toInt_toInt64]; omega), ep, Int32.toInt_toInt64]
theorem people_L {s n : Nat} (hs : s < 4) (hn : n < 7) {from_ x2 : Int32} : ∀ d m came a, m + d = n → (0 < m → 0 ≤ from_.toInt) → WfA a → ¬ aS a s = -1 → ∃ v a', WfA a' ∧
    (∀ σ u7 u9, InvC σ a → ∃ σ', R nF_peopleBy 0 39 [.ref 0, .int (nI s), .int x2, .int from_, .int (nI n), .int came, .int (nI m), u7, .null, u9] [] σ = some (v, 0, σ') ∧ InvC σ' a' ∧ FC σ σ') ∧
    (∀ σ u7 u8, InvM σ a → ∃ σ', R nM_peopleBy 0 37 [.ref 30, .int (nI s), .int x2, .int from_, .int (nI n), .int came, .int (nI m), u7, u8] [] σ = some (v, 0, σ') ∧ InvM σ' a' ∧ FM σ σ') := by
  intro d
  have e0 : (0 : Int32).toInt = 0 := by decide
  have e2 : (2 : Int32).toInt = 2 := by decide
  have fr1 := Int32.le_toInt from_
  have fr2 := Int32.toInt_lt from_
  induction d with
  | zero =>
    intro m came a hm hfm hw hne
    refine ⟨came, a, hw, fun σ u7 u9 h => ?_, fun σ u7 u8 h => ?_⟩
    · rw [eF_peopleBy_39 0, if_neg (nI_nlt (by omega) (by omega))]
      exact ⟨σ, rfl, h, FC.rf⟩
    · rw [eM_peopleBy_37 0, if_neg (nI_nlt (by omega) (by omega))]
      exact ⟨σ, rfl, h, FM.rf⟩
  | succ d ih =>
    intro m came a hm hfm hw hne
    have hz40 := (hw.2.2.2.2 s hs).2
    have tm : (nI m).toInt = (m : Int) := nI_toInt (by omega)
    have i4 : inb (nI s) 4 = true := ibn hs (by decide)
    have pa := pair_at (x := from_) (m := m) (by omega)
    have t2 : (2 * nI m).toInt = 2 * m := by rw [i_mul (by rw [e2, tm]; omega) (by rw [e2, tm]; omega), e2, tm]
    by_cases hc : 0 ≤ from_.toInt + 2 * m ∧ 0 ≤ from_.toInt ∧ from_.toInt + 2 * m + 2 ≤ (aZ a s : Int)
    · obtain ⟨f, hf, ef⟩ := nI_in1 (x := from_) (n := 41) (by omega) (by omega)
      subst ef
      have tf : (nI f).toInt = (f : Int) := nI_toInt (by omega)
      rw [tf] at hc pa
      have ea : Int32.toInt64 (nI f) + 2 * Int32.toInt64 (nI m) = Int32.toInt64 (nI (f + 2 * m)) := by
        rw [← Int64.toInt_inj, pa, Int32.toInt_toInt64, nI_toInt (by omega)]
        omega
      have eb : nI f + 2 * nI m = nI (f + 2 * m) := by
        rw [show (2 : Int32) * nI m = nI (2 * m) from pk_mul 2 m, nI_add]
      have hw1 := hw.wel (aC a s (f + 2 * m)) (aC a s (f + 2 * m + 1))
      obtain ⟨v, a', hw', k1, k2⟩ := ih (m + 1) (if welV (aT a) (aC a s (f + 2 * m)) (aC a s (f + 2 * m + 1)) < 0 then came else came + 1) (setT a (welT (aT a) (aC a s (f + 2 * m)) (aC a s (f + 2 * m + 1)))) (by omega) (fun _ => by rw [tf]; omega) hw1 hne
      refine ⟨v, a', hw', fun σ u7 u9 h => ?_, fun σ u7 u8 h => ?_⟩
      · have g := (h.2.2.2.2.2.2 s hs).2 hne
        have g1 := c_holds (k := 0) (σ := σ) hs g.1 hz40 (x := Int32.toInt64 (nI (f + 2 * m))) (n := 2) (by rw [Int32.toInt_toInt64, nI_toInt (by omega)]; omega) (by rw [Int32.toInt_toInt64, nI_toInt (by omega)]; omega)
        rw [Int32.toInt_toInt64, nI_toInt (show f + 2 * m < 2 ^ 31 by omega), e2, decide_eq_true (by omega), b2T] at g1
        obtain ⟨σ1, e1, i1, f1⟩ := c_welcome hw (k := 0) h (aC a s (f + 2 * m)) (aC a s (f + 2 * m + 1))
        rw [eF_peopleBy_39 0, if_pos (nI_lt (by omega) (by omega)), ea, g1, bs]; (try dsimp only); rw [if_neg n10, i64_of _ (by omega), c_read hs (by omega), bs]; (try dsimp only); rw [nI_1, c_read hs (by omega), bs]; (try dsimp only); rw [show 40 * s + (f + 2 * m + 1) = 40 * s + (f + 2 * m + 1) from rfl, g.2 _ (show f + 2 * m < aZ a s by omega), g.2 _ (show f + 2 * m + 1 < aZ a s by omega), e1, bs]; (try dsimp only); rw [nI_1]
        by_cases hv : welV (aT a) (aC a s (f + 2 * m)) (aC a s (f + 2 * m + 1)) < 0
        · rw [if_pos hv] at k1
          rw [if_pos hv]
          obtain ⟨σ2, e3, i3, f3⟩ := k1 σ1 _ _ i1
          exact ⟨σ2, e3, i3, f1.tr f3⟩
        · rw [if_neg hv] at k1
          rw [if_neg hv]
          obtain ⟨σ2, e3, i3, f3⟩ := k1 σ1 _ _ i1
          exact ⟨σ2, e3, i3, f1.tr f3⟩
      · have g := (h.2.2.2.2.2.2 s hs).2 hne
        obtain ⟨σ1, e1, i1, f1⟩ := m_traveller hw (k := 0) h (aC a s (f + 2 * m)) (aC a s (f + 2 * m + 1))
        have c1 : ¬ σ 41 s - 2 < nI (f + 2 * m) := by
          rw [g.1, show (2 : Int32) = nI 2 from rfl, nI_subN (by omega) (by omega)]
          exact nI_nlt (by omega) (by omega)
        rw [eM_peopleBy_37 0, if_pos (nI_lt (by omega) (by omega)), if_neg (nI_pos (by omega)), eb, if_neg (nI_nlt (by omega) (by omega)), if_pos i4, ixn (show s < 2147483648 by omega), if_neg c1, nI_40', nI_1, if_pos (ibn (show 40 * s + (f + 2 * m) < 160 by omega) (by decide)), if_pos (ibn (show 40 * s + (f + 2 * m) + 1 < 160 by omega) (by decide)), ixn (show 40 * s + (f + 2 * m) < 2147483648 by omega), ixn (show 40 * s + (f + 2 * m) + 1 < 2147483648 by omega),
          g.2 _ (show f + 2 * m < aZ a s by omega), show 40 * s + (f + 2 * m) + 1 = 40 * s + (f + 2 * m + 1) from rfl, g.2 _ (show f + 2 * m + 1 < aZ a s by omega), e1, bs]; (try dsimp only); rw [nI_1]
        by_cases hv : welV (aT a) (aC a s (f + 2 * m)) (aC a s (f + 2 * m + 1)) < 0
        · rw [if_pos hv] at k2
          rw [if_pos hv, Int32.add_zero]
          obtain ⟨σ2, e3, i3, f3⟩ := k2 σ1 _ _ i1
          exact ⟨σ2, e3, i3, f1.tr f3⟩
        · rw [if_neg hv] at k2
          rw [if_neg hv]
          obtain ⟨σ2, e3, i3, f3⟩ := k2 σ1 _ _ i1
          exact ⟨σ2, e3, i3, f1.tr f3⟩
    · refine ⟨-12, a, hw, fun σ u7 u9 h => ?_, fun σ u7 u8 h => ?_⟩
      · have g := (h.2.2.2.2.2.2 s hs).2 hne
        have g1 := c_holds (k := 0) (σ := σ) hs g.1 hz40 (x := Int32.toInt64 from_ + 2 * Int32.toInt64 (nI m)) (n := 2) (by rw [pa]; omega) (by rw [pa]; omega)
        have hbad : ¬ (0 ≤ from_.toInt + 2 * (m : Int) ∧ from_.toInt + 2 * (m : Int) + 2 ≤ (aZ a s : Int)) := by
          by_cases h0 : 0 < m
          · have := hfm h0
            omega
          · omega
        rw [pa, e2, decide_eq_false hbad, b2F] at g1
        rw [eF_peopleBy_39 0, if_pos (nI_lt (by omega) (by omega)), g1, bs]; (try dsimp only); rw [if_pos rfl]
        exact ⟨σ, rfl, h, FC.rf⟩
      · have g := (h.2.2.2.2.2.2 s hs).2 hne
        rw [eM_peopleBy_37 0, if_pos (nI_lt (by omega) (by omega))]
        by_cases hf0 : from_ < 0
        · rw [if_pos hf0]
          exact ⟨σ, rfl, h, FM.rf⟩
        rw [if_neg hf0]
        rw [i_lt, e0] at hf0
        by_cases hw1 : from_ + 2 * nI m < from_
        · rw [if_pos hw1]
          exact ⟨σ, rfl, h, FM.rf⟩
        rw [if_neg hw1, if_pos i4, ixn (show s < 2147483648 by omega)]
        have ts : (σ 41 s - 2).toInt = (aZ a s : Int) - 2 := by
          rw [g.1, i_sub (by rw [nI_toInt (by omega), e2]; omega) (by rw [nI_toInt (by omega), e2]; omega), nI_toInt (by omega), e2]
        have tw : (from_ + 2 * nI m).toInt = from_.toInt + 2 * m := by
          rw [i_lt, Int32.toInt_add, t2] at hw1
          rw [Int32.toInt_add, t2]
          have := Int.bmod_eq_iff (a := from_.toInt + 2 * (m : Int)) (b := 2 ^ 32) (c := from_.toInt + 2 * (m : Int)) (by decide)
          by_cases hov : from_.toInt + 2 * (m : Int) < 2147483648
          · rw [Int.bmod_eq_of_le (by omega) (by omega)]
          · exfalso
            apply hw1
            have e : (from_.toInt + 2 * (m : Int)).bmod (2 ^ 32) = from_.toInt + 2 * (m : Int) - 4294967296 := by
              have e3 : (from_.toInt + 2 * (m : Int)).bmod (2 ^ 32) = (from_.toInt + 2 * (m : Int) - 4294967296).bmod (2 ^ 32) := by
                rw [Int.sub_eq_add_neg, show (-4294967296 : Int) = ((2 ^ 32 : Nat) : Int) * (-1) by decide, Int.add_mul_bmod_self_left]
              rw [e3, Int.bmod_eq_of_le (by omega) (by omega)]
            omega
        rw [if_pos (show σ 41 s - 2 < from_ + 2 * nI m from by rw [i_lt, ts, tw]; omega)]
        exact ⟨σ, rfl, h, FM.rf⟩
theorem s_peopleBy {a : Ab} (hw : WfA a) (x y z u : Int32) : Step nF_peopleBy nM_peopleBy [.int x, .int y, .int z, .int u] a := by
  have e0 : (0 : Int32).toInt = 0 := by decide
  have e3 : (3 : Int32).toInt = 3 := by decide
  have e2 : (2 : Int32).toInt = 2 := by decide
  have e6 : (6 : Int32).toInt = 6 := by decide
  by_cases hx : 0 ≤ x.toInt ∧ x.toInt ≤ 3
  rotate_left
  · have q1 := in_f e0 e3 hx
    have p1 : b2 (decide (0 ≤ x.toInt ∧ x.toInt ≤ 3)) = 0 := by rw [decide_eq_false hx]; rfl
    refine same hw (-2) (fun σ h => ?_) (fun σ h => ?_)
    · rw [eF_peopleBy 0, c_hasH, p1, bs]; (try dsimp only); rw [if_pos rfl]
      exact ⟨σ, rfl, Fr.rf⟩
    · rw [eM_peopleBy 0, m_in, q1, bs]; (try dsimp only); rw [if_pos rfl]
      exact ⟨σ, rfl, Fr.rf⟩
  have q1 := in_t e0 e3 hx
  have p1 : b2 (decide (0 ≤ x.toInt ∧ x.toInt ≤ 3)) = 1 := b2_t hx
  by_cases hy : 0 ≤ y.toInt ∧ y.toInt ≤ 2
  rotate_left
  · have q2 := in_f e0 e2 hy
    refine same hw (-2) (fun σ h => ?_) (fun σ h => ?_)
    · rw [eF_peopleBy 0, c_hasH, p1, bs]; (try dsimp only); rw [if_neg n10, c_in, q2, bs]; (try dsimp only); rw [if_pos rfl]
      exact ⟨σ, rfl, Fr.rf⟩
    · rw [eM_peopleBy 0, m_in, q1, bs]; (try dsimp only); rw [if_neg n10, m_in, q2, bs]; (try dsimp only); rw [if_pos rfl]
      exact ⟨σ, rfl, Fr.rf⟩
  have q2 := in_t e0 e2 hy
  by_cases hu : 0 ≤ u.toInt ∧ u.toInt ≤ 6
  rotate_left
  · have q3 := in_f e0 e6 hu
    refine same hw (-2) (fun σ h => ?_) (fun σ h => ?_)
    · rw [eF_peopleBy 0, c_hasH, p1, bs]; (try dsimp only); rw [if_neg n10, c_in, q2, bs]; (try dsimp only); rw [if_neg n10, c_in, q3, bs]; (try dsimp only); rw [if_pos rfl]
      exact ⟨σ, rfl, Fr.rf⟩
    · rw [eM_peopleBy 0, m_in, q1, bs]; (try dsimp only); rw [if_neg n10, m_in, q2, bs]; (try dsimp only); rw [if_neg n10, m_in, q3, bs]; (try dsimp only); rw [if_pos rfl]
      exact ⟨σ, rfl, Fr.rf⟩
  have q3 := in_t e0 e6 hu
  obtain ⟨s, hs, es⟩ := nI_in1 (x := x) (n := 4) (by omega) (by omega)
  obtain ⟨n, hn, en⟩ := nI_in1 (x := u) (n := 7) (by omega) (by omega)
  subst es
  subst en
  have i4 : inb (nI s) 4 = true := ibn hs (by decide)
  by_cases hm : aS a s = -1
  · refine same hw (-11) (fun σ h => ?_) (fun σ h => ?_)
    · rw [eF_peopleBy 0, c_hasH, p1, bs]; (try dsimp only); rw [if_neg n10, c_in, q2, bs]; (try dsimp only); rw [if_neg n10, c_in, q3, bs]; (try dsimp only); rw [if_neg n10, if_pos i4, ixn (show s < 2147483648 by omega), if_pos (show σ 10 s = -1 from (h.2.2.2.2.2.2 s hs).1.trans hm)]
      exact ⟨σ, rfl, Fr.rf⟩
    · rw [eM_peopleBy 0, m_in, q1, bs]; (try dsimp only); rw [if_neg n10, m_in, q2, bs]; (try dsimp only); rw [if_neg n10, m_in, q3, bs]; (try dsimp only); rw [if_neg n10, if_pos i4, ixn (show s < 2147483648 by omega), if_pos (show σ 40 s = -1 from (h.2.2.2.2.2.2 s hs).1.trans hm)]
      exact ⟨σ, rfl, Fr.rf⟩
  by_cases hs2 : aS a s = y
  · obtain ⟨v, a', hw', k1, k2⟩ := people_L hs hn (from_ := z) (x2 := y) n 0 0 a (Nat.zero_add _) (fun h => by omega) hw hm
    refine ⟨(v, 0), a', hw', fun σ h => ?_, fun σ h => ?_⟩
    · rw [eF_peopleBy 0, c_hasH, p1, bs]; (try dsimp only); rw [if_neg n10, c_in, q2, bs]; (try dsimp only); rw [if_neg n10, c_in, q3, bs]; (try dsimp only); rw [if_neg n10, if_pos i4, ixn (show s < 2147483648 by omega), if_neg (show ¬ σ 10 s = -1 from fun e => hm ((h.2.2.2.2.2.2 s hs).1.symm.trans e)), if_pos i4, if_pos (show σ 10 s = y from (h.2.2.2.2.2.2 s hs).1.trans hs2)]
      exact k1 σ _ _ h
    · rw [eM_peopleBy 0, m_in, q1, bs]; (try dsimp only); rw [if_neg n10, m_in, q2, bs]; (try dsimp only); rw [if_neg n10, m_in, q3, bs]; (try dsimp only); rw [if_neg n10, if_pos i4, ixn (show s < 2147483648 by omega), if_neg (show ¬ σ 40 s = -1 from fun e => hm ((h.2.2.2.2.2.2 s hs).1.symm.trans e)), if_pos i4, if_pos (show σ 40 s = y from (h.2.2.2.2.2.2 s hs).1.trans hs2)]
      exact k2 σ _ _ h
  · refine same hw (-13) (fun σ h => ?_) (fun σ h => ?_)
    · rw [eF_peopleBy 0, c_hasH, p1, bs]; (try dsimp only); rw [if_neg n10, c_in, q2, bs]; (try dsimp only); rw [if_neg n10, c_in, q3, bs]; (try dsimp only); rw [if_neg n10, if_pos i4, ixn (show s < 2147483648 by omega), if_neg (show ¬ σ 10 s = -1 from fun e => hm ((h.2.2.2.2.2.2 s hs).1.symm.trans e)), if_pos i4, if_neg (show ¬ σ 10 s = y from fun e => hs2 ((h.2.2.2.2.2.2 s hs).1.symm.trans e))]
      exact ⟨σ, rfl, Fr.rf⟩
    · rw [eM_peopleBy 0, m_in, q1, bs]; (try dsimp only); rw [if_neg n10, m_in, q2, bs]; (try dsimp only); rw [if_neg n10, m_in, q3, bs]; (try dsimp only); rw [if_neg n10, if_pos i4, ixn (show s < 2147483648 by omega), if_neg (show ¬ σ 40 s = -1 from fun e => hm ((h.2.2.2.2.2.2 s hs).1.symm.trans e)), if_pos i4, if_neg (show ¬ σ 40 s = y from fun e => hs2 ((h.2.2.2.2.2.2 s hs).1.symm.trans e))]
      exact ⟨σ, rfl, Fr.rf⟩
/-! FEED -/
def fedA (a : Ab) (v : Int32) : Ab := (a.1, a.2.1, (aL a + 1, upd (aR a) (aL a) v), a.2.2.2)
theorem WfA.fed {a : Ab} (hw : WfA a) (h : aL a < 160) (v : Int32) : WfA (fedA a v) := ⟨hw.1, hw.2.1, hw.2.2.1, h, hw.2.2.2.2⟩
theorem c_tape {k : Nat} {σ : Sto} {a : Ab} (h : InvC σ a) (hl : aL a < 160) (v : Int32) : ∃ σ', C nF_tapeOne k [.ref 0, .int v] σ = some (0, 0, σ') ∧ InvC σ' (fedA a v) ∧ FC σ σ' := by
  obtain ⟨⟨h1, h2⟩, h3, h4, h5, h6, h7, h8⟩ := h
  rw [eF_tapeOne k, h5, if_pos (show nI (aL a) < 160 from nI_lt (b := 160) hl (by omega)), if_pos (ibn hl (by decide)), ixn (by omega), su_ne (show 0 ≠ 1 by decide), h5, nI_1]
  have f : Fr [0, 1] σ (su (su σ 1 (aL a) v) 0 7 (nI (aL a + 1))) := (Fr.rf.su (by decide)).su (by decide)
  refine ⟨_, rfl, ⟨⟨h1.fr f (by decide), h2.fr f (by decide) (by decide) (by decide)⟩, fun hi => (h3 hi).fr f (by decide), ?_, ?_, ?_, fun i hi => ?_, ?_⟩, f.c (by decide)⟩
  · rw [f 2 (by decide)]; exact h4
  · rw [su_e]; rfl
  · rw [su_o (by decide), su_ne (by decide)]; exact h6
  · have hi : i < aL a + 1 := hi
    rw [su_ne (by decide), su_row]
    show upd (σ 1) (aL a) v i = upd (aR a) (aL a) v i
    by_cases hn : i = aL a
    · subst hn; rw [upd_s, upd_s]
    · rw [upd_n hn, upd_n hn]; exact h7 i (by omega)
  · rw [f 9 (by decide), f 10 (by decide), f 11 (by decide)]; exact h8
theorem m_tape {σ : Sto} {a : Ab} (h : InvM σ a) (hl : aL a < 160) (v v1 v2 v3 v4 v5 v6 v7 v8 : Int32) (hv : v7 + 1 = v8) :
    ∃ σ', R nM_feed 0 59 [.ref 30, .int v1, .int v2, .int v3, .int v4, .int v5, .int v6, .int v7] [.int v, .int (σ 30 6), .ref 35] σ = R nM_feed 0 32 [.ref 30, .int v1, .int v2, .int v3, .int v4, .int v5, .int v6, .int v8] [] σ' ∧ InvM σ' (fedA a v) ∧ FM σ σ' := by
  subst hv
  obtain ⟨⟨h1, h2⟩, h3, h4, h5, h6, h7, h8⟩ := h
  rw [eM_feed_59 0, h5, if_pos (ibn hl (by decide)), ixn (by omega), su_ne (show 30 ≠ 35 by decide), h5, nI_1]
  have f : Fr [30, 35] σ (su (su σ 35 (aL a) v) 30 6 (nI (aL a + 1))) := (Fr.rf.su (by decide)).su (by decide)
  have w : ∀ c, c ≠ 30 → c ≠ 35 → (su (su σ 35 (aL a) v) 30 6 (nI (aL a + 1))) c = σ c := fun c c1 c2 => by rw [su_ne c1, su_ne c2]
  refine ⟨_, rfl, ⟨⟨⟨?_, fun i hi => ?_⟩, h2.fr f (by decide) (by decide)⟩, fun hi => ?_, ?_, ?_, ?_, fun i hi => ?_, ?_⟩, f.m (by decide)⟩
  · rw [su_o (by decide), su_o (by decide), su_ne (show 30 ≠ 35 by decide), w 34 (by decide) (by decide)]
    exact h1.1
  · rw [w 31 (by decide) (by decide), w 32 (by decide) (by decide), w 33 (by decide) (by decide)]
    exact h1.2 i hi
  · unfold Img
    rw [w 38 (by decide) (by decide), w 39 (by decide) (by decide)]
    exact h3 hi
  · rw [su_o (by decide), su_ne (by decide)]; exact h4
  · rw [su_e]; rfl
  · rw [su_o (by decide), su_ne (by decide)]; exact h6
  · have hi : i < aL a + 1 := hi
    rw [su_ne (by decide), su_row]
    show upd (σ 35) (aL a) v i = upd (aR a) (aL a) v i
    by_cases hn : i = aL a
    · subst hn; rw [upd_s, upd_s]
    · rw [upd_n hn, upd_n hn]; exact h7 i (by omega)
  · rw [w 40 (by decide) (by decide), w 41 (by decide) (by decide), w 42 (by decide) (by decide)]; exact h8
def byS (x : Int32) : Bool := decide (0 ≤ x.toInt ∧ x.toInt ≤ 255)
theorem c_byte {k : Nat} {σ : Sto} (x : Int32) : C nF_isByte k [.int x] σ = some (b2 (byS x), 0, σ) := by
  have e0 : (0 : Int32).toInt = 0 := by decide
  have e5 : (255 : Int32).toInt = 255 := by decide
  rw [eF_isByte k, c_in, bs]; (try dsimp only); rw [if_pos b2_nok, e0, e5]
  rfl
theorem m_byte {k : Nat} {σ : Sto} (x : Int32) : C nM_isByte k [.int x] σ = some (b2 (byS x), 0, σ) := by
  have e0 : (0 : Int32).toInt = 0 := by decide
  have e5 : (255 : Int32).toInt = 255 := by decide
  rw [eM_isByte k, m_in, bs]; (try dsimp only); rw [if_pos b2_nok, e0, e5]
  rfl
