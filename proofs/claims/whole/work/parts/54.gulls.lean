/-! GULLS BY LOTS -/
def lotS (x : Int64) : Int64 := x * 48271 - x * 48271 / 2147483647 * 2147483647
theorem c_lot {k : Nat} {x : Int64} {σ : Sto} : C nF_lotAfter k [.long x] σ = some (0, lotS x, σ) := eF_lotAfter k x σ
theorem lot_in {x : Int64} (h1 : 0 ≤ x.toInt) (h2 : x.toInt ≤ 2147483647) : 0 ≤ (lotS x).toInt ∧ (lotS x).toInt ≤ 2147483646 := by
  have e1 : (48271 : Int64).toInt = 48271 := by decide
  have e2 : (2147483647 : Int64).toInt = 2147483647 := by decide
  have hm : (x * 48271).toInt = x.toInt * 48271 := by rw [l_mul (by rw [e1]; omega) (by rw [e1]; omega), e1]
  unfold lotS
  rw [yl_rem (by rw [hm]; omega) (by rw [e2]; omega), hm, e2]
  omega
def lotG (x : Int64) : Nat → Int64
  | 0 => x
  | n + 1 => lotS (lotS (lotG x n))
theorem lotG_in {x : Int64} (h1 : 0 ≤ x.toInt) (h2 : x.toInt ≤ 2147483647) : ∀ n, 0 ≤ (lotG x n).toInt ∧ (lotG x n).toInt ≤ 2147483647 := by
  intro n
  induction n with
  | zero => exact ⟨h1, h2⟩
  | succ n ih =>
    have a1 := lot_in ih.1 ih.2
    have a2 := lot_in a1.1 (by omega)
    exact ⟨a2.1, by have := a2.2; show (lotS (lotS (lotG x n))).toInt ≤ 2147483647; omega⟩
def whoL (x : Int64) : Nat := (x.toInt % 6).toNat
def plcL (x : Int64) : Int32 := nI (x.toInt % 64).toNat
theorem whoL_lt (x : Int64) : whoL x < 6 := by unfold whoL; omega
theorem l2i_n {x : Int64} (h1 : 0 ≤ x.toInt) (h2 : x.toInt < 2147483648) : Int64.toInt32 x = nI x.toInt.toNat := by
  rw [i_eq, Int64.toInt_toInt32, Int.bmod_eq_of_le (by omega) (by omega), nI_toInt (by omega)]
  omega
theorem who_l {x : Int64} (h1 : 0 ≤ x.toInt) : Int64.toInt32 (x - x / 6 * 6) = nI (whoL x) := by
  have e6 : (6 : Int64).toInt = 6 := by decide
  have e := yl_rem (x := x) (y := 6) h1 (by rw [e6]; omega)
  rw [e6] at e
  rw [l2i_n (by rw [e]; omega) (by rw [e]; omega), e]
  rfl
theorem plc_l {x : Int64} (h1 : 0 ≤ x.toInt) : Int64.toInt32 (x - x / 64 * 64) = plcL x := by
  have e6 : (64 : Int64).toInt = 64 := by decide
  have e := yl_rem (x := x) (y := 64) h1 (by rw [e6]; omega)
  rw [e6] at e
  rw [l2i_n (by rw [e]; omega) (by rw [e]; omega), e]
  rfl
def gulT (t : St) (w : Nat) (c : Int32) : St := if w < sN t then (if rP t w = -1 then t else pP t (upd (rP t) w c)) else t
theorem ok_gul {TX : TXT} {K : Nat} {t : St} (h : Ok TX K t) {w : Nat} {x : Int64} : Ok TX K (gulT t w (plcL x)) := by
  unfold gulT
  split
  · split
    · exact h
    · have e : (plcL x).toInt = x.toInt % 64 := by unfold plcL; rw [nI_toInt (by omega)]; omega
      exact h.pP (by omega) (by omega)
  · exact h
theorem sam_gul {t t0 : St} (h : Sam t t0) {w : Nat} {c : Int32} : Sam (gulT t w c) t0 := by
  unfold gulT
  split
  · split
    · exact h
    · exact h
  · exact h
def staG (TX : TXT) (t : St) (x : Int64) : Nat → St
  | 0 => t
  | n + 1 => hourS TX (gulT (staG TX t x n) (whoL (lotS (lotG x n))) (plcL (lotS (lotS (lotG x n)))))
def gulG (TX : TXT) (t : St) (x : Int64) (n : Nat) : St := gulT (staG TX t x n) (whoL (lotS (lotG x n))) (plcL (lotS (lotS (lotG x n))))
def manG (TX : TXT) (t : St) (x : Int64) : Nat → Nat
  | 0 => 0
  | n + 1 => if whoS TX (gulG TX t x n) = -1 then manG TX t x n else manG TX t x n + 1
theorem Ok.sta {TX : TXT} {K : Nat} {t : St} (h : Ok TX K t) {x : Int64} : ∀ n, Ok TX K (staG TX t x n) := by
  intro n
  induction n with
  | zero => exact h
  | succ n ih => exact (ok_gul ih).hour
theorem Ok.gul {TX : TXT} {K : Nat} {t : St} (h : Ok TX K t) {x : Int64} (n : Nat) : Ok TX K (gulG TX t x n) := ok_gul (h.sta n)
theorem Sam.sta {TX : TXT} {t : St} {x : Int64} : ∀ n, Sam (staG TX t x n) t := by
  intro n
  induction n with
  | zero => exact Sam.rf
  | succ n ih => exact (sam_gul ih).hour
theorem man_le {TX : TXT} {t : St} {x : Int64} : ∀ n, manG TX t x n ≤ n := by
  intro n
  induction n with
  | zero => exact Nat.le_refl _
  | succ n ih =>
    unfold manG
    split <;> omega
def seedL (s : Int32) : Int64 := Int32.toInt64 s + 1
theorem seed_in {s : Int32} (h1 : 0 ≤ s.toInt) (h2 : s.toInt ≤ 200000) : 0 ≤ (seedL s).toInt ∧ (seedL s).toInt ≤ 2147483647 := by
  have e1 : (1 : Int64).toInt = 1 := by decide
  have e : (seedL s).toInt = s.toInt + 1 := by
    unfold seedL
    rw [l_add (by rw [Int32.toInt_toInt64, e1]; omega) (by rw [Int32.toInt_toInt64, e1]; omega), Int32.toInt_toInt64, e1]
  omega
theorem c_gulL {a : Ab} (hw : WfA a) {x : Int64} (h1 : 0 ≤ x.toInt) (h2 : x.toInt ≤ 2147483647) {v1 : Int32} : ∀ d m u σ, m + d = 12 → Tht σ a (staG (aX a) (aT a) x m) →
    ∃ σ', R nF_fetchedAmongGulls 0 14 [.ref 0, .int v1, .long (lotG x m), .null, .int (nI (manG (aX a) (aT a) x m)), .int (nI m), u] [] σ = some (nI (manG (aX a) (aT a) x 12), 0, σ') ∧ Tht σ' a (staG (aX a) (aT a) x 12) ∧ FC σ σ' := by
  intro d
  induction d with
  | zero =>
    intro m u σ hm h
    have e : m = 12 := by omega
    subst e
    rw [eF_fetchedAmongGulls_14 0, if_neg (by decide)]
    exact ⟨σ, rfl, h, FC.rf⟩
  | succ d ih =>
    intro m u σ hm h
    have g0 := lotG_in h1 h2 m
    have g1 := lot_in g0.1 g0.2
    have g2 := lot_in g1.1 (by omega)
    have hok := hw.1.sta (x := x) m
    have w6 := whoL_lt (lotS (lotG x m))
    have em : manG (aX a) (aT a) x (m + 1) = if whoS (aX a) (gulG (aX a) (aT a) x m) = -1 then manG (aX a) (aT a) x m else manG (aX a) (aT a) x m + 1 := rfl
    have fin : ∀ σ1, Tht σ1 a (gulG (aX a) (aT a) x m) → ∃ σ', R nF_fetchedAmongGulls 0 50 [.ref 0, .int v1, .long (lotS (lotS (lotG x m))), .null, .int (nI (manG (aX a) (aT a) x m)), .int (nI m), .int (nI (whoL (lotS (lotG x m))))] [] σ1 =
        some (nI (manG (aX a) (aT a) x 12), 0, σ') ∧ Tht σ' a (staG (aX a) (aT a) x 12) ∧ FC σ1 σ' := by
      intro σ1 ht
      obtain ⟨σ2, e2, ht2, f2⟩ := t_hour (k := 0) ht (hw.1.gul m)
      obtain ⟨σ3, e3, ht3, f3⟩ := ih (m + 1) (.int (nI (whoL (lotS (lotG x m))))) σ2 (by omega) ht2
      refine ⟨σ3, ?_, ht3, f2.tr f3⟩
      rw [← e3, em, eF_fetchedAmongGulls_50 0, e2, bs]; (try dsimp only); rw [nI_1, nI_1]
      by_cases hwho : whoS (aX a) (gulG (aX a) (aT a) x m) = -1
      · rw [if_pos hwho, if_pos hwho]; rfl
      · rw [if_neg hwho, if_neg hwho]; rfl
    have eg : gulG (aX a) (aT a) x m = if whoL (lotS (lotG x m)) < sN (staG (aX a) (aT a) x m) then (if rP (staG (aX a) (aT a) x m) (whoL (lotS (lotG x m))) = -1 then staG (aX a) (aT a) x m else pP (staG (aX a) (aT a) x m) (upd (rP (staG (aX a) (aT a) x m)) (whoL (lotS (lotG x m))) (plcL (lotS (lotS (lotG x m)))))) else staG (aX a) (aT a) x m := rfl
    have hq : C nS_has 0 [.ref 18, .long (Int32.toInt64 (nI (whoL (lotS (lotG x m)))))] σ = some (b2 (decide (whoL (lotS (lotG x m)) < sN (staG (aX a) (aT a) x m))), 0, σ) := by
      rw [c_has32 h18 h.1 hok.n]
      congr 2
      unfold isOneS
      rw [nI_toInt (by omega), decide_eq_decide.mpr]
      omega
    rw [eF_fetchedAmongGulls_14 0, if_pos (show nI m < 12 from nI_lt (b := 12) (by omega) (by omega)), c_lot, bs]; (try dsimp only); rw [c_lot, bs]; (try dsimp only); rw [who_l g1.1, hq, bs]
    by_cases hlt : whoL (lotS (lotG x m)) < sN (staG (aX a) (aT a) x m)
    · rw [if_pos hlt] at eg
      rw [if_neg (show ¬ b2 (decide (whoL (lotS (lotG x m)) < sN (staG (aX a) (aT a) x m))) = 0 from by rw [decide_eq_true hlt]; decide), if_pos (ib6 w6), if_pos (ib6 w6), ix6 w6, plc_l g2.1]
      by_cases hp : rP (staG (aX a) (aT a) x m) (whoL (lotS (lotG x m))) = -1
      · rw [if_pos hp] at eg
        rw [if_pos (show σ 21 (whoL (lotS (lotG x m))) = -1 from (h.1.P hlt).trans hp)]
        exact fin σ (by rw [eg]; exact h)
      · rw [if_neg hp] at eg
        rw [if_neg (show ¬ σ 21 (whoL (lotS (lotG x m))) = -1 from fun e => hp ((h.1.P hlt).symm.trans e))]
        have ht : Tht (su σ 21 (whoL (lotS (lotG x m))) (plcL (lotS (lotS (lotG x m))))) a (gulG (aX a) (aT a) x m) := by
          rw [eg]
          exact h.st (Fr.rf.su (by decide)) (h.1.sP h18)
        obtain ⟨σ3, e3, ht3, f3⟩ := fin _ ht
        exact ⟨σ3, e3, ht3, (FC.rf.su (by decide)).tr f3⟩
    · rw [if_neg hlt] at eg
      rw [if_pos (show b2 (decide (whoL (lotS (lotG x m)) < sN (staG (aX a) (aT a) x m))) = 0 from by rw [decide_eq_false hlt]; decide)]
      exact fin σ (by rw [eg]; exact h)
theorem c_gulls {a : Ab} (hw : WfA a) {s : Int32} (h1 : 0 ≤ s.toInt) (h2 : s.toInt ≤ 200000) {σ : Sto} (h : InvC σ a) :
    ∃ σ', C nF_fetchedAmongGulls 0 [.ref 0, .int s] σ = some (nI (manG (aX a) (aT a) (seedL s) 12), 0, σ') ∧ Tht σ' a (staG (aX a) (aT a) (seedL s) 12) ∧ FC σ σ' := by
  obtain ⟨b1, b2⟩ := seed_in h1 h2
  obtain ⟨σ1, e1, ht1, f1⟩ := t_new (k := 0) hw h
  obtain ⟨σ2, e2, ht2, f2⟩ := c_gulL hw b1 b2 (v1 := s) 12 0 .null σ1 rfl ht1
  rw [eF_fetchedAmongGulls 0, e1, bs]
  exact ⟨σ2, e2, ht2, f1.tr f2⟩
theorem n_lays2 {k : Nat} {σ : Sto} {a : Ab} {t t0 : St} (h : Mnd σ a t t0) (hs : Sam t t0) (hN : sN t0 ≤ 6) : ∃ σ', C nM_lays k [.ref 30] σ = some (0, 0, σ') ∧ Mnd σ' a t0 t0 ∧ FM σ σ' ∧ σ' 30 = σ 30 := by
  obtain ⟨σ', e, r, f⟩ := m_lays (k := k) hN h.2 (by rw [h.at.1.n, hs.1]) (by rw [h.at.1.L, hs.2.1]) (fun i hi => by
    rw [← hs.1] at hi
    rw [h.at.1.K hi, h.at.1.M hi, hs.2.2.1, hs.2.2.2]
    exact ⟨rfl, rfl⟩)
  have fw : Fr wm σ σ' := f.mono (by decide)
  exact ⟨σ', e, h.st fw r, wmm fw, f 30 (by decide)⟩
theorem m_g11 {v1 : Int32} {v2 : Int64} {v4 v5 : Int32} {u6 : Value} {σ : Sto} : R nM_gulls 0 11 [.ref 30, .int v1, .long v2, .null, .int v4, .int v5, u6] [] σ =
    if v5 < 12 then R nM_gulls 0 31 [.ref 30, .int v1, .long (lotS (lotS v2)), .null, .int v4, .int v5, .int (Int64.toInt32 (lotS v2 - lotS v2 / 6 * 6))] [] σ
    else (C nM_overSet 0 [.ref 30] σ).bind fun r1 => (C nM_lays 0 [.ref 30] (su r1.2.2 30 31 r1.1)).bind fun r2 => some (v4, 0, r2.2.2) := by
  rw [eM_gulls_11 0, eM_gulls_20 0, eM_gulls_25 0]
  unfold lotS
  rfl
theorem m_gulL {a : Ab} (hw : WfA a) {x : Int64} (h1 : 0 ≤ x.toInt) (h2 : x.toInt ≤ 2147483647) {v1 : Int32} : ∀ d m u σ, m + d = 12 → Mnd σ a (staG (aX a) (aT a) x m) (aT a) →
    ∃ σ', R nM_gulls 0 11 [.ref 30, .int v1, .long (lotG x m), .null, .int (nI (manG (aX a) (aT a) x m)), .int (nI m), u] [] σ = some (nI (manG (aX a) (aT a) x 12), 0, σ') ∧ InvM σ' a ∧ FM σ σ' ∧ σ' 30 31 = bitsS (overS (staG (aX a) (aT a) x 12)) (sN (staG (aX a) (aT a) x 12)) := by
  intro d
  induction d with
  | zero =>
    intro m u σ hm h
    have e : m = 12 := by omega
    subst e
    have hok := hw.1.sta (x := x) 12
    obtain ⟨σ3, e3, h3, f3, g3⟩ := n_lays2 (k := 0) (h.s30 (i := 31) (v := bitsS (overS (staG (aX a) (aT a) x 12)) (sN (staG (aX a) (aT a) x 12))) (by decide)) (Sam.sta 12) hw.1.n
    rw [m_g11, if_neg (by decide), m_overSet h.at.1 hok.n, bs]; (try dsimp only); rw [e3, bs]
    exact ⟨σ3, rfl, h3.1, (FM.rf.su (by decide) (by decide)).tr f3, by rw [g3, su_row, upd_s]⟩
  | succ d ih =>
    intro m u σ hm h
    have g0 := lotG_in h1 h2 m
    have g1 := lot_in g0.1 g0.2
    have g2 := lot_in g1.1 (by omega)
    have hok := hw.1.sta (x := x) m
    have hN := hok.n
    have w6 := whoL_lt (lotS (lotG x m))
    have em : manG (aX a) (aT a) x (m + 1) = if whoS (aX a) (gulG (aX a) (aT a) x m) = -1 then manG (aX a) (aT a) x m else manG (aX a) (aT a) x m + 1 := rfl
    have fin : ∀ σ1, Mnd σ1 a (gulG (aX a) (aT a) x m) (aT a) → ∃ σ', ((C nM_hourOf 0 [.ref 30] σ1).bind fun r1 =>
          if r1.1 = (-1) then
            R nM_gulls 0 11 [.ref 30, .int v1, .long (lotS (lotS (lotG x m))), .null, .int (nI (manG (aX a) (aT a) x m) + 0), .int (nI m + 1), .int (nI (whoL (lotS (lotG x m))))] [] r1.2.2
          else
            R nM_gulls 0 11 [.ref 30, .int v1, .long (lotS (lotS (lotG x m))), .null, .int (nI (manG (aX a) (aT a) x m) + 1), .int (nI m + 1), .int (nI (whoL (lotS (lotG x m))))] [] r1.2.2) =
        some (nI (manG (aX a) (aT a) x 12), 0, σ') ∧ InvM σ' a ∧ FM σ1 σ' ∧ σ' 30 31 = bitsS (overS (staG (aX a) (aT a) x 12)) (sN (staG (aX a) (aT a) x 12)) := by
      intro σ1 ht
      obtain ⟨σ2, e2, ht2, f2, _⟩ := n_hour (k := 0) ht (hw.1.gul m)
      obtain ⟨σ3, e3, ht3, f3, g3⟩ := ih (m + 1) (.int (nI (whoL (lotS (lotG x m))))) σ2 (by omega) ht2
      refine ⟨σ3, ?_, ht3, f2.tr f3, g3⟩
      rw [← e3, em, e2, bs]; (try dsimp only); rw [nI_1, nI_1, Int32.add_zero]
      by_cases hwho : whoS (aX a) (gulG (aX a) (aT a) x m) = -1
      · rw [if_pos hwho, if_pos hwho]; rfl
      · rw [if_neg hwho, if_neg hwho]; rfl
    have eg : gulG (aX a) (aT a) x m = if whoL (lotS (lotG x m)) < sN (staG (aX a) (aT a) x m) then (if rP (staG (aX a) (aT a) x m) (whoL (lotS (lotG x m))) = -1 then staG (aX a) (aT a) x m else pP (staG (aX a) (aT a) x m) (upd (rP (staG (aX a) (aT a) x m)) (whoL (lotS (lotG x m))) (plcL (lotS (lotS (lotG x m)))))) else staG (aX a) (aT a) x m := rfl
    rw [m_g11, if_pos (show nI m < 12 from nI_lt (b := 12) (by omega) (by omega)), who_l g1.1, eM_gulls_31 0]
    by_cases hlt : whoL (lotS (lotG x m)) < sN (staG (aX a) (aT a) x m)
    · rw [if_pos hlt] at eg
      have i18 := ibn (show 3 * whoL (lotS (lotG x m)) < 18 by omega) (by decide)
      have j18 := ixn (show 3 * whoL (lotS (lotG x m)) < 2147483648 by omega)
      rw [if_pos (show nI (whoL (lotS (lotG x m))) < σ 30 0 from by rw [h.at.1.n]; exact nI_lt hlt (by omega)), m_isAt h.at.1 hN hlt, bs]; (try dsimp only); rw [i3, if_pos i18, if_pos i18, j18, plc_l g2.1]
      by_cases hp : rP (staG (aX a) (aT a) x m) (whoL (lotS (lotG x m))) = -1
      · rw [if_pos hp] at eg
        rw [if_pos (show b2 (decide (¬ rP (staG (aX a) (aT a) x m) (whoL (lotS (lotG x m))) = -1)) = 0 from by rw [hp]; decide)]
        have ht : Mnd (su σ 33 (3 * whoL (lotS (lotG x m))) (-1)) a (gulG (aX a) (aT a) x m) (aT a) := by
          have := h.st (Fr.rf.su (by decide)) (h.at.1.sP (p := whoL (lotS (lotG x m))) (v := -1))
          have eu : upd (rP (staG (aX a) (aT a) x m)) (whoL (lotS (lotG x m))) (-1) = rP (staG (aX a) (aT a) x m) := by
            funext i
            by_cases e : i = whoL (lotS (lotG x m))
            · rw [e, upd_s, hp]
            · rw [upd_n e]
          rw [eu] at this
          rw [eg]
          exact this
        obtain ⟨σ3, e3, ht3, f3, g3⟩ := fin _ ht
        exact ⟨σ3, e3, ht3, (FM.rf.su (by decide) (by decide)).tr f3, g3⟩
      · rw [if_neg hp] at eg
        rw [if_neg (show ¬ b2 (decide (¬ rP (staG (aX a) (aT a) x m) (whoL (lotS (lotG x m))) = -1)) = 0 from by rw [decide_eq_true hp]; decide)]
        have ht : Mnd (su σ 33 (3 * whoL (lotS (lotG x m))) (plcL (lotS (lotS (lotG x m))))) a (gulG (aX a) (aT a) x m) (aT a) := by
          rw [eg]
          exact h.st (Fr.rf.su (by decide)) h.at.1.sP
        obtain ⟨σ3, e3, ht3, f3, g3⟩ := fin _ ht
        exact ⟨σ3, e3, ht3, (FM.rf.su (by decide) (by decide)).tr f3, g3⟩
    · rw [if_neg hlt] at eg
      rw [if_neg (show ¬ nI (whoL (lotS (lotG x m))) < σ 30 0 from by rw [h.at.1.n]; exact nI_nlt (by omega) (by omega))]
      exact fin σ (by rw [eg]; exact h)
theorem m_gulls {a : Ab} (hw : WfA a) {s : Int32} (h1 : 0 ≤ s.toInt) (h2 : s.toInt ≤ 200000) {σ : Sto} (h : InvM σ a) :
    ∃ σ', C nM_gulls 0 [.ref 30, .int s] σ = some (nI (manG (aX a) (aT a) (seedL s) 12), 0, σ') ∧ InvM σ' a ∧ FM σ σ' ∧ σ' 30 31 = bitsS (overS (staG (aX a) (aT a) (seedL s) 12)) (sN (staG (aX a) (aT a) (seedL s) 12)) := by
  obtain ⟨b1, b2⟩ := seed_in h1 h2
  obtain ⟨σ1, e1, ht1, f1⟩ := n_new (k := 0) (t := aT a) hw.1 h
  obtain ⟨σ2, e2, ht2, f2, g2⟩ := m_gulL hw b1 b2 (v1 := s) 12 0 .null σ1 rfl ht1
  rw [eM_gulls 0, e1, bs]
  exact ⟨σ2, e2, ht2, f1.tr f2, g2⟩
theorem s_drawn {a : Ab} (hw : WfA a) (x y : Int32) : Step nF_drawn nM_drawn [.int x, .int y] a := by
  have e0 : (0 : Int32).toInt = 0 := by decide
  have e1 : (1 : Int32).toInt = 1 := by decide
  have e9 : (99999 : Int32).toInt = 99999 := by decide
  by_cases hx : 0 ≤ x.toInt ∧ x.toInt ≤ 99999
  rotate_left
  · have q := in_f e0 e9 hx
    refine same hw (-2) (fun σ h => ?_) (fun σ h => ?_)
    · rw [eF_drawn 0, c_in, q, bs]; (try dsimp only); rw [if_pos rfl]
      exact ⟨σ, rfl, Fr.rf⟩
    · rw [eM_drawn 0, m_in, q, bs]; (try dsimp only); rw [if_pos rfl]
      exact ⟨σ, rfl, Fr.rf⟩
  have q := in_t e0 e9 hx
  by_cases hy : 0 ≤ y.toInt ∧ y.toInt ≤ 1
  rotate_left
  · have q2 := in_f e0 e1 hy
    refine same hw (-2) (fun σ h => ?_) (fun σ h => ?_)
    · rw [eF_drawn 0, c_in, q, bs]; (try dsimp only); rw [if_neg n10, c_in, q2, bs]; (try dsimp only); rw [if_pos rfl]
      exact ⟨σ, rfl, Fr.rf⟩
    · rw [eM_drawn 0, m_in, q, bs]; (try dsimp only); rw [if_neg n10, m_in, q2, bs]; (try dsimp only); rw [if_pos rfl]
      exact ⟨σ, rfl, Fr.rf⟩
  have q2 := in_t e0 e1 hy
  refine think hw (if y = 0 then nI (manG (aX a) (aT a) (seedL x) 12) else bitsS (overS (staG (aX a) (aT a) (seedL x) 12)) (sN (staG (aX a) (aT a) (seedL x) 12))) (fun σ h => ?_) (fun σ h => ?_)
  · obtain ⟨σ2, g2, h2, f2⟩ := c_gulls hw hx.1 (by omega) h
    rw [eF_drawn 0, c_in, q, bs]; (try dsimp only); rw [if_neg n10, c_in, q2, bs]; (try dsimp only); rw [if_neg n10, g2, bs]
    by_cases h0 : y = 0
    · rw [if_pos h0, if_pos h0]
      exact ⟨σ2, rfl, h2.2, f2⟩
    · rw [if_neg h0, if_neg h0, c_overBits h18 h2.1 (hw.1.sta 12).n, bs]
      dsimp only
      exact ⟨σ2, rfl, h2.2, f2⟩
  · obtain ⟨σ2, g2, h2, f2, o2⟩ := m_gulls hw hx.1 (by omega) h
    rw [eM_drawn 0, m_in, q, bs]; (try dsimp only); rw [if_neg n10, m_in, q2, bs]; (try dsimp only); rw [if_neg n10, g2, bs]
    by_cases h0 : y = 0
    · rw [if_pos h0, if_pos h0]
      exact ⟨σ2, rfl, h2, f2⟩
    · rw [if_neg h0, if_neg h0]
      dsimp only
      rw [o2]
      exact ⟨σ2, rfl, h2, f2⟩
