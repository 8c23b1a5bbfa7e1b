/-! WHAT IS THOUGHT: the component's thought is a strand of its own; the model thinks in its own rows, which it keeps and lays back -/
def Tht (σ : Sto) (a : Ab) (t : St) : Prop := RepS σ 18 t ∧ InvC σ a
theorem Tht.at {σ : Sto} {a : Ab} {t : St} (h : Tht σ a t) : At σ 18 (aX a) (aN a) t := ⟨h.1, h.2.at.2⟩
theorem Tht.f6 {σ σ' : Sto} {a : Ab} {t : St} (h : Tht σ a t) (hf : Fr [6] σ σ') : Tht σ' a t := ⟨h.1.f6 h18 hf, h.2.f6 hf⟩
theorem Tht.st {σ σ' : Sto} {a : Ab} {t t' : St} (h : Tht σ a t) (hf : Fr (wr 18) σ σ') (hr : RepS σ' 18 t') : Tht σ' a t' := ⟨hr, h.2.fr hf (by decide)⟩
theorem t_new {k : Nat} {σ : Sto} {a : Ab} (hw : WfA a) (h : InvC σ a) : ∃ σ', C nS_becomes k [.ref 18, .ref 12] σ = some (0, 0, σ') ∧ Tht σ' a (aT a) ∧ FC σ σ' := by
  obtain ⟨σ', e, r, i, f⟩ := t_becomes (k := k) hw h
  exact ⟨σ', e, ⟨r.1, i⟩, f⟩
theorem t_hour {k : Nat} {σ : Sto} {a : Ab} {t : St} (h : Tht σ a t) (ho : Ok (aX a) (aN a) t) : ∃ σ', C nS_passHour k [.ref 18] σ = some (whoS (aX a) t, 0, σ') ∧ Tht σ' a (hourS (aX a) t) ∧ FC σ σ' := by
  obtain ⟨σ', e, r, f⟩ := c_hour (k := k) h18 h.at ho
  exact ⟨σ', e, h.st f r.1, f.c (by decide)⟩
def Mnd (σ : Sto) (a : Ab) (t t0 : St) : Prop := InvM σ (setT a t) ∧ K48 σ t0
theorem Mnd.at {σ : Sto} {a : Ab} {t t0 : St} (h : Mnd σ a t t0) : AtM σ (aX a) (aN a) t := h.1.at
theorem Mnd.f2 {σ σ' : Sto} {a : Ab} {t t0 : St} (h : Mnd σ a t t0) (hf : Fr [46, 47] σ σ') : Mnd σ' a t t0 := ⟨h.1.f2 hf, h.2.fr hf (by decide)⟩
theorem Mnd.st {σ σ' : Sto} {a : Ab} {t t' t0 : St} (h : Mnd σ a t t0) (hf : Fr wm σ σ') (hr : RepM σ' t') : Mnd σ' a t' t0 := ⟨h.1.st hf hr, h.2.fr hf (by decide)⟩
theorem InvM.s30 {σ : Sto} {a : Ab} (h : InvM σ a) {i : Nat} {v : Int32} (hi : 30 ≤ i) : InvM (su σ 30 i v) a := by
  have e : su σ 30 i v 30 0 = σ 30 0 := su_o (by omega)
  have e1 : su σ 30 i v 30 10 = σ 30 10 := su_o (by omega)
  have hr := h.at.1
  have hh := h.gen (l := [30]) (σ' := su σ 30 i v) (t := aT a) (Fr.rf.su (by decide)) (by decide) (su_o (by omega)) (su_o (by omega)) (su_o (by omega)) (by
    unfold RepM
    rw [e, e1, su_ne (show 31 ≠ 30 by decide), su_ne (show 32 ≠ 30 by decide), su_ne (show 33 ≠ 30 by decide), su_ne (show 34 ≠ 30 by decide)]
    exact hr)
  exact hh
theorem Mnd.s30 {σ : Sto} {a : Ab} {t t0 : St} (h : Mnd σ a t t0) {i : Nat} {v : Int32} (hi : 30 ≤ i) : Mnd (su σ 30 i v) a t t0 := ⟨h.1.s30 hi, h.2.fr (l := [30]) (Fr.rf.su (by decide)) (by decide)⟩
theorem n_new {k : Nat} {σ : Sto} {a : Ab} {t : St} (ho : Ok (aX a) (aN a) t) (h : InvM σ (setT a t)) : ∃ σ', C nM_keeps k [.ref 30] σ = some (0, 0, σ') ∧ Mnd σ' a t t ∧ FM σ σ' := by
  obtain ⟨σ', e, r, f⟩ := m_keeps (k := k) h.at.1 ho.n
  exact ⟨σ', e, ⟨h.fr f (by decide), r⟩, f.m (by decide)⟩
theorem n_hour {k : Nat} {σ : Sto} {a : Ab} {t t0 : St} (h : Mnd σ a t t0) (ho : Ok (aX a) (aN a) t) : ∃ σ', C nM_hourOf k [.ref 30] σ = some (whoS (aX a) t, 0, σ') ∧ Mnd σ' a (hourS (aX a) t) t0 ∧ FM σ σ' ∧ σ' 30 = σ 30 := by
  obtain ⟨σ', e, r, f⟩ := m_hour (k := k) h.at ho
  exact ⟨σ', e, h.st f r.1, wmm f, f 30 (by decide)⟩
/-- the same people, by kind, and the same law -/
def Sam (t t0 : St) : Prop := sN t = sN t0 ∧ sL t = sL t0 ∧ rK t = rK t0 ∧ rM t = rM t0
theorem Sam.rf {t : St} : Sam t t := ⟨rfl, rfl, rfl, rfl⟩
theorem ferry_l {TX : TXT} {t : St} : sL (ferryS TX t) = sL t := by
  unfold ferryS
  split
  · split <;> rfl
  · split <;> rfl
theorem hour_l {TX : TXT} {t : St} : sL (hourS TX t) = sL t := (congrArg (fun z => z.2.2.2.2.2) (walk_t (TX := TX) (t := ferryS TX t) (sN t))).trans ferry_l
theorem Sam.hour {TX : TXT} {t t0 : St} (h : Sam t t0) : Sam (hourS TX t) t0 := ⟨hour_n.trans h.1, hour_l.trans h.2.1, hour_K.1.trans h.2.2.1, hour_K.2.trans h.2.2.2⟩
theorem n_lays {k : Nat} {σ : Sto} {a : Ab} {t t0 : St} (h : Mnd σ a t t0) (hs : Sam t t0) (hN : sN t0 ≤ 6) : ∃ σ', C nM_lays k [.ref 30] σ = some (0, 0, σ') ∧ Mnd σ' a t0 t0 ∧ FM σ σ' := by
  obtain ⟨σ', e, r, f⟩ := m_lays (k := k) hN h.2 (by rw [h.at.1.n, hs.1]) (by rw [h.at.1.L, hs.2.1]) (fun i hi => by
    rw [← hs.1] at hi
    rw [h.at.1.K hi, h.at.1.M hi, hs.2.2.1, hs.2.2.2]
    exact ⟨rfl, rfl⟩)
  have fw : Fr wm σ σ' := f.mono (by decide)
  exact ⟨σ', e, h.st fw r, wmm fw⟩
/-- so many hours on -/
def hrsS (TX : TXT) (t : St) : Nat → St
  | 0 => t
  | n + 1 => hourS TX (hrsS TX t n)
def manyS (TX : TXT) (t : St) : Nat → Int32
  | 0 => 0
  | n + 1 => if whoS TX (hrsS TX t n) = -1 then manyS TX t n else manyS TX t n + 1
def digS (TX : TXT) (t : St) : Nat → Int32
  | 0 => 0
  | n + 1 => if whoS TX (hrsS TX t n) = -1 then digS TX t n else digS TX t n * 10 + whoS TX (hrsS TX t n) + 1
theorem Ok.hrs {TX : TXT} {K : Nat} {t : St} (h : Ok TX K t) : ∀ n, Ok TX K (hrsS TX t n) := by
  intro n
  induction n with
  | zero => exact h
  | succ n ih => exact ih.hour
theorem Sam.hrs {TX : TXT} {t t0 : St} (h : Sam t t0) : ∀ n, Sam (hrsS TX t n) t0 := by
  intro n
  induction n with
  | zero => exact h
  | succ n ih => exact ih.hour
theorem n_goes {k : Nat} {σ : Sto} {a : Ab} {t t0 : St} (h : Mnd σ a t t0) (ho : Ok (aX a) (aN a) t) {n : Nat} (hn : n < 100) : ∃ σ', C nM_goes k [.ref 30, .int (nI n)] σ = some (manyS (aX a) t n, 0, σ') ∧ Mnd σ' a (hrsS (aX a) t n) t0 ∧ FM σ σ' ∧ σ' 30 30 = digS (aX a) t n := by
  have L : ∀ d m σ u, m + d = n → Mnd σ a (hrsS (aX a) t m) t0 → σ 30 30 = digS (aX a) t m →
      ∃ σ', R nM_goes k 7 [.ref 30, .int (nI n), .int (manyS (aX a) t m), .int (nI m), u] [] σ = some (manyS (aX a) t n, 0, σ') ∧ Mnd σ' a (hrsS (aX a) t n) t0 ∧ FM σ σ' ∧ σ' 30 30 = digS (aX a) t n := by
    intro d
    induction d with
    | zero =>
      intro m σ u hm h hd
      have e : m = n := by omega
      subst e
      rw [eM_goes_7 k, if_neg (nI_nlt (by omega) (by omega))]
      exact ⟨σ, rfl, h, FM.rf, hd⟩
    | succ d ih =>
      intro m σ u hm h hd
      obtain ⟨σ1, e1, h1, f1, g1⟩ := n_hour (k := k) h (ho.hrs m)
      have em : manyS (aX a) t (m + 1) = if whoS (aX a) (hrsS (aX a) t m) = -1 then manyS (aX a) t m else manyS (aX a) t m + 1 := rfl
      have ed : digS (aX a) t (m + 1) = if whoS (aX a) (hrsS (aX a) t m) = -1 then digS (aX a) t m else digS (aX a) t m * 10 + whoS (aX a) (hrsS (aX a) t m) + 1 := rfl
      rw [eM_goes_7 k, if_pos (nI_lt (by omega) (by omega)), e1, bs]; (try dsimp only); rw [nI_1]
      have hd1 : σ1 30 30 = digS (aX a) t m := by rw [g1]; exact hd
      by_cases hwho : whoS (aX a) (hrsS (aX a) t m) = -1
      · rw [if_pos hwho, if_pos hwho, Int32.add_zero, hd1]
        rw [if_pos hwho] at em ed
        obtain ⟨σ2, e2, h2, f2, g2⟩ := ih (m + 1) (su σ1 30 30 (digS (aX a) t m)) (.int (whoS (aX a) (hrsS (aX a) t m))) (by omega) (h1.s30 (by decide)) (by rw [su_e, ed])
        rw [em] at e2
        exact ⟨σ2, e2, h2, (f1.su (by decide) (by decide)).tr f2, g2⟩
      · rw [if_neg hwho, if_neg hwho, hd1, Int32.mul_comm]
        rw [if_neg hwho] at em ed
        obtain ⟨σ2, e2, h2, f2, g2⟩ := ih (m + 1) (su σ1 30 30 (digS (aX a) t m * 10 + whoS (aX a) (hrsS (aX a) t m) + 1)) (.int (whoS (aX a) (hrsS (aX a) t m))) (by omega) (h1.s30 (by decide)) (by rw [su_e, ed])
        rw [em] at e2
        exact ⟨σ2, e2, h2, (f1.su (by decide) (by decide)).tr f2, g2⟩
  rw [eM_goes k]
  obtain ⟨σ', e, h', f, g⟩ := L n 0 (su σ 30 30 0) .null (Nat.zero_add _) (h.s30 (by decide)) su_e
  exact ⟨σ', e, h', (FM.rf.su (by decide) (by decide)).tr f, g⟩
/-- both only think: nothing is changed -/
theorem think {nx ny : Nat} {xs : List Value} {a : Ab} (hw : WfA a) (v : Int32) (h1 : ∀ σ, InvC σ a → ∃ σ', C nx 0 (.ref 0 :: xs) σ = some (v, 0, σ') ∧ InvC σ' a ∧ FC σ σ') (h2 : ∀ σ, InvM σ a → ∃ σ', C ny 0 (.ref 30 :: xs) σ = some (v, 0, σ') ∧ InvM σ' a ∧ FM σ σ') : Step nx ny xs a := ⟨(v, 0), a, hw, h1, h2⟩
theorem i64_sub {x : Int32} {c : Nat} {y : Int64} (hy : y.toInt = c) (hc : c < 100) : (Int32.toInt64 x - y).toInt = x.toInt - c := by
  have h1 := Int32.le_toInt x
  have h2 := Int32.toInt_lt x
  rw [Int64.toInt_sub, hy, Int32.toInt_toInt64, Int.bmod_eq_of_le (by omega) (by omega)]
theorem s_runL {a : Ab} (hw : WfA a) {n : Nat} (hn : n < 61) {x2 v3 v4 v5 : Int32} : ∀ d m u σ, m + d = n → Tht σ a (hrsS (aX a) (aT a) m) →
    ∃ σ' u', R nF_run 0 45 [.ref 0, .int (nI n), .int x2, .int v3, .int v4, .int v5, .int (manyS (aX a) (aT a) m), .int (digS (aX a) (aT a) m), .int (nI m), u] [] σ =
      R nF_run 0 45 [.ref 0, .int (nI n), .int x2, .int v3, .int v4, .int v5, .int (manyS (aX a) (aT a) n), .int (digS (aX a) (aT a) n), .int (nI n), u'] [] σ' ∧ Tht σ' a (hrsS (aX a) (aT a) n) ∧ FC σ σ' := by
  intro d
  induction d with
  | zero =>
    intro m u σ hm h
    have e : m = n := by omega
    subst e
    exact ⟨σ, u, rfl, h, FC.rf⟩
  | succ d ih =>
    intro m u σ hm h
    obtain ⟨σ1, e1, h1, f1⟩ := t_hour (k := 0) h (hw.1.hrs m)
    obtain ⟨σ2, u', e2, h2, f2⟩ := ih (m + 1) (.int (whoS (aX a) (hrsS (aX a) (aT a) m))) σ1 (by omega) h1
    have em : manyS (aX a) (aT a) (m + 1) = if whoS (aX a) (hrsS (aX a) (aT a) m) = -1 then manyS (aX a) (aT a) m else manyS (aX a) (aT a) m + 1 := rfl
    have ed : digS (aX a) (aT a) (m + 1) = if whoS (aX a) (hrsS (aX a) (aT a) m) = -1 then digS (aX a) (aT a) m else digS (aX a) (aT a) m * 10 + whoS (aX a) (hrsS (aX a) (aT a) m) + 1 := rfl
    refine ⟨σ2, u', ?_, h2, f1.tr f2⟩
    rw [← e2, em, ed, eF_run_45 0, if_pos (nI_lt (by omega) (by omega)), e1, bs]; (try dsimp only); rw [nI_1]
    by_cases hwho : whoS (aX a) (hrsS (aX a) (aT a) m) = -1
    · rw [if_pos hwho, if_pos hwho, if_pos hwho]
    · rw [if_neg hwho, if_neg hwho, if_neg hwho]
theorem s_run {a : Ab} (hw : WfA a) (x y : Int32) : Step nF_run nM_run [.int x, .int y] a := by
  have ho := hw.1
  have hN := ho.n
  have e0 : (0 : Int32).toInt = 0 := by decide
  have e2 : (2 : Int32).toInt = 2 := by decide
  have e60 : (60 : Int32).toInt = 60 := by decide
  have e10 : (10 : Int32).toInt = 10 := by decide
  have e20 : (20 : Int32).toInt = 20 := by decide
  have l10 := i64_sub (x := y) (c := 10) (y := 10) (by decide) (by omega)
  have l20 := i64_sub (x := y) (c := 20) (y := 20) (by decide) (by omega)
  have m10 : (9 + nI (sN (aT a))).toInt = 9 + (sN (aT a) : Int) := by rw [show (9 : Int32) + nI (sN (aT a)) = nI (9 + sN (aT a)) from nI_add 9 _, nI_toInt (by omega)]; omega
  have m20 : (19 + nI (sN (aT a))).toInt = 19 + (sN (aT a) : Int) := by rw [show (19 : Int32) + nI (sN (aT a)) = nI (19 + sN (aT a)) from nI_add 19 _, nI_toInt (by omega)]; omega
  by_cases hx : 0 ≤ x.toInt ∧ x.toInt ≤ 60
  rotate_left
  · have q := in_f e0 e60 hx
    refine same hw (-2) (fun σ h => ?_) (fun σ h => ?_)
    · rw [eF_run 0, c_in, bs]; (try dsimp only); rw [c_has h12 h.at.1 ho.n, bs]; (try dsimp only); rw [c_has h12 h.at.1 ho.n, bs]; (try dsimp only); rw [c_in, q, bs]; (try dsimp only); rw [if_pos rfl]
      exact ⟨σ, rfl, Fr.rf⟩
    · have g21 : R nM_run 0 21 [.ref 30, .int x, .int y, .null, .null] [] σ = some (-2, 0, σ) := by
        rw [eM_run_21 0, m_in, q, bs]; (try dsimp only); rw [if_pos rfl]
      rw [eM_run 0, m_in, bs]; (try dsimp only); rw [h.at.1.n, m_in, bs]; (try dsimp only); rw [m_in, bs]; (try dsimp only); rw [m_in, q, bs]; (try dsimp only); rw [g21]
      refine ⟨σ, ?_, Fr.rf⟩
      split
      · split
        · split
          · split <;> rfl
          · rfl
        · rfl
      · rfl
  have q := in_t e0 e60 hx
  obtain ⟨n, hn, en⟩ := nI_in1 (x := x) (n := 61) (by omega) (by omega)
  subst en
  have fin2 : ∀ (v : Int32), (∀ σ, InvM σ a → C nM_run 0 [.ref 30, .int (nI n), .int y] σ = R nM_run 0 21 [.ref 30, .int (nI n), .int y, .null, .null] [] σ) →
      (∀ σ3, Mnd σ3 a (hrsS (aX a) (aT a) n) (aT a) → σ3 30 30 = digS (aX a) (aT a) n → (if y = 0 then
            (C nM_lays 0 [.ref 30] σ3).bind fun r4 =>
              some (manyS (aX a) (aT a) n, (0 : Int64), r4.2.2)
          else
            if y = 1 then
              (C nM_lays 0 [.ref 30] σ3).bind fun r4 =>
                some ((σ3 30 30), 0, r4.2.2)
            else
              if y = 2 then
                (C nM_overSet 0 [.ref 30] σ3).bind fun r4 =>
                  (C nM_lays 0 [.ref 30] r4.2.2).bind fun r5 =>
                    some (r4.1, 0, r5.2.2)
              else
                if y < 20 then
                  if inb (3 * (y - 10)) 18 = true then
                    (C nM_lays 0 [.ref 30] σ3).bind fun r4 =>
                      some ((σ3 33 (3 * (y - 10)).toNatClampNeg), 0, r4.2.2)
                  else
                    none
                else
                  if inb ((3 * (y - 20)) + 2) 18 = true then
                    (C nM_lays 0 [.ref 30] σ3).bind fun r4 =>
                      some ((σ3 33 ((3 * (y - 20)) + 2).toNatClampNeg), 0, r4.2.2)
                  else
                    none) = (C nM_lays 0 [.ref 30] σ3).bind fun r4 => some (v, 0, r4.2.2)) →
      ∀ σ, InvM σ a → ∃ σ', C nM_run 0 (.ref 30 :: [.int (nI n), .int y]) σ = some (v, 0, σ') ∧ InvM σ' a ∧ FM σ σ' := by
    intro v g1 g2 σ h
    obtain ⟨σ1, e1, h1, f1⟩ := n_new (k := 0) (t := aT a) ho h
    obtain ⟨σ2, e2, h2, f2, d2⟩ := n_goes (k := 0) h1 ho (n := n) (by omega)
    obtain ⟨σ3, e3, h3, f3⟩ := n_lays (k := 0) h2 (Sam.rf.hrs n) hN
    rw [g1 σ h, eM_run_21 0, m_in, q, bs]; (try dsimp only); rw [if_neg n10, e1, bs]; (try dsimp only); rw [e2, bs]; (try dsimp only); rw [g2 σ2 h2 d2, e3, bs]
    exact ⟨σ3, rfl, h3.1, (f1.tr f2).tr f3⟩
  by_cases hA : 0 ≤ y.toInt ∧ y.toInt ≤ 2
  · have q2 := in_t e0 e2 hA
    have cls : ∀ σ, InvC σ a → ∃ σ2 u', Tht σ2 a (hrsS (aX a) (aT a) n) ∧ FC σ σ2 ∧ C nF_run 0 (.ref 0 :: [.int (nI n), .int y]) σ = (if y = 0 then some (manyS (aX a) (aT a) n, 0, σ2) else if y = 1 then some (digS (aX a) (aT a) n, 0, σ2) else (C nS_overBits 0 [.ref 18] σ2).bind fun r1 => some (r1.1, 0, r1.2.2)) ∧ u' = Value.null := by
      intro σ h
      obtain ⟨σ1, e1, h1, f1⟩ := t_new (k := 0) hw h
      obtain ⟨σ2, u', e3, h2, f2⟩ := s_runL hw hn (x2 := y) (v3 := 1) (v4 := 0) (v5 := 0) n 0 .null σ1 (Nat.zero_add _) h1
      refine ⟨σ2, _, h2, f1.tr f2, ?_, rfl⟩
      rw [eF_run 0, c_in, q2, bs]; (try dsimp only); rw [c_has h12 h.at.1 ho.n, l10, decide_eq_false (by omega), b2F, bs]; (try dsimp only); rw [c_has h12 h.at.1 ho.n, l20, decide_eq_false (by omega), b2F, bs]; (try dsimp only); rw [c_in, q, bs]; (try dsimp only); rw [if_neg n10, if_neg n10, e1, bs]
      refine e3.trans ?_
      rw [eF_run_45 0, if_neg (nI_nlt (by omega) (by omega)), if_pos rfl, if_pos rfl]
    have mg : ∀ σ, InvM σ a → C nM_run 0 [.ref 30, .int (nI n), .int y] σ = R nM_run 0 21 [.ref 30, .int (nI n), .int y, .null, .null] [] σ := by
      intro σ h
      rw [eM_run 0, m_in, q2, bs]; (try dsimp only); rw [if_neg n10]
    by_cases y0 : y = 0
    · refine think hw (manyS (aX a) (aT a) n) (fun σ h => ?_) (fin2 _ mg fun σ3 h3 d3 => by rw [if_pos y0])
      obtain ⟨σ2, _, h2, f2, e, _⟩ := cls σ h
      rw [e, if_pos y0]
      exact ⟨σ2, rfl, h2.2, f2⟩
    by_cases y1 : y = 1
    · refine think hw (digS (aX a) (aT a) n) (fun σ h => ?_) (fin2 _ mg fun σ3 h3 d3 => by rw [if_neg y0, if_pos y1, d3])
      obtain ⟨σ2, _, h2, f2, e, _⟩ := cls σ h
      rw [e, if_neg y0, if_pos y1]
      exact ⟨σ2, rfl, h2.2, f2⟩
    · have y2 : y = 2 := by
        rw [i_eq, e0] at y0
        rw [i_eq, show (1 : Int32).toInt = 1 by decide] at y1
        rw [i_eq, e2]
        omega
      have hon := ho.hrs n
      refine think hw (bitsS (overS (hrsS (aX a) (aT a) n)) (sN (hrsS (aX a) (aT a) n))) (fun σ h => ?_) (fin2 _ mg fun σ3 h3 d3 => by rw [if_neg y0, if_neg y1, if_pos y2, m_overSet h3.at.1 hon.n, bs])
      obtain ⟨σ2, _, h2, f2, e, _⟩ := cls σ h
      rw [e, if_neg y0, if_neg y1, c_overBits h18 h2.1 hon.n, bs]
      exact ⟨σ2, rfl, h2.2, f2⟩
  have q2 := in_f e0 e2 hA
  have y0 : ¬ y = 0 := fun e => hA (by rw [e]; decide)
  have y1 : ¬ y = 1 := fun e => hA (by rw [e]; decide)
  have y2 : ¬ y = 2 := fun e => hA (by rw [e]; decide)
  have hnn : sN (hrsS (aX a) (aT a) n) = sN (aT a) := (Sam.rf.hrs n).1
  by_cases hB : 10 ≤ y.toInt ∧ y.toInt ≤ 9 + (sN (aT a) : Int)
  · have q3 := in_t (hi := 9 + nI (sN (aT a))) e10 m10 hB
    obtain ⟨p, hp, ep⟩ : ∃ p, p < sN (aT a) ∧ y = nI (10 + p) := by
      refine ⟨(y.toInt - 10).toNat, by omega, ?_⟩
      rw [i_eq, nI_toInt (by omega)]
      omega
    have ey : y - 10 = nI p := by
      rw [ep, show (10 : Int32) = nI 10 from rfl, nI_subN (by omega) (by omega)]
      congr 1
      omega
    have hp2 : p < sN (hrsS (aX a) (aT a) n) := by rw [hnn]; exact hp
    refine think hw (rP (hrsS (aX a) (aT a) n) p) (fun σ h => ?_) (fin2 _ (fun σ h => ?_) fun σ3 h3 d3 => ?_)
    · obtain ⟨σ1, e1, h1, f1⟩ := t_new (k := 0) hw h
      obtain ⟨σ2, u', e3, h2, f2⟩ := s_runL hw hn (x2 := y) (v3 := 0) (v4 := 1) (v5 := 0) n 0 .null σ1 (Nat.zero_add _) h1
      refine ⟨σ2, ?_, h2.2, f1.tr f2⟩
      rw [eF_run 0, c_in, q2, bs]; (try dsimp only); rw [c_has h12 h.at.1 ho.n, l10, decide_eq_true (by omega), b2T, bs]; (try dsimp only); rw [c_has h12 h.at.1 ho.n, l20, decide_eq_false (by omega), b2F, bs]; (try dsimp only); rw [c_in, q, bs]; (try dsimp only); rw [if_neg n10, if_pos rfl, if_neg n10, e1, bs]
      refine e3.trans ?_
      rw [eF_run_45 0, if_neg (nI_nlt (by omega) (by omega)), if_neg n10, ey, if_pos (ibn (by omega) (by decide)), ixn (by omega), show σ2 21 p = _ from h2.1.P hp2]
    · rw [eM_run 0, m_in, q2, bs]; (try dsimp only); rw [if_pos rfl, h.at.1.n, m_in, q3, bs]; (try dsimp only); rw [if_neg n10]
    · have h20 : y < 20 := by rw [i_lt, e20]; omega
      rw [if_neg y0, if_neg y1, if_neg y2, if_pos h20, ey, i3, if_pos (ibn (by omega) (by decide)), ixn (by omega), h3.at.1.P hp2]
  have q3 := in_f (hi := 9 + nI (sN (aT a))) e10 m10 hB
  by_cases hC : 20 ≤ y.toInt ∧ y.toInt ≤ 19 + (sN (aT a) : Int)
  · have q4 := in_t (hi := 19 + nI (sN (aT a))) e20 m20 hC
    obtain ⟨p, hp, ep⟩ : ∃ p, p < sN (aT a) ∧ y = nI (20 + p) := by
      refine ⟨(y.toInt - 20).toNat, by omega, ?_⟩
      rw [i_eq, nI_toInt (by omega)]
      omega
    have ey : y - 20 = nI p := by
      rw [ep, show (20 : Int32) = nI 20 from rfl, nI_subN (by omega) (by omega)]
      congr 1
      omega
    have hp2 : p < sN (hrsS (aX a) (aT a) n) := by rw [hnn]; exact hp
    refine think hw (rW (hrsS (aX a) (aT a) n) p) (fun σ h => ?_) (fin2 _ (fun σ h => ?_) fun σ3 h3 d3 => ?_)
    · obtain ⟨σ1, e1, h1, f1⟩ := t_new (k := 0) hw h
      obtain ⟨σ2, u', e3, h2, f2⟩ := s_runL hw hn (x2 := y) (v3 := 0) (v4 := 0) (v5 := 1) n 0 .null σ1 (Nat.zero_add _) h1
      refine ⟨σ2, ?_, h2.2, f1.tr f2⟩
      rw [eF_run 0, c_in, q2, bs]; (try dsimp only); rw [c_has h12 h.at.1 ho.n, l10, decide_eq_false (by omega), b2F, bs]; (try dsimp only); rw [c_has h12 h.at.1 ho.n, l20, decide_eq_true (by omega), b2T, bs]; (try dsimp only); rw [c_in, q, bs]; (try dsimp only); rw [if_neg n10, if_pos rfl, if_pos rfl, if_neg n10, e1, bs]
      refine e3.trans ?_
      rw [eF_run_45 0, if_neg (nI_nlt (by omega) (by omega)), if_pos rfl, if_neg n10, ey, if_pos (ibn (by omega) (by decide)), ixn (by omega), show σ2 23 p = _ from h2.1.W hp2]
    · rw [eM_run 0, m_in, q2, bs]; (try dsimp only); rw [if_pos rfl, h.at.1.n, m_in, q3, bs]; (try dsimp only); rw [if_pos rfl, h.at.1.n, m_in, q4, bs]; (try dsimp only); rw [if_neg n10]
    · have h20 : ¬ y < 20 := by rw [i_lt, e20]; omega
      rw [if_neg y0, if_neg y1, if_neg y2, if_neg h20, ey, i3, nI_2, if_pos (ibn (by omega) (by decide)), ixn (by omega), h3.at.1.W hp2]
  have q4 := in_f (hi := 19 + nI (sN (aT a))) e20 m20 hC
  refine same hw (-2) (fun σ h => ?_) (fun σ h => ?_)
  · rw [eF_run 0, c_in, q2, bs]; (try dsimp only); rw [c_has h12 h.at.1 ho.n, l10, decide_eq_false (by omega), b2F, bs]; (try dsimp only); rw [c_has h12 h.at.1 ho.n, l20, decide_eq_false (by omega), b2F, bs]; (try dsimp only); rw [c_in, q, bs]; (try dsimp only); rw [if_neg n10, if_pos rfl, if_pos rfl, if_pos rfl]
    exact ⟨σ, rfl, Fr.rf⟩
  · rw [eM_run 0, m_in, q2, bs]; (try dsimp only); rw [if_pos rfl, h.at.1.n, m_in, q3, bs]; (try dsimp only); rw [if_pos rfl, h.at.1.n, m_in, q4, bs]; (try dsimp only); rw [if_pos rfl, m_in, q, bs]; (try dsimp only); rw [if_neg n10]
    exact ⟨σ, rfl, Fr.rf⟩
