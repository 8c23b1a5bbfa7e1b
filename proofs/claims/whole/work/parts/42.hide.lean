theorem upd_back {f : Rw} {p : Nat} {v w : Int32} (h : f p = v) : upd (upd f p w) p v = f := by
  funext i
  by_cases hi : i = p
  · subst hi
    rw [upd_s, h]
  · rw [upd_n hi, upd_n hi]
theorem c_fetched {k : Nat} {σ : Sto} {a : Ab} {t : St} (ht : Tht σ a t) (ho : Ok (aX a) (aN a) t) {n : Nat} (hn : n < 100) : ∃ σ', C nF_fetchedInThought k [.ref 0, .int (nI n)] σ = some (manyS (aX a) t n, 0, σ') ∧ InvC σ' a ∧ FC σ σ' := by
  have L : ∀ d m σ, m + d = n → Tht σ a (hrsS (aX a) t m) → ∃ σ', R nF_fetchedInThought k 4 [.ref 0, .int (nI n), .int (manyS (aX a) t m), .int (nI m)] [] σ = some (manyS (aX a) t n, 0, σ') ∧ InvC σ' a ∧ FC σ σ' := by
    intro d
    induction d with
    | zero =>
      intro m σ hm h
      have e : m = n := by omega
      subst e
      rw [eF_fetchedInThought_4 k, if_neg (nI_nlt (by omega) (by omega))]
      exact ⟨σ, rfl, h.2, FC.rf⟩
    | succ d ih =>
      intro m σ hm h
      obtain ⟨σ1, e1, h1, f1⟩ := t_hour (k := k) h (ho.hrs m)
      obtain ⟨σ2, e2, h2, f2⟩ := ih (m + 1) σ1 (by omega) h1
      have em : manyS (aX a) t (m + 1) = if whoS (aX a) (hrsS (aX a) t m) = -1 then manyS (aX a) t m else manyS (aX a) t m + 1 := rfl
      refine ⟨σ2, ?_, h2, f1.tr f2⟩
      rw [← e2, em, eF_fetchedInThought_4 k, if_pos (nI_lt (by omega) (by omega)), e1, bs]; (try dsimp only); rw [nI_1]
      by_cases hwho : whoS (aX a) (hrsS (aX a) t m) = -1
      · rw [if_pos hwho, if_pos hwho]
      · rw [if_neg hwho, if_neg hwho]
  rw [eF_fetchedInThought k]
  exact L n 0 σ (Nat.zero_add _) ht
theorem n_fetched {k : Nat} {σ : Sto} {a : Ab} {t : St} (h : InvM σ (setT a t)) (ho : Ok (aX a) (aN a) t) {n : Nat} (hn : n < 100) : ∃ σ', C nM_fetchedIn k [.ref 30, .int (nI n)] σ = some (manyS (aX a) t n, 0, σ') ∧ InvM σ' (setT a t) ∧ FM σ σ' := by
  obtain ⟨σ1, g1, h1, f1⟩ := n_new (k := k) (t := t) ho h
  obtain ⟨σ2, g2, h2, f2, _⟩ := n_goes (k := k) h1 ho hn
  obtain ⟨σ3, g3, h3, f3⟩ := n_lays (k := k) h2 (Sam.rf.hrs n) ho.n
  rw [eM_fetchedIn k, g1, bs]; (try dsimp only); rw [g2, bs]; (try dsimp only); rw [g3, bs]
  exact ⟨σ3, rfl, h3.1, (f1.tr f2).tr f3⟩
def hidT (t : St) (p : Nat) : St := pD t (upd (rD t) p 1)
/-- who, being hidden, helps most, and how much -/
def hidS (TX : TXT) (t : St) (n : Nat) : Nat → Int32 × Int32
  | 0 => (-1, manyS TX t n)
  | m + 1 => if seenS t m = false then hidS TX t n m else if (hidS TX t n m).2 < manyS TX (hidT t m) n then (nI m, manyS TX (hidT t m) n) else hidS TX t n m
theorem s_hide {a : Ab} (hw : WfA a) (x y : Int32) : Step nF_hide nM_hide [.int x, .int y] a := by
  have ho := hw.1
  have hN := ho.n
  have e0 : (0 : Int32).toInt = 0 := by decide
  have e1 : (1 : Int32).toInt = 1 := by decide
  have e60 : (60 : Int32).toInt = 60 := by decide
  by_cases hx : 0 ≤ x.toInt ∧ x.toInt ≤ 60
  rotate_left
  · have q := in_f e0 e60 hx
    refine same hw (-2) (fun σ h => ?_) (fun σ h => ?_)
    · rw [eF_hide 0, c_in, q, bs]; (try dsimp only); rw [if_pos rfl]
      exact ⟨σ, rfl, Fr.rf⟩
    · rw [eM_hide 0, m_in, q, bs]; (try dsimp only); rw [if_pos rfl]
      exact ⟨σ, rfl, Fr.rf⟩
  have q := in_t e0 e60 hx
  by_cases hy : 0 ≤ y.toInt ∧ y.toInt ≤ 1
  rotate_left
  · have q2 := in_f e0 e1 hy
    refine same hw (-2) (fun σ h => ?_) (fun σ h => ?_)
    · rw [eF_hide 0, c_in, q, bs]; (try dsimp only); rw [if_neg n10, c_in, q2, bs]; (try dsimp only); rw [if_pos rfl]
      exact ⟨σ, rfl, Fr.rf⟩
    · rw [eM_hide 0, m_in, q, bs]; (try dsimp only); rw [if_neg n10, m_in, q2, bs]; (try dsimp only); rw [if_pos rfl]
      exact ⟨σ, rfl, Fr.rf⟩
  have q2 := in_t e0 e1 hy
  obtain ⟨n, hn, en⟩ := nI_in1 (x := x) (n := 61) (by omega) (by omega)
  subst en
  have hoH : ∀ m, Ok (aX a) (aN a) (hidT (aT a) m) := fun m => ho.pD (Or.inr rfl)
  refine think hw (if y = 0 then (hidS (aX a) (aT a) n (sN (aT a))).1 else (hidS (aX a) (aT a) n (sN (aT a))).2) (fun σ h => ?_) (fun σ h => ?_)
  · have L : ∀ d m u σ, m + d = sN (aT a) → InvC σ a → ∃ σ', R nF_hide 0 25 [.ref 0, .int (nI n), .int y, .int (hidS (aX a) (aT a) n m).2, .int (hidS (aX a) (aT a) n m).1, .int (nI m), u] [] σ =
        some (if y = 0 then (hidS (aX a) (aT a) n (sN (aT a))).1 else (hidS (aX a) (aT a) n (sN (aT a))).2, 0, σ') ∧ InvC σ' a ∧ FC σ σ' := by
      intro d
      induction d with
      | zero =>
        intro m u σ hm h
        have e : m = sN (aT a) := by omega
        subst e
        rw [eF_hide_25 0, if_neg (show ¬ nI (sN (aT a)) < σ 12 6 from by rw [h.at.1.n]; exact nI_nlt (by omega) (by omega))]
        refine ⟨σ, ?_, h, FC.rf⟩
        split <;> rfl
      | succ d ih =>
        intro m u σ hm h
        have h1 : m < sN (aT a) := by omega
        have h6 : m < 6 := by omega
        have es : hidS (aX a) (aT a) n (m + 1) = if seenS (aT a) m = false then hidS (aX a) (aT a) n m else if (hidS (aX a) (aT a) n m).2 < manyS (aX a) (hidT (aT a) m) n then (nI m, manyS (aX a) (hidT (aT a) m) n) else hidS (aX a) (aT a) n m := rfl
        rw [eF_hide_25 0, if_pos (show nI m < σ 12 6 from by rw [h.at.1.n]; exact nI_lt (by omega) (by omega)), c_seen h12 h.at.1 hN h1, bs]; (try dsimp only); rw [nI_1]
        cases g : seenS (aT a) m with
        | false =>
          rw [if_pos g] at es
          obtain ⟨σ2, g2, i2, f2⟩ := ih (m + 1) u σ (by omega) h
          rw [es] at g2
          rw [if_pos (show b2 false = 0 from rfl)]
          exact ⟨σ2, g2, i2, f2⟩
        | true =>
          rw [if_neg (by rw [g]; decide)] at es
          obtain ⟨σ1, g1, h1', f1⟩ := t_new (k := 0) hw h
          have ht : Tht (su σ1 22 m 1) a (hidT (aT a) m) := h1'.st (Fr.rf.su (by decide)) (h1'.1.sD h18)
          obtain ⟨σ2, g2, i2, f2⟩ := c_fetched (k := 0) ht (hoH m) (n := n) (by omega)
          rw [if_neg (show ¬ b2 true = 0 from n10), g1, bs]; (try dsimp only); rw [if_pos (show inb (nI m) 6 = true ∧ zb 1 = true from ⟨ib6 h6, by decide⟩), ix6 h6, g2, bs]
          have f12 := (f1.su (c := 22) (i := m) (v := 1) (by decide)).tr f2
          by_cases hlt : (hidS (aX a) (aT a) n m).2 < manyS (aX a) (hidT (aT a) m) n
          · rw [if_pos hlt] at es
            rw [if_pos hlt]
            obtain ⟨σ3, g3, i3, f3⟩ := ih (m + 1) (.int (manyS (aX a) (hidT (aT a) m) n)) σ2 (by omega) i2
            rw [es] at g3
            exact ⟨σ3, g3, i3, f12.tr f3⟩
          · rw [if_neg hlt] at es
            rw [if_neg hlt]
            obtain ⟨σ3, g3, i3, f3⟩ := ih (m + 1) (.int (manyS (aX a) (hidT (aT a) m) n)) σ2 (by omega) i2
            rw [es] at g3
            exact ⟨σ3, g3, i3, f12.tr f3⟩
    obtain ⟨σ1, g1, h1, f1⟩ := t_new (k := 0) hw h
    obtain ⟨σ2, g2, i2, f2⟩ := c_fetched (k := 0) h1 ho (n := n) (by omega)
    obtain ⟨σ3, g3, i3, f3⟩ := L (sN (aT a)) 0 .null σ2 (Nat.zero_add _) i2
    rw [eF_hide 0, c_in, q, bs]; (try dsimp only); rw [if_neg n10, c_in, q2, bs]; (try dsimp only); rw [if_neg n10, g1, bs]; (try dsimp only); rw [g2, bs]
    exact ⟨σ3, g3, i3, (f1.tr f2).tr f3⟩
  · have L : ∀ d m u σ, m + d = sN (aT a) → InvM σ a → ∃ σ', R nM_hide 0 20 [.ref 30, .int (nI n), .int y, .int (hidS (aX a) (aT a) n m).1, .int (hidS (aX a) (aT a) n m).2, .int (nI m), u] [] σ =
        some (if y = 0 then (hidS (aX a) (aT a) n (sN (aT a))).1 else (hidS (aX a) (aT a) n (sN (aT a))).2, 0, σ') ∧ InvM σ' a ∧ FM σ σ' := by
      intro d
      induction d with
      | zero =>
        intro m u σ hm h
        have e : m = sN (aT a) := by omega
        subst e
        rw [eM_hide_20 0, if_neg (show ¬ nI (sN (aT a)) < σ 30 0 from by rw [h.at.1.n]; exact nI_nlt (by omega) (by omega))]
        refine ⟨σ, ?_, h, FM.rf⟩
        split <;> rfl
      | succ d ih =>
        intro m u σ hm h
        have h1 : m < sN (aT a) := by omega
        have h6 : m < 6 := by omega
        have es : hidS (aX a) (aT a) n (m + 1) = if seenS (aT a) m = false then hidS (aX a) (aT a) n m else if (hidS (aX a) (aT a) n m).2 < manyS (aX a) (hidT (aT a) m) n then (nI m, manyS (aX a) (hidT (aT a) m) n) else hidS (aX a) (aT a) n m := rfl
        rw [eM_hide_20 0, if_pos (show nI m < σ 30 0 from by rw [h.at.1.n]; exact nI_lt (by omega) (by omega)), m_seen h.at.1 hN h1, bs]; (try dsimp only); rw [nI_1]
        cases g : seenS (aT a) m with
        | false =>
          rw [if_pos g] at es
          obtain ⟨σ2, g2, i2, f2⟩ := ih (m + 1) u σ (by omega) h
          rw [es] at g2
          rw [if_pos (show b2 false = 0 from rfl)]
          exact ⟨σ2, g2, i2, f2⟩
        | true =>
          rw [if_neg (by rw [g]; decide)] at es
          have hD : rD (aT a) m = 0 := by
            unfold seenS at g
            rw [Bool.and_eq_true, decide_eq_true_eq, decide_eq_true_eq] at g
            exact g.2
          have i18 := ibn (show 3 * m + 1 < 18 by omega) (by decide)
          have hI : InvM (su σ 33 (3 * m + 1) 1) (setT a (hidT (aT a) m)) := h.st (Fr.rf.su (by decide)) h.at.1.sD
          obtain ⟨σ2, g2, i2, f2⟩ := n_fetched (k := 0) hI (hoH m) (n := n) (by omega)
          have hI3 : InvM (su σ2 33 (3 * m + 1) 0) a := by
            have hh := InvM.st (a := setT a (hidT (aT a) m)) i2 (σ' := su σ2 33 (3 * m + 1) 0) (Fr.rf.su (by decide)) i2.at.1.sD
            have ee : setT (setT a (hidT (aT a) m)) (pD (hidT (aT a) m) (upd (rD (hidT (aT a) m)) m 0)) = a := by
              show ((((aT a).1, rK (aT a), rM (aT a), rP (aT a), upd (upd (rD (aT a)) m 1) m 0, rW (aT a)), aK a, aI a), a.2) = a
              rw [upd_back hD]
              rfl
            have hh2 : InvM (su σ2 33 (3 * m + 1) 0) (setT (setT a (hidT (aT a) m)) (pD (hidT (aT a) m) (upd (rD (hidT (aT a) m)) m 0))) := hh
            rw [ee] at hh2
            exact hh2
          have f12 : FM σ (su σ2 33 (3 * m + 1) 0) := (((FM.rf.su (c := 33) (i := 3 * m + 1) (v := 1) (by decide) (by decide)).tr f2)).su (by decide) (by decide)
          rw [if_neg (show ¬ b2 true = 0 from n10), i3, nI_1, if_pos i18, ixn (by omega), g2, bs]; (try dsimp only); rw [if_pos i18]
          by_cases hlt : (hidS (aX a) (aT a) n m).2 < manyS (aX a) (hidT (aT a) m) n
          · rw [if_pos hlt] at es
            rw [if_pos hlt, if_pos hlt]
            obtain ⟨σ3, g3, i3', f3⟩ := ih (m + 1) (.int (manyS (aX a) (hidT (aT a) m) n)) _ (by omega) hI3
            rw [es] at g3
            exact ⟨σ3, g3, i3', f12.tr f3⟩
          · rw [if_neg hlt] at es
            rw [if_neg hlt, if_neg hlt]
            obtain ⟨σ3, g3, i3', f3⟩ := ih (m + 1) (.int (manyS (aX a) (hidT (aT a) m) n)) _ (by omega) hI3
            rw [es] at g3
            exact ⟨σ3, g3, i3', f12.tr f3⟩
    obtain ⟨σ2, g2, i2, f2⟩ := n_fetched (k := 0) (t := aT a) h ho (n := n) (by omega)
    obtain ⟨σ3, g3, i3', f3⟩ := L (sN (aT a)) 0 .null σ2 (Nat.zero_add _) i2
    rw [eM_hide 0, m_in, q, bs]; (try dsimp only); rw [if_neg n10, m_in, q2, bs]; (try dsimp only); rw [if_neg n10, g2, bs]
    exact ⟨σ3, g3, i3', f2.tr f3⟩
