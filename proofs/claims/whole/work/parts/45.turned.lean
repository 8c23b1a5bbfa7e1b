/-- whether the sheet tells just what comes -/
def fitS (a : Ab) (s : Nat) (t : St) : Bool := decide (othS (aX a) t (aC a s) (aZ a s) 0 = -1)
theorem fit_t {a : Ab} {s : Nat} {t : St} (h : fitS a s t = true) : othS (aX a) t (aC a s) (aZ a s) 0 = -1 := decide_eq_true_eq.mp h
theorem fit_f {a : Ab} {s : Nat} {t : St} (h : fitS a s t = false) : ¬ othS (aX a) t (aC a s) (aZ a s) 0 = -1 := decide_eq_false_iff_not.mp h
theorem bits_s (f : Nat → Bool) (m : Nat) : bitsS f (m + 1) = if f m = true then bitsS f m ||| (1 <<< (nI m &&& 31)) else bitsS f m := rfl
def trnT (t : St) (p : Nat) : St := pD t (upd (rD t) p (1 - rD t p))
theorem ok_trn {TX : TXT} {K : Nat} {t : St} (h : Ok TX K t) {p : Nat} (hp : p < sN t) : Ok TX K (trnT t p) := by
  refine h.pD ?_
  rcases h.hid hp with g | g
  · rw [g]; exact Or.inr (by decide)
  · rw [g]; exact Or.inl (by decide)
theorem s_turned {a : Ab} (hw : WfA a) (x : Int32) : Step nF_turned nM_turned [.int x] a := by
  have ho := hw.1
  have hN := ho.n
  obtain ⟨w, w1, w2, w3⟩ := wrongs hw x
  by_cases h0 : w = 0
  rotate_left
  · refine same hw w (fun σ h => ?_) (fun σ h => ?_)
    · rw [eF_turned 0, w1 σ h, bs]; (try dsimp only); rw [if_neg h0]
      exact ⟨σ, rfl, Fr.rf⟩
    · rw [eM_turned 0, w2 σ h, bs]; (try dsimp only); rw [if_neg h0]
      exact ⟨σ, rfl, Fr.rf⟩
  obtain ⟨s, hs, es, hne, hz⟩ := w3 h0
  subst es
  refine think hw (bitsS (fun p => fitS a s (trnT (aT a) p)) (sN (aT a))) (fun σ h => ?_) (fun σ h => ?_)
  · have L : ∀ d m σ, m + d = sN (aT a) → InvC σ a → ∃ σ', R nF_turned 0 12 [.ref 0, .int (nI s), .int w, .int (bitsS (fun p => fitS a s (trnT (aT a) p)) m), .int (nI m)] [] σ = some (bitsS (fun p => fitS a s (trnT (aT a) p)) (sN (aT a)), 0, σ') ∧ InvC σ' a ∧ FC σ σ' := by
      intro d
      induction d with
      | zero =>
        intro m σ hm h
        have e : m = sN (aT a) := by omega
        subst e
        rw [eF_turned_12 0, if_neg (show ¬ nI (sN (aT a)) < σ 12 6 from by rw [h.at.1.n]; exact nI_nlt (by omega) (by omega))]
        exact ⟨σ, rfl, h, FC.rf⟩
      | succ d ih =>
        intro m σ hm h
        have h1 : m < sN (aT a) := by omega
        have h6 : m < 6 := by omega
        obtain ⟨σ1, g1, h1', f1⟩ := t_new (k := 0) hw h
        have ht : Tht (su σ1 22 m (1 - rD (aT a) m)) a (trnT (aT a) m) := h1'.st (Fr.rf.su (by decide)) (h1'.1.sD h18)
        obtain ⟨σ2, g2, i2, f2⟩ := c_other hw hs hne ht (ok_trn ho h1)
        have f12 := (f1.su (c := 22) (i := m) (v := 1 - rD (aT a) m) (by decide)).tr f2
        obtain ⟨σ3, g3, i3, f3⟩ := ih (m + 1) σ2 (by omega) i2
        rw [bits_s] at g3
        have fin : ∃ σ', (C nF_firstOtherwise 0 [.ref 0, .int (nI s)] (su σ1 22 m (1 - rD (aT a) m))).bind (fun r2 =>
              if r2.1 = (-1) then
                R nF_turned 0 12 [.ref 0, .int (nI s), .int w, .int ((bitsS (fun p => fitS a s (trnT (aT a) p)) m) ||| (1 <<< (nI m &&& 31))), .int (nI (m + 1))] [] r2.2.2
              else
                R nF_turned 0 12 [.ref 0, .int (nI s), .int w, .int (bitsS (fun p => fitS a s (trnT (aT a) p)) m), .int (nI (m + 1))] [] r2.2.2) = some (bitsS (fun p => fitS a s (trnT (aT a) p)) (sN (aT a)), 0, σ') ∧ InvC σ' a ∧ FC σ σ' := by
          rw [g2, bs]
          refine ⟨σ3, ?_, i3, f12.tr f3⟩
          rcases Bool.eq_false_or_eq_true (fitS a s (trnT (aT a) m)) with g | g
          · rw [if_pos g] at g3
            rw [if_pos (fit_t g)]
            exact g3
          · rw [if_neg (by rw [g]; decide)] at g3
            rw [if_neg (fit_f g)]
            exact g3
        rw [eF_turned_12 0, if_pos (show nI m < σ 12 6 from by rw [h.at.1.n]; exact nI_lt (by omega) (by omega)), g1, bs]; (try dsimp only); rw [if_pos (ib6 h6), ix6 h6, nI_1]
        have gd : σ1 16 m = rD (aT a) m := h1'.2.at.1.D h1
        rcases ho.hid h1 with g | g
        · rw [if_pos (show σ1 16 m = 0 from gd.trans g), if_pos (show inb (nI m) 6 = true ∧ zb 1 = true from ⟨ib6 h6, by decide⟩)]
          rw [g] at fin
          exact fin
        · rw [if_neg (show ¬ σ1 16 m = 0 from by rw [gd, g]; decide), if_pos (show inb (nI m) 6 = true ∧ zb 0 = true from ⟨ib6 h6, by decide⟩)]
          rw [g] at fin
          exact fin
    rw [eF_turned 0, w1 σ h, bs]; (try dsimp only); rw [if_pos h0]
    exact L (sN (aT a)) 0 σ (Nat.zero_add _) h
  · have L : ∀ d m σ, m + d = sN (aT a) → InvM σ a → ∃ σ', R nM_turned 0 12 [.ref 30, .int (nI s), .int w, .int (bitsS (fun p => fitS a s (trnT (aT a) p)) m), .int (nI m)] [] σ = some (bitsS (fun p => fitS a s (trnT (aT a) p)) (sN (aT a)), 0, σ') ∧ InvM σ' a ∧ FM σ σ' := by
      intro d
      induction d with
      | zero =>
        intro m σ hm h
        have e : m = sN (aT a) := by omega
        subst e
        rw [eM_turned_12 0, if_neg (show ¬ nI (sN (aT a)) < σ 30 0 from by rw [h.at.1.n]; exact nI_nlt (by omega) (by omega))]
        exact ⟨σ, rfl, h, FM.rf⟩
      | succ d ih =>
        intro m σ hm h
        have h1 : m < sN (aT a) := by omega
        have i18 := ibn (show 3 * m + 1 < 18 by omega) (by decide)
        have j18 := ixn (show 3 * m + 1 < 2147483648 by omega)
        have gd : σ 33 (3 * m + 1) = rD (aT a) m := h.at.1.D h1
        have hI : InvM (su σ 33 (3 * m + 1) (1 - rD (aT a) m)) (setT a (trnT (aT a) m)) := h.st (Fr.rf.su (by decide)) h.at.1.sD
        obtain ⟨σ2, g2, i2, f2⟩ := n_unlike (t := trnT (aT a) m) hw hs hne hI (ok_trn ho h1)
        have gd2 : σ2 33 (3 * m + 1) = 1 - rD (aT a) m := (i2.at.1.D (p := m) h1).trans upd_s
        have hI3 : InvM (su σ2 33 (3 * m + 1) (1 - (1 - rD (aT a) m))) a := by
          have hh : InvM (su σ2 33 (3 * m + 1) (1 - (1 - rD (aT a) m))) (setT (setT a (trnT (aT a) m)) (pD (trnT (aT a) m) (upd (rD (trnT (aT a) m)) m (1 - (1 - rD (aT a) m))))) := InvM.st (a := setT a (trnT (aT a) m)) i2 (Fr.rf.su (by decide)) i2.at.1.sD
          have e11 : 1 - (1 - rD (aT a) m) = rD (aT a) m := by
            rcases ho.hid h1 with g | g
            · rw [g]; decide
            · rw [g]; decide
          have ee : setT (setT a (trnT (aT a) m)) (pD (trnT (aT a) m) (upd (rD (trnT (aT a) m)) m (1 - (1 - rD (aT a) m)))) = a := by
            show ((((aT a).1, rK (aT a), rM (aT a), rP (aT a), upd (upd (rD (aT a)) m (1 - rD (aT a) m)) m (1 - (1 - rD (aT a) m)), rW (aT a)), aK a, aI a), a.2) = a
            rw [e11, upd_back rfl]
            rfl
          rw [ee] at hh
          exact hh
        have f12 : FM σ (su σ2 33 (3 * m + 1) (1 - (1 - rD (aT a) m))) := (((FM.rf.su (c := 33) (i := 3 * m + 1) (v := 1 - rD (aT a) m) (by decide) (by decide)).tr f2)).su (by decide) (by decide)
        obtain ⟨σ3, g3, i3', f3⟩ := ih (m + 1) _ (by omega) hI3
        rw [bits_s] at g3
        rw [eM_turned_12 0, if_pos (show nI m < σ 30 0 from by rw [h.at.1.n]; exact nI_lt (by omega) (by omega)), i3, nI_1, nI_1, if_pos i18, if_pos i18, j18, gd, g2, bs]; (try dsimp only); rw [if_pos i18, if_pos i18, if_pos i18, if_pos i18, gd2]
        refine ⟨σ3, ?_, i3', f12.tr f3⟩
        rcases Bool.eq_false_or_eq_true (fitS a s (trnT (aT a) m)) with g | g
        · rw [if_pos g] at g3
          rw [if_pos (fit_t g)]
          exact g3
        · rw [if_neg (by rw [g]; decide)] at g3
          rw [if_neg (fit_f g), Int32.or_zero]
          exact g3
    rw [eM_turned 0, w2 σ h, bs]; (try dsimp only); rw [if_pos h0]
    exact L (sN (aT a)) 0 σ (Nat.zero_add _) h
theorem InvM.law {σ : Sto} {a : Ab} {t : St} (h : InvM σ (setT a t)) {l : Nat} : InvM (su σ 30 10 (nI l)) (setT a (uL t l)) :=
  InvM.gen (a := setT a t) h (l := [30]) (Fr.rf.su (by decide)) (by decide) (su_o (by decide)) (su_o (by decide)) (su_o (by decide)) h.at.1.sL
theorem s_laws {a : Ab} (hw : WfA a) (x : Int32) : Step nF_laws nM_laws [.int x] a := by
  have ho := hw.1
  have hK := ho.2.2.1
  obtain ⟨w, w1, w2, w3⟩ := wrongs hw x
  by_cases h0 : w = 0
  rotate_left
  · refine same hw w (fun σ h => ?_) (fun σ h => ?_)
    · rw [eF_laws 0, w1 σ h, bs]; (try dsimp only); rw [if_neg h0]
      exact ⟨σ, rfl, Fr.rf⟩
    · rw [eM_laws 0, w2 σ h, bs]; (try dsimp only); rw [if_neg h0]
      exact ⟨σ, rfl, Fr.rf⟩
  obtain ⟨s, hs, es, hne, hz⟩ := w3 h0
  subst es
  refine think hw (bitsS (fun l => fitS a s (uL (aT a) l)) (aN a)) (fun σ h => ?_) (fun σ h => ?_)
  · have L : ∀ d m σ, m + d = aN a → InvC σ a → ∃ σ', R nF_laws 0 12 [.ref 0, .int (nI s), .int w, .int (bitsS (fun l => fitS a s (uL (aT a) l)) m), .int (nI m)] [] σ = some (bitsS (fun l => fitS a s (uL (aT a) l)) (aN a), 0, σ') ∧ InvC σ' a ∧ FC σ σ' := by
      intro d
      induction d with
      | zero =>
        intro m σ hm h
        have e : m = aN a := by omega
        subst e
        rw [eF_laws_12 0, if_neg (show ¬ nI (aN a) < σ 2 4 from by rw [h.2.2.1]; exact nI_nlt (by omega) (by omega))]
        exact ⟨σ, rfl, h, FC.rf⟩
      | succ d ih =>
        intro m σ hm h
        obtain ⟨σ1, g1, h1', f1⟩ := t_new (k := 0) hw h
        have ht : Tht (su σ1 18 11 (nI m)) a (uL (aT a) m) := h1'.st (Fr.rf.su (by decide)) h1'.1.s11
        obtain ⟨σ2, g2, i2, f2⟩ := c_other hw hs hne ht (Ok.uL ho (by omega))
        have f12 := (f1.su (c := 18) (i := 11) (v := nI m) (by decide)).tr f2
        obtain ⟨σ3, g3, i3, f3⟩ := ih (m + 1) σ2 (by omega) i2
        rw [bits_s] at g3
        rw [eF_laws_12 0, if_pos (show nI m < σ 2 4 from by rw [h.2.2.1]; exact nI_lt (by omega) (by omega)), g1, bs]; (try dsimp only); rw [g2, bs]; (try dsimp only); rw [nI_1]
        refine ⟨σ3, ?_, i3, f12.tr f3⟩
        rcases Bool.eq_false_or_eq_true (fitS a s (uL (aT a) m)) with g | g
        · rw [if_pos g] at g3
          rw [if_pos (fit_t g)]
          exact g3
        · rw [if_neg (by rw [g]; decide)] at g3
          rw [if_neg (fit_f g)]
          exact g3
    rw [eF_laws 0, w1 σ h, bs]; (try dsimp only); rw [if_pos h0]
    exact L (aN a) 0 σ (Nat.zero_add _) h
  · have L : ∀ d m l' σ, m + d = aN a → InvM σ (setT a (uL (aT a) l')) → ∃ σ', R nM_laws 0 15 [.ref 30, .int (nI s), .int w, .int (nI (sL (aT a))), .int (bitsS (fun l => fitS a s (uL (aT a) l)) m), .int (nI m)] [] σ = some (bitsS (fun l => fitS a s (uL (aT a) l)) (aN a), 0, σ') ∧ InvM σ' a ∧ FM σ σ' := by
      intro d
      induction d with
      | zero =>
        intro m l' σ hm h
        have e : m = aN a := by omega
        subst e
        rw [eM_laws_15 0, if_neg (show ¬ nI (aN a) < σ 30 9 from by rw [show σ 30 9 = nI (aN a) from h.2.2.1]; exact nI_nlt (by omega) (by omega))]
        exact ⟨_, rfl, h.law (l := sL (aT a)), FM.rf.su (by decide) (by decide)⟩
      | succ d ih =>
        intro m l' σ hm h
        have hI : InvM (su σ 30 10 (nI m)) (setT a (uL (aT a) m)) := h.law (l := m)
        obtain ⟨σ2, g2, i2, f2⟩ := n_unlike (t := uL (aT a) m) hw hs hne hI (Ok.uL ho (by omega))
        have f12 := (FM.rf.su (c := 30) (i := 10) (v := nI m) (by decide) (by decide)).tr f2
        obtain ⟨σ3, g3, i3', f3⟩ := ih (m + 1) m σ2 (by omega) i2
        rw [bits_s] at g3
        rw [eM_laws_15 0, if_pos (show nI m < σ 30 9 from by rw [show σ 30 9 = nI (aN a) from h.2.2.1]; exact nI_lt (by omega) (by omega)), g2, bs]; (try dsimp only); rw [nI_1]
        refine ⟨σ3, ?_, i3', f12.tr f3⟩
        rcases Bool.eq_false_or_eq_true (fitS a s (uL (aT a) m)) with g | g
        · rw [if_pos g] at g3
          rw [if_pos (fit_t g)]
          exact g3
        · rw [if_neg (by rw [g]; decide)] at g3
          rw [if_neg (fit_f g), Int32.or_zero]
          exact g3
    rw [eM_laws 0, w2 σ h, bs]; (try dsimp only); rw [if_pos h0, h.at.1.L]
    exact L (aN a) 0 (sL (aT a)) σ (Nat.zero_add _) h
