theorem upd_upd {f : Rw} {p : Nat} {v w : Int32} : upd (upd f p w) p v = upd f p v := by
  funext i
  by_cases hi : i = p
  · subst hi
    rw [upd_s, upd_s]
  · rw [upd_n hi, upd_n hi, upd_n hi]
theorem upd_same {f : Rw} {p : Nat} {v : Int32} (h : f p = v) : upd f p v = f := by
  funext i
  by_cases hi : i = p
  · subst hi
    rw [upd_s, h]
  · rw [upd_n hi]
def bitsL (f : Nat → Bool) : Nat → Int64
  | 0 => 0
  | m + 1 => if f m = true then bitsL f m ||| (1 <<< (Int32.toInt64 (nI m) &&& 63)) else bitsL f m
theorem bits_l (f : Nat → Bool) (m : Nat) : bitsL f (m + 1) = if f m = true then bitsL f m ||| (1 <<< (Int32.toInt64 (nI m) &&& 63)) else bitsL f m := rfl
def plcT (t : St) (p : Nat) (v : Int32) : St := pP t (upd (rP t) p v)
theorem InvM.plc {σ : Sto} {a : Ab} {t : St} {p : Nat} {v : Int32} (h : InvM σ (setT a (plcT t p v))) {w : Int32} : InvM (su σ 33 (3 * p) w) (setT a (plcT t p w)) := by
  have hh : InvM (su σ 33 (3 * p) w) (setT (setT a (plcT t p v)) (pP (plcT t p v) (upd (rP (plcT t p v)) p w))) := InvM.st (a := setT a (plcT t p v)) h (Fr.rf.su (by decide)) h.at.1.sP
  have ee : pP (plcT t p v) (upd (rP (plcT t p v)) p w) = plcT t p w := by
    show (t.1, rK t, rM t, upd (upd (rP t) p v) p w, rD t, rW t) = (t.1, rK t, rM t, upd (rP t) p w, rD t, rW t)
    rw [upd_upd]
  rw [ee] at hh
  exact hh
theorem plc_same {t : St} {p : Nat} : plcT t p (rP t p) = t := by
  show (t.1, rK t, rM t, upd (rP t) p (rP t p), rD t, rW t) = t
  rw [upd_same rfl]
  rfl
theorem s_places {a : Ab} (hw : WfA a) (x y : Int32) : Step nF_places nM_places [.int x, .int y] a := by
  have ho := hw.1
  have hN := ho.n
  obtain ⟨w, w1, w2, w3⟩ := wrongs hw x
  by_cases h0 : w = 0
  rotate_left
  · refine ⟨(0, -4611686018427387904), a, hw, fun σ h => ?_, fun σ h => ?_⟩
    · rw [eF_places 0, w1 σ h, bs]; (try dsimp only); rw [if_neg h0]
      exact ⟨σ, rfl, h, FC.rf⟩
    · rw [eM_places 0, w2 σ h, bs]; (try dsimp only); rw [if_neg h0]
      exact ⟨σ, rfl, h, FM.rf⟩
  obtain ⟨s, hs, es, hne, hz⟩ := w3 h0
  subst es
  cases hx : isOneS (aT a) y with
  | false =>
    refine ⟨(0, -4611686018427387904), a, hw, fun σ h => ?_, fun σ h => ?_⟩
    · rw [eF_places 0, w1 σ h, bs]; (try dsimp only); rw [if_pos h0, c_has32 h12 h.at.1 hN, bs]; (try dsimp only); rw [hx, b2F, if_pos rfl]
      exact ⟨σ, rfl, h, FC.rf⟩
    · rw [eM_places 0, w2 σ h, bs]; (try dsimp only); rw [if_pos h0, m_one h.at.1 hN, bs]; (try dsimp only); rw [hx, b2F, if_pos rfl]
      exact ⟨σ, rfl, h, FM.rf⟩
  | true =>
  obtain ⟨p, hp, ep⟩ := one_of hN hx
  subst ep
  have h6 : p < 6 := by omega
  have i18 := ibn (show 3 * p < 18 by omega) (by decide)
  have j18 := ixn (show 3 * p < 2147483648 by omega)
  by_cases hat : rP (aT a) p = -1
  · refine ⟨(0, -4611686018427387904), a, hw, fun σ h => ?_, fun σ h => ?_⟩
    · rw [eF_places 0, w1 σ h, bs]; (try dsimp only); rw [if_pos h0, c_has32 h12 h.at.1 hN, bs]; (try dsimp only); rw [hx, b2T, if_neg n10, if_pos (ib6 h6), ix6 h6, if_pos (show σ 15 p = -1 from (h.at.1.P hp).trans hat)]
      exact ⟨σ, rfl, h, FC.rf⟩
    · rw [eM_places 0, w2 σ h, bs]; (try dsimp only); rw [if_pos h0, m_one h.at.1 hN, bs]; (try dsimp only); rw [hx, b2T, if_neg n10, i3, if_pos i18, j18, if_pos (show σ 33 (3 * p) = -1 from (h.at.1.P hp).trans hat)]
      exact ⟨σ, rfl, h, FM.rf⟩
  have hok : ∀ c, c < 64 → Ok (aX a) (aN a) (plcT (aT a) p (nI c)) := fun c hc => by
    have e : (nI c).toInt = (c : Int) := nI_toInt (by omega)
    exact Ok.pP ho (by omega) (by omega)
  refine ⟨(0, bitsL (fun c => fitS a s (plcT (aT a) p (nI c))) 64), a, hw, fun σ h => ?_, fun σ h => ?_⟩
  · have L : ∀ d m σ, m + d = 64 → InvC σ a → ∃ σ', R nF_places 0 23 [.ref 0, .int (nI s), .int (nI p), .long (bitsL (fun c => fitS a s (plcT (aT a) p (nI c))) m), .null, .int (nI m)] [] σ = some (0, bitsL (fun c => fitS a s (plcT (aT a) p (nI c))) 64, σ') ∧ InvC σ' a ∧ FC σ σ' := by
      intro d
      induction d with
      | zero =>
        intro m σ hm h
        have e : m = 64 := by omega
        subst e
        rw [eF_places_23 0, if_neg (by decide)]
        exact ⟨σ, rfl, h, FC.rf⟩
      | succ d ih =>
        intro m σ hm h
        obtain ⟨σ1, g1, h1', f1⟩ := t_new (k := 0) hw h
        have ht : Tht (su σ1 21 p (nI m)) a (plcT (aT a) p (nI m)) := h1'.st (Fr.rf.su (by decide)) (h1'.1.sP h18)
        obtain ⟨σ2, g2, i2, f2⟩ := c_other hw hs hne ht (hok m (by omega))
        have f12 := (f1.su (c := 21) (i := p) (v := nI m) (by decide)).tr f2
        obtain ⟨σ3, g3, i3, f3⟩ := ih (m + 1) σ2 (by omega) i2
        rw [bits_l] at g3
        rw [eF_places_23 0, if_pos (show nI m < 64 from nI_lt (b := 64) (by omega) (by omega)), g1, bs]; (try dsimp only); rw [if_pos (ib6 h6), ix6 h6, g2, bs]; (try dsimp only); rw [nI_1]
        refine ⟨σ3, ?_, i3, f12.tr f3⟩
        rcases Bool.eq_false_or_eq_true (fitS a s (plcT (aT a) p (nI m))) with g | g
        · rw [if_pos g] at g3
          rw [if_pos (fit_t g)]
          exact g3
        · rw [if_neg (by rw [g]; decide)] at g3
          rw [if_neg (fit_f g)]
          exact g3
    rw [eF_places 0, w1 σ h, bs]; (try dsimp only); rw [if_pos h0, c_has32 h12 h.at.1 hN, bs]; (try dsimp only); rw [hx, b2T, if_neg n10, if_pos (ib6 h6), ix6 h6, if_neg (show ¬ σ 15 p = -1 from fun e => hat ((h.at.1.P hp).symm.trans e))]
    exact L 64 0 σ rfl h
  · have L : ∀ d m v σ, m + d = 64 → InvM σ (setT a (plcT (aT a) p v)) → ∃ σ', R nM_places 0 26 [.ref 30, .int (nI s), .int (nI p), .int (rP (aT a) p), .long (bitsL (fun c => fitS a s (plcT (aT a) p (nI c))) m), .null, .int (nI m)] [] σ = some (0, bitsL (fun c => fitS a s (plcT (aT a) p (nI c))) 64, σ') ∧ InvM σ' a ∧ FM σ σ' := by
      intro d
      induction d with
      | zero =>
        intro m v σ hm h
        have e : m = 64 := by omega
        subst e
        rw [eM_places_26 0, if_neg (by decide), i3, if_pos i18, j18]
        have hh := h.plc (w := rP (aT a) p)
        rw [plc_same] at hh
        exact ⟨_, rfl, hh, FM.rf.su (by decide) (by decide)⟩
      | succ d ih =>
        intro m v σ hm h
        have hI := h.plc (w := nI m)
        obtain ⟨σ2, g2, i2, f2⟩ := n_unlike (t := plcT (aT a) p (nI m)) hw hs hne hI (hok m (by omega))
        have f12 := (FM.rf.su (c := 33) (i := 3 * p) (v := nI m) (by decide) (by decide)).tr f2
        obtain ⟨σ3, g3, i3', f3⟩ := ih (m + 1) (nI m) σ2 (by omega) i2
        rw [bits_l] at g3
        rw [eM_places_26 0, if_pos (show nI m < 64 from nI_lt (b := 64) (by omega) (by omega)), i3, if_pos i18, j18, g2, bs]; (try dsimp only); rw [nI_1]
        refine ⟨σ3, ?_, i3', f12.tr f3⟩
        rcases Bool.eq_false_or_eq_true (fitS a s (plcT (aT a) p (nI m))) with g | g
        · rw [if_pos g] at g3
          rw [if_pos (fit_t g)]
          exact g3
        · rw [if_neg (by rw [g]; decide)] at g3
          rw [if_neg (fit_f g), Int64.or_zero]
          exact g3
    rw [eM_places 0, w2 σ h, bs]; (try dsimp only); rw [if_pos h0, m_one h.at.1 hN, bs]; (try dsimp only); rw [hx, b2T, if_neg n10, i3, if_pos i18, j18, if_neg (show ¬ σ 33 (3 * p) = -1 from fun e => hat ((h.at.1.P hp).symm.trans e)), h.at.1.P hp]
    exact L 64 0 (rP (aT a) p) σ rfl (by rw [plc_same]; exact h)
/-! KINDS -/
def kmT (t : St) (p : Nat) (v w : Int32) : St := pM (pK t (upd (rK t) p v)) (upd (rM t) p w)
theorem InvM.km {σ : Sto} {a : Ab} {t : St} {p : Nat} {v w : Int32} (h : InvM σ (setT a (kmT t p v w))) {v' w' : Int32} : InvM (su (su σ 31 p v') 32 p w') (setT a (kmT t p v' w')) := by
  have r := (h.at.1.sK (p := p) (v := v')).sM (p := p) (v := w')
  have ee : pM (pK (kmT t p v w) (upd (rK (kmT t p v w)) p v')) (upd (rM (pK (kmT t p v w) (upd (rK (kmT t p v w)) p v'))) p w') = kmT t p v' w' := by
    show (t.1, upd (upd (rK t) p v) p v', upd (upd (rM t) p w) p w', rP t, rD t, rW t) = (t.1, upd (rK t) p v', upd (rM t) p w', rP t, rD t, rW t)
    rw [upd_upd, upd_upd]
  have hh := InvM.gen (a := setT a (kmT t p v w)) h (l := [31, 32]) (σ' := su (su σ 31 p v') 32 p w') ((Fr.rf.su (by decide)).su (by decide)) (by decide) (by rw [su_ne (by decide), su_ne (by decide)]) (by rw [su_ne (by decide), su_ne (by decide)]) (by rw [su_ne (by decide), su_ne (by decide)]) r
  have hh2 : InvM (su (su σ 31 p v') 32 p w') (setT a (pM (pK (kmT t p v w) (upd (rK (kmT t p v w)) p v')) (upd (rM (pK (kmT t p v w) (upd (rK (kmT t p v w)) p v'))) p w'))) := hh
  rw [ee] at hh2
  exact hh2
theorem km_same {t : St} {p : Nat} : kmT t p (rK t p) (rM t p) = t := by
  show (t.1, upd (rK t) p (rK t p), upd (rM t) p (rM t p), rP t, rD t, rW t) = t
  rw [upd_same rfl, upd_same rfl]
  rfl
theorem km_K {t : St} {p : Nat} {v : Int32} : kmT t p v (rM t p) = pK t (upd (rK t) p v) := by
  show (t.1, upd (rK t) p v, upd (rM t) p (rM t p), rP t, rD t, rW t) = (t.1, upd (rK t) p v, rM t, rP t, rD t, rW t)
  rw [upd_same rfl]
theorem km_M {t : St} {p : Nat} {v : Int32} : kmT t p (rK t p) v = pM t (upd (rM t) p v) := by
  show (t.1, upd (rK t) p (rK t p), upd (rM t) p v, rP t, rD t, rW t) = (t.1, rK t, upd (rM t) p v, rP t, rD t, rW t)
  rw [upd_same rfl]
theorem s_kinds {a : Ab} (hw : WfA a) (x y z : Int32) : Step nF_kinds nM_kinds [.int x, .int y, .int z] a := by
  have ho := hw.1
  have hN := ho.n
  have e0 : (0 : Int32).toInt = 0 := by decide
  have e1 : (1 : Int32).toInt = 1 := by decide
  obtain ⟨w, w1, w2, w3⟩ := wrongs hw x
  by_cases h0 : w = 0
  rotate_left
  · refine same hw w (fun σ h => ?_) (fun σ h => ?_)
    · rw [eF_kinds 0, w1 σ h, bs]; (try dsimp only); rw [if_neg h0]
      exact ⟨σ, rfl, Fr.rf⟩
    · rw [eM_kinds 0, w2 σ h, bs]; (try dsimp only); rw [if_neg h0]
      exact ⟨σ, rfl, Fr.rf⟩
  obtain ⟨s, hs, es, hne, hz⟩ := w3 h0
  subst es
  cases hx : isOneS (aT a) y with
  | false =>
    refine same hw (-5) (fun σ h => ?_) (fun σ h => ?_)
    · rw [eF_kinds 0, w1 σ h, bs]; (try dsimp only); rw [if_pos h0, c_has32 h12 h.at.1 hN, bs]; (try dsimp only); rw [hx, b2F, if_pos rfl]
      exact ⟨σ, rfl, Fr.rf⟩
    · rw [eM_kinds 0, w2 σ h, bs]; (try dsimp only); rw [if_pos h0, m_one h.at.1 hN, bs]; (try dsimp only); rw [hx, b2F, if_pos rfl]
      exact ⟨σ, rfl, Fr.rf⟩
  | true =>
  obtain ⟨p, hp, ep⟩ := one_of hN hx
  subst ep
  have h6 : p < 6 := by omega
  by_cases hzz : 0 ≤ z.toInt ∧ z.toInt ≤ 1
  rotate_left
  · have q := in_f e0 e1 hzz
    refine same hw (-7) (fun σ h => ?_) (fun σ h => ?_)
    · rw [eF_kinds 0, w1 σ h, bs]; (try dsimp only); rw [if_pos h0, c_has32 h12 h.at.1 hN, bs]; (try dsimp only); rw [hx, b2T, if_neg n10, c_in, q, bs]; (try dsimp only); rw [if_pos rfl]
      exact ⟨σ, rfl, Fr.rf⟩
    · rw [eM_kinds 0, w2 σ h, bs]; (try dsimp only); rw [if_pos h0, m_one h.at.1 hN, bs]; (try dsimp only); rw [hx, b2T, if_neg n10, m_in, q, bs]; (try dsimp only); rw [if_pos rfl]
      exact ⟨σ, rfl, Fr.rf⟩
  have q := in_t e0 e1 hzz
  by_cases z0' : z = 0
  · subst z0'
    have hok : ∀ v, v < 6 → Ok (aX a) (aN a) (pK (aT a) (upd (rK (aT a)) p (nI v))) := fun v hv => by
      have e : (nI v).toInt = (v : Int) := nI_toInt (by omega)
      exact Ok.pK ho (by omega) (by omega)
    refine think hw (bitsS (fun v => fitS a s (pK (aT a) (upd (rK (aT a)) p (nI v)))) 6) (fun σ h => ?_) (fun σ h => ?_)
    · have L : ∀ d m σ, m + d = 6 → InvC σ a → ∃ σ', R nF_kinds 0 33 [.ref 0, .int (nI s), .int (nI p), .int 0, .int w, .int 6, .int (bitsS (fun v => fitS a s (pK (aT a) (upd (rK (aT a)) p (nI v)))) m), .int (nI m)] [] σ = some (bitsS (fun v => fitS a s (pK (aT a) (upd (rK (aT a)) p (nI v)))) 6, 0, σ') ∧ InvC σ' a ∧ FC σ σ' := by
        intro d
        induction d with
        | zero =>
          intro m σ hm h
          have e : m = 6 := by omega
          subst e
          rw [eF_kinds_33 0, if_neg (by decide)]
          exact ⟨σ, rfl, h, FC.rf⟩
        | succ d ih =>
          intro m σ hm h
          obtain ⟨σ1, g1, h1', f1⟩ := t_new (k := 0) hw h
          have ht : Tht (su σ1 19 p (nI m)) a (pK (aT a) (upd (rK (aT a)) p (nI m))) := h1'.st (Fr.rf.su (by decide)) (h1'.1.sK h18)
          obtain ⟨σ2, g2, i2, f2⟩ := c_other hw hs hne ht (hok m (by omega))
          have f12 := (f1.su (c := 19) (i := p) (v := nI m) (by decide)).tr f2
          obtain ⟨σ3, g3, i3, f3⟩ := ih (m + 1) σ2 (by omega) i2
          rw [bits_s] at g3
          rw [eF_kinds_33 0, if_pos (show nI m < 6 from nI_lt (b := 6) (by omega) (by omega)), g1, bs]; (try dsimp only); rw [if_pos rfl, if_pos (ib6 h6), ix6 h6, g2, bs]; (try dsimp only); rw [nI_1]
          refine ⟨σ3, ?_, i3, f12.tr f3⟩
          rcases Bool.eq_false_or_eq_true (fitS a s (pK (aT a) (upd (rK (aT a)) p (nI m)))) with g | g
          · rw [if_pos g] at g3
            rw [if_pos (fit_t g)]
            exact g3
          · rw [if_neg (by rw [g]; decide)] at g3
            rw [if_neg (fit_f g)]
            exact g3
      rw [eF_kinds 0, w1 σ h, bs]; (try dsimp only); rw [if_pos h0, c_has32 h12 h.at.1 hN, bs]; (try dsimp only); rw [hx, b2T, if_neg n10, c_in, q, bs]; (try dsimp only); rw [if_neg n10, if_pos rfl]
      exact L 6 0 σ rfl h
    · have L : ∀ d m v u σ, m + d = 6 → InvM σ (setT a (kmT (aT a) p v u)) → ∃ σ', R nM_kinds 0 35 [.ref 30, .int (nI s), .int (nI p), .int 0, .int w, .int (rK (aT a) p), .int (rM (aT a) p), .int (bitsS (fun v => fitS a s (pK (aT a) (upd (rK (aT a)) p (nI v)))) m), .int (nI m)] [] σ = some (bitsS (fun v => fitS a s (pK (aT a) (upd (rK (aT a)) p (nI v)))) 6, 0, σ') ∧ InvM σ' a ∧ FM σ σ' := by
        intro d
        induction d with
        | zero =>
          intro m v u σ hm h
          have e : m = 6 := by omega
          subst e
          have hh := h.km (v' := rK (aT a) p) (w' := rM (aT a) p)
          rw [km_same] at hh
          rw [eM_kinds_35 0, if_pos rfl, if_neg (by decide), if_pos (ib6 h6), if_pos (ib6 h6), ix6 h6]
          exact ⟨_, rfl, hh, (FM.rf.su (by decide) (by decide)).su (by decide) (by decide)⟩
        | succ d ih =>
          intro m v u σ hm h
          have hI := h.km (v' := nI m) (w' := rM (aT a) p)
          obtain ⟨σ2, g2, i2, f2⟩ := n_unlike (t := kmT (aT a) p (nI m) (rM (aT a) p)) hw hs hne hI (by rw [km_K]; exact hok m (by omega))
          have f12 := ((FM.rf.su (c := 31) (i := p) (v := nI m) (by decide) (by decide)).su (c := 32) (i := p) (v := rM (aT a) p) (by decide) (by decide)).tr f2
          obtain ⟨σ3, g3, i3', f3⟩ := ih (m + 1) _ _ σ2 (by omega) i2
          rw [bits_s] at g3
          rw [km_K] at g2
          rw [eM_kinds_35 0, if_pos rfl, if_pos (show nI m < 6 from nI_lt (b := 6) (by omega) (by omega)), if_pos rfl, eM_kinds_50 0, if_pos (ib6 h6), if_neg (by decide), if_pos (ib6 h6), ix6 h6, g2, bs]; (try dsimp only); rw [nI_1]
          refine ⟨σ3, ?_, i3', f12.tr f3⟩
          rcases Bool.eq_false_or_eq_true (fitS a s (pK (aT a) (upd (rK (aT a)) p (nI m)))) with g | g
          · rw [if_pos g] at g3
            rw [if_pos (fit_t g)]
            exact g3
          · rw [if_neg (by rw [g]; decide)] at g3
            rw [if_neg (fit_f g), Int32.or_zero]
            exact g3
      rw [eM_kinds 0, w2 σ h, bs]; (try dsimp only); rw [if_pos h0, m_one h.at.1 hN, bs]; (try dsimp only); rw [hx, b2T, if_neg n10, m_in, q, bs]; (try dsimp only); rw [if_neg n10, if_pos (ib6 h6), if_pos (ib6 h6), ix6 h6, h.at.1.K hp, h.at.1.M hp]
      exact L 6 0 _ _ σ rfl (by rw [km_same]; exact h)
  · have hz1 : z = 1 := by
      rw [i_eq, e0] at z0'
      rw [i_eq, e1]
      omega
    subst hz1
    have hok : ∀ v, v < 10 → Ok (aX a) (aN a) (pM (aT a) (upd (rM (aT a)) p (nI v))) := fun v hv => by
      have e : (nI v).toInt = (v : Int) := nI_toInt (by omega)
      exact Ok.pM ho (by omega) (by omega)
    refine think hw (bitsS (fun v => fitS a s (pM (aT a) (upd (rM (aT a)) p (nI v)))) 10) (fun σ h => ?_) (fun σ h => ?_)
    · have L : ∀ d m σ, m + d = 10 → InvC σ a → ∃ σ', R nF_kinds 0 33 [.ref 0, .int (nI s), .int (nI p), .int 1, .int w, .int 10, .int (bitsS (fun v => fitS a s (pM (aT a) (upd (rM (aT a)) p (nI v)))) m), .int (nI m)] [] σ = some (bitsS (fun v => fitS a s (pM (aT a) (upd (rM (aT a)) p (nI v)))) 10, 0, σ') ∧ InvC σ' a ∧ FC σ σ' := by
        intro d
        induction d with
        | zero =>
          intro m σ hm h
          have e : m = 10 := by omega
          subst e
          rw [eF_kinds_33 0, if_neg (by decide)]
          exact ⟨σ, rfl, h, FC.rf⟩
        | succ d ih =>
          intro m σ hm h
          obtain ⟨σ1, g1, h1', f1⟩ := t_new (k := 0) hw h
          have ht : Tht (su σ1 20 p (nI m)) a (pM (aT a) (upd (rM (aT a)) p (nI m))) := h1'.st (Fr.rf.su (by decide)) (h1'.1.sM h18)
          obtain ⟨σ2, g2, i2, f2⟩ := c_other hw hs hne ht (hok m (by omega))
          have f12 := (f1.su (c := 20) (i := p) (v := nI m) (by decide)).tr f2
          obtain ⟨σ3, g3, i3, f3⟩ := ih (m + 1) σ2 (by omega) i2
          rw [bits_s] at g3
          rw [eF_kinds_33 0, if_pos (show nI m < 10 from nI_lt (b := 10) (by omega) (by omega)), g1, bs]; (try dsimp only); rw [if_neg (by decide), if_pos (ib6 h6), ix6 h6, g2, bs]; (try dsimp only); rw [nI_1]
          refine ⟨σ3, ?_, i3, f12.tr f3⟩
          rcases Bool.eq_false_or_eq_true (fitS a s (pM (aT a) (upd (rM (aT a)) p (nI m)))) with g | g
          · rw [if_pos g] at g3
            rw [if_pos (fit_t g)]
            exact g3
          · rw [if_neg (by rw [g]; decide)] at g3
            rw [if_neg (fit_f g)]
            exact g3
      rw [eF_kinds 0, w1 σ h, bs]; (try dsimp only); rw [if_pos h0, c_has32 h12 h.at.1 hN, bs]; (try dsimp only); rw [hx, b2T, if_neg n10, c_in, q, bs]; (try dsimp only); rw [if_neg n10, if_neg (by decide)]
      exact L 10 0 σ rfl h
    · have L : ∀ d m v u σ, m + d = 10 → InvM σ (setT a (kmT (aT a) p v u)) → ∃ σ', R nM_kinds 0 35 [.ref 30, .int (nI s), .int (nI p), .int 1, .int w, .int (rK (aT a) p), .int (rM (aT a) p), .int (bitsS (fun v => fitS a s (pM (aT a) (upd (rM (aT a)) p (nI v)))) m), .int (nI m)] [] σ = some (bitsS (fun v => fitS a s (pM (aT a) (upd (rM (aT a)) p (nI v)))) 10, 0, σ') ∧ InvM σ' a ∧ FM σ σ' := by
        intro d
        induction d with
        | zero =>
          intro m v u σ hm h
          have e : m = 10 := by omega
          subst e
          have hh := h.km (v' := rK (aT a) p) (w' := rM (aT a) p)
          rw [km_same] at hh
          rw [eM_kinds_35 0, if_neg (by decide), if_neg (by decide), if_pos (ib6 h6), if_pos (ib6 h6), ix6 h6]
          exact ⟨_, rfl, hh, (FM.rf.su (by decide) (by decide)).su (by decide) (by decide)⟩
        | succ d ih =>
          intro m v u σ hm h
          have hI := h.km (v' := rK (aT a) p) (w' := nI m)
          obtain ⟨σ2, g2, i2, f2⟩ := n_unlike (t := kmT (aT a) p (rK (aT a) p) (nI m)) hw hs hne hI (by rw [km_M]; exact hok m (by omega))
          have f12 := ((FM.rf.su (c := 31) (i := p) (v := rK (aT a) p) (by decide) (by decide)).su (c := 32) (i := p) (v := nI m) (by decide) (by decide)).tr f2
          obtain ⟨σ3, g3, i3', f3⟩ := ih (m + 1) _ _ σ2 (by omega) i2
          rw [bits_s] at g3
          rw [km_M] at g2
          rw [eM_kinds_35 0, if_neg (by decide), if_pos (show nI m < 10 from nI_lt (b := 10) (by omega) (by omega)), if_neg (by decide), eM_kinds_50 0, if_pos (ib6 h6), if_pos rfl, if_pos (ib6 h6), ix6 h6, g2, bs]; (try dsimp only); rw [nI_1]
          refine ⟨σ3, ?_, i3', f12.tr f3⟩
          rcases Bool.eq_false_or_eq_true (fitS a s (pM (aT a) (upd (rM (aT a)) p (nI m)))) with g | g
          · rw [if_pos g] at g3
            rw [if_pos (fit_t g)]
            exact g3
          · rw [if_neg (by rw [g]; decide)] at g3
            rw [if_neg (fit_f g), Int32.or_zero]
            exact g3
      rw [eM_kinds 0, w2 σ h, bs]; (try dsimp only); rw [if_pos h0, m_one h.at.1 hN, bs]; (try dsimp only); rw [hx, b2T, if_neg n10, m_in, q, bs]; (try dsimp only); rw [if_neg n10, if_pos (ib6 h6), if_pos (ib6 h6), ix6 h6, h.at.1.K hp, h.at.1.M hp]
      exact L 10 0 _ _ σ rfl (by rw [km_same]; exact h)
