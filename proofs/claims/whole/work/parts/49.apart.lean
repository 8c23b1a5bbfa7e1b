theorem m_apartL {a : Ab} {p f : Nat} (hp : p < sN (aT a)) (hf : f < 64) (hat : rP (aT a) p = nI f) (ho : Ok (aX a) (aN a) (aT a)) (y : Int32) : ∀ d m best least v u7 u8 σ, m + d = 64 → InvM σ (setT a (plcT (aT a) p v)) →
    ((best = -1 ∧ least = -1 ∧ ∀ c, c < m → alAt (aX a) (aT a) p c = false) ∨ ∃ o c, Bst (alAt (aX a) (aT a) p) f m o c ∧ best = nI c ∧ least = nI o) →
    ∃ σ' r, R nM_apart 0 32 [.ref 30, .int (nI p), .int y, .int (nI f), .int best, .int least, .int (nI m), u7, u8] [] σ = some (r, 0, σ') ∧ InvM σ' a ∧ FM σ σ' ∧
      ((∃ o c, Bst (alAt (aX a) (aT a) p) f 64 o c ∧ r = if y = 0 then nI o else nI c) ∨ ((∀ c, c < 64 → alAt (aX a) (aT a) p c = false) ∧ r = -1)) := by
  intro d
  have hN := ho.n
  have i18 := ibn (show 3 * p < 18 by omega) (by decide)
  have j18 := ixn (show 3 * p < 2147483648 by omega)
  induction d with
  | zero =>
    intro m best least v u7 u8 σ hm h hb
    have e : m = 64 := by omega
    subst e
    have hh := h.plc (w := nI f)
    rw [← hat, plc_same] at hh
    rw [eM_apart_32 0, if_neg (by decide), i3, if_pos i18, j18, ← hat]
    rcases hb with ⟨b1, b2', b3⟩ | ⟨o, c, b1, b2', b3⟩
    · refine ⟨_, -1, ?_, hh, FM.rf.su (by decide) (by decide), Or.inr ⟨b3, rfl⟩⟩
      rw [b1, b2']
      split <;> rfl
    · refine ⟨_, if y = 0 then nI o else nI c, ?_, hh, FM.rf.su (by decide) (by decide), Or.inl ⟨o, c, b1, rfl⟩⟩
      rw [b2', b3]
      split <;> rfl
  | succ d ih =>
    intro m best least v u7 u8 σ hm h hb
    have hI := h.plc (w := nI m)
    have tm : (nI m).toInt = (m : Int) := nI_toInt (by omega)
    obtain ⟨σ1, e1, f1⟩ := m_alone (k := 0) hI.at (Ok.pP ho (p := p) (v := nI m) (by omega) (by omega)) (p := p) hp
    have e1' : C nM_isAlone 0 [.ref 30, .int (nI p)] (su σ 33 (3 * p) (nI m)) = some (b2 (alAt (aX a) (aT a) p m), 0, σ1) := e1
    have h1 := hI.f2 f1
    have f01 : FM σ σ1 := (FM.rf.su (c := 33) (i := 3 * p) (v := nI m) (by decide) (by decide)).tr (f2m f1)
    have fin : ∃ σ' r, R nM_apart 0 52 [.ref 30, .int (nI p), .int y, .int (nI f), .int best, .int least, .int (nI m), u7, u8] [.int (nI (dstN m f))] (su σ 33 (3 * p) (nI m)) = some (r, 0, σ') ∧ InvM σ' a ∧ FM σ σ' ∧
        ((∃ o c, Bst (alAt (aX a) (aT a) p) f 64 o c ∧ r = if y = 0 then nI o else nI c) ∨ ((∀ c, c < 64 → alAt (aX a) (aT a) p c = false) ∧ r = -1)) := by
      have hd64 : dstN m f < 64 := by
        unfold dstN
        split <;> omega
      rw [eM_apart_52 0, e1', bs]; (try dsimp only); rw [nI_1]
      rcases Bool.eq_false_or_eq_true (alAt (aX a) (aT a) p m) with g | g
      · rw [if_neg (show ¬ b2 (alAt (aX a) (aT a) p m) = 0 by rw [g]; exact n10)]
        rcases hb with ⟨b1, b2', b3⟩ | ⟨o, c, b1, b2', b3⟩
        · rw [if_pos b1]
          obtain ⟨σ2, r, e2, i2, f2, hr⟩ := ih (m + 1) (nI m) (nI (dstN m f)) (nI m) (.int (nI (dstN m f))) (.int 1) σ1 (by omega) h1 (Or.inr ⟨dstN m f, m, ⟨by omega, g, rfl, fun c' hc' hA => by
            by_cases hq : c' = m
            · subst hq
              exact Or.inr ⟨rfl, Nat.le_refl _⟩
            · rw [b3 c' (by omega)] at hA
              cases hA⟩, rfl, rfl⟩)
          exact ⟨σ2, r, e2, i2, f01.tr f2, hr⟩
        · obtain ⟨k1, k2, k3, k4⟩ := b1
          have ho64 : o < 64 := by
            rw [k3]
            unfold dstN
            split <;> omega
          rw [if_neg (by rw [b2']; exact nI_nm (by omega))]
          by_cases hl : dstN m f < o
          · rw [if_pos (by rw [b3]; exact nI_lt hl (by omega))]
            obtain ⟨σ2, r, e2, i2, f2, hr⟩ := ih (m + 1) (nI m) (nI (dstN m f)) (nI m) (.int (nI (dstN m f))) (.int 1) σ1 (by omega) h1 (Or.inr ⟨dstN m f, m, ⟨by omega, g, rfl, fun c' hc' hA => by
              by_cases hq : c' = m
              · subst hq
                exact Or.inr ⟨rfl, Nat.le_refl _⟩
              · have := k4 c' (by omega) hA
                exact Or.inl (by omega)⟩, rfl, rfl⟩)
            exact ⟨σ2, r, e2, i2, f01.tr f2, hr⟩
          · rw [if_neg (by rw [b3]; exact nI_nlt (by omega) (by omega))]
            obtain ⟨σ2, r, e2, i2, f2, hr⟩ := ih (m + 1) best least (nI m) (.int (nI (dstN m f))) (.int 0) σ1 (by omega) h1 (Or.inr ⟨o, c, ⟨by omega, k2, k3, fun c' hc' hA => by
              by_cases hq : c' = m
              · subst hq
                omega
              · exact k4 c' (by omega) hA⟩, b2', b3⟩)
            exact ⟨σ2, r, e2, i2, f01.tr f2, hr⟩
      · rw [if_pos (show b2 (alAt (aX a) (aT a) p m) = 0 by rw [g]; rfl)]
        obtain ⟨σ2, r, e2, i2, f2, hr⟩ := ih (m + 1) best least (nI m) (.int (nI (dstN m f))) (.int 0) σ1 (by omega) h1 (by
          rcases hb with ⟨b1, b2', b3⟩ | ⟨o, c, ⟨k1, k2, k3, k4⟩, b2', b3⟩
          · refine Or.inl ⟨b1, b2', fun c hc => ?_⟩
            by_cases hq : c = m
            · rw [hq]; exact g
            · exact b3 c (by omega)
          · refine Or.inr ⟨o, c, ⟨by omega, k2, k3, fun c' hc' hA => ?_⟩, b2', b3⟩
            by_cases hq : c' = m
            · rw [hq, g] at hA
              cases hA
            · exact k4 c' (by omega) hA)
        exact ⟨σ2, r, e2, i2, f01.tr f2, hr⟩
    rw [eM_apart_32 0, if_pos (show nI m < 64 from nI_lt (b := 64) (by omega) (by omega)), i3, if_pos i18, j18]
    by_cases hmf : m < f
    · rw [if_pos (nI_lt hmf (by omega)), nI_subN (by omega) (by omega)]
      rw [show dstN m f = f - m from if_pos hmf] at fin
      exact fin
    · rw [if_neg (nI_nlt (by omega) (by omega)), nI_subN (by omega) (by omega)]
      rw [show dstN m f = m - f from if_neg hmf] at fin
      exact fin
theorem s_apart {a : Ab} (hw : WfA a) (x y : Int32) : Step nF_apart nM_apart [.int x, .int y] a := by
  have ho := hw.1
  have hN := ho.n
  have e0 : (0 : Int32).toInt = 0 := by decide
  have e1 : (1 : Int32).toInt = 1 := by decide
  cases hx : isOneS (aT a) x with
  | false =>
    refine same hw (-5) (fun σ h => ?_) (fun σ h => ?_)
    · rw [eF_apart 0, c_has32 h12 h.at.1 hN, bs]; (try dsimp only); rw [hx, b2F, if_pos rfl]
      exact ⟨σ, rfl, Fr.rf⟩
    · rw [eM_apart 0, m_one h.at.1 hN, bs]; (try dsimp only); rw [hx, b2F, if_pos rfl]
      exact ⟨σ, rfl, Fr.rf⟩
  | true =>
  obtain ⟨p, hp, ep⟩ := one_of hN hx
  subst ep
  have h6 : p < 6 := by omega
  have i18 := ibn (show 3 * p < 18 by omega) (by decide)
  have j18 := ixn (show 3 * p < 2147483648 by omega)
  by_cases hy : 0 ≤ y.toInt ∧ y.toInt ≤ 1
  rotate_left
  · have q2 := in_f e0 e1 hy
    refine same hw (-7) (fun σ h => ?_) (fun σ h => ?_)
    · rw [eF_apart 0, c_has32 h12 h.at.1 hN, bs]; (try dsimp only); rw [hx, b2T, if_neg n10, c_in, q2, bs]; (try dsimp only); rw [if_pos rfl]
      exact ⟨σ, rfl, Fr.rf⟩
    · rw [eM_apart 0, m_one h.at.1 hN, bs]; (try dsimp only); rw [hx, b2T, if_neg n10, m_in, q2, bs]; (try dsimp only); rw [if_pos rfl]
      exact ⟨σ, rfl, Fr.rf⟩
  have q2 := in_t e0 e1 hy
  rcases Bool.eq_false_or_eq_true (seenS (aT a) p) with g | g
  rotate_left
  · refine same hw (-1) (fun σ h => ?_) (fun σ h => ?_)
    · rw [eF_apart 0, c_has32 h12 h.at.1 hN, bs]; (try dsimp only); rw [hx, b2T, if_neg n10, c_in, q2, bs]; (try dsimp only); rw [if_neg n10, c_seen h12 h.at.1 hN hp, bs]; (try dsimp only); rw [if_pos (show b2 (seenS (aT a) p) = 0 by rw [g]; rfl)]
      exact ⟨σ, rfl, Fr.rf⟩
    · rw [eM_apart 0, m_one h.at.1 hN, bs]; (try dsimp only); rw [hx, b2T, if_neg n10, m_in, q2, bs]; (try dsimp only); rw [if_neg n10, m_seen h.at.1 hN hp, bs]; (try dsimp only); rw [if_pos (show b2 (seenS (aT a) p) = 0 by rw [g]; rfl)]
      exact ⟨σ, rfl, Fr.rf⟩
  have gn : ¬ b2 (seenS (aT a) p) = 0 := by rw [g]; exact n10
  have hpl := (ho.p hp).2.2.1
  have hsa := seen_at g
  obtain ⟨f, hf, ef⟩ := nI_in1 (x := rP (aT a) p) (n := 64) (by omega) (by
    rw [i_eq, show (-1 : Int32).toInt = -1 by decide] at hsa
    omega)
  have cls : ∀ σ, InvC σ a → ∃ σ' r, C nF_apart 0 [.ref 0, .int (nI p), .int y] σ = some (r, 0, σ') ∧ InvC σ' a ∧ FC σ σ' ∧ ((∃ o c, Bst (alAt (aX a) (aT a) p) f 64 o c ∧ r = if y = 0 then nI o else nI c) ∨ ((∀ c, c < 64 → alAt (aX a) (aT a) p c = false) ∧ r = -1)) := by
    intro σ h
    obtain ⟨σ1, g1, h1, f1⟩ := t_new (k := 0) hw h
    obtain ⟨σ2, r, g2, i2, f2, hr⟩ := c_apartL hp hf ho y 64 0 σ1 (rP (aT a) p) rfl (by rw [plc_same]; exact h1) (fun c _ _ => Nat.zero_le _)
    refine ⟨σ2, r, ?_, i2, f1.tr f2, hr⟩
    rw [eF_apart 0, c_has32 h12 h.at.1 hN, bs]; (try dsimp only); rw [hx, b2T, if_neg n10, c_in, q2, bs]; (try dsimp only); rw [if_neg n10, c_seen h12 h.at.1 hN hp, bs]; (try dsimp only); rw [if_neg gn, if_pos (ib6 h6), ix6 h6, g1, bs]; (try dsimp only); rw [show σ 15 p = _ from h.at.1.P hp, ef]
    exact g2
  have mdl : ∀ σ, InvM σ a → ∃ σ' r, C nM_apart 0 [.ref 30, .int (nI p), .int y] σ = some (r, 0, σ') ∧ InvM σ' a ∧ FM σ σ' ∧ ((∃ o c, Bst (alAt (aX a) (aT a) p) f 64 o c ∧ r = if y = 0 then nI o else nI c) ∨ ((∀ c, c < 64 → alAt (aX a) (aT a) p c = false) ∧ r = -1)) := by
    intro σ h
    obtain ⟨σ2, r, g2, i2, f2, hr⟩ := m_apartL hp hf ef ho y 64 0 (-1) (-1) (rP (aT a) p) .null .null σ rfl (by rw [plc_same]; exact h) (Or.inl ⟨rfl, rfl, fun c hc => by omega⟩)
    refine ⟨σ2, r, ?_, i2, f2, hr⟩
    rw [eM_apart 0, m_one h.at.1 hN, bs]; (try dsimp only); rw [hx, b2T, if_neg n10, m_in, q2, bs]; (try dsimp only); rw [if_neg n10, m_seen h.at.1 hN hp, bs]; (try dsimp only); rw [if_neg gn, i3, if_pos i18, j18, h.at.1.P hp, ef]
    exact g2
  by_cases hex : ∃ o c, Bst (alAt (aX a) (aT a) p) f 64 o c
  · obtain ⟨o, c, hB⟩ := hex
    have key : ∀ r, ((∃ o c, Bst (alAt (aX a) (aT a) p) f 64 o c ∧ r = if y = 0 then nI o else nI c) ∨ ((∀ c, c < 64 → alAt (aX a) (aT a) p c = false) ∧ r = -1)) → r = if y = 0 then nI o else nI c := by
      rintro r (⟨o', c', hB', hr⟩ | ⟨hno, _⟩)
      · obtain ⟨q1, q3⟩ := bst_u hB hB'
        rw [hr, q1, q3]
      · have := hno c hB.1
        rw [hB.2.1] at this
        cases this
    refine think hw (if y = 0 then nI o else nI c) (fun σ h => ?_) (fun σ h => ?_)
    · obtain ⟨σ', r, e, i, ff, hr⟩ := cls σ h
      rw [key r hr] at e
      exact ⟨σ', e, i, ff⟩
    · obtain ⟨σ', r, e, i, ff, hr⟩ := mdl σ h
      rw [key r hr] at e
      exact ⟨σ', e, i, ff⟩
  · have key : ∀ r, ((∃ o c, Bst (alAt (aX a) (aT a) p) f 64 o c ∧ r = if y = 0 then nI o else nI c) ∨ ((∀ c, c < 64 → alAt (aX a) (aT a) p c = false) ∧ r = -1)) → r = -1 := by
      rintro r (⟨o', c', hB', hr⟩ | ⟨_, hr⟩)
      · exact absurd ⟨o', c', hB'⟩ hex
      · exact hr
    refine think hw (-1) (fun σ h => ?_) (fun σ h => ?_)
    · obtain ⟨σ', r, e, i, ff, hr⟩ := cls σ h
      rw [key r hr] at e
      exact ⟨σ', e, i, ff⟩
    · obtain ⟨σ', r, e, i, ff, hr⟩ := mdl σ h
      rw [key r hr] at e
      exact ⟨σ', e, i, ff⟩
