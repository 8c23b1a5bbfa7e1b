/-! WAITS -/
def wtT (t : St) (p : Nat) (v : Int32) : St := pW t (upd (rW t) p v)
def cntR (f : Nat → Bool) : Nat → Nat → Int32
  | 0, _ => 0
  | d + 1, m => if f m = true then cntR f d (m + 1) + 1 else cntR f d (m + 1)
def lstR (f : Nat → Bool) : Nat → Nat → Int32
  | 0, _ => -1
  | d + 1, m => if f m = true then nI m else lstR f d (m + 1)
theorem InvM.wt {σ : Sto} {a : Ab} {t : St} {p : Nat} {v : Int32} (h : InvM σ (setT a (wtT t p v))) {w : Int32} : InvM (su σ 33 (3 * p + 2) w) (setT a (wtT t p w)) := by
  have hh : InvM (su σ 33 (3 * p + 2) w) (setT (setT a (wtT t p v)) (pW (wtT t p v) (upd (rW (wtT t p v)) p w))) := InvM.st (a := setT a (wtT t p v)) h (Fr.rf.su (by decide)) h.at.1.sW
  have ee : pW (wtT t p v) (upd (rW (wtT t p v)) p w) = wtT t p w := by
    show (t.1, rK t, rM t, rP t, rD t, upd (upd (rW t) p v) p w) = (t.1, rK t, rM t, rP t, rD t, upd (rW t) p w)
    rw [upd_upd]
  rw [ee] at hh
  exact hh
theorem wt_same {t : St} {p : Nat} : wtT t p (rW t p) = t := by
  show (t.1, rK t, rM t, rP t, rD t, upd (rW t) p (rW t p)) = t
  rw [upd_same rfl]
  rfl
theorem s_waits {a : Ab} (hw : WfA a) (x y z : Int32) : Step nF_waits nM_waits [.int x, .int y, .int z] a := by
  have ho := hw.1
  have hN := ho.n
  have e0 : (0 : Int32).toInt = 0 := by decide
  have e1 : (1 : Int32).toInt = 1 := by decide
  obtain ⟨w, w1, w2, w3⟩ := wrongs hw x
  by_cases h0 : w = 0
  rotate_left
  · refine same hw w (fun σ h => ?_) (fun σ h => ?_)
    · rw [eF_waits 0, w1 σ h, bs]; (try dsimp only); rw [if_neg h0]
      exact ⟨σ, rfl, Fr.rf⟩
    · rw [eM_waits 0, w2 σ h, bs]; (try dsimp only); rw [if_neg h0]
      exact ⟨σ, rfl, Fr.rf⟩
  obtain ⟨s, hs, es, hne, hz⟩ := w3 h0
  subst es
  cases hx : isOneS (aT a) y with
  | false =>
    refine same hw (-5) (fun σ h => ?_) (fun σ h => ?_)
    · rw [eF_waits 0, w1 σ h, bs]; (try dsimp only); rw [if_pos h0, c_has32 h12 h.at.1 hN, bs]; (try dsimp only); rw [hx, b2F, if_pos rfl]
      exact ⟨σ, rfl, Fr.rf⟩
    · rw [eM_waits 0, w2 σ h, bs]; (try dsimp only); rw [if_pos h0, m_one h.at.1 hN, bs]; (try dsimp only); rw [hx, b2F, if_pos rfl]
      exact ⟨σ, rfl, Fr.rf⟩
  | true =>
  obtain ⟨p, hp, ep⟩ := one_of hN hx
  subst ep
  have h6 : p < 6 := by omega
  have i18 := ibn (show 3 * p + 2 < 18 by omega) (by decide)
  have j18 := ixn (show 3 * p + 2 < 2147483648 by omega)
  by_cases hzz : 0 ≤ z.toInt ∧ z.toInt ≤ 1
  rotate_left
  · have q := in_f e0 e1 hzz
    refine same hw (-7) (fun σ h => ?_) (fun σ h => ?_)
    · rw [eF_waits 0, w1 σ h, bs]; (try dsimp only); rw [if_pos h0, c_has32 h12 h.at.1 hN, bs]; (try dsimp only); rw [hx, b2T, if_neg n10, c_in, q, bs]; (try dsimp only); rw [if_pos rfl]
      exact ⟨σ, rfl, Fr.rf⟩
    · rw [eM_waits 0, w2 σ h, bs]; (try dsimp only); rw [if_pos h0, m_one h.at.1 hN, bs]; (try dsimp only); rw [hx, b2T, if_neg n10, m_in, q, bs]; (try dsimp only); rw [if_pos rfl]
      exact ⟨σ, rfl, Fr.rf⟩
  have q := in_t e0 e1 hzz
  have hok : ∀ v, v < 100 → Ok (aX a) (aN a) (wtT (aT a) p (nI v)) := fun v hv => by
    have e : (nI v).toInt = (v : Int) := nI_toInt (by omega)
    exact Ok.pW ho (by omega) (by omega)
  have sc : ∀ d m, cntR (fun v => fitS a s (wtT (aT a) p (nI v))) (d + 1) m = if fitS a s (wtT (aT a) p (nI m)) = true then cntR (fun v => fitS a s (wtT (aT a) p (nI v))) d (m + 1) + 1 else cntR (fun v => fitS a s (wtT (aT a) p (nI v))) d (m + 1) := fun _ _ => rfl
  have sl : ∀ d m, lstR (fun v => fitS a s (wtT (aT a) p (nI v))) (d + 1) m = if fitS a s (wtT (aT a) p (nI m)) = true then nI m else lstR (fun v => fitS a s (wtT (aT a) p (nI v))) d (m + 1) := fun _ _ => rfl
  refine think hw (if z = 0 then cntR (fun v => fitS a s (wtT (aT a) p (nI v))) 100 0 else lstR (fun v => fitS a s (wtT (aT a) p (nI v))) 100 0) (fun σ h => ?_) (fun σ h => ?_)
  · have L : ∀ m d σ, m + d = 100 → InvC σ a → ∃ σ', R nF_waits 0 29 [.ref 0, .int (nI s), .int (nI p), .int z, .int w, .int (cntR (fun v => fitS a s (wtT (aT a) p (nI v))) d m), .int (lstR (fun v => fitS a s (wtT (aT a) p (nI v))) d m), .int (nI m - 1)] [] σ =
        some (if z = 0 then cntR (fun v => fitS a s (wtT (aT a) p (nI v))) 100 0 else lstR (fun v => fitS a s (wtT (aT a) p (nI v))) 100 0, 0, σ') ∧ InvC σ' a ∧ FC σ σ' := by
      intro m
      induction m with
      | zero =>
        intro d σ hd h
        have e : d = 100 := by omega
        subst e
        rw [eF_waits_29 0, if_pos (by decide)]
        refine ⟨σ, ?_, h, FC.rf⟩
        split <;> rfl
      | succ m ih =>
        intro d σ hd h
        obtain ⟨σ1, g1, h1', f1⟩ := t_new (k := 0) hw h
        have ht : Tht (su σ1 23 p (nI m)) a (wtT (aT a) p (nI m)) := h1'.st (Fr.rf.su (by decide)) (h1'.1.sW h18)
        obtain ⟨σ2, g2, i2, f2⟩ := c_other hw hs hne ht (hok m (by omega))
        have f12 := (f1.su (c := 23) (i := p) (v := nI m) (by decide)).tr f2
        obtain ⟨σ3, g3, i3, f3⟩ := ih (d + 1) σ2 (by omega) i2
        rw [sc, sl] at g3
        have em : nI m + -1 = nI m - 1 := (Int32.sub_eq_add_neg ..).symm
        rw [nI_pred, eF_waits_29 0, if_neg (nI_pos (by omega)), g1, bs]; (try dsimp only); rw [if_pos (ib6 h6), ix6 h6, g2, bs]; (try dsimp only); rw [em]
        refine ⟨σ3, ?_, i3, f12.tr f3⟩
        rcases Bool.eq_false_or_eq_true (fitS a s (wtT (aT a) p (nI m))) with g | g
        · rw [if_pos g, if_pos g] at g3
          rw [if_pos (fit_t g)]
          exact g3
        · rw [if_neg (by rw [g]; decide), if_neg (by rw [g]; decide)] at g3
          rw [if_neg (fit_f g)]
          exact g3
    rw [eF_waits 0, w1 σ h, bs]; (try dsimp only); rw [if_pos h0, c_has32 h12 h.at.1 hN, bs]; (try dsimp only); rw [hx, b2T, if_neg n10, c_in, q, bs]; (try dsimp only); rw [if_neg n10]
    exact L 100 0 σ rfl h
  · have L : ∀ d m c0 l0 v u σ, m + d = 100 → InvM σ (setT a (wtT (aT a) p v)) → ∃ σ', R nM_waits 0 36 [.ref 30, .int (nI s), .int (nI p), .int z, .int w, .int (rW (aT a) p), .int c0, .int l0, .int (nI m), u] [] σ =
        some (if z = 0 then c0 + cntR (fun v => fitS a s (wtT (aT a) p (nI v))) d m else if l0 = -1 then lstR (fun v => fitS a s (wtT (aT a) p (nI v))) d m else l0, 0, σ') ∧ InvM σ' a ∧ FM σ σ' := by
      intro d
      induction d with
      | zero =>
        intro m c0 l0 v u σ hm h
        have e : m = 100 := by omega
        subst e
        have hh := h.wt (w := rW (aT a) p)
        rw [wt_same] at hh
        rw [eM_waits_36 0, if_pos (by decide), i3, nI_2, if_pos i18, j18]
        refine ⟨_, ?_, hh, FM.rf.su (by decide) (by decide)⟩
        by_cases g : z = 0
        · rw [if_pos g, if_pos g, show cntR (fun v => fitS a s (wtT (aT a) p (nI v))) 0 100 = 0 from rfl, Int32.add_zero]
        · rw [if_neg g, if_neg g]
          by_cases g2 : l0 = -1
          · rw [if_pos g2, g2]; rfl
          · rw [if_neg g2]
      | succ d ih =>
        intro m c0 l0 v u σ hm h
        have hI := h.wt (w := nI m)
        obtain ⟨σ2, g2, i2, f2⟩ := n_unlike (t := wtT (aT a) p (nI m)) hw hs hne hI (hok m (by omega))
        have f12 := (FM.rf.su (c := 33) (i := 3 * p + 2) (v := nI m) (by decide) (by decide)).tr f2
        rw [eM_waits_36 0, if_neg (show ¬ 99 < nI m from nI_nlt (a := 99) (by omega) (by omega)), i3, nI_2, if_pos i18, j18, g2, bs]; (try dsimp only); rw [nI_1, sc, sl]
        rcases Bool.eq_false_or_eq_true (fitS a s (wtT (aT a) p (nI m))) with g | g
        · rw [if_pos g, if_pos g, if_pos (fit_t g)]
          by_cases gl : l0 = -1
          · rw [if_pos gl, if_pos gl]
            obtain ⟨σ3, g3, i3', f3⟩ := ih (m + 1) (c0 + 1) (nI m) (nI m) (.int 1) σ2 (by omega) i2
            rw [if_neg (nI_nm (show m < 2 ^ 31 by omega)), Int32.add_assoc, Int32.add_comm 1] at g3
            exact ⟨σ3, g3, i3', f12.tr f3⟩
          · rw [if_neg gl, if_neg gl]
            obtain ⟨σ3, g3, i3', f3⟩ := ih (m + 1) (c0 + 1) l0 (nI m) (.int 1) σ2 (by omega) i2
            rw [if_neg gl, Int32.add_assoc, Int32.add_comm 1] at g3
            exact ⟨σ3, g3, i3', f12.tr f3⟩
        · have gn : ¬ fitS a s (wtT (aT a) p (nI m)) = true := by rw [g]; decide
          rw [if_neg gn, if_neg gn, if_neg (fit_f g), Int32.add_zero]
          obtain ⟨σ3, g3, i3', f3⟩ := ih (m + 1) c0 l0 (nI m) (.int 0) σ2 (by omega) i2
          exact ⟨σ3, g3, i3', f12.tr f3⟩
    obtain ⟨σ3, g3, i3', f3⟩ := L 100 0 0 (-1) (rW (aT a) p) .null σ rfl (by rw [wt_same]; exact h)
    rw [if_pos rfl, Int32.zero_add] at g3
    rw [eM_waits 0, w2 σ h, bs]; (try dsimp only); rw [if_pos h0, m_one h.at.1 hN, bs]; (try dsimp only); rw [hx, b2T, if_neg n10, m_in, q, bs]; (try dsimp only); rw [if_neg n10, i3, nI_2, if_pos i18, j18, h.at.1.W hp]
    exact ⟨σ3, g3, i3', f3⟩
