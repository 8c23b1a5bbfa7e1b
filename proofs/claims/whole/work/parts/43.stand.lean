/-! STAND -/
def stdT (t : St) (p c : Nat) : St := pD (pP t (upd (rP t) p (nI c))) (upd (rD t) p 0)
def stdN (TX : TXT) (t : St) (p c : Nat) : Int32 := firS (fun t' => overS t' p) TX (stdT t p c) 61 0
def stdS (TX : TXT) (t : St) (p : Nat) : Nat → Int32 × Int32
  | 0 => (-1, -1)
  | c + 1 => if stdN TX t p c = -1 then stdS TX t p c else if (stdS TX t p c).1 = -1 then (nI c, stdN TX t p c) else if stdN TX t p c < (stdS TX t p c).2 then (nI c, stdN TX t p c) else stdS TX t p c
theorem ok_std {TX : TXT} {K : Nat} {t : St} (h : Ok TX K t) {p c : Nat} (hc : c < 64) : Ok TX K (stdT t p c) := by
  have e : (nI c).toInt = (c : Int) := nI_toInt (by omega)
  exact Ok.pD (Ok.pP h (by omega) (by omega)) (Or.inl rfl)
theorem std_sam {t : St} {p c : Nat} : Sam (stdT t p c) t := ⟨rfl, rfl, rfl, rfl⟩
theorem std_or {TX : TXT} {t : St} {p : Nat} : ∀ c, c ≤ 64 → ((stdS TX t p c).1 = -1 ∧ (stdS TX t p c).2 = -1) ∨ ∃ b j, b < 64 ∧ j < 61 ∧ (stdS TX t p c).1 = nI b ∧ (stdS TX t p c).2 = nI j := by
  intro c
  induction c with
  | zero => intro _; exact Or.inl ⟨rfl, rfl⟩
  | succ c ih =>
    intro hc
    have ih := ih (by omega)
    have e : stdS TX t p (c + 1) = if stdN TX t p c = -1 then stdS TX t p c else if (stdS TX t p c).1 = -1 then (nI c, stdN TX t p c) else if stdN TX t p c < (stdS TX t p c).2 then (nI c, stdN TX t p c) else stdS TX t p c := rfl
    rw [e]
    by_cases h1 : stdN TX t p c = -1
    · rw [if_pos h1]; exact ih
    · rw [if_neg h1]
      rcases fir_or (f := fun t' => overS t' p) (TX := TX) (t := stdT t p c) 61 0 with g | ⟨j, _, g2, g3⟩
      · exact absurd g h1
      · have g3 : stdN TX t p c = nI j := g3
        by_cases h2 : (stdS TX t p c).1 = -1
        · rw [if_pos h2, g3]
          exact Or.inr ⟨c, j, by omega, by omega, rfl, rfl⟩
        · rw [if_neg h2]
          by_cases h3 : stdN TX t p c < (stdS TX t p c).2
          · rw [if_pos h3, g3]
            exact Or.inr ⟨c, j, by omega, by omega, rfl, rfl⟩
          · rw [if_neg h3]; exact ih
theorem c_till {a : Ab} {t : St} {p F : Nat} (hp : p < sN t) (ho : Ok (aX a) (aN a) t) (hF : F ≤ 61) {σ : Sto} (ht : Tht σ a t) : ∃ σ', C nF_hoursTillOver 0 [.ref 0, .int (nI p), .int (nI F - 1)] σ = some (firS (fun t' => overS t' p) (aX a) t F 0, 0, σ') ∧ InvC σ' a ∧ FC σ σ' := by
  have em : (nI F - 1).toInt = (F : Int) - 1 := nI_m1 (by omega)
  have L : ∀ d h σ, h + d = F → InvC σ a → (0 < d → Tht σ a (hrsS (aX a) t h)) → ∃ σ', R nF_hoursTillOver 0 2 [.ref 0, .int (nI p), .int (nI F - 1), .int (nI h)] [] σ = some (firS (fun t' => overS t' p) (aX a) t d h, 0, σ') ∧ InvC σ' a ∧ FC σ σ' := by
    intro d
    induction d with
    | zero =>
      intro h σ hd hi _
      rw [eF_hoursTillOver_2 0, if_pos (show nI F - 1 < nI h from by rw [i_lt, em, nI_toInt (by omega)]; omega)]
      exact ⟨σ, rfl, hi, FC.rf⟩
    | succ d ih =>
      intro h σ hd hi ht
      have ht := ht (by omega)
      have e1 : firS (fun t' => overS t' p) (aX a) t (d + 1) h = if overS (hrsS (aX a) t h) p = true then nI h else firS (fun t' => overS t' p) (aX a) t d (h + 1) := rfl
      have hp' : p < sN (hrsS (aX a) t h) := by rw [(Sam.rf.hrs h).1]; exact hp
      rw [eF_hoursTillOver_2 0, if_neg (show ¬ nI F - 1 < nI h from by rw [i_lt, em, nI_toInt (by omega)]; omega), c_over h18 ht.1 (ho.hrs h).n hp', bs]; (try dsimp only); rw [nI_1, e1]
      rcases Bool.eq_false_or_eq_true (overS (hrsS (aX a) t h) p) with g | g
      · rw [if_pos g, if_neg (show ¬ b2 (overS (hrsS (aX a) t h) p) = 0 by rw [g]; exact n10)]
        exact ⟨σ, rfl, ht.2, FC.rf⟩
      · rw [if_neg (show ¬ overS (hrsS (aX a) t h) p = true by rw [g]; decide), if_pos (show b2 (overS (hrsS (aX a) t h) p) = 0 by rw [g]; rfl)]
        by_cases hl : nI h < nI F - 1
        · obtain ⟨σ2, g2, ht2, f2⟩ := t_hour (k := 0) ht (ho.hrs h)
          obtain ⟨σ3, g3, i3, f3⟩ := ih (h + 1) σ2 (by omega) ht2.2 (fun _ => ht2)
          rw [if_pos hl, g2, bs]
          exact ⟨σ3, g3, i3, f2.tr f3⟩
        · rw [if_neg hl]
          have hd0 : d = 0 := by
            rw [i_lt, em, nI_toInt (by omega)] at hl
            omega
          exact ih (h + 1) σ (by omega) hi (fun hpos => by omega)
  rw [eF_hoursTillOver 0]
  exact L F 0 σ (Nat.zero_add _) ht.2 (fun _ => ht)
theorem s_stand {a : Ab} (hw : WfA a) (x y : Int32) : Step nF_stand nM_stand [.int x, .int y] a := by
  have ho := hw.1
  have hN := ho.n
  have e0 : (0 : Int32).toInt = 0 := by decide
  have e1 : (1 : Int32).toInt = 1 := by decide
  cases hx : isOneS (aT a) x with
  | false =>
    refine same hw (-5) (fun σ h => ?_) (fun σ h => ?_)
    · rw [eF_stand 0, c_has32 h12 h.at.1 hN, bs]; (try dsimp only); rw [hx, b2F, if_pos rfl]
      exact ⟨σ, rfl, Fr.rf⟩
    · rw [eM_stand 0, m_one h.at.1 hN, bs]; (try dsimp only); rw [hx, b2F, if_pos rfl]
      exact ⟨σ, rfl, Fr.rf⟩
  | true =>
  obtain ⟨p, hp, ep⟩ := one_of hN hx
  subst ep
  have h6 : p < 6 := by omega
  by_cases hy : 0 ≤ y.toInt ∧ y.toInt ≤ 1
  rotate_left
  · have q2 := in_f e0 e1 hy
    refine same hw (-7) (fun σ h => ?_) (fun σ h => ?_)
    · rw [eF_stand 0, c_has32 h12 h.at.1 hN, bs]; (try dsimp only); rw [hx, b2T, if_neg n10, c_in, q2, bs]; (try dsimp only); rw [if_pos rfl]
      exact ⟨σ, rfl, Fr.rf⟩
    · rw [eM_stand 0, m_one h.at.1 hN, bs]; (try dsimp only); rw [hx, b2T, if_neg n10, m_in, q2, bs]; (try dsimp only); rw [if_pos rfl]
      exact ⟨σ, rfl, Fr.rf⟩
  have q2 := in_t e0 e1 hy
  by_cases hb : sB (aT a) = nI p
  · refine same hw (-3) (fun σ h => ?_) (fun σ h => ?_)
    · rw [eF_stand 0, c_has32 h12 h.at.1 hN, bs]; (try dsimp only); rw [hx, b2T, if_neg n10, c_in, q2, bs]; (try dsimp only); rw [if_neg n10, if_pos (show σ 12 9 = nI p from h.at.1.B.trans hb)]
      exact ⟨σ, rfl, Fr.rf⟩
    · rw [eM_stand 0, m_one h.at.1 hN, bs]; (try dsimp only); rw [hx, b2T, if_neg n10, m_in, q2, bs]; (try dsimp only); rw [if_neg n10, z1, if_pos (show σ 34 1 = nI p from h.at.1.B.trans hb)]
      exact ⟨σ, rfl, Fr.rf⟩
  refine think hw (if y = 0 then (stdS (aX a) (aT a) p 64).1 else (stdS (aX a) (aT a) p 64).2) (fun σ h => ?_) (fun σ h => ?_)
  · have L : ∀ d c F u σ, c + d = 64 → InvC σ a → (((stdS (aX a) (aT a) p c).1 = -1 ∧ F = 61) ∨ (¬ (stdS (aX a) (aT a) p c).1 = -1 ∧ (stdS (aX a) (aT a) p c).2 = nI F ∧ F < 61)) →
        ∃ σ', R nF_stand 0 28 [.ref 0, .int (nI p), .int y, .int (stdS (aX a) (aT a) p c).1, .int (nI F), .int (nI c), u] [] σ = some (if y = 0 then (stdS (aX a) (aT a) p 64).1 else (stdS (aX a) (aT a) p 64).2, 0, σ') ∧ InvC σ' a ∧ FC σ σ' := by
      intro d
      induction d with
      | zero =>
        intro c F u σ hd h hF
        have e : c = 64 := by omega
        subst e
        rw [eF_stand_28 0, if_neg (by decide)]
        refine ⟨σ, ?_, h, FC.rf⟩
        by_cases y0 : y = 0
        · rw [if_pos y0, if_pos y0]
        · rw [if_neg y0, if_neg y0]
          rcases hF with ⟨g1, g2⟩ | ⟨g1, g2, g3⟩
          · rw [if_pos g1]
            rcases std_or (TX := aX a) (t := aT a) (p := p) 64 (Nat.le_refl _) with ⟨k1, k2⟩ | ⟨b, j, k1, k2, k3, k4⟩
            · rw [k1, k2]
            · rw [k3] at g1
              exact absurd g1 (nI_nm (by omega))
          · rw [if_neg g1, g2]
      | succ d ih =>
        intro c F u σ hd h hF
        have hF61 : F ≤ 61 := by omega
        obtain ⟨σ1, g1, h1, f1⟩ := t_new (k := 0) hw h
        have ht : Tht (su (su σ1 21 p (nI c)) 22 p 0) a (stdT (aT a) p c) := ⟨(h1.1.sP h18).sD h18, h1.2.fr (l := [21, 22]) ((Fr.rf.su (by decide)).su (by decide)) (by decide)⟩
        obtain ⟨σ2, g2, i2, f2⟩ := c_till (t := stdT (aT a) p c) (p := p) (F := F) hp (ok_std ho (p := p) (show c < 64 by omega)) hF61 ht
        have f12 := ((f1.su (c := 21) (i := p) (v := nI c) (by decide)).su (c := 22) (i := p) (v := 0) (by decide)).tr f2
        have es : stdS (aX a) (aT a) p (c + 1) = if stdN (aX a) (aT a) p c = -1 then stdS (aX a) (aT a) p c else if (stdS (aX a) (aT a) p c).1 = -1 then (nI c, stdN (aX a) (aT a) p c) else if stdN (aX a) (aT a) p c < (stdS (aX a) (aT a) p c).2 then (nI c, stdN (aX a) (aT a) p c) else stdS (aX a) (aT a) p c := rfl
        have ea : stdN (aX a) (aT a) p c = if firS (fun t' => overS t' p) (aX a) (stdT (aT a) p c) F 0 = -1 then firS (fun t' => overS t' p) (aX a) (stdT (aT a) p c) (61 - F) (0 + F) else firS (fun t' => overS t' p) (aX a) (stdT (aT a) p c) F 0 := by
          have := fir_add (f := fun t' => overS t' p) (TX := aX a) (t := stdT (aT a) p c) F (61 - F) 0 (by omega)
          rw [show F + (61 - F) = 61 by omega] at this
          exact this
        rw [eF_stand_28 0, if_pos (show nI c < 64 from nI_lt (b := 64) (by omega) (by omega)), g1, bs]; (try dsimp only); rw [if_pos (ib6 h6), if_pos (show inb (nI p) 6 = true ∧ zb 0 = true from ⟨ib6 h6, by decide⟩), ix6 h6, g2, bs]; (try dsimp only); rw [nI_1]
        by_cases hr : firS (fun t' => overS t' p) (aX a) (stdT (aT a) p c) F 0 = -1
        · rw [if_pos hr] at ea
          rw [if_pos hr]
          have es2 : stdS (aX a) (aT a) p (c + 1) = stdS (aX a) (aT a) p c := by
            rw [es]
            by_cases hn1 : stdN (aX a) (aT a) p c = -1
            · rw [if_pos hn1]
            · rw [if_neg hn1]
              rcases fir_or (f := fun t' => overS t' p) (TX := aX a) (t := stdT (aT a) p c) (61 - F) (0 + F) with k | ⟨j, k1, k2, k3⟩
              · exact absurd (ea.trans k) hn1
              · rcases hF with ⟨m1, m2⟩ | ⟨m1, m2, m3⟩
                · omega
                · rw [if_neg m1, if_neg (by rw [ea, k3, m2]; exact nI_nlt (by omega) (by omega))]
          obtain ⟨σ3, g3, i3, f3⟩ := ih (c + 1) F (.int (firS (fun t' => overS t' p) (aX a) (stdT (aT a) p c) F 0)) σ2 (by omega) i2 (by rw [es2]; exact hF)
          rw [es2] at g3
          exact ⟨σ3, g3, i3, f12.tr f3⟩
        · rw [if_neg hr] at ea
          rw [if_neg hr]
          rcases fir_or (f := fun t' => overS t' p) (TX := aX a) (t := stdT (aT a) p c) F 0 with k | ⟨j, k1, k2, k3⟩
          · exact absurd k hr
          · have es2 : stdS (aX a) (aT a) p (c + 1) = (nI c, nI j) := by
              rw [es, ea, if_neg hr, k3]
              rcases hF with ⟨m1, m2⟩ | ⟨m1, m2, m3⟩
              · rw [if_pos m1]
              · rw [if_neg m1, m2, if_pos (nI_lt (by omega) (by omega))]
            obtain ⟨σ3, g3, i3, f3⟩ := ih (c + 1) j (.int (nI j)) σ2 (by omega) i2 (by
              rw [es2]
              exact Or.inr ⟨nI_nm (by omega), rfl, by omega⟩)
            rw [es2] at g3
            rw [k3]
            exact ⟨σ3, g3, i3, f12.tr f3⟩
    rw [eF_stand 0, c_has32 h12 h.at.1 hN, bs]; (try dsimp only); rw [hx, b2T, if_neg n10, c_in, q2, bs]; (try dsimp only); rw [if_neg n10, if_neg (show ¬ σ 12 9 = nI p from fun e => hb (h.at.1.B.symm.trans e))]
    exact L 64 0 61 .null σ rfl h (Or.inl ⟨rfl, rfl⟩)
  · have i18 := ibn (show 3 * p < 18 by omega) (by decide)
    have i19 := ibn (show 3 * p + 1 < 18 by omega) (by decide)
    have L : ∀ d c u w σ, c + d = 64 → Mnd σ a (aT a) (aT a) → ∃ σ', R nM_stand 0 29 [.ref 30, .int (nI p), .int y, .int (stdS (aX a) (aT a) p c).1, .int (stdS (aX a) (aT a) p c).2, .int (nI c), u, w] [] σ =
        some (if y = 0 then (stdS (aX a) (aT a) p 64).1 else (stdS (aX a) (aT a) p 64).2, 0, σ') ∧ InvM σ' a ∧ FM σ σ' := by
      intro d
      induction d with
      | zero =>
        intro c u w σ hd h
        have e : c = 64 := by omega
        subst e
        rw [eM_stand_29 0, if_neg (by decide)]
        refine ⟨σ, ?_, h.1, FM.rf⟩
        split <;> rfl
      | succ d ih =>
        intro c u w σ hd h
        have hm : Mnd (su (su σ 33 (3 * p) (nI c)) 33 (3 * p + 1) 0) a (stdT (aT a) p c) (aT a) := (h.st (Fr.rf.su (by decide)) h.at.1.sP).st (Fr.rf.su (by decide)) h.at.1.sP.sD
        obtain ⟨σ2, t2, g2, h2, s2, f2⟩ := n_first (x := nI p) (y := 0) (now_over (t := stdT (aT a) p c) hp) hm (ok_std ho (by omega))
        obtain ⟨σ3, g3, h3, f3⟩ := n_lays (k := 0) h2 ⟨s2.1.trans rfl, s2.2.1.trans rfl, s2.2.2.1.trans rfl, s2.2.2.2.trans rfl⟩ hN
        have f12 := (((FM.rf (σ := σ)).su (c := 33) (i := 3 * p) (v := nI c) (by decide) (by decide)).su (c := 33) (i := 3 * p + 1) (v := 0) (by decide) (by decide)).tr (f2.tr f3)
        have es : stdS (aX a) (aT a) p (c + 1) = if stdN (aX a) (aT a) p c = -1 then stdS (aX a) (aT a) p c else if (stdS (aX a) (aT a) p c).1 = -1 then (nI c, stdN (aX a) (aT a) p c) else if stdN (aX a) (aT a) p c < (stdS (aX a) (aT a) p c).2 then (nI c, stdN (aX a) (aT a) p c) else stdS (aX a) (aT a) p c := rfl
        rw [eM_stand_29 0, if_pos (show nI c < 64 from nI_lt (b := 64) (by omega) (by omega)), i3, nI_1, nI_1, if_pos i18, if_pos i19, ixn (by omega), ixn (by omega), g2, bs]; (try dsimp only); rw [g3, bs]
        have en : stdN (aX a) (aT a) p c = firS (fun t' => overS t' p) (aX a) (stdT (aT a) p c) 61 0 := rfl
        rw [← en]
        by_cases hn1 : stdN (aX a) (aT a) p c = -1
        · rw [if_pos hn1] at es
          rw [if_pos hn1]
          obtain ⟨σ4, g4, i4, f4⟩ := ih (c + 1) (.int (stdN (aX a) (aT a) p c)) (.int 0) σ3 (by omega) h3
          rw [es] at g4
          exact ⟨σ4, g4, i4, f12.tr f4⟩
        rw [if_neg hn1] at es
        rw [if_neg hn1]
        by_cases hb1 : (stdS (aX a) (aT a) p c).1 = -1
        · rw [if_pos hb1] at es
          rw [if_pos hb1]
          obtain ⟨σ4, g4, i4, f4⟩ := ih (c + 1) (.int (stdN (aX a) (aT a) p c)) (.int 1) σ3 (by omega) h3
          rw [es] at g4
          exact ⟨σ4, g4, i4, f12.tr f4⟩
        rw [if_neg hb1] at es
        rw [if_neg hb1]
        by_cases hl : stdN (aX a) (aT a) p c < (stdS (aX a) (aT a) p c).2
        · rw [if_pos hl] at es
          rw [if_pos hl]
          obtain ⟨σ4, g4, i4, f4⟩ := ih (c + 1) (.int (stdN (aX a) (aT a) p c)) (.int 1) σ3 (by omega) h3
          rw [es] at g4
          exact ⟨σ4, g4, i4, f12.tr f4⟩
        · rw [if_neg hl] at es
          rw [if_neg hl]
          obtain ⟨σ4, g4, i4, f4⟩ := ih (c + 1) (.int (stdN (aX a) (aT a) p c)) (.int 0) σ3 (by omega) h3
          rw [es] at g4
          exact ⟨σ4, g4, i4, f12.tr f4⟩
    obtain ⟨σ1, g1, h1, f1⟩ := n_new (k := 0) (t := aT a) ho h
    obtain ⟨σ2, g2, i2, f2⟩ := L 64 0 .null .null σ1 rfl h1
    rw [eM_stand 0, m_one h.at.1 hN, bs]; (try dsimp only); rw [hx, b2T, if_neg n10, m_in, q2, bs]; (try dsimp only); rw [if_neg n10, z1, if_neg (show ¬ σ 34 1 = nI p from fun e => hb (h.at.1.B.symm.trans e)), g1, bs]
    exact ⟨σ2, g2, i2, f1.tr f2⟩
