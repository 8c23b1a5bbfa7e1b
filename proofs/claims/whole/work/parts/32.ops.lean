theorem InvM.gen {l : List Nat} {σ σ' : Sto} {a : Ab} {t : St} (h : InvM σ a) (hf : Fr l σ σ') (hl : ∀ c, c ∈ l → c ≤ 34 ∨ 43 ≤ c) (h9 : σ' 30 9 = σ 30 9) (h6 : σ' 30 6 = σ 30 6) (h11 : σ' 30 11 = σ 30 11) (hr : RepM σ' t) : InvM σ' (setT a t) := by
  have w : ∀ c, 35 ≤ c → c < 43 → σ' c = σ c := fun c h1 h2 => hf c fun hm => by have := hl c hm; omega
  obtain ⟨⟨g1, g2⟩, g3, g4, g5, g6, g7, g8⟩ := h
  refine ⟨⟨hr, g2.fr hf (fun hm => by have := hl _ hm; omega) (fun hm => by have := hl _ hm; omega)⟩, fun hi => ?_, ?_, ?_, ?_, ?_, ?_⟩
  · unfold Img
    rw [w 38 (by omega) (by omega), w 39 (by omega) (by omega)]
    exact g3 hi
  · rw [h9]; exact g4
  · rw [h6]; exact g5
  · rw [h11]; exact g6
  · rw [w 35 (by omega) (by omega)]; exact g7
  · rw [w 40 (by omega) (by omega), w 41 (by omega) (by omega), w 42 (by omega) (by omega)]; exact g8
theorem walk1_K {TX : TXT} {t : St} {p : Nat} : rK (walk1S TX t p) = rK t ∧ rM (walk1S TX t p) = rM t := by
  unfold walk1S
  split <;> exact ⟨rfl, rfl⟩
theorem walk_K {TX : TXT} {t : St} : ∀ m, rK (walkS TX t m) = rK t ∧ rM (walkS TX t m) = rM t := by
  intro m
  induction m with
  | zero => exact ⟨rfl, rfl⟩
  | succ m ih => exact ⟨walk1_K.1.trans ih.1, walk1_K.2.trans ih.2⟩
theorem ferry_K {TX : TXT} {t : St} : rK (ferryS TX t) = rK t ∧ rM (ferryS TX t) = rM t := by
  unfold ferryS
  split
  · split <;> exact ⟨rfl, rfl⟩
  · split <;> exact ⟨rfl, rfl⟩
theorem hour_K {TX : TXT} {t : St} : rK (hourS TX t) = rK t ∧ rM (hourS TX t) = rM t := ⟨(walk_K _).1.trans ferry_K.1, (walk_K _).2.trans ferry_K.2⟩
theorem s_hour {a : Ab} (hw : WfA a) : Step nF_hour nM_hour [] a := by
  have ho := hw.1
  have e9 : (9999 : Int32).toInt = 9999 := by decide
  have e1 : (1 : Int32).toInt = 1 := by decide
  by_cases h0 : sH (aT a) = 9999
  · refine same hw (-3) (fun σ h => ?_) (fun σ h => ?_)
    · rw [eF_hour 0, h.at.1.H, h0, if_neg (by decide)]
      exact ⟨σ, rfl, Fr.rf⟩
    · rw [eM_hour 0, z3, h.at.1.H, if_pos h0]
      exact ⟨σ, rfl, Fr.rf⟩
  · have h1 : sH (aT a) < 9999 := by
      rw [i_eq, e9] at h0
      rw [i_lt, e9]
      have := hw.2.1
      omega
    have hh : (sH (hourS (aX a) (aT a))).toInt ≤ 9999 := by
      show (sH (aT a) + 1).toInt ≤ 9999
      have h3 := Int32.le_toInt (sH (aT a))
      rw [i_lt, e9] at h1
      rw [i_add (by omega) (by omega), e1]
      omega
    refine ⟨(whoS (aX a) (aT a), 0), setT a (hourS (aX a) (aT a)), hw.st ho.hour hh (by rw [hour_n]; exact Nat.le_refl _) (fun i _ => by rw [hour_K.1, hour_K.2]; exact ⟨rfl, rfl⟩), fun σ h => ?_, fun σ h => ?_⟩
    · obtain ⟨σ', e, r, f⟩ := c_hour (k := 0) h12 h.at ho
      rw [eF_hour 0, h.at.1.H, if_pos h1, e, bs]
      exact ⟨σ', rfl, h.st f r.1, wrc f⟩
    · obtain ⟨σ', e, r, f⟩ := m_hour (k := 0) h.at ho
      rw [eM_hour 0, z3, h.at.1.H, if_neg h0, e, bs]
      exact ⟨σ', rfl, h.st f r.1, wmm f⟩
theorem in_t {lo hi v : Int32} {l h : Int} (e1 : lo.toInt = l) (e2 : hi.toInt = h) (hv : l ≤ v.toInt ∧ v.toInt ≤ h) : b2 (decide (lo.toInt ≤ v.toInt ∧ v.toInt ≤ hi.toInt)) = 1 := b2_t (by rw [e1, e2]; exact hv)
theorem in_f {lo hi v : Int32} {l h : Int} (e1 : lo.toInt = l) (e2 : hi.toInt = h) (hv : ¬ (l ≤ v.toInt ∧ v.toInt ≤ h)) : b2 (decide (lo.toInt ≤ v.toInt ∧ v.toInt ≤ hi.toInt)) = 0 := by rw [e1, e2, decide_eq_false hv]; rfl
theorem s_walk {a : Ab} (hw : WfA a) (x y : Int32) : Step nF_walk nM_walk [.int x, .int y] a := by
  have ho := hw.1
  have e1 : (-63 : Int32).toInt = -63 := by decide
  have e2 : (63 : Int32).toInt = 63 := by decide
  cases hx : isOneS (aT a) x with
  | false =>
    refine same hw (-5) (fun σ h => ?_) (fun σ h => ?_)
    · rw [eF_walk 0, c_has32 h12 h.at.1 ho.n, bs]; (try dsimp only); rw [hx, b2F, if_pos rfl]
      exact ⟨σ, rfl, Fr.rf⟩
    · rw [eM_walk 0, m_one h.at.1 ho.n, bs]; (try dsimp only); rw [hx, b2F, if_pos rfl]
      exact ⟨σ, rfl, Fr.rf⟩
  | true =>
    obtain ⟨p, hp, ep⟩ := one_of ho.n hx
    subst ep
    have h6 : p < 6 := Nat.lt_of_lt_of_le hp ho.n
    by_cases hy : -63 ≤ y.toInt ∧ y.toInt ≤ 63
    · have q := in_t e1 e2 hy
      by_cases h1 : rP (aT a) p = -1
      · refine same hw (-3) (fun σ h => ?_) (fun σ h => ?_)
        · rw [eF_walk 0, c_has32 h12 h.at.1 ho.n, bs]; (try dsimp only); rw [hx, b2T, if_neg n10, c_in, q, bs]; (try dsimp only); rw [if_neg n10, if_pos (ib6 h6), ix6 h6, if_pos (show σ 15 p = -1 from (h.at.1.P hp).trans h1)]
          exact ⟨σ, rfl, Fr.rf⟩
        · rw [eM_walk 0, m_one h.at.1 ho.n, bs]; (try dsimp only); rw [hx, b2T, if_neg n10, m_in, q, bs]; (try dsimp only); rw [if_neg n10, m_isAt h.at.1 ho.n hp, bs]; (try dsimp only); rw [if_pos (show b2 (decide (¬ rP (aT a) p = -1)) = 0 by simp [h1, b2])]
          exact ⟨σ, rfl, Fr.rf⟩
      · refine ⟨(maxI 0 (minI 63 (rP (aT a) p + y)), 0), setT a (goOnS (aT a) p y), hw.st ho.goOn hw.2.1 (Nat.le_refl _) (fun i _ => ⟨rfl, rfl⟩), fun σ h => ?_, fun σ h => ?_⟩
        · obtain ⟨e3, r3⟩ := c_goOn (k := 0) h12 h.at.1 ho.n hp (far := y)
          rw [eF_walk 0, c_has32 h12 h.at.1 ho.n, bs]; (try dsimp only); rw [hx, b2T, if_neg n10, c_in, q, bs]; (try dsimp only); rw [if_neg n10, if_pos (ib6 h6), ix6 h6, if_neg (show ¬ σ 15 p = -1 from fun e => h1 ((h.at.1.P hp).symm.trans e)), e3, bs]; (try dsimp only); rw [if_pos (ib6 h6), su_e]
          exact ⟨_, rfl, h.st (Fr.rf.su (by decide)) r3, FC.rf.su (by decide)⟩
        · rw [eM_walk 0, m_one h.at.1 ho.n, bs]; (try dsimp only); rw [hx, b2T, if_neg n10, m_in, q, bs]; (try dsimp only); rw [if_neg n10, m_isAt h.at.1 ho.n hp, bs]; (try dsimp only); rw [if_neg (show ¬ b2 (decide (¬ rP (aT a) p = -1)) = 0 by simp [h1, b2]), i3, if_pos (ibn (show 3 * p < 18 by omega) (by decide)), ixn (show 3 * p < 2147483648 by omega), h.at.1.P hp, m_within (by decide), bs]; (try dsimp only); rw [if_pos (ibn (show 3 * p < 18 by omega) (by decide)), if_pos (ibn (show 3 * p < 18 by omega) (by decide)), su_e]
          exact ⟨_, rfl, h.st (Fr.rf.su (by decide)) h.at.1.sP, FM.rf.su (by decide) (by decide)⟩
    · have q := in_f e1 e2 hy
      refine same hw (-7) (fun σ h => ?_) (fun σ h => ?_)
      · rw [eF_walk 0, c_has32 h12 h.at.1 ho.n, bs]; (try dsimp only); rw [hx, b2T, if_neg n10, c_in, q, bs]; (try dsimp only); rw [if_pos rfl]
        exact ⟨σ, rfl, Fr.rf⟩
      · rw [eM_walk 0, m_one h.at.1 ho.n, bs]; (try dsimp only); rw [hx, b2T, if_neg n10, m_in, q, bs]; (try dsimp only); rw [if_pos rfl]
        exact ⟨σ, rfl, Fr.rf⟩
theorem s_put {a : Ab} (hw : WfA a) (x y z : Int32) : Step nF_put nM_put [.int x, .int y, .int z] a := by
  have ho := hw.1
  have e0 : (0 : Int32).toInt = 0 := by decide
  have e1 : (1 : Int32).toInt = 1 := by decide
  have e2 : (2 : Int32).toInt = 2 := by decide
  have em : (-1 : Int32).toInt = -1 := by decide
  have e63 : (63 : Int32).toInt = 63 := by decide
  have e99 : (99 : Int32).toInt = 99 := by decide
  cases hx : isOneS (aT a) x with
  | false =>
    refine same hw (-5) (fun σ h => ?_) (fun σ h => ?_)
    · rw [eF_put 0, c_has32 h12 h.at.1 ho.n, bs]; (try dsimp only); rw [hx, b2F, if_pos rfl]
      exact ⟨σ, rfl, Fr.rf⟩
    · rw [eM_put 0, m_one h.at.1 ho.n, bs]; (try dsimp only); rw [hx, b2F, if_pos rfl]
      exact ⟨σ, rfl, Fr.rf⟩
  | true =>
    obtain ⟨p, hp, ep⟩ := one_of ho.n hx
    subst ep
    have h6 : p < 6 := Nat.lt_of_lt_of_le hp ho.n
    have i0 := ibn (show 3 * p < 18 by omega) (by decide)
    have i1 := ibn (show 3 * p + 1 < 18 by omega) (by decide)
    have i2 := ibn (show 3 * p + 2 < 18 by omega) (by decide)
    have j0 := ixn (show 3 * p < 2147483648 by omega)
    have j1 := ixn (show 3 * p + 1 < 2147483648 by omega)
    have j2 := ixn (show 3 * p + 2 < 2147483648 by omega)
    by_cases h0 : y = 0
    · subst h0
      by_cases hz : -1 ≤ z.toInt ∧ z.toInt ≤ 63
      · have q := in_t em e63 hz
        by_cases hb : sB (aT a) = nI p
        · refine same hw (-7) (fun σ h => ?_) (fun σ h => ?_)
          · rw [eF_put 0, c_has32 h12 h.at.1 ho.n, bs]; (try dsimp only); rw [hx, b2T, if_neg n10, if_pos rfl, if_pos (show σ 12 9 = nI p from h.at.1.B.trans hb), eF_put_35 0, if_neg (by decide), eF_put_62 0, if_neg (by decide)]
            exact ⟨σ, rfl, Fr.rf⟩
          · rw [eM_put 0, m_one h.at.1 ho.n, bs]; (try dsimp only); rw [hx, b2T, if_neg n10, if_pos rfl, eM_put_16 0, m_in, bs]; (try dsimp only); rw [if_neg (by decide), if_pos rfl, eM_put_28 0, m_in, q, bs]; (try dsimp only); rw [if_neg n10, if_pos rfl, z1, if_pos (show σ 34 1 = nI p from h.at.1.B.trans hb)]
            exact ⟨σ, rfl, Fr.rf⟩
        · refine ⟨(rP (aT a) p, 0), setT a (pP (aT a) (upd (rP (aT a)) p z)), hw.st (Ok.pP ho hz.1 hz.2) hw.2.1 (Nat.le_refl _) (fun i _ => ⟨rfl, rfl⟩), fun σ h => ?_, fun σ h => ?_⟩
          · rw [eF_put 0, c_has32 h12 h.at.1 ho.n, bs]; (try dsimp only); rw [hx, b2T, if_neg n10, if_pos rfl, if_neg (show ¬ σ 12 9 = nI p from fun e => hb (h.at.1.B.symm.trans e)), c_in, q, bs]; (try dsimp only); rw [if_neg n10, if_pos (ib6 h6), if_pos (ib6 h6), ix6 h6, show σ 15 p = _ from h.at.1.P hp]
            exact ⟨_, rfl, h.st (Fr.rf.su (by decide)) (h.at.1.sP h12), FC.rf.su (by decide)⟩
          · rw [eM_put 0, m_one h.at.1 ho.n, bs]; (try dsimp only); rw [hx, b2T, if_neg n10, if_pos rfl, eM_put_16 0, m_in, bs]; (try dsimp only); rw [if_neg (by decide), if_pos rfl, eM_put_28 0, m_in, q, bs]; (try dsimp only); rw [if_neg n10, if_pos rfl, z1, if_neg (show ¬ σ 34 1 = nI p from fun e => hb (h.at.1.B.symm.trans e)), i3, Int32.add_zero, if_pos i0, if_pos i0, j0, h.at.1.P hp]
            exact ⟨_, rfl, h.st (Fr.rf.su (by decide)) h.at.1.sP, FM.rf.su (by decide) (by decide)⟩
      · have q := in_f em e63 hz
        refine same hw (-7) (fun σ h => ?_) (fun σ h => ?_)
        · by_cases hb : sB (aT a) = nI p
          · rw [eF_put 0, c_has32 h12 h.at.1 ho.n, bs]; (try dsimp only); rw [hx, b2T, if_neg n10, if_pos rfl, if_pos (show σ 12 9 = nI p from h.at.1.B.trans hb), eF_put_35 0, if_neg (by decide), eF_put_62 0, if_neg (by decide)]
            exact ⟨σ, rfl, Fr.rf⟩
          · rw [eF_put 0, c_has32 h12 h.at.1 ho.n, bs]; (try dsimp only); rw [hx, b2T, if_neg n10, if_pos rfl, if_neg (show ¬ σ 12 9 = nI p from fun e => hb (h.at.1.B.symm.trans e)), c_in, q, bs]; (try dsimp only); rw [if_pos rfl, eF_put_35 0, if_neg (by decide), eF_put_62 0, if_neg (by decide)]
            exact ⟨σ, rfl, Fr.rf⟩
        · rw [eM_put 0, m_one h.at.1 ho.n, bs]; (try dsimp only); rw [hx, b2T, if_neg n10, if_pos rfl, eM_put_16 0, m_in, bs]; (try dsimp only); rw [if_neg (by decide), if_pos rfl, eM_put_28 0, m_in, q, bs]; (try dsimp only); rw [if_pos rfl]
          exact ⟨σ, rfl, Fr.rf⟩
    by_cases h1 : y = 1
    · subst h1
      by_cases hz : 0 ≤ z.toInt ∧ z.toInt ≤ 1
      · have q := in_t e0 e1 hz
        have hz2 : z = 0 ∨ z = 1 := by rw [i_eq, i_eq, e0, e1]; omega
        refine ⟨(rD (aT a) p, 0), setT a (pD (aT a) (upd (rD (aT a)) p z)), hw.st (Ok.pD ho hz2) hw.2.1 (Nat.le_refl _) (fun i _ => ⟨rfl, rfl⟩), fun σ h => ?_, fun σ h => ?_⟩
        · rw [eF_put 0, c_has32 h12 h.at.1 ho.n, bs]; (try dsimp only); rw [hx, b2T, if_neg n10, if_neg (by decide), eF_put_35 0, if_pos rfl, c_in, q, bs]; (try dsimp only); rw [if_neg n10, if_pos (ib6 h6), ix6 h6, show σ 16 p = _ from h.at.1.D hp, c_bit (ho.hid hp), bs]; (try dsimp only); rw [if_pos (show inb (nI p) 6 = true ∧ zb 1 = true from ⟨ib6 h6, by decide⟩), if_pos (show inb (nI p) 6 = true ∧ zb 0 = true from ⟨ib6 h6, by decide⟩)]
          rcases hz2 with hz2 | hz2
          · subst hz2
            rw [if_neg (by decide)]
            exact ⟨_, rfl, h.st (Fr.rf.su (by decide)) (h.at.1.sD h12), FC.rf.su (by decide)⟩
          · subst hz2
            rw [if_pos rfl]
            exact ⟨_, rfl, h.st (Fr.rf.su (by decide)) (h.at.1.sD h12), FC.rf.su (by decide)⟩
        · rw [eM_put 0, m_one h.at.1 ho.n, bs]; (try dsimp only); rw [hx, b2T, if_neg n10, if_neg (by decide), if_pos rfl, eM_put_16 0, m_in, bs]; (try dsimp only); rw [if_neg (by decide), if_neg (by decide), eM_put_28 0, m_in, q, bs]; (try dsimp only); rw [if_neg n10, if_neg (by decide), i3, nI_1, if_pos i1, if_pos i1, j1, h.at.1.D hp]
          exact ⟨_, rfl, h.st (Fr.rf.su (by decide)) h.at.1.sD, FM.rf.su (by decide) (by decide)⟩
      · have q := in_f e0 e1 hz
        refine same hw (-7) (fun σ h => ?_) (fun σ h => ?_)
        · rw [eF_put 0, c_has32 h12 h.at.1 ho.n, bs]; (try dsimp only); rw [hx, b2T, if_neg n10, if_neg (by decide), eF_put_35 0, if_pos rfl, c_in, q, bs]; (try dsimp only); rw [if_pos rfl, eF_put_62 0, if_neg (by decide)]
          exact ⟨σ, rfl, Fr.rf⟩
        · rw [eM_put 0, m_one h.at.1 ho.n, bs]; (try dsimp only); rw [hx, b2T, if_neg n10, if_neg (by decide), if_pos rfl, eM_put_16 0, m_in, bs]; (try dsimp only); rw [if_neg (by decide), if_neg (by decide), eM_put_28 0, m_in, q, bs]; (try dsimp only); rw [if_pos rfl]
          exact ⟨σ, rfl, Fr.rf⟩
    by_cases h2 : y = 2
    · subst h2
      by_cases hz : 0 ≤ z.toInt ∧ z.toInt ≤ 99
      · have q := in_t e0 e99 hz
        refine ⟨(rW (aT a) p, 0), setT a (pW (aT a) (upd (rW (aT a)) p z)), hw.st (Ok.pW ho hz.1 hz.2) hw.2.1 (Nat.le_refl _) (fun i _ => ⟨rfl, rfl⟩), fun σ h => ?_, fun σ h => ?_⟩
        · rw [eF_put 0, c_has32 h12 h.at.1 ho.n, bs]; (try dsimp only); rw [hx, b2T, if_neg n10, if_neg (by decide), eF_put_35 0, if_neg (by decide), eF_put_62 0, if_pos rfl, c_in, q, bs]; (try dsimp only); rw [if_neg n10, if_pos (ib6 h6), if_pos (ib6 h6), ix6 h6, show σ 17 p = _ from h.at.1.W hp]
          exact ⟨_, rfl, h.st (Fr.rf.su (by decide)) (h.at.1.sW h12), FC.rf.su (by decide)⟩
        · rw [eM_put 0, m_one h.at.1 ho.n, bs]; (try dsimp only); rw [hx, b2T, if_neg n10, if_neg (by decide), if_neg (by decide), eM_put_16 0, m_in, bs]; (try dsimp only); rw [if_neg (by decide), if_neg (by decide), eM_put_28 0, m_in, q, bs]; (try dsimp only); rw [if_neg n10, if_neg (by decide), i3, nI_2, if_pos i2, if_pos i2, j2, h.at.1.W hp]
          exact ⟨_, rfl, h.st (Fr.rf.su (by decide)) h.at.1.sW, FM.rf.su (by decide) (by decide)⟩
      · have q := in_f e0 e99 hz
        refine same hw (-7) (fun σ h => ?_) (fun σ h => ?_)
        · rw [eF_put 0, c_has32 h12 h.at.1 ho.n, bs]; (try dsimp only); rw [hx, b2T, if_neg n10, if_neg (by decide), eF_put_35 0, if_neg (by decide), eF_put_62 0, if_pos rfl, c_in, q, bs]; (try dsimp only); rw [if_pos rfl]
          exact ⟨σ, rfl, Fr.rf⟩
        · rw [eM_put 0, m_one h.at.1 ho.n, bs]; (try dsimp only); rw [hx, b2T, if_neg n10, if_neg (by decide), if_neg (by decide), eM_put_16 0, m_in, bs]; (try dsimp only); rw [if_neg (by decide), if_neg (by decide), eM_put_28 0, m_in, q, bs]; (try dsimp only); rw [if_pos rfl]
          exact ⟨σ, rfl, Fr.rf⟩
    · have q : b2 (decide ((0 : Int32).toInt ≤ y.toInt ∧ y.toInt ≤ (2 : Int32).toInt)) = 0 := in_f e0 e2 (by
        rw [i_eq, e0] at h0
        rw [i_eq, e1] at h1
        rw [i_eq, e2] at h2
        omega)
      refine same hw (-7) (fun σ h => ?_) (fun σ h => ?_)
      · rw [eF_put 0, c_has32 h12 h.at.1 ho.n, bs]; (try dsimp only); rw [hx, b2T, if_neg n10, if_neg h0, eF_put_35 0, if_neg h1, eF_put_62 0, if_neg h2]
        exact ⟨σ, rfl, Fr.rf⟩
      · rw [eM_put 0, m_one h.at.1 ho.n, bs]; (try dsimp only); rw [hx, b2T, if_neg n10, if_neg h0, if_neg h1, eM_put_16 0, m_in, q, bs]; (try dsimp only); rw [if_pos rfl]
        exact ⟨σ, rfl, Fr.rf⟩
