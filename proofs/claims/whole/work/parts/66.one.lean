/-! ONE -/
def sgF (t : Int32) : Int32 := if t < -8 then hm t else -1
theorem m_sgn {t : Int32} (ht : t ∈ TL) {τ : Sto} (h : τ 30 20 = psiT t) : C nM_signOf 0 [.ref 30] τ = some (sgF t, 0, τ) := by
  rw [eM_signOf 0, h]
  unfold TL at ht
  simp only [List.mem_cons, List.not_mem_nil, or_false] at ht
  rcases ht with h | h | h | h | h | h | h | h | h | h | h | h | h | h | h | h | h | h | h | h | h | h | h <;> (subst h; rfl)
theorem e_10 {m : Int32} {u : Value} {τ τ1 : Sto} (e : C nM_next 0 [.ref 30] τ = some (0, 0, τ1)) : R nM_eRead 0 10 [.ref 30, .int 0, .int m, u] [] τ =
    if (τ1 30 20) = 59 then
      (C nM_unwinds 0 [.ref 30, .int 1] τ1).bind fun r2 => if (r2.2.2 30 24) = 0 then R nM_eRead 0 94 [.ref 30, .int 0, .int m, u] [.int 1] r2.2.2 else R nM_eRead 0 94 [.ref 30, .int 0, .int m, u] [.int 0] r2.2.2
    else if (τ1 30 20) = 41 then
      (C nM_unwinds 0 [.ref 30, .int 1] τ1).bind fun r2 => if (r2.2.2 30 24) = 0 then some (0, 0, r2.2.2) else
        (C nM_unwinds 0 [.ref 30, .int 7] (su (su r2.2.2 30 24 ((r2.2.2 30 24) - 1)) 30 25 (((su r2.2.2 30 24 ((r2.2.2 30 24) - 1)) 30 25) - 1))).bind fun r3 => R nM_eRead 0 10 [.ref 30, .int 0, .int m, u] [] r3.2.2
    else
      (C nM_signOf 0 [.ref 30] τ1).bind fun r2 => if r2.1 = (-1) then R nM_eRead 0 133 [.ref 30, .int 0, .int m, .int r2.1] [] r2.2.2 else
        (C nM_between 0 [.ref 30, .int r2.1] r2.2.2).bind fun r3 => if r3.1 = 0 then R nM_eRead 0 133 [.ref 30, .int 0, .int m, .int r2.1] [] r3.2.2 else
          if 12 < r2.1 then R nM_eRead 0 143 [.ref 30, .int 1, .int m, .int r2.1] [.int 0] r3.2.2 else R nM_eRead 0 143 [.ref 30, .int 1, .int m, .int r2.1] [.int 1] r3.2.2 := by
  rw [eM_eRead_10 0, e]
  rfl
theorem m_pop {K : Nat} {c H : List Int32} {τ : Sto} (h : MS K c (1 :: H) τ) (hl : H.length < 200) : MS K c H (su (su τ 30 24 ((τ 30 24) - 1)) 30 25 (((su τ 30 24 ((τ 30 24) - 1)) 30 25) - 1)) ∧ Fo K τ (su (su τ 30 24 ((τ 30 24) - 1)) 30 25 (((su τ 30 24 ((τ 30 24) - 1)) 30 25) - 1)) := by
  obtain ⟨h1, h2, h3, h4, h5, h6, h7⟩ := h
  have hc := cnt_le H
  have h4 : τ 30 24 = nI (H.length + 1) := h4
  have h6 : τ 30 25 = nI (cntO H + 1) := by rw [h6, cnt_op (by decide)]
  have e4 : nI (H.length + 1) - 1 = nI H.length := nI_subN (n := H.length + 1) (m := 1) (by omega) (by omega)
  have e6 : nI (cntO H + 1) - 1 = nI (cntO H) := nI_subN (n := cntO H + 1) (m := 1) (by omega) (by omega)
  refine ⟨⟨?_, ?_, fun j y hj => ?_, ?_, ?_, ?_, fun y hy => h7 y (List.mem_cons_of_mem _ hy)⟩, (Fo.rf.s30 (by omega) (by omega)).s30 (by omega) (by omega)⟩
  · rw [su_o (by decide), su_o (by decide)]; exact h1
  · rw [su_o (by decide), su_o (by decide)]; exact h2
  · rw [su_ne (by decide), su_ne (by decide)]; exact h3 j y hj
  · rw [su_o (by decide), su_e, h4, e4]
  · rw [su_ne (by decide), su_ne (by decide)]; exact h5.2
  · rw [su_e, su_o (by decide), h6, e6]
theorem d_end : ∀ t ∈ TL, (psiT t = 59 ↔ t = 4) ∧ (psiT t = 41 ↔ t = 3) ∧ (¬ t < -8 → sgF t = -1) ∧ (t < -8 → (t = -9 ∨ t = -10 ∨ t = -11 ∨ t = -12 ∨ t = -13 ∨ t = -14 ∨ t = -15) ∧ t ∈ HL ∧ opB t = false ∧ sgF t = hm t ∧ ¬ hm t = -1 ∧ ¬ t = 5 ∧ ¬ t = 3 ∧ ¬ t = 4) := by decide +kernel
/-- a parenthesis is closed -/
theorem g_close {r : Rw} {n K p : Nat} {cs H c H0 : List Int32} {m : Int32} {u : Value} {τ : Sto} (hn : n ≤ 160) (hK : K < 6) (hp : p ≤ n) (h : InM r n K p cs H τ) (ht : tkL r n p = 3) (hu : unwS 1 cs H = (c, 1 :: H0)) (hl : cs.length + H.length < 199) :
    ∃ τ', R nM_eRead 0 10 [.ref 30, .int 0, .int m, u] [] τ = R nM_eRead 0 10 [.ref 30, .int 0, .int m, u] [] τ' ∧ InM r n K (nxL r n p) (unwS 7 c H0).1 (unwS 7 c H0).2 τ' ∧ Kp K τ τ' := by
  obtain ⟨τ1, e1, t1, hM1, k1⟩ := m_nextI hn hp h
  obtain ⟨τ2, e2, m2, f2⟩ := m_unwinds (k := 0) (q := 1) hK (by omega) (by omega) hM1.2.2.2 (by omega)
  have hul := unw_len (q := 1) H cs
  rw [hu] at m2 hul
  have hul : c.length + (H0.length + 1) = cs.length + H.length := hul
  have m2 : MS K c (1 :: H0) τ2 := m2
  obtain ⟨m3, f3⟩ := m_pop m2 (by omega)
  obtain ⟨τ4, e4, m4, f4⟩ := m_unwinds (k := 0) (q := 7) hK (by omega) (by omega) m3 (by omega)
  have d := d_end _ (tk_TL r n p)
  have h24 : ¬ τ2 30 24 = 0 := by
    rw [show τ2 30 24 = nI (H0.length + 1) from m2.2.2.2.1]
    exact nI_ne0 (by omega) (by omega)
  rw [e_10 e1, t1.1, if_neg (fun z => by rw [d.1.mp z] at ht; exact absurd ht (by decide)), if_pos (d.2.1.mpr ht), show (1 : Int32) = nI 1 from rfl, e2, bs]
  rw [if_neg h24]
  rw [show (nI 1 : Int32) = 1 from rfl, show (7 : Int32) = nI 7 from rfl, e4, bs]
  exact ⟨τ4, rfl, ((hM1.fo f2 m2).fo f3 m3).fo f4 m4, k1.tr ((f2.tr f3).tr f4).kp⟩
/-- behind an E stands what can't -/
theorem g_bad {r : Rw} {n K p : Nat} {cs H : List Int32} {m : Int32} {u : Value} {τ : Sto} (hn : n ≤ 160) (hK : K < 6) (hp : p ≤ n) (h : InM r n K p cs H τ) (hr : restOK 1 (tkL r n p)) (hc : cmpOK 1 (tkL r n p) cs H) (h3 : tkL r n p = 3 → (unwS 1 cs H).2 = []) (h4 : tkL r n p = 4 → ¬ (unwS 1 cs H).2 = []) (hl : cs.length + H.length < 199) :
    ∃ τ', R nM_eRead 0 10 [.ref 30, .int 0, .int m, u] [] τ = some (0, 0, τ') ∧ τ' 30 19 = nI (stL r n p) ∧ Kp K τ τ' := by
  obtain ⟨τ1, e1, t1, hM1, k1⟩ := m_nextI hn hp h
  obtain ⟨τ2, e2, m2, f2⟩ := m_unwinds (k := 0) (q := 1) hK (by omega) (by omega) hM1.2.2.2 (by omega)
  rw [show nI 1 = (1 : Int32) from rfl] at e2
  have hTL := tk_TL r n p
  have d := d_end _ hTL
  have b2 : τ2 30 19 = nI (stL r n p) := (f2.2.1 19 (by omega)).trans t1.2.1
  rw [e_10 e1, t1.1]
  by_cases c4 : tkL r n p = 4
  · rw [if_pos (d.1.mpr c4), e2, bs]
    have h24 : ¬ τ2 30 24 = 0 := by
      rw [show τ2 30 24 = nI (unwS 1 cs H).2.length from m2.2.2.2.1]
      have := h4 c4
      have hul := unw_len (q := 1) H cs
      cases hq : (unwS 1 cs H).2 with
      | nil => exact absurd hq this
      | cons y l =>
        rw [hq, List.length_cons] at hul
        exact nI_ne0 (by rw [List.length_cons]; omega) (by rw [List.length_cons]; omega)
    rw [if_neg h24, eM_eRead_94 0, if_pos (by decide)]
    exact ⟨τ2, rfl, b2, k1.tr f2.kp⟩
  rw [if_neg (fun z => c4 (d.1.mp z))]
  by_cases c3 : tkL r n p = 3
  · rw [if_pos (d.2.1.mpr c3), e2, bs]
    have h24 : τ2 30 24 = 0 := by
      rw [show τ2 30 24 = nI (unwS 1 cs H).2.length from m2.2.2.2.1, h3 c3]
      rfl
    rw [if_pos h24]
    exact ⟨τ2, rfl, b2, k1.tr f2.kp⟩
  rw [if_neg (fun z => c3 (d.2.1.mp z)), m_sgn hTL t1.1, bs]
  by_cases c8 : tkL r n p < -8
  · obtain ⟨q1, q2, q3, q4, q5, _⟩ := d.2.2.2 c8
    have q6 : tkL r n p = -11 ∨ tkL r n p = -12 := by
      rcases q1 with z | z | z | z | z | z | z
      · exact absurd z (hr.2.2.2 (by omega))
      · exact absurd z (hr.2.2.1 (by omega))
      · exact Or.inl z
      · exact Or.inr z
      · exact absurd z (hr.2.1 (by omega)).1
      · exact absurd z (hr.2.1 (by omega)).2
      · exact absurd z (hr.1 (by omega))
    have q7 : rkN (tkL r n p) = 4 ∧ unwQ (tkL r n p) = 5 := by
      rcases q6 with z | z
      · rw [z]; decide
      · rw [z]; decide
    obtain ⟨τ3, g, f3⟩ := m_betw (k := 0) hK hM1.2.2.2 q2 q3 (by omega)
    rw [q7.2] at g
    rcases g with ⟨_, _, e3⟩ | ⟨g1, _⟩
    · rw [if_neg (show ¬ sgF (tkL r n p) = -1 from by rw [q4]; exact q5), q4, e3, bs]
      rw [if_pos rfl, eM_eRead_133 0]
      exact ⟨τ3, rfl, (f3.2.1 19 (by omega)).trans t1.2.1, k1.tr f3.kp⟩
    · exact absurd ⟨q7.1, hc (by omega) q6⟩ g1
  · rw [if_pos (d.2.2.1 c8), eM_eRead_133 0]
    exact ⟨τ1, rfl, t1.2.1, k1⟩
theorem mp_len {a b : List Int32} : (a ++ b).length = a.length + b.length := List.length_append
theorem lv_one {r : Rw} {n K f : Nat} (hn : n ≤ 160) (hK : K < 6) (I1 : ∀ f', f' < f → Lvl r n K nD_one 7 f') (I2 : ∀ f', f' < f → Lvl r n K nD_either 1 f') : Lvl r n K nD_one 7 f := by
  intro o p c0 H σ τ m u hf hp hC hM ho ho5 hl htop hmo
  obtain ⟨τ1, e1, t1, hM1, k1⟩ := m_nextI hn hp hM
  have hTL := tk_TL r n p
  have d := d_one _ hTL
  have hst := st_in (r := r) hp
  have hm8 : tkL r n p = -8 → m = 0 := fun z => (hmo.2 (by omega)).elim id fun y => absurd z y
  have bad : (C nD_one o [.ref 7, .int (nI o)] σ = (C nD_fail o [.ref 7] σ).bind fun r1 => some (0, 0, r1.2.2)) → (∃ τ', R nM_eRead 0 10 [.ref 30, .int 1, .int m, u] [] τ = some (0, 0, τ') ∧ τ' 30 19 = nI (stL r n p) ∧ Kp K τ τ') →
      ∃ σ', C nD_one o [.ref 7, .int (nI o)] σ = some (0, 0, σ') ∧ Kc K σ σ' ∧ (Flt K n σ' (R nM_eRead 0 10 [.ref 30, .int 1, .int m, u] [] τ) τ ∨ Okk r n K 7 p c0 H σ' (R nM_eRead 0 10 [.ref 30, .int 1, .int m, u] [] τ) τ) := by
    intro g1 g2
    obtain ⟨σ1, e2, c2, f2⟩ := c_failI (k := o) hC hK (by omega)
    rw [g1, e2, bs]
    exact ⟨σ1, rfl, f2, Or.inl ⟨stL r n p, hst.2, c2, g2⟩⟩
  have val : ∀ x, wfC [x] → ¬ tkL r n p = 5 → (C nD_one o [.ref 7, .int (nI o)] σ = (C nD_write o [.ref 7, .int x] σ).bind fun r1 => (C nD_take o [.ref 7] r1.2.2).bind fun r2 => some (0, 0, r2.2.2)) →
      (R nM_eRead 0 10 [.ref 30, .int 1, .int m, u] [] τ = R nM_eRead 0 34 [.ref 30, .int 1, .int m, u] [.int (phi x), .ref 30] τ1) →
      ∃ σ', C nD_one o [.ref 7, .int (nI o)] σ = some (0, 0, σ') ∧ Kc K σ σ' ∧ (Flt K n σ' (R nM_eRead 0 10 [.ref 30, .int 1, .int m, u] [] τ) τ ∨ Okk r n K 7 p c0 H σ' (R nM_eRead 0 10 [.ref 30, .int 1, .int m, u] [] τ) τ) := by
    intro x hx h5 g1 g2
    have hnx := tk_nx hp h5
    obtain ⟨σ1, e2, c2, f2⟩ := c_putI (k := o) hC hK (by omega) x
    obtain ⟨σ2, e3, c3, f3⟩ := c_takeI (k := o) hn hp c2
    obtain ⟨τ2, e4, m4, f4⟩ := w_val (m := m) (u := u) hK (by omega) hM1 x
    rw [g1, e2, bs]; (try dsimp only); rw [e3, bs]; (try dsimp only); rw [g2, e4]
    refine ⟨σ2, rfl, f2.tr f3, Or.inr ⟨nxL r n p, [x], _, _, m, u, τ2, hnx.1, hnx.2, c3, hx, ?_, ⟨fun h => by omega, fun h => by omega, fun h => by omega, fun h => by omega⟩, fun h => by omega, unw_unw (Nat.le_refl _) _ _, rfl, m4, k1.tr f4⟩⟩
    rw [mp_len, List.length_singleton]
    omega
  by_cases h1 : tkL r n p = 1
  · have hv := vl_in hp h1
    have e6 : (-6 : Int32).toInt = -6 := by decide
    refine val (vlL r n p) (wfC_v (by rw [i_lt, e6]; omega) (by omega) hv.2) (by rw [h1]; decide) ?_ ?_
    · rw [eD_one o, hC.tok, h1, if_neg (by decide), if_neg (by decide), if_pos rfl, show σ 7 6 = vlL r n p from hC.2.1.2.2.2.2 h1]
    · rw [w_10 e1, t1.1, if_pos (d.1.mpr h1), eM_eRead_22 0, t1.1, if_pos (d.1.mpr h1), t1.2.2.2.1 h1, phi_of hv.1]
  by_cases h2 : ¬ -1 < tkL r n p ∧ ¬ tkL r n p < -6
  · obtain ⟨n1, n2, n3, n4, n5⟩ := d_nam _ hTL h2.1 h2.2
    refine val (tkL r n p) (wfC_v h2.2 n1.1 n1.2) n5 ?_ ?_
    · rw [eD_one o, hC.tok, if_neg n2, if_neg n3, if_neg n4, if_neg h2.1, if_neg h2.2]
    · rw [w_10 e1, t1.1, if_neg (fun z => h1 (d.1.mp z)), if_pos (d.2.1.mpr h2), eM_eRead_22 0, t1.1, if_neg (fun z => h1 (d.1.mp z)), t1.2.2.2.2.1 h2.1 h2.2]
  have e10 : R nM_eRead 0 10 [.ref 30, .int 1, .int m, u] [] τ = if tkL r n p = -8 then (if m = 0 then R nM_eRead 0 53 [.ref 30, .int 1, .int m, u] [] τ1 else (C nM_opensOne 0 [.ref 30, .int 13] τ1).bind fun r2 => if r2.1 = 0 then some (0, 0, r2.2.2) else R nM_eRead 0 10 [.ref 30, .int 1, .int m, u] [] r2.2.2) else R nM_eRead 0 53 [.ref 30, .int 1, .int m, u] [] τ1 := by
    rw [w_10 e1, t1.1, if_neg (fun z => h1 (d.1.mp z)), if_neg (fun z => h2 (d.2.1.mp z))]
    by_cases h8 : tkL r n p = -8
    · rw [if_pos (d.2.2.1.mpr h8), if_pos h8]
    · rw [if_neg (fun z => h8 (d.2.2.1.mp z)), if_neg h8]
  by_cases h14 : tkL r n p = -14
  · have hnx := tk_nx hp (show ¬ tkL r n p = 5 from by rw [h14]; decide)
    have x53 : R nM_eRead 0 10 [.ref 30, .int 1, .int m, u] [] τ = (C nM_opensOne 0 [.ref 30, .int 19] τ1).bind fun r1 => if r1.1 = 0 then some (0, 0, r1.2.2) else R nM_eRead 0 10 [.ref 30, .int 1, .int 0, u] [] r1.2.2 := by
      rw [e10, if_neg (by rw [h14]; decide), eM_eRead_53 0, t1.1, if_pos (d.2.2.2.1.mpr h14)]
    by_cases h5 : o = 5
    · refine bad ?_ ⟨τ1, ?_, t1.2.1, k1⟩
      · rw [eD_one o, hC.tok, h14, if_pos rfl, eD_one_8 o, hC.tok, h14, if_neg (by decide), if_neg (by decide), if_pos (by decide), if_neg (show ¬ nI o < 5 from by rw [h5]; decide)]
      · rw [x53, m_opens0 hM1.2.2.2 (ho.trans h5), bs]
        rfl
    · obtain ⟨σ1, e2, c2, f2⟩ := c_takeI (k := o) hn hp hC
      obtain ⟨τ2, e3, m3, f3⟩ := m_opens (k := 0) (x := -7) hM1.2.2.2 (by decide) (by decide) (by omega) (by rw [ho]; exact h5)
      have hM2 := hM1.fo f3 m3
      obtain ⟨σ2, e4, f4, g4⟩ := I1 (n - nxL r n p) (by omega) (o + 1) (nxL r n p) c0 (-7 :: H) σ1 τ2 0 u (Nat.le_refl _) hnx.2 c2 hM2 (by rw [cnt_op (by decide), ho]) (by omega) (by rw [List.length_cons]; omega) (show 7 < 8 by omega) (mOK_0 (by omega))
      have x54 : R nM_eRead 0 10 [.ref 30, .int 1, .int m, u] [] τ = R nM_eRead 0 10 [.ref 30, .int 1, .int 0, u] [] τ2 := by
        rw [x53, show (19 : Int32) = hm (-7) from by decide, e3, bs]
        rfl
      have kk : Kp K τ τ2 := k1.tr f3.kp
      have ec : C nD_one o [.ref 7, .int (nI o)] σ = (C nD_write o [.ref 7, .int (-7)] σ2).bind fun r3 => some (0, 0, r3.2.2) := by
        rw [eD_one o, hC.tok, h14, if_pos rfl, eD_one_8 o, hC.tok, h14, if_neg (by decide), if_neg (by decide), if_pos (by decide), if_pos (show nI o < 5 from nI_lt (b := 5) (by omega) (by omega)), if_pos rfl, e2, bs]
        dsimp only
        rw [if_pos (show o < 6 by omega), nI_1, e4, bs]
      rcases g4 with ⟨s, s1, s2, τ3, s3, s4, s5⟩ | ⟨p', code, cs', H', m', u', τ3, q1, q2, q3, q4, q5, q6, q7, q8, q9, q10, q11⟩
      · obtain ⟨σ3, e5, c5, f5⟩ := c_putF (k := o) s2 (-7)
        rw [ec, e5, bs]; (try dsimp only); rw [x54]
        exact ⟨σ3, rfl, (f2.tr f4).tr f5, Or.inl ⟨s, s1, c5, τ3, s3, s4, kk.tr s5⟩⟩
      · rw [List.length_cons] at q5
        obtain ⟨σ3, e5, c5, f5⟩ := c_putI (k := o) q3 hK (by omega) (-7)
        rw [List.append_assoc] at c5
        rw [ec, e5, bs]; (try dsimp only); rw [x54]
        refine ⟨σ3, rfl, (f2.tr f4).tr f5, Or.inr ⟨p', code ++ [-7], cs', H', m', u', τ3, by omega, q2, c5, wfC_u q4 (Or.inl rfl), ?_, q6, q7, ?_, q9, q10, kk.tr q11⟩⟩
        · rw [← List.append_assoc, mp_len, List.length_singleton]
          omega
        · rw [q8, unw_push (by decide), List.append_assoc]
  by_cases h02 : tkL r n p = 2
  · have hnx := tk_nx hp (show ¬ tkL r n p = 5 from by rw [h02]; decide)
    have x53 : R nM_eRead 0 10 [.ref 30, .int 1, .int m, u] [] τ = (C nM_opensOne 0 [.ref 30, .int 0] τ1).bind fun r1 => if r1.1 = 0 then some (0, 0, r1.2.2) else R nM_eRead 0 10 [.ref 30, .int 1, .int 1, u] [] r1.2.2 := by
      rw [e10, if_neg (by rw [h02]; decide), eM_eRead_53 0, t1.1, if_neg (fun z => h14 (d.2.2.2.1.mp z)), if_pos (d.2.2.2.2.mpr h02)]
    by_cases h5 : o = 5
    · refine bad ?_ ⟨τ1, ?_, t1.2.1, k1⟩
      · rw [eD_one o, hC.tok, h02, if_neg (by decide), if_pos rfl, eD_one_8 o, hC.tok, h02, if_neg (by decide), if_pos (by decide), if_neg (show ¬ nI o < 5 from by rw [h5]; decide)]
      · rw [x53, m_opens0 hM1.2.2.2 (ho.trans h5), bs]
        rfl
    · obtain ⟨σ1, e2, c2, f2⟩ := c_takeI (k := o) hn hp hC
      obtain ⟨τ2, e3, m3, f3⟩ := m_opens (k := 0) (x := 1) hM1.2.2.2 (by decide) (by decide) (by omega) (by rw [ho]; exact h5)
      have hM2 := hM1.fo f3 m3
      obtain ⟨σ2, e4, f4, g4⟩ := I2 (n - nxL r n p) (by omega) (o + 1) (nxL r n p) c0 (1 :: H) σ1 τ2 1 u (Nat.le_refl _) hnx.2 c2 hM2 (by rw [cnt_op (by decide), ho]) (by omega) (by rw [List.length_cons]; omega) (show 0 < 1 by omega) (mOK_1 (by omega))
      have x54 : R nM_eRead 0 10 [.ref 30, .int 1, .int m, u] [] τ = R nM_eRead 0 10 [.ref 30, .int 1, .int 1, u] [] τ2 := by
        rw [x53, show (0 : Int32) = hm 1 from by decide, e3, bs]
        rfl
      have kk : Kp K τ τ2 := k1.tr f3.kp
      have ec : C nD_one o [.ref 7, .int (nI o)] σ = (C nD_expect o [.ref 7, .int 3] σ2).bind fun r3 => some (0, 0, r3.2.2) := by
        rw [eD_one o, hC.tok, h02, if_neg (by decide), if_pos rfl, eD_one_8 o, hC.tok, h02, if_neg (by decide), if_pos (by decide), if_pos (show nI o < 5 from nI_lt (b := 5) (by omega) (by omega)), if_neg (by decide), e2, bs]
        dsimp only
        rw [if_pos (show o < 6 by omega), nI_1, e4, bs]
      rcases g4 with ⟨s, s1, s2, τ3, s3, s4, s5⟩ | ⟨p', code, cs', H', m', u', τ3, q1, q2, q3, q4, q5, q6, q7, q8, q9, q10, q11⟩
      · obtain ⟨σ3, e5, c5, f5⟩ := c_expF (k := o) s2 (by omega) (w := 3) (by decide)
        rw [ec, e5, bs]; (try dsimp only); rw [x54]
        exact ⟨σ3, rfl, (f2.tr f4).tr f5, Or.inl ⟨s, s1, c5, τ3, s3, s4, kk.tr s5⟩⟩
      · rw [List.length_cons] at q5
        have hs := unw_sum q8
        rw [List.length_cons] at hs
        have q8 : unwS 1 cs' H' = (c0 ++ code, 1 :: H) := q8.trans (unw_stop (show 0 < 1 by omega))
        by_cases ht : tkL r n p' = 3
        · obtain ⟨σ3, e5, c5, f5⟩ := c_expI (k := o) hn q2 q3 ht
          obtain ⟨τ4, e6, m6, f6⟩ := g_close (m := m') (u := u') hn hK q2 q10 ht q8 (by omega)
          have hnx' := tk_nx q2 (show ¬ tkL r n p' = 5 from by rw [ht]; decide)
          rw [ec, e5, bs]; (try dsimp only); rw [x54, q9, e6]
          refine ⟨σ3, rfl, (f2.tr f4).tr f5, Or.inr ⟨nxL r n p', code, _, _, m', u', τ4, by omega, hnx'.2, c5, q4, by omega, ⟨fun h => by omega, fun h => by omega, fun h => by omega, fun h => by omega⟩, fun h => by omega, unw_unw (Nat.le_refl _) _ _, rfl, m6, (kk.tr q11).tr f6⟩⟩
        · obtain ⟨σ3, e5, c5, f5⟩ := c_expB (k := o) hK (by omega) q3 ht
          obtain ⟨τ4, e6, s6, f6⟩ := g_bad (m := m') (u := u') hn hK q2 q10 q6 q7 (fun z => absurd z ht) (fun _ => by rw [q8]; exact List.cons_ne_nil _ _) (by omega)
          rw [ec, e5, bs]; (try dsimp only); rw [x54, q9, e6]
          exact ⟨σ3, rfl, (f2.tr f4).tr f5, Or.inl ⟨stL r n p', (st_in q2).2, c5, τ4, rfl, s6, (kk.tr q11).tr f6⟩⟩
  refine bad ?_ (w_bad e1 t1 k1 hm8 h1 h2 h14 h02)
  rw [eD_one o, hC.tok, if_neg h14, if_neg h02, if_neg h1]
  by_cases g1 : -1 < tkL r n p
  · rw [if_pos g1]
  · rw [if_neg g1]
    by_cases g2 : tkL r n p < -6
    · rw [if_pos g2]
    · exact absurd ⟨g1, g2⟩ h2
