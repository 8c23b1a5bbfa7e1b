/-! COMPARISON, NOT, AND ALL LEVELS -/
theorem lv_cmp {r : Rw} {n K f : Nat} (hn : n ≤ 160) (hK : K < 6) (h : Lvl r n K nD_sum 5 f) : Lvl r n K nD_comparison 4 f := by
  intro o p c0 H σ τ m u hf hp hC hM ho ho5 hl htop hm0
  have htop : topR H < 4 := htop
  obtain ⟨σ1, e1, f1, g1⟩ := h o p c0 H σ τ m u hf hp hC hM ho ho5 hl (show topR H < 5 by omega) ⟨fun z => by omega, fun z => hm0.2 (by omega)⟩
  rcases g1 with ⟨s, s1, s2, τ4, s3, s4, s5⟩ | ⟨p1, code, cs1, H1, m1, u1, τ1, q1, q2, q3, q4, q5, q6, q7, q8, q9, q10, q11⟩
  · rw [eD_comparison o, e1, bs]
    rw [if_neg (show ¬ σ1 7 5 = -11 from by rw [s2.2.1]; decide), if_neg (show ¬ σ1 7 5 = -12 from by rw [s2.2.1]; decide)]
    exact ⟨σ1, rfl, f1, Or.inl ⟨s, s1, s2, τ4, s3, s4, s5⟩⟩
  have hs := unw_sum q8
  by_cases hx : tkL r n p1 = -11 ∨ tkL r n p1 = -12
  · have hxx : tkL r n p1 < -8 ∧ -15 ≤ (tkL r n p1).toInt ∧ rkN (tkL r n p1) = 4 ∧ unwQ (tkL r n p1) = 5 ∧ opB (tkL r n p1) = false ∧ ¬ tkL r n p1 = 5 ∧ (if 12 < hm (tkL r n p1) then (0 : Int32) else 1) = 0 := by
      rcases hx with z | z
      · rw [z]; decide
      · rw [z]; decide
    obtain ⟨x1, x2, x3, x4, x5, x6, x7⟩ := hxx
    have hnx := tk_nx q2 x6
    obtain ⟨σ2, e2, c2, f2⟩ := c_takeI (k := o) hn q2 q3
    have q8 := q8.trans (unw_stop (show topR H < 5 by omega))
    obtain ⟨τ2, e3, m3, k3⟩ := g_sign (m := m1) (u := u1) hn hK q2 q10 x1 x4 q8 (fun z => by omega) (by omega)
    rw [x7] at e3
    obtain ⟨σ3, e4, f4, g4⟩ := h o (nxL r n p1) (c0 ++ code) (tkL r n p1 :: H) σ2 τ2 0 (.int (hm (tkL r n p1))) (by omega) hnx.2 c2 m3 (by rw [cnt_no x5, ho]) ho5 (by rw [List.length_cons]; omega) (show rkN (tkL r n p1) < 5 by omega) (mOK_0 (by omega))
    have ec : C nD_comparison o [.ref 7, .int (nI o)] σ = (C nD_write o [.ref 7, .int (tkL r n p1)] σ3).bind fun r4 => some (0, 0, r4.2.2) := by
      rw [eD_comparison o, e1, bs]
      dsimp only
      have ht : σ1 7 5 = tkL r n p1 := q3.tok
      rw [e2, bs]
      dsimp only
      rw [e4, bs]; (try dsimp only); rw [← ht]
      by_cases h1 : σ1 7 5 = -11
      · rw [if_pos h1]
      · rw [if_neg h1, if_pos (hx.elim (fun z => absurd (ht.trans z) h1) fun z => ht.trans z)]
    rcases g4 with ⟨s, s1, s2, τ4, s3, s4, s5⟩ | ⟨p3, code2, cs3, H3, m3', u3, τ4, y1, y2, y3, y4, y5, y6, y7, y8, y9, y10, y11⟩
    · obtain ⟨σ4, e5, c5, f5⟩ := c_putF (k := o) s2 (tkL r n p1)
      rw [ec, e5, bs]
      exact ⟨σ4, rfl, ((f1.tr f2).tr f4).tr f5, Or.inl ⟨s, s1, c5, τ4, (q9.trans e3).trans s3, s4, (q11.tr k3).tr s5⟩⟩
    · rw [List.length_cons] at y5
      obtain ⟨σ4, e5, c5, f5⟩ := c_putI (k := o) y3 hK (by omega) (tkL r n p1)
      have ea : c0 ++ code ++ code2 ++ [tkL r n p1] = c0 ++ (code ++ code2 ++ [tkL r n p1]) := by simp only [List.append_assoc]
      rw [ea] at c5
      have y9' := y8.trans (unw_stop (show rkN (tkL r n p1) < 5 by omega))
      rw [ec, e5, bs]
      refine ⟨σ4, rfl, ((f1.tr f2).tr f4).tr f5, Or.inr ⟨p3, code ++ code2 ++ [tkL r n p1], cs3, H3, m3', u3, τ4, by omega, y2, c5, wfC_b q4 y4 x1 x2, ?_, ⟨fun _ => y6.1 (by omega), fun _ => y6.2.1 (by omega), fun z => by omega, fun z => by omega⟩, fun _ _ => ?_, ?_, (q9.trans e3).trans y9, y10, (q11.tr k3).tr y11⟩⟩
      · rw [← ea, mp_len, List.length_singleton]
        omega
      · rw [y9']
        exact x3
      · rw [unw_down (q' := 4) (by omega) y8, unw_push (by omega), ea]
  · rw [eD_comparison o, e1, bs]
    rw [if_neg (show ¬ σ1 7 5 = -11 from fun z => hx (Or.inl (q3.tok.symm.trans z))), if_neg (show ¬ σ1 7 5 = -12 from fun z => hx (Or.inr (q3.tok.symm.trans z)))]
    exact ⟨σ1, rfl, f1, Or.inr ⟨p1, code, cs1, H1, m1, u1, τ1, q1, q2, q3, q4, q5, ⟨fun _ => q6.1 (by omega), fun _ => q6.2.1 (by omega), fun z => by omega, fun z => by omega⟩, fun _ z => absurd z hx, unw_down (by omega) q8, q9, q10, q11⟩⟩
theorem lv_neg {r : Rw} {n K f : Nat} (hn : n ≤ 160) (hK : K < 6) (h : Lvl r n K nD_comparison 4 f) (I : ∀ f', f' < f → Lvl r n K nD_negation 3 f') : Lvl r n K nD_negation 3 f := by
  intro o p c0 H σ τ m u hf hp hC hM ho ho5 hl htop hm0
  have htop : topR H < 4 := htop
  by_cases h8 : tkL r n p = -8
  · obtain ⟨τ1, e1, t1, hM1, k1⟩ := m_nextI hn hp hM
    have d := d_one _ (tk_TL r n p)
    have hnx := tk_nx hp (show ¬ tkL r n p = 5 from by rw [h8]; decide)
    have hm1 : m = 1 := hm0.1 (by omega)
    have x53 : R nM_eRead 0 10 [.ref 30, .int 1, .int m, u] [] τ = (C nM_opensOne 0 [.ref 30, .int 13] τ1).bind fun r1 => if r1.1 = 0 then some (0, 0, r1.2.2) else R nM_eRead 0 10 [.ref 30, .int 1, .int m, u] [] r1.2.2 := by
      rw [w_10 e1, t1.1, if_neg (fun z => by rw [d.1.mp z] at h8; exact absurd h8 (by decide)), if_neg (fun z => (d.2.1.mp z).2 (by rw [h8]; decide)), if_pos (d.2.2.1.mpr h8), if_neg (by rw [hm1]; decide)]
    by_cases h5 : o = 5
    · obtain ⟨σ1, e2, c2, f2⟩ := c_failI (k := o) hC hK (by omega)
      have ec : C nD_negation o [.ref 7, .int (nI o)] σ = some (0, 0, σ1) := by
        rw [eD_negation o, hC.tok, if_pos h8, if_neg (show ¬ nI o < 5 from by rw [h5]; decide), e2, bs]
      rw [ec]
      refine ⟨σ1, rfl, f2, Or.inl ⟨stL r n p, (st_in hp).2, c2, τ1, ?_, t1.2.1, k1⟩⟩
      rw [x53, m_opens0 hM1.2.2.2 (ho.trans h5), bs]
      rfl
    · obtain ⟨σ1, e2, c2, f2⟩ := c_takeI (k := o) hn hp hC
      obtain ⟨τ2, e3, m3, f3⟩ := m_opens (k := 0) (x := -8) hM1.2.2.2 (by decide) (by decide) (by omega) (by rw [ho]; exact h5)
      have hM2 := hM1.fo f3 m3
      obtain ⟨σ2, e4, f4, g4⟩ := I (n - nxL r n p) (by omega) (o + 1) (nxL r n p) c0 (-8 :: H) σ1 τ2 m u (Nat.le_refl _) hnx.2 c2 hM2 (by rw [cnt_op (by decide), ho]) (by omega) (by rw [List.length_cons]; omega) (show 3 < 4 by omega) (by rw [hm1]; exact mOK_1 (by omega))
      have x54 : R nM_eRead 0 10 [.ref 30, .int 1, .int m, u] [] τ = R nM_eRead 0 10 [.ref 30, .int 1, .int m, u] [] τ2 := by
        rw [x53, show (13 : Int32) = hm (-8) from by decide, e3, bs]
        rfl
      have kk : Kp K τ τ2 := k1.tr f3.kp
      have ec : C nD_negation o [.ref 7, .int (nI o)] σ = (C nD_write o [.ref 7, .int (-8)] σ2).bind fun r3 => some (0, 0, r3.2.2) := by
        rw [eD_negation o, hC.tok, if_pos h8, if_pos (show nI o < 5 from nI_lt (b := 5) (by omega) (by omega)), e2, bs]
        dsimp only
        rw [if_pos (show o < 6 by omega), nI_1, e4, bs]
      rcases g4 with ⟨s, s1, s2, τ3, s3, s4, s5⟩ | ⟨p', code, cs', H', m', u', τ3, q1, q2, q3, q4, q5, q6, q7, q8, q9, q10, q11⟩
      · obtain ⟨σ3, e5, c5, f5⟩ := c_putF (k := o) s2 (-8)
        rw [ec, e5, bs]
        exact ⟨σ3, rfl, (f2.tr f4).tr f5, Or.inl ⟨s, s1, c5, τ3, x54.trans s3, s4, kk.tr s5⟩⟩
      · rw [List.length_cons] at q5
        obtain ⟨σ3, e5, c5, f5⟩ := c_putI (k := o) q3 hK (by omega) (-8)
        rw [List.append_assoc] at c5
        rw [ec, e5, bs]
        refine ⟨σ3, rfl, (f2.tr f4).tr f5, Or.inr ⟨p', code ++ [-8], cs', H', m', u', τ3, by omega, q2, c5, wfC_u q4 (Or.inr rfl), ?_, q6, q7, ?_, x54.trans q9, q10, kk.tr q11⟩⟩
        · rw [← List.append_assoc, mp_len, List.length_singleton]
          omega
        · rw [q8, unw_push (by decide), List.append_assoc]
  · obtain ⟨σ1, e1, f1, g1⟩ := h o p c0 H σ τ m u hf hp hC hM ho ho5 hl htop ⟨fun z => by omega, fun _ => Or.inr h8⟩
    rw [eD_negation o, hC.tok, if_neg h8, e1, bs]
    refine ⟨σ1, rfl, f1, g1.imp id ?_⟩
    rintro ⟨p', code, cs', H', m', u', τ3, q1, q2, q3, q4, q5, q6, q7, q8, q9, q10, q11⟩
    exact ⟨p', code, cs', H', m', u', τ3, q1, q2, q3, q4, q5, ⟨fun _ => q6.1 (by omega), fun _ => q6.2.1 (by omega), fun z => by omega, fun z => by omega⟩, fun _ => q7 (by omega), unw_down (by omega) q8, q9, q10, q11⟩
theorem lv_all {r : Rw} {n K : Nat} (hn : n ≤ 160) (hK : K < 6) (f : Nat) : Lvl r n K nD_one 7 f ∧ Lvl r n K nD_negation 3 f ∧ Lvl r n K nD_either 1 f := by
  induction f using Nat.strongRecOn with
  | _ f ih =>
    have h1 := lv_one hn hK (fun f' hf => (ih f' hf).1) (fun f' hf => (ih f' hf).2.2)
    have h2 := lv_neg hn hK (lv_cmp hn hK (lv_sum hn hK (lv_term hn hK h1))) (fun f' hf => (ih f' hf).2.1)
    exact ⟨h1, h2, lv_either hn hK (lv_both hn hK h2)⟩
