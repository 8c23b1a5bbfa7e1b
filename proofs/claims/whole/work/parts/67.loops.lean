/-! TERM, SUM, AND, E: a level's parts with signs between -/
theorem Flt.up {K n : Nat} {σ' : Sto} {X X1 : Option Rs} {τ τ1 : Sto} (h : Flt K n σ' X1 τ1) (e : X = X1) (k : Kp K τ τ1) : Flt K n σ' X τ := by
  obtain ⟨s, s1, s2, τ2, s3, s4, s5⟩ := h
  exact ⟨s, s1, s2, τ2, e.trans s3, s4, k.tr s5⟩
theorem Okk.up {r : Rw} {n K q p : Nat} {c0 H : List Int32} {σ' : Sto} {X X1 : Option Rs} {τ τ1 : Sto} (h : Okk r n K q p c0 H σ' X1 τ1) (e : X = X1) (k : Kp K τ τ1) : Okk r n K q p c0 H σ' X τ := by
  obtain ⟨p', code, cs', H', m', u', τ2, q1, q2, q3, q4, q5, q6, q7, q8, q9, q10, q11⟩ := h
  exact ⟨p', code, cs', H', m', u', τ2, q1, q2, q3, q4, q5, q6, q7, q8, e.trans q9, q10, k.tr q11⟩
/-- the model takes a sign between two -/
theorem g_sign {r : Rw} {n K p q : Nat} {cs H c H0 : List Int32} {m : Int32} {u : Value} {τ : Sto} (hn : n ≤ 160) (hK : K < 6) (hp : p ≤ n) (h : InM r n K p cs H τ) (h8 : tkL r n p < -8) (hq : unwQ (tkL r n p) = q) (hu : unwS q cs H = (c, H0)) (h4 : ¬ (rkN (tkL r n p) = 4 ∧ topR H0 = 4)) (hl : cs.length + H.length < 199) :
    ∃ τ', R nM_eRead 0 10 [.ref 30, .int 0, .int m, u] [] τ = R nM_eRead 0 10 [.ref 30, .int 1, .int (if 12 < hm (tkL r n p) then 0 else 1), .int (hm (tkL r n p))] [] τ' ∧ InM r n K (nxL r n p) c (tkL r n p :: H0) τ' ∧ Kp K τ τ' := by
  obtain ⟨τ1, e1, t1, hM1, k1⟩ := m_nextI hn hp h
  have hTL := tk_TL r n p
  have d := d_end _ hTL
  obtain ⟨q1, q2, q3, q4, q5, q6, q7, q8⟩ := d.2.2.2 h8
  obtain ⟨τ2, g, f2⟩ := m_betw (k := 0) hK hM1.2.2.2 q2 q3 (by omega)
  rw [hq, hu] at g
  rcases g with ⟨g1, g2, _⟩ | ⟨_, e2, m2⟩
  · exact absurd ⟨g1, g2⟩ h4
  · refine ⟨τ2, ?_, hM1.fo f2 m2, k1.tr f2.kp⟩
    rw [e_10 e1, t1.1, if_neg (fun z => q8 (d.1.mp z)), if_neg (fun z => q7 (d.2.1.mp z)), m_sgn hTL t1.1, bs]; (try dsimp only); rw [if_neg (show ¬ sgF (tkL r n p) = -1 from by rw [q4]; exact q5), q4, e2, bs]
    rw [if_neg n10]
    by_cases h12 : 12 < hm (tkL r n p)
    · rw [if_pos h12, if_pos h12, eM_eRead_143 0]
    · rw [if_neg h12, if_neg h12, eM_eRead_143 0]
theorem lv_loop {r : Rw} {n K f y z q qs : Nat} {ops : List Int32} (Lf : Int32 → Int32 → Value → List Value) (hn : n ≤ 160) (hK : K < 6) (hL : Lvl r n K z qs f)
    (hops : ∀ x ∈ ops, x < -8 ∧ -15 ≤ x.toInt ∧ rkN x = q ∧ unwQ x = q ∧ opB x = false ∧ ¬ x = 5 ∧ (qs ≤ 3 → (if 12 < hm x then (0 : Int32) else 1) = 1) ∧ (4 ≤ qs → (if 12 < hm x then (0 : Int32) else 1) = 0)) (h6 : ¬ (6 : Int32) ∈ ops)
    (hq1 : 1 ≤ q) (hq4 : ¬ q = 4) (hqt : q < topB qs) (hqq : q < qs) (htb : topB q = q)
    (hstart : ∀ o σ, C y o [.ref 7, .int (nI o)] σ = (C z o [.ref 7, .int (nI o)] σ).bind fun r1 => R y o 5 (Lf (nI o) 0 .null) [] r1.2.2)
    (hgo : ∀ o j u x σ, j < 160 → x ∈ ops → σ 7 5 = x → ∃ u', R y o 5 (Lf (nI o) (nI j) u) [] σ = (C nD_take o [.ref 7] σ).bind fun r1 => (C z o [.ref 7, .int (nI o)] r1.2.2).bind fun r2 => (C nD_write o [.ref 7, .int x] r2.2.2).bind fun r3 => R y o 5 (Lf (nI o) (nI (j + 1)) u') [] r3.2.2)
    (hend : ∀ o j u σ, ¬ σ 7 5 ∈ ops → R y o 5 (Lf (nI o) (nI j) u) [] σ = some (0, 0, σ))
    (hrest : ∀ t, restOK qs t → ¬ t ∈ ops → restOK q t) (hmo : ∀ m t, mOK q m t → mOK qs m t) (hc4 : q ≤ 4 → qs ≤ 4) : Lvl r n K y q f := by
  intro o p c0 H σ τ m u hf hp hC hM ho ho5 hl htop hm0
  rw [htb] at htop
  have L : ∀ d p1 code cs1 H1 m' u' j uu σ1 τ1, n - p1 ≤ d → p < p1 → p1 ≤ n → InC r n K p1 (c0 ++ code) σ1 → wfC code → (c0 ++ code).length + H.length ≤ p1 → InM r n K p1 cs1 H1 τ1 → unwS q cs1 H1 = (c0 ++ code, H) → restOK qs (tkL r n p1) → cmpOK q (tkL r n p1) cs1 H1 → j ≤ p1 →
      ∃ σ', R y o 5 (Lf (nI o) (nI j) uu) [] σ1 = some (0, 0, σ') ∧ Kc K σ1 σ' ∧ (Flt K n σ' (R nM_eRead 0 10 [.ref 30, .int 0, .int m', u'] [] τ1) τ1 ∨ Okk r n K q p c0 H σ' (R nM_eRead 0 10 [.ref 30, .int 0, .int m', u'] [] τ1) τ1) := by
    intro d
    have out : ∀ p1 code cs1 H1 m' u' j uu σ1 τ1, p < p1 → p1 ≤ n → InC r n K p1 (c0 ++ code) σ1 → wfC code → (c0 ++ code).length + H.length ≤ p1 → InM r n K p1 cs1 H1 τ1 → unwS q cs1 H1 = (c0 ++ code, H) → restOK qs (tkL r n p1) → cmpOK q (tkL r n p1) cs1 H1 → ¬ tkL r n p1 ∈ ops →
      ∃ σ', R y o 5 (Lf (nI o) (nI j) uu) [] σ1 = some (0, 0, σ') ∧ Kc K σ1 σ' ∧ (Flt K n σ' (R nM_eRead 0 10 [.ref 30, .int 0, .int m', u'] [] τ1) τ1 ∨ Okk r n K q p c0 H σ' (R nM_eRead 0 10 [.ref 30, .int 0, .int m', u'] [] τ1) τ1) := by
      intro p1 code cs1 H1 m' u' j uu σ1 τ1 h1 h2 h3 h4 h5 h6 h7 h8 h9 h10
      refine ⟨σ1, hend o j uu σ1 (by rw [h3.tok]; exact h10), Kc.rf, Or.inr ⟨p1, code, cs1, H1, m', u', τ1, h1, h2, h3, h4, h5, hrest _ h8 h10, h9, h7.trans (unw_stop htop).symm, rfl, h6, Kp.rf⟩⟩
    induction d with
    | zero =>
      intro p1 code cs1 H1 m' u' j uu σ1 τ1 hd h1 h2 h3 h4 h5 h6 h7 h8 h9 hj
      refine out p1 code cs1 H1 m' u' j uu σ1 τ1 h1 h2 h3 h4 h5 h6 h7 h8 h9 fun hx => ?_
      have := tk_nx h2 (hops _ hx).2.2.2.2.2.1
      omega
    | succ d ih =>
      intro p1 code cs1 H1 m' u' j uu σ1 τ1 hd h1 h2 h3 h4 h5 h6a h7 h8 h9 hj
      by_cases hx : tkL r n p1 ∈ ops
      rotate_left
      · exact out p1 code cs1 H1 m' u' j uu σ1 τ1 h1 h2 h3 h4 h5 h6a h7 h8 h9 hx
      obtain ⟨x1, x2, x3, x4, x5, x6, x7, x8⟩ := hops _ hx
      have hnx := tk_nx h2 x6
      have hs := unw_sum (h7.trans (unw_stop htop).symm)
      obtain ⟨u2, ego⟩ := hgo o j uu _ σ1 (by omega) hx h3.tok
      obtain ⟨σ2, e2, c2, f2⟩ := c_takeI (k := o) hn h2 h3
      obtain ⟨τ2, e3, m3, k3⟩ := g_sign (m := m') (u := u') hn hK h2 h6a x1 x4 h7 (fun z => hq4 (x3.symm.trans z.1)) (by omega)
      obtain ⟨σ3, e4, f4, g4⟩ := hL o (nxL r n p1) (c0 ++ code) (tkL r n p1 :: H) σ2 τ2 (if 12 < hm (tkL r n p1) then 0 else 1) (.int (hm (tkL r n p1))) (by omega) hnx.2 c2 m3 (by rw [cnt_no x5, ho]) ho5 (by rw [List.length_cons]; omega) (show rkN (tkL r n p1) < topB qs by omega) ⟨fun h => x7 h, fun h => Or.inl (x8 h)⟩
      have ec : R y o 5 (Lf (nI o) (nI j) uu) [] σ1 = (C nD_write o [.ref 7, .int (tkL r n p1)] σ3).bind fun r3 => R y o 5 (Lf (nI o) (nI (j + 1)) u2) [] r3.2.2 := by
        rw [ego, e2, bs]
        dsimp only
        rw [e4, bs]
      rcases g4 with ⟨s, s1, s2, τ4, s3, s4, s5⟩ | ⟨p3, code2, cs3, H3, m3', u3, τ4, q1, q2, q3, q4, q5, q6, q7, q8, q9, q10, q11⟩
      · obtain ⟨σ4, e5, c5, f5⟩ := c_putF (k := o) s2 (tkL r n p1)
        rw [ec, e5, bs]; (try dsimp only); rw [hend o (j + 1) u2 σ4 (by rw [c5.2.1]; exact h6)]
        exact ⟨σ4, rfl, (f2.tr f4).tr f5, Or.inl ⟨s, s1, c5, τ4, e3.trans s3, s4, k3.tr s5⟩⟩
      · rw [List.length_cons] at q5
        obtain ⟨σ4, e5, c5, f5⟩ := c_putI (k := o) q3 hK (by omega) (tkL r n p1)
        have ea : c0 ++ code ++ code2 ++ [tkL r n p1] = c0 ++ (code ++ code2 ++ [tkL r n p1]) := by simp only [List.append_assoc]
        have q8 := unw_down (Nat.le_of_lt hqq) q8
        rw [unw_push (by omega), unw_stop htop, ea] at q8
        rw [ea] at c5
        obtain ⟨σ5, e6, f6, g6⟩ := ih p3 (code ++ code2 ++ [tkL r n p1]) cs3 H3 m3' u3 (j + 1) u2 σ4 τ4 (by omega) (by omega) q2 c5 (wfC_b h4 q4 x1 x2) (by rw [← ea, mp_len, List.length_singleton]; omega) q10 q8 q6 (fun h => q7 (hc4 h)) (by omega)
        rw [ec, e5, bs]; (try dsimp only); rw [e6]
        exact ⟨σ5, rfl, ((f2.tr f4).tr f5).tr f6, g6.imp (fun z => z.up (e3.trans q9) (k3.tr q11)) fun z => z.up (e3.trans q9) (k3.tr q11)⟩
  obtain ⟨σ1, e1, f1, g1⟩ := hL o p c0 H σ τ m u hf hp hC hM ho ho5 hl (by omega) (hmo _ _ hm0)
  rw [hstart o σ, e1, bs]
  rcases g1 with ⟨s, s1, s2, τ4, s3, s4, s5⟩ | ⟨p3, code2, cs3, H3, m3', u3, τ4, q1, q2, q3, q4, q5, q6, q7, q8, q9, q10, q11⟩
  · rw [show (0 : Int32) = nI 0 from rfl, hend o 0 .null σ1 (by rw [s2.2.1]; exact h6)]
    exact ⟨σ1, rfl, f1, Or.inl ⟨s, s1, s2, τ4, s3, s4, s5⟩⟩
  · have q8 := unw_down (Nat.le_of_lt hqq) q8
    rw [unw_stop htop] at q8
    obtain ⟨σ5, e6, f6, g6⟩ := L (n - p3) p3 code2 cs3 H3 m3' u3 0 .null σ1 τ4 (Nat.le_refl _) q1 q2 q3 q4 q5 q10 q8 q6 (fun h => q7 (hc4 h)) (by omega)
    rw [show (0 : Int32) = nI 0 from rfl, e6]
    exact ⟨σ5, rfl, f1.tr f6, g6.imp (fun z => z.up q9 q11) fun z => z.up q9 q11⟩
theorem lv_term {r : Rw} {n K f : Nat} (hn : n ≤ 160) (hK : K < 6) (h : Lvl r n K nD_one 7 f) : Lvl r n K nD_term 6 f := by
  refine lv_loop (ops := [-15]) (fun o j _ => [.ref 7, .int o, .int j]) hn hK h (by decide +kernel) (by decide) (by omega) (by omega) (by decide) (by omega) rfl (fun o σ => eD_term o (nI o) σ) (fun o j u x σ hj hx e => ⟨.null, ?_⟩) (fun o j u σ hx => ?_) (fun t ht hx => ?_) (fun m t ht => ⟨fun z => by omega, fun z => ht.2 (by omega)⟩) (fun z => by omega)
  · rw [List.mem_singleton] at hx
    rw [eD_term_5 o, if_pos (show nI j < 160 from nI_lt (b := 160) hj (by omega)), if_pos (e.trans hx), hx, nI_1]
  · rw [List.mem_singleton] at hx
    rw [eD_term_5 o, if_neg hx]
    split <;> rfl
  · rw [List.mem_singleton] at hx
    exact ⟨fun _ => hx, fun z => by omega, fun z => by omega, fun z => by omega⟩
theorem lv_sum {r : Rw} {n K f : Nat} (hn : n ≤ 160) (hK : K < 6) (h : Lvl r n K nD_term 6 f) : Lvl r n K nD_sum 5 f := by
  refine lv_loop (ops := [-13, -14]) (fun o j u => [.ref 7, .int o, .int j, u]) hn hK h (by decide +kernel) (by decide) (by omega) (by omega) (by decide) (by omega) rfl (fun o σ => eD_sum o (nI o) σ) (fun o j u x σ hj hx e => ⟨.int (σ 7 5), ?_⟩) (fun o j u σ hx => ?_) (fun t ht hx => ?_) (fun m t ht => ⟨fun z => by omega, fun z => ht.2 (by omega)⟩) (fun z => by omega)
  · simp only [List.mem_cons, List.not_mem_nil, or_false] at hx
    rw [eD_sum_5 o, if_pos (show nI j < 160 from nI_lt (b := 160) hj (by omega)), nI_1, ← e]
    by_cases h1 : σ 7 5 = -13
    · rw [if_pos h1]
    · rw [if_neg h1, if_pos (hx.elim (fun z => absurd (e.trans z) h1) fun z => e.trans z)]
  · simp only [List.mem_cons, List.not_mem_nil, or_false, not_or] at hx
    rw [eD_sum_5 o, if_neg hx.1, if_neg hx.2]
    split <;> rfl
  · simp only [List.mem_cons, List.not_mem_nil, or_false, not_or] at hx
    exact ⟨fun _ => ht.1 (by omega), fun _ => hx, fun z => by omega, fun z => by omega⟩
theorem lv_both {r : Rw} {n K f : Nat} (hn : n ≤ 160) (hK : K < 6) (h : Lvl r n K nD_negation 3 f) : Lvl r n K nD_both 2 f := by
  refine lv_loop (ops := [-10]) (fun o j _ => [.ref 7, .int o, .int j]) hn hK h (by decide +kernel) (by decide) (by omega) (by omega) (by decide) (by omega) rfl (fun o σ => eD_both o (nI o) σ) (fun o j u x σ hj hx e => ⟨.null, ?_⟩) (fun o j u σ hx => ?_) (fun t ht hx => ?_) (fun m t ht => ⟨fun z => ht.1 (by omega), fun z => by omega⟩) (fun z => by omega)
  · rw [List.mem_singleton] at hx
    rw [eD_both_5 o, if_pos (show nI j < 160 from nI_lt (b := 160) hj (by omega)), if_pos (e.trans hx), hx, nI_1]
  · rw [List.mem_singleton] at hx
    rw [eD_both_5 o, if_neg hx]
    split <;> rfl
  · rw [List.mem_singleton] at hx
    exact ⟨fun _ => ht.1 (by omega), fun _ => ht.2.1 (by omega), fun _ => hx, fun z => by omega⟩
theorem lv_either {r : Rw} {n K f : Nat} (hn : n ≤ 160) (hK : K < 6) (h : Lvl r n K nD_both 2 f) : Lvl r n K nD_either 1 f := by
  refine lv_loop (ops := [-9]) (fun o j _ => [.ref 7, .int o, .int j]) hn hK h (by decide +kernel) (by decide) (by omega) (by omega) (by decide) (by omega) rfl (fun o σ => eD_either o (nI o) σ) (fun o j u x σ hj hx e => ⟨.null, ?_⟩) (fun o j u σ hx => ?_) (fun t ht hx => ?_) (fun m t ht => ⟨fun z => ht.1 (by omega), fun z => by omega⟩) (fun z => by omega)
  · rw [List.mem_singleton] at hx
    rw [eD_either_5 o, if_pos (show nI j < 160 from nI_lt (b := 160) hj (by omega)), if_pos (e.trans hx), hx, nI_1]
  · rw [List.mem_singleton] at hx
    rw [eD_either_5 o, if_neg hx]
    split <;> rfl
  · rw [List.mem_singleton] at hx
    exact ⟨fun _ => ht.1 (by omega), fun _ => ht.2.1 (by omega), fun _ => ht.2.2.1 (by omega), fun _ => hx⟩
