theorem s_feed {a : Ab} (hw : WfA a) (n b1 b2' b3 b4 b5 : Int32) : Step nF_feed nM_feed [.int n, .int b1, .int b2', .int b3, .int b4, .int b5] a := by
  have e1 : (1 : Int32).toInt = 1 := by decide
  have e5 : (5 : Int32).toInt = 5 := by decide
  have hl := hw.2.2.2.1
  by_cases hn : 1 ≤ n.toInt ∧ n.toInt ≤ 5
  rotate_left
  · have q := in_f e1 e5 hn
    refine same hw (-2) (fun σ h => ?_) (fun σ h => ?_)
    · rw [eF_feed 0, c_in, q, bs]; (try dsimp only); rw [if_pos rfl]
      exact ⟨σ, rfl, Fr.rf⟩
    · rw [eM_feed 0, m_in, q, bs]; (try dsimp only); rw [if_pos rfl]
      exact ⟨σ, rfl, Fr.rf⟩
  have q := in_t e1 e5 hn
  cases h1 : byS b1 with
  | false =>
    refine same hw (-2) (fun σ h => ?_) (fun σ h => ?_)
    · rw [eF_feed 0, c_in, q, bs]; (try dsimp only); rw [if_neg n10, c_byte, bs]; (try dsimp only); rw [h1, b2F, if_pos rfl]
      exact ⟨σ, rfl, Fr.rf⟩
    · rw [eM_feed 0, m_in, q, bs]; (try dsimp only); rw [if_neg n10, m_byte, bs]; (try dsimp only); rw [h1, b2F, if_pos rfl]
      exact ⟨σ, rfl, Fr.rf⟩
  | true =>
  cases h2 : byS b2' with
  | false =>
    refine same hw (-2) (fun σ h => ?_) (fun σ h => ?_)
    · rw [eF_feed 0, c_in, q, bs]; (try dsimp only); rw [if_neg n10, c_byte, bs]; (try dsimp only); rw [h1, b2T, if_neg n10, c_byte, bs]; (try dsimp only); rw [h2, b2F, if_pos rfl]
      exact ⟨σ, rfl, Fr.rf⟩
    · rw [eM_feed 0, m_in, q, bs]; (try dsimp only); rw [if_neg n10, m_byte, bs]; (try dsimp only); rw [h1, b2T, if_neg n10, m_byte, bs]; (try dsimp only); rw [h2, b2F, if_pos rfl]
      exact ⟨σ, rfl, Fr.rf⟩
  | true =>
  cases h3 : byS b3 with
  | false =>
    refine same hw (-2) (fun σ h => ?_) (fun σ h => ?_)
    · rw [eF_feed 0, c_in, q, bs]; (try dsimp only); rw [if_neg n10, c_byte, bs]; (try dsimp only); rw [h1, b2T, if_neg n10, c_byte, bs]; (try dsimp only); rw [h2, b2T, if_neg n10, c_byte, bs]; (try dsimp only); rw [h3, b2F, if_pos rfl]
      exact ⟨σ, rfl, Fr.rf⟩
    · rw [eM_feed 0, m_in, q, bs]; (try dsimp only); rw [if_neg n10, m_byte, bs]; (try dsimp only); rw [h1, b2T, if_neg n10, m_byte, bs]; (try dsimp only); rw [h2, b2T, if_neg n10, m_byte, bs]; (try dsimp only); rw [h3, b2F, if_pos rfl]
      exact ⟨σ, rfl, Fr.rf⟩
  | true =>
  cases h4 : byS b4 with
  | false =>
    refine same hw (-2) (fun σ h => ?_) (fun σ h => ?_)
    · rw [eF_feed 0, c_in, q, bs]; (try dsimp only); rw [if_neg n10, c_byte, bs]; (try dsimp only); rw [h1, b2T, if_neg n10, c_byte, bs]; (try dsimp only); rw [h2, b2T, if_neg n10, c_byte, bs]; (try dsimp only); rw [h3, b2T, if_neg n10, c_byte, bs]; (try dsimp only); rw [h4, b2F, if_pos rfl]
      exact ⟨σ, rfl, Fr.rf⟩
    · rw [eM_feed 0, m_in, q, bs]; (try dsimp only); rw [if_neg n10, m_byte, bs]; (try dsimp only); rw [h1, b2T, if_neg n10, m_byte, bs]; (try dsimp only); rw [h2, b2T, if_neg n10, m_byte, bs]; (try dsimp only); rw [h3, b2T, if_neg n10, m_byte, bs]; (try dsimp only); rw [h4, b2F, if_pos rfl]
      exact ⟨σ, rfl, Fr.rf⟩
  | true =>
  cases h5 : byS b5 with
  | false =>
    refine same hw (-2) (fun σ h => ?_) (fun σ h => ?_)
    · rw [eF_feed 0, c_in, q, bs]; (try dsimp only); rw [if_neg n10, c_byte, bs]; (try dsimp only); rw [h1, b2T, if_neg n10, c_byte, bs]; (try dsimp only); rw [h2, b2T, if_neg n10, c_byte, bs]; (try dsimp only); rw [h3, b2T, if_neg n10, c_byte, bs]; (try dsimp only); rw [h4, b2T, if_neg n10, c_byte, bs]; (try dsimp only); rw [h5, b2F, if_pos rfl]
      exact ⟨σ, rfl, Fr.rf⟩
    · rw [eM_feed 0, m_in, q, bs]; (try dsimp only); rw [if_neg n10, m_byte, bs]; (try dsimp only); rw [h1, b2T, if_neg n10, m_byte, bs]; (try dsimp only); rw [h2, b2T, if_neg n10, m_byte, bs]; (try dsimp only); rw [h3, b2T, if_neg n10, m_byte, bs]; (try dsimp only); rw [h4, b2T, if_neg n10, m_byte, bs]; (try dsimp only); rw [h5, b2F, if_pos rfl]
      exact ⟨σ, rfl, Fr.rf⟩
  | true =>
  obtain ⟨c, hc, ec⟩ := nI_in1 (x := n) (n := 6) (by omega) (by omega)
  subst ec
  rw [nI_toInt (by omega)] at hn
  by_cases hf : aL a + c ≤ 160
  rotate_left
  · refine same hw (-4) (fun σ h => ?_) (fun σ h => ?_)
    · rw [eF_feed 0, c_in, q, bs]; (try dsimp only); rw [if_neg n10, c_byte, bs]; (try dsimp only); rw [h1, b2T, if_neg n10, c_byte, bs]; (try dsimp only); rw [h2, b2T, if_neg n10, c_byte, bs]; (try dsimp only); rw [h3, b2T, if_neg n10, c_byte, bs]; (try dsimp only); rw [h4, b2T, if_neg n10, c_byte, bs]; (try dsimp only); rw [h5, b2T, if_neg n10, if_pos (show 160 - σ 0 7 < nI c from by rw [h.2.2.2.1, show (160 : Int32) = nI 160 from rfl, nI_subN (by omega) (by omega)]; exact nI_lt (by omega) (by omega))]
      exact ⟨σ, rfl, Fr.rf⟩
    · rw [eM_feed 0, m_in, q, bs]; (try dsimp only); rw [if_neg n10, m_byte, bs]; (try dsimp only); rw [h1, b2T, if_neg n10, m_byte, bs]; (try dsimp only); rw [h2, b2T, if_neg n10, m_byte, bs]; (try dsimp only); rw [h3, b2T, if_neg n10, m_byte, bs]; (try dsimp only); rw [h4, b2T, if_neg n10, m_byte, bs]; (try dsimp only); rw [h5, b2T, if_neg n10, if_pos (show 160 < σ 30 6 + nI c from by rw [h.2.2.2.1, nI_add]; exact nI_lt (a := 160) (by omega) (by omega))]
      exact ⟨σ, rfl, Fr.rf⟩
  have hcases : c = 1 ∨ c = 2 ∨ c = 3 ∨ c = 4 ∨ c = 5 := by omega
  rcases hcases with hcc | hcc | hcc | hcc | hcc
  · subst hcc
    refine ⟨(nI (aL a + 1), 0), (fedA a b1), (hw.fed (show aL a < 160 from (show aL a + 0 < 160 by omega)) b1), fun σ h => ?_, fun σ h => ?_⟩
    · obtain ⟨σ1, t1, i1, f1⟩ := c_tape (k := 0) h (show aL a < 160 from (show aL a + 0 < 160 by omega)) b1
      rw [eF_feed 0, c_in, q, bs]; (try dsimp only); rw [if_neg n10, c_byte, bs]; (try dsimp only); rw [h1, b2T, if_neg n10, c_byte, bs]; (try dsimp only); rw [h2, b2T, if_neg n10, c_byte, bs]; (try dsimp only); rw [h3, b2T, if_neg n10, c_byte, bs]; (try dsimp only); rw [h4, b2T, if_neg n10, c_byte, bs]; (try dsimp only); rw [h5, b2T, if_neg n10, if_neg (show ¬ 160 - σ 0 7 < nI 1 from by rw [h.2.2.2.1, show (160 : Int32) = nI 160 from rfl, nI_subN (by omega) (by omega)]; exact nI_nlt (by omega) (by omega)), t1, bs]; (try dsimp only); rw [if_neg (by decide), eF_feed_39 0, if_neg (by decide), if_neg (by decide), if_neg (by decide), show σ1 0 7 = nI (aL a + 1) from i1.2.2.2.1]
      exact ⟨σ1, rfl, i1, f1⟩
    · obtain ⟨σ1, t1, i1, f1⟩ := m_tape h (show aL a < 160 from (show aL a + 0 < 160 by omega)) b1 (nI 1) b1 b2' b3 b4 b5 0 1 (by decide)
      rw [eM_feed 0, m_in, q, bs]; (try dsimp only); rw [if_neg n10, m_byte, bs]; (try dsimp only); rw [h1, b2T, if_neg n10, m_byte, bs]; (try dsimp only); rw [h2, b2T, if_neg n10, m_byte, bs]; (try dsimp only); rw [h3, b2T, if_neg n10, m_byte, bs]; (try dsimp only); rw [h4, b2T, if_neg n10, m_byte, bs]; (try dsimp only); rw [h5, b2T, if_neg n10, if_neg (show ¬ 160 < σ 30 6 + nI 1 from by rw [h.2.2.2.1, nI_add]; exact nI_nlt (a := 160) (by omega) (by omega)), eM_feed_32 0, if_pos (by decide), if_pos (by decide), t1, eM_feed_32 0, if_neg (by decide), show σ1 30 6 = nI (aL a + 1) from i1.2.2.2.1]
      exact ⟨σ1, rfl, i1, f1⟩
  · subst hcc
    refine ⟨(nI (aL a + 2), 0), (fedA (fedA a b1) b2'), ((hw.fed (show aL a < 160 from (show aL a + 0 < 160 by omega)) b1).fed (show aL (fedA a b1) < 160 from (show aL a + 1 < 160 by omega)) b2'), fun σ h => ?_, fun σ h => ?_⟩
    · obtain ⟨σ1, t1, i1, f1⟩ := c_tape (k := 0) h (show aL a < 160 from (show aL a + 0 < 160 by omega)) b1
      obtain ⟨σ2, t2, i2, f2⟩ := c_tape (k := 0) i1 (show aL (fedA a b1) < 160 from (show aL a + 1 < 160 by omega)) b2'
      rw [eF_feed 0, c_in, q, bs]; (try dsimp only); rw [if_neg n10, c_byte, bs]; (try dsimp only); rw [h1, b2T, if_neg n10, c_byte, bs]; (try dsimp only); rw [h2, b2T, if_neg n10, c_byte, bs]; (try dsimp only); rw [h3, b2T, if_neg n10, c_byte, bs]; (try dsimp only); rw [h4, b2T, if_neg n10, c_byte, bs]; (try dsimp only); rw [h5, b2T, if_neg n10, if_neg (show ¬ 160 - σ 0 7 < nI 2 from by rw [h.2.2.2.1, show (160 : Int32) = nI 160 from rfl, nI_subN (by omega) (by omega)]; exact nI_nlt (by omega) (by omega)), t1, bs]; (try dsimp only); rw [if_pos (by decide), t2, bs]; (try dsimp only); rw [eF_feed_39 0, if_neg (by decide), if_neg (by decide), if_neg (by decide), show σ2 0 7 = nI (aL a + 2) from i2.2.2.2.1]
      exact ⟨σ2, rfl, i2, (f1.tr f2)⟩
    · obtain ⟨σ1, t1, i1, f1⟩ := m_tape h (show aL a < 160 from (show aL a + 0 < 160 by omega)) b1 (nI 2) b1 b2' b3 b4 b5 0 1 (by decide)
      obtain ⟨σ2, t2, i2, f2⟩ := m_tape i1 (show aL (fedA a b1) < 160 from (show aL a + 1 < 160 by omega)) b2' (nI 2) b1 b2' b3 b4 b5 1 2 (by decide)
      rw [eM_feed 0, m_in, q, bs]; (try dsimp only); rw [if_neg n10, m_byte, bs]; (try dsimp only); rw [h1, b2T, if_neg n10, m_byte, bs]; (try dsimp only); rw [h2, b2T, if_neg n10, m_byte, bs]; (try dsimp only); rw [h3, b2T, if_neg n10, m_byte, bs]; (try dsimp only); rw [h4, b2T, if_neg n10, m_byte, bs]; (try dsimp only); rw [h5, b2T, if_neg n10, if_neg (show ¬ 160 < σ 30 6 + nI 2 from by rw [h.2.2.2.1, nI_add]; exact nI_nlt (a := 160) (by omega) (by omega)), eM_feed_32 0, if_pos (by decide), if_pos (by decide), t1, eM_feed_32 0, if_pos (by decide), if_neg (by decide), if_pos (by decide), t2, eM_feed_32 0, if_neg (by decide), show σ2 30 6 = nI (aL a + 2) from i2.2.2.2.1]
      exact ⟨σ2, rfl, i2, (f1.tr f2)⟩
  · subst hcc
    refine ⟨(nI (aL a + 3), 0), (fedA (fedA (fedA a b1) b2') b3), (((hw.fed (show aL a < 160 from (show aL a + 0 < 160 by omega)) b1).fed (show aL (fedA a b1) < 160 from (show aL a + 1 < 160 by omega)) b2').fed (show aL (fedA (fedA a b1) b2') < 160 from (show aL a + 2 < 160 by omega)) b3), fun σ h => ?_, fun σ h => ?_⟩
    · obtain ⟨σ1, t1, i1, f1⟩ := c_tape (k := 0) h (show aL a < 160 from (show aL a + 0 < 160 by omega)) b1
      obtain ⟨σ2, t2, i2, f2⟩ := c_tape (k := 0) i1 (show aL (fedA a b1) < 160 from (show aL a + 1 < 160 by omega)) b2'
      obtain ⟨σ3, t3, i3, f3⟩ := c_tape (k := 0) i2 (show aL (fedA (fedA a b1) b2') < 160 from (show aL a + 2 < 160 by omega)) b3
      rw [eF_feed 0, c_in, q, bs]; (try dsimp only); rw [if_neg n10, c_byte, bs]; (try dsimp only); rw [h1, b2T, if_neg n10, c_byte, bs]; (try dsimp only); rw [h2, b2T, if_neg n10, c_byte, bs]; (try dsimp only); rw [h3, b2T, if_neg n10, c_byte, bs]; (try dsimp only); rw [h4, b2T, if_neg n10, c_byte, bs]; (try dsimp only); rw [h5, b2T, if_neg n10, if_neg (show ¬ 160 - σ 0 7 < nI 3 from by rw [h.2.2.2.1, show (160 : Int32) = nI 160 from rfl, nI_subN (by omega) (by omega)]; exact nI_nlt (by omega) (by omega)), t1, bs]; (try dsimp only); rw [if_pos (by decide), t2, bs]; (try dsimp only); rw [eF_feed_39 0, if_pos (by decide), t3, bs]; (try dsimp only); rw [if_neg (by decide), if_neg (by decide), show σ3 0 7 = nI (aL a + 3) from i3.2.2.2.1]
      exact ⟨σ3, rfl, i3, ((f1.tr f2).tr f3)⟩
    · obtain ⟨σ1, t1, i1, f1⟩ := m_tape h (show aL a < 160 from (show aL a + 0 < 160 by omega)) b1 (nI 3) b1 b2' b3 b4 b5 0 1 (by decide)
      obtain ⟨σ2, t2, i2, f2⟩ := m_tape i1 (show aL (fedA a b1) < 160 from (show aL a + 1 < 160 by omega)) b2' (nI 3) b1 b2' b3 b4 b5 1 2 (by decide)
      obtain ⟨σ3, t3, i3, f3⟩ := m_tape i2 (show aL (fedA (fedA a b1) b2') < 160 from (show aL a + 2 < 160 by omega)) b3 (nI 3) b1 b2' b3 b4 b5 2 3 (by decide)
      rw [eM_feed 0, m_in, q, bs]; (try dsimp only); rw [if_neg n10, m_byte, bs]; (try dsimp only); rw [h1, b2T, if_neg n10, m_byte, bs]; (try dsimp only); rw [h2, b2T, if_neg n10, m_byte, bs]; (try dsimp only); rw [h3, b2T, if_neg n10, m_byte, bs]; (try dsimp only); rw [h4, b2T, if_neg n10, m_byte, bs]; (try dsimp only); rw [h5, b2T, if_neg n10, if_neg (show ¬ 160 < σ 30 6 + nI 3 from by rw [h.2.2.2.1, nI_add]; exact nI_nlt (a := 160) (by omega) (by omega)), eM_feed_32 0, if_pos (by decide), if_pos (by decide), t1, eM_feed_32 0, if_pos (by decide), if_neg (by decide), if_pos (by decide), t2, eM_feed_32 0, if_pos (by decide), if_neg (by decide), if_neg (by decide), if_pos (by decide), t3, eM_feed_32 0, if_neg (by decide), show σ3 30 6 = nI (aL a + 3) from i3.2.2.2.1]
      exact ⟨σ3, rfl, i3, ((f1.tr f2).tr f3)⟩
  · subst hcc
    refine ⟨(nI (aL a + 4), 0), (fedA (fedA (fedA (fedA a b1) b2') b3) b4), ((((hw.fed (show aL a < 160 from (show aL a + 0 < 160 by omega)) b1).fed (show aL (fedA a b1) < 160 from (show aL a + 1 < 160 by omega)) b2').fed (show aL (fedA (fedA a b1) b2') < 160 from (show aL a + 2 < 160 by omega)) b3).fed (show aL (fedA (fedA (fedA a b1) b2') b3) < 160 from (show aL a + 3 < 160 by omega)) b4), fun σ h => ?_, fun σ h => ?_⟩
    · obtain ⟨σ1, t1, i1, f1⟩ := c_tape (k := 0) h (show aL a < 160 from (show aL a + 0 < 160 by omega)) b1
      obtain ⟨σ2, t2, i2, f2⟩ := c_tape (k := 0) i1 (show aL (fedA a b1) < 160 from (show aL a + 1 < 160 by omega)) b2'
      obtain ⟨σ3, t3, i3, f3⟩ := c_tape (k := 0) i2 (show aL (fedA (fedA a b1) b2') < 160 from (show aL a + 2 < 160 by omega)) b3
      obtain ⟨σ4, t4, i4, f4⟩ := c_tape (k := 0) i3 (show aL (fedA (fedA (fedA a b1) b2') b3) < 160 from (show aL a + 3 < 160 by omega)) b4
      rw [eF_feed 0, c_in, q, bs]; (try dsimp only); rw [if_neg n10, c_byte, bs]; (try dsimp only); rw [h1, b2T, if_neg n10, c_byte, bs]; (try dsimp only); rw [h2, b2T, if_neg n10, c_byte, bs]; (try dsimp only); rw [h3, b2T, if_neg n10, c_byte, bs]; (try dsimp only); rw [h4, b2T, if_neg n10, c_byte, bs]; (try dsimp only); rw [h5, b2T, if_neg n10, if_neg (show ¬ 160 - σ 0 7 < nI 4 from by rw [h.2.2.2.1, show (160 : Int32) = nI 160 from rfl, nI_subN (by omega) (by omega)]; exact nI_nlt (by omega) (by omega)), t1, bs]; (try dsimp only); rw [if_pos (by decide), t2, bs]; (try dsimp only); rw [eF_feed_39 0, if_pos (by decide), t3, bs]; (try dsimp only); rw [if_pos (by decide), t4, bs]; (try dsimp only); rw [if_neg (by decide), show σ4 0 7 = nI (aL a + 4) from i4.2.2.2.1]
      exact ⟨σ4, rfl, i4, (((f1.tr f2).tr f3).tr f4)⟩
    · obtain ⟨σ1, t1, i1, f1⟩ := m_tape h (show aL a < 160 from (show aL a + 0 < 160 by omega)) b1 (nI 4) b1 b2' b3 b4 b5 0 1 (by decide)
      obtain ⟨σ2, t2, i2, f2⟩ := m_tape i1 (show aL (fedA a b1) < 160 from (show aL a + 1 < 160 by omega)) b2' (nI 4) b1 b2' b3 b4 b5 1 2 (by decide)
      obtain ⟨σ3, t3, i3, f3⟩ := m_tape i2 (show aL (fedA (fedA a b1) b2') < 160 from (show aL a + 2 < 160 by omega)) b3 (nI 4) b1 b2' b3 b4 b5 2 3 (by decide)
      obtain ⟨σ4, t4, i4, f4⟩ := m_tape i3 (show aL (fedA (fedA (fedA a b1) b2') b3) < 160 from (show aL a + 3 < 160 by omega)) b4 (nI 4) b1 b2' b3 b4 b5 3 4 (by decide)
      rw [eM_feed 0, m_in, q, bs]; (try dsimp only); rw [if_neg n10, m_byte, bs]; (try dsimp only); rw [h1, b2T, if_neg n10, m_byte, bs]; (try dsimp only); rw [h2, b2T, if_neg n10, m_byte, bs]; (try dsimp only); rw [h3, b2T, if_neg n10, m_byte, bs]; (try dsimp only); rw [h4, b2T, if_neg n10, m_byte, bs]; (try dsimp only); rw [h5, b2T, if_neg n10, if_neg (show ¬ 160 < σ 30 6 + nI 4 from by rw [h.2.2.2.1, nI_add]; exact nI_nlt (a := 160) (by omega) (by omega)), eM_feed_32 0, if_pos (by decide), if_pos (by decide), t1, eM_feed_32 0, if_pos (by decide), if_neg (by decide), if_pos (by decide), t2, eM_feed_32 0, if_pos (by decide), if_neg (by decide), if_neg (by decide), if_pos (by decide), t3, eM_feed_32 0, if_pos (by decide), if_neg (by decide), if_neg (by decide), if_neg (by decide), if_pos (by decide), t4, eM_feed_32 0, if_neg (by decide), show σ4 30 6 = nI (aL a + 4) from i4.2.2.2.1]
      exact ⟨σ4, rfl, i4, (((f1.tr f2).tr f3).tr f4)⟩
  · subst hcc
    refine ⟨(nI (aL a + 5), 0), (fedA (fedA (fedA (fedA (fedA a b1) b2') b3) b4) b5), (((((hw.fed (show aL a < 160 from (show aL a + 0 < 160 by omega)) b1).fed (show aL (fedA a b1) < 160 from (show aL a + 1 < 160 by omega)) b2').fed (show aL (fedA (fedA a b1) b2') < 160 from (show aL a + 2 < 160 by omega)) b3).fed (show aL (fedA (fedA (fedA a b1) b2') b3) < 160 from (show aL a + 3 < 160 by omega)) b4).fed (show aL (fedA (fedA (fedA (fedA a b1) b2') b3) b4) < 160 from (show aL a + 4 < 160 by omega)) b5), fun σ h => ?_, fun σ h => ?_⟩
    · obtain ⟨σ1, t1, i1, f1⟩ := c_tape (k := 0) h (show aL a < 160 from (show aL a + 0 < 160 by omega)) b1
      obtain ⟨σ2, t2, i2, f2⟩ := c_tape (k := 0) i1 (show aL (fedA a b1) < 160 from (show aL a + 1 < 160 by omega)) b2'
      obtain ⟨σ3, t3, i3, f3⟩ := c_tape (k := 0) i2 (show aL (fedA (fedA a b1) b2') < 160 from (show aL a + 2 < 160 by omega)) b3
      obtain ⟨σ4, t4, i4, f4⟩ := c_tape (k := 0) i3 (show aL (fedA (fedA (fedA a b1) b2') b3) < 160 from (show aL a + 3 < 160 by omega)) b4
      obtain ⟨σ5, t5, i5, f5⟩ := c_tape (k := 0) i4 (show aL (fedA (fedA (fedA (fedA a b1) b2') b3) b4) < 160 from (show aL a + 4 < 160 by omega)) b5
      rw [eF_feed 0, c_in, q, bs]; (try dsimp only); rw [if_neg n10, c_byte, bs]; (try dsimp only); rw [h1, b2T, if_neg n10, c_byte, bs]; (try dsimp only); rw [h2, b2T, if_neg n10, c_byte, bs]; (try dsimp only); rw [h3, b2T, if_neg n10, c_byte, bs]; (try dsimp only); rw [h4, b2T, if_neg n10, c_byte, bs]; (try dsimp only); rw [h5, b2T, if_neg n10, if_neg (show ¬ 160 - σ 0 7 < nI 5 from by rw [h.2.2.2.1, show (160 : Int32) = nI 160 from rfl, nI_subN (by omega) (by omega)]; exact nI_nlt (by omega) (by omega)), t1, bs]; (try dsimp only); rw [if_pos (by decide), t2, bs]; (try dsimp only); rw [eF_feed_39 0, if_pos (by decide), t3, bs]; (try dsimp only); rw [if_pos (by decide), t4, bs]; (try dsimp only); rw [if_pos (by decide), t5, bs]; (try dsimp only); rw [show σ5 0 7 = nI (aL a + 5) from i5.2.2.2.1]
      exact ⟨σ5, rfl, i5, ((((f1.tr f2).tr f3).tr f4).tr f5)⟩
    · obtain ⟨σ1, t1, i1, f1⟩ := m_tape h (show aL a < 160 from (show aL a + 0 < 160 by omega)) b1 (nI 5) b1 b2' b3 b4 b5 0 1 (by decide)
      obtain ⟨σ2, t2, i2, f2⟩ := m_tape i1 (show aL (fedA a b1) < 160 from (show aL a + 1 < 160 by omega)) b2' (nI 5) b1 b2' b3 b4 b5 1 2 (by decide)
      obtain ⟨σ3, t3, i3, f3⟩ := m_tape i2 (show aL (fedA (fedA a b1) b2') < 160 from (show aL a + 2 < 160 by omega)) b3 (nI 5) b1 b2' b3 b4 b5 2 3 (by decide)
      obtain ⟨σ4, t4, i4, f4⟩ := m_tape i3 (show aL (fedA (fedA (fedA a b1) b2') b3) < 160 from (show aL a + 3 < 160 by omega)) b4 (nI 5) b1 b2' b3 b4 b5 3 4 (by decide)
      obtain ⟨σ5, t5, i5, f5⟩ := m_tape i4 (show aL (fedA (fedA (fedA (fedA a b1) b2') b3) b4) < 160 from (show aL a + 4 < 160 by omega)) b5 (nI 5) b1 b2' b3 b4 b5 4 5 (by decide)
      rw [eM_feed 0, m_in, q, bs]; (try dsimp only); rw [if_neg n10, m_byte, bs]; (try dsimp only); rw [h1, b2T, if_neg n10, m_byte, bs]; (try dsimp only); rw [h2, b2T, if_neg n10, m_byte, bs]; (try dsimp only); rw [h3, b2T, if_neg n10, m_byte, bs]; (try dsimp only); rw [h4, b2T, if_neg n10, m_byte, bs]; (try dsimp only); rw [h5, b2T, if_neg n10, if_neg (show ¬ 160 < σ 30 6 + nI 5 from by rw [h.2.2.2.1, nI_add]; exact nI_nlt (a := 160) (by omega) (by omega)), eM_feed_32 0, if_pos (by decide), if_pos (by decide), t1, eM_feed_32 0, if_pos (by decide), if_neg (by decide), if_pos (by decide), t2, eM_feed_32 0, if_pos (by decide), if_neg (by decide), if_neg (by decide), if_pos (by decide), t3, eM_feed_32 0, if_pos (by decide), if_neg (by decide), if_neg (by decide), if_neg (by decide), if_pos (by decide), t4, eM_feed_32 0, if_pos (by decide), if_neg (by decide), if_neg (by decide), if_neg (by decide), if_neg (by decide), t5, eM_feed_32 0, if_neg (by decide), show σ5 30 6 = nI (aL a + 5) from i5.2.2.2.1]
      exact ⟨σ5, rfl, i5, ((((f1.tr f2).tr f3).tr f4).tr f5)⟩
