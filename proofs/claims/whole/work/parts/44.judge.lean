/-! TOLD HOURS -/
def othS (TX : TXT) (t : St) (ce : Rw) : Nat → Nat → Int32
  | 0, _ => -1
  | d + 1, h => if whoS TX (hrsS TX t h) + 1 = ce h then othS TX t ce d (h + 1) else nI h
theorem c_other {σ : Sto} {a : Ab} {t : St} {s : Nat} (hw : WfA a) (hs : s < 4) (hne : ¬ aS a s = -1) (ht : Tht σ a t) (ho : Ok (aX a) (aN a) t) :
    ∃ σ', C nF_firstOtherwise 0 [.ref 0, .int (nI s)] σ = some (othS (aX a) t (aC a s) (aZ a s) 0, 0, σ') ∧ InvC σ' a ∧ FC σ σ' := by
  have hz := (hw.2.2.2.2 s hs).2
  have i4 : inb (nI s) 4 = true := ibn hs (by decide)
  have L : ∀ d h σ, h + d = aZ a s → Tht σ a (hrsS (aX a) t h) → ∃ σ', R nF_firstOtherwise 0 2 [.ref 0, .int (nI s), .int (nI h)] [] σ = some (othS (aX a) t (aC a s) d h, 0, σ') ∧ InvC σ' a ∧ FC σ σ' := by
    intro d
    induction d with
    | zero =>
      intro h σ hd ht
      have g := (ht.2.2.2.2.2.2.2 s hs).2 hne
      rw [eF_firstOtherwise_2 0, if_pos i4, ixn (show s < 2147483648 by omega), if_neg (show ¬ nI h < σ 11 s from by rw [g.1]; exact nI_nlt (by omega) (by omega))]
      exact ⟨σ, rfl, ht.2, FC.rf⟩
    | succ d ih =>
      intro h σ hd ht
      have g := (ht.2.2.2.2.2.2.2 s hs).2 hne
      obtain ⟨σ1, g1, h1, f1⟩ := t_hour (k := 0) ht (ho.hrs h)
      have gg := (h1.2.2.2.2.2.2.2 s hs).2 hne
      have e1 : othS (aX a) t (aC a s) (d + 1) h = if whoS (aX a) (hrsS (aX a) t h) + 1 = aC a s h then othS (aX a) t (aC a s) d (h + 1) else nI h := rfl
      rw [eF_firstOtherwise_2 0, if_pos i4, ixn (show s < 2147483648 by omega), if_pos (show nI h < σ 11 s from by rw [g.1]; exact nI_lt (by omega) (by omega)), g1, bs]; (try dsimp only); rw [c_read hs (by omega), bs]; (try dsimp only); rw [gg.2 h (by omega), nI_1, e1]
      by_cases hq : whoS (aX a) (hrsS (aX a) t h) + 1 = aC a s h
      · obtain ⟨σ2, g2, i2, f2⟩ := ih (h + 1) σ1 (by omega) h1
        rw [if_pos hq, if_pos hq]
        exact ⟨σ2, g2, i2, f1.tr f2⟩
      · rw [if_neg hq, if_neg hq]
        exact ⟨σ1, rfl, h1.2, f1⟩
  rw [eF_firstOtherwise 0]
  exact L (aZ a s) 0 σ (Nat.zero_add _) ht
theorem n_unlike {σ : Sto} {a : Ab} {t : St} {s : Nat} (hw : WfA a) (hs : s < 4) (hne : ¬ aS a s = -1) (h : InvM σ (setT a t)) (ho : Ok (aX a) (aN a) t) :
    ∃ σ', C nM_unlike 0 [.ref 30, .int (nI s)] σ = some (othS (aX a) t (aC a s) (aZ a s) 0, 0, σ') ∧ InvM σ' (setT a t) ∧ FM σ σ' := by
  have hz := (hw.2.2.2.2 s hs).2
  have i4 : inb (nI s) 4 = true := ibn hs (by decide)
  have L : ∀ d h σ, h + d = aZ a s → Mnd σ a (hrsS (aX a) t h) t → ∃ σ', R nM_unlike 0 6 [.ref 30, .int (nI s), .int (-1), .int (nI h)] [] σ = some (othS (aX a) t (aC a s) d h, 0, σ') ∧ InvM σ' (setT a t) ∧ FM σ σ' := by
    intro d
    induction d with
    | zero =>
      intro h σ hd hm
      have g := (hm.1.2.2.2.2.2.2 s hs).2 hne
      obtain ⟨σ3, g3, h3, f3⟩ := n_lays (k := 0) hm (Sam.rf.hrs h) ho.n
      rw [eM_unlike_6 0, if_pos i4, ixn (show s < 2147483648 by omega), if_neg (show ¬ nI h < σ 41 s from by rw [show σ 41 s = nI (aZ a s) from g.1]; exact nI_nlt (by omega) (by omega)), g3, bs]
      exact ⟨σ3, rfl, h3.1, f3⟩
    | succ d ih =>
      intro h σ hd hm
      have g := (hm.1.2.2.2.2.2.2 s hs).2 hne
      have gc : σ 42 (40 * s + h) = aC a s h := g.2 h (show h < aZ a s by omega)
      obtain ⟨σ1, g1, h1, f1, _⟩ := n_hour (k := 0) hm (ho.hrs h)
      have e1 : othS (aX a) t (aC a s) (d + 1) h = if whoS (aX a) (hrsS (aX a) t h) + 1 = aC a s h then othS (aX a) t (aC a s) d (h + 1) else nI h := rfl
      rw [eM_unlike_6 0, if_pos i4, ixn (show s < 2147483648 by omega), if_pos (show nI h < σ 41 s from by rw [show σ 41 s = nI (aZ a s) from g.1]; exact nI_lt (by omega) (by omega)), if_pos rfl, nI_40', if_pos (ibn (show 40 * s + h < 160 by omega) (by decide)), ixn (show 40 * s + h < 2147483648 by omega), g1, bs]; (try dsimp only); rw [nI_1, e1]
      by_cases hq : whoS (aX a) (hrsS (aX a) t h) + 1 = aC a s h
      · obtain ⟨σ2, g2, i2, f2⟩ := ih (h + 1) σ1 (by omega) h1
        rw [if_pos hq, if_pos (gc.trans hq.symm)]
        exact ⟨σ2, g2, i2, f1.tr f2⟩
      · rw [if_neg hq, if_neg (fun e => hq (gc.symm.trans e).symm)]
        obtain ⟨σ3, g3, h3, f3⟩ := n_lays (k := 0) h1 (Sam.rf.hrs (h + 1)) ho.n
        rw [eM_unlike_6 0, if_pos i4, if_neg (nI_nm (show h < 2 ^ 31 by omega)), g3, bs]
        refine ⟨σ3, ?_, h3.1, f1.tr f3⟩
        split <;> rfl
  obtain ⟨σ1, g1, h1, f1⟩ := n_new (k := 0) (t := t) ho h
  obtain ⟨σ2, g2, i2, f2⟩ := L (aZ a s) 0 σ1 (Nat.zero_add _) h1
  rw [eM_unlike 0, g1, bs]
  exact ⟨σ2, g2, i2, f1.tr f2⟩
theorem wrongs {a : Ab} (hw : WfA a) (x : Int32) : ∃ w, (∀ σ, InvC σ a → C nF_refusalToJudge 0 [.ref 0, .int x] σ = some (w, 0, σ)) ∧ (∀ σ, InvM σ a → C nM_sheetWrong 0 [.ref 30, .int x] σ = some (w, 0, σ)) ∧ (w = 0 → ∃ s, s < 4 ∧ x = nI s ∧ ¬ aS a s = -1 ∧ aZ a s ≤ 24) := by
  have e0 : (0 : Int32).toInt = 0 := by decide
  have e3 : (3 : Int32).toInt = 3 := by decide
  by_cases hx : 0 ≤ x.toInt ∧ x.toInt ≤ 3
  rotate_left
  · have q1 := in_f e0 e3 hx
    have p1 : b2 (decide (0 ≤ x.toInt ∧ x.toInt ≤ 3)) = 0 := by rw [decide_eq_false hx]; rfl
    refine ⟨-2, fun σ h => ?_, fun σ h => ?_, fun h => absurd h (by decide)⟩
    · rw [eF_refusalToJudge 0, c_hasH, p1, bs]; (try dsimp only); rw [if_pos rfl]
    · rw [eM_sheetWrong 0, m_in, q1, bs]; (try dsimp only); rw [if_pos rfl]
  have q1 := in_t e0 e3 hx
  have p1 : b2 (decide (0 ≤ x.toInt ∧ x.toInt ≤ 3)) = 1 := b2_t hx
  obtain ⟨s, hs, es⟩ := nI_in1 (x := x) (n := 4) (by omega) (by omega)
  subst es
  have i4 : inb (nI s) 4 = true := ibn hs (by decide)
  have hz := (hw.2.2.2.2 s hs).2
  by_cases hm : aS a s = -1
  · refine ⟨-11, fun σ h => ?_, fun σ h => ?_, fun h => absurd h (by decide)⟩
    · rw [eF_refusalToJudge 0, c_hasH, p1, bs]; (try dsimp only); rw [if_neg n10, if_pos i4, ixn (show s < 2147483648 by omega), if_pos (show σ 10 s = -1 from (h.2.2.2.2.2.2 s hs).1.trans hm)]
    · rw [eM_sheetWrong 0, m_in, q1, bs]; (try dsimp only); rw [if_neg n10, if_pos i4, ixn (show s < 2147483648 by omega), if_pos (show σ 40 s = -1 from (h.2.2.2.2.2.2 s hs).1.trans hm)]
  by_cases h24 : aZ a s ≤ 24
  · refine ⟨0, fun σ h => ?_, fun σ h => ?_, fun _ => ⟨s, hs, rfl, hm, h24⟩⟩
    · rw [eF_refusalToJudge 0, c_hasH, p1, bs]; (try dsimp only); rw [if_neg n10, if_pos i4, ixn (show s < 2147483648 by omega), if_neg (show ¬ σ 10 s = -1 from fun e => hm ((h.2.2.2.2.2.2 s hs).1.symm.trans e)), if_pos i4, if_neg (show ¬ 24 < σ 11 s from by rw [((h.2.2.2.2.2.2 s hs).2 hm).1]; exact nI_nlt (a := 24) (by omega) (by omega))]
    · rw [eM_sheetWrong 0, m_in, q1, bs]; (try dsimp only); rw [if_neg n10, if_pos i4, ixn (show s < 2147483648 by omega), if_neg (show ¬ σ 40 s = -1 from fun e => hm ((h.2.2.2.2.2.2 s hs).1.symm.trans e)), if_pos i4, if_neg (show ¬ 24 < σ 41 s from by rw [((h.2.2.2.2.2.2 s hs).2 hm).1]; exact nI_nlt (a := 24) (by omega) (by omega))]
  · refine ⟨-2, fun σ h => ?_, fun σ h => ?_, fun h => absurd h (by decide)⟩
    · rw [eF_refusalToJudge 0, c_hasH, p1, bs]; (try dsimp only); rw [if_neg n10, if_pos i4, ixn (show s < 2147483648 by omega), if_neg (show ¬ σ 10 s = -1 from fun e => hm ((h.2.2.2.2.2.2 s hs).1.symm.trans e)), if_pos i4, if_pos (show 24 < σ 11 s from by rw [((h.2.2.2.2.2.2 s hs).2 hm).1]; exact nI_lt (a := 24) (by omega) (by omega))]
    · rw [eM_sheetWrong 0, m_in, q1, bs]; (try dsimp only); rw [if_neg n10, if_pos i4, ixn (show s < 2147483648 by omega), if_neg (show ¬ σ 40 s = -1 from fun e => hm ((h.2.2.2.2.2.2 s hs).1.symm.trans e)), if_pos i4, if_pos (show 24 < σ 41 s from by rw [((h.2.2.2.2.2.2 s hs).2 hm).1]; exact nI_lt (a := 24) (by omega) (by omega))]
theorem s_judge {a : Ab} (hw : WfA a) (x : Int32) : Step nF_judge nM_judge [.int x] a := by
  have ho := hw.1
  obtain ⟨w, w1, w2, w3⟩ := wrongs hw x
  by_cases h0 : w = 0
  · obtain ⟨s, hs, es, hne, hz⟩ := w3 h0
    subst es
    refine think hw (othS (aX a) (aT a) (aC a s) (aZ a s) 0) (fun σ h => ?_) (fun σ h => ?_)
    · obtain ⟨σ1, g1, h1, f1⟩ := t_new (k := 0) hw h
      obtain ⟨σ2, g2, i2, f2⟩ := c_other hw hs hne h1 ho
      rw [eF_judge 0, w1 σ h, bs]; (try dsimp only); rw [if_pos h0, g1, bs]; (try dsimp only); rw [g2, bs]
      exact ⟨σ2, rfl, i2, f1.tr f2⟩
    · obtain ⟨σ2, g2, i2, f2⟩ := n_unlike (t := aT a) hw hs hne h ho
      rw [eM_judge 0, w2 σ h, bs]; (try dsimp only); rw [if_pos h0, g2, bs]
      exact ⟨σ2, rfl, i2, f2⟩
  · refine same hw w (fun σ h => ?_) (fun σ h => ?_)
    · rw [eF_judge 0, w1 σ h, bs]; (try dsimp only); rw [if_neg h0]
      exact ⟨σ, rfl, Fr.rf⟩
    · rw [eM_judge 0, w2 σ h, bs]; (try dsimp only); rw [if_neg h0]
      exact ⟨σ, rfl, Fr.rf⟩
