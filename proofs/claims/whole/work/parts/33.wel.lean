/-! ONE MORE OF PEOPLE -/
def welS (t : St) (x y : Int32) : St := ((sN t + 1, sH t, sO t, sB t, sF t, sL t), upd (rK t) (sN t) (x / 10), upd (rM t) (sN t) (x - x / 10 * 10), upd (rP t) (sN t) y, upd (rD t) (sN t) 0, upd (rW t) (sN t) 0)
theorem RepS.wel {σ : Sto} {t : St} (h : RepS σ 12 t) {x y : Int32} : RepS (su (su (su (su (su (su σ 13 (sN t) (x / 10)) 14 (sN t) (x - x / 10 * 10)) 15 (sN t) y) 16 (sN t) 0) 17 (sN t) 0) 12 6 (nI (sN t + 1))) 12 (welS t x y) := by
  have e12 : (su (su (su (su (su (su σ 13 (sN t) (x / 10)) 14 (sN t) (x - x / 10 * 10)) 15 (sN t) y) 16 (sN t) 0) 17 (sN t) 0) 12 6 (nI (sN t + 1))) 12 = upd (σ 12) 6 (nI (sN t + 1)) := by
    rw [su_row, su_ne (by decide), su_ne (by decide), su_ne (by decide), su_ne (by decide), su_ne (by decide)]
  have e13 : (su (su (su (su (su (su σ 13 (sN t) (x / 10)) 14 (sN t) (x - x / 10 * 10)) 15 (sN t) y) 16 (sN t) 0) 17 (sN t) 0) 12 6 (nI (sN t + 1))) 13 = upd (σ 13) (sN t) (x / 10) := by
    rw [su_ne (by decide), su_ne (by decide), su_ne (by decide), su_ne (by decide), su_ne (by decide), su_row]
  have e14 : (su (su (su (su (su (su σ 13 (sN t) (x / 10)) 14 (sN t) (x - x / 10 * 10)) 15 (sN t) y) 16 (sN t) 0) 17 (sN t) 0) 12 6 (nI (sN t + 1))) 14 = upd (σ 14) (sN t) (x - x / 10 * 10) := by
    rw [su_ne (by decide), su_ne (by decide), su_ne (by decide), su_ne (by decide), su_row, su_ne (by decide)]
  have e15 : (su (su (su (su (su (su σ 13 (sN t) (x / 10)) 14 (sN t) (x - x / 10 * 10)) 15 (sN t) y) 16 (sN t) 0) 17 (sN t) 0) 12 6 (nI (sN t + 1))) 15 = upd (σ 15) (sN t) y := by
    rw [su_ne (by decide), su_ne (by decide), su_ne (by decide), su_row, su_ne (by decide), su_ne (by decide)]
  have e16 : (su (su (su (su (su (su σ 13 (sN t) (x / 10)) 14 (sN t) (x - x / 10 * 10)) 15 (sN t) y) 16 (sN t) 0) 17 (sN t) 0) 12 6 (nI (sN t + 1))) 16 = upd (σ 16) (sN t) 0 := by
    rw [su_ne (by decide), su_ne (by decide), su_row, su_ne (by decide), su_ne (by decide), su_ne (by decide)]
  have e17 : (su (su (su (su (su (su σ 13 (sN t) (x / 10)) 14 (sN t) (x - x / 10 * 10)) 15 (sN t) y) 16 (sN t) 0) 17 (sN t) 0) 12 6 (nI (sN t + 1))) 17 = upd (σ 17) (sN t) 0 := by
    rw [su_ne (by decide), su_row, su_ne (by decide), su_ne (by decide), su_ne (by decide), su_ne (by decide)]
  refine ⟨?_, fun i hi => ?_⟩
  · rw [e12]
    exact ⟨upd_s, (upd_n (by decide)).trans h.H, (upd_n (by decide)).trans h.O, (upd_n (by decide)).trans h.B, (upd_n (by decide)).trans h.F, (upd_n (by decide)).trans h.L⟩
  · have hi : i < sN t + 1 := hi
    rw [e13, e14, e15, e16, e17]
    show upd (σ 13) (sN t) (x / 10) i = upd (rK t) (sN t) (x / 10) i ∧ upd (σ 14) (sN t) (x - x / 10 * 10) i = upd (rM t) (sN t) (x - x / 10 * 10) i ∧ upd (σ 15) (sN t) y i = upd (rP t) (sN t) y i ∧
      upd (σ 16) (sN t) 0 i = upd (rD t) (sN t) 0 i ∧ upd (σ 17) (sN t) 0 i = upd (rW t) (sN t) 0 i
    by_cases hn : i = sN t
    · subst hn
      simp only [upd_s, and_self]
    · have hi2 : i < sN t := by omega
      simp only [upd_n hn]
      exact ⟨h.K hi2, h.M hi2, h.P hi2, h.D hi2, h.W hi2⟩
theorem RepM.wel {σ : Sto} {t : St} (h : RepM σ t) {x y : Int32} : RepM (su (su (su (su (su (su σ 31 (sN t) (x / 10)) 32 (sN t) (x - x / 10 * 10)) 33 (3 * sN t) y) 33 (3 * sN t + 1) 0) 33 (3 * sN t + 2) 0) 30 0 (nI (sN t + 1))) (welS t x y) := by
  have e30 : (su (su (su (su (su (su σ 31 (sN t) (x / 10)) 32 (sN t) (x - x / 10 * 10)) 33 (3 * sN t) y) 33 (3 * sN t + 1) 0) 33 (3 * sN t + 2) 0) 30 0 (nI (sN t + 1))) 30 = upd (σ 30) 0 (nI (sN t + 1)) := by
    rw [su_row, su_ne (by decide), su_ne (by decide), su_ne (by decide), su_ne (by decide), su_ne (by decide)]
  have e31 : (su (su (su (su (su (su σ 31 (sN t) (x / 10)) 32 (sN t) (x - x / 10 * 10)) 33 (3 * sN t) y) 33 (3 * sN t + 1) 0) 33 (3 * sN t + 2) 0) 30 0 (nI (sN t + 1))) 31 = upd (σ 31) (sN t) (x / 10) := by
    rw [su_ne (by decide), su_ne (by decide), su_ne (by decide), su_ne (by decide), su_ne (by decide), su_row]
  have e32 : (su (su (su (su (su (su σ 31 (sN t) (x / 10)) 32 (sN t) (x - x / 10 * 10)) 33 (3 * sN t) y) 33 (3 * sN t + 1) 0) 33 (3 * sN t + 2) 0) 30 0 (nI (sN t + 1))) 32 = upd (σ 32) (sN t) (x - x / 10 * 10) := by
    rw [su_ne (by decide), su_ne (by decide), su_ne (by decide), su_ne (by decide), su_row, su_ne (by decide)]
  have e33 : (su (su (su (su (su (su σ 31 (sN t) (x / 10)) 32 (sN t) (x - x / 10 * 10)) 33 (3 * sN t) y) 33 (3 * sN t + 1) 0) 33 (3 * sN t + 2) 0) 30 0 (nI (sN t + 1))) 33 = upd (upd (upd (σ 33) (3 * sN t) y) (3 * sN t + 1) 0) (3 * sN t + 2) 0 := by
    rw [su_ne (by decide), su_row, su_row, su_row, su_ne (by decide), su_ne (by decide)]
  have e34 : (su (su (su (su (su (su σ 31 (sN t) (x / 10)) 32 (sN t) (x - x / 10 * 10)) 33 (3 * sN t) y) 33 (3 * sN t + 1) 0) 33 (3 * sN t + 2) 0) 30 0 (nI (sN t + 1))) 34 = σ 34 := by
    rw [su_ne (by decide), su_ne (by decide), su_ne (by decide), su_ne (by decide), su_ne (by decide), su_ne (by decide)]
  refine ⟨?_, fun i hi => ?_⟩
  · rw [e30, e34]
    exact ⟨upd_s, (upd_n (by decide)).trans h.L, h.O, h.B, h.F, h.H⟩
  · have hi : i < sN t + 1 := hi
    rw [e31, e32, e33]
    show upd (σ 31) (sN t) (x / 10) i = upd (rK t) (sN t) (x / 10) i ∧ upd (σ 32) (sN t) (x - x / 10 * 10) i = upd (rM t) (sN t) (x - x / 10 * 10) i ∧
      upd (upd (upd (σ 33) (3 * sN t) y) (3 * sN t + 1) 0) (3 * sN t + 2) 0 (3 * i) = upd (rP t) (sN t) y i ∧
      upd (upd (upd (σ 33) (3 * sN t) y) (3 * sN t + 1) 0) (3 * sN t + 2) 0 (3 * i + 1) = upd (rD t) (sN t) 0 i ∧
      upd (upd (upd (σ 33) (3 * sN t) y) (3 * sN t + 1) 0) (3 * sN t + 2) 0 (3 * i + 2) = upd (rW t) (sN t) 0 i
    by_cases hn : i = sN t
    · subst hn
      refine ⟨?_, ?_, ?_, ?_, ?_⟩
      · rw [upd_s, upd_s]
      · rw [upd_s, upd_s]
      · rw [upd_n (by omega), upd_n (by omega), upd_s, upd_s]
      · rw [upd_n (by omega), upd_s, upd_s]
      · rw [upd_s, upd_s]
    · have hi2 : i < sN t := by omega
      simp only [upd_n hn]
      rw [upd_n (by omega), upd_n (by omega), upd_n (by omega), upd_n (by omega), upd_n (by omega), upd_n (by omega), upd_n (by omega), upd_n (by omega), upd_n (by omega)]
      exact ⟨h.K hi2, h.M hi2, h.P hi2, h.D hi2, h.W hi2⟩
theorem kindMore : ∀ j : Fin 60, (0 ≤ (nI j.1 / 10).toInt ∧ (nI j.1 / 10).toInt ≤ 5) ∧ (0 ≤ (nI j.1 - nI j.1 / 10 * 10).toInt ∧ (nI j.1 - nI j.1 / 10 * 10).toInt ≤ 9) := by decide +kernel
theorem Ok.wel {TX : TXT} {K : Nat} {t : St} (h : Ok TX K t) {x y : Int32} (hn : sN t < 6) (hx : 0 ≤ x.toInt ∧ x.toInt ≤ 59) (hy : 0 ≤ y.toInt ∧ y.toInt ≤ 63) : Ok TX K (welS t x y) := by
  refine ⟨⟨Nat.succ_le_of_lt hn, h.1.2.1, h.1.2.2.1, fun i hi => ?_⟩, h.2⟩
  have hi : i < sN t + 1 := hi
  obtain ⟨j, hj, ej⟩ := nI_in1 (x := x) (n := 60) (by omega) (by omega)
  have hk := kindMore ⟨j, hj⟩
  simp only [← ej] at hk
  unfold okP
  show (0 ≤ (upd (rK t) (sN t) (x / 10) i).toInt ∧ (upd (rK t) (sN t) (x / 10) i).toInt ≤ 5) ∧ (0 ≤ (upd (rM t) (sN t) (x - x / 10 * 10) i).toInt ∧ (upd (rM t) (sN t) (x - x / 10 * 10) i).toInt ≤ 9) ∧
    (-1 ≤ (upd (rP t) (sN t) y i).toInt ∧ (upd (rP t) (sN t) y i).toInt ≤ 63) ∧ (upd (rD t) (sN t) 0 i = 0 ∨ upd (rD t) (sN t) 0 i = 1) ∧ (0 ≤ (upd (rW t) (sN t) 0 i).toInt ∧ (upd (rW t) (sN t) 0 i).toInt ≤ 99)
  by_cases hni : i = sN t
  · subst hni
    simp only [upd_s]
    exact ⟨hk.1, hk.2, ⟨by omega, hy.2⟩, Or.inl trivial, by decide, by decide⟩
  · simp only [upd_n hni]
    exact h.p (by omega)
/-- what a welcome answers, and how it leaves the strand -/
def welV (t : St) (x y : Int32) : Int32 := if 0 ≤ x.toInt ∧ x.toInt ≤ 59 then (if 0 ≤ y.toInt ∧ y.toInt ≤ 63 then (if sN t < 6 then nI (sN t) else -4) else -2) else -2
def welT (t : St) (x y : Int32) : St := if 0 ≤ x.toInt ∧ x.toInt ≤ 59 then (if 0 ≤ y.toInt ∧ y.toInt ≤ 63 then (if sN t < 6 then welS t x y else t) else t) else t
theorem WfA.wel {a : Ab} (hw : WfA a) (x y : Int32) : WfA (setT a (welT (aT a) x y)) := by
  unfold welT
  split
  · split
    · split
      · rename_i h1 h2 h3
        refine hw.st (hw.1.wel h3 h1 h2) hw.2.1 (Nat.le_succ _) fun i hi => ⟨upd_n (by omega), upd_n (by omega)⟩
      · exact hw
    · exact hw
  · exact hw
theorem setT_t (a : Ab) : setT a (aT a) = a := rfl
theorem c_welcome {a : Ab} (hw : WfA a) {k : Nat} {σ : Sto} (h : InvC σ a) (x y : Int32) : ∃ σ', C nS_welcome k [.ref 12, .int x, .int y] σ = some (welV (aT a) x y, 0, σ') ∧ InvC σ' (setT a (welT (aT a) x y)) ∧ FC σ σ' := by
  have ho := hw.1
  have e0 : (0 : Int32).toInt = 0 := by decide
  have e59 : (59 : Int32).toInt = 59 := by decide
  have e63 : (63 : Int32).toInt = 63 := by decide
  unfold welV welT
  by_cases hx : 0 ≤ x.toInt ∧ x.toInt ≤ 59
  · have q1 := in_t e0 e59 hx
    by_cases hy : 0 ≤ y.toInt ∧ y.toInt ≤ 63
    · have q2 := in_t e0 e63 hy
      by_cases hn : sN (aT a) < 6
      · rw [if_pos hx, if_pos hx, if_pos hy, if_pos hy, if_pos hn, if_pos hn]
        have i6 : inb (σ 12 6) 6 = true := by rw [h.at.1.n]; exact ib6 hn
        rw [eS_welcome k 12 h12, c_in, q1, bs]; (try dsimp only); rw [if_neg n10, c_in, q2, bs]; (try dsimp only); rw [if_neg n10, if_pos (show σ 12 6 < 6 from by rw [h.at.1.n]; exact nI_lt (b := 6) hn (by omega)), if_pos i6, if_pos i6, if_pos i6,
          if_pos (show inb (σ 12 6) 6 = true ∧ zb 0 = true from ⟨i6, by decide⟩), if_pos i6, h.at.1.n, ix6 hn, show (su (su (su (su (su σ 13 (sN (aT a)) (x / 10)) 14 (sN (aT a)) (x - x / 10 * 10)) 15 (sN (aT a)) y) 16 (sN (aT a)) 0) 17 (sN (aT a)) 0) 12 6 = nI (sN (aT a)) from h.at.1.n, nI_1]
        refine ⟨_, rfl, h.st ?_ h.at.1.wel, ?_⟩
        · exact (((((Fr.rf.su (by decide)).su (by decide)).su (by decide)).su (by decide)).su (by decide)).su (by decide)
        · exact (((((FC.rf.su (by decide)).su (by decide)).su (by decide)).su (by decide)).su (by decide)).su (by decide)
      · rw [if_pos hx, if_pos hx, if_pos hy, if_pos hy, if_neg hn, if_neg hn]
        rw [eS_welcome k 12 h12, c_in, q1, bs]; (try dsimp only); rw [if_neg n10, c_in, q2, bs]; (try dsimp only); rw [if_neg n10, if_neg (show ¬ σ 12 6 < 6 from by rw [h.at.1.n]; exact nI_nlt (b := 6) (by omega) (by have := ho.n; omega))]
        exact ⟨σ, rfl, h, FC.rf⟩
    · have q2 := in_f e0 e63 hy
      rw [if_pos hx, if_pos hx, if_neg hy, if_neg hy]
      rw [eS_welcome k 12 h12, c_in, q1, bs]; (try dsimp only); rw [if_neg n10, c_in, q2, bs]; (try dsimp only); rw [if_pos rfl]
      exact ⟨σ, rfl, h, FC.rf⟩
  · have q1 := in_f e0 e59 hx
    rw [if_neg hx, if_neg hx]
    rw [eS_welcome k 12 h12, c_in, q1, bs]; (try dsimp only); rw [if_pos rfl]
    exact ⟨σ, rfl, h, FC.rf⟩
theorem m_traveller {a : Ab} (hw : WfA a) {k : Nat} {σ : Sto} (h : InvM σ a) (x y : Int32) : ∃ σ', C nM_traveller k [.ref 30, .int x, .int y] σ = some (welV (aT a) x y, 0, σ') ∧ InvM σ' (setT a (welT (aT a) x y)) ∧ FM σ σ' := by
  have ho := hw.1
  have hN := ho.n
  have e0 : (0 : Int32).toInt = 0 := by decide
  have e59 : (59 : Int32).toInt = 59 := by decide
  have e63 : (63 : Int32).toInt = 63 := by decide
  unfold welV welT
  by_cases hx : 0 ≤ x.toInt ∧ x.toInt ≤ 59
  · have q1 := in_t e0 e59 hx
    by_cases hy : 0 ≤ y.toInt ∧ y.toInt ≤ 63
    · have q2 := in_t e0 e63 hy
      by_cases hn : sN (aT a) < 6
      · rw [if_pos hx, if_pos hx, if_pos hy, if_pos hy, if_pos hn, if_pos hn]
        rw [eM_traveller k, m_in, q1, bs]; (try dsimp only); rw [if_neg n10, m_in, q2, bs]; (try dsimp only); rw [if_neg n10, if_neg (show ¬ σ 30 0 = 6 from fun e => by have := (nI_eq (a := sN (aT a)) (b := 6) (by omega) (by omega)).mp (h.at.1.n.symm.trans e); omega), if_pos (show inb (σ 30 0) 6 = true from by rw [h.at.1.n]; exact ib6 hn), h.at.1.n, ix6 hn, eM_traveller_26 k,
          su_ne (show 30 ≠ 31 by decide), h.at.1.n, if_pos (ib6 hn), ix6 hn, eM_traveller_34 k, su_ne (show 30 ≠ 32 by decide), su_ne (show 30 ≠ 31 by decide), h.at.1.n, i3, if_pos (ibn (show 3 * sN (aT a) < 18 by omega) (by decide)), ixn (show 3 * sN (aT a) < 2147483648 by omega),
          eM_traveller_42 k, su_ne (show 30 ≠ 33 by decide), su_ne (show 30 ≠ 32 by decide), su_ne (show 30 ≠ 31 by decide), h.at.1.n, i3, nI_1, if_pos (ibn (show 3 * sN (aT a) + 1 < 18 by omega) (by decide)), ixn (show 3 * sN (aT a) + 1 < 2147483648 by omega),
          eM_traveller_52 k, su_ne (show 30 ≠ 33 by decide), su_ne (show 30 ≠ 33 by decide), su_ne (show 30 ≠ 32 by decide), su_ne (show 30 ≠ 31 by decide), h.at.1.n, i3, nI_2, if_pos (ibn (show 3 * sN (aT a) + 2 < 18 by omega) (by decide)), ixn (show 3 * sN (aT a) + 2 < 2147483648 by omega),
          eM_traveller_62 k, su_e, su_ne (show 30 ≠ 33 by decide), su_ne (show 30 ≠ 33 by decide), su_ne (show 30 ≠ 33 by decide), su_ne (show 30 ≠ 32 by decide), su_ne (show 30 ≠ 31 by decide), h.at.1.n, nI_1, nI_pred]
        have fr : Fr [30, 31, 32, 33] σ (su (su (su (su (su (su σ 31 (sN (aT a)) (x / 10)) 32 (sN (aT a)) (x - x / 10 * 10)) 33 (3 * sN (aT a)) y) 33 (3 * sN (aT a) + 1) 0) 33 (3 * sN (aT a) + 2) 0) 30 0 (nI (sN (aT a) + 1))) :=
          (((((Fr.rf.su (by decide)).su (by decide)).su (by decide)).su (by decide)).su (by decide)).su (by decide)
        refine ⟨_, rfl, h.gen fr (by decide) ?_ ?_ ?_ h.at.1.wel, fr.m (by decide)⟩
        · rw [su_o (by decide), su_ne (by decide), su_ne (by decide), su_ne (by decide), su_ne (by decide), su_ne (by decide)]
        · rw [su_o (by decide), su_ne (by decide), su_ne (by decide), su_ne (by decide), su_ne (by decide), su_ne (by decide)]
        · rw [su_o (by decide), su_ne (by decide), su_ne (by decide), su_ne (by decide), su_ne (by decide), su_ne (by decide)]
      · rw [if_pos hx, if_pos hx, if_pos hy, if_pos hy, if_neg hn, if_neg hn]
        rw [eM_traveller k, m_in, q1, bs]; (try dsimp only); rw [if_neg n10, m_in, q2, bs]; (try dsimp only); rw [if_neg n10, if_pos (show σ 30 0 = 6 from h.at.1.n.trans (by rw [show sN (aT a) = 6 by omega]; rfl))]
        exact ⟨σ, rfl, h, FM.rf⟩
    · have q2 := in_f e0 e63 hy
      rw [if_pos hx, if_pos hx, if_neg hy, if_neg hy]
      rw [eM_traveller k, m_in, q1, bs]; (try dsimp only); rw [if_neg n10, m_in, q2, bs]; (try dsimp only); rw [if_pos rfl]
      exact ⟨σ, rfl, h, FM.rf⟩
  · have q1 := in_f e0 e59 hx
    rw [if_neg hx, if_neg hx]
    rw [eM_traveller k, m_in, q1, bs]; (try dsimp only); rw [if_pos rfl]
    exact ⟨σ, rfl, h, FM.rf⟩
theorem s_traveller {a : Ab} (hw : WfA a) (x y : Int32) : Step nF_traveller nM_traveller [.int x, .int y] a := by
  refine ⟨(welV (aT a) x y, 0), _, hw.wel x y, fun σ h => ?_, fun σ h => m_traveller hw h x y⟩
  obtain ⟨σ', e, i, f⟩ := c_welcome (k := 0) hw h x y
  rw [eF_traveller 0, e, bs]
  exact ⟨σ', rfl, i, f⟩
