theorem s_back {a : Ab} (hw : WfA a) : Step nF_back nM_back [] a := by
  cases hi : aI a with
  | false =>
    refine same hw (-3) (fun σ h => ?_) (fun σ h => ?_)
    · rw [eF_back 0, if_pos (show σ 0 8 = 0 from by rw [h.2.2.2.2.1, hi]; rfl)]
      exact ⟨σ, rfl, Fr.rf⟩
    · rw [eM_back 0, if_pos (show σ 30 11 = 0 from by rw [h.2.2.2.2.1, hi]; rfl)]
      exact ⟨σ, rfl, Fr.rf⟩
  | true =>
    obtain ⟨hok, hh, hn, hkk⟩ := hw.2.2.1 hi
    have hN := hok.n
    refine ⟨(nI (sN (aK a)), 0), ((aK a, aK a, true), a.2), ⟨hok, hh, fun _ => ⟨hok, hh, Nat.le_refl _, fun i _ => ⟨rfl, rfl⟩⟩, hw.2.2.2⟩, fun σ h => ?_, fun σ h => ?_⟩
    · have hk := h.2.1 hi
      obtain ⟨σ', e, r, f⟩ := c_becomes (k := 0) (Or.inr (Or.inr ⟨rfl, rfl⟩)) hok hk
      have w : ∀ c, c < 12 ∨ 17 < c → σ' c = σ c := fun c hc => f c (by unfold ws; simp only [List.mem_cons, List.not_mem_nil, or_false, not_or]; omega)
      rw [eF_back 0, if_neg (show ¬ σ 0 8 = 0 from by rw [h.2.2.2.2.1, hi]; exact n10), e, bs]; (try dsimp only); rw [r.n]
      obtain ⟨⟨h1, h2⟩, h3, h4, h5, h6, h7, h8⟩ := h
      refine ⟨σ', rfl, ⟨⟨r, h2.fr f (by decide) (by decide) (by decide)⟩, fun _ => hk.fr f (by decide), ?_, ?_, ?_, ?_, ?_⟩, f.c (by decide)⟩
      · rw [w 2 (by omega)]; exact h4
      · rw [w 0 (by omega)]; exact h5
      · rw [w 0 (by omega), h6, hi]; rfl
      · rw [w 1 (by omega)]; exact h7
      · rw [w 9 (by omega), w 10 (by omega), w 11 (by omega)]; exact h8
    · have hk := h.2.1 hi
      have hr := h.at.1
      obtain ⟨σ1, e1, f1, g1⟩ := back_l1 (k := 0) 18 0 σ rfl
      obtain ⟨σ2, e2, f2, g2⟩ := back_l2 (k := 0) 4 0 σ1 rfl
      have f0 : Fr [33, 34] σ σ2 := (f1.mono (by decide)).tr (f2.mono (by decide))
      have e38 : σ1 38 = σ 38 := f1 38 (by decide)
      have e39 : σ2 39 = σ 39 := f0 39 (by decide)
      have k0 : σ2 39 0 = nI (sN (aK a)) := by rw [e39]; exact hk.2.2.2.2.2.1
      have k1 : σ2 39 1 = nI (sL (aK a)) := by rw [e39]; exact hk.2.2.2.2.2.2
      rw [eM_back 0, if_neg (show ¬ σ 30 11 = 0 from by rw [h.2.2.2.2.1, hi]; exact n10), show (0 : Int32) = nI 0 from rfl, e1, eM_back_7 0, if_neg (by decide), show (0 : Int32) = nI 0 from rfl, e2, eM_back_22 0, if_neg (by decide), z0, z1]
      simp only [su_ne (show 39 ≠ 30 by decide), k0, k1]
      have f3 : Fr [30, 33, 34] σ (su (su σ2 30 0 (nI (sN (aK a)))) 30 10 (nI (sL (aK a)))) := ((f0.mono (by decide)).su (by decide)).su (by decide)
      have w : ∀ c, c ≠ 30 → c ≠ 33 → c ≠ 34 → (su (su σ2 30 0 (nI (sN (aK a)))) 30 10 (nI (sL (aK a)))) c = σ c := fun c a1 a2 a3 => f3 c (by simp only [List.mem_cons, List.not_mem_nil, or_false, not_or]; omega)
      have w30 : (su (su σ2 30 0 (nI (sN (aK a)))) 30 10 (nI (sL (aK a)))) 30 = upd (upd (σ 30) 0 (nI (sN (aK a)))) 10 (nI (sL (aK a))) := by rw [su_row, su_row, f0 30 (by decide)]
      obtain ⟨⟨h1, h2⟩, h3, h4, h5, h6, h7, h8⟩ := h
      refine ⟨_, by rw [w30, upd_n (by decide), upd_s], ⟨⟨⟨?_, fun i hi2 => ?_⟩, h2.fr f3 (by decide) (by decide)⟩, fun _ => ?_, ?_, ?_, ?_, ?_, ?_⟩, f3.m (by decide)⟩
      · rw [w30, su_ne (show 34 ≠ 30 by decide), su_ne (show 34 ≠ 30 by decide), g2, g2, g2, g2, if_pos (by omega), if_pos (by omega), if_pos (by omega), if_pos (by omega), e38]
        exact ⟨by rw [upd_n (by decide), upd_s]; rfl, by rw [upd_s]; rfl, hk.2.1, hk.2.2.1, hk.2.2.2.1, hk.2.2.2.2.1⟩
      · have hi2 : i < sN (aK a) := hi2
        obtain ⟨q1, q2⟩ := hkk i hi2
        rw [w 31 (by decide) (by decide) (by decide), w 32 (by decide) (by decide) (by decide), su_ne (show 33 ≠ 30 by decide), su_ne (show 33 ≠ 30 by decide), f2 33 (by decide), g1, g1, g1, if_pos (by omega), if_pos (by omega), if_pos (by omega)]
        exact ⟨(h1.K (by omega)).trans q1, (h1.M (by omega)).trans q2, hk.1 i hi2⟩
      · unfold Img
        rw [w 38 (by decide) (by decide) (by decide), w 39 (by decide) (by decide) (by decide)]
        exact hk
      · rw [w30, upd_n (by decide), upd_n (by decide)]; exact h4
      · rw [w30, upd_n (by decide), upd_n (by decide)]; exact h5
      · rw [w30, upd_n (by decide), upd_n (by decide), h6, hi]; rfl
      · rw [w 35 (by decide) (by decide) (by decide)]; exact h7
      · rw [w 40 (by decide) (by decide) (by decide), w 41 (by decide) (by decide) (by decide), w 42 (by decide) (by decide) (by decide)]; exact h8
/-! SHEETS -/
def setS (a : Ab) (so : Rw) (si : Nat → Nat) (ce : Nat → Rw) : Ab := (a.1, a.2.1, a.2.2.1, so, si, ce)
theorem WfA.sh {a : Ab} (h : WfA a) {so : Rw} {si : Nat → Nat} {ce : Nat → Rw} (h1 : ∀ s, s < 4 → (-1 ≤ (so s).toInt ∧ (so s).toInt ≤ 2) ∧ si s ≤ 40) : WfA (setS a so si ce) := ⟨h.1, h.2.1, h.2.2.1, h.2.2.2.1, h1⟩
theorem InvC.sh {σ σ' : Sto} {a : Ab} (h : InvC σ a) (hf : Fr [9, 10, 11] σ σ') {so : Rw} {si : Nat → Nat} {ce : Nat → Rw} (hr : RepH (σ' 10) (σ' 11) (σ' 9) (setS a so si ce)) : InvC σ' (setS a so si ce) := by
  obtain ⟨⟨h1, h2⟩, h3, h4, h5, h6, h7, h8⟩ := h
  have w : ∀ c, c < 9 → σ' c = σ c := fun c hc => hf c (by simp only [List.mem_cons, List.not_mem_nil, or_false, not_or]; omega)
  refine ⟨⟨h1.fr hf (by decide), h2.fr hf (by decide) (by decide) (by decide)⟩, fun hi => (h3 hi).fr hf (by decide), ?_, ?_, ?_, ?_, hr⟩
  · rw [w 2 (by omega)]; exact h4
  · rw [w 0 (by omega)]; exact h5
  · rw [w 0 (by omega)]; exact h6
  · rw [w 1 (by omega)]; exact h7
theorem InvM.sh {σ σ' : Sto} {a : Ab} (h : InvM σ a) (hf : Fr [40, 41, 42] σ σ') {so : Rw} {si : Nat → Nat} {ce : Nat → Rw} (hr : RepH (σ' 40) (σ' 41) (σ' 42) (setS a so si ce)) : InvM σ' (setS a so si ce) := by
  obtain ⟨⟨h1, h2⟩, h3, h4, h5, h6, h7, h8⟩ := h
  have w : ∀ c, c < 40 → σ' c = σ c := fun c hc => hf c (by simp only [List.mem_cons, List.not_mem_nil, or_false, not_or]; omega)
  refine ⟨⟨h1.fr hf (by decide), h2.fr hf (by decide) (by decide)⟩, fun hi => ?_, ?_, ?_, ?_, ?_, hr⟩
  · unfold Img
    rw [w 38 (by omega), w 39 (by omega)]
    exact h3 hi
  · rw [w 30 (by omega)]; exact h4
  · rw [w 30 (by omega)]; exact h5
  · rw [w 30 (by omega)]; exact h6
  · rw [w 35 (by omega)]; exact h7
theorem c_hasH {k : Nat} {σ : Sto} (x : Int32) : C nH_has k [.ref 8, .int x] σ = some (b2 (decide (0 ≤ x.toInt ∧ x.toInt ≤ 3)), 0, σ) := by
  have e0 : (0 : Int32).toInt = 0 := by decide
  have e4 : (4 : Int32).toInt = 4 := by decide
  rw [eH_has k]
  by_cases h1 : x < 0
  · rw [if_pos h1]
    rw [i_lt, e0] at h1
    rw [decide_eq_false (by omega)]
    rfl
  · rw [if_neg h1]
    rw [i_lt, e0] at h1
    by_cases h2 : x < 4
    · rw [if_pos h2]
      rw [i_lt, e4] at h2
      rw [decide_eq_true (by omega)]
      rfl
    · rw [if_neg h2]
      rw [i_lt, e4] at h2
      rw [decide_eq_false (by omega)]
      rfl
theorem nI_40 (s m : Nat) : nI s * 40 + nI m = nI (40 * s + m) := by
  show nI s * nI 40 + nI m = _
  rw [pk_mul, nI_add, Nat.mul_comm]
theorem nI_40' (s m : Nat) : 40 * nI s + nI m = nI (40 * s + m) := by
  show nI 40 * nI s + nI m = _
  rw [pk_mul, nI_add]
def updN (f : Nat → Nat) (s v : Nat) : Nat → Nat := fun j => if j = s then v else f j
def updC (f : Nat → Rw) (s : Nat) (v : Rw) : Nat → Rw := fun j => if j = s then v else f j
theorem c_renew {k : Nat} {σ : Sto} {s n : Nat} (hs : s < 4) (hn : n ≤ 40) (sort : Int32) : ∃ σ', C nH_renew k [.ref 8, .int (nI s), .int sort, .int (nI n)] σ = some (0, 0, σ') ∧ Fr [9, 10, 11] σ σ' ∧ σ' 10 = upd (σ 10) s sort ∧ σ' 11 = upd (σ 11) s (nI n) ∧
    ∀ j, σ' 9 j = if 40 * s ≤ j ∧ j < 40 * s + n then 0 else σ 9 j := by
  have L : ∀ d m σ, m + d = n → ∃ σ', R nH_renew k 12 [.ref 8, .int (nI s), .int sort, .int (nI n), .int (nI m)] [] σ = some (0, 0, σ') ∧ Fr [9] σ σ' ∧ ∀ j, σ' 9 j = if 40 * s + m ≤ j ∧ j < 40 * s + n then 0 else σ 9 j := by
    intro d
    induction d with
    | zero =>
      intro m σ hm
      rw [eH_renew_12 k, if_neg (nI_nlt (by omega) (by omega))]
      exact ⟨σ, rfl, Fr.rf, fun j => by rw [if_neg (by omega)]⟩
    | succ d ih =>
      intro m σ hm
      obtain ⟨σ', e, f, g⟩ := ih (m + 1) (su σ 9 (40 * s + m) 0) (by omega)
      rw [eH_renew_12 k, if_pos (nI_lt (by omega) (by omega)), nI_40, if_pos (ibn (by omega) (by decide)), ixn (by omega), nI_1]
      refine ⟨σ', e, (Fr.rf.su (by decide)).tr f, fun j => ?_⟩
      rw [g, su_row]
      by_cases hj : j = 40 * s + m
      · subst hj
        rw [if_neg (by omega), upd_s, if_pos (by omega)]
      · rw [upd_n hj]
        by_cases hj2 : 40 * s + (m + 1) ≤ j ∧ j < 40 * s + n
        · rw [if_pos hj2, if_pos (by omega)]
        · rw [if_neg hj2, if_neg (by omega)]
  have i4 : inb (nI s) 4 = true := ibn hs (by decide)
  obtain ⟨σ', e, f, g⟩ := L n 0 (su (su σ 10 s sort) 11 s (nI n)) (Nat.zero_add _)
  rw [eH_renew k, if_pos i4, if_pos i4, ixn (by omega)]
  refine ⟨σ', e, ((Fr.rf.su (by decide)).su (by decide)).tr (f.mono (by decide)), ?_, ?_, fun j => ?_⟩
  · rw [f 10 (by decide), su_ne (by decide), su_row]
  · rw [f 11 (by decide), su_row, su_ne (by decide)]
  · rw [g, su_ne (by decide), su_ne (by decide), Nat.add_zero]
theorem m_sheetL {k : Nat} {s : Nat} (hs : s < 4) {v2 v3 : Int32} : ∀ d m σ, m + d = 40 → ∃ σ', R nM_sheet k 42 [.ref 30, .int (nI s), .int v2, .int v3, .int (nI m)] [] σ = some (1, 0, σ') ∧ Fr [42] σ σ' ∧ ∀ j, σ' 42 j = if 40 * s + m ≤ j ∧ j < 40 * s + 40 then 0 else σ 42 j := by
  intro d
  induction d with
  | zero =>
    intro m σ hm
    rw [eM_sheet_42 k, if_neg (show ¬ nI m < 40 from nI_nlt (b := 40) (by omega) (by omega))]
    exact ⟨σ, rfl, Fr.rf, fun j => by rw [if_neg (by omega)]⟩
  | succ d ih =>
    intro m σ hm
    obtain ⟨σ', e, f, g⟩ := ih (m + 1) (su σ 42 (40 * s + m) 0) (by omega)
    rw [eM_sheet_42 k, if_pos (show nI m < 40 from nI_lt (b := 40) (by omega) (by omega)), nI_40', if_pos (ibn (by omega) (by decide)), ixn (by omega), nI_1]
    refine ⟨σ', e, (Fr.rf.su (by decide)).tr f, fun j => ?_⟩
    rw [g, su_row]
    by_cases hj : j = 40 * s + m
    · subst hj
      rw [if_neg (by omega), upd_s, if_pos (by omega)]
    · rw [upd_n hj]
      by_cases hj2 : 40 * s + (m + 1) ≤ j ∧ j < 40 * s + 40
      · rw [if_pos hj2, if_pos (by omega)]
      · rw [if_neg hj2, if_neg (by omega)]
/-- a sheet is new -/
def newS (a : Ab) (s : Nat) (sort : Int32) (n : Nat) : Ab := setS a (upd (aS a) s sort) (updN (aZ a) s n) (updC (aC a) s (fun _ => 0))
theorem RepH.new {so si ce so' si' ce' : Rw} {a : Ab} (h : RepH so si ce a) (hw : WfA a) {s n w : Nat} {sort : Int32} (hs : s < 4) (hn : n ≤ w) (hw40 : w ≤ 40) (h1 : so' = upd so s sort) (h2 : si' = upd si s (nI n)) (h3 : ∀ j, ce' j = if 40 * s ≤ j ∧ j < 40 * s + w then 0 else ce j) : RepH so' si' ce' (newS a s sort n) := by
  intro r hr
  have hz : aZ a r ≤ 40 := (hw.2.2.2.2 r hr).2
  show so' r = upd (aS a) s sort r ∧ (¬ upd (aS a) s sort r = -1 → si' r = nI (updN (aZ a) s n r) ∧ ∀ i, i < updN (aZ a) s n r → ce' (40 * r + i) = updC (aC a) s (fun _ => 0) r i)
  rw [h1, h2]
  unfold updN updC
  by_cases e : r = s
  · subst e
    rw [upd_s, upd_s, upd_s, if_pos rfl, if_pos rfl]
    refine ⟨rfl, fun _ => ⟨rfl, fun i hi => ?_⟩⟩
    rw [h3, if_pos (by omega)]
  · rw [upd_n e, upd_n e, upd_n e, if_neg e, if_neg e]
    refine ⟨(h r hr).1, fun hne => ⟨((h r hr).2 hne).1, fun i hi => ?_⟩⟩
    rw [h3, if_neg (by omega)]
    exact ((h r hr).2 hne).2 i hi
theorem WfA.new {a : Ab} (hw : WfA a) {s n : Nat} {sort : Int32} (hn : n ≤ 40) (h1 : -1 ≤ sort.toInt) (h2 : sort.toInt ≤ 2) : WfA (newS a s sort n) := by
  refine hw.sh fun r hr => ?_
  unfold updN
  by_cases e : r = s
  · subst e
    rw [upd_s, if_pos rfl]
    exact ⟨⟨h1, h2⟩, hn⟩
  · rw [upd_n e, if_neg e]
    exact hw.2.2.2.2 r hr
theorem s_sheet {a : Ab} (hw : WfA a) (x y z : Int32) : Step nF_sheet nM_sheet [.int x, .int y, .int z] a := by
  have e0 : (0 : Int32).toInt = 0 := by decide
  have e3 : (3 : Int32).toInt = 3 := by decide
  have em : (-1 : Int32).toInt = -1 := by decide
  have e2 : (2 : Int32).toInt = 2 := by decide
  have e40 : (40 : Int32).toInt = 40 := by decide
  by_cases hx : 0 ≤ x.toInt ∧ x.toInt ≤ 3
  · have q1 := in_t e0 e3 hx
    have p1 : b2 (decide (0 ≤ x.toInt ∧ x.toInt ≤ 3)) = 1 := b2_t hx
    by_cases hy : -1 ≤ y.toInt ∧ y.toInt ≤ 2
    · have q2 := in_t em e2 hy
      obtain ⟨s, hs, es⟩ := nI_in1 (x := x) (n := 4) (by omega) (by omega)
      subst es
      have i4 : inb (nI s) 4 = true := ibn hs (by decide)
      by_cases hm : y = -1
      · subst hm
        refine ⟨(1, 0), newS a s (-1) 0, hw.new (by omega) (by decide) (by decide), fun σ h => ?_, fun σ h => ?_⟩
        · obtain ⟨σ', e, f, g1, g2, g3⟩ := c_renew (k := 0) (σ := σ) hs (show 0 ≤ 40 by omega) (-1)
          rw [show nI 0 = 0 from rfl] at e
          rw [eF_sheet 0, c_hasH, p1, bs]; (try dsimp only); rw [if_neg n10, c_in, q2, bs]; (try dsimp only); rw [if_neg n10, if_pos rfl, e, bs]
          exact ⟨σ', rfl, h.sh f (h.2.2.2.2.2.2.new hw hs (Nat.le_refl _) (by omega) g1 g2 g3), f.c (by decide)⟩
        · obtain ⟨σ', e, f, g⟩ := m_sheetL (k := 0) hs (v2 := -1) (v3 := z) 40 0 (su (su σ 40 s (-1)) 41 s 0) rfl
          rw [eM_sheet 0, m_in, q1, bs]; (try dsimp only); rw [if_neg n10, m_in, q2, bs]; (try dsimp only); rw [if_neg n10, if_pos rfl, if_pos rfl, eM_sheet_25 0, if_pos i4, if_pos rfl, if_pos i4, ixn (by omega)]
          have fr : Fr [40, 41, 42] σ σ' := ((Fr.rf.su (by decide)).su (by decide)).tr (f.mono (by decide))
          refine ⟨σ', e, h.sh fr (h.2.2.2.2.2.2.new hw hs (show 0 ≤ 40 by omega) (Nat.le_refl _) ?_ ?_ fun j => ?_), fr.m (by decide)⟩
          · rw [f 40 (by decide), su_ne (by decide), su_row]
          · rw [f 41 (by decide), su_row, su_ne (by decide)]; rfl
          · rw [g, su_ne (by decide), su_ne (by decide), Nat.add_zero]
      · by_cases h40 : (40 : Int32) < z
        · refine same hw (-2) (fun σ h => ?_) (fun σ h => ?_)
          · rw [eF_sheet 0, c_hasH, p1, bs]; (try dsimp only); rw [if_neg n10, c_in, q2, bs]; (try dsimp only); rw [if_neg n10, if_neg hm, if_pos h40]
            exact ⟨σ, rfl, Fr.rf⟩
          · rw [eM_sheet 0, m_in, q1, bs]; (try dsimp only); rw [if_neg n10, m_in, q2, bs]; (try dsimp only); rw [if_neg n10, if_neg hm, if_pos h40]
            exact ⟨σ, rfl, Fr.rf⟩
        by_cases h0 : z < 0
        · refine same hw (-14) (fun σ h => ?_) (fun σ h => ?_)
          · rw [eF_sheet 0, c_hasH, p1, bs]; (try dsimp only); rw [if_neg n10, c_in, q2, bs]; (try dsimp only); rw [if_neg n10, if_neg hm, if_neg h40, if_pos h0]
            exact ⟨σ, rfl, Fr.rf⟩
          · rw [eM_sheet 0, m_in, q1, bs]; (try dsimp only); rw [if_neg n10, m_in, q2, bs]; (try dsimp only); rw [if_neg n10, if_neg hm, if_neg h40, if_neg hm, if_pos h0]
            exact ⟨σ, rfl, Fr.rf⟩
        · obtain ⟨n, hn, en⟩ := nI_in1 (x := z) (n := 41) (by omega) (by rw [i_lt, e40] at h40; rw [i_lt, e0] at h0; omega)
          subst en
          refine ⟨(1, 0), newS a s y n, hw.new (by omega) hy.1 hy.2, fun σ h => ?_, fun σ h => ?_⟩
          · obtain ⟨σ', e, f, g1, g2, g3⟩ := c_renew (k := 0) (σ := σ) hs (show n ≤ 40 by omega) y
            rw [eF_sheet 0, c_hasH, p1, bs]; (try dsimp only); rw [if_neg n10, c_in, q2, bs]; (try dsimp only); rw [if_neg n10, if_neg hm, if_neg h40, if_neg h0, e, bs]
            exact ⟨σ', rfl, h.sh f (h.2.2.2.2.2.2.new hw hs (Nat.le_refl _) (by omega) g1 g2 g3), f.c (by decide)⟩
          · obtain ⟨σ', e, f, g⟩ := m_sheetL (k := 0) hs (v2 := y) (v3 := nI n) 40 0 (su (su σ 40 s y) 41 s (nI n)) rfl
            rw [eM_sheet 0, m_in, q1, bs]; (try dsimp only); rw [if_neg n10, m_in, q2, bs]; (try dsimp only); rw [if_neg n10, if_neg hm, if_neg h40, if_neg hm, if_neg h0, eM_sheet_25 0, if_pos i4, if_neg hm, if_pos i4, ixn (show s < 2147483648 by omega)]
            have fr : Fr [40, 41, 42] σ σ' := ((Fr.rf.su (by decide)).su (by decide)).tr (f.mono (by decide))
            refine ⟨σ', e, h.sh fr (h.2.2.2.2.2.2.new hw hs (show n ≤ 40 by omega) (Nat.le_refl _) ?_ ?_ fun j => ?_), fr.m (by decide)⟩
            · rw [f 40 (by decide), su_ne (by decide), su_row]
            · rw [f 41 (by decide), su_row, su_ne (by decide)]
            · rw [g, su_ne (by decide), su_ne (by decide), Nat.add_zero]
    · have q2 := in_f em e2 hy
      refine same hw (-2) (fun σ h => ?_) (fun σ h => ?_)
      · rw [eF_sheet 0, c_hasH, p1, bs]; (try dsimp only); rw [if_neg n10, c_in, q2, bs]; (try dsimp only); rw [if_pos rfl]
        exact ⟨σ, rfl, Fr.rf⟩
      · rw [eM_sheet 0, m_in, q1, bs]; (try dsimp only); rw [if_neg n10, m_in, q2, bs]; (try dsimp only); rw [if_pos rfl]
        exact ⟨σ, rfl, Fr.rf⟩
  · have q1 := in_f e0 e3 hx
    have p1 : b2 (decide (0 ≤ x.toInt ∧ x.toInt ≤ 3)) = 0 := by rw [decide_eq_false hx]; rfl
    refine same hw (-2) (fun σ h => ?_) (fun σ h => ?_)
    · rw [eF_sheet 0, c_hasH, p1, bs]; (try dsimp only); rw [if_pos rfl]
      exact ⟨σ, rfl, Fr.rf⟩
    · rw [eM_sheet 0, m_in, q1, bs]; (try dsimp only); rw [if_pos rfl]
      exact ⟨σ, rfl, Fr.rf⟩
