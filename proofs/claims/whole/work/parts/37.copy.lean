/-! COPY -/
theorem RepH.cop {so si ce ce' : Rw} {a : Ab} (h : RepH so si ce a) (hw : WfA a) {s o i j n : Nat} (hs : s < 4) (hso : o < 4) (hne : ¬ aS a s = -1) (h1 : i + n ≤ aZ a s) (h2 : j + n ≤ aZ a o)
    (h3 : ∀ x, ce' x = if 40 * o + j ≤ x ∧ x < 40 * o + j + n then ce (40 * s + i + (x - (40 * o + j))) else ce x) : RepH so si ce' (setS a (aS a) (aZ a) (updC (aC a) o (fun x => if j ≤ x ∧ x < j + n then aC a s (i + (x - j)) else aC a o x))) := by
  intro r hr
  have hz : aZ a r ≤ 40 := (hw.2.2.2.2 r hr).2
  have hzo : aZ a o ≤ 40 := (hw.2.2.2.2 o hso).2
  refine ⟨(h r hr).1, fun hne2 => ⟨((h r hr).2 hne2).1, fun x hx => ?_⟩⟩
  have hx : x < aZ a r := hx
  show ce' (40 * r + x) = updC (aC a) o (fun x => if j ≤ x ∧ x < j + n then aC a s (i + (x - j)) else aC a o x) r x
  unfold updC
  rw [h3]
  by_cases e : r = o
  · subst e
    rw [if_pos rfl]
    by_cases hjx : j ≤ x ∧ x < j + n
    · rw [if_pos (show 40 * r + j ≤ 40 * r + x ∧ 40 * r + x < 40 * r + j + n by omega), if_pos hjx, show 40 * s + i + (40 * r + x - (40 * r + j)) = 40 * s + (i + (x - j)) by omega]
      exact ((h s hs).2 hne).2 _ (by omega)
    · rw [if_neg (show ¬ (40 * r + j ≤ 40 * r + x ∧ 40 * r + x < 40 * r + j + n) by omega), if_neg hjx]
      exact ((h r hr).2 hne2).2 x hx
  · rw [if_neg e, if_neg (show ¬ (40 * o + j ≤ 40 * r + x ∧ 40 * r + x < 40 * o + j + n) by omega)]
    exact ((h r hr).2 hne2).2 x hx
theorem m_copyUp {k : Nat} {x1 x2 x3 x4 : Int32} {n p q : Nat} (hpq : ¬ p < q) (hp : p + n ≤ 160) (hq : q + n ≤ 160) : ∀ d m σ u, m + d = n → ∃ σ', R nM_copy k 87 [.ref 30, .int x1, .int x2, .int x3, .int x4, .int (nI n), .int (nI p), .int (nI q), .int (nI m), u] [] σ = some (nI n, 0, σ') ∧ Fr [42] σ σ' ∧
    ∀ x, σ' 42 x = if q + m ≤ x ∧ x < q + n then σ 42 (p + (x - q)) else σ 42 x := by
  intro d
  induction d with
  | zero =>
    intro m σ u hm
    rw [eM_copy_87 k, if_neg (nI_nlt (by omega) (by omega))]
    exact ⟨σ, rfl, Fr.rf, fun x => by rw [if_neg (by omega)]⟩
  | succ d ih =>
    intro m σ u hm
    obtain ⟨σ', e, f, g⟩ := ih (m + 1) (su σ 42 (q + m) (σ 42 (p + m))) (.int (nI m)) (by omega)
    rw [eM_copy_87 k, if_pos (nI_lt (by omega) (by omega)), if_neg (nI_nlt (by omega) (by omega)), eM_copy_100 k, nI_add, nI_add, if_pos (ibn (by omega) (by decide)), if_pos (ibn (by omega) (by decide)), ixn (by omega), ixn (by omega), nI_1]
    refine ⟨σ', e, (Fr.rf.su (by decide)).tr f, fun x => ?_⟩
    rw [g, su_row]
    by_cases hx : x = q + m
    · subst hx
      rw [if_neg (by omega), upd_s, if_pos (by omega), show p + (q + m - q) = p + m by omega]
    · rw [upd_n hx]
      by_cases hx2 : q + (m + 1) ≤ x ∧ x < q + n
      · rw [if_pos hx2, if_pos (by omega), upd_n (by omega)]
      · rw [if_neg hx2, if_neg (by omega)]
theorem m_copyDn {k : Nat} {x1 x2 x3 x4 : Int32} {n p q : Nat} (hpq : p < q) (hp : p + n ≤ 160) (hq : q + n ≤ 160) : ∀ d m σ u, m + d = n → ∃ σ', R nM_copy k 87 [.ref 30, .int x1, .int x2, .int x3, .int x4, .int (nI n), .int (nI p), .int (nI q), .int (nI m), u] [] σ = some (nI n, 0, σ') ∧ Fr [42] σ σ' ∧
    ∀ x, σ' 42 x = if q ≤ x ∧ x < q + (n - m) then σ 42 (p + (x - q)) else σ 42 x := by
  intro d
  induction d with
  | zero =>
    intro m σ u hm
    rw [eM_copy_87 k, if_neg (nI_nlt (by omega) (by omega))]
    exact ⟨σ, rfl, Fr.rf, fun x => by rw [if_neg (by omega)]⟩
  | succ d ih =>
    intro m σ u hm
    obtain ⟨σ', e, f, g⟩ := ih (m + 1) (su σ 42 (q + (n - 1 - m)) (σ 42 (p + (n - 1 - m)))) (.int (nI (n - 1 - m))) (by omega)
    have en : nI n - 1 - nI m = nI (n - 1 - m) := by
      rw [show (1 : Int32) = nI 1 from rfl, nI_subN (by omega) (by omega), nI_subN (by omega) (by omega)]
    rw [eM_copy_87 k, if_pos (nI_lt (by omega) (by omega)), if_pos (nI_lt (by omega) (by omega)), en, eM_copy_100 k, nI_add, nI_add, if_pos (ibn (by omega) (by decide)), if_pos (ibn (by omega) (by decide)), ixn (by omega), ixn (by omega), nI_1]
    refine ⟨σ', e, (Fr.rf.su (by decide)).tr f, fun x => ?_⟩
    rw [g, su_row]
    by_cases hx : x = q + (n - 1 - m)
    · subst hx
      rw [if_neg (by omega), upd_s, if_pos (by omega), show p + (q + (n - 1 - m) - q) = p + (n - 1 - m) by omega]
    · rw [upd_n hx]
      by_cases hx2 : q ≤ x ∧ x < q + (n - (m + 1))
      · rw [if_pos hx2, if_pos (by omega), upd_n (by omega)]
      · rw [if_neg hx2, if_neg (by omega)]
theorem s_copy {a : Ab} (hw : WfA a) (x y z u v : Int32) : Step nF_copy nM_copy [.int x, .int y, .int z, .int u, .int v] a := by
  have e0 : (0 : Int32).toInt = 0 := by decide
  have e3 : (3 : Int32).toInt = 3 := by decide
  by_cases hx : 0 ≤ x.toInt ∧ x.toInt ≤ 3
  rotate_left
  · have q1 := in_f e0 e3 hx
    have p1 : b2 (decide (0 ≤ x.toInt ∧ x.toInt ≤ 3)) = 0 := by rw [decide_eq_false hx]; rfl
    refine same hw (-2) (fun σ h => ?_) (fun σ h => ?_)
    · rw [eF_copy 0, c_hasH, p1, bs]; (try dsimp only); rw [if_pos rfl]
      exact ⟨σ, rfl, Fr.rf⟩
    · rw [eM_copy 0, m_in, q1, bs]; (try dsimp only); rw [if_pos rfl, eM_copy_10 0]
      exact ⟨σ, rfl, Fr.rf⟩
  have q1 := in_t e0 e3 hx
  have p1 : b2 (decide (0 ≤ x.toInt ∧ x.toInt ≤ 3)) = 1 := b2_t hx
  by_cases hz : 0 ≤ z.toInt ∧ z.toInt ≤ 3
  rotate_left
  · have q2 := in_f e0 e3 hz
    have p2 : b2 (decide (0 ≤ z.toInt ∧ z.toInt ≤ 3)) = 0 := by rw [decide_eq_false hz]; rfl
    refine same hw (-2) (fun σ h => ?_) (fun σ h => ?_)
    · rw [eF_copy 0, c_hasH, p1, bs]; (try dsimp only); rw [if_neg n10, c_hasH, p2, bs]; (try dsimp only); rw [if_pos rfl]
      exact ⟨σ, rfl, Fr.rf⟩
    · rw [eM_copy 0, m_in, q1, bs]; (try dsimp only); rw [if_neg n10, m_in, q2, bs]; (try dsimp only); rw [if_pos rfl, eM_copy_10 0]
      exact ⟨σ, rfl, Fr.rf⟩
  have q2 := in_t e0 e3 hz
  have p2 : b2 (decide (0 ≤ z.toInt ∧ z.toInt ≤ 3)) = 1 := b2_t hz
  obtain ⟨s, hs, es⟩ := nI_in1 (x := x) (n := 4) (by omega) (by omega)
  obtain ⟨o, hso, eo⟩ := nI_in1 (x := z) (n := 4) (by omega) (by omega)
  subst es
  subst eo
  have i4 : inb (nI s) 4 = true := ibn hs (by decide)
  have o4 : inb (nI o) 4 = true := ibn hso (by decide)
  have hzs := (hw.2.2.2.2 s hs).2
  have hzo := (hw.2.2.2.2 o hso).2
  by_cases hm : aS a s = -1
  · refine same hw (-11) (fun σ h => ?_) (fun σ h => ?_)
    · rw [eF_copy 0, c_hasH, p1, bs]; (try dsimp only); rw [if_neg n10, c_hasH, p2, bs]; (try dsimp only); rw [if_neg n10, if_pos i4, ixn (show s < 2147483648 by omega), if_pos (show σ 10 s = -1 from (h.2.2.2.2.2.2 s hs).1.trans hm)]
      exact ⟨σ, rfl, Fr.rf⟩
    · rw [eM_copy 0, m_in, q1, bs]; (try dsimp only); rw [if_neg n10, m_in, q2, bs]; (try dsimp only); rw [if_neg n10, if_pos i4, ixn (show s < 2147483648 by omega), if_pos (show σ 40 s = -1 from (h.2.2.2.2.2.2 s hs).1.trans hm), eM_copy_24 0]
      exact ⟨σ, rfl, Fr.rf⟩
  by_cases hm2 : aS a o = -1
  · refine same hw (-11) (fun σ h => ?_) (fun σ h => ?_)
    · rw [eF_copy 0, c_hasH, p1, bs]; (try dsimp only); rw [if_neg n10, c_hasH, p2, bs]; (try dsimp only); rw [if_neg n10, if_pos i4, ixn (show s < 2147483648 by omega), if_neg (show ¬ σ 10 s = -1 from fun e => hm ((h.2.2.2.2.2.2 s hs).1.symm.trans e)), if_pos o4, ixn (show o < 2147483648 by omega), if_pos (show σ 10 o = -1 from (h.2.2.2.2.2.2 o hso).1.trans hm2)]
      exact ⟨σ, rfl, Fr.rf⟩
    · rw [eM_copy 0, m_in, q1, bs]; (try dsimp only); rw [if_neg n10, m_in, q2, bs]; (try dsimp only); rw [if_neg n10, if_pos i4, ixn (show s < 2147483648 by omega), if_neg (show ¬ σ 40 s = -1 from fun e => hm ((h.2.2.2.2.2.2 s hs).1.symm.trans e)), if_pos o4, ixn (show o < 2147483648 by omega), if_pos (show σ 40 o = -1 from (h.2.2.2.2.2.2 o hso).1.trans hm2), eM_copy_24 0]
      exact ⟨σ, rfl, Fr.rf⟩
  by_cases hso2 : aS a s = aS a o
  rotate_left
  · refine same hw (-13) (fun σ h => ?_) (fun σ h => ?_)
    · rw [eF_copy 0, c_hasH, p1, bs]; (try dsimp only); rw [if_neg n10, c_hasH, p2, bs]; (try dsimp only); rw [if_neg n10, if_pos i4, ixn (show s < 2147483648 by omega), if_neg (show ¬ σ 10 s = -1 from fun e => hm ((h.2.2.2.2.2.2 s hs).1.symm.trans e)), if_pos o4, ixn (show o < 2147483648 by omega), if_neg (show ¬ σ 10 o = -1 from fun e => hm2 ((h.2.2.2.2.2.2 o hso).1.symm.trans e)), if_pos i4, if_pos o4,
        if_neg (show ¬ σ 10 s = σ 10 o from fun e => hso2 ((h.2.2.2.2.2.2 s hs).1.symm.trans (e.trans (h.2.2.2.2.2.2 o hso).1)))]
      exact ⟨σ, rfl, Fr.rf⟩
    · rw [eM_copy 0, m_in, q1, bs]; (try dsimp only); rw [if_neg n10, m_in, q2, bs]; (try dsimp only); rw [if_neg n10, if_pos i4, ixn (show s < 2147483648 by omega), if_neg (show ¬ σ 40 s = -1 from fun e => hm ((h.2.2.2.2.2.2 s hs).1.symm.trans e)), if_pos o4, ixn (show o < 2147483648 by omega), if_neg (show ¬ σ 40 o = -1 from fun e => hm2 ((h.2.2.2.2.2.2 o hso).1.symm.trans e)), if_pos i4, if_pos o4,
        if_neg (show ¬ σ 40 s = σ 40 o from fun e => hso2 ((h.2.2.2.2.2.2 s hs).1.symm.trans (e.trans (h.2.2.2.2.2.2 o hso).1)))]
      exact ⟨σ, rfl, Fr.rf⟩
  have u1 := Int32.le_toInt u
  have u2 := Int32.toInt_lt u
  have y1 := Int32.le_toInt y
  have y2 := Int32.toInt_lt y
  have tz : (nI (aZ a s)).toInt = (aZ a s : Int) := nI_toInt (by omega)
  have to' : (nI (aZ a o)).toInt = (aZ a o : Int) := nI_toInt (by omega)
  by_cases hc : 0 ≤ v.toInt ∧ (0 ≤ y.toInt ∧ y.toInt + v.toInt ≤ (aZ a s : Int)) ∧ (0 ≤ u.toInt ∧ u.toInt + v.toInt ≤ (aZ a o : Int))
  · obtain ⟨i, hi, ei⟩ := nI_in1 (x := y) (n := 41) (by omega) (by omega)
    obtain ⟨j, hj, ej⟩ := nI_in1 (x := u) (n := 41) (by omega) (by omega)
    obtain ⟨n, hn, en⟩ := nI_in1 (x := v) (n := 41) (by omega) (by omega)
    subst ei
    subst ej
    subst en
    rw [nI_toInt (by omega), nI_toInt (by omega), nI_toInt (by omega)] at hc
    have h1 : i + n ≤ aZ a s := by omega
    have h2 : j + n ≤ aZ a o := by omega
    refine ⟨(nI n, 0), setS a (aS a) (aZ a) (updC (aC a) o (fun x => if j ≤ x ∧ x < j + n then aC a s (i + (x - j)) else aC a o x)), hw.sh fun r hr => hw.2.2.2.2 r hr, fun σ h => ?_, fun σ h => ?_⟩
    · have g1 := c_holds (k := 0) (σ := σ) hs ((h.2.2.2.2.2.2 s hs).2 hm).1 hzs (x := Int32.toInt64 (nI i)) (n := nI n) (by rw [Int32.toInt_toInt64, nI_toInt (by omega)]; omega) (by rw [Int32.toInt_toInt64, nI_toInt (by omega)]; omega)
      have g2 := c_holds (k := 0) (σ := σ) hso ((h.2.2.2.2.2.2 o hso).2 hm2).1 hzo (x := Int32.toInt64 (nI j)) (n := nI n) (by rw [Int32.toInt_toInt64, nI_toInt (by omega)]; omega) (by rw [Int32.toInt_toInt64, nI_toInt (by omega)]; omega)
      rw [Int32.toInt_toInt64, nI_toInt (show i < 2 ^ 31 by omega), nI_toInt (show n < 2 ^ 31 by omega), decide_eq_true (by omega), b2T] at g1
      rw [Int32.toInt_toInt64, nI_toInt (show j < 2 ^ 31 by omega), nI_toInt (show n < 2 ^ 31 by omega), decide_eq_true (by omega), b2T] at g2
      rw [eF_copy 0, c_hasH, p1, bs]; (try dsimp only); rw [if_neg n10, c_hasH, p2, bs]; (try dsimp only); rw [if_neg n10, if_pos i4, ixn (show s < 2147483648 by omega), if_neg (show ¬ σ 10 s = -1 from fun e => hm ((h.2.2.2.2.2.2 s hs).1.symm.trans e)), if_pos o4, ixn (show o < 2147483648 by omega), if_neg (show ¬ σ 10 o = -1 from fun e => hm2 ((h.2.2.2.2.2.2 o hso).1.symm.trans e)), if_pos i4, if_pos o4,
        if_pos (show σ 10 s = σ 10 o from (h.2.2.2.2.2.2 s hs).1.trans (hso2.trans (h.2.2.2.2.2.2 o hso).1.symm)), if_neg (nI_pos (by omega)), g1, bs]; (try dsimp only); rw [if_neg n10, g2, bs]; (try dsimp only); rw [if_neg n10, eH_carry 0, nI_40, nI_40, nI_toInt (show 40 * s + i < 2 ^ 31 by omega), nI_toInt (show 40 * o + j < 2 ^ 31 by omega), nI_toInt (show n < 2 ^ 31 by omega), if_pos (by omega), bs]
      have ec : cpy σ 9 9 (nI (40 * s + i)) (nI (40 * o + j)) (nI n) = fun c' => if c' = 9 then va_cpy (σ 9) (σ 9) (40 * s + i) (40 * o + j) n else σ c' := by
        unfold cpy
        rw [ixn (by omega), ixn (by omega), ixn (by omega)]
      have f : Fr [9] σ (cpy σ 9 9 (nI (40 * s + i)) (nI (40 * o + j)) (nI n)) := fun c hc2 => by
        rw [ec]
        exact if_neg (fun e => hc2 (by rw [e]; decide))
      refine ⟨_, rfl, h.sh (f.mono (by decide)) ?_, f.c (by decide)⟩
      rw [f 10 (by decide), f 11 (by decide)]
      refine h.2.2.2.2.2.2.cop hw hs hso hm h1 h2 fun r => ?_
      rw [ec]
      rfl
    · rw [eM_copy 0, m_in, q1, bs]; (try dsimp only); rw [if_neg n10, m_in, q2, bs]; (try dsimp only); rw [if_neg n10, if_pos i4, ixn (show s < 2147483648 by omega), if_neg (show ¬ σ 40 s = -1 from fun e => hm ((h.2.2.2.2.2.2 s hs).1.symm.trans e)), if_pos o4, ixn (show o < 2147483648 by omega), if_neg (show ¬ σ 40 o = -1 from fun e => hm2 ((h.2.2.2.2.2.2 o hso).1.symm.trans e)), if_pos i4, if_pos o4,
        if_pos (show σ 40 s = σ 40 o from (h.2.2.2.2.2.2 s hs).1.trans (hso2.trans (h.2.2.2.2.2.2 o hso).1.symm)), if_neg (nI_pos (by omega)), if_neg (nI_pos (by omega)), if_neg (nI_pos (by omega)), if_pos i4,
        if_neg (show ¬ σ 41 s < nI i from by rw [((h.2.2.2.2.2.2 s hs).2 hm).1]; exact nI_nlt (by omega) (by omega)), if_pos o4,
        if_neg (show ¬ σ 41 o < nI j from by rw [((h.2.2.2.2.2.2 o hso).2 hm2).1]; exact nI_nlt (by omega) (by omega)), if_pos i4,
        if_neg (show ¬ σ 41 s - nI i < nI n from by rw [((h.2.2.2.2.2.2 s hs).2 hm).1, nI_subN (by omega) (by omega)]; exact nI_nlt (by omega) (by omega)), if_pos o4,
        if_neg (show ¬ σ 41 o - nI j < nI n from by rw [((h.2.2.2.2.2.2 o hso).2 hm2).1, nI_subN (by omega) (by omega)]; exact nI_nlt (by omega) (by omega)), nI_40', nI_40']
      by_cases hpq : 40 * s + i < 40 * o + j
      · obtain ⟨σ', e, f, g⟩ := m_copyDn (k := 0) (x1 := nI s) (x2 := nI i) (x3 := nI o) (x4 := nI j) (n := n) hpq (by omega) (by omega) n 0 σ .null (Nat.zero_add _)
        refine ⟨σ', e, h.sh (f.mono (by decide)) ?_, f.m (by decide)⟩
        rw [f 40 (by decide), f 41 (by decide)]
        exact h.2.2.2.2.2.2.cop hw hs hso hm h1 h2 g
      · obtain ⟨σ', e, f, g⟩ := m_copyUp (k := 0) (x1 := nI s) (x2 := nI i) (x3 := nI o) (x4 := nI j) (n := n) hpq (by omega) (by omega) n 0 σ .null (Nat.zero_add _)
        refine ⟨σ', e, h.sh (f.mono (by decide)) ?_, f.m (by decide)⟩
        rw [f 40 (by decide), f 41 (by decide)]
        exact h.2.2.2.2.2.2.cop hw hs hso hm h1 h2 g
  · refine same hw (-12) (fun σ h => ?_) (fun σ h => ?_)
    · have g1 := c_holds (k := 0) (σ := σ) hs ((h.2.2.2.2.2.2 s hs).2 hm).1 hzs (x := Int32.toInt64 y) (n := v) (by rw [Int32.toInt_toInt64]; omega) (by rw [Int32.toInt_toInt64]; omega)
      have g2 := c_holds (k := 0) (σ := σ) hso ((h.2.2.2.2.2.2 o hso).2 hm2).1 hzo (x := Int32.toInt64 u) (n := v) (by rw [Int32.toInt_toInt64]; omega) (by rw [Int32.toInt_toInt64]; omega)
      rw [Int32.toInt_toInt64] at g1 g2
      rw [eF_copy 0, c_hasH, p1, bs]; (try dsimp only); rw [if_neg n10, c_hasH, p2, bs]; (try dsimp only); rw [if_neg n10, if_pos i4, ixn (show s < 2147483648 by omega), if_neg (show ¬ σ 10 s = -1 from fun e => hm ((h.2.2.2.2.2.2 s hs).1.symm.trans e)), if_pos o4, ixn (show o < 2147483648 by omega), if_neg (show ¬ σ 10 o = -1 from fun e => hm2 ((h.2.2.2.2.2.2 o hso).1.symm.trans e)), if_pos i4, if_pos o4,
        if_pos (show σ 10 s = σ 10 o from (h.2.2.2.2.2.2 s hs).1.trans (hso2.trans (h.2.2.2.2.2.2 o hso).1.symm))]
      by_cases hv : v < 0
      · rw [if_pos hv]
        exact ⟨σ, rfl, Fr.rf⟩
      · rw [if_neg hv, g1, bs]
        rw [i_lt, e0] at hv
        by_cases hA : 0 ≤ y.toInt ∧ y.toInt + v.toInt ≤ (aZ a s : Int)
        · rw [decide_eq_true hA, b2T, if_neg n10, g2, bs]; (try dsimp only); rw [decide_eq_false (by omega), b2F, if_pos rfl]
          exact ⟨σ, rfl, Fr.rf⟩
        · rw [decide_eq_false hA, b2F, if_pos rfl]
          exact ⟨σ, rfl, Fr.rf⟩
    · rw [eM_copy 0, m_in, q1, bs]; (try dsimp only); rw [if_neg n10, m_in, q2, bs]; (try dsimp only); rw [if_neg n10, if_pos i4, ixn (show s < 2147483648 by omega), if_neg (show ¬ σ 40 s = -1 from fun e => hm ((h.2.2.2.2.2.2 s hs).1.symm.trans e)), if_pos o4, ixn (show o < 2147483648 by omega), if_neg (show ¬ σ 40 o = -1 from fun e => hm2 ((h.2.2.2.2.2.2 o hso).1.symm.trans e)), if_pos i4, if_pos o4,
        if_pos (show σ 40 s = σ 40 o from (h.2.2.2.2.2.2 s hs).1.trans (hso2.trans (h.2.2.2.2.2.2 o hso).1.symm))]
      have out : ∃ σ', R nM_copy 0 71 [.ref 30, .int (nI s), .int y, .int (nI o), .int u, .int v, .null, .null, .null, .null] [] σ = some (-12, 0, σ') ∧ Fr [46, 47] σ σ' := ⟨σ, eM_copy_71 0 _ _ _ _ _ σ, Fr.rf⟩
      by_cases hv : v < 0
      · rw [if_pos hv]; exact out
      by_cases hy : y < 0
      · rw [if_neg hv, if_pos hy]; exact out
      by_cases hu : u < 0
      · rw [if_neg hv, if_neg hy, if_pos hu]; exact out
      have gs : σ 41 s = nI (aZ a s) := ((h.2.2.2.2.2.2 s hs).2 hm).1
      have go : σ 41 o = nI (aZ a o) := ((h.2.2.2.2.2.2 o hso).2 hm2).1
      by_cases h1 : σ 41 s < y
      · rw [if_neg hv, if_neg hy, if_neg hu, if_pos i4, if_pos h1]; exact out
      by_cases h2 : σ 41 o < u
      · rw [if_neg hv, if_neg hy, if_neg hu, if_pos i4, if_neg h1, if_pos o4, if_pos h2]; exact out
      by_cases h3 : σ 41 s - y < v
      · rw [if_neg hv, if_neg hy, if_neg hu, if_pos i4, if_neg h1, if_pos o4, if_neg h2, if_pos i4, if_pos h3]; exact out
      by_cases h4 : σ 41 o - u < v
      · rw [if_neg hv, if_neg hy, if_neg hu, if_pos i4, if_neg h1, if_pos o4, if_neg h2, if_pos i4, if_neg h3, if_pos o4, if_pos h4]; exact out
      · exfalso
        rw [gs] at h1 h3
        rw [go] at h2 h4
        rw [i_lt, e0] at hv hy hu
        rw [i_lt, tz] at h1
        rw [i_lt, to'] at h2
        rw [i_lt, i_sub (by omega) (by omega), tz] at h3
        rw [i_lt, i_sub (by omega) (by omega), to'] at h4
        omega
