theorem lg_gt (x : Int64) (y : Int64) : (0 < lg_cmp x y) ↔ y.toInt < x.toInt := by
  unfold lg_cmp
  by_cases h : y < x
  · rw [if_pos h]
    rw [Int64.lt_iff_toInt_lt] at h
    exact ⟨fun _ => h, fun _ => (by decide)⟩
  · rw [if_neg h]
    rw [Int64.lt_iff_toInt_lt] at h
    by_cases h2 : x = y
    · rw [if_pos h2, h2]
      exact ⟨fun hh => absurd hh (by decide), fun hh => (by omega)⟩
    · rw [if_neg h2]
      exact ⟨fun hh => absurd hh (by decide), fun hh => (by omega)⟩
theorem l_add {a b : Int64} (h1 : -9223372036854775808 ≤ a.toInt + b.toInt) (h2 : a.toInt + b.toInt < 9223372036854775808) : (a + b).toInt = a.toInt + b.toInt := by
  rw [Int64.toInt_add, Int.bmod_eq_of_le (by omega) (by omega)]
theorem l_mul {a b : Int64} (h1 : -9223372036854775808 ≤ a.toInt * b.toInt) (h2 : a.toInt * b.toInt < 9223372036854775808) : (a * b).toInt = a.toInt * b.toInt := by
  rw [Int64.toInt_mul, Int.bmod_eq_of_le (by omega) (by omega)]
theorem nI_subN {n m : Nat} (h : m ≤ n) (hn : n < 2147483648) : nI n - nI m = nI (n - m) := by
  rw [i_eq, i_sub (by rw [nI_toInt (by omega), nI_toInt (by omega)]; omega) (by rw [nI_toInt (by omega), nI_toInt (by omega)]; omega), nI_toInt (by omega), nI_toInt (by omega), nI_toInt (by omega)]
  omega
theorem c_holds {k : Nat} {σ : Sto} {s z : Nat} (hs : s < 4) (hz : σ 11 s = nI z) (hz40 : z ≤ 40) {x : Int64} {n : Int32} (hx1 : -100000000000 ≤ x.toInt) (hx2 : x.toInt ≤ 100000000000) :
    C nH_holds k [.ref 8, .int (nI s), .long x, .int n] σ = some (b2 (decide (0 ≤ x.toInt ∧ x.toInt + n.toInt ≤ (z : Int))), 0, σ) := by
  have e0 : (0 : Int64).toInt = 0 := by decide
  have n1 := Int32.le_toInt n
  have n2 := Int32.toInt_lt n
  have es : (x + Int32.toInt64 n).toInt = x.toInt + n.toInt := by rw [l_add (by rw [Int32.toInt_toInt64]; omega) (by rw [Int32.toInt_toInt64]; omega), Int32.toInt_toInt64]
  have ez : (Int32.toInt64 (nI z)).toInt = (z : Int) := by rw [Int32.toInt_toInt64, nI_toInt (by omega)]
  rw [eH_holds k]
  by_cases h1 : lg_cmp x 0 < 0
  · rw [if_pos h1]
    rw [lg_lt, e0] at h1
    rw [decide_eq_false (by omega)]
    rfl
  · rw [if_neg h1, if_pos (ibn hs (by decide)), ixn (by omega), hz]
    rw [lg_lt, e0] at h1
    by_cases h2 : 0 < lg_cmp (x + Int32.toInt64 n) (Int32.toInt64 (nI z))
    · rw [if_pos h2]
      rw [lg_gt, es, ez] at h2
      rw [decide_eq_false (by omega)]
      rfl
    · rw [if_neg h2]
      rw [lg_gt, es, ez] at h2
      rw [decide_eq_true (by omega)]
      rfl
/-- what a sheet keeps of a number -/
def narS (so v : Int32) : Int32 := if so = 0 then (Int32.toInt8 v).toInt32 else if so = 1 then (Int32.toInt16 v).toInt32 else v
theorem c_write {k : Nat} {σ : Sto} {s i : Nat} (hs : s < 4) (hi : i < 40) (v : Int32) : C nH_write k [.ref 8, .int (nI s), .int (nI i), .int v] σ = some (0, 0, su σ 9 (40 * s + i) (narS (σ 10 s) v)) := by
  have i4 : inb (nI s) 4 = true := ibn hs (by decide)
  rw [eH_write k, if_pos i4, if_pos i4, ixn (show s < 2147483648 by omega), nI_40, if_pos (ibn (show 40 * s + i < 160 by omega) (by decide)), if_pos (ibn (show 40 * s + i < 160 by omega) (by decide)), if_pos (ibn (show 40 * s + i < 160 by omega) (by decide)), ixn (show 40 * s + i < 2147483648 by omega)]
  unfold narS
  by_cases h0 : σ 10 s = 0
  · rw [if_pos h0, if_pos h0]
  · rw [if_neg h0, if_neg h0]
    by_cases h1 : σ 10 s = 1
    · rw [if_pos h1, if_pos h1]
    · rw [if_neg h1, if_neg h1]
theorem RepH.put {so si ce : Rw} {a : Ab} (h : RepH so si ce a) (hw : WfA a) {s i : Nat} {w : Int32} (hs : s < 4) (hi : i < 40) : RepH so si (upd ce (40 * s + i) w) (setS a (aS a) (aZ a) (updC (aC a) s (upd (aC a s) i w))) := by
  intro r hr
  have hz : aZ a r ≤ 40 := (hw.2.2.2.2 r hr).2
  refine ⟨(h r hr).1, fun hne => ⟨((h r hr).2 hne).1, fun j hj => ?_⟩⟩
  have hj : j < aZ a r := hj
  show upd ce (40 * s + i) w (40 * r + j) = updC (aC a) s (upd (aC a s) i w) r j
  unfold updC
  by_cases e : r = s
  · subst e
    rw [if_pos rfl]
    by_cases ej : j = i
    · subst ej
      rw [upd_s, upd_s]
    · rw [upd_n (by omega), upd_n ej]
      exact ((h r hr).2 hne).2 j hj
  · rw [if_neg e, upd_n (by omega)]
    exact ((h r hr).2 hne).2 j hj
theorem s_cell {a : Ab} (hw : WfA a) (x y z : Int32) : Step nF_cell nM_cell [.int x, .int y, .int z] a := by
  have e0 : (0 : Int32).toInt = 0 := by decide
  have e3 : (3 : Int32).toInt = 3 := by decide
  by_cases hx : 0 ≤ x.toInt ∧ x.toInt ≤ 3
  · have q1 := in_t e0 e3 hx
    have p1 : b2 (decide (0 ≤ x.toInt ∧ x.toInt ≤ 3)) = 1 := b2_t hx
    obtain ⟨s, hs, es⟩ := nI_in1 (x := x) (n := 4) (by omega) (by omega)
    subst es
    have i4 : inb (nI s) 4 = true := ibn hs (by decide)
    have hz40 := (hw.2.2.2.2 s hs).2
    by_cases hm : aS a s = -1
    · refine same hw (-11) (fun σ h => ?_) (fun σ h => ?_)
      · rw [eF_cell 0, c_hasH, p1, bs]; (try dsimp only); rw [if_neg n10, if_pos i4, ixn (by omega), if_pos (show σ 10 s = -1 from (h.2.2.2.2.2.2 s hs).1.trans hm)]
        exact ⟨σ, rfl, Fr.rf⟩
      · rw [eM_cell 0, m_in, q1, bs]; (try dsimp only); rw [if_neg n10, if_pos i4, ixn (by omega), if_pos (show σ 40 s = -1 from (h.2.2.2.2.2.2 s hs).1.trans hm)]
        exact ⟨σ, rfl, Fr.rf⟩
    · have em1 := nI_m1 (n := aZ a s) (by omega)
      by_cases hy : 0 ≤ y.toInt ∧ y.toInt ≤ (aZ a s : Int) - 1
      · obtain ⟨i, hi, ei⟩ := nI_in1 (x := y) (n := aZ a s) (by omega) (by omega)
        subst ei
        have q2 := in_t (hi := nI (aZ a s) - 1) e0 em1 hy
        refine ⟨(1, 0), setS a (aS a) (aZ a) (updC (aC a) s (upd (aC a s) i (narS (aS a s) z))), hw.sh fun r hr => hw.2.2.2.2 r hr, fun σ h => ?_, fun σ h => ?_⟩
        · have g := (h.2.2.2.2.2.2 s hs).1
          rw [eF_cell 0, c_hasH, p1, bs]; (try dsimp only); rw [if_neg n10, if_pos i4, ixn (by omega), if_neg (show ¬ σ 10 s = -1 from fun e => hm (g.symm.trans e)), if_pos i4, ((h.2.2.2.2.2.2 s hs).2 hm).1, c_in, q2, bs]; (try dsimp only); rw [if_neg n10, c_write hs (by omega), bs]; (try dsimp only); rw [g]
          exact ⟨_, rfl, h.sh (Fr.rf.su (by decide)) (by rw [su_row, su_ne (by decide), su_ne (by decide)]; exact h.2.2.2.2.2.2.put hw hs (by omega)), FC.rf.su (by decide)⟩
        · have g : σ 40 s = aS a s := (h.2.2.2.2.2.2 s hs).1
          have fin : ∃ σ', some (1, 0, su σ 42 (40 * s + i) (narS (aS a s) z)) = some ((1 : Int32), (0 : Int64), σ') ∧ InvM σ' (setS a (aS a) (aZ a) (updC (aC a) s (upd (aC a s) i (narS (aS a s) z)))) ∧ FM σ σ' :=
            ⟨_, rfl, h.sh (Fr.rf.su (by decide)) (by rw [su_row, su_ne (by decide), su_ne (by decide)]; exact h.2.2.2.2.2.2.put hw hs (by omega)), FM.rf.su (by decide) (by decide)⟩
          rw [eM_cell 0, m_in, q1, bs]; (try dsimp only); rw [if_neg n10, if_pos i4, ixn (show s < 2147483648 by omega), if_neg (show ¬ σ 40 s = -1 from fun e => hm (g.symm.trans e)), if_pos i4, ((h.2.2.2.2.2.2 s hs).2 hm).1, m_in, q2, bs]; (try dsimp only); rw [if_neg n10, if_pos i4, if_pos i4, nI_40', if_pos (ibn (show 40 * s + i < 160 by omega) (by decide)), if_pos (ibn (show 40 * s + i < 160 by omega) (by decide)), if_pos (ibn (show 40 * s + i < 160 by omega) (by decide)), ixn (show 40 * s + i < 2147483648 by omega)]
          unfold narS at fin ⊢
          by_cases h0 : aS a s = 0
          · rw [if_pos (show σ 40 s = 0 from g.trans h0)]
            rw [if_pos h0] at fin ⊢
            exact fin
          · rw [if_neg (show ¬ σ 40 s = 0 from fun e => h0 (g.symm.trans e))]
            rw [if_neg h0] at fin ⊢
            by_cases h1 : aS a s = 1
            · rw [if_pos (show σ 40 s = 1 from g.trans h1)]
              rw [if_pos h1] at fin ⊢
              exact fin
            · rw [if_neg (show ¬ σ 40 s = 1 from fun e => h1 (g.symm.trans e))]
              rw [if_neg h1] at fin ⊢
              exact fin
      · have q2 := in_f (hi := nI (aZ a s) - 1) e0 em1 hy
        refine same hw (-12) (fun σ h => ?_) (fun σ h => ?_)
        · rw [eF_cell 0, c_hasH, p1, bs]; (try dsimp only); rw [if_neg n10, if_pos i4, ixn (by omega), if_neg (show ¬ σ 10 s = -1 from fun e => hm ((h.2.2.2.2.2.2 s hs).1.symm.trans e)), if_pos i4, ((h.2.2.2.2.2.2 s hs).2 hm).1, c_in, q2, bs]; (try dsimp only); rw [if_pos rfl]
          exact ⟨σ, rfl, Fr.rf⟩
        · rw [eM_cell 0, m_in, q1, bs]; (try dsimp only); rw [if_neg n10, if_pos i4, ixn (by omega), if_neg (show ¬ σ 40 s = -1 from fun e => hm ((h.2.2.2.2.2.2 s hs).1.symm.trans e)), if_pos i4, ((h.2.2.2.2.2.2 s hs).2 hm).1, m_in, q2, bs]; (try dsimp only); rw [if_pos rfl]
          exact ⟨σ, rfl, Fr.rf⟩
  · have q1 := in_f e0 e3 hx
    have p1 : b2 (decide (0 ≤ x.toInt ∧ x.toInt ≤ 3)) = 0 := by rw [decide_eq_false hx]; rfl
    refine same hw (-2) (fun σ h => ?_) (fun σ h => ?_)
    · rw [eF_cell 0, c_hasH, p1, bs]; (try dsimp only); rw [if_pos rfl]
      exact ⟨σ, rfl, Fr.rf⟩
    · rw [eM_cell 0, m_in, q1, bs]; (try dsimp only); rw [if_pos rfl]
      exact ⟨σ, rfl, Fr.rf⟩
theorem mod6 : ∀ j : Fin 12, nI j.1 - nI j.1 / 6 * 6 = nI (j.1 % 6) := by decide +kernel
theorem kind_same {k : Nat} {σ : Sto} (x y : Int32) : ∃ v, C nF_isOfKind k [.int x, .int y] σ = some (b2 v, 0, σ) ∧ (∀ k' σ', C nM_isUnder k' [.int x, .int y] σ' = some (b2 v, 0, σ')) ∧ (y = 6 → 0 ≤ x.toInt → x.toInt ≤ 5 → v = false) := by
  have h : ∃ v, (∀ k σ, C nF_isOfKind k [.int x, .int y] σ = some (b2 v, 0, σ)) ∧ (∀ k' σ', C nM_isUnder k' [.int x, .int y] σ' = some (b2 v, 0, σ')) ∧ (y = 6 → 0 ≤ x.toInt → x.toInt ≤ 5 → v = false) := by
    have e6 : (6 : Int32).toInt = 6 := by decide
    by_cases h0 : y = 0
    · exact ⟨true, fun k σ => by rw [eF_isOfKind k, if_pos h0]; rfl, fun k σ => by rw [eM_isUnder k, if_pos h0]; rfl, fun h => by rw [h] at h0; exact absurd h0 (by decide)⟩
    by_cases h1 : x = y
    · exact ⟨true, fun k σ => by rw [eF_isOfKind k, if_neg h0, if_pos h1]; rfl, fun k σ => by rw [eM_isUnder k, if_neg h0, if_pos h1]; rfl, fun h _ h5 => by rw [h1, h, e6] at h5; omega⟩
    by_cases h2 : y = 1
    · by_cases h3 : x = 3
      · exact ⟨true, fun k σ => by rw [eF_isOfKind k, if_neg h0, if_neg h1, if_pos h2, if_pos h3]; rfl, fun k σ => by rw [eM_isUnder k, if_neg h0, if_neg h1, if_pos h2, if_pos h3]; rfl, fun h => by rw [h] at h2; exact absurd h2 (by decide)⟩
      · have h4 : ¬ y = 2 := by rw [h2]; decide
        exact ⟨false, fun k σ => by rw [eF_isOfKind k, if_neg h0, if_neg h1, if_pos h2, if_neg h3, if_neg h4]; rfl, fun k σ => by rw [eM_isUnder k, if_neg h0, if_neg h1, if_pos h2, if_neg h3, if_neg h4]; rfl, fun _ _ _ => rfl⟩
    by_cases h3 : y = 2
    · by_cases h4 : x = 4
      · exact ⟨true, fun k σ => by rw [eF_isOfKind k, if_neg h0, if_neg h1, if_neg h2, if_pos h3, if_pos h4]; rfl, fun k σ => by rw [eM_isUnder k, if_neg h0, if_neg h1, if_neg h2, if_pos h3, if_pos h4]; rfl, fun h => by rw [h] at h3; exact absurd h3 (by decide)⟩
      · exact ⟨false, fun k σ => by rw [eF_isOfKind k, if_neg h0, if_neg h1, if_neg h2, if_pos h3, if_neg h4]; rfl, fun k σ => by rw [eM_isUnder k, if_neg h0, if_neg h1, if_neg h2, if_pos h3, if_neg h4]; rfl, fun _ _ _ => rfl⟩
    · exact ⟨false, fun k σ => by rw [eF_isOfKind k, if_neg h0, if_neg h1, if_neg h2, if_neg h3]; rfl, fun k σ => by rw [eM_isUnder k, if_neg h0, if_neg h1, if_neg h2, if_neg h3]; rfl, fun _ _ _ => rfl⟩
  obtain ⟨v, h1, h2, h3⟩ := h
  exact ⟨v, h1 k σ, h2, h3⟩
theorem s_taken {a : Ab} (hw : WfA a) (x y : Int32) : Step nF_taken nM_taken [.int x, .int y] a := by
  have ho := hw.1
  have hN := ho.n
  have e0 : (0 : Int32).toInt = 0 := by decide
  have e6 : (6 : Int32).toInt = 6 := by decide
  have e11 : (11 : Int32).toInt = 11 := by decide
  by_cases hy : 0 ≤ y.toInt ∧ y.toInt ≤ 6
  · have q1 := in_t e0 e6 hy
    by_cases hx : 0 ≤ x.toInt ∧ x.toInt ≤ 11
    · have q2 := in_t e0 e11 hx
      obtain ⟨j, hj, ej⟩ := nI_in1 (x := x) (n := 12) (by omega) (by omega)
      subst ej
      have em : nI j - nI j / 6 * 6 = nI (j % 6) := mod6 ⟨j, hj⟩
      have hone : isOneS (aT a) (nI (j % 6)) = decide (j % 6 < sN (aT a)) := by
        unfold isOneS
        rw [nI_toInt (by omega), decide_eq_decide]
        omega
      by_cases hp : j % 6 < sN (aT a)
      · have hp6 : j % 6 < 6 := by omega
        by_cases hj6 : j < 6
        · have ej6 : j % 6 = j := by omega
          rw [ej6] at hp em hone
          obtain ⟨v, kv1, kv2, kv3⟩ := kind_same (k := 0) (σ := fun _ _ => 0) (rK (aT a) j) y
          have kv1' : ∀ σ, C nF_isOfKind 0 [.int (rK (aT a) j), .int y] σ = some (b2 v, 0, σ) := fun σ => by
            obtain ⟨w, w1, w2, _⟩ := kind_same (k := 0) (σ := σ) (rK (aT a) j) y
            have e := (w2 0 σ).symm.trans (kv2 0 σ)
            have e1 : b2 w = b2 v := congrArg (fun r : Rs => r.1) (Option.some.inj e)
            rw [w1, e1]
          have hkb := (ho.p hp).1
          refine same hw (if v = true then nI j else -13) (fun σ h => ?_) (fun σ h => ?_)
          · rw [eF_taken 0, c_in, q1, bs]; (try dsimp only); rw [if_neg n10, c_in, q2, bs]; (try dsimp only); rw [if_neg n10, em, if_pos (show nI j < 6 from nI_lt (b := 6) hj6 (by omega)), c_has32 h12 h.at.1 ho.n, bs]; (try dsimp only); rw [hone, decide_eq_true hp, b2T, if_neg n10, if_pos (ibn hj6 (by omega)), ixn (by omega), show σ 13 j = _ from h.at.1.K hp, kv1' σ, bs]
            cases v
            · exact ⟨σ, rfl, Fr.rf⟩
            · exact ⟨σ, rfl, Fr.rf⟩
          · rw [eM_taken 0, m_in, q1, bs]; (try dsimp only); rw [if_neg n10, m_in, q2, bs]; (try dsimp only); rw [if_neg n10, em, if_pos (show nI j < σ 30 0 from by rw [h.at.1.n]; exact nI_lt hp (by omega)), if_pos (show nI j < 6 from nI_lt (b := 6) hj6 (by omega))]
            by_cases hy6 : y < 6
            · rw [if_pos hy6, if_pos (ibn hj6 (by omega)), ixn (by omega), h.at.1.K hp, kv2 0 σ, bs]
              cases v
              · exact ⟨σ, rfl, Fr.rf⟩
              · exact ⟨σ, rfl, Fr.rf⟩
            · have hy' : y = 6 := by
                rw [i_lt, e6] at hy6
                rw [i_eq, e6]
                omega
              rw [if_neg hy6, kv3 hy' hkb.1 hkb.2]
              exact ⟨σ, rfl, Fr.rf⟩
        · have hnl : ¬ nI j < 6 := nI_nlt (b := 6) (by omega) (by omega)
          by_cases hy6 : y = 6
          · refine same hw (rW (aT a) (j % 6)) (fun σ h => ?_) (fun σ h => ?_)
            · rw [eF_taken 0, c_in, q1, bs]; (try dsimp only); rw [if_neg n10, c_in, q2, bs]; (try dsimp only); rw [if_neg n10, em, if_neg hnl, c_has32 h12 h.at.1 ho.n, bs]; (try dsimp only); rw [hone, decide_eq_true hp, b2T, if_neg n10, if_pos hy6, if_pos (ibn hp6 (by omega)), ixn (by omega), show σ 17 (j % 6) = _ from h.at.1.W hp]
              exact ⟨σ, rfl, Fr.rf⟩
            · have e66 : nI j - 6 = nI (j % 6) := by
                rw [show (6 : Int32) = nI 6 from rfl, nI_subN (by omega) (by omega)]
                congr 1
                omega
              rw [eM_taken 0, m_in, q1, bs]; (try dsimp only); rw [if_neg n10, m_in, q2, bs]; (try dsimp only); rw [if_neg n10, em, if_pos (show nI (j % 6) < σ 30 0 from by rw [h.at.1.n]; exact nI_lt hp (by omega)), if_neg hnl, if_pos hy6, e66, i3, nI_2, if_pos (ibn (show 3 * (j % 6) + 2 < 18 by omega) (by decide)), ixn (by omega), h.at.1.W hp]
              exact ⟨σ, rfl, Fr.rf⟩
          · refine same hw (-13) (fun σ h => ?_) (fun σ h => ?_)
            · rw [eF_taken 0, c_in, q1, bs]; (try dsimp only); rw [if_neg n10, c_in, q2, bs]; (try dsimp only); rw [if_neg n10, em, if_neg hnl, c_has32 h12 h.at.1 ho.n, bs]; (try dsimp only); rw [hone, decide_eq_true hp, b2T, if_neg n10, if_neg hy6]
              exact ⟨σ, rfl, Fr.rf⟩
            · rw [eM_taken 0, m_in, q1, bs]; (try dsimp only); rw [if_neg n10, m_in, q2, bs]; (try dsimp only); rw [if_neg n10, em, if_pos (show nI (j % 6) < σ 30 0 from by rw [h.at.1.n]; exact nI_lt hp (by omega)), if_neg hnl, if_neg hy6]
              exact ⟨σ, rfl, Fr.rf⟩
      · refine same hw (-11) (fun σ h => ?_) (fun σ h => ?_)
        · rw [eF_taken 0, c_in, q1, bs]; (try dsimp only); rw [if_neg n10, c_in, q2, bs]; (try dsimp only); rw [if_neg n10, em]
          by_cases hj6 : nI j < 6
          · rw [if_pos hj6, c_has32 h12 h.at.1 ho.n, bs]; (try dsimp only); rw [hone, decide_eq_false hp, b2F, if_pos rfl]
            exact ⟨σ, rfl, Fr.rf⟩
          · rw [if_neg hj6, c_has32 h12 h.at.1 ho.n, bs]; (try dsimp only); rw [hone, decide_eq_false hp, b2F, if_pos rfl]
            exact ⟨σ, rfl, Fr.rf⟩
        · rw [eM_taken 0, m_in, q1, bs]; (try dsimp only); rw [if_neg n10, m_in, q2, bs]; (try dsimp only); rw [if_neg n10, em, if_neg (show ¬ nI (j % 6) < σ 30 0 from by rw [h.at.1.n]; exact nI_nlt (by omega) (by omega))]
          exact ⟨σ, rfl, Fr.rf⟩
    · have q2 := in_f e0 e11 hx
      refine same hw (-12) (fun σ h => ?_) (fun σ h => ?_)
      · rw [eF_taken 0, c_in, q1, bs]; (try dsimp only); rw [if_neg n10, c_in, q2, bs]; (try dsimp only); rw [if_pos rfl]
        exact ⟨σ, rfl, Fr.rf⟩
      · rw [eM_taken 0, m_in, q1, bs]; (try dsimp only); rw [if_neg n10, m_in, q2, bs]; (try dsimp only); rw [if_pos rfl]
        exact ⟨σ, rfl, Fr.rf⟩
  · have q1 := in_f e0 e6 hy
    refine same hw (-2) (fun σ h => ?_) (fun σ h => ?_)
    · rw [eF_taken 0, c_in, q1, bs]; (try dsimp only); rw [if_pos rfl]
      exact ⟨σ, rfl, Fr.rf⟩
    · rw [eM_taken 0, m_in, q1, bs]; (try dsimp only); rw [if_pos rfl]
      exact ⟨σ, rfl, Fr.rf⟩
