/-! THE COMPONENT TAKES A TOKEN -/
theorem hw_of {i : Nat} (h : i < 12) : 100 + i = 100 ∨ 100 + i = 101 ∨ 100 + i = 102 ∨ 100 + i = 103 ∨ 100 + i = 104 ∨ 100 + i = 105 ∨ 100 + i = 106 ∨ 100 + i = 107 ∨ 100 + i = 108 ∨ 100 + i = 109 ∨ 100 + i = 110 ∨ 100 + i = 111 := by omega
theorem hv_of {i : Nat} (h : i < 12) : 200 + i = 200 ∨ 200 + i = 201 ∨ 200 + i = 202 ∨ 200 + i = 203 ∨ 200 + i = 204 ∨ 200 + i = 205 ∨ 200 + i = 206 ∨ 200 + i = 207 ∨ 200 + i = 208 ∨ 200 + i = 209 ∨ 200 + i = 210 ∨ 200 + i = 211 := by omega
theorem d_len : ∀ i : Fin 12, (Int32.ofNat (byteOf i.1).length) >>> ((0 : Int32) &&& 31) = nI (byteOf i.1).length ∧ (byteOf i.1).length < 9 := by decide +kernel
theorem d_chr : ∀ (i : Fin 12) (j : Fin 9), j.1 < (byteOf i.1).length → (Int32.toUInt32 (((byteOf i.1).getD j.1 0) &&& 255) % 65536).toInt32 = (byteOf i.1).getD j.1 0 ∧ nok 3 ((byteOf i.1).getD j.1 0) = true := by decide +kernel
theorem c_len {k i : Nat} (hi : i < 12) {σ : Sto} : C nJ0_length k [.ref (100 + i)] σ = some (nI (byteOf i).length, 0, σ) := by
  rw [eJ0_length k _ (hw_of hi), eJ0_coder k _ (hw_of hi), if_pos (by decide), bs]
  dsimp only
  rw [show 100 + i + 100 - 200 = i by omega, (d_len ⟨i, hi⟩).1]
theorem c_char {k i j : Nat} (hi : i < 12) (hj : j < (byteOf i).length) {σ : Sto} : C nJ0_charAt k [.ref (100 + i), .int (nI j)] σ = some ((byteOf i).getD j 0, 0, σ) := by
  have h9 := (d_len ⟨i, hi⟩).2
  have h9 : (byteOf i).length < 9 := h9
  have h8 := d_chr ⟨i, hi⟩ ⟨j, by omega⟩ hj
  have h8 : (Int32.toUInt32 (((byteOf i).getD j 0) &&& 255) % 65536).toInt32 = (byteOf i).getD j 0 ∧ nok 3 ((byteOf i).getD j 0) = true := h8
  have e1 : C nJ1_charAt k [.ref (200 + i), .int (nI j)] σ = some ((byteOf i).getD j 0, 0, σ) := by
    rw [eJ1_charAt k _ (hv_of hi), show 200 + i - 200 = i by omega, eJ0_checkIndex k, eJ3_checkIndex k, if_neg (nI_pos (by omega)), show Int32.ofNat (byteOf i).length = nI (byteOf i).length from rfl, if_pos (nI_lt hj (by omega)), bs]; (try dsimp only); rw [bs]; (try dsimp only); rw [ixn (by omega), h8.1, if_pos (ibn hj (by omega)), if_pos h8.2]
  rw [eJ0_charAt k _ (hw_of hi), eJ0_isLatin1 k _ (hw_of hi), bs]
  dsimp only
  rw [if_neg n10, show 100 + i + 100 = 200 + i by omega, e1, bs]
  dsimp only
  rw [if_pos h8.2]
theorem drop_c : ∀ (l : List Int32) (j : Nat), j < l.length → l.drop j = l.getD j 0 :: l.drop (j + 1)
  | _ :: _, 0, _ => rfl
  | _ :: l, j + 1, h => drop_c l j (Nat.lt_of_succ_lt_succ h)
theorem c_word {k i : Nat} (hi : i < 12) {r : Rw} {n s e : Nat} (hn : n ≤ 160) (hse : s ≤ e) (hen : e ≤ n) {σ : Sto} (hb : Bas r n σ) (h4 : σ 7 4 = nI s) (h3 : σ 7 3 = nI e) : C nD_isWord k [.ref 7, .ref (100 + i)] σ = some (b2 (decide (slL r (e - s) s = byteOf i)), 0, σ) := by
  have h9 := (d_len ⟨i, hi⟩).2
  have h9 : (byteOf i).length < 9 := h9
  have L : ∀ d j, j + d = (byteOf i).length → s + (byteOf i).length ≤ n → R nD_isWord k 12 [.ref 7, .ref (100 + i), .int (nI j)] [] σ = some (b2 (decide (slL r d (s + j) = (byteOf i).drop j)), 0, σ) := by
    intro d
    induction d with
    | zero =>
      intro j hj hs
      have e : j = (byteOf i).length := by omega
      rw [eD_isWord_12 k _ (hw_of hi), c_len hi, bs]; (try dsimp only); rw [if_neg (nI_nlt (by omega) (by omega)), e, List.drop_length]
      rfl
    | succ d ih =>
      intro j hj hs
      have hjl : j < (byteOf i).length := by omega
      rw [eD_isWord_12 k _ (hw_of hi), c_len hi, bs]; (try dsimp only); rw [if_pos (nI_lt hjl (by omega)), if_pos (show inb (σ 7 4 + nI j) 160 = true from by rw [h4, nI_add]; exact ibn (show s + j < 160 by omega) (by omega)), c_char hi hjl, bs]; (try dsimp only); rw [nI_1, drop_c _ j hjl]
      have e1 : slL r (d + 1) (s + j) = r (s + j) :: slL r d (s + j + 1) := rfl
      have e2 : σ 1 (σ 7 4 + nI j).toNatClampNeg = r (s + j) := by rw [h4, nI_add, ixn (by omega), hb.2 (s + j) (by omega)]
      rw [e1]
      by_cases hq : r (s + j) = (byteOf i).getD j 0
      · rw [if_pos (show σ 1 (σ 7 4 + nI j).toNatClampNeg = (byteOf i).getD j 0 from e2.trans hq), ih (j + 1) (by omega) hs, hq, show s + (j + 1) = s + j + 1 by omega]
        refine congrArg (fun z => some (b2 z, (0 : Int64), σ)) ?_
        rw [decide_eq_decide, List.cons.injEq]
        exact ⟨fun h => ⟨rfl, h⟩, fun h => h.2⟩
      · rw [if_neg (show ¬ σ 1 (σ 7 4 + nI j).toNatClampNeg = (byteOf i).getD j 0 from fun h => hq (e2.symm.trans h)), decide_eq_false]
        · rfl
        · rw [List.cons.injEq]
          exact fun h => hq h.1
  rw [eD_isWord k _ (hw_of hi), c_len hi, bs]; (try dsimp only); rw [h3, h4, nI_subN hse (by omega)]
  by_cases hl : e - s = (byteOf i).length
  · have h0 := L (byteOf i).length 0 (Nat.zero_add _) (by omega)
    rw [if_pos (show nI (e - s) = nI (byteOf i).length from by rw [hl]), show (0 : Int32) = nI 0 from rfl, h0, hl]
    rfl
  · rw [if_neg (show ¬ nI (e - s) = nI (byteOf i).length from fun h => hl (nI_inj (by omega) (by omega) h)), decide_eq_false]
    · rfl
    · intro h
      apply hl
      rw [← h, sl_len]
set_option maxRecDepth 100000 in
theorem c_word20 {k : Nat} {r : Rw} {n s e : Nat} (hn : n ≤ 160) (hse : s ≤ e) (hen : e ≤ n) {σ : Sto} (hb : Bas r n σ) (h4 : σ 7 4 = nI s) (h3 : σ 7 3 = nI e) {v1 : Int32} : R nD_takeWord k 20 [.ref 7, .int v1] [] σ = some (0, 0, su σ 7 5 (wkL (wdL (slL r (e - s) s)))) := by
  have w : ∀ i : Nat, i < 12 → C nD_isWord k [.ref 7, .ref (100 + i)] σ = some (b2 (decide (slL r (e - s) s = byteOf i)), 0, σ) := fun i hi => c_word hi hn hse hen hb h4 h3
  have w0 := w 0 (by omega)
  have w1 := w 1 (by omega)
  have w2 := w 2 (by omega)
  have w3 := w 3 (by omega)
  have w4 := w 4 (by omega)
  have w5 := w 5 (by omega)
  have w6 := w 6 (by omega)
  have w7 := w 7 (by omega)
  have w8 := w 8 (by omega)
  have w9 := w 9 (by omega)
  have w10 := w 10 (by omega)
  have w11 := w 11 (by omega)
  generalize slL r (e - s) s = l at w w0 w1 w2 w3 w4 w5 w6 w7 w8 w9 w10 w11 ⊢
  rw [eD_takeWord_20 k]
  rw [show (Value.ref 100) = .ref (100 + 0) from rfl, w0, bs]
  dsimp only
  by_cases h0 : l = byteOf 0
  · rw [decide_eq_true h0, if_neg (show ¬ b2 true = 0 from n10), h0]
    rfl
  rw [decide_eq_false h0, if_pos (show b2 false = 0 from rfl)]
  rw [show (Value.ref 101) = .ref (100 + 1) from rfl, w1, bs]
  dsimp only
  by_cases h1 : l = byteOf 1
  · rw [decide_eq_true h1, if_neg (show ¬ b2 true = 0 from n10), h1]
    rfl
  rw [decide_eq_false h1, if_pos (show b2 false = 0 from rfl)]
  rw [show (Value.ref 102) = .ref (100 + 2) from rfl, w2, bs]
  dsimp only
  by_cases h2 : l = byteOf 2
  · rw [decide_eq_true h2, if_neg (show ¬ b2 true = 0 from n10), h2]
    rfl
  rw [decide_eq_false h2, if_pos (show b2 false = 0 from rfl)]
  rw [show (Value.ref 103) = .ref (100 + 3) from rfl, w3, bs]
  dsimp only
  by_cases h3 : l = byteOf 3
  · rw [decide_eq_true h3, if_neg (show ¬ b2 true = 0 from n10), h3]
    rfl
  rw [decide_eq_false h3, if_pos (show b2 false = 0 from rfl)]
  rw [show (Value.ref 104) = .ref (100 + 4) from rfl, w4, bs]
  dsimp only
  by_cases h4 : l = byteOf 4
  · rw [decide_eq_true h4, if_neg (show ¬ b2 true = 0 from n10), h4]
    rfl
  rw [decide_eq_false h4, if_pos (show b2 false = 0 from rfl)]
  rw [show (Value.ref 105) = .ref (100 + 5) from rfl, w5, bs]
  dsimp only
  by_cases h5 : l = byteOf 5
  · rw [decide_eq_true h5, if_neg (show ¬ b2 true = 0 from n10), h5]
    rfl
  rw [decide_eq_false h5, if_pos (show b2 false = 0 from rfl)]
  rw [show (Value.ref 106) = .ref (100 + 6) from rfl, w6, bs]
  dsimp only
  by_cases h6 : l = byteOf 6
  · rw [decide_eq_true h6, if_neg (show ¬ b2 true = 0 from n10), h6]
    rfl
  rw [decide_eq_false h6, if_pos (show b2 false = 0 from rfl)]
  rw [show (Value.ref 107) = .ref (100 + 7) from rfl, w7, bs]
  dsimp only
  by_cases h7 : l = byteOf 7
  · rw [decide_eq_true h7, if_neg (show ¬ b2 true = 0 from n10), h7]
    rfl
  rw [decide_eq_false h7, if_pos (show b2 false = 0 from rfl)]
  rw [show (Value.ref 108) = .ref (100 + 8) from rfl, w8, bs]
  dsimp only
  by_cases h8 : l = byteOf 8
  · rw [decide_eq_true h8, if_neg (show ¬ b2 true = 0 from n10), h8]
    rfl
  rw [decide_eq_false h8, if_pos (show b2 false = 0 from rfl)]
  rw [show (Value.ref 109) = .ref (100 + 9) from rfl, w9, bs]
  dsimp only
  by_cases h9 : l = byteOf 9
  · rw [decide_eq_true h9, if_neg (show ¬ b2 true = 0 from n10), h9]
    rfl
  rw [decide_eq_false h9, if_pos (show b2 false = 0 from rfl)]
  rw [show (Value.ref 110) = .ref (100 + 10) from rfl, w10, bs]
  dsimp only
  by_cases h10 : l = byteOf 10
  · rw [decide_eq_true h10, if_neg (show ¬ b2 true = 0 from n10), h10]
    rfl
  rw [decide_eq_false h10, if_pos (show b2 false = 0 from rfl)]
  rw [show (Value.ref 111) = .ref (100 + 11) from rfl, w11, bs]
  dsimp only
  by_cases h11 : l = byteOf 11
  · rw [decide_eq_true h11, if_neg (show ¬ b2 true = 0 from n10), h11]
    rfl
  rw [decide_eq_false h11, if_pos (show b2 false = 0 from rfl)]
  have e : wdL l = 12 := by
    unfold wdL
    rw [if_neg h0, if_neg h1, if_neg h2, if_neg h6, if_neg h7, if_neg h8, if_neg h9, if_neg h10, if_neg h11, if_neg h3, if_neg h4, if_neg h5]
  rw [e]
  rfl
theorem c_runW {k : Nat} {r : Rw} {n s : Nat} (hn : n ≤ 160) : ∀ d q σ, q + d = n → s ≤ q → Bas r n σ → σ 7 4 = nI s → σ 7 3 = nI q →
    ∃ σ', R nD_takeWord k 3 [.ref 7, .int (nI q)] [] σ = some (0, 0, σ') ∧ Fk σ σ' ∧ σ' 7 4 = nI s ∧ σ' 7 3 = nI (runS leB r d q) ∧ σ' 7 5 = wkL (wdL (slL r (runS leB r d q - s) s)) := by
  intro d
  induction d with
  | zero =>
    intro q σ hq hs hb h4 h3
    rw [eD_takeWord_3 k, hb.1, if_neg (nI_nlt (by omega) (by omega)), c_word20 hn hs (show q ≤ n by omega) hb h4 h3]
    exact ⟨_, rfl, Fk.rf.su (by omega) (by omega), by rw [su_o (by decide)]; exact h4, by rw [su_o (by decide)]; exact h3, su_e⟩
  | succ d ih =>
    intro q σ hq hs hb h4 h3
    rw [eD_takeWord_3 k, hb.1, if_pos (nI_lt (by omega) (by omega)), if_pos (ibn (show q < 160 by omega) (by omega)), ixn (by omega), hb.2 q (by omega), c_letter, bs]
    dsimp only
    rw [b2_if, nI_1]
    by_cases hl : leB (r q) = true
    · rw [if_pos hl, run_1 hl]
      obtain ⟨σ', e, f, g⟩ := ih (q + 1) (su σ 7 3 (nI (q + 1))) (by omega) (by omega) (hb.fk (Fk.rf.su (by omega) (by omega))) (by rw [su_o (by decide)]; exact h4) su_e
      exact ⟨σ', e, (Fk.rf.su (by omega) (by omega)).tr f, g⟩
    · rw [if_neg hl, run_0 hl, c_word20 hn hs (show q ≤ n by omega) hb h4 h3]
      exact ⟨_, rfl, Fk.rf.su (by omega) (by omega), by rw [su_o (by decide)]; exact h4, by rw [su_o (by decide)]; exact h3, su_e⟩
theorem c_runN {k : Nat} {r : Rw} {n s : Nat} (hn : n ≤ 160) : ∀ d q σ, q + d = n → s ≤ q → Bas r n σ → σ 7 4 = nI s → σ 7 3 = nI q → σ 7 6 = vaL r s (q - s) →
    ∃ σ', R nD_takeNumber k 6 [.ref 7, .int (nI q)] [] σ = some (0, 0, σ') ∧ Fk σ σ' ∧ σ' 7 4 = nI s ∧ σ' 7 3 = nI (runS diB r d q) ∧ σ' 7 5 = (if 4 < runS diB r d q - s then 6 else 1) ∧ σ' 7 6 = vaL r s (runS diB r d q - s) := by
  intro d
  have fin : ∀ q σ, q ≤ n → s ≤ q → σ 7 4 = nI s → σ 7 3 = nI q → σ 7 6 = vaL r s (q - s) → ∃ σ', (if 4 < ((σ 7 3) - (σ 7 4)) then some (0, 0, (su σ 7 5 6)) else some (0, 0, (su σ 7 5 1))) = some ((0 : Int32), (0 : Int64), σ') ∧ Fk σ σ' ∧ σ' 7 4 = nI s ∧ σ' 7 3 = nI q ∧ σ' 7 5 = (if 4 < q - s then 6 else 1) ∧ σ' 7 6 = vaL r s (q - s) := by
    intro q σ hq hs h4 h3 h6
    rw [h3, h4, nI_subN hs (by omega)]
    by_cases hl : 4 < q - s
    · rw [if_pos (show (4 : Int32) < nI (q - s) from nI_lt (a := 4) hl (by omega)), if_pos hl]
      exact ⟨_, rfl, Fk.rf.su (by omega) (by omega), by rw [su_o (by decide)]; exact h4, by rw [su_o (by decide)]; exact h3, su_e, by rw [su_o (by decide)]; exact h6⟩
    · rw [if_neg (show ¬ (4 : Int32) < nI (q - s) from nI_nlt (a := 4) (by omega) (by omega)), if_neg hl]
      exact ⟨_, rfl, Fk.rf.su (by omega) (by omega), by rw [su_o (by decide)]; exact h4, by rw [su_o (by decide)]; exact h3, su_e, by rw [su_o (by decide)]; exact h6⟩
  induction d with
  | zero =>
    intro q σ hq hs hb h4 h3 h6
    rw [eD_takeNumber_6 k, if_neg (show ¬ nI q < σ 7 2 from by rw [hb.1]; exact nI_nlt (by omega) (by omega))]
    exact fin q σ (by omega) hs h4 h3 h6
  | succ d ih =>
    intro q σ hq hs hb h4 h3 h6
    rw [eD_takeNumber_6 k, if_pos (show nI q < σ 7 2 from by rw [hb.1]; exact nI_lt (by omega) (by omega)), if_pos (ibn (show q < 160 by omega) (by omega)), ixn (by omega), hb.2 q (by omega), c_digit, bs]
    dsimp only
    rw [b2_if, nI_1]
    by_cases hl : diB (r q) = true
    · rw [if_pos hl, if_pos (ibn (show q < 160 by omega) (by omega)), run_1 hl, su_o (show 6 ≠ 3 by decide), h6, su_ne (show 1 ≠ 7 by decide), hb.2 q (by omega)]
      have ev : vaL r s (q + 1 - s) = vaL r s (q - s) * 10 + r q - 48 := by
        have e1 : q + 1 - s = (q - s) + 1 := by omega
        have e2 : vaL r s ((q - s) + 1) = vaL r s (q - s) * 10 + r (s + (q - s)) - 48 := rfl
        rw [e1, e2, show s + (q - s) = q by omega]
      obtain ⟨σ', e, f, g⟩ := ih (q + 1) (su (su σ 7 3 (nI (q + 1))) 7 6 (vaL r s (q - s) * 10 + r q - 48)) (by omega) (by omega) (hb.fk ((Fk.rf.su (by omega) (by omega)).su (by omega) (by omega)))
        (by rw [su_o (by decide), su_o (by decide)]; exact h4) (by rw [su_o (by decide), su_e]) (by rw [su_e, ev])
      exact ⟨σ', e, ((Fk.rf.su (by omega) (by omega)).su (by omega) (by omega)).tr f, g⟩
    · rw [if_neg hl, run_0 hl]
      exact fin q σ (by omega) hs h4 h3 h6
theorem c_take31 {k : Nat} {r : Rw} {n s : Nat} (hn : n ≤ 160) (hs : s ≤ n) {v1 : Int32} {σ : Sto} (hb : Bas r n σ) (h3 : σ 7 3 = nI s) :
    ∃ σ', R nD_take k 31 [.ref 7, .int v1] [] σ = some (0, 0, σ') ∧ Fk σ σ' ∧ σ' 7 4 = nI s ∧ σ' 7 3 = nI (nxA r n s) ∧ σ' 7 5 = tkA r n s ∧ (tkA r n s = 1 → σ' 7 6 = vaL r s (runS diB r (n - s) s - s)) := by
  obtain ⟨σa, ea⟩ : ∃ σa, σa = su σ 7 4 (σ 7 3) := ⟨_, rfl⟩
  have fa : Fk σ σa := by rw [ea]; exact Fk.rf.su (by omega) (by omega)
  have hba : Bas r n σa := hb.fk fa
  have a4 : σa 7 4 = nI s := by rw [ea, su_e, h3]
  have a3 : σa 7 3 = nI s := by rw [ea, su_o (by decide), h3]
  rw [eD_take_31 k, ← ea, a3, hba.1]
  unfold nxA tkA
  by_cases h1 : n ≤ s
  · rw [if_pos h1, if_pos h1, if_neg (nI_nlt h1 (by omega))]
    refine ⟨_, rfl, fa.su (by omega) (by omega), by rw [su_o (by decide)]; exact a4, by rw [su_o (by decide)]; exact a3, su_e, fun h => absurd h (by decide)⟩
  rw [if_neg h1, if_neg h1, if_pos (nI_lt (by omega) (by omega)), if_pos (ibn (show s < 160 by omega) (by omega)), ixn (by omega), hba.2 s (by omega), c_letter, bs]
  dsimp only
  rw [b2_if]
  by_cases h2 : leB (r s) = true
  · obtain ⟨σ', e, f, g4, g3, g5⟩ := c_runW (k := k) hn (n - s) s σa (by omega) (Nat.le_refl _) hba a4 a3
    rw [if_pos h2, if_pos h2, if_pos h2, eD_takeWord k, a4, e, bs]
    refine ⟨σ', rfl, fa.tr f, g4, g3, g5, fun h => ?_⟩
    have hne : ∀ m, ¬ wkL m = 1 := by
      intro m
      unfold wkL
      repeat' split
      all_goals decide
    exact absurd h (hne _)
  rw [if_neg h2, if_neg h2, if_neg h2, if_pos (show inb (σa 7 3) 160 = true from by rw [a3]; exact ibn (show s < 160 by omega) (by omega)), a3, ixn (by omega), hba.2 s (by omega), c_digit, bs]
  dsimp only
  rw [b2_if]
  by_cases h5 : diB (r s) = true
  · have fb : Fk σa (su σa 7 6 0) := Fk.rf.su (by omega) (by omega)
    obtain ⟨σ', e, f, g4, g3, g5, g6⟩ := c_runN (k := k) hn (n - s) s (su σa 7 6 0) (by omega) (Nat.le_refl _) (hba.fk fb) (by rw [su_o (by decide)]; exact a4) (by rw [su_o (by decide)]; exact a3) (by rw [su_e, Nat.sub_self]; rfl)
    rw [if_pos h5, if_pos h5, if_pos h5, eD_takeNumber k, su_o (by decide), a4, e, bs]
    exact ⟨σ', rfl, fa.tr (fb.tr f), g4, g3, g5, fun _ => g6⟩
  rw [if_neg h5, if_neg h5, if_neg h5, if_pos (show inb (σa 7 3) 160 = true from by rw [a3]; exact ibn (show s < 160 by omega) (by omega)), a3, ixn (by omega), hba.2 s (by omega), c_sign, bs]
  dsimp only
  rw [su_o (show 3 ≠ 5 by decide), a3, nI_1]
  refine ⟨_, rfl, (fa.su (by omega) (by omega)).su (by omega) (by omega), by rw [su_o (by decide), su_o (by decide)]; exact a4, su_e, by rw [su_o (by decide), su_e], fun h => ?_⟩
  have hne : ¬ sgL (r s) = 1 := by
    unfold sgL
    repeat' split
    all_goals decide
  exact absurd h hne
theorem c_skip {k : Nat} {r : Rw} {n : Nat} (hn : n ≤ 160) : ∀ d q σ, q + d = n → Bas r n σ → σ 7 3 = nI q →
    ∃ σ' v, R nD_take k 8 [.ref 7, .int (nI q)] [] σ = R nD_take k 31 [.ref 7, .int v] [] σ' ∧ Fk σ σ' ∧ σ' 7 3 = nI (runS blB r d q) := by
  intro d
  induction d with
  | zero =>
    intro q σ hq hb h3
    rw [eD_take_8 k, hb.1, if_neg (nI_nlt (by omega) (by omega))]
    exact ⟨σ, _, rfl, Fk.rf, h3⟩
  | succ d ih =>
    intro q σ hq hb h3
    have go1 : blB (r q) = true → ∃ σ' v, R nD_take k 8 [.ref 7, .int (nI (q + 1))] [] (su σ 7 3 (nI (q + 1))) = R nD_take k 31 [.ref 7, .int v] [] σ' ∧ Fk σ σ' ∧ σ' 7 3 = nI (runS blB r (d + 1) q) := by
      intro hl
      obtain ⟨σ', v, e, f, g⟩ := ih (q + 1) (su σ 7 3 (nI (q + 1))) (by omega) (hb.fk (Fk.rf.su (by omega) (by omega))) su_e
      exact ⟨σ', v, e, (Fk.rf.su (by omega) (by omega)).tr f, by rw [run_1 hl]; exact g⟩
    rw [eD_take_8 k, hb.1, if_pos (nI_lt (by omega) (by omega)), if_pos (ibn (show q < 160 by omega) (by omega)), if_pos (ibn (show q < 160 by omega) (by omega)), ixn (by omega), hb.2 q (by omega), nI_1]
    by_cases h1 : r q = 32
    · rw [if_pos h1]
      exact go1 (by unfold blB; rw [decide_eq_true h1]; rfl)
    rw [if_neg h1]
    by_cases h2 : r q = 10
    · rw [if_pos h2]
      exact go1 (by unfold blB; rw [decide_eq_true h2, Bool.or_true])
    rw [if_neg h2]
    have hl : ¬ blB (r q) = true := by
      unfold blB
      rw [decide_eq_false h1, decide_eq_false h2]
      decide
    exact ⟨σ, _, rfl, Fk.rf, by rw [run_0 hl]; exact h3⟩
theorem c_take {k : Nat} {r : Rw} {n p : Nat} (hn : n ≤ 160) (hp : p ≤ n) {σ : Sto} (hb : Bas r n σ) (h7 : σ 7 7 = -1) (h3 : σ 7 3 = nI p) :
    ∃ σ', C nD_take k [.ref 7] σ = some (0, 0, σ') ∧ Fk σ σ' ∧ TkC r n p σ' := by
  obtain ⟨σ1, v, e1, f1, g1⟩ := c_skip (k := k) hn (n - p) p σ (by omega) hb h3
  have hs := st_in (r := r) hp
  obtain ⟨σ2, e2, f2, g4, g3, g5, g6⟩ := c_take31 (k := k) hn hs.2 (v1 := v) (hb.fk f1) g1
  rw [eD_take k, if_pos h7, h3, e1, e2]
  exact ⟨σ2, rfl, f1.tr f2, (f2.2 7 (by omega)).trans ((f1.2 7 (by omega)).trans h7), g5, g4, g3, g6⟩
theorem c_take0 {k : Nat} {σ : Sto} (h7 : ¬ σ 7 7 = -1) : C nD_take k [.ref 7] σ = some (0, 0, σ) := by
  rw [eD_take k, if_neg h7]
