/-! BREAKWATER -/
theorem bits_nat (f : Nat → Bool) {n : Nat} (h : n ≤ 6) : ∃ S, S < 2 ^ n ∧ bitsS f n = nI S := by
  have h1 : ∀ i, i < n → f i = selB (f 0) (f 1) (f 2) (f 3) (f 4) (f 5) i := fun i hi => sel_eq (by omega)
  have h2 := d_nat (f 0) (f 1) (f 2) (f 3) (f 4) (f 5) ⟨n, by omega⟩
  rw [← bits_congr h1] at h2
  have hp : 2 ^ n ≤ 2 ^ 6 := Nat.pow_le_pow_right (by omega) h
  have h3 : (bitsS f n).toInt.toNat < 2 ^ n := by
    have h4 := h2.2
    have h5 : ((2 ^ n : Nat) : Int) = 2 ^ n := by rw [Int.natCast_pow]; rfl
    have h6 : (bitsS f n).toInt < ((2 ^ n : Nat) : Int) := by rw [h5]; exact h4
    have := h2.1
    omega
  refine ⟨(bitsS f n).toInt.toNat, h3, ?_⟩
  rw [i_eq, nI_toInt (by omega)]
  have := h2.1
  omega
theorem bits_bit (f : Nat → Bool) {n p : Nat} (h : n ≤ 6) (hp : p < 6) : bitQ (bitsS f n) p = (decide (p < n) && f p) := by
  have h1 : ∀ i, i < n → f i = selB (f 0) (f 1) (f 2) (f 3) (f 4) (f 5) i := fun i hi => sel_eq (by omega)
  have h2 := d_bit (f 0) (f 1) (f 2) (f 3) (f 4) (f 5) ⟨n, by omega⟩ ⟨p, hp⟩
  rw [← bits_congr h1] at h2
  rw [h2, ← sel_eq hp]
def hdT (t : St) (s m : Nat) : St := pD t (fun p => if (decide (p < m) && bitQ (nI s) p) = true then 1 else rD t p)
def hdU (t : St) (s m : Nat) : St := pD t (fun p => if (decide (m ≤ p) && decide (p < sN t) && bitQ (nI s) p) = true then 1 else rD t p)
theorem hdT_0 {t : St} {s : Nat} : hdT t s 0 = t := by
  have e : (fun p => if (decide (p < 0) && bitQ (nI s) p) = true then 1 else rD t p) = rD t := by
    funext p
    rw [decide_eq_false (by omega : ¬ p < 0), Bool.false_and, if_neg (by decide)]
  unfold hdT
  rw [e]
  rfl
theorem hdT_1 {t : St} {s m : Nat} : hdT t s (m + 1) = if bitQ (nI s) m = true then pD (hdT t s m) (upd (rD (hdT t s m)) m 1) else hdT t s m := by
  have e : (fun p => if (decide (p < m + 1) && bitQ (nI s) p) = true then 1 else rD t p) = if bitQ (nI s) m = true then upd (fun p => if (decide (p < m) && bitQ (nI s) p) = true then 1 else rD t p) m 1 else (fun p => if (decide (p < m) && bitQ (nI s) p) = true then 1 else rD t p) := by
    funext p
    by_cases hb : bitQ (nI s) m = true
    · rw [if_pos hb]
      by_cases hp : p = m
      · subst hp
        rw [upd_s, decide_eq_true (by omega : p < p + 1), hb]
        rfl
      · rw [upd_n hp]
        by_cases hl : p < m
        · rw [decide_eq_true hl, decide_eq_true (by omega : p < m + 1)]
        · rw [decide_eq_false hl, decide_eq_false (by omega : ¬ p < m + 1)]
    · rw [if_neg hb]
      by_cases hp : p = m
      · subst hp
        rw [Bool.not_eq_true] at hb
        rw [hb, Bool.and_false, Bool.and_false]
      · by_cases hl : p < m
        · rw [decide_eq_true hl, decide_eq_true (by omega : p < m + 1)]
        · rw [decide_eq_false hl, decide_eq_false (by omega : ¬ p < m + 1)]
  unfold hdT
  rw [e]
  split <;> rfl
theorem hdU_0 {t : St} {s : Nat} : hdU t s 0 = hdT t s (sN t) := by
  have e : (fun p => if (decide (0 ≤ p) && decide (p < sN t) && bitQ (nI s) p) = true then (1 : Int32) else rD t p) = fun p => if (decide (p < sN t) && bitQ (nI s) p) = true then 1 else rD t p := by
    funext p
    rw [decide_eq_true (by omega : 0 ≤ p), Bool.true_and]
  unfold hdU hdT
  rw [e]
theorem hdU_n {t : St} {s : Nat} : hdU t s (sN t) = t := by
  have e : (fun p => if (decide (sN t ≤ p) && decide (p < sN t) && bitQ (nI s) p) = true then 1 else rD t p) = rD t := by
    funext p
    by_cases hp : p < sN t
    · rw [decide_eq_false (by omega : ¬ sN t ≤ p), Bool.false_and, Bool.false_and, if_neg (by decide)]
    · rw [decide_eq_false hp, Bool.and_false, Bool.false_and, if_neg (by decide)]
  unfold hdU
  rw [e]
  rfl
theorem hdU_1 {t : St} {s m : Nat} (hm : m < sN t) (h0 : bitQ (nI s) m = true → rD t m = 0) : hdU t s (m + 1) = if bitQ (nI s) m = true then pD (hdU t s m) (upd (rD (hdU t s m)) m 0) else hdU t s m := by
  have e : (fun p => if (decide (m + 1 ≤ p) && decide (p < sN t) && bitQ (nI s) p) = true then 1 else rD t p) = if bitQ (nI s) m = true then upd (fun p => if (decide (m ≤ p) && decide (p < sN t) && bitQ (nI s) p) = true then 1 else rD t p) m 0 else (fun p => if (decide (m ≤ p) && decide (p < sN t) && bitQ (nI s) p) = true then 1 else rD t p) := by
    funext p
    by_cases hb : bitQ (nI s) m = true
    · rw [if_pos hb]
      by_cases hp : p = m
      · subst hp
        rw [upd_s, decide_eq_false (by omega : ¬ p + 1 ≤ p), Bool.false_and, Bool.false_and, if_neg (by decide), h0 hb]
      · rw [upd_n hp]
        by_cases hl : m ≤ p
        · rw [decide_eq_true hl, decide_eq_true (by omega : m + 1 ≤ p)]
        · rw [decide_eq_false hl, decide_eq_false (by omega : ¬ m + 1 ≤ p)]
    · rw [if_neg hb]
      by_cases hp : p = m
      · subst hp
        rw [Bool.not_eq_true] at hb
        rw [hb, Bool.and_false, Bool.and_false]
      · by_cases hl : m ≤ p
        · rw [decide_eq_true hl, decide_eq_true (by omega : m + 1 ≤ p)]
        · rw [decide_eq_false hl, decide_eq_false (by omega : ¬ m + 1 ≤ p)]
  unfold hdU
  rw [e]
  split <;> rfl
theorem ok_hdT {TX : TXT} {K : Nat} {t : St} (h : Ok TX K t) {s : Nat} : ∀ m, Ok TX K (hdT t s m) := by
  intro m
  induction m with
  | zero => rw [hdT_0]; exact h
  | succ m ih =>
    rw [hdT_1]
    split
    · exact ih.pD (Or.inr rfl)
    · exact ih
def allS (TX : TXT) (t : St) (s : Nat) : Bool := decide (bitsS (aloneS TX (hdT t s (sN t))) (sN (hdT t s (sN t))) = bitsS (seenS (hdT t s (sN t))) (sN (hdT t s (sN t))))
theorem seen_hdT {t : St} {s p : Nat} (hp : p < sN t) : seenS (hdT t s (sN t)) p = (seenS t p && !bitQ (nI s) p) := by
  have e : seenS (hdT t s (sN t)) p = (decide (¬ rP t p = -1) && decide ((if (decide (p < sN t) && bitQ (nI s) p) = true then (1 : Int32) else rD t p) = 0)) := rfl
  rw [e, decide_eq_true hp, Bool.true_and]
  unfold seenS
  by_cases hb : bitQ (nI s) p = true
  · rw [if_pos hb, hb, show decide ((1 : Int32) = 0) = false by decide, Bool.and_false, Bool.not_true, Bool.and_false]
  · rw [if_neg hb]
    rw [Bool.not_eq_true] at hb
    rw [hb, Bool.not_false, Bool.and_true]
theorem c_others {a : Ab} (hw : WfA a) {s : Nat} (hs : s < 64) {σ : Sto} (h : InvC σ a) : ∃ σ', C nF_othersAloneWithout 0 [.ref 0, .int (nI s)] σ = some (b2 (allS (aX a) (aT a) s), 0, σ') ∧ InvC σ' a ∧ FC σ σ' := by
  have hN := hw.1.n
  have L : ∀ d m σ, m + d = sN (aT a) → Tht σ a (hdT (aT a) s m) → ∃ σ', R nF_othersAloneWithout 0 7 [.ref 0, .int (nI s), .int (nI m)] [] σ = some (b2 (allS (aX a) (aT a) s), 0, σ') ∧ InvC σ' a ∧ FC σ σ' := by
    intro d
    induction d with
    | zero =>
      intro m σ hm h
      have e : m = sN (aT a) := by omega
      subst e
      have hok := ok_hdT hw.1 (s := s) (sN (aT a))
      obtain ⟨σ1, e1, f1⟩ := c_aloneBits (k := 0) h18 h.at hok
      have h1 := h.f6 f1
      rw [eF_othersAloneWithout_7 0, if_neg (show ¬ nI (sN (aT a)) < σ 12 6 from by rw [h.2.at.1.n]; exact nI_nlt (by omega) (by omega)), e1, bs]; (try dsimp only); rw [c_seenBits h18 h1.1 hok.n, bs]
      dsimp only
      unfold allS
      by_cases hq : bitsS (aloneS (aX a) (hdT (aT a) s (sN (aT a)))) (sN (hdT (aT a) s (sN (aT a)))) = bitsS (seenS (hdT (aT a) s (sN (aT a)))) (sN (hdT (aT a) s (sN (aT a))))
      · rw [decide_eq_true hq]
        rw [if_pos hq]
        exact ⟨σ1, rfl, h1.2, f6c f1⟩
      · rw [decide_eq_false hq]
        rw [if_neg hq]
        exact ⟨σ1, rfl, h1.2, f6c f1⟩
    | succ d ih =>
      intro m σ hm h
      have h6 : m < 6 := by omega
      have e := hdT_1 (t := aT a) (s := s) (m := m)
      rw [eF_othersAloneWithout_7 0, if_pos (show nI m < σ 12 6 from by rw [h.2.at.1.n]; exact nI_lt (by omega) (by omega)), nI_1]
      by_cases hb : bitQ (nI s) m = true
      · rw [if_pos hb] at e
        have hb2 : ((nI s >>> (nI m &&& 31)) &&& 1) = 1 := of_decide_eq_true hb
        rw [if_pos hb2, if_pos (show inb (nI m) 6 = true ∧ zb 1 = true from ⟨ib6 h6, by decide⟩), ix6 h6]
        have ht : Tht (su σ 22 m 1) a (hdT (aT a) s (m + 1)) := by
          rw [e]
          exact h.st (Fr.rf.su (by decide)) (h.1.sD h18)
        obtain ⟨σ2, e2, i2, f2⟩ := ih (m + 1) _ (by omega) ht
        exact ⟨σ2, e2, i2, (FC.rf.su (by decide)).tr f2⟩
      · rw [if_neg hb] at e
        have hb2 : ¬ ((nI s >>> (nI m &&& 31)) &&& 1) = 1 := fun z => hb (decide_eq_true z)
        rw [if_neg hb2]
        exact ih (m + 1) σ (by omega) (by rw [e]; exact h)
  obtain ⟨σ1, e1, h1, f1⟩ := t_new (k := 0) hw h
  obtain ⟨σ2, e2, i2, f2⟩ := L (sN (aT a)) 0 σ1 (Nat.zero_add _) (by rw [hdT_0]; exact h1)
  rw [eF_othersAloneWithout 0, e1, bs]
  exact ⟨σ2, e2, i2, f1.tr f2⟩
theorem su_same {σ : Sto} {c i : Nat} : su σ c i (σ c i) = σ := by
  funext c'
  by_cases h : c' = c
  · subst h
    rw [su_row]
    funext j
    by_cases h2 : j = i
    · subst h2; rw [upd_s]
    · rw [upd_n h2]
  · rw [su_ne h]
theorem m_allL1 {a : Ab} {s : Nat} (hN : sN (aT a) ≤ 6) {x : Int32} : ∀ d m σ, m + d = sN (aT a) → InvM σ (setT a (hdT (aT a) s m)) →
    ∃ σ', R nM_areAllAlone 0 2 [.ref 30, .int (nI s), .int x, .int (nI m), .null] [] σ = R nM_areAllAlone 0 2 [.ref 30, .int (nI s), .int x, .int (nI (sN (aT a))), .null] [] σ' ∧ InvM σ' (setT a (hdT (aT a) s (sN (aT a)))) ∧ FM σ σ' := by
  intro d
  induction d with
  | zero =>
    intro m σ hm h
    have e : m = sN (aT a) := by omega
    subst e
    exact ⟨σ, rfl, h, FM.rf⟩
  | succ d ih =>
    intro m σ hm h
    have e := hdT_1 (t := aT a) (s := s) (m := m)
    have i18 := ibn (show 3 * m + 1 < 18 by omega) (by decide)
    have j18 := ixn (show 3 * m + 1 < 2147483648 by omega)
    have hn : σ 30 0 = nI (sN (aT a)) := h.at.1.n
    rw [eM_areAllAlone_2 0, if_pos (show nI m < σ 30 0 from by rw [hn]; exact nI_lt (by omega) (by omega)), i3, nI_1, nI_1, if_pos i18, if_pos i18, if_pos i18, j18, su_same]
    by_cases hb : bitQ (nI s) m = true
    · rw [if_pos hb] at e
      have hb2 : ((nI s >>> (nI m &&& 31)) &&& 1) = 1 := of_decide_eq_true hb
      rw [if_pos hb2]
      have ht : InvM (su σ 33 (3 * m + 1) 1) (setT a (hdT (aT a) s (m + 1))) := by
        rw [e]
        exact h.st (Fr.rf.su (by decide)) h.at.1.sD
      obtain ⟨σ2, e2, i2, f2⟩ := ih (m + 1) _ (by omega) ht
      exact ⟨σ2, e2, i2, (FM.rf.su (by decide) (by decide)).tr f2⟩
    · rw [if_neg hb] at e
      have hb2 : ¬ ((nI s >>> (nI m &&& 31)) &&& 1) = 1 := fun z => hb (decide_eq_true z)
      rw [if_neg hb2]
      exact ih (m + 1) σ (by omega) (by rw [e]; exact h)
theorem m_allL2 {a : Ab} {s : Nat} (hN : sN (aT a) ≤ 6) (h0 : ∀ p, p < sN (aT a) → bitQ (nI s) p = true → rD (aT a) p = 0) {x v : Int32} (hv : nok 1 v = true) : ∀ d m σ, m + d = sN (aT a) → InvM σ (setT a (hdU (aT a) s m)) →
    ∃ σ', R nM_areAllAlone 0 47 [.ref 30, .int (nI s), .int x, .int v, .int (nI m)] [] σ = some (v, 0, σ') ∧ InvM σ' a ∧ FM σ σ' := by
  intro d
  induction d with
  | zero =>
    intro m σ hm h
    have e : m = sN (aT a) := by omega
    subst e
    have hn : σ 30 0 = nI (sN (aT a)) := h.at.1.n
    rw [eM_areAllAlone_47 0, if_neg (show ¬ nI (sN (aT a)) < σ 30 0 from by rw [hn]; exact nI_nlt (by omega) (by omega)), if_pos hv]
    rw [hdU_n] at h
    exact ⟨σ, rfl, h, FM.rf⟩
  | succ d ih =>
    intro m σ hm h
    have e := hdU_1 (t := aT a) (s := s) (m := m) (by omega) (h0 m (by omega))
    have i18 := ibn (show 3 * m + 1 < 18 by omega) (by decide)
    have j18 := ixn (show 3 * m + 1 < 2147483648 by omega)
    have hn : σ 30 0 = nI (sN (aT a)) := h.at.1.n
    rw [eM_areAllAlone_47 0, if_pos (show nI m < σ 30 0 from by rw [hn]; exact nI_lt (by omega) (by omega)), i3, nI_1, nI_1, if_pos i18, if_pos i18, if_pos i18, j18, su_same]
    by_cases hb : bitQ (nI s) m = true
    · rw [if_pos hb] at e
      have hb2 : ((nI s >>> (nI m &&& 31)) &&& 1) = 1 := of_decide_eq_true hb
      rw [if_pos hb2]
      have ht : InvM (su σ 33 (3 * m + 1) 0) (setT a (hdU (aT a) s (m + 1))) := by
        rw [e]
        exact h.st (Fr.rf.su (by decide)) h.at.1.sD
      obtain ⟨σ2, e2, i2, f2⟩ := ih (m + 1) _ (by omega) ht
      exact ⟨σ2, e2, i2, (FM.rf.su (by decide) (by decide)).tr f2⟩
    · rw [if_neg hb] at e
      have hb2 : ¬ ((nI s >>> (nI m &&& 31)) &&& 1) = 1 := fun z => hb (decide_eq_true z)
      rw [if_neg hb2]
      exact ih (m + 1) σ (by omega) (by rw [e]; exact h)
theorem less_bits {f : Nat → Bool} {n s : Nat} (hn : n ≤ 6) (hs : s < 64) : bitsS (fun i => f i && !bitQ (nI s) i) n = bitsS f n &&& (nI s ^^^ (-1)) := by
  obtain ⟨S, hS, eS⟩ := bits_nat f hn
  have hp : 2 ^ n ≤ 2 ^ 6 := Nat.pow_le_pow_right (by omega) hn
  have h1 := d_less ⟨s, hs⟩ ⟨S, by omega⟩ ⟨n, by omega⟩
  have h2 : ∀ i, i < n → bitQ (nI S) i = f i := by
    intro i hi
    rw [← eS, bits_bit f hn (by omega), decide_eq_true hi, Bool.true_and]
  have h3 : bitsS (fun i => bitQ (nI S) i && !bitQ (nI s) i) n = bitsS (fun i => f i && !bitQ (nI s) i) n := bits_congr fun i hi => by rw [h2 i hi]
  have h4 : bitsS (fun i => bitQ (nI S) i) n = bitsS f n := bits_congr h2
  rw [← h3, ← h4]
  exact h1
theorem m_all {a : Ab} (hw : WfA a) {s S : Nat} (hs : s < 64) (hS : S < 64) (eS : bitsS (seenS (aT a)) (sN (aT a)) = nI S) (hsub : (nI s &&& (nI S ^^^ (-1))) = 0) {σ : Sto} (h : InvM σ a) :
    ∃ σ', C nM_areAllAlone 0 [.ref 30, .int (nI s), .int (nI S)] σ = some (b2 (allS (aX a) (aT a) s), 0, σ') ∧ InvM σ' a ∧ FM σ σ' := by
  have hN := hw.1.n
  have h0 : ∀ p, p < sN (aT a) → bitQ (nI s) p = true → rD (aT a) p = 0 := by
    intro p hp hb
    have h1 := d_q ⟨s, hs⟩ ⟨S, hS⟩ hsub ⟨p, by omega⟩ hb
    have h2 : bitQ (nI S) p = true := h1
    rw [← eS, bits_bit _ hN (by omega), decide_eq_true hp, Bool.true_and] at h2
    unfold seenS at h2
    rw [Bool.and_eq_true, decide_eq_true_eq, decide_eq_true_eq] at h2
    exact h2.2
  obtain ⟨σ1, e1, h1, f1⟩ := m_allL1 (s := s) (x := nI S) hN (sN (aT a)) 0 σ (Nat.zero_add _) (by rw [hdT_0]; exact h)
  have hok := ok_hdT hw.1 (s := s) (sN (aT a))
  have hn : σ1 30 0 = nI (sN (aT a)) := h1.at.1.n
  have ha : AtM σ1 (aX a) (aN a) (hdT (aT a) s (sN (aT a))) := h1.at
  obtain ⟨σ2, e2, f2⟩ := m_aloneSet (k := 0) ha hok
  have h2 := h1.f2 f2
  have hU : ∀ t, InvM σ2 (setT a (hdT (aT a) s (sN (aT a)))) → t = hdT (aT a) s (sN (aT a)) → InvM σ2 (setT a t) := fun t z e => by rw [e]; exact z
  have h3 := hU (hdU (aT a) s 0) h2 hdU_0
  have ee : bitsS (seenS (hdT (aT a) s (sN (aT a)))) (sN (hdT (aT a) s (sN (aT a)))) = nI S &&& (nI s ^^^ (-1)) := by
    rw [← eS, ← less_bits hN hs]
    show bitsS (seenS (hdT (aT a) s (sN (aT a)))) (sN (aT a)) = _
    exact bits_congr fun i hi => seen_hdT hi
  rw [eM_areAllAlone 0, show (0 : Int32) = nI 0 from rfl, e1, eM_areAllAlone_2 0, if_neg (show ¬ nI (sN (aT a)) < σ1 30 0 from by rw [hn]; exact nI_nlt (by omega) (by omega)), e2, bs]; (try dsimp only); rw [← ee]
  unfold allS
  by_cases hq : bitsS (aloneS (aX a) (hdT (aT a) s (sN (aT a)))) (sN (hdT (aT a) s (sN (aT a)))) = bitsS (seenS (hdT (aT a) s (sN (aT a)))) (sN (hdT (aT a) s (sN (aT a))))
  · obtain ⟨σ3, e3, h4, f3⟩ := m_allL2 hN h0 (x := nI S) (v := 1) (by decide) (sN (aT a)) 0 σ2 (Nat.zero_add _) h3
    rw [decide_eq_true hq, if_pos hq]
    exact ⟨σ3, e3, h4, (f1.tr (f2m f2)).tr f3⟩
  · obtain ⟨σ3, e3, h4, f3⟩ := m_allL2 hN h0 (x := nI S) (v := 0) (by decide) (sN (aT a)) 0 σ2 (Nat.zero_add _) h3
    rw [decide_eq_false hq, if_neg hq]
    exact ⟨σ3, e3, h4, (f1.tr (f2m f2)).tr f3⟩
