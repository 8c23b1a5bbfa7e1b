/-! TOKENS, AND WHAT THE COMPONENT WRITES -/
def TL : List Int32 := [1, 2, 3, 4, 5, 6, 10, 11, 12, -1, -2, -3, -4, -5, -6, -8, -9, -10, -11, -12, -13, -14, -15]
theorem wk_TL (k : Nat) : wkL k ∈ TL := by
  unfold wkL
  repeat' split
  all_goals decide
theorem sg_TL (x : Int32) : sgL x ∈ TL := by
  unfold sgL
  repeat' split
  all_goals decide
theorem tk_TL (r : Rw) (n p : Nat) : tkL r n p ∈ TL := by
  unfold tkL tkA
  split
  · decide
  · split
    · exact wk_TL _
    · split
      · split <;> decide
      · exact sg_TL _
theorem tk1_di {r : Rw} {n p : Nat} (hp : p ≤ n) (h : tkL r n p = 1) : stL r n p < n ∧ diB (r (stL r n p)) = true ∧ runS diB r (n - stL r n p) (stL r n p) - stL r n p ≤ 4 := by
  unfold tkL tkA at h
  by_cases h1 : n ≤ stL r n p
  · rw [if_pos h1] at h; exact absurd h (by decide)
  rw [if_neg h1] at h
  by_cases h2 : leB (r (stL r n p)) = true
  · rw [if_pos h2] at h
    exact absurd h (d_w ⟨wdL (slL r (runS leB r (n - stL r n p) (stL r n p) - stL r n p) (stL r n p)), wd_lt _⟩).2.1
  rw [if_neg h2] at h
  by_cases h3 : diB (r (stL r n p)) = true
  · rw [if_pos h3] at h
    by_cases h4 : 4 < runS diB r (n - stL r n p) (stL r n p) - stL r n p
    · rw [if_pos h4] at h; exact absurd h (by decide)
    · exact ⟨by omega, h3, by omega⟩
  rw [if_neg h3] at h
  exact absurd h (sg_no _).1
theorem va_le {r : Rw} {s : Nat} : ∀ d, d ≤ 4 → (∀ i, s ≤ i → i < s + d → diB (r i) = true) → 0 ≤ (vaL r s d).toInt ∧ (vaL r s d).toInt ≤ 10 ^ d - 1 := by
  intro d
  induction d with
  | zero => intro _ _; exact ⟨show 0 ≤ (0 : Int32).toInt by decide, show (0 : Int32).toInt ≤ 10 ^ 0 - 1 by decide⟩
  | succ d ih =>
    intro hd h
    have h1 := ih (by omega) fun i h1 h2 => h i h1 (by omega)
    have h2 := h (s + d) (by omega) (by omega)
    unfold diB at h2
    rw [decide_eq_true_eq] at h2
    have e : vaL r s (d + 1) = vaL r s d * 10 + r (s + d) - 48 := rfl
    have e10 : (10 : Int32).toInt = 10 := by decide
    have e48 : (48 : Int32).toInt = 48 := by decide
    have hp : (10 : Int) ^ d ≤ 1000 := by
      have : d = 0 ∨ d = 1 ∨ d = 2 ∨ d = 3 := by omega
      rcases this with e | e | e | e <;> (subst e; decide)
    have hq : (10 : Int) ^ (d + 1) = 10 ^ d * 10 := Int.pow_succ ..
    have m1 : (vaL r s d * 10).toInt = (vaL r s d).toInt * 10 := by rw [i_mul (by rw [e10]; omega) (by rw [e10]; omega), e10]
    have m2 : (vaL r s d * 10 + r (s + d)).toInt = (vaL r s d).toInt * 10 + (r (s + d)).toInt := by rw [i_add (by rw [m1]; omega) (by rw [m1]; omega), m1]
    have m3 : (vaL r s d * 10 + r (s + d) - 48).toInt = (vaL r s d).toInt * 10 + (r (s + d)).toInt - 48 := by rw [i_sub (by rw [m2, e48]; omega) (by rw [m2, e48]; omega), m2, e48]
    rw [e, m3]
    omega
theorem vl_in {r : Rw} {n p : Nat} (hp : p ≤ n) (h : tkL r n p = 1) : 0 ≤ (vlL r n p).toInt ∧ (vlL r n p).toInt ≤ 9999 := by
  obtain ⟨h1, h2, h3⟩ := tk1_di hp h
  have h4 := run_in (f := diB) (r := r) (n - stL r n p) (stL r n p)
  have h5 := va_le (r := r) (s := stL r n p) (runS diB r (n - stL r n p) (stL r n p) - stL r n p) h3 fun i i1 i2 => run_all (n - stL r n p) _ i i1 (by omega)
  have hp : (10 : Int) ^ (runS diB r (n - stL r n p) (stL r n p) - stL r n p) ≤ 10000 := by
    have : ∀ d, d ≤ 4 → (10 : Int) ^ d ≤ 10000 := by
      intro d hd
      have : d = 0 ∨ d = 1 ∨ d = 2 ∨ d = 3 ∨ d = 4 := by omega
      rcases this with e | e | e | e | e <;> (subst e; decide)
    exact this _ h3
  unfold vlL
  omega
def CS (K : Nat) (cs : List Int32) (σ : Sto) : Prop := σ 2 4 = nI K ∧ σ 7 8 = nI (160 * K + cs.length) ∧ ∀ j x, cs[j]? = some x → σ 3 (160 * K + j) = x
def Kc (K : Nat) (σ σ' : Sto) : Prop := Fr [3, 7] σ σ' ∧ (∀ i, i < 3 → σ' 7 i = σ 7 i) ∧ ∀ j, j < 160 * K → σ' 3 j = σ 3 j
theorem Kc.rf {K : Nat} {σ : Sto} : Kc K σ σ := ⟨Fr.rf, fun _ _ => rfl, fun _ _ => rfl⟩
theorem Kc.tr {K : Nat} {σ σ1 σ2 : Sto} (h1 : Kc K σ σ1) (h2 : Kc K σ1 σ2) : Kc K σ σ2 := ⟨h1.1.tr h2.1, fun i hi => (h2.2.1 i hi).trans (h1.2.1 i hi), fun j hj => (h2.2.2 j hj).trans (h1.2.2 j hj)⟩
theorem Fk.kc {K : Nat} {σ σ' : Sto} (h : Fk σ σ') : Kc K σ σ' := ⟨h.1.mono (by decide), fun i hi => h.2 i (by omega), fun j hj => by rw [h.1 3 (by decide)]⟩
theorem Bas.kc {K : Nat} {r : Rw} {n : Nat} {σ σ' : Sto} (h : Bas r n σ) (hf : Kc K σ σ') : Bas r n σ' := ⟨(hf.2.1 2 (by omega)).trans h.1, fun i hi => by rw [hf.1 1 (by decide)]; exact h.2 i hi⟩
theorem CS.fk {K : Nat} {cs : List Int32} {σ σ' : Sto} (h : CS K cs σ) (hf : Fk σ σ') : CS K cs σ' := by
  unfold CS
  rw [hf.1 2 (by decide), hf.2 8 (by omega), hf.1 3 (by decide)]
  exact h
def Low (K : Nat) (σ : Sto) : Prop := ∃ w, 160 * K ≤ w ∧ w ≤ 960 ∧ σ 7 8 = nI w
/-- after a fault at s -/
def CF (K s : Nat) (σ : Sto) : Prop := σ 7 7 = nI s ∧ σ 7 5 = 6 ∧ Low K σ
theorem c_write1 {k K w : Nat} {σ : Sto} (hw : σ 7 8 = nI w) (hl : w < 960) (hK : 160 * K ≤ w) (x : Int32) : C nD_write k [.ref 7, .int x] σ = some (0, 0, su (su σ 3 w x) 7 8 (nI (w + 1))) ∧ Kc K σ (su (su σ 3 w x) 7 8 (nI (w + 1))) := by
  refine ⟨?_, (Fr.rf.su (by decide)).su (by decide), fun i hi => ?_, fun j hj => ?_⟩
  · rw [eD_write k, hw, if_pos (show nI w < 960 from nI_lt (b := 960) hl (by omega)), if_pos (ibn hl (by omega)), ixn (by omega), su_ne (show 7 ≠ 3 by decide), hw, nI_1]
  · rw [su_o (by omega), su_ne (by decide)]
  · rw [su_ne (by decide), su_o (by omega)]
theorem c_putW {k K : Nat} {cs : List Int32} {σ : Sto} (h : CS K cs σ) (hK : K < 6) (hl : cs.length < 160) (x : Int32) : ∃ σ', C nD_write k [.ref 7, .int x] σ = some (0, 0, σ') ∧ CS K (cs ++ [x]) σ' ∧ Kc K σ σ' ∧ ∀ i, i < 8 → σ' 7 i = σ 7 i := by
  obtain ⟨h1, h2, h3⟩ := h
  obtain ⟨e, f⟩ := c_write1 (k := k) (K := K) h2 (by omega) (by omega) x
  refine ⟨_, e, ⟨?_, ?_, fun j y hj => ?_⟩, f, fun i hi => ?_⟩
  · rw [su_ne (by decide), su_ne (by decide)]; exact h1
  · rw [su_e, List.length_append]; rfl
  · rw [su_ne (by decide)]
    rcases get_app hj with ⟨a1, a2⟩ | ⟨a1, a2⟩
    · rw [su_o (by omega)]; exact h3 j y a2
    · rw [a1, a2, su_e]
  · rw [su_o (by omega), su_ne (by decide)]
theorem c_putF {k K s : Nat} {σ : Sto} (h : CF K s σ) (x : Int32) : ∃ σ', C nD_write k [.ref 7, .int x] σ = some (0, 0, σ') ∧ CF K s σ' ∧ Kc K σ σ' := by
  obtain ⟨h1, h2, w, w1, w2, w3⟩ := h
  by_cases hl : w < 960
  · obtain ⟨e, f⟩ := c_write1 (k := k) (K := K) w3 hl w1 x
    refine ⟨_, e, ⟨?_, ?_, w + 1, by omega, by omega, su_e⟩, f⟩
    · rw [su_o (by decide), su_ne (by decide)]; exact h1
    · rw [su_o (by decide), su_ne (by decide)]; exact h2
  · refine ⟨σ, ?_, ⟨h1, h2, w, w1, w2, w3⟩, Kc.rf⟩
    rw [eD_write k, w3, if_neg (show ¬ nI w < 960 from nI_nlt (b := 960) (by omega) (by omega))]
theorem CS.low {K : Nat} {cs : List Int32} {σ : Sto} (h : CS K cs σ) (hK : K < 6) (hl : cs.length ≤ 160) : Low K σ := ⟨160 * K + cs.length, by omega, by omega, h.2.1⟩
theorem c_failT {k K : Nat} {r : Rw} {n p : Nat} {σ : Sto} (h : TkC r n p σ) (hl : Low K σ) : ∃ σ', C nD_fail k [.ref 7] σ = some (0, 0, σ') ∧ CF K (stL r n p) σ' ∧ Kc K σ σ' := by
  obtain ⟨h7, h5, h4, h3, h6⟩ := h
  obtain ⟨w, w1, w2, w3⟩ := hl
  rw [eD_fail k, if_pos h7, h4]
  exact ⟨_, rfl, ⟨by rw [su_o (by decide), su_e], su_e, w, w1, w2, by rw [su_o (by decide), su_o (by decide)]; exact w3⟩, (Fr.rf.su (by decide)).su (by decide), fun i hi => by rw [su_o (by omega), su_o (by omega)], fun j hj => by rw [su_ne (by decide), su_ne (by decide)]⟩
theorem c_failF {k K s : Nat} {σ : Sto} (h : CF K s σ) (hs : s ≤ 160) : ∃ σ', C nD_fail k [.ref 7] σ = some (0, 0, σ') ∧ CF K s σ' ∧ Kc K σ σ' := by
  obtain ⟨h7, h5, w, w1, w2, w3⟩ := h
  rw [eD_fail k, h7, if_neg (nI_nm (by omega))]
  exact ⟨_, rfl, ⟨by rw [su_o (by decide)]; exact h7, su_e, w, w1, w2, by rw [su_o (by decide)]; exact w3⟩, Fr.rf.su (by decide), fun i hi => by rw [su_o (by omega)], fun j hj => by rw [su_ne (by decide)]⟩
theorem c_expF {k K s : Nat} {σ : Sto} (h : CF K s σ) (hs : s ≤ 160) {w : Int32} (hw : ¬ (6 : Int32) = w) : ∃ σ', C nD_expect k [.ref 7, .int w] σ = some (0, 0, σ') ∧ CF K s σ' ∧ Kc K σ σ' := by
  obtain ⟨σ', e, c, f⟩ := c_failF (k := k) h hs
  rw [eD_expect k, h.2.1, if_neg hw, e, bs]
  exact ⟨σ', rfl, c, f⟩
def InC (r : Rw) (n K p : Nat) (cs : List Int32) (σ : Sto) : Prop := Bas r n σ ∧ TkC r n p σ ∧ CS K cs σ
theorem InC.tok {r : Rw} {n K p : Nat} {cs : List Int32} {σ : Sto} (h : InC r n K p cs σ) : σ 7 5 = tkL r n p := h.2.1.2.1
/-- a token that isn't the end is passed over -/
theorem c_takeI {k : Nat} {r : Rw} {n K p : Nat} {cs : List Int32} {σ : Sto} (hn : n ≤ 160) (hp : p ≤ n) (h : InC r n K p cs σ) : ∃ σ', C nD_take k [.ref 7] σ = some (0, 0, σ') ∧ InC r n K (nxL r n p) cs σ' ∧ Kc K σ σ' := by
  obtain ⟨h1, h2, h3⟩ := h
  obtain ⟨σ', e, f, t⟩ := c_take (k := k) hn (nx_le hp).2 h1 h2.1 h2.2.2.2.1
  exact ⟨σ', e, ⟨h1.fk f, t, h3.fk f⟩, f.kc⟩
theorem c_putI {k : Nat} {r : Rw} {n K p : Nat} {cs : List Int32} {σ : Sto} (h : InC r n K p cs σ) (hK : K < 6) (hl : cs.length < 160) (x : Int32) : ∃ σ', C nD_write k [.ref 7, .int x] σ = some (0, 0, σ') ∧ InC r n K p (cs ++ [x]) σ' ∧ Kc K σ σ' := by
  obtain ⟨h1, h2, h3⟩ := h
  obtain ⟨σ', e, c, f, g⟩ := c_putW (k := k) h3 hK hl x
  refine ⟨σ', e, ⟨h1.kc f, ?_, c⟩, f⟩
  unfold TkC
  rw [g 7 (by omega), g 5 (by omega), g 4 (by omega), g 3 (by omega), g 6 (by omega)]
  exact h2
theorem c_failI {k : Nat} {r : Rw} {n K p : Nat} {cs : List Int32} {σ : Sto} (h : InC r n K p cs σ) (hK : K < 6) (hl : cs.length ≤ 160) : ∃ σ', C nD_fail k [.ref 7] σ = some (0, 0, σ') ∧ CF K (stL r n p) σ' ∧ Kc K σ σ' := c_failT h.2.1 (h.2.2.low hK hl)
theorem c_expI {k : Nat} {r : Rw} {n K p : Nat} {cs : List Int32} {σ : Sto} (hn : n ≤ 160) (hp : p ≤ n) (h : InC r n K p cs σ) {w : Int32} (hw : tkL r n p = w) : ∃ σ', C nD_expect k [.ref 7, .int w] σ = some (0, 0, σ') ∧ InC r n K (nxL r n p) cs σ' ∧ Kc K σ σ' := by
  obtain ⟨σ', e, c, f⟩ := c_takeI (k := k) hn hp h
  rw [eD_expect k, h.tok, if_pos hw, e, bs]
  exact ⟨σ', rfl, c, f⟩
theorem c_expB {k : Nat} {r : Rw} {n K p : Nat} {cs : List Int32} {σ : Sto} (hK : K < 6) (hl : cs.length ≤ 160) (h : InC r n K p cs σ) {w : Int32} (hw : ¬ tkL r n p = w) : ∃ σ', C nD_expect k [.ref 7, .int w] σ = some (0, 0, σ') ∧ CF K (stL r n p) σ' ∧ Kc K σ σ' := by
  obtain ⟨σ', e, c, f⟩ := c_failI (k := k) h hK hl
  rw [eD_expect k, h.tok, if_neg hw, e, bs]
  exact ⟨σ', rfl, c, f⟩
/-! the model, likewise -/
def Kp (K : Nat) (τ τ' : Sto) : Prop := Fr [30, 36, 45] τ τ' ∧ (∀ i, i < 18 ∨ 26 < i → τ' 30 i = τ 30 i) ∧ ∀ j, j < 200 * K → τ' 36 j = τ 36 j
theorem Kp.rf {K : Nat} {σ : Sto} : Kp K σ σ := ⟨Fr.rf, fun _ _ => rfl, fun _ _ => rfl⟩
theorem Kp.tr {K : Nat} {σ σ1 σ2 : Sto} (h1 : Kp K σ σ1) (h2 : Kp K σ1 σ2) : Kp K σ σ2 := ⟨h1.1.tr h2.1, fun i hi => (h2.2.1 i hi).trans (h1.2.1 i hi), fun j hj => (h2.2.2 j hj).trans (h1.2.2 j hj)⟩
theorem Fn.kp {K : Nat} {σ σ' : Sto} (h : Fn σ σ') : Kp K σ σ' := ⟨h.1.mono (by decide), fun i hi => h.2 i (by omega), fun j hj => by rw [h.1 36 (by decide)]⟩
theorem Fo.kp {K : Nat} {σ σ' : Sto} (h : Fo K σ σ') : Kp K σ σ' := ⟨h.1, fun i hi => h.2.1 i (by omega), h.2.2⟩
def InM (r : Rw) (n K p : Nat) (cs H : List Int32) (τ : Sto) : Prop := BasM r n τ ∧ Wrd τ ∧ τ 30 18 = nI p ∧ MS K cs H τ
theorem m_nextI {r : Rw} {n K p : Nat} {cs H : List Int32} {τ : Sto} (hn : n ≤ 160) (hp : p ≤ n) (h : InM r n K p cs H τ) : ∃ τ', C nM_next 0 [.ref 30] τ = some (0, 0, τ') ∧ TkM r n p τ' ∧ InM r n K (nxL r n p) cs H τ' ∧ Kp K τ τ' := by
  obtain ⟨h1, h2, h3, h4⟩ := h
  obtain ⟨τ', e, f, t⟩ := m_next (k0 := 0) hn hp h1 h2 h3
  exact ⟨τ', e, t, ⟨h1.fn f, h2.fn f, t.2.2.1, h4.fn f⟩, f.kp⟩
/-- the signs' work leaves the place and the token's beginning -/
theorem InM.fo {r : Rw} {n K p : Nat} {cs H cs' H' : List Int32} {τ τ' : Sto} (h : InM r n K p cs H τ) (hf : Fo K τ τ') (hm : MS K cs' H' τ') : InM r n K p cs' H' τ' := ⟨h.1.fo hf, h.2.1.fo hf, (hf.2.1 18 (by omega)).trans h.2.2.1, hm⟩
