/-! A TEXT'S PARTS -/
theorem f_one {K s k : Nat} {o : Int32} {σ : Sto} (h : CF K s σ) (hs : s ≤ 160) : ∃ σ', C nD_one k [.ref 7, .int o] σ = some (0, 0, σ') ∧ CF K s σ' ∧ Kc K σ σ' := by
  obtain ⟨σ1, e, c, f⟩ := c_failF (k := k) h hs
  rw [eD_one k, h.2.1, if_neg (by decide), if_neg (by decide), if_neg (by decide), if_pos (by decide), e, bs]
  exact ⟨σ1, rfl, c, f⟩
theorem f_term {K s k : Nat} {o : Int32} {σ : Sto} (h : CF K s σ) (hs : s ≤ 160) : ∃ σ', C nD_term k [.ref 7, .int o] σ = some (0, 0, σ') ∧ CF K s σ' ∧ Kc K σ σ' := by
  obtain ⟨σ1, e, c, f⟩ := f_one (k := k) (o := o) h hs
  rw [eD_term k, e, bs]
  dsimp only
  rw [eD_term_5 k, if_pos (by decide), if_neg (by rw [c.2.1]; decide)]
  exact ⟨σ1, rfl, c, f⟩
theorem f_sum {K s k : Nat} {o : Int32} {σ : Sto} (h : CF K s σ) (hs : s ≤ 160) : ∃ σ', C nD_sum k [.ref 7, .int o] σ = some (0, 0, σ') ∧ CF K s σ' ∧ Kc K σ σ' := by
  obtain ⟨σ1, e, c, f⟩ := f_term (k := k) (o := o) h hs
  rw [eD_sum k, e, bs]
  dsimp only
  rw [eD_sum_5 k, if_pos (by decide), if_neg (by rw [c.2.1]; decide), if_neg (by rw [c.2.1]; decide)]
  exact ⟨σ1, rfl, c, f⟩
theorem f_neg {K s k : Nat} {o : Int32} {σ : Sto} (h : CF K s σ) (hs : s ≤ 160) : ∃ σ', C nD_negation k [.ref 7, .int o] σ = some (0, 0, σ') ∧ CF K s σ' ∧ Kc K σ σ' := by
  obtain ⟨σ1, e, c, f⟩ := f_sum (k := k) (o := o) h hs
  rw [eD_negation k, if_neg (by rw [h.2.1]; decide), eD_comparison k, e, bs]
  rw [if_neg (show ¬ σ1 7 5 = -11 from by rw [c.2.1]; decide), if_neg (show ¬ σ1 7 5 = -12 from by rw [c.2.1]; decide), bs]
  exact ⟨σ1, rfl, c, f⟩
theorem f_either {K s k : Nat} {o : Int32} {σ : Sto} (h : CF K s σ) (hs : s ≤ 160) : ∃ σ', C nD_either k [.ref 7, .int o] σ = some (0, 0, σ') ∧ CF K s σ' ∧ Kc K σ σ' := by
  obtain ⟨σ1, e, c, f⟩ := f_neg (k := k) (o := o) h hs
  have e2 : C nD_both k [.ref 7, .int o] σ = some (0, 0, σ1) := by
    rw [eD_both k, e, bs]
    dsimp only
    rw [eD_both_5 k, if_pos (by decide), if_neg (by rw [c.2.1]; decide)]
  rw [eD_either k, e2, bs]
  dsimp only
  rw [eD_either_5 k, if_pos (by decide), if_neg (by rw [c.2.1]; decide)]
  exact ⟨σ1, rfl, c, f⟩
/-- what a text changes of the component -/
def Kt (K : Nat) (σ σ' : Sto) : Prop := Fr [3, 4, 5, 7] σ σ' ∧ (∀ j, j < 160 * K → σ' 3 j = σ 3 j) ∧ ∀ j, j < 3 * K → σ' 4 j = σ 4 j ∧ σ' 5 j = σ 5 j
theorem Kt.rf {K : Nat} {σ : Sto} : Kt K σ σ := ⟨Fr.rf, fun _ _ => rfl, fun _ _ => ⟨rfl, rfl⟩⟩
theorem Kt.tr {K : Nat} {σ σ1 σ2 : Sto} (h1 : Kt K σ σ1) (h2 : Kt K σ1 σ2) : Kt K σ σ2 := ⟨h1.1.tr h2.1, fun j hj => (h2.2.1 j hj).trans (h1.2.1 j hj), fun j hj => ⟨((h2.2.2 j hj).1).trans (h1.2.2 j hj).1, ((h2.2.2 j hj).2).trans (h1.2.2 j hj).2⟩⟩
theorem Kc.kt {K : Nat} {σ σ' : Sto} (h : Kc K σ σ') : Kt K σ σ' := ⟨h.1.mono (by decide), h.2.2, fun j hj => by rw [h.1 4 (by decide), h.1 5 (by decide)]; exact ⟨rfl, rfl⟩⟩
theorem Kt.s4 {K : Nat} {σ σ' : Sto} (h : Kt K σ σ') {i : Nat} {v : Int32} (hi : 3 * K ≤ i) : Kt K σ (su σ' 4 i v) := ⟨h.1.su (by decide), fun j hj => by rw [su_ne (by decide)]; exact h.2.1 j hj, fun j hj => ⟨by rw [su_o (by omega)]; exact (h.2.2 j hj).1, by rw [su_ne (by decide)]; exact (h.2.2 j hj).2⟩⟩
theorem Kt.s5 {K : Nat} {σ σ' : Sto} (h : Kt K σ σ') {i : Nat} {v : Int32} (hi : 3 * K ≤ i) : Kt K σ (su σ' 5 i v) := ⟨h.1.su (by decide), fun j hj => by rw [su_ne (by decide)]; exact h.2.1 j hj, fun j hj => ⟨by rw [su_ne (by decide)]; exact (h.2.2 j hj).1, by rw [su_o (by omega)]; exact (h.2.2 j hj).2⟩⟩
theorem CF.s4 {K s i : Nat} {v : Int32} {σ : Sto} (h : CF K s σ) : CF K s (su σ 4 i v) := by
  unfold CF Low
  rw [su_ne (show 7 ≠ 4 by decide)]
  exact h
theorem CF.s5 {K s i : Nat} {v : Int32} {σ : Sto} (h : CF K s σ) : CF K s (su σ 5 i v) := by
  unfold CF Low
  rw [su_ne (show 7 ≠ 5 by decide)]
  exact h
theorem InC.s4 {r : Rw} {n K p i : Nat} {cs : List Int32} {v : Int32} {σ : Sto} (h : InC r n K p cs σ) : InC r n K p cs (su σ 4 i v) := by
  unfold InC Bas TkC CS
  rw [su_ne (show 7 ≠ 4 by decide), su_ne (show 1 ≠ 4 by decide), su_ne (show 2 ≠ 4 by decide), su_ne (show 3 ≠ 4 by decide)]
  exact h
theorem InC.s5 {r : Rw} {n K p i : Nat} {cs : List Int32} {v : Int32} {σ : Sto} (h : InC r n K p cs σ) : InC r n K p cs (su σ 5 i v) := by
  unfold InC Bas TkC CS
  rw [su_ne (show 7 ≠ 5 by decide), su_ne (show 1 ≠ 5 by decide), su_ne (show 2 ≠ 5 by decide), su_ne (show 3 ≠ 5 by decide)]
  exact h
/-- behind a part's E, in a fault: the reading runs out -/
theorem f_out {K s : Nat} (hK : K < 6) (hs : s ≤ 160) {v1 : Int32} : ∀ d t u3 σ, t + d = 3 → CF K s σ → σ 2 4 = nI K → ∃ σ', R nD_faultOf 0 22 [.ref 7, .int v1, .int (nI t), u3] [] σ = some (nI s, 0, σ') ∧ Kt K σ σ' := by
  intro d
  induction d with
  | zero =>
    intro t u3 σ ht h h2
    have e : t = 3 := by omega
    subst e
    obtain ⟨σ1, e1, c1, f1⟩ := c_expF (k := 0) h hs (w := 5) (by decide)
    rw [eD_faultOf_22 0, if_neg (by decide), e1, bs]
    dsimp only
    rw [c1.1]
    exact ⟨σ1, rfl, f1.kt⟩
  | succ d ih =>
    intro t u3 σ ht h h2
    have hne : ¬ (6 : Int32) = 10 + nI t := by
      have : t = 0 ∨ t = 1 ∨ t = 2 := by omega
      rcases this with e | e | e <;> (subst e; decide)
    have ix18 : inb (nI (3 * K + t)) 18 = true := ibn (by omega) (by omega)
    obtain ⟨σ1, e1, c1, f1⟩ := c_expF (k := 0) h hs hne
    obtain ⟨σ2, e2, c2, f2⟩ := f_either (k := 0) (o := 0) (c1.s4 (i := 3 * K + t) (v := σ1 7 8)) hs
    obtain ⟨σ3, e3, c3, f3⟩ := c_expF (k := 0) (c2.s5 (i := 3 * K + t) (v := σ2 7 8)) hs (w := 4) (by decide)
    have ff : Kt K σ σ3 := (((f1.kt.s4 (i := 3 * K + t) (v := σ1 7 8) (by omega)).tr f2.kt).s5 (i := 3 * K + t) (v := σ2 7 8) (by omega)).tr f3.kt
    obtain ⟨σ4, e4, f4⟩ := ih (t + 1) (.int (nI (3 * K + t))) σ3 (by omega) c3 ((ff.1 2 (by decide) ▸ h2 : σ3 2 4 = nI K))
    rw [eD_faultOf_22 0, if_pos (show nI t < 3 from nI_lt (b := 3) (by omega) (by omega)), h2, nI_3]
    simp only [if_pos ix18]
    rw [ixn (by omega), e1, bs]
    dsimp only
    rw [e2, bs]
    dsimp only
    rw [e3, bs]
    dsimp only
    rw [nI_1]
    exact ⟨σ4, e4, ff.tr f4⟩
/-- what a text changes of the model -/
def Km (K : Nat) (τ τ' : Sto) : Prop := Fr [30, 36, 37, 45] τ τ' ∧ (∀ i, i < 18 ∨ 26 < i → τ' 30 i = τ 30 i) ∧ (∀ j, j < 200 * K → τ' 36 j = τ 36 j) ∧ ∀ j, j < 4 * K → τ' 37 j = τ 37 j
theorem Km.rf {K : Nat} {σ : Sto} : Km K σ σ := ⟨Fr.rf, fun _ _ => rfl, fun _ _ => rfl, fun _ _ => rfl⟩
theorem Km.tr {K : Nat} {σ σ1 σ2 : Sto} (h1 : Km K σ σ1) (h2 : Km K σ1 σ2) : Km K σ σ2 := ⟨h1.1.tr h2.1, fun i hi => (h2.2.1 i hi).trans (h1.2.1 i hi), fun j hj => (h2.2.2.1 j hj).trans (h1.2.2.1 j hj), fun j hj => (h2.2.2.2 j hj).trans (h1.2.2.2 j hj)⟩
theorem Kp.km {K : Nat} {σ σ' : Sto} (h : Kp K σ σ') : Km K σ σ' := ⟨h.1.mono (by decide), h.2.1, h.2.2, fun j hj => by rw [h.1 37 (by decide)]⟩
theorem Km.s37 {K : Nat} {σ σ' : Sto} (h : Km K σ σ') {i : Nat} {v : Int32} (hi : 4 * K ≤ i) : Km K σ (su σ' 37 i v) := ⟨h.1.su (by decide), fun j hj => by rw [su_ne (by decide)]; exact h.2.1 j hj, fun j hj => by rw [su_ne (by decide)]; exact h.2.2.1 j hj, fun j hj => by rw [su_o (by omega)]; exact h.2.2.2 j hj⟩
theorem Km.s30 {K : Nat} {σ σ' : Sto} (h : Km K σ σ') {i : Nat} {v : Int32} (h1 : 18 ≤ i) (h2 : i ≤ 26) : Km K σ (su σ' 30 i v) := ⟨h.1.su (by decide), fun j hj => by rw [su_o (by omega)]; exact h.2.1 j hj, fun j hj => by rw [su_ne (by decide)]; exact h.2.2.1 j hj, fun j hj => by rw [su_ne (by decide)]; exact h.2.2.2 j hj⟩
def InT (r : Rw) (n K p : Nat) (cs : List Int32) (τ : Sto) : Prop := BasM r n τ ∧ Wrd τ ∧ τ 30 18 = nI p ∧ τ 30 9 = nI K ∧ τ 30 26 = nI cs.length ∧ ∀ j x, cs[j]? = some x → τ 36 (200 * K + j) = phi x
theorem InM.t {r : Rw} {n K p : Nat} {cs H : List Int32} {τ : Sto} (h : InM r n K p cs H τ) : InT r n K p cs τ := ⟨h.1, h.2.1, h.2.2.1, h.2.2.2.1, h.2.2.2.2.1, h.2.2.2.2.2.1⟩
theorem t_nextI {r : Rw} {n K p : Nat} {cs : List Int32} {τ : Sto} (hn : n ≤ 160) (hp : p ≤ n) (h : InT r n K p cs τ) : ∃ τ', C nM_next 0 [.ref 30] τ = some (0, 0, τ') ∧ TkM r n p τ' ∧ InT r n K (nxL r n p) cs τ' ∧ Kp K τ τ' := by
  obtain ⟨h1, h2, h3, h4, h5, h6⟩ := h
  obtain ⟨τ', e, f, t⟩ := m_next (k0 := 0) hn hp h1 h2 h3
  exact ⟨τ', e, t, ⟨h1.fn f, h2.fn f, t.2.2.1, (f.2 9 (by omega)).trans h4, (f.2 26 (by omega)).trans h5, fun j x hj => by rw [f.1 36 (by decide)]; exact h6 j x hj⟩, f.kp⟩
/-- an E's end -/
theorem g_semi {r : Rw} {n K p : Nat} {cs H c : List Int32} {m : Int32} {u : Value} {τ : Sto} (hn : n ≤ 160) (hK : K < 6) (hp : p ≤ n) (h : InM r n K p cs H τ) (ht : tkL r n p = 4) (hu : unwS 1 cs H = (c, [])) (hl : cs.length + H.length < 199) :
    ∃ τ', R nM_eRead 0 10 [.ref 30, .int 0, .int m, u] [] τ = some (1, 0, τ') ∧ InM r n K (nxL r n p) c [] τ' ∧ Kp K τ τ' := by
  obtain ⟨τ1, e1, t1, hM1, k1⟩ := m_nextI hn hp h
  obtain ⟨τ2, e2, m2, f2⟩ := m_unwinds (k := 0) (q := 1) hK (by omega) (by omega) hM1.2.2.2 (by omega)
  rw [hu] at m2
  have m2 : MS K c [] τ2 := m2
  have d := d_end _ (tk_TL r n p)
  rw [e_10 e1, t1.1, if_pos (d.1.mpr ht), show (1 : Int32) = nI 1 from rfl, e2, bs]
  rw [if_pos (show τ2 30 24 = 0 from m2.2.2.2.1), eM_eRead_94 0, if_pos (by decide)]
  exact ⟨τ2, rfl, hM1.fo f2 m2, k1.tr f2.kp⟩
theorem i4 (K m : Nat) : 4 * nI K + nI m = nI (4 * K + m) := by
  show nI 4 * nI K + nI m = _
  rw [pk_mul, nI_add]
theorem d_head : ∀ t : Fin 3, ∀ x ∈ TL, (psiT x = 3 ↔ (x = 10 ∨ x = 11 ∨ x = 12)) ∧ (x = 10 + nI t.1 → (x = 10 ∨ x = 11 ∨ x = 12) ∧ x - 10 = nI t.1 ∧ ¬ x = 5) ∧ (¬ x = 10 + nI t.1 → ¬ ((x = 10 ∨ x = 11 ∨ x = 12) ∧ x - 10 = nI t.1)) := by decide +kernel
/-- one part of a text, on both sides -/
theorem t_part {r : Rw} {n K : Nat} (hn : n ≤ 160) (hK : K < 6) {t p : Nat} {cs : List Int32} {v1 : Int32} {u3 : Value} {σ τ : Sto} (ht : t < 3) (hp : p ≤ n) (hC : InC r n K p cs σ) (hM : InT r n K p cs τ) (hl : cs.length ≤ p) :
    (∃ s σ' τ', s ≤ n ∧ R nD_faultOf 0 22 [.ref 7, .int v1, .int (nI t), u3] [] σ = some (nI s, 0, σ') ∧ Kt K σ σ' ∧ R nM_text 0 16 [.ref 30, .int 1, .int (nI t)] [] τ = R nM_text 0 57 [.ref 30, .int 0, .int (nI (t + 1))] [] τ' ∧ τ' 30 19 = nI s ∧ Km K τ τ') ∨
    (∃ p' code u3' σ' τ', p' ≤ n ∧ R nD_faultOf 0 22 [.ref 7, .int v1, .int (nI t), u3] [] σ = R nD_faultOf 0 22 [.ref 7, .int v1, .int (nI (t + 1)), u3'] [] σ' ∧ Kt K σ σ' ∧ InC r n K p' (cs ++ code) σ' ∧ wfC code ∧ (cs ++ code).length ≤ p' ∧
      σ' 4 (3 * K + t) = nI (160 * K + cs.length) ∧ σ' 5 (3 * K + t) = nI (160 * K + (cs ++ code).length) ∧ (∀ j, j ≠ 3 * K + t → σ' 4 j = σ 4 j ∧ σ' 5 j = σ 5 j) ∧
      R nM_text 0 16 [.ref 30, .int 1, .int (nI t)] [] τ = R nM_text 0 16 [.ref 30, .int 1, .int (nI (t + 1))] [] τ' ∧ Km K τ τ' ∧ InT r n K p' (cs ++ code) τ' ∧ τ' 37 (4 * K + t) = nI cs.length ∧ ∀ j, j ≠ 4 * K + t → τ' 37 j = τ 37 j) := by
  have hTL := tk_TL r n p
  have d := d_head ⟨t, ht⟩ _ hTL
  have d2 : tkL r n p = 10 + nI t → (tkL r n p = 10 ∨ tkL r n p = 11 ∨ tkL r n p = 12) ∧ tkL r n p - 10 = nI t ∧ ¬ tkL r n p = 5 := d.2.1
  have d3 : ¬ tkL r n p = 10 + nI t → ¬ ((tkL r n p = 10 ∨ tkL r n p = 11 ∨ tkL r n p = 12) ∧ tkL r n p - 10 = nI t) := d.2.2
  obtain ⟨τ1, e1, t1, hM1, k1⟩ := t_nextI hn hp hM
  have ix18 : inb (nI (3 * K + t)) 18 = true := ibn (by omega) (by omega)
  have ix24 : inb (nI (4 * K + t)) 24 = true := ibn (by omega) (by omega)
  have h24 : σ 2 4 = nI K := hC.2.2.1
  have g57 : ∀ τ', R nM_text 0 16 [.ref 30, .int 0, .int (nI (t + 1))] [] τ' = R nM_text 0 57 [.ref 30, .int 0, .int (nI (t + 1))] [] τ' := by
    intro τ'
    rw [eM_text_16 0, if_pos (show (0 : Int32) = 0 from rfl)]
    split <;> rfl
  have cX : R nD_faultOf 0 22 [.ref 7, .int v1, .int (nI t), u3] [] σ = (C nD_expect 0 [.ref 7, .int (10 + nI t)] σ).bind fun r1 => (C nD_either 0 [.ref 7, .int 0] (su r1.2.2 4 (3 * K + t) (r1.2.2 7 8))).bind fun r2 =>
      (C nD_expect 0 [.ref 7, .int 4] (su r2.2.2 5 (3 * K + t) (r2.2.2 7 8))).bind fun r3 => R nD_faultOf 0 22 [.ref 7, .int v1, .int (nI (t + 1)), .int (nI (3 * K + t))] [] r3.2.2 := by
    rw [eD_faultOf_22 0, if_pos (show nI t < 3 from nI_lt (b := 3) (by omega) (by omega)), h24, nI_3]
    simp only [if_pos ix18]
    rw [ixn (by omega), nI_1]
  have mX : R nM_text 0 16 [.ref 30, .int 1, .int (nI t)] [] τ = if psiT (tkL r n p) = 3 then (if τ1 30 21 = nI t then (C nM_eRead 0 [.ref 30] (su τ1 37 (4 * K + t) (τ1 30 26))).bind fun r2 => if r2.1 = 0 then R nM_text 0 16 [.ref 30, .int 0, .int (nI t + 1)] [] r2.2.2 else R nM_text 0 16 [.ref 30, .int 1, .int (nI t + 1)] [] r2.2.2
      else R nM_text 0 33 [.ref 30, .int 1, .int (nI t)] [] τ1) else R nM_text 0 33 [.ref 30, .int 1, .int (nI t)] [] τ1 := by
    rw [eM_text_16 0, if_pos (show nI t < 3 from nI_lt (b := 3) (by omega) (by omega)), if_neg n10, e1, bs]
    by_cases q1 : psiT (tkL r n p) = 3
    · rw [if_pos (show τ1 30 20 = 3 from t1.1.trans q1), if_pos q1]
      by_cases q2 : τ1 30 21 = nI t
      · rw [if_pos (show τ1 30 21 = nI t from q2), if_pos q2, if_pos (show inb (4 * τ1 30 9 + nI t) 24 = true from by rw [hM1.2.2.2.1, i4]; exact ix24)]
        dsimp only
        rw [hM1.2.2.2.1, i4, ixn (by omega)]
      · rw [if_neg (show ¬ τ1 30 21 = nI t from q2), if_neg q2]
    · rw [if_neg (show ¬ τ1 30 20 = 3 from fun z => q1 (t1.1.symm.trans z)), if_neg q1]
  by_cases hh : tkL r n p = 10 + nI t
  rotate_left
  · obtain ⟨σ1, e2, c2, f2⟩ := c_expB (k := 0) hK (by omega) hC hh
    obtain ⟨σ2, e3, c3, f3⟩ := f_either (k := 0) (o := 0) (c2.s4 (i := 3 * K + t) (v := σ1 7 8)) (Nat.le_trans (st_in hp).2 hn)
    obtain ⟨σ3, e4, c4, f4⟩ := c_expF (k := 0) (c3.s5 (i := 3 * K + t) (v := σ2 7 8)) (Nat.le_trans (st_in hp).2 hn) (w := 4) (by decide)
    have ff : Kt K σ σ3 := (((f2.kt.s4 (i := 3 * K + t) (v := σ1 7 8) (by omega)).tr f3.kt).s5 (i := 3 * K + t) (v := σ2 7 8) (by omega)).tr f4.kt
    obtain ⟨σ4, e5, f5⟩ := f_out hK (Nat.le_trans (st_in hp).2 hn) (v1 := v1) (3 - (t + 1)) (t + 1) (.int (nI (3 * K + t))) σ3 (by omega) c4 (ff.1 2 (by decide) ▸ h24)
    have m33 : R nM_text 0 16 [.ref 30, .int 1, .int (nI t)] [] τ = R nM_text 0 33 [.ref 30, .int 1, .int (nI t)] [] τ1 := by
      rw [mX]
      by_cases q1 : psiT (tkL r n p) = 3
      · rw [if_pos q1, if_neg]
        intro q2
        have q3 := d.1.mp q1
        rw [t1.2.2.2.2.2 q3] at q2
        exact d3 hh ⟨q3, q2⟩
      · rw [if_neg q1]
    refine Or.inl ⟨stL r n p, σ4, su τ1 37 (4 * K + t) (τ1 30 26), (st_in hp).2, ?_, ff.tr f5, ?_, ?_, k1.km.s37 (by omega)⟩
    · rw [cX, e2, bs]
      dsimp only
      rw [e3, bs]
      dsimp only
      rw [e4, bs]
      exact e5
    · rw [m33, eM_text_33 0, hM1.2.2.2.1, i4, if_pos ix24, ixn (by omega), nI_1, g57]
    · rw [su_ne (by decide)]; exact t1.2.1
  obtain ⟨h1, h2, h5⟩ := d2 hh
  have hnx := tk_nx hp h5
  obtain ⟨σ1, e2, c2, f2⟩ := c_expI (k := 0) hn hp hC hh
  have c2' := c2.s4 (i := 3 * K + t) (v := σ1 7 8)
  have w78 : σ1 7 8 = nI (160 * K + cs.length) := c2.2.2.2.1
  obtain ⟨τ3, et3⟩ : ∃ τ3, τ3 = su (su (su τ1 37 (4 * K + t) (τ1 30 26)) 30 24 0) 30 25 0 := ⟨_, rfl⟩
  have k3 : Km K τ τ3 := by rw [et3]; exact ((k1.km.s37 (by omega)).s30 (by omega) (by omega)).s30 (by omega) (by omega)
  have hM3 : InM r n K (nxL r n p) cs [] τ3 := by
    obtain ⟨a1, a2, a3, a4, a5, a6⟩ := hM1
    rw [et3]
    refine ⟨⟨?_, fun i hi => ?_⟩, fun k c hk hc => ?_, ?_, ?_, ?_, fun j x hj => ?_, ?_, trivial, su_e, fun x hx => by cases hx⟩
    · rw [su_o (by decide), su_o (by decide), su_ne (by decide)]; exact a1.1
    · rw [su_ne (by decide), su_ne (by decide), su_ne (by decide)]; exact a1.2 i hi
    · rw [su_ne (by decide), su_ne (by decide), su_ne (by decide)]; exact a2 k c hk hc
    · rw [su_o (by decide), su_o (by decide), su_ne (by decide)]; exact a3
    · rw [su_o (by decide), su_o (by decide), su_ne (by decide)]; exact a4
    · rw [su_o (by decide), su_o (by decide), su_ne (by decide)]; exact a5
    · rw [su_ne (by decide), su_ne (by decide), su_ne (by decide)]; exact a6 j x hj
    · rw [su_o (by decide), su_e]; rfl
  have eE : C nM_eRead 0 [.ref 30] (su τ1 37 (4 * K + t) (τ1 30 26)) = R nM_eRead 0 10 [.ref 30, .int 1, .int 1, .null] [] τ3 := by
    rw [eM_eRead 0, et3]
  have mY : R nM_text 0 16 [.ref 30, .int 1, .int (nI t)] [] τ = (R nM_eRead 0 10 [.ref 30, .int 1, .int 1, .null] [] τ3).bind fun r2 => if r2.1 = 0 then R nM_text 0 16 [.ref 30, .int 0, .int (nI (t + 1))] [] r2.2.2 else R nM_text 0 16 [.ref 30, .int 1, .int (nI (t + 1))] [] r2.2.2 := by
    rw [mX, if_pos (d.1.mpr h1), if_pos ((t1.2.2.2.2.2 h1).trans h2), eE, nI_1]
  obtain ⟨σ2, e3, f3, g3⟩ := (lv_all hn hK n).2.2 0 (nxL r n p) cs [] (su σ1 4 (3 * K + t) (σ1 7 8)) τ3 1 .null (by omega) hnx.2 c2' hM3 rfl (by omega) (by rw [List.length_nil]; omega) (show 0 < 1 by omega) (mOK_1 (by omega))
  have cY : R nD_faultOf 0 22 [.ref 7, .int v1, .int (nI t), u3] [] σ = (C nD_expect 0 [.ref 7, .int 4] (su σ2 5 (3 * K + t) (σ2 7 8))).bind fun r3 => R nD_faultOf 0 22 [.ref 7, .int v1, .int (nI (t + 1)), .int (nI (3 * K + t))] [] r3.2.2 := by
    rw [cX, e2, bs]
    dsimp only
    rw [show (0 : Int32) = nI 0 from rfl, e3, bs]
  have f4 : Kt K σ (su σ2 5 (3 * K + t) (σ2 7 8)) := ((f2.kt.s4 (by omega)).tr f3.kt).s5 (by omega)
  have bad : ∀ s σ3 τ4, s ≤ n → C nD_expect 0 [.ref 7, .int 4] (su σ2 5 (3 * K + t) (σ2 7 8)) = some (0, 0, σ3) → CF K s σ3 → Kc K (su σ2 5 (3 * K + t) (σ2 7 8)) σ3 → R nM_eRead 0 10 [.ref 30, .int 1, .int 1, .null] [] τ3 = some (0, 0, τ4) → τ4 30 19 = nI s → Kp K τ3 τ4 →
      ∃ s σ' τ', s ≤ n ∧ R nD_faultOf 0 22 [.ref 7, .int v1, .int (nI t), u3] [] σ = some (nI s, 0, σ') ∧ Kt K σ σ' ∧ R nM_text 0 16 [.ref 30, .int 1, .int (nI t)] [] τ = R nM_text 0 57 [.ref 30, .int 0, .int (nI (t + 1))] [] τ' ∧ τ' 30 19 = nI s ∧ Km K τ τ' := by
    intro s σ3 τ4 b1 b2 b3 b4 b5 b6 b7
    have ff := f4.tr b4.kt
    obtain ⟨σ4, e5, f5⟩ := f_out hK (Nat.le_trans b1 hn) (v1 := v1) (3 - (t + 1)) (t + 1) (.int (nI (3 * K + t))) σ3 (by omega) b3 (ff.1 2 (by decide) ▸ h24)
    refine ⟨s, σ4, τ4, b1, ?_, ff.tr f5, ?_, b6, k3.tr b7.km⟩
    · rw [cY, b2, bs]
      exact e5
    · rw [mY, b5, bs]
      dsimp only
      rw [if_pos rfl, g57]
  rcases g3 with ⟨s, s1, s2, τ4, s3, s4, s5⟩ | ⟨p', code, cs', H', m', u', τ4, q1, q2, q3, q4, q5, q6, q7, q8, q9, q10, q11⟩
  · obtain ⟨σ3, e4, c4, f5⟩ := c_expF (k := 0) (s2.s5 (i := 3 * K + t) (v := σ2 7 8)) (Nat.le_trans s1 hn) (w := 4) (by decide)
    exact Or.inl (bad s σ3 τ4 s1 e4 c4 f5 s3 s4 s5)
  · rw [List.length_nil, Nat.add_zero] at q5
    have hs := unw_sum q8
    rw [List.length_nil, Nat.add_zero] at hs
    have q8 : unwS 1 cs' H' = (cs ++ code, []) := q8
    have w2 : σ2 7 8 = nI (160 * K + (cs ++ code).length) := q3.2.2.2.1
    have q3' := q3.s5 (i := 3 * K + t) (v := σ2 7 8)
    by_cases h4 : tkL r n p' = 4
    · obtain ⟨σ3, e4, c4, f5⟩ := c_expI (k := 0) hn q2 q3' h4
      obtain ⟨τ5, e5, m5, k5⟩ := g_semi (m := m') (u := u') hn hK q2 q10 h4 q8 (by omega)
      have hnx' := tk_nx q2 (show ¬ tkL r n p' = 5 from by rw [h4]; decide)
      refine Or.inr ⟨nxL r n p', code, .int (nI (3 * K + t)), σ3, τ5, hnx'.2, ?_, f4.tr f5.kt, c4, q4, by omega, ?_, ?_, fun j hj => ?_, ?_, k3.tr (q11.tr k5).km, m5.t, ?_, fun j hj => ?_⟩
      · rw [cY, e4, bs]
      · rw [f5.1 4 (by decide), su_ne (by decide), f3.1 4 (by decide), su_e, w78]
      · rw [f5.1 5 (by decide), su_e, w2]
      · rw [f5.1 4 (by decide), f5.1 5 (by decide), su_ne (by decide), su_o hj, f3.1 4 (by decide), f3.1 5 (by decide), su_o hj, su_ne (by decide), f2.1 4 (by decide), f2.1 5 (by decide)]
        exact ⟨rfl, rfl⟩
      · rw [mY, q9, e5, bs]
        rfl
      · rw [(q11.tr k5).1 37 (by decide), et3, su_ne (by decide), su_ne (by decide), su_e, hM1.2.2.2.2.1]
      · rw [(q11.tr k5).1 37 (by decide), et3, su_ne (by decide), su_ne (by decide), su_o hj, k1.1 37 (by decide)]
    · obtain ⟨σ3, e4, c4, f5⟩ := c_expB (k := 0) hK (by omega) q3' h4
      obtain ⟨τ5, e5, s5, k5⟩ := g_bad (m := m') (u := u') hn hK q2 q10 q6 q7 (fun _ => by rw [q8]) (fun z => absurd z h4) (by omega)
      exact Or.inl (bad (stL r n p') σ3 τ5 (st_in q2).2 e4 c4 f5 (q9.trans e5) s5 (q11.tr k5))
