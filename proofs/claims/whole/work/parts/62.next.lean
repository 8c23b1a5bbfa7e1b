/-! THE MODEL READS A TOKEN -/
def moN : Nat → Nat
  | 0 => 0
  | 1 => 1
  | 2 => 2
  | 3 => 6
  | 4 => 7
  | 5 => 8
  | 6 => 9
  | 7 => 10
  | 8 => 11
  | 9 => 3
  | 10 => 4
  | _ => 5
/-- the table of words, as the model holds it -/
def Wrd (τ : Sto) : Prop := ∀ k c, k < 12 → c < 8 → τ 44 (8 * k + c) = (byteOf (moN k)).getD c 32
def BasM (r : Rw) (n : Nat) (τ : Sto) : Prop := τ 30 6 = nI n ∧ ∀ i, i < n → τ 35 i = r i
def Fn (τ τ' : Sto) : Prop := Fr [30] τ τ' ∧ ∀ i, i < 18 ∨ 21 < i → τ' 30 i = τ 30 i
theorem Fn.rf {σ : Sto} : Fn σ σ := ⟨Fr.rf, fun _ _ => rfl⟩
theorem Fn.tr {σ σ1 σ2 : Sto} (h1 : Fn σ σ1) (h2 : Fn σ1 σ2) : Fn σ σ2 := ⟨h1.1.tr h2.1, fun i hi => (h2.2 i hi).trans (h1.2 i hi)⟩
theorem Fn.su {σ σ' : Sto} (h : Fn σ σ') {i : Nat} {v : Int32} (h3 : 18 ≤ i) (h6 : i ≤ 21) : Fn σ (su σ' 30 i v) := ⟨h.1.su (by decide), fun j hj => (su_o (by omega)).trans (h.2 j hj)⟩
theorem BasM.fn {r : Rw} {n : Nat} {σ σ' : Sto} (h : BasM r n σ) (hf : Fn σ σ') : BasM r n σ' := ⟨(hf.2 6 (by omega)).trans h.1, fun i hi => by rw [hf.1 35 (by decide)]; exact h.2 i hi⟩
theorem Wrd.fn {σ σ' : Sto} (h : Wrd σ) (hf : Fn σ σ') : Wrd σ' := fun k c hk hc => by rw [hf.1 44 (by decide)]; exact h k c hk hc
def psiT (t : Int32) : Int32 := if t = 1 then 1 else if t = 2 then 40 else if t = 3 then 41 else if t = 4 then 59 else if t = 5 then 0 else if t = 6 then -1 else if t = 10 then 3 else if t = 11 then 3 else if t = 12 then 3
  else if t = -8 then 6 else if t = -9 then 4 else if t = -10 then 5 else if t = -11 then 60 else if t = -12 then 61 else if t = -13 then 43 else if t = -14 then 45 else if t = -15 then 42 else 2
def TkM (r : Rw) (n p : Nat) (τ : Sto) : Prop := τ 30 20 = psiT (tkL r n p) ∧ τ 30 19 = nI (stL r n p) ∧ τ 30 18 = nI (nxL r n p) ∧ (tkL r n p = 1 → τ 30 21 = vlL r n p) ∧
  (¬ -1 < tkL r n p → ¬ tkL r n p < -6 → τ 30 21 = phi (tkL r n p)) ∧ (tkL r n p = 10 ∨ tkL r n p = 11 ∨ tkL r n p = 12 → τ 30 21 = tkL r n p - 10)
/-! words -/
def lkB (l1 l2 : List Int32) : Nat → Nat → Bool
  | 0, _ => true
  | d + 1, c => if l1.getD c 32 = l2.getD c 32 then lkB l1 l2 d (c + 1) else false
theorem lk_all {l1 l2 : List Int32} : ∀ d c, lkB l1 l2 d c = true → ∀ j, c ≤ j → j < c + d → l1.getD j 32 = l2.getD j 32 := by
  intro d
  induction d with
  | zero => intro c _ j h1 h2; omega
  | succ d ih =>
    intro c h j h1 h2
    have h : (if l1.getD c 32 = l2.getD c 32 then lkB l1 l2 d (c + 1) else false) = true := h
    by_cases hc : l1.getD c 32 = l2.getD c 32
    · rw [if_pos hc] at h
      by_cases hj : j = c
      · rw [hj]; exact hc
      · exact ih (c + 1) h j (by omega) (by omega)
    · rw [if_neg hc] at h; cases h
theorem lk_refl {l : List Int32} : ∀ d c, lkB l l d c = true := by
  intro d
  induction d with
  | zero => intro c; rfl
  | succ d ih => intro c; show (if l.getD c 32 = l.getD c 32 then lkB l l d (c + 1) else false) = true; rw [if_pos rfl]; exact ih _
theorem pad_eq : ∀ (l1 l2 : List Int32) (m : Nat), l1.length ≤ m → l2.length ≤ m → (∀ x ∈ l1, ¬ x = 32) → (∀ x ∈ l2, ¬ x = 32) → (∀ j, j < m → l1.getD j 32 = l2.getD j 32) → l1 = l2
  | [], [], _, _, _, _, _, _ => rfl
  | [], y :: l2, 0, _, h2, _, _, _ => by cases h2
  | [], y :: l2, m + 1, _, _, _, h4, h5 => absurd (h5 0 (by omega)).symm (h4 y List.mem_cons_self)
  | x :: l1, [], 0, h1, _, _, _, _ => by cases h1
  | x :: l1, [], m + 1, _, _, h3, _, h5 => absurd (h5 0 (by omega)) (h3 x List.mem_cons_self)
  | x :: l1, y :: l2, 0, h1, _, _, _, _ => by cases h1
  | x :: l1, y :: l2, m + 1, h1, h2, h3, h4, h5 => by
    have e : x = y := h5 0 (by omega)
    rw [e, pad_eq l1 l2 m (Nat.le_of_succ_le_succ h1) (Nat.le_of_succ_le_succ h2) (fun z hz => h3 z (List.mem_cons_of_mem _ hz)) (fun z hz => h4 z (List.mem_cons_of_mem _ hz)) (fun j hj => h5 (j + 1) (by omega))]
theorem sl_mem {r : Rw} {x : Int32} : ∀ d s, x ∈ slL r d s → ∃ i, s ≤ i ∧ i < s + d ∧ r i = x := by
  intro d
  induction d with
  | zero => intro s h; cases h
  | succ d ih =>
    intro s h
    have h : x ∈ r s :: slL r d (s + 1) := h
    rcases List.mem_cons.mp h with h | h
    · exact ⟨s, by omega, by omega, h.symm⟩
    · obtain ⟨i, h1, h2, h3⟩ := ih (s + 1) h
      exact ⟨i, by omega, by omega, h3⟩
theorem sl_get {r : Rw} : ∀ d s j, (slL r d s).getD j 32 = if j < d then r (s + j) else 32 := by
  intro d
  induction d with
  | zero => intro s j; rw [if_neg (by omega)]; rfl
  | succ d ih =>
    intro s j
    have e : slL r (d + 1) s = r s :: slL r d (s + 1) := rfl
    rw [e]
    cases j with
    | zero => rw [if_pos (by omega)]; rfl
    | succ j =>
      show (slL r d (s + 1)).getD j 32 = _
      rw [ih (s + 1) j]
      by_cases h : j < d
      · rw [if_pos h, if_pos (by omega), show s + 1 + j = s + (j + 1) by omega]
      · rw [if_neg h, if_neg (by omega)]
theorem run_all {f : Int32 → Bool} {r : Rw} : ∀ d p i, p ≤ i → i < runS f r d p → f (r i) = true := by
  intro d
  induction d with
  | zero => intro p i h1 h2; have h2 : i < p := h2; omega
  | succ d ih =>
    intro p i h1 h2
    by_cases hf : f (r p) = true
    · rw [run_1 hf] at h2
      by_cases e : i = p
      · rw [e]; exact hf
      · exact ih (p + 1) i (by omega) h2
    · rw [run_0 hf] at h2; omega
theorem d_no32 : ∀ i : Fin 12, ∀ x ∈ byteOf i.1, ¬ x = 32 := by decide +kernel
theorem mo_lt (k : Nat) : moN k < 12 := by unfold moN; split <;> omega
def wdF (l : List Int32) : Nat → Nat → Nat
  | 0, _ => 12
  | d + 1, k => if l = byteOf (moN k) then k else wdF l d (k + 1)
theorem wd_F (l : List Int32) : wdL l = wdF l 12 0 := rfl
theorem m_like {k0 : Nat} {r : Rw} {n s e k : Nat} (hn : n ≤ 160) (hse : s ≤ e) (hen : e ≤ n) (hk : k < 12) {τ : Sto} (hb : BasM r n τ) (hw : Wrd τ) : ∀ d c, c + d = 8 →
    ∃ u4 u5, R nM_wordFrom k0 16 [.ref 30, .int (nI s), .int (nI e), .int (nI k), .int 1, .int (nI c)] [] τ = if lkB (byteOf (moN k)) (slL r (e - s) s) d c = true then some (nI k, 0, τ) else R nM_wordFrom k0 2 [.ref 30, .int (nI s), .int (nI e), .int (nI (k + 1)), u4, u5] [] τ := by
  intro d
  induction d with
  | zero =>
    intro c hc
    have e : c = 8 := by omega
    subst e
    refine ⟨.null, .null, ?_⟩
    rw [eM_wordFrom_16 k0, if_neg (by decide), if_neg n10]
    rfl
  | succ d ih =>
    intro c hc
    have e1 : lkB (byteOf (moN k)) (slL r (e - s) s) (d + 1) c = if (byteOf (moN k)).getD c 32 = (slL r (e - s) s).getD c 32 then lkB (byteOf (moN k)) (slL r (e - s) s) d (c + 1) else false := rfl
    have e2 : 8 * nI k + nI c = nI (8 * k + c) := by rw [show (8 : Int32) * nI k = nI (8 * k) from pk_mul 8 k, nI_add]
    have fin : ∃ u4 u5, R nM_wordFrom k0 42 [.ref 30, .int (nI s), .int (nI e), .int (nI k), .int 1, .int (nI c)] [.int ((slL r (e - s) s).getD c 32), .int ((byteOf (moN k)).getD c 32)] τ = if lkB (byteOf (moN k)) (slL r (e - s) s) (d + 1) c = true then some (nI k, 0, τ) else R nM_wordFrom k0 2 [.ref 30, .int (nI s), .int (nI e), .int (nI (k + 1)), u4, u5] [] τ := by
      rw [eM_wordFrom_42 k0, nI_1, e1]
      by_cases hq : (byteOf (moN k)).getD c 32 = (slL r (e - s) s).getD c 32
      · rw [if_pos hq, if_pos hq]
        exact ih (c + 1) (by omega)
      · rw [if_neg hq, if_neg hq]
        refine ⟨.int 0, .int (nI (c + 1)), ?_⟩
        rw [if_neg (by decide), eM_wordFrom_16 k0, if_pos rfl, if_pos rfl, nI_1]
        split <;> rfl
    rw [eM_wordFrom_16 k0, if_pos (show nI c < 8 from nI_lt (b := 8) (by omega) (by omega)), if_neg n10, e2, if_pos (ibn (show 8 * k + c < 96 by omega) (by omega)), nI_add, ixn (show 8 * k + c < 2147483648 by omega), hw k c hk (by omega)]
    have e3 := sl_get (r := r) (e - s) s c
    by_cases hl : s + c < e
    · rw [if_pos (show c < e - s by omega)] at e3
      rw [e3] at fin
      rw [if_pos (nI_lt hl (by omega)), if_pos (ibn (show s + c < 160 by omega) (by omega)), ixn (show s + c < 2147483648 by omega), hb.2 (s + c) (by omega)]
      exact fin
    · rw [if_neg (show ¬ c < e - s by omega)] at e3
      rw [e3] at fin
      rw [if_neg (nI_nlt (by omega) (by omega))]
      exact fin
theorem m_words {k0 : Nat} {r : Rw} {n s e : Nat} (hn : n ≤ 160) (hse : s ≤ e) (hen : e ≤ n) (h32 : ∀ x ∈ slL r (e - s) s, ¬ x = 32) {τ : Sto} (hb : BasM r n τ) (hw : Wrd τ) : ∀ d k u4 u5, k + d = 12 →
    R nM_wordFrom k0 2 [.ref 30, .int (nI s), .int (nI e), .int (nI k), u4, u5] [] τ = some (nI (wdF (slL r (e - s) s) d k), 0, τ) := by
  intro d
  induction d with
  | zero =>
    intro k u4 u5 hk
    have e : k = 12 := by omega
    subst e
    rw [eM_wordFrom_2 k0, if_neg (by decide)]
    rfl
  | succ d ih =>
    intro k u4 u5 hk
    have hk12 : k < 12 := by omega
    have h9 := (d_len ⟨moN k, mo_lt k⟩).2
    have h9 : (byteOf (moN k)).length < 9 := h9
    have e1 : wdF (slL r (e - s) s) (d + 1) k = if slL r (e - s) s = byteOf (moN k) then k else wdF (slL r (e - s) s) d (k + 1) := rfl
    have e5 := sl_len (r := r) (e - s) s
    rw [eM_wordFrom_2 k0, if_pos (show nI k < 12 from nI_lt (b := 12) hk12 (by omega)), nI_subN hse (by omega), e1]
    by_cases h8 : 8 < e - s
    · rw [if_pos (show (8 : Int32) < nI (e - s) from nI_lt (a := 8) h8 (by omega)), if_neg (fun h => by rw [h] at e5; omega), eM_wordFrom_16 k0, if_pos (by decide), if_pos rfl, if_pos rfl, nI_1]
      exact ih (k + 1) _ _ (by omega)
    · rw [if_neg (show ¬ (8 : Int32) < nI (e - s) from nI_nlt (a := 8) (by omega) (by omega))]
      obtain ⟨v4, v5, e2⟩ := m_like (k0 := k0) hn hse hen hk12 hb hw 8 0 rfl
      rw [show (0 : Int32) = nI 0 from rfl, e2]
      by_cases hq : slL r (e - s) s = byteOf (moN k)
      · rw [if_pos hq, hq, if_pos (lk_refl 8 0)]
      · rw [if_neg hq, if_neg]
        · exact ih (k + 1) v4 v5 (by omega)
        · intro h
          exact hq (pad_eq _ _ 8 (by omega) (by omega) h32 (d_no32 ⟨moN k, mo_lt k⟩) fun j hj => (lk_all 8 0 h j (by omega) (by omega)).symm)
theorem m_wordFrom {k0 : Nat} {r : Rw} {n s e : Nat} (hn : n ≤ 160) (hse : s ≤ e) (hen : e ≤ n) (h32 : ∀ x ∈ slL r (e - s) s, ¬ x = 32) {τ : Sto} (hb : BasM r n τ) (hw : Wrd τ) :
    C nM_wordFrom k0 [.ref 30, .int (nI s), .int (nI e)] τ = some (nI (wdL (slL r (e - s) s)), 0, τ) := by
  rw [eM_wordFrom k0, wd_F]
  exact m_words hn hse hen h32 hb hw 12 0 .null .null rfl
theorem wd_lt (l : List Int32) : wdL l < 13 := by
  unfold wdL
  repeat' split
  all_goals omega
def mtW (w : Int32) : Int32 := if w < 3 then 3 else if w < 9 then 2 else if w = 12 then -1 else (4 + w) - 9
def mvW (w : Int32) : Int32 := if w < 3 then w else w - 3
theorem d_w : ∀ w : Fin 13, mtW (nI w.1) = psiT (wkL w.1) ∧ (¬ wkL w.1 = 1) ∧ (¬ -1 < wkL w.1 → ¬ wkL w.1 < -6 → mvW (nI w.1) = phi (wkL w.1)) ∧ (wkL w.1 = 10 ∨ wkL w.1 = 11 ∨ wkL w.1 = 12 → mvW (nI w.1) = wkL w.1 - 10) := by decide +kernel
theorem m_in_le {k : Nat} {x : Int32} {σ : Sto} : C nM_in k [.int x, .int 97, .int 122] σ = some (b2 (leB x), 0, σ) := by
  rw [m_in]
  rfl
theorem m_in_di {k : Nat} {x : Int32} {σ : Sto} : C nM_in k [.int x, .int 48, .int 57] σ = some (b2 (diB x), 0, σ) := by
  rw [m_in]
  rfl
theorem m_74 {k0 : Nat} {r : Rw} {n s e : Nat} (hn : n ≤ 160) (hse : s ≤ e) (hen : e ≤ n) (h32 : ∀ x ∈ slL r (e - s) s, ¬ x = 32) {τ : Sto} (hb : BasM r n τ) (hw : Wrd τ) (h19 : τ 30 19 = nI s) (h18 : τ 30 18 = nI e) {v1 : Int32} :
    R nM_next k0 74 [.ref 30, .int v1, .null] [] τ = some (0, 0, su (su τ 30 20 (mtW (nI (wdL (slL r (e - s) s))))) 30 21 (mvW (nI (wdL (slL r (e - s) s))))) := by
  have g : ∀ (w t : Int32) , R nM_next k0 102 [.ref 30, .int v1, .int w] [.int t, .ref 30] τ = some (0, 0, su (su τ 30 20 t) 30 21 (mvW w)) := by
    intro w t
    unfold mvW
    rw [eM_next_102 k0]
    split
    · rw [eM_next_112 k0, eM_next_212 k0]
    · rw [eM_next_112 k0, eM_next_212 k0]
  rw [eM_next_74 k0, h19, h18, m_wordFrom hn hse hen h32 hb hw, bs]
  generalize nI (wdL (slL r (e - s) s)) = w
  dsimp only
  unfold mtW
  by_cases h1 : w < 3
  · rw [if_pos h1, if_pos h1, g]
  rw [if_neg h1, if_neg h1]
  by_cases h2 : w < 9
  · rw [if_pos h2, if_pos h2, g]
  rw [if_neg h2, if_neg h2]
  by_cases h3 : w = 12
  · rw [if_pos h3, if_pos h3, g]
  rw [if_neg h3, if_neg h3, g]
theorem m_runW {k0 : Nat} {r : Rw} {n s : Nat} (hn : n ≤ 160) {v1 : Int32} : ∀ d q τ, q + d = n → s ≤ q → (∀ i, s ≤ i → i < q → leB (r i) = true) → BasM r n τ → Wrd τ → τ 30 19 = nI s → τ 30 18 = nI q →
    ∃ τ', R nM_next k0 53 [.ref 30, .int v1, .null] [] τ = some (0, 0, τ') ∧ Fn τ τ' ∧ τ' 30 19 = nI s ∧ τ' 30 18 = nI (runS leB r d q) ∧ τ' 30 20 = mtW (nI (wdL (slL r (runS leB r d q - s) s))) ∧ τ' 30 21 = mvW (nI (wdL (slL r (runS leB r d q - s) s))) := by
  intro d
  have fin : ∀ q τ, q ≤ n → s ≤ q → (∀ i, s ≤ i → i < q → leB (r i) = true) → BasM r n τ → Wrd τ → τ 30 19 = nI s → τ 30 18 = nI q → ∃ τ', R nM_next k0 74 [.ref 30, .int v1, .null] [] τ = some (0, 0, τ') ∧ Fn τ τ' ∧ τ' 30 19 = nI s ∧ τ' 30 18 = nI q ∧ τ' 30 20 = mtW (nI (wdL (slL r (q - s) s))) ∧ τ' 30 21 = mvW (nI (wdL (slL r (q - s) s))) := by
    intro q τ hq hs hl hb hw h19 h18
    have h32 : ∀ x ∈ slL r (q - s) s, ¬ x = 32 := by
      intro x hx e
      obtain ⟨i, i1, i2, i3⟩ := sl_mem _ _ hx
      have := hl i i1 (by omega)
      rw [i3, e] at this
      exact absurd this (by decide)
    rw [m_74 hn hs hq h32 hb hw h19 h18]
    exact ⟨_, rfl, (Fn.rf.su (by omega) (by omega)).su (by omega) (by omega), by rw [su_o (by decide), su_o (by decide)]; exact h19, by rw [su_o (by decide), su_o (by decide)]; exact h18, by rw [su_o (by decide), su_e], su_e⟩
  induction d with
  | zero =>
    intro q τ hq hs hl hb hw h19 h18
    rw [eM_next_53 k0, hb.1, h18, if_neg (nI_nlt (by omega) (by omega))]
    exact fin q τ (by omega) hs hl hb hw h19 h18
  | succ d ih =>
    intro q τ hq hs hl hb hw h19 h18
    rw [eM_next_53 k0, hb.1, h18, if_pos (nI_lt (by omega) (by omega)), if_pos (ibn (show q < 160 by omega) (by omega)), ixn (by omega), hb.2 q (by omega), m_in_le, bs]
    dsimp only
    rw [b2_if, h18, nI_1]
    by_cases hc : leB (r q) = true
    · rw [if_pos hc, run_1 hc]
      have f1 : Fn τ (su τ 30 18 (nI (q + 1))) := Fn.rf.su (by omega) (by omega)
      obtain ⟨τ', e, f, g⟩ := ih (q + 1) (su τ 30 18 (nI (q + 1))) (by omega) (by omega) (fun i h1 h2 => by
        by_cases e : i = q
        · rw [e]; exact hc
        · exact hl i h1 (by omega)) (hb.fn f1) (hw.fn f1) (by rw [su_o (by decide)]; exact h19) su_e
      exact ⟨τ', e, f1.tr f, g⟩
    · rw [if_neg hc, run_0 hc]
      exact fin q τ (by omega) hs hl hb hw h19 h18
theorem m_runN {k0 : Nat} {r : Rw} {n s : Nat} (hn : n ≤ 160) {v1 : Int32} : ∀ d q τ, q + d = n → s ≤ q → BasM r n τ → τ 30 19 = nI s → τ 30 18 = nI q → (q - s ≤ 4 → τ 30 21 = vaL r s (q - s)) →
    ∃ τ', R nM_next k0 121 [.ref 30, .int v1, .int (nI (q - s))] [] τ = some (0, 0, τ') ∧ Fn τ τ' ∧ τ' 30 19 = nI s ∧ τ' 30 18 = nI (runS diB r d q) ∧ τ' 30 20 = (if 4 < runS diB r d q - s then -1 else 1) ∧ (runS diB r d q - s ≤ 4 → τ' 30 21 = vaL r s (runS diB r d q - s)) := by
  intro d
  have fin : ∀ q τ, q ≤ n → s ≤ q → τ 30 19 = nI s → τ 30 18 = nI q → (q - s ≤ 4 → τ 30 21 = vaL r s (q - s)) → ∃ τ', R nM_next k0 162 [.ref 30, .int v1, .int (nI (q - s))] [] τ = some (0, 0, τ') ∧ Fn τ τ' ∧ τ' 30 19 = nI s ∧ τ' 30 18 = nI q ∧ τ' 30 20 = (if 4 < q - s then -1 else 1) ∧ (q - s ≤ 4 → τ' 30 21 = vaL r s (q - s)) := by
    intro q τ hq hs h19 h18 h21
    rw [eM_next_162 k0]
    by_cases hl : 4 < q - s
    · rw [if_pos (show (4 : Int32) < nI (q - s) from nI_lt (a := 4) hl (by omega)), if_pos hl, eM_next_169 k0, eM_next_212 k0]
      exact ⟨_, rfl, Fn.rf.su (by omega) (by omega), by rw [su_o (by decide)]; exact h19, by rw [su_o (by decide)]; exact h18, su_e, fun h => by omega⟩
    · rw [if_neg (show ¬ (4 : Int32) < nI (q - s) from nI_nlt (a := 4) (by omega) (by omega)), if_neg hl, eM_next_169 k0, eM_next_212 k0]
      exact ⟨_, rfl, Fn.rf.su (by omega) (by omega), by rw [su_o (by decide)]; exact h19, by rw [su_o (by decide)]; exact h18, su_e, fun h => by rw [su_o (by decide)]; exact h21 h⟩
  induction d with
  | zero =>
    intro q τ hq hs hb h19 h18 h21
    rw [eM_next_121 k0, hb.1, h18, if_neg (nI_nlt (by omega) (by omega))]
    exact fin q τ (by omega) hs h19 h18 h21
  | succ d ih =>
    intro q τ hq hs hb h19 h18 h21
    rw [eM_next_121 k0, hb.1, h18, if_pos (nI_lt (by omega) (by omega)), if_pos (ibn (show q < 160 by omega) (by omega)), ixn (by omega), hb.2 q (by omega), m_in_di, bs]
    dsimp only
    rw [b2_if]
    by_cases hc : diB (r q) = true
    · rw [if_pos hc, run_1 hc]
      have step : ∀ v, (q + 1 - s ≤ 4 → v = vaL r s (q + 1 - s)) → ∃ τ', R nM_next k0 153 [.ref 30, .int v1, .int (nI (q - s))] [.int v, .ref 30] τ = some (0, 0, τ') ∧ Fn τ τ' ∧ τ' 30 19 = nI s ∧ τ' 30 18 = nI (runS diB r d (q + 1)) ∧ τ' 30 20 = (if 4 < runS diB r d (q + 1) - s then -1 else 1) ∧ (runS diB r d (q + 1) - s ≤ 4 → τ' 30 21 = vaL r s (runS diB r d (q + 1) - s)) := by
        intro v hv
        have f1 : Fn τ (su (su τ 30 21 v) 30 18 (nI (q + 1))) := (Fn.rf.su (by omega) (by omega)).su (by omega) (by omega)
        obtain ⟨τ', e, f, g⟩ := ih (q + 1) (su (su τ 30 21 v) 30 18 (nI (q + 1))) (by omega) (by omega) (hb.fn f1) (by rw [su_o (by decide), su_o (by decide)]; exact h19) su_e (fun h => by rw [su_o (by decide), su_e]; exact hv h)
        rw [eM_next_153 k0, su_o (by decide), h18, nI_1, nI_1, show q - s + 1 = q + 1 - s by omega]
        exact ⟨τ', e, f1.tr f, g⟩
      have ev : vaL r s (q + 1 - s) = vaL r s (q - s) * 10 + r q - 48 := by
        have e1 : q + 1 - s = (q - s) + 1 := by omega
        have e2 : vaL r s ((q - s) + 1) = vaL r s (q - s) * 10 + r (s + (q - s)) - 48 := rfl
        rw [e1, e2, show s + (q - s) = q by omega]
      by_cases hl : q - s < 4
      · rw [if_pos (show nI (q - s) < 4 from nI_lt (b := 4) hl (by omega)), if_pos (show inb (τ 30 18) 160 = true from by rw [h18]; exact ibn (show q < 160 by omega) (by omega)), h18, ixn (by omega), hb.2 q (by omega), h21 (by omega), Int32.mul_comm]
        exact step _ (fun _ => ev.symm)
      · rw [if_neg (show ¬ nI (q - s) < 4 from nI_nlt (b := 4) (by omega) (by omega))]
        exact step 0 (fun h => by omega)
    · rw [if_neg hc, run_0 hc]
      exact fin q τ (by omega) hs h19 h18 h21
theorem psi_sg (x : Int32) : psiT (sgL x) = if x = 40 then x else if x = 41 then x else if x = 59 then x else if x = 43 then x else if x = 45 then x else if x = 42 then x else if x = 60 then x else if x = 61 then x else -1 := by
  unfold sgL
  by_cases h40 : x = 40
  · rw [h40]; decide
  by_cases h41 : x = 41
  · rw [h41]; decide
  by_cases h42 : x = 42
  · rw [h42]; decide
  by_cases h43 : x = 43
  · rw [h43]; decide
  by_cases h45 : x = 45
  · rw [h45]; decide
  by_cases h59 : x = 59
  · rw [h59]; decide
  by_cases h60 : x = 60
  · rw [h60]; decide
  by_cases h61 : x = 61
  · rw [h61]; decide
  rw [if_neg h40, if_neg h41, if_neg h42, if_neg h43, if_neg h45, if_neg h59, if_neg h60, if_neg h61, if_neg h40, if_neg h41, if_neg h59, if_neg h43, if_neg h45, if_neg h42, if_neg h60, if_neg h61]
  decide
theorem sg_no : ∀ x : Int32, ¬ sgL x = 1 ∧ (-1 < sgL x ∨ sgL x < -6) ∧ ¬ (sgL x = 10 ∨ sgL x = 11 ∨ sgL x = 12) := by
  intro x
  unfold sgL
  repeat' split
  all_goals decide
set_option maxRecDepth 100000 in
theorem m_26 {k0 : Nat} {r : Rw} {n s : Nat} (hn : n ≤ 160) (hs : s ≤ n) {τ : Sto} (hb : BasM r n τ) (hw : Wrd τ) (h18 : τ 30 18 = nI s) :
    ∃ τ', R nM_next k0 26 [.ref 30, .null, .null] [] τ = some (0, 0, τ') ∧ Fn τ τ' ∧ τ' 30 20 = psiT (tkA r n s) ∧ τ' 30 19 = nI s ∧ τ' 30 18 = nI (nxA r n s) ∧ (tkA r n s = 1 → τ' 30 21 = vaL r s (runS diB r (n - s) s - s)) ∧
      (¬ -1 < tkA r n s → ¬ tkA r n s < -6 → τ' 30 21 = phi (tkA r n s)) ∧ (tkA r n s = 10 ∨ tkA r n s = 11 ∨ tkA r n s = 12 → τ' 30 21 = tkA r n s - 10) := by
  obtain ⟨σa, ea⟩ : ∃ σa, σa = su (su (su τ 30 19 (τ 30 18)) 30 20 0) 30 21 0 := ⟨_, rfl⟩
  have fa : Fn τ σa := by rw [ea]; exact ((Fn.rf.su (by omega) (by omega)).su (by omega) (by omega)).su (by omega) (by omega)
  have hba : BasM r n σa := hb.fn fa
  have a19 : σa 30 19 = nI s := by rw [ea, su_o (by decide), su_o (by decide), su_e, h18]
  have a18 : σa 30 18 = nI s := by rw [ea, su_o (by decide), su_o (by decide), su_o (by decide), h18]
  have a20 : σa 30 20 = 0 := by rw [ea, su_o (by decide), su_e]
  have a21 : σa 30 21 = 0 := by rw [ea, su_e]
  rw [eM_next_26 k0, ← ea, a18, hba.1]
  unfold nxA tkA
  by_cases h1 : n ≤ s
  · rw [if_pos h1, if_pos h1, if_pos (show nI s = nI n from by rw [show s = n by omega])]
    exact ⟨_, rfl, fa, a20, a19, a18, fun h => absurd h (by decide), fun h => absurd (by decide) h, fun h => absurd h (by decide)⟩
  rw [if_neg h1, if_neg h1, if_neg (show ¬ nI s = nI n from fun h => h1 (by have := nI_inj (by omega) (by omega) h; omega)), if_pos (ibn (show s < 160 by omega) (by omega)), ixn (by omega), hba.2 s (by omega), m_in_le, bs]
  dsimp only
  rw [b2_if]
  by_cases h2 : leB (r s) = true
  · obtain ⟨τ', e, f, g19, g18, g20, g21⟩ := m_runW (k0 := k0) hn (v1 := r s) (n - s) s σa (by omega) (Nat.le_refl _) (fun i _ _ => by omega) hba (hw.fn fa) a19 a18
    have hd := d_w ⟨wdL (slL r (runS leB r (n - s) s - s) s), wd_lt _⟩
    rw [if_pos h2, if_pos h2, if_pos h2, e]
    refine ⟨τ', rfl, fa.tr f, g20.trans hd.1, g19, g18, fun h => absurd h hd.2.1, fun h1 h2 => g21.trans (hd.2.2.1 h1 h2), fun h => g21.trans (hd.2.2.2 h)⟩
  rw [if_neg h2, if_neg h2, if_neg h2, m_in_di, bs]
  dsimp only
  rw [b2_if]
  by_cases h5 : diB (r s) = true
  · obtain ⟨τ', e, f, g19, g18, g20, g21⟩ := m_runN (k0 := k0) hn (v1 := r s) (n - s) s σa (by omega) (Nat.le_refl _) hba a19 a18 (fun _ => by rw [a21, Nat.sub_self]; rfl)
    rw [Nat.sub_self, show nI 0 = 0 from rfl] at e
    rw [if_pos h5, if_pos h5, if_pos h5, e]
    by_cases h4 : 4 < runS diB r (n - s) s - s
    · rw [if_pos h4] at g20 ⊢
      exact ⟨τ', rfl, fa.tr f, g20, g19, g18, fun h => absurd h (by decide), fun h => absurd (by decide) h, fun h => absurd h (by decide)⟩
    · rw [if_neg h4] at g20 ⊢
      exact ⟨τ', rfl, fa.tr f, g20, g19, g18, fun _ => g21 (by omega), fun h => absurd (by decide) h, fun h => absurd h (by decide)⟩
  rw [if_neg h5, if_neg h5, if_neg h5]
  have sg := sg_no (r s)
  have e4 := psi_sg (r s)
  have fin : ∀ v v2, v = psiT (sgL (r s)) → ∃ τ', R nM_next k0 205 [.ref 30, .int (r s), .int v2] [.int v, .ref 30] σa = some (0, 0, τ') ∧ Fn τ τ' ∧ τ' 30 20 = psiT (sgL (r s)) ∧ τ' 30 19 = nI s ∧ τ' 30 18 = nI (s + 1) ∧ (sgL (r s) = 1 → τ' 30 21 = vaL r s (runS diB r (n - s) s - s)) ∧
      (¬ -1 < sgL (r s) → ¬ sgL (r s) < -6 → τ' 30 21 = phi (sgL (r s))) ∧ (sgL (r s) = 10 ∨ sgL (r s) = 11 ∨ sgL (r s) = 12 → τ' 30 21 = sgL (r s) - 10) := by
    intro v v2 hv
    rw [eM_next_205 k0, eM_next_212 k0, su_o (by decide), a18, nI_1]
    exact ⟨_, rfl, (fa.su (by omega) (by omega)).su (by omega) (by omega), by rw [su_o (by decide), su_e, hv], by rw [su_o (by decide), su_o (by decide)]; exact a19, su_e, fun h => absurd h sg.1, fun h1 h2 => absurd sg.2.1 (fun h => h.elim h1 h2), fun h => absurd h sg.2.2⟩
  have y195 : psiT (sgL (r s)) = r s → ∃ τ', R nM_next k0 195 [.ref 30, .int (r s), .null] [] σa = some (0, 0, τ') ∧ Fn τ τ' ∧ τ' 30 20 = psiT (sgL (r s)) ∧ τ' 30 19 = nI s ∧ τ' 30 18 = nI (s + 1) ∧ (sgL (r s) = 1 → τ' 30 21 = vaL r s (runS diB r (n - s) s - s)) ∧
      (¬ -1 < sgL (r s) → ¬ sgL (r s) < -6 → τ' 30 21 = phi (sgL (r s))) ∧ (sgL (r s) = 10 ∨ sgL (r s) = 11 ∨ sgL (r s) = 12 → τ' 30 21 = sgL (r s) - 10) := by
    intro h
    rw [eM_next_195 k0, eM_next_198 k0, if_neg n10]
    exact fin _ _ h.symm
  by_cases c40 : r s = 40
  · rw [if_pos c40] at e4 ⊢
    exact y195 e4
  rw [if_neg c40] at e4 ⊢
  by_cases c41 : r s = 41
  · rw [if_pos c41] at e4 ⊢
    exact y195 e4
  rw [if_neg c41] at e4 ⊢
  by_cases c59 : r s = 59
  · rw [if_pos c59] at e4 ⊢
    exact y195 e4
  rw [if_neg c59] at e4 ⊢
  by_cases c43 : r s = 43
  · rw [if_pos c43] at e4 ⊢
    exact y195 e4
  rw [if_neg c43] at e4 ⊢
  by_cases c45 : r s = 45
  · rw [if_pos c45] at e4 ⊢
    exact y195 e4
  rw [if_neg c45] at e4 ⊢
  by_cases c42 : r s = 42
  · rw [if_pos c42] at e4 ⊢
    exact y195 e4
  rw [if_neg c42] at e4 ⊢
  by_cases c60 : r s = 60
  · rw [if_pos c60] at e4 ⊢
    exact y195 e4
  rw [if_neg c60] at e4 ⊢
  by_cases c61 : r s = 61
  · rw [if_pos c61] at e4 ⊢
    exact y195 e4
  rw [if_neg c61] at e4 ⊢
  rw [eM_next_198 k0, if_pos rfl]
  exact fin _ _ e4.symm
theorem m_skip {k0 : Nat} {r : Rw} {n : Nat} (hn : n ≤ 160) : ∀ d q τ, q + d = n → BasM r n τ → τ 30 18 = nI q →
    ∃ τ', R nM_next k0 0 [.ref 30, .null, .null] [] τ = R nM_next k0 26 [.ref 30, .null, .null] [] τ' ∧ Fn τ τ' ∧ τ' 30 18 = nI (runS blB r d q) := by
  intro d
  induction d with
  | zero =>
    intro q τ hq hb h18
    rw [eM_next_0 k0, hb.1, h18, if_neg (nI_nlt (by omega) (by omega))]
    exact ⟨τ, rfl, Fn.rf, h18⟩
  | succ d ih =>
    intro q τ hq hb h18
    have go1 : blB (r q) = true → ∃ τ', R nM_next k0 19 [.ref 30, .null, .null] [] τ = R nM_next k0 26 [.ref 30, .null, .null] [] τ' ∧ Fn τ τ' ∧ τ' 30 18 = nI (runS blB r (d + 1) q) := by
      intro hl
      have f1 : Fn τ (su τ 30 18 (nI (q + 1))) := Fn.rf.su (by omega) (by omega)
      obtain ⟨τ', e, f, g⟩ := ih (q + 1) (su τ 30 18 (nI (q + 1))) (by omega) (hb.fn f1) su_e
      rw [eM_next_19 k0, h18, nI_1]
      exact ⟨τ', e, f1.tr f, by rw [run_1 hl]; exact g⟩
    rw [eM_next_0 k0, hb.1, h18, if_pos (nI_lt (by omega) (by omega)), if_pos (ibn (show q < 160 by omega) (by omega)), if_pos (ibn (show q < 160 by omega) (by omega)), ixn (by omega), hb.2 q (by omega)]
    by_cases h1 : r q = 32
    · rw [if_pos h1]
      exact go1 (by unfold blB; rw [decide_eq_true h1]; rfl)
    rw [if_neg h1]
    by_cases h2 : r q = 10
    · rw [if_pos h2]
      exact go1 (by unfold blB; rw [decide_eq_true h2, Bool.or_true])
    rw [if_neg h2]
    have hl : ¬ blB (r q) = true := by
      unfold blB
      rw [decide_eq_false h1, decide_eq_false h2]
      decide
    exact ⟨τ, rfl, Fn.rf, by rw [run_0 hl]; exact h18⟩
theorem m_next {k0 : Nat} {r : Rw} {n p : Nat} (hn : n ≤ 160) (hp : p ≤ n) {τ : Sto} (hb : BasM r n τ) (hw : Wrd τ) (h18 : τ 30 18 = nI p) :
    ∃ τ', C nM_next k0 [.ref 30] τ = some (0, 0, τ') ∧ Fn τ τ' ∧ TkM r n p τ' := by
  obtain ⟨τ1, e1, f1, g1⟩ := m_skip (k0 := k0) hn (n - p) p τ (by omega) hb h18
  have hs := st_in (r := r) hp
  obtain ⟨τ2, e2, f2, g⟩ := m_26 (k0 := k0) hn hs.2 (hb.fn f1) (hw.fn f1) g1
  have e0 : C nM_next k0 [.ref 30] τ = R nM_next k0 0 [.ref 30, .null, .null] [] τ := (eM_next k0 τ).trans (eM_next_0 k0 τ).symm
  rw [e0, e1, e2]
  exact ⟨τ2, rfl, f1.tr f2, g⟩
