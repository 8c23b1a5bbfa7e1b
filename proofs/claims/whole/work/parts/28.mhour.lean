theorem RepM.s33 {σ : Sto} {t t' : St} (h : RepM σ t) {j : Nat} {v : Int32} (h1 : t'.1 = t.1) (h2 : ∀ i, i < sN t → rK t' i = rK t i ∧ rM t' i = rM t i ∧ upd (σ 33) j v (3 * i) = rP t' i ∧ upd (σ 33) j v (3 * i + 1) = rD t' i ∧ upd (σ 33) j v (3 * i + 2) = rW t' i) : RepM (su σ 33 j v) t' := by
  have e : sN t' = sN t := congrArg (·.1) h1
  refine ⟨?_, fun i hi => ?_⟩
  · rw [su_ne (by decide), su_ne (by decide)]
    unfold sN sH sO sB sF sL
    rw [h1]
    exact h.1
  · rw [e] at hi
    obtain ⟨a1, a2, a3, a4, a5⟩ := h2 i hi
    rw [su_ne (by decide), su_ne (by decide), su_row, a1, a2]
    exact ⟨h.K hi, h.M hi, a3, a4, a5⟩
theorem RepM.sP {σ : Sto} {t : St} (h : RepM σ t) {p : Nat} {v : Int32} : RepM (su σ 33 (3 * p) v) (pP t (upd (rP t) p v)) := by
  refine h.s33 rfl fun i hi => ⟨rfl, rfl, ?_, ?_, ?_⟩
  · show upd (σ 33) (3 * p) v (3 * i) = upd (rP t) p v i
    by_cases hip : i = p
    · subst hip; rw [upd_s, upd_s]
    · rw [upd_n (by omega), upd_n hip]; exact h.P hi
  · rw [upd_n (by omega)]; exact h.D hi
  · rw [upd_n (by omega)]; exact h.W hi
theorem RepM.sD {σ : Sto} {t : St} (h : RepM σ t) {p : Nat} {v : Int32} : RepM (su σ 33 (3 * p + 1) v) (pD t (upd (rD t) p v)) := by
  refine h.s33 rfl fun i hi => ⟨rfl, rfl, ?_, ?_, ?_⟩
  · rw [upd_n (by omega)]; exact h.P hi
  · show upd (σ 33) (3 * p + 1) v (3 * i + 1) = upd (rD t) p v i
    by_cases hip : i = p
    · subst hip; rw [upd_s, upd_s]
    · rw [upd_n (by omega), upd_n hip]; exact h.D hi
  · rw [upd_n (by omega)]; exact h.W hi
theorem RepM.sW {σ : Sto} {t : St} (h : RepM σ t) {p : Nat} {v : Int32} : RepM (su σ 33 (3 * p + 2) v) (pW t (upd (rW t) p v)) := by
  refine h.s33 rfl fun i hi => ⟨rfl, rfl, ?_, ?_, ?_⟩
  · rw [upd_n (by omega)]; exact h.P hi
  · rw [upd_n (by omega)]; exact h.D hi
  · show upd (σ 33) (3 * p + 2) v (3 * i + 2) = upd (rW t) p v i
    by_cases hip : i = p
    · subst hip; rw [upd_s, upd_s]
    · rw [upd_n (by omega), upd_n hip]; exact h.W hi
theorem RepM.sK {σ : Sto} {t : St} (h : RepM σ t) {p : Nat} {v : Int32} : RepM (su σ 31 p v) (pK t (upd (rK t) p v)) := by
  refine ⟨h.1, fun i hi => ?_⟩
  rw [su_row, su_ne (by decide), su_ne (by decide)]
  refine ⟨?_, h.M hi, h.P hi, h.D hi, h.W hi⟩
  show upd (σ 31) p v i = upd (rK t) p v i
  unfold upd
  rw [h.K hi]
theorem RepM.sM {σ : Sto} {t : St} (h : RepM σ t) {p : Nat} {v : Int32} : RepM (su σ 32 p v) (pM t (upd (rM t) p v)) := by
  refine ⟨h.1, fun i hi => ?_⟩
  rw [su_row, su_ne (by decide), su_ne (by decide)]
  refine ⟨h.K hi, ?_, h.P hi, h.D hi, h.W hi⟩
  show upd (σ 32) p v i = upd (rM t) p v i
  unfold upd
  rw [h.M hi]
theorem RepM.s34 {σ : Sto} {t t' : St} (h : RepM σ t) {j : Nat} {v : Int32} (h1 : t'.2 = t.2) (hn : sN t' = sN t) (hl : sL t' = sL t) (h2 : upd (σ 34) j v 0 = sO t' ∧ upd (σ 34) j v 1 = sB t' ∧ upd (σ 34) j v 2 = sF t' ∧ upd (σ 34) j v 3 = sH t') : RepM (su σ 34 j v) t' := by
  refine ⟨?_, fun i hi => ?_⟩
  · rw [su_ne (by decide), su_row, hn, hl]
    exact ⟨h.n, h.L, h2⟩
  · rw [hn] at hi
    rw [su_ne (by decide), su_ne (by decide), su_ne (by decide)]
    unfold rK rM rP rD rW
    rw [h1]
    exact h.2 i hi
theorem RepM.sO {σ : Sto} {t : St} (h : RepM σ t) {v : Int32} : RepM (su σ 34 0 v) (uO t v) := h.s34 rfl rfl rfl ⟨upd_s, (upd_n (by decide)).trans h.B, (upd_n (by decide)).trans h.F, (upd_n (by decide)).trans h.H⟩
theorem RepM.sB {σ : Sto} {t : St} (h : RepM σ t) {v : Int32} : RepM (su σ 34 1 v) (uB t v) := h.s34 rfl rfl rfl ⟨(upd_n (by decide)).trans h.O, upd_s, (upd_n (by decide)).trans h.F, (upd_n (by decide)).trans h.H⟩
theorem RepM.sF {σ : Sto} {t : St} (h : RepM σ t) {v : Int32} : RepM (su σ 34 2 v) (uF t v) := h.s34 rfl rfl rfl ⟨(upd_n (by decide)).trans h.O, (upd_n (by decide)).trans h.B, upd_s, (upd_n (by decide)).trans h.H⟩
theorem RepM.sH {σ : Sto} {t : St} (h : RepM σ t) {v : Int32} : RepM (su σ 34 3 v) (uH t v) := h.s34 rfl rfl rfl ⟨(upd_n (by decide)).trans h.O, (upd_n (by decide)).trans h.B, (upd_n (by decide)).trans h.F, upd_s⟩
theorem RepM.sL {σ : Sto} {t : St} (h : RepM σ t) {v : Nat} : RepM (su σ 30 10 (nI v)) (uL t v) := by
  refine ⟨?_, fun i hi => ?_⟩
  · rw [su_row, su_ne (by decide)]
    exact ⟨(upd_n (by decide)).trans h.n, upd_s, h.O, h.B, h.F, h.H⟩
  · rw [su_ne (by decide), su_ne (by decide), su_ne (by decide)]
    exact h.2 i hi
theorem TxM.su {σ : Sto} {TX : TXT} {K : Nat} (h : TxM σ TX K) {c i : Nat} {v : Int32} (h1 : c ≠ 36) (h2 : c ≠ 37) : TxM (su σ c i v) TX K := h.fr (l := [c]) (Fr.rf.su (List.mem_singleton.mpr rfl)) (by rw [List.mem_singleton]; omega) (by rw [List.mem_singleton]; omega)
/-- the cells that an hour of the model writes -/
def wm : List Nat := [33, 34, 46, 47]
theorem f2wm {σ σ' : Sto} (h : Fr [46, 47] σ σ') : Fr wm σ σ' := h.mono (by decide)
theorem m_fetches {k : Nat} {σ : Sto} {t : St} {TX : TXT} {K : Nat} (ha : AtM σ TX K t) (ho : Ok TX K t) {p : Nat} (hp : p < sN t) :
    ∃ σ', C nM_fetches k [.ref 30, .int (nI p)] σ = some (0, 0, σ') ∧ AtM σ' TX K (fetchS t p) ∧ Fr wm σ σ' := by
  have hN := ho.n
  have h9 := min9999 ho.1.2.2.1.1 ho.1.2.2.1.2
  have hr := ha.1
  have key : ∀ a, a = 1 + absI (2 * rP t p - 63) / 20 →
      ∃ σ', @Eq (Option Rs) ((C nM_within k [.int (((su (su σ 34 0 a) 34 1 (nI p)) 34 2) + 1), .int 0, .int 9999] (su (su σ 34 0 a) 34 1 (nI p))).bind fun r1 => some (0, 0, (su (su r1.2.2 34 2 r1.1) 33 (3 * p) (-1)))) (some (0, 0, σ')) ∧ AtM σ' TX K (fetchS t p) ∧ Fr wm σ σ' := by
    intro a hae
    have r1 := (hr.sO (v := a)).sB (v := nI p)
    have r2 := (r1.sF (v := minI 9999 (sF t + 1))).sP (p := p) (v := -1)
    rw [r1.F, m_within (by decide), bs]
    have e : maxI 0 (minI 9999 (sF (uB (uO t a) (nI p)) + 1)) = minI 9999 (sF t + 1) := max0 h9.1
    simp only [e]
    refine ⟨_, rfl, ⟨?_, (((ha.2.su (by decide) (by decide)).su (by decide) (by decide)).su (by decide) (by decide)).su (by decide) (by decide)⟩, (((Fr.rf.su (by decide)).su (by decide)).su (by decide)).su (by decide)⟩
    rw [hae] at r2 ⊢
    exact r2
  rw [eM_fetches k]
  simp only [z0, z1, z2, i3, ibn (show 3 * p < 18 by omega) (by decide), ixn (show 3 * p < 2147483648 by omega), hr.P hp, ↓reduceIte]
  have e0 : (0 : Int32).toInt = 0 := by decide
  by_cases h1 : 2 * rP t p - 63 < 0
  · rw [if_pos h1]
    refine key _ ?_
    unfold absI
    rw [i_lt] at h1
    rw [if_neg (by rw [Int32.le_iff_toInt_le]; omega), Int32.zero_sub]
  · rw [if_neg h1]
    refine key _ ?_
    unfold absI
    rw [i_lt] at h1
    rw [if_pos (by rw [Int32.le_iff_toInt_le]; omega)]
theorem m_walkL {k : Nat} {t : St} {TX : TXT} {K : Nat} (ho : Ok TX K t) {v1 : Int32} : ∀ d m σ, AtM σ TX K (walkS TX t m) → m + d = sN t →
    ∃ σ', R nM_hourOf k 42 [.ref 30, .int v1, .int (nI m)] [] σ = some (v1, 0, σ') ∧ AtM σ' TX K (uH (walkS TX t (sN t)) (sH t + 1)) ∧ Fr wm σ σ' := by
  intro d
  have hN := ho.n
  induction d with
  | zero =>
    intro m σ ha hm
    have e : m = sN t := by omega
    subst e
    have e2 : sH (walkS TX t (sN t)) = sH t := congrArg (fun z => z.2.1) (walk_t (sN t))
    rw [eM_hourOf_42 k, ha.1.n, walk_n, if_neg (nI_nlt (by omega) (by omega)), z3, ha.1.H, e2]
    exact ⟨_, rfl, ⟨ha.1.sH, ha.2.su (by decide) (by decide)⟩, Fr.rf.su (by decide)⟩
  | succ d ih =>
    intro m σ ha hm
    have h1 : m < sN t := by omega
    have h1' : m < sN (walkS TX t m) := by rw [walk_n]; exact h1
    have hom := ho.walk m (by omega)
    have e : walkS TX t (m + 1) = walk1S TX (walkS TX t m) m := rfl
    obtain ⟨σ1, e1, f1⟩ := m_walks (k := k) ha hom h1'
    have ha1 := ha.fm f1
    have r2 := ha1.1.sP (p := m) (v := maxI 0 (minI 63 (rP (walkS TX t m) m + walksS TX (walkS TX t m) m)))
    have h9 := (hom.p h1').2.2.2.2
    rw [eM_hourOf_42 k, ha.1.n, walk_n, if_pos (nI_lt h1 (by omega)), m_isAt ha.1 hom.n h1', bs]
    simp only [i3, nI_1, nI_2, ibn (show 3 * m < 18 by omega) (by decide), ixn (show 3 * m < 2147483648 by omega), ibn (show 3 * m + 2 < 18 by omega) (by decide), ixn (show 3 * m + 2 < 2147483648 by omega), ha.1.P h1', e1, bs, ↓reduceIte]
    by_cases h2 : rP (walkS TX t m) m = -1
    · rw [if_pos (show b2 (decide (¬ rP (walkS TX t m) m = -1)) = 0 by simp [h2, b2])]
      refine ih (m + 1) σ ?_ (by omega)
      rw [e]
      unfold walk1S
      rw [if_pos h2]
      exact ha
    · rw [if_neg (show ¬ b2 (decide (¬ rP (walkS TX t m) m = -1)) = 0 by simp [h2, b2]), m_within (by decide), bs]
      simp only []
      have h3 : su σ1 33 (3 * m) (maxI 0 (minI 63 (rP (walkS TX t m) m + walksS TX (walkS TX t m) m))) 33 (3 * m + 2) = rW (walkS TX t m) m := r2.W h1'
      rw [h3, m_within (by decide), bs]
      have h4 : maxI 0 (minI 99 (rW (walkS TX t m) m + 1)) = minI 99 (rW (walkS TX t m) m + 1) := max0 (min99 h9.1 h9.2).1
      simp only [h4]
      obtain ⟨σ', e3, a3, f3⟩ := ih (m + 1) _ (by
        rw [e]
        unfold walk1S
        rw [if_neg h2]
        exact ⟨r2.sW, (ha1.2.su (by decide) (by decide)).su (by decide) (by decide)⟩) (by omega)
      exact ⟨σ', e3, a3, (((f2wm f1).su (by decide)).su (by decide)).tr f3⟩
theorem m_hour {k : Nat} {σ : Sto} {t : St} {TX : TXT} {K : Nat} (ha : AtM σ TX K t) (ho : Ok TX K t) :
    ∃ σ', C nM_hourOf k [.ref 30] σ = some (whoS TX t, 0, σ') ∧ AtM σ' TX K (hourS TX t) ∧ Fr wm σ σ' := by
  have hfin : ∀ (σ1 : Sto) (v : Int32), AtM σ1 TX K (ferryS TX t) → sH (ferryS TX t) = sH t → Fr wm σ σ1 → v = whoS TX t → ∃ σ', R nM_hourOf k 42 [.ref 30, .int v, .int 0] [] σ1 = some (whoS TX t, 0, σ') ∧ AtM σ' TX K (hourS TX t) ∧ Fr wm σ σ' := by
    intro σ1 v ha1 hH f1 hv
    subst hv
    obtain ⟨σ', e, a, f⟩ := m_walkL (k := k) ho.ferry (v1 := whoS TX t) (sN (ferryS TX t)) 0 σ1 ha1 (Nat.zero_add _)
    rw [ferry_n, hH] at a
    exact ⟨σ', e, a, f1.tr f⟩
  have ef : ferryS TX t = if 0 < sO t then (if sO t - 1 = 0 then uB (uO t (sO t - 1)) (-1) else uO t (sO t - 1)) else if choiceS TX t = -1 then t else fetchS t (choiceS TX t).toNatClampNeg := rfl
  have ew : whoS TX t = if 0 < sO t then -1 else choiceS TX t := rfl
  rw [eM_hourOf k]
  simp only [z0, z1, ha.1.O, su_e]
  by_cases h1 : 0 < sO t
  · rw [if_pos h1] at ef ew ⊢
    by_cases h2 : sO t - 1 = 0
    · rw [if_pos h2] at ef ⊢
      exact hfin _ _ (by rw [ef]; exact ⟨ha.1.sO.sB, (ha.2.su (by decide) (by decide)).su (by decide) (by decide)⟩) (by rw [ef]; rfl) ((Fr.rf.su (by decide)).su (by decide)) ew.symm
    · rw [if_neg h2] at ef ⊢
      have r1 := ha.1.sO (v := sO t - 1)
      have r2 := r1.sB (v := su σ 34 0 (sO t - 1) 34 1)
      have e3 : uB (uO t (sO t - 1)) (su σ 34 0 (sO t - 1) 34 1) = uO t (sO t - 1) := by
        rw [r1.B]
        rfl
      rw [e3] at r2
      exact hfin _ _ (by rw [ef]; exact ⟨r2, (ha.2.su (by decide) (by decide)).su (by decide) (by decide)⟩) (by rw [ef]; rfl) ((Fr.rf.su (by decide)).su (by decide)) ew.symm
  · rw [if_neg h1] at ef ew ⊢
    obtain ⟨σ1, e1, f1⟩ := m_choice (k := k) ha ho
    have ha1 := ha.fm f1
    rw [e1, bs]
    rcases choice_or TX t with h2 | ⟨p, hp, h2, _⟩
    · rw [if_pos h2] at ef
      simp only [h2, ↓reduceIte]
      exact hfin σ1 (-1) (by rw [ef]; exact ha1) (by rw [ef]) (f2wm f1) (by rw [ew, h2])
    · have hp6 : p < 6 := Nat.lt_of_lt_of_le hp ho.n
      rw [h2, if_neg (nI_nm (by omega)), ix6 hp6] at ef
      obtain ⟨σ2, e2, a2, f2⟩ := m_fetches (k := k) ha1 ho hp
      simp only [h2]
      rw [if_neg (nI_nm (by omega)), e2, bs]
      exact hfin σ2 (nI p) (by rw [ef]; exact a2) (by rw [ef]; rfl) ((f2wm f1).tr f2) (by rw [ew, h2])
