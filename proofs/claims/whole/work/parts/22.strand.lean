/-! THE COMPONENT: what is asked of a strand -/
theorem RepS.n {σ : Sto} {c : Nat} {t : St} (h : RepS σ c t) : σ c 6 = nI (sN t) := h.1.1
theorem RepS.H {σ : Sto} {c : Nat} {t : St} (h : RepS σ c t) : σ c 7 = sH t := h.1.2.1
theorem RepS.O {σ : Sto} {c : Nat} {t : St} (h : RepS σ c t) : σ c 8 = sO t := h.1.2.2.1
theorem RepS.B {σ : Sto} {c : Nat} {t : St} (h : RepS σ c t) : σ c 9 = sB t := h.1.2.2.2.1
theorem RepS.F {σ : Sto} {c : Nat} {t : St} (h : RepS σ c t) : σ c 10 = sF t := h.1.2.2.2.2.1
theorem RepS.L {σ : Sto} {c : Nat} {t : St} (h : RepS σ c t) : σ c 11 = nI (sL t) := h.1.2.2.2.2.2
theorem RepS.K {σ : Sto} {c : Nat} {t : St} (h : RepS σ c t) {p : Nat} (hp : p < sN t) : σ (c + 1) p = rK t p := (h.2 p hp).1
theorem RepS.M {σ : Sto} {c : Nat} {t : St} (h : RepS σ c t) {p : Nat} (hp : p < sN t) : σ (c + 2) p = rM t p := (h.2 p hp).2.1
theorem RepS.P {σ : Sto} {c : Nat} {t : St} (h : RepS σ c t) {p : Nat} (hp : p < sN t) : σ (c + 3) p = rP t p := (h.2 p hp).2.2.1
theorem RepS.D {σ : Sto} {c : Nat} {t : St} (h : RepS σ c t) {p : Nat} (hp : p < sN t) : σ (c + 4) p = rD t p := (h.2 p hp).2.2.2.1
theorem RepS.W {σ : Sto} {c : Nat} {t : St} (h : RepS σ c t) {p : Nat} (hp : p < sN t) : σ (c + 5) p = rW t p := (h.2 p hp).2.2.2.2
theorem RepS.f6 {σ σ' : Sto} {c : Nat} {t : St} (h : RepS σ c t) (hc : c = 12 ∨ c = 18 ∨ c = 24) (hf : Fr [6] σ σ') : RepS σ' c t := by
  refine h.fr hf fun j hj hm => ?_
  rw [List.mem_singleton] at hm
  omega
theorem TxS.f6 {σ σ' : Sto} {TX : TXT} {K : Nat} (h : TxS σ TX K) (hf : Fr [6] σ σ') : TxS σ' TX K := h.fr hf (by decide) (by decide) (by decide)
theorem c_seen {k c : Nat} (hc : c = 12 ∨ c = 18 ∨ c = 24) {σ : Sto} {t : St} (hr : RepS σ c t) (hN : sN t ≤ 6) {p : Nat} (hp : p < sN t) : C nS_isSeen k [.ref c, .int (nI p)] σ = some (b2 (seenS t p), 0, σ) := by
  have h6 : p < 6 := by omega
  rw [eS_isSeen k c hc]
  simp only [ib6 h6, ix6 h6, hr.P hp, hr.D hp, ↓reduceIte]
  unfold seenS
  by_cases h1 : rP t p = -1
  · simp [h1, b2]
  · by_cases h2 : rD t p = 0 <;> simp [h1, h2, b2]
theorem c_over {k c : Nat} (hc : c = 12 ∨ c = 18 ∨ c = 24) {σ : Sto} {t : St} (hr : RepS σ c t) (hN : sN t ≤ 6) {p : Nat} (hp : p < sN t) : C nS_isOver k [.ref c, .int (nI p)] σ = some (b2 (overS t p), 0, σ) := by
  have h6 : p < 6 := by omega
  rw [eS_isOver k c hc]
  simp only [ib6 h6, ix6 h6, hr.P hp, hr.B, ↓reduceIte]
  unfold overS
  by_cases h1 : rP t p = -1
  · by_cases h2 : sB t = nI p <;> simp [h1, h2, b2]
  · simp [h1, b2]
theorem c_cnt {k c : Nat} (hc : c = 12 ∨ c = 18 ∨ c = 24) {σ : Sto} {t : St} (hr : RepS σ c t) (hN : sN t ≤ 6) {v1 v2 : Int32} : ∀ d m, m + d = sN t →
    R nS_valueOf k 35 [.ref c, .int v1, .int v2, .int (nI (cntS t m)), .int (nI m)] [] σ = some (nI (cntS t (sN t)), 0, σ) := by
  intro d
  induction d with
  | zero =>
    intro m hm
    rw [eS_valueOf_35 k c hc, hr.n, if_neg (nI_nlt (by omega) (by omega)), show m = sN t by omega]
  | succ d ih =>
    intro m hm
    have h1 : m < sN t := by omega
    have h6 : m < 6 := by omega
    have h2 := ih (m + 1) (by omega)
    have h3 : cntS t (m + 1) = if seenS t m = true then cntS t m + 1 else cntS t m := rfl
    rw [eS_valueOf_35 k c hc, hr.n, if_pos (nI_lt h1 (by omega))]
    simp only [ib6 h6, ix6 h6, hr.P h1, hr.D h1, ↓reduceIte, nI_1]
    rw [h3] at h2
    unfold seenS at h2
    by_cases h4 : rP t m = -1
    · simp [h4] at h2 ⊢
      exact h2
    · by_cases h5 : rD t m = 0
      · simp [h4, h5] at h2 ⊢
        exact h2
      · simp [h4, h5] at h2 ⊢
        exact h2
theorem c_val {k c : Nat} (hc : c = 12 ∨ c = 18 ∨ c = 24) {σ : Sto} {t : St} (hr : RepS σ c t) (hN : sN t ≤ 6) {p : Nat} (hp : p < sN t) (x : Int32) : C nS_valueOf k [.ref c, .int x, .int (nI p)] σ = some (envS t p x, 0, σ) := by
  have h6 : p < 6 := by omega
  have h0 : R nS_valueOf k 35 [.ref c, .int x, .int (nI p), .int 0, .int 0] [] σ = some (nI (cntS t (sN t)), 0, σ) := c_cnt hc hr hN (sN t) 0 (Nat.zero_add _)
  rw [eS_valueOf k c hc]
  simp only [ib6 h6, ix6 h6, hr.P hp, hr.M hp, hr.W hp, hr.F, hr.H, h0, ↓reduceIte]
  unfold envS
  by_cases h1 : x = -6
  · rw [if_pos h1, if_pos h1]
  rw [if_neg h1, if_neg h1]
  by_cases h1 : x = -5
  · rw [if_pos h1, if_pos h1]
  rw [if_neg h1, if_neg h1]
  by_cases h1 : x = -4
  · rw [if_pos h1, if_pos h1]
  rw [if_neg h1, if_neg h1]
  by_cases h1 : x = -3
  · rw [if_pos h1, if_pos h1]
  rw [if_neg h1, if_neg h1]
  by_cases h1 : x = -2
  · rw [if_pos h1, if_pos h1]
  rw [if_neg h1, if_neg h1]
  by_cases h1 : x = -1
  · rw [if_pos h1, if_pos h1]
    split <;> rfl
  rw [if_neg h1, if_neg h1]
theorem c_joined {k : Nat} (c x y : Int32) (σ : Sto) : C nT_joined k [.int c, .int x, .int y] σ = some (joinS c x y, 0, σ) := by
  rw [eT_joined k]
  unfold joinS
  by_cases h1 : c = -15
  · rw [if_pos h1, if_pos h1]
  rw [if_neg h1, if_neg h1]
  by_cases h1 : c = -14
  · rw [if_pos h1, if_pos h1]
  rw [if_neg h1, if_neg h1]
  by_cases h1 : c = -13
  · rw [if_pos h1, if_pos h1]
  rw [if_neg h1, if_neg h1]
  by_cases h1 : c = -12
  · rw [if_pos h1, if_pos h1]
    split <;> rfl
  rw [if_neg h1, if_neg h1]
  by_cases h1 : c = -11
  · rw [if_pos h1, if_pos h1]
    split <;> rfl
  rw [if_neg h1, if_neg h1]
  by_cases h1 : c = -10
  · rw [if_pos h1, if_pos h1]
    split
    · rfl
    · split <;> rfl
  rw [if_neg h1, if_neg h1]
  by_cases h1 : c = -9
  · rw [if_pos h1, if_pos h1]
    split
    · split <;> rfl
    · rfl
  rw [if_neg h1, if_neg h1]
def PileR (r : Rw) : List Int32 → Prop
  | [] => True
  | x :: l => r l.length = x ∧ PileR r l
theorem PileR.up {r : Rw} {v : Int32} {i : Nat} : ∀ {l : List Int32}, PileR r l → l.length ≤ i → PileR (upd r i v) l := by
  intro l
  induction l with
  | nil => intro _ _; trivial
  | cons x l ih =>
    intro h hi
    rw [List.length_cons] at hi
    exact ⟨by rw [upd_n (by omega)]; exact h.1, ih h.2 (by omega)⟩
theorem PileR.push {r : Rw} {v : Int32} {l : List Int32} (h : PileR r l) : PileR (upd r l.length v) (v :: l) := ⟨upd_s, h.up (Nat.le_refl _)⟩
def tp : Nat → Int32
  | 0 => -1
  | n + 1 => nI n
theorem tp_1 (n : Nat) : tp n + 1 = nI n := by
  cases n with
  | zero => decide
  | succ n => exact nI_1 n
theorem tp_m (n : Nat) : tp (n + 1) + (-1) = tp n := by
  cases n with
  | zero => decide
  | succ n =>
    show nI (n + 1) + -1 = nI n
    rw [← nI_pred n, Int32.sub_eq_add_neg]
theorem tp_neg : tp 0 < 0 := by decide
theorem su6 {σ : Sto} {i : Nat} {v : Int32} : su σ 6 i v 6 = upd (σ 6) i v := su_row
theorem c_saysL {k c : Nat} (hc : c = 12 ∨ c = 18 ∨ c = 24) {t : St} (hN : sN t ≤ 6) {p part q : Nat} (hp : p < sN t) (hpart : part < 3) (hq : q < 18) : ∀ (cs st : List Int32) (σ : Sto) (m : Nat) (u : Value), PileR (σ 6) st → RepS σ c t →
    σ 5 q = nI (m + cs.length) → (∀ j x, cs[j]? = some x → σ 3 (m + j) = x) → m + cs.length ≤ 960 → st.length + cs.length ≤ 160 → wfL st.length cs = some 1 →
    ∃ σ', R nT_says k 14 [.ref 2, .int (nI part), .ref c, .int (nI p), .int (nI q), .int (tp st.length), .int (nI m), u] [] σ = some (clampS (if part = 0 then 0 else -99) (headI (evC (envS t p) cs st)), 0, σ') ∧ Fr [6] σ σ' := by
  intro cs
  induction cs with
  | nil =>
    intro st σ m u hP hr h5 h3 hm hl hw
    have hq1 : inb (nI q) 18 = true := ib hq (by decide)
    have hq2 : (nI q).toNatClampNeg = q := ix hq (by decide)
    have e0 : ([] : List Int32).length = 0 := rfl
    rw [e0, Nat.add_zero] at h5
    rw [eT_says_14 k c hc, if_pos hq1, hq2, h5, if_neg (nI_nlt (Nat.le_refl _) (by omega)), eT_says_99 k c hc]
    have hd : st.length = 1 := Option.some.inj hw
    match st, hd, hP with
    | [x], _, hP =>
      have h6 : σ 6 0 = x := hP.1
      have e1 : tp [x].length = nI 0 := rfl
      rw [e1, if_neg (by decide : ¬ nI 0 < 0), if_pos (by decide : inb (nI 0) 160 = true)]
      have e2 : (nI 0).toNatClampNeg = 0 := by decide
      rw [e2, h6]
      refine ⟨σ, ?_, Fr.rf⟩
      by_cases h0 : part = 0
      · subst h0
        rw [if_pos (by decide : nI 0 = 0)]
        rfl
      · have h01 : ¬ nI part = 0 := nI_ne0 (by omega) (by omega)
        rw [if_neg h01, if_neg h0]
        rfl
  | cons z cs ih =>
    intro st σ m u hP hr h5 h3 hm hl hw
    rw [List.length_cons] at h5 hm hl
    have hq1 : inb (nI q) 18 = true := ib hq (by decide)
    have hq2 : (nI q).toNatClampNeg = q := ix hq (by decide)
    have hm1 : inb (nI m) 960 = true := ib (by omega) (by decide)
    have hm2 : (nI m).toNatClampNeg = m := ix (n := 960) (by omega) (by decide)
    have hz : σ 3 m = z := h3 0 z rfl
    have h3' : ∀ j x, cs[j]? = some x → σ 3 (m + 1 + j) = x := by
      intro j x hj
      have := h3 (j + 1) x (by rw [List.getElem?_cons_succ]; exact hj)
      rw [← this]
      congr 1
      omega
    have h5' : σ 5 q = nI (m + 1 + cs.length) := by
      rw [h5]
      congr 1
      omega
    rw [eT_says_14 k c hc, if_pos hq1, hq2, h5, if_pos (nI_lt (by omega) (by omega)), eT_says_20 k c hc, if_pos hm1, hm2, hz]
    by_cases hz6 : z < -6
    · rw [if_pos hz6, eT_says_47 k c hc]
      by_cases hz8 : z < -8
      · rw [if_pos hz8]
        match st, hP, hl, hw with
        | y :: x :: st, hP, hl, hw =>
          have hw' : wfL (st.length + 1) cs = some 1 := by
            have h0 : wfL (st.length + 2) (z :: cs) = if z < -6 then (if z < -8 then wfL (st.length + 1) cs else wfL (st.length + 2) cs) else wfL (st.length + 3) cs := rfl
            have h1 : wfL (st.length + 2) (z :: cs) = some 1 := hw
            rw [h0, if_pos hz6, if_pos hz8] at h1
            exact h1
          rw [List.length_cons, List.length_cons] at hl
          rw [List.length_cons, List.length_cons, tp_m, eT_says_77 k c hc]
          have e1 : tp (st.length + 1) = nI st.length := rfl
          have i1 : inb (nI st.length) 160 = true := ib (by omega) (by decide)
          have i2 : inb (nI (st.length + 1)) 160 = true := ib (by omega) (by decide)
          have i3 : (nI st.length).toNatClampNeg = st.length := ix (n := 160) (by omega) (by decide)
          have i4 : (nI (st.length + 1)).toNatClampNeg = st.length + 1 := ix (n := 160) (by omega) (by decide)
          have p1 : σ 6 (st.length + 1) = y := hP.1
          have p2 : σ 6 st.length = x := hP.2.1
          rw [e1, if_neg (nI_pos (by omega)), if_pos i1, nI_1, if_pos i2, i3, i4, p1, p2, c_joined, bs]
          simp only [i1, ↓reduceIte, nI_1]
          obtain ⟨σ', e, f⟩ := ih (joinS z x y :: st) (su σ 6 st.length (joinS z x y)) (m + 1) (.int z) (by rw [su6]; exact hP.2.2.push) (hr.f6 hc (Fr.rf.su (List.mem_singleton.mpr rfl)))
            (by rw [su_ne (by decide)]; exact h5') (by rw [su_ne (by decide)]; exact h3') (by omega) (by rw [List.length_cons]; omega) hw'
          refine ⟨σ', ?_, (Fr.rf.su (List.mem_singleton.mpr rfl)).tr f⟩
          have e3 : evC (envS t p) (z :: cs) (y :: x :: st) = evC (envS t p) cs (joinS z x y :: st) := by
            show evC (envS t p) cs (stepC (envS t p) z (y :: x :: st)) = _
            unfold stepC
            rw [if_pos hz6, if_pos hz8]
          rw [e3]
          exact e
        | [x], hP, hl, hw =>
          have h0 : wfL 1 (z :: cs) = if z < -6 then (if z < -8 then none else wfL 1 cs) else wfL 2 cs := rfl
          have h1 : wfL 1 (z :: cs) = some 1 := hw
          rw [h0, if_pos hz6, if_pos hz8] at h1
          cases h1
        | [], hP, hl, hw =>
          have h0 : wfL 0 (z :: cs) = if z < -6 then (if z < -8 then none else none) else wfL 1 cs := rfl
          have h1 : wfL 0 (z :: cs) = some 1 := hw
          rw [h0, if_pos hz6, if_pos hz8] at h1
          cases h1
      · rw [if_neg hz8]
        match st, hP, hl, hw with
        | [], hP, hl, hw =>
          have h0 : wfL 0 (z :: cs) = if z < -6 then (if z < -8 then none else none) else wfL 1 cs := rfl
          have h1 : wfL 0 (z :: cs) = some 1 := hw
          rw [h0, if_pos hz6, if_neg hz8] at h1
          cases h1
        | x :: st, hP, hl, hw =>
          have hw' : wfL (st.length + 1) cs = some 1 := by
            have h1 : wfL (st.length + 1) (z :: cs) = some 1 := hw
            have h0 : ∀ d, wfL (d + 1) (z :: cs) = if z < -6 then (if z < -8 then (match d + 1 with | d + 2 => wfL (d + 1) cs | _ => none) else wfL (d + 1) cs) else wfL (d + 2) cs := fun _ => rfl
            rw [h0, if_pos hz6, if_neg hz8] at h1
            exact h1
          rw [List.length_cons] at hl
          have e1 : tp (x :: st).length = nI st.length := rfl
          have i1 : inb (nI st.length) 160 = true := ib (by omega) (by decide)
          have i3 : (nI st.length).toNatClampNeg = st.length := ix (n := 160) (by omega) (by decide)
          have p1 : σ 6 st.length = x := hP.1
          have p2 : PileR (σ 6) st := hP.2
          have fin : ∀ v, v = (if z = -7 then -x else if x = 0 then 1 else 0) → ∃ σ', R nT_says k 14 [.ref 2, .int (nI part), .ref c, .int (nI p), .int (nI q), .int (nI st.length), .int (nI (m + 1)), .int z] [] (su σ 6 st.length v) =
              some (clampS (if part = 0 then 0 else -99) (headI (evC (envS t p) (z :: cs) (x :: st))), 0, σ') ∧ Fr [6] σ σ' := by
            intro v hv
            obtain ⟨σ', e, f⟩ := ih (v :: st) (su σ 6 st.length v) (m + 1) (.int z) (by rw [su6]; exact p2.push) (hr.f6 hc (Fr.rf.su (List.mem_singleton.mpr rfl)))
              (by rw [su_ne (by decide)]; exact h5') (by rw [su_ne (by decide)]; exact h3') (by omega) (by rw [List.length_cons]; omega) hw'
            refine ⟨σ', ?_, (Fr.rf.su (List.mem_singleton.mpr rfl)).tr f⟩
            have e3 : evC (envS t p) (z :: cs) (x :: st) = evC (envS t p) cs (v :: st) := by
              show evC (envS t p) cs (stepC (envS t p) z (x :: st)) = _
              unfold stepC
              rw [if_pos hz6, if_neg hz8, hv]
            rw [e3]
            exact e
          rw [e1, if_neg (nI_pos (by omega))]
          simp only [i1, i3, p1, ↓reduceIte, nI_1]
          by_cases hz7 : z = -7
          · rw [if_pos hz7]
            exact fin _ (by rw [if_pos hz7])
          · rw [if_neg hz7]
            by_cases hx : x = 0
            · rw [if_pos hx]
              exact fin _ (by rw [if_neg hz7, if_pos hx])
            · rw [if_neg hx]
              exact fin _ (by rw [if_neg hz7, if_neg hx])
    · rw [if_neg hz6, eT_says_28 k c hc, tp_1]
      have i1 : inb (nI st.length) 160 = true := ib (by omega) (by decide)
      have i3 : (nI st.length).toNatClampNeg = st.length := ix (n := 160) (by omega) (by decide)
      have hw' : wfL (st.length + 1) cs = some 1 := by
        have h0 : ∀ d, wfL d (z :: cs) = if z < -6 then (if z < -8 then (match d with | d + 2 => wfL (d + 1) cs | _ => none) else (match d with | d + 1 => wfL (d + 1) cs | _ => none)) else wfL (d + 1) cs := fun _ => rfl
        rw [h0, if_neg hz6] at hw
        exact hw
      have fin : ∀ v, v = (if z < 0 then envS t p z else z) → ∃ σ', R nT_says k 14 [.ref 2, .int (nI part), .ref c, .int (nI p), .int (nI q), .int (nI st.length), .int (nI (m + 1)), .int z] [] (su σ 6 st.length v) =
          some (clampS (if part = 0 then 0 else -99) (headI (evC (envS t p) (z :: cs) st)), 0, σ') ∧ Fr [6] σ σ' := by
        intro v hv
        obtain ⟨σ', e, f⟩ := ih (v :: st) (su σ 6 st.length v) (m + 1) (.int z) (by rw [su6]; exact hP.push) (hr.f6 hc (Fr.rf.su (List.mem_singleton.mpr rfl)))
          (by rw [su_ne (by decide)]; exact h5') (by rw [su_ne (by decide)]; exact h3') (by omega) (by rw [List.length_cons]; omega) hw'
        refine ⟨σ', ?_, (Fr.rf.su (List.mem_singleton.mpr rfl)).tr f⟩
        have e3 : evC (envS t p) (z :: cs) st = evC (envS t p) cs (v :: st) := by
          show evC (envS t p) cs (stepC (envS t p) z st) = _
          unfold stepC
          rw [if_neg hz6, hv]
        rw [e3]
        exact e
      rw [if_pos (show nI st.length < 160 from nI_lt (b := 160) (by omega) (by decide))]
      by_cases h0 : z < 0
      · rw [if_pos h0, c_val hc hr hN hp, bs]
        simp only [i1, i3, ↓reduceIte, nI_1]
        exact fin _ (by rw [if_pos h0])
      · rw [if_neg h0]
        simp only [i1, i3, ↓reduceIte, nI_1]
        exact fin _ (by rw [if_neg h0])
theorem nI_3 (a b : Nat) : nI a * 3 + nI b = nI (3 * a + b) := by
  show nI a * nI 3 + nI b = _
  rw [pk_mul, nI_add, Nat.mul_comm]
theorem c_says {k c : Nat} (hc : c = 12 ∨ c = 18 ∨ c = 24) {σ : Sto} {t : St} {TX : TXT} {K : Nat} (hr : RepS σ c t) (hx : TxS σ TX K) (hN : sN t ≤ 6) (hL : sL t < K) (hT : wfT TX K) {p part : Nat} (hp : p < sN t) (hpart : part < 3) :
    ∃ σ', C nT_says k [.ref 2, .int (nI part), .ref c, .int (nI p)] σ = some (saysS TX t part p, 0, σ') ∧ Fr [6] σ σ' := by
  have hL6 : sL t < 6 := Nat.lt_of_lt_of_le hL hT.1
  obtain ⟨h1, h2, h3⟩ := hT.2 (sL t) hL part hpart
  obtain ⟨b, hb, hf, hto, hcode⟩ := hx (sL t) hL part hpart
  rw [eT_says k c hc, hr.L, nI_3, if_pos (ib (by omega) (by decide)), ix (n := 18) (by omega) (by decide), hf]
  exact c_saysL hc hN hp hpart (by omega) (TX (sL t) part) [] σ b .null trivial hr hto hcode (by omega) (by rw [List.length_nil]; omega) h1
