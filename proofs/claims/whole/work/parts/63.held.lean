/-! THE MODEL'S HELD SIGNS. A sign is told by the component's number for it, 1 is an open parenthesis. -/
def hm (x : Int32) : Int32 := if x = 1 then 0 else phi x
def rkN (x : Int32) : Nat := if x = 1 then 0 else if x = -9 then 1 else if x = -10 then 2 else if x = -8 then 3 else if x = -11 then 4 else if x = -12 then 4 else if x = -13 then 5 else if x = -14 then 5 else if x = -15 then 6 else 7
def HL : List Int32 := [1, -7, -8, -9, -10, -11, -12, -13, -14, -15]
def opB (x : Int32) : Bool := decide (x = 1) || decide (x = -8) || decide (x = -7)
def cntO : List Int32 → Nat
  | [] => 0
  | h :: H => (if opB h = true then 1 else 0) + cntO H
theorem cnt_le : ∀ l, cntO l ≤ l.length := by
  intro l
  induction l with
  | nil => exact Nat.le_refl _
  | cons z l ih =>
    show (if opB z = true then 1 else 0) + cntO l ≤ l.length + 1
    split <;> omega
def HR (f : Rw) : List Int32 → Prop
  | [] => True
  | x :: l => f l.length = hm x ∧ HR f l
theorem HR.up {f : Rw} {v : Int32} {i : Nat} : ∀ {l : List Int32}, HR f l → l.length ≤ i → HR (upd f i v) l := by
  intro l
  induction l with
  | nil => intro _ _; trivial
  | cons x l ih =>
    intro h hi
    rw [List.length_cons] at hi
    exact ⟨by rw [upd_n (by omega)]; exact h.1, ih h.2 (by omega)⟩
def MS (K : Nat) (cs H : List Int32) (τ : Sto) : Prop := τ 30 9 = nI K ∧ τ 30 26 = nI cs.length ∧ (∀ j x, cs[j]? = some x → τ 36 (200 * K + j) = phi x) ∧ τ 30 24 = nI H.length ∧ HR (τ 45) H ∧ τ 30 25 = nI (cntO H) ∧ ∀ x ∈ H, x ∈ HL
/-- the signs' work changes no more than this -/
def Fo (K : Nat) (τ τ' : Sto) : Prop := Fr [30, 36, 45] τ τ' ∧ (∀ i, i < 24 ∨ 26 < i → τ' 30 i = τ 30 i) ∧ ∀ j, j < 200 * K → τ' 36 j = τ 36 j
theorem Fo.rf {K : Nat} {σ : Sto} : Fo K σ σ := ⟨Fr.rf, fun _ _ => rfl, fun _ _ => rfl⟩
theorem Fo.tr {K : Nat} {σ σ1 σ2 : Sto} (h1 : Fo K σ σ1) (h2 : Fo K σ1 σ2) : Fo K σ σ2 := ⟨h1.1.tr h2.1, fun i hi => (h2.2.1 i hi).trans (h1.2.1 i hi), fun j hj => (h2.2.2 j hj).trans (h1.2.2 j hj)⟩
theorem Fo.s30 {K : Nat} {σ σ' : Sto} (h : Fo K σ σ') {i : Nat} {v : Int32} (h3 : 24 ≤ i) (h6 : i ≤ 26) : Fo K σ (su σ' 30 i v) := ⟨h.1.su (by decide), fun j hj => (su_o (by omega)).trans (h.2.1 j hj), fun j hj => by rw [su_ne (by decide)]; exact h.2.2 j hj⟩
theorem Fo.s36 {K : Nat} {σ σ' : Sto} (h : Fo K σ σ') {i : Nat} {v : Int32} (h3 : 200 * K ≤ i) : Fo K σ (su σ' 36 i v) := ⟨h.1.su (by decide), fun j hj => by rw [su_ne (by decide)]; exact h.2.1 j hj, fun j hj => (su_o (by omega)).trans (h.2.2 j hj)⟩
theorem Fo.s45 {K : Nat} {σ σ' : Sto} (h : Fo K σ σ') {i : Nat} {v : Int32} : Fo K σ (su σ' 45 i v) := ⟨h.1.su (by decide), fun j hj => by rw [su_ne (by decide)]; exact h.2.1 j hj, fun j hj => by rw [su_ne (by decide)]; exact h.2.2 j hj⟩
theorem BasM.fo {K : Nat} {r : Rw} {n : Nat} {σ σ' : Sto} (h : BasM r n σ) (hf : Fo K σ σ') : BasM r n σ' := ⟨(hf.2.1 6 (by omega)).trans h.1, fun i hi => by rw [hf.1 35 (by decide)]; exact h.2 i hi⟩
theorem Wrd.fo {K : Nat} {σ σ' : Sto} (h : Wrd σ) (hf : Fo K σ σ') : Wrd σ' := fun k c hk hc => by rw [hf.1 44 (by decide)]; exact h k c hk hc
theorem MS.fn {K : Nat} {cs H : List Int32} {σ σ' : Sto} (h : MS K cs H σ) (hf : Fn σ σ') : MS K cs H σ' := by
  unfold MS
  rw [hf.2 9 (by omega), hf.2 26 (by omega), hf.2 24 (by omega), hf.2 25 (by omega), hf.1 36 (by decide), hf.1 45 (by decide)]
  exact h
theorem d_rank : ∀ x ∈ HL, rkN x < 8 ∧ (rkN x = 0 ↔ x = 1) := by decide +kernel
theorem m_rank {k : Nat} {x : Int32} (hx : x ∈ HL) {τ : Sto} : C nM_rank k [.int (hm x)] τ = some (nI (rkN x), 0, τ) := by
  rw [eM_rank k]
  unfold HL at hx
  simp only [List.mem_cons, List.not_mem_nil, or_false] at hx
  rcases hx with h | h | h | h | h | h | h | h | h | h <;> (subst h; rfl)
theorem i200 (K m : Nat) : 200 * nI K + nI m = nI (200 * K + m) := by
  show nI 200 * nI K + nI m = _
  rw [pk_mul, nI_add]
theorem get_app {cs : List Int32} {v x : Int32} {j : Nat} (h : (cs ++ [v])[j]? = some x) : (j < cs.length ∧ cs[j]? = some x) ∨ (j = cs.length ∧ x = v) := by
  rw [List.getElem?_append] at h
  by_cases hl : j < cs.length
  · rw [if_pos hl] at h
    exact Or.inl ⟨hl, h⟩
  · rw [if_neg hl] at h
    have h0 : j - cs.length = 0 := by
      match hj : j - cs.length, h with
      | 0, _ => rfl
      | m + 1, h => cases h
    rw [h0] at h
    cases h
    exact Or.inr ⟨by omega, rfl⟩
theorem m_puts {k K : Nat} {cs H : List Int32} {τ : Sto} (h : MS K cs H τ) (hK : K < 6) (hl : cs.length < 200) (x : Int32) : ∃ τ', C nM_puts k [.ref 30, .int (phi x)] τ = some (0, 0, τ') ∧ MS K (cs ++ [x]) H τ' ∧ Fo K τ τ' := by
  obtain ⟨h1, h2, h3, h4, h5, h6, h7⟩ := h
  rw [eM_puts k, h1, h2, i200, if_pos (ibn (show 200 * K + cs.length < 1200 by omega) (by omega)), ixn (by omega), su_ne (show 30 ≠ 36 by decide), h2, nI_1]
  refine ⟨_, rfl, ⟨?_, ?_, fun j y hj => ?_, ?_, ?_, ?_, h7⟩, (Fo.rf.s36 (by omega)).s30 (by omega) (by omega)⟩
  · rw [su_o (by decide), su_ne (by decide)]; exact h1
  · rw [su_e, List.length_append]; rfl
  · rw [su_ne (by decide)]
    rcases get_app hj with ⟨a1, a2⟩ | ⟨a1, a2⟩
    · rw [su_o (by omega)]; exact h3 j y a2
    · rw [a1, a2, su_e]
  · rw [su_o (by decide), su_ne (by decide)]; exact h4
  · rw [su_ne (by decide), su_ne (by decide)]; exact h5
  · rw [su_o (by decide), su_ne (by decide)]; exact h6
def unwS (q : Nat) : List Int32 → List Int32 → List Int32 × List Int32
  | cs, [] => (cs, [])
  | cs, h :: H => if q ≤ rkN h then unwS q (cs ++ [h]) H else (cs, h :: H)
theorem unw_len {q : Nat} : ∀ (H cs : List Int32), (unwS q cs H).1.length + (unwS q cs H).2.length = cs.length + H.length := by
  intro H
  induction H with
  | nil => intro cs; rfl
  | cons h H ih =>
    intro cs
    show (if q ≤ rkN h then unwS q (cs ++ [h]) H else (cs, h :: H)).1.length + (if q ≤ rkN h then unwS q (cs ++ [h]) H else (cs, h :: H)).2.length = _
    split
    · rw [ih, List.length_append, List.length_singleton, List.length_cons]; omega
    · rfl
theorem d_hm : ∀ x ∈ HL, (hm x = 13 ↔ x = -8) ∧ (hm x = 19 ↔ x = -7) ∧ (¬ x = 1 → hm x = phi x) := by decide +kernel
theorem m_unwL {k K q : Nat} (hK : K < 6) (hq1 : 1 ≤ q) (hq : q < 8) : ∀ (H cs : List Int32) (τ : Sto) (v2 : Int32), MS K cs H τ → cs.length + H.length < 200 →
    ∃ τ', R nM_unwinds k 0 [.ref 30, .int (nI q), .int v2] [] τ = some (0, 0, τ') ∧ MS K (unwS q cs H).1 (unwS q cs H).2 τ' ∧ Fo K τ τ' := by
  intro H
  induction H with
  | nil =>
    intro cs τ v2 h hl
    have h4 : τ 30 24 = nI 0 := h.2.2.2.1
    rw [eM_unwinds_0 k, h4, if_neg (by decide)]
    exact ⟨τ, rfl, h, Fo.rf⟩
  | cons x H ih =>
    intro cs τ v2 h hl
    obtain ⟨h1, h2, h3, h4, h5, h6, h7⟩ := h
    have hx := h7 x List.mem_cons_self
    have dr := d_rank x hx
    rw [List.length_cons] at h4 hl
    have e5 : τ 45 H.length = hm x := h5.1
    have eu : unwS q cs (x :: H) = if q ≤ rkN x then unwS q (cs ++ [x]) H else (cs, x :: H) := rfl
    have es : nI (H.length + 1) - 1 = nI H.length := nI_subN (n := H.length + 1) (m := 1) (by omega) (by omega)
    rw [eM_unwinds_0 k, h4, if_pos (show (0 : Int32) < nI (H.length + 1) from nI_lt (a := 0) (by omega) (by omega)), es, if_pos (ibn (show H.length < 200 by omega) (by omega)), ixn (by omega), e5, m_rank hx, bs]
    by_cases hr : q ≤ rkN x
    · rw [if_neg (show ¬ (nI (rkN x), (0 : Int64), τ).1 < nI q from nI_nlt hr (by omega))]
      dsimp only
      rw [if_pos hr] at eu
      have hx1 : ¬ x = 1 := fun e => by have := dr.2.mpr e; omega
      have dh := d_hm x hx
      obtain ⟨σb, eb⟩ : ∃ σb, σb = su τ 30 24 (τ 30 24 - 1) := ⟨_, rfl⟩
      rw [← eb]
      have b24 : σb 30 24 = nI H.length := by rw [eb, su_e, h4, es]
      have b25 : σb 30 25 = nI (cntO (x :: H)) := by rw [eb, su_o (by decide)]; exact h6
      have b45 : σb 45 = τ 45 := by rw [eb, su_ne (by decide)]
      have fb : Fo K τ σb := by rw [eb]; exact Fo.rf.s30 (by omega) (by omega)
      have mk : ∀ v, v = nI (cntO H) → MS K cs H (su σb 30 25 v) := by
        intro v hv
        have f2 : Fo K τ (su σb 30 25 v) := fb.s30 (by omega) (by omega)
        refine ⟨(f2.2.1 9 (by omega)).trans h1, ?_, fun j y hj => ?_, ?_, ?_, ?_, fun y hy => h7 y (List.mem_cons_of_mem _ hy)⟩
        · rw [su_o (by decide), eb, su_o (by decide)]; exact h2
        · rw [su_ne (by decide), eb, su_ne (by decide)]; exact h3 j y hj
        · rw [su_o (by decide)]; exact b24
        · rw [su_ne (by decide), b45]; exact h5.2
        · rw [su_e, hv]
      have fin : ∀ v, v = nI (cntO H) → ∃ τ', ((C nM_puts k [.ref 30, .int (hm x)] (su σb 30 25 v)).bind fun r2 => R nM_unwinds k 0 [.ref 30, .int (nI q), .int (hm x)] [] r2.2.2) = some (0, 0, τ') ∧ MS K (unwS q cs (x :: H)).1 (unwS q cs (x :: H)).2 τ' ∧ Fo K τ τ' := by
        intro v hv
        obtain ⟨τ1, e1, m1, f1⟩ := m_puts (k := k) (mk v hv) hK (by omega) x
        obtain ⟨τ2, e2, m2, f2⟩ := ih (cs ++ [x]) τ1 (hm x) m1 (by rw [List.length_append, List.length_singleton]; omega)
        rw [dh.2.2 hx1, e1, bs]; (try dsimp only); rw [eu]
        rw [dh.2.2 hx1] at e2
        exact ⟨τ2, e2, m2, ((fb.s30 (by omega) (by omega)).tr f1).tr f2⟩
      have ec : cntO (x :: H) = (if opB x = true then 1 else 0) + cntO H := rfl
      have c45 : σb 45 (σb 30 24).toNatClampNeg = hm x := by rw [b24, ixn (by omega), b45, e5]
      rw [if_pos (show inb (σb 30 24) 200 = true from by rw [b24]; exact ibn (show H.length < 200 by omega) (by omega)), c45, b25, ec]
      by_cases h13 : x = -8
      · rw [if_pos (dh.1.mpr h13), if_pos (show opB x = true from by rw [h13]; decide)]
        exact fin _ (by rw [Nat.add_comm]; exact nI_subN (n := cntO H + 1) (m := 1) (by omega) (by have := cnt_le H; omega))
      · rw [if_neg (fun e => h13 (dh.1.mp e))]
        by_cases h19 : x = -7
        · rw [if_pos (dh.2.1.mpr h19), if_pos (show opB x = true from by rw [h19]; decide)]
          exact fin _ (by rw [Nat.add_comm]; exact nI_subN (n := cntO H + 1) (m := 1) (by omega) (by have := cnt_le H; omega))
        · rw [if_neg (fun e => h19 (dh.2.1.mp e)), if_neg (show ¬ opB x = true from by unfold opB; rw [decide_eq_false hx1, decide_eq_false h13, decide_eq_false h19]; decide), Nat.zero_add, Int32.sub_zero]
          exact fin _ rfl
    · rw [if_pos (show (nI (rkN x), (0 : Int64), τ).1 < nI q from nI_lt (by omega) (by omega)), eu, if_neg hr]
      exact ⟨τ, rfl, ⟨h1, h2, h3, h4, h5, h6, h7⟩, Fo.rf⟩
theorem m_unwinds {k K q : Nat} (hK : K < 6) (hq1 : 1 ≤ q) (hq : q < 8) {cs H : List Int32} {τ : Sto} (h : MS K cs H τ) (hl : cs.length + H.length < 200) :
    ∃ τ', C nM_unwinds k [.ref 30, .int (nI q)] τ = some (0, 0, τ') ∧ MS K (unwS q cs H).1 (unwS q cs H).2 τ' ∧ Fo K τ τ' := by
  obtain ⟨τ', e, m, f⟩ := m_unwL (k := k) hK hq1 hq H cs τ 0 h hl
  exact ⟨τ', ((eM_unwinds k (nI q) τ).trans (eM_unwinds_0 k (nI q) 0 τ).symm).trans e, m, f⟩
theorem m_holds0 {k K : Nat} {cs H : List Int32} {τ : Sto} {x : Int32} (hx : x ∈ HL) (hl : H.length < 200) (h1 : τ 30 9 = nI K) (h2 : τ 30 26 = nI cs.length) (h3 : ∀ j x, cs[j]? = some x → τ 36 (200 * K + j) = phi x) (h4 : τ 30 24 = nI H.length) (h5 : HR (τ 45) H)
    (h6 : τ 30 25 = nI (cntO (x :: H))) (h7 : ∀ x ∈ H, x ∈ HL) : ∃ τ', C nM_holds k [.ref 30, .int (hm x)] τ = some (0, 0, τ') ∧ MS K cs (x :: H) τ' ∧ Fo K τ τ' := by
  rw [eM_holds k, h4, if_pos (ibn hl (by omega)), ixn (by omega), su_ne (show 30 ≠ 45 by decide), h4, nI_1]
  refine ⟨_, rfl, ⟨?_, ?_, fun j y hj => ?_, su_e, ⟨?_, ?_⟩, ?_, fun y hy => ?_⟩, Fo.rf.s45.s30 (by omega) (by omega)⟩
  · rw [su_o (by decide), su_ne (by decide)]; exact h1
  · rw [su_o (by decide), su_ne (by decide)]; exact h2
  · rw [su_ne (by decide), su_ne (by decide)]; exact h3 j y hj
  · rw [su_ne (by decide), su_e]
  · rw [su_ne (by decide), su_row]; exact h5.up (Nat.le_refl _)
  · rw [su_o (by decide), su_ne (by decide)]; exact h6
  · rcases List.mem_cons.mp hy with e | e
    · rw [e]; exact hx
    · exact h7 y e
theorem m_holds {k K : Nat} {cs H : List Int32} {τ : Sto} (h : MS K cs H τ) {x : Int32} (hx : x ∈ HL) (ho : opB x = false) (hl : H.length < 200) : ∃ τ', C nM_holds k [.ref 30, .int (hm x)] τ = some (0, 0, τ') ∧ MS K cs (x :: H) τ' ∧ Fo K τ τ' := by
  obtain ⟨h1, h2, h3, h4, h5, h6, h7⟩ := h
  refine m_holds0 hx hl h1 h2 h3 h4 h5 ?_ h7
  show τ 30 25 = nI ((if opB x = true then 1 else 0) + cntO H)
  rw [ho, if_neg (by decide), Nat.zero_add]
  exact h6
theorem m_opens {k K : Nat} {cs H : List Int32} {τ : Sto} (h : MS K cs H τ) {x : Int32} (hx : x ∈ HL) (ho : opB x = true) (hl : H.length < 200) (hc : ¬ cntO H = 5) : ∃ τ', C nM_opensOne k [.ref 30, .int (hm x)] τ = some (1, 0, τ') ∧ MS K cs (x :: H) τ' ∧ Fo K τ τ' := by
  obtain ⟨h1, h2, h3, h4, h5, h6, h7⟩ := h
  have hcl := cnt_le H
  obtain ⟨τ', e, m, f⟩ := m_holds0 (k := k) (τ := su τ 30 25 (nI (cntO H + 1))) hx hl (by rw [su_o (by decide)]; exact h1) (by rw [su_o (by decide)]; exact h2) (fun j y hj => by rw [su_ne (by decide)]; exact h3 j y hj) (by rw [su_o (by decide)]; exact h4) (by rw [su_ne (by decide)]; exact h5)
    (by rw [su_e]; show nI (cntO H + 1) = nI ((if opB x = true then 1 else 0) + cntO H); rw [ho, if_pos rfl, Nat.add_comm]) h7
  rw [eM_opensOne k, h6, if_neg (show ¬ nI (cntO H) = 5 from fun e => hc (nI_inj (b := 5) (by omega) (by omega) e)), nI_1, e, bs]
  exact ⟨τ', rfl, m, (Fo.rf.s30 (by omega) (by omega)).tr f⟩
theorem m_opens0 {k K : Nat} {cs H : List Int32} {τ : Sto} (h : MS K cs H τ) {x : Int32} (hc : cntO H = 5) : C nM_opensOne k [.ref 30, .int x] τ = some (0, 0, τ) := by
  rw [eM_opensOne k, h.2.2.2.2.2.1, hc, if_pos (by rfl)]
def topR (H : List Int32) : Nat := match H with
  | [] => 0
  | h :: _ => rkN h
def unwQ (x : Int32) : Nat := if rkN x = 4 then 5 else rkN x
theorem d_bin : ∀ x ∈ HL, ¬ x = 1 → 1 ≤ unwQ x ∧ unwQ x < 8 ∧ (nI (rkN x) = 4 ↔ rkN x = 4) := by decide +kernel
theorem m_betw {k K : Nat} {cs H : List Int32} {τ : Sto} (hK : K < 6) (h : MS K cs H τ) {x : Int32} (hx : x ∈ HL) (ho : opB x = false) (hl : cs.length + H.length < 200) :
    ∃ τ', ((rkN x = 4 ∧ topR (unwS (unwQ x) cs H).2 = 4 ∧ C nM_between k [.ref 30, .int (hm x)] τ = some (0, 0, τ')) ∨ (¬ (rkN x = 4 ∧ topR (unwS (unwQ x) cs H).2 = 4) ∧ C nM_between k [.ref 30, .int (hm x)] τ = some (1, 0, τ') ∧ MS K (unwS (unwQ x) cs H).1 (x :: (unwS (unwQ x) cs H).2) τ')) ∧ Fo K τ τ' := by
  have hx1 : ¬ x = 1 := fun e => by rw [e] at ho; exact absurd ho (by decide)
  have db := d_bin x hx hx1
  have hul := unw_len (q := unwQ x) H cs
  obtain ⟨τ1, e1, m1, f1⟩ := m_unwinds (k := k) hK db.1 db.2.1 h hl
  obtain ⟨τ2, e2, m2, f2⟩ := m_holds (k := k) m1 hx ho (by omega)
  rw [eM_between k, m_rank hx, bs]
  by_cases h4 : rkN x = 4
  · have hq : unwQ x = 5 := by unfold unwQ; rw [if_pos h4]
    rw [hq] at e1 m1 m2 hul ⊢
    rw [if_pos (show (nI (rkN x), (0 : Int64), τ).1 = 4 from db.2.2.mpr h4)]
    dsimp only
    rw [show (5 : Int32) = nI 5 from rfl, e1, bs]; (try dsimp only); rw [m_rank hx, bs]; (try dsimp only); rw [if_pos (show (nI (rkN x), (0 : Int64), τ1).1 = 4 from db.2.2.mpr h4)]
    (try dsimp only)
    obtain ⟨g1, g2, g3, g4, g5, g6, g7⟩ := m1
    cases hH : (unwS 5 cs H).2 with
    | nil =>
      rw [if_neg (show ¬ (0 : Int32) < τ1 30 24 from by rw [g4, hH]; decide), e2, bs]
      rw [hH] at m2
      exact ⟨τ2, Or.inr ⟨fun z => absurd z.2 (by decide), rfl, m2⟩, f1.tr f2⟩
    | cons y H1 =>
      rw [hH] at g4 g5 g7 m2
      have hy := g7 y List.mem_cons_self
      have dy := d_rank y hy
      have hlen : (unwS 5 cs H).2.length = H1.length + 1 := by rw [hH]; rfl
      have es : nI (H1.length + 1) - 1 = nI H1.length := nI_subN (n := H1.length + 1) (m := 1) (by omega) (by omega)
      rw [List.length_cons] at g4
      have e45 : τ1 45 (τ1 30 24 - 1).toNatClampNeg = hm y := by rw [g4, es, ixn (by omega)]; exact g5.1
      rw [if_pos (show (0 : Int32) < τ1 30 24 from by rw [g4]; exact nI_lt (a := 0) (by omega) (by omega)), if_pos (show inb (τ1 30 24 - 1) 200 = true from by rw [g4, es]; exact ibn (show H1.length < 200 by omega) (by omega)), e45, m_rank hy, bs]
      have hq4 : nI (rkN y) = 4 ↔ rkN y = 4 := ⟨fun e => nI_inj (b := 4) (by omega) (by omega) e, fun e => by rw [e]; rfl⟩
      by_cases hy4 : rkN y = 4
      · rw [if_pos (show (nI (rkN y), (0 : Int64), τ1).1 = 4 from hq4.mpr hy4)]
        exact ⟨τ1, Or.inl ⟨h4, hy4, rfl⟩, f1⟩
      · rw [if_neg (show ¬ (nI (rkN y), (0 : Int64), τ1).1 = 4 from fun e => hy4 (hq4.mp e))]
        dsimp only
        rw [e2, bs]
        exact ⟨τ2, Or.inr ⟨fun z => hy4 z.2, rfl, m2⟩, f1.tr f2⟩
  · have hq : unwQ x = rkN x := by unfold unwQ; rw [if_neg h4]
    have hne : ¬ nI (rkN x) = 4 := fun e => h4 (db.2.2.mp e)
    rw [hq] at e1 m1 m2 hul ⊢
    rw [if_neg (show ¬ (nI (rkN x), (0 : Int64), τ).1 = 4 from hne)]
    dsimp only
    rw [m_rank hx, bs]
    dsimp only
    rw [e1, bs]
    dsimp only
    rw [m_rank hx, bs]; (try dsimp only); rw [if_neg (show ¬ (nI (rkN x), (0 : Int64), τ1).1 = 4 from hne)]
    (try dsimp only)
    rw [e2, bs]
    exact ⟨τ2, Or.inr ⟨fun z => h4 z.1, rfl, m2⟩, f1.tr f2⟩
