/-! THE LEVELS OF AN E: what the component reads by descent, the model reads by held signs -/
def wfC (code : List Int32) : Prop := (∀ d k, wfL d (code ++ k) = wfL (d + 1) k) ∧ ∀ x ∈ code, -15 ≤ x.toInt ∧ x.toInt ≤ 9999
theorem wfL_v {d : Nat} {x : Int32} {k : List Int32} (h : ¬ x < -6) : wfL d (x :: k) = wfL (d + 1) k := by
  have h0 : wfL d (x :: k) = if x < -6 then (if x < -8 then (match d with | d + 2 => wfL (d + 1) k | _ => none) else (match d with | d + 1 => wfL (d + 1) k | _ => none)) else wfL (d + 1) k := rfl
  rw [h0, if_neg h]
theorem wfL_u {d : Nat} {x : Int32} {k : List Int32} (h : x < -6) (h2 : ¬ x < -8) : wfL (d + 1) (x :: k) = wfL (d + 1) k := by
  have h0 : wfL (d + 1) (x :: k) = if x < -6 then (if x < -8 then (match d + 1 with | d + 2 => wfL (d + 1) k | _ => none) else wfL (d + 1) k) else wfL (d + 2) k := rfl
  rw [h0, if_pos h, if_neg h2]
theorem wfL_b {d : Nat} {x : Int32} {k : List Int32} (h : x < -6) (h2 : x < -8) : wfL (d + 2) (x :: k) = wfL (d + 1) k := by
  have h0 : wfL (d + 2) (x :: k) = if x < -6 then (if x < -8 then wfL (d + 1) k else wfL (d + 2) k) else wfL (d + 3) k := rfl
  rw [h0, if_pos h, if_pos h2]
theorem wfC_v {x : Int32} (h : ¬ x < -6) (h1 : -15 ≤ x.toInt) (h2 : x.toInt ≤ 9999) : wfC [x] := ⟨fun d k => wfL_v h, fun y hy => by rw [List.mem_singleton] at hy; rw [hy]; exact ⟨h1, h2⟩⟩
theorem wfC_u {c : List Int32} {x : Int32} (hc : wfC c) (hx : x = -7 ∨ x = -8) : wfC (c ++ [x]) := by
  refine ⟨fun d k => ?_, fun y hy => ?_⟩
  · rw [List.append_assoc, hc.1]
    rcases hx with e | e
    · rw [e]; exact wfL_u (by decide) (by decide)
    · rw [e]; exact wfL_u (by decide) (by decide)
  · rcases List.mem_append.mp hy with h | h
    · exact hc.2 y h
    · rw [List.mem_singleton] at h
      rw [h]
      rcases hx with e | e
      · rw [e]; decide
      · rw [e]; decide
theorem wfC_b {c1 c2 : List Int32} {x : Int32} (h1 : wfC c1) (h2 : wfC c2) (hx1 : x < -8) (hx2 : -15 ≤ x.toInt) : wfC (c1 ++ c2 ++ [x]) := by
  have e8 : (-8 : Int32).toInt = -8 := by decide
  have e6 : (-6 : Int32).toInt = -6 := by decide
  have hx3 : x < -6 := by rw [i_lt, e6]; rw [i_lt, e8] at hx1; omega
  refine ⟨fun d k => ?_, fun y hy => ?_⟩
  · rw [List.append_assoc, List.append_assoc, h1.1, h2.1]
    exact wfL_b hx3 hx1
  · rcases List.mem_append.mp hy with h | h
    · rcases List.mem_append.mp h with h | h
      · exact h1.2 y h
      · exact h2.2 y h
    · rw [List.mem_singleton] at h
      rw [h]
      rw [i_lt, e8] at hx1
      omega
def restOK (q : Nat) (t : Int32) : Prop := (q ≤ 6 → ¬ t = -15) ∧ (q ≤ 5 → ¬ t = -13 ∧ ¬ t = -14) ∧ (q ≤ 2 → ¬ t = -10) ∧ (q ≤ 1 → ¬ t = -9)
def cmpOK (q : Nat) (t : Int32) (cs H : List Int32) : Prop := q ≤ 4 → t = -11 ∨ t = -12 → topR (unwS 5 cs H).2 = 4
def topB (q : Nat) : Nat := if q = 7 then 8 else if q = 3 then 4 else q
def mOK (q : Nat) (m t : Int32) : Prop := (q ≤ 3 → m = 1) ∧ (4 ≤ q → m = 0 ∨ ¬ t = -8)
theorem unw_unw {q q' : Nat} (h : q' ≤ q) : ∀ (H cs : List Int32), unwS q' (unwS q cs H).1 (unwS q cs H).2 = unwS q' cs H := by
  intro H
  induction H with
  | nil => intro cs; rfl
  | cons x H ih =>
    intro cs
    have e : unwS q cs (x :: H) = if q ≤ rkN x then unwS q (cs ++ [x]) H else (cs, x :: H) := rfl
    have e' : unwS q' cs (x :: H) = if q' ≤ rkN x then unwS q' (cs ++ [x]) H else (cs, x :: H) := rfl
    by_cases h1 : q ≤ rkN x
    · rw [e, if_pos h1, ih, e', if_pos (by omega)]
    · rw [e, if_neg h1]
theorem unw_down {q q' : Nat} (h : q' ≤ q) {a b c d : List Int32} (e : unwS q a b = unwS q c d) : unwS q' a b = unwS q' c d := by
  rw [← unw_unw h b a, e, unw_unw h]
theorem unw_stop {q : Nat} {cs H : List Int32} (h : topR H < q) : unwS q cs H = (cs, H) := by
  cases H with
  | nil => rfl
  | cons x H =>
    have e : unwS q cs (x :: H) = if q ≤ rkN x then unwS q (cs ++ [x]) H else (cs, x :: H) := rfl
    have h : rkN x < q := h
    rw [e, if_neg (by omega)]
theorem unw_push {q : Nat} {x : Int32} {cs H : List Int32} (h : q ≤ rkN x) : unwS q cs (x :: H) = unwS q (cs ++ [x]) H := if_pos h
theorem unw_sum {q : Nat} {a b c d : List Int32} (e : unwS q a b = unwS q c d) : a.length + b.length = c.length + d.length := by
  have h1 := unw_len (q := q) b a
  have h2 := unw_len (q := q) d c
  rw [e] at h1
  omega
def Flt (K n : Nat) (σ' : Sto) (X : Option Rs) (τ : Sto) : Prop := ∃ s, s ≤ n ∧ CF K s σ' ∧ ∃ τ', X = some (0, 0, τ') ∧ τ' 30 19 = nI s ∧ Kp K τ τ'
def Okk (r : Rw) (n K q p : Nat) (c0 H : List Int32) (σ' : Sto) (X : Option Rs) (τ : Sto) : Prop := ∃ (p' : Nat) (code cs' H' : List Int32) (m' : Int32) (u' : Value) (τ' : Sto), p < p' ∧ p' ≤ n ∧ InC r n K p' (c0 ++ code) σ' ∧ wfC code ∧ (c0 ++ code).length + H.length ≤ p' ∧
  restOK q (tkL r n p') ∧ cmpOK q (tkL r n p') cs' H' ∧ unwS q cs' H' = unwS q (c0 ++ code) H ∧ X = R nM_eRead 0 10 [.ref 30, .int 0, .int m', u'] [] τ' ∧ InM r n K p' cs' H' τ' ∧ Kp K τ τ'
def Lvl (r : Rw) (n K y q f : Nat) : Prop := ∀ (o p : Nat) (c0 H : List Int32) (σ τ : Sto) (m : Int32) (u : Value), n - p ≤ f → p ≤ n → InC r n K p c0 σ → InM r n K p c0 H τ → cntO H = o → o ≤ 5 → c0.length + H.length ≤ p → topR H < topB q → mOK q m (tkL r n p) →
  ∃ σ', C y o [.ref 7, .int (nI o)] σ = some (0, 0, σ') ∧ Kc K σ σ' ∧ (Flt K n σ' (R nM_eRead 0 10 [.ref 30, .int 1, .int m, u] [] τ) τ ∨ Okk r n K q p c0 H σ' (R nM_eRead 0 10 [.ref 30, .int 1, .int m, u] [] τ) τ)
/-! the model where a value is wanted -/
theorem w_10 {m : Int32} {u : Value} {τ τ1 : Sto} (e : C nM_next 0 [.ref 30] τ = some (0, 0, τ1)) : R nM_eRead 0 10 [.ref 30, .int 1, .int m, u] [] τ =
    if (τ1 30 20) = 1 then R nM_eRead 0 22 [.ref 30, .int 1, .int m, u] [] τ1 else if (τ1 30 20) = 2 then R nM_eRead 0 22 [.ref 30, .int 1, .int m, u] [] τ1 else if (τ1 30 20) = 6 then
      (if m = 0 then R nM_eRead 0 53 [.ref 30, .int 1, .int m, u] [] τ1 else (C nM_opensOne 0 [.ref 30, .int 13] τ1).bind fun r2 => if r2.1 = 0 then some (0, 0, r2.2.2) else R nM_eRead 0 10 [.ref 30, .int 1, .int m, u] [] r2.2.2)
      else R nM_eRead 0 53 [.ref 30, .int 1, .int m, u] [] τ1 := by
  rw [eM_eRead_10 0, e]
  rfl
theorem w_val {r : Rw} {n K p : Nat} {cs H : List Int32} {m : Int32} {u : Value} {τ : Sto} (hK : K < 6) (hl : cs.length + H.length < 199) (h : InM r n K p cs H τ) (x : Int32) :
    ∃ τ', R nM_eRead 0 34 [.ref 30, .int 1, .int m, u] [.int (phi x), .ref 30] τ = R nM_eRead 0 10 [.ref 30, .int 0, .int m, u] [] τ' ∧ InM r n K p (unwS 7 (cs ++ [x]) H).1 (unwS 7 (cs ++ [x]) H).2 τ' ∧ Kp K τ τ' := by
  obtain ⟨τ1, e1, m1, f1⟩ := m_puts (k := 0) h.2.2.2 hK (by omega) x
  obtain ⟨τ2, e2, m2, f2⟩ := m_unwinds (k := 0) (q := 7) hK (by omega) (by omega) m1 (by rw [List.length_append, List.length_singleton]; omega)
  rw [eM_eRead_34 0, e1, bs]; (try dsimp only); rw [show (7 : Int32) = nI 7 from rfl, e2, bs]
  exact ⟨τ2, rfl, (h.fo f1 m1).fo f2 m2, (f1.tr f2).kp⟩
theorem d_one : ∀ t ∈ TL, (psiT t = 1 ↔ t = 1) ∧ (psiT t = 2 ↔ (¬ -1 < t ∧ ¬ t < -6)) ∧ (psiT t = 6 ↔ t = -8) ∧ (psiT t = 45 ↔ t = -14) ∧ (psiT t = 40 ↔ t = 2) := by decide +kernel
theorem d_nam : ∀ t ∈ TL, ¬ -1 < t → ¬ t < -6 → (-15 ≤ t.toInt ∧ t.toInt ≤ 9999) ∧ ¬ t = -14 ∧ ¬ t = 2 ∧ ¬ t = 1 ∧ ¬ t = 5 := by decide +kernel
theorem mOK_1 {q : Nat} {t : Int32} (hq : q ≤ 3) : mOK q 1 t := ⟨fun _ => rfl, fun h => by omega⟩
theorem mOK_0 {q : Nat} {t : Int32} (hq : 4 ≤ q) : mOK q 0 t := ⟨fun h => by omega, fun _ => Or.inl rfl⟩
theorem cnt_op {x : Int32} {H : List Int32} (h : opB x = true) : cntO (x :: H) = cntO H + 1 := by
  show (if opB x = true then 1 else 0) + cntO H = _
  rw [if_pos h, Nat.add_comm]
theorem cnt_no {x : Int32} {H : List Int32} (h : opB x = false) : cntO (x :: H) = cntO H := by
  show (if opB x = true then 1 else 0) + cntO H = _
  rw [h, if_neg (by decide), Nat.zero_add]
/-- where a value is wanted and the token is no value's, the model tells the fault -/
theorem w_bad {m : Int32} {u : Value} {r : Rw} {n K p : Nat} {τ τ1 : Sto} (e : C nM_next 0 [.ref 30] τ = some (0, 0, τ1)) (t : TkM r n p τ1) (k1 : Kp K τ τ1) (hm : tkL r n p = -8 → m = 0)
    (h1 : ¬ tkL r n p = 1) (h2 : ¬ (¬ -1 < tkL r n p ∧ ¬ tkL r n p < -6)) (h3 : ¬ tkL r n p = -14) (h4 : ¬ tkL r n p = 2) : ∃ τ', R nM_eRead 0 10 [.ref 30, .int 1, .int m, u] [] τ = some (0, 0, τ') ∧ τ' 30 19 = nI (stL r n p) ∧ Kp K τ τ' := by
  have d := d_one _ (tk_TL r n p)
  have e53 : R nM_eRead 0 53 [.ref 30, .int 1, .int m, u] [] τ1 = some (0, 0, τ1) := by
    rw [eM_eRead_53 0, t.1, if_neg (fun z => h3 (d.2.2.2.1.mp z)), if_neg (fun z => h4 (d.2.2.2.2.mp z))]
  refine ⟨τ1, ?_, t.2.1, k1⟩
  rw [w_10 e, t.1, if_neg (fun z => h1 (d.1.mp z)), if_neg (fun z => h2 (d.2.1.mp z)), e53]
  by_cases h8 : tkL r n p = -8
  · rw [if_pos (d.2.2.1.mpr h8), if_pos (hm h8)]
  · rw [if_neg (fun z => h8 (d.2.2.1.mp z))]
