theorem su46 {σ : Sto} {i : Nat} {v : Int32} : su σ 46 i v 46 = upd (σ 46) i v := su_row
theorem phi_of {z : Int32} (h : 0 ≤ z.toInt) : phi z = 100000 + z := by
  have e : ∀ a : Int32, a.toInt < 0 → ¬ z = a := fun a ha he => by
    rw [he] at h
    omega
  unfold phi
  rw [if_neg (e _ (by decide)), if_neg (e _ (by decide)), if_neg (e _ (by decide)), if_neg (e _ (by decide)), if_neg (e _ (by decide)), if_neg (e _ (by decide)), if_neg (e _ (by decide)), if_neg (e _ (by decide)),
    if_neg (e _ (by decide)), if_neg (e _ (by decide)), if_neg (e _ (by decide)), if_neg (e _ (by decide)), if_neg (e _ (by decide)), if_neg (e _ (by decide)), if_neg (e _ (by decide))]
theorem m_names {z : Int32} (h1 : -15 ≤ z.toInt) (h2 : z.toInt < 0) (h3 : ¬ z < -6) : ∃ j, j < 6 ∧ phi z = nI j ∧ (∀ (nm : Rw) (e : Int32 → Int32), (nm 0 = e (-1) ∧ nm 1 = e (-2) ∧ nm 2 = e (-3) ∧ nm 3 = e (-4) ∧ nm 4 = e (-5) ∧ nm 5 = e (-6)) → nm j = e z) := by
  rcases z_cases h1 h2 with h | h | h | h | h | h | h | h | h | h | h | h | h | h | h
  · subst h; exact ⟨0, by decide, by decide, fun _ _ h => h.1⟩
  · subst h; exact ⟨1, by decide, by decide, fun _ _ h => h.2.1⟩
  · subst h; exact ⟨2, by decide, by decide, fun _ _ h => h.2.2.1⟩
  · subst h; exact ⟨3, by decide, by decide, fun _ _ h => h.2.2.2.1⟩
  · subst h; exact ⟨4, by decide, by decide, fun _ _ h => h.2.2.2.2.1⟩
  · subst h; exact ⟨5, by decide, by decide, fun _ _ h => h.2.2.2.2.2⟩
  all_goals (subst h; exact absurd (by decide) h3)
theorem m_turns {z : Int32} (h1 : -15 ≤ z.toInt) (h2 : z < -6) (h3 : ¬ z < -8) : (z = -7 ∧ phi z = 19) ∨ (z = -8 ∧ phi z = 13) := by
  have h4 : z.toInt < 0 := by
    rw [i_lt] at h2
    have : (-6 : Int32).toInt = -6 := by decide
    omega
  rcases z_cases h1 h4 with h | h | h | h | h | h | h | h | h | h | h | h | h | h | h
  · subst h; exact absurd h2 (by decide)
  · subst h; exact absurd h2 (by decide)
  · subst h; exact absurd h2 (by decide)
  · subst h; exact absurd h2 (by decide)
  · subst h; exact absurd h2 (by decide)
  · subst h; exact absurd h2 (by decide)
  · subst h; exact Or.inl ⟨rfl, by decide⟩
  · subst h; exact Or.inr ⟨rfl, by decide⟩
  all_goals (subst h; exact absurd (by decide) h3)
theorem m_joins {z : Int32} (h1 : -15 ≤ z.toInt) (h2 : z < -8) : z.toInt ≤ -9 ∧ phi z < 100000 ∧ ¬ phi z < 11 ∧ ¬ phi z = 13 ∧ ¬ phi z = 19 := by
  have h4 : z.toInt < -8 := by
    rw [i_lt] at h2
    have : (-8 : Int32).toInt = -8 := by decide
    omega
  rcases z_cases h1 (by omega) with h | h | h | h | h | h | h | h | h | h | h | h | h | h | h
  · subst h; exact absurd h2 (by decide)
  · subst h; exact absurd h2 (by decide)
  · subst h; exact absurd h2 (by decide)
  · subst h; exact absurd h2 (by decide)
  · subst h; exact absurd h2 (by decide)
  · subst h; exact absurd h2 (by decide)
  · subst h; exact absurd h2 (by decide)
  · subst h; exact absurd h2 (by decide)
  all_goals (subst h; decide)
theorem m_saysL {k part rl : Nat} {e : Int32 → Int32} (hpart : part < 3) (hrl : rl < 6) : ∀ (cs st : List Int32) (σ : Sto) (m : Nat) (u : Value), PileR (σ 46) st → σ 30 10 = nI rl →
    (σ 47 0 = e (-1) ∧ σ 47 1 = e (-2) ∧ σ 47 2 = e (-3) ∧ σ 47 3 = e (-4) ∧ σ 47 4 = e (-5) ∧ σ 47 5 = e (-6)) →
    σ 37 (4 * rl + part + 1) = nI (m + cs.length) → (∀ j x, cs[j]? = some x → σ 36 (200 * rl + (m + j)) = phi x) → (∀ x ∈ cs, -15 ≤ x.toInt ∧ x.toInt ≤ 9999) → m + cs.length ≤ 200 → st.length + cs.length ≤ 200 → wfL st.length cs = some 1 →
    ∃ σ', R nM_says k 12 [.ref 30, .int (nI part), .int (nI st.length), .int (nI m), u] [] σ = some (headI (evC e cs st), 0, σ') ∧ Fr [46] σ σ' := by
  intro cs
  have q1 : inb (nI (4 * rl + part + 1)) 24 = true := ib (by omega) (by decide)
  have q2 : (nI (4 * rl + part + 1)).toNatClampNeg = 4 * rl + part + 1 := ixn (by omega)
  have q3 : 4 * nI rl + nI part + 1 = nI (4 * rl + part + 1) := by
    rw [show (4 : Int32) * nI rl = nI (4 * rl) from pk_mul 4 rl, nI_add, nI_1]
  have q4 : ∀ m, 200 * nI rl + nI m = nI (200 * rl + m) := fun m => by
    rw [show (200 : Int32) * nI rl = nI (200 * rl) from pk_mul 200 rl, nI_add]
  induction cs with
  | nil =>
    intro st σ m u hP hr hn h5 h3 hb hm hl hw
    have h5 : σ 37 (4 * rl + part + 1) = nI m := h5
    rw [eM_says_12 k, hr, q3, if_pos q1, q2, h5, if_neg (nI_nlt (Nat.le_refl _) (by omega))]
    have hd : st.length = 1 := Option.some.inj hw
    match st, hd, hP with
    | [x], _, hP =>
      have h6 : σ 46 0 = x := hP.1
      rw [z0, h6]
      exact ⟨σ, rfl, Fr.rf⟩
  | cons z cs ih =>
    intro st σ m u hP hr hn h5 h3 hb hm hl hw
    rw [List.length_cons] at h5 hm hl
    have hb1 := hb z List.mem_cons_self
    have hb' : ∀ x ∈ cs, -15 ≤ x.toInt ∧ x.toInt ≤ 9999 := fun x hx => hb x (List.mem_cons_of_mem _ hx)
    have hz : σ 36 (200 * rl + m) = phi z := h3 0 z rfl
    have h3' : ∀ j x, cs[j]? = some x → σ 36 (200 * rl + (m + 1 + j)) = phi x := by
      intro j x hj
      have := h3 (j + 1) x (by rw [List.getElem?_cons_succ]; exact hj)
      rw [← this]
      congr 1
      omega
    have h5' : σ 37 (4 * rl + part + 1) = nI (m + 1 + cs.length) := by
      rw [h5]
      congr 1
      omega
    have gm : ∀ i v, Fr [46] σ (su σ 46 i v) := fun i v => Fr.rf.su (List.mem_singleton.mpr rfl)
    rw [eM_says_12 k, hr, q3, if_pos q1, q2, h5, if_pos (nI_lt (by omega) (by omega)), eM_says_25 k, hr, q4, if_pos (ibn (show 200 * rl + m < 1200 by omega) (by decide)), ixn (show 200 * rl + m < 2147483648 by omega), hz]
    by_cases hz6 : z < -6
    · by_cases hz8 : z < -8
      · obtain ⟨j1, j2, j3, j4, j5⟩ := m_joins hb1.1 hz8
        rw [if_pos j2, if_neg j3, eM_says_58 k, if_neg j4, if_neg j5]
        match st, hP, hl, hw with
        | y :: x :: st, hP, hl, hw =>
          have hw' : wfL (st.length + 1) cs = some 1 := by
            have h0 : wfL (st.length + 2) (z :: cs) = if z < -6 then (if z < -8 then wfL (st.length + 1) cs else wfL (st.length + 2) cs) else wfL (st.length + 3) cs := rfl
            have h1 : wfL (st.length + 2) (z :: cs) = some 1 := hw
            rw [h0, if_pos hz6, if_pos hz8] at h1
            exact h1
          rw [List.length_cons, List.length_cons] at hl
          rw [List.length_cons, List.length_cons]
          have e1 : nI (st.length + 1 + 1) + -1 = nI (st.length + 1) := by rw [← nI_pred (st.length + 1), Int32.sub_eq_add_neg]
          rw [e1, eM_says_96 k, nI_pred]
          have i1 : inb (nI st.length) 200 = true := ib (by omega) (by decide)
          have i2 : inb (nI (st.length + 1)) 200 = true := ib (by omega) (by decide)
          have i3 : (nI st.length).toNatClampNeg = st.length := ixn (by omega)
          have i4 : (nI (st.length + 1)).toNatClampNeg = st.length + 1 := ixn (by omega)
          have p1 : σ 46 (st.length + 1) = y := hP.1
          have p2 : σ 46 st.length = x := hP.2.1
          rw [if_pos i1, if_pos i2, i3, i4, p1, p2, m_two hb1.1 j1, bs]
          simp only [i1, ↓reduceIte, nI_1]
          obtain ⟨σ', e', f⟩ := ih (joinS z x y :: st) (su σ 46 st.length (joinS z x y)) (m + 1) (.int (phi z)) (by rw [su46]; exact hP.2.2.push) (by rw [su_ne (by decide)]; exact hr)
            (by rw [su_ne (by decide)]; exact hn) (by rw [su_ne (by decide)]; exact h5') (by rw [su_ne (by decide)]; exact h3') hb' (by omega) (by rw [List.length_cons]; omega) hw'
          refine ⟨σ', ?_, (gm _ _).tr f⟩
          have e3 : evC e (z :: cs) (y :: x :: st) = evC e cs (joinS z x y :: st) := by
            show evC _ cs (stepC _ z (y :: x :: st)) = _
            unfold stepC
            rw [if_pos hz6, if_pos hz8]
          rw [e3]
          exact e'
        | [x], hP, hl, hw =>
          have h0 : wfL 1 (z :: cs) = if z < -6 then (if z < -8 then none else wfL 1 cs) else wfL 2 cs := rfl
          have h1 : wfL 1 (z :: cs) = some 1 := hw
          rw [h0, if_pos hz6, if_pos hz8] at h1
          cases h1
        | [], hP, hl, hw =>
          have h0 : wfL 0 (z :: cs) = if z < -6 then (if z < -8 then none else none) else wfL 1 cs := rfl
          have h1 : wfL 0 (z :: cs) = some 1 := hw
          rw [h0, if_pos hz6, if_pos hz8] at h1
          cases h1
      · match st, hP, hl, hw with
        | [], hP, hl, hw =>
          have h0 : wfL 0 (z :: cs) = if z < -6 then (if z < -8 then none else none) else wfL 1 cs := rfl
          have h1 : wfL 0 (z :: cs) = some 1 := hw
          rw [h0, if_pos hz6, if_neg hz8] at h1
          cases h1
        | x :: st, hP, hl, hw =>
          have hw' : wfL (st.length + 1) cs = some 1 := by
            have h1 : wfL (st.length + 1) (z :: cs) = some 1 := hw
            have h0 : ∀ d, wfL (d + 1) (z :: cs) = if z < -6 then (if z < -8 then (match d + 1 with | d + 2 => wfL (d + 1) cs | _ => none) else wfL (d + 1) cs) else wfL (d + 2) cs := fun _ => rfl
            rw [h0, if_pos hz6, if_neg hz8] at h1
            exact h1
          rw [List.length_cons] at hl
          have e1 : (x :: st).length = st.length + 1 := rfl
          have i1 : inb (nI st.length) 200 = true := ib (by omega) (by decide)
          have i3 : (nI st.length).toNatClampNeg = st.length := ixn (by omega)
          have p1 : σ 46 st.length = x := hP.1
          have p2 : PileR (σ 46) st := hP.2
          have fin : ∀ v u, v = (if z = -7 then -x else if x = 0 then 1 else 0) → ∃ σ', R nM_says k 12 [.ref 30, .int (nI part), .int (nI (st.length + 1)), .int (nI (m + 1)), u] [] (su σ 46 st.length v) =
              some (headI (evC e (z :: cs) (x :: st)), 0, σ') ∧ Fr [46] σ σ' := by
            intro v u hv
            obtain ⟨σ', e', f⟩ := ih (v :: st) (su σ 46 st.length v) (m + 1) u (by rw [su46]; exact p2.push) (by rw [su_ne (by decide)]; exact hr) (by rw [su_ne (by decide)]; exact hn)
              (by rw [su_ne (by decide)]; exact h5') (by rw [su_ne (by decide)]; exact h3') hb' (by omega) (by rw [List.length_cons]; omega) hw'
            refine ⟨σ', ?_, (gm _ _).tr f⟩
            have e3 : evC e (z :: cs) (x :: st) = evC e cs (v :: st) := by
              show evC _ cs (stepC _ z (x :: st)) = _
              unfold stepC
              rw [if_pos hz6, if_neg hz8, hv]
            rw [e3]
            exact e'
          rcases m_turns hb1.1 hz6 hz8 with ⟨hz7, ep⟩ | ⟨hz7, ep⟩
          · rw [ep, if_pos (by decide), if_neg (by decide), eM_says_58 k, if_neg (by decide), if_pos rfl, e1, nI_pred]
            simp only [i1, i3, p1, ↓reduceIte, nI_1]
            exact fin _ _ (by rw [if_pos hz7])
          · rw [ep, if_pos (by decide), if_neg (by decide), eM_says_58 k, if_pos rfl, e1, nI_pred]
            simp only [i1, i3, p1, ↓reduceIte, nI_1]
            by_cases hx : x = 0
            · rw [if_pos hx]
              exact fin _ _ (by rw [if_neg (by rw [hz7]; decide), if_pos hx])
            · rw [if_neg hx]
              exact fin _ _ (by rw [if_neg (by rw [hz7]; decide), if_neg hx])
    · have i1 : inb (nI st.length) 200 = true := ib (by omega) (by decide)
      have i3 : (nI st.length).toNatClampNeg = st.length := ixn (by omega)
      have hw' : wfL (st.length + 1) cs = some 1 := by
        have h0 : ∀ d, wfL d (z :: cs) = if z < -6 then (if z < -8 then (match d with | d + 2 => wfL (d + 1) cs | _ => none) else (match d with | d + 1 => wfL (d + 1) cs | _ => none)) else wfL (d + 1) cs := fun _ => rfl
        rw [h0, if_neg hz6] at hw
        exact hw
      have fin : ∀ v u, v = (if z < 0 then e z else z) → ∃ σ', R nM_says k 12 [.ref 30, .int (nI part), .int (nI (st.length + 1)), .int (nI (m + 1)), u] [] (su σ 46 st.length v) =
          some (headI (evC e (z :: cs) st), 0, σ') ∧ Fr [46] σ σ' := by
        intro v u hv
        obtain ⟨σ', e', f⟩ := ih (v :: st) (su σ 46 st.length v) (m + 1) u (by rw [su46]; exact hP.push) (by rw [su_ne (by decide)]; exact hr) (by rw [su_ne (by decide)]; exact hn)
          (by rw [su_ne (by decide)]; exact h5') (by rw [su_ne (by decide)]; exact h3') hb' (by omega) (by rw [List.length_cons]; omega) hw'
        refine ⟨σ', ?_, (gm _ _).tr f⟩
        have e3 : evC e (z :: cs) st = evC e cs (v :: st) := by
          show evC _ cs (stepC _ z st) = _
          unfold stepC
          rw [if_neg hz6, hv]
        rw [e3]
        exact e'
      have t0 : (0 : Int32).toInt = 0 := by decide
      by_cases h0 : z < 0
      · obtain ⟨j, hj, ep, hnm⟩ := m_names hb1.1 (by rw [i_lt] at h0; omega) hz6
        rw [ep, if_pos (show nI j < 100000 from nI_lt (b := 100000) (by omega) (by decide)), if_pos (show nI j < 11 from nI_lt (b := 11) (by omega) (by decide)), eM_says_41 k, if_pos (show nI j < 11 from nI_lt (b := 11) (by omega) (by decide)),
          if_pos (ib6 hj), if_pos i1, i3, ix6 hj, nI_1, nI_1]
        exact fin _ _ (by rw [if_pos h0]; exact hnm (σ 47) e hn)
      · have h0' : 0 ≤ z.toInt := by rw [i_lt] at h0; omega
        have t1 : (100000 : Int32).toInt = 100000 := by decide
        have t2 : (11 : Int32).toInt = 11 := by decide
        have t3 : (100000 + z).toInt = 100000 + z.toInt := by rw [i_add (by omega) (by omega), t1]
        have t4 : ¬ 100000 + z < 100000 := by rw [i_lt]; omega
        have t5 : ¬ 100000 + z < 11 := by rw [i_lt]; omega
        have t6 : 100000 + z - 100000 = z := by rw [i_eq, i_sub (by omega) (by omega), t3, t1]; omega
        rw [phi_of h0', if_neg t4, eM_says_41 k, if_neg t5, if_pos i1, i3, t6, nI_1, nI_1]
        exact fin _ _ (by rw [if_neg h0])
def AtM (σ : Sto) (TX : TXT) (K : Nat) (t : St) : Prop := RepM σ t ∧ TxM σ TX K
theorem AtM.fr {l : List Nat} {σ σ' : Sto} {TX : TXT} {K : Nat} {t : St} (h : AtM σ TX K t) (hf : Fr l σ σ') (hl : ∀ c, c ∈ l → 38 ≤ c) : AtM σ' TX K t :=
  ⟨h.1.fr hf (fun j hj hm => by have := hl _ hm; omega), h.2.fr hf (fun hm => by have := hl _ hm; omega) (fun hm => by have := hl _ hm; omega)⟩
theorem AtM.fm {σ σ' : Sto} {TX : TXT} {K : Nat} {t : St} (h : AtM σ TX K t) (hf : Fr [46, 47] σ σ') : AtM σ' TX K t := h.fr hf (by decide)
theorem m_says {k : Nat} {σ : Sto} {t : St} {TX : TXT} {K : Nat} (hr : AtM σ TX K t) (ho : Ok TX K t) {p part : Nat} (hpart : part < 3)
    (hn : σ 47 0 = envS t p (-1) ∧ σ 47 1 = envS t p (-2) ∧ σ 47 2 = envS t p (-3) ∧ σ 47 3 = envS t p (-4) ∧ σ 47 4 = envS t p (-5) ∧ σ 47 5 = envS t p (-6)) :
    ∃ σ', C nM_says k [.ref 30, .int (nI part)] σ = some (headI (evC (envS t p) (TX (sL t) part) []), 0, σ') ∧ Fr [46] σ σ' := by
  have hL6 : sL t < 6 := Nat.lt_of_lt_of_le ho.2.1 ho.2.2.1
  obtain ⟨h1, h2, h3⟩ := ho.2.2.2 (sL t) ho.2.1 part hpart
  obtain ⟨b, hb, hf, hto, hcode⟩ := hr.2 (sL t) ho.2.1 part hpart
  have q3 : 4 * nI (sL t) + nI part = nI (4 * sL t + part) := by
    rw [show (4 : Int32) * nI (sL t) = nI (4 * sL t) from pk_mul 4 (sL t), nI_add]
  rw [eM_says k, hr.1.L, q3, if_pos (ibn (show 4 * sL t + part < 24 by omega) (by decide)), ixn (by omega), hf]
  exact m_saysL hpart hL6 (TX (sL t) part) [] σ b .null trivial hr.1.L hn hto hcode h3 hb (by rw [List.length_nil]; omega) h1
theorem m_asks {k : Nat} {σ : Sto} {t : St} {TX : TXT} {K : Nat} (hr : AtM σ TX K t) (ho : Ok TX K t) {p part : Nat} (hp : p < sN t) (hpart : part < 3) :
    ∃ σ', C nM_asksOf k [.ref 30, .int (nI part), .int (nI p)] σ = some (saysS TX t part p, 0, σ') ∧ Fr [46, 47] σ σ' := by
  have h6 : p < 6 := Nat.lt_of_lt_of_le hp ho.n
  have hN := ho.n
  have fin : ∀ (v : Int32), v = envS t p (-1) →
      (∃ σ', @Eq (Option Rs) ((C nM_seenSet k [.ref 30] (su (su (su σ 47 0 v) 47 1 (rW t p)) 47 2 (sH t))).bind fun r2 =>
        (C nM_onesOf k [.int r2.1] r2.2.2).bind fun r3 =>
          (C nM_says k [.ref 30, .int (nI part)] (su (su (su r3.2.2 47 3 r3.1) 47 4 ((su r3.2.2 47 3 r3.1) 34 2)) 47 5 ((su (su r3.2.2 47 3 r3.1) 47 4 ((su r3.2.2 47 3 r3.1) 34 2)) 32 p))).bind fun r4 =>
                if nI part = 0 then
                  (C nM_within k [.int r4.1, .int 0, .int 99] r4.2.2).bind fun r5 =>
                    some (r5.1, 0, r5.2.2)
                else
                  (C nM_within k [.int r4.1, .int (-99), .int 99] r4.2.2).bind fun r5 =>
                    some (r5.1, 0, r5.2.2)) (some (saysS TX t part p, 0, σ')) ∧ Fr [46, 47] σ σ') := by
    intro v hv
    have f1 : Fr [46, 47] σ (su (su (su σ 47 0 v) 47 1 (rW t p)) 47 2 (sH t)) := ((Fr.rf.su (by decide)).su (by decide)).su (by decide)
    have a1 := hr.fm f1
    rw [m_seenSet a1.1 ho.n, bs, m_onesOf, bs]
    simp only []
    rw [ones_bits _ ho.n, cnt_B, su_ne (show 34 ≠ 47 by decide), a1.1.F, su_ne (show 32 ≠ 47 by decide), su_ne (show 32 ≠ 47 by decide), a1.1.M hp]
    have f2 : Fr [46, 47] σ (su (su (su (su (su (su σ 47 0 v) 47 1 (rW t p)) 47 2 (sH t)) 47 3 (nI (cntS t (sN t)))) 47 4 (sF t)) 47 5 (rM t p)) := ((f1.su (by decide)).su (by decide)).su (by decide)
    have a2 := hr.fm f2
    obtain ⟨σ', e, f⟩ := m_says (k := k) (p := p) a2 ho hpart (by
      simp only [su_row]
      refine ⟨hv, ?_, ?_, ?_, ?_, ?_⟩
      · rfl
      · rfl
      · rfl
      · rfl
      · rfl)
    have f' : Fr [46, 47] σ σ' := f2.tr (f.mono (by decide))
    rw [e, bs]
    simp only []
    unfold saysS clampS
    by_cases h0 : part = 0
    · subst h0
      rw [if_pos (by decide), m_within (by decide), bs]
      exact ⟨σ', rfl, f'⟩
    · rw [if_neg (nI_ne0 (by omega) (by omega)), m_within (by decide), bs, if_neg h0]
      exact ⟨σ', rfl, f'⟩
  rw [eM_asksOf k, m_isAt hr.1 ho.n hp, bs]
  have e33 : ∀ v, su σ 47 0 v 33 = σ 33 := fun v => su_ne (by decide)
  have e34 : ∀ v w, su (su σ 47 0 v) 47 1 w 34 = σ 34 := fun v w => (su_ne (by decide)).trans (su_ne (by decide))
  simp only [z0, z1, z2, z3, z4, z5, i3, nI_1, nI_2, ibn (show 3 * p < 18 by omega) (by decide), ibn (show 3 * p + 2 < 18 by omega) (by decide), ixn (show 3 * p < 2147483648 by omega), ixn (show 3 * p + 2 < 2147483648 by omega), ib6 h6, ix6 h6, e33, e34, hr.1.P hp, hr.1.W hp, hr.1.H, ↓reduceIte]
  by_cases h1 : rP t p = -1
  · rw [if_pos (show b2 (decide (¬ rP t p = -1)) = 0 by simp [h1, b2])]
    exact fin 0 (by unfold envS; rw [if_neg (by decide), if_neg (by decide), if_neg (by decide), if_neg (by decide), if_neg (by decide), if_pos rfl, if_pos h1])
  · rw [if_neg (show ¬ b2 (decide (¬ rP t p = -1)) = 0 by simp [h1, b2])]
    exact fin (rP t p) (by unfold envS; rw [if_neg (by decide), if_neg (by decide), if_neg (by decide), if_neg (by decide), if_neg (by decide), if_pos rfl, if_neg h1])
