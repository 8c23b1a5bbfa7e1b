/-! FILM: a sheet becomes what is thought -/
theorem cho_in {TX : TXT} {t : St} (m : Nat) : (choS TX t m).1 = -1 ∨ ∃ p, p < m ∧ (choS TX t m).1 = nI p := (cho_or m).imp id fun ⟨p, h1, h2, _⟩ => ⟨p, h1, h2⟩
theorem who_in {TX : TXT} {t : St} (hN : sN t ≤ 6) : whoS TX t = -1 ∨ ∃ p, p < 6 ∧ whoS TX t = nI p := by
  unfold whoS choiceS
  split
  · exact Or.inl rfl
  · exact (cho_in (sN t)).imp id fun ⟨p, h1, h2⟩ => ⟨p, by omega, h2⟩
theorem nar_who {TX : TXT} {t : St} (hN : sN t ≤ 6) : narS 0 (whoS TX t + 1) = whoS TX t + 1 := by
  rcases who_in (TX := TX) hN with h | ⟨p, hp, h⟩
  · rw [h]; decide
  · rw [h]
    have hq : p = 0 ∨ p = 1 ∨ p = 2 ∨ p = 3 ∨ p = 4 ∨ p = 5 := by omega
    rcases hq with hq | hq | hq | hq | hq | hq <;> (subst hq; decide)
def gS (a : Ab) (s n : Nat) (c : Rw) : Ab := setS a (upd (aS a) s 0) (updN (aZ a) s n) (updC (aC a) s c)
theorem gS_put {a : Ab} {s n i : Nat} {c : Rw} {w : Int32} : setS (gS a s n c) (aS (gS a s n c)) (aZ (gS a s n c)) (updC (aC (gS a s n c)) s (upd (aC (gS a s n c) s) i w)) = gS a s n (upd c i w) := by
  have e : updC (updC (aC a) s c) s (upd (updC (aC a) s c s) i w) = updC (aC a) s (upd c i w) := by
    funext r
    unfold updC
    by_cases h : r = s
    · rw [if_pos h, if_pos h, if_pos rfl]
    · rw [if_neg h, if_neg h, if_neg h]
  show ((gS a s n c).1, (gS a s n c).2.1, (gS a s n c).2.2.1, upd (aS a) s 0, updN (aZ a) s n, updC (updC (aC a) s c) s (upd (updC (aC a) s c s) i w)) = _
  rw [e]
  rfl
theorem WfA.gS {a : Ab} (hw : WfA a) {s n : Nat} {c : Rw} (hn : n ≤ 40) : WfA (gS a s n c) := by
  refine hw.sh fun r hr => ?_
  unfold updN
  by_cases e : r = s
  · subst e
    rw [upd_s, if_pos rfl]
    exact ⟨⟨by decide, by decide⟩, hn⟩
  · rw [upd_n e, if_neg e]
    exact hw.2.2.2.2 r hr
theorem gS_new {a : Ab} {s n : Nat} : newS a s 0 n = gS a s n (fun _ => 0) := rfl
/-- below its size alone counts -/
theorem RepH.cg {so si ce : Rw} {a : Ab} {s n : Nat} {c c' : Rw} (h : RepH so si ce (gS a s n c)) (hc : ∀ j, j < n → c j = c' j) : RepH so si ce (gS a s n c') := by
  intro r hr
  refine ⟨(h r hr).1, fun hne => ⟨((h r hr).2 hne).1, fun i hi => ?_⟩⟩
  have h1 := ((h r hr).2 hne).2 i hi
  rw [h1]
  show updC (aC a) s c r i = updC (aC a) s c' r i
  unfold updC
  by_cases e : r = s
  · rw [if_pos e, if_pos e]
    refine hc i ?_
    have hi : i < updN (aZ a) s n r := hi
    unfold updN at hi
    rw [if_pos e] at hi
    exact hi
  · rw [if_neg e, if_neg e]
/-- what is told by n hours -/
def toldS (TX : TXT) (t : St) (n : Nat) : Rw := fun j => if j < n then whoS TX (hrsS TX t j) + 1 else 0
theorem told_up {TX : TXT} {t : St} {n : Nat} : upd (toldS TX t n) n (whoS TX (hrsS TX t n) + 1) = toldS TX t (n + 1) := by
  funext j
  unfold toldS
  by_cases h : j = n
  · subst h
    rw [upd_s, if_pos (by omega)]
  · rw [upd_n h]
    by_cases h2 : j < n
    · rw [if_pos h2, if_pos (by omega)]
    · rw [if_neg h2, if_neg (by omega)]
theorem InvC.cg {σ : Sto} {a : Ab} {s n : Nat} {c c' : Rw} (h : InvC σ (gS a s n c)) (hc : ∀ j, j < n → c j = c' j) : InvC σ (gS a s n c') := ⟨h.1, h.2.1, h.2.2.1, h.2.2.2.1, h.2.2.2.2.1, h.2.2.2.2.2.1, h.2.2.2.2.2.2.cg hc⟩
theorem InvM.cg {σ : Sto} {a : Ab} {s n : Nat} {c c' : Rw} (h : InvM σ (gS a s n c)) (hc : ∀ j, j < n → c j = c' j) : InvM σ (gS a s n c') := ⟨h.1, h.2.1, h.2.2.1, h.2.2.2.1, h.2.2.2.2.1, h.2.2.2.2.2.1, h.2.2.2.2.2.2.cg hc⟩
theorem f_class {a : Ab} (hw : WfA a) {s n : Nat} (hs : s < 4) (hn : n < 25) : ∀ d m σ, m + d = n → Tht σ (gS a s n (toldS (aX a) (aT a) m)) (hrsS (aX a) (aT a) m) →
    ∃ σ', R nF_film 0 27 [.ref 0, .int (nI s), .int (nI n), .int (nI m)] [] σ = some (nI n, 0, σ') ∧ InvC σ' (gS a s n (toldS (aX a) (aT a) n)) ∧ FC σ σ' := by
  intro d
  induction d with
  | zero =>
    intro m σ hm h
    have e : m = n := by omega
    subst e
    rw [eF_film_27 0, if_neg (nI_nlt (by omega) (by omega))]
    exact ⟨σ, rfl, h.2, FC.rf⟩
  | succ d ih =>
    intro m σ hm h
    obtain ⟨σ1, e1, h1, f1⟩ := t_hour (k := 0) h (hw.1.hrs m)
    have g0 : σ1 10 s = 0 := ((h1.2.2.2.2.2.2.2 s hs).1).trans (show upd (aS a) s 0 s = 0 from upd_s)
    have hp : InvC (su σ1 9 (40 * s + m) (whoS (aX a) (hrsS (aX a) (aT a) m) + 1)) (gS a s n (toldS (aX a) (aT a) (m + 1))) := by
      have hq := h1.2.sh (σ' := su σ1 9 (40 * s + m) (whoS (aX a) (hrsS (aX a) (aT a) m) + 1)) (Fr.rf.su (by decide)) (by rw [su_row, su_ne (by decide), su_ne (by decide)]; exact h1.2.2.2.2.2.2.2.put (hw.gS (by omega)) hs (show m < 40 by omega))
      rw [gS_put, told_up] at hq
      exact hq
    have hr : RepS (su σ1 9 (40 * s + m) (whoS (aX a) (hrsS (aX a) (aT a) m) + 1)) 18 (hrsS (aX a) (aT a) (m + 1)) := h1.1.fr (l := [9]) (Fr.rf.su (by decide)) (by decide)
    obtain ⟨σ2, e2, h2, f2⟩ := ih (m + 1) _ (by omega) ⟨hr, hp⟩
    refine ⟨σ2, ?_, h2, (f1.su (by decide)).tr f2⟩
    rw [← e2, eF_film_27 0, if_pos (nI_lt (by omega) (by omega)), e1, bs]; (try dsimp only); rw [c_write hs (by omega), bs]; (try dsimp only); rw [g0, nI_1]
    rw [show narS 0 (whoS (aX (gS a s n (toldS (aX a) (aT a) m))) (hrsS (aX a) (aT a) m) + 1) = whoS (aX a) (hrsS (aX a) (aT a) m) + 1 from nar_who (hw.1.hrs m).n]
theorem Mnd.cell {σ : Sto} {a : Ab} (hw : WfA a) {t t0 : St} {s n m : Nat} {c : Rw} {w : Int32} (hs : s < 4) (hn : n ≤ 40) (hm : m < 40) (h : Mnd σ (gS a s n c) t t0) : Mnd (su σ 42 (40 * s + m) w) (gS a s n (upd c m w)) t t0 := by
  have f : Fr [42] σ (su σ 42 (40 * s + m) w) := Fr.rf.su (by decide)
  have hq := h.1.2.2.2.2.2.2
  have hq2 : RepH (σ 40) (σ 41) (σ 42) (gS a s n c) := hq
  have h3 := hq2.put (hw.gS hn) (w := w) hs hm
  rw [gS_put] at h3
  refine ⟨?_, h.2.fr f (by decide)⟩
  obtain ⟨⟨h1, h2⟩, h4, h5, h6, h7, h8, _⟩ := h.1
  refine ⟨⟨h1.fr f (by decide), h2.fr f (by decide) (by decide)⟩, fun hi => ?_, ?_, ?_, ?_, ?_, ?_⟩
  · unfold Img
    rw [f 38 (by decide), f 39 (by decide)]
    exact h4 hi
  · rw [f 30 (by decide)]; exact h5
  · rw [f 30 (by decide)]; exact h6
  · rw [f 30 (by decide)]; exact h7
  · rw [f 35 (by decide)]; exact h8
  · rw [su_row, f 40 (by decide), f 41 (by decide)]
    exact h3
theorem f_model {a : Ab} (hw : WfA a) {s n : Nat} (hs : s < 4) (hn : n < 25) : ∀ d m σ c, m + d = 40 → (∀ j, j < m → c j = toldS (aX a) (aT a) n j) → Mnd σ (gS a s n c) (hrsS (aX a) (aT a) (if m < n then m else n)) (aT a) →
    ∃ σ', R nM_film 0 28 [.ref 30, .int (nI s), .int (nI n), .int (nI m)] [] σ = some (nI n, 0, σ') ∧ InvM σ' (gS a s n (toldS (aX a) (aT a) n)) ∧ FM σ σ' := by
  intro d
  induction d with
  | zero =>
    intro m σ c hm hc h
    obtain ⟨σ3, e3, h3, f3⟩ := n_lays (k := 0) h (Sam.rf.hrs _) hw.1.n
    rw [eM_film_28 0, if_neg (show ¬ nI m < 40 from nI_nlt (b := 40) (by omega) (by omega)), e3, bs]
    exact ⟨σ3, rfl, InvM.cg (c := c) h3.1 fun j hj => hc j (by omega), f3⟩
  | succ d ih =>
    intro m σ c hm hc h
    have i1 : inb (nI (40 * s + m)) 160 = true := ibn (show 40 * s + m < 160 by omega) (by decide)
    have hu : ∀ w, w = toldS (aX a) (aT a) n m → ∀ j, j < m + 1 → upd c m w j = toldS (aX a) (aT a) n j := by
      intro w hw2 j hj
      by_cases e : j = m
      · subst e; rw [upd_s, hw2]
      · rw [upd_n e]; exact hc j (by omega)
    by_cases hmn : m < n
    · rw [if_pos hmn] at h
      obtain ⟨σ1, e1, h1, f1, _⟩ := n_hour (k := 0) h (hw.1.hrs m)
      have h2 := Mnd.cell hw (w := whoS (aX a) (hrsS (aX a) (aT a) m) + 1) hs (by omega) (show m < 40 by omega) h1
      have ei : hourS (aX (gS a s n c)) (hrsS (aX a) (aT a) m) = hrsS (aX a) (aT a) (if m + 1 < n then m + 1 else n) := by
        have : (if m + 1 < n then m + 1 else n) = m + 1 := by split <;> omega
        rw [this]
        rfl
      rw [ei] at h2
      obtain ⟨σ2, e2, i2, f2⟩ := ih (m + 1) _ _ (by omega) (hu _ (by unfold toldS; rw [if_pos hmn])) h2
      refine ⟨σ2, ?_, i2, (f1.su (by decide) (by decide)).tr f2⟩
      rw [← e2, eM_film_28 0, if_pos (show nI m < 40 from nI_lt (b := 40) (by omega) (by omega)), if_pos (nI_lt (by omega) (by omega)), e1, bs]; (try dsimp only); rw [nI_40', if_pos i1, ixn (by omega), nI_1]
      rfl
    · rw [if_neg hmn] at h
      have h2 := Mnd.cell hw (w := 0) hs (by omega) (show m < 40 by omega) h
      have ei : (if m + 1 < n then m + 1 else n) = n := if_neg (by omega)
      obtain ⟨σ2, e2, i2, f2⟩ := ih (m + 1) _ _ (by omega) (hu 0 (by unfold toldS; rw [if_neg hmn])) (by rw [ei]; exact h2)
      refine ⟨σ2, ?_, i2, (FM.rf.su (by decide) (by decide)).tr f2⟩
      rw [← e2, eM_film_28 0, if_pos (show nI m < 40 from nI_lt (b := 40) (by omega) (by omega)), if_neg (nI_nlt (by omega) (by omega)), nI_40', if_pos i1, ixn (by omega), nI_1]
theorem s_film {a : Ab} (hw : WfA a) (x y : Int32) : Step nF_film nM_film [.int x, .int y] a := by
  have e0 : (0 : Int32).toInt = 0 := by decide
  have e3 : (3 : Int32).toInt = 3 := by decide
  have e24 : (24 : Int32).toInt = 24 := by decide
  by_cases hx : 0 ≤ x.toInt ∧ x.toInt ≤ 3
  rotate_left
  · have q1 := in_f e0 e3 hx
    have p1 : b2 (decide (0 ≤ x.toInt ∧ x.toInt ≤ 3)) = 0 := by rw [decide_eq_false hx]; rfl
    refine same hw (-2) (fun σ h => ?_) (fun σ h => ?_)
    · rw [eF_film 0, c_hasH, p1, bs]; (try dsimp only); rw [if_pos rfl]
      exact ⟨σ, rfl, Fr.rf⟩
    · rw [eM_film 0, m_in, q1, bs]; (try dsimp only); rw [if_pos rfl]
      exact ⟨σ, rfl, Fr.rf⟩
  have q1 := in_t e0 e3 hx
  have p1 : b2 (decide (0 ≤ x.toInt ∧ x.toInt ≤ 3)) = 1 := b2_t hx
  by_cases hy : 0 ≤ y.toInt ∧ y.toInt ≤ 24
  rotate_left
  · have q2 := in_f e0 e24 hy
    refine same hw (-7) (fun σ h => ?_) (fun σ h => ?_)
    · rw [eF_film 0, c_hasH, p1, bs]; (try dsimp only); rw [if_neg n10, c_in, q2, bs]; (try dsimp only); rw [if_pos rfl]
      exact ⟨σ, rfl, Fr.rf⟩
    · rw [eM_film 0, m_in, q1, bs]; (try dsimp only); rw [if_neg n10, m_in, q2, bs]; (try dsimp only); rw [if_pos rfl]
      exact ⟨σ, rfl, Fr.rf⟩
  have q2 := in_t e0 e24 hy
  obtain ⟨s, hs, es⟩ := nI_in1 (x := x) (n := 4) (by omega) (by omega)
  obtain ⟨n, hn, en⟩ := nI_in1 (x := y) (n := 25) (by omega) (by omega)
  subst es
  subst en
  have i4 : inb (nI s) 4 = true := ibn hs (by decide)
  refine ⟨(nI n, 0), gS a s n (toldS (aX a) (aT a) n), hw.gS (by omega), fun σ h => ?_, fun σ h => ?_⟩
  · obtain ⟨σ1, e1, f1, g1, g2, g3⟩ := c_renew (k := 0) (σ := σ) hs (show n ≤ 40 by omega) 0
    have h1 := h.sh f1 (h.2.2.2.2.2.2.new hw hs (Nat.le_refl _) (by omega) g1 g2 g3)
    obtain ⟨σ2, e2, h2, f2⟩ := t_new (k := 0) (hw.gS (c := fun _ => 0) (by omega)) h1
    have ez : toldS (aX a) (aT a) 0 = fun _ => 0 := by
      funext j
      unfold toldS
      rw [if_neg (by omega)]
    obtain ⟨σ3, e3, h3, f3⟩ := f_class hw hs hn n 0 σ2 (Nat.zero_add _) (by rw [ez]; exact h2)
    rw [eF_film 0, c_hasH, p1, bs]; (try dsimp only); rw [if_neg n10, c_in, q2, bs]; (try dsimp only); rw [if_neg n10, e1, bs]; (try dsimp only); rw [e2, bs]
    exact ⟨σ3, e3, h3, ((f1.c (by decide)).tr f2).tr f3⟩
  · have f0 : Fr [40, 41] σ (su (su σ 40 s 0) 41 s (nI n)) := (Fr.rf.su (by decide)).su (by decide)
    have h0 : InvM (su (su σ 40 s 0) 41 s (nI n)) (gS a s n (fun j => σ 42 (40 * s + j))) := by
      refine h.sh (f0.mono (by decide)) fun r hr => ?_
      have g := h.2.2.2.2.2.2 r hr
      show (su (su σ 40 s 0) 41 s (nI n)) 40 r = upd (aS a) s 0 r ∧ (¬ upd (aS a) s 0 r = -1 → (su (su σ 40 s 0) 41 s (nI n)) 41 r = nI (updN (aZ a) s n r) ∧ ∀ i, i < updN (aZ a) s n r → (su (su σ 40 s 0) 41 s (nI n)) 42 (40 * r + i) = updC (aC a) s (fun j => σ 42 (40 * s + j)) r i)
      rw [su_ne (show 40 ≠ 41 by decide), su_row, su_row, su_ne (show 41 ≠ 40 by decide), f0 42 (by decide)]
      unfold updN updC
      by_cases e : r = s
      · subst e
        rw [upd_s, upd_s, upd_s, if_pos rfl, if_pos rfl]
        exact ⟨rfl, fun _ => ⟨rfl, fun i hi => rfl⟩⟩
      · rw [upd_n e, upd_n e, upd_n e, if_neg e, if_neg e]
        exact g
    obtain ⟨σ1, e1, h1, f1⟩ := n_new (k := 0) (a := gS a s n (fun j => σ 42 (40 * s + j))) (t := aT a) hw.1 h0
    have ei : hrsS (aX a) (aT a) (if 0 < n then 0 else n) = aT a := by
      have : (if 0 < n then 0 else n) = 0 := by split <;> omega
      rw [this]
      rfl
    obtain ⟨σ2, e2, h2, f2⟩ := f_model hw hs hn 40 0 σ1 _ rfl (fun j hj => absurd hj (by omega)) (by rw [ei]; exact h1)
    rw [eM_film 0, m_in, q1, bs]; (try dsimp only); rw [if_neg n10, m_in, q2, bs]; (try dsimp only); rw [if_neg n10, if_pos i4, if_pos i4, ixn (show s < 2147483648 by omega), e1, bs]
    exact ⟨σ2, e2, h2, ((f0.m (by decide)).tr f1).tr f2⟩
