/-! TEXT -/
theorem get_l {a b : List Int32} {j : Nat} {x : Int32} (h : a[j]? = some x) : (a ++ b)[j]? = some x := by
  have hj : j < a.length := by
    refine Nat.lt_of_not_le fun hle => ?_
    rw [List.getElem?_eq_none hle] at h
    cases h
  rw [List.getElem?_append, if_pos hj]
  exact h
theorem get_r {a b : List Int32} {j : Nat} {x : Int32} (h : b[j]? = some x) : (a ++ b)[a.length + j]? = some x := by
  rw [List.getElem?_append, if_neg (by omega), Nat.add_sub_cancel_left]
  exact h
theorem get_lt {a : List Int32} {j : Nat} {x : Int32} (h : a[j]? = some x) : j < a.length := by
  refine Nat.lt_of_not_le fun hle => ?_
  rw [List.getElem?_eq_none hle] at h
  cases h
def pcF (c1 c2 c3 : List Int32) : Nat → List Int32
  | 0 => c1
  | 1 => c2
  | _ => c3
def txF (TX : TXT) (K : Nat) (pc : Nat → List Int32) : TXT := fun l => if l = K then pc else TX l
theorem TxS.kt {σ σ' : Sto} {TX : TXT} {K : Nat} (h : TxS σ TX K) (hf : Kt K σ σ') : TxS σ' TX K := by
  intro l hl part hp
  obtain ⟨b, h1, h2, h3, h4⟩ := h l hl part hp
  refine ⟨b, h1, ?_, ?_, fun j x hj => ?_⟩
  · rw [(hf.2.2 _ (by omega)).1]; exact h2
  · rw [(hf.2.2 _ (by omega)).2]; exact h3
  · have := get_lt hj
    rw [hf.2.1 _ (by omega)]
    exact h4 j x hj
theorem TxM.km {σ σ' : Sto} {TX : TXT} {K : Nat} (h : TxM σ TX K) (h36 : ∀ j, j < 200 * K → σ' 36 j = σ 36 j) (h37 : ∀ j, j < 4 * K → σ' 37 j = σ 37 j) : TxM σ' TX K := by
  intro l hl part hp
  obtain ⟨b, h1, h2, h3, h4⟩ := h l hl part hp
  refine ⟨b, h1, ?_, ?_, fun j x hj => ?_⟩
  · rw [h37 _ (by omega)]; exact h2
  · rw [h37 _ (by omega)]; exact h3
  · have := get_lt hj
    rw [h36 _ (by omega)]
    exact h4 j x hj
/-- a new text, in the component -/
theorem TxS.new {σ : Sto} {TX : TXT} {K : Nat} {c1 c2 c3 : List Int32} (h : TxS σ TX K) (hl : (c1 ++ c2 ++ c3).length ≤ 160) (hc : ∀ j x, (c1 ++ c2 ++ c3)[j]? = some x → σ 3 (160 * K + j) = x)
    (a0 : σ 4 (3 * K + 0) = nI (160 * K + 0)) (b0 : σ 5 (3 * K + 0) = nI (160 * K + c1.length)) (a1 : σ 4 (3 * K + 1) = nI (160 * K + c1.length)) (b1 : σ 5 (3 * K + 1) = nI (160 * K + (c1 ++ c2).length)) (a2 : σ 4 (3 * K + 2) = nI (160 * K + (c1 ++ c2).length)) (b2 : σ 5 (3 * K + 2) = nI (160 * K + (c1 ++ c2 ++ c3).length)) : TxS σ (txF TX K (pcF c1 c2 c3)) (K + 1) := by
  rw [mp_len, mp_len] at hl
  intro l hlK part hp
  unfold txF
  by_cases e : l = K
  · subst e
    rw [if_pos rfl]
    have hpp : part = 0 ∨ part = 1 ∨ part = 2 := by omega
    rcases hpp with e | e | e
    · subst e
      refine ⟨160 * l + 0, ?_, a0, b0, fun j x hj => ?_⟩
      · show 160 * l + 0 + c1.length ≤ _; omega
      · exact hc j x (get_l (get_l hj))
    · subst e
      refine ⟨160 * l + c1.length, ?_, a1, ?_, fun j x hj => ?_⟩
      · show 160 * l + c1.length + c2.length ≤ _; omega
      · rw [b1, mp_len, ← Nat.add_assoc]; rfl
      · rw [Nat.add_assoc]
        exact hc _ x (get_l (get_r hj))
    · subst e
      refine ⟨160 * l + (c1 ++ c2).length, ?_, a2, ?_, fun j x hj => ?_⟩
      · show 160 * l + (c1 ++ c2).length + c3.length ≤ _; rw [mp_len]; omega
      · rw [b2, mp_len (a := c1 ++ c2), ← Nat.add_assoc]; rfl
      · rw [Nat.add_assoc]
        exact hc _ x (get_r hj)
  · rw [if_neg e]
    exact h l (by omega) part hp
theorem TxM.new {σ : Sto} {TX : TXT} {K : Nat} {c1 c2 c3 : List Int32} (h : TxM σ TX K) (hl : (c1 ++ c2 ++ c3).length ≤ 160) (hc : ∀ j x, (c1 ++ c2 ++ c3)[j]? = some x → σ 36 (200 * K + j) = phi x)
    (a0 : σ 37 (4 * K + 0) = nI 0) (a1 : σ 37 (4 * K + 1) = nI c1.length) (a2 : σ 37 (4 * K + 2) = nI (c1 ++ c2).length) (a3 : σ 37 (4 * K + 3) = nI (c1 ++ c2 ++ c3).length) : TxM σ (txF TX K (pcF c1 c2 c3)) (K + 1) := by
  rw [mp_len, mp_len] at hl
  intro l hlK part hp
  unfold txF
  by_cases e : l = K
  · subst e
    rw [if_pos rfl]
    have hpp : part = 0 ∨ part = 1 ∨ part = 2 := by omega
    rcases hpp with e | e | e
    · subst e
      refine ⟨0, ?_, a0, ?_, fun j x hj => ?_⟩
      · show 0 + c1.length ≤ _; omega
      · rw [Nat.zero_add]; exact a1
      · rw [Nat.zero_add]
        exact hc j x (get_l (get_l hj))
    · subst e
      refine ⟨c1.length, ?_, a1, ?_, fun j x hj => ?_⟩
      · show c1.length + c2.length ≤ _; omega
      · rw [show 4 * l + 1 + 1 = 4 * l + 2 from rfl, a2, mp_len]; rfl
      · exact hc _ x (get_l (get_r hj))
    · subst e
      refine ⟨(c1 ++ c2).length, ?_, a2, ?_, fun j x hj => ?_⟩
      · show (c1 ++ c2).length + c3.length ≤ _; rw [mp_len]; omega
      · rw [show 4 * l + 2 + 1 = 4 * l + 3 from rfl, a3, mp_len (a := c1 ++ c2)]; rfl
      · exact hc _ x (get_r hj)
  · rw [if_neg e]
    exact h l (by omega) part hp
def setX (a : Ab) (TX : TXT) (K : Nat) : Ab := (a.1, (TX, K), (0, aR a), a.2.2.2)
theorem InvC.tx {σ σ' : Sto} {a : Ab} {TX : TXT} {K : Nat} (h : InvC σ a) (hf : Fr [0, 2, 3, 4, 5, 7] σ σ') (h2 : σ' 2 4 = nI K) (h07 : σ' 0 7 = 0) (h08 : σ' 0 8 = σ 0 8) (hx : TxS σ' TX K) : InvC σ' (setX a TX K) := by
  obtain ⟨⟨g1, g2⟩, g3, g4, g5, g6, g7, g8⟩ := h
  refine ⟨⟨g1.fr hf (by decide), hx⟩, fun hi => (g3 hi).fr hf (by decide), h2, h07, ?_, fun i hi => absurd hi (Nat.not_lt_zero i), ?_⟩
  · rw [h08]; exact g6
  · rw [hf 9 (by decide), hf 10 (by decide), hf 11 (by decide)]; exact g8
theorem InvM.tx {σ σ' : Sto} {a : Ab} {TX : TXT} {K : Nat} (h : InvM σ a) (hf : Fr [30, 36, 37, 45] σ σ') (h30 : ∀ i, i < 18 → ¬ i = 6 → ¬ i = 9 → σ' 30 i = σ 30 i) (h9 : σ' 30 9 = nI K) (h6 : σ' 30 6 = 0) (hx : TxM σ' TX K) : InvM σ' (setX a TX K) := by
  obtain ⟨⟨g1, g2⟩, g3, g4, g5, g6, g7, g8⟩ := h
  refine ⟨⟨?_, hx⟩, fun hi => ?_, h9, h6, ?_, fun i hi => absurd hi (Nat.not_lt_zero i), ?_⟩
  · unfold RepM
    rw [h30 0 (by omega) (by omega) (by omega), h30 10 (by omega) (by omega) (by omega), hf 31 (by decide), hf 32 (by decide), hf 33 (by decide), hf 34 (by decide)]
    exact g1
  · unfold Img
    rw [hf 38 (by decide), hf 39 (by decide)]
    exact g3 hi
  · rw [h30 11 (by omega) (by omega) (by omega)]; exact g6
  · rw [hf 40 (by decide), hf 41 (by decide), hf 42 (by decide)]; exact g8
theorem WfA.tx {a : Ab} (h : WfA a) {TX : TXT} {K : Nat} (hK : aN a ≤ K) (hT : wfT TX K) : WfA (setX a TX K) := by
  obtain ⟨⟨h1, h2, _⟩, h3, h4, h5, h6⟩ := h
  refine ⟨⟨h1, Nat.lt_of_lt_of_le h2 hK, hT⟩, h3, fun hi => ?_, Nat.zero_le _, h6⟩
  obtain ⟨⟨k1, k2, _⟩, k3⟩ := h4 hi
  exact ⟨⟨k1, Nat.lt_of_lt_of_le k2 hK, hT⟩, k3⟩
theorem wfT_new {TX : TXT} {K : Nat} {c1 c2 c3 : List Int32} (h : wfT TX K) (hK : K < 6) (h1 : wfC c1) (h2 : wfC c2) (h3 : wfC c3) (hl : (c1 ++ c2 ++ c3).length ≤ 160) : wfT (txF TX K (pcF c1 c2 c3)) (K + 1) := by
  rw [mp_len, mp_len] at hl
  have key : ∀ c : List Int32, wfC c → c.length ≤ 160 → wfL 0 c = some 1 ∧ c.length ≤ 160 ∧ ∀ x ∈ c, -15 ≤ x.toInt ∧ x.toInt ≤ 9999 := by
    intro c hc hcl
    refine ⟨?_, hcl, hc.2⟩
    have := hc.1 0 []
    rw [List.append_nil] at this
    exact this
  refine ⟨by omega, fun l hlK part hp => ?_⟩
  unfold txF
  by_cases e : l = K
  · rw [if_pos e]
    have hpp : part = 0 ∨ part = 1 ∨ part = 2 := by omega
    rcases hpp with e | e | e
    · subst e; exact key c1 h1 (by omega)
    · subst e; exact key c2 h2 (by omega)
    · subst e; exact key c3 h3 (by omega)
  · rw [if_neg e]
    exact h.2 l (by omega) part hp
theorem d_zero : ∀ x ∈ TL, (psiT x = 0 ↔ x = 5) := by decide +kernel
/-- the whole of a text, on both sides -/
theorem t_whole {r : Rw} {n K : Nat} (hn : n ≤ 160) (hK : K < 6) {σ τ : Sto} (h24 : σ 2 4 = nI K) (hr : ∀ i, i < n → σ 1 i = r i) (hM : InT r n K 0 [] τ) :
    ∃ σ', Kt K σ σ' ∧ ∃ τ', Km K τ τ' ∧ ((∃ s, s ≤ n ∧ C nD_faultOf 0 [.ref 7, .int (nI n)] σ = some (nI s, 0, σ') ∧ τ' 30 19 = nI s ∧ R nM_text 0 16 [.ref 30, .int 1, .int 0] [] τ = some (-100 - nI s, 0, su (su τ' 37 (4 * K + 3) (τ' 30 26)) 30 6 0)) ∨
      (∃ c1 c2 c3, C nD_faultOf 0 [.ref 7, .int (nI n)] σ = some (-1, 0, σ') ∧ wfC c1 ∧ wfC c2 ∧ wfC c3 ∧ (c1 ++ c2 ++ c3).length ≤ 160 ∧ (∀ j x, (c1 ++ c2 ++ c3)[j]? = some x → σ' 3 (160 * K + j) = x) ∧
        (σ' 4 (3 * K + 0) = nI (160 * K + 0) ∧ σ' 5 (3 * K + 0) = nI (160 * K + c1.length)) ∧ (σ' 4 (3 * K + 1) = nI (160 * K + c1.length) ∧ σ' 5 (3 * K + 1) = nI (160 * K + (c1 ++ c2).length)) ∧ (σ' 4 (3 * K + 2) = nI (160 * K + (c1 ++ c2).length) ∧ σ' 5 (3 * K + 2) = nI (160 * K + (c1 ++ c2 ++ c3).length)) ∧
        (∀ j x, (c1 ++ c2 ++ c3)[j]? = some x → τ' 36 (200 * K + j) = phi x) ∧ τ' 37 (4 * K + 0) = nI 0 ∧ τ' 37 (4 * K + 1) = nI c1.length ∧ τ' 37 (4 * K + 2) = nI (c1 ++ c2).length ∧ τ' 30 26 = nI (c1 ++ c2 ++ c3).length ∧
        R nM_text 0 16 [.ref 30, .int 1, .int 0] [] τ = some (nI K, 0, su (su (su τ' 37 (4 * K + 3) (τ' 30 26)) 30 6 0) 30 9 (nI (K + 1))))) := by
  have ix24 : inb (nI (4 * K + 3)) 24 = true := ibn (by omega) (by omega)
  have e43 : ∀ τ' : Sto, τ' 30 9 = nI K → 4 * τ' 30 9 + 3 = nI (4 * K + 3) := fun τ' h => by rw [h]; exact i4 K 3
  have m57 : ∀ (v2 : Int32) (s : Nat) (τ' : Sto), τ' 30 9 = nI K → τ' 30 19 = nI s → R nM_text 0 57 [.ref 30, .int 0, .int v2] [] τ' = some (-100 - nI s, 0, su (su τ' 37 (4 * K + 3) (τ' 30 26)) 30 6 0) := by
    intro v2 s τ' h9 h19
    rw [eM_text_57 0, if_pos rfl, e43 τ' h9, if_pos ix24, if_pos rfl, ixn (by omega), su_o (show 19 ≠ 6 by decide), su_ne (show 30 ≠ 37 by decide), h19]
  -- the component begins
  obtain ⟨σa, ea⟩ : ∃ σa, σa = su (su (su (su σ 7 2 (minI (nI n) 160)) 7 3 0) 7 7 (-1)) 7 8 (((su (su (su σ 7 2 (minI (nI n) 160)) 7 3 0) 7 7 (-1)) 2 4) * 160) := ⟨_, rfl⟩
  have emin : minI (nI n) 160 = nI n := by
    unfold minI
    by_cases h : (160 : Int32) < nI n
    · exact absurd h (nI_nlt (a := 160) hn (by omega))
    · rw [if_neg h]
  have hba : Bas r n σa := by
    rw [ea]
    refine ⟨by rw [su_o (by decide), su_o (by decide), su_o (by decide), su_e, emin], fun i hi => ?_⟩
    rw [su_ne (by decide), su_ne (by decide), su_ne (by decide), su_ne (by decide)]
    exact hr i hi
  have a24 : σa 2 4 = nI K := by
    rw [ea, su_ne (by decide), su_ne (by decide), su_ne (by decide), su_ne (by decide)]
    exact h24
  have a78 : σa 7 8 = nI (160 * K) := by
    rw [ea, su_e, su_ne (by decide), su_ne (by decide), su_ne (by decide), h24]
    show nI K * nI 160 = _
    rw [pk_mul, Nat.mul_comm]
  have fa : Kt K σ σa := by
    rw [ea]
    refine ⟨(((Fr.rf.su (by decide)).su (by decide)).su (by decide)).su (by decide), fun j hj => ?_, fun j hj => ⟨?_, ?_⟩⟩
    · rw [su_ne (by decide), su_ne (by decide), su_ne (by decide), su_ne (by decide)]
    · rw [su_ne (by decide), su_ne (by decide), su_ne (by decide), su_ne (by decide)]
    · rw [su_ne (by decide), su_ne (by decide), su_ne (by decide), su_ne (by decide)]
  obtain ⟨σb, e1, f1, t1⟩ := c_take (k := 0) (p := 0) hn (Nat.zero_le n) hba (by rw [ea, su_o (by decide), su_e]) (by rw [ea, su_o (by decide), su_o (by decide), su_e]; rfl)
  have hCb : InC r n K 0 [] σb := ⟨hba.fk f1, t1, CS.fk ⟨a24, a78, fun j x hj => by cases hj⟩ f1⟩
  have fb : Kt K σ σb := fa.tr (Fk.kc f1).kt
  have cX : C nD_faultOf 0 [.ref 7, .int (nI n)] σ = R nD_faultOf 0 22 [.ref 7, .int (nI n), .int 0, .null] [] σb := by
    rw [eD_faultOf 0, ← ea, e1, bs]
  have flt : ∀ (t : Nat) (σx τx : Sto) (u3 : Value), Kt K σ σx → Km K τ τx → R nD_faultOf 0 22 [.ref 7, .int (nI n), .int 0, .null] [] σb = R nD_faultOf 0 22 [.ref 7, .int (nI n), .int (nI t), u3] [] σx → R nM_text 0 16 [.ref 30, .int 1, .int 0] [] τ = R nM_text 0 16 [.ref 30, .int 1, .int (nI t)] [] τx →
      (∃ s σ' τ', s ≤ n ∧ R nD_faultOf 0 22 [.ref 7, .int (nI n), .int (nI t), u3] [] σx = some (nI s, 0, σ') ∧ Kt K σx σ' ∧ R nM_text 0 16 [.ref 30, .int 1, .int (nI t)] [] τx = R nM_text 0 57 [.ref 30, .int 0, .int (nI (t + 1))] [] τ' ∧ τ' 30 19 = nI s ∧ Km K τx τ') →
      ∃ σ', Kt K σ σ' ∧ ∃ τ', Km K τ τ' ∧ ∃ s, s ≤ n ∧ C nD_faultOf 0 [.ref 7, .int (nI n)] σ = some (nI s, 0, σ') ∧ τ' 30 19 = nI s ∧ R nM_text 0 16 [.ref 30, .int 1, .int 0] [] τ = some (-100 - nI s, 0, su (su τ' 37 (4 * K + 3) (τ' 30 26)) 30 6 0) := by
    rintro t σx τx u3 b1 b2 b3 b4 ⟨s, σ', τ', h1, h2, h3, h4, h5, h6⟩
    refine ⟨σ', b1.tr h3, τ', b2.tr h6, s, h1, cX.trans (b3.trans h2), h5, ?_⟩
    rw [b4, h4]
    exact m57 _ s τ' (((b2.tr h6).2.1 9 (by omega)).trans hM.2.2.2.1) h5
  rcases t_part hn hK (t := 0) (v1 := nI n) (u3 := .null) (by omega) (Nat.zero_le n) hCb hM (Nat.le_refl _) with g | ⟨p1, c1, u1, σ1, τ1, p1n, x1, k1, i1, w1, l1, a1, b1, o1, y1, m1, j1, r1, s1⟩
  · obtain ⟨σ', z1, τ', z2, z3⟩ := flt 0 σb τ .null fb Km.rf rfl rfl g
    exact ⟨σ', z1, τ', z2, Or.inl z3⟩
  rw [List.nil_append] at i1 l1 b1 j1
  rcases t_part hn hK (t := 1) (v1 := nI n) (u3 := u1) (by omega) p1n i1 j1 l1 with g | ⟨p2, c2, u2, σ2, τ2, p2n, x2, k2, i2, w2, l2, a2, b2, o2, y2, m2, j2, r2, s2⟩
  · obtain ⟨σ', z1, τ', z2, z3⟩ := flt 1 σ1 τ1 u1 (fb.tr k1) m1 x1 y1 g
    exact ⟨σ', z1, τ', z2, Or.inl z3⟩
  rcases t_part hn hK (t := 2) (v1 := nI n) (u3 := u2) (by omega) p2n i2 j2 l2 with g | ⟨p3, c3, u3, σ3, τ3, p3n, x3, k3, i3', w3, l3, a3, b3, o3, y3, m3, j3, r3, s3⟩
  · obtain ⟨σ', z1, τ', z2, z3⟩ := flt 2 σ2 τ2 u2 ((fb.tr k1).tr k2) (m1.tr m2) (x1.trans x2) (y1.trans y2) g
    exact ⟨σ', z1, τ', z2, Or.inl z3⟩
  have kk := ((fb.tr k1).tr k2).tr k3
  have mm := (m1.tr m2).tr m3
  obtain ⟨τ4, e4, t4, j4, k4⟩ := t_nextI hn p3n j3
  have mY : R nM_text 0 16 [.ref 30, .int 1, .int (nI 3)] [] τ3 = R nM_text 0 57 [.ref 30, .int 1, .int (nI 3)] [] τ3 := by
    rw [eM_text_16 0, if_neg (by decide)]
  have h49 : τ4 30 9 = nI K := j4.2.2.2.1
  have yy : R nM_text 0 16 [.ref 30, .int 1, .int 0] [] τ = R nM_text 0 57 [.ref 30, .int 1, .int (nI 3)] [] τ3 := y1.trans (y2.trans (y3.trans mY))
  by_cases h5 : tkL r n p3 = 5
  · obtain ⟨σ4, e5, c5, f5⟩ := c_expI (k := 0) hn p3n i3' h5
    have xE : R nD_faultOf 0 22 [.ref 7, .int (nI n), .int (nI 3), u3] [] σ3 = some (-1, 0, σ4) := by
      rw [eD_faultOf_22 0, if_neg (by decide), e5, bs]
      dsimp only
      rw [c5.2.1.1]
    refine ⟨σ4, kk.tr f5.kt, τ4, mm.tr k4.km, Or.inr ⟨c1, c2, c3, cX.trans ((x1.trans (x2.trans x3)).trans xE), w1, w2, w3, by omega, c5.2.2.2.2, ⟨?_, ?_⟩, ⟨?_, ?_⟩, ⟨?_, ?_⟩, j4.2.2.2.2.2, ?_, ?_, ?_, j4.2.2.2.2.1, ?_⟩⟩
    · rw [f5.1 4 (by decide), (o3 _ (by omega)).1, (o2 _ (by omega)).1]; exact a1
    · rw [f5.1 5 (by decide), (o3 _ (by omega)).2, (o2 _ (by omega)).2]; exact b1
    · rw [f5.1 4 (by decide), (o3 _ (by omega)).1]; exact a2
    · rw [f5.1 5 (by decide), (o3 _ (by omega)).2]; exact b2
    · rw [f5.1 4 (by decide)]; exact a3
    · rw [f5.1 5 (by decide)]; exact b3
    · rw [k4.1 37 (by decide), s3 _ (by omega), s2 _ (by omega)]; exact r1
    · rw [k4.1 37 (by decide), s3 _ (by omega)]; exact r2
    · rw [k4.1 37 (by decide)]; exact r3
    · rw [yy, eM_text_57 0, if_neg n10, e4, bs]
      rw [if_pos (show τ4 30 20 = 0 from t4.1.trans ((d_zero _ (tk_TL r n p3)).mpr h5)), if_pos (show inb (4 * τ4 30 9 + 3) 24 = true from by rw [e43 τ4 h49]; exact ix24)]
      dsimp only
      rw [e43 τ4 h49, ixn (by omega), su_o (show 9 ≠ 6 by decide), su_ne (show 30 ≠ 37 by decide), h49, nI_1, su_e]
      rw [show nI (K + 1) - 1 = nI K from nI_subN (n := K + 1) (m := 1) (by omega) (by omega)]
  · obtain ⟨σ4, e5, c5, f5⟩ := c_expB (k := 0) hK (by omega) i3' h5
    have xE : R nD_faultOf 0 22 [.ref 7, .int (nI n), .int (nI 3), u3] [] σ3 = some (nI (stL r n p3), 0, σ4) := by
      rw [eD_faultOf_22 0, if_neg (by decide), e5, bs]
      dsimp only
      rw [c5.1]
    refine ⟨σ4, kk.tr f5.kt, τ4, mm.tr k4.km, Or.inl ⟨stL r n p3, (st_in p3n).2, cX.trans ((x1.trans (x2.trans x3)).trans xE), t4.2.1, ?_⟩⟩
    rw [yy, eM_text_57 0, if_neg n10, e4, bs]
    rw [if_neg (show ¬ τ4 30 20 = 0 from fun z => h5 ((d_zero _ (tk_TL r n p3)).mp (t4.1.symm.trans z))), if_pos (show inb (4 * τ4 30 9 + 3) 24 = true from by rw [e43 τ4 h49]; exact ix24)]
    dsimp only
    rw [e43 τ4 h49, ixn (by omega), su_o (show 19 ≠ 6 by decide), su_ne (show 30 ≠ 37 by decide), t4.2.1]
theorem Kt.c {K : Nat} {σ σ' : Sto} (h : Kt K σ σ') : FC σ σ' := h.1.c (by decide)
/-- text(), on both sides: from any stores that both stand as one state says -/
theorem t_both {a : Ab} (hw : WfA a) {σ τ : Sto} (hc : InvC σ a) (hm : InvM τ a) (hwd : Wrd τ) : ∃ v a' σ' τ', WfA a' ∧ C nF_text 0 [.ref 0] σ = some (v, 0, σ') ∧ InvC σ' a' ∧ FC σ σ' ∧ C nM_text 0 [.ref 30] τ = some (v, 0, τ') ∧ InvM τ' a' ∧ FM τ τ' := by
  have h24 : σ 2 4 = nI (aN a) := hc.2.2.1
  have h07 : σ 0 7 = nI (aL a) := hc.2.2.2.1
  have h39 : τ 30 9 = nI (aN a) := hm.2.2.1
  have h36 : τ 30 6 = nI (aL a) := hm.2.2.2.1
  have hKK := hw.1.2.2
  have hn := hw.2.2.2.1
  by_cases hK : aN a = 6
  · refine ⟨-4, a, σ, τ, hw, ?_, hc, FC.rf, ?_, hm, FM.rf⟩
    · rw [eF_text 0, h24, hK, if_neg (by decide)]
    · rw [eM_text 0, h39, hK, if_pos (by rfl)]
  have hK6 : aN a < 6 := by have := hKK.1; omega
  have hM0 : InT (aR a) (aL a) (aN a) 0 [] (su (su τ 30 18 0) 30 26 0) := by
    refine ⟨⟨?_, fun i hi => ?_⟩, fun k c hk hc => ?_, ?_, ?_, su_e, fun j x hj => by cases hj⟩
    · rw [su_o (by decide), su_o (by decide)]; exact h36
    · rw [su_ne (by decide), su_ne (by decide)]; exact hm.2.2.2.2.2.1 i hi
    · rw [su_ne (by decide), su_ne (by decide)]; exact hwd k c hk hc
    · rw [su_o (by decide), su_e]; rfl
    · rw [su_o (by decide), su_o (by decide)]; exact h39
  obtain ⟨σ1, f1, τ1, f2, g⟩ := t_whole (r := aR a) hn hK6 h24 hc.2.2.2.2.2.1 hM0
  have f2 : Km (aN a) τ τ1 := ((Km.rf.s30 (by omega) (by omega)).s30 (by omega) (by omega)).tr f2
  have mX : C nM_text 0 [.ref 30] τ = R nM_text 0 16 [.ref 30, .int 1, .int 0] [] (su (su τ 30 18 0) 30 26 0) := by
    rw [eM_text 0, h39, if_neg (show ¬ nI (aN a) = 6 from fun e => hK (nI_inj (b := 6) (by omega) (by omega) e))]
  have cX : C nF_text 0 [.ref 0] σ = (C nD_faultOf 0 [.ref 7, .int (nI (aL a))] σ).bind fun r1 => if r1.1 = (-1) then
        some ((((su (su r1.2.2 0 7 0) 2 4 (((su r1.2.2 0 7 0) 2 4) + 1)) 2 4) - 1), 0, (su (su r1.2.2 0 7 0) 2 4 (((su r1.2.2 0 7 0) 2 4) + 1))) else some (((-100) - r1.1), 0, (su r1.2.2 0 7 0)) := by
    rw [eF_text 0, h24, if_pos (show nI (aN a) < 6 from nI_lt (b := 6) hK6 (by omega)), h07]
  have k24 : σ1 2 4 = nI (aN a) := by rw [f1.1 2 (by decide)]; exact h24
  rcases g with ⟨s, s1, s2, s3, s4⟩ | ⟨c1, c2, c3, e1, w1, w2, w3, hl, b1, b2, b3, b4, b5, b6, b7, b8, b9, e2⟩
  · refine ⟨-100 - nI s, setX a (aX a) (aN a), su σ1 0 7 0, su (su τ1 37 (4 * aN a + 3) (τ1 30 26)) 30 6 0, hw.tx (Nat.le_refl _) hKK, ?_, ?_, ?_, mX.trans s4, ?_, ?_⟩
    · rw [cX, s2, bs]
      rw [if_neg (show ¬ nI s = -1 from nI_nm (by omega))]
    · exact hc.tx ((f1.1.mono (by decide)).su (by decide)) (by rw [su_ne (by decide)]; exact k24) su_e (by rw [su_o (by decide), f1.1 0 (by decide)]) ((hc.1.2.kt f1).fr (l := [0]) (Fr.rf.su (by decide)) (by decide) (by decide) (by decide))
    · exact f1.c.su (by decide)
    · have fr : Km (aN a) τ (su τ1 37 (4 * aN a + 3) (τ1 30 26)) := f2.s37 (by omega)
      refine hm.tx (fr.1.su (by decide)) (fun i h1 h2 h3 => ?_) ?_ su_e (hm.1.2.km (fun j hj => ?_) fun j hj => ?_)
      · rw [su_o (by omega)]; exact fr.2.1 i (by omega)
      · rw [su_o (by decide), fr.2.1 9 (by omega)]; exact h39
      · rw [su_ne (by decide)]; exact fr.2.2.1 j hj
      · rw [su_ne (by decide)]; exact fr.2.2.2 j hj
    · exact ((f2.1.m (by decide)).su (by decide) (by decide)).su (by decide) (by decide)
  · refine ⟨nI (aN a), setX a (txF (aX a) (aN a) (pcF c1 c2 c3)) (aN a + 1), su (su σ1 0 7 0) 2 4 (nI (aN a + 1)), su (su (su τ1 37 (4 * aN a + 3) (τ1 30 26)) 30 6 0) 30 9 (nI (aN a + 1)), hw.tx (Nat.le_succ _) (wfT_new hKK hK6 w1 w2 w3 hl), ?_, ?_, ?_, mX.trans e2, ?_, ?_⟩
    · rw [cX, e1, bs]
      rw [if_pos rfl]
      dsimp only
      rw [su_ne (show 2 ≠ 0 by decide), k24, nI_1, su_e, show nI (aN a + 1) - 1 = nI (aN a) from nI_subN (n := aN a + 1) (m := 1) (by omega) (by omega)]
    · have q : ∀ c, c ≠ 0 → c ≠ 2 → (su (su σ1 0 7 0) 2 4 (nI (aN a + 1))) c = σ1 c := fun c h0 h2 => by rw [su_ne h2, su_ne h0]
      refine hc.tx (((f1.1.mono (by decide)).su (by decide)).su (by decide)) su_e (by rw [su_ne (by decide), su_e]) (by rw [su_ne (by decide), su_o (by decide), f1.1 0 (by decide)]) ?_
      refine TxS.new ((hc.1.2.kt f1).fr (l := [0, 2]) ((Fr.rf.su (by decide)).su (by decide)) (by decide) (by decide) (by decide)) hl ?_ ?_ ?_ ?_ ?_ ?_ ?_
      · rw [q 3 (by decide) (by decide)]; exact b1
      · rw [q 4 (by decide) (by decide)]; exact b2.1
      · rw [q 5 (by decide) (by decide)]; exact b2.2
      · rw [q 4 (by decide) (by decide)]; exact b3.1
      · rw [q 5 (by decide) (by decide)]; exact b3.2
      · rw [q 4 (by decide) (by decide)]; exact b4.1
      · rw [q 5 (by decide) (by decide)]; exact b4.2
    · exact (f1.c.su (by decide)).su (by decide)
    · have fr : Km (aN a) τ (su τ1 37 (4 * aN a + 3) (τ1 30 26)) := f2.s37 (by omega)
      refine hm.tx ((fr.1.su (by decide)).su (by decide)) (fun i h1 h2 h3 => ?_) su_e (by rw [su_o (by decide), su_e]) (TxM.new (hm.1.2.km (fun j hj => ?_) fun j hj => ?_) hl (fun j x hj => ?_) ?_ ?_ ?_ ?_)
      · rw [su_o (by omega), su_o (by omega)]; exact fr.2.1 i (by omega)
      · rw [su_ne (by decide), su_ne (by decide)]; exact fr.2.2.1 j hj
      · rw [su_ne (by decide), su_ne (by decide)]; exact fr.2.2.2 j hj
      · rw [su_ne (by decide), su_ne (by decide), su_ne (by decide)]; exact b5 j x hj
      · rw [su_ne (by decide), su_ne (by decide), su_o (by omega)]; exact b6
      · rw [su_ne (by decide), su_ne (by decide), su_o (by omega)]; exact b7
      · rw [su_ne (by decide), su_ne (by decide), su_o (by omega)]; exact b8
      · rw [su_ne (by decide), su_ne (by decide), su_e]; exact b9
    · exact (((f2.1.m (by decide)).su (by decide) (by decide)).su (by decide) (by decide)).su (by decide) (by decide)
