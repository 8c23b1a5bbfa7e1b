/-! THE FIRST TIME -/
def firS (f : St → Bool) (TX : TXT) (t : St) : Nat → Nat → Int32
  | 0, _ => -1
  | d + 1, h => if f (hrsS TX t h) = true then nI h else firS f TX t d (h + 1)
theorem fir_or {f : St → Bool} {TX : TXT} {t : St} : ∀ d h, firS f TX t d h = -1 ∨ ∃ j, h ≤ j ∧ j < h + d ∧ firS f TX t d h = nI j := by
  intro d
  induction d with
  | zero => intro h; exact Or.inl rfl
  | succ d ih =>
    intro h
    have e : firS f TX t (d + 1) h = if f (hrsS TX t h) = true then nI h else firS f TX t d (h + 1) := rfl
    rw [e]
    split
    · exact Or.inr ⟨h, by omega, by omega, rfl⟩
    · rcases ih (h + 1) with g | ⟨j, g1, g2, g3⟩
      · exact Or.inl g
      · exact Or.inr ⟨j, by omega, by omega, g3⟩
theorem fir_add {f : St → Bool} {TX : TXT} {t : St} : ∀ d e h, h + d < 1000 → firS f TX t (d + e) h = if firS f TX t d h = -1 then firS f TX t e (h + d) else firS f TX t d h := by
  intro d
  induction d with
  | zero =>
    intro e h _
    rw [show firS f TX t 0 h = -1 from rfl, if_pos rfl, Nat.zero_add, Nat.add_zero]
  | succ d ih =>
    intro e h hh
    have e1 : firS f TX t (d + 1) h = if f (hrsS TX t h) = true then nI h else firS f TX t d (h + 1) := rfl
    have e2 : firS f TX t (d + 1 + e) h = if f (hrsS TX t h) = true then nI h else firS f TX t (d + e) (h + 1) := by
      rw [show d + 1 + e = (d + e) + 1 by omega]
      rfl
    rw [e1, e2]
    by_cases g : f (hrsS TX t h) = true
    · rw [if_pos g, if_pos g, if_neg (nI_nm (by omega))]
    · rw [if_neg g, if_neg g, ih e (h + 1) (by omega), show h + 1 + d = h + (d + 1) by omega]
def NowM (f : St → Bool) (x y : Int32) (a : Ab) (t : St) : Prop := ∀ σ t', AtM σ (aX a) (aN a) t' → Ok (aX a) (aN a) t' → Sam t' t → ∃ σ', C nM_isNow 0 [.ref 30, .int x, .int y] σ = some (b2 (f t'), 0, σ') ∧ Fr [46, 47] σ σ'
theorem n_first {f : St → Bool} {x y : Int32} {σ : Sto} {a : Ab} {t t0 : St} (hf : NowM f x y a t) (h : Mnd σ a t t0) (ho : Ok (aX a) (aN a) t) :
    ∃ σ' t', C nM_firstTime 0 [.ref 30, .int x, .int y] σ = some (firS f (aX a) t 61 0, 0, σ') ∧ Mnd σ' a t' t0 ∧ Sam t' t ∧ FM σ σ' := by
  have L : ∀ d h σ, h + d = 61 → Mnd σ a (hrsS (aX a) t h) t0 → ∃ σ' t', R nM_firstTime 0 4 [.ref 30, .int x, .int y, .int (-1), .int (nI h)] [] σ = some (firS f (aX a) t d h, 0, σ') ∧ Mnd σ' a t' t0 ∧ Sam t' t ∧ FM σ σ' := by
    intro d
    induction d with
    | zero =>
      intro h σ hd hm
      rw [eM_firstTime_4 0, if_pos (show 60 < nI h from nI_lt (a := 60) (by omega) (by omega))]
      exact ⟨σ, _, rfl, hm, Sam.rf.hrs h, FM.rf⟩
    | succ d ih =>
      intro h σ hd hm
      have e1 : firS f (aX a) t (d + 1) h = if f (hrsS (aX a) t h) = true then nI h else firS f (aX a) t d (h + 1) := rfl
      obtain ⟨σ1, g1, f1⟩ := hf σ _ hm.at (ho.hrs h) (Sam.rf.hrs h)
      have hm1 := hm.f2 f1
      obtain ⟨σ2, g2, hm2, f2, _⟩ := n_hour (k := 0) hm1 (ho.hrs h)
      rw [eM_firstTime_4 0, if_neg (show ¬ 60 < nI h from nI_nlt (a := 60) (by omega) (by omega)), if_pos rfl, g1, bs]; (try dsimp only); rw [nI_1, e1]
      by_cases g : f (hrsS (aX a) t h) = true
      · rw [if_pos g, if_neg (show ¬ b2 (f (hrsS (aX a) t h)) = 0 by rw [g]; exact n10), g2, bs]; (try dsimp only); rw [eM_firstTime_4 0]
        refine ⟨σ2, _, ?_, hm2, Sam.rf.hrs (h + 1), (f2m f1).tr f2⟩
        split
        · rfl
        · rw [if_neg (nI_nm (by omega))]
      · have gf : f (hrsS (aX a) t h) = false := by
          cases hh : f (hrsS (aX a) t h)
          · rfl
          · exact absurd hh g
        obtain ⟨σ3, t3, g3, hm3, s3, f3⟩ := ih (h + 1) σ2 (by omega) hm2
        rw [if_neg g, if_pos (show b2 (f (hrsS (aX a) t h)) = 0 by rw [gf]; rfl), g2, bs]
        exact ⟨σ3, t3, g3, hm3, s3, ((f2m f1).tr f2).tr f3⟩
  rw [eM_firstTime 0]
  exact L 61 0 σ rfl h
theorem now_over {a : Ab} {t : St} {p : Nat} (hp : p < sN t) : NowM (fun t' => overS t' p) (nI p) 0 a t := by
  intro σ t' h ho hs
  have hp' : p < sN t' := by rw [hs.1]; exact hp
  rw [eM_isNow 0, if_pos rfl, m_over h.1 ho.n hp', bs]; (try dsimp only); rw [if_pos b2_nok]
  exact ⟨σ, rfl, Fr.rf⟩
theorem now_alone {a : Ab} {t : St} {p : Nat} (hp : p < sN t) : NowM (fun t' => aloneS (aX a) t' p) (nI p) 1 a t := by
  intro σ t' h ho hs
  have hp' : p < sN t' := by rw [hs.1]; exact hp
  obtain ⟨σ1, e, f⟩ := m_alone (k := 0) h ho hp'
  rw [eM_isNow 0, if_neg (by decide), if_pos rfl, e, bs]; (try dsimp only); rw [if_pos b2_nok]
  exact ⟨σ1, rfl, f⟩
def noneS (TX : TXT) (t : St) : Bool := decide (sO t = 0) && decide (bitsS (aloneS TX t) (sN t) = 0)
theorem now_none {a : Ab} {t : St} {x : Int32} : NowM (noneS (aX a)) x 2 a t := by
  intro σ t' h ho hs
  obtain ⟨σ1, e, f⟩ := m_aloneSet (k := 0) h ho
  rw [eM_isNow 0, if_neg (by decide), if_neg (by decide), z0]
  unfold noneS
  by_cases h0 : sO t' = 0
  · rw [if_pos (show σ 34 0 = 0 from h.1.O.trans h0), e, bs]
    by_cases h1 : bitsS (aloneS (aX a) t') (sN t') = 0
    · rw [if_pos h1]
      exact ⟨σ1, by simp [h0, h1, b2], f⟩
    · rw [if_neg h1]
      exact ⟨σ1, by simp [h0, h1, b2], f⟩
  · rw [if_neg (show ¬ σ 34 0 = 0 from fun e => h0 (h.1.O.symm.trans e))]
    exact ⟨σ, by simp [h0, b2], Fr.rf⟩
/-- the class asks so at an hour -/
def AskC (f : St → Bool) (x y : Int32) (a : Ab) (t : St) : Prop := ∀ σ t' h u, Tht σ a t' → Ok (aX a) (aN a) t' → Sam t' t → h < 61 → ∃ σ' u', FC σ σ' ∧ Tht σ' a t' ∧
  R nF_when 0 25 [.ref 0, .int x, .int y, .int (nI h), u] [] σ = if f t' = true then some (nI h, 0, σ') else (C nS_passHour 0 [.ref 18] σ').bind fun r => R nF_when 0 25 [.ref 0, .int x, .int y, .int (nI (h + 1)), u'] [] r.2.2
theorem c_first {f : St → Bool} {x y : Int32} {a : Ab} {t : St} (hf : AskC f x y a t) (ho : Ok (aX a) (aN a) t) : ∀ d h σ u, h + d = 61 → Tht σ a (hrsS (aX a) t h) → ∃ σ', R nF_when 0 25 [.ref 0, .int x, .int y, .int (nI h), u] [] σ = some (firS f (aX a) t d h, 0, σ') ∧ InvC σ' a ∧ FC σ σ' := by
  intro d
  induction d with
  | zero =>
    intro h σ u hd ht
    rw [eF_when_25 0, if_pos (show 60 < nI h from nI_lt (a := 60) (by omega) (by omega))]
    exact ⟨σ, rfl, ht.2, FC.rf⟩
  | succ d ih =>
    intro h σ u hd ht
    have e1 : firS f (aX a) t (d + 1) h = if f (hrsS (aX a) t h) = true then nI h else firS f (aX a) t d (h + 1) := rfl
    obtain ⟨σ1, u1, f1, ht1, g1⟩ := hf σ _ h u ht (ho.hrs h) (Sam.rf.hrs h) (by omega)
    rw [g1, e1]
    by_cases g : f (hrsS (aX a) t h) = true
    · rw [if_pos g, if_pos g]
      exact ⟨σ1, rfl, ht1.2, f1⟩
    · rw [if_neg g, if_neg g]
      obtain ⟨σ2, g2, ht2, f2⟩ := t_hour (k := 0) ht1 (ho.hrs h)
      obtain ⟨σ3, g3, i3, f3⟩ := ih (h + 1) σ2 u1 (by omega) ht2
      rw [g2, bs]
      exact ⟨σ3, g3, i3, (f1.tr f2).tr f3⟩
theorem ask_over {a : Ab} {t : St} {p : Nat} (hp : p < sN t) : AskC (fun t' => overS t' p) (nI p) 0 a t := by
  intro σ t' h u ht ho hs hh
  have hp' : p < sN t' := by rw [hs.1]; exact hp
  refine ⟨σ, .int (b2 (overS t' p)), FC.rf, ht, ?_⟩
  rw [eF_when_25 0, if_neg (show ¬ 60 < nI h from nI_nlt (a := 60) (by omega) (by omega)), if_pos rfl, c_over h18 ht.1 ho.n hp', bs]; (try dsimp only); rw [nI_1]
  rcases Bool.eq_false_or_eq_true (overS t' p) with g | g
  · rw [if_neg (show ¬ b2 (overS t' p) = 0 by rw [g]; exact n10), if_pos g]
  · rw [if_pos (show b2 (overS t' p) = 0 by rw [g]; rfl), if_neg (show ¬ overS t' p = true by rw [g]; decide)]
theorem ask_alone {a : Ab} {t : St} {p : Nat} (hp : p < sN t) : AskC (fun t' => aloneS (aX a) t' p) (nI p) 1 a t := by
  intro σ t' h u ht ho hs hh
  have hp' : p < sN t' := by rw [hs.1]; exact hp
  obtain ⟨σ1, e, f⟩ := c_alone (k := 0) h18 ht.at ho hp'
  refine ⟨σ1, .int (b2 (aloneS (aX a) t' p)), f6c f, ht.f6 f, ?_⟩
  rw [eF_when_25 0, if_neg (show ¬ 60 < nI h from nI_nlt (a := 60) (by omega) (by omega)), if_neg (by decide), if_pos rfl, e, bs]; (try dsimp only); rw [nI_1]
  rcases Bool.eq_false_or_eq_true (aloneS (aX a) t' p) with g | g
  · rw [if_neg (show ¬ b2 (aloneS (aX a) t' p) = 0 by rw [g]; exact n10), if_pos g]
  · rw [if_pos (show b2 (aloneS (aX a) t' p) = 0 by rw [g]; rfl), if_neg (show ¬ aloneS (aX a) t' p = true by rw [g]; decide)]
theorem ask_none {a : Ab} {t : St} {x : Int32} : AskC (noneS (aX a)) x 2 a t := by
  intro σ t' h u ht ho hs hh
  obtain ⟨σ1, e, f⟩ := c_aloneBits (k := 0) h18 ht.at ho
  rw [eF_when_25 0, if_neg (show ¬ 60 < nI h from nI_nlt (a := 60) (by omega) (by omega)), if_neg (by decide), if_neg (by decide), nI_1]
  unfold noneS
  by_cases h0 : sO t' = 0
  · rw [if_pos (show σ 18 8 = 0 from ht.1.O.trans h0), e, bs]
    by_cases h1 : bitsS (aloneS (aX a) t') (sN t') = 0
    · rw [if_pos h1]
      exact ⟨σ1, .int 0, f6c f, ht.f6 f, by simp [h0, h1]⟩
    · rw [if_neg h1]
      exact ⟨σ1, .int 0, f6c f, ht.f6 f, by simp [h0, h1]⟩
  · rw [if_neg (show ¬ σ 18 8 = 0 from fun e => h0 (ht.1.O.symm.trans e))]
    exact ⟨σ, .int 0, FC.rf, ht, by simp [h0]⟩
theorem s_when {a : Ab} (hw : WfA a) (x y : Int32) : Step nF_when nM_when [.int x, .int y] a := by
  have ho := hw.1
  have hN := ho.n
  have e0 : (0 : Int32).toInt = 0 := by decide
  have e1 : (1 : Int32).toInt = 1 := by decide
  have e2 : (2 : Int32).toInt = 2 := by decide
  by_cases hy : 0 ≤ y.toInt ∧ y.toInt ≤ 2
  rotate_left
  · have q := in_f e0 e2 hy
    refine same hw (-7) (fun σ h => ?_) (fun σ h => ?_)
    · rw [eF_when 0, c_in, q, bs]; (try dsimp only); rw [if_pos rfl]
      exact ⟨σ, rfl, Fr.rf⟩
    · rw [eM_when 0, m_in, q, bs]; (try dsimp only); rw [if_pos rfl]
      exact ⟨σ, rfl, Fr.rf⟩
  have q := in_t e0 e2 hy
  by_cases y2 : y = 2
  · subst y2
    refine think hw (firS (noneS (aX a)) (aX a) (aT a) 61 0) (fun σ h => ?_) (fun σ h => ?_)
    · obtain ⟨σ1, g1, h1, f1⟩ := t_new (k := 0) hw h
      obtain ⟨σ2, g2, h2, f2⟩ := c_first (ask_none (x := x)) ho 61 0 σ1 .null rfl h1
      rw [eF_when 0, c_in, q, bs]; (try dsimp only); rw [if_neg n10, if_pos rfl, g1, bs]
      exact ⟨σ2, g2, h2, f1.tr f2⟩
    · obtain ⟨σ1, g1, h1, f1⟩ := n_new (k := 0) (t := aT a) ho h
      obtain ⟨σ2, t2, g2, h2, s2, f2⟩ := n_first (now_none (x := x)) h1 ho
      obtain ⟨σ3, g3, h3, f3⟩ := n_lays (k := 0) h2 s2 hN
      rw [eM_when 0, m_in, q, bs]; (try dsimp only); rw [if_neg n10, if_neg (by decide), g1, bs]; (try dsimp only); rw [g2, bs]; (try dsimp only); rw [g3, bs]
      exact ⟨σ3, rfl, h3.1, (f1.tr f2).tr f3⟩
  have y2' : y < 2 := by
    rw [i_eq, e2] at y2
    rw [i_lt, e2]
    omega
  cases hx : isOneS (aT a) x with
  | false =>
    refine same hw (-5) (fun σ h => ?_) (fun σ h => ?_)
    · rw [eF_when 0, c_in, q, bs]; (try dsimp only); rw [if_neg n10, if_neg y2, c_has32 h12 h.at.1 hN, bs]; (try dsimp only); rw [hx, b2F, if_pos rfl]
      exact ⟨σ, rfl, Fr.rf⟩
    · rw [eM_when 0, m_in, q, bs]; (try dsimp only); rw [if_neg n10, if_pos y2', m_one h.at.1 hN, bs]; (try dsimp only); rw [hx, b2F, if_pos rfl]
      exact ⟨σ, rfl, Fr.rf⟩
  | true =>
    obtain ⟨p, hp, ep⟩ := one_of hN hx
    subst ep
    have fin : ∀ f, AskC f (nI p) y a (aT a) → NowM f (nI p) y a (aT a) → Step nF_when nM_when [.int (nI p), .int y] a := by
      intro f hf1 hf2
      refine think hw (firS f (aX a) (aT a) 61 0) (fun σ h => ?_) (fun σ h => ?_)
      · obtain ⟨σ1, g1, h1, f1⟩ := t_new (k := 0) hw h
        obtain ⟨σ2, g2, h2, f2⟩ := c_first hf1 ho 61 0 σ1 .null rfl h1
        rw [eF_when 0, c_in, q, bs]; (try dsimp only); rw [if_neg n10, if_neg y2, c_has32 h12 h.at.1 hN, bs]; (try dsimp only); rw [hx, b2T, if_neg n10, g1, bs]
        exact ⟨σ2, g2, h2, f1.tr f2⟩
      · obtain ⟨σ1, g1, h1, f1⟩ := n_new (k := 0) (t := aT a) ho h
        obtain ⟨σ2, t2, g2, h2, s2, f2⟩ := n_first hf2 h1 ho
        obtain ⟨σ3, g3, h3, f3⟩ := n_lays (k := 0) h2 s2 hN
        rw [eM_when 0, m_in, q, bs]; (try dsimp only); rw [if_neg n10, if_pos y2', m_one h.at.1 hN, bs]; (try dsimp only); rw [hx, b2T, if_neg n10, g1, bs]; (try dsimp only); rw [g2, bs]; (try dsimp only); rw [g3, bs]
        exact ⟨σ3, rfl, h3.1, (f1.tr f2).tr f3⟩
    by_cases y0 : y = 0
    · subst y0
      exact fin _ (ask_over hp) (now_over hp)
    · have y1 : y = 1 := by
        rw [i_eq, e0] at y0
        rw [i_lt, e2] at y2'
        rw [i_eq, e1]
        omega
      subst y1
      exact fin _ (ask_alone hp) (now_alone hp)
