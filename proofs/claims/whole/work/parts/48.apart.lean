/-! APART -/
def dstN (c f : Nat) : Nat := if c < f then f - c else c - f
def Bst (A : Nat → Bool) (f n o c : Nat) : Prop := c < n ∧ A c = true ∧ o = dstN c f ∧ ∀ c', c' < n → A c' = true → o < dstN c' f ∨ (o = dstN c' f ∧ c ≤ c')
theorem bst_u {A : Nat → Bool} {f n o c o' c' : Nat} (h : Bst A f n o c) (h' : Bst A f n o' c') : o = o' ∧ c = c' := by
  obtain ⟨h1, h2, h3, h4⟩ := h
  obtain ⟨k1, k2, k3, k4⟩ := h'
  have a1 := h4 c' k1 k2
  have a2 := k4 c h1 h2
  omega
def alAt (TX : TXT) (t : St) (p c : Nat) : Bool := aloneS TX (plcT t p (nI c)) p
theorem c_would {a : Ab} {t : St} {p : Nat} (hp : p < sN t) (ho : Ok (aX a) (aN a) t) {σ : Sto} {v x : Int32} (h : Tht σ a (plcT t p v)) :
    (∀ c, c < 64 → x = nI c → ∃ σ', C nF_wouldBeAlone 0 [.ref 0, .int (nI p), .int x] σ = some (b2 (alAt (aX a) t p c), 0, σ') ∧ Tht σ' a (plcT t p x) ∧ FC σ σ') ∧
    (¬ (0 ≤ x.toInt ∧ x.toInt ≤ 63) → C nF_wouldBeAlone 0 [.ref 0, .int (nI p), .int x] σ = some (b2 false, 0, σ)) := by
  have hN := ho.n
  have h6 : p < 6 := by omega
  have e0 : (0 : Int32).toInt = 0 := by decide
  have e63 : (63 : Int32).toInt = 63 := by decide
  refine ⟨fun c hc ex => ?_, fun hx => ?_⟩
  · subst ex
    have tc : (nI c).toInt = (c : Int) := nI_toInt (by omega)
    have q := in_t (v := nI c) e0 e63 (by omega)
    have r1 : RepS (su σ 21 p (nI c)) 18 (plcT t p (nI c)) := by
      have r := h.1.sP h18 (p := p) (v := nI c)
      have ee : pP (plcT t p v) (upd (rP (plcT t p v)) p (nI c)) = plcT t p (nI c) := by
        show (t.1, rK t, rM t, upd (upd (rP t) p v) p (nI c), rD t, rW t) = (t.1, rK t, rM t, upd (rP t) p (nI c), rD t, rW t)
        rw [upd_upd]
      rw [ee] at r
      exact r
    have h1 : Tht (su σ 21 p (nI c)) a (plcT t p (nI c)) := h.st (Fr.rf.su (by decide)) r1
    obtain ⟨σ', e, f⟩ := c_alone (k := 0) h18 h1.at (Ok.pP ho (p := p) (v := nI c) (by omega) (by omega)) (p := p) hp
    rw [eF_wouldBeAlone 0, c_in, q, bs]; (try dsimp only); rw [if_neg n10, if_pos (ib6 h6), ix6 h6]
    have e' : C nS_isAlone 0 [.ref 18, .int (nI p)] (su σ 21 p (nI c)) = some (b2 (alAt (aX a) t p c), 0, σ') := e
    rw [e', bs]; (try dsimp only); rw [if_pos b2_nok]
    exact ⟨σ', rfl, h1.f6 f, (FC.rf.su (by decide)).tr (f6c f)⟩
  · have q := in_f e0 e63 hx
    rw [eF_wouldBeAlone 0, c_in, q, bs]; (try dsimp only); rw [if_pos rfl]
    rfl
theorem c_apartL {a : Ab} {t : St} {p f : Nat} (hp : p < sN t) (hf : f < 64) (ho : Ok (aX a) (aN a) t) (y : Int32) : ∀ d m σ v, m + d = 64 → Tht σ a (plcT t p v) → (∀ c, c < 64 → alAt (aX a) t p c = true → m ≤ dstN c f) →
    ∃ σ' r, R nF_apart 0 35 [.ref 0, .int (nI p), .int y, .int (nI f), .int (nI m)] [] σ = some (r, 0, σ') ∧ InvC σ' a ∧ FC σ σ' ∧
      ((∃ o c, Bst (alAt (aX a) t p) f 64 o c ∧ r = if y = 0 then nI o else nI c) ∨ ((∀ c, c < 64 → alAt (aX a) t p c = false) ∧ r = -1)) := by
  intro d
  induction d with
  | zero =>
    intro m σ v hm h hA
    have e : m = 64 := by omega
    subst e
    rw [eF_apart_35 0, if_neg (by decide)]
    refine ⟨σ, -1, rfl, h.2, FC.rf, Or.inr ⟨fun c hc => ?_, rfl⟩⟩
    cases g : alAt (aX a) t p c with
    | false => rfl
    | true =>
      have := hA c hc g
      unfold dstN at this
      split at this <;> omega
  | succ d ih =>
    intro m σ v hm h hA
    have tf : (nI f).toInt = (f : Int) := nI_toInt (by omega)
    have tm : (nI m).toInt = (m : Int) := nI_toInt (by omega)
    have t1 : (nI f - nI m).toInt = (f : Int) - m := by rw [i_sub (by omega) (by omega), tf, tm]
    have t2 : (nI f + nI m).toInt = (f : Int) + m := by rw [i_add (by omega) (by omega), tf, tm]
    have hl := c_would hp ho (x := nI f - nI m) h
    rw [eF_apart_35 0, if_pos (show nI m < 64 from nI_lt (b := 64) (by omega) (by omega)), nI_1]
    -- the lower one
    have low : ∃ σ1 b v1, C nF_wouldBeAlone 0 [.ref 0, .int (nI p), .int (nI f - nI m)] σ = some (b2 b, 0, σ1) ∧ Tht σ1 a (plcT t p v1) ∧ FC σ σ1 ∧ (b = true → m ≤ f ∧ alAt (aX a) t p (f - m) = true) ∧ (b = false → m ≤ f → alAt (aX a) t p (f - m) = false) := by
      by_cases hmf : m ≤ f
      · obtain ⟨σ1, e1, h1, f1⟩ := hl.1 (f - m) (by omega) (nI_subN hmf (by omega))
        exact ⟨σ1, _, _, e1, h1, f1, fun hb => ⟨hmf, hb⟩, fun hb _ => hb⟩
      · exact ⟨σ, false, v, hl.2 (by omega), h, FC.rf, fun hb => (by cases hb), fun _ hh => absurd hh hmf⟩
    obtain ⟨σ1, b, v1, e1, h1, f1, bt, bf⟩ := low
    rw [e1, bs]
    try dsimp only
    cases b with
    | true =>
      obtain ⟨hmf, hal⟩ := bt rfl
      rw [if_neg (show ¬ b2 true = 0 from n10), nI_subN hmf (by omega)]
      refine ⟨σ1, if y = 0 then nI m else nI (f - m), ?_, h1.2, f1, Or.inl ⟨m, f - m, ⟨by omega, hal, ?_, fun c' hc' hA' => ?_⟩, rfl⟩⟩
      · split <;> rfl
      · unfold dstN
        split <;> omega
      · have := hA c' hc' hA'
        by_cases hq : m = dstN c' f
        · refine Or.inr ⟨hq, ?_⟩
          unfold dstN at hq
          split at hq <;> omega
        · exact Or.inl (by omega)
    | false =>
      have bf := bf rfl
      have hh := c_would hp ho (x := nI f + nI m) h1
      have upp : ∃ σ2 b v2, C nF_wouldBeAlone 0 [.ref 0, .int (nI p), .int (nI f + nI m)] σ1 = some (b2 b, 0, σ2) ∧ Tht σ2 a (plcT t p v2) ∧ FC σ1 σ2 ∧ (b = true → f + m < 64 ∧ alAt (aX a) t p (f + m) = true) ∧ (b = false → f + m < 64 → alAt (aX a) t p (f + m) = false) := by
        by_cases hmf : f + m < 64
        · obtain ⟨σ2, e2, h2, f2⟩ := hh.1 (f + m) (by omega) (nI_add f m)
          exact ⟨σ2, _, _, e2, h2, f2, fun hb => ⟨hmf, hb⟩, fun hb _ => hb⟩
        · exact ⟨σ1, false, v1, hh.2 (by omega), h1, FC.rf, fun hb => (by cases hb), fun _ h3 => absurd h3 hmf⟩
      obtain ⟨σ2, b', v2, e2, h2, f2, bt', bf'⟩ := upp
      rw [if_pos (show b2 false = 0 from rfl), e2, bs]
      try dsimp only
      cases b' with
      | true =>
        obtain ⟨hmf, hal⟩ := bt' rfl
        rw [if_neg (show ¬ b2 true = 0 from n10), nI_add]
        refine ⟨σ2, if y = 0 then nI m else nI (f + m), ?_, h2.2, f1.tr f2, Or.inl ⟨m, f + m, ⟨hmf, hal, ?_, fun c' hc' hA' => ?_⟩, rfl⟩⟩
        · split <;> rfl
        · unfold dstN
          split <;> omega
        · have := hA c' hc' hA'
          by_cases hq : m = dstN c' f
          · refine Or.inr ⟨hq, ?_⟩
            unfold dstN at hq
            split at hq
            · have hc2 : c' = f - m := by omega
              have hm2 : m ≤ f := by omega
              rw [hc2, bf hm2] at hA'
              cases hA'
            · omega
          · exact Or.inl (by omega)
      | false =>
        have bf' := bf' rfl
        obtain ⟨σ3, r, e3, i3', f3, hr⟩ := ih (m + 1) σ2 v2 (by omega) h2 (fun c hc hAc => by
          have hd := hA c hc hAc
          by_cases hq : m = dstN c f
          · exfalso
            unfold dstN at hq
            split at hq
            · have hc2 : c = f - m := by omega
              have hm2 : m ≤ f := by omega
              rw [hc2, bf hm2] at hAc
              cases hAc
            · have hc2 : c = f + m := by omega
              rw [hc2, bf' (by omega)] at hAc
              cases hAc
          · omega)
        rw [if_pos (show b2 false = 0 from rfl)]
        exact ⟨σ3, r, e3, i3', (f1.tr f2).tr f3, hr⟩
