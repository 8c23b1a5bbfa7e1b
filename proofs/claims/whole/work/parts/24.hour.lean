/-! bits, and an hour -/
theorem c_bitsA {k c : Nat} (hc : c = 12 ∨ c = 18 ∨ c = 24) {t : St} {TX : TXT} {K : Nat} (ho : Ok TX K t) : ∀ d m σ, At σ c TX K t → m + d = sN t →
    ∃ σ', R nS_aloneBits k 4 [.ref c, .int (bitsS (aloneS TX t) m), .int (nI m)] [] σ = some (bitsS (aloneS TX t) (sN t), 0, σ') ∧ Fr [6] σ σ' := by
  intro d
  have hN := ho.n
  induction d with
  | zero =>
    intro m σ ha hm
    have e : m = sN t := by omega
    subst e
    rw [eS_aloneBits_4 k c hc, ha.1.n, if_neg (nI_nlt (by omega) (by omega))]
    exact ⟨σ, rfl, Fr.rf⟩
  | succ d ih =>
    intro m σ ha hm
    have h1 : m < sN t := by omega
    have e : bitsS (aloneS TX t) (m + 1) = if aloneS TX t m = true then bitsS (aloneS TX t) m ||| (1 <<< (nI m &&& 31)) else bitsS (aloneS TX t) m := rfl
    obtain ⟨σ1, e1, f1⟩ := c_alone (k := k) hc ha ho h1
    have ha1 := ha.f6 hc f1
    have h2 := ih (m + 1) σ1 ha1 (by omega)
    rw [eS_aloneBits_4 k c hc, ha.1.n, if_pos (nI_lt h1 (by omega)), e1, bs]
    simp only [nI_1]
    rw [e] at h2
    cases h4 : aloneS TX t m with
    | false =>
      rw [if_neg (by rw [h4]; decide)] at h2
      obtain ⟨σ3, e3, f3⟩ := h2
      exact ⟨σ3, e3, f1.tr f3⟩
    | true =>
      rw [if_pos h4] at h2
      obtain ⟨σ3, e3, f3⟩ := h2
      exact ⟨σ3, e3, f1.tr f3⟩
theorem c_aloneBits {k c : Nat} (hc : c = 12 ∨ c = 18 ∨ c = 24) {σ : Sto} {t : St} {TX : TXT} {K : Nat} (ha : At σ c TX K t) (ho : Ok TX K t) :
    ∃ σ', C nS_aloneBits k [.ref c] σ = some (bitsS (aloneS TX t) (sN t), 0, σ') ∧ Fr [6] σ σ' := by
  rw [eS_aloneBits k c hc]
  exact c_bitsA hc ho (sN t) 0 σ ha (Nat.zero_add _)
theorem c_seenBits {k c : Nat} (hc : c = 12 ∨ c = 18 ∨ c = 24) {σ : Sto} {t : St} (hr : RepS σ c t) (hN : sN t ≤ 6) : C nS_seenBits k [.ref c] σ = some (bitsS (seenS t) (sN t), 0, σ) := by
  have L : ∀ d m, m + d = sN t → R nS_seenBits k 4 [.ref c, .int (bitsS (seenS t) m), .int (nI m)] [] σ = some (bitsS (seenS t) (sN t), 0, σ) := by
    intro d
    induction d with
    | zero =>
      intro m hm
      have e : m = sN t := by omega
      subst e
      rw [eS_seenBits_4 k c hc, hr.n, if_neg (nI_nlt (by omega) (by omega))]
    | succ d ih =>
      intro m hm
      have h1 : m < sN t := by omega
      have e : bitsS (seenS t) (m + 1) = if seenS t m = true then bitsS (seenS t) m ||| (1 <<< (nI m &&& 31)) else bitsS (seenS t) m := rfl
      have h2 := ih (m + 1) (by omega)
      rw [eS_seenBits_4 k c hc, hr.n, if_pos (nI_lt h1 (by omega)), c_seen hc hr hN h1, bs]
      simp only [nI_1]
      rw [e] at h2
      cases h4 : seenS t m with
      | false =>
        rw [if_neg (by rw [h4]; decide)] at h2
        exact h2
      | true =>
        rw [if_pos h4] at h2
        exact h2
  rw [eS_seenBits k c hc]
  exact L (sN t) 0 (Nat.zero_add _)
theorem c_overBits {k c : Nat} (hc : c = 12 ∨ c = 18 ∨ c = 24) {σ : Sto} {t : St} (hr : RepS σ c t) (hN : sN t ≤ 6) : C nS_overBits k [.ref c] σ = some (bitsS (overS t) (sN t), 0, σ) := by
  have L : ∀ d m, m + d = sN t → R nS_overBits k 4 [.ref c, .int (bitsS (overS t) m), .int (nI m)] [] σ = some (bitsS (overS t) (sN t), 0, σ) := by
    intro d
    induction d with
    | zero =>
      intro m hm
      have e : m = sN t := by omega
      subst e
      rw [eS_overBits_4 k c hc, hr.n, if_neg (nI_nlt (by omega) (by omega))]
    | succ d ih =>
      intro m hm
      have h1 : m < sN t := by omega
      have e : bitsS (overS t) (m + 1) = if overS t m = true then bitsS (overS t) m ||| (1 <<< (nI m &&& 31)) else bitsS (overS t) m := rfl
      have h2 := ih (m + 1) (by omega)
      rw [eS_overBits_4 k c hc, hr.n, if_pos (nI_lt h1 (by omega)), c_over hc hr hN h1, bs]
      simp only [nI_1]
      rw [e] at h2
      cases h4 : overS t m with
      | false =>
        rw [if_neg (by rw [h4]; decide)] at h2
        exact h2
      | true =>
        rw [if_pos h4] at h2
        exact h2
  rw [eS_overBits k c hc]
  exact L (sN t) 0 (Nat.zero_add _)
/-! what an hour leaves well -/
theorem clamp63 (x : Int32) : 0 ≤ (maxI 0 (minI 63 x)).toInt ∧ (maxI 0 (minI 63 x)).toInt ≤ 63 := by
  have e0 : (0 : Int32).toInt = 0 := by decide
  have e63 : (63 : Int32).toInt = 63 := by decide
  unfold maxI minI
  by_cases h1 : x < 63
  · rw [if_pos h1]
    by_cases h2 : 0 < x
    · rw [if_pos h2]
      rw [i_lt] at h1 h2
      omega
    · rw [if_neg h2]
      omega
  · rw [if_neg h1, if_pos (by decide)]
    omega
theorem min99 {x : Int32} (h0 : 0 ≤ x.toInt) (h : x.toInt ≤ 99) : 0 ≤ (minI 99 (x + 1)).toInt ∧ (minI 99 (x + 1)).toInt ≤ 99 := by
  have e1 : (1 : Int32).toInt = 1 := by decide
  have e : (x + 1).toInt = x.toInt + 1 := by rw [i_add (by omega) (by omega), e1]
  have e99 : (99 : Int32).toInt = 99 := by decide
  unfold minI
  by_cases h1 : x + 1 < 99
  · rw [if_pos h1]
    rw [i_lt] at h1
    omega
  · rw [if_neg h1]
    omega
theorem min9999 {x : Int32} (h0 : 0 ≤ x.toInt) (h : x.toInt ≤ 9999) : 0 ≤ (minI 9999 (x + 1)).toInt ∧ (minI 9999 (x + 1)).toInt ≤ 9999 := by
  have e1 : (1 : Int32).toInt = 1 := by decide
  have e : (x + 1).toInt = x.toInt + 1 := by rw [i_add (by omega) (by omega), e1]
  have e99 : (9999 : Int32).toInt = 9999 := by decide
  unfold minI
  by_cases h1 : x + 1 < 9999
  · rw [if_pos h1]
    rw [i_lt] at h1
    omega
  · rw [if_neg h1]
    omega
theorem okP_P {t : St} {i p : Nat} {v : Int32} (h : okP t i) (h1 : -1 ≤ v.toInt) (h2 : v.toInt ≤ 63) : okP (pP t (upd (rP t) p v)) i := by
  refine ⟨h.1, h.2.1, ?_, h.2.2.2⟩
  show -1 ≤ (upd (rP t) p v i).toInt ∧ (upd (rP t) p v i).toInt ≤ 63
  unfold upd
  by_cases hi : i = p
  · rw [if_pos hi]; exact ⟨h1, h2⟩
  · rw [if_neg hi]; exact h.2.2.1
theorem okP_W {t : St} {i p : Nat} {v : Int32} (h : okP t i) (h1 : 0 ≤ v.toInt) (h2 : v.toInt ≤ 99) : okP (pW t (upd (rW t) p v)) i := by
  refine ⟨h.1, h.2.1, h.2.2.1, h.2.2.2.1, ?_⟩
  show 0 ≤ (upd (rW t) p v i).toInt ∧ (upd (rW t) p v i).toInt ≤ 99
  unfold upd
  by_cases hi : i = p
  · rw [if_pos hi]; exact ⟨h1, h2⟩
  · rw [if_neg hi]; exact h.2.2.2.2
theorem okP_D {t : St} {i p : Nat} {v : Int32} (h : okP t i) (h1 : v = 0 ∨ v = 1) : okP (pD t (upd (rD t) p v)) i := by
  refine ⟨h.1, h.2.1, h.2.2.1, ?_, h.2.2.2.2⟩
  show upd (rD t) p v i = 0 ∨ upd (rD t) p v i = 1
  unfold upd
  by_cases hi : i = p
  · rw [if_pos hi]; exact h1
  · rw [if_neg hi]; exact h.2.2.2.1
theorem okP_K {t : St} {i p : Nat} {v : Int32} (h : okP t i) (h1 : 0 ≤ v.toInt) (h2 : v.toInt ≤ 5) : okP (pK t (upd (rK t) p v)) i := by
  refine ⟨?_, h.2⟩
  show 0 ≤ (upd (rK t) p v i).toInt ∧ (upd (rK t) p v i).toInt ≤ 5
  unfold upd
  by_cases hi : i = p
  · rw [if_pos hi]; exact ⟨h1, h2⟩
  · rw [if_neg hi]; exact h.1
theorem okP_M {t : St} {i p : Nat} {v : Int32} (h : okP t i) (h1 : 0 ≤ v.toInt) (h2 : v.toInt ≤ 9) : okP (pM t (upd (rM t) p v)) i := by
  refine ⟨h.1, ?_, h.2.2⟩
  show 0 ≤ (upd (rM t) p v i).toInt ∧ (upd (rM t) p v i).toInt ≤ 9
  unfold upd
  by_cases hi : i = p
  · rw [if_pos hi]; exact ⟨h1, h2⟩
  · rw [if_neg hi]; exact h.2.1
theorem Ok.pP {TX : TXT} {K : Nat} {t : St} (h : Ok TX K t) {p : Nat} {v : Int32} (h1 : -1 ≤ v.toInt) (h2 : v.toInt ≤ 63) : Ok TX K (pP t (upd (rP t) p v)) :=
  ⟨⟨h.1.1, h.1.2.1, h.1.2.2.1, fun i hi => okP_P (h.1.2.2.2 i hi) h1 h2⟩, h.2⟩
theorem Ok.pW {TX : TXT} {K : Nat} {t : St} (h : Ok TX K t) {p : Nat} {v : Int32} (h1 : 0 ≤ v.toInt) (h2 : v.toInt ≤ 99) : Ok TX K (pW t (upd (rW t) p v)) :=
  ⟨⟨h.1.1, h.1.2.1, h.1.2.2.1, fun i hi => okP_W (h.1.2.2.2 i hi) h1 h2⟩, h.2⟩
theorem Ok.pD {TX : TXT} {K : Nat} {t : St} (h : Ok TX K t) {p : Nat} {v : Int32} (h1 : v = 0 ∨ v = 1) : Ok TX K (pD t (upd (rD t) p v)) :=
  ⟨⟨h.1.1, h.1.2.1, h.1.2.2.1, fun i hi => okP_D (h.1.2.2.2 i hi) h1⟩, h.2⟩
theorem Ok.pK {TX : TXT} {K : Nat} {t : St} (h : Ok TX K t) {p : Nat} {v : Int32} (h1 : 0 ≤ v.toInt) (h2 : v.toInt ≤ 5) : Ok TX K (pK t (upd (rK t) p v)) :=
  ⟨⟨h.1.1, h.1.2.1, h.1.2.2.1, fun i hi => okP_K (h.1.2.2.2 i hi) h1 h2⟩, h.2⟩
theorem Ok.pM {TX : TXT} {K : Nat} {t : St} (h : Ok TX K t) {p : Nat} {v : Int32} (h1 : 0 ≤ v.toInt) (h2 : v.toInt ≤ 9) : Ok TX K (pM t (upd (rM t) p v)) :=
  ⟨⟨h.1.1, h.1.2.1, h.1.2.2.1, fun i hi => okP_M (h.1.2.2.2 i hi) h1 h2⟩, h.2⟩
theorem Ok.uH {TX : TXT} {K : Nat} {t : St} (h : Ok TX K t) {v : Int32} : Ok TX K (uH t v) := h
theorem Ok.uO {TX : TXT} {K : Nat} {t : St} (h : Ok TX K t) {v : Int32} : Ok TX K (uO t v) := h
theorem Ok.uB {TX : TXT} {K : Nat} {t : St} (h : Ok TX K t) {v : Int32} : Ok TX K (uB t v) := h
theorem Ok.uF {TX : TXT} {K : Nat} {t : St} (h : Ok TX K t) {v : Int32} (h1 : 0 ≤ v.toInt) (h2 : v.toInt ≤ 9999) : Ok TX K (uF t v) := ⟨⟨h.1.1, h.1.2.1, ⟨h1, h2⟩, h.1.2.2.2⟩, h.2⟩
theorem Ok.uL {TX : TXT} {K : Nat} {t : St} (h : Ok TX K t) {v : Nat} (h1 : v < K) : Ok TX K (uL t v) := ⟨⟨h.1.1, Nat.lt_of_lt_of_le h1 h.2.2.1, h.1.2.2⟩, h1, h.2.2⟩
theorem Ok.goOn {TX : TXT} {K : Nat} {t : St} (h : Ok TX K t) {p : Nat} {far : Int32} : Ok TX K (goOnS t p far) := by
  have h1 := clamp63 (rP t p + far)
  exact h.pP (by omega) h1.2
theorem Ok.wait {TX : TXT} {K : Nat} {t : St} (h : Ok TX K t) {p : Nat} (hp : p < sN t) : Ok TX K (waitS t p) := by
  have h2 := (h.p hp).2.2.2.2
  have h1 := min99 h2.1 h2.2
  exact h.pW h1.1 h1.2
theorem Ok.walk1 {TX : TXT} {K : Nat} {t : St} (h : Ok TX K t) {p : Nat} (hp : p < sN t) : Ok TX K (walk1S TX t p) := by
  unfold walk1S
  split
  · exact h
  · exact (h.goOn).wait hp
theorem walk1_t {TX : TXT} {t : St} {p : Nat} : (walk1S TX t p).1 = t.1 := by
  unfold walk1S
  split <;> rfl
theorem walk_t {TX : TXT} {t : St} : ∀ m, (walkS TX t m).1 = t.1 := by
  intro m
  induction m with
  | zero => rfl
  | succ m ih => exact walk1_t.trans ih
theorem walk_n {TX : TXT} {t : St} (m : Nat) : sN (walkS TX t m) = sN t := congrArg (·.1) (walk_t m)
theorem Ok.walk {TX : TXT} {K : Nat} {t : St} (h : Ok TX K t) : ∀ m, m ≤ sN t → Ok TX K (walkS TX t m) := by
  intro m
  induction m with
  | zero => intro _; exact h
  | succ m ih => intro hm; exact (ih (by omega)).walk1 (by rw [walk_n]; omega)
theorem ok_fetch {TX : TXT} {K : Nat} {t : St} (h : Ok TX K t) (p : Nat) : Ok TX K (fetchS t p) := by
  have h1 := min9999 h.1.2.2.1.1 h.1.2.2.1.2
  have e : ((-1 : Int32)).toInt = -1 := by decide
  have h2 : Ok TX K (pP (uO t (1 + absI (2 * rP t p - 63) / 20)) (upd (rP t) p (-1))) := Ok.pP (t := uO t (1 + absI (2 * rP t p - 63) / 20)) h.uO (by omega) (by omega)
  exact (h2.uB).uF h1.1 h1.2
theorem Ok.ferry {TX : TXT} {K : Nat} {t : St} (h : Ok TX K t) : Ok TX K (ferryS TX t) := by
  unfold ferryS
  split
  · split
    · exact h
    · exact h
  · split
    · exact h
    · exact ok_fetch h _
theorem ferry_n {TX : TXT} {t : St} : sN (ferryS TX t) = sN t := by
  unfold ferryS
  split
  · split <;> rfl
  · split <;> rfl
theorem Ok.hour {TX : TXT} {K : Nat} {t : St} (h : Ok TX K t) : Ok TX K (hourS TX t) := by
  refine Ok.uH (h.ferry.walk (sN t) ?_)
  rw [ferry_n]
  exact Nat.le_refl _
theorem hour_n {TX : TXT} {t : St} : sN (hourS TX t) = sN t := (walk_n _).trans ferry_n
/-! the strand's changes -/
theorem RepS.sP {σ : Sto} {c : Nat} {t : St} (h : RepS σ c t) (hc : c = 12 ∨ c = 18 ∨ c = 24) {p : Nat} {v : Int32} : RepS (su σ (c + 3) p v) c (pP t (upd (rP t) p v)) := by
  refine ⟨by rw [su_ne (by omega)]; exact h.1, fun i hi => ?_⟩
  obtain ⟨h1, h2, h3, h4, h5⟩ := h.2 i hi
  rw [su_ne (by omega), su_ne (by omega), su_row, su_ne (by omega), su_ne (by omega)]
  refine ⟨h1, h2, ?_, h4, h5⟩
  show upd (σ (c + 3)) p v i = upd (rP t) p v i
  unfold upd
  rw [h3]
theorem RepS.sW {σ : Sto} {c : Nat} {t : St} (h : RepS σ c t) (hc : c = 12 ∨ c = 18 ∨ c = 24) {p : Nat} {v : Int32} : RepS (su σ (c + 5) p v) c (pW t (upd (rW t) p v)) := by
  refine ⟨by rw [su_ne (by omega)]; exact h.1, fun i hi => ?_⟩
  obtain ⟨h1, h2, h3, h4, h5⟩ := h.2 i hi
  rw [su_ne (by omega), su_ne (by omega), su_ne (by omega), su_ne (by omega), su_row]
  refine ⟨h1, h2, h3, h4, ?_⟩
  show upd (σ (c + 5)) p v i = upd (rW t) p v i
  unfold upd
  rw [h5]
theorem RepS.sD {σ : Sto} {c : Nat} {t : St} (h : RepS σ c t) (hc : c = 12 ∨ c = 18 ∨ c = 24) {p : Nat} {v : Int32} : RepS (su σ (c + 4) p v) c (pD t (upd (rD t) p v)) := by
  refine ⟨by rw [su_ne (by omega)]; exact h.1, fun i hi => ?_⟩
  obtain ⟨h1, h2, h3, h4, h5⟩ := h.2 i hi
  rw [su_ne (by omega), su_ne (by omega), su_ne (by omega), su_row, su_ne (by omega)]
  refine ⟨h1, h2, h3, ?_, h5⟩
  show upd (σ (c + 4)) p v i = upd (rD t) p v i
  unfold upd
  rw [h4]
theorem RepS.sM {σ : Sto} {c : Nat} {t : St} (h : RepS σ c t) (hc : c = 12 ∨ c = 18 ∨ c = 24) {p : Nat} {v : Int32} : RepS (su σ (c + 2) p v) c (pM t (upd (rM t) p v)) := by
  refine ⟨by rw [su_ne (by omega)]; exact h.1, fun i hi => ?_⟩
  obtain ⟨h1, h2, h3, h4, h5⟩ := h.2 i hi
  rw [su_ne (by omega), su_row, su_ne (by omega), su_ne (by omega), su_ne (by omega)]
  refine ⟨h1, ?_, h3, h4, h5⟩
  show upd (σ (c + 2)) p v i = upd (rM t) p v i
  unfold upd
  rw [h2]
theorem RepS.sK {σ : Sto} {c : Nat} {t : St} (h : RepS σ c t) (hc : c = 12 ∨ c = 18 ∨ c = 24) {p : Nat} {v : Int32} : RepS (su σ (c + 1) p v) c (pK t (upd (rK t) p v)) := by
  refine ⟨by rw [su_ne (by omega)]; exact h.1, fun i hi => ?_⟩
  obtain ⟨h1, h2, h3, h4, h5⟩ := h.2 i hi
  rw [su_row, su_ne (by omega), su_ne (by omega), su_ne (by omega), su_ne (by omega)]
  refine ⟨?_, h2, h3, h4, h5⟩
  show upd (σ (c + 1)) p v i = upd (rK t) p v i
  unfold upd
  rw [h1]
theorem RepS.sc {σ : Sto} {c : Nat} {t : St} (h : RepS σ c t) {j : Nat} {v : Int32} {t' : St} (h1 : t'.2 = t.2) (hn : sN t' = sN t) (h2 : upd (σ c) j v 6 = nI (sN t') ∧ upd (σ c) j v 7 = sH t' ∧ upd (σ c) j v 8 = sO t' ∧ upd (σ c) j v 9 = sB t' ∧ upd (σ c) j v 10 = sF t' ∧ upd (σ c) j v 11 = nI (sL t')) : RepS (su σ c j v) c t' := by
  refine ⟨by rw [su_row]; exact h2, fun i hi => ?_⟩
  rw [hn] at hi
  rw [su_ne (by omega), su_ne (by omega), su_ne (by omega), su_ne (by omega), su_ne (by omega)]
  unfold rK rM rP rD rW
  rw [h1]
  exact h.2 i hi
theorem RepS.s7 {σ : Sto} {c : Nat} {t : St} (h : RepS σ c t) {v : Int32} : RepS (su σ c 7 v) c (uH t v) :=
  h.sc rfl rfl ⟨(upd_n (by decide)).trans h.n, upd_s, (upd_n (by decide)).trans h.O, (upd_n (by decide)).trans h.B, (upd_n (by decide)).trans h.F, (upd_n (by decide)).trans h.L⟩
theorem RepS.s8 {σ : Sto} {c : Nat} {t : St} (h : RepS σ c t) {v : Int32} : RepS (su σ c 8 v) c (uO t v) :=
  h.sc rfl rfl ⟨(upd_n (by decide)).trans h.n, (upd_n (by decide)).trans h.H, upd_s, (upd_n (by decide)).trans h.B, (upd_n (by decide)).trans h.F, (upd_n (by decide)).trans h.L⟩
theorem RepS.s9 {σ : Sto} {c : Nat} {t : St} (h : RepS σ c t) {v : Int32} : RepS (su σ c 9 v) c (uB t v) :=
  h.sc rfl rfl ⟨(upd_n (by decide)).trans h.n, (upd_n (by decide)).trans h.H, (upd_n (by decide)).trans h.O, upd_s, (upd_n (by decide)).trans h.F, (upd_n (by decide)).trans h.L⟩
theorem RepS.s10 {σ : Sto} {c : Nat} {t : St} (h : RepS σ c t) {v : Int32} : RepS (su σ c 10 v) c (uF t v) :=
  h.sc rfl rfl ⟨(upd_n (by decide)).trans h.n, (upd_n (by decide)).trans h.H, (upd_n (by decide)).trans h.O, (upd_n (by decide)).trans h.B, upd_s, (upd_n (by decide)).trans h.L⟩
theorem RepS.s11 {σ : Sto} {c : Nat} {t : St} (h : RepS σ c t) {v : Nat} : RepS (su σ c 11 (nI v)) c (uL t v) :=
  h.sc rfl rfl ⟨(upd_n (by decide)).trans h.n, (upd_n (by decide)).trans h.H, (upd_n (by decide)).trans h.O, (upd_n (by decide)).trans h.B, (upd_n (by decide)).trans h.F, upd_s⟩
/-- the cells that an hour writes -/
def wr (c : Nat) : List Nat := [6, c, c + 1, c + 2, c + 3, c + 4, c + 5]
theorem TxS.su {σ : Sto} {TX : TXT} {K : Nat} (h : TxS σ TX K) {c i : Nat} {v : Int32} (hc : 6 ≤ c) : TxS (su σ c i v) TX K := h.fr (l := [c]) (Fr.rf.su (List.mem_singleton.mpr rfl)) (by rw [List.mem_singleton]; omega) (by rw [List.mem_singleton]; omega) (by rw [List.mem_singleton]; omega)
theorem f6wr {c : Nat} {σ σ' : Sto} (h : Fr [6] σ σ') : Fr (wr c) σ σ' := h.mono fun x hx => by
  rw [List.mem_singleton] at hx
  subst hx
  exact List.mem_cons_self
theorem c_goOn {k c : Nat} (hc : c = 12 ∨ c = 18 ∨ c = 24) {σ : Sto} {t : St} (hr : RepS σ c t) (hN : sN t ≤ 6) {p : Nat} (hp : p < sN t) {far : Int32} :
    C nS_goOn k [.ref c, .int (nI p), .int far] σ = some (0, 0, su σ (c + 3) p (maxI 0 (minI 63 (rP t p + far)))) ∧ RepS (su σ (c + 3) p (maxI 0 (minI 63 (rP t p + far)))) c (goOnS t p far) := by
  have h6 : p < 6 := by omega
  refine ⟨?_, hr.sP hc⟩
  rw [eS_goOn k c hc]
  simp only [ib6 h6, ix6 h6, hr.P hp, ↓reduceIte]
theorem c_walkL {k c : Nat} (hc : c = 12 ∨ c = 18 ∨ c = 24) {t : St} {TX : TXT} {K : Nat} (ho : Ok TX K t) {v1 : Int32} : ∀ d m σ, At σ c TX K (walkS TX t m) → m + d = sN t →
    ∃ σ', R nS_passHour k 26 [.ref c, .int v1, .int (nI m)] [] σ = some (v1, 0, σ') ∧ At σ' c TX K (uH (walkS TX t (sN t)) (sH t + 1)) ∧ Fr (wr c) σ σ' := by
  intro d
  have hN := ho.n
  have m5 : c + 5 ∈ wr c := by unfold wr; simp
  have m3 : c + 3 ∈ wr c := by unfold wr; simp
  have m0 : c ∈ wr c := by unfold wr; simp
  induction d with
  | zero =>
    intro m σ ha hm
    have e : m = sN t := by omega
    subst e
    have e2 : sH (walkS TX t (sN t)) = sH t := congrArg (fun z => z.2.1) (walk_t (sN t))
    rw [eS_passHour_26 k c hc, ha.1.n, walk_n, if_neg (nI_nlt (by omega) (by omega)), ha.1.H, e2]
    exact ⟨_, rfl, ⟨ha.1.s7, ha.2.su (by omega)⟩, Fr.rf.su m0⟩
  | succ d ih =>
    intro m σ ha hm
    have h1 : m < sN t := by omega
    have h6 : m < 6 := by omega
    have h1' : m < sN (walkS TX t m) := by rw [walk_n]; exact h1
    have hom := ho.walk m (by omega)
    have e : walkS TX t (m + 1) = walk1S TX (walkS TX t m) m := rfl
    obtain ⟨σ1, e1, f1⟩ := c_walks (k := k) hc ha hom h1'
    have ha1 := ha.f6 hc f1
    obtain ⟨e2, r2⟩ := c_goOn (k := k) hc ha1.1 hom.n h1' (far := walksS TX (walkS TX t m) m)
    rw [eS_passHour_26 k c hc, ha.1.n, walk_n, if_pos (nI_lt h1 (by omega))]
    simp only [ib6 h6, ix6 h6, ha.1.P h1', e1, bs, e2, ↓reduceIte, nI_1]
    by_cases h2 : rP (walkS TX t m) m = -1
    · rw [if_pos h2]
      refine ih (m + 1) σ ?_ (by omega)
      rw [e]
      unfold walk1S
      rw [if_pos h2]
      exact ha
    · rw [if_neg h2]
      have h3 : su σ1 (c + 3) m (maxI 0 (minI 63 (rP (walkS TX t m) m + walksS TX (walkS TX t m) m))) (c + 5) m = rW (goOnS (walkS TX t m) m (walksS TX (walkS TX t m) m)) m := r2.W h1'
      rw [h3]
      obtain ⟨σ', e3, a3, f3⟩ := ih (m + 1) _ (by
        rw [e]
        unfold walk1S
        rw [if_neg h2]
        exact ⟨r2.sW hc, (ha1.2.su (by omega)).su (by omega)⟩) (by omega)
      exact ⟨σ', e3, a3, (((f6wr f1).su m3).su m5).tr f3⟩
theorem c_fetch {k c : Nat} (hc : c = 12 ∨ c = 18 ∨ c = 24) {σ : Sto} {t : St} {TX : TXT} {K : Nat} (ha : At σ c TX K t) (hN : sN t ≤ 6) {p : Nat} (hp : p < sN t) :
    ∃ σ', C nS_fetch k [.ref c, .int (nI p)] σ = some (0, 0, σ') ∧ At σ' c TX K (fetchS t p) ∧ Fr (wr c) σ σ' := by
  have h6 : p < 6 := by omega
  have m3 : c + 3 ∈ wr c := by unfold wr; simp
  have m0 : c ∈ wr c := by unfold wr; simp
  have hr := ha.1
  have r1 := (hr.s8 (v := 1 + absI (2 * rP t p - 63) / 20)).sP hc (p := p) (v := -1)
  have r2 := r1.s9 (v := nI p)
  have r3 := r2.s10 (v := minI 9999 (sF t + 1))
  rw [eS_fetch k c hc, if_neg (nI_nm (by omega))]
  have e : su (su (su σ c 8 (1 + absI (2 * rP t p - 63) / 20)) (c + 3) p (-1)) c 9 (nI p) c 10 = sF t := r2.F
  simp only [ib6 h6, ix6 h6, hr.P hp, e, ↓reduceIte]
  exact ⟨_, rfl, ⟨r3, (((ha.2.su (by omega)).su (by omega)).su (by omega)).su (by omega)⟩, (((Fr.rf.su m0).su m3).su m0).su m0⟩
theorem c_hour {k c : Nat} (hc : c = 12 ∨ c = 18 ∨ c = 24) {σ : Sto} {t : St} {TX : TXT} {K : Nat} (ha : At σ c TX K t) (ho : Ok TX K t) :
    ∃ σ', C nS_passHour k [.ref c] σ = some (whoS TX t, 0, σ') ∧ At σ' c TX K (hourS TX t) ∧ Fr (wr c) σ σ' := by
  have m0 : c ∈ wr c := by unfold wr; simp
  have hfin : ∀ (σ1 : Sto) (v : Int32), At σ1 c TX K (ferryS TX t) → sH (ferryS TX t) = sH t → Fr (wr c) σ σ1 → v = whoS TX t → ∃ σ', R nS_passHour k 26 [.ref c, .int v, .int 0] [] σ1 = some (whoS TX t, 0, σ') ∧ At σ' c TX K (hourS TX t) ∧ Fr (wr c) σ σ' := by
    intro σ1 v ha1 hH f1 hv
    subst hv
    obtain ⟨σ', e, a, f⟩ := c_walkL (k := k) hc ho.ferry (v1 := whoS TX t) (sN (ferryS TX t)) 0 σ1 ha1 (Nat.zero_add _)
    rw [ferry_n, hH] at a
    exact ⟨σ', e, a, f1.tr f⟩
  have ef : ferryS TX t = if 0 < sO t then (if sO t - 1 = 0 then uB (uO t (sO t - 1)) (-1) else uO t (sO t - 1)) else if choiceS TX t = -1 then t else fetchS t (choiceS TX t).toNatClampNeg := rfl
  have ew : whoS TX t = if 0 < sO t then -1 else choiceS TX t := rfl
  rw [eS_passHour k c hc, ha.1.O, su_e]
  by_cases h1 : 0 < sO t
  · rw [if_pos h1] at ef ew ⊢
    by_cases h2 : sO t - 1 = 0
    · rw [if_pos h2] at ef ⊢
      exact hfin _ _ (by rw [ef]; exact ⟨ha.1.s8.s9, (ha.2.su (by omega)).su (by omega)⟩) (by rw [ef]; rfl) ((Fr.rf.su m0).su m0) ew.symm
    · rw [if_neg h2] at ef ⊢
      exact hfin _ _ (by rw [ef]; exact ⟨ha.1.s8, ha.2.su (by omega)⟩) (by rw [ef]; rfl) (Fr.rf.su m0) ew.symm
  · rw [if_neg h1] at ef ew ⊢
    obtain ⟨σ1, e1, f1⟩ := c_choice (k := k) hc ha ho
    have ha1 := ha.f6 hc f1
    rw [e1, bs]
    rcases choice_or TX t with h2 | ⟨p, hp, h2, _⟩
    · rw [if_pos h2] at ef
      simp only [h2]
      rw [eS_fetch k c hc, if_pos rfl, bs]
      exact hfin σ1 (-1) (by rw [ef]; exact ha1) (by rw [ef]) (f6wr f1) (by rw [ew, h2])
    · have hp6 : p < 6 := Nat.lt_of_lt_of_le hp ho.n
      rw [h2, if_neg (nI_nm (by omega)), ix6 hp6] at ef
      obtain ⟨σ2, e2, a2, f2⟩ := c_fetch (k := k) hc ha1 ho.n hp
      simp only [h2]
      rw [e2, bs]
      exact hfin σ2 (nI p) (by rw [ef]; exact a2) (by rw [ef]; rfl) ((f6wr f1).tr f2) (by rw [ew, h2])
