/-! FRACTIONS: both take the greatest common divisor -/
theorem yN_t {n : Nat} (h : n < 2147483648) : (Int32.toInt64 (nI n)).toInt = (n : Int) := by rw [Int32.toInt_toInt64, nI_toInt h]
theorem yN_eq {a b : Nat} (ha : a < 2147483648) (hb : b < 2147483648) : Int32.toInt64 (nI a) = Int32.toInt64 (nI b) ↔ a = b := by
  rw [← Int64.toInt_inj, yN_t ha, yN_t hb]
  omega
theorem yl_eqt {x y : Int64} (h : x.toInt = y.toInt) : x = y := Int64.toInt_inj.mp h
theorem yN_add {a b : Nat} (h : a + b < 2147483648) : Int32.toInt64 (nI a) + Int32.toInt64 (nI b) = Int32.toInt64 (nI (a + b)) := by
  refine yl_eqt ?_
  rw [l_add (by rw [yN_t (by omega), yN_t (by omega)]; omega) (by rw [yN_t (by omega), yN_t (by omega)]; omega), yN_t (by omega), yN_t (by omega), yN_t (by omega)]
  omega
theorem yl_div {x y : Int64} (h1 : 0 ≤ x.toInt) (h2 : 0 < y.toInt) : (x / y).toInt = x.toInt / y.toInt := by
  have hy : y ≠ -1 := by
    intro e
    rw [e] at h2
    exact absurd h2 (by decide)
  rw [Int64.toInt_div_of_ne_right _ _ hy, Int.tdiv_eq_ediv_of_nonneg h1]
theorem yl_rem {x y : Int64} (h1 : 0 ≤ x.toInt) (h2 : 0 < y.toInt) : (x - x / y * y).toInt = x.toInt % y.toInt := by
  have hd := yl_div h1 h2
  have hx := Int64.toInt_lt x
  have g1 : 0 ≤ x.toInt / y.toInt * y.toInt := Int.mul_nonneg (Int.ediv_nonneg h1 (by omega)) (by omega)
  have g2 : x.toInt / y.toInt * y.toInt ≤ x.toInt := Int.ediv_mul_le _ (by omega)
  have g3 : (x / y * y).toInt = x.toInt / y.toInt * y.toInt := by
    rw [l_mul (by rw [hd]; omega) (by rw [hd]; omega), hd]
  rw [Int64.toInt_sub, g3, Int.bmod_eq_of_le (by omega) (by omega), Int.emod_def, Int.mul_comm y.toInt]
theorem yN_div {a b : Nat} (ha : a < 2147483648) (hb : b < 2147483648) (h0 : 0 < b) : Int32.toInt64 (nI a) / Int32.toInt64 (nI b) = Int32.toInt64 (nI (a / b)) := by
  have := Nat.div_le_self a b
  refine yl_eqt ?_
  rw [yl_div (by rw [yN_t ha]; omega) (by rw [yN_t hb]; omega), yN_t ha, yN_t hb, yN_t (by omega)]
  rfl
theorem yN_rem {a b : Nat} (ha : a < 2147483648) (hb : b < 2147483648) (h0 : 0 < b) : Int32.toInt64 (nI a) - Int32.toInt64 (nI a) / Int32.toInt64 (nI b) * Int32.toInt64 (nI b) = Int32.toInt64 (nI (a % b)) := by
  have := Nat.mod_le a b
  refine yl_eqt ?_
  rw [yl_rem (by rw [yN_t ha]; omega) (by rw [yN_t hb]; omega), yN_t ha, yN_t hb, yN_t (by omega)]
  rfl
theorem lg_0 {x y : Int64} : lg_cmp x y = 0 ↔ x = y := by
  unfold lg_cmp
  by_cases h : y < x
  · rw [if_pos h]
    rw [Int64.lt_iff_toInt_lt] at h
    exact ⟨fun hh => absurd hh (by decide), fun hh => by rw [hh] at h; omega⟩
  · rw [if_neg h]
    by_cases h2 : x = y
    · rw [if_pos h2]; exact ⟨fun _ => h2, fun _ => rfl⟩
    · rw [if_neg h2]; exact ⟨fun hh => absurd hh (by decide), fun hh => absurd hh h2⟩
theorem gcd_step (a b : Nat) : Nat.gcd a b = Nat.gcd b (a % b) := by
  rw [Nat.gcd_comm a b, Nat.gcd_rec b a, Nat.gcd_comm]
def fracS (A B : Nat) (x : Int32) : Int64 := if B = 0 then -4611686018427387904 else if x = 0 then Int32.toInt64 (nI (A / Nat.gcd A B)) else if x = 1 then Int32.toInt64 (nI (B / Nat.gcd A B)) else -4611686018427387904
theorem lz : (0 : Int64) = Int32.toInt64 (nI 0) := by decide
theorem l1 : (1 : Int64) = Int32.toInt64 (nI 1) := by decide
theorem l100 : (100 : Int64).toInt = 100 := by decide
theorem c_fracL {k : Nat} {σ : Sto} {A B : Nat} (hA : A < 400) (hB : B < 400) (x : Int32) : ∀ b a i u, b < 400 → a < 400 → 0 < a → i + b < 100 →
    R nF_fraction k 17 [.long (Int32.toInt64 (nI A)), .null, .long (Int32.toInt64 (nI B)), .null, .int x, .long (Int32.toInt64 (nI a)), .null, .long (Int32.toInt64 (nI b)), .null, .int (nI i), u, .null] [] σ =
      some (0, if x = 0 then Int32.toInt64 (nI (A / Nat.gcd a b)) else Int32.toInt64 (nI (B / Nat.gcd a b)), σ) := by
  intro b
  induction b using Nat.strongRecOn with
  | _ b ih =>
    intro a i u hb ha h0 hi
    have a0 : ¬ Int32.toInt64 (nI a) = 0 := by rw [lz, yN_eq (by omega) (by omega)]; omega
    rw [eF_fraction_17 k, if_pos (show lg_cmp (Int32.toInt64 (nI i)) 100 < 0 from by rw [lg_lt, yN_t (by omega), l100]; omega)]
    by_cases hb0 : b = 0
    · subst hb0
      rw [if_pos (lg_0.mpr lz.symm), if_neg (fun e => a0 (lg_0.mp e)), if_neg a0, if_neg a0, Nat.gcd_zero_right, yN_div (by omega) (by omega) h0, yN_div (by omega) (by omega) h0]
      split <;> rfl
    · have b0 : ¬ Int32.toInt64 (nI b) = 0 := by rw [lz, yN_eq (by omega) (by omega)]; omega
      have hm := Nat.mod_lt a (show b > 0 by omega)
      rw [if_neg (fun e => b0 (lg_0.mp e)), if_neg b0, yN_rem (by omega) (by omega) (by omega), nI_1, ih (a % b) hm b (i + 1) _ (by omega) hb (by omega) (by omega), ← gcd_step]
theorem c_frac {k : Nat} {σ : Sto} {A B : Nat} (hA : A < 400) (hB : B ≤ 40) (x : Int32) : C nF_fraction k [.long (Int32.toInt64 (nI A)), .long (Int32.toInt64 (nI B)), .int x] σ = some (0, fracS A B x, σ) := by
  have e0 : (0 : Int32).toInt = 0 := by decide
  have e1 : (1 : Int32).toInt = 1 := by decide
  have t1 : (1 : Int64).toInt = 1 := by decide
  unfold fracS
  rw [eF_fraction k]
  by_cases hB0 : B = 0
  · subst hB0
    rw [if_pos (show lg_cmp (Int32.toInt64 (nI 0)) 1 < 0 by decide), if_pos rfl]
  rw [if_neg (show ¬ lg_cmp (Int32.toInt64 (nI B)) 1 < 0 from by rw [lg_lt, yN_t (by omega), t1]; omega), if_neg hB0]
  by_cases hx : 0 ≤ x.toInt ∧ x.toInt ≤ 1
  rotate_left
  · rw [c_in, in_f e0 e1 hx, bs]; (try dsimp only); rw [if_pos rfl, if_neg (fun e => hx (by rw [e]; decide)), if_neg (fun e => hx (by rw [e]; decide))]
  rw [c_in, in_t e0 e1 hx, bs]; (try dsimp only); rw [if_neg n10]
  have ex : ¬ x = 0 → x = 1 := by
    rw [i_eq, i_eq, e0, e1]
    omega
  have key : R nF_fraction k 17 [.long (Int32.toInt64 (nI A)), .null, .long (Int32.toInt64 (nI B)), .null, .int x, .long (Int32.toInt64 (nI B)), .null, .long (Int32.toInt64 (nI A)), .null, .int 0, .null, .null] [] σ =
      some (0, if x = 0 then Int32.toInt64 (nI (A / Nat.gcd B A)) else Int32.toInt64 (nI (B / Nat.gcd B A)), σ) := by
    by_cases hA0 : A = 0
    · exact c_fracL hA (by omega) x A B 0 .null (by omega) (by omega) (by omega) (by omega)
    · have a0 : ¬ Int32.toInt64 (nI A) = 0 := by rw [lz, yN_eq (by omega) (by omega)]; omega
      have hm := Nat.mod_le B A
      rw [eF_fraction_17 k, if_pos (by decide), if_neg (fun e => a0 (lg_0.mp e)), if_neg a0, yN_rem (by omega) (by omega) (by omega), gcd_step B A]
      exact c_fracL hA (by omega) x (B % A) A 1 _ (by omega) (by omega) (by omega) (by omega)
  rw [key, Nat.gcd_comm B A]
  by_cases h0 : x = 0
  · rw [if_pos h0, if_pos h0]
  · rw [if_neg h0, if_neg h0, if_pos (ex h0)]
theorem m_lowL {k : Nat} {σ : Sto} {A B : Nat} (hA : A < 400) (hB : B < 400) (x : Int32) : ∀ b a u, b < 400 → a < 400 → 0 < a →
    R nM_lowest k 11 [.long (Int32.toInt64 (nI A)), .null, .long (Int32.toInt64 (nI B)), .null, .int x, .long (Int32.toInt64 (nI a)), .null, .long (Int32.toInt64 (nI b)), .null, u, .null] [] σ =
      some (0, if x = 0 then Int32.toInt64 (nI (A / Nat.gcd a b)) else Int32.toInt64 (nI (B / Nat.gcd a b)), σ) := by
  intro b
  induction b using Nat.strongRecOn with
  | _ b ih =>
    intro a u hb ha h0
    have a0 : ¬ Int32.toInt64 (nI a) = 0 := by rw [lz, yN_eq (by omega) (by omega)]; omega
    rw [eM_lowest_11 k]
    by_cases hb0 : b = 0
    · subst hb0
      rw [if_pos (lg_0.mpr lz.symm), if_neg a0, if_neg a0, Nat.gcd_zero_right, yN_div (by omega) (by omega) h0, yN_div (by omega) (by omega) h0]
      split <;> rfl
    · have b0 : ¬ Int32.toInt64 (nI b) = 0 := by rw [lz, yN_eq (by omega) (by omega)]; omega
      have hm := Nat.mod_lt a (show b > 0 by omega)
      rw [if_neg (fun e => b0 (lg_0.mp e)), if_neg b0, yN_rem (by omega) (by omega) (by omega), ih (a % b) hm b _ (by omega) hb (by omega), ← gcd_step]
theorem m_low {k : Nat} {σ : Sto} {A B : Nat} (hA : A < 400) (hB : B ≤ 40) (hB0 : ¬ B = 0) {x : Int32} (hx : x = 0 ∨ x = 1) : C nM_lowest k [.long (Int32.toInt64 (nI A)), .long (Int32.toInt64 (nI B)), .int x] σ = some (0, fracS A B x, σ) := by
  unfold fracS
  rw [eM_lowest k, if_neg hB0]
  by_cases hA0 : A = 0
  · subst hA0
    rw [if_pos (lg_0.mpr lz.symm), Nat.gcd_zero_left, Nat.zero_div, Nat.div_self (by omega)]
    rcases hx with h | h
    · rw [if_pos h, h]; rfl
    · rw [if_neg (by rw [h]; decide), if_pos h, h]; rfl
  · have a0 : ¬ Int32.toInt64 (nI A) = 0 := by rw [lz, yN_eq (by omega) (by omega)]; omega
    rw [if_neg (fun e => a0 (lg_0.mp e)), m_lowL hA (by omega) x B A .null (by omega) hA (by omega)]
    rcases hx with h | h
    · rw [if_pos h, if_pos h]
    · rw [if_neg (by rw [h]; decide), if_neg (by rw [h]; decide), if_pos h]
/-! MIDDLE -/
def midS (t : St) : Nat → Nat × Nat
  | 0 => (0, 0)
  | m + 1 => if rP t m = -1 then midS t m else ((midS t m).1 + (rP t m).toInt.toNat, (midS t m).2 + 1)
theorem mid_le {TX : TXT} {K : Nat} {t : St} (ho : Ok TX K t) : ∀ m, m ≤ sN t → (midS t m).1 ≤ 63 * m ∧ (midS t m).2 ≤ m := by
  intro m
  induction m with
  | zero => intro _; exact ⟨Nat.le_refl _, Nat.le_refl _⟩
  | succ m ih =>
    intro hm
    have h1 := ih (by omega)
    have h2 := (ho.p (show m < sN t by omega)).2.2.1
    have e : midS t (m + 1) = if rP t m = -1 then midS t m else ((midS t m).1 + (rP t m).toInt.toNat, (midS t m).2 + 1) := rfl
    rw [e]
    by_cases h : rP t m = -1
    · rw [if_pos h]; omega
    · rw [if_neg h]
      show (midS t m).1 + (rP t m).toInt.toNat ≤ 63 * (m + 1) ∧ (midS t m).2 + 1 ≤ m + 1
      omega
theorem place_n {TX : TXT} {K : Nat} {t : St} (ho : Ok TX K t) {m : Nat} (hm : m < sN t) (h : ¬ rP t m = -1) : rP t m = nI (rP t m).toInt.toNat ∧ (rP t m).toInt.toNat < 64 := by
  have h2 := (ho.p hm).2.2.1
  rw [i_eq, show (-1 : Int32).toInt = -1 by decide] at h
  refine ⟨?_, by omega⟩
  rw [i_eq, nI_toInt (by omega)]
  omega
theorem c_midL {σ : Sto} {a : Ab} (hw : WfA a) (h : InvC σ a) (x : Int32) : ∀ d m, m + d = sN (aT a) →
    R nF_middle 0 6 [.ref 0, .int x, .long (Int32.toInt64 (nI (midS (aT a) m).1)), .null, .long (Int32.toInt64 (nI (midS (aT a) m).2)), .null, .int (nI m)] [] σ = some (0, fracS (midS (aT a) (sN (aT a))).1 (midS (aT a) (sN (aT a))).2 x, σ) := by
  have hN := hw.1.n
  intro d
  induction d with
  | zero =>
    intro m hm
    have e : m = sN (aT a) := by omega
    subst e
    have hl := mid_le hw.1 (sN (aT a)) (Nat.le_refl _)
    rw [eF_middle_6 0, if_neg (show ¬ nI (sN (aT a)) < σ 12 6 from by rw [h.at.1.n]; exact nI_nlt (by omega) (by omega)), c_frac (by omega) (by omega), bs]
  | succ d ih =>
    intro m hm
    have h1 : m < sN (aT a) := by omega
    have h6 : m < 6 := by omega
    have hl := mid_le hw.1 m (by omega)
    have h2 := ih (m + 1) (by omega)
    have e : midS (aT a) (m + 1) = if rP (aT a) m = -1 then midS (aT a) m else ((midS (aT a) m).1 + (rP (aT a) m).toInt.toNat, (midS (aT a) m).2 + 1) := rfl
    rw [eF_middle_6 0, if_pos (show nI m < σ 12 6 from by rw [h.at.1.n]; exact nI_lt (by omega) (by omega)), if_pos (ib6 h6), if_pos (ib6 h6), ix6 h6, show σ 15 m = rP (aT a) m from h.at.1.P h1, nI_1]
    by_cases hp : rP (aT a) m = -1
    · rw [if_pos hp]
      rw [e, if_pos hp] at h2
      exact h2
    · rw [if_neg hp]
      rw [e, if_neg hp] at h2
      obtain ⟨p1, p2⟩ := place_n hw.1 h1 hp
      rw [p1, yN_add (by omega), l1, yN_add (by omega)]
      exact h2
theorem m_midL {σ : Sto} {a : Ab} (hw : WfA a) (h : InvM σ a) (x : Int32) : ∀ d m, m + d = sN (aT a) →
    R nM_middle 0 6 [.ref 30, .int x, .int (nI (midS (aT a) m).1), .int (nI (midS (aT a) m).2), .int (nI m)] [] σ = some (0, fracS (midS (aT a) (sN (aT a))).1 (midS (aT a) (sN (aT a))).2 x, σ) := by
  have hN := hw.1.n
  have e0 : (0 : Int32).toInt = 0 := by decide
  have e1 : (1 : Int32).toInt = 1 := by decide
  intro d
  induction d with
  | zero =>
    intro m hm
    have e : m = sN (aT a) := by omega
    subst e
    have hl := mid_le hw.1 (sN (aT a)) (Nat.le_refl _)
    rw [eM_middle_6 0, if_neg (show ¬ nI (sN (aT a)) < σ 30 0 from by rw [h.at.1.n]; exact nI_nlt (by omega) (by omega))]
    have hq : fracS (midS (aT a) (sN (aT a))).1 (midS (aT a) (sN (aT a))).2 x = if (midS (aT a) (sN (aT a))).2 = 0 then -4611686018427387904 else if x = 0 then Int32.toInt64 (nI ((midS (aT a) (sN (aT a))).1 / Nat.gcd (midS (aT a) (sN (aT a))).1 (midS (aT a) (sN (aT a))).2)) else if x = 1 then Int32.toInt64 (nI ((midS (aT a) (sN (aT a))).2 / Nat.gcd (midS (aT a) (sN (aT a))).1 (midS (aT a) (sN (aT a))).2)) else -4611686018427387904 := rfl
    by_cases hx : 0 ≤ x.toInt ∧ x.toInt ≤ 1
    · have ex : x = 0 ∨ x = 1 := by
        rw [i_eq, i_eq, e0, e1]
        omega
      rw [m_in, in_t e0 e1 hx, bs]; (try dsimp only); rw [if_neg n10]
      by_cases hn : (midS (aT a) (sN (aT a))).2 = 0
      · rw [hq, if_pos hn, if_neg (show ¬ (0 : Int32) < nI (midS (aT a) (sN (aT a))).2 from by rw [hn]; decide)]
      · rw [if_pos (show (0 : Int32) < nI (midS (aT a) (sN (aT a))).2 from nI_lt (a := 0) (by omega) (by omega)), m_low (by omega) (by omega) hn ex, bs]
    · rw [m_in, in_f e0 e1 hx, bs]; (try dsimp only); rw [if_pos rfl, hq]
      split
      · rfl
      · rw [if_neg (fun e => hx (by rw [e]; decide)), if_neg (fun e => hx (by rw [e]; decide))]
  | succ d ih =>
    intro m hm
    have h1 : m < sN (aT a) := by omega
    have h6 : m < 6 := by omega
    have hl := mid_le hw.1 m (by omega)
    have h2 := ih (m + 1) (by omega)
    have e : midS (aT a) (m + 1) = if rP (aT a) m = -1 then midS (aT a) m else ((midS (aT a) m).1 + (rP (aT a) m).toInt.toNat, (midS (aT a) m).2 + 1) := rfl
    rw [eM_middle_6 0, if_pos (show nI m < σ 30 0 from by rw [h.at.1.n]; exact nI_lt (by omega) (by omega)), m_isAt h.at.1 hN h1, bs]; (try dsimp only); rw [m_isAt h.at.1 hN h1, bs]
    by_cases hp : rP (aT a) m = -1
    · rw [if_pos (show b2 (decide (¬ rP (aT a) m = -1)) = 0 from by rw [hp]; decide), if_pos (show b2 (decide (¬ rP (aT a) m = -1)) = 0 from by rw [hp]; decide), Int32.add_zero, Int32.add_zero, nI_1]
      rw [e, if_pos hp] at h2
      exact h2
    · obtain ⟨p1, p2⟩ := place_n hw.1 h1 hp
      rw [e, if_neg hp] at h2
      rw [if_neg (show ¬ b2 (decide (¬ rP (aT a) m = -1)) = 0 from by rw [decide_eq_true hp]; decide), i3, if_pos (ibn (show 3 * m < 18 by omega) (by decide)), bs]; (try dsimp only); rw [if_neg (show ¬ b2 (decide (¬ rP (aT a) m = -1)) = 0 from by rw [decide_eq_true hp]; decide), ixn (by omega), h.at.1.P h1, p1, nI_add, nI_1, nI_1]
      exact h2
theorem s_middle {a : Ab} (hw : WfA a) (x : Int32) : Step nF_middle nM_middle [.int x] a := by
  refine ⟨(0, fracS (midS (aT a) (sN (aT a))).1 (midS (aT a) (sN (aT a))).2 x), a, hw, fun σ h => ⟨σ, ?_, h, FC.rf⟩, fun σ h => ⟨σ, ?_, h, FM.rf⟩⟩
  · rw [eF_middle 0]
    exact c_midL hw h x (sN (aT a)) 0 (Nat.zero_add _)
  · rw [eM_middle 0]
    exact m_midL hw h x (sN (aT a)) 0 (Nat.zero_add _)
