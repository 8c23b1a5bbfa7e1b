/-! R: the run, without its steps' number -/
theorem fold_mono {K K2 : KT} {K' K2' : Nat → List Value → List Value → Sto → Option Rs} (hK : ∀ y k i L st σ r, K y k i L st σ = some r → K2 y k i L st σ = some r) (hK' : ∀ i L st σ r, K' i L st σ = some r → K2' i L st σ = some r)
    {i : Nat} {L : List Value} {z : Option Lf} {r : Rs} : ∀ gs : List (Gd × Option Lf), fold K K' i L z gs = some r → fold K2 K2' i L z gs = some r := by
  have key : ∀ o : Option Lf, lfK K K' i L o = some r → lfK K2 K2' i L o = some r := by
    intro o h
    match o, h with
    | none, h => cases h
    | some (.inl (i', L', st', σ')), h => exact hK' _ _ _ _ _ h
    | some (.inr (.inl (y', k', as, σ', kk))), h =>
      have h1 : ((K y' k' 0 (ent y' as) [] σ').bind fun r => K' (i + 1) L (kk r) r.2.2) = some r := h
      obtain ⟨r1, h2, h3⟩ := Option.bind_eq_some_iff.mp h1
      exact Option.bind_eq_some_iff.mpr ⟨r1, hK _ _ _ _ _ _ _ h2, hK' _ _ _ _ _ h3⟩
    | some (.inr (.inr r')), h => exact h
  intro gs
  induction gs with
  | nil => intro h; exact key z h
  | cons g gs ih =>
    intro h
    by_cases hp : g.1.1
    · have h1 : ∀ A B, fold A B i L z (g :: gs) = lfK A B i L g.2 := fun A B => @if_pos _ g.1.2 hp _ _ _
      rw [h1] at h ⊢
      exact key g.2 h
    · have h1 : ∀ A B, fold A B i L z (g :: gs) = fold A B i L z gs := fun A B => @if_neg _ g.1.2 hp _ _ _
      rw [h1] at h ⊢
      exact ih h
theorem run_succ {Sh : Nat → Option Cs} : ∀ (n y k i : Nat) (L st : List Value) (σ : Sto) (r : Rs), run Sh n y k i L st σ = some r → run Sh (n + 1) y k i L st σ = some r := by
  intro n
  induction n with
  | zero => intro y k i L st σ r h; cases h
  | succ n ih => intro y k i L st σ r h; exact fold_mono ih (ih y k) _ h
theorem run_le {Sh : Nat → Option Cs} {n n' : Nat} (hn : n ≤ n') {y k i : Nat} {L st : List Value} {σ : Sto} {r : Rs} (h : run Sh n y k i L st σ = some r) : run Sh n' y k i L st σ = some r := by
  induction hn with
  | refl => exact h
  | step _ ih => exact run_succ _ _ _ _ _ _ _ _ ih
/-- what a run comes to, if it comes to an end -/
noncomputable def R (y k i : Nat) (L st : List Value) (σ : Sto) : Option Rs :=
  @dite _ (∃ (n : Nat) (r : Rs), run ShF n y k i L st σ = some r) (Classical.propDecidable _) (fun h => some h.choose_spec.choose) (fun _ => none)
theorem R_of {n y k i : Nat} {L st : List Value} {σ : Sto} {r : Rs} (h : run ShF n y k i L st σ = some r) : R y k i L st σ = some r := by
  have hex : ∃ (n : Nat) (r : Rs), run ShF n y k i L st σ = some r := ⟨n, r, h⟩
  unfold R
  rw [dif_pos hex]
  have h1 := hex.choose_spec.choose_spec
  have h2 := run_le (Nat.le_max_left n hex.choose) h
  have h3 := run_le (Nat.le_max_right n hex.choose) h1
  rw [h2] at h3
  exact h3.symm
theorem R_ex {y k i : Nat} {L st : List Value} {σ : Sto} {r : Rs} (h : R y k i L st σ = some r) : ∃ n, run ShF n y k i L st σ = some r := by
  by_cases hex : ∃ (n : Nat) (r : Rs), run ShF n y k i L st σ = some r
  · obtain ⟨n, r', h'⟩ := hex
    have h1 := R_of h'
    rw [h] at h1
    exact ⟨n, by rw [h']; exact h1.symm⟩
  · unfold R at h
    rw [dif_neg hex] at h
    cases h
theorem fold_ex {i y k : Nat} {L : List Value} {z : Option Lf} {r : Rs} : ∀ gs : List (Gd × Option Lf), fold R (R y k) i L z gs = some r → ∃ n, fold (run ShF n) (run ShF n y k) i L z gs = some r := by
  have key : ∀ o : Option Lf, lfK R (R y k) i L o = some r → ∃ n, lfK (run ShF n) (run ShF n y k) i L o = some r := by
    intro o h
    match o, h with
    | none, h => cases h
    | some (.inl (i', L', st', σ')), h => exact R_ex h
    | some (.inr (.inl (y', k', as, σ', kk))), h =>
      have h1 : ((R y' k' 0 (ent y' as) [] σ').bind fun r => R y k (i + 1) L (kk r) r.2.2) = some r := h
      obtain ⟨r1, h2, h3⟩ := Option.bind_eq_some_iff.mp h1
      obtain ⟨n1, h2⟩ := R_ex h2
      obtain ⟨n2, h3⟩ := R_ex h3
      exact ⟨max n1 n2, Option.bind_eq_some_iff.mpr ⟨r1, run_le (Nat.le_max_left _ _) h2, run_le (Nat.le_max_right _ _) h3⟩⟩
    | some (.inr (.inr r')), h => exact ⟨0, h⟩
  intro gs
  induction gs with
  | nil => intro h; exact key z h
  | cons g gs ih =>
    intro h
    by_cases hp : g.1.1
    · have h1 : ∀ A B, fold A B i L z (g :: gs) = lfK A B i L g.2 := fun A B => @if_pos _ g.1.2 hp _ _ _
      rw [h1] at h
      obtain ⟨n, hn⟩ := key g.2 h
      exact ⟨n, by rw [h1]; exact hn⟩
    · have h1 : ∀ A B, fold A B i L z (g :: gs) = fold A B i L z gs := fun A B => @if_neg _ g.1.2 hp _ _ _
      rw [h1] at h
      obtain ⟨n, hn⟩ := ih h
      exact ⟨n, by rw [h1]; exact hn⟩
/-- a run is its first step, and the rest -/
theorem R_step (y k i : Nat) (L st : List Value) (σ : Sto) : fold1 R (R y k) i L (act ShF y k i L st σ) = R y k i L st σ := by
  cases h : fold1 R (R y k) i L (act ShF y k i L st σ) with
  | some r =>
    obtain ⟨n, hn⟩ := fold_ex _ h
    exact (R_of (n := n + 1) hn).symm
  | none =>
    cases h2 : R y k i L st σ with
    | none => rfl
    | some r =>
      obtain ⟨n, hn⟩ := R_ex h2
      cases n with
      | zero => cases hn
      | succ n =>
        have h3 := fold_mono (K := run ShF n) (K2 := R) (K' := run ShF n y k) (K2' := R y k) (fun _ _ _ _ _ _ _ z => R_of z) (fun _ _ _ _ _ z => R_of z) _ hn
        have h4 : fold1 R (R y k) i L (act ShF y k i L st σ) = some r := h3
        rw [h] at h4
        cases h4
theorem unr_R (stops : List Nat) (y k : Nat) : ∀ (n i : Nat) (L st : List Value) (σ : Sto), R y k i L st σ = unr ShF R stops y k n i L st σ := by
  intro n
  induction n with
  | zero => intro i L st σ; rfl
  | succ n ih =>
    intro i L st σ
    have h1 : ∀ i L st σ, stp (R y k) (unr ShF R stops y k n) stops i L st σ = R y k i L st σ := by
      intro i L st σ
      unfold stp
      split
      · rfl
      · exact (ih _ _ _ _).symm
    have h2 : stp (R y k) (unr ShF R stops y k n) stops = R y k := by
      funext i L st σ
      exact h1 i L st σ
    show _ = fold1 R (stp (R y k) (unr ShF R stops y k n) stops) i L (act ShF y k i L st σ)
    rw [h2, R_step]
/-- a call -/
noncomputable def C (y k : Nat) (as : List Value) (σ : Sto) : Option Rs := R y k 0 (ent y as) [] σ
