/-! THE STARTS: shapes, first stores, and what the first calls answer, by evaluation -/
def csC : List Nat := [0, 1, 2, 3, 4, 5, 6, 7, 12, 13, 14, 15, 16, 17, 18, 19, 20, 21, 22, 23, 24, 25, 26, 27, 28, 29, 8, 9, 10, 11]
def csM : List Nat := [30, 31, 32, 33, 34, 35, 36, 37, 38, 39, 40, 41, 42, 43, 44, 45, 46, 47, 48]
def ShC (c : Nat) : Option Cs := if c < 30 then nth cellsL c else none
theorem shC_in : ∀ c' s', ShC c' = some s' → c' ∈ csC ∧ c' < 49 := by
  intro c s h
  unfold ShC at h
  by_cases hc : c < 30
  · have h1 : ∀ c, c < 30 → c ∈ csC := by decide
    exact ⟨h1 c hc, by omega⟩
  · rw [if_neg hc] at h
    cases h
theorem shM_in : ∀ c' s', ShM c' = some s' → c' ∈ csM ∧ c' < 49 := by
  intro c s h
  unfold ShM at h
  by_cases hc : c < 30
  · rw [if_pos hc] at h
    cases h
  · rw [if_neg hc] at h
    have h1 := nth_lt _ _ _ h
    have h2 : c < 49 := h1
    have h3 : ∀ c, c < 49 → 30 ≤ c → c ∈ csM := by decide
    exact ⟨h3 c h2 (by omega), h2⟩
theorem shF_in : ∀ c' s', ShF c' = some s' → c' ∈ csC ++ csM ∧ c' < 49 := by
  intro c s h
  have h2 : c < 49 := nth_lt _ _ _ h
  have h3 : ∀ c, c < 49 → c ∈ csC ++ csM := by decide
  exact ⟨h3 c h2, h2⟩
theorem ndC : csC.Nodup := by decide
theorem ndM : csM.Nodup := by decide
theorem ndF : (csC ++ csM).Nodup := by decide
def cpyF (f : Nat → Int32) (n : Nat) : Nat → Int32 := fun j => if j < n then f j else 0
def sC0 : Sto := fun c => if c = 7 then (fun i => if i = 5 then 5 else if i = 7 then -1 else 0) else if c = 10 then (upd (upd (upd (upd (fun _ => 0) 0 (-1)) 1 (-1)) 2 (-1)) 3 (-1)) else if c = 12 then (fun i => if i = 9 then -1 else 0) else if c = 18 then (fun i => if i = 9 then -1 else 0) else if c = 24 then (fun i => if i = 9 then -1 else 0) else fun _ => 0
def litBoat : List (Int32 × Int32) := [(0, 0), (1, (-1)), (2, 0), (3, 0)]
def litSort : List (Int32 × Int32) := [(0, (-1)), (1, (-1)), (2, (-1)), (3, (-1))]
def litLaw : List (Int32 × Int32) := [(0, 103), (1, 97), (2, 112), (3, 115), (4, 32), (5, 53), (6, 32), (7, 59), (8, 32), (9, 108), (10, 105), (11, 107), (12, 101), (13, 115), (14, 32), (15, 119), (16, 97), (17, 105), (18, 116), (19, 101), (20, 100), (21, 32), (22, 59), (23, 32), (24, 119), (25, 97), (26, 108), (27, 107), (28, 115), (29, 32), (30, 48), (31, 32), (32, 59)]
def litWords : List (Int32 × Int32) := [(0, 103), (1, 97), (2, 112), (3, 115), (4, 32), (5, 32), (6, 32), (7, 32), (8, 108), (9, 105), (10, 107), (11, 101), (12, 115), (13, 32), (14, 32), (15, 32), (16, 119), (17, 97), (18, 108), (19, 107), (20, 115), (21, 32), (22, 32), (23, 32), (24, 112), (25, 108), (26, 97), (27, 99), (28, 101), (29, 32), (30, 32), (31, 32), (32, 119), (33, 97), (34, 105), (35, 116), (36, 101), (37, 100), (38, 32), (39, 32), (40, 104), (41, 111), (42, 117), (43, 114), (44, 32), (45, 32), (46, 32), (47, 32), (48, 115), (49, 101), (50, 101), (51, 110), (52, 32), (53, 32), (54, 32), (55, 32), (56, 102), (57, 101), (58, 116), (59, 99), (60, 104), (61, 101), (62, 100), (63, 32), (64, 109), (65, 111), (66, 114), (67, 101), (68, 32), (69, 32), (70, 32), (71, 32), (72, 111), (73, 114), (74, 32), (75, 32), (76, 32), (77, 32), (78, 32), (79, 32), (80, 97), (81, 110), (82, 100), (83, 32), (84, 32), (85, 32), (86, 32), (87, 32), (88, 110), (89, 111), (90, 116), (91, 32), (92, 32), (93, 32), (94, 32), (95, 32)]
def sM1 : Sto := fun c => if c = 34 then litF (fun _ => 0) litBoat else if c = 40 then litF (fun _ => 0) litSort else if c = 43 then litF (fun _ => 0) litLaw else if c = 35 then cpyF (litF (fun _ => 0) litLaw) 33 else if c = 44 then litF (fun _ => 0) litWords else if c = 30 then (fun i => if i = 6 then 33 else 0) else fun _ => 0
def atC : List (Nat × Nat × Int32) := [(2, 4, 1), (0, 7, 0), (0, 8, 0), (12, 6, 0), (12, 7, 0), (12, 8, 0), (12, 9, (-1)), (12, 10, 0), (12, 11, 0), (4, 0, 0), (5, 0, 1), (3, 0, 5), (4, 1, 1), (5, 1, 2), (3, 1, (-2)), (4, 2, 2), (5, 2, 3), (3, 2, 0), (10, 0, (-1)), (10, 1, (-1)), (10, 2, (-1)), (10, 3, (-1))]
def atM : List (Nat × Nat × Int32) := [(30, 9, 1), (30, 6, 0), (30, 11, 0), (30, 0, 0), (34, 3, 0), (34, 0, 0), (34, 1, (-1)), (34, 2, 0), (30, 10, 0), (37, 0, 0), (37, 1, 1), (36, 0, 100005), (37, 2, 2), (36, 1, 1), (37, 3, 3), (36, 2, 100000), (40, 0, (-1)), (40, 1, (-1)), (40, 2, (-1)), (40, 3, (-1))]
def isAt (σ : Sto) (l : List (Nat × Nat × Int32)) : Bool := l.all fun q => σ q.1 q.2.1 == q.2.2
theorem isAt_get {σ : Sto} {l : List (Nat × Nat × Int32)} (h : isAt σ l = true) (k : Nat) {c i : Nat} {v : Int32} (hk : l[k]? = some (c, i, v)) : σ c i = v :=
  eq_of_beq (List.all_eq_true.mp h _ (List.mem_of_getElem? hk))
def wrdC (σ : Sto) : Bool := (List.range 12).all fun k => (List.range 8).all fun c => σ 44 (8 * k + c) == (byteOf (moN k)).getD c 32
theorem wrdC_get {σ : Sto} (h : wrdC σ = true) : Wrd σ := fun k c hk hc =>
  eq_of_beq (List.all_eq_true.mp (List.all_eq_true.mp h k (List.mem_range.mpr hk)) c (List.mem_range.mpr hc))
set_option maxRecDepth 1000000 in
theorem c_go : (match run ShC 400 nT_addFirstLaw 0 0 (ent nT_addFirstLaw [.ref 2]) [] sC0 with
  | some r => isAt r.2.2 atC
  | none => false) = true := by decide +kernel
set_option maxRecDepth 1000000 in
theorem m_go : (match run ShM 4000 nM_text 0 0 (ent nM_text [.ref 30]) [] sM1 with
  | some r => isAt r.2.2 atM && wrdC r.2.2
  | none => false) = true := by decide +kernel
theorem c_goes : ∃ r, run ShC 400 nT_addFirstLaw 0 0 (ent nT_addFirstLaw [.ref 2]) [] sC0 = some r ∧ isAt r.2.2 atC = true := by
  have h := c_go
  split at h
  · exact ⟨_, by assumption, h⟩
  · cases h
theorem m_goes : ∃ r, run ShM 4000 nM_text 0 0 (ent nM_text [.ref 30]) [] sM1 = some r ∧ isAt r.2.2 atM = true ∧ Wrd r.2.2 := by
  have h := m_go
  split at h
  · rw [Bool.and_eq_true] at h
    exact ⟨_, by assumption, h.1, wrdC_get h.2⟩
  · cases h
def t00 : St := ((0, 0, 0, -1, 0, 0), fun _ => 0, fun _ => 0, fun _ => 0, fun _ => 0, fun _ => 0)
def a00 : Ab := ((t00, t00, false), (fun _ => pcF [5] [-2] [0], 1), (0, fun _ => 0), (fun _ => -1, fun _ => 0, fun _ _ => 0))
theorem a00_wf : WfA a00 := by
  refine ⟨⟨⟨by decide, by decide, by decide, fun i hi => absurd hi (Nat.not_lt_zero i)⟩, by decide, by decide, fun l hl part hp => ?_⟩, by decide, fun h => (by cases h), by decide, fun s hs => ⟨by show -1 ≤ (-1 : Int32).toInt ∧ (-1 : Int32).toInt ≤ 2; decide, Nat.zero_le _⟩⟩
  match part, hp with
  | 0, _ =>
    show wfL 0 ([5] : List Int32) = some 1 ∧ ([5] : List Int32).length ≤ 160 ∧ ∀ x ∈ ([5] : List Int32), -15 ≤ x.toInt ∧ x.toInt ≤ 9999
    decide
  | 1, _ =>
    show wfL 0 ([-2] : List Int32) = some 1 ∧ ([-2] : List Int32).length ≤ 160 ∧ ∀ x ∈ ([-2] : List Int32), -15 ≤ x.toInt ∧ x.toInt ≤ 9999
    decide
  | 2, _ =>
    show wfL 0 ([0] : List Int32) = some 1 ∧ ([0] : List Int32).length ≤ 160 ∧ ∀ x ∈ ([0] : List Int32), -15 ≤ x.toInt ∧ x.toInt ≤ 9999
    decide
theorem one_at {c : Int32} {j : Nat} {x : Int32} (h : [c][j]? = some x) : j = 0 ∧ x = c := by
  match j, h with
  | 0, h => cases h; exact ⟨rfl, rfl⟩
theorem a00_c {σ : Sto} (h : isAt σ atC = true) : InvC σ a00 := by
  refine ⟨⟨⟨⟨isAt_get h 3 rfl, isAt_get h 4 rfl, isAt_get h 5 rfl, isAt_get h 6 rfl, isAt_get h 7 rfl, isAt_get h 8 rfl⟩, fun i hi => absurd hi (Nat.not_lt_zero i)⟩, fun l hl part hp => ?_⟩, fun h => (by cases h), isAt_get h 0 rfl, isAt_get h 1 rfl, isAt_get h 2 rfl, fun i hi => absurd hi (Nat.not_lt_zero i), fun s hs => ⟨?_, fun hn => absurd rfl hn⟩⟩
  · have hl : l < 1 := hl
    have hl0 : l = 0 := by omega
    subst hl0
    match part, hp with
    | 0, _ => exact ⟨0, by decide, isAt_get h 9 rfl, isAt_get h 10 rfl, fun j x hj => by obtain ⟨rfl, rfl⟩ := one_at hj; exact isAt_get h 11 rfl⟩
    | 1, _ => exact ⟨1, by decide, isAt_get h 12 rfl, isAt_get h 13 rfl, fun j x hj => by obtain ⟨rfl, rfl⟩ := one_at hj; exact isAt_get h 14 rfl⟩
    | 2, _ => exact ⟨2, by decide, isAt_get h 15 rfl, isAt_get h 16 rfl, fun j x hj => by obtain ⟨rfl, rfl⟩ := one_at hj; exact isAt_get h 17 rfl⟩
  · match s, hs with
    | 0, _ => exact isAt_get h 18 rfl
    | 1, _ => exact isAt_get h 19 rfl
    | 2, _ => exact isAt_get h 20 rfl
    | 3, _ => exact isAt_get h 21 rfl
theorem a00_m {σ : Sto} (h : isAt σ atM = true) : InvM σ a00 := by
  refine ⟨⟨⟨⟨isAt_get h 3 rfl, isAt_get h 8 rfl, isAt_get h 5 rfl, isAt_get h 6 rfl, isAt_get h 7 rfl, isAt_get h 4 rfl⟩, fun i hi => absurd hi (Nat.not_lt_zero i)⟩, fun l hl part hp => ?_⟩, fun h => (by cases h), isAt_get h 0 rfl, isAt_get h 1 rfl, isAt_get h 2 rfl, fun i hi => absurd hi (Nat.not_lt_zero i), fun s hs => ⟨?_, fun hn => absurd rfl hn⟩⟩
  · have hl : l < 1 := hl
    have hl0 : l = 0 := by omega
    subst hl0
    match part, hp with
    | 0, _ => exact ⟨0, by decide, isAt_get h 9 rfl, isAt_get h 10 rfl, fun j x hj => by obtain ⟨rfl, rfl⟩ := one_at hj; exact isAt_get h 11 rfl⟩
    | 1, _ => exact ⟨1, by decide, isAt_get h 10 rfl, isAt_get h 12 rfl, fun j x hj => by obtain ⟨rfl, rfl⟩ := one_at hj; exact isAt_get h 13 rfl⟩
    | 2, _ => exact ⟨2, by decide, isAt_get h 12 rfl, isAt_get h 14 rfl, fun j x hj => by obtain ⟨rfl, rfl⟩ := one_at hj; exact isAt_get h 15 rfl⟩
  · match s, hs with
    | 0, _ => exact isAt_get h 16 rfl
    | 1, _ => exact isAt_get h 17 rfl
    | 2, _ => exact isAt_get h 18 rfl
    | 3, _ => exact isAt_get h 19 rfl
