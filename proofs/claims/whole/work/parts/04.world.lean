/-! WORLDS: where the cells lie; what a store is in the heap -/
abbrev Geo : Type := (Nat → Nat) × (Nat → ClassId) × va_G × (Nat → Nat) × (Nat → Nat) × Value
def cr (G : Geo) (c : Nat) : Value := if c < 100 then .ref (G.1 c) else if c < 200 then .ref (G.2.2.2.1 (c - 100)) else if c < 300 then .ref (G.2.2.2.2.1 (c - 200)) else G.2.2.2.2.2
def cv (G : Geo) (v : Value) : Value := match v with
  | .ref c => cr G c
  | v => v
theorem cr_cat {G : Geo} (hF : G.2.2.2.2.2.category = 1) (c : Nat) : (cr G c).category = 1 := by
  unfold cr
  split
  · rfl
  · split
    · rfl
    · split
      · rfl
      · exact hF
theorem cv_cat {G : Geo} (hF : G.2.2.2.2.2.category = 1) (v : Value) : (cv G v).category = v.category := by
  cases v <;> first | rfl | exact cr_cat hF _
theorem cv_sum {G : Geo} (hF : G.2.2.2.2.2.category = 1) (l : List Value) : ((l.map (cv G)).map fun v => v.category).sum = (l.map fun v => v.category).sum := by
  induction l with
  | nil => rfl
  | cons a l ih => simp only [List.map_cons, List.sum_cons, ih, cv_cat hF]
theorem cr_lo {G : Geo} {c : Nat} (h : c < 100) : cr G c = .ref (G.1 c) := if_pos h
/-! locals -/
def hL (G : Geo) (ls : Array Slot) (nL : Nat) (L : List Value) : Prop := ls.size = nL ∧ lv_wf ls ∧ ∀ (i : Nat) (v : Value), nth L i = some v → v ≠ .null → ls[i]? = some (.val (cv G v))
def asL (G : Geo) : Nat → List Value → List (Nat × Value)
  | _, [] => []
  | i, v :: l => if v = .null then asL G (i + 1) l else (i, cv G v) :: asL G (i + 1) l
theorem asL_mem {G : Geo} {q : Nat × Value} : ∀ (L : List Value) (i : Nat), q ∈ asL G i L ↔ ∃ (j : Nat) (v : Value), nth L j = some v ∧ v ≠ .null ∧ q = (i + j, cv G v) := by
  intro L
  induction L with
  | nil => intro i; simp [asL, nth]
  | cons a l ih =>
    intro i
    unfold asL
    by_cases h : a = .null
    · rw [if_pos h, ih]
      constructor
      · rintro ⟨j, v, h1, h2, rfl⟩
        exact ⟨j + 1, v, h1, h2, by rw [show i + (j + 1) = i + 1 + j by omega]⟩
      · rintro ⟨j, v, h1, h2, rfl⟩
        cases j with
        | zero => cases h1; exact absurd h h2
        | succ j => exact ⟨j, v, h1, h2, by rw [show i + (j + 1) = i + 1 + j by omega]⟩
    · rw [if_neg h, List.mem_cons, ih]
      constructor
      · rintro (rfl | ⟨j, v, h1, h2, rfl⟩)
        · exact ⟨0, a, rfl, h, rfl⟩
        · exact ⟨j + 1, v, h1, h2, by rw [show i + (j + 1) = i + 1 + j by omega]⟩
      · rintro ⟨j, v, h1, h2, rfl⟩
        cases j with
        | zero => cases h1; exact Or.inl rfl
        | succ j => exact Or.inr ⟨j, v, h1, h2, by rw [show i + (j + 1) = i + 1 + j by omega]⟩
theorem hL.has {G : Geo} {ls : Array Slot} {nL : Nat} {L : List Value} (h : hL G ls nL L) : lv_has ls nL (asL G 0 L) :=
  ⟨h.1, h.2.1, fun q hq => by
    obtain ⟨j, v, h1, h2, rfl⟩ := (asL_mem L 0).mp hq
    simpa using h.2.2 j v h1 h2⟩
theorem nth_st1 : ∀ (L : List Value) (i : Nat) (v : Value) (j : Nat) (w : Value), nth (st1 L i v) j = some w →
    (j = i ∧ w = v) ∨ (j + 1 = i ∧ ∃ u, nth L j = some u ∧ w = dl u) ∨ (j ≠ i ∧ j + 1 ≠ i ∧ nth L j = some w) := by
  intro L
  induction L with
  | nil => intro i v j w h; cases i <;> simp [st1, nth] at h
  | cons a l ih =>
    intro i v j w h
    match i, j with
    | 0, 0 => cases h; exact Or.inl ⟨rfl, rfl⟩
    | 0, j + 1 => exact Or.inr (Or.inr ⟨by omega, by omega, h⟩)
    | 1, 0 => cases h; exact Or.inr (Or.inl ⟨rfl, a, rfl, rfl⟩)
    | 1, j + 1 =>
      rcases ih 0 v j w h with ⟨h1, h2⟩ | ⟨h1, -⟩ | ⟨h1, h2, h3⟩
      · exact Or.inl ⟨by omega, h2⟩
      · omega
      · exact Or.inr (Or.inr ⟨by omega, by omega, h3⟩)
    | n + 2, 0 => exact Or.inr (Or.inr ⟨by omega, by omega, h⟩)
    | n + 2, j + 1 =>
      rcases ih (n + 1) v j w h with ⟨h1, h2⟩ | ⟨h1, h2⟩ | ⟨h1, h2, h3⟩
      · exact Or.inl ⟨by omega, h2⟩
      · exact Or.inr (Or.inl ⟨by omega, h2⟩)
      · exact Or.inr (Or.inr ⟨by omega, by omega, h3⟩)
theorem nth_st2 : ∀ (L : List Value) (i : Nat) (v : Value) (j : Nat) (w : Value), nth (st2 L i v) j = some w → w ≠ .null →
    (j = i ∧ w = v) ∨ (j + 1 = i ∧ ∃ u, nth L j = some u ∧ w = dl u) ∨ (j ≠ i ∧ j ≠ i + 1 ∧ j + 1 ≠ i ∧ nth L j = some w) := by
  intro L
  induction L with
  | nil => intro i v j w h; cases i <;> simp [st2, nth] at h
  | cons a l ih =>
    intro i v j w h hw
    match i, j with
    | 0, 0 => cases h; exact Or.inl ⟨rfl, rfl⟩
    | 0, j + 1 =>
      cases l with
      | nil => cases h
      | cons b l =>
        cases j with
        | zero => cases h; exact absurd rfl hw
        | succ j => exact Or.inr (Or.inr ⟨by omega, by omega, by omega, h⟩)
    | 1, 0 => cases h; exact Or.inr (Or.inl ⟨rfl, a, rfl, rfl⟩)
    | 1, j + 1 =>
      rcases ih 0 v j w h hw with ⟨h1, h2⟩ | ⟨h1, -⟩ | ⟨h1, h2, h3, h4⟩
      · exact Or.inl ⟨by omega, h2⟩
      · omega
      · exact Or.inr (Or.inr ⟨by omega, by omega, by omega, h4⟩)
    | n + 2, 0 => exact Or.inr (Or.inr ⟨by omega, by omega, by omega, h⟩)
    | n + 2, j + 1 =>
      rcases ih (n + 1) v j w h hw with ⟨h1, h2⟩ | ⟨h1, h2⟩ | ⟨h1, h2, h3, h4⟩
      · exact Or.inl ⟨by omega, h2⟩
      · exact Or.inr (Or.inl ⟨by omega, h2⟩)
      · exact Or.inr (Or.inr ⟨by omega, by omega, by omega, h4⟩)
theorem dl_ne {u w : Value} (h : w = dl u) (hw : w ≠ .null) : w = u ∧ u.category ≠ 2 := by
  unfold dl at h
  by_cases hc : u.category = 2
  · rw [if_pos hc] at h; exact absurd h hw
  · rw [if_neg hc] at h; exact ⟨h, hc⟩
theorem hL.of1 {G : Geo} (hF : G.2.2.2.2.2.category = 1) {ls : Array Slot} {nL i : Nat} {L : List Value} {x : Value}
    (h : lv_has ls nL ((i, cv G x) :: (asL G 0 L).filter (fun q => !(q.1 == i) && !(q.1 + 1 == i && q.2.category == 2)))) : hL G ls nL (st1 L i x) := by
  refine ⟨h.1, h.2.1, fun j w hj hw => ?_⟩
  rcases nth_st1 L i x j w hj with ⟨rfl, rfl⟩ | ⟨h1, u, h2, h3⟩ | ⟨h1, h2, h3⟩
  · exact h.2.2 (j, cv G w) List.mem_cons_self
  · obtain ⟨rfl, hc⟩ := dl_ne h3 hw
    refine h.2.2 (j, cv G w) (List.mem_cons_of_mem _ (List.mem_filter.mpr ⟨(asL_mem L 0).mpr ⟨j, w, h2, hw, by simp⟩, ?_⟩))
    have h4 : ¬ j = i := by omega
    have h5 : ¬ (cv G w).category = 2 := by rw [cv_cat hF]; exact hc
    simp [h4, h5]
  · refine h.2.2 (j, cv G w) (List.mem_cons_of_mem _ (List.mem_filter.mpr ⟨(asL_mem L 0).mpr ⟨j, w, h3, hw, by simp⟩, ?_⟩))
    simp [h1, h2]
theorem hL.of2 {G : Geo} (hF : G.2.2.2.2.2.category = 1) {ls : Array Slot} {nL i : Nat} {L : List Value} {x : Value}
    (h : lv_has ls nL ((i, cv G x) :: (asL G 0 L).filter (fun q => !(q.1 == i) && (!(q.1 == i + 1) && !(q.1 + 1 == i && q.2.category == 2))))) : hL G ls nL (st2 L i x) := by
  refine ⟨h.1, h.2.1, fun j w hj hw => ?_⟩
  rcases nth_st2 L i x j w hj hw with ⟨rfl, rfl⟩ | ⟨h1, u, h2, h3⟩ | ⟨h1, h2, h3, h4⟩
  · exact h.2.2 (j, cv G w) List.mem_cons_self
  · obtain ⟨rfl, hc⟩ := dl_ne h3 hw
    refine h.2.2 (j, cv G w) (List.mem_cons_of_mem _ (List.mem_filter.mpr ⟨(asL_mem L 0).mpr ⟨j, w, h2, hw, by simp⟩, ?_⟩))
    have h4 : ¬ j = i := by omega
    have h6 : ¬ j = i + 1 := by omega
    have h5 : ¬ (cv G w).category = 2 := by rw [cv_cat hF]; exact hc
    simp [h4, h5, h6]
  · refine h.2.2 (j, cv G w) (List.mem_cons_of_mem _ (List.mem_filter.mpr ⟨(asL_mem L 0).mpr ⟨j, w, h4, hw, by simp⟩, ?_⟩))
    simp [h1, h2, h3]
/-- the locals at the entry -/
theorem nth_pad : ∀ (n : Nat) (l : List Value) (j : Nat) (w : Value), nth (pad n l) j = some w → w ≠ .null → nth l j = some w := by
  intro n
  induction n with
  | zero => intro l j w h _; exact h
  | succ n ih =>
    intro l j w h hw
    match l, j with
    | [], 0 => cases h; exact absurd rfl hw
    | [], j + 1 => exact absurd (ih [] j w h hw) (by simp [nth])
    | a :: l, 0 => exact h
    | a :: l, j + 1 => exact ih l j w h hw
theorem nth_wide {G : Geo} (hF : G.2.2.2.2.2.category = 1) : ∀ (l : List Value) (i j : Nat) (w : Value), nth (wide l) j = some w → w ≠ .null → (i + j, cv G w) ∈ lv_args i (l.map (cv G)) := by
  intro l
  induction l with
  | nil => intro i j w h; cases h
  | cons a l ih =>
    intro i j w h hw
    unfold wide at h
    simp only [List.map_cons, lv_args, cv_cat hF]
    by_cases hc : a.category = 2
    · rw [if_pos hc] at h
      simp only [hc, if_true]
      match j with
      | 0 => cases h; exact List.mem_cons_self
      | 1 => cases h; exact absurd rfl hw
      | j + 2 =>
        refine List.mem_cons_of_mem _ ?_
        rw [show i + (j + 2) = i + 2 + j by omega]
        exact ih (i + 2) j w h hw
    · rw [if_neg hc] at h
      simp only [hc, if_false]
      match j with
      | 0 => cases h; exact List.mem_cons_self
      | j + 1 =>
        refine List.mem_cons_of_mem _ ?_
        rw [show i + (j + 1) = i + 1 + j by omega]
        exact ih (i + 1) j w h hw
theorem wide_len {G : Geo} (hF : G.2.2.2.2.2.category = 1) (l : List Value) : (lg_sl (l.map (cv G))).length = (wide l).length := by
  induction l with
  | nil => rfl
  | cons a l ih =>
    unfold lg_sl at ih
    unfold wide
    simp only [lg_sl, List.map_cons, List.flatMap_cons, cv_cat hF, List.length_append, ih]
    by_cases hc : a.category = 2
    · simp [hc]; omega
    · simp [hc]; omega
theorem hL.entry {G : Geo} (hF : G.2.2.2.2.2.category = 1) {as : List Value} {y n : Nat} (hn : mx y = n) (h : (wide as).length ≤ n) :
    hL G ((lg_sl (as.map (cv G)) ++ List.replicate (n - (lg_sl (as.map (cv G))).length) Slot.unset).toArray) n (ent y as) := by
  have hl := lv_entry (as.map (cv G)) (n := n) (by rw [wide_len hF]; exact h)
  refine ⟨hl.1, hl.2.1, fun j w hj hw => ?_⟩
  have h1 := nth_wide hF as 0 j w (nth_pad _ _ j w hj hw) hw
  rw [Nat.zero_add] at h1
  exact hl.2.2 _ h1
/-! the heap -/
def fieldV (G : Geo) (x : Int32) (o : Option Nat) : Value := match o with
  | none => .int x
  | some c => cr G c
def wF (G : Geo) (r : Nat → Int32) : Nat → List (Option Nat) → List Value
  | _, [] => []
  | j, o :: ks => fieldV G (r j) o :: wF G r (j + 1) ks
theorem wF_get {G : Geo} {r : Nat → Int32} : ∀ (ks : List (Option Nat)) (j b : Nat) (o : Option Nat), nth ks b = some o → (wF G r j ks)[b]? = some (fieldV G (r (j + b)) o) := by
  intro ks
  induction ks with
  | nil => intro j b o h; cases h
  | cons a ks ih =>
    intro j b o h
    cases b with
    | zero => cases h; rfl
    | succ b =>
      have h1 := ih (j + 1) b o h
      rw [show j + 1 + b = j + (b + 1) by omega] at h1
      exact h1
theorem wF_congr {G : Geo} {r r' : Nat → Int32} : ∀ (ks : List (Option Nat)) (j : Nat), (∀ i, j ≤ i → r i = r' i) → wF G r j ks = wF G r' j ks := by
  intro ks
  induction ks with
  | nil => intro j _; rfl
  | cons a ks ih =>
    intro j h
    unfold wF
    rw [h j (Nat.le_refl j), ih (j + 1) (fun i hi => h i (by omega))]
theorem wF_len {G : Geo} {r : Nat → Int32} : ∀ (ks : List (Option Nat)) (j : Nat), (wF G r j ks).length = ks.length := by
  intro ks
  induction ks with
  | nil => intro j; rfl
  | cons a ks ih => intro j; simp [wF, ih]
theorem nth_lt {α : Type} : ∀ (l : List α) (b : Nat) (o : α), nth l b = some o → b < l.length := by
  intro l
  induction l with
  | nil => intro b o h; cases h
  | cons a l ih =>
    intro b o h
    cases b with
    | zero => simp
    | succ b => have := ih b o h; simp; omega
theorem nth_get {α : Type} : ∀ (l : List α) (b : Nat), nth l b = l[b]? := by
  intro l
  induction l with
  | nil => intro b; simp [nth]
  | cons a l ih =>
    intro b
    cases b with
    | zero => rfl
    | succ b => simpa [nth] using ih b
theorem upd_s {f : Nat → Int32} {i : Nat} {v : Int32} : upd f i v i = v := if_pos rfl
theorem upd_n {f : Nat → Int32} {i j : Nat} {v : Int32} (h : j ≠ i) : upd f i v j = f j := if_neg h
theorem wF_set {G : Geo} {r : Nat → Int32} {v : Int32} : ∀ (ks : List (Option Nat)) (j b : Nat), nth ks b = some none → (wF G r j ks).set b (.int v) = wF G (upd r (j + b) v) j ks := by
  intro ks
  induction ks with
  | nil => intro j b h; cases h
  | cons a ks ih =>
    intro j b h
    cases b with
    | zero =>
      cases h
      show Value.int v :: wF G r (j + 1) ks = .int (upd r j v j) :: wF G (upd r j v) (j + 1) ks
      rw [upd_s, wF_congr (r := r) (r' := upd r j v) ks (j + 1) (fun i hi => (upd_n (by omega)).symm)]
    | succ b =>
      show fieldV G (r j) a :: (wF G r (j + 1) ks).set b (.int v) = fieldV G (upd r (j + (b + 1)) v j) a :: wF G (upd r (j + (b + 1)) v) (j + 1) ks
      rw [ih (j + 1) b h, upd_n (by omega), show j + 1 + b = j + (b + 1) by omega]
def wE (G : Geo) (Sh : Nat → Option Cs) (σ : Sto) (c : Nat) : va_E := match Sh c with
  | some (.inl (ci, ks)) => .inr (ci, wF G (σ c) 0 ks)
  | some (.inr (_, n)) => .inl (G.2.1 c, n, .inl (σ c))
  | none => .inr (0, [])
def wW (G : Geo) (Sh : Nat → Option Cs) (cs : List Nat) (σ : Sto) : va_W := cs.map fun c => (G.1 c, wE G Sh σ c)
def tyc (Sh : Nat → Option Cs) (c : Nat) : FieldType := match Sh c with
  | some (.inr (true, _)) => .boolean
  | _ => .int
def tysW (G : Geo) (Sh : Nat → Option Cs) (cs : List Nat) : List (ClassId × FieldType) := cs.map fun c => (G.2.1 c, tyc Sh c)
theorem wW_at {G : Geo} {Sh : Nat → Option Cs} {cs : List Nat} {σ : Sto} {p c : Nat} (h : cs[p]? = some c) : (wW G Sh cs σ)[p]? = some (G.1 c, wE G Sh σ c) := by
  unfold wW
  rw [List.getElem?_map, h]
  rfl
theorem tysW_at {G : Geo} {Sh : Nat → Option Cs} {cs : List Nat} {p c : Nat} (h : cs[p]? = some c) : (tysW G Sh cs)[p]? = some (G.2.1 c, tyc Sh c) := by
  unfold tysW
  rw [List.getElem?_map, h]
  rfl
theorem wW_back {G : Geo} {Sh : Nat → Option Cs} {cs : List Nat} {σ : Sto} {p : Nat} {q : Nat × va_E} (h : (wW G Sh cs σ)[p]? = some q) : ∃ c, cs[p]? = some c ∧ q = (G.1 c, wE G Sh σ c) := by
  unfold wW at h
  rw [List.getElem?_map] at h
  cases hc : cs[p]? with
  | none => rw [hc] at h; cases h
  | some c => rw [hc] at h; cases h; exact ⟨c, rfl, rfl⟩
theorem su_row {σ : Sto} {c i : Nat} {v : Int32} : su σ c i v c = upd (σ c) i v := if_pos rfl
theorem su_ne {σ : Sto} {c i c' : Nat} {v : Int32} (h : c' ≠ c) : su σ c i v c' = σ c' := if_neg h
theorem wE_row {G : Geo} {Sh : Nat → Option Cs} {σ σ' : Sto} {c : Nat} (h : σ' c = σ c) : wE G Sh σ' c = wE G Sh σ c := by
  unfold wE
  rw [h]
/-- a world in which one cell has changed -/
theorem wW_set {G : Geo} {Sh : Nat → Option Cs} {cs : List Nat} {σ σ' : Sto} {p c : Nat} {e : va_E} (hn : cs.Nodup) (hp : cs[p]? = some c) (he : e = wE G Sh σ' c) (ho : ∀ c', c' ≠ c → σ' c' = σ c') :
    (wW G Sh cs σ).set p (G.1 c, e) = wW G Sh cs σ' := by
  subst he
  apply List.ext_getElem?
  intro q
  rw [List.getElem?_set]
  by_cases hq : p = q
  · subst hq
    rw [if_pos rfl, if_pos (by
      have := (List.getElem?_eq_some_iff.mp hp).1
      simpa [wW] using this), wW_at hp]
  · rw [if_neg hq]
    unfold wW
    rw [List.getElem?_map, List.getElem?_map]
    cases hc : cs[q]? with
    | none => rfl
    | some c' =>
      have hne : c' ≠ c := by
        intro h
        subst h
        exact hq ((List.getElem?_inj (List.getElem?_eq_some_iff.mp hp).1 hn).mp (hp.trans hc.symm))
      show some (G.1 c', wE G Sh σ c') = some (G.1 c', wE G Sh σ' c')
      rw [wE_row (ho c' hne)]
theorem va_D_any {G : Geo} {Sh : Nat → Option Cs} {cs : List Nat} {σ σ' : Sto} {A : Nat → Prop} (h : va_D A (wW G Sh cs σ)) : va_D A (wW G Sh cs σ') := by
  refine ⟨fun i j p q hi hj e => ?_, fun k q hk => ?_⟩
  · obtain ⟨c, hc, rfl⟩ := wW_back hi
    obtain ⟨c', hc', rfl⟩ := wW_back hj
    exact h.1 i j _ _ (wW_at hc) (wW_at hc') e
  · obtain ⟨c, hc, rfl⟩ := wW_back hk
    have h1 := h.2 k _ (wW_at (σ := σ) hc)
    exact h1
theorem va_A_any {G : Geo} {Sh : Nat → Option Cs} {cs : List Nat} {σ : Sto} (σ' : Sto) {sz q : Nat} (h : va_A (wW G Sh cs σ) sz q) : va_A (wW G Sh cs σ') sz q := by
  rcases h with ⟨k, e, hk⟩ | h
  · obtain ⟨c, hc, h2⟩ := wW_back hk
    have h3 : q = G.1 c := congrArg Prod.fst h2
    exact Or.inl ⟨k, wE G Sh σ' c, by rw [h3]; exact wW_at hc⟩
  · exact Or.inr h
