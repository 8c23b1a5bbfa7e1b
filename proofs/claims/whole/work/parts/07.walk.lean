/-! THE WALK: a run of the pure machine is a run of the machine -/
def lfOK (Sh : Nat → Option Cs) (σ : Sto) (o : Option Lf) : Prop := match o with
  | none => True
  | some (.inl (_, _, _, σ')) => ∀ c, Sh c = none → σ' c = σ c
  | some (.inr (.inl (_, _, _, σ', _))) => ∀ c, Sh c = none → σ' c = σ c
  | some (.inr (.inr r)) => ∀ c, Sh c = none → r.2.2 c = σ c
def dlOK (Sh : Nat → Option Cs) (σ : Sto) (d : DL) : Prop := lfOK Sh σ d.2 ∧ ∀ g ∈ d.1, lfOK Sh σ g.2
section DLOK
variable {Sh : Nat → Option Cs} {σ : Sto}
theorem no_ok : dlOK Sh σ no := ⟨trivial, fun g h => by cases h⟩
theorem lgo_ok {i : Nat} {L st : List Value} : lfOK Sh σ (lgo i L st σ) := fun _ _ => rfl
theorem lgo_su {i c j : Nat} {v : Int32} {L st : List Value} (h : ∃ s, Sh c = some s) : lfOK Sh σ (lgo i L st (su σ c j v)) := fun c' h' => su_ne (fun e => by obtain ⟨s, hs⟩ := h; rw [e, hs] at h'; cases h')
theorem go_ok {i : Nat} {L st : List Value} : dlOK Sh σ (go i L st σ) := ⟨lgo_ok, fun g h => by cases h⟩
theorem go_su {i c j : Nat} {v : Int32} {L st : List Value} (h : ∃ s, Sh c = some s) : dlOK Sh σ (go i L st (su σ c j v)) := ⟨lgo_su h, fun g h => by cases h⟩
theorem cal_ok {y k : Nat} {as : List Value} {kk : Rs → List Value} : dlOK Sh σ (cal y k as σ kk) := ⟨fun _ _ => rfl, fun g h => by cases h⟩
theorem rtn_ok {x : Int32} {w : Int64} : dlOK Sh σ (rtn (x, w, σ)) := ⟨fun _ _ => rfl, fun g h => by cases h⟩
theorem gif_ok {p : Prop} {hd : Decidable p} {o : Option Lf} {B : DL} (h1 : lfOK Sh σ o) (h2 : dlOK Sh σ B) : dlOK Sh σ (gif p hd o B) := ⟨h2.1, fun g h => by
  rcases List.mem_cons.mp h with rfl | h
  · exact h1
  · exact h2.2 g h⟩

theorem ldI_ok {L : List Value} {j : Nat} {f : Int32 → DL} (h : ∀ x, dlOK Sh σ (f x)) : dlOK Sh σ (ldI L j f) := by
  unfold ldI
  split
  · exact h _
  · exact no_ok
theorem ldJ_ok {L : List Value} {j : Nat} {f : Int64 → DL} (h : ∀ x, dlOK Sh σ (f x)) : dlOK Sh σ (ldJ L j f) := by
  unfold ldJ
  split
  · exact h _
  · exact no_ok
theorem ldR_ok {L : List Value} {j : Nat} {f : Nat → DL} (h : ∀ x, dlOK Sh σ (f x)) : dlOK Sh σ (ldR L j f) := by
  unfold ldR
  split
  · exact h _
  · exact no_ok
theorem p1_ok {st : List Value} {f : Int32 → List Value → DL} (h : ∀ a b, dlOK Sh σ (f a b)) : dlOK Sh σ (p1 st f) := by
  unfold p1
  split
  · exact h _ _
  · exact no_ok
theorem p2_ok {st : List Value} {f : Int32 → Int32 → List Value → DL} (h : ∀ a b c, dlOK Sh σ (f a b c)) : dlOK Sh σ (p2 st f) := by
  unfold p2
  split
  · exact h _ _ _
  · exact no_ok
theorem q1_ok {st : List Value} {f : Int64 → List Value → DL} (h : ∀ a b, dlOK Sh σ (f a b)) : dlOK Sh σ (q1 st f) := by
  unfold q1
  split
  · exact h _ _
  · exact no_ok
theorem q2_ok {st : List Value} {f : Int64 → Int64 → List Value → DL} (h : ∀ a b c, dlOK Sh σ (f a b c)) : dlOK Sh σ (q2 st f) := by
  unfold q2
  split
  · exact h _ _ _
  · exact no_ok
theorem q3_ok {st : List Value} {f : Int64 → Int32 → List Value → DL} (h : ∀ a b c, dlOK Sh σ (f a b c)) : dlOK Sh σ (q3 st f) := by
  unfold q3
  split
  · exact h _ _ _
  · exact no_ok
theorem c1_ok {st : List Value} {f : Nat → List Value → DL} (h : ∀ a b, dlOK Sh σ (f a b)) : dlOK Sh σ (c1 st f) := by
  unfold c1
  split
  · exact h _ _
  · exact no_ok
theorem c2_ok {st : List Value} {f : Nat → Int32 → List Value → DL} (h : ∀ a b c, dlOK Sh σ (f a b c)) : dlOK Sh σ (c2 st f) := by
  unfold c2
  split
  · exact h _ _ _
  · exact no_ok
theorem c3_ok {st : List Value} {f : Nat → Int32 → Int32 → List Value → DL} (h : ∀ a b c d, dlOK Sh σ (f a b c d)) : dlOK Sh σ (c3 st f) := by
  unfold c3
  split
  · exact h _ _ _ _
  · exact no_ok
theorem c4_ok {st : List Value} {f : Nat → Int32 → List Value → DL} (h : ∀ a b c, dlOK Sh σ (f a b c)) : dlOK Sh σ (c4 st f) := by
  unfold c4
  split
  · exact h _ _ _
  · exact no_ok
theorem d1_ok {st : List Value} {f : Value → List Value → DL} (h : ∀ a b, dlOK Sh σ (f a b)) : dlOK Sh σ (d1 st f) := by
  unfold d1
  split
  · exact h _ _
  · exact h _ _
  · exact no_ok
theorem fldG_ok {c a b : Nat} {f : Option Nat → DL} (h : ∀ o, (∃ s, Sh c = some s) → dlOK Sh σ (f o)) : dlOK Sh σ (fldG Sh c a b f) := by
  unfold fldG
  split
  · split
    · split
      · exact h _ ⟨_, by assumption⟩
      · exact no_ok
    · exact no_ok
  · exact no_ok
theorem rowG_ok {c : Nat} {z : Bool} {f : Nat → DL} (h : ∀ n, (∃ s, Sh c = some s) → dlOK Sh σ (f n)) : dlOK Sh σ (rowG Sh c z f) := by
  unfold rowG
  split
  · split
    · exact h _ ⟨_, by assumption⟩
    · exact no_ok
  · exact no_ok
theorem rowL_ok {c : Nat} {f : Nat → DL} (h : ∀ n, dlOK Sh σ (f n)) : dlOK Sh σ (rowL Sh c f) := by
  unfold rowL
  split
  · exact h _
  · exact no_ok
theorem swc_ok {x : Int32} {L st : List Value} {a : Nat} : ∀ ts : List (Int32 × Nat), dlOK Sh σ (swc x L st σ a ts) := by
  intro ts
  induction ts with
  | nil => exact go_ok
  | cons t ts ih => exact gif_ok lgo_ok ih
theorem popG_ok {n m : Nat} {st : List Value} {f : List Value → List Value → DL} (h : ∀ a b, dlOK Sh σ (f a b)) : dlOK Sh σ (popG n m st f) := by
  unfold popG
  split
  · split
    · exact h _ _
    · exact no_ok
  · exact no_ok
theorem recvG_ok {as : List Value} {k : Nat} {f : DL} (h : dlOK Sh σ f) : dlOK Sh σ (recvG Sh as k f) := by
  unfold recvG
  split
  · split
    · split
      · exact h
      · exact no_ok
    · split
      · split
        · exact h
        · exact no_ok
      · exact no_ok
  · exact no_ok
theorem carryG_ok {i : Nat} {L st : List Value} : dlOK Sh σ (carryG Sh i L st σ) := by
  unfold carryG
  split
  · refine rowG_ok fun _ _ => rowG_ok fun _ h => ?_
    split
    · refine gif_ok (fun c' h' => ?_) no_ok
      obtain ⟨s, hs⟩ := h
      exact if_neg (fun e => by rw [e, hs] at h'; cases h')
    · exact no_ok
  · exact no_ok
set_option maxHeartbeats 4000000 in
theorem act_ok {y k i : Nat} {L st : List Value} : dlOK Sh σ (act Sh y k i L st σ) := by
  unfold act
  split
  · exact no_ok
  · rename_i I q a b d e f p v w ts hf
    cases I
    all_goals dsimp only
    all_goals repeat' (first
      | exact no_ok
      | exact go_ok
      | exact cal_ok
      | exact rtn_ok
      | exact lgo_ok
      | exact carryG_ok
      | exact swc_ok _
      | exact go_su (by assumption)
      | exact lgo_su (by assumption)
      | exact trivial
      | exact fun _ _ => rfl
      | refine ldI_ok fun _ => ?_
      | refine ldJ_ok fun _ => ?_
      | refine ldR_ok fun _ => ?_
      | refine p1_ok fun _ _ => ?_
      | refine p2_ok fun _ _ _ => ?_
      | refine q1_ok fun _ _ => ?_
      | refine q2_ok fun _ _ _ => ?_
      | refine q3_ok fun _ _ _ => ?_
      | refine c1_ok fun _ _ => ?_
      | refine c2_ok fun _ _ _ => ?_
      | refine c3_ok fun _ _ _ _ => ?_
      | refine c4_ok fun _ _ _ => ?_
      | refine d1_ok fun _ _ => ?_
      | refine fldG_ok fun _ _ => ?_
      | refine rowG_ok fun _ _ => ?_
      | refine rowL_ok fun _ => ?_
      | refine popG_ok fun _ _ => ?_
      | refine recvG_ok ?_
      | refine gif_ok ?_ ?_
      | split)
end DLOK
theorem fold_rows {Sh : Nat → Option Cs} {σ : Sto} {K : KT} {K' : Nat → List Value → List Value → Sto → Option Rs} {i : Nat} {L : List Value} {z : Option Lf} {r : Rs}
    (hK : ∀ y k i L st σ r, K y k i L st σ = some r → ∀ c, Sh c = none → r.2.2 c = σ c) (hK' : ∀ i L st σ r, K' i L st σ = some r → ∀ c, Sh c = none → r.2.2 c = σ c) :
    ∀ gs : List (Gd × Option Lf), lfOK Sh σ z → (∀ g ∈ gs, lfOK Sh σ g.2) → fold K K' i L z gs = some r → ∀ c, Sh c = none → r.2.2 c = σ c := by
  have key : ∀ o : Option Lf, lfOK Sh σ o → lfK K K' i L o = some r → ∀ c, Sh c = none → r.2.2 c = σ c := by
    intro o ho h c hc
    match o, ho, h with
    | none, _, h => cases h
    | some (.inl (i', L', st', σ')), ho, h => exact (hK' _ _ _ _ _ h c hc).trans (ho c hc)
    | some (.inr (.inl (y', k', as, σ', kk))), ho, h =>
      have h1 : ((K y' k' 0 (ent y' as) [] σ').bind fun r => K' (i + 1) L (kk r) r.2.2) = some r := h
      cases h2 : K y' k' 0 (ent y' as) [] σ' with
      | none => rw [h2] at h1; cases h1
      | some r1 =>
        rw [h2] at h1
        exact (hK' _ _ _ _ _ h1 c hc).trans ((hK _ _ _ _ _ _ _ h2 c hc).trans (ho c hc))
    | some (.inr (.inr r')), ho, h => cases h; exact ho c hc
  intro gs
  induction gs with
  | nil => intro hz _ h; exact key z hz h
  | cons g gs ih =>
    intro hz hg h
    by_cases hp : g.1.1
    · have h1 : fold K K' i L z (g :: gs) = lfK K K' i L g.2 := @if_pos _ g.1.2 hp _ _ _
      rw [h1] at h
      exact key g.2 (hg g List.mem_cons_self) h
    · have h1 : fold K K' i L z (g :: gs) = fold K K' i L z gs := @if_neg _ g.1.2 hp _ _ _
      rw [h1] at h
      exact ih hz (fun g' h' => hg g' (List.mem_cons_of_mem _ h')) h
theorem run_rows {Sh : Nat → Option Cs} : ∀ (n y k i : Nat) (L st : List Value) (σ : Sto) (r : Rs), run Sh n y k i L st σ = some r → ∀ c, Sh c = none → r.2.2 c = σ c := by
  intro n
  induction n with
  | zero => intro y k i L st σ r h; cases h
  | succ n ih =>
    intro y k i L st σ r h
    have ok : dlOK Sh σ (act Sh y k i L st σ) := act_ok
    exact fold_rows ih (ih y k) _ ok.1 ok.2 h

section WALK
variable {p : Program} {l : Launch} {e : Env} {R : Room} {s : State} {m : MethodId} {args : Array Value} {below : List Frame} {meth : Method} {c : Code} {cells slots : Nat} {Q : State → Prop}
theorem not_lt_ge {x y : Int32} (h : ¬ x < y) : y ≤ x := Int32.not_lt.mp h
theorem lt_not_ge {x y : Int32} (h : x < y) : ¬ y ≤ x := Int32.not_le.mpr h
set_option maxHeartbeats 16000000 in
theorem sim {t : MI} {G : Geo} {Sh : Nat → Option Cs} {cs : List Nat} {A : Nat → Prop} {y k : Nat} {xx : Nat → Int32} {LL : Nat} (ht : mi? y = some t) (C0 : Ctx p s m args c R t G Sh cs A cells slots) (hRf : hgt t k ≤ R.frames ∧ 64 * hgt t k ≤ R.locals) (hR1 : 1 ≤ hgt t k)
    (hIH : ∀ (n y' k' : Nat) (t' : MI), mi? y' = some t' → hgt t' k' < hgt t k → y' ≠ kLaw → ∀ (as : List Value) (σ : Sto) (r : Rs), run Sh n y' k' 0 (ent y' as) [] σ = some r → (wide as).length ≤ mx y' → MetP l G Sh cs y' k' as σ r)
    (hcarry : natP) (hscr : y = kLaw → Scr s G A xx LL) {r : Rs} (hret : RetH p l e R s m args below meth c cells slots Q t G Sh cs A r) :
    ∀ (n i : Nat) (L st : List Value) (σ : Sto), run Sh n y k i L st σ = some r → (y = kLaw → Rows σ xx LL) → Goes1 p l e R s m args below meth c cells slots Q G Sh cs A t.2.2.1 y i L st σ := by
  have C0' := C0
  obtain ⟨hx, hb, hml, hown, hts, hK, hD, hA, hE, hnd, hSh, hcc, hss, hcls, hmok, hck⟩ := C0
  have hF := hE.cat
  intro n
  induction n with
  | zero => intro i L st σ h; cases h
  | succ n ih =>
    intro i L st σ h hrows H locs ls q hq hP hS hl
    replace h : fold1 (run Sh n) (run Sh n y k) i L (act Sh y k i L st σ) = some r := h
    unfold act at h
    cases hfet : fetch y i with
    | none => rw [hfet] at h; exact (no_inv h).elim
    | some ri =>
      obtain ⟨I, q', a, b, d, e', f, p', v, w, ts⟩ := ri
      rw [hfet] at h
      have hqq : q' = q := by rw [← hq]; unfold qo; rw [hfet]
      subst hqq
      have hck1 := hck y i
      unfold chk at hck1
      rw [ht, hfet] at hck1
      unfold chkI at hck1
      dsimp only at hck1
      cases hdec : decode t.2.1 q' with
      | error _ => rw [hdec] at hck1; cases hck1
      | ok jn =>
        obtain ⟨J, len⟩ := jn
        rw [hdec] at hck1
        dsimp only at hck1
        rw [Bool.and_eq_true, decide_eq_true_eq] at hck1
        obtain ⟨rfl, hk⟩ := hck1
        unfold chkK at hk
        have go1 : ∀ {i' : Nat} {st' : List Value} {q2 : Nat}, run Sh n y k i' L st' σ = some r → qo y i' = q2 → W p l e R s m args below meth c H locs cells slots Q (F0 m q2 ls (st'.map (cv G))) := fun h1 h2 => ih _ _ _ _ h1 hrows H locs ls _ h2 hP hS hl
        have sto : ∀ {c' : Nat}, (∃ s', Sh c' = some s') → ∀ {σ' : Sto}, (∀ c2, c2 ≠ c' → σ' c2 = σ c2) → (y = kLaw → Rows σ' xx LL) := fun {c'} ⟨s', hs'⟩ {σ'} ho hy => by
          have h49 := (hSh c' s' hs').2
          obtain ⟨h1, h2⟩ := hrows hy
          exact ⟨by rw [ho 99 (by omega)]; exact h1, by rw [ho 98 (by omega)]; exact h2⟩
        cases J
        case aload_n n =>
          dsimp only at h hk
          obtain ⟨rfl, hnx⟩ := ftC_inv hk
          obtain ⟨x, hn, h⟩ := ldR_inv h
          have h9 := hl.2.2 n.val (.ref x) hn (fun z => by cases z)
          have g9 := go1 h hnx
          rcases hE.orNull x with z | ⟨z1, z⟩
          · have e1 : cv G (.ref x) = .null := z
            rw [e1] at h9
            simp only [List.map_cons, e1] at g9
            exact lv_aload_nN hx hb hdec rfl h9 g9
          · have e1 : cv G (.ref x) = .ref z1 := z
            rw [e1] at h9
            simp only [List.map_cons, e1] at g9
            exact lv_aload_n hx hb hdec rfl h9 g9
        case iload_n n =>
          dsimp only at h hk
          obtain ⟨rfl, hnx⟩ := ftC_inv hk
          obtain ⟨x, hn, h⟩ := ldI_inv h
          exact lv_iload_n hx hb hdec rfl (hl.2.2 n.val (.int x) hn (fun z => by cases z)) (go1 h hnx)
        case lload_n n =>
          dsimp only at h hk
          obtain ⟨rfl, hnx⟩ := ftC_inv hk
          obtain ⟨x, hn, h⟩ := ldJ_inv h
          exact lv_lload_n hx hb hdec rfl (hl.2.2 n.val (.long x) hn (fun z => by cases z)) (go1 h hnx)
        case iload n =>
          dsimp only at h hk
          obtain ⟨rfl, hnx⟩ := ftC_inv hk
          obtain ⟨x, hn, h⟩ := ldI_inv h
          exact lv_iload hx hb hdec (hl.2.2 n (.int x) hn (fun z => by cases z)) (go1 h hnx)
        case lload n =>
          dsimp only at h hk
          obtain ⟨rfl, hnx⟩ := ftC_inv hk
          obtain ⟨x, hn, h⟩ := ldJ_inv h
          exact lv_lload hx hb hdec (hl.2.2 n (.long x) hn (fun z => by cases z)) (go1 h hnx)
        case istore_n n =>
          dsimp only at h hk
          rw [Bool.and_eq_true, decide_eq_true_eq] at hk
          obtain ⟨hk, hlt⟩ := hk
          obtain ⟨rfl, hnx⟩ := ftC_inv hk
          obtain ⟨x, rs, rfl, h⟩ := p1_inv h
          exact lv_istore_n hx hb hdec rfl hl.has hlt rfl (fun ls' hl' => ih _ _ _ _ h hrows H locs ls' _ hnx hP hS (hL.of1 hF (x := .int x) hl'))
        case istore n =>
          dsimp only at h hk
          rw [Bool.and_eq_true, decide_eq_true_eq] at hk
          obtain ⟨hk, hlt⟩ := hk
          obtain ⟨rfl, hnx⟩ := ftC_inv hk
          obtain ⟨x, rs, rfl, h⟩ := p1_inv h
          exact lv_istore hx hb hdec hl.has hlt rfl (fun ls' hl' => ih _ _ _ _ h hrows H locs ls' _ hnx hP hS (hL.of1 hF (x := .int x) hl'))
        case lstore_n n =>
          dsimp only at h hk
          rw [Bool.and_eq_true, decide_eq_true_eq] at hk
          obtain ⟨hk, hlt⟩ := hk
          obtain ⟨rfl, hnx⟩ := ftC_inv hk
          obtain ⟨x, rs, rfl, h⟩ := q1_inv h
          exact lv_lstore_n hx hb hdec rfl hl.has hlt rfl (fun ls' hl' => ih _ _ _ _ h hrows H locs ls' _ hnx hP hS (hL.of2 hF (x := .long x) hl'))
        case lstore n =>
          dsimp only at h hk
          rw [Bool.and_eq_true, decide_eq_true_eq] at hk
          obtain ⟨hk, hlt⟩ := hk
          obtain ⟨rfl, hnx⟩ := ftC_inv hk
          obtain ⟨x, rs, rfl, h⟩ := q1_inv h
          exact lv_lstore hx hb hdec hl.has hlt rfl (fun ls' hl' => ih _ _ _ _ h hrows H locs ls' _ hnx hP hS (hL.of2 hF (x := .long x) hl'))
        case iinc n z =>
          dsimp only at h hk
          rw [Bool.and_eq_true, Bool.and_eq_true, decide_eq_true_eq, decide_eq_true_eq] at hk
          obtain ⟨⟨hk, hlt⟩, hv⟩ := hk
          obtain ⟨rfl, hnx⟩ := ftC_inv hk
          obtain ⟨x, hn, h⟩ := ldI_inv h
          obtain ⟨k9, hk9⟩ := List.mem_iff_getElem?.mp ((asL_mem (G := G) (q := (n, .int x)) L 0).mpr ⟨n, .int x, hn, fun z => (by cases z), by simp [cv]⟩)
          exact lv_iinc hx hb hdec hl.has hk9 (by rw [hv]) hlt rfl (fun ls' hl' => ih _ _ _ _ h hrows H locs ls' _ hnx hP hS (hL.of1 hF (x := .int (x + v)) hl'))
        case iconst z =>
          dsimp only at h hk
          rw [Bool.and_eq_true, decide_eq_true_eq] at hk
          obtain ⟨hk, hv⟩ := hk
          obtain ⟨rfl, hnx⟩ := ftC_inv hk
          exact lv_iconst hx hb hdec hv (go1 h hnx)
        case bipush z =>
          dsimp only at h hk
          rw [Bool.and_eq_true, decide_eq_true_eq] at hk
          obtain ⟨hk, hv⟩ := hk
          obtain ⟨rfl, hnx⟩ := ftC_inv hk
          exact lv_bipush hx hb hdec hv (go1 h hnx)
        case sipush z =>
          dsimp only at h hk
          rw [Bool.and_eq_true, decide_eq_true_eq] at hk
          obtain ⟨hk, hv⟩ := hk
          obtain ⟨rfl, hnx⟩ := ftC_inv hk
          exact lv_sipush hx hb hdec hv (go1 h hnx)
        case lconst z =>
          dsimp only at h hk
          rw [Bool.and_eq_true, decide_eq_true_eq] at hk
          obtain ⟨hk, hv⟩ := hk
          obtain ⟨rfl, hnx⟩ := ftC_inv hk
          exact lv_lconst hx hb hdec hv (go1 h hnx)
        case ldc idx =>
          dsimp only at h hk
          rw [Bool.and_eq_true] at hk
          obtain ⟨hk, hv⟩ := hk
          obtain ⟨rfl, hnx⟩ := ftC_inv hk
          by_cases ha : a = 1
          · rw [if_pos ha] at h hv
            simp only [Bool.and_eq_true, decide_eq_true_eq] at hv
            obtain ⟨⟨h1, h2⟩, h3⟩ := hv
            cases hs : nth strK (b - 100) with
            | none => rw [hs] at h3; cases h3
            | some z =>
              rw [hs] at h3
              have h4 := of_decide_eq_true h3
              have hlt : b - 100 < 12 := nth_lt _ _ _ hs
              have h5 := hE.2.1 _ _ hs
              have e1 : cv G (.ref b) = .ref (G.2.2.2.1 (b - 100)) := by
                show cr G b = _
                unfold cr
                rw [if_neg (by omega), if_pos (by omega)]
              have g9 := go1 h hnx
              simp only [List.map_cons, e1] at g9
              rw [h4] at h5
              rw [h1] at hown
              exact va_ldcS hx hb hown h5 hdec g9
          · rw [if_neg ha] at h hv
            exact lv_ldc hx hb hown (hts _ (wC_inv hv rfl)) hdec (go1 h hnx)
        case ldc_w idx =>
          dsimp only at h hk
          rw [Bool.and_eq_true] at hk
          obtain ⟨hk, hv⟩ := hk
          obtain ⟨rfl, hnx⟩ := ftC_inv hk
          exact lv_ldcw hx hb hown (hts _ (wC_inv hv rfl)) hdec (go1 h hnx)
        case ldc2_w idx =>
          dsimp only at h hk
          rw [Bool.and_eq_true] at hk
          obtain ⟨hk, hv⟩ := hk
          obtain ⟨rfl, hnx⟩ := ftC_inv hk
          exact lv_ldc2 hx hb hown (hts _ (wC_inv hv rfl)) hdec (go1 h hnx)
        case getfield idx =>
          dsimp only at h hk
          rw [Bool.and_eq_true] at hk
          obtain ⟨hk, hv⟩ := hk
          obtain ⟨rfl, hnx⟩ := ftC_inv hk
          replace h := c1_inv h; obtain ⟨c9, rs, rfl, h⟩ := h
          by_cases ha : a = 50
          · rw [if_pos ha] at h hv
            by_cases hc9 : 100 ≤ c9 ∧ c9 < 112
            · rw [if_pos hc9] at h
              have e1 : cv G (.ref c9) = .ref (G.2.2.2.1 (c9 - 100)) := by
                show cr G c9 = _
                unfold cr
                rw [if_neg (by omega), if_pos (by omega)]
              have e2 : cv G (.ref (c9 + 100)) = .ref (G.2.2.2.2.1 (c9 - 100)) := by
                show cr G (c9 + 100) = _
                unfold cr
                rw [if_neg (by omega), if_neg (by omega), if_pos (by omega), show c9 + 100 - 200 = c9 - 100 by omega]
              have g9 := go1 h hnx
              simp only [List.map_cons, e2] at g9
              simp only [List.map_cons, e1]
              exact vk_getf hx hb (hE.1.1 (c9 - 100) (by omega)).2.2.1 hS hown (hts _ (wC_inv hv rfl)) (fun _ z => z) hdec g9
            · rw [if_neg hc9] at h; exact (no_inv h).elim
          · rw [if_neg ha] at h hv
            by_cases ha1 : a = 51
            · rw [if_pos ha1] at h hv
              by_cases hc9 : 100 ≤ c9 ∧ c9 < 112
              · rw [if_pos hc9] at h
                have e1 : cv G (.ref c9) = .ref (G.2.2.2.1 (c9 - 100)) := by
                  show cr G c9 = _
                  unfold cr
                  rw [if_neg (by omega), if_pos (by omega)]
                have g9 := go1 h hnx
                simp only [List.map_cons, e1]
                exact vk_getf hx hb (hE.1.1 (c9 - 100) (by omega)).2.1 hS hown (hts _ (wC_inv hv rfl)) (fun _ z => z) hdec g9
              · rw [if_neg hc9] at h; exact (no_inv h).elim
            · rw [if_neg ha1] at h hv
              obtain ⟨ks, o9, hs9, hn9, h⟩ := fldG_inv h
              obtain ⟨C, T, N, hq9, hbN, hT1, hlk, -⟩ := fldC_inv hv
              obtain ⟨hin9, h49⟩ := hSh _ _ hs9
              obtain ⟨p9, hp9⟩ := List.mem_iff_getElem?.mp hin9
              have e1 : cv G (.ref c9) = .ref (G.1 c9) := cr_lo (by omega)
              have g9 : W p l e R s m args below meth c H locs cells slots Q (F0 m (q' + 3) ls (fieldV G (σ c9 b) o9 :: rs.map (cv G))) := by
                cases o9 with
                | none => exact go1 h hnx
                | some x9 => exact go1 h hnx
              simp only [List.map_cons, e1]
              have hfv := wF_get (G := G) (r := σ c9) ks 0 b o9 hn9
              rw [Nat.zero_add] at hfv
              exact va_get (ref := C) hx hb hts (hcls a C T N hq9).1 hown hK hP p9 (by rw [wW_at hp9, wE_obj hs9]) (by rw [← nth_get]; exact hq9) b hbN (hts _ hlk) (by rw [hT1]; exact fun _ z => z) hfv hdec g9
        case putfield idx =>
          dsimp only at h hk
          rw [Bool.and_eq_true] at hk
          obtain ⟨hk, hv⟩ := hk
          obtain ⟨rfl, hnx⟩ := ftC_inv hk
          replace h := c4_inv h; obtain ⟨c9, x9, rs, rfl, h⟩ := h
          obtain ⟨ks, o9, hs9, hn9, h⟩ := fldG_inv h
          obtain ⟨C, T, N, hq9, hbN, hT1, hlk, hwr⟩ := fldC_inv hv
          obtain ⟨hfin, hdsc⟩ := hwr rfl
          obtain ⟨hin9, h49⟩ := hSh _ _ hs9
          obtain ⟨p9, hp9⟩ := List.mem_iff_getElem?.mp hin9
          obtain ⟨hw9, ty9, hty9, hnm9⟩ := hcls a C T N hq9
          have e1 : cv G (.ref c9) = .ref (G.1 c9) := cr_lo (by omega)
          cases o9 with
          | some z => exact (no_inv h).elim
          | none =>
            dsimp only at h
            have key : ∃ ty : FieldType, parseFieldDescriptor (T b).2.2.1 = some ty ∧ narrow ty (.int x9) = .int x9 ∧ fits ty (.int x9) = true ∧ run Sh n y k (i + 1) L rs (su σ c9 b x9) = some r := by
              by_cases hd : d = 0
              · rw [if_pos hd] at h hdsc
                exact ⟨.int, by rw [hdsc]; rfl, rfl, rfl, h⟩
              · rw [if_neg hd] at h hdsc
                rcases gif_inv h with ⟨hz, h⟩ | ⟨-, h⟩
                · rcases zb_cases hz with rfl | rfl
                  · exact ⟨.boolean, by rw [hdsc]; rfl, rfl, rfl, h⟩
                  · exact ⟨.boolean, by rw [hdsc]; rfl, rfl, rfl, h⟩
                · exact (no_inv h).elim
            obtain ⟨ty, hpd, hna, hfi, h⟩ := key
            have e3 : cv G (.int x9) = .int x9 := rfl
            simp only [List.map_cons, e1, e3]
            refine va_put (ref := C) hx hb hts hw9 ty9 hty9 hnm9 hown hK hP (hD σ) hS p9 (by rw [wW_at hp9, wE_obj hs9]) (by rw [← nth_get]; exact hq9) b hbN (hts _ hlk) (by rw [hT1]; exact fun _ z => z) hfin hpd hna hfi (by rw [wF_len]; exact nth_lt _ _ _ hn9) hdec (fun H1 locs1 hP1 hD1 hS1 => ?_)
            rw [wW_set hnd hp9 (σ' := su σ c9 b x9) (by rw [wE_obj hs9, wF_set ks 0 b hn9, su_row, Nat.zero_add]) (fun c' hc' => su_ne hc')] at hP1
            exact ih _ _ _ _ h (sto ⟨_, hs9⟩ (fun c2 h2 => su_ne h2)) H1 locs1 ls _ hnx hP1 hS1 hl
        case getstatic idx =>
          dsimp only at h hk
          rw [Bool.and_eq_true] at hk
          obtain ⟨hk, hv⟩ := hk
          obtain ⟨rfl, hnx⟩ := ftC_inv hk
          by_cases ha : a = 1
          · rw [if_pos ha] at h hv
            rw [Bool.and_eq_true, decide_eq_true_eq] at hv
            obtain ⟨rfl, hv⟩ := hv
            exact va_gets hx hb hE.2.2.1 hS hown (hts _ (wC_inv hv rfl)) (fun _ z => z) hdec (go1 h hnx)
          · rw [if_neg ha] at h hv
            by_cases ha2 : a = 2
            · rw [if_pos ha2] at h hv
              have g9 := go1 h hnx
              exact va_gets hx hb hE.2.2.2.1 hS hown (hts _ (wC_inv hv rfl)) (fun _ z => z) hdec g9
            · rw [if_neg ha2] at h; exact (no_inv h).elim
        case iaload =>
          dsimp only at h hk
          rw [Bool.and_eq_true] at hk
          obtain ⟨hk, hv⟩ := hk
          obtain ⟨rfl, hnx⟩ := ftC_inv hk
          replace h := c2_inv h; obtain ⟨c9, x9, rs, rfl, h⟩ := h
          by_cases ha : a = 1
          · rw [if_pos ha] at h hv
            have hy := of_decide_eq_true hv
            by_cases hc9 : c9 = 99
            · rw [if_pos hc9] at h
              subst hc9
              obtain ⟨hX, hbl, hbA, hLL⟩ := hscr hy
              obtain ⟨r1, r2⟩ := hrows hy
              rcases gif_inv h with ⟨hz, h⟩ | ⟨-, h⟩
              · rw [r2, nI_clamp hLL] at hz
                have h : run Sh n y k (i + 1) L (.int (σ 99 x9.toNatClampNeg) :: rs) σ = some r := h
                rw [r1] at h
                have e1 : cv G (.ref 99) = .ref (G.1 99) := cr_lo (by omega)
                simp only [List.map_cons, e1]
                exact va_sld hx hb hX hbl hbA hS (inb_in hz) hdec (go1 h hnx)
              · exact (no_inv h).elim
            · rw [if_neg hc9] at h; exact (no_inv h).elim
          · rw [if_neg ha] at h
            obtain ⟨n9, hs9, h⟩ := rowG_inv h
            obtain ⟨hin9, h49⟩ := hSh _ _ hs9
            obtain ⟨p9, hp9⟩ := List.mem_iff_getElem?.mp hin9
            have e1 : cv G (.ref c9) = .ref (G.1 c9) := cr_lo (by omega)
            rcases gif_inv h with ⟨hz, h⟩ | ⟨-, h⟩
            · simp only [List.map_cons, e1]
              exact va_iald hx hb hK hP p9 p9 (by rw [wW_at hp9, wE_arr hs9]) (by rw [tysW_at hp9, tyc_arr hs9]; rfl) (inb_in hz) hdec (go1 h hnx)
            · exact (no_inv h).elim
        case baload =>
          dsimp only at h hk
          obtain ⟨rfl, hnx⟩ := ftC_inv hk
          replace h := c2_inv h; obtain ⟨c9, x9, rs, rfl, h⟩ := h
          by_cases ha : a = 2
          · rw [if_pos ha] at h
            by_cases hc9 : 200 ≤ c9 ∧ c9 < 212
            · rw [if_pos hc9] at h
              rcases gif_inv h with ⟨hz, h⟩ | ⟨-, h⟩
              · have e1 : cv G (.ref c9) = .ref (G.2.2.2.2.1 (c9 - 200)) := by
                  show cr G c9 = _
                  unfold cr
                  rw [if_neg (by omega), if_neg (by omega), if_pos (by omega)]
                have hT := (hE.1.1 (c9 - 200) (by omega)).2.2.2
                rw [lenL_getD _ (by omega), byteL_getD] at hT
                simp only [List.map_cons, e1]
                exact va_tb hx hb hT hS (inb_in hz) rfl hdec (go1 h hnx)
              · exact (no_inv h).elim
            · rw [if_neg hc9] at h; exact (no_inv h).elim
          · rw [if_neg ha] at h
            obtain ⟨n9, hs9, h⟩ := rowG_inv h
            obtain ⟨hin9, h49⟩ := hSh _ _ hs9
            obtain ⟨p9, hp9⟩ := List.mem_iff_getElem?.mp hin9
            have e1 : cv G (.ref c9) = .ref (G.1 c9) := cr_lo (by omega)
            rcases gif_inv h with ⟨hz, h⟩ | ⟨-, h⟩
            · simp only [List.map_cons, e1]
              exact va_zald hx hb hK hP p9 p9 (by rw [wW_at hp9, wE_arr hs9]) (by rw [tysW_at hp9, tyc_arr hs9]; rfl) (inb_in hz) hdec (go1 h hnx)
            · exact (no_inv h).elim
        case iastore =>
          dsimp only at h hk
          obtain ⟨rfl, hnx⟩ := ftC_inv hk
          replace h := c3_inv h; obtain ⟨c9, x9, z9, rs, rfl, h⟩ := h
          obtain ⟨n9, hs9, h⟩ := rowG_inv h
          obtain ⟨hin9, h49⟩ := hSh _ _ hs9
          obtain ⟨p9, hp9⟩ := List.mem_iff_getElem?.mp hin9
          have e1 : cv G (.ref c9) = .ref (G.1 c9) := cr_lo (by omega)
          rcases gif_inv h with ⟨hz, h⟩ | ⟨-, h⟩
          · simp only [List.map_cons, e1]
            refine va_iast hx hb hK hP (hD σ) hS p9 p9 (by rw [wW_at hp9, wE_arr hs9]) (by rw [tysW_at hp9, tyc_arr hs9]; rfl) (inb_in hz) hdec (fun H1 locs1 hP1 hD1 hS1 => ?_)
            rw [wW_set hnd hp9 (σ' := su σ c9 x9.toNatClampNeg z9) (by rw [wE_arr hs9, su_row]) (fun c' hc' => su_ne hc')] at hP1
            exact ih _ _ _ _ h (sto ⟨_, hs9⟩ (fun c2 h2 => su_ne h2)) H1 locs1 ls _ hnx hP1 hS1 hl
          · exact (no_inv h).elim
        case bastore =>
          dsimp only at h hk
          obtain ⟨rfl, hnx⟩ := ftC_inv hk
          replace h := c3_inv h; obtain ⟨c9, x9, z9, rs, rfl, h⟩ := h
          obtain ⟨n9, hs9, h⟩ := rowG_inv h
          obtain ⟨hin9, h49⟩ := hSh _ _ hs9
          obtain ⟨p9, hp9⟩ := List.mem_iff_getElem?.mp hin9
          have e1 : cv G (.ref c9) = .ref (G.1 c9) := cr_lo (by omega)
          rcases gif_inv h with ⟨⟨hz, hzb⟩, h⟩ | ⟨-, h⟩
          · simp only [List.map_cons, e1]
            refine va_zast hx hb hK hP (hD σ) hS p9 p9 (by rw [wW_at hp9, wE_arr hs9]) (by rw [tysW_at hp9, tyc_arr hs9]; rfl) (inb_in hz) hdec (fun H1 locs1 hP1 hD1 hS1 => ?_)
            have e2 : vp_nar .boolean z9 = z9 := by
              rcases zb_cases hzb with rfl | rfl <;> rfl
            rw [e2] at hP1
            rw [wW_set hnd hp9 (σ' := su σ c9 x9.toNatClampNeg z9) (by rw [wE_arr hs9, su_row]) (fun c' hc' => su_ne hc')] at hP1
            exact ih _ _ _ _ h (sto ⟨_, hs9⟩ (fun c2 h2 => su_ne h2)) H1 locs1 ls _ hnx hP1 hS1 hl
          · exact (no_inv h).elim
        case arraylength =>
          dsimp only at h hk
          rw [Bool.and_eq_true] at hk
          obtain ⟨hk, hv⟩ := hk
          obtain ⟨rfl, hnx⟩ := ftC_inv hk
          replace h := c1_inv h; obtain ⟨c9, rs, rfl, h⟩ := h
          by_cases ha : a = 1
          · rw [if_pos ha] at h hv
            have hy := of_decide_eq_true hv
            by_cases hc9 : c9 = 99
            · rw [if_pos hc9] at h
              subst hc9
              obtain ⟨hX, hbl, hbA, hLL⟩ := hscr hy
              obtain ⟨r1, r2⟩ := hrows hy
              rw [r2] at h
              have e1 : cv G (.ref 99) = .ref (G.1 99) := cr_lo (by omega)
              simp only [List.map_cons, e1]
              exact va_slen hx hb hX hbl hbA hS hdec (go1 h hnx)
            · rw [if_neg hc9] at h; exact (no_inv h).elim
          · rw [if_neg ha] at h
            by_cases ha2 : a = 2
            · rw [if_pos ha2] at h
              by_cases hc9 : 200 ≤ c9 ∧ c9 < 212
              · rw [if_pos hc9] at h
                have e1 : cv G (.ref c9) = .ref (G.2.2.2.2.1 (c9 - 200)) := by
                  show cr G c9 = _
                  unfold cr
                  rw [if_neg (by omega), if_neg (by omega), if_pos (by omega)]
                have hT := (hE.1.1 (c9 - 200) (by omega)).2.2.2
                rw [lenL_getD _ (by omega), byteL_getD] at hT
                simp only [List.map_cons, e1]
                exact va_tlen hx hb hT hS rfl hdec (go1 h hnx)
              · rw [if_neg hc9] at h; exact (no_inv h).elim
            · rw [if_neg ha2] at h
              obtain ⟨z9, n9, hs9, h⟩ := rowL_inv h
              obtain ⟨hin9, h49⟩ := hSh _ _ hs9
              obtain ⟨p9, hp9⟩ := List.mem_iff_getElem?.mp hin9
              have e1 : cv G (.ref c9) = .ref (G.1 c9) := cr_lo (by omega)
              simp only [List.map_cons, e1]
              exact va_alen (x := (n9, .inl (σ c9))) hx hb hK hP p9 p9 (by rw [wW_at hp9, wE_arr hs9]) (by rw [tysW_at hp9]) rfl hdec (go1 h hnx)
        case invokevirtual idx =>
          dsimp only at h hk
          by_cases hd : d = 0
          · rw [if_pos hd] at h hk
            rw [Bool.and_eq_true] at hk
            obtain ⟨hk, hcall⟩ := hk
            obtain ⟨rfl, hnx⟩ := ftC_inv hk
            have hrows' : ∀ r1 : Rs, (∀ c', Sh c' = none → r1.2.2 c' = σ c') → (y = kLaw → Rows r1.2.2 xx LL) := fun r1 hr1 hy => by
              have n1 : ∀ c', 49 ≤ c' → Sh c' = none := fun c' h9 => by
                cases hs : Sh c' with
                | none => rfl
                | some z => have := (hSh c' z hs).2; omega
              obtain ⟨h1, h2⟩ := hrows hy
              exact ⟨by rw [hr1 99 (n1 99 (by omega))]; exact h1, by rw [hr1 98 (n1 98 (by omega))]; exact h2⟩
            replace h := popG_inv h; obtain ⟨xs, rs, hlen, rfl, hsum, hwide, h⟩ := h
            obtain ⟨c9, s9, hx9, hrc, h⟩ := recvG_inv h
            have key : ∃ (k' : Nat) (r1 : Rs), (((d = 0 → ts ≠ [] → k' = k + 1 ∧ k < 6) ∧ ((d ≠ 0 ∨ ts = []) → k' = k))) ∧ run Sh n a k' 0 (ent a xs.reverse) [] σ = some r1 ∧ run Sh n y k (i + 1) L (pushR e' r1 rs) r1.2.2 = some r := by
              cases ts with
              | nil =>
                have h : ((run Sh n a k 0 (ent a xs.reverse) [] σ).bind fun r1 => run Sh n y k (i + 1) L (pushR e' r1 rs) r1.2.2) = some r := h
                obtain ⟨r1, h1, h2⟩ := Option.bind_eq_some_iff.mp h
                exact ⟨k, r1, ⟨fun _ z => absurd rfl z, fun _ => rfl⟩, h1, h2⟩
              | cons z ts =>
                rcases gif_inv h with ⟨hk6, h⟩ | ⟨-, h⟩
                · have h : ((run Sh n a (k + 1) 0 (ent a xs.reverse) [] σ).bind fun r1 => run Sh n y k (i + 1) L (pushR e' r1 rs) r1.2.2) = some r := h
                  obtain ⟨r1, h1, h2⟩ := Option.bind_eq_some_iff.mp h
                  exact ⟨k + 1, r1, ⟨fun _ _ => ⟨rfl, hk6⟩, fun z => by rcases z with z | z; exact absurd hd z; cases z⟩, h1, h2⟩
                · exact (no_inv h).elim
            obtain ⟨k', r1, hkk, hr1, h⟩ := key
            exact dc_invoke (y := y) C0' hRf hcall (fun _ _ => hkk) (fun t' ht' hlt hal => hIH n a k' t' ht' hlt hal _ _ _ hr1 hwide) hlen hsum (Or.inl ⟨hd, hdec⟩) (fun _ => ⟨c9, s9, hx9, hrc⟩) hP hS hl.1
              (fun H1 locs1 hP1 hS1 => ih _ _ _ _ h (hrows' r1 (run_rows n _ _ _ _ _ _ _ hr1)) H1 locs1 ls _ hnx hP1 hS1 hl)
          · rw [if_neg hd] at h; exact (no_inv h).elim
        case invokestatic idx =>
          dsimp only at h hk
          by_cases hd3 : d = 3
          · rw [if_pos hd3] at h hk
            rw [Bool.and_eq_true] at hk
            obtain ⟨hk, hv⟩ := hk
            obtain ⟨rfl, hnx⟩ := ftC_inv hk
            unfold carryG at h
            split at h
            · rename_i n9 dp d9 sp c9 rs
              obtain ⟨nc, hsc, h⟩ := rowG_inv h
              obtain ⟨nd, hsd, h⟩ := rowG_inv h
              by_cases hsum : (rs.map fun v => v.category).sum ≤ 8
              · rw [if_pos hsum] at h
                rcases gif_inv h with ⟨⟨g1, g2, g3, g4, g5⟩, h⟩ | ⟨-, h⟩
                · obtain ⟨hin9, h49⟩ := hSh _ _ hsc
                  obtain ⟨p9, hp9⟩ := List.mem_iff_getElem?.mp hin9
                  obtain ⟨hin8, h48⟩ := hSh _ _ hsd
                  obtain ⟨p8, hp8⟩ := List.mem_iff_getElem?.mp hin8
                  have e1 : cv G (.ref c9) = .ref (G.1 c9) := cr_lo (by omega)
                  have e2 : cv G (.ref d9) = .ref (G.1 d9) := cr_lo (by omega)
                  have nn : ∀ z : Int32, 0 ≤ z.toInt → ¬ z < 0 ∧ (z.toNatClampNeg : Int) = z.toInt := fun z hz => by
                    refine ⟨fun hz2 => ?_, ?_⟩
                    · have h3 := Int32.lt_iff_toInt_lt.mp hz2
                      have h0 : (0 : Int32).toInt = 0 := by decide
                      omega
                    · show ((z.toInt.toNat : Nat) : Int) = _
                      omega
                  have a1 := nn sp g1
                  have a2 := nn dp g2
                  have a3 := nn n9 g3
                  simp only [List.map_cons, e1, e2]
                  have hwd := hv
                  refine va_copyi hx hb (by rw [hml]; exact hl.1.symm) hown (hts _ (wC_inv hv rfl)) (hts _ hcarry.1) (hts _ hcarry.2.1) (hts _ hcarry.2.2.1) hK hP (hD σ) hS p9 p8 p9 p8 (by rw [wW_at hp9, wE_arr hsc]) (by rw [wW_at hp8, wE_arr hsd]) (by rw [tysW_at hp9, tyc_arr hsc]) (by rw [tysW_at hp8, tyc_arr hsd]) rfl a1.1 a2.1 a3.1 (by omega) (by omega) (fun _ _ => rfl) (by omega) ?_ hdec (fun H1 locs1 hP1 hD1 hS1 => ?_)
                  · rw [cv_sum hF]
                    have e9 : nativeFrameWords "java/lang/System" "arraycopy" 5 = 7 := by decide +kernel
                    omega
                  · rw [wW_set hnd hp8 (σ' := cpy σ c9 d9 sp dp n9) (by rw [wE_arr hsd]; unfold cpy; rw [if_pos rfl]) (fun c' hc' => if_neg hc')] at hP1
                    exact ih _ _ _ _ h (sto ⟨_, hsd⟩ (fun c2 h2 => if_neg h2)) H1 locs1 ls _ hnx hP1 hS1 hl
                · exact (no_inv h).elim
              · rw [if_neg hsum] at h; exact (no_inv h).elim
            · exact (no_inv h).elim
          · rw [if_neg hd3] at h hk
            have hml2 : c.maxLocals = ls.size := by rw [hml]; exact hl.1.symm
            by_cases hd4 : d = 4
            · rw [if_pos hd4] at h hk
              rw [Bool.and_eq_true] at hk
              obtain ⟨hk, hv⟩ := hk
              obtain ⟨rfl, hnx⟩ := ftC_inv hk
              replace h := p1_inv h; obtain ⟨x9, rs, rfl, h⟩ := h
              by_cases hsum : (rs.map fun v => v.category).sum ≤ 8
              · rw [if_pos hsum] at h
                exact va_mabs hx hb hml2 hown (hts _ (wC_inv hv rfl)) (hts _ hcarry.2.2.2.2.1.1) (hts _ hcarry.2.2.2.1) (hts _ hcarry.2.2.2.2.1.2) (by omega) (by rw [cv_sum hF]; omega) hcc hss hdec (go1 h hnx)
              · rw [if_neg hsum] at h; exact (no_inv h).elim
            rw [if_neg hd4] at h hk
            by_cases hd5 : d = 5
            · rw [if_pos hd5] at h hk
              rw [Bool.and_eq_true] at hk
              obtain ⟨hk, hv⟩ := hk
              obtain ⟨rfl, hnx⟩ := ftC_inv hk
              replace h := p2_inv h; obtain ⟨x9, y9, rs, rfl, h⟩ := h
              by_cases hsum : (rs.map fun v => v.category).sum ≤ 8
              · rw [if_pos hsum] at h
                exact va_mmax hx hb hml2 hown (hts _ (wC_inv hv rfl)) (hts _ hcarry.2.2.2.2.2.1.1) (hts _ hcarry.2.2.2.1) (hts _ hcarry.2.2.2.2.2.1.2) (by omega) (by rw [cv_sum hF]; omega) hcc hss hdec (go1 h hnx)
              · rw [if_neg hsum] at h; exact (no_inv h).elim
            rw [if_neg hd5] at h hk
            by_cases hd6 : d = 6
            · rw [if_pos hd6] at h hk
              rw [Bool.and_eq_true] at hk
              obtain ⟨hk, hv⟩ := hk
              obtain ⟨rfl, hnx⟩ := ftC_inv hk
              replace h := p2_inv h; obtain ⟨x9, y9, rs, rfl, h⟩ := h
              by_cases hsum : (rs.map fun v => v.category).sum ≤ 8
              · rw [if_pos hsum] at h
                exact va_mmin hx hb hml2 hown (hts _ (wC_inv hv rfl)) (hts _ hcarry.2.2.2.2.2.2.1) (hts _ hcarry.2.2.2.1) (hts _ hcarry.2.2.2.2.2.2.2) (by omega) (by rw [cv_sum hF]; omega) hcc hss hdec (go1 h hnx)
              · rw [if_neg hsum] at h; exact (no_inv h).elim
            rw [if_neg hd6] at h hk
            by_cases hd : d = 1 ∨ d = 2
            · rw [if_pos hd] at h hk
              rw [Bool.and_eq_true] at hk
              obtain ⟨hk, hcall⟩ := hk
              obtain ⟨rfl, hnx⟩ := ftC_inv hk
              have hrows' : ∀ r1 : Rs, (∀ c', Sh c' = none → r1.2.2 c' = σ c') → (y = kLaw → Rows r1.2.2 xx LL) := fun r1 hr1 hy => by
                have n1 : ∀ c', 49 ≤ c' → Sh c' = none := fun c' h9 => by
                  cases hs : Sh c' with
                  | none => rfl
                  | some z => have := (hSh c' z hs).2; omega
                obtain ⟨h1, h2⟩ := hrows hy
                exact ⟨by rw [hr1 99 (n1 99 (by omega))]; exact h1, by rw [hr1 98 (n1 98 (by omega))]; exact h2⟩
              replace h := popG_inv h; obtain ⟨xs, rs, hlen, rfl, hsum, hwide, h⟩ := h
              have h : ((run Sh n a k 0 (ent a xs.reverse) [] σ).bind fun r1 => run Sh n y k (i + 1) L (pushR e' r1 rs) r1.2.2) = some r := h
              obtain ⟨r1, hr1, h⟩ := Option.bind_eq_some_iff.mp h
              exact dc_invoke (y := y) (k' := k) C0' hRf hcall (fun _ _ => ⟨fun z => by omega, fun _ => rfl⟩) (fun t' ht' hlt hal => hIH n a k t' ht' hlt hal _ _ _ hr1 hwide) hlen hsum (Or.inr ⟨hd, hdec⟩) (fun z => by omega) hP hS hl.1
                (fun H1 locs1 hP1 hS1 => ih _ _ _ _ h (hrows' r1 (run_rows n _ _ _ _ _ _ _ hr1)) H1 locs1 ls _ hnx hP1 hS1 hl)
            · rw [if_neg hd] at h; exact (no_inv h).elim
        case iadd =>
          dsimp only at h hk
          obtain ⟨rfl, hnx⟩ := ftC_inv hk
          replace h := p2_inv h; obtain ⟨x9, y9, rs, rfl, h⟩ := h
          exact lv_iadd hx hb hdec (go1 h hnx)
        case isub =>
          dsimp only at h hk
          obtain ⟨rfl, hnx⟩ := ftC_inv hk
          replace h := p2_inv h; obtain ⟨x9, y9, rs, rfl, h⟩ := h
          exact lv_isub hx hb hdec (go1 h hnx)
        case imul =>
          dsimp only at h hk
          obtain ⟨rfl, hnx⟩ := ftC_inv hk
          replace h := p2_inv h; obtain ⟨x9, y9, rs, rfl, h⟩ := h
          exact lv_imul hx hb hdec (go1 h hnx)
        case iand =>
          dsimp only at h hk
          obtain ⟨rfl, hnx⟩ := ftC_inv hk
          replace h := p2_inv h; obtain ⟨x9, y9, rs, rfl, h⟩ := h
          exact lv_iand hx hb hdec (go1 h hnx)
        case ior =>
          dsimp only at h hk
          obtain ⟨rfl, hnx⟩ := ftC_inv hk
          replace h := p2_inv h; obtain ⟨x9, y9, rs, rfl, h⟩ := h
          exact lv_ior hx hb hdec (go1 h hnx)
        case ixor =>
          dsimp only at h hk
          obtain ⟨rfl, hnx⟩ := ftC_inv hk
          replace h := p2_inv h; obtain ⟨x9, y9, rs, rfl, h⟩ := h
          exact lv_ixor hx hb hdec (go1 h hnx)
        case ishl =>
          dsimp only at h hk
          obtain ⟨rfl, hnx⟩ := ftC_inv hk
          replace h := p2_inv h; obtain ⟨x9, y9, rs, rfl, h⟩ := h
          exact lv_ishl hx hb hdec (go1 h hnx)
        case ishr =>
          dsimp only at h hk
          obtain ⟨rfl, hnx⟩ := ftC_inv hk
          replace h := p2_inv h; obtain ⟨x9, y9, rs, rfl, h⟩ := h
          exact lv_ishr hx hb hdec (go1 h hnx)
        case iushr =>
          dsimp only at h hk
          obtain ⟨rfl, hnx⟩ := ftC_inv hk
          replace h := p2_inv h; obtain ⟨x9, y9, rs, rfl, h⟩ := h
          exact lv_iushr hx hb hdec rfl (go1 h hnx)
        case idiv =>
          dsimp only at h hk
          obtain ⟨rfl, hnx⟩ := ftC_inv hk
          replace h := p2_inv h; obtain ⟨x9, y9, rs, rfl, h⟩ := h
          rcases gif_inv h with ⟨-, h⟩ | ⟨hz, h⟩
          · cases h
          · exact lv_idiv hx hb hdec hz (go1 h hnx)
        case irem =>
          dsimp only at h hk
          obtain ⟨rfl, hnx⟩ := ftC_inv hk
          replace h := p2_inv h; obtain ⟨x9, y9, rs, rfl, h⟩ := h
          rcases gif_inv h with ⟨-, h⟩ | ⟨hz, h⟩
          · cases h
          · exact lv_irem hx hb hdec hz (go1 h hnx)
        case ineg =>
          dsimp only at h hk
          obtain ⟨rfl, hnx⟩ := ftC_inv hk
          replace h := p1_inv h; obtain ⟨x9, rs, rfl, h⟩ := h
          exact lv_ineg hx hb hdec (go1 h hnx)
        case ladd =>
          dsimp only at h hk
          obtain ⟨rfl, hnx⟩ := ftC_inv hk
          replace h := q2_inv h; obtain ⟨x9, y9, rs, rfl, h⟩ := h
          exact lv_ladd hx hb hdec (go1 h hnx)
        case lsub =>
          dsimp only at h hk
          obtain ⟨rfl, hnx⟩ := ftC_inv hk
          replace h := q2_inv h; obtain ⟨x9, y9, rs, rfl, h⟩ := h
          exact lv_lsub hx hb hdec (go1 h hnx)
        case lmul =>
          dsimp only at h hk
          obtain ⟨rfl, hnx⟩ := ftC_inv hk
          replace h := q2_inv h; obtain ⟨x9, y9, rs, rfl, h⟩ := h
          exact lv_lmul hx hb hdec (go1 h hnx)
        case lor =>
          dsimp only at h hk
          obtain ⟨rfl, hnx⟩ := ftC_inv hk
          replace h := q2_inv h; obtain ⟨x9, y9, rs, rfl, h⟩ := h
          exact lv_lor hx hb hdec (go1 h hnx)
        case lcmp =>
          dsimp only at h hk
          obtain ⟨rfl, hnx⟩ := ftC_inv hk
          replace h := q2_inv h; obtain ⟨x9, y9, rs, rfl, h⟩ := h
          exact W.lcmp hx hb hdec (go1 h hnx)
        case ldiv =>
          dsimp only at h hk
          obtain ⟨rfl, hnx⟩ := ftC_inv hk
          replace h := q2_inv h; obtain ⟨x9, y9, rs, rfl, h⟩ := h
          rcases gif_inv h with ⟨-, h⟩ | ⟨hz, h⟩
          · cases h
          · exact lv_ldiv hx hb hdec hz (go1 h hnx)
        case lrem =>
          dsimp only at h hk
          obtain ⟨rfl, hnx⟩ := ftC_inv hk
          replace h := q2_inv h; obtain ⟨x9, y9, rs, rfl, h⟩ := h
          rcases gif_inv h with ⟨-, h⟩ | ⟨hz, h⟩
          · cases h
          · exact lv_lrem hx hb hdec hz (go1 h hnx)
        case lshl =>
          dsimp only at h hk
          obtain ⟨rfl, hnx⟩ := ftC_inv hk
          replace h := q3_inv h; obtain ⟨x9, y9, rs, rfl, h⟩ := h
          exact lv_lshl hx hb hdec rfl (go1 h hnx)
        case i2l =>
          dsimp only at h hk
          obtain ⟨rfl, hnx⟩ := ftC_inv hk
          replace h := p1_inv h; obtain ⟨x9, rs, rfl, h⟩ := h
          exact lv_i2l hx hb hdec rfl (go1 h hnx)
        case i2b =>
          dsimp only at h hk
          obtain ⟨rfl, hnx⟩ := ftC_inv hk
          replace h := p1_inv h; obtain ⟨x9, rs, rfl, h⟩ := h
          exact lv_i2b hx hb hdec rfl (go1 h hnx)
        case i2s =>
          dsimp only at h hk
          obtain ⟨rfl, hnx⟩ := ftC_inv hk
          replace h := p1_inv h; obtain ⟨x9, rs, rfl, h⟩ := h
          exact lv_i2s hx hb hdec rfl (go1 h hnx)
        case i2c =>
          dsimp only at h hk
          obtain ⟨rfl, hnx⟩ := ftC_inv hk
          replace h := p1_inv h; obtain ⟨x9, rs, rfl, h⟩ := h
          exact lv_i2c hx hb hdec rfl (go1 h hnx)
        case l2i =>
          dsimp only at h hk
          obtain ⟨rfl, hnx⟩ := ftC_inv hk
          replace h := q1_inv h; obtain ⟨x9, rs, rfl, h⟩ := h
          exact lv_l2i hx hb hdec rfl (go1 h hnx)
        case dup =>
          dsimp only at h hk
          obtain ⟨rfl, hnx⟩ := ftC_inv hk
          replace h := d1_inv h; obtain ⟨x9, rs, rfl, hc, h⟩ := h
          exact lv_dup hx hb hdec (by rw [cv_cat hF]; exact hc) (go1 h hnx)
        case dup2 =>
          dsimp only at h hk
          obtain ⟨rfl, hnx⟩ := ftC_inv hk
          replace h := d1_inv h; obtain ⟨x9, rs, rfl, hc, h⟩ := h
          replace h := d1_inv h; obtain ⟨x8, rs, rfl, hc2, h⟩ := h
          exact lv_dup2_11 hx hb hdec (by rw [cv_cat hF]; exact hc) (by rw [cv_cat hF]; exact hc2) (go1 h hnx)
        case pop =>
          dsimp only at h hk
          obtain ⟨rfl, hnx⟩ := ftC_inv hk
          replace h := d1_inv h; obtain ⟨x9, rs, rfl, hc, h⟩ := h
          exact lv_pop hx hb hdec (by rw [cv_cat hF]; exact hc) (go1 h hnx)
        case goto off =>
          dsimp only at h hk
          rw [Bool.and_eq_true, decide_eq_true_eq] at hk
          obtain ⟨rfl, hk⟩ := hk
          exact lv_goto hx hb hdec (mAt_qo hk).symm (go1 h rfl)
        case ifCond o off =>
          dsimp only at h hk
          rw [Bool.and_eq_true] at hk
          obtain ⟨hk, htg⟩ := hk
          obtain ⟨rfl, hnx⟩ := ftC_inv hk
          have htg := (mAt_qo htg).symm
          replace h := p1_inv h; obtain ⟨x9, rs, rfl, h⟩ := h
          cases o
          · dsimp only at h
            rcases gif_inv h with ⟨hz, h⟩ | ⟨hz, h⟩
            · exact lv_if_eq hx hb hdec htg (fun _ => go1 h rfl) (fun z => absurd hz z)
            · exact lv_if_eq hx hb hdec htg (fun z => absurd z hz) (fun _ => go1 h hnx)
          · dsimp only at h
            rcases gif_inv h with ⟨hz, h⟩ | ⟨hz, h⟩
            · exact lv_if_ne hx hb hdec htg (fun z => absurd hz z) (fun _ => go1 h hnx)
            · exact lv_if_ne hx hb hdec htg (fun _ => go1 h rfl) (fun z => absurd z hz)
          · dsimp only at h
            rcases gif_inv h with ⟨hz, h⟩ | ⟨hz, h⟩
            · exact lv_if_lt hx hb hdec htg (fun _ => go1 h rfl) (fun z => absurd hz z)
            · exact lv_if_lt hx hb hdec htg (fun z => absurd z hz) (fun _ => go1 h hnx)
          · dsimp only at h
            rcases gif_inv h with ⟨hz, h⟩ | ⟨hz, h⟩
            · exact lv_if_ge hx hb hdec htg (fun z => absurd z (lt_not_ge hz)) (fun _ => go1 h hnx)
            · exact lv_if_ge hx hb hdec htg (fun _ => go1 h rfl) (fun z => absurd (not_lt_ge hz) z)
          · dsimp only at h
            rcases gif_inv h with ⟨hz, h⟩ | ⟨hz, h⟩
            · exact lv_if_gt hx hb hdec htg (fun _ => go1 h rfl) (fun z => absurd hz z)
            · exact lv_if_gt hx hb hdec htg (fun z => absurd z hz) (fun _ => go1 h hnx)
          · dsimp only at h
            rcases gif_inv h with ⟨hz, h⟩ | ⟨hz, h⟩
            · exact lv_if_le hx hb hdec htg (fun z => absurd z (lt_not_ge hz)) (fun _ => go1 h hnx)
            · exact lv_if_le hx hb hdec htg (fun _ => go1 h rfl) (fun z => absurd (not_lt_ge hz) z)
        case if_icmp o off =>
          dsimp only at h hk
          rw [Bool.and_eq_true] at hk
          obtain ⟨hk, htg⟩ := hk
          obtain ⟨rfl, hnx⟩ := ftC_inv hk
          have htg := (mAt_qo htg).symm
          replace h := p2_inv h; obtain ⟨x9, y9, rs, rfl, h⟩ := h
          cases o
          · dsimp only at h
            rcases gif_inv h with ⟨hz, h⟩ | ⟨hz, h⟩
            · exact lv_icmp_eq hx hb hdec htg (fun _ => go1 h rfl) (fun z => absurd hz z)
            · exact lv_icmp_eq hx hb hdec htg (fun z => absurd z hz) (fun _ => go1 h hnx)
          · dsimp only at h
            rcases gif_inv h with ⟨hz, h⟩ | ⟨hz, h⟩
            · exact lv_icmp_ne hx hb hdec htg (fun z => absurd hz z) (fun _ => go1 h hnx)
            · exact lv_icmp_ne hx hb hdec htg (fun _ => go1 h rfl) (fun z => absurd z hz)
          · dsimp only at h
            rcases gif_inv h with ⟨hz, h⟩ | ⟨hz, h⟩
            · exact lv_icmp_lt hx hb hdec htg (fun _ => go1 h rfl) (fun z => absurd hz z)
            · exact lv_icmp_lt hx hb hdec htg (fun z => absurd z hz) (fun _ => go1 h hnx)
          · dsimp only at h
            rcases gif_inv h with ⟨hz, h⟩ | ⟨hz, h⟩
            · exact lv_icmp_ge hx hb hdec htg (fun z => absurd z (lt_not_ge hz)) (fun _ => go1 h hnx)
            · exact lv_icmp_ge hx hb hdec htg (fun _ => go1 h rfl) (fun z => absurd (not_lt_ge hz) z)
          · dsimp only at h
            rcases gif_inv h with ⟨hz, h⟩ | ⟨hz, h⟩
            · exact lv_icmp_gt hx hb hdec htg (fun _ => go1 h rfl) (fun z => absurd hz z)
            · exact lv_icmp_gt hx hb hdec htg (fun z => absurd z hz) (fun _ => go1 h hnx)
          · dsimp only at h
            rcases gif_inv h with ⟨hz, h⟩ | ⟨hz, h⟩
            · exact lv_icmp_le hx hb hdec htg (fun z => absurd z (lt_not_ge hz)) (fun _ => go1 h hnx)
            · exact lv_icmp_le hx hb hdec htg (fun _ => go1 h rfl) (fun z => absurd (not_lt_ge hz) z)
        case tableswitch dflt lo hi offs =>
          dsimp only at h hk
          rw [Bool.and_eq_true, Bool.and_eq_true, decide_eq_true_eq] at hk
          obtain ⟨⟨htd, htc⟩, hhi⟩ := hk
          replace h := p1_inv h; obtain ⟨x9, rs, rfl, h⟩ := h
          rcases tsC_swc ts offs.toList 0 htc h with ⟨n9, off9, t9, g1, g2, g3, g4⟩ | ⟨g1, g2⟩
          · have hn9 : n9 < offs.size := by
              have := (List.getElem?_eq_some_iff.mp g1).1
              simpa using this
            rw [Nat.zero_add] at g2
            refine lv_tableIn (off := off9) (tgt := qo y t9) hx hb hdec (by omega) (by omega) ?_ g3.symm (go1 g4 rfl)
            rw [show (x9.toInt - lo).toNat = n9 by omega, ← Array.getElem?_toList]
            exact g1
          · refine lv_tableOut (tgt := qo y a) hx hb hdec ?_ (mAt_qo htd).symm (go1 g2 rfl)
            by_cases h9 : x9.toInt < lo
            · exact Or.inl h9
            · refine Or.inr ?_
              by_cases h8 : hi < x9.toInt
              · exact h8
              · exfalso
                have h7 := g1 (x9.toInt - lo).toNat (by simp; omega)
                rw [Nat.zero_add] at h7
                exact h7 (by omega)
        case lookupswitch dflt ps =>
          dsimp only at h hk
          rw [Bool.and_eq_true, Bool.and_eq_true] at hk
          obtain ⟨⟨htd, htc⟩, hinc⟩ := hk
          replace h := p1_inv h; obtain ⟨x9, rs, rfl, h⟩ := h
          obtain ⟨t9, g1, g2⟩ := lsC_swc (mAt_qo htd) ts ps.toList htc h
          exact lv_lookup (tgt := qo y t9) hx hb hdec hinc rfl g1.symm (go1 g2 rfl)
        case ireturn =>
          dsimp only at h hk
          rw [Bool.and_eq_true, decide_eq_true_eq] at hk
          obtain ⟨rfl, hk⟩ := hk
          split at h
          · rename_i x9
            have key : nok a x9 = true ∧ (x9, 0, σ) = r := by
              by_cases ha : a = 0
              · rw [if_pos ha] at h
                have h : some ((x9, 0, σ) : Rs) = some r := h
                exact ⟨by rw [ha]; rfl, Option.some.inj h⟩
              · rw [if_neg ha] at h
                rcases gif_inv h with ⟨hz, h⟩ | ⟨-, h⟩
                · have h : some ((x9, 0, σ) : Rs) = some r := h
                  exact ⟨hz, Option.some.inj h⟩
                · exact (no_inv h).elim
            obtain ⟨hn9, rfl⟩ := key
            exact hret H locs ls q' _ hP hS (Or.inl ⟨a, hdec, hk, hn9, rfl⟩)
          · exact (no_inv h).elim
        case lreturn =>
          dsimp only at h hk
          rw [Bool.and_eq_true, decide_eq_true_eq, decide_eq_true_eq] at hk
          obtain ⟨rfl, hk⟩ := hk
          split at h
          · have h : some ((0, _, σ) : Rs) = some r := h
            obtain rfl := Option.some.inj h
            exact hret H locs ls q' _ hP hS (Or.inr (Or.inl ⟨hdec, hk, rfl⟩))
          · exact (no_inv h).elim
        case return_ =>
          dsimp only at h hk
          rw [Bool.and_eq_true, decide_eq_true_eq, decide_eq_true_eq] at hk
          obtain ⟨rfl, hk⟩ := hk
          split at h
          · have h : some ((0, 0, σ) : Rs) = some r := h
            obtain rfl := Option.some.inj h
            exact hret H locs ls q' _ hP hS (Or.inr (Or.inr ⟨hdec, hk, rfl⟩))
          · exact (no_inv h).elim
        all_goals exact (no_inv h).elim
end WALK
