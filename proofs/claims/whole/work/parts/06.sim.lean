/-! THE STEP: what the pure machine does, the machine does -/
theorem zb_cases {x : Int32} (h : zb x = true) : x = 0 ∨ x = 1 := by
  unfold zb at h
  rw [Bool.or_eq_true, beq_iff_eq, beq_iff_eq] at h
  exact h
theorem inb_in {x : Int32} {n : Nat} (h : inb x n = true) : vp_in x n := by
  unfold inb at h
  rw [Bool.and_eq_true, decide_eq_true_eq, decide_eq_true_eq] at h
  exact vp_in_iff.mpr h
theorem fldC_inv {own : String} {idx p a b d : Nat} {wr : Bool} (h : fldC own idx p a b wr d = true) : ∃ C T N, nth qcl a = some (C, T, N) ∧ b < N ∧ (T b).1 = C ∧ Jvm.Cond.fieldLink own idx C (T b).2.1 (T b).2.2.1 ∈ TT ∧
    (wr = true → (T b).2.2.2 = false ∧ (T b).2.2.1 = if d = 0 then "I" else "Z") := by
  unfold fldC at h
  split at h
  · rename_i C T N hq
    simp only [Bool.and_eq_true, decide_eq_true_eq, Bool.or_eq_true, Bool.not_eq_true'] at h
    obtain ⟨⟨⟨h1, h2⟩, h3⟩, h4⟩ := h
    refine ⟨C, T, N, hq, h1, h2, wC_inv h3 rfl, fun hw => ?_⟩
    rcases h4 with h4 | h4
    · rw [hw] at h4; cases h4
    · exact h4
  · cases h
theorem wE_obj {G : Geo} {Sh : Nat → Option Cs} {σ : Sto} {c a : Nat} {ks : List (Option Nat)} (h : Sh c = some (.inl (a, ks))) : wE G Sh σ c = .inr (a, wF G (σ c) 0 ks) := by
  unfold wE; rw [h]
theorem wE_arr {G : Geo} {Sh : Nat → Option Cs} {σ : Sto} {c n : Nat} {z : Bool} (h : Sh c = some (.inr (z, n))) : wE G Sh σ c = .inl (G.2.1 c, n, .inl (σ c)) := by
  unfold wE; rw [h]
theorem tyc_arr {Sh : Nat → Option Cs} {c n : Nat} {z : Bool} (h : Sh c = some (.inr (z, n))) : tyc Sh c = if z then .boolean else .int := by
  unfold tyc; rw [h]; cases z <;> rfl
theorem tsC_swc {y q : Nat} {lo : Int} {K : KT} {K' : Nat → List Value → List Value → Sto → Option Rs} {i0 : Nat} {L0 L st : List Value} {σ : Sto} {a : Nat} {r : Rs} {x : Int32} : ∀ (ts : List (Int32 × Nat)) (offs : List Int) (j : Nat), tsC y q lo j ts offs = true →
    fold1 K K' i0 L0 (swc x L st σ a ts) = some r → (∃ (n : Nat) (off : Int) (t : Nat), offs[n]? = some off ∧ x.toInt = lo + ((j + n : Nat) : Int) ∧ (qo y t : Int) = q + off ∧ K' t L st σ = some r) ∨ ((∀ n : Nat, n < offs.length → x.toInt ≠ lo + ((j + n : Nat) : Int)) ∧ K' a L st σ = some r) := by
  intro ts
  induction ts with
  | nil =>
    intro offs j h hf
    cases offs with
    | nil => exact Or.inr ⟨fun n hn => by simp at hn, hf⟩
    | cons o offs => cases h
  | cons t ts ih =>
    intro offs j h hf
    cases offs with
    | nil => cases h
    | cons o offs =>
      unfold tsC at h
      simp only [Bool.and_eq_true, decide_eq_true_eq] at h
      obtain ⟨⟨h1, h2⟩, h3⟩ := h
      rcases gif_inv hf with ⟨hx, hr⟩ | ⟨hx, hr⟩
      · exact Or.inl ⟨0, o, t.2, rfl, by rw [hx, h1]; simp, mAt_qo h2, hr⟩
      · rcases ih offs (j + 1) h3 hr with ⟨n, off, t', g1, g2, g3, g4⟩ | ⟨g1, g2⟩
        · exact Or.inl ⟨n + 1, off, t', g1, by rw [g2]; congr 2; omega, g3, g4⟩
        · refine Or.inr ⟨fun n hn => ?_, g2⟩
          cases n with
          | zero => exact fun e => hx (Int32.toInt_inj.mp (by rw [h1, e]; simp))
          | succ n =>
            have := g1 n (by simpa using hn)
            rw [show j + 1 + n = j + (n + 1) by omega] at this
            exact this
theorem lsC_swc {y q : Nat} {K : KT} {K' : Nat → List Value → List Value → Sto → Option Rs} {i0 : Nat} {L0 L st : List Value} {σ : Sto} {a : Nat} {r : Rs} {x : Int32} {dflt : Int} (hd : (qo y a : Int) = q + dflt) : ∀ (ts : List (Int32 × Nat)) (ps : List (Int × Int)), lsC y q ts ps = true →
    fold1 K K' i0 L0 (swc x L st σ a ts) = some r → ∃ t, (qo y t : Int) = q + Op.lookupswitch.offset ps dflt x.toInt ∧ K' t L st σ = some r := by
  intro ts
  induction ts with
  | nil =>
    intro ps h hf
    cases ps with
    | nil => exact ⟨a, hd, hf⟩
    | cons o ps => cases h
  | cons t ts ih =>
    intro ps h hf
    cases ps with
    | nil => cases h
    | cons o ps =>
      unfold lsC at h
      simp only [Bool.and_eq_true, decide_eq_true_eq] at h
      obtain ⟨⟨h1, h2⟩, h3⟩ := h
      obtain ⟨o1, o2⟩ := o
      rw [Op.lookupswitch.offset_cons]
      rcases gif_inv hf with ⟨hx, hr⟩ | ⟨hx, hr⟩
      · rw [if_pos (by rw [hx, h1])]
        exact ⟨t.2, mAt_qo h2, hr⟩
      · rw [if_neg (fun e => hx (Int32.toInt_inj.mp (by rw [h1]; exact e.symm)))]
        exact ih ps h3 hr
section SIM
variable {p : Program} {l : Launch} {e : Env} {R : Room} {s : State} {m : MethodId} {args : Array Value} {below : List Frame} {meth : Method} {c : Code} {cells slots : Nat} {Q : State → Prop}
/-- the script, which the law alone reads -/
def Scr (s : State) (G : Geo) (A : Nat → Prop) (xx : Nat → Int32) (LL : Nat) : Prop := va_X (G.1 99) LL xx s s.heap ∧ G.1 99 < s.heap.size ∧ ¬ A (G.1 99) ∧ LL < 2 ^ 31
def Rows (σ : Sto) (xx : Nat → Int32) (LL : Nat) : Prop := σ 99 = xx ∧ σ 98 0 = nI LL
def RetH (p : Program) (l : Launch) (e : Env) (R : Room) (s : State) (m : MethodId) (args : Array Value) (below : List Frame) (meth : Method) (c : Code) (cells slots : Nat) (Q : State → Prop) (t : MI) (G : Geo) (Sh : Nat → Option Cs) (cs : List Nat) (A : Nat → Prop) (r : Rs) : Prop :=
  ∀ (H : Heap) (locs : List Loc) (ls : Array Slot) (q : Nat) (st : List Value), va_P G.2.2.1 qcl (wW G Sh cs r.2.2) H → va_S A s.heap H locs →
    ((∃ a, decode t.2.1 q = .ok (.ireturn, 1) ∧ narK t.2.2.2.1 a = true ∧ nok a r.1 = true ∧ st = [.int r.1]) ∨ (decode t.2.1 q = .ok (.lreturn, 1) ∧ t.2.2.2.1 = some .long ∧ st = [.long r.2.1]) ∨ (decode t.2.1 q = .ok (.return_, 1) ∧ t.2.2.2.1 = none ∧ st = [])) →
    W p l e R s m args below meth c H locs cells slots Q (F0 m q ls st)
/-- what a walk from here on gives -/
def Goes1 (p : Program) (l : Launch) (e : Env) (R : Room) (s : State) (m : MethodId) (args : Array Value) (below : List Frame) (meth : Method) (c : Code) (cells slots : Nat) (Q : State → Prop) (G : Geo) (Sh : Nat → Option Cs) (cs : List Nat) (A : Nat → Prop) (nL : Nat) (y i : Nat) (L st : List Value) (σ : Sto) : Prop :=
  ∀ (H : Heap) (locs : List Loc) (ls : Array Slot) (q : Nat), qo y i = q → va_P G.2.2.1 qcl (wW G Sh cs σ) H → va_S A s.heap H locs → hL G ls nL L → W p l e R s m args below meth c H locs cells slots Q (F0 m q ls (st.map (cv G)))
theorem dc_invoke {t : MI} {G : Geo} {Sh : Nat → Option Cs} {cs : List Nat} {A : Nat → Prop} {y k : Nat} (C0 : Ctx p s m args c R t G Sh cs A cells slots) (hRf : hgt t k ≤ R.frames ∧ 64 * hgt t k ≤ R.locals)
    {a b d e' f p' idx k' : Nat} {ts : List (Int32 × Nat)} (hc : callC t t.1.cls idx a b d e' f p' ts = true) {xs rest : List Value} {σ : Sto} {r1 : Rs}
    (hk' : ∀ t', mi? a = some t' → (d = 0 → ts ≠ [] → k' = k + 1 ∧ k < 6) ∧ ((d ≠ 0 ∨ ts = []) → k' = k))
    (hM : ∀ t', mi? a = some t' → hgt t' k' < hgt t k → a ≠ kLaw → MetP l G Sh cs a k' xs.reverse σ r1) (hn : xs.length = b) (hsum : (rest.map fun v => v.category).sum ≤ 8)
    {q : Nat} (hdec : (d = 0 ∧ decode t.2.1 q = .ok (.invokevirtual idx, 3)) ∨ (d = 1 ∨ d = 2) ∧ decode t.2.1 q = .ok (.invokestatic idx, 3))
    (hrecv : d = 0 → ∃ (c : Nat) (s : List Value), xs.reverse = .ref c :: s ∧ ((f = 50 ∧ 100 ≤ c ∧ c < 112) ∨ (f ≠ 50 ∧ ∃ ks, Sh c = some (.inl (f, ks)))))
    {H : Heap} {locs : List Loc} {ls : Array Slot} (hP : va_P G.2.2.1 qcl (wW G Sh cs σ) H) (hS : va_S A s.heap H locs) (hl : ls.size = t.2.2.1)
    (kk : ∀ (H1 : Heap) (locs1 : List Loc), va_P G.2.2.1 qcl (wW G Sh cs r1.2.2) H1 → va_S A s.heap H1 locs1 → W p l e R s m args below meth c H1 locs1 cells slots Q (F0 m (q + 3) ls ((pushR e' r1 rest).map (cv G)))) :
    W p l e R s m args below meth c H locs cells slots Q (F0 m q ls ((xs ++ rest).map (cv G))) := by
  obtain ⟨hx, hb, hml, hown, hts, hK, hD, hA, hE, hnd, hSh, hcc, hss, hcls, hmok, hck⟩ := C0
  unfold callC at hc
  cases ht' : mi? a with
  | none => rw [ht'] at hc; cases hc
  | some t' =>
    rw [ht'] at hc
    simp only [Bool.and_eq_true, decide_eq_true_eq] at hc
    obtain ⟨⟨⟨hal, he'⟩, hlink⟩, hkind⟩ := hc
    obtain ⟨hcode, hstat, hinst, hini, hn1, hn2, hpar, hpl, hmx⟩ := hmok a t' ht' hal
    have hrank : hgt t' k' < hgt t k := by
      obtain ⟨h1, h2⟩ := hk' t' ht'
      unfold hgt
      by_cases hd : d = 0
      · rw [if_pos hd] at hkind
        simp only [Bool.and_eq_true, decide_eq_true_eq] at hkind
        cases ts with
        | nil =>
          have h3 := h2 (Or.inr rfl)
          have h4 := of_decide_eq_true hkind.2
          subst h3
          omega
        | cons z ts =>
          obtain ⟨h3, h4⟩ := h1 hd (fun h => by cases h)
          have h5 := of_decide_eq_true hkind.2
          subst h3
          omega
      · rw [if_neg hd] at hkind
        simp only [Bool.and_eq_true, decide_eq_true_eq] at hkind
        have h3 := h2 (Or.inl hd)
        have h4 := hkind.2
        subst h3
        omega
    have hM1 := hM t' ht' hrank hal t' ht' H.size
    have hsq : ∀ q, va_A (wW G Sh cs σ) H.size q → A q := by
      intro q hq
      rcases hq with ⟨k9, e9, h9⟩ | h9
      · exact (hD σ).2 k9 _ h9
      · exact hA q (Nat.le_trans hS.1 h9)
    have hpre : ∀ U : State, U.heap = H → s.WarmedH U.vm → PreW G Sh cs σ H.size U := fun U hU hW =>
      ⟨by rw [hU], by rw [hU]; exact hP, va_K.moved hW.alike hK, (hD σ).weaken (fun _ _ _ _ => trivial), hE.go (fun a h1 h2 => by rw [hU]; exact hS.2.1 a h1 h2) hW hsq⟩
    have hblind : FrameBlind (va_Pc (xs.reverse.map (cv G)) (PreW G Sh cs σ H.size)) := fun a U g mk q => by
      obtain ⟨q0, q1, qP, qK, qD, qE⟩ := q
      exact ⟨q0, q1, qP, va_K.moved (u := U) (U := U.calling g mk a) (Vm.Alike.refl U.vm) qK, qD, qE.blind⟩
    have hroom : (rmM (hgt t' k')).frames + 1 ≤ R.frames ∧ 8 + (t'.2.2.1 + 11) + (rmM (hgt t' k')).locals ≤ R.locals := by
      show hgt t' k' + 1 ≤ R.frames ∧ 8 + (t'.2.2.1 + 11) + 64 * hgt t' k' ≤ R.locals
      omega
    have hsum' : 2 * (F0 m q ls ((xs ++ rest).map (cv G))).monitorRoom + ((rest.map (cv G)).map fun v => v.category).sum ≤ 8 := lv_room (by rw [cv_sum hE.cat]; exact hsum)
    have hret : (retV e' r1).toList ++ rest.map (cv G) = (pushR e' r1 rest).map (cv G) := by
      match e' with
      | 0 => rfl
      | 1 => rfl
      | n + 2 => rfl
    have hff : ∀ q, (va_A (wW G Sh cs σ) H.size) q → A q := hsq
    rw [he'] at hret kk
    have kk' : ∀ (H1 : Heap) (locs1 : List Loc), va_P G.2.2.1 qcl (wW G Sh cs r1.2.2) H1 → va_S A s.heap H1 locs1 → W p l e R s m args below meth c H1 locs1 cells slots Q (F0 m (q + 3) ls ((retV (eOf t'.2.2.2.1) r1).toList ++ rest.map (cv G))) := by
      rw [hret]; exact kk
    rcases hdec with ⟨hd, hdec⟩ | ⟨hd, hdec⟩
    · -- a receiver's method
      rw [if_neg (by omega)] at hlink
      rw [if_pos hd] at hkind
      simp only [Bool.and_eq_true, decide_eq_true_eq] at hkind
      obtain ⟨⟨⟨hst, hbn⟩, hcl⟩, -⟩ := hkind
      obtain ⟨c9, s9, hxs, hrc⟩ := hrecv hd
      obtain ⟨hin, hse⟩ := hinst hst
      have hl1 := wC_inv hlink rfl
      have hlen : s9.length = t'.2.2.2.2.2.1 := by
        have h1 := congrArg List.length hxs
        simp at h1
        omega
      have e1 : (xs ++ rest).map (cv G) = (s9.map (cv G)).reverse ++ cr G c9 :: rest.map (cv G) := by
        have h2 : xs = (s9.reverse ++ [.ref c9]) := by
          have := congrArg List.reverse hxs
          simpa using this
        rw [h2]
        simp [cv]
      have hcr : ∃ a9 : Nat, cr G c9 = .ref a9 ∧ ∃ cell : Cell, H[a9]? = some cell ∧ cell.vm.isStatics = false ∧ s.vm.findClass t'.1.cls = some cell.cls := by
        rcases hrc with ⟨hf, h1, h2⟩ | ⟨hf, ks, hs9⟩
        · have hcs : t'.1.cls = "java/lang/String" := by
            unfold clsC at hcl
            rw [if_pos hf] at hcl
            exact of_decide_eq_true hcl
          refine ⟨G.2.2.2.1 (c9 - 100), ?_, ?_⟩
          · unfold cr
            rw [if_neg (by omega), if_pos (by omega)]
          · rw [hcs]
            exact vk_recv hE.1 (by omega) hS
        · unfold clsC at hcl
          rw [if_neg hf] at hcl
          cases hq : nth qcl f with
          | none => rw [hq] at hcl; cases hcl
          | some z =>
            rw [hq] at hcl
            have hz := of_decide_eq_true hcl
            obtain ⟨hin9, h49⟩ := hSh _ _ hs9
            obtain ⟨p9, hp9⟩ := List.mem_iff_getElem?.mp hin9
            refine ⟨G.1 c9, cr_lo (by omega), ?_⟩
            rw [hz]
            exact va_recv hK hP (by rw [← nth_get]; exact hq) (by rw [wW_at hp9, wE_obj hs9])
      obtain ⟨a9, hcr1, hcell⟩ := hcr
      rw [hcr1] at e1
      have hM2 : Met l t'.1 (wsM t') (rmM (hgt t' k')) (va_Pc (.ref a9 :: s9.map (cv G)) (PreW G Sh cs σ H.size)) (QW G Sh cs σ H.size (eOf t'.2.2.2.1) r1) 0 0 (va_A (wW G Sh cs σ) H.size) := by
        have h3 : xs.reverse.map (cv G) = .ref a9 :: s9.map (cv G) := by
          rw [hxs]
          show cr G c9 :: _ = _
          rw [hcr1]
        rw [← h3]
        exact hM1
      have hblind2 : FrameBlind (va_Pc (.ref a9 :: s9.map (cv G)) (PreW G Sh cs σ H.size)) := fun a U g mk q => by
        obtain ⟨q0, q1, qP, qK, qD, qE⟩ := q
        exact ⟨q0, q1, qP, va_K.moved (u := U) (U := U.calling g mk a) (Vm.Alike.refl U.vm) qK, qD, qE.blind⟩
      have hG : GoodIn TT (wsV t.1.cls idx t'.1.cls t'.1 (wsM t')) := fun w hw => by
        simp only [wsV, List.cons_append, List.nil_append, List.mem_cons] at hw
        rcases hw with rfl | rfl | rfl | rfl | hw
        · exact goodTT _ hl1
        · exact goodTT _ hin
        · exact goodTT _ hse
        · exact goodTT _ hini
        · exact goodM hcode w hw
      rw [e1]
      refine dc_call (e' := eOf t'.2.2.2.1) (r := r1) (va_runV (As := s9.map (cv G)) (rest := rest.map (cv G)) ⟨hx, hb, hml, hown, hts⟩ hM2 (cwV t'.2.2.2.2.2.1 hts hG (wsM_head t') rfl rfl ⟨rfl, hn1, hn2, hpar⟩ hroom) ⟨hblind2, hcell, fun U hU hW => ⟨rfl, hpre U hU hW⟩⟩ rfl (by simp [hlen]) hl rfl (by rw [← e1]; exact hsum') hdec ⟨hcc, hss⟩) hS (fun q _ h => hff q h) hff kk'
    · have hd0 : d ≠ 0 := by omega
      rw [if_neg hd0] at hkind
      simp only [Bool.and_eq_true, decide_eq_true_eq] at hkind
      obtain ⟨⟨hst, hbn⟩, -⟩ := hkind
      have hsta := hstat hst
      have e1 : (xs ++ rest).map (cv G) = (xs.reverse.map (cv G)).reverse ++ rest.map (cv G) := by simp
      rcases hd with hd | hd
      · rw [if_neg (by omega)] at hlink
        have hl1 := wC_inv hlink rfl
        have hG : GoodIn TT (va_wsS t.1.cls idx t'.1 (wsM t')) := fun w hw => by
          simp only [va_wsS, List.cons_append, List.nil_append, List.mem_cons] at hw
          rcases hw with rfl | rfl | rfl | hw
          · exact goodTT _ hl1
          · exact goodTT _ hsta
          · exact goodTT _ hini
          · exact goodM hcode w hw
        rw [e1]
        refine dc_call (e' := eOf t'.2.2.2.1) (r := r1) (va_runS (As := xs.reverse.map (cv G)) (rest := rest.map (cv G)) ⟨hx, hb, hml, hown, hts⟩ hM1 (va_cwS t'.2.2.2.2.2.1 hts hG (wsM_head t') rfl rfl ⟨hn1, hn2, hpar⟩ hroom) ⟨hblind, fun U hU hW => ⟨rfl, hpre U hU hW⟩⟩ rfl (by simp; omega) hl rfl (by rw [← e1]; exact hsum') hdec ⟨hcc, hss⟩) hS (fun q _ h => hff q h) hff kk'
      · rw [if_pos hd] at hlink
        simp only [Bool.and_eq_true, decide_eq_true_eq] at hlink
        obtain ⟨⟨hw1, hw2⟩, hw3⟩ := hlink
        have hnw : va_Nw (.methodLinkNest t.1.cls idx t'.1 "FerryForAlone") s := by
          rw [hw1, hw2, hw3]
          exact hE.2.2.2.2.1
        rw [e1]
        refine dc_call (e' := eOf t'.2.2.2.1) (r := r1) (va_runSN (As := xs.reverse.map (cv G)) (rest := rest.map (cv G)) ⟨hx, hb, hml, hown, hts⟩ hM1 ⟨va_cnB t'.2.2.2.2.2.1 hts (goodM hcode) (wsM_head t') rfl rfl hnw (hts _ hini) ⟨hn1, hn2, hpar⟩ hroom, hts _ hsta, trivial⟩ ⟨hblind, fun U hU hW => ⟨rfl, hpre U hU hW⟩⟩ rfl (by simp; omega) hl rfl (by rw [← e1]; exact hsum') hdec ⟨hcc, hss⟩) hS (fun q _ h => hff q h) hff kk'
end SIM
