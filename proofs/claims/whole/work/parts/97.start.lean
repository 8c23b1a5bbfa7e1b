theorem d_law_0 : decode code 0 = .ok (.new 7, 3) := by decide +kernel
theorem d_law_3 : decode code 3 = .ok (.dup, 1) := by decide +kernel
theorem d_law_4 : decode code 4 = .ok (.invokespecial 9, 3) := by decide +kernel
theorem d_law_7 : decode code 7 = .ok (.astore_n 1, 1) := by decide +kernel
theorem d_law_8 : decode code 8 = .ok (.new 10, 3) := by decide +kernel
theorem d_law_11 : decode code 11 = .ok (.dup, 1) := by decide +kernel
theorem d_law_12 : decode code 12 = .ok (.invokespecial 12, 3) := by decide +kernel
theorem d_law_15 : decode code 15 = .ok (.astore_n 2, 1) := by decide +kernel
theorem d_law_16 : decode code 16 = .ok (.iconst 0, 1) := by decide +kernel
theorem d_law_17 : decode code 17 = .ok (.istore_n 3, 1) := by decide +kernel
theorem d_law_18 : decode code 18 = .ok (.iload_n 3, 1) := by decide +kernel
theorem d_law_19 : decode code 19 = .ok (.aload_n 0, 1) := by decide +kernel
theorem d_law_20 : decode code 20 = .ok (.arraylength, 1) := by decide +kernel
theorem d_law_21 : decode code 21 = .ok (.bipush 7, 2) := by decide +kernel
def gL (gA gB : Nat → Nat) (b : Nat) : Nat → Nat := fun c => if c < 30 then gA c else if c < 49 then gB c else b
def kL (kA kB : Nat → ClassId) : Nat → ClassId := fun c => if c < 30 then kA c else kB c
def sL2 (σ τ : Sto) (L : Nat) (xs : Nat → Int32) : Sto := fun c => if c < 30 then σ c else if c < 49 then τ c else if c = 98 then (fun _ => nI L) else xs
theorem isAt_cg {σ τ : Sto} {l : List (Nat × Nat × Int32)} (h : isAt σ l = true) (hc : ∀ q ∈ l, τ q.1 = σ q.1) : isAt τ l = true :=
  List.all_eq_true.mpr fun q hq => by rw [hc q hq]; exact List.all_eq_true.mp h q hq
theorem atC_lt : ∀ q ∈ atC, q.1 < 30 := by decide
theorem atM_lt : ∀ q ∈ atM, 30 ≤ q.1 ∧ q.1 < 49 := by decide
theorem ref_c : ∀ c, c < 30 → (match ShF c with
  | some (.inl (_, ks)) => ks.all fun o => match o with
    | some c => decide (c < 30)
    | none => true
  | _ => true) = true := by decide +kernel
theorem ref_m : ∀ c, c < 49 → 30 ≤ c → (match ShF c with
  | some (.inl (_, ks)) => ks.all fun o => match o with
    | some c => decide (30 ≤ c) && decide (c < 49)
    | none => true
  | _ => true) = true := by decide +kernel
theorem wF_geo {G G' : Geo} {r : Nat → Int32} {f : Nat → Bool} (hf : ∀ c, f c = true → cr G c = cr G' c) : ∀ (ks : List (Option Nat)) (j : Nat), (ks.all fun o => match o with
    | some c => f c
    | none => true) = true → wF G r j ks = wF G' r j ks := by
  intro ks
  induction ks with
  | nil => intro j _; rfl
  | cons a ks ih =>
    intro j h
    rw [List.all_cons, Bool.and_eq_true] at h
    unfold wF
    rw [ih (j + 1) h.2]
    cases a with
    | none => rfl
    | some c => show cr G c :: _ = cr G' c :: _; rw [hf c h.1]
section CMB
variable {gA gB : Nat → Nat} {kA kB : Nat → ClassId} {D : va_G} {b L : Nat} {E : Geo} {xs : Nat → Int32} {σ τ : Sto}
abbrev gC (gA : Nat → Nat) (kA : Nat → ClassId) (D : va_G) (E : Geo) : Geo := (gA, kA, D, E.2.2.2.1, E.2.2.2.2.1, E.2.2.2.2.2)
theorem crA {c : Nat} (h : c < 30) : cr (gC (gL gA gB b) (kL kA kB) D E) c = cr (gC gA kA D E) c := by
  rw [cr_lo (by omega), cr_lo (by omega)]
  exact congrArg _ (if_pos h)
theorem crB {c : Nat} (h : 30 ≤ c) (h2 : c < 49) : cr (gC (gL gA gB b) (kL kA kB) D E) c = cr (gC gB kB D E) c := by
  rw [cr_lo (by omega), cr_lo (by omega)]
  exact congrArg _ ((if_neg (by omega)).trans (if_pos h2))
theorem sA {c : Nat} (h : c < 30) : sL2 σ τ L xs c = σ c := if_pos h
theorem sB2 {c : Nat} (h : 30 ≤ c) (h2 : c < 49) : sL2 σ τ L xs c = τ c := (if_neg (by omega)).trans (if_pos h2)
theorem wEA {c : Nat} (h : c < 30) : wE (gC (gL gA gB b) (kL kA kB) D E) ShF (sL2 σ τ L xs) c = wE (gC gA kA D E) ShC σ c := by
  have e : ShC c = ShF c := if_pos h
  have hr := ref_c c h
  unfold wE
  rw [e, sA h]
  split
  · rename_i ci ks hs
    rw [hs] at hr
    rw [wF_geo (f := fun c => decide (c < 30)) (fun c hc => crA (of_decide_eq_true hc)) ks 0 hr]
  · rw [show (gC (gL gA gB b) (kL kA kB) D E).2.1 c = (gC gA kA D E).2.1 c from if_pos h]
  · rfl
theorem wEB {c : Nat} (h : 30 ≤ c) (h2 : c < 49) : wE (gC (gL gA gB b) (kL kA kB) D E) ShF (sL2 σ τ L xs) c = wE (gC gB kB D E) ShM τ c := by
  have e : ShM c = ShF c := if_neg (by omega)
  have hr := ref_m c h2 h
  unfold wE
  rw [e, sB2 h h2]
  split
  · rename_i ci ks hs
    rw [hs] at hr
    rw [wF_geo (f := fun c => decide (30 ≤ c) && decide (c < 49)) (fun c hc => crB (of_decide_eq_true (Bool.and_eq_true_iff.mp hc).1) (of_decide_eq_true (Bool.and_eq_true_iff.mp hc).2)) ks 0 hr]
  · rw [show (gC (gL gA gB b) (kL kA kB) D E).2.1 c = (gC gB kB D E).2.1 c from if_neg (by omega)]
  · rfl
theorem csC_lt : ∀ c ∈ csC, c < 30 := by decide
theorem csM_in : ∀ c ∈ csM, 30 ≤ c ∧ c < 49 := by decide
theorem wW_both : wW (gC (gL gA gB b) (kL kA kB) D E) ShF (csC ++ csM) (sL2 σ τ L xs) = wW (gC gA kA D E) ShC csC σ ++ wW (gC gB kB D E) ShM csM τ := by
  unfold wW
  rw [List.map_append]
  refine congr (congrArg HAppend.hAppend ?_) ?_
  · refine List.map_congr_left fun c hc => ?_
    have h := csC_lt c hc
    rw [wEA h, show (gC (gL gA gB b) (kL kA kB) D E).1 c = (gC gA kA D E).1 c from if_pos h]
  · refine List.map_congr_left fun c hc => ?_
    have h := csM_in c hc
    rw [wEB h.1 h.2, show (gC (gL gA gB b) (kL kA kB) D E).1 c = (gC gB kB D E).1 c from (if_neg (by omega)).trans (if_pos h.2)]
theorem tysW_both : tysW (gC (gL gA gB b) (kL kA kB) D E) ShF (csC ++ csM) = tysW (gC gA kA D E) ShC csC ++ tysW (gC gB kB D E) ShM csM := by
  unfold tysW
  rw [List.map_append]
  refine congr (congrArg HAppend.hAppend ?_) ?_
  · refine List.map_congr_left fun c hc => ?_
    have h := csC_lt c hc
    have e : ShC c = ShF c := if_pos h
    rw [show (gC (gL gA gB b) (kL kA kB) D E).2.1 c = (gC gA kA D E).2.1 c from if_pos h]
    unfold tyc
    rw [e]
  · refine List.map_congr_left fun c hc => ?_
    have h := csM_in c hc
    have e : ShM c = ShF c := if_neg (by omega)
    rw [show (gC (gL gA gB b) (kL kA kB) D E).2.1 c = (gC gB kB D E).2.1 c from if_neg (by omega)]
    unfold tyc
    rw [e]
end CMB
set_option maxHeartbeats 16000000 in
set_option maxRecDepth 100000 in
/-- from the entry, for every script of at most 3584 ints, the law comes to its end with true -/
theorem whole_start {p : Program} {e : Env} {s : State} {m : MethodId} {below : List Frame} {meth : Method} {c : Code} (l : Launch) (hflags : l.flags = flags0) {b L : Nat} {xs : Nat → Int32} (hL : L ≤ 3584) (C0 : lw_At p s m meth c b L xs) : W p l e room_1 s m #[Value.ref b] below meth c s.heap [] 0 0 (lw_Z below #[Value.ref b] s) (entryFrame m ([Value.ref b] : List Value).toArray 4) := by
  obtain ⟨hx, hb, hr, hml, hown, hts, hX, hbl, hlocks, hgv⟩ := id C0
  have hA : ∀ q : Nat, s.heap.size ≤ q → (fun q : Nat => s.heap.size ≤ q) q := fun _ h => h
  have hbA : ¬ (fun q : Nat => s.heap.size ≤ q) b := Nat.not_le.mpr hbl
  have htT : ∀ w ∈ TT, w.before #[Value.ref b] s = true := fun w hw => hts w (List.mem_filter.mp hw).1
  obtain ⟨E, hE⟩ := l_ext hgv hts
  have hN : va_Nw nestT s := va_Nw.of rfl (hts _ (l_at (p := 83) rfl))
  obtain ⟨c0, iS0, hKn0⟩ := u_known (C := qR0) (T := qT0) (N := 9) (n := 9) htT i_q0 (htT (.instantiable qR0 9) (inTT (p := 110) rfl rfl))
  obtain ⟨c1, iS1, hKn1⟩ := u_known (C := qR1) (T := qT1) (N := 3) (n := 3) htT i_q1 (htT (.instantiable qR1 3) (inTT (p := 200) rfl rfl))
  obtain ⟨c2, iS2, hKn2⟩ := u_known (C := qR2) (T := qT2) (N := 12) (n := 12) htT i_q2 (htT (.instantiable qR2 12) (inTT (p := 144) rfl rfl))
  obtain ⟨c3, iS3, hKn3⟩ := u_known (C := qR3) (T := qT3) (N := 5) (n := 5) htT i_q3 (htT (.instantiable qR3 5) (inTT (p := 82) rfl rfl))
  obtain ⟨c4, iS4, hKn4⟩ := u_known (C := qR4) (T := qT4) (N := 9) (n := 9) htT i_q4 (htT (.instantiable qR4 9) (inTT (p := 74) rfl rfl))
  obtain ⟨c5, iS5, hKn5⟩ := u_known (C := qR5) (T := qT5) (N := 32) (n := 32) htT i_q5 (htT (.instantiable qR5 32) (inTT (p := 722) rfl rfl))
  obtain ⟨D, hKc⟩ : ∃ D : va_G, ∀ (k : Nat) (q : vw_C), qcl[k]? = some q → u_Kn s q.1 q.2.1 q.2.2 (D.1 k) (D.2 k) := by
    refine ⟨(fun k => match k with | 0 => c0 | 1 => c1 | 2 => c2 | 3 => c3 | 4 => c4 | _ => c5, fun k => match k with | 0 => iS0 | 1 => iS1 | 2 => iS2 | 3 => iS3 | 4 => iS4 | _ => iS5), ?_⟩
    intro k q hq
    match k, hq with
    | 0, hq => cases hq; exact hKn0
    | 1, hq => cases hq; exact hKn1
    | 2, hq => cases hq; exact hKn2
    | 3, hq => cases hq; exact hKn3
    | 4, hq => cases hq; exact hKn4
    | 5, hq => cases hq; exact hKn5
    | k + 6, hq => simp [qcl] at hq
  have hS : va_S (fun q : Nat => s.heap.size ≤ q) s.heap s.heap [] := va_S.rf
  have hK : va_K D qcl [] s := ⟨hKc, fun k q h => by simp at h⟩
  have hP : va_P D qcl [] s.heap := fun k q h => by simp at h
  have hD : va_D (fun q : Nat => s.heap.size ≤ q) [] := ⟨fun i j p q h => by simp at h, fun k q h => by simp at h⟩
  have hl := lv_entry ([.ref b]) (n := 4) (Nat.le_of_ble_eq_true rfl)
  rw [lg_entry_eq]
  generalize (lg_sl ([.ref b]) ++ List.replicate (4 - (lg_sl ([.ref b])).length) Slot.unset).toArray = ls at hl ⊢
  have hl : lv_has ls 4 [(0, .ref b)] := hl
  refine va_new (ci := 4) (fs := [.null, .null, .null, .null, .null, .null, .null, .int 0, .int 0]) (C := qR4) (T := qT4) (N := 9) hx hb htT i_q4 qy4 t_q4 hown (htT (.classLink R_law 7 qR4) (inTT (p := 73) rfl rfl)) (htT (.instantiable qR4 9) (inTT (p := 74) rfl rfl)) (htT (.initialized qR4) (inTT (p := 60) rfl rfl)) hK hP hD hS hA rfl v_q4 (Nat.le_of_ble_eq_true rfl) (Nat.le_of_ble_eq_true rfl) d_law_0 (fun q0 H hP hD hS => ?_)
  have hP : va_P D qcl [(q0, .inr (4, [.null, .null, .null, .null, .null, .null, .null, .int 0, .int 0]))] H := hP
  have hD : va_D (fun q : Nat => s.heap.size ≤ q) [(q0, .inr (4, [.null, .null, .null, .null, .null, .null, .null, .int 0, .int 0]))] := hD
  refine W.cs (cells' := 1) (slots' := 9) rfl rfl ?_
  refine lv_dup hx hb d_law_3 rfl ?_
  have hPc := hP.sub (ws' := [(q0, .inr (4, [.null, .null, .null, .null, .null, .null, .null, .int 0, .int 0]))]) [0] rfl
  have hDc := hD.sub (ws' := [(q0, .inr (4, [.null, .null, .null, .null, .null, .null, .null, .int 0, .int 0]))]) [0] (by decide) rfl
  have hKc := hK.sub (tys' := []) [] rfl
  have hFc := va_free (wc := [(q0, .inr (4, [.null, .null, .null, .null, .null, .null, .null, .int 0, .int 0]))]) hD hS hA [0] rfl
  refine va_callv (va_runI (As := []) (rest := [.ref q0]) ⟨hx, hb, hml, hown, htT⟩ (c_Fe l D E q0 H.size) (cwI 0 htT (goodW (inTT (p := 77) rfl rfl)) rfl rfl rfl (htT (.initialized qR4) (inTT (p := 60) rfl rfl)) (htT (.methodLink R_law 9 y_Fe) (inTT (p := 75) rfl rfl)) (htT (.instanceMethod y_Fe) (inTT (p := 76) rfl rfl)) rfl (by decide +kernel) ⟨(Nat.le_of_ble_eq_true rfl), (Nat.le_of_ble_eq_true rfl)⟩) ⟨fun a U g mk q => by obtain ⟨q0, q1, qP, qK, qD, qE, qN⟩ := q; exact ⟨q0, q1, qP, va_K.moved (u := U) (U := U.calling g mk a) (Vm.Alike.refl U.vm) qK, qD, qE.blind, va_Nw.same (U := U.calling g mk a) rfl rfl qN⟩, fun U hU hW => ⟨rfl, by rw [hU], by rw [hU]; exact hPc, va_K.moved hW.alike hKc, hDc.weaken (fun _ _ _ _ => trivial), hE.go (fun a h1 h2 => by rw [hU]; exact hS.2.1 a h1 h2) hW hFc, va_Nw.warmM hW hN⟩⟩ rfl rfl hl.1 rfl (lv_room (Nat.le_of_ble_eq_true rfl)) d_law_4 ⟨(Nat.le_of_ble_eq_true rfl), (Nat.le_of_ble_eq_true rfl)⟩) hS (fun q _ h => hFc q h) hFc (fun u t H1 locs ht hvm hw hB hz1 hk1 hS => ?_)
  obtain ⟨gA, kA, rC, hrC, hg0, hP1, hK1, hD1⟩ := hB
  rw [ht] at hP1
  have hK1 := va_K.moved hvm.symm hK1
  obtain ⟨hP, hD⟩ := va_join (wr := []) (w1 := wW (gC gA kA D E) ShC csC rC.2.2) hP hD [0] [] rfl rfl (by decide) (by decide) hk1 hFc hP1 hD1
  have hK := hK.app hK1
  generalize H1 = H at hP hS ⊢
  have hP : va_P D qcl (wW (gC gA kA D E) ShC csC rC.2.2) H := hP
  have hD : va_D (fun q : Nat => s.heap.size ≤ q) (wW (gC gA kA D E) ShC csC rC.2.2) := hD
  have hK : va_K D qcl (tysW (gC gA kA D E) ShC csC) s := hK
  refine W.eq (g2 := F0 m 7 ls [.ref q0]) rfl ?_
  refine W.cs (cells' := 30) (slots' := 1636) rfl rfl ?_
  refine lv_astore_n (lv' := [(1, .ref q0), (0, .ref b)]) hx hb d_law_7 rfl hl (by decide) rfl (fun ls hl => ?_)
  refine va_new (ci := 5) (fs := [.int 0, .null, .null, .null, .null, .null, .int 0, .null, .null, .int 0, .int 0, .int 0, .null, .null, .null, .null, .null, .null, .int 0, .int 0, .int 0, .int 0, .null, .null, .int 0, .int 0, .int 0, .null, .null, .null, .int 0, .int 0]) (C := qR5) (T := qT5) (N := 32) hx hb htT i_q5 qy5 t_q5 hown (htT (.classLink R_law 10 qR5) (inTT (p := 721) rfl rfl)) (htT (.instantiable qR5 32) (inTT (p := 722) rfl rfl)) (htT (.initialized qR5) (inTT (p := 65) rfl rfl)) hK hP hD hS hA rfl v_q5 (Nat.le_of_ble_eq_true rfl) (Nat.le_of_ble_eq_true rfl) d_law_8 (fun q1 H hP hD hS => ?_)
  have hP : va_P D qcl (wW (gC gA kA D E) ShC csC rC.2.2 ++ [(q1, .inr (5, [.int 0, .null, .null, .null, .null, .null, .int 0, .null, .null, .int 0, .int 0, .int 0, .null, .null, .null, .null, .null, .null, .int 0, .int 0, .int 0, .int 0, .null, .null, .int 0, .int 0, .int 0, .null, .null, .null, .int 0, .int 0]))]) H := hP
  have hD : va_D (fun q : Nat => s.heap.size ≤ q) (wW (gC gA kA D E) ShC csC rC.2.2 ++ [(q1, .inr (5, [.int 0, .null, .null, .null, .null, .null, .int 0, .null, .null, .int 0, .int 0, .int 0, .null, .null, .null, .null, .null, .null, .int 0, .int 0, .int 0, .int 0, .null, .null, .int 0, .int 0, .int 0, .null, .null, .null, .int 0, .int 0]))]) := hD
  refine W.cs (cells' := 31) (slots' := 1668) rfl rfl ?_
  refine lv_dup hx hb d_law_11 rfl ?_
  have hPc := hP.sub (ws' := [(q1, .inr (5, [.int 0, .null, .null, .null, .null, .null, .int 0, .null, .null, .int 0, .int 0, .int 0, .null, .null, .null, .null, .null, .null, .int 0, .int 0, .int 0, .int 0, .null, .null, .int 0, .int 0, .int 0, .null, .null, .null, .int 0, .int 0]))]) [30] rfl
  have hDc := hD.sub (ws' := [(q1, .inr (5, [.int 0, .null, .null, .null, .null, .null, .int 0, .null, .null, .int 0, .int 0, .int 0, .null, .null, .null, .null, .null, .null, .int 0, .int 0, .int 0, .int 0, .null, .null, .int 0, .int 0, .int 0, .null, .null, .null, .int 0, .int 0]))]) [30] (by decide) rfl
  have hKc := hK.sub (tys' := []) [] rfl
  have hFc := va_free (wc := [(q1, .inr (5, [.int 0, .null, .null, .null, .null, .null, .int 0, .null, .null, .int 0, .int 0, .int 0, .null, .null, .null, .null, .null, .null, .int 0, .int 0, .int 0, .int 0, .null, .null, .int 0, .int 0, .int 0, .null, .null, .null, .int 0, .int 0]))]) hD hS hA [30] rfl
  refine va_callv (va_runI (As := []) (rest := [.ref q1]) ⟨hx, hb, hml, hown, htT⟩ (c_Mo l D E q1 H.size) (cwI 0 htT (goodW (inTT (p := 725) rfl rfl)) rfl rfl rfl (htT (.initialized qR5) (inTT (p := 65) rfl rfl)) (htT (.methodLink R_law 12 y_Mo) (inTT (p := 723) rfl rfl)) (htT (.instanceMethod y_Mo) (inTT (p := 724) rfl rfl)) rfl (by decide +kernel) ⟨(Nat.le_of_ble_eq_true rfl), (Nat.le_of_ble_eq_true rfl)⟩) ⟨fun a U g mk q => by obtain ⟨q0, q1, qP, qK, qD, qE, qN⟩ := q; exact ⟨q0, q1, qP, va_K.moved (u := U) (U := U.calling g mk a) (Vm.Alike.refl U.vm) qK, qD, qE.blind, va_Nw.same (U := U.calling g mk a) rfl rfl qN⟩, fun U hU hW => ⟨rfl, by rw [hU], by rw [hU]; exact hPc, va_K.moved hW.alike hKc, hDc.weaken (fun _ _ _ _ => trivial), hE.go (fun a h1 h2 => by rw [hU]; exact hS.2.1 a h1 h2) hW hFc, va_Nw.warmM hW hN⟩⟩ rfl rfl hl.1 rfl (lv_room (Nat.le_of_ble_eq_true rfl)) d_law_12 ⟨(Nat.le_of_ble_eq_true rfl), (Nat.le_of_ble_eq_true rfl)⟩) hS (fun q _ h => hFc q h) hFc (fun u t H1 locs ht hvm hw hB hz1 hk1 hS => ?_)
  obtain ⟨gB, kB, rM, hrM, hg1, hP1, hK1, hD1⟩ := hB
  rw [ht] at hP1
  have hK1 := va_K.moved hvm.symm hK1
  obtain ⟨hP, hD⟩ := va_join (wr := wW (gC gA kA D E) ShC csC rC.2.2) (w1 := wW (gC gB kB D E) ShM csM rM.2.2) hP hD [30] (List.range 30) rfl rfl (by decide) (by decide) hk1 hFc hP1 hD1
  have hK := hK.app hK1
  generalize H1 = H at hP hS ⊢
  refine W.eq (g2 := F0 m 15 ls [.ref q1]) rfl ?_
  refine W.cs (cells' := 49) (slots' := 3835) rfl rfl ?_
  refine lv_astore_n (lv' := [(2, .ref q1), (1, .ref q0), (0, .ref b)]) hx hb d_law_15 rfl hl (by decide) rfl (fun ls hl => ?_)
  refine k_push (v := 0) (pc' := 17) hx hb (by decide +kernel) ?_
  refine lv_istore_n (lv' := [(3, .int 0), (2, .ref q1), (1, .ref q0), (0, .ref b)]) hx hb d_law_17 rfl hl (by decide) rfl (fun ls hl => ?_)
  refine W.eq (g2 := F0 m 18 ls []) rfl ?_
  -- both worlds in one
  rw [← wW_both (gA := gA) (gB := gB) (kA := kA) (kB := kB) (D := D) (b := b) (L := L) (E := E) (xs := xs) (σ := rC.2.2) (τ := rM.2.2)] at hP hD
  rw [← tysW_both (gA := gA) (gB := gB) (kA := kA) (kB := kB) (D := D) (b := b) (E := E)] at hK
  obtain ⟨rC', hrC', hatC⟩ := c_goes
  cases hrC.symm.trans hrC'
  obtain ⟨rM', hrM', hatM, hwrd⟩ := m_goes
  cases hrM.symm.trans hrM'
  have hI : LawI (sL2 rC.2.2 rM.2.2 L xs) xs L a00 := ⟨a00_wf, a00_c (isAt_cg hatC fun q hq => sA (atC_lt q hq)), a00_m (isAt_cg hatM fun q hq => sB2 (atM_lt q hq).1 (atM_lt q hq).2), fun k c hk hc => by rw [sB2 (by decide) (by decide)]; exact hwrd k c hk hc, rfl, rfl⟩
  obtain ⟨σ', hR⟩ := law_loop hL (L + 1) 0 _ a00 (by omega) hI (by omega)
  obtain ⟨n, hrun⟩ := R_ex hR
  have hE1 : Ext (gC (gL gA gB b) (kL kA kB) D E) (fun q : Nat => s.heap.size ≤ q) s s.heap := hE
  have Cx : Ctx p s m #[Value.ref b] c room_1 mi185 (gC (gL gA gB b) (kL kA kB) D E) ShF (csC ++ csM) (fun q : Nat => s.heap.size ≤ q) 49 3835 := ⟨hx, hb, hml, hown, htT, hK, fun σ => va_D_any hD, hA, hE1, ndF, shF_in, Nat.le_of_ble_eq_true rfl, Nat.le_of_ble_eq_true rfl, checked.1, checked.2.1, checked.2.2.1⟩
  have hret : RetH p l e room_1 s m #[Value.ref b] below meth c 49 3835 (lw_Z below #[Value.ref b] s) mi185 (gC (gL gA gB b) (kL kA kB) D E) ShF (csC ++ csM) (fun q : Nat => s.heap.size ≤ q) (1, 0, σ') := by
    intro H locs ls q st _ hS1 hcase
    rcases hcase with ⟨a, hd, -, -, rfl⟩ | ⟨-, hn, -⟩ | ⟨-, hn, -⟩
    · refine W.widen (k := 600000) (n := 7302250) (by decide) (by decide) ?_
      refine va_forget hS1.2.2 ?_
      exact lw_ret hx hb hr hlocks hd
    · cases hn
    · cases hn
  refine W.eq (g2 := F0 m 18 ls (([] : List Value).map (cv (gC (gL gA gB b) (kL kA kB) D E)))) rfl ?_
  refine sim (t := mi185) (y := kLaw) (k := 0) (xx := xs) (LL := L) rfl Cx ⟨Nat.le_of_ble_eq_true rfl, Nat.le_of_ble_eq_true rfl⟩ (Nat.le_of_ble_eq_true rfl) (fun n y k t ht _ hne as σ r hr hw => metAll ndF shF_in checked (hgt t k + 1) n y k t ht (Nat.lt_succ_self _) as σ r hr hw hne) checked.2.2.2.2.2 (fun _ => ⟨hX, hbl, hbA, Nat.lt_of_le_of_lt hL (by decide)⟩) hret n 10 [.ref 99, .ref 0, .ref 30, .int (nI 0)] [] _ hrun (fun _ => ⟨rfl, rfl⟩) H _ ls 18 rfl hP hS ⟨hl.1, hl.2.1, ?_⟩
  intro i v hi hv
  match i, hi with
  | 0, hi => cases hi; exact lv_at hl 3 rfl
  | 1, hi => cases hi; exact (lv_at hl 2 rfl).trans (by rw [← hg0]; rfl)
  | 2, hi => cases hi; exact (lv_at hl 1 rfl).trans (by rw [← hg1]; rfl)
  | 3, hi => cases hi; exact lv_at hl 0 rfl
