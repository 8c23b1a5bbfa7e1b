/-! CONTRACTS of all methods but the law: what the pure machine answers -/
theorem nar_ok {ty : Option FieldType} {a : Nat} {v : Int32} (h1 : narK ty a = true) (h2 : nok a v = true) : ∃ ty', ty = some ty' ∧ narrow ty' (.int v) = .int v ∧ eOf ty = 1 := by
  unfold narK at h1
  split at h1
  · exact ⟨.int, rfl, rfl, rfl⟩
  · refine ⟨.boolean, rfl, ?_, rfl⟩
    rcases zb_cases h2 with rfl | rfl <;> rfl
  · refine ⟨.byte, rfl, ?_, rfl⟩
    have h3 : v.toInt8.toInt32 = v := eq_of_beq h2
    show Value.int v.toInt8.toInt32 = _
    rw [h3]
  · refine ⟨.char, rfl, ?_, rfl⟩
    have h3 : v.toUInt32.toUInt16.toUInt32.toInt32 = v := eq_of_beq h2
    show Value.int v.toUInt32.toUInt16.toUInt32.toInt32 = _
    rw [h3]
  · cases h1
/-- what is checked by evaluation, all in one -/
def Checked : Prop := clsP ∧ (∀ y t, mi? y = some t → y ≠ kLaw → mokP t) ∧ (∀ y i, chk y i = true) ∧ (∀ y, qo y 0 = 0) ∧ (∀ y t, mi? y = some t → 1 ≤ t.2.2.2.2.2.2.1) ∧ natP
set_option maxHeartbeats 4000000 in
theorem metAll {l : Launch} {G : Geo} {Sh : Nat → Option Cs} {cs : List Nat} (hnd : cs.Nodup) (hSh : ∀ c' s', Sh c' = some s' → c' ∈ cs ∧ c' < 49) (CH : Checked) :
    ∀ (h n y k : Nat) (t : MI), mi? y = some t → hgt t k < h → ∀ (as : List Value) (σ : Sto) (r : Rs), run Sh n y k 0 (ent y as) [] σ = some r → (wide as).length ≤ mx y → y ≠ kLaw → MetP l G Sh cs y k as σ r := by
  obtain ⟨hcls, hmok, hck, hq0, hrk, hcarry⟩ := CH
  intro h
  induction h with
  | zero => intro n y k t _ h; omega
  | succ h ih =>
    intro n y k t ht hh as σ r hr hw hy t' ht' sz
    cases ht.symm.trans ht'
    obtain ⟨hcode, hstat, hinst, hini, hn1, hn2, hpar, hpl, hmx⟩ := hmok y t ht hy
    refine Met.ofW (cc := t.2.1) (maxL := t.2.2.1) (ret := t.2.2.2.1) hpl (wsM_head t) ?_
    intro p e s m args below meth c s₁ B hml hv
    obtain ⟨rfl, hsz, hP, hK, hD0, hE⟩ := hv
    have hts := atoms_spec (ws := wsM t) B.pre
    have hown : s.vm.findClass t.1.cls = some m.cls := findClass_of_methodNamed B.named
    subst hsz
    have hD := hD0.self (sz := s.heap.size)
    have hF := hE.cat
    have hmxy : mx y = t.2.2.1 := by unfold mx; rw [ht]; rfl
    have C0 : Ctx p s m (as.map (cv G)).toArray c (headSpec (wsM t) (rmM (hgt t k))).room t G Sh cs (va_A (wW G Sh cs σ) s.heap.size) 0 0 :=
      ⟨B.exec, B.bytes, hml, hown, fun w hw => hts w (List.mem_cons_of_mem _ hw), hK, fun σ' => va_D_any hD, fun q hq => Or.inr hq, hE, hnd, hSh, Nat.le_refl _, Nat.le_refl _, hcls, hmok, hck⟩
    have hret : RetH p l e (headSpec (wsM t) (rmM (hgt t k))).room s m (as.map (cv G)).toArray below meth c 0 0 (MQ below (QW G Sh cs σ s.heap.size (eOf t.2.2.2.1) r) (as.map (cv G)).toArray s 0 0 (va_A (wW G Sh cs σ) s.heap.size)) t G Sh cs (va_A (wW G Sh cs σ) s.heap.size) r := by
      intro H locs ls q st hP1 hS1 hcase
      rcases hcase with ⟨a, hd, hn, hk, rfl⟩ | ⟨hd, hn, rfl⟩ | ⟨hd, hn, rfl⟩
      · obtain ⟨ty, e1, e2, e3⟩ := nar_ok hn hk
        refine W.zret (ty := ty) B.exec B.bytes (by rw [B.returns, e1]) e2 (fun t1 ht1 hW1 => ⟨by rw [e3]; rfl, by rw [ht1]; exact hP1, hS1.F ht1⟩) hS1.2.2 hd B.notSynchronized
      · refine W.lret B.exec B.bytes (by rw [B.returns, hn]) (fun t1 ht1 hW1 => ⟨by rw [hn]; rfl, by rw [ht1]; exact hP1, hS1.F ht1⟩) hS1.2.2 hd B.notSynchronized
      · refine W.vret B.exec B.bytes (by rw [B.returns, hn]) (fun t1 ht1 hW1 => ⟨by rw [hn]; rfl, by rw [ht1]; exact hP1, hS1.F ht1⟩) hS1.2.2 hd B.notSynchronized
    have h1 : 1 ≤ hgt t k := Nat.le_trans (hrk y t ht) (Nat.le_add_right _ _)
    have hl := hL.entry (y := y) hF hmxy (by rw [← hmxy]; exact hw)
    rw [lg_entry_eq]
    exact sim (xx := fun _ => 0) (LL := 0) ht C0 ⟨Nat.le_refl _, Nat.le_refl _⟩ h1 (fun n' y' k' t2 ht2 hlt hy2 as' σ' r' hr' hw' => ih n' y' k' t2 ht2 (by omega) as' σ' r' hr' hw' hy2) hcarry (fun z => absurd z hy) hret n 0 (ent y as) [] σ hr (fun z => absurd z hy) s.heap [] _ 0 (hq0 y) hP va_S.rf hl
