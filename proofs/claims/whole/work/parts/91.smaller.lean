/-! CONSTRUCTORS of the smaller classes -/
theorem goodW {y : MethodName} {cc : ByteArray} {n : Nat} (h : Jvm.Cond.code y cc n none ∈ TT) : GoodIn TT (.code y cc n none :: TT) := fun w hw => by
  rcases List.mem_cons.mp hw with rfl | hw
  · exact goodTT _ h
  · exact goodTT _ hw
theorem v_q0 : ∀ j, j < 9 → defaultValue (qy0 j) = vp_V [.null, .null, .int 0, .int 0, .int 0, .int 0, .int 0, .int 0, .int 0] j := by decide +kernel
theorem v_q1 : ∀ j, j < 3 → defaultValue (qy1 j) = vp_V [.null, .null, .null] j := by decide +kernel
theorem v_q2 : ∀ j, j < 12 → defaultValue (qy2 j) = vp_V [.null, .null, .null, .null, .null, .null, .int 0, .int 0, .int 0, .int 0, .int 0, .int 0] j := by decide +kernel
theorem v_q3 : ∀ j, j < 5 → defaultValue (qy3 j) = vp_V [.null, .null, .null, .null, .int 0] j := by decide +kernel
theorem v_q4 : ∀ j, j < 9 → defaultValue (qy4 j) = vp_V [.null, .null, .null, .null, .null, .null, .null, .int 0, .int 0] j := by decide +kernel
theorem v_q5 : ∀ j, j < 32 → defaultValue (qy5 j) = vp_V [.int 0, .null, .null, .null, .null, .null, .int 0, .null, .null, .int 0, .int 0, .int 0, .null, .null, .null, .null, .null, .null, .int 0, .int 0, .int 0, .int 0, .null, .null, .int 0, .int 0, .int 0, .null, .null, .null, .int 0, .int 0] j := by decide +kernel
theorem d_Tx_0 : decode prog_5_method_1_code 0 = .ok (.aload_n 0, 1) := by decide +kernel
theorem d_Tx_1 : decode prog_5_method_1_code 1 = .ok (.invokespecial 3, 3) := by decide +kernel
theorem d_Tx_4 : decode prog_5_method_1_code 4 = .ok (.aload_n 0, 1) := by decide +kernel
theorem d_Tx_8 : decode prog_5_method_1_code 8 = .ok (.newarray .int, 2) := by decide +kernel
theorem d_Tx_10 : decode prog_5_method_1_code 10 = .ok (.putfield 9, 3) := by decide +kernel
theorem d_Tx_13 : decode prog_5_method_1_code 13 = .ok (.aload_n 0, 1) := by decide +kernel
theorem d_Tx_16 : decode prog_5_method_1_code 16 = .ok (.newarray .int, 2) := by decide +kernel
theorem d_Tx_18 : decode prog_5_method_1_code 18 = .ok (.putfield 15, 3) := by decide +kernel
theorem d_Tx_21 : decode prog_5_method_1_code 21 = .ok (.aload_n 0, 1) := by decide +kernel
theorem d_Tx_24 : decode prog_5_method_1_code 24 = .ok (.newarray .int, 2) := by decide +kernel
theorem d_Tx_26 : decode prog_5_method_1_code 26 = .ok (.putfield 18, 3) := by decide +kernel
theorem d_Tx_29 : decode prog_5_method_1_code 29 = .ok (.aload_n 0, 1) := by decide +kernel
theorem d_Tx_33 : decode prog_5_method_1_code 33 = .ok (.newarray .int, 2) := by decide +kernel
theorem d_Tx_35 : decode prog_5_method_1_code 35 = .ok (.putfield 21, 3) := by decide +kernel
theorem d_Tx_38 : decode prog_5_method_1_code 38 = .ok (.aload_n 0, 1) := by decide +kernel
theorem d_Tx_40 : decode prog_5_method_1_code 40 = .ok (.putfield 24, 3) := by decide +kernel
theorem d_Tx_43 : decode prog_5_method_1_code 43 = .ok (.return_, 1) := by decide +kernel
def y_Tx : MethodName := ⟨qR3, "<init>", "()V"⟩
def w_Tx : List Jvm.Cond := .code y_Tx prog_5_method_1_code 1 none :: TT
set_option maxHeartbeats 4000000 in
set_option maxRecDepth 100000 in
theorem c_Tx (l : Launch) (D : va_G) (h0 : Nat) (sz : Nat) : Met l y_Tx w_Tx ({ frames := 1, cells := 4, slots := 1156, locals := 12 }) (va_Pc [.ref h0] (fun U => U.heap.size = sz ∧ va_P D qcl [(h0, .inr (3, [.null, .null, .null, .null, .int 0]))] U.heap ∧ va_K D qcl [] U ∧ va_D (fun _ => True) [(h0, .inr (3, [.null, .null, .null, .null, .int 0]))])) (va_Qv (fun _ : Unit => True) (fun _ t => ∃ (q1 : Nat) (q2 : Nat) (q3 : Nat) (q4 : Nat) (k1 : ClassId) (k2 : ClassId) (k3 : ClassId) (k4 : ClassId), va_P D qcl [(h0, .inr (3, [.ref q1, .ref q2, .ref q3, .ref q4, .int 0])), (q1, .inl (k1, 960, .inl fun _ => 0)), (q2, .inl (k2, 18, .inl fun _ => 0)), (q3, .inl (k3, 18, .inl fun _ => 0)), (q4, .inl (k4, 160, .inl fun _ => 0))] t.heap ∧ va_K D qcl [(k1, .int), (k2, .int), (k3, .int), (k4, .int)] t ∧ va_D (va_A [(h0, .inr (3, [.null, .null, .null, .null, .int 0]))] sz) [(h0, .inr (3, [.ref q1, .ref q2, .ref q3, .ref q4, .int 0])), (q1, .inl (k1, 960, .inl fun _ => 0)), (q2, .inl (k2, 18, .inl fun _ => 0)), (q3, .inl (k3, 18, .inl fun _ => 0)), (q4, .inl (k4, 160, .inl fun _ => 0))]) (va_A [(h0, .inr (3, [.null, .null, .null, .null, .int 0]))] sz)) 4 1156 (va_A [(h0, .inr (3, [.null, .null, .null, .null, .int 0]))] sz) := by
  refine Met.ofW (cc := prog_5_method_1_code) (maxL := 1) (ret := none) (by decide) rfl ?_
  intro p e s m args below meth c s₁ B hml hv
  obtain ⟨rfl, hsz, hP, hK, hD0⟩ := hv
  have hx := B.exec
  have hb := B.bytes
  have hr := B.returns
  have hts0 := atoms_spec (ws := w_Tx) B.pre
  have hts : ∀ w ∈ TT, w.before _ s = true := fun w hw => hts0 w (List.mem_cons_of_mem _ hw)
  have hown : s.vm.findClass qR3 = some m.cls := findClass_of_methodNamed B.named
  have hlocks := B.notSynchronized
  have hin : meth.name = "<init>" := (name_of_methodNamed B.named B.method).1
  subst hsz
  have hD := hD0.self (sz := s.heap.size)
  generalize hAe : va_A [(h0, .inr (3, [.null, .null, .null, .null, .int 0]))] s.heap.size = A at hD ⊢
  have hA : ∀ q : Nat, s.heap.size ≤ q → A q := fun q h => by rw [← hAe]; exact Or.inr h
  have hS : va_S A s.heap s.heap [] := va_S.rf
  have hP : va_P D qcl [(h0, .inr (3, [.null, .null, .null, .null, .int 0]))] s.heap := hP
  have hl := lv_entry ([.ref h0]) (n := 1) (Nat.le_of_ble_eq_true rfl)
  rw [lg_entry_eq]
  generalize (lg_sl ([.ref h0]) ++ List.replicate (1 - (lg_sl ([.ref h0])).length) Slot.unset).toArray = ls at hl ⊢
  have hl : lv_has ls 1 [(0, .ref h0)] := hl
  refine W.eq (g2 := F0 m 0 ls []) rfl ?_
  refine lv_aload_n hx hb d_Tx_0 rfl (lv_at hl 0 rfl) ?_
  refine W.objInit hx hb hown (hts (.methodLink qR3 3 objectInit) (inTT (p := 86) rfl rfl)) (hts (.instanceMethod objectInit) (inTT (p := 79) rfl rfl)) (hts (.code objectInit ⟨#[0xb1]⟩ 1 none) (inTT (p := 80) rfl rfl)) rfl (by rw [hml]; exact hl.1) rfl d_Tx_1 (Nat.le_of_ble_eq_true rfl) (Nat.le_of_ble_eq_true rfl) ?_
  refine W.eq (g2 := F0 m 4 ls []) rfl ?_
  refine lv_aload_n hx hb d_Tx_4 rfl (lv_at hl 0 rfl) ?_
  refine k_push (v := 960) (pc' := 8) hx hb (by decide +kernel) ?_
  refine va_newa (atype := .int) (ty := .int) (N' := 960) (a0 := (960, .inl fun _ => 0)) hx hb (hts (.arrayClass .int) (inTT (p := 108) rfl rfl)) rfl hK hP hD hS hA (fun _ => rfl) (by decide) (by decide) (by decide) (Nat.le_of_ble_eq_true rfl) (Nat.le_of_ble_eq_true rfl) d_Tx_8 (fun q1 k1 H hK hP hD hS => ?_)
  have hP : va_P D qcl [(h0, .inr (3, [.null, .null, .null, .null, .int 0])), (q1, .inl (k1, 960, .inl fun _ => 0))] H := hP
  have hD : va_D A [(h0, .inr (3, [.null, .null, .null, .null, .int 0])), (q1, .inl (k1, 960, .inl fun _ => 0))] := hD
  have hK : va_K D qcl [(k1, .int)] s := hK
  refine W.cs (cells' := 1) (slots' := 960) rfl rfl ?_
  refine va_putF (D := D) (ci := 3) (v := .ref q1) (ty := .array .int) (C := qR3) (T := qT3) (N := 5) hx hb hts i_q3 qy3 t_q3 n_q3 hown hK hP hD hS 0 rfl rfl 0 (by decide) (hts (.fieldLink qR3 9 qR3 "code" "[I") (inTT (p := 87) rfl rfl)) (fun _ h9 => h9) rfl hin rfl (by decide +kernel) rfl rfl (Nat.le_of_ble_eq_true rfl) d_Tx_10 (fun H locs hP hD hS => ?_)
  have hP : va_P D qcl [(h0, .inr (3, [.ref q1, .null, .null, .null, .int 0])), (q1, .inl (k1, 960, .inl fun _ => 0))] H := hP
  have hD : va_D A [(h0, .inr (3, [.ref q1, .null, .null, .null, .int 0])), (q1, .inl (k1, 960, .inl fun _ => 0))] := hD
  refine lv_aload_n hx hb d_Tx_13 rfl (lv_at hl 0 rfl) ?_
  refine k_push (v := 18) (pc' := 16) hx hb (by decide +kernel) ?_
  refine va_newa (atype := .int) (ty := .int) (N' := 18) (a0 := (18, .inl fun _ => 0)) hx hb (hts (.arrayClass .int) (inTT (p := 108) rfl rfl)) rfl hK hP hD hS hA (fun _ => rfl) (by decide) (by decide) (by decide) (Nat.le_of_ble_eq_true rfl) (Nat.le_of_ble_eq_true rfl) d_Tx_16 (fun q2 k2 H hK hP hD hS => ?_)
  have hP : va_P D qcl [(h0, .inr (3, [.ref q1, .null, .null, .null, .int 0])), (q1, .inl (k1, 960, .inl fun _ => 0)), (q2, .inl (k2, 18, .inl fun _ => 0))] H := hP
  have hD : va_D A [(h0, .inr (3, [.ref q1, .null, .null, .null, .int 0])), (q1, .inl (k1, 960, .inl fun _ => 0)), (q2, .inl (k2, 18, .inl fun _ => 0))] := hD
  have hK : va_K D qcl [(k1, .int), (k2, .int)] s := hK
  refine W.cs (cells' := 2) (slots' := 978) rfl rfl ?_
  refine va_putF (D := D) (ci := 3) (v := .ref q2) (ty := .array .int) (C := qR3) (T := qT3) (N := 5) hx hb hts i_q3 qy3 t_q3 n_q3 hown hK hP hD hS 0 rfl rfl 1 (by decide) (hts (.fieldLink qR3 15 qR3 "from" "[I") (inTT (p := 89) rfl rfl)) (fun _ h9 => h9) rfl hin rfl (by decide +kernel) rfl rfl (Nat.le_of_ble_eq_true rfl) d_Tx_18 (fun H locs hP hD hS => ?_)
  have hP : va_P D qcl [(h0, .inr (3, [.ref q1, .ref q2, .null, .null, .int 0])), (q1, .inl (k1, 960, .inl fun _ => 0)), (q2, .inl (k2, 18, .inl fun _ => 0))] H := hP
  have hD : va_D A [(h0, .inr (3, [.ref q1, .ref q2, .null, .null, .int 0])), (q1, .inl (k1, 960, .inl fun _ => 0)), (q2, .inl (k2, 18, .inl fun _ => 0))] := hD
  refine lv_aload_n hx hb d_Tx_21 rfl (lv_at hl 0 rfl) ?_
  refine k_push (v := 18) (pc' := 24) hx hb (by decide +kernel) ?_
  refine va_newa (atype := .int) (ty := .int) (N' := 18) (a0 := (18, .inl fun _ => 0)) hx hb (hts (.arrayClass .int) (inTT (p := 108) rfl rfl)) rfl hK hP hD hS hA (fun _ => rfl) (by decide) (by decide) (by decide) (Nat.le_of_ble_eq_true rfl) (Nat.le_of_ble_eq_true rfl) d_Tx_24 (fun q3 k3 H hK hP hD hS => ?_)
  have hP : va_P D qcl [(h0, .inr (3, [.ref q1, .ref q2, .null, .null, .int 0])), (q1, .inl (k1, 960, .inl fun _ => 0)), (q2, .inl (k2, 18, .inl fun _ => 0)), (q3, .inl (k3, 18, .inl fun _ => 0))] H := hP
  have hD : va_D A [(h0, .inr (3, [.ref q1, .ref q2, .null, .null, .int 0])), (q1, .inl (k1, 960, .inl fun _ => 0)), (q2, .inl (k2, 18, .inl fun _ => 0)), (q3, .inl (k3, 18, .inl fun _ => 0))] := hD
  have hK : va_K D qcl [(k1, .int), (k2, .int), (k3, .int)] s := hK
  refine W.cs (cells' := 3) (slots' := 996) rfl rfl ?_
  refine va_putF (D := D) (ci := 3) (v := .ref q3) (ty := .array .int) (C := qR3) (T := qT3) (N := 5) hx hb hts i_q3 qy3 t_q3 n_q3 hown hK hP hD hS 0 rfl rfl 2 (by decide) (hts (.fieldLink qR3 18 qR3 "to" "[I") (inTT (p := 91) rfl rfl)) (fun _ h9 => h9) rfl hin rfl (by decide +kernel) rfl rfl (Nat.le_of_ble_eq_true rfl) d_Tx_26 (fun H locs hP hD hS => ?_)
  have hP : va_P D qcl [(h0, .inr (3, [.ref q1, .ref q2, .ref q3, .null, .int 0])), (q1, .inl (k1, 960, .inl fun _ => 0)), (q2, .inl (k2, 18, .inl fun _ => 0)), (q3, .inl (k3, 18, .inl fun _ => 0))] H := hP
  have hD : va_D A [(h0, .inr (3, [.ref q1, .ref q2, .ref q3, .null, .int 0])), (q1, .inl (k1, 960, .inl fun _ => 0)), (q2, .inl (k2, 18, .inl fun _ => 0)), (q3, .inl (k3, 18, .inl fun _ => 0))] := hD
  refine lv_aload_n hx hb d_Tx_29 rfl (lv_at hl 0 rfl) ?_
  refine k_push (v := 160) (pc' := 33) hx hb (by decide +kernel) ?_
  refine va_newa (atype := .int) (ty := .int) (N' := 160) (a0 := (160, .inl fun _ => 0)) hx hb (hts (.arrayClass .int) (inTT (p := 108) rfl rfl)) rfl hK hP hD hS hA (fun _ => rfl) (by decide) (by decide) (by decide) (Nat.le_of_ble_eq_true rfl) (Nat.le_of_ble_eq_true rfl) d_Tx_33 (fun q4 k4 H hK hP hD hS => ?_)
  have hP : va_P D qcl [(h0, .inr (3, [.ref q1, .ref q2, .ref q3, .null, .int 0])), (q1, .inl (k1, 960, .inl fun _ => 0)), (q2, .inl (k2, 18, .inl fun _ => 0)), (q3, .inl (k3, 18, .inl fun _ => 0)), (q4, .inl (k4, 160, .inl fun _ => 0))] H := hP
  have hD : va_D A [(h0, .inr (3, [.ref q1, .ref q2, .ref q3, .null, .int 0])), (q1, .inl (k1, 960, .inl fun _ => 0)), (q2, .inl (k2, 18, .inl fun _ => 0)), (q3, .inl (k3, 18, .inl fun _ => 0)), (q4, .inl (k4, 160, .inl fun _ => 0))] := hD
  have hK : va_K D qcl [(k1, .int), (k2, .int), (k3, .int), (k4, .int)] s := hK
  refine W.cs (cells' := 4) (slots' := 1156) rfl rfl ?_
  refine va_putF (D := D) (ci := 3) (v := .ref q4) (ty := .array .int) (C := qR3) (T := qT3) (N := 5) hx hb hts i_q3 qy3 t_q3 n_q3 hown hK hP hD hS 0 rfl rfl 3 (by decide) (hts (.fieldLink qR3 21 qR3 "pile" "[I") (inTT (p := 93) rfl rfl)) (fun _ h9 => h9) rfl hin rfl (by decide +kernel) rfl rfl (Nat.le_of_ble_eq_true rfl) d_Tx_35 (fun H locs hP hD hS => ?_)
  have hP : va_P D qcl [(h0, .inr (3, [.ref q1, .ref q2, .ref q3, .ref q4, .int 0])), (q1, .inl (k1, 960, .inl fun _ => 0)), (q2, .inl (k2, 18, .inl fun _ => 0)), (q3, .inl (k3, 18, .inl fun _ => 0)), (q4, .inl (k4, 160, .inl fun _ => 0))] H := hP
  have hD : va_D A [(h0, .inr (3, [.ref q1, .ref q2, .ref q3, .ref q4, .int 0])), (q1, .inl (k1, 960, .inl fun _ => 0)), (q2, .inl (k2, 18, .inl fun _ => 0)), (q3, .inl (k3, 18, .inl fun _ => 0)), (q4, .inl (k4, 160, .inl fun _ => 0))] := hD
  refine lv_aload_n hx hb d_Tx_38 rfl (lv_at hl 0 rfl) ?_
  refine k_push (v := 0) (pc' := 40) hx hb (by decide +kernel) ?_
  refine va_put (D := D) (ci := 3) (v := .int 0) (ty := .int) (C := qR3) (T := qT3) (N := 5) hx hb hts i_q3 qy3 t_q3 n_q3 hown hK hP hD hS 0 rfl rfl 4 (by decide) (hts (.fieldLink qR3 24 qR3 "known" "I") (inTT (p := 94) rfl rfl)) (fun _ h9 => h9) rfl (by decide +kernel) rfl rfl (Nat.le_of_ble_eq_true rfl) d_Tx_40 (fun H locs hP hD hS => ?_)
  have hP : va_P D qcl [(h0, .inr (3, [.ref q1, .ref q2, .ref q3, .ref q4, .int 0])), (q1, .inl (k1, 960, .inl fun _ => 0)), (q2, .inl (k2, 18, .inl fun _ => 0)), (q3, .inl (k3, 18, .inl fun _ => 0)), (q4, .inl (k4, 160, .inl fun _ => 0))] H := hP
  have hD : va_D A [(h0, .inr (3, [.ref q1, .ref q2, .ref q3, .ref q4, .int 0])), (q1, .inl (k1, 960, .inl fun _ => 0)), (q2, .inl (k2, 18, .inl fun _ => 0)), (q3, .inl (k3, 18, .inl fun _ => 0)), (q4, .inl (k4, 160, .inl fun _ => 0))] := hD
  exact W.vret hx hb hr (fun t ht hW => ⟨⟨(), rfl, trivial, q1, q2, q3, q4, k1, k2, k3, k4, by rw [ht]; exact hP, va_K.moved hW.alike hK, hD⟩, hS.F ht⟩) hS.2.2 d_Tx_43
theorem d_Rd_0 : decode prog_2_method_1_code 0 = .ok (.aload_n 0, 1) := by decide +kernel
theorem d_Rd_1 : decode prog_2_method_1_code 1 = .ok (.invokespecial 3, 3) := by decide +kernel
theorem d_Rd_4 : decode prog_2_method_1_code 4 = .ok (.aload_n 0, 1) := by decide +kernel
theorem d_Rd_6 : decode prog_2_method_1_code 6 = .ok (.putfield 9, 3) := by decide +kernel
theorem d_Rd_9 : decode prog_2_method_1_code 9 = .ok (.aload_n 0, 1) := by decide +kernel
theorem d_Rd_11 : decode prog_2_method_1_code 11 = .ok (.putfield 15, 3) := by decide +kernel
theorem d_Rd_14 : decode prog_2_method_1_code 14 = .ok (.aload_n 0, 1) := by decide +kernel
theorem d_Rd_16 : decode prog_2_method_1_code 16 = .ok (.putfield 18, 3) := by decide +kernel
theorem d_Rd_19 : decode prog_2_method_1_code 19 = .ok (.aload_n 0, 1) := by decide +kernel
theorem d_Rd_21 : decode prog_2_method_1_code 21 = .ok (.putfield 21, 3) := by decide +kernel
theorem d_Rd_24 : decode prog_2_method_1_code 24 = .ok (.aload_n 0, 1) := by decide +kernel
theorem d_Rd_26 : decode prog_2_method_1_code 26 = .ok (.putfield 24, 3) := by decide +kernel
theorem d_Rd_29 : decode prog_2_method_1_code 29 = .ok (.aload_n 0, 1) := by decide +kernel
theorem d_Rd_31 : decode prog_2_method_1_code 31 = .ok (.putfield 27, 3) := by decide +kernel
theorem d_Rd_34 : decode prog_2_method_1_code 34 = .ok (.aload_n 0, 1) := by decide +kernel
theorem d_Rd_36 : decode prog_2_method_1_code 36 = .ok (.putfield 30, 3) := by decide +kernel
theorem d_Rd_39 : decode prog_2_method_1_code 39 = .ok (.aload_n 0, 1) := by decide +kernel
theorem d_Rd_40 : decode prog_2_method_1_code 40 = .ok (.aload_n 1, 1) := by decide +kernel
theorem d_Rd_41 : decode prog_2_method_1_code 41 = .ok (.putfield 33, 3) := by decide +kernel
theorem d_Rd_44 : decode prog_2_method_1_code 44 = .ok (.aload_n 0, 1) := by decide +kernel
theorem d_Rd_45 : decode prog_2_method_1_code 45 = .ok (.aload_n 2, 1) := by decide +kernel
theorem d_Rd_46 : decode prog_2_method_1_code 46 = .ok (.putfield 37, 3) := by decide +kernel
theorem d_Rd_49 : decode prog_2_method_1_code 49 = .ok (.return_, 1) := by decide +kernel
def y_Rd : MethodName := ⟨qR0, "<init>", "([ILFerryForAlone$Texts;)V"⟩
def w_Rd : List Jvm.Cond := .code y_Rd prog_2_method_1_code 3 none :: TT
set_option maxHeartbeats 4000000 in
set_option maxRecDepth 100000 in
theorem c_Rd (l : Launch) (D : va_G) (h0 : Nat) (tp : Nat) (tx : Nat) (sz : Nat) : Met l y_Rd w_Rd ({ frames := 1, cells := 0, slots := 0, locals := 12 }) (va_Pc [.ref h0, .ref tp, .ref tx] (fun U => U.heap.size = sz ∧ va_P D qcl [(h0, .inr (0, [.null, .null, .int 0, .int 0, .int 0, .int 0, .int 0, .int 0, .int 0]))] U.heap ∧ va_K D qcl [] U ∧ va_D (fun _ => True) [(h0, .inr (0, [.null, .null, .int 0, .int 0, .int 0, .int 0, .int 0, .int 0, .int 0]))])) (va_Qv (fun _ : Unit => True) (fun _ t => va_P D qcl [(h0, .inr (0, [.ref tp, .ref tx, .int 0, .int 0, .int 0, .int 5, .int 0, .int (-1), .int 0]))] t.heap ∧ va_K D qcl [] t ∧ va_D (va_A [(h0, .inr (0, [.null, .null, .int 0, .int 0, .int 0, .int 0, .int 0, .int 0, .int 0]))] sz) [(h0, .inr (0, [.ref tp, .ref tx, .int 0, .int 0, .int 0, .int 5, .int 0, .int (-1), .int 0]))]) (va_A [(h0, .inr (0, [.null, .null, .int 0, .int 0, .int 0, .int 0, .int 0, .int 0, .int 0]))] sz)) 0 0 (va_A [(h0, .inr (0, [.null, .null, .int 0, .int 0, .int 0, .int 0, .int 0, .int 0, .int 0]))] sz) := by
  refine Met.ofW (cc := prog_2_method_1_code) (maxL := 3) (ret := none) (by decide) rfl ?_
  intro p e s m args below meth c s₁ B hml hv
  obtain ⟨rfl, hsz, hP, hK, hD0⟩ := hv
  have hx := B.exec
  have hb := B.bytes
  have hr := B.returns
  have hts0 := atoms_spec (ws := w_Rd) B.pre
  have hts : ∀ w ∈ TT, w.before _ s = true := fun w hw => hts0 w (List.mem_cons_of_mem _ hw)
  have hown : s.vm.findClass qR0 = some m.cls := findClass_of_methodNamed B.named
  have hlocks := B.notSynchronized
  have hin : meth.name = "<init>" := (name_of_methodNamed B.named B.method).1
  subst hsz
  have hD := hD0.self (sz := s.heap.size)
  generalize hAe : va_A [(h0, .inr (0, [.null, .null, .int 0, .int 0, .int 0, .int 0, .int 0, .int 0, .int 0]))] s.heap.size = A at hD ⊢
  have hA : ∀ q : Nat, s.heap.size ≤ q → A q := fun q h => by rw [← hAe]; exact Or.inr h
  have hS : va_S A s.heap s.heap [] := va_S.rf
  have hP : va_P D qcl [(h0, .inr (0, [.null, .null, .int 0, .int 0, .int 0, .int 0, .int 0, .int 0, .int 0]))] s.heap := hP
  have hl := lv_entry ([.ref h0, .ref tp, .ref tx]) (n := 3) (Nat.le_of_ble_eq_true rfl)
  rw [lg_entry_eq]
  generalize (lg_sl ([.ref h0, .ref tp, .ref tx]) ++ List.replicate (3 - (lg_sl ([.ref h0, .ref tp, .ref tx])).length) Slot.unset).toArray = ls at hl ⊢
  have hl : lv_has ls 3 [(0, .ref h0), (1, .ref tp), (2, .ref tx)] := hl
  refine W.eq (g2 := F0 m 0 ls []) rfl ?_
  refine lv_aload_n hx hb d_Rd_0 rfl (lv_at hl 0 rfl) ?_
  refine W.objInit hx hb hown (hts (.methodLink qR0 3 objectInit) (inTT (p := 114) rfl rfl)) (hts (.instanceMethod objectInit) (inTT (p := 79) rfl rfl)) (hts (.code objectInit ⟨#[0xb1]⟩ 1 none) (inTT (p := 80) rfl rfl)) rfl (by rw [hml]; exact hl.1) rfl d_Rd_1 (Nat.le_of_ble_eq_true rfl) (Nat.le_of_ble_eq_true rfl) ?_
  refine W.eq (g2 := F0 m 4 ls []) rfl ?_
  refine lv_aload_n hx hb d_Rd_4 rfl (lv_at hl 0 rfl) ?_
  refine k_push (v := 0) (pc' := 6) hx hb (by decide +kernel) ?_
  refine va_put (D := D) (ci := 0) (v := .int 0) (ty := .int) (C := qR0) (T := qT0) (N := 9) hx hb hts i_q0 qy0 t_q0 n_q0 hown hK hP hD hS 0 rfl rfl 2 (by decide) (hts (.fieldLink qR0 9 qR0 "size" "I") (inTT (p := 117) rfl rfl)) (fun _ h9 => h9) rfl (by decide +kernel) rfl rfl (Nat.le_of_ble_eq_true rfl) d_Rd_6 (fun H locs hP hD hS => ?_)
  have hP : va_P D qcl [(h0, .inr (0, [.null, .null, .int 0, .int 0, .int 0, .int 0, .int 0, .int 0, .int 0]))] H := hP
  have hD : va_D A [(h0, .inr (0, [.null, .null, .int 0, .int 0, .int 0, .int 0, .int 0, .int 0, .int 0]))] := hD
  refine lv_aload_n hx hb d_Rd_9 rfl (lv_at hl 0 rfl) ?_
  refine k_push (v := 0) (pc' := 11) hx hb (by decide +kernel) ?_
  refine va_put (D := D) (ci := 0) (v := .int 0) (ty := .int) (C := qR0) (T := qT0) (N := 9) hx hb hts i_q0 qy0 t_q0 n_q0 hown hK hP hD hS 0 rfl rfl 3 (by decide) (hts (.fieldLink qR0 15 qR0 "next" "I") (inTT (p := 118) rfl rfl)) (fun _ h9 => h9) rfl (by decide +kernel) rfl rfl (Nat.le_of_ble_eq_true rfl) d_Rd_11 (fun H locs hP hD hS => ?_)
  have hP : va_P D qcl [(h0, .inr (0, [.null, .null, .int 0, .int 0, .int 0, .int 0, .int 0, .int 0, .int 0]))] H := hP
  have hD : va_D A [(h0, .inr (0, [.null, .null, .int 0, .int 0, .int 0, .int 0, .int 0, .int 0, .int 0]))] := hD
  refine lv_aload_n hx hb d_Rd_14 rfl (lv_at hl 0 rfl) ?_
  refine k_push (v := 0) (pc' := 16) hx hb (by decide +kernel) ?_
  refine va_put (D := D) (ci := 0) (v := .int 0) (ty := .int) (C := qR0) (T := qT0) (N := 9) hx hb hts i_q0 qy0 t_q0 n_q0 hown hK hP hD hS 0 rfl rfl 4 (by decide) (hts (.fieldLink qR0 18 qR0 "start" "I") (inTT (p := 119) rfl rfl)) (fun _ h9 => h9) rfl (by decide +kernel) rfl rfl (Nat.le_of_ble_eq_true rfl) d_Rd_16 (fun H locs hP hD hS => ?_)
  have hP : va_P D qcl [(h0, .inr (0, [.null, .null, .int 0, .int 0, .int 0, .int 0, .int 0, .int 0, .int 0]))] H := hP
  have hD : va_D A [(h0, .inr (0, [.null, .null, .int 0, .int 0, .int 0, .int 0, .int 0, .int 0, .int 0]))] := hD
  refine lv_aload_n hx hb d_Rd_19 rfl (lv_at hl 0 rfl) ?_
  refine k_push (v := 5) (pc' := 21) hx hb (by decide +kernel) ?_
  refine va_put (D := D) (ci := 0) (v := .int 5) (ty := .int) (C := qR0) (T := qT0) (N := 9) hx hb hts i_q0 qy0 t_q0 n_q0 hown hK hP hD hS 0 rfl rfl 5 (by decide) (hts (.fieldLink qR0 21 qR0 "token" "I") (inTT (p := 120) rfl rfl)) (fun _ h9 => h9) rfl (by decide +kernel) rfl rfl (Nat.le_of_ble_eq_true rfl) d_Rd_21 (fun H locs hP hD hS => ?_)
  have hP : va_P D qcl [(h0, .inr (0, [.null, .null, .int 0, .int 0, .int 0, .int 5, .int 0, .int 0, .int 0]))] H := hP
  have hD : va_D A [(h0, .inr (0, [.null, .null, .int 0, .int 0, .int 0, .int 5, .int 0, .int 0, .int 0]))] := hD
  refine lv_aload_n hx hb d_Rd_24 rfl (lv_at hl 0 rfl) ?_
  refine k_push (v := 0) (pc' := 26) hx hb (by decide +kernel) ?_
  refine va_put (D := D) (ci := 0) (v := .int 0) (ty := .int) (C := qR0) (T := qT0) (N := 9) hx hb hts i_q0 qy0 t_q0 n_q0 hown hK hP hD hS 0 rfl rfl 6 (by decide) (hts (.fieldLink qR0 24 qR0 "number" "I") (inTT (p := 121) rfl rfl)) (fun _ h9 => h9) rfl (by decide +kernel) rfl rfl (Nat.le_of_ble_eq_true rfl) d_Rd_26 (fun H locs hP hD hS => ?_)
  have hP : va_P D qcl [(h0, .inr (0, [.null, .null, .int 0, .int 0, .int 0, .int 5, .int 0, .int 0, .int 0]))] H := hP
  have hD : va_D A [(h0, .inr (0, [.null, .null, .int 0, .int 0, .int 0, .int 5, .int 0, .int 0, .int 0]))] := hD
  refine lv_aload_n hx hb d_Rd_29 rfl (lv_at hl 0 rfl) ?_
  refine k_push (v := (-1)) (pc' := 31) hx hb (by decide +kernel) ?_
  refine va_put (D := D) (ci := 0) (v := .int (-1)) (ty := .int) (C := qR0) (T := qT0) (N := 9) hx hb hts i_q0 qy0 t_q0 n_q0 hown hK hP hD hS 0 rfl rfl 7 (by decide) (hts (.fieldLink qR0 27 qR0 "fault" "I") (inTT (p := 122) rfl rfl)) (fun _ h9 => h9) rfl (by decide +kernel) rfl rfl (Nat.le_of_ble_eq_true rfl) d_Rd_31 (fun H locs hP hD hS => ?_)
  have hP : va_P D qcl [(h0, .inr (0, [.null, .null, .int 0, .int 0, .int 0, .int 5, .int 0, .int (-1), .int 0]))] H := hP
  have hD : va_D A [(h0, .inr (0, [.null, .null, .int 0, .int 0, .int 0, .int 5, .int 0, .int (-1), .int 0]))] := hD
  refine lv_aload_n hx hb d_Rd_34 rfl (lv_at hl 0 rfl) ?_
  refine k_push (v := 0) (pc' := 36) hx hb (by decide +kernel) ?_
  refine va_put (D := D) (ci := 0) (v := .int 0) (ty := .int) (C := qR0) (T := qT0) (N := 9) hx hb hts i_q0 qy0 t_q0 n_q0 hown hK hP hD hS 0 rfl rfl 8 (by decide) (hts (.fieldLink qR0 30 qR0 "written" "I") (inTT (p := 123) rfl rfl)) (fun _ h9 => h9) rfl (by decide +kernel) rfl rfl (Nat.le_of_ble_eq_true rfl) d_Rd_36 (fun H locs hP hD hS => ?_)
  have hP : va_P D qcl [(h0, .inr (0, [.null, .null, .int 0, .int 0, .int 0, .int 5, .int 0, .int (-1), .int 0]))] H := hP
  have hD : va_D A [(h0, .inr (0, [.null, .null, .int 0, .int 0, .int 0, .int 5, .int 0, .int (-1), .int 0]))] := hD
  refine lv_aload_n hx hb d_Rd_39 rfl (lv_at hl 0 rfl) ?_
  refine lv_aload_n hx hb d_Rd_40 rfl (lv_at hl 1 rfl) ?_
  refine va_putF (D := D) (ci := 0) (v := .ref tp) (ty := .array .int) (C := qR0) (T := qT0) (N := 9) hx hb hts i_q0 qy0 t_q0 n_q0 hown hK hP hD hS 0 rfl rfl 0 (by decide) (hts (.fieldLink qR0 33 qR0 "tape" "[I") (inTT (p := 115) rfl rfl)) (fun _ h9 => h9) rfl hin rfl (by decide +kernel) rfl rfl (Nat.le_of_ble_eq_true rfl) d_Rd_41 (fun H locs hP hD hS => ?_)
  have hP : va_P D qcl [(h0, .inr (0, [.ref tp, .null, .int 0, .int 0, .int 0, .int 5, .int 0, .int (-1), .int 0]))] H := hP
  have hD : va_D A [(h0, .inr (0, [.ref tp, .null, .int 0, .int 0, .int 0, .int 5, .int 0, .int (-1), .int 0]))] := hD
  refine lv_aload_n hx hb d_Rd_44 rfl (lv_at hl 0 rfl) ?_
  refine lv_aload_n hx hb d_Rd_45 rfl (lv_at hl 2 rfl) ?_
  refine va_putF (D := D) (ci := 0) (v := .ref tx) (ty := .object "FerryForAlone$Texts") (C := qR0) (T := qT0) (N := 9) hx hb hts i_q0 qy0 t_q0 n_q0 hown hK hP hD hS 0 rfl rfl 1 (by decide) (hts (.fieldLink qR0 37 qR0 "texts" "LFerryForAlone$Texts;") (inTT (p := 116) rfl rfl)) (fun _ h9 => h9) rfl hin rfl (by decide +kernel) rfl rfl (Nat.le_of_ble_eq_true rfl) d_Rd_46 (fun H locs hP hD hS => ?_)
  have hP : va_P D qcl [(h0, .inr (0, [.ref tp, .ref tx, .int 0, .int 0, .int 0, .int 5, .int 0, .int (-1), .int 0]))] H := hP
  have hD : va_D A [(h0, .inr (0, [.ref tp, .ref tx, .int 0, .int 0, .int 0, .int 5, .int 0, .int (-1), .int 0]))] := hD
  exact W.vret hx hb hr (fun t ht hW => ⟨⟨(), rfl, trivial, by rw [ht]; exact hP, va_K.moved hW.alike hK, hD⟩, hS.F ht⟩) hS.2.2 d_Rd_49
theorem d_St_0 : decode prog_4_method_1_code 0 = .ok (.aload_n 0, 1) := by decide +kernel
theorem d_St_1 : decode prog_4_method_1_code 1 = .ok (.invokespecial 3, 3) := by decide +kernel
theorem d_St_4 : decode prog_4_method_1_code 4 = .ok (.aload_n 0, 1) := by decide +kernel
theorem d_St_7 : decode prog_4_method_1_code 7 = .ok (.newarray .int, 2) := by decide +kernel
theorem d_St_9 : decode prog_4_method_1_code 9 = .ok (.putfield 9, 3) := by decide +kernel
theorem d_St_12 : decode prog_4_method_1_code 12 = .ok (.aload_n 0, 1) := by decide +kernel
theorem d_St_15 : decode prog_4_method_1_code 15 = .ok (.newarray .int, 2) := by decide +kernel
theorem d_St_17 : decode prog_4_method_1_code 17 = .ok (.putfield 15, 3) := by decide +kernel
theorem d_St_20 : decode prog_4_method_1_code 20 = .ok (.aload_n 0, 1) := by decide +kernel
theorem d_St_23 : decode prog_4_method_1_code 23 = .ok (.newarray .int, 2) := by decide +kernel
theorem d_St_25 : decode prog_4_method_1_code 25 = .ok (.putfield 18, 3) := by decide +kernel
theorem d_St_28 : decode prog_4_method_1_code 28 = .ok (.aload_n 0, 1) := by decide +kernel
theorem d_St_31 : decode prog_4_method_1_code 31 = .ok (.newarray .boolean, 2) := by decide +kernel
theorem d_St_33 : decode prog_4_method_1_code 33 = .ok (.putfield 21, 3) := by decide +kernel
theorem d_St_36 : decode prog_4_method_1_code 36 = .ok (.aload_n 0, 1) := by decide +kernel
theorem d_St_39 : decode prog_4_method_1_code 39 = .ok (.newarray .int, 2) := by decide +kernel
theorem d_St_41 : decode prog_4_method_1_code 41 = .ok (.putfield 25, 3) := by decide +kernel
theorem d_St_44 : decode prog_4_method_1_code 44 = .ok (.aload_n 0, 1) := by decide +kernel
theorem d_St_46 : decode prog_4_method_1_code 46 = .ok (.putfield 28, 3) := by decide +kernel
theorem d_St_49 : decode prog_4_method_1_code 49 = .ok (.aload_n 0, 1) := by decide +kernel
theorem d_St_51 : decode prog_4_method_1_code 51 = .ok (.putfield 32, 3) := by decide +kernel
theorem d_St_54 : decode prog_4_method_1_code 54 = .ok (.aload_n 0, 1) := by decide +kernel
theorem d_St_56 : decode prog_4_method_1_code 56 = .ok (.putfield 35, 3) := by decide +kernel
theorem d_St_59 : decode prog_4_method_1_code 59 = .ok (.aload_n 0, 1) := by decide +kernel
theorem d_St_61 : decode prog_4_method_1_code 61 = .ok (.putfield 38, 3) := by decide +kernel
theorem d_St_64 : decode prog_4_method_1_code 64 = .ok (.aload_n 0, 1) := by decide +kernel
theorem d_St_66 : decode prog_4_method_1_code 66 = .ok (.putfield 41, 3) := by decide +kernel
theorem d_St_69 : decode prog_4_method_1_code 69 = .ok (.aload_n 0, 1) := by decide +kernel
theorem d_St_71 : decode prog_4_method_1_code 71 = .ok (.putfield 44, 3) := by decide +kernel
theorem d_St_74 : decode prog_4_method_1_code 74 = .ok (.aload_n 0, 1) := by decide +kernel
theorem d_St_75 : decode prog_4_method_1_code 75 = .ok (.aload_n 1, 1) := by decide +kernel
theorem d_St_76 : decode prog_4_method_1_code 76 = .ok (.putfield 47, 3) := by decide +kernel
theorem d_St_79 : decode prog_4_method_1_code 79 = .ok (.return_, 1) := by decide +kernel
def y_St : MethodName := ⟨qR2, "<init>", "(LFerryForAlone$Texts;)V"⟩
def w_St : List Jvm.Cond := .code y_St prog_4_method_1_code 2 none :: TT
set_option maxHeartbeats 4000000 in
set_option maxRecDepth 100000 in
theorem c_St (l : Launch) (D : va_G) (h0 : Nat) (tx : Nat) (sz : Nat) : Met l y_St w_St ({ frames := 1, cells := 5, slots := 30, locals := 12 }) (va_Pc [.ref h0, .ref tx] (fun U => U.heap.size = sz ∧ va_P D qcl [(h0, .inr (2, [.null, .null, .null, .null, .null, .null, .int 0, .int 0, .int 0, .int 0, .int 0, .int 0]))] U.heap ∧ va_K D qcl [] U ∧ va_D (fun _ => True) [(h0, .inr (2, [.null, .null, .null, .null, .null, .null, .int 0, .int 0, .int 0, .int 0, .int 0, .int 0]))])) (va_Qv (fun _ : Unit => True) (fun _ t => ∃ (q1 : Nat) (q2 : Nat) (q3 : Nat) (q4 : Nat) (q5 : Nat) (k1 : ClassId) (k2 : ClassId) (k3 : ClassId) (k4 : ClassId) (k5 : ClassId), va_P D qcl [(h0, .inr (2, [.ref tx, .ref q1, .ref q2, .ref q3, .ref q4, .ref q5, .int 0, .int 0, .int 0, .int (-1), .int 0, .int 0])), (q1, .inl (k1, 6, .inl fun _ => 0)), (q2, .inl (k2, 6, .inl fun _ => 0)), (q3, .inl (k3, 6, .inl fun _ => 0)), (q4, .inl (k4, 6, .inl fun _ => 0)), (q5, .inl (k5, 6, .inl fun _ => 0))] t.heap ∧ va_K D qcl [(k1, .int), (k2, .int), (k3, .int), (k4, .boolean), (k5, .int)] t ∧ va_D (va_A [(h0, .inr (2, [.null, .null, .null, .null, .null, .null, .int 0, .int 0, .int 0, .int 0, .int 0, .int 0]))] sz) [(h0, .inr (2, [.ref tx, .ref q1, .ref q2, .ref q3, .ref q4, .ref q5, .int 0, .int 0, .int 0, .int (-1), .int 0, .int 0])), (q1, .inl (k1, 6, .inl fun _ => 0)), (q2, .inl (k2, 6, .inl fun _ => 0)), (q3, .inl (k3, 6, .inl fun _ => 0)), (q4, .inl (k4, 6, .inl fun _ => 0)), (q5, .inl (k5, 6, .inl fun _ => 0))]) (va_A [(h0, .inr (2, [.null, .null, .null, .null, .null, .null, .int 0, .int 0, .int 0, .int 0, .int 0, .int 0]))] sz)) 5 30 (va_A [(h0, .inr (2, [.null, .null, .null, .null, .null, .null, .int 0, .int 0, .int 0, .int 0, .int 0, .int 0]))] sz) := by
  refine Met.ofW (cc := prog_4_method_1_code) (maxL := 2) (ret := none) (by decide) rfl ?_
  intro p e s m args below meth c s₁ B hml hv
  obtain ⟨rfl, hsz, hP, hK, hD0⟩ := hv
  have hx := B.exec
  have hb := B.bytes
  have hr := B.returns
  have hts0 := atoms_spec (ws := w_St) B.pre
  have hts : ∀ w ∈ TT, w.before _ s = true := fun w hw => hts0 w (List.mem_cons_of_mem _ hw)
  have hown : s.vm.findClass qR2 = some m.cls := findClass_of_methodNamed B.named
  have hlocks := B.notSynchronized
  have hin : meth.name = "<init>" := (name_of_methodNamed B.named B.method).1
  subst hsz
  have hD := hD0.self (sz := s.heap.size)
  generalize hAe : va_A [(h0, .inr (2, [.null, .null, .null, .null, .null, .null, .int 0, .int 0, .int 0, .int 0, .int 0, .int 0]))] s.heap.size = A at hD ⊢
  have hA : ∀ q : Nat, s.heap.size ≤ q → A q := fun q h => by rw [← hAe]; exact Or.inr h
  have hS : va_S A s.heap s.heap [] := va_S.rf
  have hP : va_P D qcl [(h0, .inr (2, [.null, .null, .null, .null, .null, .null, .int 0, .int 0, .int 0, .int 0, .int 0, .int 0]))] s.heap := hP
  have hl := lv_entry ([.ref h0, .ref tx]) (n := 2) (Nat.le_of_ble_eq_true rfl)
  rw [lg_entry_eq]
  generalize (lg_sl ([.ref h0, .ref tx]) ++ List.replicate (2 - (lg_sl ([.ref h0, .ref tx])).length) Slot.unset).toArray = ls at hl ⊢
  have hl : lv_has ls 2 [(0, .ref h0), (1, .ref tx)] := hl
  refine W.eq (g2 := F0 m 0 ls []) rfl ?_
  refine lv_aload_n hx hb d_St_0 rfl (lv_at hl 0 rfl) ?_
  refine W.objInit hx hb hown (hts (.methodLink qR2 3 objectInit) (inTT (p := 148) rfl rfl)) (hts (.instanceMethod objectInit) (inTT (p := 79) rfl rfl)) (hts (.code objectInit ⟨#[0xb1]⟩ 1 none) (inTT (p := 80) rfl rfl)) rfl (by rw [hml]; exact hl.1) rfl d_St_1 (Nat.le_of_ble_eq_true rfl) (Nat.le_of_ble_eq_true rfl) ?_
  refine W.eq (g2 := F0 m 4 ls []) rfl ?_
  refine lv_aload_n hx hb d_St_4 rfl (lv_at hl 0 rfl) ?_
  refine k_push (v := 6) (pc' := 7) hx hb (by decide +kernel) ?_
  refine va_newa (atype := .int) (ty := .int) (N' := 6) (a0 := (6, .inl fun _ => 0)) hx hb (hts (.arrayClass .int) (inTT (p := 108) rfl rfl)) rfl hK hP hD hS hA (fun _ => rfl) (by decide) (by decide) (by decide) (Nat.le_of_ble_eq_true rfl) (Nat.le_of_ble_eq_true rfl) d_St_7 (fun q1 k1 H hK hP hD hS => ?_)
  have hP : va_P D qcl [(h0, .inr (2, [.null, .null, .null, .null, .null, .null, .int 0, .int 0, .int 0, .int 0, .int 0, .int 0])), (q1, .inl (k1, 6, .inl fun _ => 0))] H := hP
  have hD : va_D A [(h0, .inr (2, [.null, .null, .null, .null, .null, .null, .int 0, .int 0, .int 0, .int 0, .int 0, .int 0])), (q1, .inl (k1, 6, .inl fun _ => 0))] := hD
  have hK : va_K D qcl [(k1, .int)] s := hK
  refine W.cs (cells' := 1) (slots' := 6) rfl rfl ?_
  refine va_putF (D := D) (ci := 2) (v := .ref q1) (ty := .array .int) (C := qR2) (T := qT2) (N := 12) hx hb hts i_q2 qy2 t_q2 n_q2 hown hK hP hD hS 0 rfl rfl 1 (by decide) (hts (.fieldLink qR2 9 qR2 "kind" "[I") (inTT (p := 150) rfl rfl)) (fun _ h9 => h9) rfl hin rfl (by decide +kernel) rfl rfl (Nat.le_of_ble_eq_true rfl) d_St_9 (fun H locs hP hD hS => ?_)
  have hP : va_P D qcl [(h0, .inr (2, [.null, .ref q1, .null, .null, .null, .null, .int 0, .int 0, .int 0, .int 0, .int 0, .int 0])), (q1, .inl (k1, 6, .inl fun _ => 0))] H := hP
  have hD : va_D A [(h0, .inr (2, [.null, .ref q1, .null, .null, .null, .null, .int 0, .int 0, .int 0, .int 0, .int 0, .int 0])), (q1, .inl (k1, 6, .inl fun _ => 0))] := hD
  refine lv_aload_n hx hb d_St_12 rfl (lv_at hl 0 rfl) ?_
  refine k_push (v := 6) (pc' := 15) hx hb (by decide +kernel) ?_
  refine va_newa (atype := .int) (ty := .int) (N' := 6) (a0 := (6, .inl fun _ => 0)) hx hb (hts (.arrayClass .int) (inTT (p := 108) rfl rfl)) rfl hK hP hD hS hA (fun _ => rfl) (by decide) (by decide) (by decide) (Nat.le_of_ble_eq_true rfl) (Nat.le_of_ble_eq_true rfl) d_St_15 (fun q2 k2 H hK hP hD hS => ?_)
  have hP : va_P D qcl [(h0, .inr (2, [.null, .ref q1, .null, .null, .null, .null, .int 0, .int 0, .int 0, .int 0, .int 0, .int 0])), (q1, .inl (k1, 6, .inl fun _ => 0)), (q2, .inl (k2, 6, .inl fun _ => 0))] H := hP
  have hD : va_D A [(h0, .inr (2, [.null, .ref q1, .null, .null, .null, .null, .int 0, .int 0, .int 0, .int 0, .int 0, .int 0])), (q1, .inl (k1, 6, .inl fun _ => 0)), (q2, .inl (k2, 6, .inl fun _ => 0))] := hD
  have hK : va_K D qcl [(k1, .int), (k2, .int)] s := hK
  refine W.cs (cells' := 2) (slots' := 12) rfl rfl ?_
  refine va_putF (D := D) (ci := 2) (v := .ref q2) (ty := .array .int) (C := qR2) (T := qT2) (N := 12) hx hb hts i_q2 qy2 t_q2 n_q2 hown hK hP hD hS 0 rfl rfl 2 (by decide) (hts (.fieldLink qR2 15 qR2 "more" "[I") (inTT (p := 152) rfl rfl)) (fun _ h9 => h9) rfl hin rfl (by decide +kernel) rfl rfl (Nat.le_of_ble_eq_true rfl) d_St_17 (fun H locs hP hD hS => ?_)
  have hP : va_P D qcl [(h0, .inr (2, [.null, .ref q1, .ref q2, .null, .null, .null, .int 0, .int 0, .int 0, .int 0, .int 0, .int 0])), (q1, .inl (k1, 6, .inl fun _ => 0)), (q2, .inl (k2, 6, .inl fun _ => 0))] H := hP
  have hD : va_D A [(h0, .inr (2, [.null, .ref q1, .ref q2, .null, .null, .null, .int 0, .int 0, .int 0, .int 0, .int 0, .int 0])), (q1, .inl (k1, 6, .inl fun _ => 0)), (q2, .inl (k2, 6, .inl fun _ => 0))] := hD
  refine lv_aload_n hx hb d_St_20 rfl (lv_at hl 0 rfl) ?_
  refine k_push (v := 6) (pc' := 23) hx hb (by decide +kernel) ?_
  refine va_newa (atype := .int) (ty := .int) (N' := 6) (a0 := (6, .inl fun _ => 0)) hx hb (hts (.arrayClass .int) (inTT (p := 108) rfl rfl)) rfl hK hP hD hS hA (fun _ => rfl) (by decide) (by decide) (by decide) (Nat.le_of_ble_eq_true rfl) (Nat.le_of_ble_eq_true rfl) d_St_23 (fun q3 k3 H hK hP hD hS => ?_)
  have hP : va_P D qcl [(h0, .inr (2, [.null, .ref q1, .ref q2, .null, .null, .null, .int 0, .int 0, .int 0, .int 0, .int 0, .int 0])), (q1, .inl (k1, 6, .inl fun _ => 0)), (q2, .inl (k2, 6, .inl fun _ => 0)), (q3, .inl (k3, 6, .inl fun _ => 0))] H := hP
  have hD : va_D A [(h0, .inr (2, [.null, .ref q1, .ref q2, .null, .null, .null, .int 0, .int 0, .int 0, .int 0, .int 0, .int 0])), (q1, .inl (k1, 6, .inl fun _ => 0)), (q2, .inl (k2, 6, .inl fun _ => 0)), (q3, .inl (k3, 6, .inl fun _ => 0))] := hD
  have hK : va_K D qcl [(k1, .int), (k2, .int), (k3, .int)] s := hK
  refine W.cs (cells' := 3) (slots' := 18) rfl rfl ?_
  refine va_putF (D := D) (ci := 2) (v := .ref q3) (ty := .array .int) (C := qR2) (T := qT2) (N := 12) hx hb hts i_q2 qy2 t_q2 n_q2 hown hK hP hD hS 0 rfl rfl 3 (by decide) (hts (.fieldLink qR2 18 qR2 "place" "[I") (inTT (p := 154) rfl rfl)) (fun _ h9 => h9) rfl hin rfl (by decide +kernel) rfl rfl (Nat.le_of_ble_eq_true rfl) d_St_25 (fun H locs hP hD hS => ?_)
  have hP : va_P D qcl [(h0, .inr (2, [.null, .ref q1, .ref q2, .ref q3, .null, .null, .int 0, .int 0, .int 0, .int 0, .int 0, .int 0])), (q1, .inl (k1, 6, .inl fun _ => 0)), (q2, .inl (k2, 6, .inl fun _ => 0)), (q3, .inl (k3, 6, .inl fun _ => 0))] H := hP
  have hD : va_D A [(h0, .inr (2, [.null, .ref q1, .ref q2, .ref q3, .null, .null, .int 0, .int 0, .int 0, .int 0, .int 0, .int 0])), (q1, .inl (k1, 6, .inl fun _ => 0)), (q2, .inl (k2, 6, .inl fun _ => 0)), (q3, .inl (k3, 6, .inl fun _ => 0))] := hD
  refine lv_aload_n hx hb d_St_28 rfl (lv_at hl 0 rfl) ?_
  refine k_push (v := 6) (pc' := 31) hx hb (by decide +kernel) ?_
  refine va_newa (atype := .boolean) (ty := .boolean) (N' := 6) (a0 := (6, .inl fun _ => 0)) hx hb (hts (.arrayClass .boolean) (inTT (p := 198) rfl rfl)) rfl hK hP hD hS hA (fun _ => rfl) (by decide) (by decide) (by decide) (Nat.le_of_ble_eq_true rfl) (Nat.le_of_ble_eq_true rfl) d_St_31 (fun q4 k4 H hK hP hD hS => ?_)
  have hP : va_P D qcl [(h0, .inr (2, [.null, .ref q1, .ref q2, .ref q3, .null, .null, .int 0, .int 0, .int 0, .int 0, .int 0, .int 0])), (q1, .inl (k1, 6, .inl fun _ => 0)), (q2, .inl (k2, 6, .inl fun _ => 0)), (q3, .inl (k3, 6, .inl fun _ => 0)), (q4, .inl (k4, 6, .inl fun _ => 0))] H := hP
  have hD : va_D A [(h0, .inr (2, [.null, .ref q1, .ref q2, .ref q3, .null, .null, .int 0, .int 0, .int 0, .int 0, .int 0, .int 0])), (q1, .inl (k1, 6, .inl fun _ => 0)), (q2, .inl (k2, 6, .inl fun _ => 0)), (q3, .inl (k3, 6, .inl fun _ => 0)), (q4, .inl (k4, 6, .inl fun _ => 0))] := hD
  have hK : va_K D qcl [(k1, .int), (k2, .int), (k3, .int), (k4, .boolean)] s := hK
  refine W.cs (cells' := 4) (slots' := 24) rfl rfl ?_
  refine va_putF (D := D) (ci := 2) (v := .ref q4) (ty := .array .boolean) (C := qR2) (T := qT2) (N := 12) hx hb hts i_q2 qy2 t_q2 n_q2 hown hK hP hD hS 0 rfl rfl 4 (by decide) (hts (.fieldLink qR2 21 qR2 "hidden" "[Z") (inTT (p := 156) rfl rfl)) (fun _ h9 => h9) rfl hin rfl (by decide +kernel) rfl rfl (Nat.le_of_ble_eq_true rfl) d_St_33 (fun H locs hP hD hS => ?_)
  have hP : va_P D qcl [(h0, .inr (2, [.null, .ref q1, .ref q2, .ref q3, .ref q4, .null, .int 0, .int 0, .int 0, .int 0, .int 0, .int 0])), (q1, .inl (k1, 6, .inl fun _ => 0)), (q2, .inl (k2, 6, .inl fun _ => 0)), (q3, .inl (k3, 6, .inl fun _ => 0)), (q4, .inl (k4, 6, .inl fun _ => 0))] H := hP
  have hD : va_D A [(h0, .inr (2, [.null, .ref q1, .ref q2, .ref q3, .ref q4, .null, .int 0, .int 0, .int 0, .int 0, .int 0, .int 0])), (q1, .inl (k1, 6, .inl fun _ => 0)), (q2, .inl (k2, 6, .inl fun _ => 0)), (q3, .inl (k3, 6, .inl fun _ => 0)), (q4, .inl (k4, 6, .inl fun _ => 0))] := hD
  refine lv_aload_n hx hb d_St_36 rfl (lv_at hl 0 rfl) ?_
  refine k_push (v := 6) (pc' := 39) hx hb (by decide +kernel) ?_
  refine va_newa (atype := .int) (ty := .int) (N' := 6) (a0 := (6, .inl fun _ => 0)) hx hb (hts (.arrayClass .int) (inTT (p := 108) rfl rfl)) rfl hK hP hD hS hA (fun _ => rfl) (by decide) (by decide) (by decide) (Nat.le_of_ble_eq_true rfl) (Nat.le_of_ble_eq_true rfl) d_St_39 (fun q5 k5 H hK hP hD hS => ?_)
  have hP : va_P D qcl [(h0, .inr (2, [.null, .ref q1, .ref q2, .ref q3, .ref q4, .null, .int 0, .int 0, .int 0, .int 0, .int 0, .int 0])), (q1, .inl (k1, 6, .inl fun _ => 0)), (q2, .inl (k2, 6, .inl fun _ => 0)), (q3, .inl (k3, 6, .inl fun _ => 0)), (q4, .inl (k4, 6, .inl fun _ => 0)), (q5, .inl (k5, 6, .inl fun _ => 0))] H := hP
  have hD : va_D A [(h0, .inr (2, [.null, .ref q1, .ref q2, .ref q3, .ref q4, .null, .int 0, .int 0, .int 0, .int 0, .int 0, .int 0])), (q1, .inl (k1, 6, .inl fun _ => 0)), (q2, .inl (k2, 6, .inl fun _ => 0)), (q3, .inl (k3, 6, .inl fun _ => 0)), (q4, .inl (k4, 6, .inl fun _ => 0)), (q5, .inl (k5, 6, .inl fun _ => 0))] := hD
  have hK : va_K D qcl [(k1, .int), (k2, .int), (k3, .int), (k4, .boolean), (k5, .int)] s := hK
  refine W.cs (cells' := 5) (slots' := 30) rfl rfl ?_
  refine va_putF (D := D) (ci := 2) (v := .ref q5) (ty := .array .int) (C := qR2) (T := qT2) (N := 12) hx hb hts i_q2 qy2 t_q2 n_q2 hown hK hP hD hS 0 rfl rfl 5 (by decide) (hts (.fieldLink qR2 25 qR2 "waited" "[I") (inTT (p := 158) rfl rfl)) (fun _ h9 => h9) rfl hin rfl (by decide +kernel) rfl rfl (Nat.le_of_ble_eq_true rfl) d_St_41 (fun H locs hP hD hS => ?_)
  have hP : va_P D qcl [(h0, .inr (2, [.null, .ref q1, .ref q2, .ref q3, .ref q4, .ref q5, .int 0, .int 0, .int 0, .int 0, .int 0, .int 0])), (q1, .inl (k1, 6, .inl fun _ => 0)), (q2, .inl (k2, 6, .inl fun _ => 0)), (q3, .inl (k3, 6, .inl fun _ => 0)), (q4, .inl (k4, 6, .inl fun _ => 0)), (q5, .inl (k5, 6, .inl fun _ => 0))] H := hP
  have hD : va_D A [(h0, .inr (2, [.null, .ref q1, .ref q2, .ref q3, .ref q4, .ref q5, .int 0, .int 0, .int 0, .int 0, .int 0, .int 0])), (q1, .inl (k1, 6, .inl fun _ => 0)), (q2, .inl (k2, 6, .inl fun _ => 0)), (q3, .inl (k3, 6, .inl fun _ => 0)), (q4, .inl (k4, 6, .inl fun _ => 0)), (q5, .inl (k5, 6, .inl fun _ => 0))] := hD
  refine lv_aload_n hx hb d_St_44 rfl (lv_at hl 0 rfl) ?_
  refine k_push (v := 0) (pc' := 46) hx hb (by decide +kernel) ?_
  refine va_put (D := D) (ci := 2) (v := .int 0) (ty := .int) (C := qR2) (T := qT2) (N := 12) hx hb hts i_q2 qy2 t_q2 n_q2 hown hK hP hD hS 0 rfl rfl 6 (by decide) (hts (.fieldLink qR2 28 qR2 "people" "I") (inTT (p := 160) rfl rfl)) (fun _ h9 => h9) rfl (by decide +kernel) rfl rfl (Nat.le_of_ble_eq_true rfl) d_St_46 (fun H locs hP hD hS => ?_)
  have hP : va_P D qcl [(h0, .inr (2, [.null, .ref q1, .ref q2, .ref q3, .ref q4, .ref q5, .int 0, .int 0, .int 0, .int 0, .int 0, .int 0])), (q1, .inl (k1, 6, .inl fun _ => 0)), (q2, .inl (k2, 6, .inl fun _ => 0)), (q3, .inl (k3, 6, .inl fun _ => 0)), (q4, .inl (k4, 6, .inl fun _ => 0)), (q5, .inl (k5, 6, .inl fun _ => 0))] H := hP
  have hD : va_D A [(h0, .inr (2, [.null, .ref q1, .ref q2, .ref q3, .ref q4, .ref q5, .int 0, .int 0, .int 0, .int 0, .int 0, .int 0])), (q1, .inl (k1, 6, .inl fun _ => 0)), (q2, .inl (k2, 6, .inl fun _ => 0)), (q3, .inl (k3, 6, .inl fun _ => 0)), (q4, .inl (k4, 6, .inl fun _ => 0)), (q5, .inl (k5, 6, .inl fun _ => 0))] := hD
  refine lv_aload_n hx hb d_St_49 rfl (lv_at hl 0 rfl) ?_
  refine k_push (v := 0) (pc' := 51) hx hb (by decide +kernel) ?_
  refine va_put (D := D) (ci := 2) (v := .int 0) (ty := .int) (C := qR2) (T := qT2) (N := 12) hx hb hts i_q2 qy2 t_q2 n_q2 hown hK hP hD hS 0 rfl rfl 7 (by decide) (hts (.fieldLink qR2 32 qR2 "hour" "I") (inTT (p := 162) rfl rfl)) (fun _ h9 => h9) rfl (by decide +kernel) rfl rfl (Nat.le_of_ble_eq_true rfl) d_St_51 (fun H locs hP hD hS => ?_)
  have hP : va_P D qcl [(h0, .inr (2, [.null, .ref q1, .ref q2, .ref q3, .ref q4, .ref q5, .int 0, .int 0, .int 0, .int 0, .int 0, .int 0])), (q1, .inl (k1, 6, .inl fun _ => 0)), (q2, .inl (k2, 6, .inl fun _ => 0)), (q3, .inl (k3, 6, .inl fun _ => 0)), (q4, .inl (k4, 6, .inl fun _ => 0)), (q5, .inl (k5, 6, .inl fun _ => 0))] H := hP
  have hD : va_D A [(h0, .inr (2, [.null, .ref q1, .ref q2, .ref q3, .ref q4, .ref q5, .int 0, .int 0, .int 0, .int 0, .int 0, .int 0])), (q1, .inl (k1, 6, .inl fun _ => 0)), (q2, .inl (k2, 6, .inl fun _ => 0)), (q3, .inl (k3, 6, .inl fun _ => 0)), (q4, .inl (k4, 6, .inl fun _ => 0)), (q5, .inl (k5, 6, .inl fun _ => 0))] := hD
  refine lv_aload_n hx hb d_St_54 rfl (lv_at hl 0 rfl) ?_
  refine k_push (v := 0) (pc' := 56) hx hb (by decide +kernel) ?_
  refine va_put (D := D) (ci := 2) (v := .int 0) (ty := .int) (C := qR2) (T := qT2) (N := 12) hx hb hts i_q2 qy2 t_q2 n_q2 hown hK hP hD hS 0 rfl rfl 8 (by decide) (hts (.fieldLink qR2 35 qR2 "out" "I") (inTT (p := 164) rfl rfl)) (fun _ h9 => h9) rfl (by decide +kernel) rfl rfl (Nat.le_of_ble_eq_true rfl) d_St_56 (fun H locs hP hD hS => ?_)
  have hP : va_P D qcl [(h0, .inr (2, [.null, .ref q1, .ref q2, .ref q3, .ref q4, .ref q5, .int 0, .int 0, .int 0, .int 0, .int 0, .int 0])), (q1, .inl (k1, 6, .inl fun _ => 0)), (q2, .inl (k2, 6, .inl fun _ => 0)), (q3, .inl (k3, 6, .inl fun _ => 0)), (q4, .inl (k4, 6, .inl fun _ => 0)), (q5, .inl (k5, 6, .inl fun _ => 0))] H := hP
  have hD : va_D A [(h0, .inr (2, [.null, .ref q1, .ref q2, .ref q3, .ref q4, .ref q5, .int 0, .int 0, .int 0, .int 0, .int 0, .int 0])), (q1, .inl (k1, 6, .inl fun _ => 0)), (q2, .inl (k2, 6, .inl fun _ => 0)), (q3, .inl (k3, 6, .inl fun _ => 0)), (q4, .inl (k4, 6, .inl fun _ => 0)), (q5, .inl (k5, 6, .inl fun _ => 0))] := hD
  refine lv_aload_n hx hb d_St_59 rfl (lv_at hl 0 rfl) ?_
  refine k_push (v := (-1)) (pc' := 61) hx hb (by decide +kernel) ?_
  refine va_put (D := D) (ci := 2) (v := .int (-1)) (ty := .int) (C := qR2) (T := qT2) (N := 12) hx hb hts i_q2 qy2 t_q2 n_q2 hown hK hP hD hS 0 rfl rfl 9 (by decide) (hts (.fieldLink qR2 38 qR2 "boat" "I") (inTT (p := 166) rfl rfl)) (fun _ h9 => h9) rfl (by decide +kernel) rfl rfl (Nat.le_of_ble_eq_true rfl) d_St_61 (fun H locs hP hD hS => ?_)
  have hP : va_P D qcl [(h0, .inr (2, [.null, .ref q1, .ref q2, .ref q3, .ref q4, .ref q5, .int 0, .int 0, .int 0, .int (-1), .int 0, .int 0])), (q1, .inl (k1, 6, .inl fun _ => 0)), (q2, .inl (k2, 6, .inl fun _ => 0)), (q3, .inl (k3, 6, .inl fun _ => 0)), (q4, .inl (k4, 6, .inl fun _ => 0)), (q5, .inl (k5, 6, .inl fun _ => 0))] H := hP
  have hD : va_D A [(h0, .inr (2, [.null, .ref q1, .ref q2, .ref q3, .ref q4, .ref q5, .int 0, .int 0, .int 0, .int (-1), .int 0, .int 0])), (q1, .inl (k1, 6, .inl fun _ => 0)), (q2, .inl (k2, 6, .inl fun _ => 0)), (q3, .inl (k3, 6, .inl fun _ => 0)), (q4, .inl (k4, 6, .inl fun _ => 0)), (q5, .inl (k5, 6, .inl fun _ => 0))] := hD
  refine lv_aload_n hx hb d_St_64 rfl (lv_at hl 0 rfl) ?_
  refine k_push (v := 0) (pc' := 66) hx hb (by decide +kernel) ?_
  refine va_put (D := D) (ci := 2) (v := .int 0) (ty := .int) (C := qR2) (T := qT2) (N := 12) hx hb hts i_q2 qy2 t_q2 n_q2 hown hK hP hD hS 0 rfl rfl 10 (by decide) (hts (.fieldLink qR2 41 qR2 "fetched" "I") (inTT (p := 168) rfl rfl)) (fun _ h9 => h9) rfl (by decide +kernel) rfl rfl (Nat.le_of_ble_eq_true rfl) d_St_66 (fun H locs hP hD hS => ?_)
  have hP : va_P D qcl [(h0, .inr (2, [.null, .ref q1, .ref q2, .ref q3, .ref q4, .ref q5, .int 0, .int 0, .int 0, .int (-1), .int 0, .int 0])), (q1, .inl (k1, 6, .inl fun _ => 0)), (q2, .inl (k2, 6, .inl fun _ => 0)), (q3, .inl (k3, 6, .inl fun _ => 0)), (q4, .inl (k4, 6, .inl fun _ => 0)), (q5, .inl (k5, 6, .inl fun _ => 0))] H := hP
  have hD : va_D A [(h0, .inr (2, [.null, .ref q1, .ref q2, .ref q3, .ref q4, .ref q5, .int 0, .int 0, .int 0, .int (-1), .int 0, .int 0])), (q1, .inl (k1, 6, .inl fun _ => 0)), (q2, .inl (k2, 6, .inl fun _ => 0)), (q3, .inl (k3, 6, .inl fun _ => 0)), (q4, .inl (k4, 6, .inl fun _ => 0)), (q5, .inl (k5, 6, .inl fun _ => 0))] := hD
  refine lv_aload_n hx hb d_St_69 rfl (lv_at hl 0 rfl) ?_
  refine k_push (v := 0) (pc' := 71) hx hb (by decide +kernel) ?_
  refine va_put (D := D) (ci := 2) (v := .int 0) (ty := .int) (C := qR2) (T := qT2) (N := 12) hx hb hts i_q2 qy2 t_q2 n_q2 hown hK hP hD hS 0 rfl rfl 11 (by decide) (hts (.fieldLink qR2 44 qR2 "law" "I") (inTT (p := 170) rfl rfl)) (fun _ h9 => h9) rfl (by decide +kernel) rfl rfl (Nat.le_of_ble_eq_true rfl) d_St_71 (fun H locs hP hD hS => ?_)
  have hP : va_P D qcl [(h0, .inr (2, [.null, .ref q1, .ref q2, .ref q3, .ref q4, .ref q5, .int 0, .int 0, .int 0, .int (-1), .int 0, .int 0])), (q1, .inl (k1, 6, .inl fun _ => 0)), (q2, .inl (k2, 6, .inl fun _ => 0)), (q3, .inl (k3, 6, .inl fun _ => 0)), (q4, .inl (k4, 6, .inl fun _ => 0)), (q5, .inl (k5, 6, .inl fun _ => 0))] H := hP
  have hD : va_D A [(h0, .inr (2, [.null, .ref q1, .ref q2, .ref q3, .ref q4, .ref q5, .int 0, .int 0, .int 0, .int (-1), .int 0, .int 0])), (q1, .inl (k1, 6, .inl fun _ => 0)), (q2, .inl (k2, 6, .inl fun _ => 0)), (q3, .inl (k3, 6, .inl fun _ => 0)), (q4, .inl (k4, 6, .inl fun _ => 0)), (q5, .inl (k5, 6, .inl fun _ => 0))] := hD
  refine lv_aload_n hx hb d_St_74 rfl (lv_at hl 0 rfl) ?_
  refine lv_aload_n hx hb d_St_75 rfl (lv_at hl 1 rfl) ?_
  refine va_putF (D := D) (ci := 2) (v := .ref tx) (ty := .object "FerryForAlone$Texts") (C := qR2) (T := qT2) (N := 12) hx hb hts i_q2 qy2 t_q2 n_q2 hown hK hP hD hS 0 rfl rfl 0 (by decide) (hts (.fieldLink qR2 47 qR2 "texts" "LFerryForAlone$Texts;") (inTT (p := 149) rfl rfl)) (fun _ h9 => h9) rfl hin rfl (by decide +kernel) rfl rfl (Nat.le_of_ble_eq_true rfl) d_St_76 (fun H locs hP hD hS => ?_)
  have hP : va_P D qcl [(h0, .inr (2, [.ref tx, .ref q1, .ref q2, .ref q3, .ref q4, .ref q5, .int 0, .int 0, .int 0, .int (-1), .int 0, .int 0])), (q1, .inl (k1, 6, .inl fun _ => 0)), (q2, .inl (k2, 6, .inl fun _ => 0)), (q3, .inl (k3, 6, .inl fun _ => 0)), (q4, .inl (k4, 6, .inl fun _ => 0)), (q5, .inl (k5, 6, .inl fun _ => 0))] H := hP
  have hD : va_D A [(h0, .inr (2, [.ref tx, .ref q1, .ref q2, .ref q3, .ref q4, .ref q5, .int 0, .int 0, .int 0, .int (-1), .int 0, .int 0])), (q1, .inl (k1, 6, .inl fun _ => 0)), (q2, .inl (k2, 6, .inl fun _ => 0)), (q3, .inl (k3, 6, .inl fun _ => 0)), (q4, .inl (k4, 6, .inl fun _ => 0)), (q5, .inl (k5, 6, .inl fun _ => 0))] := hD
  exact W.vret hx hb hr (fun t ht hW => ⟨⟨(), rfl, trivial, q1, q2, q3, q4, q5, k1, k2, k3, k4, k5, by rw [ht]; exact hP, va_K.moved hW.alike hK, hD⟩, hS.F ht⟩) hS.2.2 d_St_79
theorem d_Sh_0 : decode prog_3_method_1_code 0 = .ok (.aload_n 0, 1) := by decide +kernel
theorem d_Sh_1 : decode prog_3_method_1_code 1 = .ok (.invokespecial 3, 3) := by decide +kernel
theorem d_Sh_4 : decode prog_3_method_1_code 4 = .ok (.aload_n 0, 1) := by decide +kernel
theorem d_Sh_8 : decode prog_3_method_1_code 8 = .ok (.newarray .int, 2) := by decide +kernel
theorem d_Sh_10 : decode prog_3_method_1_code 10 = .ok (.putfield 9, 3) := by decide +kernel
theorem d_Sh_13 : decode prog_3_method_1_code 13 = .ok (.aload_n 0, 1) := by decide +kernel
theorem d_Sh_15 : decode prog_3_method_1_code 15 = .ok (.newarray .int, 2) := by decide +kernel
theorem d_Sh_17 : decode prog_3_method_1_code 17 = .ok (.putfield 15, 3) := by decide +kernel
theorem d_Sh_20 : decode prog_3_method_1_code 20 = .ok (.aload_n 0, 1) := by decide +kernel
theorem d_Sh_22 : decode prog_3_method_1_code 22 = .ok (.newarray .int, 2) := by decide +kernel
theorem d_Sh_24 : decode prog_3_method_1_code 24 = .ok (.putfield 18, 3) := by decide +kernel
theorem d_Sh_28 : decode prog_3_method_1_code 28 = .ok (.istore_n 1, 1) := by decide +kernel
theorem d_Sh_29 : decode prog_3_method_1_code 29 = .ok (.iload_n 1, 1) := by decide +kernel
theorem d_Sh_31 : decode prog_3_method_1_code 31 = .ok (.if_icmp .ge 16, 3) := by decide +kernel
theorem d_Sh_34 : decode prog_3_method_1_code 34 = .ok (.aload_n 0, 1) := by decide +kernel
theorem d_Sh_35 : decode prog_3_method_1_code 35 = .ok (.getfield 15, 3) := by decide +kernel
theorem d_Sh_38 : decode prog_3_method_1_code 38 = .ok (.iload_n 1, 1) := by decide +kernel
theorem d_Sh_40 : decode prog_3_method_1_code 40 = .ok (.iastore, 1) := by decide +kernel
theorem d_Sh_41 : decode prog_3_method_1_code 41 = .ok (.iinc 1 1, 3) := by decide +kernel
theorem d_Sh_44 : decode prog_3_method_1_code 44 = .ok (.goto (-15), 3) := by decide +kernel
theorem d_Sh_47 : decode prog_3_method_1_code 47 = .ok (.return_, 1) := by decide +kernel
def y_Sh : MethodName := ⟨qR1, "<init>", "()V"⟩
def w_Sh : List Jvm.Cond := .code y_Sh prog_3_method_1_code 2 none :: TT
set_option maxHeartbeats 4000000 in
set_option maxRecDepth 100000 in
theorem c_Sh (l : Launch) (D : va_G) (h0 : Nat) (sz : Nat) : Met l y_Sh w_Sh ({ frames := 1, cells := 3, slots := 168, locals := 12 }) (va_Pc [.ref h0] (fun U => U.heap.size = sz ∧ va_P D qcl [(h0, .inr (1, [.null, .null, .null]))] U.heap ∧ va_K D qcl [] U ∧ va_D (fun _ => True) [(h0, .inr (1, [.null, .null, .null]))])) (va_Qv (fun _ : Unit => True) (fun _ t => ∃ (q1 : Nat) (q2 : Nat) (q3 : Nat) (k1 : ClassId) (k2 : ClassId) (k3 : ClassId), va_P D qcl [(h0, .inr (1, [.ref q1, .ref q2, .ref q3])), (q1, .inl (k1, 160, .inl fun _ => 0)), (q2, .inl (k2, 4, .inl (upd (upd (upd (upd (fun _ => 0) 0 (-1)) 1 (-1)) 2 (-1)) 3 (-1)))), (q3, .inl (k3, 4, .inl fun _ => 0))] t.heap ∧ va_K D qcl [(k1, .int), (k2, .int), (k3, .int)] t ∧ va_D (va_A [(h0, .inr (1, [.null, .null, .null]))] sz) [(h0, .inr (1, [.ref q1, .ref q2, .ref q3])), (q1, .inl (k1, 160, .inl fun _ => 0)), (q2, .inl (k2, 4, .inl (upd (upd (upd (upd (fun _ => 0) 0 (-1)) 1 (-1)) 2 (-1)) 3 (-1)))), (q3, .inl (k3, 4, .inl fun _ => 0))]) (va_A [(h0, .inr (1, [.null, .null, .null]))] sz)) 3 168 (va_A [(h0, .inr (1, [.null, .null, .null]))] sz) := by
  refine Met.ofW (cc := prog_3_method_1_code) (maxL := 2) (ret := none) (by decide) rfl ?_
  intro p e s m args below meth c s₁ B hml hv
  obtain ⟨rfl, hsz, hP, hK, hD0⟩ := hv
  have hx := B.exec
  have hb := B.bytes
  have hr := B.returns
  have hts0 := atoms_spec (ws := w_Sh) B.pre
  have hts : ∀ w ∈ TT, w.before _ s = true := fun w hw => hts0 w (List.mem_cons_of_mem _ hw)
  have hown : s.vm.findClass qR1 = some m.cls := findClass_of_methodNamed B.named
  have hlocks := B.notSynchronized
  have hin : meth.name = "<init>" := (name_of_methodNamed B.named B.method).1
  subst hsz
  have hD := hD0.self (sz := s.heap.size)
  generalize hAe : va_A [(h0, .inr (1, [.null, .null, .null]))] s.heap.size = A at hD ⊢
  have hA : ∀ q : Nat, s.heap.size ≤ q → A q := fun q h => by rw [← hAe]; exact Or.inr h
  have hS : va_S A s.heap s.heap [] := va_S.rf
  have hP : va_P D qcl [(h0, .inr (1, [.null, .null, .null]))] s.heap := hP
  have hl := lv_entry ([.ref h0]) (n := 2) (Nat.le_of_ble_eq_true rfl)
  rw [lg_entry_eq]
  generalize (lg_sl ([.ref h0]) ++ List.replicate (2 - (lg_sl ([.ref h0])).length) Slot.unset).toArray = ls at hl ⊢
  have hl : lv_has ls 2 [(0, .ref h0)] := hl
  refine W.eq (g2 := F0 m 0 ls []) rfl ?_
  refine lv_aload_n hx hb d_Sh_0 rfl (lv_at hl 0 rfl) ?_
  refine W.objInit hx hb hown (hts (.methodLink qR1 3 objectInit) (inTT (p := 204) rfl rfl)) (hts (.instanceMethod objectInit) (inTT (p := 79) rfl rfl)) (hts (.code objectInit ⟨#[0xb1]⟩ 1 none) (inTT (p := 80) rfl rfl)) rfl (by rw [hml]; exact hl.1) rfl d_Sh_1 (Nat.le_of_ble_eq_true rfl) (Nat.le_of_ble_eq_true rfl) ?_
  refine W.eq (g2 := F0 m 4 ls []) rfl ?_
  refine lv_aload_n hx hb d_Sh_4 rfl (lv_at hl 0 rfl) ?_
  refine k_push (v := 160) (pc' := 8) hx hb (by decide +kernel) ?_
  refine va_newa (atype := .int) (ty := .int) (N' := 160) (a0 := (160, .inl fun _ => 0)) hx hb (hts (.arrayClass .int) (inTT (p := 108) rfl rfl)) rfl hK hP hD hS hA (fun _ => rfl) (by decide) (by decide) (by decide) (Nat.le_of_ble_eq_true rfl) (Nat.le_of_ble_eq_true rfl) d_Sh_8 (fun q1 k1 H hK hP hD hS => ?_)
  have hP : va_P D qcl [(h0, .inr (1, [.null, .null, .null])), (q1, .inl (k1, 160, .inl fun _ => 0))] H := hP
  have hD : va_D A [(h0, .inr (1, [.null, .null, .null])), (q1, .inl (k1, 160, .inl fun _ => 0))] := hD
  have hK : va_K D qcl [(k1, .int)] s := hK
  refine W.cs (cells' := 1) (slots' := 160) rfl rfl ?_
  refine va_putF (D := D) (ci := 1) (v := .ref q1) (ty := .array .int) (C := qR1) (T := qT1) (N := 3) hx hb hts i_q1 qy1 t_q1 n_q1 hown hK hP hD hS 0 rfl rfl 0 (by decide) (hts (.fieldLink qR1 9 qR1 "cells" "[I") (inTT (p := 205) rfl rfl)) (fun _ h9 => h9) rfl hin rfl (by decide +kernel) rfl rfl (Nat.le_of_ble_eq_true rfl) d_Sh_10 (fun H locs hP hD hS => ?_)
  have hP : va_P D qcl [(h0, .inr (1, [.ref q1, .null, .null])), (q1, .inl (k1, 160, .inl fun _ => 0))] H := hP
  have hD : va_D A [(h0, .inr (1, [.ref q1, .null, .null])), (q1, .inl (k1, 160, .inl fun _ => 0))] := hD
  refine lv_aload_n hx hb d_Sh_13 rfl (lv_at hl 0 rfl) ?_
  refine k_push (v := 4) (pc' := 15) hx hb (by decide +kernel) ?_
  refine va_newa (atype := .int) (ty := .int) (N' := 4) (a0 := (4, .inl fun _ => 0)) hx hb (hts (.arrayClass .int) (inTT (p := 108) rfl rfl)) rfl hK hP hD hS hA (fun _ => rfl) (by decide) (by decide) (by decide) (Nat.le_of_ble_eq_true rfl) (Nat.le_of_ble_eq_true rfl) d_Sh_15 (fun q2 k2 H hK hP hD hS => ?_)
  have hP : va_P D qcl [(h0, .inr (1, [.ref q1, .null, .null])), (q1, .inl (k1, 160, .inl fun _ => 0)), (q2, .inl (k2, 4, .inl fun _ => 0))] H := hP
  have hD : va_D A [(h0, .inr (1, [.ref q1, .null, .null])), (q1, .inl (k1, 160, .inl fun _ => 0)), (q2, .inl (k2, 4, .inl fun _ => 0))] := hD
  have hK : va_K D qcl [(k1, .int), (k2, .int)] s := hK
  refine W.cs (cells' := 2) (slots' := 164) rfl rfl ?_
  refine va_putF (D := D) (ci := 1) (v := .ref q2) (ty := .array .int) (C := qR1) (T := qT1) (N := 3) hx hb hts i_q1 qy1 t_q1 n_q1 hown hK hP hD hS 0 rfl rfl 1 (by decide) (hts (.fieldLink qR1 15 qR1 "sort" "[I") (inTT (p := 206) rfl rfl)) (fun _ h9 => h9) rfl hin rfl (by decide +kernel) rfl rfl (Nat.le_of_ble_eq_true rfl) d_Sh_17 (fun H locs hP hD hS => ?_)
  have hP : va_P D qcl [(h0, .inr (1, [.ref q1, .ref q2, .null])), (q1, .inl (k1, 160, .inl fun _ => 0)), (q2, .inl (k2, 4, .inl fun _ => 0))] H := hP
  have hD : va_D A [(h0, .inr (1, [.ref q1, .ref q2, .null])), (q1, .inl (k1, 160, .inl fun _ => 0)), (q2, .inl (k2, 4, .inl fun _ => 0))] := hD
  refine lv_aload_n hx hb d_Sh_20 rfl (lv_at hl 0 rfl) ?_
  refine k_push (v := 4) (pc' := 22) hx hb (by decide +kernel) ?_
  refine va_newa (atype := .int) (ty := .int) (N' := 4) (a0 := (4, .inl fun _ => 0)) hx hb (hts (.arrayClass .int) (inTT (p := 108) rfl rfl)) rfl hK hP hD hS hA (fun _ => rfl) (by decide) (by decide) (by decide) (Nat.le_of_ble_eq_true rfl) (Nat.le_of_ble_eq_true rfl) d_Sh_22 (fun q3 k3 H hK hP hD hS => ?_)
  have hP : va_P D qcl [(h0, .inr (1, [.ref q1, .ref q2, .null])), (q1, .inl (k1, 160, .inl fun _ => 0)), (q2, .inl (k2, 4, .inl fun _ => 0)), (q3, .inl (k3, 4, .inl fun _ => 0))] H := hP
  have hD : va_D A [(h0, .inr (1, [.ref q1, .ref q2, .null])), (q1, .inl (k1, 160, .inl fun _ => 0)), (q2, .inl (k2, 4, .inl fun _ => 0)), (q3, .inl (k3, 4, .inl fun _ => 0))] := hD
  have hK : va_K D qcl [(k1, .int), (k2, .int), (k3, .int)] s := hK
  refine W.cs (cells' := 3) (slots' := 168) rfl rfl ?_
  refine va_putF (D := D) (ci := 1) (v := .ref q3) (ty := .array .int) (C := qR1) (T := qT1) (N := 3) hx hb hts i_q1 qy1 t_q1 n_q1 hown hK hP hD hS 0 rfl rfl 2 (by decide) (hts (.fieldLink qR1 18 qR1 "size" "[I") (inTT (p := 208) rfl rfl)) (fun _ h9 => h9) rfl hin rfl (by decide +kernel) rfl rfl (Nat.le_of_ble_eq_true rfl) d_Sh_24 (fun H locs hP hD hS => ?_)
  have hP : va_P D qcl [(h0, .inr (1, [.ref q1, .ref q2, .ref q3])), (q1, .inl (k1, 160, .inl fun _ => 0)), (q2, .inl (k2, 4, .inl fun _ => 0)), (q3, .inl (k3, 4, .inl fun _ => 0))] H := hP
  have hD : va_D A [(h0, .inr (1, [.ref q1, .ref q2, .ref q3])), (q1, .inl (k1, 160, .inl fun _ => 0)), (q2, .inl (k2, 4, .inl fun _ => 0)), (q3, .inl (k3, 4, .inl fun _ => 0))] := hD
  refine k_push (v := 0) (pc' := 28) hx hb (by decide +kernel) ?_
  refine lv_istore_n (lv' := [(1, .int 0), (0, .ref h0)]) hx hb d_Sh_28 rfl hl (by decide) rfl (fun ls hl => ?_)
  refine lv_iload_n hx hb d_Sh_29 rfl (lv_at hl 0 rfl) ?_
  refine k_push (v := 4) (pc' := 31) hx hb (by decide +kernel) ?_
  refine lv_icmp_ge (tgt := 47) hx hb d_Sh_31 (by decide) (fun c_ => absurd c_ (by decide)) (fun _ => ?_)
  refine lv_aload_n hx hb d_Sh_34 rfl (lv_at hl 1 rfl) ?_
  refine va_get (D := D) (ci := 1) (v := .ref q2) (C := qR1) (T := qT1) (N := 3) hx hb hts i_q1 hown hK hP 0 rfl rfl 1 (by decide) (hts (.fieldLink qR1 15 qR1 "sort" "[I") (inTT (p := 206) rfl rfl)) (fun _ h9 => h9) rfl d_Sh_35 ?_
  refine lv_iload_n hx hb d_Sh_38 rfl (lv_at hl 0 rfl) ?_
  refine k_push (v := (-1)) (pc' := 40) hx hb (by decide +kernel) ?_
  refine va_iast hx hb hK hP hD hS 2 1 rfl rfl (inb_in (by decide +kernel)) d_Sh_40 (fun H locs hP hD hS => ?_)
  have hP : va_P D qcl [(h0, .inr (1, [.ref q1, .ref q2, .ref q3])), (q1, .inl (k1, 160, .inl fun _ => 0)), (q2, .inl (k2, 4, .inl (upd (fun _ => 0) 0 (-1)))), (q3, .inl (k3, 4, .inl fun _ => 0))] H := hP
  have hD : va_D A [(h0, .inr (1, [.ref q1, .ref q2, .ref q3])), (q1, .inl (k1, 160, .inl fun _ => 0)), (q2, .inl (k2, 4, .inl (upd (fun _ => 0) 0 (-1)))), (q3, .inl (k3, 4, .inl fun _ => 0))] := hD
  refine lv_iinc (v := 1) (lv' := [(1, .int 1), (0, .ref h0)]) hx hb d_Sh_41 hl (k := 0) rfl (by decide) (by decide) rfl (fun ls hl => ?_)
  refine lv_goto (tgt := 29) hx hb d_Sh_44 (by decide) ?_
  refine lv_iload_n hx hb d_Sh_29 rfl (lv_at hl 0 rfl) ?_
  refine k_push (v := 4) (pc' := 31) hx hb (by decide +kernel) ?_
  refine lv_icmp_ge (tgt := 47) hx hb d_Sh_31 (by decide) (fun c_ => absurd c_ (by decide)) (fun _ => ?_)
  refine lv_aload_n hx hb d_Sh_34 rfl (lv_at hl 1 rfl) ?_
  refine va_get (D := D) (ci := 1) (v := .ref q2) (C := qR1) (T := qT1) (N := 3) hx hb hts i_q1 hown hK hP 0 rfl rfl 1 (by decide) (hts (.fieldLink qR1 15 qR1 "sort" "[I") (inTT (p := 206) rfl rfl)) (fun _ h9 => h9) rfl d_Sh_35 ?_
  refine lv_iload_n hx hb d_Sh_38 rfl (lv_at hl 0 rfl) ?_
  refine k_push (v := (-1)) (pc' := 40) hx hb (by decide +kernel) ?_
  refine va_iast hx hb hK hP hD hS 2 1 rfl rfl (inb_in (by decide +kernel)) d_Sh_40 (fun H locs hP hD hS => ?_)
  have hP : va_P D qcl [(h0, .inr (1, [.ref q1, .ref q2, .ref q3])), (q1, .inl (k1, 160, .inl fun _ => 0)), (q2, .inl (k2, 4, .inl (upd (upd (fun _ => 0) 0 (-1)) 1 (-1)))), (q3, .inl (k3, 4, .inl fun _ => 0))] H := hP
  have hD : va_D A [(h0, .inr (1, [.ref q1, .ref q2, .ref q3])), (q1, .inl (k1, 160, .inl fun _ => 0)), (q2, .inl (k2, 4, .inl (upd (upd (fun _ => 0) 0 (-1)) 1 (-1)))), (q3, .inl (k3, 4, .inl fun _ => 0))] := hD
  refine lv_iinc (v := 2) (lv' := [(1, .int 2), (0, .ref h0)]) hx hb d_Sh_41 hl (k := 0) rfl (by decide) (by decide) rfl (fun ls hl => ?_)
  refine lv_goto (tgt := 29) hx hb d_Sh_44 (by decide) ?_
  refine lv_iload_n hx hb d_Sh_29 rfl (lv_at hl 0 rfl) ?_
  refine k_push (v := 4) (pc' := 31) hx hb (by decide +kernel) ?_
  refine lv_icmp_ge (tgt := 47) hx hb d_Sh_31 (by decide) (fun c_ => absurd c_ (by decide)) (fun _ => ?_)
  refine lv_aload_n hx hb d_Sh_34 rfl (lv_at hl 1 rfl) ?_
  refine va_get (D := D) (ci := 1) (v := .ref q2) (C := qR1) (T := qT1) (N := 3) hx hb hts i_q1 hown hK hP 0 rfl rfl 1 (by decide) (hts (.fieldLink qR1 15 qR1 "sort" "[I") (inTT (p := 206) rfl rfl)) (fun _ h9 => h9) rfl d_Sh_35 ?_
  refine lv_iload_n hx hb d_Sh_38 rfl (lv_at hl 0 rfl) ?_
  refine k_push (v := (-1)) (pc' := 40) hx hb (by decide +kernel) ?_
  refine va_iast hx hb hK hP hD hS 2 1 rfl rfl (inb_in (by decide +kernel)) d_Sh_40 (fun H locs hP hD hS => ?_)
  have hP : va_P D qcl [(h0, .inr (1, [.ref q1, .ref q2, .ref q3])), (q1, .inl (k1, 160, .inl fun _ => 0)), (q2, .inl (k2, 4, .inl (upd (upd (upd (fun _ => 0) 0 (-1)) 1 (-1)) 2 (-1)))), (q3, .inl (k3, 4, .inl fun _ => 0))] H := hP
  have hD : va_D A [(h0, .inr (1, [.ref q1, .ref q2, .ref q3])), (q1, .inl (k1, 160, .inl fun _ => 0)), (q2, .inl (k2, 4, .inl (upd (upd (upd (fun _ => 0) 0 (-1)) 1 (-1)) 2 (-1)))), (q3, .inl (k3, 4, .inl fun _ => 0))] := hD
  refine lv_iinc (v := 3) (lv' := [(1, .int 3), (0, .ref h0)]) hx hb d_Sh_41 hl (k := 0) rfl (by decide) (by decide) rfl (fun ls hl => ?_)
  refine lv_goto (tgt := 29) hx hb d_Sh_44 (by decide) ?_
  refine lv_iload_n hx hb d_Sh_29 rfl (lv_at hl 0 rfl) ?_
  refine k_push (v := 4) (pc' := 31) hx hb (by decide +kernel) ?_
  refine lv_icmp_ge (tgt := 47) hx hb d_Sh_31 (by decide) (fun c_ => absurd c_ (by decide)) (fun _ => ?_)
  refine lv_aload_n hx hb d_Sh_34 rfl (lv_at hl 1 rfl) ?_
  refine va_get (D := D) (ci := 1) (v := .ref q2) (C := qR1) (T := qT1) (N := 3) hx hb hts i_q1 hown hK hP 0 rfl rfl 1 (by decide) (hts (.fieldLink qR1 15 qR1 "sort" "[I") (inTT (p := 206) rfl rfl)) (fun _ h9 => h9) rfl d_Sh_35 ?_
  refine lv_iload_n hx hb d_Sh_38 rfl (lv_at hl 0 rfl) ?_
  refine k_push (v := (-1)) (pc' := 40) hx hb (by decide +kernel) ?_
  refine va_iast hx hb hK hP hD hS 2 1 rfl rfl (inb_in (by decide +kernel)) d_Sh_40 (fun H locs hP hD hS => ?_)
  have hP : va_P D qcl [(h0, .inr (1, [.ref q1, .ref q2, .ref q3])), (q1, .inl (k1, 160, .inl fun _ => 0)), (q2, .inl (k2, 4, .inl (upd (upd (upd (upd (fun _ => 0) 0 (-1)) 1 (-1)) 2 (-1)) 3 (-1)))), (q3, .inl (k3, 4, .inl fun _ => 0))] H := hP
  have hD : va_D A [(h0, .inr (1, [.ref q1, .ref q2, .ref q3])), (q1, .inl (k1, 160, .inl fun _ => 0)), (q2, .inl (k2, 4, .inl (upd (upd (upd (upd (fun _ => 0) 0 (-1)) 1 (-1)) 2 (-1)) 3 (-1)))), (q3, .inl (k3, 4, .inl fun _ => 0))] := hD
  refine lv_iinc (v := 4) (lv' := [(1, .int 4), (0, .ref h0)]) hx hb d_Sh_41 hl (k := 0) rfl (by decide) (by decide) rfl (fun ls hl => ?_)
  refine lv_goto (tgt := 29) hx hb d_Sh_44 (by decide) ?_
  refine lv_iload_n hx hb d_Sh_29 rfl (lv_at hl 0 rfl) ?_
  refine k_push (v := 4) (pc' := 31) hx hb (by decide +kernel) ?_
  refine lv_icmp_ge (tgt := 47) hx hb d_Sh_31 (by decide) (fun _ => ?_) (fun c_ => absurd (by decide) c_)
  exact W.vret hx hb hr (fun t ht hW => ⟨⟨(), rfl, trivial, q1, q2, q3, k1, k2, k3, by rw [ht]; exact hP, va_K.moved hW.alike hK, hD⟩, hS.F ht⟩) hS.2.2 d_Sh_47
