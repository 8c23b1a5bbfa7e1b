/-! THE LAW: what is given of the strings and the statics, then its start -/
def sNo (i : Nat) : Nat := (strK.getD i (0, "")).1
def sTm (i : Nat) : Term := .string "FerryForAlone$Reader" (sNo i)
abbrev gvL : List Jvm.Cond := flatC (Jvm.Cond.and given_1 narrow_1)
set_option maxRecDepth 100000 in
theorem g_ex : ∀ i : Nat, i < 12 → (Jvm.Cond.exactly (sTm i) "java/lang/String") ∈ gvL := by decide +kernel
set_option maxRecDepth 100000 in
theorem g_co : ∀ i : Nat, i < 12 → (Jvm.Cond.eq (.field (sTm i) "java/lang/String" "coder" "B") (.int 0)) ∈ gvL := by decide +kernel
set_option maxRecDepth 100000 in
theorem g_ar : ∀ i : Nat, i < 12 → (Jvm.Cond.arrayOf (.field (sTm i) "java/lang/String" "value" "[B") .byte) ∈ gvL := by decide +kernel
set_option maxRecDepth 100000 in
theorem g_le : ∀ i : Nat, i < 12 → (Jvm.Cond.eq (.length (.field (sTm i) "java/lang/String" "value" "[B")) (.int (Int32.ofNat (lenL.getD i 0)))) ∈ gvL := by decide +kernel
set_option maxRecDepth 100000 in
theorem g_el : ∀ i : Nat, i < 12 → ∀ j : Nat, j < lenL.getD i 0 → (Jvm.Cond.eq (.elem (.field (sTm i) "java/lang/String" "value" "[B") (.int (Int32.ofNat j))) (.int ((byteL.getD i []).getD j 0))) ∈ gvL := by decide +kernel
set_option maxRecDepth 100000 in
theorem g_ne : ∀ i : Nat, i < 12 → ∀ j : Nat, j < 12 → i ≠ j → (Jvm.Cond.not (Jvm.Cond.eq (sTm i) (sTm j))) ∈ gvL ∨ (Jvm.Cond.not (Jvm.Cond.eq (sTm j) (sTm i))) ∈ gvL := by decide +kernel
theorem g_lt : ∀ i : Nat, i < 12 → lenL.getD i 0 < 2 ^ 31 := by decide +kernel
theorem l_at {p : Nat} {w : Jvm.Cond} (h : nth lw_tbl p = some w) : w ∈ lw_tbl := by
  rw [nth_get] at h
  exact List.mem_of_getElem? h
set_option maxHeartbeats 4000000 in
set_option maxRecDepth 100000 in
theorem l_ext {b : Nat} {s : State} (hgv : (Jvm.Cond.and given_1 narrow_1).before #[Value.ref b] s = true) (hts : ∀ w ∈ lw_tbl, w.before #[Value.ref b] s = true) : ∃ E : Geo, Ext E (fun q => s.heap.size ≤ q) s s.heap := by
  have hs := flat_of_before _ hgv
  have hA : ∀ a : Nat, a < s.heap.size → ¬ (fun q : Nat => s.heap.size ≤ q) a := fun a h => Nat.not_le.mpr h
  obtain ⟨adK, adV, hS, hev⟩ := vk_Sof (args := #[Value.ref b]) (s := s) (N := 12) (tm := sTm) (len := lenL) (byt := byteL) (A := fun q => s.heap.size ≤ q) g_lt (fun i hi => hs _ (g_ex i hi)) (fun i hi => hs _ (g_co i hi)) (fun i hi => hs _ (g_ar i hi)) (fun i hi => hs _ (g_le i hi)) (fun i hi j hj => hs _ (g_el i hi j hj)) (fun i j hi hj hij => (g_ne i hi j hj hij).imp (fun h => hs _ h) (fun h => hs _ h)) hA
  have hc : (Jvm.Cond.eq (.static "java/lang/String" "COMPACT_STRINGS" "Z") (.int 1)).before #[Value.ref b] s = true := hs _ (by decide +kernel)
  have hf : (Jvm.Cond.isRef (.static "jdk/internal/util/Preconditions" "SIOOBE_FORMATTER" "Ljava/util/function/BiFunction;")).before #[Value.ref b] s = true := hs _ (by decide +kernel)
  obtain ⟨v, hv, hr⟩ := Cond.isRef_spec hf
  have hZ1 := va_Zof (C := "java/lang/String") (n := "COMPACT_STRINGS") (d := "Z") (v := .int 1) (A := fun q => s.heap.size ≤ q) (hts _ (l_at (p := 365) rfl)) (hts _ (l_at (p := 67) rfl)) (va_eqi hc) hA
  have hZ2 := va_Zof (C := "jdk/internal/util/Preconditions") (n := "SIOOBE_FORMATTER") (d := "Ljava/util/function/BiFunction;") (v := v) (A := fun q => s.heap.size ≤ q) (hts _ (l_at (p := 381) rfl)) (hts _ (l_at (p := 69) rfl)) hv hA
  have hN : va_Nw nestW s := va_Nw.of rfl (hts _ (l_at (p := 487) rfl))
  refine ⟨(fun _ => 0, fun _ => 0, (fun _ => 0, fun _ _ => 0), adK, adV, v), hS, fun i q hq => ?_, hZ1, hZ2, hN, ?_⟩
  · match i, hq with
    | 0, hq => cases hq; exact vk_R.of (hts _ (l_at (p := 351) rfl)) (hev 0 (by decide))
    | 1, hq => cases hq; exact vk_R.of (hts _ (l_at (p := 404) rfl)) (hev 1 (by decide))
    | 2, hq => cases hq; exact vk_R.of (hts _ (l_at (p := 405) rfl)) (hev 2 (by decide))
    | 3, hq => cases hq; exact vk_R.of (hts _ (l_at (p := 406) rfl)) (hev 3 (by decide))
    | 4, hq => cases hq; exact vk_R.of (hts _ (l_at (p := 407) rfl)) (hev 4 (by decide))
    | 5, hq => cases hq; exact vk_R.of (hts _ (l_at (p := 408) rfl)) (hev 5 (by decide))
    | 6, hq => cases hq; exact vk_R.of (hts _ (l_at (p := 409) rfl)) (hev 6 (by decide))
    | 7, hq => cases hq; exact vk_R.of (hts _ (l_at (p := 410) rfl)) (hev 7 (by decide))
    | 8, hq => cases hq; exact vk_R.of (hts _ (l_at (p := 411) rfl)) (hev 8 (by decide))
    | 9, hq => cases hq; exact vk_R.of (hts _ (l_at (p := 412) rfl)) (hev 9 (by decide))
    | 10, hq => cases hq; exact vk_R.of (hts _ (l_at (p := 413) rfl)) (hev 10 (by decide))
    | 11, hq => cases hq; exact vk_R.of (hts _ (l_at (p := 414) rfl)) (hev 11 (by decide))
    | i + 12, hq => cases hq
  · cases v with
    | null => exact Or.inl rfl
    | ref t => exact Or.inr ⟨t, rfl⟩
    | int _ => cases hr
    | long _ => cases hr
    | float _ => cases hr
    | double _ => cases hr
    | retAddr _ => cases hr
