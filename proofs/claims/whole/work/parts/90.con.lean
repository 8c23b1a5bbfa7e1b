/-! CONSTRUCTORS: numbers pushed, rows with given contents -/
def psh (cc : ByteArray) (pc : Nat) (v : Int32) : Option Nat := match decode cc pc with
  | .ok (.iconst n, 1) => if Int32.ofInt n = v then some (pc + 1) else none
  | .ok (.bipush n, 2) => if (Int8.ofInt n).toInt32 = v then some (pc + 2) else none
  | .ok (.sipush n, 3) => if (Int16.ofInt n).toInt32 = v then some (pc + 3) else none
  | _ => none
def litF (f : Nat → Int32) : List (Int32 × Int32) → Nat → Int32
  | [] => f
  | q :: l => litF (upd f q.1.toNatClampNeg q.2) l
def litC (cc : ByteArray) (n : Nat) : Nat → List (Int32 × Int32) → Option Nat
  | pc, [] => some pc
  | pc, q :: l => match decode cc pc with
    | .ok (.dup, 1) => match psh cc (pc + 1) q.1 with
      | some p1 => match psh cc p1 q.2 with
        | some p2 => match decode cc p2 with
          | .ok (.iastore, 1) => if inb q.1 n = true then litC cc n (p2 + 1) l else none
          | _ => none
        | none => none
      | none => none
    | _ => none
section CON
variable {p : Program} {l : Launch} {e : Env} {R : Room} {s : State} {m : MethodId} {args : Array Value} {below : List Frame} {meth : Method} {c : Code} {H : Heap} {locs : List Loc} {cells slots : Nat} {Q : State → Prop} {ls : Array Slot} {cc : ByteArray}
theorem k_push {v : Int32} {pc pc' : Nat} {st : List Value} (hx : p.tables.exec = Jvm.exec) (hb : c.code = cc) (h : psh cc pc v = some pc') (kk : W p l e R s m args below meth c H locs cells slots Q (F0 m pc' ls (.int v :: st))) : W p l e R s m args below meth c H locs cells slots Q (F0 m pc ls st) := by
  unfold psh at h
  split at h
  · rename_i n hd
    split at h
    · rename_i hv
      cases h
      exact lv_iconst hx hb hd hv kk
    · cases h
  · rename_i n hd
    split at h
    · rename_i hv
      cases h
      exact lv_bipush hx hb hd hv kk
    · cases h
  · rename_i n hd
    split at h
    · rename_i hv
      cases h
      exact lv_sipush hx hb hd hv kk
    · cases h
  · cases h
theorem k_lit {D : va_G} {cl : List vw_C} {tys : List (ClassId × FieldType)} {A : Nat → Prop} {H0 : Heap} {a q0 t0 n : Nat} {cA : ClassId} {st : List Value} (hx : p.tables.exec = Jvm.exec) (hb : c.code = cc) (hK : va_K D cl tys s) (ht : tys[t0]? = some (cA, .int)) :
    ∀ (q : List (Int32 × Int32)) (pc pc' : Nat) (f : Nat → Int32) (ws : va_W) (H : Heap) (locs : List Loc), litC cc n pc q = some pc' → va_P D cl ws H → va_D A ws → va_S A H0 H locs → ws[q0]? = some (a, .inl (cA, n, .inl f)) →
      (∀ (H1 : Heap) (locs1 : List Loc), va_P D cl (ws.set q0 (a, .inl (cA, n, .inl (litF f q)))) H1 → va_D A (ws.set q0 (a, .inl (cA, n, .inl (litF f q)))) → va_S A H0 H1 locs1 → W p l e R s m args below meth c H1 locs1 cells slots Q (F0 m pc' ls (.ref a :: st))) →
      W p l e R s m args below meth c H locs cells slots Q (F0 m pc ls (.ref a :: st)) := by
  intro q
  induction q with
  | nil =>
    intro pc pc' f ws H locs h hP hD hS ha kk
    cases h
    have h1 : ws.set q0 (a, .inl (cA, n, .inl f)) = ws := by
      obtain ⟨hlt, he⟩ := List.getElem?_eq_some_iff.mp ha
      rw [← he]
      exact List.set_getElem_self hlt
    have h2 := kk H locs
    simp only [litF, h1] at h2
    exact h2 hP hD hS
  | cons z q ih =>
    intro pc pc' f ws H locs h hP hD hS ha kk
    unfold litC at h
    split at h
    · rename_i hd
      split at h
      · rename_i p1 hp1
        split at h
        · rename_i p2 hp2
          split at h
          · rename_i hd2
            split at h
            · rename_i hin
              refine lv_dup hx hb hd rfl ?_
              refine k_push hx hb hp1 ?_
              refine k_push hx hb hp2 ?_
              have hlt : q0 < ws.length := (List.getElem?_eq_some_iff.mp ha).1
              refine va_iast hx hb hK hP hD hS q0 t0 ha ht (inb_in hin) hd2 (fun H1 locs1 hP1 hD1 hS1 => ?_)
              refine ih _ pc' (upd f z.1.toNatClampNeg z.2) _ H1 locs1 h hP1 hD1 hS1 (by rw [List.getElem?_set_self hlt]) ?_
              rw [List.set_set]
              exact kk
            · cases h
          · cases h
        · cases h
      · cases h
    · cases h
end CON
/-! the words of the classes -/
theorem i_q0 : ∀ w ∈ u_ws qR0 qT0 9, w ∈ TT := (cls_all 0 _ _ _ rfl).1
theorem i_q1 : ∀ w ∈ u_ws qR1 qT1 3, w ∈ TT := (cls_all 1 _ _ _ rfl).1
theorem i_q2 : ∀ w ∈ u_ws qR2 qT2 12, w ∈ TT := (cls_all 2 _ _ _ rfl).1
theorem i_q3 : ∀ w ∈ u_ws qR3 qT3 5, w ∈ TT := (cls_all 3 _ _ _ rfl).1
theorem i_q4 : ∀ w ∈ u_ws qR4 qT4 9, w ∈ TT := (cls_all 4 _ _ _ rfl).1
theorem i_q5 : ∀ w ∈ u_ws qR5 qT5 32, w ∈ TT := (cls_all 5 _ _ _ rfl).1
theorem t_q0 : ∀ k, k < 9 → parseFieldDescriptor (qT0 k).2.2.1 = some (qy0 k) := by decide +kernel
theorem t_q1 : ∀ k, k < 3 → parseFieldDescriptor (qT1 k).2.2.1 = some (qy1 k) := by decide +kernel
theorem t_q2 : ∀ k, k < 12 → parseFieldDescriptor (qT2 k).2.2.1 = some (qy2 k) := by decide +kernel
theorem t_q3 : ∀ k, k < 5 → parseFieldDescriptor (qT3 k).2.2.1 = some (qy3 k) := by decide +kernel
theorem t_q4 : ∀ k, k < 9 → parseFieldDescriptor (qT4 k).2.2.1 = some (qy4 k) := by decide +kernel
theorem t_q5 : ∀ k, k < 32 → parseFieldDescriptor (qT5 k).2.2.1 = some (qy5 k) := by decide +kernel
theorem n_q0 : ∀ a, a < 9 → ∀ b, b < 9 → a ≠ b → (qT0 a).2.1 ≠ (qT0 b).2.1 := by decide +kernel
theorem n_q1 : ∀ a, a < 3 → ∀ b, b < 3 → a ≠ b → (qT1 a).2.1 ≠ (qT1 b).2.1 := by decide +kernel
theorem n_q2 : ∀ a, a < 12 → ∀ b, b < 12 → a ≠ b → (qT2 a).2.1 ≠ (qT2 b).2.1 := by decide +kernel
theorem n_q3 : ∀ a, a < 5 → ∀ b, b < 5 → a ≠ b → (qT3 a).2.1 ≠ (qT3 b).2.1 := by decide +kernel
theorem n_q4 : ∀ a, a < 9 → ∀ b, b < 9 → a ≠ b → (qT4 a).2.1 ≠ (qT4 b).2.1 := by decide +kernel
theorem n_q5 : ∀ a, a < 32 → ∀ b, b < 32 → a ≠ b → (qT5 a).2.1 ≠ (qT5 b).2.1 := by decide +kernel
