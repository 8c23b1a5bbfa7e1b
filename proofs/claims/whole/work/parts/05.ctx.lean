/-! what lies outside the world: String constants, two static fields, a word of the nest -/
def lenL : List Nat := byteL.map List.length
def nestW : Jvm.Cond := .methodLinkNest "FerryForAlone$Strand" 51 ⟨"FerryForAlone", "within", "(III)Z"⟩ "FerryForAlone"
def Ext (G : Geo) (A : Nat → Prop) (U : State) (H : Heap) : Prop :=
  vk_S 12 lenL byteL G.2.2.2.1 G.2.2.2.2.1 A U H ∧ (∀ (i : Nat) (q : Nat × String), nth strK i = some q → vk_R "FerryForAlone$Reader" q.1 q.2 (G.2.2.2.1 i) U) ∧
  va_Z "java/lang/String" "COMPACT_STRINGS" "Z" (.int 1) A U H ∧ va_Z "jdk/internal/util/Preconditions" "SIOOBE_FORMATTER" "Ljava/util/function/BiFunction;" G.2.2.2.2.2 A U H ∧ va_Nw nestW U ∧
  (G.2.2.2.2.2 = .null ∨ ∃ t : Nat, G.2.2.2.2.2 = .ref t)
theorem Ext.cat {G : Geo} {A : Nat → Prop} {U : State} {H : Heap} (h : Ext G A U H) : G.2.2.2.2.2.category = 1 := by
  rcases h.2.2.2.2.2 with h | ⟨t, h⟩ <;> rw [h] <;> rfl
theorem Ext.orNull {G : Geo} {A : Nat → Prop} {U : State} {H : Heap} (h : Ext G A U H) (c : Nat) : cr G c = .null ∨ ∃ t : Nat, cr G c = .ref t := by
  unfold cr
  split
  · exact Or.inr ⟨_, rfl⟩
  · split
    · exact Or.inr ⟨_, rfl⟩
    · split
      · exact Or.inr ⟨_, rfl⟩
      · exact h.2.2.2.2.2
theorem Ext.go {G : Geo} {A B : Nat → Prop} {s U : State} (h : Ext G A s s.heap) (hq : ∀ a : Nat, a < s.heap.size → ¬ A a → U.heap[a]? = s.heap[a]?) (hW : s.WarmedH U.vm) (hB : ∀ q, B q → A q) : Ext G B U U.heap :=
  ⟨((h.1.kept hq).moved hW.alike).narrow hB, fun i q hi => (h.2.1 i q hi).warm hW, ((h.2.2.1.kept hq).moved hW.alike).narrow hB, ((h.2.2.2.1.kept hq).moved hW.alike).narrow hB, va_Nw.warmM hW h.2.2.2.2.1, h.2.2.2.2.2⟩
theorem Ext.blind {G : Geo} {A : Nat → Prop} {U : State} {g : JFrame} {mk : MethodId} {a : Array Value} (h : Ext G A U U.heap) : Ext G A (U.calling g mk a) (U.calling g mk a).heap :=
  ⟨vk_S.moved (u := U) (U := U.calling g mk a) (Vm.Alike.refl U.vm) h.1, fun i q hi => vk_R.same (u := U) (U := U.calling g mk a) rfl (h.2.1 i q hi), va_Z.moved (u := U) (U := U.calling g mk a) (Vm.Alike.refl U.vm) h.2.2.1, va_Z.moved (u := U) (U := U.calling g mk a) (Vm.Alike.refl U.vm) h.2.2.2.1, va_Nw.same (U := U.calling g mk a) rfl rfl h.2.2.2.2.1, h.2.2.2.2.2⟩
theorem byteL_getD (i : Nat) : byteL.getD i [] = byteOf i := by
  unfold byteOf
  rw [nth_get, List.getD_eq_getElem?_getD]
  cases byteL[i]? <;> rfl
theorem lenL_getD (i : Nat) (h : i < 12) : lenL.getD i 0 = (byteOf i).length := by
  have h1 : ∀ i, i < 12 → lenL.getD i 0 = (byteOf i).length := by decide +kernel
  exact h1 i h
/-! contracts -/
def PreW (G : Geo) (Sh : Nat → Option Cs) (cs : List Nat) (σ : Sto) (sz : Nat) (U : State) : Prop :=
  U.heap.size = sz ∧ va_P G.2.2.1 qcl (wW G Sh cs σ) U.heap ∧ va_K G.2.2.1 qcl (tysW G Sh cs) U ∧ va_D (fun _ => True) (wW G Sh cs σ) ∧ Ext G (va_A (wW G Sh cs σ) sz) U U.heap
def retV (e : Nat) (r : Rs) : Option Value := match e with
  | 0 => none
  | 1 => some (.int r.1)
  | _ => some (.long r.2.1)
def QW (G : Geo) (Sh : Nat → Option Cs) (cs : List Nat) (σ : Sto) (sz e : Nat) (r : Rs) : Array Value → State → Outcome → State → Prop := fun _ st oc t =>
  oc = .returned (retV e r) ∧ va_P G.2.2.1 qcl (wW G Sh cs r.2.2) t.heap ∧ va_F (va_A (wW G Sh cs σ) sz) st t
def wsM (t : MI) : List Jvm.Cond := .code t.1 t.2.1 t.2.2.1 t.2.2.2.1 :: TT
def hgt (t : MI) (k : Nat) : Nat := t.2.2.2.2.2.2.1 + 20 * (6 - k)
def rmM (h : Nat) : Room := { frames := h, cells := 0, slots := 0, locals := 64 * h }
def MetP (l : Launch) (G : Geo) (Sh : Nat → Option Cs) (cs : List Nat) (y k : Nat) (as : List Value) (σ : Sto) (r : Rs) : Prop :=
  ∀ t, mi? y = some t → ∀ sz, Met l t.1 (wsM t) (rmM (hgt t k)) (va_Pc (as.map (cv G)) (PreW G Sh cs σ sz)) (QW G Sh cs σ sz (eOf t.2.2.2.1) r) 0 0 (va_A (wW G Sh cs σ) sz)
/-- what the words say of a method that is called -/
def mokP (t : MI) : Prop := Jvm.Cond.code t.1 t.2.1 t.2.2.1 t.2.2.2.1 ∈ TT ∧ (t.2.2.2.2.1 = true → Jvm.Cond.static t.1 ∈ TT) ∧ (t.2.2.2.2.1 = false → Jvm.Cond.instanceMethod t.1 ∈ TT ∧ Jvm.Cond.selects t.1.cls t.1 t.1 ∈ TT) ∧ Jvm.Cond.initialized t.1.cls ∈ TT ∧
  t.1.cls ≠ "java/lang/invoke/MethodHandle" ∧ t.1.cls ≠ "java/lang/invoke/VarHandle" ∧ (parseMethodDescriptor t.1.desc).map (fun d => d.parameters.length) = some t.2.2.2.2.2.1 ∧ plainName t.1.cls = true ∧ t.2.2.1 ≤ 40
/-- what the words say of the JDK's own methods that are taken whole -/
def natP : Prop := Jvm.Cond.native arraycopyName ∈ TT ∧ Jvm.Cond.static arraycopyName ∈ TT ∧ Jvm.Cond.initialized "java/lang/System" ∈ TT ∧ Jvm.Cond.initialized "java/lang/Math" ∈ TT ∧ (Jvm.Cond.static Lib.Math.abs.name ∈ TT ∧ Jvm.Cond.code Lib.Math.abs.name Lib.Math.abs.code 1 (some .int) ∈ TT) ∧
  (Jvm.Cond.static Lib.Math.max.name ∈ TT ∧ Jvm.Cond.code Lib.Math.max.name Lib.Math.max.code 2 (some .int) ∈ TT) ∧ (Jvm.Cond.static Lib.Math.min.name ∈ TT ∧ Jvm.Cond.code Lib.Math.min.name Lib.Math.min.code 2 (some .int) ∈ TT)
/-- the kinds: their fields' words, and types -/
def clsP : Prop := ∀ (a : Nat) (C : String) (T : u_T) (N : Nat), nth qcl a = some (C, T, N) → (∀ w ∈ u_ws C T N, w ∈ TT) ∧ ∃ ty : Nat → FieldType, (∀ k, k < N → parseFieldDescriptor (T k).2.2.1 = some (ty k)) ∧ ∀ a, a < N → ∀ b, b < N → a ≠ b → (T a).2.1 ≠ (T b).2.1
/-- what holds in a method's frame, all the way -/
def Ctx (p : Program) (s : State) (m : MethodId) (args : Array Value) (c : Code) (R : Room) (t : MI) (G : Geo) (Sh : Nat → Option Cs) (cs : List Nat) (A : Nat → Prop) (cells slots : Nat) : Prop :=
  p.tables.exec = Jvm.exec ∧ c.code = t.2.1 ∧ c.maxLocals = t.2.2.1 ∧ s.vm.findClass t.1.cls = some m.cls ∧ (∀ w ∈ TT, w.before args s = true) ∧ va_K G.2.2.1 qcl (tysW G Sh cs) s ∧ (∀ σ, va_D A (wW G Sh cs σ)) ∧
  (∀ q, s.heap.size ≤ q → A q) ∧ Ext G A s s.heap ∧ cs.Nodup ∧ (∀ c' s', Sh c' = some s' → c' ∈ cs ∧ c' < 49) ∧ cells ≤ R.cells ∧ slots ≤ R.slots ∧ clsP ∧ (∀ y t, mi? y = some t → y ≠ kLaw → mokP t) ∧ (∀ y i, chk y i = true)
section CALLW
variable {p : Program} {l : Launch} {e : Env} {R : Room} {s : State} {m : MethodId} {args : Array Value} {below : List Frame} {meth : Method} {c : Code} {H : Heap} {locs : List Loc} {cells slots : Nat} {Q : State → Prop}
/-- a call by contract -/
theorem dc_call {G : Geo} {Sh : Nat → Option Cs} {cs : List Nat} {σ : Sto} {r : Rs} {e' : Nat} {A0 free : Nat → Prop} {a : Array Value} {pc : Nat} {ls : Array Slot} {st0 rest : List Value}
    (hr : va_Run p l e R s m args below meth c H locs cells slots 0 0 (F0 m pc ls st0) rest (QW G Sh cs σ H.size e' r a) free) (hS : va_S A0 s.heap H locs) (hA : ∀ q, q < H.size → va_A (wW G Sh cs σ) H.size q → A0 q) (hf : ∀ q, free q → A0 q)
    (kk : ∀ (H1 : Heap) (locs1 : List Loc), va_P G.2.2.1 qcl (wW G Sh cs r.2.2) H1 → va_S A0 s.heap H1 locs1 → W p l e R s m args below meth c H1 locs1 cells slots Q (F0 m (pc + 3) ls ((retV e' r).toList ++ rest))) : W p l e R s m args below meth c H locs cells slots Q (F0 m pc ls st0) := by
  intro T hT X
  obtain ⟨v, st₀, t, T', L, h0, X', hL, e1, e2, ⟨hv, hP, hz, hk⟩, st⟩ := hr T hT X
  have hv1 : v = retV e' r := Outcome.returned.inj hv
  rw [h0] at hz hk
  obtain ⟨t2, a1, b1⟩ := kk T'.heap (locs ++ L) (by rw [e1]; exact hP)
    ⟨Nat.le_trans hS.1 (by rw [e1]; exact hz), fun q h1 h2 => by rw [e1, hk q (Nat.lt_of_lt_of_le h1 hS.1) (fun z => h2 (hA q (Nat.lt_of_lt_of_le h1 hS.1) z))]; exact hS.2.1 q h1 h2, fun q hq => by
      rcases List.mem_append.mp hq with h | h
      · exact hS.2.2 q h
      · exact hf _ (hL q h)⟩ T' rfl X'
  rw [← hv1] at a1
  exact ⟨t2, st t2 a1, b1⟩
end CALLW
theorem wsM_head (t : MI) : wsM t = Jvm.Cond.code t.1 t.2.1 t.2.2.1 t.2.2.2.1 :: TT := rfl
theorem goodM {t : MI} (h : Jvm.Cond.code t.1 t.2.1 t.2.2.1 t.2.2.2.1 ∈ TT) : GoodIn TT (wsM t) := fun w hw => by
  rcases List.mem_cons.mp hw with rfl | hw
  · exact goodTT _ h
  · exact goodTT _ hw
theorem popn_inv : ∀ (n : Nat) (st acc as r : List Value), popn n st acc = some (as, r) → ∃ xs, xs.length = n ∧ st = xs ++ r ∧ as = xs.reverse ++ acc := by
  intro n
  induction n with
  | zero => intro st acc as r h; cases h; exact ⟨[], rfl, rfl, rfl⟩
  | succ n ih =>
    intro st acc as r h
    cases st with
    | nil => cases h
    | cons v st =>
      obtain ⟨xs, h1, h2, h3⟩ := ih st (v :: acc) as r h
      exact ⟨v :: xs, by simp [h1], by rw [h2]; rfl, by rw [h3]; simp⟩
def qo (y i : Nat) : Nat := match fetch y i with
  | some r => r.2.1
  | none => 0
theorem mAt_qo {y i : Nat} {z : Int} (h : mAt y i z = true) : (qo y i : Int) = z := by
  unfold mAt at h
  unfold qo
  cases hf : fetch y i with
  | none => rw [hf] at h; cases h
  | some r => rw [hf] at h; exact of_decide_eq_true h
theorem ftC_inv {y i q n len : Nat} (h : ftC y i q n len = true) : n = len ∧ qo y (i + 1) = q + len := by
  unfold ftC at h
  rw [Bool.and_eq_true, decide_eq_true_eq] at h
  have h1 := mAt_qo h.2
  exact ⟨h.1, by omega⟩
theorem wC_inv {p : Nat} {w : Jvm.Cond} (h : wC p w = true) (hg : goodWord w = true) : w ∈ TT := by
  unfold wC at h
  split at h
  · rename_i w' hw
    have := of_decide_eq_true h
    subst this
    exact inTT hw hg
  · cases h
section INV
variable {K : KT} {K' : Nat → List Value → List Value → Sto → Option Rs} {i : Nat} {L st : List Value} {r : Rs}
theorem no_inv (h : fold1 K K' i L no = some r) : False := by
  have h1 : (none : Option Rs) = some r := h
  cases h1
theorem ldI_inv {j : Nat} {f : Int32 → DL} (h : fold1 K K' i L (ldI st j f) = some r) : ∃ x, nth st j = some (.int x) ∧ fold1 K K' i L (f x) = some r := by
  unfold ldI at h
  split at h
  · exact ⟨_, by assumption, h⟩
  · exact (no_inv h).elim
theorem ldJ_inv {j : Nat} {f : Int64 → DL} (h : fold1 K K' i L (ldJ st j f) = some r) : ∃ x, nth st j = some (.long x) ∧ fold1 K K' i L (f x) = some r := by
  unfold ldJ at h
  split at h
  · exact ⟨_, by assumption, h⟩
  · exact (no_inv h).elim
theorem ldR_inv {j : Nat} {f : Nat → DL} (h : fold1 K K' i L (ldR st j f) = some r) : ∃ x : Nat, nth st j = some (.ref x) ∧ fold1 K K' i L (f x) = some r := by
  unfold ldR at h
  split at h
  · exact ⟨_, by assumption, h⟩
  · exact (no_inv h).elim
theorem p1_inv {f : Int32 → List Value → DL} (h : fold1 K K' i L (p1 st f) = some r) : ∃ x s, st = .int x :: s ∧ fold1 K K' i L (f x s) = some r := by
  unfold p1 at h
  split at h
  · exact ⟨_, _, rfl, h⟩
  · exact (no_inv h).elim
theorem p2_inv {f : Int32 → Int32 → List Value → DL} (h : fold1 K K' i L (p2 st f) = some r) : ∃ x y s, st = .int y :: .int x :: s ∧ fold1 K K' i L (f x y s) = some r := by
  unfold p2 at h
  split at h
  · exact ⟨_, _, _, rfl, h⟩
  · exact (no_inv h).elim
theorem q1_inv {f : Int64 → List Value → DL} (h : fold1 K K' i L (q1 st f) = some r) : ∃ x s, st = .long x :: s ∧ fold1 K K' i L (f x s) = some r := by
  unfold q1 at h
  split at h
  · exact ⟨_, _, rfl, h⟩
  · exact (no_inv h).elim
theorem q2_inv {f : Int64 → Int64 → List Value → DL} (h : fold1 K K' i L (q2 st f) = some r) : ∃ x y s, st = .long y :: .long x :: s ∧ fold1 K K' i L (f x y s) = some r := by
  unfold q2 at h
  split at h
  · exact ⟨_, _, _, rfl, h⟩
  · exact (no_inv h).elim
theorem q3_inv {f : Int64 → Int32 → List Value → DL} (h : fold1 K K' i L (q3 st f) = some r) : ∃ x y s, st = .int y :: .long x :: s ∧ fold1 K K' i L (f x y s) = some r := by
  unfold q3 at h
  split at h
  · exact ⟨_, _, _, rfl, h⟩
  · exact (no_inv h).elim
theorem c1_inv {f : Nat → List Value → DL} (h : fold1 K K' i L (c1 st f) = some r) : ∃ (x : Nat) (s : List Value), st = .ref x :: s ∧ fold1 K K' i L (f x s) = some r := by
  unfold c1 at h
  split at h
  · exact ⟨_, _, rfl, h⟩
  · exact (no_inv h).elim
theorem c2_inv {f : Nat → Int32 → List Value → DL} (h : fold1 K K' i L (c2 st f) = some r) : ∃ (x : Nat) (y : Int32) (s : List Value), st = .int y :: .ref x :: s ∧ fold1 K K' i L (f x y s) = some r := by
  unfold c2 at h
  split at h
  · exact ⟨_, _, _, rfl, h⟩
  · exact (no_inv h).elim
theorem c3_inv {f : Nat → Int32 → Int32 → List Value → DL} (h : fold1 K K' i L (c3 st f) = some r) : ∃ (x : Nat) (y v : Int32) (s : List Value), st = .int v :: .int y :: .ref x :: s ∧ fold1 K K' i L (f x y v s) = some r := by
  unfold c3 at h
  split at h
  · exact ⟨_, _, _, _, rfl, h⟩
  · exact (no_inv h).elim
theorem c4_inv {f : Nat → Int32 → List Value → DL} (h : fold1 K K' i L (c4 st f) = some r) : ∃ (x : Nat) (v : Int32) (s : List Value), st = .int v :: .ref x :: s ∧ fold1 K K' i L (f x v s) = some r := by
  unfold c4 at h
  split at h
  · exact ⟨_, _, _, rfl, h⟩
  · exact (no_inv h).elim
theorem d1_inv {f : Value → List Value → DL} (h : fold1 K K' i L (d1 st f) = some r) : ∃ v s, st = v :: s ∧ v.category = 1 ∧ fold1 K K' i L (f v s) = some r := by
  unfold d1 at h
  split at h
  · exact ⟨_, _, rfl, rfl, h⟩
  · exact ⟨_, _, rfl, rfl, h⟩
  · exact (no_inv h).elim
theorem fldG_inv {Sh : Nat → Option Cs} {c a b : Nat} {f : Option Nat → DL} (h : fold1 K K' i L (fldG Sh c a b f) = some r) : ∃ ks o, Sh c = some (.inl (a, ks)) ∧ nth ks b = some o ∧ fold1 K K' i L (f o) = some r := by
  unfold fldG at h
  split at h
  · split at h
    · rename_i hs ha
      subst ha
      split at h
      · exact ⟨_, _, hs, by assumption, h⟩
      · exact (no_inv h).elim
    · exact (no_inv h).elim
  · exact (no_inv h).elim
theorem rowG_inv {Sh : Nat → Option Cs} {c : Nat} {z : Bool} {f : Nat → DL} (h : fold1 K K' i L (rowG Sh c z f) = some r) : ∃ n, Sh c = some (.inr (z, n)) ∧ fold1 K K' i L (f n) = some r := by
  unfold rowG at h
  split at h
  · split at h
    · rename_i hs hz
      subst hz
      exact ⟨_, hs, h⟩
    · exact (no_inv h).elim
  · exact (no_inv h).elim
theorem rowL_inv {Sh : Nat → Option Cs} {c : Nat} {f : Nat → DL} (h : fold1 K K' i L (rowL Sh c f) = some r) : ∃ z n, Sh c = some (.inr (z, n)) ∧ fold1 K K' i L (f n) = some r := by
  unfold rowL at h
  split at h
  · exact ⟨_, _, by assumption, h⟩
  · exact (no_inv h).elim
theorem gif_inv {p : Prop} {hd : Decidable p} {o : Option Lf} {B : DL} (h : fold1 K K' i L (gif p hd o B) = some r) : (p ∧ lfK K K' i L o = some r) ∨ (¬ p ∧ fold1 K K' i L B = some r) := by
  have h1 : (@ite _ p hd (lfK K K' i L o) (fold1 K K' i L B)) = some r := h
  by_cases hp : p
  · rw [if_pos hp] at h1; exact Or.inl ⟨hp, h1⟩
  · rw [if_neg hp] at h1; exact Or.inr ⟨hp, h1⟩
theorem popG_inv {n m : Nat} {f : List Value → List Value → DL} (h : fold1 K K' i L (popG n m st f) = some r) : ∃ xs s, xs.length = n ∧ st = xs ++ s ∧ (s.map fun v => v.category).sum ≤ 8 ∧ (wide xs.reverse).length ≤ m ∧ fold1 K K' i L (f xs.reverse s) = some r := by
  unfold popG at h
  split at h
  · rename_i as s hp
    obtain ⟨xs, h1, h2, h3⟩ := popn_inv _ _ _ _ _ hp
    rw [List.append_nil] at h3
    subst h3
    split at h
    · rename_i hc
      exact ⟨xs, s, h1, h2, hc.1, hc.2, h⟩
    · exact (no_inv h).elim
  · exact (no_inv h).elim
theorem recvG_inv {Sh : Nat → Option Cs} {as : List Value} {k : Nat} {f : DL} (h : fold1 K K' i L (recvG Sh as k f) = some r) : ∃ (c : Nat) (s : List Value), as = .ref c :: s ∧ ((k = 50 ∧ 100 ≤ c ∧ c < 112) ∨ (k ≠ 50 ∧ ∃ ks, Sh c = some (.inl (k, ks)))) ∧ fold1 K K' i L f = some r := by
  unfold recvG at h
  split at h
  · split at h
    · rename_i hk
      split at h
      · rename_i hc
        exact ⟨_, _, rfl, Or.inl ⟨hk, hc⟩, h⟩
      · exact (no_inv h).elim
    · rename_i hk
      split at h
      · rename_i hs
        split at h
        · rename_i hk2
          subst hk2
          exact ⟨_, _, rfl, Or.inr ⟨hk, _, hs⟩, h⟩
        · exact (no_inv h).elim
      · exact (no_inv h).elim
  · exact (no_inv h).elim
end INV
