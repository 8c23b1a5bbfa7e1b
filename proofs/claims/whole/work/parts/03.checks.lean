/-! CHECKS: what the tables say is what the bytes and the words say -/
def TT : List Jvm.Cond := lw_tbl.filter goodWord
theorem inTT {p : Nat} {w : Jvm.Cond} (h : nth lw_tbl p = some w) (hg : goodWord w = true) : w ∈ TT := by
  have key : ∀ (l : List Jvm.Cond) (p : Nat), nth l p = some w → w ∈ l := by
    intro l
    induction l with
    | nil => intro p h; cases h
    | cons a l ih =>
      intro p h
      cases p with
      | zero => cases h; exact List.mem_cons_self
      | succ p => exact List.mem_cons_of_mem _ (ih p h)
  exact List.mem_filter.mpr ⟨key _ _ h, hg⟩
theorem goodTT : GoodIn TT TT := fun _ h => ⟨h, good_of_word (List.mem_filter.mp h).2⟩
def strK : List (Nat × String) := [(112, "gaps"), (118, "likes"), (120, "walks"), (122, "or"), (124, "and"), (126, "not"), (128, "place"), (130, "waited"), (132, "hour"), (134, "seen"), (136, "fetched"), (138, "more")]
def eOf : Option FieldType → Nat
  | none => 0
  | some .long => 2
  | some _ => 1
def narK : Option FieldType → Nat → Bool
  | some .int, 0 => true
  | some .boolean, 1 => true
  | some .byte, 2 => true
  | some .char, 3 => true
  | _, _ => false
def mAt (y i : Nat) (z : Int) : Bool := match fetch y i with
  | some r => decide ((r.2.1 : Int) = z)
  | none => false
def ftC (y i q n len : Nat) : Bool := decide (n = len) && mAt y (i + 1) ((q + len : Nat) : Int)
def wC (p : Nat) (w : Jvm.Cond) : Bool := match nth lw_tbl p with
  | some w' => decide (w' = w)
  | none => false
def tsC (y : Nat) (q : Nat) (lo : Int) : Nat → List (Int32 × Nat) → List Int → Bool
  | _, [], [] => true
  | j, t :: ts, off :: offs => decide (t.1.toInt = lo + (j : Nat)) && mAt y t.2 (q + off) && tsC y q lo (j + 1) ts offs
  | _, _, _ => false
def lsC (y : Nat) (q : Nat) : List (Int32 × Nat) → List (Int × Int) → Bool
  | [], [] => true
  | t :: ts, pr :: prs => decide (t.1.toInt = pr.1) && mAt y t.2 (q + pr.2) && lsC y q ts prs
  | _, _ => false
def fldC (own : String) (idx p a b : Nat) (wr : Bool) (d : Nat) : Bool := match nth qcl a with
  | some (C, T, N) => decide (b < N) && decide ((T b).1 = C) && wC p (.fieldLink own idx C (T b).2.1 (T b).2.2.1) && (!wr || (decide ((T b).2.2.2 = false) && decide ((T b).2.2.1 = if d = 0 then "I" else "Z")))
  | none => false
def clsC (f : Nat) (C : String) : Bool := if f = 50 then decide (C = "java/lang/String") else match nth qcl f with
  | some q => decide (C = q.1)
  | none => false
def callC (t : MI) (own : String) (idx a b d e f p : Nat) (ts : List (Int32 × Nat)) : Bool := match mi? a with
  | none => false
  | some t' => decide (a ≠ kLaw) && decide (e = eOf t'.2.2.2.1) && (if d = 2 then decide (own = "FerryForAlone$Strand") && decide (idx = 51) && decide (t'.1 = ⟨"FerryForAlone", "within", "(III)Z"⟩) else wC p (.methodLink own idx t'.1)) &&
    (if d = 0 then decide (t'.2.2.2.2.1 = false) && decide (b = t'.2.2.2.2.2.1 + 1) && clsC f t'.1.cls && (match ts with
      | [] => decide (t'.2.2.2.2.2.2.1 < t.2.2.2.2.2.2.1)
      | _ :: _ => decide (t'.2.2.2.2.2.2.1 < t.2.2.2.2.2.2.1 + 20))
    else decide (t'.2.2.2.2.1 = true) && decide (b = t'.2.2.2.2.2.1) && decide (t'.2.2.2.2.2.2.1 < t.2.2.2.2.2.2.1))
def chkK (t : MI) (y i q a b d e f p : Nat) (v : Int32) (w : Int64) (ts : List (Int32 × Nat)) (n : Nat) (I : Instr) : Bool := match I with
  | .aload_n _ | .iload_n _ | .lload_n _ => ftC y i q n 1
  | .iload _ | .lload _ => ftC y i q n 2
  | .istore_n k => ftC y i q n 1 && decide (k.val < t.2.2.1)
  | .istore k => ftC y i q n 2 && decide (k < t.2.2.1)
  | .lstore_n k => ftC y i q n 1 && decide (k.val + 1 < t.2.2.1)
  | .lstore k => ftC y i q n 2 && decide (k + 1 < t.2.2.1)
  | .iinc k z => ftC y i q n 3 && decide (k < t.2.2.1) && decide (Int32.ofInt z = v)
  | .iconst z => ftC y i q n 1 && decide (Int32.ofInt z = v)
  | .bipush z => ftC y i q n 2 && decide ((Int8.ofInt z).toInt32 = v)
  | .sipush z => ftC y i q n 3 && decide ((Int16.ofInt z).toInt32 = v)
  | .ldc idx => ftC y i q n 2 && (if a = 1 then decide (t.1.cls = "FerryForAlone$Reader") && decide (100 ≤ b) && (match nth strK (b - 100) with
      | some s => decide (s.1 = idx)
      | none => false) else wC p (.constant t.1.cls idx v))
  | .ldc_w idx => ftC y i q n 3 && wC p (.constant t.1.cls idx v)
  | .ldc2_w idx => ftC y i q n 3 && wC p (.constantLong t.1.cls idx w)
  | .lconst z => ftC y i q n 1 && decide (Int64.ofNat z.val = w)
  | .getfield idx => ftC y i q n 3 && (if a = 50 then wC p (.fieldLink t.1.cls idx "java/lang/String" "value" "[B") else if a = 51 then wC p (.fieldLink t.1.cls idx "java/lang/String" "coder" "B") else fldC t.1.cls idx p a b false d)
  | .putfield idx => ftC y i q n 3 && fldC t.1.cls idx p a b true d
  | .getstatic idx => ftC y i q n 3 && (if a = 1 then decide (v = 1) && wC p (.fieldLink t.1.cls idx "java/lang/String" "COMPACT_STRINGS" "Z") else if a = 2 then wC p (.fieldLink t.1.cls idx "jdk/internal/util/Preconditions" "SIOOBE_FORMATTER" "Ljava/util/function/BiFunction;") else true)
  | .iaload | .arraylength => ftC y i q n 1 && (if a = 1 then decide (y = kLaw) else true)
  | .baload | .iastore | .bastore | .iadd | .isub | .imul | .idiv | .irem | .ineg | .iand | .ior | .ixor | .ishl | .ishr | .iushr | .ladd | .lsub | .lmul | .ldiv | .lrem | .lor | .lshl | .lcmp | .i2l | .l2i | .i2b | .i2s | .i2c | .dup | .dup2 | .pop => ftC y i q n 1
  | .invokevirtual idx => if d = 0 then ftC y i q n 3 && callC t t.1.cls idx a b d e f p ts else true
  | .invokestatic idx => if d = 3 then ftC y i q n 3 && wC p (.methodLink t.1.cls idx arraycopyName) else if d = 4 then ftC y i q n 3 && wC p (.methodLink t.1.cls idx Lib.Math.abs.name) else if d = 5 then ftC y i q n 3 && wC p (.methodLink t.1.cls idx Lib.Math.max.name) else if d = 6 then ftC y i q n 3 && wC p (.methodLink t.1.cls idx Lib.Math.min.name) else if d = 1 ∨ d = 2 then ftC y i q n 3 && callC t t.1.cls idx a b d e f p ts else true
  | .goto off => decide (n = 3) && mAt y a (q + off)
  | .ifCond _ off | .if_icmp _ off => ftC y i q n 3 && mAt y a (q + off)
  | .tableswitch dflt lo hi offs => mAt y a (q + dflt) && tsC y q lo 0 ts offs.toList && decide (hi = lo + (offs.size : Int) - 1)
  | .lookupswitch dflt ps => mAt y a (q + dflt) && lsC y q ts ps.toList && (ps.toList.zip (ps.toList.drop 1)).all (fun (a, next) => a.1 < next.1)
  | .ireturn => decide (n = 1) && narK t.2.2.2.1 a
  | .lreturn => decide (n = 1) && decide (t.2.2.2.1 = some .long)
  | .return_ => decide (n = 1) && decide (t.2.2.2.1 = none)
  | _ => true
def chkI (t : MI) (y i : Nat) (r : RI) : Bool := match r with
  | (I, q, a, b, d, e, f, p, v, w, ts) => match decode t.2.1 q with
    | .error _ => false
    | .ok (J, n) => decide (J = I) && chkK t y i q a b d e f p v w ts n I
def chk (y i : Nat) : Bool := match mi? y with
  | none => true
  | some t => match fetch y i with
    | none => true
    | some r => chkI t y i r
/-- all instructions of the chunks lo .. lo + n - 1 of a method -/
def chkR (y lo : Nat) : Nat → Bool
  | 0 => true
  | n + 1 => chk y lo && chkR y (lo + 1) n
