/-! THE PURE MACHINE. A value is a Value whose references are numbers of cells; a store gives what stands at each place of each cell. -/
abbrev Sto : Type := Nat → Nat → Int32
abbrev Rs : Type := Int32 × Int64 × Sto
def su (σ : Sto) (c i : Nat) (v : Int32) : Sto := fun c' => if c' = c then upd (σ c) i v else σ c'
def inb (i : Int32) (n : Nat) : Bool := decide (0 ≤ i.toInt) && decide (i.toInt < (n : Int))
def zb (v : Int32) : Bool := v == 0 || v == 1
/-- what a small type keeps of an int is the int itself -/
def nok : Nat → Int32 → Bool
  | 0, _ => true
  | 1, v => zb v
  | 2, v => v.toInt8.toInt32 == v
  | 3, v => (v.toUInt32.toUInt16.toUInt32.toInt32) == v
  | _, v => v.toInt16.toInt32 == v
def memb : List Nat → Nat → Bool
  | [], _ => false
  | a :: l, n => Nat.beq a n || memb l n
/-- a long's second half is no value; nothing is said of a place that holds .null -/
def dl (v : Value) : Value := if v.category = 2 then .null else v
def st1 : List Value → Nat → Value → List Value
  | [], _, _ => []
  | _ :: l, 0, v => v :: l
  | a :: l, 1, v => dl a :: st1 l 0 v
  | a :: l, n + 2, v => a :: st1 l (n + 1) v
def nul1 : List Value → List Value
  | [] => []
  | _ :: l => .null :: l
def st2 : List Value → Nat → Value → List Value
  | [], _, _ => []
  | _ :: l, 0, v => v :: nul1 l
  | a :: l, 1, v => dl a :: st2 l 0 v
  | a :: l, n + 2, v => a :: st2 l (n + 1) v
def pad : Nat → List Value → List Value
  | 0, l => l
  | n + 1, [] => .null :: pad n []
  | n + 1, a :: l => a :: pad n l
def wide : List Value → List Value
  | [] => []
  | a :: l => if a.category = 2 then a :: .null :: wide l else a :: wide l
/-- a method's first locals -/
def ent (y : Nat) (as : List Value) : List Value := pad (mx y) (wide as)
def popn : Nat → List Value → List Value → Option (List Value × List Value)
  | 0, st, acc => some (acc, st)
  | _ + 1, [], _ => none
  | n + 1, v :: st, acc => popn n st (v :: acc)
def byteL : List (List Int32) := [[103, 97, 112, 115], [108, 105, 107, 101, 115], [119, 97, 108, 107, 115], [111, 114], [97, 110, 100], [110, 111, 116], [112, 108, 97, 99, 101], [119, 97, 105, 116, 101, 100], [104, 111, 117, 114], [115, 101, 101, 110], [102, 101, 116, 99, 104, 101, 100], [109, 111, 114, 101]]
def byteOf (k : Nat) : List Int32 := match nth byteL k with
  | some l => l
  | none => []
def kLaw : Nat := 185
def absI (x : Int32) : Int32 := if 0 ≤ x then x else 0 - x
def maxI (x y : Int32) : Int32 := if x < y then y else x
def minI (x y : Int32) : Int32 := if y < x then y else x
/-! One instruction's outcome: a list of guards, each with what comes if it holds, and what comes if none does. What comes: to go on in the method; to call, and with what to go on behind it; to return; or nothing. -/
abbrev Gd : Type := (p : Prop) ×' Decidable p
abbrev Lf : Type := (Nat × List Value × List Value × Sto) ⊕ ((Nat × Nat × List Value × Sto × (Rs → List Value)) ⊕ Rs)
abbrev DL : Type := List (Gd × Option Lf) × Option Lf
def no : DL := ([], none)
def lgo (i : Nat) (L st : List Value) (σ : Sto) : Option Lf := some (.inl (i, L, st, σ))
def go (i : Nat) (L st : List Value) (σ : Sto) : DL := ([], lgo i L st σ)
def cal (y k : Nat) (as : List Value) (σ : Sto) (kk : Rs → List Value) : DL := ([], some (.inr (.inl (y, k, as, σ, kk))))
def rtn (r : Rs) : DL := ([], some (.inr (.inr r)))
def gif (p : Prop) (h : Decidable p) (o : Option Lf) (B : DL) : DL := ((⟨p, h⟩, o) :: B.1, B.2)
def ldI (L : List Value) (j : Nat) (f : Int32 → DL) : DL := match nth L j with
  | some (.int x) => f x
  | _ => no
def ldJ (L : List Value) (j : Nat) (f : Int64 → DL) : DL := match nth L j with
  | some (.long x) => f x
  | _ => no
def ldR (L : List Value) (j : Nat) (f : Nat → DL) : DL := match nth L j with
  | some (.ref x) => f x
  | _ => no
def p1 (st : List Value) (f : Int32 → List Value → DL) : DL := match st with
  | .int x :: r => f x r
  | _ => no
def p2 (st : List Value) (f : Int32 → Int32 → List Value → DL) : DL := match st with
  | .int y :: .int x :: r => f x y r
  | _ => no
def q1 (st : List Value) (f : Int64 → List Value → DL) : DL := match st with
  | .long x :: r => f x r
  | _ => no
def q2 (st : List Value) (f : Int64 → Int64 → List Value → DL) : DL := match st with
  | .long y :: .long x :: r => f x y r
  | _ => no
def q3 (st : List Value) (f : Int64 → Int32 → List Value → DL) : DL := match st with
  | .int y :: .long x :: r => f x y r
  | _ => no
def c1 (st : List Value) (f : Nat → List Value → DL) : DL := match st with
  | .ref x :: r => f x r
  | _ => no
def c2 (st : List Value) (f : Nat → Int32 → List Value → DL) : DL := match st with
  | .int y :: .ref x :: r => f x y r
  | _ => no
def c3 (st : List Value) (f : Nat → Int32 → Int32 → List Value → DL) : DL := match st with
  | .int v :: .int y :: .ref x :: r => f x y v r
  | _ => no
def c4 (st : List Value) (f : Nat → Int32 → List Value → DL) : DL := match st with
  | .int v :: .ref x :: r => f x v r
  | _ => no
/-- a value of one slot on top -/
def d1 (st : List Value) (f : Value → List Value → DL) : DL := match st with
  | .int x :: r => f (.int x) r
  | .ref x :: r => f (.ref x) r
  | _ => no
/-- a field of an object -/
def fldG (Sh : Nat → Option Cs) (c a b : Nat) (f : Option Nat → DL) : DL := match Sh c with
  | some (.inl (ci, ks)) => if ci = a then (match nth ks b with
    | some o => f o
    | none => no) else no
  | _ => no
/-- a row -/
def rowG (Sh : Nat → Option Cs) (c : Nat) (z : Bool) (f : Nat → DL) : DL := match Sh c with
  | some (.inr (z', n)) => if z' = z then f n else no
  | _ => no
def rowL (Sh : Nat → Option Cs) (c : Nat) (f : Nat → DL) : DL := match Sh c with
  | some (.inr (_, n)) => f n
  | _ => no
def swc (x : Int32) (L st : List Value) (σ : Sto) (a : Nat) : List (Int32 × Nat) → DL
  | [] => go a L st σ
  | t :: ts => gif (x = t.1) inferInstance (lgo t.2 L st σ) (swc x L st σ a ts)
def popG (n m : Nat) (st : List Value) (f : List Value → List Value → DL) : DL := match popn n st [] with
  | some (as, r) => if (r.map fun v => v.category).sum ≤ 8 ∧ (wide as).length ≤ m then f as r else no
  | none => no
/-- the receiver is an object of the kind k (50: a String constant) -/
def recvG (Sh : Nat → Option Cs) (as : List Value) (k : Nat) (f : DL) : DL := match as with
  | .ref c :: _ => if k = 50 then (if 100 ≤ c ∧ c < 112 then f else no) else (match Sh c with
    | some (.inl (ci, _)) => if ci = k then f else no
    | _ => no)
  | _ => no
def pushR (e : Nat) (r : Rs) (st : List Value) : List Value := match e with
  | 0 => st
  | 1 => .int r.1 :: st
  | _ => .long r.2.1 :: st
def cpy (σ : Sto) (c d : Nat) (sp dp n : Int32) : Sto := fun c' => if c' = d then va_cpy (σ c) (σ d) sp.toNatClampNeg dp.toNatClampNeg n.toNatClampNeg else σ c'
def carryG (Sh : Nat → Option Cs) (i : Nat) (L st : List Value) (σ : Sto) : DL := match st with
  | .int n :: .int dp :: .ref d :: .int sp :: .ref c :: r =>
    rowG Sh c false (fun nc => rowG Sh d false (fun nd => if (r.map fun v => v.category).sum ≤ 8 then
      gif (0 ≤ sp.toInt ∧ 0 ≤ dp.toInt ∧ 0 ≤ n.toInt ∧ sp.toInt + n.toInt ≤ (nc : Int) ∧ dp.toInt + n.toInt ≤ (nd : Int)) inferInstance (lgo i L r (cpy σ c d sp dp n)) no else no))
  | _ => no
/-- one instruction -/
def act (Sh : Nat → Option Cs) (y k i : Nat) (L st : List Value) (σ : Sto) : DL := match fetch y i with
  | none => no
  | some (I, _, a, b, d, e, f, _, v, w, ts) => match I with
    | .aload_n n => ldR L n.val (fun x => go (i + 1) L (.ref x :: st) σ)
    | .iload_n n => ldI L n.val (fun x => go (i + 1) L (.int x :: st) σ)
    | .iload n => ldI L n (fun x => go (i + 1) L (.int x :: st) σ)
    | .lload_n n => ldJ L n.val (fun x => go (i + 1) L (.long x :: st) σ)
    | .lload n => ldJ L n (fun x => go (i + 1) L (.long x :: st) σ)
    | .istore_n n => p1 st (fun x r => go (i + 1) (st1 L n.val (.int x)) r σ)
    | .istore n => p1 st (fun x r => go (i + 1) (st1 L n (.int x)) r σ)
    | .lstore_n n => q1 st (fun x r => go (i + 1) (st2 L n.val (.long x)) r σ)
    | .lstore n => q1 st (fun x r => go (i + 1) (st2 L n (.long x)) r σ)
    | .iinc n _ => ldI L n (fun x => go (i + 1) (st1 L n (.int (x + v))) st σ)
    | .iconst _ => go (i + 1) L (.int v :: st) σ
    | .bipush _ => go (i + 1) L (.int v :: st) σ
    | .sipush _ => go (i + 1) L (.int v :: st) σ
    | .ldc _ => if a = 1 then go (i + 1) L (.ref b :: st) σ else go (i + 1) L (.int v :: st) σ
    | .ldc_w _ => go (i + 1) L (.int v :: st) σ
    | .ldc2_w _ => go (i + 1) L (.long w :: st) σ
    | .lconst _ => go (i + 1) L (.long w :: st) σ
    | .getfield _ => c1 st (fun c r => if a = 50 then (if 100 ≤ c ∧ c < 112 then go (i + 1) L (.ref (c + 100) :: r) σ else no)
        else if a = 51 then (if 100 ≤ c ∧ c < 112 then go (i + 1) L (.int 0 :: r) σ else no)
        else fldG Sh c a b (fun o => match o with
          | none => go (i + 1) L (.int (σ c b) :: r) σ
          | some x => go (i + 1) L (.ref x :: r) σ))
    | .putfield _ => c4 st (fun c x r => fldG Sh c a b (fun o => match o with
          | none => if d = 0 then go (i + 1) L r (su σ c b x) else gif (zb x = true) inferInstance (lgo (i + 1) L r (su σ c b x)) no
          | some _ => no))
    | .getstatic _ => if a = 1 then go (i + 1) L (.int v :: st) σ else if a = 2 then go (i + 1) L (.ref 300 :: st) σ else no
    | .iaload => c2 st (fun c x r => if a = 1 then (if c = 99 then gif (inb x (σ 98 0).toNatClampNeg = true) inferInstance (lgo (i + 1) L (.int (σ 99 x.toNatClampNeg) :: r) σ) no else no)
        else rowG Sh c false (fun n => gif (inb x n = true) inferInstance (lgo (i + 1) L (.int (σ c x.toNatClampNeg) :: r) σ) no))
    | .baload => c2 st (fun c x r => if a = 2 then (if 200 ≤ c ∧ c < 212 then gif (inb x (byteOf (c - 200)).length = true) inferInstance (lgo (i + 1) L (.int ((byteOf (c - 200)).getD x.toNatClampNeg 0) :: r) σ) no else no)
        else rowG Sh c true (fun n => gif (inb x n = true) inferInstance (lgo (i + 1) L (.int (σ c x.toNatClampNeg) :: r) σ) no))
    | .iastore => c3 st (fun c x z r => rowG Sh c false (fun n => gif (inb x n = true) inferInstance (lgo (i + 1) L r (su σ c x.toNatClampNeg z)) no))
    | .bastore => c3 st (fun c x z r => rowG Sh c true (fun n => gif (inb x n = true ∧ zb z = true) inferInstance (lgo (i + 1) L r (su σ c x.toNatClampNeg z)) no))
    | .arraylength => c1 st (fun c r => if a = 1 then (if c = 99 then go (i + 1) L (.int (σ 98 0) :: r) σ else no)
        else if a = 2 then (if 200 ≤ c ∧ c < 212 then go (i + 1) L (.int (Int32.ofNat (byteOf (c - 200)).length) :: r) σ else no)
        else rowL Sh c (fun n => go (i + 1) L (.int (Int32.ofNat n) :: r) σ))
    | .invokevirtual _ => if d = 0 then popG b (mx a) st (fun as r => recvG Sh as f (match ts with
          | [] => cal a k as σ (fun s => pushR e s r)
          | _ :: _ => gif (k < 6) inferInstance (some (.inr (.inl (a, k + 1, as, σ, fun s => pushR e s r)))) no)) else no
    | .invokestatic _ => if d = 3 then carryG Sh (i + 1) L st σ
        else if d = 4 then p1 st (fun x r => if (r.map fun v => v.category).sum ≤ 8 then go (i + 1) L (.int (absI x) :: r) σ else no)
        else if d = 5 then p2 st (fun x y r => if (r.map fun v => v.category).sum ≤ 8 then go (i + 1) L (.int (maxI x y) :: r) σ else no)
        else if d = 6 then p2 st (fun x y r => if (r.map fun v => v.category).sum ≤ 8 then go (i + 1) L (.int (minI x y) :: r) σ else no)
        else if d = 1 ∨ d = 2 then popG b (mx a) st (fun as r => cal a k as σ (fun s => pushR e s r)) else no
    | .iadd => p2 st (fun x y r => go (i + 1) L (.int (x + y) :: r) σ)
    | .isub => p2 st (fun x y r => go (i + 1) L (.int (x - y) :: r) σ)
    | .imul => p2 st (fun x y r => go (i + 1) L (.int (x * y) :: r) σ)
    | .idiv => p2 st (fun x y r => gif (y = 0) inferInstance none (go (i + 1) L (.int (x / y) :: r) σ))
    | .irem => p2 st (fun x y r => gif (y = 0) inferInstance none (go (i + 1) L (.int (x - x / y * y) :: r) σ))
    | .ineg => p1 st (fun x r => go (i + 1) L (.int (-x) :: r) σ)
    | .iand => p2 st (fun x y r => go (i + 1) L (.int (x &&& y) :: r) σ)
    | .ior => p2 st (fun x y r => go (i + 1) L (.int (x ||| y) :: r) σ)
    | .ixor => p2 st (fun x y r => go (i + 1) L (.int (x ^^^ y) :: r) σ)
    | .ishl => p2 st (fun x y r => go (i + 1) L (.int (x <<< (y &&& 31)) :: r) σ)
    | .ishr => p2 st (fun x y r => go (i + 1) L (.int (x >>> (y &&& 31)) :: r) σ)
    | .iushr => p2 st (fun x y r => go (i + 1) L (.int (x.toUInt32 >>> (y.toUInt32 &&& Int32.toUInt32 31)).toInt32 :: r) σ)
    | .ladd => q2 st (fun x y r => go (i + 1) L (.long (x + y) :: r) σ)
    | .lsub => q2 st (fun x y r => go (i + 1) L (.long (x - y) :: r) σ)
    | .lmul => q2 st (fun x y r => go (i + 1) L (.long (x * y) :: r) σ)
    | .ldiv => q2 st (fun x y r => gif (y = 0) inferInstance none (go (i + 1) L (.long (x / y) :: r) σ))
    | .lrem => q2 st (fun x y r => gif (y = 0) inferInstance none (go (i + 1) L (.long (x - x / y * y) :: r) σ))
    | .lor => q2 st (fun x y r => go (i + 1) L (.long (x ||| y) :: r) σ)
    | .lshl => q3 st (fun x y r => go (i + 1) L (.long (x <<< (y.toInt64 &&& 63)) :: r) σ)
    | .lcmp => q2 st (fun x y r => go (i + 1) L (.int (lg_cmp x y) :: r) σ)
    | .i2l => p1 st (fun x r => go (i + 1) L (.long x.toInt64 :: r) σ)
    | .l2i => q1 st (fun x r => go (i + 1) L (.int x.toInt32 :: r) σ)
    | .i2b => p1 st (fun x r => go (i + 1) L (.int x.toInt8.toInt32 :: r) σ)
    | .i2s => p1 st (fun x r => go (i + 1) L (.int x.toInt16.toInt32 :: r) σ)
    | .i2c => p1 st (fun x r => go (i + 1) L (.int (x.toUInt32 % 65536).toInt32 :: r) σ)
    | .dup => d1 st (fun x r => go (i + 1) L (x :: x :: r) σ)
    | .dup2 => d1 st (fun x r => d1 r (fun z r => go (i + 1) L (x :: z :: x :: z :: r) σ))
    | .pop => d1 st (fun _ r => go (i + 1) L r σ)
    | .goto _ => go a L st σ
    | .ifCond o _ => p1 st (fun x r => match o with
        | .eq => gif (x = 0) inferInstance (lgo a L r σ) (go (i + 1) L r σ)
        | .ne => gif (x = 0) inferInstance (lgo (i + 1) L r σ) (go a L r σ)
        | .lt => gif (x < 0) inferInstance (lgo a L r σ) (go (i + 1) L r σ)
        | .ge => gif (x < 0) inferInstance (lgo (i + 1) L r σ) (go a L r σ)
        | .gt => gif (0 < x) inferInstance (lgo a L r σ) (go (i + 1) L r σ)
        | .le => gif (0 < x) inferInstance (lgo (i + 1) L r σ) (go a L r σ))
    | .if_icmp o _ => p2 st (fun x y r => match o with
        | .eq => gif (x = y) inferInstance (lgo a L r σ) (go (i + 1) L r σ)
        | .ne => gif (x = y) inferInstance (lgo (i + 1) L r σ) (go a L r σ)
        | .lt => gif (x < y) inferInstance (lgo a L r σ) (go (i + 1) L r σ)
        | .ge => gif (x < y) inferInstance (lgo (i + 1) L r σ) (go a L r σ)
        | .gt => gif (y < x) inferInstance (lgo a L r σ) (go (i + 1) L r σ)
        | .le => gif (y < x) inferInstance (lgo (i + 1) L r σ) (go a L r σ))
    | .tableswitch .. => p1 st (fun x r => swc x L r σ a ts)
    | .lookupswitch .. => p1 st (fun x r => swc x L r σ a ts)
    | .ireturn => match st with
      | [.int x] => if a = 0 then rtn (x, 0, σ) else gif (nok a x = true) inferInstance (some (.inr (.inr (x, 0, σ)))) no
      | _ => no
    | .lreturn => match st with
      | [.long x] => rtn (0, x, σ)
      | _ => no
    | .return_ => match st with
      | [] => rtn (0, 0, σ)
      | _ => no
    | _ => no
abbrev KT : Type := Nat → Nat → Nat → List Value → List Value → Sto → Option Rs
/-- what comes, with K for the rest of the method (from i on; the locals L) and for the called ones -/
def lfK (K : KT) (K' : Nat → List Value → List Value → Sto → Option Rs) (i : Nat) (L : List Value) (o : Option Lf) : Option Rs := match o with
  | none => none
  | some (.inl (i', L', st', σ')) => K' i' L' st' σ'
  | some (.inr (.inl (y', k', as, σ', kk))) => (K y' k' 0 (ent y' as) [] σ').bind fun r => K' (i + 1) L (kk r) r.2.2
  | some (.inr (.inr r)) => some r
def fold (K : KT) (K' : Nat → List Value → List Value → Sto → Option Rs) (i : Nat) (L : List Value) (z : Option Lf) : List (Gd × Option Lf) → Option Rs
  | [] => lfK K K' i L z
  | g :: gs => @ite _ g.1.1 g.1.2 (lfK K K' i L g.2) (fold K K' i L z gs)
/-- one step, with K for what comes behind it -/
def stepF (Sh : Nat → Option Cs) (K : KT) : KT := fun y k i L st σ => fold K (K y k) i L (act Sh y k i L st σ).2 (act Sh y k i L st σ).1
def run (Sh : Nat → Option Cs) : Nat → KT
  | 0 => fun _ _ _ _ _ _ => none
  | n + 1 => stepF Sh (run Sh n)
def stp (K K' : Nat → List Value → List Value → Sto → Option Rs) (stops : List Nat) (i : Nat) (L st : List Value) (σ : Sto) : Option Rs := match memb stops i with
  | true => K i L st σ
  | false => K' i L st σ
def fold1 (K : KT) (K' : Nat → List Value → List Value → Sto → Option Rs) (i : Nat) (L : List Value) (d : DL) : Option Rs := fold K K' i L d.2 d.1
/-- n steps from here on, or fewer, till one of the stops; with K for what comes behind -/
def unr (Sh : Nat → Option Cs) (K : KT) (stops : List Nat) (y k : Nat) : Nat → Nat → List Value → List Value → Sto → Option Rs
  | 0 => K y k
  | n + 1 => fun i L st σ => fold1 K (stp (K y k) (unr Sh K stops y k n) stops) i L (act Sh y k i L st σ)
