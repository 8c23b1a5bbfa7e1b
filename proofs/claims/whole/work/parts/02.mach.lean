/-! THE PURE MACHINE. A value is a Value whose references are numbers of cells; a store gives what stands at each place of each cell. -/
abbrev Sto : Type := Nat → Nat → Int32
abbrev Rs : Type := Int32 × Int64 × Sto
def su (σ : Sto) (c i : Nat) (v : Int32) : Sto := fun c' => if c' = c then upd (σ c) i v else σ c'
def inb (i : Int32) (n : Nat) : Bool := decide (0 ≤ i.toInt) && decide (i.toInt < (n : Int))
def zb (v : Int32) : Bool := v == 0 || v == 1
/-- what a small type keeps of an int is the int itself -/
def nok : Nat → Int32 → Bool
  | 0, _ => true
  | 1, v => zb v
  | 2, v => v.toInt8.toInt32 == v
  | 3, v => (v.toUInt32.toUInt16.toUInt32.toInt32) == v
  | _, v => v.toInt16.toInt32 == v
def memb : List Nat → Nat → Bool
  | [], _ => false
  | a :: l, n => Nat.beq a n || memb l n
/-- a long's second half is no value; nothing is said of a place that holds .null -/
def dl (v : Value) : Value := match v with
  | .long _ => .null
  | v => v
def st1 : List Value → Nat → Value → List Value
  | [], _, _ => []
  | _ :: l, 0, v => v :: l
  | a :: l, 1, v => dl a :: st1 l 0 v
  | a :: l, n + 2, v => a :: st1 l (n + 1) v
def st2 : List Value → Nat → Value → List Value
  | [], _, _ => []
  | _ :: [], 0, v => [v]
  | _ :: _ :: l, 0, v => v :: .null :: l
  | a :: l, 1, v => dl a :: st2 l 0 v
  | a :: l, n + 2, v => a :: st2 l (n + 1) v
def pad : Nat → List Value → List Value
  | 0, l => l
  | n + 1, [] => .null :: pad n []
  | n + 1, a :: l => a :: pad n l
def wide : List Value → List Value
  | [] => []
  | .long x :: l => .long x :: .null :: wide l
  | a :: l => a :: wide l
/-- a method's first locals -/
def ent (y : Nat) (as : List Value) : List Value := pad (mx y) (wide as)
def popn : Nat → List Value → List Value → Option (List Value × List Value)
  | 0, st, acc => some (acc, st)
  | _ + 1, [], _ => none
  | n + 1, v :: st, acc => popn n st (v :: acc)
def byteL : List (List Int32) := [[103, 97, 112, 115], [108, 105, 107, 101, 115], [119, 97, 108, 107, 115], [111, 114], [97, 110, 100], [110, 111, 116], [112, 108, 97, 99, 101], [119, 97, 105, 116, 101, 100], [104, 111, 117, 114], [115, 101, 101, 110], [102, 101, 116, 99, 104, 101, 100], [109, 111, 114, 101]]
def byteOf (k : Nat) : List Int32 := match nth byteL k with
  | some l => l
  | none => []
def kLaw : Nat := 188
section MACH
variable {α : Type}
def ldI (L : List Value) (j : Nat) (f : Int32 → α) (no : α) : α := match nth L j with
  | some (.int x) => f x
  | _ => no
def ldJ (L : List Value) (j : Nat) (f : Int64 → α) (no : α) : α := match nth L j with
  | some (.long x) => f x
  | _ => no
def ldR (L : List Value) (j : Nat) (f : Nat → α) (no : α) : α := match nth L j with
  | some (.ref x) => f x
  | _ => no
def p1 (st : List Value) (f : Int32 → List Value → α) (no : α) : α := match st with
  | .int x :: r => f x r
  | _ => no
def p2 (st : List Value) (f : Int32 → Int32 → List Value → α) (no : α) : α := match st with
  | .int y :: .int x :: r => f x y r
  | _ => no
def q1 (st : List Value) (f : Int64 → List Value → α) (no : α) : α := match st with
  | .long x :: r => f x r
  | _ => no
def q2 (st : List Value) (f : Int64 → Int64 → List Value → α) (no : α) : α := match st with
  | .long y :: .long x :: r => f x y r
  | _ => no
def q3 (st : List Value) (f : Int64 → Int32 → List Value → α) (no : α) : α := match st with
  | .int y :: .long x :: r => f x y r
  | _ => no
def c1 (st : List Value) (f : Nat → List Value → α) (no : α) : α := match st with
  | .ref x :: r => f x r
  | _ => no
def c2 (st : List Value) (f : Nat → Int32 → List Value → α) (no : α) : α := match st with
  | .int y :: .ref x :: r => f x y r
  | _ => no
def c3 (st : List Value) (f : Nat → Int32 → Int32 → List Value → α) (no : α) : α := match st with
  | .int v :: .int y :: .ref x :: r => f x y v r
  | _ => no
/-- a value of one slot on top -/
def d1 (st : List Value) (f : Value → List Value → α) (no : α) : α := match st with
  | .int x :: r => f (.int x) r
  | .ref x :: r => f (.ref x) r
  | _ => no
/-- a field of an object -/
def fldG (Sh : Nat → Option Cs) (c a b : Nat) (f : Option Nat → α) (no : α) : α := match Sh c with
  | some (.inl (ci, ks)) => if ci = a then (match nth ks b with
    | some o => f o
    | none => no) else no
  | _ => no
/-- a row -/
def rowG (Sh : Nat → Option Cs) (c : Nat) (z : Bool) (f : Nat → α) (no : α) : α := match Sh c with
  | some (.inr (z', n)) => if z' = z then f n else no
  | _ => no
def rowL (Sh : Nat → Option Cs) (c : Nat) (f : Nat → α) (no : α) : α := match Sh c with
  | some (.inr (_, n)) => f n
  | _ => no
def swc (x : Int32) (ts : List (Int32 × Nat)) (g : Nat → α) (a : Nat) : α := match ts with
  | [] => g a
  | t :: ts => if x = t.1 then g t.2 else swc x ts g a
def popG (n : Nat) (st : List Value) (f : List Value → List Value → α) (no : α) : α := match popn n st [] with
  | some (as, r) => if (r.map fun v => v.category).sum ≤ 8 then f as r else no
  | none => no
/-- the receiver is an object of the kind f (50: a String constant) -/
def recvG (Sh : Nat → Option Cs) (as : List Value) (k : Nat) (f : α) (no : α) : α := match as with
  | .ref c :: _ => if k = 50 then (if 100 ≤ c ∧ c < 112 then f else no) else (match Sh c with
    | some (.inl (ci, _)) => if ci = k then f else no
    | _ => no)
  | _ => no
def pushR (e : Nat) (r : Rs) (st : List Value) : List Value := match e with
  | 0 => st
  | 1 => .int r.1 :: st
  | _ => .long r.2.1 :: st
def carryG (Sh : Nat → Option Cs) (st : List Value) (σ : Sto) (f : List Value → Sto → α) (no : α) : α := match st with
  | .int n :: .int dp :: .ref d :: .int sp :: .ref c :: r =>
    rowG Sh c false (fun nc => rowG Sh d false (fun nd =>
      if (0 ≤ sp.toInt ∧ 0 ≤ dp.toInt ∧ 0 ≤ n.toInt ∧ sp.toInt + n.toInt ≤ (nc : Int) ∧ dp.toInt + n.toInt ≤ (nd : Int)) ∧ (r.map fun v => v.category).sum ≤ 8 then
        f r (fun c' => if c' = d then va_cpy (σ c) (σ d) sp.toNatClampNeg dp.toNatClampNeg n.toNatClampNeg else σ c') else no) no) no
  | _ => no
/-- one instruction: 'go' on in the method, 'cal'l (and with what to go on behind it), 'ret'urn, or 'no' -/
def act (Sh : Nat → Option Cs) (y k i : Nat) (L st : List Value) (σ : Sto) (go : Nat → List Value → List Value → Sto → α)
    (cal : Nat → Nat → List Value → Sto → (Rs → List Value) → α) (ret : Rs → α) (no : α) : α := match fetch y i with
  | none => no
  | some (I, _, a, b, d, e, f, _, v, w, ts) => match I with
    | .aload_n n => ldR L n.val (fun x => go (i + 1) L (.ref x :: st) σ) no
    | .iload_n n => ldI L n.val (fun x => go (i + 1) L (.int x :: st) σ) no
    | .iload n => ldI L n (fun x => go (i + 1) L (.int x :: st) σ) no
    | .lload_n n => ldJ L n.val (fun x => go (i + 1) L (.long x :: st) σ) no
    | .lload n => ldJ L n (fun x => go (i + 1) L (.long x :: st) σ) no
    | .istore_n n => p1 st (fun x r => go (i + 1) (st1 L n.val (.int x)) r σ) no
    | .istore n => p1 st (fun x r => go (i + 1) (st1 L n (.int x)) r σ) no
    | .lstore_n n => q1 st (fun x r => go (i + 1) (st2 L n.val (.long x)) r σ) no
    | .lstore n => q1 st (fun x r => go (i + 1) (st2 L n (.long x)) r σ) no
    | .iinc n _ => ldI L n (fun x => go (i + 1) (st1 L n (.int (x + v))) st σ) no
    | .iconst _ => go (i + 1) L (.int v :: st) σ
    | .bipush _ => go (i + 1) L (.int v :: st) σ
    | .sipush _ => go (i + 1) L (.int v :: st) σ
    | .ldc _ => if a = 1 then go (i + 1) L (.ref b :: st) σ else go (i + 1) L (.int v :: st) σ
    | .ldc_w _ => go (i + 1) L (.int v :: st) σ
    | .ldc2_w _ => go (i + 1) L (.long w :: st) σ
    | .lconst _ => go (i + 1) L (.long w :: st) σ
    | .getfield _ => c1 st (fun c r => if a = 50 then (if 100 ≤ c ∧ c < 112 then go (i + 1) L (.ref (c + 100) :: r) σ else no)
        else if a = 51 then (if 100 ≤ c ∧ c < 112 then go (i + 1) L (.int 0 :: r) σ else no)
        else fldG Sh c a b (fun o => match o with
          | none => go (i + 1) L (.int (σ c b) :: r) σ
          | some x => go (i + 1) L (.ref x :: r) σ) no) no
    | .putfield _ => p1 st (fun x r => c1 r (fun c r => fldG Sh c a b (fun o => match o with
          | none => if d = 0 then go (i + 1) L r (su σ c b x) else if zb x = true then go (i + 1) L r (su σ c b x) else no
          | some _ => no) no) no) no
    | .getstatic _ => if a = 1 then go (i + 1) L (.int v :: st) σ else if a = 2 then go (i + 1) L (.ref 300 :: st) σ else no
    | .iaload => c2 st (fun c x r => if a = 1 then (if c = 99 ∧ inb x (σ 98 0).toNatClampNeg = true then go (i + 1) L (.int (σ 99 x.toNatClampNeg) :: r) σ else no)
        else rowG Sh c false (fun n => if inb x n = true then go (i + 1) L (.int (σ c x.toNatClampNeg) :: r) σ else no) no) no
    | .baload => c2 st (fun c x r => if a = 2 then (if 200 ≤ c ∧ c < 212 then (if inb x (byteOf (c - 200)).length = true then go (i + 1) L (.int ((byteOf (c - 200)).getD x.toNatClampNeg 0) :: r) σ else no) else no)
        else rowG Sh c true (fun n => if inb x n = true then go (i + 1) L (.int (σ c x.toNatClampNeg) :: r) σ else no) no) no
    | .iastore => c3 st (fun c x z r => rowG Sh c false (fun n => if inb x n = true then go (i + 1) L r (su σ c x.toNatClampNeg z) else no) no) no
    | .bastore => c3 st (fun c x z r => rowG Sh c true (fun n => if inb x n = true then (if zb z = true then go (i + 1) L r (su σ c x.toNatClampNeg z) else no) else no) no) no
    | .arraylength => c1 st (fun c r => if a = 1 then (if c = 99 then go (i + 1) L (.int (σ 98 0) :: r) σ else no)
        else if a = 2 then (if 200 ≤ c ∧ c < 212 then go (i + 1) L (.int (Int32.ofNat (byteOf (c - 200)).length) :: r) σ else no)
        else rowL Sh c (fun n => go (i + 1) L (.int (Int32.ofNat n) :: r) σ) no) no
    | .invokevirtual _ => if d = 0 then popG b st (fun as r => recvG Sh as f (match ts with
          | [] => cal a k as σ (fun s => pushR e s r)
          | _ :: _ => if k < 6 then cal a (k + 1) as σ (fun s => pushR e s r) else no) no) no else no
    | .invokestatic _ => if d = 3 then carryG Sh st σ (fun r σ' => go (i + 1) L r σ') no
        else if d = 1 ∨ d = 2 then popG b st (fun as r => cal a k as σ (fun s => pushR e s r)) no else no
    | .iadd => p2 st (fun x y r => go (i + 1) L (.int (x + y) :: r) σ) no
    | .isub => p2 st (fun x y r => go (i + 1) L (.int (x - y) :: r) σ) no
    | .imul => p2 st (fun x y r => go (i + 1) L (.int (x * y) :: r) σ) no
    | .idiv => p2 st (fun x y r => if y = 0 then no else go (i + 1) L (.int (x / y) :: r) σ) no
    | .irem => p2 st (fun x y r => if y = 0 then no else go (i + 1) L (.int (x - x / y * y) :: r) σ) no
    | .ineg => p1 st (fun x r => go (i + 1) L (.int (-x) :: r) σ) no
    | .iand => p2 st (fun x y r => go (i + 1) L (.int (x &&& y) :: r) σ) no
    | .ior => p2 st (fun x y r => go (i + 1) L (.int (x ||| y) :: r) σ) no
    | .ixor => p2 st (fun x y r => go (i + 1) L (.int (x ^^^ y) :: r) σ) no
    | .ishl => p2 st (fun x y r => go (i + 1) L (.int (x <<< (y &&& 31)) :: r) σ) no
    | .ishr => p2 st (fun x y r => go (i + 1) L (.int (x >>> (y &&& 31)) :: r) σ) no
    | .iushr => p2 st (fun x y r => go (i + 1) L (.int (x.toUInt32 >>> (y.toUInt32 &&& Int32.toUInt32 31)).toInt32 :: r) σ) no
    | .ladd => q2 st (fun x y r => go (i + 1) L (.long (x + y) :: r) σ) no
    | .lsub => q2 st (fun x y r => go (i + 1) L (.long (x - y) :: r) σ) no
    | .lmul => q2 st (fun x y r => go (i + 1) L (.long (x * y) :: r) σ) no
    | .ldiv => q2 st (fun x y r => if y = 0 then no else go (i + 1) L (.long (x / y) :: r) σ) no
    | .lrem => q2 st (fun x y r => if y = 0 then no else go (i + 1) L (.long (x - x / y * y) :: r) σ) no
    | .lor => q2 st (fun x y r => go (i + 1) L (.long (x ||| y) :: r) σ) no
    | .lshl => q3 st (fun x y r => go (i + 1) L (.long (x <<< (y.toInt64 &&& 63)) :: r) σ) no
    | .lcmp => q2 st (fun x y r => go (i + 1) L (.int (lg_cmp x y) :: r) σ) no
    | .i2l => p1 st (fun x r => go (i + 1) L (.long x.toInt64 :: r) σ) no
    | .l2i => q1 st (fun x r => go (i + 1) L (.int x.toInt32 :: r) σ) no
    | .i2b => p1 st (fun x r => go (i + 1) L (.int x.toInt8.toInt32 :: r) σ) no
    | .i2s => p1 st (fun x r => go (i + 1) L (.int x.toInt16.toInt32 :: r) σ) no
    | .i2c => p1 st (fun x r => go (i + 1) L (.int (x.toUInt32 % 65536).toInt32 :: r) σ) no
    | .dup => d1 st (fun x r => go (i + 1) L (x :: x :: r) σ) no
    | .dup2 => d1 st (fun x r => d1 r (fun z r => go (i + 1) L (x :: z :: x :: z :: r) σ) no) no
    | .pop => d1 st (fun _ r => go (i + 1) L r σ) no
    | .goto _ => go a L st σ
    | .ifCond o _ => p1 st (fun x r => match o with
        | .eq => if x = 0 then go a L r σ else go (i + 1) L r σ
        | .ne => if x = 0 then go (i + 1) L r σ else go a L r σ
        | .lt => if x < 0 then go a L r σ else go (i + 1) L r σ
        | .ge => if x < 0 then go (i + 1) L r σ else go a L r σ
        | .gt => if 0 < x then go a L r σ else go (i + 1) L r σ
        | .le => if 0 < x then go (i + 1) L r σ else go a L r σ) no
    | .if_icmp o _ => p2 st (fun x y r => match o with
        | .eq => if x = y then go a L r σ else go (i + 1) L r σ
        | .ne => if x = y then go (i + 1) L r σ else go a L r σ
        | .lt => if x < y then go a L r σ else go (i + 1) L r σ
        | .ge => if x < y then go (i + 1) L r σ else go a L r σ
        | .gt => if y < x then go a L r σ else go (i + 1) L r σ
        | .le => if y < x then go (i + 1) L r σ else go a L r σ) no
    | .tableswitch .. => p1 st (fun x r => swc x ts (fun j => go j L r σ) a) no
    | .lookupswitch .. => p1 st (fun x r => swc x ts (fun j => go j L r σ) a) no
    | .ireturn => match st with
      | [.int x] => if nok a x = true then ret (x, 0, σ) else no
      | _ => no
    | .lreturn => match st with
      | [.long x] => ret (0, x, σ)
      | _ => no
    | .return_ => match st with
      | [] => ret (0, 0, σ)
      | _ => no
    | _ => no
end MACH
/-- one step, with K for what comes behind it -/
def stepF (Sh : Nat → Option Cs) (K : Nat → Nat → Nat → List Value → List Value → Sto → Option Rs) (y k i : Nat) (L st : List Value) (σ : Sto) : Option Rs :=
  act Sh y k i L st σ (fun i' L' st' σ' => K y k i' L' st' σ') (fun y' k' as σ' kk => (K y' k' 0 (ent y' as) [] σ').bind fun r => K y k (i + 1) L (kk r) r.2.2) some none
def run (Sh : Nat → Option Cs) : Nat → Nat → Nat → Nat → List Value → List Value → Sto → Option Rs
  | 0, _, _, _, _, _, _ => none
  | n + 1, y, k, i, L, st, σ => stepF Sh (run Sh n) y k i L st σ
/-- from here on, till one of the stops -/
def stp (K : Nat → Nat → Nat → List Value → List Value → Sto → Option Rs) (K' : Nat → List Value → List Value → Sto → Option Rs) (y k : Nat) (b : Bool) (i : Nat) (L st : List Value) (σ : Sto) : Option Rs := match b with
  | true => K y k i L st σ
  | false => K' i L st σ
def unr (Sh : Nat → Option Cs) (K : Nat → Nat → Nat → List Value → List Value → Sto → Option Rs) (stops : List Nat) (y k : Nat) : Nat → Nat → List Value → List Value → Sto → Option Rs
  | 0, i, L, st, σ => K y k i L st σ
  | n + 1, i, L, st, σ => act Sh y k i L st σ (fun i' L' st' σ' => stp K (unr Sh K stops y k n) y k (memb stops i') i' L' st' σ')
      (fun y' k' as σ' kk => (K y' k' 0 (ent y' as) [] σ').bind fun r => stp K (unr Sh K stops y k n) y k (memb stops (i + 1)) (i + 1) L (kk r) r.2.2) some none
