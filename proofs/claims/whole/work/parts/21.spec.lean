/-! THE STRAND, as numbers: how many people, the hour, out, in the boat, fetched, the law; then rows: kind, more, place, hidden, waited -/
abbrev Rw : Type := Nat → Int32
abbrev St : Type := (Nat × Int32 × Int32 × Int32 × Int32 × Nat) × Rw × Rw × Rw × Rw × Rw
def sN (t : St) : Nat := t.1.1
def sH (t : St) : Int32 := t.1.2.1
def sO (t : St) : Int32 := t.1.2.2.1
def sB (t : St) : Int32 := t.1.2.2.2.1
def sF (t : St) : Int32 := t.1.2.2.2.2.1
def sL (t : St) : Nat := t.1.2.2.2.2.2
def rK (t : St) : Rw := t.2.1
def rM (t : St) : Rw := t.2.2.1
def rP (t : St) : Rw := t.2.2.2.1
def rD (t : St) : Rw := t.2.2.2.2.1
def rW (t : St) : Rw := t.2.2.2.2.2
def pK (t : St) (f : Rw) : St := (t.1, f, t.2.2)
def pM (t : St) (f : Rw) : St := (t.1, t.2.1, f, t.2.2.2)
def pP (t : St) (f : Rw) : St := (t.1, t.2.1, t.2.2.1, f, t.2.2.2.2)
def pD (t : St) (f : Rw) : St := (t.1, t.2.1, t.2.2.1, t.2.2.2.1, f, t.2.2.2.2.2)
def pW (t : St) (f : Rw) : St := (t.1, t.2.1, t.2.2.1, t.2.2.2.1, t.2.2.2.2.1, f)
def uH (t : St) (v : Int32) : St := ((sN t, v, sO t, sB t, sF t, sL t), t.2)
def uO (t : St) (v : Int32) : St := ((sN t, sH t, v, sB t, sF t, sL t), t.2)
def uB (t : St) (v : Int32) : St := ((sN t, sH t, sO t, v, sF t, sL t), t.2)
def uF (t : St) (v : Int32) : St := ((sN t, sH t, sO t, sB t, v, sL t), t.2)
def uL (t : St) (v : Nat) : St := ((sN t, sH t, sO t, sB t, sF t, v), t.2)
def uN (t : St) (v : Nat) : St := ((v, sH t, sO t, sB t, sF t, sL t), t.2)
/-- the texts: of each its three parts, as they are reckoned: what is below -6 joins or turns what was before, the rest is put down -/
abbrev TXT : Type := Nat → Nat → List Int32
def seenS (t : St) (p : Nat) : Bool := decide (¬ rP t p = -1) && decide (rD t p = 0)
def cntS (t : St) : Nat → Nat
  | 0 => 0
  | m + 1 => if seenS t m = true then cntS t m + 1 else cntS t m
def envS (t : St) (p : Nat) (c : Int32) : Int32 :=
  if c = -6 then rM t p else if c = -5 then sF t else if c = -4 then nI (cntS t (sN t)) else if c = -3 then sH t else if c = -2 then rW t p
  else if c = -1 then (if rP t p = -1 then 0 else rP t p) else nI (cntS t (sN t))
def joinS (c x y : Int32) : Int32 :=
  if c = -15 then x * y else if c = -14 then x - y else if c = -13 then x + y else if c = -12 then (if x = y then 1 else 0) else if c = -11 then (if x < y then 1 else 0)
  else if c = -10 then (if x = 0 then 0 else if y = 0 then 0 else 1) else if c = -9 then (if x = 0 then (if y = 0 then 0 else 1) else 1) else 0
def stepC (env : Int32 → Int32) (c : Int32) (st : List Int32) : List Int32 :=
  if c < -6 then (if c < -8 then (match st with
      | y :: x :: r => joinS c x y :: r
      | _ => []) else (match st with
      | x :: r => (if c = -7 then -x else if x = 0 then 1 else 0) :: r
      | _ => []))
  else (if c < 0 then env c else c) :: st
def evC (env : Int32 → Int32) : List Int32 → List Int32 → List Int32
  | [], st => st
  | c :: cs, st => evC env cs (stepC env c st)
def headI (l : List Int32) : Int32 := match l with
  | x :: _ => x
  | [] => 0
def clampS (lo v : Int32) : Int32 := maxI lo (minI 99 v)
def saysS (TX : TXT) (t : St) (part p : Nat) : Int32 := clampS (if part = 0 then 0 else -99) (headI (evC (envS t p) (TX (sL t) part) []))
/-- how many numbers lie there behind a text's reckoning, if it never wants one -/
def wfL : Nat → List Int32 → Option Nat
  | d, [] => some d
  | d, c :: cs => if c < -6 then (if c < -8 then (match d with
      | d + 2 => wfL (d + 1) cs
      | _ => none) else (match d with
      | d + 1 => wfL (d + 1) cs
      | _ => none)) else wfL (d + 1) cs
def gapS (TX : TXT) (t : St) (p : Nat) : Int32 :=
  if rK t p = 1 then saysS TX t 0 p / 2 else if rK t p = 2 then saysS TX t 0 p + rM t p else if rK t p = 3 then saysS TX t 0 p / 2 else if rK t p = 4 then saysS TX t 0 p + rM t p
  else if rK t p = 5 then 0 else saysS TX t 0 p
def modS (x m : Int32) : Int32 := x - x / m * m
def likedS (TX : TXT) (t : St) (p : Nat) : Int32 :=
  if rK t p = 1 then saysS TX t 1 p - rM t p else if rK t p = 2 then saysS TX t 1 p else if rK t p = 3 then (if modS (sH t) 4 = 0 then 99 else saysS TX t 1 p - rM t p)
  else if rK t p = 4 then -saysS TX t 1 p else if rK t p = 5 then 10 * rM t p else saysS TX t 1 p
def distS (t : St) (q p : Nat) : Int32 := absI (rP t q - rP t p)
def nearS (t : St) (p : Nat) (g : Int32) : Nat → Bool
  | 0 => false
  | m + 1 => nearS t p g m || (decide (m ≠ p) && seenS t m && decide (distS t m p < g))
def aloneS (TX : TXT) (t : St) (p : Nat) : Bool := seenS t p && !nearS t p (gapS TX t p) (sN t)
def farS (t : St) (p : Nat) : Nat → Int32
  | 0 => -1
  | m + 1 => if m = p then farS t p m else if seenS t m = false then farS t p m else if rP t p = -1 then farS t p m
    else if farS t p m = -1 then distS t m p else minI (farS t p m) (distS t m p)
def walksS (TX : TXT) (t : St) (p : Nat) : Int32 :=
  if rK t p = 2 then saysS TX t 2 p + b2 (aloneS TX t p) else if rK t p = 3 then (if aloneS TX t p = true then 0 else -1 - saysS TX t 2 p)
  else if rK t p = 4 then (if modS (sH t) 2 = 0 then rM t p else -rM t p) else saysS TX t 2 p
def overS (t : St) (p : Nat) : Bool := decide (rP t p = -1) && decide (¬ sB t = nI p)
/-- who of the first m is chosen, and how he is liked -/
def choS (TX : TXT) (t : St) : Nat → Int32 × Int32
  | 0 => (-1, 0)
  | m + 1 => if aloneS TX t m = false then choS TX t m else if (choS TX t m).1 = -1 then (nI m, likedS TX t m) else if (choS TX t m).2 < likedS TX t m then (nI m, likedS TX t m) else choS TX t m
def choiceS (TX : TXT) (t : St) : Int32 := (choS TX t (sN t)).1
def goOnS (t : St) (p : Nat) (far : Int32) : St := pP t (upd (rP t) p (maxI 0 (minI 63 (rP t p + far))))
def waitS (t : St) (p : Nat) : St := pW t (upd (rW t) p (minI 99 (rW t p + 1)))
def fetchS (t : St) (p : Nat) : St := uF (uB (pP (uO t (1 + absI (2 * rP t p - 63) / 20)) (upd (rP t) p (-1))) (nI p)) (minI 9999 (sF t + 1))
def walk1S (TX : TXT) (t : St) (p : Nat) : St := if rP t p = -1 then t else waitS (goOnS t p (walksS TX t p)) p
def walkS (TX : TXT) (t : St) : Nat → St
  | 0 => t
  | m + 1 => walk1S TX (walkS TX t m) m
/-- the hour's first half: who is fetched -/
def whoS (TX : TXT) (t : St) : Int32 := if 0 < sO t then -1 else choiceS TX t
def ferryS (TX : TXT) (t : St) : St := if 0 < sO t then (if sO t - 1 = 0 then uB (uO t (sO t - 1)) (-1) else uO t (sO t - 1)) else if choiceS TX t = -1 then t else fetchS t (choiceS TX t).toNatClampNeg
def hourS (TX : TXT) (t : St) : St := uH (walkS TX (ferryS TX t) (sN t)) (sH t + 1)
/-- the first m whose f holds, as bits -/
def bitsS (f : Nat → Bool) : Nat → Int32
  | 0 => 0
  | m + 1 => if f m = true then bitsS f m ||| (1 <<< (nI m &&& 31)) else bitsS f m
/-! what is well: numbers within their bounds -/
def okP (t : St) (i : Nat) : Prop := (0 ≤ (rK t i).toInt ∧ (rK t i).toInt ≤ 5) ∧ (0 ≤ (rM t i).toInt ∧ (rM t i).toInt ≤ 9) ∧ (-1 ≤ (rP t i).toInt ∧ (rP t i).toInt ≤ 63) ∧ (rD t i = 0 ∨ rD t i = 1) ∧ (0 ≤ (rW t i).toInt ∧ (rW t i).toInt ≤ 99)
def Wf (t : St) : Prop := sN t ≤ 6 ∧ sL t < 6 ∧ (0 ≤ (sF t).toInt ∧ (sF t).toInt ≤ 9999) ∧ ∀ i, i < sN t → okP t i
def wfT (TX : TXT) (K : Nat) : Prop := K ≤ 6 ∧ ∀ l, l < K → ∀ part, part < 3 → wfL 0 (TX l part) = some 1 ∧ (TX l part).length ≤ 160 ∧ ∀ x ∈ TX l part, -15 ≤ x.toInt ∧ x.toInt ≤ 9999
/-! THE COMPONENT'S CELLS -/
def RepS (σ : Sto) (c : Nat) (t : St) : Prop := (σ c 6 = nI (sN t) ∧ σ c 7 = sH t ∧ σ c 8 = sO t ∧ σ c 9 = sB t ∧ σ c 10 = sF t ∧ σ c 11 = nI (sL t)) ∧
  ∀ i, i < sN t → σ (c + 1) i = rK t i ∧ σ (c + 2) i = rM t i ∧ σ (c + 3) i = rP t i ∧ σ (c + 4) i = rD t i ∧ σ (c + 5) i = rW t i
def TxS (σ : Sto) (TX : TXT) (K : Nat) : Prop := ∀ l, l < K → ∀ part, part < 3 → ∃ b, b + (TX l part).length ≤ 160 * (l + 1) ∧ σ 4 (3 * l + part) = nI b ∧ σ 5 (3 * l + part) = nI (b + (TX l part).length) ∧ ∀ j x, (TX l part)[j]? = some x → σ 3 (b + j) = x
theorem RepS.fr {l : List Nat} {σ σ' : Sto} {c : Nat} {t : St} (h : RepS σ c t) (hf : Fr l σ σ') (h0 : ∀ j, j < 6 → c + j ∉ l) : RepS σ' c t := by
  have e0 : σ' c = σ c := hf c (h0 0 (by omega))
  have e1 := hf (c + 1) (h0 1 (by omega))
  have e2 := hf (c + 2) (h0 2 (by omega))
  have e3 := hf (c + 3) (h0 3 (by omega))
  have e4 := hf (c + 4) (h0 4 (by omega))
  have e5 := hf (c + 5) (h0 5 (by omega))
  refine ⟨by rw [e0]; exact h.1, fun i hi => ?_⟩
  rw [e1, e2, e3, e4, e5]
  exact h.2 i hi
theorem TxS.fr {l : List Nat} {σ σ' : Sto} {TX : TXT} {K : Nat} (h : TxS σ TX K) (hf : Fr l σ σ') (h3 : 3 ∉ l) (h4 : 4 ∉ l) (h5 : 5 ∉ l) : TxS σ' TX K := by
  intro a ha part hp
  rw [hf 3 h3, hf 4 h4, hf 5 h5]
  exact h a ha part hp
theorem RepS.congr {σ : Sto} {c : Nat} {t t' : St} (h : RepS σ c t) (h1 : t'.1 = t.1) (h2 : ∀ i, i < sN t → rK t' i = rK t i ∧ rM t' i = rM t i ∧ rP t' i = rP t i ∧ rD t' i = rD t i ∧ rW t' i = rW t i) : RepS σ c t' := by
  have e1 : sN t' = sN t := congrArg (·.1) h1
  refine ⟨?_, fun i hi => ?_⟩
  · unfold sN sH sO sB sF sL
    rw [h1]
    exact h.1
  · rw [e1] at hi
    obtain ⟨a1, a2, a3, a4, a5⟩ := h2 i hi
    rw [a1, a2, a3, a4, a5]
    exact h.2 i hi
