/-! THE MODEL'S START: its first text is read -/
def lawB : List Int32 := [103, 97, 112, 115, 32, 53, 32, 59, 32, 108, 105, 107, 101, 115, 32, 119, 97, 105, 116, 101, 100, 32, 59, 32, 119, 97, 108, 107, 115, 32, 48, 32, 59]
def wrdB : List Int32 := [103, 97, 112, 115, 32, 32, 32, 32, 108, 105, 107, 101, 115, 32, 32, 32, 119, 97, 108, 107, 115, 32, 32, 32, 112, 108, 97, 99, 101, 32, 32, 32, 119, 97, 105, 116, 101, 100, 32, 32, 104, 111, 117, 114, 32, 32, 32, 32, 115, 101, 101, 110, 32, 32, 32, 32, 102, 101, 116, 99, 104, 101, 100, 32, 109, 111, 114, 101, 32, 32, 32, 32, 111, 114, 32, 32, 32, 32, 32, 32, 97, 110, 100, 32, 32, 32, 32, 32, 110, 111, 116, 32, 32, 32, 32, 32]
def sM0 : Sto := fun c i => if c = 34 then (if i = 1 then -1 else 0) else if c = 40 then -1 else if c = 43 then lawB.getD i 0 else if c = 35 then (if i < 33 then lawB.getD i 0 else 0) else if c = 44 then wrdB.getD i 0 else if c = 30 then (if i = 6 then 33 else 0) else 0
set_option maxRecDepth 1000000 in
theorem m_start : (match run ShM 4000 nM_text 0 0 (ent nM_text [.ref 30]) [] sM0 with
  | some r => decide (r.1 = 0)
  | none => false) = true := by decide +kernel
