/-! all that is checked, in one -/
theorem chkR_at {y : Nat} : ∀ (n lo : Nat), chkR y lo n = true → ∀ i, lo ≤ i → i < lo + n → chk y i = true := by
  intro n
  induction n with
  | zero => intro lo _ i h1 h2; omega
  | succ n ih =>
    intro lo h i h1 h2
    unfold chkR at h
    rw [Bool.and_eq_true] at h
    by_cases hi : i = lo
    · rw [hi]; exact h.1
    · exact ih (lo + 1) h.2 i (by omega) (by omega)
def chunksOf (y : Nat) : Nat := match fet0 (nth mtab (y / 16)) (y % 16) with
  | some m => m.length
  | none => 0
theorem fetch_lt {y i : Nat} {r : RI} (h : fetch y i = some r) : i < 32 * chunksOf y := by
  unfold fetch at h
  unfold chunksOf
  cases hm : fet0 (nth mtab (y / 16)) (y % 16) with
  | none => rw [hm] at h; cases h
  | some m =>
    rw [hm] at h
    unfold fet1 at h
    cases hc : nth m (i / 32) with
    | none => simp only [hc] at h; cases h
    | some c =>
      have := nth_lt _ _ _ hc
      show i < 32 * m.length
      omega
theorem chk_none {y i : Nat} (h : fetch y i = none) : chk y i = true := by
  unfold chk
  cases mi? y with
  | none => rfl
  | some t => rw [h]
theorem chk_of {y n : Nat} (hn : chunksOf y = n) (h : ∀ i, i < 32 * n → chk y i = true) : ∀ i, chk y i = true := by
  intro i
  cases hf : fetch y i with
  | none => exact chk_none hf
  | some r => exact h i (by rw [← hn]; exact fetch_lt hf)
theorem cy0 : ∀ i, chk 0 i = true := chk_of (n := 2) (by decide +kernel) (fun i h => chkR_at _ _ ck0_0 i (Nat.zero_le _) (by omega))
theorem cy1 : ∀ i, chk 1 i = true := chk_of (n := 1) (by decide +kernel) (fun i h => chkR_at _ _ ck1_0 i (Nat.zero_le _) (by omega))
theorem cy2 : ∀ i, chk 2 i = true := chk_of (n := 1) (by decide +kernel) (fun i h => chkR_at _ _ ck2_0 i (Nat.zero_le _) (by omega))
theorem cy3 : ∀ i, chk 3 i = true := chk_of (n := 1) (by decide +kernel) (fun i h => chkR_at _ _ ck3_0 i (Nat.zero_le _) (by omega))
theorem cy4 : ∀ i, chk 4 i = true := chk_of (n := 1) (by decide +kernel) (fun i h => chkR_at _ _ ck4_0 i (Nat.zero_le _) (by omega))
theorem cy5 : ∀ i, chk 5 i = true := chk_of (n := 1) (by decide +kernel) (fun i h => chkR_at _ _ ck5_0 i (Nat.zero_le _) (by omega))
theorem cy6 : ∀ i, chk 6 i = true := chk_of (n := 1) (by decide +kernel) (fun i h => chkR_at _ _ ck6_0 i (Nat.zero_le _) (by omega))
theorem cy7 : ∀ i, chk 7 i = true := chk_of (n := 1) (by decide +kernel) (fun i h => chkR_at _ _ ck7_0 i (Nat.zero_le _) (by omega))
theorem cy8 : ∀ i, chk 8 i = true := chk_of (n := 3) (by decide +kernel) (fun i h => chkR_at _ _ ck8_0 i (Nat.zero_le _) (by omega))
theorem cy9 : ∀ i, chk 9 i = true := chk_of (n := 1) (by decide +kernel) (fun i h => chkR_at _ _ ck9_0 i (Nat.zero_le _) (by omega))
theorem cy10 : ∀ i, chk 10 i = true := chk_of (n := 1) (by decide +kernel) (fun i h => chkR_at _ _ ck10_0 i (Nat.zero_le _) (by omega))
theorem cy11 : ∀ i, chk 11 i = true := chk_of (n := 1) (by decide +kernel) (fun i h => chkR_at _ _ ck11_0 i (Nat.zero_le _) (by omega))
theorem cy12 : ∀ i, chk 12 i = true := chk_of (n := 1) (by decide +kernel) (fun i h => chkR_at _ _ ck12_0 i (Nat.zero_le _) (by omega))
theorem cy13 : ∀ i, chk 13 i = true := chk_of (n := 1) (by decide +kernel) (fun i h => chkR_at _ _ ck13_0 i (Nat.zero_le _) (by omega))
theorem cy14 : ∀ i, chk 14 i = true := chk_of (n := 1) (by decide +kernel) (fun i h => chkR_at _ _ ck14_0 i (Nat.zero_le _) (by omega))
theorem cy15 : ∀ i, chk 15 i = true := chk_of (n := 1) (by decide +kernel) (fun i h => chkR_at _ _ ck15_0 i (Nat.zero_le _) (by omega))
theorem cy16 : ∀ i, chk 16 i = true := chk_of (n := 1) (by decide +kernel) (fun i h => chkR_at _ _ ck16_0 i (Nat.zero_le _) (by omega))
theorem cy17 : ∀ i, chk 17 i = true := chk_of (n := 1) (by decide +kernel) (fun i h => chkR_at _ _ ck17_0 i (Nat.zero_le _) (by omega))
theorem cy18 : ∀ i, chk 18 i = true := chk_of (n := 3) (by decide +kernel) (fun i h => chkR_at _ _ ck18_0 i (Nat.zero_le _) (by omega))
theorem cy19 : ∀ i, chk 19 i = true := chk_of (n := 3) (by decide +kernel) (fun i h => chkR_at _ _ ck19_0 i (Nat.zero_le _) (by omega))
theorem cy20 : ∀ i, chk 20 i = true := chk_of (n := 3) (by decide +kernel) (fun i h => chkR_at _ _ ck20_0 i (Nat.zero_le _) (by omega))
theorem cy21 : ∀ i, chk 21 i = true := chk_of (n := 2) (by decide +kernel) (fun i h => chkR_at _ _ ck21_0 i (Nat.zero_le _) (by omega))
theorem cy22 : ∀ i, chk 22 i = true := chk_of (n := 2) (by decide +kernel) (fun i h => chkR_at _ _ ck22_0 i (Nat.zero_le _) (by omega))
theorem cy23 : ∀ i, chk 23 i = true := chk_of (n := 1) (by decide +kernel) (fun i h => chkR_at _ _ ck23_0 i (Nat.zero_le _) (by omega))
theorem cy24 : ∀ i, chk 24 i = true := chk_of (n := 1) (by decide +kernel) (fun i h => chkR_at _ _ ck24_0 i (Nat.zero_le _) (by omega))
theorem cy25 : ∀ i, chk 25 i = true := chk_of (n := 1) (by decide +kernel) (fun i h => chkR_at _ _ ck25_0 i (Nat.zero_le _) (by omega))
theorem cy26 : ∀ i, chk 26 i = true := chk_of (n := 1) (by decide +kernel) (fun i h => chkR_at _ _ ck26_0 i (Nat.zero_le _) (by omega))
theorem cy27 : ∀ i, chk 27 i = true := chk_of (n := 1) (by decide +kernel) (fun i h => chkR_at _ _ ck27_0 i (Nat.zero_le _) (by omega))
theorem cy28 : ∀ i, chk 28 i = true := chk_of (n := 1) (by decide +kernel) (fun i h => chkR_at _ _ ck28_0 i (Nat.zero_le _) (by omega))
theorem cy29 : ∀ i, chk 29 i = true := chk_of (n := 1) (by decide +kernel) (fun i h => chkR_at _ _ ck29_0 i (Nat.zero_le _) (by omega))
theorem cy30 : ∀ i, chk 30 i = true := chk_of (n := 1) (by decide +kernel) (fun i h => chkR_at _ _ ck30_0 i (Nat.zero_le _) (by omega))
theorem cy31 : ∀ i, chk 31 i = true := chk_of (n := 1) (by decide +kernel) (fun i h => chkR_at _ _ ck31_0 i (Nat.zero_le _) (by omega))
theorem cy32 : ∀ i, chk 32 i = true := chk_of (n := 3) (by decide +kernel) (fun i h => chkR_at _ _ ck32_0 i (Nat.zero_le _) (by omega))
theorem cy33 : ∀ i, chk 33 i = true := chk_of (n := 1) (by decide +kernel) (fun i h => chkR_at _ _ ck33_0 i (Nat.zero_le _) (by omega))
theorem cy34 : ∀ i, chk 34 i = true := chk_of (n := 2) (by decide +kernel) (fun i h => chkR_at _ _ ck34_0 i (Nat.zero_le _) (by omega))
theorem cy35 : ∀ i, chk 35 i = true := chk_of (n := 1) (by decide +kernel) (fun i h => chkR_at _ _ ck35_0 i (Nat.zero_le _) (by omega))
theorem cy36 : ∀ i, chk 36 i = true := chk_of (n := 1) (by decide +kernel) (fun i h => chkR_at _ _ ck36_0 i (Nat.zero_le _) (by omega))
theorem cy37 : ∀ i, chk 37 i = true := chk_of (n := 2) (by decide +kernel) (fun i h => chkR_at _ _ ck37_0 i (Nat.zero_le _) (by omega))
theorem cy38 : ∀ i, chk 38 i = true := chk_of (n := 2) (by decide +kernel) (fun i h => chkR_at _ _ ck38_0 i (Nat.zero_le _) (by omega))
theorem cy39 : ∀ i, chk 39 i = true := chk_of (n := 3) (by decide +kernel) (fun i h => chkR_at _ _ ck39_0 i (Nat.zero_le _) (by omega))
theorem cy40 : ∀ i, chk 40 i = true := chk_of (n := 2) (by decide +kernel) (fun i h => chkR_at _ _ ck40_0 i (Nat.zero_le _) (by omega))
theorem cy41 : ∀ i, chk 41 i = true := chk_of (n := 2) (by decide +kernel) (fun i h => chkR_at _ _ ck41_0 i (Nat.zero_le _) (by omega))
theorem cy42 : ∀ i, chk 42 i = true := chk_of (n := 2) (by decide +kernel) (fun i h => chkR_at _ _ ck42_0 i (Nat.zero_le _) (by omega))
theorem cy43 : ∀ i, chk 43 i = true := chk_of (n := 1) (by decide +kernel) (fun i h => chkR_at _ _ ck43_0 i (Nat.zero_le _) (by omega))
theorem cy44 : ∀ i, chk 44 i = true := chk_of (n := 1) (by decide +kernel) (fun i h => chkR_at _ _ ck44_0 i (Nat.zero_le _) (by omega))
theorem cy45 : ∀ i, chk 45 i = true := chk_of (n := 2) (by decide +kernel) (fun i h => chkR_at _ _ ck45_0 i (Nat.zero_le _) (by omega))
theorem cy46 : ∀ i, chk 46 i = true := chk_of (n := 2) (by decide +kernel) (fun i h => chkR_at _ _ ck46_0 i (Nat.zero_le _) (by omega))
theorem cy47 : ∀ i, chk 47 i = true := chk_of (n := 1) (by decide +kernel) (fun i h => chkR_at _ _ ck47_0 i (Nat.zero_le _) (by omega))
theorem cy48 : ∀ i, chk 48 i = true := chk_of (n := 1) (by decide +kernel) (fun i h => chkR_at _ _ ck48_0 i (Nat.zero_le _) (by omega))
theorem cy49 : ∀ i, chk 49 i = true := chk_of (n := 1) (by decide +kernel) (fun i h => chkR_at _ _ ck49_0 i (Nat.zero_le _) (by omega))
theorem cy50 : ∀ i, chk 50 i = true := chk_of (n := 2) (by decide +kernel) (fun i h => chkR_at _ _ ck50_0 i (Nat.zero_le _) (by omega))
theorem cy51 : ∀ i, chk 51 i = true := chk_of (n := 2) (by decide +kernel) (fun i h => chkR_at _ _ ck51_0 i (Nat.zero_le _) (by omega))
theorem cy52 : ∀ i, chk 52 i = true := chk_of (n := 4) (by decide +kernel) (fun i h => chkR_at _ _ ck52_0 i (Nat.zero_le _) (by omega))
theorem cy53 : ∀ i, chk 53 i = true := chk_of (n := 2) (by decide +kernel) (fun i h => chkR_at _ _ ck53_0 i (Nat.zero_le _) (by omega))
theorem cy54 : ∀ i, chk 54 i = true := chk_of (n := 1) (by decide +kernel) (fun i h => chkR_at _ _ ck54_0 i (Nat.zero_le _) (by omega))
theorem cy55 : ∀ i, chk 55 i = true := chk_of (n := 2) (by decide +kernel) (fun i h => chkR_at _ _ ck55_0 i (Nat.zero_le _) (by omega))
theorem cy56 : ∀ i, chk 56 i = true := chk_of (n := 1) (by decide +kernel) (fun i h => chkR_at _ _ ck56_0 i (Nat.zero_le _) (by omega))
theorem cy57 : ∀ i, chk 57 i = true := chk_of (n := 2) (by decide +kernel) (fun i h => chkR_at _ _ ck57_0 i (Nat.zero_le _) (by omega))
theorem cy58 : ∀ i, chk 58 i = true := chk_of (n := 2) (by decide +kernel) (fun i h => chkR_at _ _ ck58_0 i (Nat.zero_le _) (by omega))
theorem cy59 : ∀ i, chk 59 i = true := chk_of (n := 1) (by decide +kernel) (fun i h => chkR_at _ _ ck59_0 i (Nat.zero_le _) (by omega))
theorem cy60 : ∀ i, chk 60 i = true := chk_of (n := 1) (by decide +kernel) (fun i h => chkR_at _ _ ck60_0 i (Nat.zero_le _) (by omega))
theorem cy61 : ∀ i, chk 61 i = true := chk_of (n := 1) (by decide +kernel) (fun i h => chkR_at _ _ ck61_0 i (Nat.zero_le _) (by omega))
theorem cy62 : ∀ i, chk 62 i = true := chk_of (n := 3) (by decide +kernel) (fun i h => chkR_at _ _ ck62_0 i (Nat.zero_le _) (by omega))
theorem cy63 : ∀ i, chk 63 i = true := chk_of (n := 3) (by decide +kernel) (fun i h => chkR_at _ _ ck63_0 i (Nat.zero_le _) (by omega))
theorem cy64 : ∀ i, chk 64 i = true := chk_of (n := 1) (by decide +kernel) (fun i h => chkR_at _ _ ck64_0 i (Nat.zero_le _) (by omega))
theorem cy65 : ∀ i, chk 65 i = true := chk_of (n := 2) (by decide +kernel) (fun i h => chkR_at _ _ ck65_0 i (Nat.zero_le _) (by omega))
theorem cy66 : ∀ i, chk 66 i = true := chk_of (n := 4) (by decide +kernel) (fun i h => chkR_at _ _ ck66_0 i (Nat.zero_le _) (by omega))
theorem cy67 : ∀ i, chk 67 i = true := chk_of (n := 3) (by decide +kernel) (fun i h => chkR_at _ _ ck67_0 i (Nat.zero_le _) (by omega))
theorem cy68 : ∀ i, chk 68 i = true := chk_of (n := 3) (by decide +kernel) (fun i h => chkR_at _ _ ck68_0 i (Nat.zero_le _) (by omega))
theorem cy69 : ∀ i, chk 69 i = true := chk_of (n := 3) (by decide +kernel) (fun i h => chkR_at _ _ ck69_0 i (Nat.zero_le _) (by omega))
theorem cy70 : ∀ i, chk 70 i = true := chk_of (n := 3) (by decide +kernel) (fun i h => chkR_at _ _ ck70_0 i (Nat.zero_le _) (by omega))
theorem cy71 : ∀ i, chk 71 i = true := chk_of (n := 2) (by decide +kernel) (fun i h => chkR_at _ _ ck71_0 i (Nat.zero_le _) (by omega))
theorem cy72 : ∀ i, chk 72 i = true := chk_of (n := 3) (by decide +kernel) (fun i h => chkR_at _ _ ck72_0 i (Nat.zero_le _) (by omega))
theorem cy73 : ∀ i, chk 73 i = true := chk_of (n := 2) (by decide +kernel) (fun i h => chkR_at _ _ ck73_0 i (Nat.zero_le _) (by omega))
theorem cy74 : ∀ i, chk 74 i = true := chk_of (n := 1) (by decide +kernel) (fun i h => chkR_at _ _ ck74_0 i (Nat.zero_le _) (by omega))
theorem cy75 : ∀ i, chk 75 i = true := chk_of (n := 3) (by decide +kernel) (fun i h => chkR_at _ _ ck75_0 i (Nat.zero_le _) (by omega))
theorem cy76 : ∀ i, chk 76 i = true := chk_of (n := 2) (by decide +kernel) (fun i h => chkR_at _ _ ck76_0 i (Nat.zero_le _) (by omega))
theorem cy77 : ∀ i, chk 77 i = true := chk_of (n := 2) (by decide +kernel) (fun i h => chkR_at _ _ ck77_0 i (Nat.zero_le _) (by omega))
theorem cy78 : ∀ i, chk 78 i = true := chk_of (n := 2) (by decide +kernel) (fun i h => chkR_at _ _ ck78_0 i (Nat.zero_le _) (by omega))
theorem cy79 : ∀ i, chk 79 i = true := chk_of (n := 2) (by decide +kernel) (fun i h => chkR_at _ _ ck79_0 i (Nat.zero_le _) (by omega))
theorem cy80 : ∀ i, chk 80 i = true := chk_of (n := 2) (by decide +kernel) (fun i h => chkR_at _ _ ck80_0 i (Nat.zero_le _) (by omega))
theorem cy81 : ∀ i, chk 81 i = true := chk_of (n := 1) (by decide +kernel) (fun i h => chkR_at _ _ ck81_0 i (Nat.zero_le _) (by omega))
theorem cy82 : ∀ i, chk 82 i = true := chk_of (n := 2) (by decide +kernel) (fun i h => chkR_at _ _ ck82_0 i (Nat.zero_le _) (by omega))
theorem cy83 : ∀ i, chk 83 i = true := chk_of (n := 1) (by decide +kernel) (fun i h => chkR_at _ _ ck83_0 i (Nat.zero_le _) (by omega))
theorem cy84 : ∀ i, chk 84 i = true := chk_of (n := 1) (by decide +kernel) (fun i h => chkR_at _ _ ck84_0 i (Nat.zero_le _) (by omega))
theorem cy85 : ∀ i, chk 85 i = true := chk_of (n := 2) (by decide +kernel) (fun i h => chkR_at _ _ ck85_0 i (Nat.zero_le _) (by omega))
theorem cy86 : ∀ i, chk 86 i = true := chk_of (n := 2) (by decide +kernel) (fun i h => chkR_at _ _ ck86_0 i (Nat.zero_le _) (by omega))
theorem cy87 : ∀ i, chk 87 i = true := chk_of (n := 3) (by decide +kernel) (fun i h => chkR_at _ _ ck87_0 i (Nat.zero_le _) (by omega))
theorem cy88 : ∀ i, chk 88 i = true := chk_of (n := 3) (by decide +kernel) (fun i h => chkR_at _ _ ck88_0 i (Nat.zero_le _) (by omega))
theorem cy89 : ∀ i, chk 89 i = true := chk_of (n := 2) (by decide +kernel) (fun i h => chkR_at _ _ ck89_0 i (Nat.zero_le _) (by omega))
theorem cy90 : ∀ i, chk 90 i = true := chk_of (n := 1) (by decide +kernel) (fun i h => chkR_at _ _ ck90_0 i (Nat.zero_le _) (by omega))
theorem cy91 : ∀ i, chk 91 i = true := chk_of (n := 1) (by decide +kernel) (fun i h => chkR_at _ _ ck91_0 i (Nat.zero_le _) (by omega))
theorem cy92 : ∀ i, chk 92 i = true := chk_of (n := 1) (by decide +kernel) (fun i h => chkR_at _ _ ck92_0 i (Nat.zero_le _) (by omega))
theorem cy93 : ∀ i, chk 93 i = true := chk_of (n := 1) (by decide +kernel) (fun i h => chkR_at _ _ ck93_0 i (Nat.zero_le _) (by omega))
theorem cy94 : ∀ i, chk 94 i = true := chk_of (n := 1) (by decide +kernel) (fun i h => chkR_at _ _ ck94_0 i (Nat.zero_le _) (by omega))
theorem cy95 : ∀ i, chk 95 i = true := chk_of (n := 1) (by decide +kernel) (fun i h => chkR_at _ _ ck95_0 i (Nat.zero_le _) (by omega))
theorem cy96 : ∀ i, chk 96 i = true := chk_of (n := 1) (by decide +kernel) (fun i h => chkR_at _ _ ck96_0 i (Nat.zero_le _) (by omega))
theorem cy97 : ∀ i, chk 97 i = true := chk_of (n := 1) (by decide +kernel) (fun i h => chkR_at _ _ ck97_0 i (Nat.zero_le _) (by omega))
theorem cy98 : ∀ i, chk 98 i = true := chk_of (n := 2) (by decide +kernel) (fun i h => chkR_at _ _ ck98_0 i (Nat.zero_le _) (by omega))
theorem cy99 : ∀ i, chk 99 i = true := chk_of (n := 1) (by decide +kernel) (fun i h => chkR_at _ _ ck99_0 i (Nat.zero_le _) (by omega))
theorem cy100 : ∀ i, chk 100 i = true := chk_of (n := 1) (by decide +kernel) (fun i h => chkR_at _ _ ck100_0 i (Nat.zero_le _) (by omega))
theorem cy101 : ∀ i, chk 101 i = true := chk_of (n := 2) (by decide +kernel) (fun i h => chkR_at _ _ ck101_0 i (Nat.zero_le _) (by omega))
theorem cy102 : ∀ i, chk 102 i = true := chk_of (n := 1) (by decide +kernel) (fun i h => chkR_at _ _ ck102_0 i (Nat.zero_le _) (by omega))
theorem cy103 : ∀ i, chk 103 i = true := chk_of (n := 2) (by decide +kernel) (fun i h => chkR_at _ _ ck103_0 i (Nat.zero_le _) (by omega))
theorem cy104 : ∀ i, chk 104 i = true := chk_of (n := 1) (by decide +kernel) (fun i h => chkR_at _ _ ck104_0 i (Nat.zero_le _) (by omega))
theorem cy105 : ∀ i, chk 105 i = true := chk_of (n := 1) (by decide +kernel) (fun i h => chkR_at _ _ ck105_0 i (Nat.zero_le _) (by omega))
theorem cy106 : ∀ i, chk 106 i = true := chk_of (n := 1) (by decide +kernel) (fun i h => chkR_at _ _ ck106_0 i (Nat.zero_le _) (by omega))
theorem cy107 : ∀ i, chk 107 i = true := chk_of (n := 1) (by decide +kernel) (fun i h => chkR_at _ _ ck107_0 i (Nat.zero_le _) (by omega))
theorem cy108 : ∀ i, chk 108 i = true := chk_of (n := 1) (by decide +kernel) (fun i h => chkR_at _ _ ck108_0 i (Nat.zero_le _) (by omega))
theorem cy109 : ∀ i, chk 109 i = true := chk_of (n := 1) (by decide +kernel) (fun i h => chkR_at _ _ ck109_0 i (Nat.zero_le _) (by omega))
theorem cy110 : ∀ i, chk 110 i = true := chk_of (n := 1) (by decide +kernel) (fun i h => chkR_at _ _ ck110_0 i (Nat.zero_le _) (by omega))
theorem cy111 : ∀ i, chk 111 i = true := chk_of (n := 1) (by decide +kernel) (fun i h => chkR_at _ _ ck111_0 i (Nat.zero_le _) (by omega))
theorem cy112 : ∀ i, chk 112 i = true := chk_of (n := 1) (by decide +kernel) (fun i h => chkR_at _ _ ck112_0 i (Nat.zero_le _) (by omega))
theorem cy113 : ∀ i, chk 113 i = true := chk_of (n := 1) (by decide +kernel) (fun i h => chkR_at _ _ ck113_0 i (Nat.zero_le _) (by omega))
theorem cy114 : ∀ i, chk 114 i = true := chk_of (n := 2) (by decide +kernel) (fun i h => chkR_at _ _ ck114_0 i (Nat.zero_le _) (by omega))
theorem cy115 : ∀ i, chk 115 i = true := chk_of (n := 1) (by decide +kernel) (fun i h => chkR_at _ _ ck115_0 i (Nat.zero_le _) (by omega))
theorem cy116 : ∀ i, chk 116 i = true := chk_of (n := 1) (by decide +kernel) (fun i h => chkR_at _ _ ck116_0 i (Nat.zero_le _) (by omega))
theorem cy117 : ∀ i, chk 117 i = true := chk_of (n := 3) (by decide +kernel) (fun i h => chkR_at _ _ ck117_0 i (Nat.zero_le _) (by omega))
theorem cy118 : ∀ i, chk 118 i = true := chk_of (n := 2) (by decide +kernel) (fun i h => chkR_at _ _ ck118_0 i (Nat.zero_le _) (by omega))
theorem cy119 : ∀ i, chk 119 i = true := chk_of (n := 7) (by decide +kernel) (fun i h => by
  by_cases h0 : i < 160
  · exact chkR_at _ _ ck119_0 i (by omega) (by omega)
  by_cases h1 : i < 224
  · exact chkR_at _ _ ck119_160 i (by omega) (by omega)
  omega)
theorem cy120 : ∀ i, chk 120 i = true := chk_of (n := 2) (by decide +kernel) (fun i h => chkR_at _ _ ck120_0 i (Nat.zero_le _) (by omega))
theorem cy121 : ∀ i, chk 121 i = true := chk_of (n := 1) (by decide +kernel) (fun i h => chkR_at _ _ ck121_0 i (Nat.zero_le _) (by omega))
theorem cy122 : ∀ i, chk 122 i = true := chk_of (n := 2) (by decide +kernel) (fun i h => chkR_at _ _ ck122_0 i (Nat.zero_le _) (by omega))
theorem cy123 : ∀ i, chk 123 i = true := chk_of (n := 1) (by decide +kernel) (fun i h => chkR_at _ _ ck123_0 i (Nat.zero_le _) (by omega))
theorem cy124 : ∀ i, chk 124 i = true := chk_of (n := 1) (by decide +kernel) (fun i h => chkR_at _ _ ck124_0 i (Nat.zero_le _) (by omega))
theorem cy125 : ∀ i, chk 125 i = true := chk_of (n := 2) (by decide +kernel) (fun i h => chkR_at _ _ ck125_0 i (Nat.zero_le _) (by omega))
theorem cy126 : ∀ i, chk 126 i = true := chk_of (n := 2) (by decide +kernel) (fun i h => chkR_at _ _ ck126_0 i (Nat.zero_le _) (by omega))
theorem cy127 : ∀ i, chk 127 i = true := chk_of (n := 5) (by decide +kernel) (fun i h => chkR_at _ _ ck127_0 i (Nat.zero_le _) (by omega))
theorem cy128 : ∀ i, chk 128 i = true := chk_of (n := 4) (by decide +kernel) (fun i h => chkR_at _ _ ck128_0 i (Nat.zero_le _) (by omega))
theorem cy129 : ∀ i, chk 129 i = true := chk_of (n := 2) (by decide +kernel) (fun i h => chkR_at _ _ ck129_0 i (Nat.zero_le _) (by omega))
theorem cy130 : ∀ i, chk 130 i = true := chk_of (n := 4) (by decide +kernel) (fun i h => chkR_at _ _ ck130_0 i (Nat.zero_le _) (by omega))
theorem cy131 : ∀ i, chk 131 i = true := chk_of (n := 1) (by decide +kernel) (fun i h => chkR_at _ _ ck131_0 i (Nat.zero_le _) (by omega))
theorem cy132 : ∀ i, chk 132 i = true := chk_of (n := 3) (by decide +kernel) (fun i h => chkR_at _ _ ck132_0 i (Nat.zero_le _) (by omega))
theorem cy133 : ∀ i, chk 133 i = true := chk_of (n := 1) (by decide +kernel) (fun i h => chkR_at _ _ ck133_0 i (Nat.zero_le _) (by omega))
theorem cy134 : ∀ i, chk 134 i = true := chk_of (n := 3) (by decide +kernel) (fun i h => chkR_at _ _ ck134_0 i (Nat.zero_le _) (by omega))
theorem cy135 : ∀ i, chk 135 i = true := chk_of (n := 3) (by decide +kernel) (fun i h => chkR_at _ _ ck135_0 i (Nat.zero_le _) (by omega))
theorem cy136 : ∀ i, chk 136 i = true := chk_of (n := 2) (by decide +kernel) (fun i h => chkR_at _ _ ck136_0 i (Nat.zero_le _) (by omega))
theorem cy137 : ∀ i, chk 137 i = true := chk_of (n := 2) (by decide +kernel) (fun i h => chkR_at _ _ ck137_0 i (Nat.zero_le _) (by omega))
theorem cy138 : ∀ i, chk 138 i = true := chk_of (n := 2) (by decide +kernel) (fun i h => chkR_at _ _ ck138_0 i (Nat.zero_le _) (by omega))
theorem cy139 : ∀ i, chk 139 i = true := chk_of (n := 2) (by decide +kernel) (fun i h => chkR_at _ _ ck139_0 i (Nat.zero_le _) (by omega))
theorem cy140 : ∀ i, chk 140 i = true := chk_of (n := 1) (by decide +kernel) (fun i h => chkR_at _ _ ck140_0 i (Nat.zero_le _) (by omega))
theorem cy141 : ∀ i, chk 141 i = true := chk_of (n := 1) (by decide +kernel) (fun i h => chkR_at _ _ ck141_0 i (Nat.zero_le _) (by omega))
theorem cy142 : ∀ i, chk 142 i = true := chk_of (n := 2) (by decide +kernel) (fun i h => chkR_at _ _ ck142_0 i (Nat.zero_le _) (by omega))
theorem cy143 : ∀ i, chk 143 i = true := chk_of (n := 2) (by decide +kernel) (fun i h => chkR_at _ _ ck143_0 i (Nat.zero_le _) (by omega))
theorem cy144 : ∀ i, chk 144 i = true := chk_of (n := 2) (by decide +kernel) (fun i h => chkR_at _ _ ck144_0 i (Nat.zero_le _) (by omega))
theorem cy145 : ∀ i, chk 145 i = true := chk_of (n := 4) (by decide +kernel) (fun i h => chkR_at _ _ ck145_0 i (Nat.zero_le _) (by omega))
theorem cy146 : ∀ i, chk 146 i = true := chk_of (n := 1) (by decide +kernel) (fun i h => chkR_at _ _ ck146_0 i (Nat.zero_le _) (by omega))
theorem cy147 : ∀ i, chk 147 i = true := chk_of (n := 2) (by decide +kernel) (fun i h => chkR_at _ _ ck147_0 i (Nat.zero_le _) (by omega))
theorem cy148 : ∀ i, chk 148 i = true := chk_of (n := 2) (by decide +kernel) (fun i h => chkR_at _ _ ck148_0 i (Nat.zero_le _) (by omega))
theorem cy149 : ∀ i, chk 149 i = true := chk_of (n := 2) (by decide +kernel) (fun i h => chkR_at _ _ ck149_0 i (Nat.zero_le _) (by omega))
theorem cy150 : ∀ i, chk 150 i = true := chk_of (n := 2) (by decide +kernel) (fun i h => chkR_at _ _ ck150_0 i (Nat.zero_le _) (by omega))
theorem cy151 : ∀ i, chk 151 i = true := chk_of (n := 3) (by decide +kernel) (fun i h => chkR_at _ _ ck151_0 i (Nat.zero_le _) (by omega))
theorem cy152 : ∀ i, chk 152 i = true := chk_of (n := 1) (by decide +kernel) (fun i h => chkR_at _ _ ck152_0 i (Nat.zero_le _) (by omega))
theorem cy153 : ∀ i, chk 153 i = true := chk_of (n := 1) (by decide +kernel) (fun i h => chkR_at _ _ ck153_0 i (Nat.zero_le _) (by omega))
theorem cy154 : ∀ i, chk 154 i = true := chk_of (n := 1) (by decide +kernel) (fun i h => chkR_at _ _ ck154_0 i (Nat.zero_le _) (by omega))
theorem cy155 : ∀ i, chk 155 i = true := chk_of (n := 1) (by decide +kernel) (fun i h => chkR_at _ _ ck155_0 i (Nat.zero_le _) (by omega))
theorem cy156 : ∀ i, chk 156 i = true := chk_of (n := 3) (by decide +kernel) (fun i h => chkR_at _ _ ck156_0 i (Nat.zero_le _) (by omega))
theorem cy157 : ∀ i, chk 157 i = true := chk_of (n := 3) (by decide +kernel) (fun i h => chkR_at _ _ ck157_0 i (Nat.zero_le _) (by omega))
theorem cy158 : ∀ i, chk 158 i = true := chk_of (n := 3) (by decide +kernel) (fun i h => chkR_at _ _ ck158_0 i (Nat.zero_le _) (by omega))
theorem cy159 : ∀ i, chk 159 i = true := chk_of (n := 3) (by decide +kernel) (fun i h => chkR_at _ _ ck159_0 i (Nat.zero_le _) (by omega))
theorem cy160 : ∀ i, chk 160 i = true := chk_of (n := 3) (by decide +kernel) (fun i h => chkR_at _ _ ck160_0 i (Nat.zero_le _) (by omega))
theorem cy161 : ∀ i, chk 161 i = true := chk_of (n := 2) (by decide +kernel) (fun i h => chkR_at _ _ ck161_0 i (Nat.zero_le _) (by omega))
theorem cy162 : ∀ i, chk 162 i = true := chk_of (n := 4) (by decide +kernel) (fun i h => chkR_at _ _ ck162_0 i (Nat.zero_le _) (by omega))
theorem cy163 : ∀ i, chk 163 i = true := chk_of (n := 1) (by decide +kernel) (fun i h => chkR_at _ _ ck163_0 i (Nat.zero_le _) (by omega))
theorem cy164 : ∀ i, chk 164 i = true := chk_of (n := 2) (by decide +kernel) (fun i h => chkR_at _ _ ck164_0 i (Nat.zero_le _) (by omega))
theorem cy165 : ∀ i, chk 165 i = true := chk_of (n := 1) (by decide +kernel) (fun i h => chkR_at _ _ ck165_0 i (Nat.zero_le _) (by omega))
theorem cy166 : ∀ i, chk 166 i = true := chk_of (n := 2) (by decide +kernel) (fun i h => chkR_at _ _ ck166_0 i (Nat.zero_le _) (by omega))
theorem cy167 : ∀ i, chk 167 i = true := chk_of (n := 1) (by decide +kernel) (fun i h => chkR_at _ _ ck167_0 i (Nat.zero_le _) (by omega))
theorem cy168 : ∀ i, chk 168 i = true := chk_of (n := 3) (by decide +kernel) (fun i h => chkR_at _ _ ck168_0 i (Nat.zero_le _) (by omega))
theorem cy169 : ∀ i, chk 169 i = true := chk_of (n := 2) (by decide +kernel) (fun i h => chkR_at _ _ ck169_0 i (Nat.zero_le _) (by omega))
theorem cy170 : ∀ i, chk 170 i = true := chk_of (n := 3) (by decide +kernel) (fun i h => chkR_at _ _ ck170_0 i (Nat.zero_le _) (by omega))
theorem cy171 : ∀ i, chk 171 i = true := chk_of (n := 3) (by decide +kernel) (fun i h => chkR_at _ _ ck171_0 i (Nat.zero_le _) (by omega))
theorem cy172 : ∀ i, chk 172 i = true := chk_of (n := 2) (by decide +kernel) (fun i h => chkR_at _ _ ck172_0 i (Nat.zero_le _) (by omega))
theorem cy173 : ∀ i, chk 173 i = true := chk_of (n := 2) (by decide +kernel) (fun i h => chkR_at _ _ ck173_0 i (Nat.zero_le _) (by omega))
theorem cy174 : ∀ i, chk 174 i = true := chk_of (n := 3) (by decide +kernel) (fun i h => chkR_at _ _ ck174_0 i (Nat.zero_le _) (by omega))
theorem cy175 : ∀ i, chk 175 i = true := chk_of (n := 1) (by decide +kernel) (fun i h => chkR_at _ _ ck175_0 i (Nat.zero_le _) (by omega))
theorem cy176 : ∀ i, chk 176 i = true := chk_of (n := 2) (by decide +kernel) (fun i h => chkR_at _ _ ck176_0 i (Nat.zero_le _) (by omega))
theorem cy177 : ∀ i, chk 177 i = true := chk_of (n := 2) (by decide +kernel) (fun i h => chkR_at _ _ ck177_0 i (Nat.zero_le _) (by omega))
theorem cy178 : ∀ i, chk 178 i = true := chk_of (n := 2) (by decide +kernel) (fun i h => chkR_at _ _ ck178_0 i (Nat.zero_le _) (by omega))
theorem cy179 : ∀ i, chk 179 i = true := chk_of (n := 2) (by decide +kernel) (fun i h => chkR_at _ _ ck179_0 i (Nat.zero_le _) (by omega))
theorem cy180 : ∀ i, chk 180 i = true := chk_of (n := 2) (by decide +kernel) (fun i h => chkR_at _ _ ck180_0 i (Nat.zero_le _) (by omega))
theorem cy181 : ∀ i, chk 181 i = true := chk_of (n := 4) (by decide +kernel) (fun i h => chkR_at _ _ ck181_0 i (Nat.zero_le _) (by omega))
theorem cy182 : ∀ i, chk 182 i = true := chk_of (n := 3) (by decide +kernel) (fun i h => chkR_at _ _ ck182_0 i (Nat.zero_le _) (by omega))
theorem cy183 : ∀ i, chk 183 i = true := chk_of (n := 1) (by decide +kernel) (fun i h => chkR_at _ _ ck183_0 i (Nat.zero_le _) (by omega))
theorem cy184 : ∀ i, chk 184 i = true := chk_of (n := 2) (by decide +kernel) (fun i h => chkR_at _ _ ck184_0 i (Nat.zero_le _) (by omega))
theorem cy185 : ∀ i, chk 185 i = true := chk_of (n := 31) (by decide +kernel) (fun i h => by
  by_cases h0 : i < 160
  · exact chkR_at _ _ ck185_0 i (by omega) (by omega)
  by_cases h1 : i < 320
  · exact chkR_at _ _ ck185_160 i (by omega) (by omega)
  by_cases h2 : i < 480
  · exact chkR_at _ _ ck185_320 i (by omega) (by omega)
  by_cases h3 : i < 640
  · exact chkR_at _ _ ck185_480 i (by omega) (by omega)
  by_cases h4 : i < 800
  · exact chkR_at _ _ ck185_640 i (by omega) (by omega)
  by_cases h5 : i < 960
  · exact chkR_at _ _ ck185_800 i (by omega) (by omega)
  by_cases h6 : i < 992
  · exact chkR_at _ _ ck185_960 i (by omega) (by omega)
  omega)
theorem cz0 : ∀ y, y < 1 → ∀ i, chk y i = true := lt_s lt_0 cy0
theorem cz1 : ∀ y, y < 2 → ∀ i, chk y i = true := lt_s cz0 cy1
theorem cz2 : ∀ y, y < 3 → ∀ i, chk y i = true := lt_s cz1 cy2
theorem cz3 : ∀ y, y < 4 → ∀ i, chk y i = true := lt_s cz2 cy3
theorem cz4 : ∀ y, y < 5 → ∀ i, chk y i = true := lt_s cz3 cy4
theorem cz5 : ∀ y, y < 6 → ∀ i, chk y i = true := lt_s cz4 cy5
theorem cz6 : ∀ y, y < 7 → ∀ i, chk y i = true := lt_s cz5 cy6
theorem cz7 : ∀ y, y < 8 → ∀ i, chk y i = true := lt_s cz6 cy7
theorem cz8 : ∀ y, y < 9 → ∀ i, chk y i = true := lt_s cz7 cy8
theorem cz9 : ∀ y, y < 10 → ∀ i, chk y i = true := lt_s cz8 cy9
theorem cz10 : ∀ y, y < 11 → ∀ i, chk y i = true := lt_s cz9 cy10
theorem cz11 : ∀ y, y < 12 → ∀ i, chk y i = true := lt_s cz10 cy11
theorem cz12 : ∀ y, y < 13 → ∀ i, chk y i = true := lt_s cz11 cy12
theorem cz13 : ∀ y, y < 14 → ∀ i, chk y i = true := lt_s cz12 cy13
theorem cz14 : ∀ y, y < 15 → ∀ i, chk y i = true := lt_s cz13 cy14
theorem cz15 : ∀ y, y < 16 → ∀ i, chk y i = true := lt_s cz14 cy15
theorem cz16 : ∀ y, y < 17 → ∀ i, chk y i = true := lt_s cz15 cy16
theorem cz17 : ∀ y, y < 18 → ∀ i, chk y i = true := lt_s cz16 cy17
theorem cz18 : ∀ y, y < 19 → ∀ i, chk y i = true := lt_s cz17 cy18
theorem cz19 : ∀ y, y < 20 → ∀ i, chk y i = true := lt_s cz18 cy19
theorem cz20 : ∀ y, y < 21 → ∀ i, chk y i = true := lt_s cz19 cy20
theorem cz21 : ∀ y, y < 22 → ∀ i, chk y i = true := lt_s cz20 cy21
theorem cz22 : ∀ y, y < 23 → ∀ i, chk y i = true := lt_s cz21 cy22
theorem cz23 : ∀ y, y < 24 → ∀ i, chk y i = true := lt_s cz22 cy23
theorem cz24 : ∀ y, y < 25 → ∀ i, chk y i = true := lt_s cz23 cy24
theorem cz25 : ∀ y, y < 26 → ∀ i, chk y i = true := lt_s cz24 cy25
theorem cz26 : ∀ y, y < 27 → ∀ i, chk y i = true := lt_s cz25 cy26
theorem cz27 : ∀ y, y < 28 → ∀ i, chk y i = true := lt_s cz26 cy27
theorem cz28 : ∀ y, y < 29 → ∀ i, chk y i = true := lt_s cz27 cy28
theorem cz29 : ∀ y, y < 30 → ∀ i, chk y i = true := lt_s cz28 cy29
theorem cz30 : ∀ y, y < 31 → ∀ i, chk y i = true := lt_s cz29 cy30
theorem cz31 : ∀ y, y < 32 → ∀ i, chk y i = true := lt_s cz30 cy31
theorem cz32 : ∀ y, y < 33 → ∀ i, chk y i = true := lt_s cz31 cy32
theorem cz33 : ∀ y, y < 34 → ∀ i, chk y i = true := lt_s cz32 cy33
theorem cz34 : ∀ y, y < 35 → ∀ i, chk y i = true := lt_s cz33 cy34
theorem cz35 : ∀ y, y < 36 → ∀ i, chk y i = true := lt_s cz34 cy35
theorem cz36 : ∀ y, y < 37 → ∀ i, chk y i = true := lt_s cz35 cy36
theorem cz37 : ∀ y, y < 38 → ∀ i, chk y i = true := lt_s cz36 cy37
theorem cz38 : ∀ y, y < 39 → ∀ i, chk y i = true := lt_s cz37 cy38
theorem cz39 : ∀ y, y < 40 → ∀ i, chk y i = true := lt_s cz38 cy39
theorem cz40 : ∀ y, y < 41 → ∀ i, chk y i = true := lt_s cz39 cy40
theorem cz41 : ∀ y, y < 42 → ∀ i, chk y i = true := lt_s cz40 cy41
theorem cz42 : ∀ y, y < 43 → ∀ i, chk y i = true := lt_s cz41 cy42
theorem cz43 : ∀ y, y < 44 → ∀ i, chk y i = true := lt_s cz42 cy43
theorem cz44 : ∀ y, y < 45 → ∀ i, chk y i = true := lt_s cz43 cy44
theorem cz45 : ∀ y, y < 46 → ∀ i, chk y i = true := lt_s cz44 cy45
theorem cz46 : ∀ y, y < 47 → ∀ i, chk y i = true := lt_s cz45 cy46
theorem cz47 : ∀ y, y < 48 → ∀ i, chk y i = true := lt_s cz46 cy47
theorem cz48 : ∀ y, y < 49 → ∀ i, chk y i = true := lt_s cz47 cy48
theorem cz49 : ∀ y, y < 50 → ∀ i, chk y i = true := lt_s cz48 cy49
theorem cz50 : ∀ y, y < 51 → ∀ i, chk y i = true := lt_s cz49 cy50
theorem cz51 : ∀ y, y < 52 → ∀ i, chk y i = true := lt_s cz50 cy51
theorem cz52 : ∀ y, y < 53 → ∀ i, chk y i = true := lt_s cz51 cy52
theorem cz53 : ∀ y, y < 54 → ∀ i, chk y i = true := lt_s cz52 cy53
theorem cz54 : ∀ y, y < 55 → ∀ i, chk y i = true := lt_s cz53 cy54
theorem cz55 : ∀ y, y < 56 → ∀ i, chk y i = true := lt_s cz54 cy55
theorem cz56 : ∀ y, y < 57 → ∀ i, chk y i = true := lt_s cz55 cy56
theorem cz57 : ∀ y, y < 58 → ∀ i, chk y i = true := lt_s cz56 cy57
theorem cz58 : ∀ y, y < 59 → ∀ i, chk y i = true := lt_s cz57 cy58
theorem cz59 : ∀ y, y < 60 → ∀ i, chk y i = true := lt_s cz58 cy59
theorem cz60 : ∀ y, y < 61 → ∀ i, chk y i = true := lt_s cz59 cy60
theorem cz61 : ∀ y, y < 62 → ∀ i, chk y i = true := lt_s cz60 cy61
theorem cz62 : ∀ y, y < 63 → ∀ i, chk y i = true := lt_s cz61 cy62
theorem cz63 : ∀ y, y < 64 → ∀ i, chk y i = true := lt_s cz62 cy63
theorem cz64 : ∀ y, y < 65 → ∀ i, chk y i = true := lt_s cz63 cy64
theorem cz65 : ∀ y, y < 66 → ∀ i, chk y i = true := lt_s cz64 cy65
theorem cz66 : ∀ y, y < 67 → ∀ i, chk y i = true := lt_s cz65 cy66
theorem cz67 : ∀ y, y < 68 → ∀ i, chk y i = true := lt_s cz66 cy67
theorem cz68 : ∀ y, y < 69 → ∀ i, chk y i = true := lt_s cz67 cy68
theorem cz69 : ∀ y, y < 70 → ∀ i, chk y i = true := lt_s cz68 cy69
theorem cz70 : ∀ y, y < 71 → ∀ i, chk y i = true := lt_s cz69 cy70
theorem cz71 : ∀ y, y < 72 → ∀ i, chk y i = true := lt_s cz70 cy71
theorem cz72 : ∀ y, y < 73 → ∀ i, chk y i = true := lt_s cz71 cy72
theorem cz73 : ∀ y, y < 74 → ∀ i, chk y i = true := lt_s cz72 cy73
theorem cz74 : ∀ y, y < 75 → ∀ i, chk y i = true := lt_s cz73 cy74
theorem cz75 : ∀ y, y < 76 → ∀ i, chk y i = true := lt_s cz74 cy75
theorem cz76 : ∀ y, y < 77 → ∀ i, chk y i = true := lt_s cz75 cy76
theorem cz77 : ∀ y, y < 78 → ∀ i, chk y i = true := lt_s cz76 cy77
theorem cz78 : ∀ y, y < 79 → ∀ i, chk y i = true := lt_s cz77 cy78
theorem cz79 : ∀ y, y < 80 → ∀ i, chk y i = true := lt_s cz78 cy79
theorem cz80 : ∀ y, y < 81 → ∀ i, chk y i = true := lt_s cz79 cy80
theorem cz81 : ∀ y, y < 82 → ∀ i, chk y i = true := lt_s cz80 cy81
theorem cz82 : ∀ y, y < 83 → ∀ i, chk y i = true := lt_s cz81 cy82
theorem cz83 : ∀ y, y < 84 → ∀ i, chk y i = true := lt_s cz82 cy83
theorem cz84 : ∀ y, y < 85 → ∀ i, chk y i = true := lt_s cz83 cy84
theorem cz85 : ∀ y, y < 86 → ∀ i, chk y i = true := lt_s cz84 cy85
theorem cz86 : ∀ y, y < 87 → ∀ i, chk y i = true := lt_s cz85 cy86
theorem cz87 : ∀ y, y < 88 → ∀ i, chk y i = true := lt_s cz86 cy87
theorem cz88 : ∀ y, y < 89 → ∀ i, chk y i = true := lt_s cz87 cy88
theorem cz89 : ∀ y, y < 90 → ∀ i, chk y i = true := lt_s cz88 cy89
theorem cz90 : ∀ y, y < 91 → ∀ i, chk y i = true := lt_s cz89 cy90
theorem cz91 : ∀ y, y < 92 → ∀ i, chk y i = true := lt_s cz90 cy91
theorem cz92 : ∀ y, y < 93 → ∀ i, chk y i = true := lt_s cz91 cy92
theorem cz93 : ∀ y, y < 94 → ∀ i, chk y i = true := lt_s cz92 cy93
theorem cz94 : ∀ y, y < 95 → ∀ i, chk y i = true := lt_s cz93 cy94
theorem cz95 : ∀ y, y < 96 → ∀ i, chk y i = true := lt_s cz94 cy95
theorem cz96 : ∀ y, y < 97 → ∀ i, chk y i = true := lt_s cz95 cy96
theorem cz97 : ∀ y, y < 98 → ∀ i, chk y i = true := lt_s cz96 cy97
theorem cz98 : ∀ y, y < 99 → ∀ i, chk y i = true := lt_s cz97 cy98
theorem cz99 : ∀ y, y < 100 → ∀ i, chk y i = true := lt_s cz98 cy99
theorem cz100 : ∀ y, y < 101 → ∀ i, chk y i = true := lt_s cz99 cy100
theorem cz101 : ∀ y, y < 102 → ∀ i, chk y i = true := lt_s cz100 cy101
theorem cz102 : ∀ y, y < 103 → ∀ i, chk y i = true := lt_s cz101 cy102
theorem cz103 : ∀ y, y < 104 → ∀ i, chk y i = true := lt_s cz102 cy103
theorem cz104 : ∀ y, y < 105 → ∀ i, chk y i = true := lt_s cz103 cy104
theorem cz105 : ∀ y, y < 106 → ∀ i, chk y i = true := lt_s cz104 cy105
theorem cz106 : ∀ y, y < 107 → ∀ i, chk y i = true := lt_s cz105 cy106
theorem cz107 : ∀ y, y < 108 → ∀ i, chk y i = true := lt_s cz106 cy107
theorem cz108 : ∀ y, y < 109 → ∀ i, chk y i = true := lt_s cz107 cy108
theorem cz109 : ∀ y, y < 110 → ∀ i, chk y i = true := lt_s cz108 cy109
theorem cz110 : ∀ y, y < 111 → ∀ i, chk y i = true := lt_s cz109 cy110
theorem cz111 : ∀ y, y < 112 → ∀ i, chk y i = true := lt_s cz110 cy111
theorem cz112 : ∀ y, y < 113 → ∀ i, chk y i = true := lt_s cz111 cy112
theorem cz113 : ∀ y, y < 114 → ∀ i, chk y i = true := lt_s cz112 cy113
theorem cz114 : ∀ y, y < 115 → ∀ i, chk y i = true := lt_s cz113 cy114
theorem cz115 : ∀ y, y < 116 → ∀ i, chk y i = true := lt_s cz114 cy115
theorem cz116 : ∀ y, y < 117 → ∀ i, chk y i = true := lt_s cz115 cy116
theorem cz117 : ∀ y, y < 118 → ∀ i, chk y i = true := lt_s cz116 cy117
theorem cz118 : ∀ y, y < 119 → ∀ i, chk y i = true := lt_s cz117 cy118
theorem cz119 : ∀ y, y < 120 → ∀ i, chk y i = true := lt_s cz118 cy119
theorem cz120 : ∀ y, y < 121 → ∀ i, chk y i = true := lt_s cz119 cy120
theorem cz121 : ∀ y, y < 122 → ∀ i, chk y i = true := lt_s cz120 cy121
theorem cz122 : ∀ y, y < 123 → ∀ i, chk y i = true := lt_s cz121 cy122
theorem cz123 : ∀ y, y < 124 → ∀ i, chk y i = true := lt_s cz122 cy123
theorem cz124 : ∀ y, y < 125 → ∀ i, chk y i = true := lt_s cz123 cy124
theorem cz125 : ∀ y, y < 126 → ∀ i, chk y i = true := lt_s cz124 cy125
theorem cz126 : ∀ y, y < 127 → ∀ i, chk y i = true := lt_s cz125 cy126
theorem cz127 : ∀ y, y < 128 → ∀ i, chk y i = true := lt_s cz126 cy127
theorem cz128 : ∀ y, y < 129 → ∀ i, chk y i = true := lt_s cz127 cy128
theorem cz129 : ∀ y, y < 130 → ∀ i, chk y i = true := lt_s cz128 cy129
theorem cz130 : ∀ y, y < 131 → ∀ i, chk y i = true := lt_s cz129 cy130
theorem cz131 : ∀ y, y < 132 → ∀ i, chk y i = true := lt_s cz130 cy131
theorem cz132 : ∀ y, y < 133 → ∀ i, chk y i = true := lt_s cz131 cy132
theorem cz133 : ∀ y, y < 134 → ∀ i, chk y i = true := lt_s cz132 cy133
theorem cz134 : ∀ y, y < 135 → ∀ i, chk y i = true := lt_s cz133 cy134
theorem cz135 : ∀ y, y < 136 → ∀ i, chk y i = true := lt_s cz134 cy135
theorem cz136 : ∀ y, y < 137 → ∀ i, chk y i = true := lt_s cz135 cy136
theorem cz137 : ∀ y, y < 138 → ∀ i, chk y i = true := lt_s cz136 cy137
theorem cz138 : ∀ y, y < 139 → ∀ i, chk y i = true := lt_s cz137 cy138
theorem cz139 : ∀ y, y < 140 → ∀ i, chk y i = true := lt_s cz138 cy139
theorem cz140 : ∀ y, y < 141 → ∀ i, chk y i = true := lt_s cz139 cy140
theorem cz141 : ∀ y, y < 142 → ∀ i, chk y i = true := lt_s cz140 cy141
theorem cz142 : ∀ y, y < 143 → ∀ i, chk y i = true := lt_s cz141 cy142
theorem cz143 : ∀ y, y < 144 → ∀ i, chk y i = true := lt_s cz142 cy143
theorem cz144 : ∀ y, y < 145 → ∀ i, chk y i = true := lt_s cz143 cy144
theorem cz145 : ∀ y, y < 146 → ∀ i, chk y i = true := lt_s cz144 cy145
theorem cz146 : ∀ y, y < 147 → ∀ i, chk y i = true := lt_s cz145 cy146
theorem cz147 : ∀ y, y < 148 → ∀ i, chk y i = true := lt_s cz146 cy147
theorem cz148 : ∀ y, y < 149 → ∀ i, chk y i = true := lt_s cz147 cy148
theorem cz149 : ∀ y, y < 150 → ∀ i, chk y i = true := lt_s cz148 cy149
theorem cz150 : ∀ y, y < 151 → ∀ i, chk y i = true := lt_s cz149 cy150
theorem cz151 : ∀ y, y < 152 → ∀ i, chk y i = true := lt_s cz150 cy151
theorem cz152 : ∀ y, y < 153 → ∀ i, chk y i = true := lt_s cz151 cy152
theorem cz153 : ∀ y, y < 154 → ∀ i, chk y i = true := lt_s cz152 cy153
theorem cz154 : ∀ y, y < 155 → ∀ i, chk y i = true := lt_s cz153 cy154
theorem cz155 : ∀ y, y < 156 → ∀ i, chk y i = true := lt_s cz154 cy155
theorem cz156 : ∀ y, y < 157 → ∀ i, chk y i = true := lt_s cz155 cy156
theorem cz157 : ∀ y, y < 158 → ∀ i, chk y i = true := lt_s cz156 cy157
theorem cz158 : ∀ y, y < 159 → ∀ i, chk y i = true := lt_s cz157 cy158
theorem cz159 : ∀ y, y < 160 → ∀ i, chk y i = true := lt_s cz158 cy159
theorem cz160 : ∀ y, y < 161 → ∀ i, chk y i = true := lt_s cz159 cy160
theorem cz161 : ∀ y, y < 162 → ∀ i, chk y i = true := lt_s cz160 cy161
theorem cz162 : ∀ y, y < 163 → ∀ i, chk y i = true := lt_s cz161 cy162
theorem cz163 : ∀ y, y < 164 → ∀ i, chk y i = true := lt_s cz162 cy163
theorem cz164 : ∀ y, y < 165 → ∀ i, chk y i = true := lt_s cz163 cy164
theorem cz165 : ∀ y, y < 166 → ∀ i, chk y i = true := lt_s cz164 cy165
theorem cz166 : ∀ y, y < 167 → ∀ i, chk y i = true := lt_s cz165 cy166
theorem cz167 : ∀ y, y < 168 → ∀ i, chk y i = true := lt_s cz166 cy167
theorem cz168 : ∀ y, y < 169 → ∀ i, chk y i = true := lt_s cz167 cy168
theorem cz169 : ∀ y, y < 170 → ∀ i, chk y i = true := lt_s cz168 cy169
theorem cz170 : ∀ y, y < 171 → ∀ i, chk y i = true := lt_s cz169 cy170
theorem cz171 : ∀ y, y < 172 → ∀ i, chk y i = true := lt_s cz170 cy171
theorem cz172 : ∀ y, y < 173 → ∀ i, chk y i = true := lt_s cz171 cy172
theorem cz173 : ∀ y, y < 174 → ∀ i, chk y i = true := lt_s cz172 cy173
theorem cz174 : ∀ y, y < 175 → ∀ i, chk y i = true := lt_s cz173 cy174
theorem cz175 : ∀ y, y < 176 → ∀ i, chk y i = true := lt_s cz174 cy175
theorem cz176 : ∀ y, y < 177 → ∀ i, chk y i = true := lt_s cz175 cy176
theorem cz177 : ∀ y, y < 178 → ∀ i, chk y i = true := lt_s cz176 cy177
theorem cz178 : ∀ y, y < 179 → ∀ i, chk y i = true := lt_s cz177 cy178
theorem cz179 : ∀ y, y < 180 → ∀ i, chk y i = true := lt_s cz178 cy179
theorem cz180 : ∀ y, y < 181 → ∀ i, chk y i = true := lt_s cz179 cy180
theorem cz181 : ∀ y, y < 182 → ∀ i, chk y i = true := lt_s cz180 cy181
theorem cz182 : ∀ y, y < 183 → ∀ i, chk y i = true := lt_s cz181 cy182
theorem cz183 : ∀ y, y < 184 → ∀ i, chk y i = true := lt_s cz182 cy183
theorem cz184 : ∀ y, y < 185 → ∀ i, chk y i = true := lt_s cz183 cy184
theorem cz185 : ∀ y, y < 186 → ∀ i, chk y i = true := lt_s cz184 cy185
theorem nth_ge {α : Type} : ∀ (l : List α) (n : Nat), l.length ≤ n → nth l n = none := by
  intro l
  induction l with
  | nil => intro n _; rfl
  | cons a l ih =>
    intro n h
    cases n with
    | zero => simp at h
    | succ n => exact ih n (by simpa using h)
theorem mi_hi {y : Nat} (h : 186 ≤ y) : mi? y = none := by
  unfold mi?
  by_cases h2 : y / 16 = 11
  · rw [h2]
    have h3 : y % 16 = 10 ∨ y % 16 = 11 ∨ y % 16 = 12 ∨ y % 16 = 13 ∨ y % 16 = 14 ∨ y % 16 = 15 := by omega
    rcases h3 with h3 | h3 | h3 | h3 | h3 | h3 <;> rw [h3] <;> rfl
  · rw [nth_ge mis (y / 16) (by show 12 ≤ _; omega)]
    rfl
theorem fetch_hi {y : Nat} (h : 186 ≤ y) (i : Nat) : fetch y i = none := by
  unfold fetch
  by_cases h2 : y / 16 = 11
  · rw [h2]
    have h3 : y % 16 = 10 ∨ y % 16 = 11 ∨ y % 16 = 12 ∨ y % 16 = 13 ∨ y % 16 = 14 ∨ y % 16 = 15 := by omega
    rcases h3 with h3 | h3 | h3 | h3 | h3 | h3 <;> rw [h3] <;> rfl
  · rw [nth_ge mtab (y / 16) (by show 12 ≤ _; omega)]
    rfl
theorem chk_all (y i : Nat) : chk y i = true := by
  rcases Nat.lt_or_ge y 186 with h | h
  · exact cz185 y h i
  · exact chk_none (fetch_hi h i)
theorem qo_all (y : Nat) : qo y 0 = 0 := by
  rcases Nat.lt_or_ge y 186 with h | h
  · have h1 : ∀ y, y < 186 → qo y 0 = 0 := by decide +kernel
    exact h1 y h
  · unfold qo
    rw [fetch_hi h]
def rkOf : Option MI → Nat
  | none => 1
  | some t => t.2.2.2.2.2.2.1
theorem rk_all (y : Nat) (t : MI) (ht : mi? y = some t) : 1 ≤ t.2.2.2.2.2.2.1 := by
  rcases Nat.lt_or_ge y 186 with h | h
  · have h1 : ∀ y, y < 186 → 1 ≤ rkOf (mi? y) := by decide +kernel
    have h2 := h1 y h
    rw [ht] at h2
    exact h2
  · rw [mi_hi h] at ht; cases ht
theorem cls_all : clsP := by
  intro a C T N h
  match a, h with
  | 0, h => cases h; exact ⟨by decide +kernel, qy0, by decide +kernel, by decide +kernel⟩
  | 1, h => cases h; exact ⟨by decide +kernel, qy1, by decide +kernel, by decide +kernel⟩
  | 2, h => cases h; exact ⟨by decide +kernel, qy2, by decide +kernel, by decide +kernel⟩
  | 3, h => cases h; exact ⟨by decide +kernel, qy3, by decide +kernel, by decide +kernel⟩
  | 4, h => cases h; exact ⟨by decide +kernel, qy4, by decide +kernel, by decide +kernel⟩
  | 5, h => cases h; exact ⟨by decide +kernel, qy5, by decide +kernel, by decide +kernel⟩
  | n + 6, h => cases h
