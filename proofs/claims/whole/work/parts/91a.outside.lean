/-! ===== the law's start: what stands outside (printed by program: gen91.py) ===== -/
theorem zy_L {a b : Cond} {A : Array Value} {s : State} (h : (Cond.and a b).before A s = true) : a.before A s = true := by
  rw [Cond.before_and, Bool.and_eq_true] at h
  exact h.1
theorem zy_R {a b : Cond} {A : Array Value} {s : State} (h : (Cond.and a b).before A s = true) : b.before A s = true := by
  rw [Cond.before_and, Bool.and_eq_true] at h
  exact h.2
def zy_nm : List String := ["FN", "IF", "ELSE", "WHILE", "FOR", "IN", "SAY", "RETURN", "RAISE", "TRY", "ON", "NEW_ROW", "IOTA", "NEW_PACK", "GRID", "ROWS", "BOX", "SIZE", "WIDTHS", "KIND", "SUM", "MAX", "MIN", "SCAN", "SORT", "GRADE", "BACK", "FLAT", "TURN", "GROUP", "JOIN", "TAKE", "DROP", "CUT", "PICK", "FIND", "PAD", "OUTER", "SAME", "EACH", "FOLD"]
def zy_code : List Int64 := [206, 294, 176741, 24388997, 6642, 302, 19513, 609900110, 18916965, 21081, 494, 18935, 310913, 525419, 248100, 605939, 2552, 632645, 781340947, 370116, 20141, 13368, 13614, 625710, 638548, 7931013, 66667, 208948, 677454, 7945904, 343342, 656741, 150000, 3764, 533611, 206276, 16420, 16437426, 624037, 164968, 212356]
def zy_least : List Int32 := [0, 0, 0, 0, 0, 0, 0, 0, 0, 0, 0, 1, 1, 1, 2, 1, 0, 1, 1, 1, 1, 1, 1, 1, 1, 1, 1, 1, 1, 1, 2, 2, 2, 2, 2, 2, 2, 2, 2, 2, 3]
def zy_most : List Int32 := [0, 0, 0, 0, 0, 0, 0, 0, 0, 0, 0, 1, 1, 1, 2, 1, 6, 1, 1, 1, 1, 1, 1, 1, 1, 1, 1, 1, 1, 1, 2, 2, 2, 2, 2, 2, 2, 2, 2, 2, 3]
def zy_map : List Int32 := [0, 1, 0, 2, 3, 0, 4, 5, 6, 7, 0, 8, 9, 10, 25, 11, 0, 12, 13, 14, 15, 16, 17, 18, 19, 20, 21, 22, 23, 24, 26, 27, 28, 29, 30, 31, 32, 33, 34, 0, 0]
def zy_byt : Nat → List Int32 := fun i => if i = 0 then [123, 125, 40, 41, 91, 93, 59, 44, 61, 60, 62, 43, 45, 42, 47, 37, 38, 124, 33] else if i = 1 then [61, 33, 60, 62] else [97, 32, 102, 97, 117, 108, 116]
/-- the cells outside -/
def zt_X (L : Nat) (xs : Nat → Int32) : Nat → Option zz_C := fun j => if j = 0 then some (.inl (0, L, .inl xs))
  else if j < 42 then some (.inr (20, [.long (zy_code.getD (j - 1) 0), .int (zy_least.getD (j - 1) 0), .int (zy_most.getD (j - 1) 0), .int (Int32.ofNat (j - 1))]))
  else if j = 42 then some (.inl (6, 41, .inr (.inr (.inr (.inr fun i => some (zz_out + (i + 1)))))))
  else if j = 43 then some (.inl (0, 41, .inl fun i => zy_map.getD i 0))
  else if j < 47 then some (.inr (21, [.ref (zz_out + (j + 3)), .int 0]))
  else if j < 50 then some (.inl (2, (zy_byt (j - 47)).length, .inl fun i => (zy_byt (j - 47)).getD i 0))
  else none
set_option maxRecDepth 100000 in
theorem zy_ex {A : Array Value} {s : State} (h : narrow_1.before A s = true) : ∀ i, i < 41 → (Cond.exactly (.static "TallySlate$Word" (zy_nm.getD i "") "LTallySlate$Word;") "TallySlate$Word").before A s = true := by
  intro i hi
  have hv : i = 0 ∨ i = 1 ∨ i = 2 ∨ i = 3 ∨ i = 4 ∨ i = 5 ∨ i = 6 ∨ i = 7 ∨ i = 8 ∨ i = 9 ∨ i = 10 ∨ i = 11 ∨ i = 12 ∨ i = 13 ∨ i = 14 ∨ i = 15 ∨ i = 16 ∨ i = 17 ∨ i = 18 ∨ i = 19 ∨ i = 20 ∨ i = 21 ∨ i = 22 ∨ i = 23 ∨ i = 24 ∨ i = 25 ∨ i = 26 ∨ i = 27 ∨ i = 28 ∨ i = 29 ∨ i = 30 ∨ i = 31 ∨ i = 32 ∨ i = 33 ∨ i = 34 ∨ i = 35 ∨ i = 36 ∨ i = 37 ∨ i = 38 ∨ i = 39 ∨ i = 40 := by omega
  rcases hv with rfl | rfl | rfl | rfl | rfl | rfl | rfl | rfl | rfl | rfl | rfl | rfl | rfl | rfl | rfl | rfl | rfl | rfl | rfl | rfl | rfl | rfl | rfl | rfl | rfl | rfl | rfl | rfl | rfl | rfl | rfl | rfl | rfl | rfl | rfl | rfl | rfl | rfl | rfl | rfl | rfl
  · exact (zy_L (zy_R (zy_R (zy_L (zy_L (zy_R (zy_L (zy_L h))))))))
  · exact (zy_L (zy_R (zy_R (zy_L (zy_R (zy_L (zy_R (zy_R (zy_L h)))))))))
  · exact (zy_R (zy_R (zy_L (zy_R (zy_L (zy_R (zy_L (zy_R (zy_L h)))))))))
  · exact (zy_L (zy_R (zy_R (zy_R (zy_L (zy_R (zy_R (zy_L h))))))))
  · exact (zy_L (zy_R (zy_L (zy_L (zy_R (zy_R (zy_R (zy_L h))))))))
  · exact (zy_L (zy_R (zy_L (zy_L (zy_R (zy_R (zy_L (zy_R (zy_L h)))))))))
  · exact (zy_R (zy_R (zy_L (zy_R (zy_L (zy_R (zy_R (zy_R (zy_L h)))))))))
  · exact (zy_L (zy_R (zy_L (zy_L (zy_R (zy_R (zy_R (zy_R (zy_L h)))))))))
  · exact (zy_L (zy_L (zy_R (zy_R (zy_R (zy_R (zy_R (zy_L h))))))))
  · exact (zy_R (zy_R (zy_R (zy_R (zy_R (zy_R (zy_R (zy_R (zy_L h)))))))))
  · exact (zy_L (zy_L (zy_R (zy_R (zy_R (zy_L (zy_R (zy_L h))))))))
  · exact (zy_R (zy_R (zy_R (zy_L (zy_L (zy_L (zy_L (zy_L (zy_R h)))))))))
  · exact (zy_L (zy_R (zy_R (zy_R (zy_L (zy_L (zy_L (zy_L (zy_R h)))))))))
  · exact (zy_L (zy_R (zy_R (zy_L (zy_R (zy_L (zy_L (zy_L (zy_R h)))))))))
  · exact (zy_L (zy_R (zy_R (zy_R (zy_L (zy_L (zy_L (zy_R h))))))))
  · exact (zy_L (zy_R (zy_L (zy_L (zy_R (zy_L (zy_L (zy_R h))))))))
  · exact (zy_L (zy_R (zy_R (zy_L (zy_L (zy_R (zy_R (zy_L (zy_L h)))))))))
  · exact (zy_R (zy_R (zy_L (zy_R (zy_L (zy_R (zy_L (zy_L (zy_R h)))))))))
  · exact (zy_L (zy_R (zy_L (zy_L (zy_R (zy_R (zy_L (zy_L (zy_R h)))))))))
  · exact (zy_L (zy_L (zy_R (zy_R (zy_R (zy_L (zy_L (zy_R h))))))))
  · exact (zy_R (zy_R (zy_R (zy_R (zy_R (zy_R (zy_L (zy_R (zy_L h)))))))))
  · exact (zy_R (zy_R (zy_R (zy_L (zy_L (zy_L (zy_R (zy_R (zy_L h)))))))))
  · exact (zy_R (zy_R (zy_R (zy_R (zy_R (zy_R (zy_L (zy_L (zy_R h)))))))))
  · exact (zy_R (zy_R (zy_R (zy_L (zy_L (zy_L (zy_R (zy_L (zy_R h)))))))))
  · exact (zy_L (zy_R (zy_R (zy_R (zy_L (zy_L (zy_R (zy_R (zy_L h)))))))))
  · exact (zy_L (zy_R (zy_R (zy_R (zy_L (zy_L (zy_R (zy_L (zy_R h)))))))))
  · exact (zy_L (zy_R (zy_R (zy_L (zy_R (zy_L (zy_R (zy_L (zy_R h)))))))))
  · exact (zy_L (zy_R (zy_R (zy_R (zy_L (zy_R (zy_L (zy_R h))))))))
  · exact (zy_L (zy_R (zy_L (zy_L (zy_R (zy_R (zy_L (zy_R h))))))))
  · exact (zy_R (zy_R (zy_L (zy_R (zy_L (zy_R (zy_R (zy_L (zy_R h)))))))))
  · exact (zy_L (zy_R (zy_L (zy_L (zy_R (zy_R (zy_R (zy_L (zy_R h)))))))))
  · exact (zy_L (zy_L (zy_R (zy_R (zy_R (zy_R (zy_L (zy_R h))))))))
  · exact (zy_R (zy_R (zy_R (zy_R (zy_R (zy_R (zy_R (zy_L (zy_R h)))))))))
  · exact (zy_R (zy_R (zy_R (zy_L (zy_L (zy_L (zy_L (zy_R (zy_R h)))))))))
  · exact (zy_L (zy_R (zy_R (zy_R (zy_L (zy_L (zy_L (zy_R (zy_R h)))))))))
  · exact (zy_L (zy_R (zy_R (zy_L (zy_R (zy_L (zy_L (zy_R (zy_R h)))))))))
  · exact (zy_L (zy_R (zy_R (zy_R (zy_L (zy_L (zy_R (zy_R h))))))))
  · exact (zy_L (zy_R (zy_L (zy_L (zy_R (zy_L (zy_R (zy_R h))))))))
  · exact (zy_R (zy_R (zy_L (zy_R (zy_L (zy_R (zy_L (zy_R (zy_R h)))))))))
  · exact (zy_R (zy_R (zy_R (zy_L (zy_R (zy_L (zy_R (zy_L (zy_L h)))))))))
  · exact (zy_L (zy_R (zy_R (zy_R (zy_R (zy_L (zy_R (zy_L (zy_L h)))))))))
set_option maxRecDepth 100000 in
theorem zy_co {A : Array Value} {s : State} (h : narrow_1.before A s = true) : ∀ i, i < 41 → (Cond.eq (.field (.static "TallySlate$Word" (zy_nm.getD i "") "LTallySlate$Word;") "TallySlate$Word" "code" "J") (.long (zy_code.getD i 0))).before A s = true := by
  intro i hi
  have hv : i = 0 ∨ i = 1 ∨ i = 2 ∨ i = 3 ∨ i = 4 ∨ i = 5 ∨ i = 6 ∨ i = 7 ∨ i = 8 ∨ i = 9 ∨ i = 10 ∨ i = 11 ∨ i = 12 ∨ i = 13 ∨ i = 14 ∨ i = 15 ∨ i = 16 ∨ i = 17 ∨ i = 18 ∨ i = 19 ∨ i = 20 ∨ i = 21 ∨ i = 22 ∨ i = 23 ∨ i = 24 ∨ i = 25 ∨ i = 26 ∨ i = 27 ∨ i = 28 ∨ i = 29 ∨ i = 30 ∨ i = 31 ∨ i = 32 ∨ i = 33 ∨ i = 34 ∨ i = 35 ∨ i = 36 ∨ i = 37 ∨ i = 38 ∨ i = 39 ∨ i = 40 := by omega
  rcases hv with rfl | rfl | rfl | rfl | rfl | rfl | rfl | rfl | rfl | rfl | rfl | rfl | rfl | rfl | rfl | rfl | rfl | rfl | rfl | rfl | rfl | rfl | rfl | rfl | rfl | rfl | rfl | rfl | rfl | rfl | rfl | rfl | rfl | rfl | rfl | rfl | rfl | rfl | rfl | rfl | rfl
  · exact (zy_R (zy_R (zy_R (zy_R (zy_L (zy_L (zy_R (zy_L (zy_L h)))))))))
  · exact (zy_L (zy_L (zy_R (zy_R (zy_L (zy_R (zy_R (zy_L h))))))))
  · exact (zy_L (zy_R (zy_R (zy_R (zy_L (zy_R (zy_L (zy_R (zy_L h)))))))))
  · exact (zy_R (zy_R (zy_R (zy_R (zy_R (zy_L (zy_R (zy_R (zy_L h)))))))))
  · exact (zy_R (zy_R (zy_R (zy_L (zy_L (zy_R (zy_R (zy_R (zy_L h)))))))))
  · exact (zy_L (zy_R (zy_L (zy_R (zy_R (zy_L (zy_R (zy_L h))))))))
  · exact (zy_L (zy_R (zy_R (zy_R (zy_L (zy_R (zy_R (zy_R (zy_L h)))))))))
  · exact (zy_L (zy_R (zy_L (zy_R (zy_R (zy_R (zy_R (zy_L h))))))))
  · exact (zy_R (zy_R (zy_L (zy_R (zy_R (zy_R (zy_R (zy_R (zy_L h)))))))))
  · exact (zy_R (zy_L (zy_L (zy_L (zy_L (zy_L (zy_L (zy_R h))))))))
  · exact (zy_R (zy_R (zy_L (zy_R (zy_R (zy_R (zy_L (zy_R (zy_L h)))))))))
  · exact (zy_L (zy_R (zy_L (zy_R (zy_L (zy_L (zy_L (zy_L (zy_R h)))))))))
  · exact (zy_L (zy_L (zy_L (zy_R (zy_L (zy_L (zy_L (zy_R h))))))))
  · exact (zy_L (zy_L (zy_R (zy_R (zy_L (zy_L (zy_L (zy_R h))))))))
  · exact (zy_R (zy_R (zy_R (zy_R (zy_R (zy_L (zy_L (zy_L (zy_R h)))))))))
  · exact (zy_R (zy_R (zy_R (zy_L (zy_L (zy_R (zy_L (zy_L (zy_R h)))))))))
  · exact (zy_L (zy_L (zy_R (zy_L (zy_R (zy_R (zy_L (zy_L h))))))))
  · exact (zy_L (zy_R (zy_R (zy_R (zy_L (zy_R (zy_L (zy_L (zy_R h)))))))))
  · exact (zy_L (zy_R (zy_L (zy_R (zy_R (zy_L (zy_L (zy_R h))))))))
  · exact (zy_R (zy_R (zy_L (zy_R (zy_R (zy_R (zy_L (zy_L (zy_R h)))))))))
  · exact (zy_R (zy_L (zy_L (zy_L (zy_L (zy_R (zy_R (zy_L h))))))))
  · exact (zy_L (zy_R (zy_L (zy_R (zy_L (zy_L (zy_R (zy_R (zy_L h)))))))))
  · exact (zy_R (zy_L (zy_L (zy_L (zy_L (zy_R (zy_L (zy_R h))))))))
  · exact (zy_L (zy_R (zy_L (zy_R (zy_L (zy_L (zy_R (zy_L (zy_R h)))))))))
  · exact (zy_L (zy_L (zy_L (zy_R (zy_L (zy_R (zy_R (zy_L h))))))))
  · exact (zy_L (zy_L (zy_L (zy_R (zy_L (zy_R (zy_L (zy_R h))))))))
  · exact (zy_L (zy_L (zy_R (zy_R (zy_L (zy_R (zy_L (zy_R h))))))))
  · exact (zy_R (zy_R (zy_R (zy_R (zy_R (zy_L (zy_R (zy_L (zy_R h)))))))))
  · exact (zy_R (zy_R (zy_R (zy_L (zy_L (zy_R (zy_R (zy_L (zy_R h)))))))))
  · exact (zy_L (zy_R (zy_R (zy_R (zy_L (zy_R (zy_R (zy_L (zy_R h)))))))))
  · exact (zy_L (zy_R (zy_L (zy_R (zy_R (zy_R (zy_L (zy_R h))))))))
  · exact (zy_R (zy_R (zy_L (zy_R (zy_R (zy_R (zy_R (zy_L (zy_R h)))))))))
  · exact (zy_R (zy_L (zy_L (zy_L (zy_L (zy_L (zy_R (zy_R h))))))))
  · exact (zy_L (zy_R (zy_L (zy_R (zy_L (zy_L (zy_L (zy_R (zy_R h)))))))))
  · exact (zy_L (zy_L (zy_L (zy_R (zy_L (zy_L (zy_R (zy_R h))))))))
  · exact (zy_L (zy_L (zy_R (zy_R (zy_L (zy_L (zy_R (zy_R h))))))))
  · exact (zy_R (zy_R (zy_R (zy_R (zy_R (zy_L (zy_L (zy_R (zy_R h)))))))))
  · exact (zy_R (zy_R (zy_R (zy_L (zy_L (zy_R (zy_L (zy_R (zy_R h)))))))))
  · exact (zy_L (zy_R (zy_R (zy_R (zy_L (zy_R (zy_L (zy_R (zy_R h)))))))))
  · exact (zy_L (zy_R (zy_L (zy_R (zy_R (zy_L (zy_R (zy_L (zy_L h)))))))))
  · exact (zy_L (zy_L (zy_L (zy_L (zy_R (zy_R (zy_L (zy_L h))))))))
set_option maxRecDepth 100000 in
theorem zy_le {A : Array Value} {s : State} (h : narrow_1.before A s = true) : ∀ i, i < 41 → (Cond.eq (.field (.static "TallySlate$Word" (zy_nm.getD i "") "LTallySlate$Word;") "TallySlate$Word" "least" "I") (.int (zy_least.getD i 0))).before A s = true := by
  intro i hi
  have hv : i = 0 ∨ i = 1 ∨ i = 2 ∨ i = 3 ∨ i = 4 ∨ i = 5 ∨ i = 6 ∨ i = 7 ∨ i = 8 ∨ i = 9 ∨ i = 10 ∨ i = 11 ∨ i = 12 ∨ i = 13 ∨ i = 14 ∨ i = 15 ∨ i = 16 ∨ i = 17 ∨ i = 18 ∨ i = 19 ∨ i = 20 ∨ i = 21 ∨ i = 22 ∨ i = 23 ∨ i = 24 ∨ i = 25 ∨ i = 26 ∨ i = 27 ∨ i = 28 ∨ i = 29 ∨ i = 30 ∨ i = 31 ∨ i = 32 ∨ i = 33 ∨ i = 34 ∨ i = 35 ∨ i = 36 ∨ i = 37 ∨ i = 38 ∨ i = 39 ∨ i = 40 := by omega
  rcases hv with rfl | rfl | rfl | rfl | rfl | rfl | rfl | rfl | rfl | rfl | rfl | rfl | rfl | rfl | rfl | rfl | rfl | rfl | rfl | rfl | rfl | rfl | rfl | rfl | rfl | rfl | rfl | rfl | rfl | rfl | rfl | rfl | rfl | rfl | rfl | rfl | rfl | rfl | rfl | rfl | rfl
  · exact (zy_L (zy_L (zy_L (zy_R (zy_L (zy_R (zy_L (zy_L h))))))))
  · exact (zy_L (zy_R (zy_L (zy_R (zy_R (zy_L (zy_R (zy_R (zy_L h)))))))))
  · exact (zy_R (zy_R (zy_R (zy_R (zy_L (zy_R (zy_L (zy_R (zy_L h)))))))))
  · exact (zy_L (zy_L (zy_L (zy_L (zy_R (zy_R (zy_R (zy_L h))))))))
  · exact (zy_L (zy_L (zy_R (zy_L (zy_R (zy_R (zy_R (zy_L h))))))))
  · exact (zy_L (zy_R (zy_R (zy_L (zy_R (zy_R (zy_L (zy_R (zy_L h)))))))))
  · exact (zy_R (zy_R (zy_R (zy_R (zy_L (zy_R (zy_R (zy_R (zy_L h)))))))))
  · exact (zy_L (zy_R (zy_R (zy_L (zy_R (zy_R (zy_R (zy_R (zy_L h)))))))))
  · exact (zy_L (zy_R (zy_R (zy_R (zy_R (zy_R (zy_R (zy_L h))))))))
  · exact (zy_L (zy_R (zy_L (zy_L (zy_L (zy_L (zy_L (zy_R h))))))))
  · exact (zy_L (zy_R (zy_R (zy_R (zy_R (zy_L (zy_R (zy_L h))))))))
  · exact (zy_R (zy_R (zy_L (zy_R (zy_L (zy_L (zy_L (zy_L (zy_R h)))))))))
  · exact (zy_R (zy_L (zy_L (zy_R (zy_L (zy_L (zy_L (zy_R h))))))))
  · exact (zy_L (zy_R (zy_L (zy_R (zy_R (zy_L (zy_L (zy_L (zy_R h)))))))))
  · exact (zy_L (zy_L (zy_L (zy_L (zy_R (zy_L (zy_L (zy_R h))))))))
  · exact (zy_L (zy_L (zy_R (zy_L (zy_R (zy_L (zy_L (zy_R h))))))))
  · exact (zy_L (zy_R (zy_L (zy_R (zy_L (zy_R (zy_R (zy_L (zy_L h)))))))))
  · exact (zy_R (zy_R (zy_R (zy_R (zy_L (zy_R (zy_L (zy_L (zy_R h)))))))))
  · exact (zy_L (zy_R (zy_R (zy_L (zy_R (zy_R (zy_L (zy_L (zy_R h)))))))))
  · exact (zy_L (zy_R (zy_R (zy_R (zy_R (zy_L (zy_L (zy_R h))))))))
  · exact (zy_L (zy_R (zy_L (zy_L (zy_L (zy_R (zy_R (zy_L h))))))))
  · exact (zy_R (zy_R (zy_L (zy_R (zy_L (zy_L (zy_R (zy_R (zy_L h)))))))))
  · exact (zy_L (zy_R (zy_L (zy_L (zy_L (zy_R (zy_L (zy_R h))))))))
  · exact (zy_R (zy_R (zy_L (zy_R (zy_L (zy_L (zy_R (zy_L (zy_R h)))))))))
  · exact (zy_R (zy_L (zy_L (zy_R (zy_L (zy_R (zy_R (zy_L h))))))))
  · exact (zy_R (zy_L (zy_L (zy_R (zy_L (zy_R (zy_L (zy_R h))))))))
  · exact (zy_L (zy_R (zy_L (zy_R (zy_R (zy_L (zy_R (zy_L (zy_R h)))))))))
  · exact (zy_L (zy_L (zy_L (zy_L (zy_R (zy_R (zy_L (zy_R h))))))))
  · exact (zy_L (zy_L (zy_R (zy_L (zy_R (zy_R (zy_L (zy_R h))))))))
  · exact (zy_R (zy_R (zy_R (zy_R (zy_L (zy_R (zy_R (zy_L (zy_R h)))))))))
  · exact (zy_L (zy_R (zy_R (zy_L (zy_R (zy_R (zy_R (zy_L (zy_R h)))))))))
  · exact (zy_L (zy_R (zy_R (zy_R (zy_R (zy_R (zy_L (zy_R h))))))))
  · exact (zy_L (zy_R (zy_L (zy_L (zy_L (zy_L (zy_R (zy_R h))))))))
  · exact (zy_R (zy_R (zy_L (zy_R (zy_L (zy_L (zy_L (zy_R (zy_R h)))))))))
  · exact (zy_R (zy_L (zy_L (zy_R (zy_L (zy_L (zy_R (zy_R h))))))))
  · exact (zy_L (zy_R (zy_L (zy_R (zy_R (zy_L (zy_L (zy_R (zy_R h)))))))))
  · exact (zy_L (zy_L (zy_L (zy_L (zy_R (zy_L (zy_R (zy_R h))))))))
  · exact (zy_L (zy_L (zy_R (zy_L (zy_R (zy_L (zy_R (zy_R h))))))))
  · exact (zy_R (zy_R (zy_R (zy_R (zy_L (zy_R (zy_L (zy_R (zy_R h)))))))))
  · exact (zy_R (zy_R (zy_L (zy_R (zy_R (zy_L (zy_R (zy_L (zy_L h)))))))))
  · exact (zy_R (zy_L (zy_L (zy_L (zy_R (zy_R (zy_L (zy_L h))))))))
set_option maxRecDepth 100000 in
theorem zy_mo {A : Array Value} {s : State} (h : narrow_1.before A s = true) : ∀ i, i < 41 → (Cond.eq (.field (.static "TallySlate$Word" (zy_nm.getD i "") "LTallySlate$Word;") "TallySlate$Word" "most" "I") (.int (zy_most.getD i 0))).before A s = true := by
  intro i hi
  have hv : i = 0 ∨ i = 1 ∨ i = 2 ∨ i = 3 ∨ i = 4 ∨ i = 5 ∨ i = 6 ∨ i = 7 ∨ i = 8 ∨ i = 9 ∨ i = 10 ∨ i = 11 ∨ i = 12 ∨ i = 13 ∨ i = 14 ∨ i = 15 ∨ i = 16 ∨ i = 17 ∨ i = 18 ∨ i = 19 ∨ i = 20 ∨ i = 21 ∨ i = 22 ∨ i = 23 ∨ i = 24 ∨ i = 25 ∨ i = 26 ∨ i = 27 ∨ i = 28 ∨ i = 29 ∨ i = 30 ∨ i = 31 ∨ i = 32 ∨ i = 33 ∨ i = 34 ∨ i = 35 ∨ i = 36 ∨ i = 37 ∨ i = 38 ∨ i = 39 ∨ i = 40 := by omega
  rcases hv with rfl | rfl | rfl | rfl | rfl | rfl | rfl | rfl | rfl | rfl | rfl | rfl | rfl | rfl | rfl | rfl | rfl | rfl | rfl | rfl | rfl | rfl | rfl | rfl | rfl | rfl | rfl | rfl | rfl | rfl | rfl | rfl | rfl | rfl | rfl | rfl | rfl | rfl | rfl | rfl | rfl
  · exact (zy_R (zy_L (zy_L (zy_R (zy_L (zy_R (zy_L (zy_L h))))))))
  · exact (zy_R (zy_R (zy_L (zy_R (zy_R (zy_L (zy_R (zy_R (zy_L h)))))))))
  · exact (zy_L (zy_L (zy_L (zy_R (zy_R (zy_L (zy_R (zy_L h))))))))
  · exact (zy_R (zy_L (zy_L (zy_L (zy_R (zy_R (zy_R (zy_L h))))))))
  · exact (zy_L (zy_R (zy_L (zy_R (zy_L (zy_R (zy_R (zy_R (zy_L h)))))))))
  · exact (zy_R (zy_R (zy_R (zy_L (zy_R (zy_R (zy_L (zy_R (zy_L h)))))))))
  · exact (zy_L (zy_L (zy_L (zy_R (zy_R (zy_R (zy_R (zy_L h))))))))
  · exact (zy_R (zy_R (zy_R (zy_L (zy_R (zy_R (zy_R (zy_R (zy_L h)))))))))
  · exact (zy_L (zy_R (zy_R (zy_R (zy_R (zy_R (zy_R (zy_R (zy_L h)))))))))
  · exact (zy_L (zy_R (zy_R (zy_L (zy_L (zy_L (zy_L (zy_L (zy_R h)))))))))
  · exact (zy_L (zy_R (zy_R (zy_R (zy_R (zy_R (zy_L (zy_R (zy_L h)))))))))
  · exact (zy_L (zy_R (zy_R (zy_L (zy_L (zy_L (zy_L (zy_R h))))))))
  · exact (zy_L (zy_R (zy_L (zy_R (zy_L (zy_L (zy_L (zy_R h))))))))
  · exact (zy_R (zy_R (zy_L (zy_R (zy_R (zy_L (zy_L (zy_L (zy_R h)))))))))
  · exact (zy_R (zy_L (zy_L (zy_L (zy_R (zy_L (zy_L (zy_R h))))))))
  · exact (zy_L (zy_R (zy_L (zy_R (zy_L (zy_R (zy_L (zy_L (zy_R h)))))))))
  · exact (zy_R (zy_R (zy_L (zy_R (zy_L (zy_R (zy_R (zy_L (zy_L h)))))))))
  · exact (zy_L (zy_L (zy_L (zy_R (zy_R (zy_L (zy_L (zy_R h))))))))
  · exact (zy_R (zy_R (zy_R (zy_L (zy_R (zy_R (zy_L (zy_L (zy_R h)))))))))
  · exact (zy_L (zy_R (zy_R (zy_R (zy_R (zy_R (zy_L (zy_L (zy_R h)))))))))
  · exact (zy_L (zy_R (zy_R (zy_L (zy_L (zy_L (zy_R (zy_R (zy_L h)))))))))
  · exact (zy_L (zy_R (zy_R (zy_L (zy_L (zy_R (zy_R (zy_L h))))))))
  · exact (zy_L (zy_R (zy_R (zy_L (zy_L (zy_L (zy_R (zy_L (zy_R h)))))))))
  · exact (zy_L (zy_R (zy_R (zy_L (zy_L (zy_R (zy_L (zy_R h))))))))
  · exact (zy_L (zy_R (zy_L (zy_R (zy_L (zy_R (zy_R (zy_L h))))))))
  · exact (zy_L (zy_R (zy_L (zy_R (zy_L (zy_R (zy_L (zy_R h))))))))
  · exact (zy_R (zy_R (zy_L (zy_R (zy_R (zy_L (zy_R (zy_L (zy_R h)))))))))
  · exact (zy_R (zy_L (zy_L (zy_L (zy_R (zy_R (zy_L (zy_R h))))))))
  · exact (zy_L (zy_R (zy_L (zy_R (zy_L (zy_R (zy_R (zy_L (zy_R h)))))))))
  · exact (zy_L (zy_L (zy_L (zy_R (zy_R (zy_R (zy_L (zy_R h))))))))
  · exact (zy_R (zy_R (zy_R (zy_L (zy_R (zy_R (zy_R (zy_L (zy_R h)))))))))
  · exact (zy_L (zy_R (zy_R (zy_R (zy_R (zy_R (zy_R (zy_L (zy_R h)))))))))
  · exact (zy_L (zy_R (zy_R (zy_L (zy_L (zy_L (zy_L (zy_R (zy_R h)))))))))
  · exact (zy_L (zy_R (zy_R (zy_L (zy_L (zy_L (zy_R (zy_R h))))))))
  · exact (zy_L (zy_R (zy_L (zy_R (zy_L (zy_L (zy_R (zy_R h))))))))
  · exact (zy_R (zy_R (zy_L (zy_R (zy_R (zy_L (zy_L (zy_R (zy_R h)))))))))
  · exact (zy_R (zy_L (zy_L (zy_L (zy_R (zy_L (zy_R (zy_R h))))))))
  · exact (zy_L (zy_R (zy_L (zy_R (zy_L (zy_R (zy_L (zy_R (zy_R h)))))))))
  · exact (zy_L (zy_L (zy_L (zy_R (zy_R (zy_L (zy_R (zy_R h))))))))
  · exact (zy_L (zy_R (zy_R (zy_R (zy_L (zy_R (zy_L (zy_L h))))))))
  · exact (zy_L (zy_R (zy_L (zy_L (zy_R (zy_R (zy_L (zy_L h))))))))
set_option maxRecDepth 100000 in
theorem zy_or {A : Array Value} {s : State} (h : narrow_1.before A s = true) : ∀ i, i < 41 → (Cond.eq (.field (.static "TallySlate$Word" (zy_nm.getD i "") "LTallySlate$Word;") "java/lang/Enum" "ordinal" "I") (.int (Int32.ofNat i))).before A s = true := by
  intro i hi
  have hv : i = 0 ∨ i = 1 ∨ i = 2 ∨ i = 3 ∨ i = 4 ∨ i = 5 ∨ i = 6 ∨ i = 7 ∨ i = 8 ∨ i = 9 ∨ i = 10 ∨ i = 11 ∨ i = 12 ∨ i = 13 ∨ i = 14 ∨ i = 15 ∨ i = 16 ∨ i = 17 ∨ i = 18 ∨ i = 19 ∨ i = 20 ∨ i = 21 ∨ i = 22 ∨ i = 23 ∨ i = 24 ∨ i = 25 ∨ i = 26 ∨ i = 27 ∨ i = 28 ∨ i = 29 ∨ i = 30 ∨ i = 31 ∨ i = 32 ∨ i = 33 ∨ i = 34 ∨ i = 35 ∨ i = 36 ∨ i = 37 ∨ i = 38 ∨ i = 39 ∨ i = 40 := by omega
  rcases hv with rfl | rfl | rfl | rfl | rfl | rfl | rfl | rfl | rfl | rfl | rfl | rfl | rfl | rfl | rfl | rfl | rfl | rfl | rfl | rfl | rfl | rfl | rfl | rfl | rfl | rfl | rfl | rfl | rfl | rfl | rfl | rfl | rfl | rfl | rfl | rfl | rfl | rfl | rfl | rfl | rfl
  · exact (zy_L (zy_R (zy_R (zy_R (zy_L (zy_L (zy_R (zy_L (zy_L h)))))))))
  · exact (zy_R (zy_R (zy_R (zy_L (zy_R (zy_L (zy_R (zy_R (zy_L h)))))))))
  · exact (zy_L (zy_R (zy_R (zy_L (zy_R (zy_L (zy_R (zy_L h))))))))
  · exact (zy_L (zy_R (zy_R (zy_R (zy_R (zy_L (zy_R (zy_R (zy_L h)))))))))
  · exact (zy_L (zy_R (zy_R (zy_L (zy_L (zy_R (zy_R (zy_R (zy_L h)))))))))
  · exact (zy_R (zy_R (zy_L (zy_L (zy_R (zy_R (zy_L (zy_R (zy_L h)))))))))
  · exact (zy_L (zy_R (zy_R (zy_L (zy_R (zy_R (zy_R (zy_L h))))))))
  · exact (zy_R (zy_R (zy_L (zy_L (zy_R (zy_R (zy_R (zy_R (zy_L h)))))))))
  · exact (zy_L (zy_R (zy_L (zy_R (zy_R (zy_R (zy_R (zy_R (zy_L h)))))))))
  · exact (zy_L (zy_L (zy_L (zy_L (zy_L (zy_L (zy_L (zy_R h))))))))
  · exact (zy_L (zy_R (zy_L (zy_R (zy_R (zy_R (zy_L (zy_R (zy_L h)))))))))
  · exact (zy_L (zy_L (zy_R (zy_L (zy_L (zy_L (zy_L (zy_R h))))))))
  · exact (zy_R (zy_R (zy_R (zy_R (zy_L (zy_L (zy_L (zy_L (zy_R h)))))))))
  · exact (zy_R (zy_R (zy_R (zy_L (zy_R (zy_L (zy_L (zy_L (zy_R h)))))))))
  · exact (zy_L (zy_R (zy_R (zy_R (zy_R (zy_L (zy_L (zy_L (zy_R h)))))))))
  · exact (zy_L (zy_R (zy_R (zy_L (zy_L (zy_R (zy_L (zy_L (zy_R h)))))))))
  · exact (zy_R (zy_R (zy_R (zy_L (zy_L (zy_R (zy_R (zy_L (zy_L h)))))))))
  · exact (zy_L (zy_R (zy_R (zy_L (zy_R (zy_L (zy_L (zy_R h))))))))
  · exact (zy_R (zy_R (zy_L (zy_L (zy_R (zy_R (zy_L (zy_L (zy_R h)))))))))
  · exact (zy_L (zy_R (zy_L (zy_R (zy_R (zy_R (zy_L (zy_L (zy_R h)))))))))
  · exact (zy_L (zy_L (zy_L (zy_L (zy_L (zy_R (zy_R (zy_L h))))))))
  · exact (zy_L (zy_L (zy_R (zy_L (zy_L (zy_R (zy_R (zy_L h))))))))
  · exact (zy_L (zy_L (zy_L (zy_L (zy_L (zy_R (zy_L (zy_R h))))))))
  · exact (zy_L (zy_L (zy_R (zy_L (zy_L (zy_R (zy_L (zy_R h))))))))
  · exact (zy_R (zy_R (zy_R (zy_R (zy_L (zy_L (zy_R (zy_R (zy_L h)))))))))
  · exact (zy_R (zy_R (zy_R (zy_R (zy_L (zy_L (zy_R (zy_L (zy_R h)))))))))
  · exact (zy_R (zy_R (zy_R (zy_L (zy_R (zy_L (zy_R (zy_L (zy_R h)))))))))
  · exact (zy_L (zy_R (zy_R (zy_R (zy_R (zy_L (zy_R (zy_L (zy_R h)))))))))
  · exact (zy_L (zy_R (zy_R (zy_L (zy_L (zy_R (zy_R (zy_L (zy_R h)))))))))
  · exact (zy_L (zy_R (zy_R (zy_L (zy_R (zy_R (zy_L (zy_R h))))))))
  · exact (zy_R (zy_R (zy_L (zy_L (zy_R (zy_R (zy_R (zy_L (zy_R h)))))))))
  · exact (zy_L (zy_R (zy_L (zy_R (zy_R (zy_R (zy_R (zy_L (zy_R h)))))))))
  · exact (zy_L (zy_L (zy_L (zy_L (zy_L (zy_L (zy_R (zy_R h))))))))
  · exact (zy_L (zy_L (zy_R (zy_L (zy_L (zy_L (zy_R (zy_R h))))))))
  · exact (zy_R (zy_R (zy_R (zy_R (zy_L (zy_L (zy_L (zy_R (zy_R h)))))))))
  · exact (zy_R (zy_R (zy_R (zy_L (zy_R (zy_L (zy_L (zy_R (zy_R h)))))))))
  · exact (zy_L (zy_R (zy_R (zy_R (zy_R (zy_L (zy_L (zy_R (zy_R h)))))))))
  · exact (zy_L (zy_R (zy_R (zy_L (zy_L (zy_R (zy_L (zy_R (zy_R h)))))))))
  · exact (zy_L (zy_R (zy_R (zy_L (zy_R (zy_L (zy_R (zy_R h))))))))
  · exact (zy_L (zy_L (zy_R (zy_R (zy_L (zy_R (zy_L (zy_L h))))))))
  · exact (zy_R (zy_R (zy_R (zy_R (zy_R (zy_L (zy_R (zy_L (zy_L h)))))))))
set_option maxRecDepth 100000 in
theorem zy_el {A : Array Value} {s : State} (h : narrow_1.before A s = true) : ∀ i, i < 41 → (Cond.eq (.elem (.static "TallySlate$Word" "ALL" "[LTallySlate$Word;") (.int (Int32.ofNat i))) (.static "TallySlate$Word" (zy_nm.getD i "") "LTallySlate$Word;")).before A s = true := by
  intro i hi
  have hv : i = 0 ∨ i = 1 ∨ i = 2 ∨ i = 3 ∨ i = 4 ∨ i = 5 ∨ i = 6 ∨ i = 7 ∨ i = 8 ∨ i = 9 ∨ i = 10 ∨ i = 11 ∨ i = 12 ∨ i = 13 ∨ i = 14 ∨ i = 15 ∨ i = 16 ∨ i = 17 ∨ i = 18 ∨ i = 19 ∨ i = 20 ∨ i = 21 ∨ i = 22 ∨ i = 23 ∨ i = 24 ∨ i = 25 ∨ i = 26 ∨ i = 27 ∨ i = 28 ∨ i = 29 ∨ i = 30 ∨ i = 31 ∨ i = 32 ∨ i = 33 ∨ i = 34 ∨ i = 35 ∨ i = 36 ∨ i = 37 ∨ i = 38 ∨ i = 39 ∨ i = 40 := by omega
  rcases hv with rfl | rfl | rfl | rfl | rfl | rfl | rfl | rfl | rfl | rfl | rfl | rfl | rfl | rfl | rfl | rfl | rfl | rfl | rfl | rfl | rfl | rfl | rfl | rfl | rfl | rfl | rfl | rfl | rfl | rfl | rfl | rfl | rfl | rfl | rfl | rfl | rfl | rfl | rfl | rfl | rfl
  · exact (zy_R (zy_R (zy_L (zy_R (zy_L (zy_L (zy_L (zy_L (zy_L h)))))))))
  · exact (zy_L (zy_R (zy_R (zy_L (zy_L (zy_L (zy_L (zy_L h))))))))
  · exact (zy_L (zy_R (zy_R (zy_R (zy_L (zy_L (zy_L (zy_L (zy_L h)))))))))
  · exact (zy_R (zy_R (zy_R (zy_R (zy_L (zy_L (zy_L (zy_L (zy_L h)))))))))
  · exact (zy_L (zy_L (zy_L (zy_R (zy_L (zy_L (zy_L (zy_L h))))))))
  · exact (zy_R (zy_L (zy_L (zy_R (zy_L (zy_L (zy_L (zy_L h))))))))
  · exact (zy_L (zy_R (zy_L (zy_R (zy_L (zy_L (zy_L (zy_L h))))))))
  · exact (zy_L (zy_R (zy_R (zy_L (zy_R (zy_L (zy_L (zy_L (zy_L h)))))))))
  · exact (zy_R (zy_R (zy_R (zy_L (zy_R (zy_L (zy_L (zy_L (zy_L h)))))))))
  · exact (zy_L (zy_L (zy_R (zy_R (zy_L (zy_L (zy_L (zy_L h))))))))
  · exact (zy_L (zy_R (zy_L (zy_R (zy_R (zy_L (zy_L (zy_L (zy_L h)))))))))
  · exact (zy_R (zy_R (zy_L (zy_R (zy_R (zy_L (zy_L (zy_L (zy_L h)))))))))
  · exact (zy_L (zy_R (zy_R (zy_R (zy_L (zy_L (zy_L (zy_L h))))))))
  · exact (zy_L (zy_R (zy_R (zy_R (zy_R (zy_L (zy_L (zy_L (zy_L h)))))))))
  · exact (zy_R (zy_R (zy_R (zy_R (zy_R (zy_L (zy_L (zy_L (zy_L h)))))))))
  · exact (zy_L (zy_L (zy_L (zy_L (zy_R (zy_L (zy_L (zy_L h))))))))
  · exact (zy_R (zy_L (zy_L (zy_L (zy_R (zy_L (zy_L (zy_L h))))))))
  · exact (zy_L (zy_R (zy_L (zy_L (zy_R (zy_L (zy_L (zy_L h))))))))
  · exact (zy_L (zy_R (zy_R (zy_L (zy_L (zy_R (zy_L (zy_L (zy_L h)))))))))
  · exact (zy_R (zy_R (zy_R (zy_L (zy_L (zy_R (zy_L (zy_L (zy_L h)))))))))
  · exact (zy_L (zy_L (zy_R (zy_L (zy_R (zy_L (zy_L (zy_L h))))))))
  · exact (zy_L (zy_R (zy_L (zy_R (zy_L (zy_R (zy_L (zy_L (zy_L h)))))))))
  · exact (zy_R (zy_R (zy_L (zy_R (zy_L (zy_R (zy_L (zy_L (zy_L h)))))))))
  · exact (zy_L (zy_R (zy_R (zy_L (zy_R (zy_L (zy_L (zy_L h))))))))
  · exact (zy_L (zy_R (zy_R (zy_R (zy_L (zy_R (zy_L (zy_L (zy_L h)))))))))
  · exact (zy_R (zy_R (zy_R (zy_R (zy_L (zy_R (zy_L (zy_L (zy_L h)))))))))
  · exact (zy_L (zy_L (zy_L (zy_R (zy_R (zy_L (zy_L (zy_L h))))))))
  · exact (zy_L (zy_R (zy_L (zy_L (zy_R (zy_R (zy_L (zy_L (zy_L h)))))))))
  · exact (zy_R (zy_R (zy_L (zy_L (zy_R (zy_R (zy_L (zy_L (zy_L h)))))))))
  · exact (zy_L (zy_R (zy_L (zy_R (zy_R (zy_L (zy_L (zy_L h))))))))
  · exact (zy_L (zy_R (zy_R (zy_L (zy_R (zy_R (zy_L (zy_L (zy_L h)))))))))
  · exact (zy_R (zy_R (zy_R (zy_L (zy_R (zy_R (zy_L (zy_L (zy_L h)))))))))
  · exact (zy_L (zy_L (zy_R (zy_R (zy_R (zy_L (zy_L (zy_L h))))))))
  · exact (zy_L (zy_R (zy_L (zy_R (zy_R (zy_R (zy_L (zy_L (zy_L h)))))))))
  · exact (zy_R (zy_R (zy_L (zy_R (zy_R (zy_R (zy_L (zy_L (zy_L h)))))))))
  · exact (zy_L (zy_R (zy_R (zy_R (zy_R (zy_L (zy_L (zy_L h))))))))
  · exact (zy_L (zy_R (zy_R (zy_R (zy_R (zy_R (zy_L (zy_L (zy_L h)))))))))
  · exact (zy_R (zy_R (zy_R (zy_R (zy_R (zy_R (zy_L (zy_L (zy_L h)))))))))
  · exact (zy_L (zy_L (zy_L (zy_L (zy_L (zy_R (zy_L (zy_L h))))))))
  · exact (zy_R (zy_L (zy_L (zy_L (zy_L (zy_R (zy_L (zy_L h))))))))
  · exact (zy_L (zy_R (zy_L (zy_L (zy_L (zy_R (zy_L (zy_L h))))))))
set_option maxRecDepth 100000 in
theorem zy_ml {A : Array Value} {s : State} (h : narrow_1.before A s = true) : ∀ i, i < 41 → (Cond.eq (.elem (.static "TallySlate$1" "$SwitchMap$TallySlate$Word" "[I") (.int (Int32.ofNat i))) (.int (zy_map.getD i 0))).before A s = true := by
  intro i hi
  have hv : i = 0 ∨ i = 1 ∨ i = 2 ∨ i = 3 ∨ i = 4 ∨ i = 5 ∨ i = 6 ∨ i = 7 ∨ i = 8 ∨ i = 9 ∨ i = 10 ∨ i = 11 ∨ i = 12 ∨ i = 13 ∨ i = 14 ∨ i = 15 ∨ i = 16 ∨ i = 17 ∨ i = 18 ∨ i = 19 ∨ i = 20 ∨ i = 21 ∨ i = 22 ∨ i = 23 ∨ i = 24 ∨ i = 25 ∨ i = 26 ∨ i = 27 ∨ i = 28 ∨ i = 29 ∨ i = 30 ∨ i = 31 ∨ i = 32 ∨ i = 33 ∨ i = 34 ∨ i = 35 ∨ i = 36 ∨ i = 37 ∨ i = 38 ∨ i = 39 ∨ i = 40 := by omega
  rcases hv with rfl | rfl | rfl | rfl | rfl | rfl | rfl | rfl | rfl | rfl | rfl | rfl | rfl | rfl | rfl | rfl | rfl | rfl | rfl | rfl | rfl | rfl | rfl | rfl | rfl | rfl | rfl | rfl | rfl | rfl | rfl | rfl | rfl | rfl | rfl | rfl | rfl | rfl | rfl | rfl | rfl
  · exact (zy_L (zy_L (zy_L (zy_R (zy_R (zy_R (zy_L (zy_L h))))))))
  · exact (zy_L (zy_R (zy_L (zy_L (zy_R (zy_R (zy_R (zy_L (zy_L h)))))))))
  · exact (zy_R (zy_R (zy_L (zy_L (zy_R (zy_R (zy_R (zy_L (zy_L h)))))))))
  · exact (zy_L (zy_R (zy_L (zy_R (zy_R (zy_R (zy_L (zy_L h))))))))
  · exact (zy_L (zy_R (zy_R (zy_L (zy_R (zy_R (zy_R (zy_L (zy_L h)))))))))
  · exact (zy_R (zy_R (zy_R (zy_L (zy_R (zy_R (zy_R (zy_L (zy_L h)))))))))
  · exact (zy_L (zy_L (zy_R (zy_R (zy_R (zy_R (zy_L (zy_L h))))))))
  · exact (zy_L (zy_R (zy_L (zy_R (zy_R (zy_R (zy_R (zy_L (zy_L h)))))))))
  · exact (zy_R (zy_R (zy_L (zy_R (zy_R (zy_R (zy_R (zy_L (zy_L h)))))))))
  · exact (zy_L (zy_R (zy_R (zy_R (zy_R (zy_R (zy_L (zy_L h))))))))
  · exact (zy_L (zy_R (zy_R (zy_R (zy_R (zy_R (zy_R (zy_L (zy_L h)))))))))
  · exact (zy_R (zy_R (zy_R (zy_R (zy_R (zy_R (zy_R (zy_L (zy_L h)))))))))
  · exact (zy_L (zy_L (zy_L (zy_L (zy_L (zy_L (zy_R (zy_L h))))))))
  · exact (zy_R (zy_L (zy_L (zy_L (zy_L (zy_L (zy_R (zy_L h))))))))
  · exact (zy_L (zy_R (zy_L (zy_L (zy_L (zy_L (zy_R (zy_L h))))))))
  · exact (zy_L (zy_R (zy_R (zy_L (zy_L (zy_L (zy_L (zy_R (zy_L h)))))))))
  · exact (zy_R (zy_R (zy_R (zy_L (zy_L (zy_L (zy_L (zy_R (zy_L h)))))))))
  · exact (zy_L (zy_L (zy_R (zy_L (zy_L (zy_L (zy_R (zy_L h))))))))
  · exact (zy_L (zy_R (zy_L (zy_R (zy_L (zy_L (zy_L (zy_R (zy_L h)))))))))
  · exact (zy_R (zy_R (zy_L (zy_R (zy_L (zy_L (zy_L (zy_R (zy_L h)))))))))
  · exact (zy_L (zy_R (zy_R (zy_L (zy_L (zy_L (zy_R (zy_L h))))))))
  · exact (zy_L (zy_R (zy_R (zy_R (zy_L (zy_L (zy_L (zy_R (zy_L h)))))))))
  · exact (zy_R (zy_R (zy_R (zy_R (zy_L (zy_L (zy_L (zy_R (zy_L h)))))))))
  · exact (zy_L (zy_L (zy_L (zy_R (zy_L (zy_L (zy_R (zy_L h))))))))
  · exact (zy_R (zy_L (zy_L (zy_R (zy_L (zy_L (zy_R (zy_L h))))))))
  · exact (zy_L (zy_R (zy_L (zy_R (zy_L (zy_L (zy_R (zy_L h))))))))
  · exact (zy_L (zy_R (zy_R (zy_L (zy_R (zy_L (zy_L (zy_R (zy_L h)))))))))
  · exact (zy_R (zy_R (zy_R (zy_L (zy_R (zy_L (zy_L (zy_R (zy_L h)))))))))
  · exact (zy_L (zy_L (zy_R (zy_R (zy_L (zy_L (zy_R (zy_L h))))))))
  · exact (zy_L (zy_R (zy_L (zy_R (zy_R (zy_L (zy_L (zy_R (zy_L h)))))))))
  · exact (zy_R (zy_R (zy_L (zy_R (zy_R (zy_L (zy_L (zy_R (zy_L h)))))))))
  · exact (zy_L (zy_R (zy_R (zy_R (zy_L (zy_L (zy_R (zy_L h))))))))
  · exact (zy_L (zy_R (zy_R (zy_R (zy_R (zy_L (zy_L (zy_R (zy_L h)))))))))
  · exact (zy_R (zy_R (zy_R (zy_R (zy_R (zy_L (zy_L (zy_R (zy_L h)))))))))
  · exact (zy_L (zy_L (zy_L (zy_L (zy_R (zy_L (zy_R (zy_L h))))))))
  · exact (zy_R (zy_L (zy_L (zy_L (zy_R (zy_L (zy_R (zy_L h))))))))
  · exact (zy_L (zy_R (zy_L (zy_L (zy_R (zy_L (zy_R (zy_L h))))))))
  · exact (zy_L (zy_R (zy_R (zy_L (zy_L (zy_R (zy_L (zy_R (zy_L h)))))))))
  · exact (zy_R (zy_R (zy_R (zy_L (zy_L (zy_R (zy_L (zy_R (zy_L h)))))))))
  · exact (zy_L (zy_L (zy_R (zy_L (zy_R (zy_L (zy_R (zy_L h))))))))
  · exact (zy_L (zy_R (zy_L (zy_R (zy_L (zy_R (zy_L (zy_R (zy_L h)))))))))
set_option maxRecDepth 100000 in
theorem zy_b0 {A : Array Value} {s : State} (h : narrow_1.before A s = true) : ∀ i, i < 19 → (Cond.eq (.elem (.field (.string "TallySlate$Tokens" 65) "java/lang/String" "value" "[B") (.int (Int32.ofNat i))) (.int ((zy_byt 0).getD i 0))).before A s = true := by
  intro i hi
  have hv : i = 0 ∨ i = 1 ∨ i = 2 ∨ i = 3 ∨ i = 4 ∨ i = 5 ∨ i = 6 ∨ i = 7 ∨ i = 8 ∨ i = 9 ∨ i = 10 ∨ i = 11 ∨ i = 12 ∨ i = 13 ∨ i = 14 ∨ i = 15 ∨ i = 16 ∨ i = 17 ∨ i = 18 := by omega
  rcases hv with rfl | rfl | rfl | rfl | rfl | rfl | rfl | rfl | rfl | rfl | rfl | rfl | rfl | rfl | rfl | rfl | rfl | rfl | rfl
  · exact (zy_L (zy_R (zy_L (zy_R (zy_L (zy_L (zy_R (zy_R (zy_R h)))))))))
  · exact (zy_R (zy_R (zy_L (zy_R (zy_L (zy_L (zy_R (zy_R (zy_R h)))))))))
  · exact (zy_L (zy_R (zy_R (zy_L (zy_L (zy_R (zy_R (zy_R h))))))))
  · exact (zy_L (zy_R (zy_R (zy_R (zy_L (zy_L (zy_R (zy_R (zy_R h)))))))))
  · exact (zy_R (zy_R (zy_R (zy_R (zy_L (zy_L (zy_R (zy_R (zy_R h)))))))))
  · exact (zy_L (zy_L (zy_L (zy_R (zy_L (zy_R (zy_R (zy_R h))))))))
  · exact (zy_R (zy_L (zy_L (zy_R (zy_L (zy_R (zy_R (zy_R h))))))))
  · exact (zy_L (zy_R (zy_L (zy_R (zy_L (zy_R (zy_R (zy_R h))))))))
  · exact (zy_L (zy_R (zy_R (zy_L (zy_R (zy_L (zy_R (zy_R (zy_R h)))))))))
  · exact (zy_R (zy_R (zy_R (zy_L (zy_R (zy_L (zy_R (zy_R (zy_R h)))))))))
  · exact (zy_L (zy_L (zy_R (zy_R (zy_L (zy_R (zy_R (zy_R h))))))))
  · exact (zy_L (zy_R (zy_L (zy_R (zy_R (zy_L (zy_R (zy_R (zy_R h)))))))))
  · exact (zy_R (zy_R (zy_L (zy_R (zy_R (zy_L (zy_R (zy_R (zy_R h)))))))))
  · exact (zy_L (zy_R (zy_R (zy_R (zy_L (zy_R (zy_R (zy_R h))))))))
  · exact (zy_L (zy_R (zy_R (zy_R (zy_R (zy_L (zy_R (zy_R (zy_R h)))))))))
  · exact (zy_R (zy_R (zy_R (zy_R (zy_R (zy_L (zy_R (zy_R (zy_R h)))))))))
  · exact (zy_L (zy_L (zy_L (zy_L (zy_R (zy_R (zy_R (zy_R h))))))))
  · exact (zy_R (zy_L (zy_L (zy_L (zy_R (zy_R (zy_R (zy_R h))))))))
  · exact (zy_L (zy_R (zy_L (zy_L (zy_R (zy_R (zy_R (zy_R h))))))))
theorem zy_s0 {A : Array Value} {s : State} (h : narrow_1.before A s = true) : (Cond.exactly (.string "TallySlate$Tokens" 65) "java/lang/String").before A s = true ∧ (Cond.eq (.field (.string "TallySlate$Tokens" 65) "java/lang/String" "coder" "B") (.int 0)).before A s = true ∧ (Cond.arrayOf (.field (.string "TallySlate$Tokens" 65) "java/lang/String" "value" "[B") .byte).before A s = true ∧ (Cond.eq (.length (.field (.string "TallySlate$Tokens" 65) "java/lang/String" "value" "[B")) (.int 19)).before A s = true := ⟨(zy_L (zy_R (zy_L (zy_L (zy_L (zy_R (zy_R (zy_R h)))))))), (zy_L (zy_R (zy_R (zy_L (zy_L (zy_L (zy_R (zy_R (zy_R h))))))))), (zy_R (zy_R (zy_R (zy_L (zy_L (zy_L (zy_R (zy_R (zy_R h))))))))), (zy_L (zy_L (zy_R (zy_L (zy_L (zy_R (zy_R (zy_R h))))))))⟩
set_option maxRecDepth 100000 in
theorem zy_b1 {A : Array Value} {s : State} (h : narrow_1.before A s = true) : ∀ i, i < 4 → (Cond.eq (.elem (.field (.string "TallySlate$Tokens" 73) "java/lang/String" "value" "[B") (.int (Int32.ofNat i))) (.int ((zy_byt 1).getD i 0))).before A s = true := by
  intro i hi
  have hv : i = 0 ∨ i = 1 ∨ i = 2 ∨ i = 3 := by omega
  rcases hv with rfl | rfl | rfl | rfl
  · exact (zy_R (zy_R (zy_L (zy_R (zy_L (zy_R (zy_R (zy_R (zy_R h)))))))))
  · exact (zy_L (zy_R (zy_R (zy_L (zy_R (zy_R (zy_R (zy_R h))))))))
  · exact (zy_L (zy_R (zy_R (zy_R (zy_L (zy_R (zy_R (zy_R (zy_R h)))))))))
  · exact (zy_R (zy_R (zy_R (zy_R (zy_L (zy_R (zy_R (zy_R (zy_R h)))))))))
theorem zy_s1 {A : Array Value} {s : State} (h : narrow_1.before A s = true) : (Cond.exactly (.string "TallySlate$Tokens" 73) "java/lang/String").before A s = true ∧ (Cond.eq (.field (.string "TallySlate$Tokens" 73) "java/lang/String" "coder" "B") (.int 0)).before A s = true ∧ (Cond.arrayOf (.field (.string "TallySlate$Tokens" 73) "java/lang/String" "value" "[B") .byte).before A s = true ∧ (Cond.eq (.length (.field (.string "TallySlate$Tokens" 73) "java/lang/String" "value" "[B")) (.int 4)).before A s = true := ⟨(zy_L (zy_R (zy_R (zy_L (zy_L (zy_R (zy_R (zy_R (zy_R h))))))))), (zy_R (zy_R (zy_R (zy_L (zy_L (zy_R (zy_R (zy_R (zy_R h))))))))), (zy_L (zy_L (zy_R (zy_L (zy_R (zy_R (zy_R (zy_R h)))))))), (zy_L (zy_R (zy_L (zy_R (zy_L (zy_R (zy_R (zy_R (zy_R h)))))))))⟩
set_option maxRecDepth 100000 in
theorem zy_b2 {A : Array Value} {s : State} (h : narrow_1.before A s = true) : ∀ i, i < 7 → (Cond.eq (.elem (.field (.string "TallySlate$Parser" 276) "java/lang/String" "value" "[B") (.int (Int32.ofNat i))) (.int ((zy_byt 2).getD i 0))).before A s = true := by
  intro i hi
  have hv : i = 0 ∨ i = 1 ∨ i = 2 ∨ i = 3 ∨ i = 4 ∨ i = 5 ∨ i = 6 := by omega
  rcases hv with rfl | rfl | rfl | rfl | rfl | rfl | rfl
  · exact (zy_L (zy_R (zy_R (zy_L (zy_R (zy_R (zy_R (zy_R (zy_R h)))))))))
  · exact (zy_R (zy_R (zy_R (zy_L (zy_R (zy_R (zy_R (zy_R (zy_R h)))))))))
  · exact (zy_L (zy_L (zy_R (zy_R (zy_R (zy_R (zy_R (zy_R h))))))))
  · exact (zy_L (zy_R (zy_L (zy_R (zy_R (zy_R (zy_R (zy_R (zy_R h)))))))))
  · exact (zy_R (zy_R (zy_L (zy_R (zy_R (zy_R (zy_R (zy_R (zy_R h)))))))))
  · exact (zy_L (zy_R (zy_R (zy_R (zy_R (zy_R (zy_R (zy_R h))))))))
  · exact (zy_L (zy_R (zy_R (zy_R (zy_R (zy_R (zy_R (zy_R (zy_R h)))))))))
theorem zy_s2 {A : Array Value} {s : State} (h : narrow_1.before A s = true) : (Cond.exactly (.string "TallySlate$Parser" 276) "java/lang/String").before A s = true ∧ (Cond.eq (.field (.string "TallySlate$Parser" 276) "java/lang/String" "coder" "B") (.int 0)).before A s = true ∧ (Cond.arrayOf (.field (.string "TallySlate$Parser" 276) "java/lang/String" "value" "[B") .byte).before A s = true ∧ (Cond.eq (.length (.field (.string "TallySlate$Parser" 276) "java/lang/String" "value" "[B")) (.int 7)).before A s = true := ⟨(zy_L (zy_L (zy_L (zy_R (zy_R (zy_R (zy_R (zy_R h)))))))), (zy_L (zy_R (zy_L (zy_L (zy_R (zy_R (zy_R (zy_R (zy_R h))))))))), (zy_R (zy_R (zy_L (zy_L (zy_R (zy_R (zy_R (zy_R (zy_R h))))))))), (zy_L (zy_R (zy_L (zy_R (zy_R (zy_R (zy_R (zy_R h))))))))⟩
theorem zy_all {A : Array Value} {s : State} (h : narrow_1.before A s = true) : (Cond.arrayOf (.static "TallySlate$Word" "ALL" "[LTallySlate$Word;") (.object "TallySlate$Word")).before A s = true ∧ (Cond.eq (.length (.static "TallySlate$Word" "ALL" "[LTallySlate$Word;")) (.int 41)).before A s = true := ⟨(zy_R (zy_R (zy_R (zy_L (zy_L (zy_L (zy_L (zy_L (zy_L h))))))))), (zy_L (zy_L (zy_R (zy_L (zy_L (zy_L (zy_L (zy_L h))))))))⟩
theorem zy_map1 {A : Array Value} {s : State} (h : narrow_1.before A s = true) : (Cond.arrayOf (.static "TallySlate$1" "$SwitchMap$TallySlate$Word" "[I") .int).before A s = true ∧ (Cond.eq (.length (.static "TallySlate$1" "$SwitchMap$TallySlate$Word" "[I")) (.int 41)).before A s = true := ⟨(zy_L (zy_R (zy_R (zy_R (zy_L (zy_R (zy_R (zy_L (zy_L h))))))))), (zy_R (zy_R (zy_R (zy_R (zy_L (zy_R (zy_R (zy_L (zy_L h)))))))))⟩
theorem zy_oth {A : Array Value} {s : State} (h : narrow_1.before A s = true) : (Cond.eq (.static "java/lang/String" "COMPACT_STRINGS" "Z") (.int 1)).before A s = true ∧ (Cond.isRef (.static Bundle.tN "UNASSIGNED_STACK" Bundle.steD)).before A s = true ∧ (Cond.isRef (.static Bundle.tN "SUPPRESSED_SENTINEL" Bundle.listD)).before A s = true := ⟨(zy_L (zy_R (zy_R (zy_L (zy_L (zy_L (zy_R (zy_L (zy_L h))))))))), (zy_L (zy_R (zy_L (zy_R (zy_L (zy_R (zy_L (zy_L h)))))))), (zy_L (zy_R (zy_R (zy_L (zy_R (zy_L (zy_R (zy_L (zy_L h)))))))))⟩
set_option maxRecDepth 100000 in
theorem zy_wALL : Cond.laysStatic "TallySlate$Word" "ALL" "[LTallySlate$Word;" ∈ lw_tbl := List.mem_of_getElem? (i := 663) (by rfl)
set_option maxRecDepth 100000 in
theorem zy_wFN : Cond.laysStatic "TallySlate$Word" "FN" "LTallySlate$Word;" ∈ lw_tbl := List.mem_of_getElem? (i := 778) (by rfl)
set_option maxRecDepth 100000 in
theorem zy_wELSE : Cond.laysStatic "TallySlate$Word" "ELSE" "LTallySlate$Word;" ∈ lw_tbl := List.mem_of_getElem? (i := 1001) (by rfl)
set_option maxRecDepth 100000 in
theorem zy_wIN : Cond.laysStatic "TallySlate$Word" "IN" "LTallySlate$Word;" ∈ lw_tbl := List.mem_of_getElem? (i := 1019) (by rfl)
set_option maxRecDepth 100000 in
theorem zy_wON : Cond.laysStatic "TallySlate$Word" "ON" "LTallySlate$Word;" ∈ lw_tbl := List.mem_of_getElem? (i := 1029) (by rfl)
set_option maxRecDepth 100000 in
theorem zy_wBOX : Cond.laysStatic "TallySlate$Word" "BOX" "LTallySlate$Word;" ∈ lw_tbl := List.mem_of_getElem? (i := 972) (by rfl)
set_option maxRecDepth 100000 in
theorem zy_wSUM : Cond.laysStatic "TallySlate$Word" "SUM" "LTallySlate$Word;" ∈ lw_tbl := List.mem_of_getElem? (i := 1321) (by rfl)
set_option maxRecDepth 100000 in
theorem zy_wMAX : Cond.laysStatic "TallySlate$Word" "MAX" "LTallySlate$Word;" ∈ lw_tbl := List.mem_of_getElem? (i := 1327) (by rfl)
set_option maxRecDepth 100000 in
theorem zy_wSORT : Cond.laysStatic "TallySlate$Word" "SORT" "LTallySlate$Word;" ∈ lw_tbl := List.mem_of_getElem? (i := 1337) (by rfl)
set_option maxRecDepth 100000 in
theorem zy_wEACH : Cond.laysStatic "TallySlate$Word" "EACH" "LTallySlate$Word;" ∈ lw_tbl := List.mem_of_getElem? (i := 958) (by rfl)
set_option maxRecDepth 100000 in
theorem zy_wFOLD : Cond.laysStatic "TallySlate$Word" "FOLD" "LTallySlate$Word;" ∈ lw_tbl := List.mem_of_getElem? (i := 960) (by rfl)
set_option maxRecDepth 100000 in
theorem zy_wMAP : Cond.laysStatic "TallySlate$1" "$SwitchMap$TallySlate$Word" "[I" ∈ lw_tbl := List.mem_of_getElem? (i := 985) (by rfl)
set_option maxRecDepth 100000 in
theorem zy_wCOMP : Cond.laysStatic "java/lang/String" "COMPACT_STRINGS" "Z" ∈ lw_tbl := List.mem_of_getElem? (i := 685) (by rfl)
set_option maxRecDepth 100000 in
theorem zy_wUN : Cond.laysStatic Bundle.tN "UNASSIGNED_STACK" Bundle.steD ∈ lw_tbl := List.mem_of_getElem? (i := 829) (by rfl)
set_option maxRecDepth 100000 in
theorem zy_wSU : Cond.laysStatic Bundle.tN "SUPPRESSED_SENTINEL" Bundle.listD ∈ lw_tbl := List.mem_of_getElem? (i := 831) (by rfl)
set_option maxRecDepth 100000 in
theorem zy_iW : Cond.initialized "TallySlate$Word" ∈ lw_tbl := List.mem_of_getElem? (i := 232) (by rfl)
set_option maxRecDepth 100000 in
theorem zy_i1 : Cond.initialized "TallySlate$1" ∈ lw_tbl := List.mem_of_getElem? (i := 242) (by rfl)
set_option maxRecDepth 100000 in
theorem zy_iS : Cond.initialized "java/lang/String" ∈ lw_tbl := List.mem_of_getElem? (i := 233) (by rfl)
set_option maxRecDepth 100000 in
theorem zy_iT : Cond.initialized Bundle.tN ∈ lw_tbl := List.mem_of_getElem? (i := 238) (by rfl)
set_option maxRecDepth 100000 in
theorem zy_r0 : Cond.stringRef "TallySlate$Tokens" 65 "{}()[];,=<>+-*/%&|!" ∈ lw_tbl := List.mem_of_getElem? (i := 671) (by rfl)
set_option maxRecDepth 100000 in
theorem zy_r1 : Cond.stringRef "TallySlate$Tokens" 73 "=!<>" ∈ lw_tbl := List.mem_of_getElem? (i := 756) (by rfl)
set_option maxRecDepth 100000 in
theorem zy_r2 : Cond.stringRef "TallySlate$Parser" 276 "a fault" ∈ lw_tbl := List.mem_of_getElem? (i := 841) (by rfl)
theorem zy_eqr {args : Array Value} {s : State} {t u : Term} {a : Nat} (h : (Cond.eq t u).before args s = true) (hu : u.eval args s none [] s = some (.ref a)) : t.eval args s none [] s = some (.ref a) := by
  cases hv : t.eval args s none [] s with
  | none => simp [Cond.before, Cond.holds, Cond.value, hv] at h
  | some w =>
    simp only [Cond.before, Cond.holds, Cond.value, hv, hu] at h
    cases w <;> simp_all
/-- an array outside, as it is read -/
theorem zy_rd {s : State} {B : Nat} {O : Nat → Nat} {j t n : Nat} {d : (Nat → Int32) ⊕ (Nat → Int64) ⊕ (Nat → UInt32) ⊕ (Nat → UInt64) ⊕ (Nat → Option Nat)} {f : Nat → Value} {A : Nat → Prop} (h : va_T (zz_ty t) (O j) n f A s s.heap) (hf : ∀ i, i < n → f i = zz_dv B O d i) : zz_Rd s B O s.heap (zz_out + j) (.inl (t, n, d)) := by
  obtain ⟨cell, h1, h2, h3, h4, h5, h6, h7⟩ := h
  exact ⟨cell, by rw [zz_a_x]; exact h1, h2, h3, ⟨h4, h5⟩, fun i hi => by rw [h6 i hi, hf i hi]⟩
theorem zy_code_inj : ∀ i, i < 41 → ∀ j, j < 41 → zy_code.getD i 0 = zy_code.getD j 0 → i = j := by decide +kernel
theorem zy_ofu {o n d : String} {v w : Value} {t : Nat} {A : Nat → Prop} {U : State} {H : Heap} (h : va_OF o n d v t A U H) (g : va_OF o n d w t A U H) : v = w := by
  obtain ⟨cf, k, i, f, cell, h1, h2, h3, h4, h5, h6⟩ := h
  obtain ⟨cf', k', i', f', cell', g1, g2, g3, g4, g5, g6⟩ := g
  rw [h1] at g1
  cases g1
  rw [h3] at g3
  cases g3
  rw [h5] at g5
  exact Option.some.inj g5
set_option maxHeartbeats 4000000 in
set_option maxRecDepth 100000 in
theorem zy_world {s : State} {b L : Nat} {xs : Nat → Int32} (hts : ∀ w ∈ lw_tbl, w.before #[Value.ref b] s = true) (h : narrow_1.before #[Value.ref b] s = true) (hX : va_X b L xs s s.heap) (hbl : b < s.heap.size) : ∃ O : Nat → Nat, O 0 = b ∧ zz_X s s.heap.size O (zt_X L xs) s.heap ∧ zz_Y s.heap.size O (zt_X L xs) s s.heap := by
  have hA : ∀ a : Nat, a < s.heap.size → ¬ (fun q => s.heap.size ≤ q) a := fun a ha q => absurd ha (Nat.not_lt.mpr q)
  have h0 : ∀ i : Nat, ∃ a : Nat, i < 41 → (Term.static "TallySlate$Word" (zy_nm.getD i "") "LTallySlate$Word;").eval #[Value.ref b] s none [] s = some (.ref a) := fun i => by
    by_cases hi : i < 41
    · obtain ⟨a, c, cell, k, q1, -⟩ := Cond.exactly_spec (zy_ex h i hi)
      exact ⟨a, fun _ => q1⟩
    · exact ⟨0, fun q => absurd q hi⟩
  obtain ⟨ad, had⟩ := Classical.axiomOfChoice h0
  obtain ⟨aA, eA, tA⟩ := va_Tof (ty := .object "TallySlate$Word") (N := 41) (f := fun j => .ref (ad j)) (A := fun q => s.heap.size ≤ q) (by decide) (zy_all h).1 (va_eqt (zy_all h).2) (fun j hj => zy_eqr (zy_el h j hj) (had j hj)) hA
  obtain ⟨aM, eM, tM⟩ := va_Tof (ty := .int) (N := 41) (f := fun j => .int (zy_map.getD j 0)) (A := fun q => s.heap.size ≤ q) (by decide) (zy_map1 h).1 (va_eqt (zy_map1 h).2) (fun j hj => va_eqt (zy_ml h j hj)) hA
  obtain ⟨k0, -, -, -, e0, -⟩ := Cond.exactly_spec (zy_s0 h).1
  obtain ⟨k1, -, -, -, e1, -⟩ := Cond.exactly_spec (zy_s1 h).1
  obtain ⟨k2, -, -, -, e2, -⟩ := Cond.exactly_spec (zy_s2 h).1
  obtain ⟨v0, f0, t0⟩ := va_Tof (ty := .byte) (N := 19) (f := fun j => .int ((zy_byt 0).getD j 0)) (A := fun q => s.heap.size ≤ q) (by decide) (zy_s0 h).2.2.1 (va_eqt (zy_s0 h).2.2.2) (fun j hj => va_eqt (zy_b0 h j hj)) hA
  obtain ⟨v1, f1, t1⟩ := va_Tof (ty := .byte) (N := 4) (f := fun j => .int ((zy_byt 1).getD j 0)) (A := fun q => s.heap.size ≤ q) (by decide) (zy_s1 h).2.2.1 (va_eqt (zy_s1 h).2.2.2) (fun j hj => va_eqt (zy_b1 h j hj)) hA
  obtain ⟨v2, f2, t2⟩ := va_Tof (ty := .byte) (N := 7) (f := fun j => .int ((zy_byt 2).getD j 0)) (A := fun q => s.heap.size ≤ q) (by decide) (zy_s2 h).2.2.1 (va_eqt (zy_s2 h).2.2.2) (fun j hj => va_eqt (zy_b2 h j hj)) hA
  have lt_T : ∀ {ty : FieldType} {t n : Nat} {f : Nat → Value}, va_T ty t n f (fun q => s.heap.size ≤ q) s s.heap → t < s.heap.size := fun hT => by
    obtain ⟨cell, q1, -⟩ := hT
    exact (Array.getElem?_eq_some_iff.mp q1).1
  have lt_O : ∀ {E : String} {t : Nat}, va_O E t (fun q => s.heap.size ≤ q) s s.heap → t < s.heap.size := fun hT => by
    obtain ⟨cell, q1, -⟩ := hT
    exact (Array.getElem?_eq_some_iff.mp q1).1
  have oE : ∀ i, i < 41 → va_O "TallySlate$Word" (ad i) (fun q => s.heap.size ≤ q) s s.heap := fun i hi => va_Oof (zy_ex h i hi) (had i hi) hA
  have o0 := va_Oof (A := fun q => s.heap.size ≤ q) (zy_s0 h).1 e0 hA
  have o1 := va_Oof (A := fun q => s.heap.size ≤ q) (zy_s1 h).1 e1 hA
  have o2 := va_Oof (A := fun q => s.heap.size ≤ q) (zy_s2 h).1 e2 hA
  have fC : ∀ i, i < 41 → va_OF "TallySlate$Word" "code" "J" (.long (zy_code.getD i 0)) (ad i) (fun q => s.heap.size ≤ q) s s.heap := fun i hi => vk_OFof (had i hi) (va_eqtl (zy_co h i hi)) hA
  refine ⟨fun j => if j = 0 then b else if j < 42 then ad (j - 1) else if j = 42 then aA else if j = 43 then aM else if j = 44 then k0 else if j = 45 then k1 else if j = 46 then k2 else if j = 47 then v0 else if j = 48 then v1 else if j = 49 then v2 else b, rfl, ?_, ?_⟩
  · intro j x hx
    unfold zt_X at hx
    by_cases c0 : j = 0
    · subst c0
      rw [if_pos rfl] at hx
      cases hx
      obtain ⟨scr, q1, q2, q3, q4, q5⟩ := hX
      exact ⟨⟨scr, by rw [zz_a_x]; exact q1, q2, q3, ⟨Nat.le_of_eq q4.symm, by rw [q4]⟩, q5⟩, hbl⟩
    · rw [if_neg c0] at hx
      by_cases c1 : j < 42
      · rw [if_pos c1] at hx
        cases hx
        refine ⟨trivial, ?_⟩
        show (if j = 0 then b else if j < 42 then ad (j - 1) else _) < _
        rw [if_neg c0, if_pos c1]
        exact lt_O (oE (j - 1) (by omega))
      · rw [if_neg c1] at hx
        by_cases c2 : j = 42
        · subst c2
          rw [if_pos rfl] at hx
          cases hx
          refine ⟨zy_rd (t := 6) tA (fun i hi => ?_), lt_T tA⟩
          show Value.ref (ad i) = va_rf ((some (zz_out + (i + 1))).map (zz_a _ _))
          show Value.ref (ad i) = .ref (zz_a _ _ (zz_out + (i + 1)))
          rw [zz_a_x]
          show Value.ref (ad i) = .ref (if i + 1 = 0 then b else if i + 1 < 42 then ad (i + 1 - 1) else _)
          rw [if_neg (by omega), if_pos (by omega), Nat.add_sub_cancel]
        · rw [if_neg c2] at hx
          by_cases c3 : j = 43
          · subst c3
            rw [if_pos rfl] at hx
            cases hx
            exact ⟨zy_rd (t := 0) tM (fun i hi => rfl), lt_T tM⟩
          · rw [if_neg c3] at hx
            by_cases c4 : j < 47
            · rw [if_pos c4] at hx
              cases hx
              have hv : j = 44 ∨ j = 45 ∨ j = 46 := by omega
              rcases hv with rfl | rfl | rfl
              · exact ⟨trivial, lt_O o0⟩
              · exact ⟨trivial, lt_O o1⟩
              · exact ⟨trivial, lt_O o2⟩
            · rw [if_neg c4] at hx
              by_cases c5 : j < 50
              · rw [if_pos c5] at hx
                cases hx
                have hv : j = 47 ∨ j = 48 ∨ j = 49 := by omega
                rcases hv with rfl | rfl | rfl
                · exact ⟨zy_rd (t := 2) t0 (fun i hi => rfl), lt_T t0⟩
                · exact ⟨zy_rd (t := 2) t1 (fun i hi => rfl), lt_T t1⟩
                · exact ⟨zy_rd (t := 2) t2 (fun i hi => rfl), lt_T t2⟩
              · rw [if_neg c5] at hx
                cases hx
  · refine ⟨?_, ?_, ?_, ?_, ?_, ?_⟩
    · intro j ci fs hx
      unfold zt_X at hx
      by_cases c0 : j = 0
      · rw [if_pos c0] at hx
        cases hx
      · rw [if_neg c0] at hx
        by_cases c1 : j < 42
        · rw [if_pos c1] at hx
          cases hx
          have eO : (if j = 0 then b else if j < 42 then ad (j - 1) else if j = 42 then aA else if j = 43 then aM else if j = 44 then k0 else if j = 45 then k1 else if j = 46 then k2 else if j = 47 then v0 else if j = 48 then v1 else if j = 49 then v2 else b) = ad (j - 1) := by rw [if_neg c0, if_pos c1]
          dsimp only
          rw [eO]
          refine ⟨oE (j - 1) (by omega), fun k v hv => ?_⟩
          have hj : j - 1 < 41 := by omega
          match k, hv with
          | 0, hv => cases hv; exact fC (j - 1) hj
          | 1, hv => cases hv; exact vk_OFof (had (j - 1) hj) (va_eqt (zy_le h (j - 1) hj)) hA
          | 2, hv => cases hv; exact vk_OFof (had (j - 1) hj) (va_eqt (zy_mo h (j - 1) hj)) hA
          | 3, hv => cases hv; exact vk_OFof (had (j - 1) hj) (va_eqt (zy_or h (j - 1) hj)) hA
          | k + 4, hv => cases hv
        · rw [if_neg c1] at hx
          by_cases c2 : j = 42
          · rw [if_pos c2] at hx
            cases hx
          · rw [if_neg c2] at hx
            by_cases c3 : j = 43
            · rw [if_pos c3] at hx
              cases hx
            · rw [if_neg c3] at hx
              by_cases c4 : j < 47
              · rw [if_pos c4] at hx
                have hv : j = 44 ∨ j = 45 ∨ j = 46 := by omega
                rcases hv with rfl | rfl | rfl
                · cases hx
                  refine ⟨o0, fun k v hv => ?_⟩
                  match k, hv with
                  | 0, hv => cases hv; exact vk_OFof e0 f0 hA
                  | 1, hv => cases hv; exact vk_OFof e0 (va_eqt (zy_s0 h).2.1) hA
                  | k + 2, hv => cases hv
                · cases hx
                  refine ⟨o1, fun k v hv => ?_⟩
                  match k, hv with
                  | 0, hv => cases hv; exact vk_OFof e1 f1 hA
                  | 1, hv => cases hv; exact vk_OFof e1 (va_eqt (zy_s1 h).2.1) hA
                  | k + 2, hv => cases hv
                · cases hx
                  refine ⟨o2, fun k v hv => ?_⟩
                  match k, hv with
                  | 0, hv => cases hv; exact vk_OFof e2 f2 hA
                  | 1, hv => cases hv; exact vk_OFof e2 (va_eqt (zy_s2 h).2.1) hA
                  | k + 2, hv => cases hv
              · rw [if_neg c4] at hx
                by_cases c5 : j < 50
                · rw [if_pos c5] at hx
                  cases hx
                · rw [if_neg c5] at hx
                  cases hx
    · intro q hq
      simp only [zx_S, List.mem_cons, List.mem_nil_iff, or_false] at hq
      rcases hq with rfl | rfl | rfl | rfl | rfl | rfl | rfl | rfl | rfl | rfl | rfl | rfl | rfl
      · exact va_Zref (hts _ zy_wMAP) (hts _ zy_i1) eM hA
      · exact va_Zref (hts _ zy_wALL) (hts _ zy_iW) eA hA
      · exact va_Zof (hts _ zy_wCOMP) (hts _ zy_iS) (va_eqt (zy_oth h).1) hA
      · exact va_Zref (hts _ zy_wFN) (hts _ zy_iW) (had 0 (by decide)) hA
      · exact va_Zref (hts _ zy_wELSE) (hts _ zy_iW) (had 2 (by decide)) hA
      · exact va_Zref (hts _ zy_wIN) (hts _ zy_iW) (had 5 (by decide)) hA
      · exact va_Zref (hts _ zy_wON) (hts _ zy_iW) (had 10 (by decide)) hA
      · exact va_Zref (hts _ zy_wBOX) (hts _ zy_iW) (had 16 (by decide)) hA
      · exact va_Zref (hts _ zy_wSUM) (hts _ zy_iW) (had 20 (by decide)) hA
      · exact va_Zref (hts _ zy_wMAX) (hts _ zy_iW) (had 21 (by decide)) hA
      · exact va_Zref (hts _ zy_wSORT) (hts _ zy_iW) (had 24 (by decide)) hA
      · exact va_Zref (hts _ zy_wEACH) (hts _ zy_iW) (had 39 (by decide)) hA
      · exact va_Zref (hts _ zy_wFOLD) (hts _ zy_iW) (had 40 (by decide)) hA
    · intro i j hi hi2 hj hj2 e
      have e : (if i = 0 then b else if i < 42 then ad (i - 1) else _) = (if j = 0 then b else if j < 42 then ad (j - 1) else _) := e
      rw [if_neg (by omega), if_pos (by omega), if_neg (by omega), if_pos (by omega)] at e
      have q1 := fC (i - 1) (by omega)
      have q2 := fC (j - 1) (by omega)
      rw [e] at q1
      have q3 := Value.long.inj (zy_ofu q1 q2)
      have := zy_code_inj (i - 1) (by omega) (j - 1) (by omega) q3
      omega
    · intro q hq
      simp only [zx_K, List.mem_cons, List.mem_nil_iff, or_false] at hq
      rcases hq with rfl | rfl | rfl
      · exact vk_R.of (A := #[Value.ref b]) (hts _ zy_r0) e0
      · exact vk_R.of (A := #[Value.ref b]) (hts _ zy_r1) e1
      · exact vk_R.of (A := #[Value.ref b]) (hts _ zy_r2) e2
    · exact vx_Zqof (hts _ zy_wUN) (hts _ zy_iT) (zy_oth h).2.1 hA
    · exact vx_Zqof (hts _ zy_wSU) (hts _ zy_iT) (zy_oth h).2.2 hA
