/-! ===== PURE: run (71): the built-ins of one value and of two (the class) ===== -/
section CB1
variable {N : Nat} {X : Nat → Option zz_C} {t : cS} {u w b : Nat} {vx vy : Int64} {x y : Nod}
/-- which number the class's switch has for built-in b -/
def swb (b : Nat) : Nat := if b = 3 then 25 else if b < 3 then 8 + b else if b = 4 then 11 else if b < 19 then 6 + b else 7 + b
/-- what is asked of the outside: the words' numbers -/
def oW (X : Nat → Option zz_C) : Prop := ∀ b, b < 28 → ¬ b = 5 → hcl X [] (wrdV b) 20 = true ∧ hgi X [] (wrdV b) 20 3 = some (Int32.ofNat (11 + b)) ∧ hai X [] (zz_out + 43) (Int32.ofNat (11 + b)) = some (Int32.ofNat (swb b))
theorem wrdV_o : ¬ wrdV b < zz_out := by unfold wrdV; omega
theorem suB_if {c : Bool} {p : Prop} [Decidable p] {r r' : Ans} (h : c = true ↔ p) : (if c = true then r else r') = if p then r else r' := by
  by_cases k : p
  · rw [if_pos k, if_pos (h.2 k)]
  · rw [if_neg k, if_neg (fun e => k (h.1 e))]
theorem c_blt1 (hN : 170000 ≤ N) (hW : oW X) (hh : cHp t u w) (hx : cN (cel t) u vx x) (wx : wfN x) (dx : x.1 ≤ 4) (h60 : (kA t 60).1 = 64) (hu : u ≤ 162000) (hw : w ≤ 1000) (hb : b ≤ 18) (h3 : ¬ b = 3 ∧ ¬ b = 5) : ∃ t' v, cf_88 N X (wrdV b) vx t = some (t', .inl (some (.long v))) ∧ cE t t' u v (if suB b 0 (kn x) (kn x) = true then ansB1 b x else .inl 3) := by
  obtain ⟨W1, W2, W3⟩ := hW b (by omega) h3.2
  have h1 : b = 0 ∨ b = 1 ∨ b = 2 ∨ b = 4 ∨ b = 6 ∨ b = 7 ∨ b = 8 ∨ b = 9 ∨ b = 10 ∨ b = 11 ∨ b = 12 ∨ b = 13 ∨ b = 14 ∨ b = 15 ∨ b = 16 ∨ b = 17 ∨ b = 18 := by omega
  have lx := kn_le (x := x)
  rcases h1 with rfl | rfl | rfl | rfl | rfl | rfl | rfl | rfl | rfl | rfl | rfl | rfl | rfl | rfl | rfl | rfl | rfl
  · obtain ⟨t1, v1, p1, q1⟩ := c_cnt (N := N) (X := X) (st := 0) (k := 1) (most := 64) hN hh hx (by omega) (by omega) hu hw
    have p1 : cf_90 N X vx 0 1 64 t = _ := p1
    refine ⟨t1, v1, ?_, ?_⟩
    · rw [c_one_8 wrdV_o W1 W2 W3]
      unfold cf_88_92 cf_88_101
      rw [p1]
      rfl
    · have e : suB 0 0 (kn x) (kn x) = true ↔ kn x = 0 := by simp [suB]
      rw [suB_if e]
      exact q1
  · obtain ⟨t1, v1, p1, q1⟩ := c_cnt (N := N) (X := X) (st := 1) (k := 1) (most := 64) hN hh hx (by omega) (by omega) hu hw
    have p1 : cf_90 N X vx 1 1 64 t = _ := p1
    refine ⟨t1, v1, ?_, ?_⟩
    · rw [c_one_9 wrdV_o W1 W2 W3]
      unfold cf_88_102 cf_88_111
      rw [p1]
      rfl
    · have e : suB 1 0 (kn x) (kn x) = true ↔ kn x = 0 := by simp [suB]
      rw [suB_if e]
      exact q1
  · obtain ⟨t1, v1, p1, q1⟩ := c_cnt (N := N) (X := X) (st := 0) (k := 3) (most := 20) hN hh hx (by omega) (by omega) hu hw
    have p1 : cf_90 N X vx 0 3 20 t = _ := p1
    refine ⟨t1, v1, ?_, ?_⟩
    · rw [c_one_10 wrdV_o W1 W2 W3]
      unfold cf_88_112 cf_88_121
      rw [p1]
      rfl
    · have e : suB 2 0 (kn x) (kn x) = true ↔ kn x = 0 := by simp [suB]
      rw [suB_if e]
      exact q1
  · obtain ⟨t1, v1, p1, q1⟩ := c_rws (N := N) (X := X) hN hh hx wx hu hw
    refine ⟨t1, v1, ?_, ?_⟩
    · rw [c_one_11 wrdV_o W1 W2 W3]
      unfold cf_88_122 cf_88_127
      rw [p1]
      rfl
    · have e : suB 4 0 (kn x) (kn x) = true ↔ kn x = 1 := by simp [suB]
      rw [suB_if e]
      exact q1
  · obtain ⟨t1, v1, p1, q1⟩ := c_sizW (N := N) (X := X) hh hx wx
    refine ⟨t1, v1, ?_, ?_⟩
    · rw [c_one_12 wrdV_o W1 W2 W3]
      exact p1
    · have e : suB 6 0 (kn x) (kn x) = true ↔ ¬ (kn x = 0) := by simp [suB]; omega
      rw [suB_if e, ite_not]
      exact q1
  · obtain ⟨t1, v1, p1, q1⟩ := c_wid (N := N) (X := X) hN hh hx wx hu hw
    refine ⟨t1, v1, ?_, ?_⟩
    · rw [c_one_13 wrdV_o W1 W2 W3]
      unfold cf_88_155 cf_88_160
      rw [p1]
      rfl
    · have e : suB 7 0 (kn x) (kn x) = true ↔ kn x = 2 := by simp [suB]
      rw [suB_if e]
      exact q1
  · obtain ⟨t1, v1, p1, q1⟩ := c_kndW (N := N) (X := X) hh hx
    refine ⟨t1, v1, ?_, ?_⟩
    · rw [c_one_14 wrdV_o W1 W2 W3]
      exact p1
    · exact q1
  · obtain ⟨t1, v1, p1, q1⟩ := c_dgs (N := N) (X := X) (b := 9) hN (by omega) hh hx wx dx hu hw
    refine ⟨t1, v1, ?_, ?_⟩
    · rw [c_one_15 wrdV_o W1 W2 W3]
      unfold cf_88_170 cf_88_176
      rw [p1]
      rfl
    · have e : suB 9 0 (kn x) (kn x) = true ↔ ¬ (kn x = 3 ∨ (kn x = 0 ∧ 9 > 9)) := by simp [suB]; omega
      rw [suB_if e, ite_not]
      exact q1
  · obtain ⟨t1, v1, p1, q1⟩ := c_dgs (N := N) (X := X) (b := 10) hN (by omega) hh hx wx dx hu hw
    refine ⟨t1, v1, ?_, ?_⟩
    · rw [c_one_16 wrdV_o W1 W2 W3]
      unfold cf_88_170 cf_88_176
      rw [p1]
      rfl
    · have e : suB 10 0 (kn x) (kn x) = true ↔ ¬ (kn x = 3 ∨ (kn x = 0 ∧ 10 > 9)) := by simp [suB]; omega
      rw [suB_if e, ite_not]
      exact q1
  · obtain ⟨t1, v1, p1, q1⟩ := c_dgs (N := N) (X := X) (b := 11) hN (by omega) hh hx wx dx hu hw
    refine ⟨t1, v1, ?_, ?_⟩
    · rw [c_one_17 wrdV_o W1 W2 W3]
      unfold cf_88_170 cf_88_176
      rw [p1]
      rfl
    · have e : suB 11 0 (kn x) (kn x) = true ↔ ¬ (kn x = 3 ∨ (kn x = 0 ∧ 11 > 9)) := by simp [suB]; omega
      rw [suB_if e, ite_not]
      exact q1
  · obtain ⟨t1, v1, p1, q1⟩ := c_chg (N := N) (X := X) (b := 12) hN (by omega) hh hx wx h60 hu hw
    refine ⟨t1, v1, ?_, ?_⟩
    · rw [c_one_18 wrdV_o W1 W2 W3]
      unfold cf_88_177 cf_88_183
      rw [p1]
      rfl
    · have e : suB 12 0 (kn x) (kn x) = true ↔ kn x = 1 ∨ kn x = 2 := by simp [suB]
      rw [suB_if e]
      exact q1
  · obtain ⟨t1, v1, p1, q1⟩ := c_chg (N := N) (X := X) (b := 13) hN (by omega) hh hx wx h60 hu hw
    refine ⟨t1, v1, ?_, ?_⟩
    · rw [c_one_19 wrdV_o W1 W2 W3]
      unfold cf_88_177 cf_88_183
      rw [p1]
      rfl
    · have e : suB 13 0 (kn x) (kn x) = true ↔ kn x = 1 ∨ kn x = 2 := by simp [suB]
      rw [suB_if e]
      exact q1
  · obtain ⟨t1, v1, p1, q1⟩ := c_grd (N := N) (X := X) hN hh hx wx h60 hu hw
    refine ⟨t1, v1, ?_, ?_⟩
    · rw [c_one_20 wrdV_o W1 W2 W3]
      unfold cf_88_184 cf_88_189
      rw [p1]
      rfl
    · have e : suB 14 0 (kn x) (kn x) = true ↔ kn x = 1 := by simp [suB]
      rw [suB_if e]
      exact q1
  · obtain ⟨t1, v1, p1, q1⟩ := c_bck (N := N) (X := X) hN hh hx wx dx hu hw
    refine ⟨t1, v1, ?_, ?_⟩
    · rw [c_one_21 wrdV_o W1 W2 W3]
      unfold cf_88_190 cf_88_195
      rw [p1]
      rfl
    · have e : suB 15 0 (kn x) (kn x) = true ↔ ¬ (kn x = 0) := by simp [suB]; omega
      rw [suB_if e, ite_not]
      exact q1
  · obtain ⟨t1, v1, p1, q1⟩ := c_flt (N := N) (X := X) hN hh hx wx dx hu hw
    refine ⟨t1, v1, ?_, ?_⟩
    · rw [c_one_22 wrdV_o W1 W2 W3]
      unfold cf_88_196 cf_88_201
      rw [p1]
      rfl
    · have e : suB 16 0 (kn x) (kn x) = true ↔ ¬ (kn x < 2) := by simp [suB]; omega
      rw [suB_if e, ite_not]
      exact q1
  · obtain ⟨t1, v1, p1, q1⟩ := c_trn (N := N) (X := X) hN hh hx wx hu hw
    refine ⟨t1, v1, ?_, ?_⟩
    · rw [c_one_23 wrdV_o W1 W2 W3]
      unfold cf_88_202 cf_88_207
      rw [p1]
      rfl
    · have e : suB 17 0 (kn x) (kn x) = true ↔ kn x = 2 := by simp [suB]
      rw [suB_if e]
      exact q1
  · obtain ⟨t1, v1, p1, q1⟩ := c_grp (N := N) (X := X) hN hh hx wx hu hw
    refine ⟨t1, v1, ?_, ?_⟩
    · rw [c_one_24 wrdV_o W1 W2 W3]
      unfold cf_88_208 cf_88_213
      rw [p1]
      rfl
    · have e : suB 18 0 (kn x) (kn x) = true ↔ kn x = 1 := by simp [suB]
      rw [suB_if e]
      exact q1
theorem jk_iff (lx : kn x ≤ 3) (ly : kn y ≤ 3) : (suB 19 0 (kn x) (kn x) && suB 19 1 (kn y) (kn x)) = true ↔ ¬ (jkN x y = 2 ∧ (kn x = 0 ∨ kn y = 0)) := by
  unfold jkN
  generalize kn x = p at *
  generalize kn y = q at *
  have h2 : p = 0 ∨ p = 1 ∨ p = 2 ∨ p = 3 := by omega
  have h3 : q = 0 ∨ q = 1 ∨ q = 2 ∨ q = 3 := by omega
  clear lx ly
  rcases h2 with rfl | rfl | rfl | rfl <;> rcases h3 with rfl | rfl | rfl | rfl <;> decide
theorem c_blt2 (hN : 170000 ≤ N) (hW : oW X) (hh : cHp t u w) (hx : cN (cel t) u vx x) (hy : cN (cel t) u vy y) (wx : wfN x) (dx : x.1 ≤ 4) (wy : wfN y) (dy : y.1 ≤ 4) (hu : u ≤ 162000) (hw : w ≤ 1000) (hb : b = 3 ∨ 19 ≤ b ∧ b < 28) : ∃ t' v, cf_89 N X (wrdV b) vx vy t = some (t', .inl (some (.long v))) ∧ cE t t' u v (if (suB b 0 (kn x) (kn x) && suB b 1 (kn y) (kn x)) = true then ansB2 b x y else .inl 3) := by
  obtain ⟨W1, W2, W3⟩ := hW b (by omega) (by omega)
  have h1 : b = 3 ∨ b = 19 ∨ b = 20 ∨ b = 21 ∨ b = 22 ∨ b = 23 ∨ b = 24 ∨ b = 25 ∨ b = 26 ∨ b = 27 := by omega
  have lx := kn_le (x := x)
  have ly := kn_le (x := y)
  rcases h1 with rfl | rfl | rfl | rfl | rfl | rfl | rfl | rfl | rfl | rfl
  · obtain ⟨t1, v1, p1, q1⟩ := c_grid (N := N) (X := X) hN hh hx hy hu hw
    refine ⟨t1, v1, ?_, ?_⟩
    · rw [c_two_25 wrdV_o W1 W2 W3]
      unfold cf_89_64 cf_89_71
      rw [p1]
      rfl
    · have e : (suB 3 0 (kn x) (kn x) && suB 3 1 (kn y) (kn x)) = true ↔ kn x = 0 ∧ kn y = 0 := by simp [suB]
      rw [suB_if e]
      exact q1
  · obtain ⟨t1, v1, p1, q1⟩ := c_join (N := N) (X := X) hN hh hx hy wx wy dx dy hu hw
    refine ⟨t1, v1, ?_, ?_⟩
    · rw [c_two_26 wrdV_o W1 W2 W3]
      unfold cf_89_72 cf_89_79
      rw [p1]
      rfl
    · have e : (suB 19 0 (kn x) (kn x) && suB 19 1 (kn y) (kn x)) = true ↔ ¬ (jkN x y = 2 ∧ (kn x = 0 ∨ kn y = 0)) := jk_iff lx ly
      rw [suB_if e, ite_not]
      exact q1
  · obtain ⟨t1, v1, p1, q1⟩ := c_tke (N := N) (X := X) hN hh hx hy wy dy hu hw
    refine ⟨t1, v1, ?_, ?_⟩
    · rw [c_two_27 wrdV_o W1 W2 W3]
      unfold cf_89_80 cf_89_87
      rw [p1]
      rfl
    · have e : (suB 20 0 (kn x) (kn x) && suB 20 1 (kn y) (kn x)) = true ↔ kn x = 0 ∧ ¬ kn y = 0 := by simp [suB]; omega
      rw [suB_if e]
      exact q1
  · obtain ⟨t1, v1, p1, q1⟩ := c_drp (N := N) (X := X) hN hh hx hy wy dy hu hw
    refine ⟨t1, v1, ?_, ?_⟩
    · rw [c_two_28 wrdV_o W1 W2 W3]
      unfold cf_89_88 cf_89_95
      rw [p1]
      rfl
    · have e : (suB 21 0 (kn x) (kn x) && suB 21 1 (kn y) (kn x)) = true ↔ kn x = 0 ∧ ¬ kn y = 0 := by simp [suB]; omega
      rw [suB_if e]
      exact q1
  · obtain ⟨t1, v1, p1, q1⟩ := c_cut (N := N) (X := X) hN hh hx hy wx wy hu hw
    refine ⟨t1, v1, ?_, ?_⟩
    · rw [c_two_29 wrdV_o W1 W2 W3]
      unfold cf_89_96 cf_89_103
      rw [p1]
      rfl
    · have e : (suB 22 0 (kn x) (kn x) && suB 22 1 (kn y) (kn x)) = true ↔ kn x = 1 ∧ kn y = 1 := by simp [suB]
      rw [suB_if e]
      exact q1
  · obtain ⟨t1, v1, p1, q1⟩ := c_pick (N := N) (X := X) hN hh hx hy wx wy dx hu hw
    refine ⟨t1, v1, ?_, ?_⟩
    · rw [c_two_30 wrdV_o W1 W2 W3]
      unfold cf_89_104 cf_89_111
      rw [p1]
      rfl
    · have e : (suB 23 0 (kn x) (kn x) && suB 23 1 (kn y) (kn x)) = true ↔ ¬ (kn x = 0 ∨ ¬ kn y = 1) := by simp [suB]; omega
      rw [suB_if e, ite_not]
      exact q1
  · obtain ⟨t1, v1, p1, q1⟩ := c_find (N := N) (X := X) hN hh hx hy wx wy hu hw
    refine ⟨t1, v1, ?_, ?_⟩
    · rw [c_two_31 wrdV_o W1 W2 W3]
      unfold cf_89_112 cf_89_119
      rw [p1]
      rfl
    · have e : (suB 24 0 (kn x) (kn x) && suB 24 1 (kn y) (kn x)) = true ↔ ¬ (¬ kn x = 1 ∨ 1 < kn y) := by simp [suB]; omega
      rw [suB_if e, ite_not]
      exact q1
  · obtain ⟨t1, v1, p1, q1⟩ := c_pad (N := N) (X := X) hN hh hx hy wx hu hw
    refine ⟨t1, v1, ?_, ?_⟩
    · rw [c_two_32 wrdV_o W1 W2 W3]
      unfold cf_89_120 cf_89_127
      rw [p1]
      rfl
    · have e : (suB 25 0 (kn x) (kn x) && suB 25 1 (kn y) (kn x)) = true ↔ kn x = 2 ∧ kn y = 0 := by simp [suB]
      rw [suB_if e]
      exact q1
  · obtain ⟨t1, v1, p1, q1⟩ := c_out (N := N) (X := X) hN hh hx hy wx wy hu hw
    refine ⟨t1, v1, ?_, ?_⟩
    · rw [c_two_33 wrdV_o W1 W2 W3]
      unfold cf_89_128 cf_89_135
      rw [p1]
      rfl
    · have e : (suB 26 0 (kn x) (kn x) && suB 26 1 (kn y) (kn x)) = true ↔ kn x = 1 ∧ kn y = 1 := by simp [suB]
      rw [suB_if e]
      exact q1
  · obtain ⟨t1, v1, p1, q1⟩ := c_samW (N := N) (X := X) hN hh hx hy wx wy dx dy
    refine ⟨t1, v1, ?_, ?_⟩
    · rw [c_two_34 wrdV_o W1 W2 W3]
      exact p1
    · exact q1
end CB1
