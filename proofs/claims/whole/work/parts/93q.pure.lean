/-! ===== PURE: statements (16): every statement is read alike ===== -/
section DIS
variable {N : Nat} {X : Nat → Option zz_C} {t t' t1 t2 : cS} {s s' s1 s2 : mS} {b : Nat → Nat} {n p e i i' op op' D D' : Nat} {code code1 code2 l : List Ins} {vs vs' : List (List Nat)} {cl : List Cn} {W : List Wt} {cu cu' : List Nat} {fs fs' : Nat × Nat × Nat} {Bs : List (Int32 × Int32 × Int32)} {a m z : Nat} {c c' : Ins}
/-- the class's way to its statement -/
theorem c_disp {w : Nat} {rk : Nat → List Value → cS → kO} {x1 : Int32} (hX : oX N X) (hY : oY X) (hZ : oZ X) (h : pR b n i op t s) (hk : ∀ hi : i < (TL b n).length, (TL b n)[i].1 = 3 ∧ wix (TL b n)[i].2.2.1 = some w) : cf_177_84 N X rk x1 t = (if swn w = 1 then cf_177_140 N X rk x1 t else if swn w = 2 then cf_177_148 N X rk x1 t else if swn w = 3 then cf_177_156 N X rk x1 t else if swn w = 4 then cf_177_164 N X rk x1 t else if swn w = 5 then cf_177_174 N X rk x1 t else if swn w = 6 then cf_177_184 N X rk x1 t else if swn w = 7 then cf_177_194 N X rk t else cf_177_201 N X rk (zz_out + (w + 1)) t) := by
  obtain ⟨w1, w2, w3, w4⟩ := c_word (N := N) (X := X) hX h hk
  obtain ⟨z1, z2⟩ := hZ w w4
  obtain ⟨y1, y2, y3⟩ := hY w w4
  have hor : cf_356 N X (zz_out + (w + 1)) t = some (t, .inl (some (.int (Int32.ofNat w)))) := by
    unfold cf_356 cf_356_0
    rw [z1]
    rfl
  have o1 : (zz_out + (w + 1) < zz_out) = False := eq_false (by omega)
  have e1 : cf_177_84 N X rk x1 t = cf_177_96 N X rk x1 (zz_out + (w + 1)) (Int32.ofNat w) t := by
    unfold cf_177_84 cf_177_88
    simp (disch := omega) only [ev_S, ev_C, ↓reduceIte, Nat.reduceEqDiff, Nat.reduceLeDiff, Nat.reduceAdd, Nat.reduceMul, Nat.reduceSub, reduceCtorEq, l32_0, l32_1, l32_2, l32_3, l32_4, l32_5, l32_6, l32_7, l32_8, l32_9, l32_10, l32_11, l32_12, l32_13, l32_14, l32_15, l32_16, l32_17, l32_18, l32_19, l32_20, l32_21, l32_22, l32_23, l32_24, l32_25, l32_26, l32_27, l32_28, l32_29, l32_33, l32_40, l32_41, l32_44, l32_45, l32_59, l32_61, l32_91, l32_93, l32_123, l32_125, w1, o1, y1, hor]
  rw [e1]
  unfold cf_177_96
  rw [z2, ev_b32]
  obtain ⟨sm1, sm2, sm3⟩ := swm_n w w4
  by_cases big : 8 ≤ swm w
  · rw [sm3 big, if_pos (Or.inr (by rw [i32t (by omega)]; omega)), if_neg (by decide), if_neg (by decide), if_neg (by decide), if_neg (by decide), if_neg (by decide), if_neg (by decide), if_neg (by decide)]
  have sm4 := sm2 (by omega)
  rw [sm4]
  have hs : swm w ≤ 7 := by omega
  generalize swm w = q at *
  have hv : q = 0 ∨ q = 1 ∨ q = 2 ∨ q = 3 ∨ q = 4 ∨ q = 5 ∨ q = 6 ∨ q = 7 := by omega
  rcases hv with z | z | z | z | z | z | z | z <;> subst z
  · rw [if_pos (by decide), if_neg (by decide), if_neg (by decide), if_neg (by decide), if_neg (by decide), if_neg (by decide), if_neg (by decide), if_neg (by decide)]
  · rw [if_neg (by decide), if_pos (by decide), if_pos (by decide)]
  · rw [if_neg (by decide), if_neg (by decide), if_pos (by decide), if_neg (by decide), if_pos (by decide)]
  · rw [if_neg (by decide), if_neg (by decide), if_neg (by decide), if_pos (by decide), if_neg (by decide), if_neg (by decide), if_pos (by decide)]
  · rw [if_neg (by decide), if_neg (by decide), if_neg (by decide), if_neg (by decide), if_pos (by decide), if_neg (by decide), if_neg (by decide), if_neg (by decide), if_pos (by decide)]
  · rw [if_neg (by decide), if_neg (by decide), if_neg (by decide), if_neg (by decide), if_neg (by decide), if_pos (by decide), if_neg (by decide), if_neg (by decide), if_neg (by decide), if_neg (by decide), if_pos (by decide)]
  · rw [if_neg (by decide), if_neg (by decide), if_neg (by decide), if_neg (by decide), if_neg (by decide), if_neg (by decide), if_pos (by decide), if_neg (by decide), if_neg (by decide), if_neg (by decide), if_neg (by decide), if_neg (by decide), if_pos (by decide)]
  · rw [if_neg (by decide), if_neg (by decide), if_neg (by decide), if_neg (by decide), if_neg (by decide), if_neg (by decide), if_neg (by decide), if_pos (by decide), if_neg (by decide), if_neg (by decide), if_neg (by decide), if_neg (by decide), if_neg (by decide), if_neg (by decide), if_pos (by decide)]
/-- a word that is no built-in, in the class -/
theorem c_nob {w : Nat} {rk : Nat → List Value → cS → kO} (hY : oY X) (hw : w < 11) (h : cf_202 N X 0 2 t = some (t', .inr ())) : cf_192 N X rk (zz_out + (w + 1)) t = some (t', .inr ()) := by
  obtain ⟨y1, y2, y3⟩ := hY w (by omega)
  have hz : whi w = 0 := if_pos hw
  rw [hz] at y3
  have hiB : cf_249 N X (zz_out + (w + 1)) t = some (t, .inl (some (.int (Int32.ofNat 0)))) := by
    unfold cf_249 cf_249_0 cf_249_11 cf_249_12
    simp (disch := omega) only [ev_S, ev_C, ↓reduceIte, Nat.reduceEqDiff, Nat.reduceLeDiff, Nat.reduceAdd, Nat.reduceMul, Nat.reduceSub, reduceCtorEq, l32_0, l32_1, l32_2, l32_3, l32_4, l32_5, l32_6, l32_7, l32_8, l32_9, l32_10, l32_11, l32_12, l32_13, l32_14, l32_15, l32_16, l32_17, l32_18, l32_19, l32_20, l32_21, l32_22, l32_23, l32_24, l32_25, l32_26, l32_27, l32_28, l32_29, l32_33, l32_40, l32_41, l32_44, l32_45, l32_59, l32_61, l32_91, l32_93, l32_123, l32_125, y3, ev_b32]
  have o1 : (zz_out + (w + 1) < zz_out) = False := eq_false (by omega)
  have a1 : cf_202 N X (Int32.ofNat 0) (Int32.ofNat 2) t = some (t', .inr ()) := h
  unfold cf_192 cf_192_0 cf_192_5
  simp (disch := omega) only [ev_S, ev_C, ↓reduceIte, Nat.reduceEqDiff, Nat.reduceLeDiff, Nat.reduceAdd, Nat.reduceMul, Nat.reduceSub, reduceCtorEq, l32_0, l32_1, l32_2, l32_3, l32_4, l32_5, l32_6, l32_7, l32_8, l32_9, l32_10, l32_11, l32_12, l32_13, l32_14, l32_15, l32_16, l32_17, l32_18, l32_19, l32_20, l32_21, l32_22, l32_23, l32_24, l32_25, l32_26, l32_27, l32_28, l32_29, l32_33, l32_40, l32_41, l32_44, l32_45, l32_59, l32_61, l32_91, l32_93, l32_123, l32_125, o1, y1, hiB, a1]
  rfl
end DIS
