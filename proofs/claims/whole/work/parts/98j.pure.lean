/-! ===== PURE: run (87): a variable is set (the class) ===== -/
/-- a variable is set -/
def stV (r : Nat) (x : Nod) (vs : List (Option Nod)) : List (Option Nod) := if r < 8 then vs else vs.set (r - 8) (some x)
def stS (r : Nat) (x : Nod) (sh : Nat → Option Nod) : Nat → Option Nod := fun i => if i = r then some x else sh i
section STV
variable {N : Nat} {X : Nat → Option zz_C} {t0 t t' t2 : cS} {u w p fu m m' d d' r n : Nat} {code : List Ins} {Fs : List Fn} {T : Ty} {out : List Int32} {F : List Fm} {sh S0 : Nat → Option Nod} {vs : List (Option Nod)} {I : List It} {v : Int64} {x : Nod}
theorem rev_set {α : Type} {l : List α} {i : Nat} {y : α} (hi : i < l.length) : (l.set i y).reverse = l.reverse.set (l.length - 1 - i) y := by
  refine List.ext_getElem (by simp) (fun j h1 h2 => ?_)
  have hj : j < l.length := by simpa using h1
  rw [List.getElem_reverse, List.getElem_set, List.getElem_set, List.getElem_reverse]
  simp only [List.length_set]
  by_cases c : i = l.length - 1 - j
  · rw [if_pos c, if_pos (by omega)]
  · rw [if_neg c, if_neg (by omega)]
theorem cStk_set {i : Nat} (hi : i < vs.length) : (cStk ((m, d, vs, I) :: F)).set ((cIt I).length + (vs.length - 1 - i)) (some x) = cStk ((m', d', vs.set i (some x), I) :: F) := by
  show (cIt I ++ (vs.reverse ++ cStk F)).set _ _ = cIt I ++ ((vs.set i (some x)).reverse ++ cStk F)
  rw [List.set_append_right _ _ (by omega), Nat.add_sub_cancel_left, List.set_append_left _ _ (by rw [List.length_reverse]; omega), rev_set hi]
theorem c_isSh {i : Nat} (hi : i < 8) : cf_21 N X (Int32.ofNat i) t = some (t, .inl (some (.int (Int32.ofNat 1)))) := by
  have h1 : ¬ i < 0 := by omega
  repeat ((first | unfold cf_21 | unfold cf_21_0 | unfold cf_21_4 | unfold cf_21_10 | unfold cf_21_14 | unfold cf_21_15); try simp (disch := omega) only [ev_S, ev_C, ↓reduceIte, Nat.reduceEqDiff, Nat.reduceLeDiff, Nat.reduceAdd, Nat.reduceMul, Nat.reduceSub, reduceCtorEq, l32_0, l32_1, l32_2, l32_3, l32_4, l32_8, hi])
theorem c_noSh {z : Int32} (hz : z < 0) : cf_21 N X z t = some (t, .inl (some (.int (Int32.ofNat 0)))) := by
  have hz : (z < Int32.ofNat 0) = True := eq_true hz
  unfold cf_21 cf_21_0
  simp (disch := omega) only [ev_S, ev_C, ↓reduceIte, Nat.reduceEqDiff, Nat.reduceLeDiff, Nat.reduceAdd, Nat.reduceMul, Nat.reduceSub, reduceCtorEq, l32_0, l32_1, l32_2, l32_3, l32_4, l32_5, l32_6, l32_7, l32_8, l32_9, l32_10, l32_11, l32_12, l32_13, l32_14, l32_15, l32_16, l32_17, l32_18, l32_19, l32_20, l32_21, l32_22, l32_23, l32_24, l32_25, l32_26, l32_27, l32_28, l32_29, l32_33, l32_40, l32_41, l32_44, l32_45, l32_59, l32_61, l32_91, l32_93, l32_123, l32_125, hz]
  rfl
theorem CX.store (h : CX t0 t p code Fs fu S0 u w ((m, d, vs, (0, [x], n) :: I) :: F) sh T out) (hl : (cStk ((m, d, vs, (0, [x], n) :: I) :: F)).length ≤ 20000) (hF : F.length ≤ 9) (hr : r < 8 + vs.length) (hv : vs.length ≤ 14) : ∃ t', cf_148 N X (cv r) t = some (t', .inl none) ∧ CX t0 t' p code Fs fu S0 u w ((m', d', stV r x vs, I) :: F) (if r < 8 then stS r x sh else sh) T out ∧ kI t' 49 17 = kI t 49 17 ∧ cel t' = cel t := by
  obtain ⟨t1, v, a1, a2, a3, a4, a5⟩ := CX.pop (N := N) (X := X) (m' := m) (d' := d) (o := some x) h hl (by show ¬ (0 : Nat) = 3; decide) rfl
  have hcalls := a3.2.1.2.2.2.2.2.2.1
  have hcalls : kI t1 49 11 = Int32.ofNat (F.length + 1) := hcalls
  have hb : (kA t1 53).2 F.length = Int32.ofNat (cStk F).length := a3.2.1.2.1.1
  have hl10 := a3.2.1.2.2.2.1
  have hlen : (cStk ((m, d, vs, I) :: F)).length = (cIt I).length + (vs.length + (cStk F).length) := by
    show (cIt I ++ (vs.reverse ++ cStk F)).length = _
    rw [List.length_append, List.length_append, List.length_reverse]
  have hlen2 : (cStk ((m, d, vs, (0, [x], n) :: I) :: F)).length = (cStk ((m, d, vs, I) :: F)).length + 1 := by
    rw [cStk_cons (m' := m) (d' := d), List.length_append]
    show 1 + _ = _
    omega
  have hsb : Int32.ofNat (F.length + 1) - Int32.ofNat 1 = Int32.ofNat F.length := by rw [← Int32.ofNat_sub _ _ (by omega)]; rfl
  have eAt : ∀ z : Int32, cf_149 N X z t1 = some (t1, .inl (some (.int (Int32.ofNat (cStk F).length + z)))) := fun z => by
    have h53 : (kA t1 53).1 = 10 := hl10.1
    have n1 : ¬ F.length + 1 ≤ 0 := by omega
    unfold cf_149 cf_149_0 cf_149_7 cf_149_24
    simp (disch := omega) only [ev_S, ev_C, ↓reduceIte, Nat.reduceEqDiff, Nat.reduceLeDiff, Nat.reduceAdd, Nat.reduceMul, Nat.reduceSub, reduceCtorEq, l32_0, l32_1, l32_2, l32_3, l32_4, l32_5, l32_6, l32_7, l32_8, l32_9, l32_10, l32_11, l32_12, l32_13, l32_14, l32_15, l32_16, l32_17, l32_18, l32_19, l32_20, l32_21, l32_22, l32_23, l32_24, l32_25, l32_26, l32_27, l32_28, l32_29, l32_33, l32_40, l32_41, l32_44, l32_45, l32_59, l32_61, l32_91, l32_93, l32_123, l32_125, hcalls, n1, hsb, h53, hb]
  by_cases c : r < 8
  · have ecv : cv r = -Int32.ofNat (r + 1) := if_pos c
    have esb : (-1 : Int32) - (-Int32.ofNat (r + 1)) = Int32.ofNat r := by
      have hv : r = 0 ∨ r = 1 ∨ r = 2 ∨ r = 3 ∨ r = 4 ∨ r = 5 ∨ r = 6 ∨ r = 7 := by omega
      rcases hv with rfl | rfl | rfl | rfl | rfl | rfl | rfl | rfl <;> decide
    have eS := c_isSh (N := N) (X := X) (t := t1) c
    have h50 : (kB t1 50).1 = 8 := hl10.2.2.1
    have h51 : (kA t1 51).1 = 8 := hl10.2.2.2.1
    have E : cf_148 N X (cv r) t = some (jA (jB t1 50 (vp_updL (kB t1 50).2 r v)) 51 (upd (kA t1 51).2 r 1), .inl none) := by
      rw [ecv]
      have eAt' := eAt (-Int32.ofNat (r + 1))
      generalize Int32.ofNat (cStk F).length + -Int32.ofNat (r + 1) = zz at *
      have E1 : cf_148 N X (-Int32.ofNat (r + 1)) t = cf_148_25 N X v (Int32.ofNat r) t1 := by
        unfold cf_148 cf_148_0 cf_148_4 cf_148_15 cf_148_22
        rw [esb]
        simp (disch := omega) only [ev_S, ev_C, ↓reduceIte, Nat.reduceEqDiff, Nat.reduceLeDiff, Nat.reduceAdd, Nat.reduceMul, Nat.reduceSub, reduceCtorEq, l32_0, l32_1, l32_2, l32_3, l32_4, l32_5, l32_6, l32_7, l32_8, l32_9, l32_10, l32_11, l32_12, l32_13, l32_14, l32_15, l32_16, l32_17, l32_18, l32_19, l32_20, l32_21, l32_22, l32_23, l32_24, l32_25, l32_26, l32_27, l32_28, l32_29, l32_33, l32_40, l32_41, l32_44, l32_45, l32_59, l32_61, l32_91, l32_93, l32_123, l32_125, a1, eAt', eS]
      rw [E1]
      unfold cf_148_25 cf_148_66
      simp (disch := omega) only [ev_S, ev_C, ↓reduceIte, Nat.reduceEqDiff, Nat.reduceLeDiff, Nat.reduceAdd, Nat.reduceMul, Nat.reduceSub, reduceCtorEq, l32_0, l32_1, l32_2, l32_3, l32_4, l32_5, l32_6, l32_7, l32_8, l32_9, l32_10, l32_11, l32_12, l32_13, l32_14, l32_15, l32_16, l32_17, l32_18, l32_19, l32_20, l32_21, l32_22, l32_23, l32_24, l32_25, l32_26, l32_27, l32_28, l32_29, l32_33, l32_40, l32_41, l32_44, l32_45, l32_59, l32_61, l32_91, l32_93, l32_123, l32_125, h50, h51, c]
      rfl
    refine ⟨_, E, ?_, a4, ?_⟩
    · rw [if_pos c]
      unfold stV
      rw [if_pos c]
      obtain ⟨b1, b2, b3, b4⟩ := a3
      have g : gf (fun _ _ => False) (fun k => k = 50 ∨ k = 51) t1 (jA (jB t1 50 (vp_updL (kB t1 50).2 r v)) 51 (upd (kA t1 51).2 r 1)) := ⟨fun _ _ _ => rfl, rfl, rfl, fun k k1 k2 => ⟨if_neg (fun q => k1 (Or.inr q)), if_neg (fun q => k1 (Or.inl q)), rfl⟩, rfl, rfl, Nat.le_refl _, Nat.le_refl _, Nat.le_refl _⟩
      refine ⟨b1.keep g (fun _ _ q => q.elim) (fun k q => by omega), ?_, g.hp b3 (fun q => q) (fun q => q) (by decide) (by decide) (by decide), b4⟩
      obtain ⟨c1, c2, c3, c4, c5, c6, c7, c8⟩ := b2
      refine ⟨c1, cFr.keep (t := t1) (t' := jA (jB t1 50 (vp_updL (kB t1 50).2 r v)) 51 (upd (kA t1 51).2 r 1)) rfl rfl c2, c3, c4, c5, fun i hi => ?_, c7, c8⟩
      show cC (cel t1) u (if i = r then v else (kB t1 50).2 i) (if i = r then some x else sh i) ∧ ((if i = r then (1 : Int32) else (kA t1 51).2 i) = 0 ∨ (if i = r then (1 : Int32) else (kA t1 51).2 i) = 1) ∧ ((if i = r then (1 : Int32) else (kA t1 51).2 i) = 0 → (if i = r then some x else sh i) = S0 i)
      by_cases e : i = r
      · rw [if_pos e, if_pos e, if_pos e]
        rw [← a5] at a2
        exact ⟨a2, Or.inr rfl, fun q => absurd q (by decide)⟩
      · rw [if_neg e, if_neg e, if_neg e]
        exact c6 i hi
    · exact a5
  · have ecv : cv r = Int32.ofNat (r - 8) := if_neg c
    have hi : r - 8 < vs.length := by omega
    have esb : (-Int32.ofNat 1 - Int32.ofNat (r - 8)) < 0 := by
      have hv : r - 8 < 14 := by omega
      generalize r - 8 = q at *
      have hv : q = 0 ∨ q = 1 ∨ q = 2 ∨ q = 3 ∨ q = 4 ∨ q = 5 ∨ q = 6 ∨ q = 7 ∨ q = 8 ∨ q = 9 ∨ q = 10 ∨ q = 11 ∨ q = 12 ∨ q = 13 := by omega
      rcases hv with rfl | rfl | rfl | rfl | rfl | rfl | rfl | rfl | rfl | rfl | rfl | rfl | rfl | rfl <;> decide
    have eS := c_noSh (N := N) (X := X) (t := t1) esb
    have h8 := a3.2.2.2
    obtain ⟨s1, s2, s3, s4⟩ := a3.2.1.1
    have E : cf_148 N X (cv r) t = some (jB t1 52 (vp_updL (kB t1 52).2 ((cStk F).length + (r - 8)) v), .inl none) := by
      rw [ecv]
      have eAt' := eAt (Int32.ofNat (r - 8))
      rw [hlen] at h8
      have hq : (cStk F).length + (r - 8) < (kB t1 52).1 := by omega
      have hq2 : ¬ (cIt I).length + (vs.length + (cStk F).length) ≤ (cStk F).length + (r - 8) := by omega
      have hq3 : (cStk F).length < 20000 := by omega
      have hq4 : (cIt I).length + (vs.length + (cStk F).length) < 20000 := by omega
      rw [show Int32.ofNat (cStk F).length + Int32.ofNat (r - 8) = Int32.ofNat ((cStk F).length + (r - 8)) from (Int32.ofNat_add _ _).symm] at eAt'
      generalize (cStk F).length + (r - 8) = q at *
      generalize (cIt I).length + (vs.length + (cStk F).length) = q' at *
      have E1 : cf_148 N X (Int32.ofNat (r - 8)) t = cf_148_44 N X v (Int32.ofNat q) t1 := by
        generalize r - 8 = q2 at *
        unfold cf_148 cf_148_0 cf_148_4 cf_148_15 cf_148_22
        simp (disch := omega) only [ev_S, ev_C, ↓reduceIte, Nat.reduceEqDiff, Nat.reduceLeDiff, Nat.reduceAdd, Nat.reduceMul, Nat.reduceSub, reduceCtorEq, l32_0, l32_1, l32_2, l32_3, l32_4, l32_5, l32_6, l32_7, l32_8, l32_9, l32_10, l32_11, l32_12, l32_13, l32_14, l32_15, l32_16, l32_17, l32_18, l32_19, l32_20, l32_21, l32_22, l32_23, l32_24, l32_25, l32_26, l32_27, l32_28, l32_29, l32_33, l32_40, l32_41, l32_44, l32_45, l32_59, l32_61, l32_91, l32_93, l32_123, l32_125, a1, eAt', eS]
      rw [E1]
      unfold cf_148_44 cf_148_49 cf_148_58 cf_148_66
      simp (disch := omega) only [ev_S, ev_C, ↓reduceIte, Nat.reduceEqDiff, Nat.reduceLeDiff, Nat.reduceAdd, Nat.reduceMul, Nat.reduceSub, reduceCtorEq, l32_0, l32_1, l32_2, l32_3, l32_4, l32_5, l32_6, l32_7, l32_8, l32_9, l32_10, l32_11, l32_12, l32_13, l32_14, l32_15, l32_16, l32_17, l32_18, l32_19, l32_20, l32_21, l32_22, l32_23, l32_24, l32_25, l32_26, l32_27, l32_28, l32_29, l32_33, l32_40, l32_41, l32_44, l32_45, l32_59, l32_61, l32_91, l32_93, l32_123, l32_125, h8, hq2]
    refine ⟨_, E, ?_, a4, a5⟩
    rw [if_neg c]
    unfold stV
    rw [if_neg c]
    obtain ⟨b1, b2, b3, b4⟩ := a3
    have g : gf (fun _ _ => False) (fun k => k = 52) t1 (jB t1 52 (vp_updL (kB t1 52).2 ((cStk F).length + (r - 8)) v)) := ⟨fun _ _ _ => rfl, rfl, rfl, fun k k1 k2 => ⟨rfl, if_neg k1, rfl⟩, rfl, rfl, Nat.le_refl _, Nat.le_refl _, Nat.le_refl _⟩
    have hcl : (cStk ((m', d', vs.set (r - 8) (some x), I) :: F)).length = (cStk ((m, d, vs, I) :: F)).length := by rw [← cStk_set (m := m) (d := d) hi, List.length_set]
    refine ⟨b1.keep g (fun _ _ q => q.elim) (fun k q => by omega), b2.stk g (fun _ q => q.elim) (fun k q => q) ⟨?_, by rw [hcl]; exact s2, s3, s4⟩ ?_, g.hp b3 (fun q => q) (fun q => q) (by decide) (by decide) (by decide), by rw [hcl]; exact b4⟩
    · rw [← cStk_set (m := m) (d := d) hi]
      refine stk.upd (g := (kB t1 52).2) (v := v) (by rw [hlen]; omega) s1 (by rw [← a5] at a2; exact a2) (fun j => ?_)
      rw [hlen, show (cIt I).length + (vs.length + (cStk F).length) - 1 - ((cIt I).length + (vs.length - 1 - (r - 8))) = (cStk F).length + (r - 8) by omega]
      rfl
    · show tIt (_ + _) _ I ++ _ = tIt (_ + _) _ I ++ _
      rw [List.length_set]
end STV
