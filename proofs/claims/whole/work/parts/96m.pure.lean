/-! ===== PURE: run (40): sum, max, min: the class ===== -/
/-- the word of a built-in, where the class's constants lie -/
abbrev wrdV (b : Nat) : Nat := zz_out + (12 + b)
theorem wrd_ne {a b : Nat} : zz_ac .ne (zz_out + a) (zz_out + b) = !decide (a = b) := by
  show (!decide (zz_out + a = zz_out + b)) = _
  by_cases c : a = b
  · rw [decide_eq_true c, decide_eq_true (by rw [c])]
  · rw [decide_eq_false c, decide_eq_false (fun z => c (Nat.add_left_cancel z))]
section DGC
variable {N : Nat} {X : Nat → Option zz_C} {t t' : cS} {u u' w i b : Nat} {x : Nod} {vx v : Int64} {xs : List Nod} {r : List Int32}
theorem wgd {a c : Nat} (ha : 1 ≤ a ∧ a ≤ 41) (hc : 1 ≤ c ∧ c ≤ 41) : (zz_out < zz_out + a ∧ zz_out + a ≤ zz_out + 41) ∧ zz_out < zz_out + c ∧ zz_out + c ≤ zz_out + 41 := ⟨⟨by omega, by omega⟩, by omega, by omega⟩
theorem c_dgR (hN : 170000 ≤ N) (hb : b = 9 ∨ b = 10 ∨ b = 11) (hh : cHp t u w) (h : cN (cel t) u v (nR r)) (hr : r.length ≤ 64) : cf_96 N X (wrdV b) v t = some (t, .inl (some (.long (if b > 9 ∧ r = [] then rf (Int32.ofNat 5) else tg (Int32.ofNat 0) (dgR b r))))) := by
  have zz := c_sizeN (N := N) (X := X) hh h
  have zz : cf_128 N X v t = some (t, .inl (some (.int (Int32.ofNat r.length)))) := zz
  cases r with
  | nil =>
    have zz : cf_128 N X v t = some (t, .inl (some (.int (Int32.ofNat 0)))) := zz
    have E1 : cf_96 N X (wrdV b) v t = cf_96_15 N X (wrdV b) t := by
      generalize wrdV b = W
      unfold cf_96 cf_96_0 cf_96_8
      simp (disch := omega) only [ev_S, ev_C, ↓reduceIte, Nat.reduceEqDiff, Nat.reduceLeDiff, Nat.reduceAdd, Nat.reduceMul, Nat.reduceSub, reduceCtorEq, l32_0, l32_1, l32_2, l32_3, l32_4, l32_5, l32_6, l32_7, l32_8, l32_9, l32_10, l32_11, l32_12, l32_13, l32_14, l32_15, l32_16, l32_17, l32_18, l32_19, l32_20, l32_21, l32_22, l32_23, l32_24, l32_25, l32_26, l32_27, l32_28, l32_29, l32_33, l32_40, l32_41, l32_44, l32_45, l32_59, l32_61, l32_91, l32_93, l32_123, l32_125, zz]
    rw [E1]
    unfold cf_96_15
    rw [if_pos (wgd (a := 12 + b) (c := 21) (by omega) (by omega)), wrd_ne]
    rcases hb with rfl | rfl | rfl
    · rw [if_neg (show ¬ (9 > 9 ∧ ([] : List Int32) = []) from fun q => absurd q.1 (by decide))]
      rfl
    · rw [if_pos (show 10 > 9 ∧ ([] : List Int32) = [] from ⟨by decide, rfl⟩)]
      rfl
    · rw [if_pos (show 11 > 9 ∧ ([] : List Int32) = [] from ⟨by decide, rfl⟩)]
      rfl
  | cons z r' =>
    have hcv := cN_iff.mp h
    have i0 := c_intAt (N := N) (X := X) (r := z :: r') (i := 0) hh hcv (by show 0 < r'.length + 1; omega)
    have i0 : cf_130 N X v (Int32.ofNat 0) t = some (t, .inl (some (.int z))) := i0
    have hlc : (z :: r').length = r'.length + 1 := rfl
    have hl0 : ¬ (z :: r').length = 0 := by rw [hlc]; omega
    rw [if_neg (fun q => by cases q.2)]
    have ed : dgR b (z :: r') = r'.foldl (dgS b) z := by
      show r'.foldl (dgS b) (dgS b (if b = 9 then 0 else z) z) = _
      congr 1
      rcases hb with rfl | rfl | rfl
      · show (0 : Int32) + z = z
        exact Int32.zero_add z
      · show (if z < z then z else z) = z
        split <;> rfl
      · show (if z < z then z else z) = z
        split <;> rfl
    rw [ed]
    have E1 : cf_96 N X (wrdV b) v t = cf_96_L2 N X N 0 (wrdV b) v (Int32.ofNat (r'.length + 1)) z (Int32.ofNat 1) t := by
      rw [hlc] at zz hl0
      generalize wrdV b = W
      unfold cf_96 cf_96_0 cf_96_8 cf_96_35 cf_96_44
      simp (disch := omega) only [ev_S, ev_C, ↓reduceIte, Nat.reduceEqDiff, Nat.reduceLeDiff, Nat.reduceAdd, Nat.reduceMul, Nat.reduceSub, reduceCtorEq, l32_0, l32_1, l32_2, l32_3, l32_4, l32_5, l32_6, l32_7, l32_8, l32_9, l32_10, l32_11, l32_12, l32_13, l32_14, l32_15, l32_16, l32_17, l32_18, l32_19, l32_20, l32_21, l32_22, l32_23, l32_24, l32_25, l32_26, l32_27, l32_28, l32_29, l32_33, l32_40, l32_41, l32_44, l32_45, l32_59, l32_61, l32_91, l32_93, l32_123, l32_125, zz, hl0, i0]
    rw [E1]
    refine lp (fun F i (c : Int32) => cf_96_L2 N X F 0 (wrdV b) v (Int32.ofNat (r'.length + 1)) c (Int32.ofNat (i + 1)) t) r'.length (fun i c => c = (r'.take i).foldl (dgS b) z) (fun R => R = some (t, .inl (some (.long (tg (Int32.ofNat 0) (r'.foldl (dgS b) z)))))) ?_ ?_ r'.length 0 N z (Nat.zero_add _) (by omega) rfl
    · intro F i c hi hP _
      left
      have n1 : ¬ r'.length + 1 ≤ i + 1 := by omega
      have ii := c_intAt (N := N) (X := X) (r := z :: r') (i := i + 1) hh hcv (by rw [hlc]; omega)
      have ii : cf_130 N X v (Int32.ofNat (i + 1)) t = some (t, .inl (some (.int r'[i]))) := ii
      refine ⟨dgS b c r'[i], by rw [foldl_take hi, hP], ?_⟩
      show cf_96_49 N X (cf_96_L2 N X F) (wrdV b) v (Int32.ofNat (r'.length + 1)) c (Int32.ofNat (i + 1)) t = _
      have E2 : cf_96_49 N X (cf_96_L2 N X F) (wrdV b) v (Int32.ofNat (r'.length + 1)) c (Int32.ofNat (i + 1)) t = cf_96_66 N X (cf_96_L2 N X F) (wrdV b) v (Int32.ofNat (r'.length + 1)) c (Int32.ofNat (i + 1)) r'[i] t := by
        generalize wrdV b = W
        rw [hlc] at hr
        unfold cf_96_49 cf_96_56
        simp (disch := omega) only [ev_S, ev_C, ↓reduceIte, Nat.reduceEqDiff, Nat.reduceLeDiff, Nat.reduceAdd, Nat.reduceMul, Nat.reduceSub, reduceCtorEq, l32_0, l32_1, l32_2, l32_3, l32_4, l32_5, l32_6, l32_7, l32_8, l32_9, l32_10, l32_11, l32_12, l32_13, l32_14, l32_15, l32_16, l32_17, l32_18, l32_19, l32_20, l32_21, l32_22, l32_23, l32_24, l32_25, l32_26, l32_27, l32_28, l32_29, l32_33, l32_40, l32_41, l32_44, l32_45, l32_59, l32_61, l32_91, l32_93, l32_123, l32_125, n1, ii]
      rw [E2]
      have ei : Int32.ofNat (i + 1) + 1 = Int32.ofNat (i + 1 + 1) := i32al
      unfold dgS
      rcases hb with rfl | rfl | rfl
      · rw [if_pos rfl]
        unfold cf_96_66
        rw [if_pos (wgd (a := 12 + 9) (c := 21) (by omega) (by omega)), wrd_ne, if_neg (by decide)]
        unfold cf_96_75 cf_96_107
        rw [ei]
      · rw [if_neg (by omega), if_pos rfl]
        unfold cf_96_66
        rw [if_pos (wgd (a := 12 + 10) (c := 21) (by omega) (by omega)), wrd_ne, if_pos (by decide)]
        unfold cf_96_83
        rw [if_pos (wgd (a := 12 + 10) (c := 22) (by omega) (by omega)), wrd_ne, if_neg (by decide)]
        unfold cf_96_90 cf_96_107
        rw [ei]
      · rw [if_neg (by omega), if_neg (by omega)]
        unfold cf_96_66
        rw [if_pos (wgd (a := 12 + 11) (c := 21) (by omega) (by omega)), wrd_ne, if_pos (by decide)]
        unfold cf_96_83
        rw [if_pos (wgd (a := 12 + 11) (c := 22) (by omega) (by omega)), wrd_ne, if_pos (by decide)]
        unfold cf_96_100 cf_96_107
        rw [ei]
    · intro F c hP
      rw [List.take_length] at hP
      rw [hP]
      have th := c_thing (N := N) (X := X) (t := t) (k := Int32.ofNat 0) (a := r'.foldl (dgS b) z)
      show cf_96_49 N X (cf_96_L2 N X F) (wrdV b) v (Int32.ofNat (r'.length + 1)) _ (Int32.ofNat (r'.length + 1)) t = _
      generalize r'.foldl (dgS b) z = D at *
      rw [hlc] at hr
      unfold cf_96_49 cf_96_115 cf_96_121
      simp (disch := omega) only [ev_S, ev_C, ↓reduceIte, Nat.reduceEqDiff, Nat.reduceLeDiff, Nat.reduceAdd, Nat.reduceMul, Nat.reduceSub, reduceCtorEq, l32_0, l32_1, l32_2, l32_3, l32_4, l32_5, l32_6, l32_7, l32_8, l32_9, l32_10, l32_11, l32_12, l32_13, l32_14, l32_15, l32_16, l32_17, l32_18, l32_19, l32_20, l32_21, l32_22, l32_23, l32_24, l32_25, l32_26, l32_27, l32_28, l32_29, l32_33, l32_40, l32_41, l32_44, l32_45, l32_59, l32_61, l32_91, l32_93, l32_123, l32_125, th]
theorem c_dgs (hN : 170000 ≤ N) (hb : b = 9 ∨ b = 10 ∨ b = 11) (hh : cHp t u w) (hx : cN (cel t) u vx x) (wx : wfN x) (dx : x.1 ≤ 4) (hu : u ≤ 162000) (hw : w ≤ 1000) : ∃ t' v, cf_95 N X (wrdV b) vx t = some (t', .inl (some (.long v))) ∧ cE t t' u v (if kn x = 3 ∨ (kn x = 0 ∧ b > 9) then .inl 3 else ansD b x) := by
  have kx := c_kn (N := N) (X := X) hx
  have lx := kn_le (x := x)
  have b3 := c_rf (N := N) (X := X) (t := t) (k := Int32.ofNat 3)
  by_cases c0 : kn x = 0
  · rw [c0] at kx
    have E1 : cf_95 N X (wrdV b) vx t = cf_95_7 N X (wrdV b) vx t := by
      generalize wrdV b = W
      unfold cf_95 cf_95_0 cf_95_4
      simp (disch := omega) only [ev_S, ev_C, ↓reduceIte, Nat.reduceEqDiff, Nat.reduceLeDiff, Nat.reduceAdd, Nat.reduceMul, Nat.reduceSub, reduceCtorEq, l32_0, l32_1, l32_2, l32_3, l32_4, l32_5, l32_6, l32_7, l32_8, l32_9, l32_10, l32_11, l32_12, l32_13, l32_14, l32_15, l32_16, l32_17, l32_18, l32_19, l32_20, l32_21, l32_22, l32_23, l32_24, l32_25, l32_26, l32_27, l32_28, l32_29, l32_33, l32_40, l32_41, l32_44, l32_45, l32_59, l32_61, l32_91, l32_93, l32_123, l32_125, kx]
    rw [E1]
    unfold cf_95_7
    rw [if_pos (wgd (a := 12 + b) (c := 21) (by omega) (by omega)), wrd_ne]
    by_cases c : b = 9
    · rw [if_neg (show ¬ (kn x = 3 ∨ (kn x = 0 ∧ b > 9)) by omega), if_neg (by rw [decide_eq_true (by omega)]; decide)]
      have e : ansD b x = .inr (nZ (ivN x)) := if_pos c0
      rw [e]
      refine ⟨t, vx, rfl, u, w, hh, hfw.rf, Nat.le_refl _, fun _ _ => rfl, ?_, Nat.le_add_right _ _, trivial, Nat.zero_le _⟩
      rw [hx.z c0]
      exact cN_Z
    · rw [if_pos (show kn x = 3 ∨ (kn x = 0 ∧ b > 9) by omega), if_pos (by rw [decide_eq_false (by omega)]; rfl)]
      refine ⟨t, _, ?_, cE.tr hh⟩
      generalize wrdV b = W
      unfold cf_95_16 cf_95_20 cf_95_31 cf_95_35 cf_95_39 cf_95_43
      simp (disch := omega) only [ev_S, ev_C, ↓reduceIte, Nat.reduceEqDiff, Nat.reduceLeDiff, Nat.reduceAdd, Nat.reduceMul, Nat.reduceSub, reduceCtorEq, l32_0, l32_1, l32_2, l32_3, l32_4, l32_5, l32_6, l32_7, l32_8, l32_9, l32_10, l32_11, l32_12, l32_13, l32_14, l32_15, l32_16, l32_17, l32_18, l32_19, l32_20, l32_21, l32_22, l32_23, l32_24, l32_25, l32_26, l32_27, l32_28, l32_29, l32_33, l32_40, l32_41, l32_44, l32_45, l32_59, l32_61, l32_91, l32_93, l32_123, l32_125, kx, b3]
  · have E1 : cf_95 N X (wrdV b) vx t = cf_95_20 N X (wrdV b) vx (Int32.ofNat (kn x)) t := by
      generalize wrdV b = W
      generalize kn x = kx' at *
      unfold cf_95 cf_95_0 cf_95_4 cf_95_16
      simp (disch := omega) only [ev_S, ev_C, ↓reduceIte, Nat.reduceEqDiff, Nat.reduceLeDiff, Nat.reduceAdd, Nat.reduceMul, Nat.reduceSub, reduceCtorEq, l32_0, l32_1, l32_2, l32_3, l32_4, l32_5, l32_6, l32_7, l32_8, l32_9, l32_10, l32_11, l32_12, l32_13, l32_14, l32_15, l32_16, l32_17, l32_18, l32_19, l32_20, l32_21, l32_22, l32_23, l32_24, l32_25, l32_26, l32_27, l32_28, l32_29, l32_33, l32_40, l32_41, l32_44, l32_45, l32_59, l32_61, l32_91, l32_93, l32_123, l32_125, kx, c0]
    rw [E1]
    by_cases c1 : kn x = 1
    · rw [if_neg (show ¬ (kn x = 3 ∨ (kn x = 0 ∧ b > 9)) by omega), c1]
      have e : ansD b x = if b > 9 ∧ rvN x = [] then .inl 5 else .inr (nZ (dgR b (rvN x))) := by
        unfold ansD
        rw [if_neg c0, if_pos c1]
      rw [e]
      have hr := rv_wf c1 wx
      have hxr : cN (cel t) u vx (nR (rvN x)) := cN_iff.mpr (hx.r c1)
      have d1 := c_dgR (N := N) (X := X) hN hb hh hxr hr
      have E2 : cf_95_20 N X (wrdV b) vx (Int32.ofNat 1) t = some (t, .inl (some (.long (if b > 9 ∧ rvN x = [] then rf (Int32.ofNat 5) else tg (Int32.ofNat 0) (dgR b (rvN x)))))) := by
        generalize wrdV b = W at *
        unfold cf_95_20 cf_95_24 cf_95_30
        simp (disch := omega) only [ev_S, ev_C, ↓reduceIte, Nat.reduceEqDiff, Nat.reduceLeDiff, Nat.reduceAdd, Nat.reduceMul, Nat.reduceSub, reduceCtorEq, l32_0, l32_1, l32_2, l32_3, l32_4, l32_5, l32_6, l32_7, l32_8, l32_9, l32_10, l32_11, l32_12, l32_13, l32_14, l32_15, l32_16, l32_17, l32_18, l32_19, l32_20, l32_21, l32_22, l32_23, l32_24, l32_25, l32_26, l32_27, l32_28, l32_29, l32_33, l32_40, l32_41, l32_44, l32_45, l32_59, l32_61, l32_91, l32_93, l32_123, l32_125, d1]
      rw [E2]
      by_cases c : b > 9 ∧ rvN x = []
      · rw [if_pos c, if_pos c]
        exact ⟨t, _, rfl, cE.tr hh⟩
      · rw [if_neg c, if_neg c]
        exact ⟨t, _, rfl, u, w, hh, hfw.rf, Nat.le_refl _, fun _ _ => rfl, cN_Z, Nat.le_add_right _ _, trivial, Nat.zero_le _⟩
    · by_cases c2 : kn x = 2
      · rw [if_neg (show ¬ (kn x = 3 ∨ (kn x = 0 ∧ b > 9)) by omega), c2]
        have e : ansD b x = if b > 9 ∧ ((tvN x).any fun r => r.isEmpty) = true then .inl 5 else ansM 1 (((tvN x).map (dgR b)).map nZ) := by
          unfold ansD
          rw [if_neg c0, if_neg c1]
        rw [e]
        have zx := c_sizeN (N := N) (X := X) hh hx
        rw [kn2_sz c2] at zx
        have tw := tv_wf c2 wx
        have ga := c_gathered (N := N) (X := X) hh
        rw [c2] at kx
        have PT := fun i (hi : i < (tvN x).length) t' u' ys (G : cG t t' u u' w ys) => c_rowT (N := N) (X := X) G.c (G.up hx) c2 hi
        generalize tvN x = q at *
        have E2 : cf_95_20 N X (wrdV b) vx (Int32.ofNat 2) t = cf_95_L3 N X N 0 (wrdV b) vx (Int32.ofNat q.length) (Int32.ofNat w) (Int32.ofNat 0) t := by
          generalize wrdV b = W
          unfold cf_95_20 cf_95_31 cf_95_35 cf_95_44 cf_95_52 cf_95_61
          simp (disch := omega) only [ev_S, ev_C, ↓reduceIte, Nat.reduceEqDiff, Nat.reduceLeDiff, Nat.reduceAdd, Nat.reduceMul, Nat.reduceSub, reduceCtorEq, l32_0, l32_1, l32_2, l32_3, l32_4, l32_5, l32_6, l32_7, l32_8, l32_9, l32_10, l32_11, l32_12, l32_13, l32_14, l32_15, l32_16, l32_17, l32_18, l32_19, l32_20, l32_21, l32_22, l32_23, l32_24, l32_25, l32_26, l32_27, l32_28, l32_29, l32_33, l32_40, l32_41, l32_44, l32_45, l32_59, l32_61, l32_91, l32_93, l32_123, l32_125, kx, zx, ga]
        rw [E2]
        refine lp (fun F i (t' : cS) => cf_95_L3 N X F 0 (wrdV b) vx (Int32.ofNat q.length) (Int32.ofNat w) (Int32.ofNat i) t') q.length (fun i t' => cG t t' u u w (((q.take i).map (dgR b)).map nZ) ∧ (b > 9 → ∀ r ∈ q.take i, ¬ r = [])) (fun R => ∃ t' v, R = some (t', .inl (some (.long v))) ∧ cE t t' u v (if b > 9 ∧ (q.any fun r => r.isEmpty) = true then .inl 5 else ansM 1 ((q.map (dgR b)).map nZ))) ?_ ?_ q.length 0 N t (Nat.zero_add _) (by omega) ⟨cG.nil hh, fun _ r hr => absurd hr List.not_mem_nil⟩
        · intro F i t1 hi hP _
          obtain ⟨G, hne⟩ := hP
          have n1 : ¬ q.length ≤ i := by omega
          have hll : (((q.take i).map (dgR b)).map nZ).length = i := by rw [List.length_map, len_take_map (by omega)]
          obtain ⟨v1, d1, d2⟩ := PT i hi t1 _ _ G
          have d3 := c_dgR (N := N) (X := X) hN hb G.c d2 (tw.2.2 _ (List.getElem_mem hi))
          by_cases ce : b > 9 ∧ q[i] = []
          · right
            rw [if_pos ce] at d3
            rw [if_pos (show b > 9 ∧ (q.any fun r => r.isEmpty) = true from ⟨ce.1, any_mem hi (by rw [ce.2]; rfl)⟩)]
            refine ⟨t1, _, ?_, cG.tr G (by omega)⟩
            have k4 : cf_255 N X (rf (Int32.ofNat 5)) t1 = some (t1, .inl (some (.int (Int32.ofNat 4)))) := rfl
            show cf_95_66 N X (cf_95_L3 N X F) (wrdV b) vx (Int32.ofNat q.length) (Int32.ofNat w) (Int32.ofNat i) t1 = _
            generalize wrdV b = W at *
            unfold cf_95_66 cf_95_73 cf_95_85 cf_95_88 cf_95_95 cf_95_99
            simp (disch := omega) only [ev_S, ev_C, ↓reduceIte, Nat.reduceEqDiff, Nat.reduceLeDiff, Nat.reduceAdd, Nat.reduceMul, Nat.reduceSub, reduceCtorEq, l32_0, l32_1, l32_2, l32_3, l32_4, l32_5, l32_6, l32_7, l32_8, l32_9, l32_10, l32_11, l32_12, l32_13, l32_14, l32_15, l32_16, l32_17, l32_18, l32_19, l32_20, l32_21, l32_22, l32_23, l32_24, l32_25, l32_26, l32_27, l32_28, l32_29, l32_33, l32_40, l32_41, l32_44, l32_45, l32_59, l32_61, l32_91, l32_93, l32_123, l32_125, n1, d1, d3, k4]
          · left
            rw [if_neg ce] at d3
            obtain ⟨t2, p1, p2⟩ := cG.put (N := N) (X := X) G (by rw [hll]; omega) (cN_Z (z := dgR b q[i]))
            have p1 : cf_123 N X (tg (Int32.ofNat 0) (dgR b q[i])) t1 = _ := p1
            have k0 := c_kindOf (N := N) (X := X) (t := t1) (k := Int32.ofNat 0) (a := dgR b q[i])
            refine ⟨t2, ⟨?_, fun hb9 r hr => ?_⟩, ?_⟩
            · rw [take_map_s hi, List.map_append]
              exact p2
            · rw [List.take_succ_eq_append_getElem hi] at hr
              rcases List.mem_append.mp hr with hr | hr
              · exact hne hb9 r hr
              · rw [List.mem_singleton.mp hr]
                exact fun z => ce ⟨hb9, z⟩
            · show cf_95_66 N X (cf_95_L3 N X F) (wrdV b) vx (Int32.ofNat q.length) (Int32.ofNat w) (Int32.ofNat i) t1 = _
              generalize wrdV b = W at *
              unfold cf_95_66 cf_95_73 cf_95_85 cf_95_88 cf_95_95 cf_95_102 cf_95_111
              simp (disch := omega) only [ev_S, ev_C, ↓reduceIte, Nat.reduceEqDiff, Nat.reduceLeDiff, Nat.reduceAdd, Nat.reduceMul, Nat.reduceSub, reduceCtorEq, l32_0, l32_1, l32_2, l32_3, l32_4, l32_5, l32_6, l32_7, l32_8, l32_9, l32_10, l32_11, l32_12, l32_13, l32_14, l32_15, l32_16, l32_17, l32_18, l32_19, l32_20, l32_21, l32_22, l32_23, l32_24, l32_25, l32_26, l32_27, l32_28, l32_29, l32_33, l32_40, l32_41, l32_44, l32_45, l32_59, l32_61, l32_91, l32_93, l32_123, l32_125, n1, d1, d3, k0, p1]
        · intro F t1 hP
          obtain ⟨G, hne⟩ := hP
          rw [List.take_length] at G hne
          have hno : ¬ (b > 9 ∧ (q.any fun r => r.isEmpty) = true) := fun z => by
            obtain ⟨r, r1, r2⟩ := List.any_eq_true.mp z.2
            exact hne z.1 r r1 (List.isEmpty_iff.mp r2)
          rw [if_neg hno]
          obtain ⟨t2, v, b1, b2⟩ := cG.bZ (N := N) (X := X) hN G (Or.inl rfl) (by rw [List.length_map]; omega) (by omega) (by omega)
          refine ⟨t2, v, ?_, b2⟩
          show cf_95_66 N X (cf_95_L3 N X F) (wrdV b) vx (Int32.ofNat q.length) (Int32.ofNat w) (Int32.ofNat q.length) t1 = _
          generalize wrdV b = W at *
          unfold cf_95_66 cf_95_117 cf_95_127
          simp (disch := omega) only [ev_S, ev_C, ↓reduceIte, Nat.reduceEqDiff, Nat.reduceLeDiff, Nat.reduceAdd, Nat.reduceMul, Nat.reduceSub, reduceCtorEq, l32_0, l32_1, l32_2, l32_3, l32_4, l32_5, l32_6, l32_7, l32_8, l32_9, l32_10, l32_11, l32_12, l32_13, l32_14, l32_15, l32_16, l32_17, l32_18, l32_19, l32_20, l32_21, l32_22, l32_23, l32_24, l32_25, l32_26, l32_27, l32_28, l32_29, l32_33, l32_40, l32_41, l32_44, l32_45, l32_59, l32_61, l32_91, l32_93, l32_123, l32_125, b1]
      · have c3 : kn x = 3 := by omega
        rw [if_pos (Or.inl c3), c3]
        rw [c3] at kx
        refine ⟨t, _, ?_, cE.tr hh⟩
        generalize wrdV b = W
        unfold cf_95_20 cf_95_31 cf_95_35 cf_95_39 cf_95_43
        simp (disch := omega) only [ev_S, ev_C, ↓reduceIte, Nat.reduceEqDiff, Nat.reduceLeDiff, Nat.reduceAdd, Nat.reduceMul, Nat.reduceSub, reduceCtorEq, l32_0, l32_1, l32_2, l32_3, l32_4, l32_5, l32_6, l32_7, l32_8, l32_9, l32_10, l32_11, l32_12, l32_13, l32_14, l32_15, l32_16, l32_17, l32_18, l32_19, l32_20, l32_21, l32_22, l32_23, l32_24, l32_25, l32_26, l32_27, l32_28, l32_29, l32_33, l32_40, l32_41, l32_44, l32_45, l32_59, l32_61, l32_91, l32_93, l32_123, l32_125, kx, b3]
end DGC
