/-! ===== PURE: run (39): sum, max, min: the reference; widths, back: the class ===== -/
section DIG
variable {N : Nat} {s s' : mS} {n f f' m a b : Nat} {x : Nod} {ys xs : List Nod} {xv : Int32} {r : List Int32}
theorem r_dgs (hN : 170000 ≤ N) (hb : b = 9 ∨ b = 10 ∨ b = 11) (H : rA s n f m ys) (hx : rvl (s.2.2.1 47) f (s.2.2.1 49 n) xv x) (hxv : s.2.2.1 50 n = xv) (wx : wfN x) (h3 : kn x ≤ 2) (h0 : b = 9 ∨ ¬ kn x = 0) : ∃ s', mf_333 N (Int32.ofNat b) xv (Int32.ofNat n) s = some (s', none) ∧ rE s s' n f m (ansD b x) := by
  have H' := H
  obtain ⟨-, H2, H3, H4, H5, H6, H7, H8, H9, H10⟩ := H'
  have hx' : rvl (s.2.2.1 47) f (s.2.2.1 49 n) (s.2.2.1 50 n) x := by rw [hxv]; exact hx
  have kx := r_kindAt (N := N) hx' (by omega) (by omega)
  rw [kd_kn] at kx
  have G0 : rG s (mI s 51 (Int32.ofNat n)) n f f [] := rG.nil H2
  obtain ⟨s1, hs1⟩ : ∃ s1, s1 = mI s 51 (Int32.ofNat n) := ⟨_, rfl⟩
  rw [← hs1] at G0
  have b6 : ¬ b = 6 := by omega
  have b7 : ¬ b = 7 := by omega
  have b8 : ¬ b = 8 := by omega
  have b15 : ¬ b = 15 := by omega
  have b11 : b ≤ 11 := by omega
  have E1 : mf_333 N (Int32.ofNat b) xv (Int32.ofNat n) s = mf_333_158 N (Int32.ofNat b) xv (Int32.ofNat n) (Int32.ofNat (kn x)) s1 := by
    rw [hs1]
    generalize kn x = kx' at *
    unfold mf_333 mf_333_0 mf_333_5 mf_333_31 mf_333_47 mf_333_97 mf_333_140
    simp (disch := omega) only [ev_S, ev_P, ↓reduceIte, Nat.reduceEqDiff, Nat.reduceLeDiff, Nat.reduceAdd, Nat.reduceMul, Nat.reduceSub, reduceCtorEq, l32_0, l32_1, l32_2, l32_3, l32_4, l32_5, l32_6, l32_7, l32_8, l32_9, l32_10, l32_11, l32_12, l32_13, l32_14, l32_15, l32_16, l32_17, l32_18, l32_19, l32_20, l32_21, l32_22, l32_23, l32_24, l32_25, l32_26, l32_27, l32_28, l32_29, l32_33, l32_40, l32_41, l32_44, l32_45, l32_59, l32_61, l32_91, l32_93, l32_123, l32_125, kx, b6, b7, b8, b15, b11]
  rw [E1]
  unfold ansD
  by_cases c0 : kn x = 0
  · rw [if_pos c0, c0, (hx.iv c0).2]
    obtain ⟨s2, p1, p2⟩ := rG.pushZ (N := N) G0 (by show n + 0 < 9000; omega) (ivN x)
    refine ⟨s2, ?_, rG.int H p2 rfl⟩
    unfold mf_333_158 mf_333_163 mf_333_169 mf_333_289
    simp (disch := omega) only [ev_S, ev_P, ↓reduceIte, Nat.reduceEqDiff, Nat.reduceLeDiff, Nat.reduceAdd, Nat.reduceMul, Nat.reduceSub, reduceCtorEq, l32_0, l32_1, l32_2, l32_3, l32_4, l32_5, l32_6, l32_7, l32_8, l32_9, l32_10, l32_11, l32_12, l32_13, l32_14, l32_15, l32_16, l32_17, l32_18, l32_19, l32_20, l32_21, l32_22, l32_23, l32_24, l32_25, l32_26, l32_27, l32_28, l32_29, l32_33, l32_40, l32_41, l32_44, l32_45, l32_59, l32_61, l32_91, l32_93, l32_123, l32_125, p1]
  · rw [if_neg c0]
    obtain ⟨-, a, ea, La⟩ := hx.th c0
    rw [ea]
    by_cases c1 : kn x = 1
    · rw [if_pos c1, c1]
      have Lr := lay1 La c1
      have hr := rv_wf c1 wx
      have zz := G0.size (N := N) Lr (by omega)
      have zz : mf_77 N (Int32.ofNat a) s1 = some (s1, some (.int (Int32.ofNat (rvN x).length))) := zz
      generalize rvN x = r at *
      have E2 : mf_333_158 N (Int32.ofNat b) (Int32.ofNat a) (Int32.ofNat n) (Int32.ofNat 1) s1 = mf_333_178 N (Int32.ofNat b) (Int32.ofNat a) s1 := by
        unfold mf_333_158 mf_333_172
        simp (disch := omega) only [ev_S, ev_P, ↓reduceIte, Nat.reduceEqDiff, Nat.reduceLeDiff, Nat.reduceAdd, Nat.reduceMul, Nat.reduceSub, reduceCtorEq, l32_0, l32_1, l32_2, l32_3, l32_4, l32_5, l32_6, l32_7, l32_8, l32_9, l32_10, l32_11, l32_12, l32_13, l32_14, l32_15, l32_16, l32_17, l32_18, l32_19, l32_20, l32_21, l32_22, l32_23, l32_24, l32_25, l32_26, l32_27, l32_28, l32_29, l32_33, l32_40, l32_41, l32_44, l32_45, l32_59, l32_61, l32_91, l32_93, l32_123, l32_125]
      rw [E2]
      by_cases ce : b > 9 ∧ r = []
      · rw [if_pos ce]
        obtain ⟨b1, b2⟩ := rG.trb (N := N) H G0 (by omega) 5
        refine ⟨_, ?_, b2⟩
        have c9 : ¬ b ≤ 9 := by omega
        rw [ce.2] at zz
        have zz : mf_77 N (Int32.ofNat a) s1 = some (s1, some (.int (Int32.ofNat 0))) := zz
        unfold mf_333_178 mf_333_184 mf_333_189 mf_333_192 mf_333_201 mf_333_289
        simp (disch := omega) only [ev_S, ev_P, ↓reduceIte, Nat.reduceEqDiff, Nat.reduceLeDiff, Nat.reduceAdd, Nat.reduceMul, Nat.reduceSub, reduceCtorEq, l32_0, l32_1, l32_2, l32_3, l32_4, l32_5, l32_6, l32_7, l32_8, l32_9, l32_10, l32_11, l32_12, l32_13, l32_14, l32_15, l32_16, l32_17, l32_18, l32_19, l32_20, l32_21, l32_22, l32_23, l32_24, l32_25, l32_26, l32_27, l32_28, l32_29, l32_33, l32_40, l32_41, l32_44, l32_45, l32_59, l32_61, l32_91, l32_93, l32_123, l32_125, c9, zz, b1]
      · rw [if_neg ce]
        have hne : b = 9 ∨ ¬ r = [] := by
          by_cases c : b = 9
          · exact Or.inl c
          · exact Or.inr (fun z => ce ⟨by omega, z⟩)
        have rd := r_red (N := N) (s := s1) hN hb (G0.lay Lr) (by omega) hne hr
        obtain ⟨s2, p1, p2⟩ := rG.pushZ (N := N) G0 (by show n + 0 < 9000; omega) (dgR b r)
        refine ⟨s2, ?_, rG.int H p2 rfl⟩
        have E3 : mf_333_204 N (Int32.ofNat b) (Int32.ofNat a) s1 = some (s2, none) := by
          unfold mf_333_204 mf_333_212 mf_333_215 mf_333_289
          simp (disch := omega) only [ev_S, ev_P, ↓reduceIte, Nat.reduceEqDiff, Nat.reduceLeDiff, Nat.reduceAdd, Nat.reduceMul, Nat.reduceSub, reduceCtorEq, l32_0, l32_1, l32_2, l32_3, l32_4, l32_5, l32_6, l32_7, l32_8, l32_9, l32_10, l32_11, l32_12, l32_13, l32_14, l32_15, l32_16, l32_17, l32_18, l32_19, l32_20, l32_21, l32_22, l32_23, l32_24, l32_25, l32_26, l32_27, l32_28, l32_29, l32_33, l32_40, l32_41, l32_44, l32_45, l32_59, l32_61, l32_91, l32_93, l32_123, l32_125, rd, p1]
        by_cases c9 : b ≤ 9
        · unfold mf_333_178
          simp (disch := omega) only [ev_S, ev_P, ↓reduceIte, Nat.reduceEqDiff, Nat.reduceLeDiff, Nat.reduceAdd, Nat.reduceMul, Nat.reduceSub, reduceCtorEq, l32_0, l32_1, l32_2, l32_3, l32_4, l32_5, l32_6, l32_7, l32_8, l32_9, l32_10, l32_11, l32_12, l32_13, l32_14, l32_15, l32_16, l32_17, l32_18, l32_19, l32_20, l32_21, l32_22, l32_23, l32_24, l32_25, l32_26, l32_27, l32_28, l32_29, l32_33, l32_40, l32_41, l32_44, l32_45, l32_59, l32_61, l32_91, l32_93, l32_123, l32_125, c9, E3]
        · have hl : ¬ r.length = 0 := fun z => ce ⟨by omega, List.length_eq_zero_iff.mp z⟩
          unfold mf_333_178 mf_333_184 mf_333_189
          simp (disch := omega) only [ev_S, ev_P, ↓reduceIte, Nat.reduceEqDiff, Nat.reduceLeDiff, Nat.reduceAdd, Nat.reduceMul, Nat.reduceSub, reduceCtorEq, l32_0, l32_1, l32_2, l32_3, l32_4, l32_5, l32_6, l32_7, l32_8, l32_9, l32_10, l32_11, l32_12, l32_13, l32_14, l32_15, l32_16, l32_17, l32_18, l32_19, l32_20, l32_21, l32_22, l32_23, l32_24, l32_25, l32_26, l32_27, l32_28, l32_29, l32_33, l32_40, l32_41, l32_44, l32_45, l32_59, l32_61, l32_91, l32_93, l32_123, l32_125, c9, zz, hl, E3]
    · have c2 : kn x = 2 := by omega
      rw [if_neg c1, c2]
      have tw := tv_wf c2 wx
      have esz := kn2_sz c2
      have PT := fun i (hi : i < (tvN x).length) s2 fx xs (G : rG s s2 n f fx xs) => rG.partT (N := N) G La (by omega) c2 hi
      generalize tvN x = q at *
      have E2 : mf_333_158 N (Int32.ofNat b) (Int32.ofNat a) (Int32.ofNat n) (Int32.ofNat 2) s1 = mf_333_L4 N N 0 (Int32.ofNat b) (Int32.ofNat a) (Int32.ofNat n) (Int32.ofNat 0) s1 := by
        unfold mf_333_158 mf_333_172 mf_333_218
        simp (disch := omega) only [ev_S, ev_P, ↓reduceIte, Nat.reduceEqDiff, Nat.reduceLeDiff, Nat.reduceAdd, Nat.reduceMul, Nat.reduceSub, reduceCtorEq, l32_0, l32_1, l32_2, l32_3, l32_4, l32_5, l32_6, l32_7, l32_8, l32_9, l32_10, l32_11, l32_12, l32_13, l32_14, l32_15, l32_16, l32_17, l32_18, l32_19, l32_20, l32_21, l32_22, l32_23, l32_24, l32_25, l32_26, l32_27, l32_28, l32_29, l32_33, l32_40, l32_41, l32_44, l32_45, l32_59, l32_61, l32_91, l32_93, l32_123, l32_125]
      rw [E2]
      refine lp (fun F i (s' : mS) => mf_333_L4 N F 0 (Int32.ofNat b) (Int32.ofNat a) (Int32.ofNat n) (Int32.ofNat i) s') q.length (fun i s' => rG s s' n f f (((q.take i).map (dgR b)).map nZ) ∧ (b > 9 → ∀ r ∈ q.take i, ¬ r = [])) (fun R => ∃ s', R = some (s', none) ∧ rE s s' n f m (if b > 9 ∧ (q.any fun r => r.isEmpty) = true then .inl 5 else ansM 1 ((q.map (dgR b)).map nZ))) ?_ ?_ q.length 0 N s1 (Nat.zero_add _) (by omega) ⟨G0, fun _ r hr => absurd hr List.not_mem_nil⟩
      · intro F i s2 hi hP _
        obtain ⟨G, hne⟩ := hP
        have zz := G.size (N := N) La (by omega)
        rw [esz] at zz
        have n1 : ¬ q.length ≤ i := by omega
        obtain ⟨c, d1, d2⟩ := PT i hi s2 _ _ G
        have z3 := G.size (N := N) d2 (by omega)
        have z3 : mf_77 N (Int32.ofNat c) s2 = some (s2, some (.int (Int32.ofNat q[i].length))) := z3
        have hll : (((q.take i).map (dgR b)).map nZ).length = i := by rw [List.length_map, len_take_map (by omega)]
        have E3 : mf_333_L4 N (F + 1) 0 (Int32.ofNat b) (Int32.ofNat a) (Int32.ofNat n) (Int32.ofNat i) s2 = mf_333_238 N (mf_333_L4 N F) (Int32.ofNat b) (Int32.ofNat a) (Int32.ofNat n) (Int32.ofNat i) (Int32.ofNat c) s2 := by
          show mf_333_221 N (mf_333_L4 N F) (Int32.ofNat b) (Int32.ofNat a) (Int32.ofNat n) (Int32.ofNat i) s2 = _
          unfold mf_333_221 mf_333_228 mf_333_231
          simp (disch := omega) only [ev_S, ev_P, ↓reduceIte, Nat.reduceEqDiff, Nat.reduceLeDiff, Nat.reduceAdd, Nat.reduceMul, Nat.reduceSub, reduceCtorEq, l32_0, l32_1, l32_2, l32_3, l32_4, l32_5, l32_6, l32_7, l32_8, l32_9, l32_10, l32_11, l32_12, l32_13, l32_14, l32_15, l32_16, l32_17, l32_18, l32_19, l32_20, l32_21, l32_22, l32_23, l32_24, l32_25, l32_26, l32_27, l32_28, l32_29, l32_33, l32_40, l32_41, l32_44, l32_45, l32_59, l32_61, l32_91, l32_93, l32_123, l32_125, zz, n1, d1]
        show (∃ a' : mS, _ ∧ mf_333_L4 N (F + 1) 0 _ _ _ _ s2 = _) ∨ ∃ s', mf_333_L4 N (F + 1) 0 _ _ _ _ s2 = _ ∧ _
        rw [E3]
        by_cases ce : b > 9 ∧ q[i] = []
        · right
          rw [if_pos (show b > 9 ∧ (q.any fun r => r.isEmpty) = true from ⟨ce.1, any_mem hi (by rw [ce.2]; rfl)⟩)]
          obtain ⟨b1, b2⟩ := rG.trb (N := N) H G (by omega) 5
          refine ⟨_, ?_, b2⟩
          have c9 : ¬ b ≤ 9 := by omega
          rw [ce.2] at z3
          have z3 : mf_77 N (Int32.ofNat c) s2 = some (s2, some (.int (Int32.ofNat 0))) := z3
          unfold mf_333_238 mf_333_246 mf_333_252 mf_333_255 mf_333_264
          simp (disch := omega) only [ev_S, ev_P, ↓reduceIte, Nat.reduceEqDiff, Nat.reduceLeDiff, Nat.reduceAdd, Nat.reduceMul, Nat.reduceSub, reduceCtorEq, l32_0, l32_1, l32_2, l32_3, l32_4, l32_5, l32_6, l32_7, l32_8, l32_9, l32_10, l32_11, l32_12, l32_13, l32_14, l32_15, l32_16, l32_17, l32_18, l32_19, l32_20, l32_21, l32_22, l32_23, l32_24, l32_25, l32_26, l32_27, l32_28, l32_29, l32_33, l32_40, l32_41, l32_44, l32_45, l32_59, l32_61, l32_91, l32_93, l32_123, l32_125, c9, z3, b1]
        · left
          have hne1 : b = 9 ∨ ¬ q[i] = [] := by
            by_cases c : b = 9
            · exact Or.inl c
            · exact Or.inr (fun z => ce ⟨by omega, z⟩)
          have rd := r_red (N := N) (s := s2) hN hb (G.lay d2) (by omega) hne1 (tw.2.2 _ (List.getElem_mem hi))
          obtain ⟨s3, p1, p2⟩ := rG.pushZ (N := N) G (by rw [hll]; omega) (dgR b q[i])
          have E4 : mf_333_265 N (mf_333_L4 N F) (Int32.ofNat b) (Int32.ofNat a) (Int32.ofNat n) (Int32.ofNat i) (Int32.ofNat c) s2 = mf_333_L4 N F 0 (Int32.ofNat b) (Int32.ofNat a) (Int32.ofNat n) (Int32.ofNat (i + 1)) s3 := by
            unfold mf_333_265 mf_333_274 mf_333_277
            simp (disch := omega) only [ev_S, ev_P, ↓reduceIte, Nat.reduceEqDiff, Nat.reduceLeDiff, Nat.reduceAdd, Nat.reduceMul, Nat.reduceSub, reduceCtorEq, l32_0, l32_1, l32_2, l32_3, l32_4, l32_5, l32_6, l32_7, l32_8, l32_9, l32_10, l32_11, l32_12, l32_13, l32_14, l32_15, l32_16, l32_17, l32_18, l32_19, l32_20, l32_21, l32_22, l32_23, l32_24, l32_25, l32_26, l32_27, l32_28, l32_29, l32_33, l32_40, l32_41, l32_44, l32_45, l32_59, l32_61, l32_91, l32_93, l32_123, l32_125, rd, p1]
          refine ⟨s3, ⟨?_, fun hb9 r hr => ?_⟩, ?_⟩
          · rw [take_map_s hi, List.map_append]
            exact p2
          · rw [List.take_succ_eq_append_getElem hi] at hr
            rcases List.mem_append.mp hr with hr | hr
            · exact hne hb9 r hr
            · rw [List.mem_singleton.mp hr]
              exact fun z => ce ⟨hb9, z⟩
          · by_cases c9 : b ≤ 9
            · unfold mf_333_238
              simp (disch := omega) only [ev_S, ev_P, ↓reduceIte, Nat.reduceEqDiff, Nat.reduceLeDiff, Nat.reduceAdd, Nat.reduceMul, Nat.reduceSub, reduceCtorEq, l32_0, l32_1, l32_2, l32_3, l32_4, l32_5, l32_6, l32_7, l32_8, l32_9, l32_10, l32_11, l32_12, l32_13, l32_14, l32_15, l32_16, l32_17, l32_18, l32_19, l32_20, l32_21, l32_22, l32_23, l32_24, l32_25, l32_26, l32_27, l32_28, l32_29, l32_33, l32_40, l32_41, l32_44, l32_45, l32_59, l32_61, l32_91, l32_93, l32_123, l32_125, c9, E4]
            · have hq64 := tw.2.2 _ (List.getElem_mem hi)
              have hl : ¬ q[i].length = 0 := fun z => ce ⟨by omega, List.length_eq_zero_iff.mp z⟩
              unfold mf_333_238 mf_333_246 mf_333_252
              simp (disch := omega) only [ev_S, ev_P, ↓reduceIte, Nat.reduceEqDiff, Nat.reduceLeDiff, Nat.reduceAdd, Nat.reduceMul, Nat.reduceSub, reduceCtorEq, l32_0, l32_1, l32_2, l32_3, l32_4, l32_5, l32_6, l32_7, l32_8, l32_9, l32_10, l32_11, l32_12, l32_13, l32_14, l32_15, l32_16, l32_17, l32_18, l32_19, l32_20, l32_21, l32_22, l32_23, l32_24, l32_25, l32_26, l32_27, l32_28, l32_29, l32_33, l32_40, l32_41, l32_44, l32_45, l32_59, l32_61, l32_91, l32_93, l32_123, l32_125, c9, z3, hl, E4]
      · intro F s2 hP
        obtain ⟨G, hne⟩ := hP
        rw [List.take_length] at G hne
        have hno : ¬ (b > 9 ∧ (q.any fun r => r.isEmpty) = true) := fun z => by
          obtain ⟨r, r1, r2⟩ := List.any_eq_true.mp z.2
          exact hne z.1 r r1 (List.isEmpty_iff.mp r2)
        rw [if_neg hno]
        have zz := G.size (N := N) La (by omega)
        rw [esz] at zz
        obtain ⟨s3, b1, b2⟩ := rA.bRow (N := N) hN H G (by rw [List.length_map]; omega) (by rw [List.length_map]; omega)
        refine ⟨s3, ?_, b2⟩
        show mf_333_221 N (mf_333_L4 N F) (Int32.ofNat b) (Int32.ofNat a) (Int32.ofNat n) (Int32.ofNat q.length) s2 = _
        unfold mf_333_221 mf_333_228 mf_333_283 mf_333_289
        simp (disch := omega) only [ev_S, ev_P, ↓reduceIte, Nat.reduceEqDiff, Nat.reduceLeDiff, Nat.reduceAdd, Nat.reduceMul, Nat.reduceSub, reduceCtorEq, l32_0, l32_1, l32_2, l32_3, l32_4, l32_5, l32_6, l32_7, l32_8, l32_9, l32_10, l32_11, l32_12, l32_13, l32_14, l32_15, l32_16, l32_17, l32_18, l32_19, l32_20, l32_21, l32_22, l32_23, l32_24, l32_25, l32_26, l32_27, l32_28, l32_29, l32_33, l32_40, l32_41, l32_44, l32_45, l32_59, l32_61, l32_91, l32_93, l32_123, l32_125, zz, b1]
end DIG
section WBC
variable {N : Nat} {X : Nat → Option zz_C} {t t' : cS} {u u' w i : Nat} {x : Nod} {vx v : Int64} {xs : List Nod}
theorem c_sizeN (hh : cHp t u w) (h : cN (cel t) u v x) : cf_128 N X v t = some (t, .inl (some (.int (Int32.ofNat (szN x))))) := c_size hh h
theorem c_rowT (hh : cHp t u w) (h : cN (cel t) u v x) (h2 : kn x = 2) (hi : i < (tvN x).length) : ∃ v', cf_129 N X v (Int32.ofNat i) t = some (t, .inl (some (.long v'))) ∧ cN (cel t) u v' (nR (tvN x)[i]) := by
  have V := cN_iff.mp h
  rw [kn2' h2] at V
  exact c_partT hh V hi
theorem c_wid (hN : 170000 ≤ N) (hh : cHp t u w) (hx : cN (cel t) u vx x) (wx : wfN x) (hu : u ≤ 162000) (hw : w ≤ 1000) : ∃ t' v, cf_94 N X vx t = some (t', .inl (some (.long v))) ∧ cE t t' u v (if kn x = 2 then ansM 1 (((tvN x).map fun r => Int32.ofNat r.length).map nZ) else .inl 3) := by
  have kx := c_kn (N := N) (X := X) hx
  have lx := kn_le (x := x)
  by_cases c2 : kn x = 2
  · rw [if_pos c2]
    have zx := c_sizeN (N := N) (X := X) hh hx
    rw [kn2_sz c2] at zx
    have tw := tv_wf c2 wx
    have ga := c_gathered (N := N) (X := X) hh
    rw [c2] at kx
    have PT := fun i (hi : i < (tvN x).length) t' u' ys (G : cG t t' u u' w ys) => c_rowT (N := N) (X := X) G.c (G.up hx) c2 hi
    generalize tvN x = q at *
    have E1 : cf_94 N X vx t = cf_94_L2 N X N 0 vx (Int32.ofNat q.length) (Int32.ofNat w) (Int32.ofNat 0) t := by
      repeat ((first | unfold cf_94 | unfold cf_94_0 | unfold cf_94_4 | unfold cf_94_8 | unfold cf_94_12 | unfold cf_94_13 | unfold cf_94_21 | unfold cf_94_29 | unfold cf_94_34 | unfold cf_94_40 | unfold cf_94_59 | unfold cf_94_62 | unfold cf_94_65 | unfold cf_94_68 | unfold cf_94_74 | unfold cf_94_84); try simp (disch := omega) only [ev_S, ev_C, ↓reduceIte, Nat.reduceEqDiff, Nat.reduceLeDiff, Nat.reduceAdd, Nat.reduceMul, Nat.reduceSub, reduceCtorEq, l32_0, l32_1, l32_2, l32_3, l32_4, kx, zx, ga])
    rw [E1]
    refine lp (fun F i (t' : cS) => cf_94_L2 N X F 0 vx (Int32.ofNat q.length) (Int32.ofNat w) (Int32.ofNat i) t') q.length (fun i t' => cG t t' u u w (((q.take i).map fun r => Int32.ofNat r.length).map nZ)) (fun R => ∃ t' v, R = some (t', .inl (some (.long v))) ∧ cE t t' u v (ansM 1 ((q.map fun r => Int32.ofNat r.length).map nZ))) ?_ ?_ q.length 0 N t (Nat.zero_add _) (by omega) (cG.nil hh)
    · intro F i t1 hi G _
      left
      have n1 : ¬ q.length ≤ i := by omega
      have hll : (((q.take i).map fun r => Int32.ofNat r.length).map nZ).length = i := by rw [List.length_map, len_take_map (by omega)]
      obtain ⟨v1, d1, d2⟩ := PT i hi t1 _ _ G
      have z1 := c_sizeN (N := N) (X := X) G.c d2
      have z1 : cf_128 N X v1 t1 = some (t1, .inl (some (.int (Int32.ofNat q[i].length)))) := z1
      obtain ⟨t2, p1, p2⟩ := cG.put (N := N) (X := X) G (by rw [hll]; omega) (cN_Z (z := Int32.ofNat q[i].length))
      have th := c_thing (N := N) (X := X) (t := t1) (k := Int32.ofNat 0) (a := Int32.ofNat q[i].length)
      have p1 : cf_123 N X (tg (Int32.ofNat 0) (Int32.ofNat q[i].length)) t1 = _ := p1
      refine ⟨t2, ?_, ?_⟩
      · rw [take_map_s hi, List.map_append]
        exact p2
      · show cf_94_34 N X (cf_94_L2 N X F) vx (Int32.ofNat q.length) (Int32.ofNat w) (Int32.ofNat i) t1 = _
        unfold cf_94_34 cf_94_40 cf_94_59 cf_94_62 cf_94_65 cf_94_68
        simp (disch := omega) only [ev_S, ev_C, ↓reduceIte, Nat.reduceEqDiff, Nat.reduceLeDiff, Nat.reduceAdd, Nat.reduceMul, Nat.reduceSub, reduceCtorEq, l32_0, l32_1, l32_2, l32_3, l32_4, l32_5, l32_6, l32_7, l32_8, l32_9, l32_10, l32_11, l32_12, l32_13, l32_14, l32_15, l32_16, l32_17, l32_18, l32_19, l32_20, l32_21, l32_22, l32_23, l32_24, l32_25, l32_26, l32_27, l32_28, l32_29, l32_33, l32_40, l32_41, l32_44, l32_45, l32_59, l32_61, l32_91, l32_93, l32_123, l32_125, n1, d1, z1, th, p1]
    · intro F t1 G
      rw [List.take_length] at G
      obtain ⟨t2, v, b1, b2⟩ := cG.bZ (N := N) (X := X) hN G (Or.inl rfl) (by rw [List.length_map]; omega) (by omega) (by omega)
      refine ⟨t2, v, ?_, b2⟩
      show cf_94_34 N X (cf_94_L2 N X F) vx (Int32.ofNat q.length) (Int32.ofNat w) (Int32.ofNat q.length) t1 = _
      unfold cf_94_34 cf_94_74 cf_94_84
      simp (disch := omega) only [ev_S, ev_C, ↓reduceIte, Nat.reduceEqDiff, Nat.reduceLeDiff, Nat.reduceAdd, Nat.reduceMul, Nat.reduceSub, reduceCtorEq, l32_0, l32_1, l32_2, l32_3, l32_4, l32_5, l32_6, l32_7, l32_8, l32_9, l32_10, l32_11, l32_12, l32_13, l32_14, l32_15, l32_16, l32_17, l32_18, l32_19, l32_20, l32_21, l32_22, l32_23, l32_24, l32_25, l32_26, l32_27, l32_28, l32_29, l32_33, l32_40, l32_41, l32_44, l32_45, l32_59, l32_61, l32_91, l32_93, l32_123, l32_125, b1]
  · rw [if_neg c2]
    refine ⟨t, _, ?_, cE.tr hh⟩
    have b1 := c_rf (N := N) (X := X) (t := t) (k := Int32.ofNat 3)
    generalize kn x = kx' at *
    repeat ((first | unfold cf_94 | unfold cf_94_0 | unfold cf_94_4 | unfold cf_94_8 | unfold cf_94_12 | unfold cf_94_13 | unfold cf_94_21 | unfold cf_94_29 | unfold cf_94_34 | unfold cf_94_40 | unfold cf_94_59 | unfold cf_94_62 | unfold cf_94_65 | unfold cf_94_68 | unfold cf_94_74 | unfold cf_94_84); try simp (disch := omega) only [ev_S, ev_C, ↓reduceIte, Nat.reduceEqDiff, Nat.reduceLeDiff, Nat.reduceAdd, Nat.reduceMul, Nat.reduceSub, reduceCtorEq, l32_0, l32_1, l32_2, l32_3, l32_4, kx, c2, b1])
theorem c_bck (hN : 170000 ≤ N) (hh : cHp t u w) (hx : cN (cel t) u vx x) (wx : wfN x) (dx : x.1 ≤ 4) (hu : u ≤ 162000) (hw : w ≤ 1000) : ∃ t' v, cf_102 N X vx t = some (t', .inl (some (.long v))) ∧ cE t t' u v (if kn x = 0 then .inl 3 else ansM (kn x) (pts x).reverse) := by
  have kx := c_kn (N := N) (X := X) hx
  have lx := kn_le (x := x)
  by_cases c0 : kn x = 0
  · rw [if_pos c0]
    refine ⟨t, _, ?_, cE.tr hh⟩
    have b1 := c_rf (N := N) (X := X) (t := t) (k := Int32.ofNat 3)
    rw [c0] at kx
    repeat ((first | unfold cf_102 | unfold cf_102_0 | unfold cf_102_4 | unfold cf_102_7 | unfold cf_102_11 | unfold cf_102_12 | unfold cf_102_19 | unfold cf_102_28 | unfold cf_102_32 | unfold cf_102_37 | unfold cf_102_51 | unfold cf_102_54 | unfold cf_102_60 | unfold cf_102_68 | unfold cf_102_72); try simp (disch := omega) only [ev_S, ev_C, ↓reduceIte, Nat.reduceEqDiff, Nat.reduceLeDiff, Nat.reduceAdd, Nat.reduceMul, Nat.reduceSub, reduceCtorEq, l32_0, l32_1, l32_2, l32_3, l32_4, kx, b1])
  · rw [if_neg c0]
    have zx := c_sizeN (N := N) (X := X) hh hx
    have ga := c_gathered (N := N) (X := X) hh
    have hpl : (pts x).length = szN x := pts_len
    have s64 := wf64 wx
    rw [← hpl] at zx
    have hpre : ∀ i, ((pts x).drop i).reverse.length = (pts x).length - i := fun i => by rw [List.length_reverse, List.length_drop]
    have E1 : cf_102 N X vx t = cf_102_L3 N X N 0 vx (Int32.ofNat w) (Int32.ofNat (pts x).length - Int32.ofNat 1) t := by
      unfold cf_102 cf_102_0 cf_102_4 cf_102_12 cf_102_19 cf_102_28
      generalize kn x = kx' at *
      have q0 : ¬ Int32.ofNat kx' = Int32.ofNat 0 := fun z => c0 (ofNat_inj (by omega) (by omega) z)
      simp only [kx, ev_S, l32_0, q0, ga, zx, l32_1, if_true, if_false]
    rw [E1]
    have all : ∀ i F (t1 : cS), i ≤ (pts x).length → i < F → cG t t1 u u w ((pts x).drop i).reverse → ∃ t' v, cf_102_L3 N X F 0 vx (Int32.ofNat w) (Int32.ofNat i - Int32.ofNat 1) t1 = some (t', .inl (some (.long v))) ∧ cE t t' u v (ansM (kn x) (pts x).reverse) := fun i => by
      induction i with
      | zero =>
        intro F t1 hi hF G
        obtain ⟨F1, rfl⟩ : ∃ F1, F = F1 + 1 := ⟨F - 1, by omega⟩
        rw [List.drop_zero] at G
        have hmem : ∀ y ∈ (pts x).reverse, y ∈ pts x := fun y hy => List.mem_reverse.mp hy
        have kx' := c_kn (N := N) (X := X) (G.up hx)
        obtain ⟨t2, v, b1, b2⟩ := cG.build (N := N) (X := X) (k := kn x) hN G (pts_ok c0 hmem) (fun y hy => wf_pts wx y (hmem y hy)) (fun y hy => Nat.le_trans (pts_lv y (hmem y hy)) dx) (by rw [List.length_reverse]; omega) (by omega) (by omega) (by omega) (by omega)
        refine ⟨t2, v, ?_, b2⟩
        show cf_102_32 N X (cf_102_L3 N X F1) vx (Int32.ofNat w) (-Int32.ofNat 1) t1 = _
        unfold cf_102_32
        rw [if_pos (by decide)]
        generalize kn x = kk at *
        unfold cf_102_60 cf_102_68 cf_102_72
        simp (disch := omega) only [ev_S, ev_C, ↓reduceIte, Nat.reduceEqDiff, Nat.reduceLeDiff, Nat.reduceAdd, Nat.reduceMul, Nat.reduceSub, reduceCtorEq, l32_0, l32_1, l32_2, l32_3, l32_4, l32_5, l32_6, l32_7, l32_8, l32_9, l32_10, l32_11, l32_12, l32_13, l32_14, l32_15, l32_16, l32_17, l32_18, l32_19, l32_20, l32_21, l32_22, l32_23, l32_24, l32_25, l32_26, l32_27, l32_28, l32_29, l32_33, l32_40, l32_41, l32_44, l32_45, l32_59, l32_61, l32_91, l32_93, l32_123, l32_125, kx', b1]
      | succ i ih =>
        intro F t1 hi hF G
        obtain ⟨F1, rfl⟩ : ∃ F1, F = F1 + 1 := ⟨F - 1, by omega⟩
        have e : Int32.ofNat (i + 1) - Int32.ofNat 1 = Int32.ofNat i := by
          rw [Int32.ofNat_add]
          exact Int32.add_sub_cancel _ _
        obtain ⟨v', d1, d2⟩ := c_part (N := N) (X := X) G.c (G.up hx) (i := i) (by omega)
        obtain ⟨t2, p1, p2⟩ := cG.put (N := N) (X := X) G (by rw [hpre]; omega) d2
        have st : cf_102_L3 N X (F1 + 1) 0 vx (Int32.ofNat w) (Int32.ofNat i) t1 = cf_102_L3 N X F1 0 vx (Int32.ofNat w) (Int32.ofNat i - Int32.ofNat 1) t2 := by
          show cf_102_32 N X (cf_102_L3 N X F1) vx (Int32.ofNat w) (Int32.ofNat i) t1 = _
          have e : Int32.ofNat i + (-1) = Int32.ofNat i - Int32.ofNat 1 := (Int32.sub_eq_add_neg _ _).symm
          unfold cf_102_32
          rw [if_neg (i32n (by omega))]
          unfold cf_102_37
          rw [d1]
          show cf_102_51 N X (cf_102_L3 N X F1) vx (Int32.ofNat w) (Int32.ofNat i) v' t1 = _
          unfold cf_102_51 cf_102_54
          rw [p1, e]
          rfl
        rw [e, st]
        refine ih F1 t2 (by omega) (by omega) ?_
        rw [List.drop_eq_getElem_cons (show i < (pts x).length by omega), List.reverse_cons]
        exact p2
    exact all (pts x).length N t (Nat.le_refl _) (by omega) (by rw [List.drop_length]; exact cG.nil hh)
end WBC
