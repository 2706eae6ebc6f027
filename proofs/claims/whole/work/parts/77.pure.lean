/-! ===== PURE: cell ===== -/
section SCG
variable {N : Nat} {X : Nat → Option zz_C} {S : Nat → Option (Th 4)} {σ0 k : Nat} {μ : Nat → Nat} {t : cS} {s : mS}
/-- INT j of a ROW that both have -/
theorem cell_row {r : List Int32} {v : Int64} {u w c : Nat} {P : Nat → Nod → Prop} (hr : r.length ≤ 64) (b3 : cHp t u w) (p2 : cN (cel t) u v (nR r)) (L2 : Wy (s.2.2.1 47) c P (vR r)) (hc : c + wV wn (vR r) ≤ 166300) (jj : Int32) : ∃ z : Int32, cf_16_87 N X jj v t = some (t, .inl (some (.int z))) ∧ mf_81_107 N jj (Int32.ofNat c) s = some (s, some (.int z)) := by
  have b2 := cN_iff.mp p2
  have sz := c_size (N := N) (X := X) b3 p2
  have kv := c_kind (N := N) (X := X) p2
  have e1 : vw (nR r) = vR r := rfl
  rw [e1] at sz kv b2
  have e2 : kdV (vR r) = Int32.ofNat 1 := rfl
  have zz := r_size (N := N) L2 hc
  have kd : s.2.2.1 47 c = 1 := L2.kd.1
  have hc' : c + (2 + r.length) ≤ 166300 := hc
  rcases ixi jj with rfl | ⟨c1, c2⟩ | ⟨j, j1, rfl⟩
  · refine ⟨0, ?_, ?_⟩
    · repeat ((first | unfold cf_16_87 | unfold cf_16_92 | unfold cf_16_96 | unfold cf_16_100 | unfold cf_16_110 | unfold cf_16_126 | unfold cf_16_127); try simp (disch := omega) only [ev_S, ev_C, ↓reduceIte, Nat.reduceEqDiff, Nat.reduceLeDiff, Nat.reduceAdd, Nat.reduceMul, Nat.reduceSub, reduceCtorEq, l32_0, l32_1, l32_2, l32_3, l32_4, kv, e2])
    · repeat ((first | unfold mf_81_107 | unfold mf_81_120 | unfold mf_81_148 | unfold mf_81_149); try simp (disch := omega) only [ev_S, ev_P, ↓reduceIte, Nat.reduceEqDiff, Nat.reduceLeDiff, Nat.reduceAdd, Nat.reduceMul, Nat.reduceSub, reduceCtorEq, l32_0, l32_1, l32_2, l32_3, l32_4, l32_47, l32_166300, kd])
  · have c2 : jj < Int32.ofNat 0 := c2
    refine ⟨0, ?_, ?_⟩
    · repeat ((first | unfold cf_16_87 | unfold cf_16_92 | unfold cf_16_96 | unfold cf_16_100 | unfold cf_16_110 | unfold cf_16_126 | unfold cf_16_127); try simp (disch := omega) only [ev_S, ev_C, ↓reduceIte, Nat.reduceEqDiff, Nat.reduceLeDiff, Nat.reduceAdd, Nat.reduceMul, Nat.reduceSub, reduceCtorEq, l32_0, l32_1, l32_2, l32_3, l32_4, kv, e2, c2])
    · repeat ((first | unfold mf_81_107 | unfold mf_81_120 | unfold mf_81_148 | unfold mf_81_149); try simp (disch := omega) only [ev_S, ev_P, ↓reduceIte, Nat.reduceEqDiff, Nat.reduceLeDiff, Nat.reduceAdd, Nat.reduceMul, Nat.reduceSub, reduceCtorEq, l32_0, l32_1, l32_2, l32_3, l32_4, l32_47, l32_166300, kd, c2])
  · by_cases c3 : r.length ≤ j
    · refine ⟨0, ?_, ?_⟩
      · repeat ((first | unfold cf_16_87 | unfold cf_16_92 | unfold cf_16_96 | unfold cf_16_100 | unfold cf_16_110 | unfold cf_16_126 | unfold cf_16_127); try simp (disch := omega) only [ev_S, ev_C, ↓reduceIte, Nat.reduceEqDiff, Nat.reduceLeDiff, Nat.reduceAdd, Nat.reduceMul, Nat.reduceSub, reduceCtorEq, l32_0, l32_1, l32_2, l32_3, l32_4, kv, e2, sz, szV])
      · repeat ((first | unfold mf_81_107 | unfold mf_81_120 | unfold mf_81_124 | unfold mf_81_131 | unfold mf_81_148 | unfold mf_81_149); try simp (disch := omega) only [ev_S, ev_P, ↓reduceIte, Nat.reduceEqDiff, Nat.reduceLeDiff, Nat.reduceAdd, Nat.reduceMul, Nat.reduceSub, reduceCtorEq, l32_0, l32_1, l32_2, l32_3, l32_4, l32_47, l32_166300, kd, zz, szV])
    · have hi : j < r.length := by omega
      have ia := c_intAt (N := N) (X := X) b3 b2 hi
      have ja := L2.2.2 j hi
      refine ⟨r[j], ?_, ?_⟩
      · repeat ((first | unfold cf_16_87 | unfold cf_16_92 | unfold cf_16_96 | unfold cf_16_100 | unfold cf_16_110 | unfold cf_16_113 | unfold cf_16_123 | unfold cf_16_126 | unfold cf_16_127); try simp (disch := omega) only [ev_S, ev_C, ↓reduceIte, Nat.reduceEqDiff, Nat.reduceLeDiff, Nat.reduceAdd, Nat.reduceMul, Nat.reduceSub, reduceCtorEq, l32_0, l32_1, l32_2, l32_3, l32_4, kv, e2, sz, szV, ia])
      · repeat ((first | unfold mf_81_107 | unfold mf_81_120 | unfold mf_81_124 | unfold mf_81_131 | unfold mf_81_134 | unfold mf_81_148 | unfold mf_81_149); try simp (disch := omega) only [ev_S, ev_P, ↓reduceIte, Nat.reduceEqDiff, Nat.reduceLeDiff, Nat.reduceAdd, Nat.reduceMul, Nat.reduceSub, reduceCtorEq, l32_0, l32_1, l32_2, l32_3, l32_4, l32_47, l32_166300, kd, zz, szV, ja])
set_option maxHeartbeats 4000000 in
theorem p_cell (hN : 170000 ≤ N) (h : iS S σ0 k μ t s) (hH : iH t) (a i jj : Int32) : ∃ t', ∃ v : Int32, cf_16 N X a i jj t = some (t', .inl (some (.int v))) ∧ mf_81 N a i jj s = some (s, some (.int v)) ∧ rfr σ0 t t' ∧ iH t' := by
  have h' := h
  obtain ⟨h1, h2, h3, h4, ⟨h5, h50⟩, h6, h7, -⟩ := h'
  have h5a := h5.1
  rcases isSh a with ⟨j, hj, rfl, q1, q2⟩ | ⟨q1, q2⟩
  · have ck := c_kindOn (N := N) (X := X) h5 hj (Nat.le_trans (serO_len (fun y hy => h7 j y hy)) (by omega)) (h6 j hj).1
    have rk := r_kind (N := N) hj q2 (h6 j hj).2
    have q1 := q1 N X t
    obtain ⟨e1, g1⟩ | ⟨x, z, e1, g0, g1, g2⟩ | ⟨x, m, e1, g1, g2, g3, g4⟩ := slot3 (h6 j hj).2
    · rw [e1] at ck rk
      have e : kdO none = -Int32.ofNat 1 := rfl
      refine ⟨t, 0, ?_, ?_, rfr.rf, hH⟩
      · repeat ((first | unfold cf_16 | unfold cf_16_0 | unfold cf_16_4 | unfold cf_16_7 | unfold cf_16_15 | unfold cf_16_19 | unfold cf_16_21 | unfold cf_16_26 | unfold cf_16_33 | unfold cf_16_36 | unfold cf_16_41 | unfold cf_16_42 | unfold cf_16_46 | unfold cf_16_56 | unfold cf_16_59 | unfold cf_16_61 | unfold cf_16_71 | unfold cf_16_78 | unfold cf_16_81 | unfold cf_16_86 | unfold cf_16_87 | unfold cf_16_92 | unfold cf_16_96 | unfold cf_16_100 | unfold cf_16_110 | unfold cf_16_113 | unfold cf_16_123 | unfold cf_16_126 | unfold cf_16_127); try simp (disch := omega) only [ev_S, ev_C, ↓reduceIte, Nat.reduceEqDiff, Nat.reduceLeDiff, Nat.reduceAdd, Nat.reduceMul, Nat.reduceSub, reduceCtorEq, l32_0, l32_1, l32_2, l32_3, l32_4, l32_7, l32_12, q1, h2, h5a, ck, e])
      · repeat ((first | unfold mf_81 | unfold mf_81_0 | unfold mf_81_5 | unfold mf_81_12 | unfold mf_81_14 | unfold mf_81_26 | unfold mf_81_36 | unfold mf_81_40 | unfold mf_81_47 | unfold mf_81_50 | unfold mf_81_52 | unfold mf_81_58 | unfold mf_81_70 | unfold mf_81_76 | unfold mf_81_83 | unfold mf_81_86 | unfold mf_81_100 | unfold mf_81_107 | unfold mf_81_120 | unfold mf_81_124 | unfold mf_81_131 | unfold mf_81_134 | unfold mf_81_148 | unfold mf_81_149); try simp (disch := omega) only [ev_S, ev_P, ↓reduceIte, Nat.reduceEqDiff, Nat.reduceLeDiff, Nat.reduceAdd, Nat.reduceMul, Nat.reduceSub, reduceCtorEq, l32_0, l32_1, l32_2, l32_3, l32_4, l32_47, l32_2410, l32_166300, rk, e])
    · obtain ⟨t', v, u, b1, b2, b3, b4, b5⟩ := c_look (N := N) (X := X) hN h hH hj e1
      have b2 := cN_iff.mp b2
      rw [int_vw g0] at b2
      have b2 : v = tg 0 z := b2
      subst b2
      rw [e1] at ck rk
      have e : kdO (some x) = Int32.ofNat 0 := by
        have := (h6 j hj).2.hd
        rw [g1, e1] at this
        exact this.symm
      have kk := c_kindOf (N := N) (X := X) (t := t') (k := 0) (a := z)
      have ll := c_lowOf (N := N) (X := X) (t := t') (k := 0) (a := z)
      refine ⟨t', z, ?_, ?_, b4, b3.iH⟩
      · have b1 : cf_251 N X (Int32.ofNat j) t = some (t', .inl (some (.long (tg (Int32.ofNat 0) z)))) := b1
        have kk : cf_255 N X (tg (Int32.ofNat 0) z) t' = _ := kk
        have ll : cf_256 N X (tg (Int32.ofNat 0) z) t' = _ := ll
        repeat ((first | unfold cf_16 | unfold cf_16_0 | unfold cf_16_4 | unfold cf_16_7 | unfold cf_16_15 | unfold cf_16_19 | unfold cf_16_21 | unfold cf_16_26 | unfold cf_16_33 | unfold cf_16_36 | unfold cf_16_41 | unfold cf_16_42 | unfold cf_16_46 | unfold cf_16_56 | unfold cf_16_59 | unfold cf_16_61 | unfold cf_16_71 | unfold cf_16_78 | unfold cf_16_81 | unfold cf_16_86 | unfold cf_16_87 | unfold cf_16_92 | unfold cf_16_96 | unfold cf_16_100 | unfold cf_16_110 | unfold cf_16_113 | unfold cf_16_123 | unfold cf_16_126 | unfold cf_16_127); try simp (disch := omega) only [ev_S, ev_C, ↓reduceIte, Nat.reduceEqDiff, Nat.reduceLeDiff, Nat.reduceAdd, Nat.reduceMul, Nat.reduceSub, reduceCtorEq, l32_0, l32_1, l32_2, l32_3, l32_4, l32_7, l32_12, q1, h2, h5a, ck, e, b1, kk, ll])
      · repeat ((first | unfold mf_81 | unfold mf_81_0 | unfold mf_81_5 | unfold mf_81_12 | unfold mf_81_14 | unfold mf_81_26 | unfold mf_81_36 | unfold mf_81_40 | unfold mf_81_47 | unfold mf_81_50 | unfold mf_81_52 | unfold mf_81_58 | unfold mf_81_70 | unfold mf_81_76 | unfold mf_81_83 | unfold mf_81_86 | unfold mf_81_100 | unfold mf_81_107 | unfold mf_81_120 | unfold mf_81_124 | unfold mf_81_131 | unfold mf_81_134 | unfold mf_81_148 | unfold mf_81_149); try simp (disch := omega) only [ev_S, ev_P, ↓reduceIte, Nat.reduceEqDiff, Nat.reduceLeDiff, Nat.reduceAdd, Nat.reduceMul, Nat.reduceSub, reduceCtorEq, l32_0, l32_1, l32_2, l32_3, l32_4, l32_47, l32_2410, l32_166300, rk, e, g2])
    · obtain ⟨t', v, u, b1, b2, b3, b4, b5⟩ := c_look (N := N) (X := X) hN h hH hj e1
      have sz := c_size (N := N) (X := X) b3 b2
      have kv := c_kind (N := N) (X := X) b2
      obtain ⟨L1, L2⟩ := LayN_iff.mp g4
      have kd := L2.kd
      have b2 := cN_iff.mp b2
      have hw := vw_wf ⟨4, x⟩ (h7 j x e1)
      have hc : 2410 * j + wV wn (vw ⟨4, x⟩) ≤ 166300 := by
        have := (L1 (2410 * j + wV wn (vw ⟨4, x⟩) - 1) (by omega) (by omega)).2
        omega
      have zz := r_size (N := N) L2 hc
      rw [g3] at kv
      rw [e1] at ck rk
      have e : kdO (some x) = Int32.ofNat (m + 1) := by
        have := (h6 j hj).2.hd
        rw [g1, e1] at this
        exact this.symm
      generalize vw ⟨4, x⟩ = V at *
      have hz9 : szV V ≤ 64 := by
        obtain y | r | q | w := V
        · exact Nat.zero_le _
        · exact hw
        · exact Nat.le_trans hw.1 (by omega)
        · exact Nat.le_trans hw.1 (by omega)
      rcases ixi i with rfl | ⟨c1, c2⟩ | ⟨i, i1, rfl⟩
      · refine ⟨t', 0, ?_, ?_, b4, b3.iH⟩
        · repeat ((first | unfold cf_16 | unfold cf_16_0 | unfold cf_16_4 | unfold cf_16_7 | unfold cf_16_15 | unfold cf_16_19 | unfold cf_16_21 | unfold cf_16_26 | unfold cf_16_33 | unfold cf_16_36 | unfold cf_16_41 | unfold cf_16_42 | unfold cf_16_46 | unfold cf_16_56 | unfold cf_16_59 | unfold cf_16_61 | unfold cf_16_71 | unfold cf_16_78 | unfold cf_16_81 | unfold cf_16_86 | unfold cf_16_87 | unfold cf_16_92 | unfold cf_16_96 | unfold cf_16_100 | unfold cf_16_110 | unfold cf_16_113 | unfold cf_16_123 | unfold cf_16_126 | unfold cf_16_127); try simp (disch := omega) only [ev_S, ev_C, ↓reduceIte, Nat.reduceEqDiff, Nat.reduceLeDiff, Nat.reduceAdd, Nat.reduceMul, Nat.reduceSub, reduceCtorEq, l32_0, l32_1, l32_2, l32_3, l32_4, l32_7, l32_12, q1, h2, h5a, ck, e, b1, kv])
        · repeat ((first | unfold mf_81 | unfold mf_81_0 | unfold mf_81_5 | unfold mf_81_12 | unfold mf_81_14 | unfold mf_81_26 | unfold mf_81_36 | unfold mf_81_40 | unfold mf_81_47 | unfold mf_81_50 | unfold mf_81_52 | unfold mf_81_58 | unfold mf_81_70 | unfold mf_81_76 | unfold mf_81_83 | unfold mf_81_86 | unfold mf_81_100 | unfold mf_81_107 | unfold mf_81_120 | unfold mf_81_124 | unfold mf_81_131 | unfold mf_81_134 | unfold mf_81_148 | unfold mf_81_149); try simp (disch := omega) only [ev_S, ev_P, ↓reduceIte, Nat.reduceEqDiff, Nat.reduceLeDiff, Nat.reduceAdd, Nat.reduceMul, Nat.reduceSub, reduceCtorEq, l32_0, l32_1, l32_2, l32_3, l32_4, l32_47, l32_2410, l32_166300, rk, e])
      · have c1 : ¬ i = -Int32.ofNat 1 := c1
        have c2 : i < Int32.ofNat 0 := c2
        refine ⟨t', 0, ?_, ?_, b4, b3.iH⟩
        · repeat ((first | unfold cf_16 | unfold cf_16_0 | unfold cf_16_4 | unfold cf_16_7 | unfold cf_16_15 | unfold cf_16_19 | unfold cf_16_21 | unfold cf_16_26 | unfold cf_16_33 | unfold cf_16_36 | unfold cf_16_41 | unfold cf_16_42 | unfold cf_16_46 | unfold cf_16_56 | unfold cf_16_59 | unfold cf_16_61 | unfold cf_16_71 | unfold cf_16_78 | unfold cf_16_81 | unfold cf_16_86 | unfold cf_16_87 | unfold cf_16_92 | unfold cf_16_96 | unfold cf_16_100 | unfold cf_16_110 | unfold cf_16_113 | unfold cf_16_123 | unfold cf_16_126 | unfold cf_16_127); try simp (disch := omega) only [ev_S, ev_C, ↓reduceIte, Nat.reduceEqDiff, Nat.reduceLeDiff, Nat.reduceAdd, Nat.reduceMul, Nat.reduceSub, reduceCtorEq, l32_0, l32_1, l32_2, l32_3, l32_4, l32_7, l32_12, q1, h2, h5a, ck, e, b1, kv, c2])
        · repeat ((first | unfold mf_81 | unfold mf_81_0 | unfold mf_81_5 | unfold mf_81_12 | unfold mf_81_14 | unfold mf_81_26 | unfold mf_81_36 | unfold mf_81_40 | unfold mf_81_47 | unfold mf_81_50 | unfold mf_81_52 | unfold mf_81_58 | unfold mf_81_70 | unfold mf_81_76 | unfold mf_81_83 | unfold mf_81_86 | unfold mf_81_100 | unfold mf_81_107 | unfold mf_81_120 | unfold mf_81_124 | unfold mf_81_131 | unfold mf_81_134 | unfold mf_81_148 | unfold mf_81_149); try simp (disch := omega) only [ev_S, ev_P, ↓reduceIte, Nat.reduceEqDiff, Nat.reduceLeDiff, Nat.reduceAdd, Nat.reduceMul, Nat.reduceSub, reduceCtorEq, l32_0, l32_1, l32_2, l32_3, l32_4, l32_47, l32_2410, l32_166300, rk, e, c2])
      · by_cases c3 : szV V ≤ i
        · refine ⟨t', 0, ?_, ?_, b4, b3.iH⟩
          · repeat ((first | unfold cf_16 | unfold cf_16_0 | unfold cf_16_4 | unfold cf_16_7 | unfold cf_16_15 | unfold cf_16_19 | unfold cf_16_21 | unfold cf_16_26 | unfold cf_16_33 | unfold cf_16_36 | unfold cf_16_41 | unfold cf_16_42 | unfold cf_16_46 | unfold cf_16_56 | unfold cf_16_59 | unfold cf_16_61 | unfold cf_16_71 | unfold cf_16_78 | unfold cf_16_81 | unfold cf_16_86 | unfold cf_16_87 | unfold cf_16_92 | unfold cf_16_96 | unfold cf_16_100 | unfold cf_16_110 | unfold cf_16_113 | unfold cf_16_123 | unfold cf_16_126 | unfold cf_16_127); try simp (disch := omega) only [ev_S, ev_C, ↓reduceIte, Nat.reduceEqDiff, Nat.reduceLeDiff, Nat.reduceAdd, Nat.reduceMul, Nat.reduceSub, reduceCtorEq, l32_0, l32_1, l32_2, l32_3, l32_4, l32_7, l32_12, q1, h2, h5a, ck, e, b1, kv, sz])
          · repeat ((first | unfold mf_81 | unfold mf_81_0 | unfold mf_81_5 | unfold mf_81_12 | unfold mf_81_14 | unfold mf_81_26 | unfold mf_81_36 | unfold mf_81_40 | unfold mf_81_47 | unfold mf_81_50 | unfold mf_81_52 | unfold mf_81_58 | unfold mf_81_70 | unfold mf_81_76 | unfold mf_81_83 | unfold mf_81_86 | unfold mf_81_100 | unfold mf_81_107 | unfold mf_81_120 | unfold mf_81_124 | unfold mf_81_131 | unfold mf_81_134 | unfold mf_81_148 | unfold mf_81_149); try simp (disch := omega) only [ev_S, ev_P, ↓reduceIte, Nat.reduceEqDiff, Nat.reduceLeDiff, Nat.reduceAdd, Nat.reduceMul, Nat.reduceSub, reduceCtorEq, l32_0, l32_1, l32_2, l32_3, l32_4, l32_47, l32_2410, l32_166300, rk, e, zz])
        · obtain y | r | q | ⟨n, l⟩ := V
          · have := ofNat_inj (a := 0) (by omega) (by omega) g3
            omega
          · have em : 1 = m + 1 := ofNat_inj (a := 1) (by omega) (by omega) g3
            have em : m = 0 := by omega
            subst em
            have hi : i < r.length := by
              have : ¬ r.length ≤ i := c3
              omega
            have hz8 : r.length ≤ 64 := hz9
            have p1 := c_partR (N := N) (X := X) b3 b2 hi
            have kk := c_kindOf (N := N) (X := X) (t := t') (k := 0) (a := r[i])
            have ll := c_lowOf (N := N) (X := X) (t := t') (k := 0) (a := r[i])
            have kk : cf_255 N X (tg (Int32.ofNat 0) r[i]) t' = _ := kk
            have ll : cf_256 N X (tg (Int32.ofNat 0) r[i]) t' = _ := ll
            have ja : s.2.2.1 47 (2410 * j + 2 + i) = r[i] := L2.2.2 i hi
            refine ⟨t', r[i], ?_, ?_, b4, b3.iH⟩
            · repeat ((first | unfold cf_16 | unfold cf_16_0 | unfold cf_16_4 | unfold cf_16_7 | unfold cf_16_15 | unfold cf_16_19 | unfold cf_16_21 | unfold cf_16_26 | unfold cf_16_33 | unfold cf_16_36 | unfold cf_16_41 | unfold cf_16_42 | unfold cf_16_46 | unfold cf_16_56 | unfold cf_16_59 | unfold cf_16_61 | unfold cf_16_71 | unfold cf_16_78 | unfold cf_16_81 | unfold cf_16_86 | unfold cf_16_87 | unfold cf_16_92 | unfold cf_16_96 | unfold cf_16_100 | unfold cf_16_110 | unfold cf_16_113 | unfold cf_16_123 | unfold cf_16_126 | unfold cf_16_127); try simp (disch := omega) only [ev_S, ev_C, ↓reduceIte, Nat.reduceEqDiff, Nat.reduceLeDiff, Nat.reduceAdd, Nat.reduceMul, Nat.reduceSub, reduceCtorEq, l32_0, l32_1, l32_2, l32_3, l32_4, l32_7, l32_12, q1, h2, h5a, ck, e, b1, sz, szV, kv, p1, kk, ll])
            · repeat ((first | unfold mf_81 | unfold mf_81_0 | unfold mf_81_5 | unfold mf_81_12 | unfold mf_81_14 | unfold mf_81_26 | unfold mf_81_36 | unfold mf_81_40 | unfold mf_81_47 | unfold mf_81_50 | unfold mf_81_52 | unfold mf_81_58 | unfold mf_81_70 | unfold mf_81_76 | unfold mf_81_83 | unfold mf_81_86 | unfold mf_81_100 | unfold mf_81_107 | unfold mf_81_120 | unfold mf_81_124 | unfold mf_81_131 | unfold mf_81_134 | unfold mf_81_148 | unfold mf_81_149); try simp (disch := omega) only [ev_S, ev_P, ↓reduceIte, Nat.reduceEqDiff, Nat.reduceLeDiff, Nat.reduceAdd, Nat.reduceMul, Nat.reduceSub, reduceCtorEq, l32_0, l32_1, l32_2, l32_3, l32_4, l32_47, l32_2410, l32_166300, rk, e, zz, szV, ja])
          · have em : 2 = m + 1 := ofNat_inj (a := 2) (by omega) (by omega) g3
            have em : m = 1 := by omega
            subst em
            have hi : i < q.length := by
              have : ¬ q.length ≤ i := c3
              omega
            have hz8 : q.length ≤ 64 := hz9
            obtain ⟨v', p1, p2⟩ := c_partT (N := N) (X := X) b3 b2 hi
            have pk := c_kind (N := N) (X := X) p2
            have pk : cf_255 N X v' t' = some (t', .inl (some (.int (Int32.ofNat 1)))) := pk
            obtain ⟨c, o1, o2⟩ := r_partT (N := N) L2 hc hi
            obtain ⟨M1, M2⟩ := LayN_iff.mp o2
            have kd2 := M2.kd
            have hc2 : c + wV wn (vw (nR q[i])) ≤ 166300 := by
              have := (M1 (c + wV wn (vw (nR q[i])) - 1) (by omega) (by omega)).2
              omega
            obtain ⟨z, y1, y2⟩ := cell_row (N := N) (X := X) (r := q[i]) (hw.2.2 _ (List.getElem_mem hi)) b3 p2 M2 hc2 jj
            refine ⟨t', z, ?_, ?_, b4, b3.iH⟩
            · rw [← y1]
              repeat ((first | unfold cf_16_0 | unfold cf_16_4 | unfold cf_16_7 | unfold cf_16_15 | unfold cf_16_21 | unfold cf_16_26 | unfold cf_16_33 | unfold cf_16_42 | unfold cf_16_46 | unfold cf_16_56 | unfold cf_16_61 | unfold cf_16_71 | unfold cf_16_78 | unfold cf_16 | unfold cf_16_0 | unfold cf_16_4 | unfold cf_16_7 | unfold cf_16_15 | unfold cf_16_19 | unfold cf_16_21 | unfold cf_16_26 | unfold cf_16_33 | unfold cf_16_36 | unfold cf_16_41 | unfold cf_16_42 | unfold cf_16_46 | unfold cf_16_56 | unfold cf_16_59 | unfold cf_16_61 | unfold cf_16_71 | unfold cf_16_78 | unfold cf_16_81 | unfold cf_16_86 | unfold cf_16_87 | unfold cf_16_92 | unfold cf_16_96 | unfold cf_16_100 | unfold cf_16_110 | unfold cf_16_113 | unfold cf_16_123 | unfold cf_16_126 | unfold cf_16_127); try simp (disch := omega) only [ev_S, ev_C, ↓reduceIte, Nat.reduceEqDiff, Nat.reduceLeDiff, Nat.reduceAdd, Nat.reduceMul, Nat.reduceSub, reduceCtorEq, l32_0, l32_1, l32_2, l32_3, l32_4, l32_7, l32_12, q1, h2, h5a, ck, e, b1, sz, szV, kv, p1, pk])
            · rw [← y2]
              repeat ((first | unfold mf_81_0 | unfold mf_81_5 | unfold mf_81_14 | unfold mf_81_36 | unfold mf_81_40 | unfold mf_81_47 | unfold mf_81_52 | unfold mf_81_70 | unfold mf_81_76 | unfold mf_81_83 | unfold mf_81_100 | unfold mf_81 | unfold mf_81_0 | unfold mf_81_5 | unfold mf_81_12 | unfold mf_81_14 | unfold mf_81_26 | unfold mf_81_36 | unfold mf_81_40 | unfold mf_81_47 | unfold mf_81_50 | unfold mf_81_52 | unfold mf_81_58 | unfold mf_81_70 | unfold mf_81_76 | unfold mf_81_83 | unfold mf_81_86 | unfold mf_81_100 | unfold mf_81_107 | unfold mf_81_120 | unfold mf_81_124 | unfold mf_81_131 | unfold mf_81_134 | unfold mf_81_148 | unfold mf_81_149); try simp (disch := omega) only [ev_S, ev_P, ↓reduceIte, Nat.reduceEqDiff, Nat.reduceLeDiff, Nat.reduceAdd, Nat.reduceMul, Nat.reduceSub, reduceCtorEq, l32_0, l32_1, l32_2, l32_3, l32_4, l32_47, l32_2410, l32_166300, rk, e, zz, szV, o1])
          · have em : 3 = m + 1 := ofNat_inj (a := 3) (by omega) (by omega) g3
            have em : m = 2 := by omega
            subst em
            have hi : i < l.length := by
              have : ¬ l.length ≤ i := c3
              omega
            have hz8 : l.length ≤ 64 := hz9
            obtain ⟨v', p1, p2⟩ := c_partP (N := N) (X := X) b3 b2 hi
            have pk := c_kind (N := N) (X := X) p2
            have ii := r_isInt (N := N) L2 hc hi
            have iv : intT n l[i] = intV (vw ⟨n, l[i]⟩) := vw_int ⟨n, l[i]⟩
            have hwi := vw_wf ⟨n, l[i]⟩ (hw.2.2 _ (List.getElem_mem hi))
            cases hA : intT n l[i] with
            | some z =>
              rw [hA] at ii
              have ii : mf_293 N (Int32.ofNat (2410 * j)) (Int32.ofNat i) s = some (s, some (.int 1)) := ii
              have ev := intV_s (iv.symm.trans hA)
              have p3 := cN_iff.mp p2
              rw [ev] at p3 pk
              have p3 : v' = tg 0 z := p3
              subst p3
              have p1 : cf_129 N X v (Int32.ofNat i) t' = some (t', .inl (some (.long (tg (Int32.ofNat 0) z)))) := p1
              have ll := c_lowOf (N := N) (X := X) (t := t') (k := 0) (a := z)
              have ll : cf_256 N X (tg (Int32.ofNat 0) z) t' = _ := ll
              have pk : cf_255 N X (tg (Int32.ofNat 0) z) t' = some (t', .inl (some (.int (Int32.ofNat 0)))) := pk
              have ja := ((L2.2.2 i hi).1 z hA).2
              refine ⟨t', z, ?_, ?_, b4, b3.iH⟩
              · repeat ((first | unfold cf_16 | unfold cf_16_0 | unfold cf_16_4 | unfold cf_16_7 | unfold cf_16_15 | unfold cf_16_19 | unfold cf_16_21 | unfold cf_16_26 | unfold cf_16_33 | unfold cf_16_36 | unfold cf_16_41 | unfold cf_16_42 | unfold cf_16_46 | unfold cf_16_56 | unfold cf_16_59 | unfold cf_16_61 | unfold cf_16_71 | unfold cf_16_78 | unfold cf_16_81 | unfold cf_16_86 | unfold cf_16_87 | unfold cf_16_92 | unfold cf_16_96 | unfold cf_16_100 | unfold cf_16_110 | unfold cf_16_113 | unfold cf_16_123 | unfold cf_16_126 | unfold cf_16_127); try simp (disch := omega) only [ev_S, ev_C, ↓reduceIte, Nat.reduceEqDiff, Nat.reduceLeDiff, Nat.reduceAdd, Nat.reduceMul, Nat.reduceSub, reduceCtorEq, l32_0, l32_1, l32_2, l32_3, l32_4, l32_7, l32_12, q1, h2, h5a, ck, e, b1, sz, szV, kv, p1, pk, ll])
              · repeat ((first | unfold mf_81 | unfold mf_81_0 | unfold mf_81_5 | unfold mf_81_12 | unfold mf_81_14 | unfold mf_81_26 | unfold mf_81_36 | unfold mf_81_40 | unfold mf_81_47 | unfold mf_81_50 | unfold mf_81_52 | unfold mf_81_58 | unfold mf_81_70 | unfold mf_81_76 | unfold mf_81_83 | unfold mf_81_86 | unfold mf_81_100 | unfold mf_81_107 | unfold mf_81_120 | unfold mf_81_124 | unfold mf_81_131 | unfold mf_81_134 | unfold mf_81_148 | unfold mf_81_149); try simp (disch := omega) only [ev_S, ev_P, ↓reduceIte, Nat.reduceEqDiff, Nat.reduceLeDiff, Nat.reduceAdd, Nat.reduceMul, Nat.reduceSub, reduceCtorEq, l32_0, l32_1, l32_2, l32_3, l32_4, l32_47, l32_2410, l32_166300, rk, e, zz, szV, ii, ja])
            | none =>
              rw [hA] at ii
              have ii : mf_293 N (Int32.ofNat (2410 * j)) (Int32.ofNat i) s = some (s, some (.int 0)) := ii
              obtain ⟨c, o1, o2⟩ := r_partP (N := N) L2 hc hi hA
              obtain ⟨M1, M2⟩ := LayN_iff.mp o2
              have kd2 := M2.kd
              have hc2 : c + wV wn (vw ⟨n, l[i]⟩) ≤ 166300 := by
                have := (M1 (c + wV wn (vw ⟨n, l[i]⟩) - 1) (by omega) (by omega)).2
                omega
              have kd3 := kd2.1
              have p3 := cN_iff.mp p2
              have hn := intV_n (iv.symm.trans hA)
              have hn : ¬ kdV (vw ⟨n, l[i]⟩) = Int32.ofNat 0 := hn
              by_cases k1 : kdV (vw ⟨n, l[i]⟩) = 1
              · have ev := kd1 (x := ⟨n, l[i]⟩) k1
                rw [ev] at M2 hc2 hwi
                obtain ⟨z, y1, y2⟩ := cell_row (N := N) (X := X) (r := rvN ⟨n, l[i]⟩) hwi b3 ((cN_vw (y := nR (rvN ⟨n, l[i]⟩)) ev).mp p2) M2 hc2 jj
                have pk : cf_255 N X v' t' = some (t', .inl (some (.int (Int32.ofNat 1)))) := by
                  rw [pk, k1]
                  rfl
                refine ⟨t', z, ?_, ?_, b4, b3.iH⟩
                · rw [← y1]
                  repeat ((first | unfold cf_16_0 | unfold cf_16_4 | unfold cf_16_7 | unfold cf_16_15 | unfold cf_16_21 | unfold cf_16_26 | unfold cf_16_33 | unfold cf_16_42 | unfold cf_16_46 | unfold cf_16_56 | unfold cf_16_61 | unfold cf_16_71 | unfold cf_16_78 | unfold cf_16 | unfold cf_16_0 | unfold cf_16_4 | unfold cf_16_7 | unfold cf_16_15 | unfold cf_16_19 | unfold cf_16_21 | unfold cf_16_26 | unfold cf_16_33 | unfold cf_16_36 | unfold cf_16_41 | unfold cf_16_42 | unfold cf_16_46 | unfold cf_16_56 | unfold cf_16_59 | unfold cf_16_61 | unfold cf_16_71 | unfold cf_16_78 | unfold cf_16_81 | unfold cf_16_86 | unfold cf_16_87 | unfold cf_16_92 | unfold cf_16_96 | unfold cf_16_100 | unfold cf_16_110 | unfold cf_16_113 | unfold cf_16_123 | unfold cf_16_126 | unfold cf_16_127); try simp (disch := omega) only [ev_S, ev_C, ↓reduceIte, Nat.reduceEqDiff, Nat.reduceLeDiff, Nat.reduceAdd, Nat.reduceMul, Nat.reduceSub, reduceCtorEq, l32_0, l32_1, l32_2, l32_3, l32_4, l32_7, l32_12, q1, h2, h5a, ck, e, b1, sz, szV, kv, p1, pk])
                · rw [← y2]
                  repeat ((first | unfold mf_81_0 | unfold mf_81_5 | unfold mf_81_14 | unfold mf_81_36 | unfold mf_81_40 | unfold mf_81_47 | unfold mf_81_52 | unfold mf_81_70 | unfold mf_81_76 | unfold mf_81_83 | unfold mf_81_100 | unfold mf_81 | unfold mf_81_0 | unfold mf_81_5 | unfold mf_81_12 | unfold mf_81_14 | unfold mf_81_26 | unfold mf_81_36 | unfold mf_81_40 | unfold mf_81_47 | unfold mf_81_50 | unfold mf_81_52 | unfold mf_81_58 | unfold mf_81_70 | unfold mf_81_76 | unfold mf_81_83 | unfold mf_81_86 | unfold mf_81_100 | unfold mf_81_107 | unfold mf_81_120 | unfold mf_81_124 | unfold mf_81_131 | unfold mf_81_134 | unfold mf_81_148 | unfold mf_81_149); try simp (disch := omega) only [ev_S, ev_P, ↓reduceIte, Nat.reduceEqDiff, Nat.reduceLeDiff, Nat.reduceAdd, Nat.reduceMul, Nat.reduceSub, reduceCtorEq, l32_0, l32_1, l32_2, l32_3, l32_4, l32_47, l32_2410, l32_166300, rk, e, zz, szV, ii, o1])
              · have k1 : ¬ kdV (vw ⟨n, l[i]⟩) = Int32.ofNat 1 := k1
                refine ⟨t', 0, ?_, ?_, b4, b3.iH⟩
                · repeat ((first | unfold cf_16 | unfold cf_16_0 | unfold cf_16_4 | unfold cf_16_7 | unfold cf_16_15 | unfold cf_16_19 | unfold cf_16_21 | unfold cf_16_26 | unfold cf_16_33 | unfold cf_16_36 | unfold cf_16_41 | unfold cf_16_42 | unfold cf_16_46 | unfold cf_16_56 | unfold cf_16_59 | unfold cf_16_61 | unfold cf_16_71 | unfold cf_16_78 | unfold cf_16_81 | unfold cf_16_86 | unfold cf_16_87 | unfold cf_16_92 | unfold cf_16_96 | unfold cf_16_100 | unfold cf_16_110 | unfold cf_16_113 | unfold cf_16_123 | unfold cf_16_126 | unfold cf_16_127); try simp (disch := omega) only [ev_S, ev_C, ↓reduceIte, Nat.reduceEqDiff, Nat.reduceLeDiff, Nat.reduceAdd, Nat.reduceMul, Nat.reduceSub, reduceCtorEq, l32_0, l32_1, l32_2, l32_3, l32_4, l32_7, l32_12, q1, h2, h5a, ck, e, b1, sz, szV, kv, p1, pk, hn, k1])
                · repeat ((first | unfold mf_81 | unfold mf_81_0 | unfold mf_81_5 | unfold mf_81_12 | unfold mf_81_14 | unfold mf_81_26 | unfold mf_81_36 | unfold mf_81_40 | unfold mf_81_47 | unfold mf_81_50 | unfold mf_81_52 | unfold mf_81_58 | unfold mf_81_70 | unfold mf_81_76 | unfold mf_81_83 | unfold mf_81_86 | unfold mf_81_100 | unfold mf_81_107 | unfold mf_81_120 | unfold mf_81_124 | unfold mf_81_131 | unfold mf_81_134 | unfold mf_81_148 | unfold mf_81_149); try simp (disch := omega) only [ev_S, ev_P, ↓reduceIte, Nat.reduceEqDiff, Nat.reduceLeDiff, Nat.reduceAdd, Nat.reduceMul, Nat.reduceSub, reduceCtorEq, l32_0, l32_1, l32_2, l32_3, l32_4, l32_47, l32_2410, l32_166300, rk, e, zz, szV, ii, o1, kd3, k1])
  · refine ⟨t, 0, ?_, ?_, rfr.rf, hH⟩
    · have q1 := q1 N X t
      repeat ((first | unfold cf_16 | unfold cf_16_0 | unfold cf_16_4 | unfold cf_16_7 | unfold cf_16_15 | unfold cf_16_19 | unfold cf_16_21 | unfold cf_16_26 | unfold cf_16_33 | unfold cf_16_36 | unfold cf_16_41 | unfold cf_16_42 | unfold cf_16_46 | unfold cf_16_56 | unfold cf_16_59 | unfold cf_16_61 | unfold cf_16_71 | unfold cf_16_78 | unfold cf_16_81 | unfold cf_16_86 | unfold cf_16_87 | unfold cf_16_92 | unfold cf_16_96 | unfold cf_16_100 | unfold cf_16_110 | unfold cf_16_113 | unfold cf_16_123 | unfold cf_16_126 | unfold cf_16_127); try simp (disch := omega) only [ev_S, ev_C, ↓reduceIte, Nat.reduceEqDiff, Nat.reduceLeDiff, Nat.reduceAdd, Nat.reduceMul, Nat.reduceSub, reduceCtorEq, l32_0, l32_1, l32_2, l32_3, l32_4, l32_7, l32_12, q1])
    · have r1 := q2 N s
      have r2 : mf_79 N a s = some (s, some (.int (-1))) := by
        repeat ((first | unfold mf_79 | unfold mf_79_0 | unfold mf_79_4 | unfold mf_79_7 | unfold mf_79_20 | unfold mf_79_21); try simp (disch := omega) only [ev_S, ev_P, ↓reduceIte, Nat.reduceEqDiff, Nat.reduceLeDiff, Nat.reduceAdd, Nat.reduceMul, Nat.reduceSub, reduceCtorEq, l32_0, l32_1, l32_2, l32_3, l32_4, l32_47, l32_2410, l32_166300, r1])
      repeat ((first | unfold mf_81 | unfold mf_81_0 | unfold mf_81_5 | unfold mf_81_12 | unfold mf_81_14 | unfold mf_81_26 | unfold mf_81_36 | unfold mf_81_40 | unfold mf_81_47 | unfold mf_81_50 | unfold mf_81_52 | unfold mf_81_58 | unfold mf_81_70 | unfold mf_81_76 | unfold mf_81_83 | unfold mf_81_86 | unfold mf_81_100 | unfold mf_81_107 | unfold mf_81_120 | unfold mf_81_124 | unfold mf_81_131 | unfold mf_81_134 | unfold mf_81_148 | unfold mf_81_149); try simp (disch := omega) only [ev_S, ev_P, ↓reduceIte, Nat.reduceEqDiff, Nat.reduceLeDiff, Nat.reduceAdd, Nat.reduceMul, Nat.reduceSub, reduceCtorEq, l32_0, l32_1, l32_2, l32_3, l32_4, l32_47, l32_2410, l32_166300, r2])
end SCG
