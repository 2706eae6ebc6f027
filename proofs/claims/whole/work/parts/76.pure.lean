/-! ===== PURE: size and cell (2) ===== -/
section SCF
variable {N : Nat} {X : Nat → Option zz_C} {S : Nat → Option (Th 4)} {σ0 k : Nat} {μ : Nat → Nat} {t : cS} {s : mS}
/-- a slot's INT is its THING's -/
theorem int_vw {x : Th 4} {z : Int32} (h : ser 4 x = [0, z]) : vw ⟨4, x⟩ = .inl z := by
  have e : ser 4 x = _ := vw_ser ⟨4, x⟩
  rw [h] at e
  generalize vw ⟨4, x⟩ = V at e
  obtain y | r | q | w := V
  · have := (List.cons.inj (List.cons.inj e).2).1
    rw [this]
  · exact absurd (List.cons.inj e).1 (show ¬ (0 : Int32) = 1 by decide)
  · exact absurd (List.cons.inj e).1 (show ¬ (0 : Int32) = 2 by decide)
  · exact absurd (List.cons.inj e).1 (show ¬ (0 : Int32) = 3 by decide)
theorem p_size (hN : 170000 ≤ N) (h : iS S σ0 k μ t s) (hH : iH t) (a i : Int32) : ∃ t', ∃ v : Int32, cf_15 N X a i t = some (t', .inl (some (.int v))) ∧ mf_80 N a i s = some (s, some (.int v)) ∧ rfr σ0 t t' ∧ iH t' := by
  have h' := h
  obtain ⟨h1, h2, h3, h4, ⟨h5, h50⟩, h6, h7, -⟩ := h'
  have h5a := h5.1
  rcases isSh a with ⟨j, hj, rfl, q1, q2⟩ | ⟨q1, q2⟩
  · have ck := c_kindOn (N := N) (X := X) h5 hj (Nat.le_trans (serO_len (fun y hy => h7 j y hy)) (by omega)) (h6 j hj).1
    have rk := r_kind (N := N) hj q2 (h6 j hj).2
    have q1 := q1 N X t
    obtain ⟨e1, g1⟩ | ⟨x, z, e1, g0, g1, g2⟩ | ⟨x, m, e1, g1, g2, g3, g4⟩ := slot3 (h6 j hj).2
    · rw [e1] at ck rk
      have e : kdO none = -Int32.ofNat 1 := rfl
      refine ⟨t, -1, ?_, ?_, rfr.rf, hH⟩
      · repeat ((first | unfold cf_15 | unfold cf_15_0 | unfold cf_15_4 | unfold cf_15_7 | unfold cf_15_15 | unfold cf_15_19 | unfold cf_15_21 | unfold cf_15_26 | unfold cf_15_32 | unfold cf_15_40 | unfold cf_15_41 | unfold cf_15_45 | unfold cf_15_54 | unfold cf_15_57 | unfold cf_15_61 | unfold cf_15_65 | unfold cf_15_67 | unfold cf_15_76 | unfold cf_15_82 | unfold cf_15_86 | unfold cf_15_95 | unfold cf_15_98 | unfold cf_15_103); try simp (disch := omega) only [ev_S, ev_C, ↓reduceIte, Nat.reduceEqDiff, Nat.reduceLeDiff, Nat.reduceAdd, Nat.reduceMul, Nat.reduceSub, reduceCtorEq, l32_0, l32_1, l32_2, l32_3, l32_4, l32_7, l32_12, q1, h2, h5a, ck, e])
      · repeat ((first | unfold mf_80 | unfold mf_80_0 | unfold mf_80_5 | unfold mf_80_10 | unfold mf_80_12 | unfold mf_80_24 | unfold mf_80_28 | unfold mf_80_32 | unfold mf_80_38 | unfold mf_80_39 | unfold mf_80_44 | unfold mf_80_48 | unfold mf_80_55 | unfold mf_80_58 | unfold mf_80_60 | unfold mf_80_65 | unfold mf_80_73 | unfold mf_80_76 | unfold mf_80_77 | unfold mf_80_84 | unfold mf_80_87 | unfold mf_80_91 | unfold mf_80_102 | unfold mf_80_103); try simp (disch := omega) only [ev_S, ev_P, ↓reduceIte, Nat.reduceEqDiff, Nat.reduceLeDiff, Nat.reduceAdd, Nat.reduceMul, Nat.reduceSub, reduceCtorEq, l32_0, l32_1, l32_2, l32_3, l32_4, l32_47, l32_2410, l32_166300, rk, e])
    · obtain ⟨t', v, u, b1, b2, b3, b4, b5⟩ := c_look (N := N) (X := X) hN h hH hj e1
      have sz := c_size (N := N) (X := X) b3 b2
      rw [int_vw g0] at sz
      rw [e1] at ck rk
      have e : kdO (some x) = Int32.ofNat 0 := by
        have := (h6 j hj).2.hd
        rw [g1, e1] at this
        exact this.symm
      rcases ixi i with rfl | ⟨c1, c2⟩ | ⟨m, m1, rfl⟩
      · refine ⟨t', 0, ?_, ?_, b4, b3.iH⟩
        · repeat ((first | unfold cf_15 | unfold cf_15_0 | unfold cf_15_4 | unfold cf_15_7 | unfold cf_15_15 | unfold cf_15_19 | unfold cf_15_21 | unfold cf_15_26 | unfold cf_15_32 | unfold cf_15_40 | unfold cf_15_41 | unfold cf_15_45 | unfold cf_15_54 | unfold cf_15_57 | unfold cf_15_61 | unfold cf_15_65 | unfold cf_15_67 | unfold cf_15_76 | unfold cf_15_82 | unfold cf_15_86 | unfold cf_15_95 | unfold cf_15_98 | unfold cf_15_103); try simp (disch := omega) only [ev_S, ev_C, ↓reduceIte, Nat.reduceEqDiff, Nat.reduceLeDiff, Nat.reduceAdd, Nat.reduceMul, Nat.reduceSub, reduceCtorEq, l32_0, l32_1, l32_2, l32_3, l32_4, l32_7, l32_12, q1, h2, h5a, ck, e, b1, sz, szV])
        · repeat ((first | unfold mf_80 | unfold mf_80_0 | unfold mf_80_5 | unfold mf_80_10 | unfold mf_80_12 | unfold mf_80_24 | unfold mf_80_28 | unfold mf_80_32 | unfold mf_80_38 | unfold mf_80_39 | unfold mf_80_44 | unfold mf_80_48 | unfold mf_80_55 | unfold mf_80_58 | unfold mf_80_60 | unfold mf_80_65 | unfold mf_80_73 | unfold mf_80_76 | unfold mf_80_77 | unfold mf_80_84 | unfold mf_80_87 | unfold mf_80_91 | unfold mf_80_102 | unfold mf_80_103); try simp (disch := omega) only [ev_S, ev_P, ↓reduceIte, Nat.reduceEqDiff, Nat.reduceLeDiff, Nat.reduceAdd, Nat.reduceMul, Nat.reduceSub, reduceCtorEq, l32_0, l32_1, l32_2, l32_3, l32_4, l32_47, l32_2410, l32_166300, rk, e])
      · have c1 : ¬ i = -Int32.ofNat 1 := c1
        have c2 : i < Int32.ofNat 0 := c2
        refine ⟨t', -1, ?_, ?_, b4, b3.iH⟩
        · repeat ((first | unfold cf_15 | unfold cf_15_0 | unfold cf_15_4 | unfold cf_15_7 | unfold cf_15_15 | unfold cf_15_19 | unfold cf_15_21 | unfold cf_15_26 | unfold cf_15_32 | unfold cf_15_40 | unfold cf_15_41 | unfold cf_15_45 | unfold cf_15_54 | unfold cf_15_57 | unfold cf_15_61 | unfold cf_15_65 | unfold cf_15_67 | unfold cf_15_76 | unfold cf_15_82 | unfold cf_15_86 | unfold cf_15_95 | unfold cf_15_98 | unfold cf_15_103); try simp (disch := omega) only [ev_S, ev_C, ↓reduceIte, Nat.reduceEqDiff, Nat.reduceLeDiff, Nat.reduceAdd, Nat.reduceMul, Nat.reduceSub, reduceCtorEq, l32_0, l32_1, l32_2, l32_3, l32_4, l32_7, l32_12, q1, h2, h5a, ck, e, b1, sz, szV, c1, c2])
        · repeat ((first | unfold mf_80 | unfold mf_80_0 | unfold mf_80_5 | unfold mf_80_10 | unfold mf_80_12 | unfold mf_80_24 | unfold mf_80_28 | unfold mf_80_32 | unfold mf_80_38 | unfold mf_80_39 | unfold mf_80_44 | unfold mf_80_48 | unfold mf_80_55 | unfold mf_80_58 | unfold mf_80_60 | unfold mf_80_65 | unfold mf_80_73 | unfold mf_80_76 | unfold mf_80_77 | unfold mf_80_84 | unfold mf_80_87 | unfold mf_80_91 | unfold mf_80_102 | unfold mf_80_103); try simp (disch := omega) only [ev_S, ev_P, ↓reduceIte, Nat.reduceEqDiff, Nat.reduceLeDiff, Nat.reduceAdd, Nat.reduceMul, Nat.reduceSub, reduceCtorEq, l32_0, l32_1, l32_2, l32_3, l32_4, l32_47, l32_2410, l32_166300, rk, e, c1])
      · refine ⟨t', -1, ?_, ?_, b4, b3.iH⟩
        · repeat ((first | unfold cf_15 | unfold cf_15_0 | unfold cf_15_4 | unfold cf_15_7 | unfold cf_15_15 | unfold cf_15_19 | unfold cf_15_21 | unfold cf_15_26 | unfold cf_15_32 | unfold cf_15_40 | unfold cf_15_41 | unfold cf_15_45 | unfold cf_15_54 | unfold cf_15_57 | unfold cf_15_61 | unfold cf_15_65 | unfold cf_15_67 | unfold cf_15_76 | unfold cf_15_82 | unfold cf_15_86 | unfold cf_15_95 | unfold cf_15_98 | unfold cf_15_103); try simp (disch := omega) only [ev_S, ev_C, ↓reduceIte, Nat.reduceEqDiff, Nat.reduceLeDiff, Nat.reduceAdd, Nat.reduceMul, Nat.reduceSub, reduceCtorEq, l32_0, l32_1, l32_2, l32_3, l32_4, l32_7, l32_12, q1, h2, h5a, ck, e, b1, sz, szV])
        · repeat ((first | unfold mf_80 | unfold mf_80_0 | unfold mf_80_5 | unfold mf_80_10 | unfold mf_80_12 | unfold mf_80_24 | unfold mf_80_28 | unfold mf_80_32 | unfold mf_80_38 | unfold mf_80_39 | unfold mf_80_44 | unfold mf_80_48 | unfold mf_80_55 | unfold mf_80_58 | unfold mf_80_60 | unfold mf_80_65 | unfold mf_80_73 | unfold mf_80_76 | unfold mf_80_77 | unfold mf_80_84 | unfold mf_80_87 | unfold mf_80_91 | unfold mf_80_102 | unfold mf_80_103); try simp (disch := omega) only [ev_S, ev_P, ↓reduceIte, Nat.reduceEqDiff, Nat.reduceLeDiff, Nat.reduceAdd, Nat.reduceMul, Nat.reduceSub, reduceCtorEq, l32_0, l32_1, l32_2, l32_3, l32_4, l32_47, l32_2410, l32_166300, rk, e])
    · obtain ⟨t', v, u, b1, b2, b3, b4, b5⟩ := c_look (N := N) (X := X) hN h hH hj e1
      have sz := c_size (N := N) (X := X) b3 b2
      have kv := c_kind (N := N) (X := X) b2
      obtain ⟨L1, L2⟩ := LayN_iff.mp g4
      have kd := L2.kd
      have b2 := cN_iff.mp b2
      have hw := vw_wf ⟨4, x⟩ (h7 j x e1)
      have hc : 2410 * j + wV wn (vw ⟨4, x⟩) ≤ 166300 := by
        have := (L1 (2410 * j + wV wn (vw ⟨4, x⟩) - 1) (by omega) (by omega)).2
        omega
      have zz := r_size (N := N) L2 hc
      rw [g3] at kv
      rw [e1] at ck rk
      have e : kdO (some x) = Int32.ofNat (m + 1) := by
        have := (h6 j hj).2.hd
        rw [g1, e1] at this
        exact this.symm
      generalize vw ⟨4, x⟩ = V at *
      have hz9 : szV V ≤ 64 := by
        obtain y | r | q | w := V
        · exact Nat.zero_le _
        · exact hw
        · exact Nat.le_trans hw.1 (by omega)
        · exact Nat.le_trans hw.1 (by omega)
      rcases ixi i with rfl | ⟨c1, c2⟩ | ⟨i, i1, rfl⟩
      · refine ⟨t', Int32.ofNat (szV V), ?_, ?_, b4, b3.iH⟩
        · repeat ((first | unfold cf_15 | unfold cf_15_0 | unfold cf_15_4 | unfold cf_15_7 | unfold cf_15_15 | unfold cf_15_19 | unfold cf_15_21 | unfold cf_15_26 | unfold cf_15_32 | unfold cf_15_40 | unfold cf_15_41 | unfold cf_15_45 | unfold cf_15_54 | unfold cf_15_57 | unfold cf_15_61 | unfold cf_15_65 | unfold cf_15_67 | unfold cf_15_76 | unfold cf_15_82 | unfold cf_15_86 | unfold cf_15_95 | unfold cf_15_98 | unfold cf_15_103); try simp (disch := omega) only [ev_S, ev_C, ↓reduceIte, Nat.reduceEqDiff, Nat.reduceLeDiff, Nat.reduceAdd, Nat.reduceMul, Nat.reduceSub, reduceCtorEq, l32_0, l32_1, l32_2, l32_3, l32_4, l32_7, l32_12, q1, h2, h5a, ck, e, b1, sz])
        · repeat ((first | unfold mf_80 | unfold mf_80_0 | unfold mf_80_5 | unfold mf_80_10 | unfold mf_80_12 | unfold mf_80_24 | unfold mf_80_28 | unfold mf_80_32 | unfold mf_80_38 | unfold mf_80_39 | unfold mf_80_44 | unfold mf_80_48 | unfold mf_80_55 | unfold mf_80_58 | unfold mf_80_60 | unfold mf_80_65 | unfold mf_80_73 | unfold mf_80_76 | unfold mf_80_77 | unfold mf_80_84 | unfold mf_80_87 | unfold mf_80_91 | unfold mf_80_102 | unfold mf_80_103); try simp (disch := omega) only [ev_S, ev_P, ↓reduceIte, Nat.reduceEqDiff, Nat.reduceLeDiff, Nat.reduceAdd, Nat.reduceMul, Nat.reduceSub, reduceCtorEq, l32_0, l32_1, l32_2, l32_3, l32_4, l32_47, l32_2410, l32_166300, rk, e, zz])
      · have c1 : ¬ i = -Int32.ofNat 1 := c1
        have c2 : i < Int32.ofNat 0 := c2
        refine ⟨t', -1, ?_, ?_, b4, b3.iH⟩
        · repeat ((first | unfold cf_15 | unfold cf_15_0 | unfold cf_15_4 | unfold cf_15_7 | unfold cf_15_15 | unfold cf_15_19 | unfold cf_15_21 | unfold cf_15_26 | unfold cf_15_32 | unfold cf_15_40 | unfold cf_15_41 | unfold cf_15_45 | unfold cf_15_54 | unfold cf_15_57 | unfold cf_15_61 | unfold cf_15_65 | unfold cf_15_67 | unfold cf_15_76 | unfold cf_15_82 | unfold cf_15_86 | unfold cf_15_95 | unfold cf_15_98 | unfold cf_15_103); try simp (disch := omega) only [ev_S, ev_C, ↓reduceIte, Nat.reduceEqDiff, Nat.reduceLeDiff, Nat.reduceAdd, Nat.reduceMul, Nat.reduceSub, reduceCtorEq, l32_0, l32_1, l32_2, l32_3, l32_4, l32_7, l32_12, q1, h2, h5a, ck, e, b1, c1, c2])
        · by_cases c3 : m + 1 < 2
          · repeat ((first | unfold mf_80 | unfold mf_80_0 | unfold mf_80_5 | unfold mf_80_10 | unfold mf_80_12 | unfold mf_80_24 | unfold mf_80_28 | unfold mf_80_32 | unfold mf_80_38 | unfold mf_80_39 | unfold mf_80_44 | unfold mf_80_48 | unfold mf_80_55 | unfold mf_80_58 | unfold mf_80_60 | unfold mf_80_65 | unfold mf_80_73 | unfold mf_80_76 | unfold mf_80_77 | unfold mf_80_84 | unfold mf_80_87 | unfold mf_80_91 | unfold mf_80_102 | unfold mf_80_103); try simp (disch := omega) only [ev_S, ev_P, ↓reduceIte, Nat.reduceEqDiff, Nat.reduceLeDiff, Nat.reduceAdd, Nat.reduceMul, Nat.reduceSub, reduceCtorEq, l32_0, l32_1, l32_2, l32_3, l32_4, l32_47, l32_2410, l32_166300, rk, e, c1])
          · repeat ((first | unfold mf_80 | unfold mf_80_0 | unfold mf_80_5 | unfold mf_80_10 | unfold mf_80_12 | unfold mf_80_24 | unfold mf_80_28 | unfold mf_80_32 | unfold mf_80_38 | unfold mf_80_39 | unfold mf_80_44 | unfold mf_80_48 | unfold mf_80_55 | unfold mf_80_58 | unfold mf_80_60 | unfold mf_80_65 | unfold mf_80_73 | unfold mf_80_76 | unfold mf_80_77 | unfold mf_80_84 | unfold mf_80_87 | unfold mf_80_91 | unfold mf_80_102 | unfold mf_80_103); try simp (disch := omega) only [ev_S, ev_P, ↓reduceIte, Nat.reduceEqDiff, Nat.reduceLeDiff, Nat.reduceAdd, Nat.reduceMul, Nat.reduceSub, reduceCtorEq, l32_0, l32_1, l32_2, l32_3, l32_4, l32_47, l32_2410, l32_166300, rk, e, c1, c2])
      · by_cases c3 : szV V ≤ i
        · refine ⟨t', -1, ?_, ?_, b4, b3.iH⟩
          · repeat ((first | unfold cf_15 | unfold cf_15_0 | unfold cf_15_4 | unfold cf_15_7 | unfold cf_15_15 | unfold cf_15_19 | unfold cf_15_21 | unfold cf_15_26 | unfold cf_15_32 | unfold cf_15_40 | unfold cf_15_41 | unfold cf_15_45 | unfold cf_15_54 | unfold cf_15_57 | unfold cf_15_61 | unfold cf_15_65 | unfold cf_15_67 | unfold cf_15_76 | unfold cf_15_82 | unfold cf_15_86 | unfold cf_15_95 | unfold cf_15_98 | unfold cf_15_103); try simp (disch := omega) only [ev_S, ev_C, ↓reduceIte, Nat.reduceEqDiff, Nat.reduceLeDiff, Nat.reduceAdd, Nat.reduceMul, Nat.reduceSub, reduceCtorEq, l32_0, l32_1, l32_2, l32_3, l32_4, l32_7, l32_12, q1, h2, h5a, ck, e, b1, sz])
          · by_cases c3 : m + 1 < 2
            · repeat ((first | unfold mf_80 | unfold mf_80_0 | unfold mf_80_5 | unfold mf_80_10 | unfold mf_80_12 | unfold mf_80_24 | unfold mf_80_28 | unfold mf_80_32 | unfold mf_80_38 | unfold mf_80_39 | unfold mf_80_44 | unfold mf_80_48 | unfold mf_80_55 | unfold mf_80_58 | unfold mf_80_60 | unfold mf_80_65 | unfold mf_80_73 | unfold mf_80_76 | unfold mf_80_77 | unfold mf_80_84 | unfold mf_80_87 | unfold mf_80_91 | unfold mf_80_102 | unfold mf_80_103); try simp (disch := omega) only [ev_S, ev_P, ↓reduceIte, Nat.reduceEqDiff, Nat.reduceLeDiff, Nat.reduceAdd, Nat.reduceMul, Nat.reduceSub, reduceCtorEq, l32_0, l32_1, l32_2, l32_3, l32_4, l32_47, l32_2410, l32_166300, rk, e])
            · repeat ((first | unfold mf_80 | unfold mf_80_0 | unfold mf_80_5 | unfold mf_80_10 | unfold mf_80_12 | unfold mf_80_24 | unfold mf_80_28 | unfold mf_80_32 | unfold mf_80_38 | unfold mf_80_39 | unfold mf_80_44 | unfold mf_80_48 | unfold mf_80_55 | unfold mf_80_58 | unfold mf_80_60 | unfold mf_80_65 | unfold mf_80_73 | unfold mf_80_76 | unfold mf_80_77 | unfold mf_80_84 | unfold mf_80_87 | unfold mf_80_91 | unfold mf_80_102 | unfold mf_80_103); try simp (disch := omega) only [ev_S, ev_P, ↓reduceIte, Nat.reduceEqDiff, Nat.reduceLeDiff, Nat.reduceAdd, Nat.reduceMul, Nat.reduceSub, reduceCtorEq, l32_0, l32_1, l32_2, l32_3, l32_4, l32_47, l32_2410, l32_166300, rk, e, zz])
        · obtain y | r | q | ⟨n, l⟩ := V
          · have := ofNat_inj (a := 0) (by omega) (by omega) g3
            omega
          · have em : 1 = m + 1 := ofNat_inj (a := 1) (by omega) (by omega) g3
            have em : m = 0 := by omega
            subst em
            refine ⟨t', -1, ?_, ?_, b4, b3.iH⟩
            · repeat ((first | unfold cf_15 | unfold cf_15_0 | unfold cf_15_4 | unfold cf_15_7 | unfold cf_15_15 | unfold cf_15_19 | unfold cf_15_21 | unfold cf_15_26 | unfold cf_15_32 | unfold cf_15_40 | unfold cf_15_41 | unfold cf_15_45 | unfold cf_15_54 | unfold cf_15_57 | unfold cf_15_61 | unfold cf_15_65 | unfold cf_15_67 | unfold cf_15_76 | unfold cf_15_82 | unfold cf_15_86 | unfold cf_15_95 | unfold cf_15_98 | unfold cf_15_103); try simp (disch := omega) only [ev_S, ev_C, ↓reduceIte, Nat.reduceEqDiff, Nat.reduceLeDiff, Nat.reduceAdd, Nat.reduceMul, Nat.reduceSub, reduceCtorEq, l32_0, l32_1, l32_2, l32_3, l32_4, l32_7, l32_12, q1, h2, h5a, ck, e, b1, sz, kv])
            · repeat ((first | unfold mf_80 | unfold mf_80_0 | unfold mf_80_5 | unfold mf_80_10 | unfold mf_80_12 | unfold mf_80_24 | unfold mf_80_28 | unfold mf_80_32 | unfold mf_80_38 | unfold mf_80_39 | unfold mf_80_44 | unfold mf_80_48 | unfold mf_80_55 | unfold mf_80_58 | unfold mf_80_60 | unfold mf_80_65 | unfold mf_80_73 | unfold mf_80_76 | unfold mf_80_77 | unfold mf_80_84 | unfold mf_80_87 | unfold mf_80_91 | unfold mf_80_102 | unfold mf_80_103); try simp (disch := omega) only [ev_S, ev_P, ↓reduceIte, Nat.reduceEqDiff, Nat.reduceLeDiff, Nat.reduceAdd, Nat.reduceMul, Nat.reduceSub, reduceCtorEq, l32_0, l32_1, l32_2, l32_3, l32_4, l32_47, l32_2410, l32_166300, rk, e])
          · have em : 2 = m + 1 := ofNat_inj (a := 2) (by omega) (by omega) g3
            have em : m = 1 := by omega
            subst em
            have hi : i < q.length := by
              have : ¬ q.length ≤ i := c3
              omega
            have hz8 : q.length ≤ 64 := hz9
            obtain ⟨v', p1, p2⟩ := c_partT (N := N) (X := X) b3 b2 hi
            have pz := c_size (N := N) (X := X) b3 p2
            have pz : cf_128 N X v' t' = some (t', .inl (some (.int (Int32.ofNat (q[i].length))))) := pz
            obtain ⟨c, o1, o2⟩ := r_partT (N := N) L2 hc hi
            obtain ⟨M1, M2⟩ := LayN_iff.mp o2
            have kd2 := M2.kd
            have hc2 : c + wV wn (vw (nR q[i])) ≤ 166300 := by
              have := (M1 (c + wV wn (vw (nR q[i])) - 1) (by omega) (by omega)).2
              omega
            have oz := r_size (N := N) M2 hc2
            have oz : mf_77 N (Int32.ofNat c) s = some (s, some (.int (Int32.ofNat (q[i].length)))) := oz
            refine ⟨t', Int32.ofNat q[i].length, ?_, ?_, b4, b3.iH⟩
            · repeat ((first | unfold cf_15 | unfold cf_15_0 | unfold cf_15_4 | unfold cf_15_7 | unfold cf_15_15 | unfold cf_15_19 | unfold cf_15_21 | unfold cf_15_26 | unfold cf_15_32 | unfold cf_15_40 | unfold cf_15_41 | unfold cf_15_45 | unfold cf_15_54 | unfold cf_15_57 | unfold cf_15_61 | unfold cf_15_65 | unfold cf_15_67 | unfold cf_15_76 | unfold cf_15_82 | unfold cf_15_86 | unfold cf_15_95 | unfold cf_15_98 | unfold cf_15_103); try simp (disch := omega) only [ev_S, ev_C, ↓reduceIte, Nat.reduceEqDiff, Nat.reduceLeDiff, Nat.reduceAdd, Nat.reduceMul, Nat.reduceSub, reduceCtorEq, l32_0, l32_1, l32_2, l32_3, l32_4, l32_7, l32_12, q1, h2, h5a, ck, e, b1, sz, kv, p1, pz, szV])
            · repeat ((first | unfold mf_80 | unfold mf_80_0 | unfold mf_80_5 | unfold mf_80_10 | unfold mf_80_12 | unfold mf_80_24 | unfold mf_80_28 | unfold mf_80_32 | unfold mf_80_38 | unfold mf_80_39 | unfold mf_80_44 | unfold mf_80_48 | unfold mf_80_55 | unfold mf_80_58 | unfold mf_80_60 | unfold mf_80_65 | unfold mf_80_73 | unfold mf_80_76 | unfold mf_80_77 | unfold mf_80_84 | unfold mf_80_87 | unfold mf_80_91 | unfold mf_80_102 | unfold mf_80_103); try simp (disch := omega) only [ev_S, ev_P, ↓reduceIte, Nat.reduceEqDiff, Nat.reduceLeDiff, Nat.reduceAdd, Nat.reduceMul, Nat.reduceSub, reduceCtorEq, l32_0, l32_1, l32_2, l32_3, l32_4, l32_47, l32_2410, l32_166300, rk, e, zz, szV, o1, oz])
          · have em : 3 = m + 1 := ofNat_inj (a := 3) (by omega) (by omega) g3
            have em : m = 2 := by omega
            subst em
            have hi : i < l.length := by
              have : ¬ l.length ≤ i := c3
              omega
            have hz8 : l.length ≤ 64 := hz9
            obtain ⟨v', p1, p2⟩ := c_partP (N := N) (X := X) b3 b2 hi
            have pk := c_kind (N := N) (X := X) p2
            have ii := r_isInt (N := N) L2 hc hi
            have iv : intT n l[i] = intV (vw ⟨n, l[i]⟩) := vw_int ⟨n, l[i]⟩
            refine ⟨t', kdV (vw ⟨n, l[i]⟩), ?_, ?_, b4, b3.iH⟩
            · repeat ((first | unfold cf_15 | unfold cf_15_0 | unfold cf_15_4 | unfold cf_15_7 | unfold cf_15_15 | unfold cf_15_19 | unfold cf_15_21 | unfold cf_15_26 | unfold cf_15_32 | unfold cf_15_40 | unfold cf_15_41 | unfold cf_15_45 | unfold cf_15_54 | unfold cf_15_57 | unfold cf_15_61 | unfold cf_15_65 | unfold cf_15_67 | unfold cf_15_76 | unfold cf_15_82 | unfold cf_15_86 | unfold cf_15_95 | unfold cf_15_98 | unfold cf_15_103); try simp (disch := omega) only [ev_S, ev_C, ↓reduceIte, Nat.reduceEqDiff, Nat.reduceLeDiff, Nat.reduceAdd, Nat.reduceMul, Nat.reduceSub, reduceCtorEq, l32_0, l32_1, l32_2, l32_3, l32_4, l32_7, l32_12, q1, h2, h5a, ck, e, b1, sz, kv, p1, pk, szV])
            · cases hA : intT n l[i] with
              | some z =>
                rw [hA] at ii
                have ii : mf_293 N (Int32.ofNat (2410 * j)) (Int32.ofNat i) s = some (s, some (.int 1)) := ii
                rw [intV_s (iv.symm.trans hA)]
                have e0 : kdV (Sum.inl z) = Int32.ofNat 0 := rfl
                repeat ((first | unfold mf_80 | unfold mf_80_0 | unfold mf_80_5 | unfold mf_80_10 | unfold mf_80_12 | unfold mf_80_24 | unfold mf_80_28 | unfold mf_80_32 | unfold mf_80_38 | unfold mf_80_39 | unfold mf_80_44 | unfold mf_80_48 | unfold mf_80_55 | unfold mf_80_58 | unfold mf_80_60 | unfold mf_80_65 | unfold mf_80_73 | unfold mf_80_76 | unfold mf_80_77 | unfold mf_80_84 | unfold mf_80_87 | unfold mf_80_91 | unfold mf_80_102 | unfold mf_80_103); try simp (disch := omega) only [ev_S, ev_P, ↓reduceIte, Nat.reduceEqDiff, Nat.reduceLeDiff, Nat.reduceAdd, Nat.reduceMul, Nat.reduceSub, reduceCtorEq, l32_0, l32_1, l32_2, l32_3, l32_4, l32_47, l32_2410, l32_166300, rk, e, zz, szV, ii, e0])
              | none =>
                rw [hA] at ii
                have ii : mf_293 N (Int32.ofNat (2410 * j)) (Int32.ofNat i) s = some (s, some (.int 0)) := ii
                obtain ⟨c, o1, o2⟩ := r_partP (N := N) L2 hc hi hA
                obtain ⟨M1, M2⟩ := LayN_iff.mp o2
                have kd2 := M2.kd
                have hc2 : c + wV wn (vw ⟨n, l[i]⟩) ≤ 166300 := by
                  have := (M1 (c + wV wn (vw ⟨n, l[i]⟩) - 1) (by omega) (by omega)).2
                  omega
                have kd3 := kd2.1
                repeat ((first | unfold mf_80 | unfold mf_80_0 | unfold mf_80_5 | unfold mf_80_10 | unfold mf_80_12 | unfold mf_80_24 | unfold mf_80_28 | unfold mf_80_32 | unfold mf_80_38 | unfold mf_80_39 | unfold mf_80_44 | unfold mf_80_48 | unfold mf_80_55 | unfold mf_80_58 | unfold mf_80_60 | unfold mf_80_65 | unfold mf_80_73 | unfold mf_80_76 | unfold mf_80_77 | unfold mf_80_84 | unfold mf_80_87 | unfold mf_80_91 | unfold mf_80_102 | unfold mf_80_103); try simp (disch := omega) only [ev_S, ev_P, ↓reduceIte, Nat.reduceEqDiff, Nat.reduceLeDiff, Nat.reduceAdd, Nat.reduceMul, Nat.reduceSub, reduceCtorEq, l32_0, l32_1, l32_2, l32_3, l32_4, l32_47, l32_2410, l32_166300, rk, e, zz, szV, ii, o1, kd3])
  · refine ⟨t, -1, ?_, ?_, rfr.rf, hH⟩
    · have q1 := q1 N X t
      repeat ((first | unfold cf_15 | unfold cf_15_0 | unfold cf_15_4 | unfold cf_15_7 | unfold cf_15_15 | unfold cf_15_19 | unfold cf_15_21 | unfold cf_15_26 | unfold cf_15_32 | unfold cf_15_40 | unfold cf_15_41 | unfold cf_15_45 | unfold cf_15_54 | unfold cf_15_57 | unfold cf_15_61 | unfold cf_15_65 | unfold cf_15_67 | unfold cf_15_76 | unfold cf_15_82 | unfold cf_15_86 | unfold cf_15_95 | unfold cf_15_98 | unfold cf_15_103); try simp (disch := omega) only [ev_S, ev_C, ↓reduceIte, Nat.reduceEqDiff, Nat.reduceLeDiff, Nat.reduceAdd, Nat.reduceMul, Nat.reduceSub, reduceCtorEq, l32_0, l32_1, l32_2, l32_3, l32_4, l32_7, l32_12, q1])
    · have r1 := q2 N s
      have r2 : mf_79 N a s = some (s, some (.int (-1))) := by
        repeat ((first | unfold mf_79 | unfold mf_79_0 | unfold mf_79_4 | unfold mf_79_7 | unfold mf_79_20 | unfold mf_79_21); try simp (disch := omega) only [ev_S, ev_P, ↓reduceIte, Nat.reduceEqDiff, Nat.reduceLeDiff, Nat.reduceAdd, Nat.reduceMul, Nat.reduceSub, reduceCtorEq, l32_0, l32_1, l32_2, l32_3, l32_4, l32_47, l32_2410, l32_166300, r1])
      repeat ((first | unfold mf_80 | unfold mf_80_0 | unfold mf_80_5 | unfold mf_80_10 | unfold mf_80_12 | unfold mf_80_24 | unfold mf_80_28 | unfold mf_80_32 | unfold mf_80_38 | unfold mf_80_39 | unfold mf_80_44 | unfold mf_80_48 | unfold mf_80_55 | unfold mf_80_58 | unfold mf_80_60 | unfold mf_80_65 | unfold mf_80_73 | unfold mf_80_76 | unfold mf_80_77 | unfold mf_80_84 | unfold mf_80_87 | unfold mf_80_91 | unfold mf_80_102 | unfold mf_80_103); try simp (disch := omega) only [ev_S, ev_P, ↓reduceIte, Nat.reduceEqDiff, Nat.reduceLeDiff, Nat.reduceAdd, Nat.reduceMul, Nat.reduceSub, reduceCtorEq, l32_0, l32_1, l32_2, l32_3, l32_4, l32_47, l32_2410, l32_166300, r2])
end SCF
