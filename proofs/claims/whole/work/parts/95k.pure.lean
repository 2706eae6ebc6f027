/-! ===== PURE: run (12): builds, its three rounds ===== -/
section RBL
variable {N : Nat} {s : mS} {f n F : Nat} {xs : List Nod} {x3 x5 : Int32}
/-- xs lies on the stack from n on -/
def rX (s : mS) (n f : Nat) (xs : List Nod) : Prop := s.1 51 = Int32.ofNat (n + xs.length) ∧ ∀ i (hi : i < xs.length), rvl (s.2.2.1 47) f (s.2.2.1 49 (n + i)) (s.2.2.1 50 (n + i)) xs[i]
theorem r_b19 (H : rX s n f xs) (hk : ∀ x ∈ xs, kdN x = 1) (hf : f ≤ 166300) (hn : n + xs.length < 9000) : ∀ (d i q all : Nat), i + d = xs.length → mf_305_L19 N (q + (d + 1)) 0 (Int32.ofNat 2) (Int32.ofNat n) x3 (Int32.ofNat all) x5 (Int32.ofNat (n + i)) s = mf_305_72 N (Int32.ofNat 2) (Int32.ofNat n) x3 (Int32.ofNat (all + ((xs.drop i).map szN).sum)) x5 s := by
  intro d
  induction d with
  | zero =>
    intro i q all hi
    have hi : i = xs.length := hi
    subst hi
    have h51 := H.1
    rw [List.drop_length]
    show mf_305_36 N (mf_305_L19 N q) (Int32.ofNat 2) (Int32.ofNat n) x3 (Int32.ofNat all) x5 (Int32.ofNat (n + xs.length)) s = mf_305_72 N (Int32.ofNat 2) (Int32.ofNat n) x3 (Int32.ofNat all) x5 s
    unfold mf_305_36
    simp (disch := omega) only [ev_S, ev_P, ↓reduceIte, Nat.reduceEqDiff, Nat.reduceLeDiff, Nat.reduceAdd, Nat.reduceMul, Nat.reduceSub, reduceCtorEq, l32_0, l32_1, l32_2, l32_3, l32_4, l32_5, l32_6, l32_7, l32_8, l32_9, l32_10, l32_11, l32_12, l32_13, l32_14, l32_15, l32_16, l32_17, l32_18, l32_19, l32_20, l32_21, l32_22, l32_23, l32_24, l32_25, l32_26, l32_27, l32_28, l32_29, l32_33, l32_40, l32_41, l32_44, l32_45, l32_59, l32_61, l32_91, l32_93, l32_123, l32_125, h51]
  | succ d ih =>
    intro i q all hi
    have hi1 : i < xs.length := by omega
    have h51 := H.1
    rw [List.drop_eq_getElem_cons hi1, List.map_cons, List.sum_cons, ← Nat.add_assoc all, ← ih (i + 1) q (all + szN xs[i]) (by omega)]
    have hx := H.2 i hi1
    have hkx := hk _ (List.getElem_mem hi1)
    have n1 : ¬ n + xs.length ≤ n + i := by omega
    rcases hx with ⟨-, h2⟩ | ⟨h1, h2, a, h3, h4⟩
    · exfalso
      have e : kdV (vw xs[i]) = 1 := hkx
      revert h2 e
      cases vw xs[i] with
      | inl z => intro _ e; cases e
      | inr w => intro h2; cases h2
    · have hz := r_size (N := N) (s := s) (LayN_iff.mp h4).2 (Nat.le_trans (LayN.lt h4).1 hf)
      show mf_305_36 N (mf_305_L19 N (q + (d + 1))) (Int32.ofNat 2) (Int32.ofNat n) x3 (Int32.ofNat all) x5 (Int32.ofNat (n + i)) s = _
      unfold mf_305_36 mf_305_45 mf_305_50 mf_305_63
      simp (disch := omega) only [ev_S, ev_P, ↓reduceIte, Nat.reduceEqDiff, Nat.reduceLeDiff, Nat.reduceAdd, Nat.reduceMul, Nat.reduceSub, reduceCtorEq, l32_0, l32_1, l32_2, l32_3, l32_4, l32_5, l32_6, l32_7, l32_8, l32_9, l32_10, l32_11, l32_12, l32_13, l32_14, l32_15, l32_16, l32_17, l32_18, l32_19, l32_20, l32_21, l32_22, l32_23, l32_24, l32_25, l32_26, l32_27, l32_28, l32_29, l32_33, l32_40, l32_41, l32_44, l32_45, l32_59, l32_61, l32_91, l32_93, l32_123, l32_125, h51, n1, h3, hz]
      rfl
theorem rX.int {i : Nat} (H : rX s n f xs) (hi : i < xs.length) (h : kdN xs[i] = 0) : s.2.2.1 49 (n + i) = Int32.ofNat 0 ∧ s.2.2.1 50 (n + i) = ivN xs[i] := by
  have e := kd0 h
  rcases H.2 i hi with ⟨h1, h2⟩ | ⟨-, h2, -⟩
  · rw [e] at h2
    have h2 : some (ivN xs[i]) = some _ := h2
    exact ⟨h1, (Option.some.inj h2).symm⟩
  · rw [e] at h2
    cases h2
theorem r_b13 (hN : 170000 ≤ N) (hf : f ≤ 166300) (hn : n + xs.length < 9000) (hw : ∀ x ∈ xs, wfN x) (hd : ∀ x ∈ xs, x.1 ≤ 4) (hl : xs.length ≤ 3000) : ∀ (d i q : Nat) (s : mS) (most b : Nat), i + d = xs.length → rX s n f xs → most ≤ 10 → b ≤ 1 + 600 * i → ∃ s2, mf_305_L13 N (q + (d + 1)) 0 (Int32.ofNat 3) (Int32.ofNat n) x3 (Int32.ofNat 0) (Int32.ofNat most) (Int32.ofNat b) (Int32.ofNat (n + i)) s = mf_305_187 N (Int32.ofNat 3) (Int32.ofNat n) x3 (Int32.ofNat 0) (Int32.ofNat (Nat.max most (mxL ((xs.drop i).map dN)))) (Int32.ofNat (b + ((xs.drop i).map bulkN).sum)) s2 ∧ fMe s s2 := by
  intro d
  induction d with
  | zero =>
    intro i q s most b hi H hm hb
    have hi : i = xs.length := hi
    subst hi
    have h51 := H.1
    refine ⟨s, ?_, mfr.rf⟩
    rw [List.drop_length]
    rw [show Nat.max most (mxL (([] : List Nod).map dN)) = most from Nat.max_eq_left (Nat.zero_le _)]
    show mf_305_101 N (mf_305_L13 N q) (Int32.ofNat 3) (Int32.ofNat n) x3 (Int32.ofNat 0) (Int32.ofNat most) (Int32.ofNat b) (Int32.ofNat (n + xs.length)) s = mf_305_187 N (Int32.ofNat 3) (Int32.ofNat n) x3 (Int32.ofNat 0) (Int32.ofNat most) (Int32.ofNat b) s
    unfold mf_305_101
    simp (disch := omega) only [ev_S, ev_P, ↓reduceIte, Nat.reduceEqDiff, Nat.reduceLeDiff, Nat.reduceAdd, Nat.reduceMul, Nat.reduceSub, reduceCtorEq, l32_0, l32_1, l32_2, l32_3, l32_4, l32_5, l32_6, l32_7, l32_8, l32_9, l32_10, l32_11, l32_12, l32_13, l32_14, l32_15, l32_16, l32_17, l32_18, l32_19, l32_20, l32_21, l32_22, l32_23, l32_24, l32_25, l32_26, l32_27, l32_28, l32_29, l32_33, l32_40, l32_41, l32_44, l32_45, l32_59, l32_61, l32_91, l32_93, l32_123, l32_125, h51]
  | succ d ih =>
    intro i q s most b hi H hm hb
    have hi1 : i < xs.length := by omega
    have h51 := H.1
    have n1 : ¬ n + xs.length ≤ n + i := by omega
    have hwx : bulkN xs[i] ≤ 600 := by
      have := wt_le (k := 3) (hw _ (List.getElem_mem hi1))
      exact this
    have hdx := hd _ (List.getElem_mem hi1)
    have hdd : dN xs[i] ≤ 4 := Nat.le_trans (dT_le _ _) hdx
    obtain ⟨s0, hs0⟩ : ∃ s0, s0 = mI (mI s 56 (Int32.ofNat 0)) 57 (Int32.ofNat 1) := ⟨_, rfl⟩
    have f0 : fMe s s0 := by
      rw [hs0]
      refine ⟨fun q r => ?_, fun _ _ => rfl, fun _ _ => rfl, fun _ _ => rfl⟩
      show (if q = 57 then _ else if q = 56 then _ else s.1 q) = _
      rw [if_neg (by omega), if_neg (by omega)]
    have key : ∃ s1, mf_305_101 N (mf_305_L13 N (q + (d + 1))) (Int32.ofNat 3) (Int32.ofNat n) x3 (Int32.ofNat 0) (Int32.ofNat most) (Int32.ofNat b) (Int32.ofNat (n + i)) s = mf_305_152 N (mf_305_L13 N (q + (d + 1))) (Int32.ofNat 3) (Int32.ofNat n) x3 (Int32.ofNat 0) (Int32.ofNat most) (Int32.ofNat b) (Int32.ofNat (n + i)) s1 ∧ s1.1 56 = Int32.ofNat (dN xs[i]) ∧ s1.1 57 = Int32.ofNat (bulkN xs[i]) ∧ fMe s s1 := by
      rcases H.2 i hi1 with ⟨h1, h2⟩ | ⟨h1, h2, a, h3, h4⟩
      · refine ⟨s0, ?_, ?_, ?_, f0⟩
        · unfold mf_305_101 mf_305_110 mf_305_115 mf_305_120
          simp (disch := omega) only [ev_S, ev_P, ↓reduceIte, Nat.reduceEqDiff, Nat.reduceLeDiff, Nat.reduceAdd, Nat.reduceMul, Nat.reduceSub, reduceCtorEq, l32_0, l32_1, l32_2, l32_3, l32_4, l32_5, l32_6, l32_7, l32_8, l32_9, l32_10, l32_11, l32_12, l32_13, l32_14, l32_15, l32_16, l32_17, l32_18, l32_19, l32_20, l32_21, l32_22, l32_23, l32_24, l32_25, l32_26, l32_27, l32_28, l32_29, l32_33, l32_40, l32_41, l32_44, l32_45, l32_59, l32_61, l32_91, l32_93, l32_123, l32_125, h51, n1, h1]
          rw [hs0]
        · rw [hs0, show dN xs[i] = 0 from dN_0 (by revert h2; cases vw xs[i] with
            | inl z => intro _ e; cases e
            | inr w => intro h2; cases h2)]
          rfl
        · rw [hs0, vw_bulk]
          revert h2
          cases vw xs[i] with
          | inl z => intro _; rfl
          | inr w => intro h2; cases h2
      · have h4' : LayN (s0.2.2.1 47) (Rf f) a xs[i] := by rw [hs0]; exact h4
        obtain ⟨s1, m1, m2, m3, m4⟩ := r_measure (N := N) hN hf h4' hdx (by omega)
        refine ⟨s1, ?_, m3, m2, mfr.tr f0 m4⟩
        unfold mf_305_101 mf_305_110 mf_305_115 mf_305_120 mf_305_141
        rw [hs0] at m1
        simp (disch := omega) only [ev_S, ev_P, ↓reduceIte, Nat.reduceEqDiff, Nat.reduceLeDiff, Nat.reduceAdd, Nat.reduceMul, Nat.reduceSub, reduceCtorEq, l32_0, l32_1, l32_2, l32_3, l32_4, l32_5, l32_6, l32_7, l32_8, l32_9, l32_10, l32_11, l32_12, l32_13, l32_14, l32_15, l32_16, l32_17, l32_18, l32_19, l32_20, l32_21, l32_22, l32_23, l32_24, l32_25, l32_26, l32_27, l32_28, l32_29, l32_33, l32_40, l32_41, l32_44, l32_45, l32_59, l32_61, l32_91, l32_93, l32_123, l32_125, h51, n1, h1, h3, m1]
    obtain ⟨s1, k1, k2, k3, k4⟩ := key
    have H1 : rX s1 n f xs := by
      refine ⟨(k4.1 51 (by omega)).trans h51, fun j hj => ?_⟩
      rw [k4.2.2.1 47 (by omega), k4.2.2.1 49 (by omega), k4.2.2.1 50 (by omega)]
      exact H.2 j hj
    obtain ⟨s2, j1, j2⟩ := ih (i + 1) q s1 (Nat.max most (dN xs[i])) (b + bulkN xs[i]) (by omega) H1 (Nat.max_le.mpr ⟨hm, by omega⟩) (by omega)
    refine ⟨s2, ?_, mfr.tr k4 j2⟩
    rw [List.drop_eq_getElem_cons hi1, List.map_cons, List.map_cons, List.sum_cons, ← Nat.add_assoc b]
    rw [show Nat.max most (mxL (dN xs[i] :: (xs.drop (i + 1)).map dN)) = Nat.max (Nat.max most (dN xs[i])) (mxL ((xs.drop (i + 1)).map dN)) from (Nat.max_assoc _ _ _).symm, ← j1]
    show mf_305_101 N (mf_305_L13 N (q + (d + 1))) (Int32.ofNat 3) (Int32.ofNat n) x3 (Int32.ofNat 0) (Int32.ofNat most) (Int32.ofNat b) (Int32.ofNat (n + i)) s = _
    rw [k1]
    generalize hdv : dN xs[i] = dv at *
    generalize hbv : bulkN xs[i] = bv at *
    unfold mf_305_152
    by_cases z : dv ≤ most
    · unfold mf_305_168 mf_305_170
      rw [show Nat.max most dv = most from Nat.max_eq_left z]
      simp (disch := omega) only [ev_S, ev_P, ↓reduceIte, Nat.reduceEqDiff, Nat.reduceLeDiff, Nat.reduceAdd, Nat.reduceMul, Nat.reduceSub, reduceCtorEq, l32_0, l32_1, l32_2, l32_3, l32_4, l32_5, l32_6, l32_7, l32_8, l32_9, l32_10, l32_11, l32_12, l32_13, l32_14, l32_15, l32_16, l32_17, l32_18, l32_19, l32_20, l32_21, l32_22, l32_23, l32_24, l32_25, l32_26, l32_27, l32_28, l32_29, l32_33, l32_40, l32_41, l32_44, l32_45, l32_59, l32_61, l32_91, l32_93, l32_123, l32_125, k2, k3, z]
      rfl
    · unfold mf_305_161 mf_305_170
      rw [show Nat.max most dv = dv from Nat.max_eq_right (by omega)]
      simp (disch := omega) only [ev_S, ev_P, ↓reduceIte, Nat.reduceEqDiff, Nat.reduceLeDiff, Nat.reduceAdd, Nat.reduceMul, Nat.reduceSub, reduceCtorEq, l32_0, l32_1, l32_2, l32_3, l32_4, l32_5, l32_6, l32_7, l32_8, l32_9, l32_10, l32_11, l32_12, l32_13, l32_14, l32_15, l32_16, l32_17, l32_18, l32_19, l32_20, l32_21, l32_22, l32_23, l32_24, l32_25, l32_26, l32_27, l32_28, l32_29, l32_33, l32_40, l32_41, l32_44, l32_45, l32_59, l32_61, l32_91, l32_93, l32_123, l32_125, k2, k3, z]
      rfl
end RBL
