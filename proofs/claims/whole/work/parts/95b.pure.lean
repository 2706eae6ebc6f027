/-! ===== PURE: run (3): a ROW of what lies on the stack ===== -/
section RRW
variable {N : Nat} {s s' : mS} {f n : Nat} {zs : List Int32}
theorem r_rowL (hz2 : n + zs.length < 9000) (hf : f + 2 + zs.length ≤ 166300) : ∀ (d i q : Nat) (s : mS), i + d = zs.length → s.1 48 = Int32.ofNat (f + 2 + i) → s.1 51 = Int32.ofNat (n + zs.length) → (∀ j (hj : j < zs.length), s.2.2.1 50 (n + j) = zs[j]) → ∃ s2, mf_306_L2 N (q + (d + 1)) 0 (Int32.ofNat n) (Int32.ofNat f) (Int32.ofNat (n + i)) s = mf_306_53 N (Int32.ofNat n) (Int32.ofNat f) s2 ∧ s2.1 48 = Int32.ofNat (f + 2 + zs.length) ∧ (∀ j (hj : j < zs.length), i ≤ j → s2.2.2.1 47 (f + 2 + j) = zs[j]) ∧ (∀ y, y < f + 2 + i → s2.2.2.1 47 y = s.2.2.1 47 y) ∧ mfr (fun q => q = 48) (fun _ => False) (fun q => q = 47) (fun _ => False) s s2 := by
  intro d
  induction d with
  | zero =>
    intro i q s hi h48 h51 hz
    have hi : i = zs.length := hi
    subst hi
    refine ⟨s, ?_, h48, fun j hj z => by omega, fun _ _ => rfl, ⟨fun _ _ => rfl, fun _ _ => rfl, fun _ _ => rfl, fun _ _ => rfl⟩⟩
    show mf_306_14 N (mf_306_L2 N q) (Int32.ofNat n) (Int32.ofNat f) (Int32.ofNat (n + zs.length)) s = _
    unfold mf_306_14
    simp (disch := omega) only [ev_S, ev_P, ↓reduceIte, Nat.reduceEqDiff, Nat.reduceLeDiff, Nat.reduceAdd, Nat.reduceMul, Nat.reduceSub, reduceCtorEq, l32_0, l32_1, l32_2, l32_3, l32_4, l32_5, l32_6, l32_7, l32_8, l32_9, l32_10, l32_11, l32_12, l32_13, l32_14, l32_15, l32_16, l32_17, l32_18, l32_19, l32_20, l32_21, l32_22, l32_23, l32_24, l32_25, l32_26, l32_27, l32_28, l32_29, l32_33, l32_40, l32_41, l32_44, l32_45, l32_59, l32_61, l32_91, l32_93, l32_123, l32_125, h51]
  | succ d ih =>
    intro i q s hi h48 h51 hz
    have hi1 : i < zs.length := by omega
    have g := hz i hi1
    have n1 : ¬ n + zs.length ≤ n + i := by omega
    obtain ⟨s1, hs1⟩ : ∃ s1, s1 = mI (mA s 47 (upd (s.2.2.1 47) (f + 2 + i) zs[i])) 48 (Int32.ofNat (f + 2 + i + 1)) := ⟨_, rfl⟩
    have e47 : s1.2.2.1 47 = upd (s.2.2.1 47) (f + 2 + i) zs[i] := by rw [hs1]; rfl
    obtain ⟨s2, a1, a2, a3, a4, a5⟩ := ih (i + 1) q s1 (by omega) (by rw [hs1]; rfl) (by rw [hs1]; exact h51) (by rw [hs1]; exact hz)
    refine ⟨s2, ?_, a2, fun j hj z => ?_, fun y hy => ?_, ?_⟩
    · rw [← a1, hs1]
      show mf_306_14 N (mf_306_L2 N (q + (d + 1))) (Int32.ofNat n) (Int32.ofNat f) (Int32.ofNat (n + i)) s = _
      unfold mf_306_14 mf_306_22
      simp (disch := omega) only [ev_S, ev_P, ↓reduceIte, Nat.reduceEqDiff, Nat.reduceLeDiff, Nat.reduceAdd, Nat.reduceMul, Nat.reduceSub, reduceCtorEq, l32_0, l32_1, l32_2, l32_3, l32_4, l32_5, l32_6, l32_7, l32_8, l32_9, l32_10, l32_11, l32_12, l32_13, l32_14, l32_15, l32_16, l32_17, l32_18, l32_19, l32_20, l32_21, l32_22, l32_23, l32_24, l32_25, l32_26, l32_27, l32_28, l32_29, l32_33, l32_40, l32_41, l32_44, l32_45, l32_59, l32_61, l32_91, l32_93, l32_123, l32_125, h51, h48, g, n1]
      rfl
    · by_cases y : i + 1 ≤ j
      · exact a3 j hj y
      · have y : j = i := by omega
        subst y
        rw [a4 _ (by omega), e47]
        exact if_pos rfl
    · rw [a4 y (by omega), e47]
      exact if_neg (by omega)
    · refine ⟨fun q r => ?_, fun q r => ?_, fun q r => ?_, fun q r => ?_⟩
      · rw [a5.1 q r, hs1]
        exact if_neg r
      · rw [a5.2.1 q r, hs1]
        rfl
      · rw [a5.2.2.1 q r, hs1]
        exact if_neg r
      · rw [a5.2.2.2 q r, hs1]
        rfl
/-- the numbers on top of the stack become a ROW -/
theorem r_rowOf (hN : 170000 ≤ N) (h48 : s.1 48 = Int32.ofNat f) (h51 : s.1 51 = Int32.ofNat (n + zs.length)) (hz : ∀ j (hj : j < zs.length), s.2.2.1 50 (n + j) = zs[j]) (hz2 : n + zs.length < 9000) (hf : 154240 ≤ f ∧ f + 2 + zs.length ≤ 166300) : ∃ s', mf_306 N (Int32.ofNat n) s = some (s', none) ∧ LayN (s'.2.2.1 47) (Rf (f + 2 + zs.length)) f (nR zs) ∧ (∀ y, y < f → s'.2.2.1 47 y = s.2.2.1 47 y) ∧ s'.1 48 = Int32.ofNat (f + 2 + zs.length) ∧ s'.1 51 = Int32.ofNat (n + 1) ∧ (s'.2.2.1 49 n = Int32.ofNat 1 ∧ s'.2.2.1 50 n = Int32.ofNat f) ∧ (∀ y, ¬ y = n → s'.2.2.1 49 y = s.2.2.1 49 y ∧ s'.2.2.1 50 y = s.2.2.1 50 y) ∧ mfr (fun q => q = 48 ∨ q = 51) (fun _ => False) (fun q => q = 47 ∨ q = 49 ∨ q = 50) (fun _ => False) s s' := by
  obtain ⟨s1, hs1⟩ : ∃ s1, s1 = mI (mA (mA s 47 (upd (s.2.2.1 47) f (Int32.ofNat 1))) 47 (upd (upd (s.2.2.1 47) f (Int32.ofNat 1)) (f + 1) (Int32.ofNat zs.length))) 48 (Int32.ofNat (f + 2)) := ⟨_, rfl⟩
  have e47 : s1.2.2.1 47 = upd (upd (s.2.2.1 47) f (Int32.ofNat 1)) (f + 1) (Int32.ofNat zs.length) := by rw [hs1]; rfl
  obtain ⟨s2, a1, a2, a3, a4, a5⟩ := r_rowL (N := N) (n := n) (f := f) (zs := zs) hz2 hf.2 zs.length 0 (N - (zs.length + 1)) s1 (Nat.zero_add _) (by rw [hs1]; rfl) (by rw [hs1]; exact h51) (by rw [hs1]; exact hz)
  rw [show N - (zs.length + 1) + (zs.length + 1) = N by omega] at a1
  have hb : mf_304 N (Int32.ofNat 1) (Int32.ofNat zs.length) s = some (s1, some (.int (Int32.ofNat f))) := by
    rw [hs1]
    unfold mf_304 mf_304_0
    simp (disch := omega) only [ev_S, ev_P, ↓reduceIte, Nat.reduceEqDiff, Nat.reduceLeDiff, Nat.reduceAdd, Nat.reduceMul, Nat.reduceSub, reduceCtorEq, l32_0, l32_1, l32_2, l32_3, l32_4, l32_5, l32_6, l32_7, l32_8, l32_9, l32_10, l32_11, l32_12, l32_13, l32_14, l32_15, l32_16, l32_17, l32_18, l32_19, l32_20, l32_21, l32_22, l32_23, l32_24, l32_25, l32_26, l32_27, l32_28, l32_29, l32_33, l32_40, l32_41, l32_44, l32_45, l32_59, l32_61, l32_91, l32_93, l32_123, l32_125, h48]
  obtain ⟨s3, hs3⟩ : ∃ s3, s3 = mI s2 51 (Int32.ofNat n) := ⟨_, rfl⟩
  have p1 := r_psh (N := N) (s := s3) (n := n) (k := Int32.ofNat 1) (v := Int32.ofNat f) (by rw [hs3]; rfl) (by omega)
  have e3 : s3.2.2.1 = s2.2.2.1 := by rw [hs3]; rfl
  have f49 : s2.2.2.1 49 = s.2.2.1 49 := by rw [a5.2.2.1 49 (by decide), hs1]; rfl
  have f50 : s2.2.2.1 50 = s.2.2.1 50 := by rw [a5.2.2.1 50 (by decide), hs1]; rfl
  refine ⟨pus s3 n (Int32.ofNat 1) (Int32.ofNat f), ?_, ?_, ?_, ?_, rfl, ⟨?_, ?_⟩, fun y hy => ⟨?_, ?_⟩, ?_⟩
  · have hsub : Int32.ofNat (n + zs.length) - Int32.ofNat n = Int32.ofNat zs.length := by
      rw [Nat.add_comm, Int32.ofNat_add]
      exact Int32.add_sub_cancel _ _
    unfold mf_306 mf_306_0
    rw [h51, hsub]
    show mo_bi (mf_304 N (Int32.ofNat 1) (Int32.ofNat zs.length) s) _ = _
    rw [hb]
    show mf_306_L2 N N 0 (Int32.ofNat n) (Int32.ofNat f) (Int32.ofNat (n + 0)) s1 = _
    rw [a1]
    unfold mf_306_53 mf_306_64
    rw [← hs3]
    show mo_bv (mf_291 N (Int32.ofNat 1) (Int32.ofNat f) s3) _ = _
    rw [p1]
    rfl
  · show LayN (s3.2.2.1 47) _ _ _
    rw [e3]
    have q0 : s2.2.2.1 47 f = Int32.ofNat 1 := by
      rw [a4 f (by omega), e47]
      show (if f = f + 1 then _ else if f = f then _ else _) = _
      rw [if_neg (by omega), if_pos rfl]
    have q1 : s2.2.2.1 47 (f + 1) = Int32.ofNat zs.length := by
      rw [a4 (f + 1) (by omega), e47]
      exact if_pos rfl
    refine LayN_iff.mpr ⟨fun y y1 y2 => ?_, q0, q1, fun j hj => a3 j hj (Nat.zero_le _)⟩
    have y2 : y < f + (2 + zs.length) := y2
    exact ⟨by omega, Or.inr (by omega)⟩
  · intro y hy
    show s3.2.2.1 47 y = _
    rw [e3, a4 y (by omega), e47]
    show (if y = f + 1 then _ else if y = f then _ else _) = _
    rw [if_neg (by omega), if_neg (by omega)]
  · show s3.1 48 = _
    rw [hs3]
    exact a2
  · exact if_pos rfl
  · exact if_pos rfl
  · show (if y = n then _ else s3.2.2.1 49 y) = _
    rw [if_neg hy, e3, f49]
  · show (if y = n then _ else s3.2.2.1 50 y) = _
    rw [if_neg hy, e3, f50]
  · refine ⟨fun q r => ?_, fun q r => ?_, fun q r => ?_, fun q r => ?_⟩
    · show (if q = 51 then _ else s3.1 q) = _
      rw [if_neg (by omega), hs3]
      show (if q = 51 then _ else s2.1 q) = _
      rw [if_neg (by omega), a5.1 q (by omega), hs1]
      exact if_neg (by omega)
    · show s3.2.1 q = _
      rw [hs3]
      show s2.2.1 q = _
      rw [a5.2.1 q r, hs1]
      rfl
    · show (if q = 50 then _ else if q = 49 then _ else s3.2.2.1 q) = _
      rw [if_neg (by omega), if_neg (by omega), e3, a5.2.2.1 q (by omega), hs1]
      show (if q = 47 then _ else if q = 47 then _ else s.2.2.1 q) = _
      rw [if_neg (by omega), if_neg (by omega)]
    · show s3.2.2.2 q = _
      rw [hs3]
      show s2.2.2.2 q = _
      rw [a5.2.2.2 q r, hs1]
      rfl
end RRW
