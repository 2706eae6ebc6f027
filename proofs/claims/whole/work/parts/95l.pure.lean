/-! ===== PURE: run (13): builds: how great it is ===== -/
section RBG
variable {N q k : Nat} {s : mS} {f n F : Nat} {xs : List Nod} {x2 x3 x4 x5 x6 x7 x8 : Int32}
theorem r_b19n (hk : k = 1 ∨ k = 3) : mf_305_L19 N (q + 1) 0 (Int32.ofNat k) x2 x3 x4 x5 x6 s = mf_305_72 N (Int32.ofNat k) x2 x3 x4 x5 s := by
  show mf_305_36 N (mf_305_L19 N q) (Int32.ofNat k) x2 x3 x4 x5 x6 s = _
  unfold mf_305_36
  by_cases h : s.1 51 ≤ x6
  · rw [if_pos h]
  · rw [if_neg h]
    unfold mf_305_45
    rcases hk with rfl | rfl
    · exact if_pos (by decide)
    · exact if_pos (by decide)
theorem r_b13n (hk : k = 1 ∨ k = 2 ∨ ¬ x5 = 0) : mf_305_L13 N (q + 1) 0 (Int32.ofNat k) x2 x3 x5 x6 x7 x8 s = mf_305_187 N (Int32.ofNat k) x2 x3 x5 x6 x7 s := by
  show mf_305_101 N (mf_305_L13 N q) (Int32.ofNat k) x2 x3 x5 x6 x7 x8 s = _
  unfold mf_305_101
  by_cases h : s.1 51 ≤ x8
  · rw [if_pos h]
  · rw [if_neg h]
    unfold mf_305_110 mf_305_115
    rcases hk with rfl | rfl | hk
    · exact if_pos (by decide)
    · exact if_pos (by decide)
    · by_cases h3 : ¬ Int32.ofNat k = 3
      · rw [if_pos h3]
      · rw [if_neg h3, if_pos hk]
/-- too great, or not: 228 goes on, 218 is the trouble -/
theorem r_great (hN : 170000 ≤ N) (H : rX s n f xs) (hok : mkOk k xs) (hf : f ≤ 166300) (hn : n + xs.length < 9000) (hw : ∀ x ∈ xs, wfN x) (hd : ∀ x ∈ xs, x.1 ≤ 4) (hl : xs.length ≤ 3000) : ∃ s2, fMe s s2 ∧ mf_305 N (Int32.ofNat k) (Int32.ofNat n) s = if mk k xs = none then mf_305_218 N s2 else mf_305_228 N (Int32.ofNat k) (Int32.ofNat n) (Int32.ofNat xs.length) s2 := by
  obtain ⟨N1, hN1⟩ : ∃ N1, N = N1 + 1 := ⟨N - 1, by omega⟩
  have h51 := H.1
  have hsub : Int32.ofNat (n + xs.length) - Int32.ofNat n = Int32.ofNat xs.length := by
    rw [Nat.add_comm, Int32.ofNat_add]
    exact Int32.add_sub_cancel _ _
  have t1 : ∀ {k : Nat} {s2 : mS} {x6 x7 : Int32}, mf_305_187 N (Int32.ofNat k) (Int32.ofNat n) (Int32.ofNat xs.length) (Int32.ofNat 1) x6 x7 s2 = mf_305_218 N s2 := fun {k s2 x6 x7} => by
    unfold mf_305_187 mf_305_206 mf_305_211
    simp (disch := omega) only [ev_S, ev_P, ↓reduceIte, Nat.reduceEqDiff, Nat.reduceLeDiff, Nat.reduceAdd, Nat.reduceMul, Nat.reduceSub, reduceCtorEq, l32_0, l32_1, l32_2, l32_3, l32_4, l32_5, l32_6, l32_7, l32_8, l32_9, l32_10, l32_11, l32_12, l32_13, l32_14, l32_15, l32_16, l32_17, l32_18, l32_19, l32_20, l32_21, l32_22, l32_23, l32_24, l32_25, l32_26, l32_27, l32_28, l32_29, l32_33, l32_40, l32_41, l32_44, l32_45, l32_59, l32_61, l32_91, l32_93, l32_123, l32_125]
  have t0 : ∀ {k : Nat} {s2 : mS} {D B : Nat}, D < 2000000 → B < 2000000 → mf_305_187 N (Int32.ofNat k) (Int32.ofNat n) (Int32.ofNat xs.length) (Int32.ofNat 0) (Int32.ofNat D) (Int32.ofNat B) s2 = if D ≤ 3 ∧ B ≤ 600 then mf_305_228 N (Int32.ofNat k) (Int32.ofNat n) (Int32.ofNat xs.length) s2 else mf_305_218 N s2 := fun {k s2 D B} hD hB => by
    have e1 : (3 : Int32) = Int32.ofNat 3 := rfl
    have e2 : (600 : Int32) = Int32.ofNat 600 := rfl
    unfold mf_305_187 mf_305_192
    rw [if_neg (fun z => z rfl), e1]
    by_cases z : 3 < D
    · rw [if_pos ((i32lt (by omega) (by omega)).mpr z), if_neg (by omega)]
      unfold mf_305_206 mf_305_211
      exact if_neg (by decide)
    · rw [if_neg (fun y => z ((i32lt (by omega) (by omega)).mp y))]
      unfold mf_305_198
      rw [e2]
      by_cases y : B ≤ 600
      · rw [if_pos ((i32le (by omega) (by omega)).mpr y), if_pos ⟨by omega, y⟩]
        unfold mf_305_210 mf_305_211
        exact if_pos rfl
      · rw [if_neg (fun u => y ((i32le (by omega) (by omega)).mp u)), if_neg (fun u => y u.2)]
        unfold mf_305_206 mf_305_211
        exact if_neg (by decide)
  have bx : ∀ (c : Nat), c ≤ 64 → (Int32.ofNat xs.length ≤ Int32.ofNat c ↔ xs.length ≤ c) := fun c hc => i32le (by omega) (by omega)
  rcases hok with ⟨rfl, -⟩ | ⟨rfl, hk1⟩ | rfl
  · refine ⟨s, mfr.rf, ?_⟩
    unfold mf_305 mf_305_0
    rw [h51, hsub, if_neg (fun z => z rfl)]
    unfold mf_305_16 mf_305_23
    have em : mk 1 xs = if xs.length ≤ 64 then some (mkR xs) else none := rfl
    rw [em]
    by_cases z : xs.length ≤ 64
    · rw [if_pos (show Int32.ofNat xs.length ≤ 64 from (bx 64 (by omega)).mpr z), if_pos z, if_neg (by intro h; cases h)]
      unfold mf_305_30 mf_305_31
      rw [hN1, r_b19n (Or.inl rfl), ← hN1]
      unfold mf_305_72 mf_305_77
      rw [if_neg (fun z => z rfl), if_pos (by decide)]
      unfold mf_305_89 mf_305_90
      rw [hN1, r_b13n (Or.inl rfl), ← hN1]
      exact (t0 (D := 0) (B := 1) (by omega) (by omega)).trans (if_pos ⟨by omega, by omega⟩)
    · rw [if_neg (show ¬ Int32.ofNat xs.length ≤ 64 from fun y => z ((bx 64 (by omega)).mp y)), if_neg z, if_pos rfl]
      unfold mf_305_26 mf_305_31
      rw [hN1, r_b19n (Or.inl rfl), ← hN1]
      unfold mf_305_72
      rw [if_pos (by decide)]
      unfold mf_305_85 mf_305_90
      rw [hN1, r_b13n (Or.inl rfl), ← hN1]
      exact t1
  · refine ⟨s, mfr.rf, ?_⟩
    have hs6 : (xs.map szN).sum ≤ 600 * xs.length := wt_sum (k := 2) hw
    unfold mf_305 mf_305_0
    rw [h51, hsub, if_pos (by decide)]
    unfold mf_305_21 mf_305_23
    have em : mk 2 xs = if xs.length ≤ 20 ∧ (xs.map szN).sum ≤ 200 then some (mkT xs) else none := rfl
    have l19 : ∀ x5, mf_305_L19 N N 0 (Int32.ofNat 2) (Int32.ofNat n) (Int32.ofNat xs.length) 0 x5 (Int32.ofNat n) s = mf_305_72 N (Int32.ofNat 2) (Int32.ofNat n) (Int32.ofNat xs.length) (Int32.ofNat (xs.map szN).sum) x5 s := fun x5 => by
      have z := r_b19 (N := N) (x3 := Int32.ofNat xs.length) (x5 := x5) H hk1 hf hn xs.length 0 (N - (xs.length + 1)) 0 (Nat.zero_add _)
      rw [show N - (xs.length + 1) + (xs.length + 1) = N by omega, List.drop_zero, Nat.zero_add] at z
      exact z
    rw [em]
    generalize (xs.map szN).sum = w at *
    by_cases z : xs.length ≤ 20
    · rw [if_pos (show Int32.ofNat xs.length ≤ 20 from (bx 20 (by omega)).mpr z)]
      unfold mf_305_30 mf_305_31
      rw [l19]
      unfold mf_305_72 mf_305_77
      rw [if_neg (fun z => z rfl)]
      by_cases y : w ≤ 200
      · rw [if_pos (show Int32.ofNat w ≤ 200 from (i32le (b := 200) (by omega) (by omega)).mpr y), if_pos (show xs.length ≤ 20 ∧ w ≤ 200 from ⟨z, y⟩), if_neg (by intro h; cases h)]
        unfold mf_305_89 mf_305_90
        rw [hN1, r_b13n (Or.inr (Or.inl rfl)), ← hN1]
        exact (t0 (D := 0) (B := 1) (by omega) (by omega)).trans (if_pos ⟨by omega, by omega⟩)
      · rw [if_neg (show ¬ Int32.ofNat w ≤ 200 from fun u => y ((i32le (b := 200) (by omega) (by omega)).mp u)), if_neg (show ¬ (xs.length ≤ 20 ∧ w ≤ 200) from fun u => y u.2), if_pos rfl]
        unfold mf_305_85 mf_305_90
        rw [hN1, r_b13n (Or.inr (Or.inl rfl)), ← hN1]
        exact t1
    · rw [if_neg (show ¬ Int32.ofNat xs.length ≤ 20 from fun y => z ((bx 20 (by omega)).mp y)), if_neg (show ¬ (xs.length ≤ 20 ∧ w ≤ 200) from fun u => z u.1), if_pos rfl]
      unfold mf_305_26 mf_305_31
      rw [l19]
      unfold mf_305_72
      rw [if_pos (by decide)]
      unfold mf_305_85 mf_305_90
      rw [hN1, r_b13n (Or.inr (Or.inl rfl)), ← hN1]
      exact t1
  · have hs6 : (xs.map bulkN).sum ≤ 600 * xs.length := wt_sum (k := 3) hw
    have hdm : mxL (xs.map dN) ≤ 4 := mxL_le.mpr (fun y hy => by
      obtain ⟨x, hx, rfl⟩ := List.mem_map.mp hy
      exact Nat.le_trans (dT_le _ _) (hd x hx))
    obtain ⟨s2, l1, l2⟩ := r_b13 (N := N) (x3 := Int32.ofNat xs.length) hN hf hn hw hd hl xs.length 0 (N - (xs.length + 1)) s 0 1 (Nat.zero_add _) H (by omega) (by omega)
    rw [show N - (xs.length + 1) + (xs.length + 1) = N by omega, List.drop_zero, show Nat.max 0 (mxL (xs.map dN)) = mxL (xs.map dN) from Nat.max_eq_right (Nat.zero_le _)] at l1
    have em : mk 3 xs = if xs.length ≤ 20 ∧ 1 + (xs.map bulkN).sum ≤ 600 ∧ 1 + mxL (xs.map dN) ≤ 4 then some (mkP xs) else none := rfl
    rw [em]
    generalize (xs.map bulkN).sum = w at *
    generalize mxL (xs.map dN) = D at *
    refine ⟨if xs.length ≤ 20 then s2 else s, by split; exact l2; exact mfr.rf, ?_⟩
    unfold mf_305 mf_305_0
    rw [h51, hsub, if_pos (by decide)]
    unfold mf_305_21 mf_305_23
    by_cases z : xs.length ≤ 20
    · rw [if_pos (show Int32.ofNat xs.length ≤ 20 from (bx 20 (by omega)).mpr z), if_pos z]
      unfold mf_305_30 mf_305_31
      rw [hN1, r_b19n (Or.inr rfl), ← hN1]
      unfold mf_305_72 mf_305_77
      rw [if_neg (fun z => z rfl), if_pos (by decide)]
      unfold mf_305_89 mf_305_90
      have l1 : mf_305_L13 N N 0 (Int32.ofNat 3) (Int32.ofNat n) (Int32.ofNat xs.length) 0 0 1 (Int32.ofNat n) s = _ := l1
      rw [l1, t0 (by omega) (by omega)]
      by_cases y : D ≤ 3 ∧ 1 + w ≤ 600
      · rw [if_pos y, if_pos (show xs.length ≤ 20 ∧ 1 + w ≤ 600 ∧ 1 + D ≤ 4 by omega), if_neg (by intro h; cases h)]
      · rw [if_neg y, if_neg (show ¬ (xs.length ≤ 20 ∧ 1 + w ≤ 600 ∧ 1 + D ≤ 4) by omega), if_pos rfl]
    · rw [if_neg (show ¬ Int32.ofNat xs.length ≤ 20 from fun y => z ((bx 20 (by omega)).mp y)), if_neg z, if_neg (show ¬ (xs.length ≤ 20 ∧ 1 + w ≤ 600 ∧ 1 + D ≤ 4) from fun u => z u.1), if_pos rfl]
      unfold mf_305_26 mf_305_31
      rw [hN1, r_b19n (Or.inr rfl), ← hN1]
      unfold mf_305_72
      rw [if_pos (by decide)]
      unfold mf_305_85 mf_305_90
      rw [hN1, r_b13n (Or.inr (Or.inr (by decide))), ← hN1]
      exact t1
end RBG
