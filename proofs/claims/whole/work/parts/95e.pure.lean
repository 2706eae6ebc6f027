/-! ===== PURE: run (6): troubles, steps, what is given (the reference) ===== -/
section GVS
variable {N : Nat} {s : mS} {f a n m : Nat} {x : Nod} {k p : Int32}
abbrev trb (s : mS) (k p : Int32) : mS := mI (mI s 66 k) 67 p
theorem r_trb (h66 : s.1 66 = Int32.ofNat 0) : mf_301 N k p s = some (trb s k p, none) := by
  unfold mf_301 mf_301_0 mf_301_8
  simp (disch := omega) only [ev_S, ev_P, ↓reduceIte, Nat.reduceEqDiff, Nat.reduceLeDiff, Nat.reduceAdd, Nat.reduceMul, Nat.reduceSub, reduceCtorEq, l32_0, l32_1, l32_2, l32_3, l32_4, l32_5, l32_6, l32_7, l32_8, l32_9, l32_10, l32_11, l32_12, l32_13, l32_14, l32_15, l32_16, l32_17, l32_18, l32_19, l32_20, l32_21, l32_22, l32_23, l32_24, l32_25, l32_26, l32_27, l32_28, l32_29, l32_33, l32_40, l32_41, l32_44, l32_45, l32_59, l32_61, l32_91, l32_93, l32_123, l32_125, h66]
theorem r_stp {st fu : Nat} (h66 : s.1 66 = Int32.ofNat 0) (h60 : s.1 60 = Int32.ofNat st) (h61 : s.1 61 = Int32.ofNat fu) (hs : st ≤ fu) (hf : fu ≤ 20000) : mf_302 N s = some (if st = fu then trb s (Int32.ofNat 10) (s.1 70) else mI s 60 (Int32.ofNat (st + 1)), none) := by
  have t1 := r_trb (N := N) (k := Int32.ofNat 10) (p := s.1 70) h66
  by_cases z : st = fu
  · rw [if_pos z]
    have hz : s.1 60 = s.1 61 := by rw [h60, h61, z]
    unfold mf_302 mf_302_0
    rw [if_neg (fun y => y hz)]
    unfold mf_302_11
    show mo_bv (mf_301 N (Int32.ofNat 10) (s.1 70) s) _ = _
    rw [t1]
    rfl
  · rw [if_neg z]
    have hz : ¬ s.1 60 = s.1 61 := by
      rw [h60, h61]
      exact fun y => z (ofNat_inj (by omega) (by omega) y)
    unfold mf_302 mf_302_0
    rw [if_pos hz]
    unfold mf_302_24 mf_302_34
    rw [h60]
    rw [show Int32.ofNat st + 1 = Int32.ofNat (st + 1) from i32al]
/-- a THING is given: it is counted, and lies on the stack -/
theorem r_gives (hN : 170000 ≤ N) (H : LayN (s.2.2.1 47) (Rf f) a x) (hf : f ≤ 166300) (h66 : s.1 66 = Int32.ofNat 0) (h62 : s.1 62 = Int32.ofNat m) (hm : m + ctV (vw x) < 2000000) (h51 : s.1 51 = Int32.ofNat n) (hn : n < 9000) : mf_303 N (Int32.ofNat a) s = some (pus (if m + ctV (vw x) ≤ 3000 then mI s 62 (Int32.ofNat (m + ctV (vw x))) else trb (mI s 62 (Int32.ofNat (m + ctV (vw x)))) (Int32.ofNat 11) (s.1 70)) n (Int32.ofNat 1) (Int32.ofNat a), none) := by
  have c1 := r_counts hN H hf
  generalize ctV (vw x) = w at *
  have e1 : Int32.ofNat m + Int32.ofNat w = Int32.ofNat (m + w) := (Int32.ofNat_add m w).symm
  have step : ∀ s1 : mS, s1.1 51 = Int32.ofNat n → mf_303_34 N (Int32.ofNat a) s1 = some (pus s1 n (Int32.ofNat 1) (Int32.ofNat a), none) := fun s1 h1 => by
    unfold mf_303_34
    show mo_bv (mf_291 N (Int32.ofNat 1) (Int32.ofNat a) s1) _ = _
    rw [r_psh (N := N) h1 hn]
    rfl
  unfold mf_303 mf_303_0
  rw [c1]
  show mf_303_10 N (Int32.ofNat a) (s.1 62) (Int32.ofNat w) s = _
  unfold mf_303_10
  rw [h62, e1]
  by_cases z : m + w ≤ 3000
  · rw [if_pos (show Int32.ofNat (m + w) ≤ 3000 from (i32le (b := 3000) (by omega) (by omega)).mpr z), if_pos z]
    exact step _ h51
  · rw [if_neg (show ¬ Int32.ofNat (m + w) ≤ 3000 from fun y => z ((i32le (b := 3000) (by omega) (by omega)).mp y)), if_neg z]
    unfold mf_303_24
    show mo_bv (mf_301 N (Int32.ofNat 11) (s.1 70) (mI s 62 (Int32.ofNat (m + w)))) _ = _
    rw [r_trb (s := mI s 62 (Int32.ofNat (m + w))) h66]
    exact step (trb (mI s 62 (Int32.ofNat (m + w))) (Int32.ofNat 11) (s.1 70)) h51
end GVS
