/-! ===== PURE: run (5): a plain THING's bulk ===== -/
section PBK
variable {N : Nat} {s : mS} {f a i : Nat} {x : Nod} {q : List (List Int32)}
theorem r_pbL (H : LayN (s.2.2.1 47) (Rf f) a x) (hv : vw x = vT q) (hf : f ≤ 166300) : ∀ (d i k : Nat), i + d = q.length → mf_297_L1 N (k + (d + 1)) 0 (Int32.ofNat a) (Int32.ofNat (1 + ((q.take i).map fun r => 1 + r.length).sum)) (Int32.ofNat i) s = some (s, some (.int (Int32.ofNat (1 + (q.map fun r => 1 + r.length).sum)))) := by
  obtain ⟨L1, L2⟩ := LayN_iff.mp H
  have hw := (LayN.lt H).1
  rw [hv] at L2 hw
  have hsz := r_size (N := N) L2 (by omega)
  have hsz : mf_77 N (Int32.ofNat a) s = some (s, some (.int (Int32.ofNat q.length))) := hsz
  have hw' : a + (2 + q.length) ≤ f := hw
  intro d
  induction d with
  | zero =>
    intro i k hi
    have hi : i = q.length := hi
    subst hi
    rw [List.take_length]
    show mf_297_22 N (mf_297_L1 N k) (Int32.ofNat a) _ (Int32.ofNat q.length) s = _
    generalize 1 + (q.map fun r => 1 + r.length).sum = w
    unfold mf_297_22 mf_297_28 mf_297_52
    simp (disch := omega) only [ev_S, ev_P, ↓reduceIte, Nat.reduceEqDiff, Nat.reduceLeDiff, Nat.reduceAdd, Nat.reduceMul, Nat.reduceSub, reduceCtorEq, l32_0, l32_1, l32_2, l32_3, l32_4, l32_5, l32_6, l32_7, l32_8, l32_9, l32_10, l32_11, l32_12, l32_13, l32_14, l32_15, l32_16, l32_17, l32_18, l32_19, l32_20, l32_21, l32_22, l32_23, l32_24, l32_25, l32_26, l32_27, l32_28, l32_29, l32_33, l32_40, l32_41, l32_44, l32_45, l32_59, l32_61, l32_91, l32_93, l32_123, l32_125, hsz]
  | succ d ih =>
    intro i k hi
    have hi1 : i < q.length := by omega
    have n1 : ¬ q.length ≤ i := by omega
    obtain ⟨c, c1, c2⟩ := r_partT (N := N) L2 (by omega) hi1
    obtain ⟨M1, M2⟩ := LayN_iff.mp c2
    have hc := (LayN.lt c2).1
    have hs2 := r_size (N := N) M2 (by omega)
    have hs2 : mf_77 N (Int32.ofNat c) s = some (s, some (.int (Int32.ofNat q[i].length))) := hs2
    rw [← ih (i + 1) k (by omega), sum_take hi1]
    show mf_297_22 N (mf_297_L1 N (k + (d + 1))) (Int32.ofNat a) _ (Int32.ofNat i) s = _
    generalize ((q.take i).map fun r => 1 + r.length).sum = w
    rw [show 1 + (w + (1 + q[i].length)) = 1 + w + (1 + q[i].length) by omega, Int32.ofNat_add (1 + w), Int32.ofNat_add 1 q[i].length]
    generalize Int32.ofNat (1 + w) = W
    unfold mf_297_22 mf_297_28 mf_297_31 mf_297_40 mf_297_43
    simp only [hsz, mo_bi]
    rw [if_neg (fun z => n1 ((i32le (by omega) (by omega)).mp z))]
    simp only [c1, mo_bi, hs2]
    rw [show Int32.ofNat i + 1 = Int32.ofNat (i + 1) from i32al]
    rfl
theorem r_plainBulk (hN : 170000 ≤ N) (H : LayN (s.2.2.1 47) (Rf f) a x) (hf : f ≤ 166300) (hp : ¬ kdV (vw x) = 3) : mf_297 N (Int32.ofNat a) s = some (s, some (.int (Int32.ofNat (pbV (vw x))))) := by
  obtain ⟨L1, L2⟩ := LayN_iff.mp H
  have hw := (LayN.lt H).1
  have hsz := r_size (N := N) L2 (by omega)
  have hk := L2.kd
  cases hv : vw x with
  | inl z =>
    rw [hv] at L2
    exact L2.elim
  | inr v1 =>
    rcases v1 with r | q | l
    · rw [hv] at hw hsz hk
      have hw : a + (2 + r.length) ≤ f := hw
      have hsz : mf_77 N (Int32.ofNat a) s = some (s, some (.int (Int32.ofNat r.length))) := hsz
      have h1 : s.2.2.1 47 a = Int32.ofNat 1 := hk.1
      show mf_297 N (Int32.ofNat a) s = some (s, some (Value.int (Int32.ofNat (1 + r.length))))
      unfold mf_297 mf_297_0 mf_297_10 mf_297_16
      simp (disch := omega) only [ev_S, ev_P, ↓reduceIte, Nat.reduceEqDiff, Nat.reduceLeDiff, Nat.reduceAdd, Nat.reduceMul, Nat.reduceSub, reduceCtorEq, l32_0, l32_1, l32_2, l32_3, l32_4, l32_5, l32_6, l32_7, l32_8, l32_9, l32_10, l32_11, l32_12, l32_13, l32_14, l32_15, l32_16, l32_17, l32_18, l32_19, l32_20, l32_21, l32_22, l32_23, l32_24, l32_25, l32_26, l32_27, l32_28, l32_29, l32_33, l32_40, l32_41, l32_44, l32_45, l32_59, l32_61, l32_91, l32_93, l32_123, l32_125, h1, hsz]
    · have hl := r_pbL (N := N) H hv hf q.length 0 (N - (q.length + 1)) (Nat.zero_add _)
      rw [hv] at hw hsz hk
      have hw : a + (2 + q.length) ≤ f := hw
      rw [show N - (q.length + 1) + (q.length + 1) = N by omega] at hl
      have h1 : s.2.2.1 47 a = Int32.ofNat 2 := hk.1
      have hl : mf_297_L1 N N 0 (Int32.ofNat a) (Int32.ofNat 1) (Int32.ofNat 0) s = some (s, some (.int (Int32.ofNat (1 + (q.map fun r => 1 + r.length).sum)))) := hl
      show mf_297 N (Int32.ofNat a) s = some (s, some (Value.int (Int32.ofNat (1 + (q.map fun r => 1 + r.length).sum))))
      generalize 1 + (q.map fun r => 1 + r.length).sum = w at *
      unfold mf_297 mf_297_0 mf_297_18
      simp (disch := omega) only [ev_S, ev_P, ↓reduceIte, Nat.reduceEqDiff, Nat.reduceLeDiff, Nat.reduceAdd, Nat.reduceMul, Nat.reduceSub, reduceCtorEq, l32_0, l32_1, l32_2, l32_3, l32_4, l32_5, l32_6, l32_7, l32_8, l32_9, l32_10, l32_11, l32_12, l32_13, l32_14, l32_15, l32_16, l32_17, l32_18, l32_19, l32_20, l32_21, l32_22, l32_23, l32_24, l32_25, l32_26, l32_27, l32_28, l32_29, l32_33, l32_40, l32_41, l32_44, l32_45, l32_59, l32_61, l32_91, l32_93, l32_123, l32_125, h1, hl]
    · rw [hv] at hp
      exact absurd rfl hp
end PBK
