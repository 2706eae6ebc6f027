/-! ===== PURE: feed ===== -/
/-- nothing but the ints cI, the int arrays cA, the long arrays cB (and where arrays lie, and how many cells there are) has changed -/
def kfr (cI : Nat → Nat → Prop) (cA cB : Nat → Prop) (t t' : cS) : Prop := (∀ k f, ¬ cI k f → kI t' k f = kI t k f) ∧ kL t' = kL t ∧ kP t' = kP t ∧ (∀ k, ¬ cA k → k ≠ 111 → kA t' k = kA t k) ∧ (∀ k, ¬ cB k → k ≠ 111 → kB t' k = kB t k) ∧ kM t' = kM t ∧ kH t' = kH t ∧ kN t ≤ kN t'
theorem kfr.rf {cI : Nat → Nat → Prop} {cA cB : Nat → Prop} {t : cS} : kfr cI cA cB t t := ⟨fun _ _ _ => rfl, rfl, rfl, fun _ _ _ => rfl, fun _ _ _ => rfl, rfl, rfl, Nat.le_refl _⟩
theorem kfr.tr {cI : Nat → Nat → Prop} {cA cB : Nat → Prop} {t t1 t2 : cS} (h : kfr cI cA cB t t1) (g : kfr cI cA cB t1 t2) : kfr cI cA cB t t2 := by
  obtain ⟨a1, a2, a3, a4, a5, a6, a7, a8⟩ := h
  obtain ⟨b1, b2, b3, b4, b5, b6, b7, b8⟩ := g
  exact ⟨fun k f q => (b1 k f q).trans (a1 k f q), b2.trans a2, b3.trans a3, fun k q r => (b4 k q r).trans (a4 k q r), fun k q r => (b5 k q r).trans (a5 k q r), b6.trans a6, b7.trans a7, Nat.le_trans a8 b8⟩
/-- the same of the reference: ints, longs, int arrays, long arrays -/
def mfr (cI cL cA cB : Nat → Prop) (s s' : mS) : Prop := (∀ q, ¬ cI q → s'.1 q = s.1 q) ∧ (∀ q, ¬ cL q → s'.2.1 q = s.2.1 q) ∧ (∀ q, ¬ cA q → s'.2.2.1 q = s.2.2.1 q) ∧ (∀ q, ¬ cB q → s'.2.2.2 q = s.2.2.2 q)
theorem mfr.rf {cI cL cA cB : Nat → Prop} {s : mS} : mfr cI cL cA cB s s := ⟨fun _ _ => rfl, fun _ _ => rfl, fun _ _ => rfl, fun _ _ => rfl⟩
theorem mfr.tr {cI cL cA cB : Nat → Prop} {s s1 s2 : mS} (h : mfr cI cL cA cB s s1) (g : mfr cI cL cA cB s1 s2) : mfr cI cL cA cB s s2 := ⟨fun q r => (g.1 q r).trans (h.1 q r), fun q r => (g.2.1 q r).trans (h.2.1 q r), fun q r => (g.2.2.1 q r).trans (h.2.2.1 q r), fun q r => (g.2.2.2 q r).trans (h.2.2.2 q r)⟩
section PF
variable {N : Nat} {X : Nat → Option zz_C} {t : cS} {s : mS} {n L : Nat}
def iB (n L : Nat) (t : cS) (s : mS) : Prop := kI t 0 1 = Int32.ofNat n ∧ s.1 3 = Int32.ofNat n ∧ (kA t 1).1 = L ∧ (∀ i, i < n → (kA t 1).2 i = s.2.2.1 2 i) ∧ (∀ i, fits .byte (.int ((kA t 1).2 i)) = true)
theorem nar_fits (w : Int32) : fits .byte (.int (vp_nar (zz_ty 2) w)) = true := by
  show fits .byte (.int w.toInt8.toInt32) = true
  have h1 := Int8.le_toInt w.toInt8
  have h2 := Int8.toInt_lt w.toInt8
  have e : w.toInt8.toInt32.toInt = w.toInt8.toInt := Int8.toInt_toInt32 w.toInt8
  show (decide ((-128 : Int32) ≤ w.toInt8.toInt32) && decide (w.toInt8.toInt32 ≤ 127)) = true
  rw [Bool.and_eq_true, decide_eq_true_eq, decide_eq_true_eq, Int32.le_iff_toInt_le, Int32.le_iff_toInt_le, e]
  have a1 : (-128 : Int32).toInt = -128 := rfl
  have a2 : (127 : Int32).toInt = 127 := rfl
  rw [a1, a2]
  omega
abbrev pT (t : cS) (n : Nat) (w : Int32) : cS := jI (jA t 1 (upd (kA t 1).2 n (vp_nar (zz_ty 2) w))) 0 1 (Int32.ofNat n + 1)
abbrev pM (s : mS) (n : Nat) (w : Int32) : mS := mI (mA s 2 (upd (s.2.2.1 2) n (vp_nar (zz_ty 2) w))) 3 (Int32.ofNat n + 1)
abbrev fT (t t' : cS) : Prop := kfr (fun k f => k = 0 ∧ f = 1) (fun k => k = 1) (fun k => k = 1) t t'
abbrev fM (s s' : mS) : Prop := mfr (fun q => q = 3) (fun _ => False) (fun q => q = 2) (fun _ => False) s s'
theorem iB.step (h : iB n L t s) (w : Int32) : iB (n + 1) L (pT t n w) (pM s n w) ∧ fT t (pT t n w) ∧ fM s (pM s n w) := by
  obtain ⟨h1, h2, h3, h4, h5⟩ := h
  refine ⟨⟨i32add (a := n) (b := 1), i32add (a := n) (b := 1), h3, fun i hi => ?_, fun i => ?_⟩, ⟨fun k f q => if_neg q, rfl, rfl, fun k q _ => if_neg q, fun _ _ _ => rfl, rfl, rfl, Nat.le_refl _⟩, ⟨fun q r => if_neg r, fun _ _ => rfl, fun q r => if_neg r, fun _ _ => rfl⟩⟩
  · show upd (kA t 1).2 n _ i = upd (s.2.2.1 2) n _ i
    unfold upd
    by_cases e : i = n
    · rw [if_pos e, if_pos e]
    · rw [if_neg e, if_neg e, h4 i (by omega)]
  · show fits .byte (.int (upd (kA t 1).2 n _ i)) = true
    unfold upd
    by_cases e : i = n
    · rw [if_pos e]
      exact nar_fits w
    · rw [if_neg e]
      exact h5 i
theorem iB.it (h : iB n L t s) (hn : n < L) (hL : L ≤ 1620) (k : Nat) (v x : Int32) (hx : ¬ x < 0) : ∃ w, cf_2_L1 N X (k + 1) 0 v x t = cf_2_L1 N X k 0 v (x + -8) (pT t n w) ∧ mf_58_L1 N (k + 1) 0 v x s = mf_58_L1 N k 0 v (x + -8) (pM s n w) := by
  obtain ⟨h1, h2, h3, h4, h5⟩ := h
  refine ⟨Int8.toInt32 (Int32.toInt8 (v >>> (x &&& 31))), ?_, ?_⟩
  · rw [cf_2_L1]
    rw [if_pos rfl]
    unfold cf_2_3
    rw [if_neg hx]
    unfold cf_2_7
    rw [h1, i32c (by omega), if_pos (fun q => q.elim (i32n (by omega)) (by rw [h3]; omega))]
  · rw [mf_58_L1]
    rw [if_pos rfl]
    unfold mf_58_3
    rw [if_neg hx]
    unfold mf_58_7
    rw [h2, i32c (by omega), if_pos (fun q => q.elim (i32n (by omega)) (by omega))]
theorem iB.four (h : iB n L t s) (hn : n + 4 ≤ L) (hL : L ≤ 1620) (hN : 5 ≤ N) (v : Int32) : ∃ t' s', cf_2 N X v t = some (t', .inl none) ∧ mf_58 N v s = some (s', none) ∧ iB (n + 4) L t' s' ∧ fT t t' ∧ fM s s' ∧ kN t' = kN t ∧ kQ t' = kQ t := by
  obtain ⟨M, hM⟩ : ∃ M, N = M + 1 + 1 + 1 + 1 + 1 := ⟨N - 5, by omega⟩
  unfold cf_2 cf_2_0 mf_58 mf_58_0
  obtain ⟨w1, a1, b1⟩ := h.it (N := N) (X := X) (by omega) hL (M + 1 + 1 + 1 + 1) v 24 (by decide)
  obtain ⟨h1, f1, g1⟩ := h.step w1
  obtain ⟨w2, a2, b2⟩ := h1.it (N := N) (X := X) (by omega) hL (M + 1 + 1 + 1) v 16 (by decide)
  obtain ⟨h2, f2, g2⟩ := h1.step w2
  obtain ⟨w3, a3, b3⟩ := h2.it (N := N) (X := X) (by omega) hL (M + 1 + 1) v 8 (by decide)
  obtain ⟨h3, f3, g3⟩ := h2.step w3
  obtain ⟨w4, a4, b4⟩ := h3.it (N := N) (X := X) (by omega) hL (M + 1) v 0 (by decide)
  obtain ⟨h4, f4, g4⟩ := h3.step w4
  refine ⟨_, _, ?_, ?_, h4, ((f1.tr f2).tr f3).tr f4, ((g1.tr g2).tr g3).tr g4, rfl, rfl⟩
  · rw [show cf_2_L1 N X N 0 v 24 t = cf_2_L1 N X (M + 1 + 1 + 1 + 1 + 1) 0 v 24 t from congrArg (fun z => cf_2_L1 N X z 0 v 24 t) hM]
    refine a1.trans ?_
    refine a2.trans ?_
    refine a3.trans ?_
    refine a4.trans ?_
    rw [cf_2_L1]
    rfl
  · rw [show mf_58_L1 N N 0 v 24 s = mf_58_L1 N (M + 1 + 1 + 1 + 1 + 1) 0 v 24 s from congrArg (fun z => mf_58_L1 N z 0 v 24 s) hM]
    refine b1.trans ?_
    refine b2.trans ?_
    refine b3.trans ?_
    refine b4.trans ?_
    rw [mf_58_L1]
    rfl
/-- the tape -/
def iA (t : cS) (s : mS) : Prop := ∃ n L, iB n L t s ∧ n ≤ L ∧ n % 20 = 0 ∧ (L = 320 ∨ L = 640 ∨ L = 1280 ∨ L = 1620)
theorem iB.five (h : iB n L t s) (hn : n + 20 ≤ L) (hL : L ≤ 1620) (hN : 5 ≤ N) (a b c d e : Int32) : ∃ t' s', cf_1_54 N X a b c d e t = some (t', .inl (some (.int (Int32.ofNat (n + 20))))) ∧ mf_57_12 N a b c d e s = some (s', some (.int (Int32.ofNat (n + 20)))) ∧ iB (n + 20) L t' s' ∧ fT t t' ∧ fM s s' ∧ kN t' = kN t ∧ kQ t' = kQ t := by
  obtain ⟨t1, s1, a1, b1, h1, f1, g1, n1, m1⟩ := h.four (X := X) (by omega) hL hN a
  obtain ⟨t2, s2, a2, b2, h2, f2, g2, n2, m2⟩ := h1.four (X := X) (by omega) hL hN b
  obtain ⟨t3, s3, a3, b3, h3, f3, g3, n3, m3⟩ := h2.four (X := X) (by omega) hL hN c
  obtain ⟨t4, s4, a4, b4, h4, f4, g4, n4, m4⟩ := h3.four (X := X) (by omega) hL hN d
  obtain ⟨t5, s5, a5, b5, h5, f5, g5, n5, m5⟩ := h4.four (X := X) (by omega) hL hN e
  refine ⟨t5, s5, ?_, ?_, h5, (((f1.tr f2).tr f3).tr f4).tr f5, (((g1.tr g2).tr g3).tr g4).tr g5, by rw [n5, n4, n3, n2, n1], by rw [m5, m4, m3, m2, m1]⟩
  · unfold cf_1_54
    rw [a1]
    show cf_1_59 N X b c d e t1 = _
    unfold cf_1_59
    rw [a2]
    show cf_1_64 N X c d e t2 = _
    unfold cf_1_64
    rw [a3]
    show cf_1_69 N X d e t3 = _
    unfold cf_1_69
    rw [a4]
    show cf_1_75 N X e t4 = _
    unfold cf_1_75
    rw [a5]
    show cf_1_81 N X t5 = _
    unfold cf_1_81
    rw [h5.1]
  · unfold mf_57_12
    rw [b1]
    show mf_57_17 N b c d e s1 = _
    unfold mf_57_17
    rw [b2]
    show mf_57_22 N c d e s2 = _
    unfold mf_57_22
    rw [b3]
    show mf_57_27 N d e s3 = _
    unfold mf_57_27
    rw [b4]
    show mf_57_33 N e s4 = _
    unfold mf_57_33
    rw [b5]
    show mf_57_39 N s5 = _
    unfold mf_57_39
    rw [h5.2.1]
/-- the tape grows -/
theorem iB.grow (h : iB n L t s) (hn : n ≤ L) {L' : Nat} (hL : L ≤ L') (m : Nat) (hm : n ≤ m) : iB n L' (jMv (jNI t 3 L' (kcp 0 (kA t 1).2 m)) 1) s ∧ fT t (jMv (jNI t 3 L' (kcp 0 (kA t 1).2 m)) 1) := by
  obtain ⟨h1, h2, h3, h4, h5⟩ := h
  refine ⟨⟨h1, h2, rfl, fun i hi => ?_, fun i => ?_⟩, ⟨fun _ _ _ => rfl, rfl, rfl, fun k q r => ?_, fun k q r => ?_, rfl, rfl, Nat.le_succ _⟩⟩
  · show kcp 0 (kA t 1).2 m i = _
    unfold kcp va_cpy
    rw [if_pos ⟨Nat.zero_le _, by omega⟩, Nat.sub_zero, Nat.zero_add]
    exact h4 i hi
  · show fits .byte (.int (kcp 0 (kA t 1).2 m i)) = true
    unfold kcp va_cpy
    split
    · exact h5 _
    · rfl
  · exact (if_neg q).trans (if_neg r)
  · exact if_neg q
theorem bts_of {f : Nat → Int32} (h : ∀ i, fits .byte (.int (f i)) = true) (m : Nat) : zz_bts f 0 m = true := List.all_eq_true.mpr (fun i _ => h _)
theorem p_feed (h : iA t s) (hN : 5 ≤ N) (hr : kN t + 1 < zz_out) (a b c d e : Int32) : ∃ t' s', ∃ v : Int32, cf_1 N X a b c d e t = some (t', .inl (some (.int v))) ∧ mf_57 N a b c d e s = some (s', some (.int v)) ∧ iA t' s' ∧ fT t t' ∧ fM s s' ∧ kN t' ≤ kN t + 1 ∧ kQ t' ≤ kQ t + 1620 := by
  obtain ⟨n, L, hB, hn, h20, hL⟩ := h
  have hB' := hB
  obtain ⟨h1, h2, h3, h4, h5⟩ := hB'
  have hL1 : L ≤ 1620 := by omega
  unfold cf_1 cf_1_0 mf_57 mf_57_0
  rw [h1, h2]
  have e1 : Int32.ofNat n + 20 = Int32.ofNat (n + 20) := i32add (a := n) (b := 20)
  rw [e1]
  by_cases c1 : n ≤ 1600
  · rw [if_pos (show Int32.ofNat (n + 20) ≤ 1620 from (i32le (by omega) (b := 1620) (by decide)).mpr (by omega)), if_pos (show Int32.ofNat n ≤ 1600 from (i32le (by omega) (b := 1600) (by decide)).mpr c1)]
    unfold cf_1_15
    rw [h1, h3, e1]
    by_cases c2 : n + 20 ≤ L
    · rw [if_pos ((i32le (by omega) (by omega)).mpr c2)]
      obtain ⟨t', s', q1, q2, q3, q4, q5, q6, q7⟩ := hB.five (X := X) c2 hL1 hN a b c d e
      exact ⟨t', s', _, q1, q2, ⟨n + 20, L, q3, c2, by omega, hL⟩, q4, q5, by omega, by omega⟩
    · rw [if_neg (fun q => c2 ((i32le (by omega) (by omega)).mp q))]
      have hnL : n = L := by omega
      obtain ⟨L', e3, hL', hLL, hd⟩ : ∃ L', (if (1620 : Int32) < 2 * Int32.ofNat L then (1620 : Int32) else 2 * Int32.ofNat L) = Int32.ofNat L' ∧ (L' = 640 ∨ L' = 1280 ∨ L' = 1620) ∧ n + 20 ≤ L' ∧ L ≠ L' := by
        rcases hL with rfl | rfl | rfl | rfl
        · exact ⟨640, by decide, Or.inl rfl, by omega, by decide⟩
        · exact ⟨1280, by decide, Or.inr (Or.inl rfl), by omega, by decide⟩
        · exact ⟨1620, by decide, Or.inr (Or.inr rfl), by omega, by decide⟩
        · omega
      unfold cf_1_30
      rw [h3, e3, i32c (by omega)]
      rw [if_pos ⟨i32n (by omega), by omega, by omega, fun q => hd ((i32eq (by omega) (by omega)).mp q).symm, hr, bts_of h5 _⟩]
      obtain ⟨g1, g2⟩ := hB.grow hn (L' := L') (by omega) (Nat.min L L') (by show n ≤ min L L'; omega)
      obtain ⟨t', s', q1, q2, q3, q4, q5, q6, q7⟩ := g1.five (X := X) hLL (by omega) hN a b c d e
      exact ⟨t', s', _, q1, q2, ⟨n + 20, L', q3, hLL, by omega, Or.inr hL'⟩, g2.tr q4, q5, by rw [q6]; exact Nat.le_refl _, by rw [q7]; show kQ t + L' ≤ _; omega⟩
  · rw [if_neg (show ¬ Int32.ofNat (n + 20) ≤ 1620 from fun q => c1 (by have := (i32le (by omega) (b := 1620) (by decide)).mp q; omega)), if_neg (show ¬ Int32.ofNat n ≤ 1600 from fun q => c1 ((i32le (by omega) (b := 1600) (by decide)).mp q))]
    exact ⟨t, s, -1, rfl, rfl, ⟨n, L, hB, hn, h20, hL⟩, kfr.rf, mfr.rf, by omega, by omega⟩
end PF
