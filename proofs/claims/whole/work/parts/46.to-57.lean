-- ### 46.pfeed.lean.txt
section
/-! ===== PURE: feed ===== -/
/-- nothing but the ints cI, the int arrays cA, the long arrays cB (and where arrays lie, and how many cells there are) has changed -/
def kfr (cI : Nat → Nat → Prop) (cA cB : Nat → Prop) (t t' : cS) : Prop := (∀ k f, ¬ cI k f → kI t' k f = kI t k f) ∧ kL t' = kL t ∧ kP t' = kP t ∧ (∀ k, ¬ cA k → k ≠ 111 → kA t' k = kA t k) ∧ (∀ k, ¬ cB k → k ≠ 111 → kB t' k = kB t k) ∧ kM t' = kM t ∧ kH t' = kH t ∧ kN t ≤ kN t'
theorem kfr.rf {cI : Nat → Nat → Prop} {cA cB : Nat → Prop} {t : cS} : kfr cI cA cB t t := ⟨fun _ _ _ => rfl, rfl, rfl, fun _ _ _ => rfl, fun _ _ _ => rfl, rfl, rfl, Nat.le_refl _⟩
theorem kfr.tr {cI : Nat → Nat → Prop} {cA cB : Nat → Prop} {t t1 t2 : cS} (h : kfr cI cA cB t t1) (g : kfr cI cA cB t1 t2) : kfr cI cA cB t t2 := by
  obtain ⟨a1, a2, a3, a4, a5, a6, a7, a8⟩ := h
  obtain ⟨b1, b2, b3, b4, b5, b6, b7, b8⟩ := g
  exact ⟨fun k f q => (b1 k f q).trans (a1 k f q), b2.trans a2, b3.trans a3, fun k q r => (b4 k q r).trans (a4 k q r), fun k q r => (b5 k q r).trans (a5 k q r), b6.trans a6, b7.trans a7, Nat.le_trans a8 b8⟩
/-- the same of the reference: ints, longs, int arrays, long arrays -/
def mfr (cI cL cA cB : Nat → Prop) (s s' : mS) : Prop := (∀ q, ¬ cI q → s'.1 q = s.1 q) ∧ (∀ q, ¬ cL q → s'.2.1 q = s.2.1 q) ∧ (∀ q, ¬ cA q → s'.2.2.1 q = s.2.2.1 q) ∧ (∀ q, ¬ cB q → s'.2.2.2 q = s.2.2.2 q)
theorem mfr.rf {cI cL cA cB : Nat → Prop} {s : mS} : mfr cI cL cA cB s s := ⟨fun _ _ => rfl, fun _ _ => rfl, fun _ _ => rfl, fun _ _ => rfl⟩
theorem mfr.tr {cI cL cA cB : Nat → Prop} {s s1 s2 : mS} (h : mfr cI cL cA cB s s1) (g : mfr cI cL cA cB s1 s2) : mfr cI cL cA cB s s2 := ⟨fun q r => (g.1 q r).trans (h.1 q r), fun q r => (g.2.1 q r).trans (h.2.1 q r), fun q r => (g.2.2.1 q r).trans (h.2.2.1 q r), fun q r => (g.2.2.2 q r).trans (h.2.2.2 q r)⟩
section PF
variable {N : Nat} {X : Nat → Option zz_C} {t : cS} {s : mS} {n L : Nat}
def iB (n L : Nat) (t : cS) (s : mS) : Prop := kI t 0 1 = Int32.ofNat n ∧ s.1 3 = Int32.ofNat n ∧ (kA t 1).1 = L ∧ (∀ i, i < n → (kA t 1).2 i = s.2.2.1 2 i) ∧ (∀ i, fits .byte (.int ((kA t 1).2 i)) = true)
theorem nar_fits (w : Int32) : fits .byte (.int (vp_nar (zz_ty 2) w)) = true := by
  show fits .byte (.int w.toInt8.toInt32) = true
  have h1 := Int8.le_toInt w.toInt8
  have h2 := Int8.toInt_lt w.toInt8
  have e : w.toInt8.toInt32.toInt = w.toInt8.toInt := Int8.toInt_toInt32 w.toInt8
  show (decide ((-128 : Int32) ≤ w.toInt8.toInt32) && decide (w.toInt8.toInt32 ≤ 127)) = true
  rw [Bool.and_eq_true, decide_eq_true_eq, decide_eq_true_eq, Int32.le_iff_toInt_le, Int32.le_iff_toInt_le, e]
  have a1 : (-128 : Int32).toInt = -128 := rfl
  have a2 : (127 : Int32).toInt = 127 := rfl
  rw [a1, a2]
  omega
abbrev pT (t : cS) (n : Nat) (w : Int32) : cS := jI (jA t 1 (upd (kA t 1).2 n (vp_nar (zz_ty 2) w))) 0 1 (Int32.ofNat n + 1)
abbrev pM (s : mS) (n : Nat) (w : Int32) : mS := mI (mA s 2 (upd (s.2.2.1 2) n (vp_nar (zz_ty 2) w))) 3 (Int32.ofNat n + 1)
abbrev fT (t t' : cS) : Prop := kfr (fun k f => k = 0 ∧ f = 1) (fun k => k = 1) (fun k => k = 1) t t'
abbrev fM (s s' : mS) : Prop := mfr (fun q => q = 3) (fun _ => False) (fun q => q = 2) (fun _ => False) s s'
theorem iB.step (h : iB n L t s) (w : Int32) : iB (n + 1) L (pT t n w) (pM s n w) ∧ fT t (pT t n w) ∧ fM s (pM s n w) := by
  obtain ⟨h1, h2, h3, h4, h5⟩ := h
  refine ⟨⟨i32add (a := n) (b := 1), i32add (a := n) (b := 1), h3, fun i hi => ?_, fun i => ?_⟩, ⟨fun k f q => if_neg q, rfl, rfl, fun k q _ => if_neg q, fun _ _ _ => rfl, rfl, rfl, Nat.le_refl _⟩, ⟨fun q r => if_neg r, fun _ _ => rfl, fun q r => if_neg r, fun _ _ => rfl⟩⟩
  · show upd (kA t 1).2 n _ i = upd (s.2.2.1 2) n _ i
    unfold upd
    by_cases e : i = n
    · rw [if_pos e, if_pos e]
    · rw [if_neg e, if_neg e, h4 i (by omega)]
  · show fits .byte (.int (upd (kA t 1).2 n _ i)) = true
    unfold upd
    by_cases e : i = n
    · rw [if_pos e]
      exact nar_fits w
    · rw [if_neg e]
      exact h5 i
theorem iB.it (h : iB n L t s) (hn : n < L) (hL : L ≤ 1620) (k : Nat) (v x : Int32) (hx : ¬ x < 0) : ∃ w, cf_2_L1 N X (k + 1) 0 v x t = cf_2_L1 N X k 0 v (x + -8) (pT t n w) ∧ mf_58_L1 N (k + 1) 0 v x s = mf_58_L1 N k 0 v (x + -8) (pM s n w) := by
  obtain ⟨h1, h2, h3, h4, h5⟩ := h
  refine ⟨Int8.toInt32 (Int32.toInt8 (v >>> (x &&& 31))), ?_, ?_⟩
  · rw [cf_2_L1]
    rw [if_pos rfl]
    unfold cf_2_3
    rw [if_neg hx]
    unfold cf_2_7
    rw [h1, i32c (by omega), if_pos (fun q => q.elim (i32n (by omega)) (by rw [h3]; omega))]
  · rw [mf_58_L1]
    rw [if_pos rfl]
    unfold mf_58_3
    rw [if_neg hx]
    unfold mf_58_7
    rw [h2, i32c (by omega), if_pos (fun q => q.elim (i32n (by omega)) (by omega))]
theorem iB.four (h : iB n L t s) (hn : n + 4 ≤ L) (hL : L ≤ 1620) (hN : 5 ≤ N) (v : Int32) : ∃ t' s', cf_2 N X v t = some (t', .inl none) ∧ mf_58 N v s = some (s', none) ∧ iB (n + 4) L t' s' ∧ fT t t' ∧ fM s s' ∧ kN t' = kN t ∧ kQ t' = kQ t := by
  obtain ⟨M, hM⟩ : ∃ M, N = M + 1 + 1 + 1 + 1 + 1 := ⟨N - 5, by omega⟩
  unfold cf_2 cf_2_0 mf_58 mf_58_0
  obtain ⟨w1, a1, b1⟩ := h.it (N := N) (X := X) (by omega) hL (M + 1 + 1 + 1 + 1) v 24 (by decide)
  obtain ⟨h1, f1, g1⟩ := h.step w1
  obtain ⟨w2, a2, b2⟩ := h1.it (N := N) (X := X) (by omega) hL (M + 1 + 1 + 1) v 16 (by decide)
  obtain ⟨h2, f2, g2⟩ := h1.step w2
  obtain ⟨w3, a3, b3⟩ := h2.it (N := N) (X := X) (by omega) hL (M + 1 + 1) v 8 (by decide)
  obtain ⟨h3, f3, g3⟩ := h2.step w3
  obtain ⟨w4, a4, b4⟩ := h3.it (N := N) (X := X) (by omega) hL (M + 1) v 0 (by decide)
  obtain ⟨h4, f4, g4⟩ := h3.step w4
  refine ⟨_, _, ?_, ?_, h4, ((f1.tr f2).tr f3).tr f4, ((g1.tr g2).tr g3).tr g4, rfl, rfl⟩
  · rw [show cf_2_L1 N X N 0 v 24 t = cf_2_L1 N X (M + 1 + 1 + 1 + 1 + 1) 0 v 24 t from congrArg (fun z => cf_2_L1 N X z 0 v 24 t) hM]
    refine a1.trans ?_
    refine a2.trans ?_
    refine a3.trans ?_
    refine a4.trans ?_
    rw [cf_2_L1]
    rfl
  · rw [show mf_58_L1 N N 0 v 24 s = mf_58_L1 N (M + 1 + 1 + 1 + 1 + 1) 0 v 24 s from congrArg (fun z => mf_58_L1 N z 0 v 24 s) hM]
    refine b1.trans ?_
    refine b2.trans ?_
    refine b3.trans ?_
    refine b4.trans ?_
    rw [mf_58_L1]
    rfl
/-- the tape -/
def iA (t : cS) (s : mS) : Prop := ∃ n L, iB n L t s ∧ n ≤ L ∧ n % 20 = 0 ∧ (L = 320 ∨ L = 640 ∨ L = 1280 ∨ L = 1620)
theorem iB.five (h : iB n L t s) (hn : n + 20 ≤ L) (hL : L ≤ 1620) (hN : 5 ≤ N) (a b c d e : Int32) : ∃ t' s', cf_1_54 N X a b c d e t = some (t', .inl (some (.int (Int32.ofNat (n + 20))))) ∧ mf_57_12 N a b c d e s = some (s', some (.int (Int32.ofNat (n + 20)))) ∧ iB (n + 20) L t' s' ∧ fT t t' ∧ fM s s' ∧ kN t' = kN t ∧ kQ t' = kQ t := by
  obtain ⟨t1, s1, a1, b1, h1, f1, g1, n1, m1⟩ := h.four (X := X) (by omega) hL hN a
  obtain ⟨t2, s2, a2, b2, h2, f2, g2, n2, m2⟩ := h1.four (X := X) (by omega) hL hN b
  obtain ⟨t3, s3, a3, b3, h3, f3, g3, n3, m3⟩ := h2.four (X := X) (by omega) hL hN c
  obtain ⟨t4, s4, a4, b4, h4, f4, g4, n4, m4⟩ := h3.four (X := X) (by omega) hL hN d
  obtain ⟨t5, s5, a5, b5, h5, f5, g5, n5, m5⟩ := h4.four (X := X) (by omega) hL hN e
  refine ⟨t5, s5, ?_, ?_, h5, (((f1.tr f2).tr f3).tr f4).tr f5, (((g1.tr g2).tr g3).tr g4).tr g5, by rw [n5, n4, n3, n2, n1], by rw [m5, m4, m3, m2, m1]⟩
  · unfold cf_1_54
    rw [a1]
    show cf_1_59 N X b c d e t1 = _
    unfold cf_1_59
    rw [a2]
    show cf_1_64 N X c d e t2 = _
    unfold cf_1_64
    rw [a3]
    show cf_1_69 N X d e t3 = _
    unfold cf_1_69
    rw [a4]
    show cf_1_75 N X e t4 = _
    unfold cf_1_75
    rw [a5]
    show cf_1_81 N X t5 = _
    unfold cf_1_81
    rw [h5.1]
  · unfold mf_57_12
    rw [b1]
    show mf_57_17 N b c d e s1 = _
    unfold mf_57_17
    rw [b2]
    show mf_57_22 N c d e s2 = _
    unfold mf_57_22
    rw [b3]
    show mf_57_27 N d e s3 = _
    unfold mf_57_27
    rw [b4]
    show mf_57_33 N e s4 = _
    unfold mf_57_33
    rw [b5]
    show mf_57_39 N s5 = _
    unfold mf_57_39
    rw [h5.2.1]
/-- the tape grows -/
theorem iB.grow (h : iB n L t s) (hn : n ≤ L) {L' : Nat} (hL : L ≤ L') (m : Nat) (hm : n ≤ m) : iB n L' (jMv (jNI t 3 L' (kcp 0 (kA t 1).2 m)) 1) s ∧ fT t (jMv (jNI t 3 L' (kcp 0 (kA t 1).2 m)) 1) := by
  obtain ⟨h1, h2, h3, h4, h5⟩ := h
  refine ⟨⟨h1, h2, rfl, fun i hi => ?_, fun i => ?_⟩, ⟨fun _ _ _ => rfl, rfl, rfl, fun k q r => ?_, fun k q r => ?_, rfl, rfl, Nat.le_succ _⟩⟩
  · show kcp 0 (kA t 1).2 m i = _
    unfold kcp va_cpy
    rw [if_pos ⟨Nat.zero_le _, by omega⟩, Nat.sub_zero, Nat.zero_add]
    exact h4 i hi
  · show fits .byte (.int (kcp 0 (kA t 1).2 m i)) = true
    unfold kcp va_cpy
    split
    · exact h5 _
    · rfl
  · exact (if_neg q).trans (if_neg r)
  · exact if_neg q
theorem bts_of {f : Nat → Int32} (h : ∀ i, fits .byte (.int (f i)) = true) (m : Nat) : zz_bts f 0 m = true := List.all_eq_true.mpr (fun i _ => h _)
theorem p_feed (h : iA t s) (hN : 5 ≤ N) (hr : kN t + 1 < zz_out) (a b c d e : Int32) : ∃ t' s', ∃ v : Int32, cf_1 N X a b c d e t = some (t', .inl (some (.int v))) ∧ mf_57 N a b c d e s = some (s', some (.int v)) ∧ iA t' s' ∧ fT t t' ∧ fM s s' ∧ kN t' ≤ kN t + 1 ∧ kQ t' ≤ kQ t + 1620 := by
  obtain ⟨n, L, hB, hn, h20, hL⟩ := h
  have hB' := hB
  obtain ⟨h1, h2, h3, h4, h5⟩ := hB'
  have hL1 : L ≤ 1620 := by omega
  unfold cf_1 cf_1_0 mf_57 mf_57_0
  rw [h1, h2]
  have e1 : Int32.ofNat n + 20 = Int32.ofNat (n + 20) := i32add (a := n) (b := 20)
  rw [e1]
  by_cases c1 : n ≤ 1600
  · rw [if_pos (show Int32.ofNat (n + 20) ≤ 1620 from (i32le (by omega) (b := 1620) (by decide)).mpr (by omega)), if_pos (show Int32.ofNat n ≤ 1600 from (i32le (by omega) (b := 1600) (by decide)).mpr c1)]
    unfold cf_1_15
    rw [h1, h3, e1]
    by_cases c2 : n + 20 ≤ L
    · rw [if_pos ((i32le (by omega) (by omega)).mpr c2)]
      obtain ⟨t', s', q1, q2, q3, q4, q5, q6, q7⟩ := hB.five (X := X) c2 hL1 hN a b c d e
      exact ⟨t', s', _, q1, q2, ⟨n + 20, L, q3, c2, by omega, hL⟩, q4, q5, by omega, by omega⟩
    · rw [if_neg (fun q => c2 ((i32le (by omega) (by omega)).mp q))]
      have hnL : n = L := by omega
      obtain ⟨L', e3, hL', hLL, hd⟩ : ∃ L', (if (1620 : Int32) < 2 * Int32.ofNat L then (1620 : Int32) else 2 * Int32.ofNat L) = Int32.ofNat L' ∧ (L' = 640 ∨ L' = 1280 ∨ L' = 1620) ∧ n + 20 ≤ L' ∧ L ≠ L' := by
        rcases hL with rfl | rfl | rfl | rfl
        · exact ⟨640, by decide, Or.inl rfl, by omega, by decide⟩
        · exact ⟨1280, by decide, Or.inr (Or.inl rfl), by omega, by decide⟩
        · exact ⟨1620, by decide, Or.inr (Or.inr rfl), by omega, by decide⟩
        · omega
      unfold cf_1_30
      rw [h3, e3, i32c (by omega)]
      rw [if_pos ⟨i32n (by omega), by omega, by omega, fun q => hd ((i32eq (by omega) (by omega)).mp q).symm, hr, bts_of h5 _⟩]
      obtain ⟨g1, g2⟩ := hB.grow hn (L' := L') (by omega) (Nat.min L L') (by show n ≤ min L L'; omega)
      obtain ⟨t', s', q1, q2, q3, q4, q5, q6, q7⟩ := g1.five (X := X) hLL (by omega) hN a b c d e
      exact ⟨t', s', _, q1, q2, ⟨n + 20, L', q3, hLL, by omega, Or.inr hL'⟩, g2.tr q4, q5, by rw [q6]; exact Nat.le_refl _, by rw [q7]; show kQ t + L' ≤ _; omega⟩
  · rw [if_neg (show ¬ Int32.ofNat (n + 20) ≤ 1620 from fun q => c1 (by have := (i32le (by omega) (b := 1620) (by decide)).mp q; omega)), if_neg (show ¬ Int32.ofNat n ≤ 1600 from fun q => c1 ((i32le (by omega) (b := 1600) (by decide)).mp q))]
    exact ⟨t, s, -1, rfl, rfl, ⟨n, L, hB, hn, h20, hL⟩, kfr.rf, mfr.rf, by omega, by omega⟩
end PF
end
-- ### 47.pshelf.lean.txt
section
/-! ===== PURE: what shelves have: numbers (the class) ===== -/
/-- shelf j of the Shelves σ has these numbers -/
def cS1 (t : cS) (σ j : Nat) (ξ : List Int32) : Prop := (kA t (2000000 + 20 * σ + 10)).2 j = Int32.ofNat ξ.length ∧ ξ.length ≤ (kA t (2000000 + 20 * σ + 1 + 1 + j)).1 ∧ ∀ i (hi : i < ξ.length), (kA t (2000000 + 20 * σ + 1 + 1 + j)).2 i = ξ[i]
/-- the Shelves σ are there, their rows are not too long -/
def cS0 (t : cS) (σ : Nat) : Prop := kH t σ = true ∧ (kA t (2000000 + 20 * σ + 10)).1 = 8 ∧ ∀ j, j < 8 → (kA t (2000000 + 20 * σ + 1 + 1 + j)).1 ≤ 3000
/-- what putting numbers on shelf j may change -/
abbrev fSh (σ j : Nat) (t t' : cS) : Prop := kfr (fun _ _ => False) (fun k => k = 2000000 + 20 * σ + 1 + 1 + j ∨ k = 2000000 + 20 * σ + 10) (fun k => k = 2000000 + 20 * σ + 1 + 1 + j) t t' ∧ (∀ i, i ≠ j → (kA t' (2000000 + 20 * σ + 10)).2 i = (kA t (2000000 + 20 * σ + 10)).2 i) ∧ (kA t' (2000000 + 20 * σ + 10)).1 = (kA t (2000000 + 20 * σ + 10)).1
/-- the room that a change of shelf j takes: what is new is paid for by the row's length -/
abbrev rSh (σ j c : Nat) (t t' : cS) : Prop := kN t' ≤ kN t + c ∧ kQ t' + 2 * (kA t (2000000 + 20 * σ + 1 + 1 + j)).1 ≤ kQ t + 2 * (kA t' (2000000 + 20 * σ + 1 + 1 + j)).1 ∧ (kA t (2000000 + 20 * σ + 1 + 1 + j)).1 ≤ (kA t' (2000000 + 20 * σ + 1 + 1 + j)).1
section PS
variable {N : Nat} {X : Nat → Option zz_C} {t t' t1 t2 : cS} {s : mS} {σ j : Nat} {ξ : List Int32}
theorem fSh.tr (h : fSh σ j t t1) (g : fSh σ j t1 t2) : fSh σ j t t2 := ⟨h.1.tr g.1, fun i hi => (g.2.1 i hi).trans (h.2.1 i hi), g.2.2.trans h.2.2⟩
theorem fSh.rf : fSh σ j t t := ⟨kfr.rf, fun _ _ => rfl, rfl⟩
theorem rSh.tr {a b : Nat} (h : rSh σ j a t t1) (g : rSh σ j b t1 t2) : rSh σ j (a + b) t t2 := by
  obtain ⟨a1, a2, a3⟩ := h
  obtain ⟨b1, b2, b3⟩ := g
  exact ⟨by omega, by omega, by omega⟩
theorem c_put38 (h0 : cS0 t σ) (hj : j < 8) (h : cS1 t σ j ξ) (hlt : ξ.length < (kA t (2000000 + 20 * σ + 1 + 1 + j)).1) (x : Int32) : ∃ t', cf_25_38 N X σ (Int32.ofNat j) x (Int32.ofNat ξ.length) t = some (t', .inl none) ∧ cS0 t' σ ∧ cS1 t' σ j (ξ ++ [x]) ∧ fSh σ j t t' ∧ rSh σ j 0 t t' ∧ (kA t' (2000000 + 20 * σ + 1 + 1 + j)).1 = (kA t (2000000 + 20 * σ + 1 + 1 + j)).1 := by
  obtain ⟨g1, g2, g3⟩ := h0
  obtain ⟨h1, h2, h3⟩ := h
  have g3j := g3 j hj
  have eL : ∀ g, kA (jA t (2000000 + 20 * σ + 1 + 1 + j) g) (2000000 + 20 * σ + 10) = kA t (2000000 + 20 * σ + 10) := fun g => if_neg (by omega)
  refine ⟨jA (jA t (2000000 + 20 * σ + 1 + 1 + j) (upd (kA t (2000000 + 20 * σ + 1 + 1 + j)).2 ξ.length x)) (2000000 + 20 * σ + 10) (upd (kA t (2000000 + 20 * σ + 10)).2 j (Int32.ofNat ξ.length + 1)), ?_, ?_, ?_, ?_, ?_, ?_⟩
  · unfold cf_25_38
    rw [if_pos g1, i32c (m := j) (by omega), if_pos (fun q => q.elim (i32n (by omega)) (by omega)), i32c (m := ξ.length) (by omega), if_pos (fun q => q.elim (i32n (by omega)) (by omega)), eL, if_pos (fun q => q.elim (i32n (by omega)) (by omega))]
  · refine ⟨g1, ?_, fun i hi => ?_⟩
    · rw [kA_jA, if_pos rfl, eL]
      exact g2
    · rw [kA_jA, if_neg (by omega), kA_jA]
      by_cases e : i = j
      · subst e
        rw [if_pos rfl]
        exact g3 i hi
      · rw [if_neg (by omega)]
        exact g3 i hi
  · refine ⟨?_, ?_, fun i hi => ?_⟩
    · rw [kA_jA, if_pos rfl]
      show upd _ j _ j = _
      unfold upd
      rw [if_pos rfl, List.length_append]
      exact i32add
    · rw [kA_jA, if_neg (by omega), kA_jA, if_pos rfl, List.length_append]
      exact hlt
    · rw [kA_jA, if_neg (by omega), kA_jA, if_pos rfl]
      show upd _ ξ.length x i = _
      unfold upd
      rw [List.length_append] at hi
      have hi : i < ξ.length + 1 := hi
      by_cases e : i = ξ.length
      · subst e
        rw [if_pos rfl, List.getElem_append_right (Nat.le_refl _)]
        simp
      · rw [if_neg e, List.getElem_append_left (by omega)]
        exact h3 i (by omega)
  · refine ⟨⟨fun _ _ _ => rfl, rfl, rfl, fun k q r => ?_, fun _ _ _ => rfl, rfl, rfl, Nat.le_refl _⟩, fun i hi => ?_, ?_⟩
    · rw [kA_jA, if_neg (fun z => q (Or.inr z)), kA_jA, if_neg (fun z => q (Or.inl z))]
    · rw [kA_jA, if_pos rfl]
      show upd _ j _ i = _
      unfold upd
      rw [if_neg hi]
    · rw [kA_jA, if_pos rfl, eL]
  · have e : (kA (jA (jA t (2000000 + 20 * σ + 1 + 1 + j) (upd (kA t (2000000 + 20 * σ + 1 + 1 + j)).2 ξ.length x)) (2000000 + 20 * σ + 10) (upd (kA t (2000000 + 20 * σ + 10)).2 j (Int32.ofNat ξ.length + 1))) (2000000 + 20 * σ + 1 + 1 + j)).1 = (kA t (2000000 + 20 * σ + 1 + 1 + j)).1 := by rw [kA_jA, if_neg (by omega), kA_jA, if_pos rfl]
    refine ⟨Nat.le_refl _, ?_, Nat.le_of_eq e.symm⟩
    rw [e]
    exact Nat.le_refl _
  · rw [kA_jA, if_neg (by omega), kA_jA, if_pos rfl]
/-- a number comes behind those of shelf j -/
theorem c_put (h0 : cS0 t σ) (hj : j < 8) (h : cS1 t σ j ξ) (hl : ξ.length ≤ 1400) (hr : kN t + 1 < zz_out) (x : Int32) : ∃ t', cf_25 N X σ (Int32.ofNat j) x t = some (t', .inl none) ∧ cS0 t' σ ∧ cS1 t' σ j (ξ ++ [x]) ∧ fSh σ j t t' ∧ rSh σ j 1 t t' := by
  have h0' := h0
  have h' := h
  obtain ⟨g1, g2, g3⟩ := h0'
  obtain ⟨h1, h2, h3⟩ := h'
  have g3j := g3 j hj
  unfold cf_25 cf_25_0
  rw [if_pos g1, i32c (m := j) (by omega), if_pos (fun q => q.elim (i32n (by omega)) (by omega)), if_pos (fun q => q.elim (i32n (by omega)) (by omega)), h1]
  by_cases c : ξ.length < (kA t (2000000 + 20 * σ + 1 + 1 + j)).1
  · rw [if_pos ((i32lt (by omega) (by omega)).mpr c)]
    obtain ⟨t', q1, q2, q3, q4, q5, -⟩ := c_put38 (N := N) (X := X) h0 hj h c x
    exact ⟨t', q1, q2, q3, q4, ⟨by omega, q5.2⟩⟩
  · rw [if_neg (fun q => c ((i32lt (by omega) (by omega)).mp q))]
    have hc : (kA t (2000000 + 20 * σ + 1 + 1 + j)).1 = ξ.length := by omega
    have e1 : (2 : Int32) * Int32.ofNat ξ.length + 4 = Int32.ofNat (2 * ξ.length + 4) := (congrArg (· + (4 : Int32)) (i32mul (a := 2) (b := ξ.length))).trans (i32add (b := 4))
    unfold cf_25_18
    rw [if_pos g1, i32c (m := j) (by omega), if_pos (fun q => q.elim (i32n (by omega)) (by omega)), e1, i32c (m := 2 * ξ.length + 4) (by omega), hc, if_pos ⟨i32n (by omega), by omega, by omega, fun q => by have := (i32eq (by omega) (by omega)).mp q; omega, hr⟩]
    have hm : Nat.min ξ.length (2 * ξ.length + 4) = ξ.length := by
      show min _ _ = _
      omega
    rw [hm]
    generalize ht1 : jMv (jNI t 1 (2 * ξ.length + 4) (kcp 0 (kA t (2000000 + 20 * σ + 1 + 1 + j)).2 ξ.length)) (2000000 + 20 * σ + 1 + 1 + j) = t1
    have eR : kA t1 (2000000 + 20 * σ + 1 + 1 + j) = (2 * ξ.length + 4, kcp 0 (kA t (2000000 + 20 * σ + 1 + 1 + j)).2 ξ.length) := by
      rw [← ht1, kA_jMv, if_pos rfl]
      rfl
    have eO : ∀ k, k ≠ 2000000 + 20 * σ + 1 + 1 + j → k ≠ 111 → kA t1 k = kA t k := fun k q r => by rw [← ht1, kA_jMv, if_neg q, kA_jNI, if_neg r]
    have i0 : cS0 t1 σ := ⟨by rw [← ht1]; exact g1, by rw [eO _ (by omega) (by omega)]; exact g2, fun i hi => by
      by_cases e : i = j
      · subst e
        rw [eR]
        show 2 * ξ.length + 4 ≤ 3000
        omega
      · rw [eO _ (by omega) (by omega)]
        exact g3 i hi⟩
    have i1 : cS1 t1 σ j ξ := ⟨by rw [eO _ (by omega) (by omega)]; exact h1, by rw [eR]; show _ ≤ 2 * ξ.length + 4; omega, fun i hi => by
      rw [eR]
      show kcp 0 _ ξ.length i = _
      unfold kcp va_cpy
      rw [if_pos ⟨Nat.zero_le _, by omega⟩, Nat.sub_zero, Nat.zero_add]
      exact h3 i hi⟩
    obtain ⟨t', q1, q2, q3, q4, q5, q6⟩ := c_put38 (N := N) (X := X) i0 hj i1 (by rw [eR]; show _ < 2 * ξ.length + 4; omega) x
    refine ⟨t', q1, q2, q3, fSh.tr ⟨⟨fun _ _ _ => by rw [← ht1]; rfl, by rw [← ht1]; rfl, by rw [← ht1]; rfl, fun k q r => eO k (fun z => q (Or.inl z)) r, fun k q r => by rw [← ht1, kB_jMv, if_neg q]; rfl, by rw [← ht1]; rfl, by rw [← ht1]; rfl, by rw [← ht1]; exact Nat.le_succ _⟩, fun i _ => by rw [eO _ (by omega) (by omega)], by rw [eO _ (by omega) (by omega)]⟩ q4, ?_⟩
    have eN : kN t1 = kN t + 1 := by rw [← ht1]; rfl
    have eQ : kQ t1 = kQ t + (2 * ξ.length + 4) := by rw [← ht1]; rfl
    obtain ⟨p1, p2, p3⟩ := q5
    rw [q6, eR] at p2 p3
    rw [eR] at q6
    refine ⟨by omega, ?_, ?_⟩
    · rw [q6]
      show kQ t' + 2 * _ ≤ kQ t + 2 * (2 * ξ.length + 4)
      have p2 : kQ t' + 2 * (2 * ξ.length + 4) ≤ kQ t1 + 2 * (2 * ξ.length + 4) := p2
      omega
    · rw [q6]
      show _ ≤ 2 * ξ.length + 4
      omega
end PS
end
-- ### 48.things.lean.txt
section
/-! ===== PURE: THINGS, as trees: an INT, a ROW, a TABLE (plain), or a PACK of such, at most n deep ===== -/
abbrev Pl : Type := Int32 ⊕ (List Int32 ⊕ List (List Int32))
def Th : Nat → Type
  | 0 => Pl
  | n + 1 => Pl ⊕ List (Th n)
def serRow (r : List Int32) : List Int32 := Int32.ofNat r.length :: r
def serP : Pl → List Int32
  | .inl x => [0, x]
  | .inr (.inl r) => 1 :: serRow r
  | .inr (.inr q) => 2 :: Int32.ofNat q.length :: q.flatMap serRow
/-- the numbers of a THING, as sum() goes over them -/
def ser : (n : Nat) → Th n → List Int32
  | 0, p => serP p
  | n + 1, x => match (show Pl ⊕ List (Th n) from x) with
    | .inl p => serP p
    | .inr l => 3 :: Int32.ofNat l.length :: l.flatMap (ser n)
def bulkP : Pl → Nat
  | .inl _ => 1
  | .inr (.inl r) => 1 + r.length
  | .inr (.inr q) => 1 + (q.map fun r => 1 + r.length).sum
def bulk : (n : Nat) → Th n → Nat
  | 0, p => bulkP p
  | n + 1, x => match (show Pl ⊕ List (Th n) from x) with
    | .inl p => bulkP p
    | .inr l => 1 + (l.map (bulk n)).sum
/-- sizes as the document has them -/
def wfP : Pl → Prop
  | .inl _ => True
  | .inr (.inl r) => r.length ≤ 64
  | .inr (.inr q) => q.length ≤ 20 ∧ (q.map List.length).sum ≤ 200 ∧ ∀ r ∈ q, r.length ≤ 64
def wfT : (n : Nat) → Th n → Prop
  | 0, p => wfP p
  | n + 1, x => match (show Pl ⊕ List (Th n) from x) with
    | .inl p => wfP p
    | .inr l => l.length ≤ 20 ∧ 1 + (l.map (bulk n)).sum ≤ 600 ∧ ∀ y ∈ l, wfT n y
/-- 0 INT, 1 ROW, 2 TABLE, 3 PACK -/
def kdP : Pl → Int32
  | .inl _ => 0
  | .inr (.inl _) => 1
  | .inr (.inr _) => 2
def kdT : (n : Nat) → Th n → Int32
  | 0, p => kdP p
  | n + 1, x => match (show Pl ⊕ List (Th n) from x) with
    | .inl p => kdP p
    | .inr _ => 3
theorem serP_kd (p : Pl) : ∃ l, serP p = kdP p :: l := by
  obtain x | r | q := p
  · exact ⟨_, rfl⟩
  · exact ⟨_, rfl⟩
  · exact ⟨_, rfl⟩
theorem ser_kd : ∀ (n : Nat) (x : Th n), ∃ l, ser n x = kdT n x :: l
  | 0, p => serP_kd p
  | n + 1, x => by
    obtain p | l := x
    · exact serP_kd p
    · exact ⟨_, rfl⟩
theorem flatMap_len {α β : Type} (f : α → List β) : ∀ l : List α, (l.flatMap f).length = (l.map fun x => (f x).length).sum
  | [] => rfl
  | a :: l => by rw [List.flatMap_cons, List.length_append, List.map_cons, List.sum_cons, flatMap_len f l]
theorem sum_le {α : Type} {f g : α → Nat} : ∀ {l : List α}, (∀ x ∈ l, f x ≤ g x) → (l.map f).sum ≤ (l.map g).sum
  | [], _ => Nat.le_refl _
  | a :: l, h => by
    rw [List.map_cons, List.map_cons, List.sum_cons, List.sum_cons]
    exact Nat.add_le_add (h a List.mem_cons_self) (sum_le (fun x hx => h x (List.mem_cons_of_mem _ hx)))
theorem sum_mul {α : Type} {f : α → Nat} (c : Nat) : ∀ {l : List α}, (l.map fun x => c * f x).sum = c * (l.map f).sum
  | [] => rfl
  | a :: l => by rw [List.map_cons, List.map_cons, List.sum_cons, List.sum_cons, sum_mul c, Nat.mul_add]
theorem serP_len (p : Pl) : (serP p).length ≤ 2 * bulkP p := by
  obtain x | r | q := p
  · exact Nat.le_refl _
  · show (r.length + 1) + 1 ≤ 2 * (1 + r.length)
    omega
  · show ((q.flatMap serRow).length + 1) + 1 ≤ 2 * (1 + (q.map fun r => 1 + r.length).sum)
    rw [flatMap_len]
    have : (q.map fun r => (serRow r).length).sum ≤ (q.map fun r => 1 + r.length).sum := sum_le (fun r _ => by show r.length + 1 ≤ _; omega)
    omega
theorem ser_len : ∀ (n : Nat) (x : Th n), (ser n x).length ≤ 2 * bulk n x
  | 0, p => serP_len p
  | n + 1, x => by
    obtain p | l := x
    · exact serP_len p
    · show ((l.flatMap (ser n)).length + 1) + 1 ≤ 2 * (1 + (l.map (bulk n)).sum)
      rw [flatMap_len]
      have h1 : (l.map fun y => (ser n y).length).sum ≤ (l.map fun y => 2 * bulk n y).sum := sum_le (fun y _ => ser_len n y)
      rw [sum_mul] at h1
      omega
theorem bulk_wf : ∀ (n : Nat) (x : Th n), wfT n x → bulk n x ≤ 600 := by
  have hP : ∀ p : Pl, wfP p → bulkP p ≤ 600 := fun p h => by
    obtain x | r | q := p
    · show 1 ≤ 600
      omega
    · have h : r.length ≤ 64 := h
      show 1 + r.length ≤ 600
      omega
    · obtain ⟨h1, h2, h3⟩ := (show q.length ≤ 20 ∧ (q.map List.length).sum ≤ 200 ∧ _ from h)
      show 1 + (q.map fun r => 1 + r.length).sum ≤ 600
      have : ∀ l : List (List Int32), (l.map fun r => 1 + r.length).sum = l.length + (l.map List.length).sum := fun l => by
        induction l with
        | nil => rfl
        | cons a l ih =>
          rw [List.map_cons, List.map_cons, List.sum_cons, List.sum_cons, ih, List.length_cons]
          omega
      rw [this]
      omega
  intro n x h
  match n, x, h with
  | 0, p, h => exact hP p h
  | n + 1, x, h =>
    obtain p | l := x
    · exact hP p h
    · exact h.2.1
/-! where the reference has them: its big array h, from a on, all at places of which R holds -/
def LayR (h : Nat → Int32) (R : Nat → Prop) (a : Nat) (r : List Int32) : Prop := (∀ y, a ≤ y → y < a + 2 + r.length → R y) ∧ h a = 1 ∧ h (a + 1) = Int32.ofNat r.length ∧ ∀ i (hi : i < r.length), h (a + 2 + i) = r[i]
def LayP (h : Nat → Int32) (R : Nat → Prop) (a : Nat) : Pl → Prop
  | .inl _ => False
  | .inr (.inl r) => LayR h R a r
  | .inr (.inr q) => (∀ y, a ≤ y → y < a + 2 + q.length → R y) ∧ h a = 2 ∧ h (a + 1) = Int32.ofNat q.length ∧ ∀ i (hi : i < q.length), ∃ b : Nat, Int32.ofNat a + h (a + 2 + i) = Int32.ofNat b ∧ LayR h R b q[i]
/-- the INT that a THING is -/
def intP : Pl → Option Int32
  | .inl x => some x
  | _ => none
def intT : (n : Nat) → Th n → Option Int32
  | 0, p => intP p
  | n + 1, x => match (show Pl ⊕ List (Th n) from x) with
    | .inl p => intP p
    | .inr _ => none
def Lay : (n : Nat) → (h : Nat → Int32) → (R : Nat → Prop) → (a : Nat) → Th n → Prop
  | 0, h, R, a, p => LayP h R a p
  | n + 1, h, R, a, x => match (show Pl ⊕ List (Th n) from x) with
    | .inl p => LayP h R a p
    | .inr l => (∀ y, a ≤ y → y < a + 2 + 2 * l.length → R y) ∧ h a = 3 ∧ h (a + 1) = Int32.ofNat l.length ∧ ∀ i (hi : i < l.length), (∀ z, intT n l[i] = some z → h (a + 2 + 2 * i) = 0 ∧ h (a + 3 + 2 * i) = z) ∧ (intT n l[i] = none → h (a + 2 + 2 * i) = 1 ∧ ∃ b : Nat, Int32.ofNat a + h (a + 3 + 2 * i) = Int32.ofNat b ∧ Lay n h R b l[i])
section LY2
variable {h h' : Nat → Int32} {R R' : Nat → Prop} {a : Nat}
theorem LayR.congr (hR : ∀ y, R y → R' y) (hh : ∀ y, R y → h' y = h y) {r : List Int32} (H : LayR h R a r) : LayR h' R' a r := by
  obtain ⟨h1, h3, h4, h5⟩ := H
  exact ⟨fun y p q => hR y (h1 y p q), by rw [hh _ (h1 _ (Nat.le_refl _) (by omega))]; exact h3, by rw [hh _ (h1 _ (by omega) (by omega))]; exact h4, fun i hi => by rw [hh _ (h1 _ (by omega) (by omega))]; exact h5 i hi⟩
theorem LayP.congr (hR : ∀ y, R y → R' y) (hh : ∀ y, R y → h' y = h y) {p : Pl} (H : LayP h R a p) : LayP h' R' a p := by
  obtain x | r | q := p
  · exact H
  · exact LayR.congr hR hh H
  · obtain ⟨h1, h3, h4, h5⟩ := H
    refine ⟨fun y p q => hR y (h1 y p q), by rw [hh _ (h1 _ (Nat.le_refl _) (by omega))]; exact h3, by rw [hh _ (h1 _ (by omega) (by omega))]; exact h4, fun i hi => ?_⟩
    obtain ⟨b, g1, g2⟩ := h5 i hi
    exact ⟨b, by rw [hh _ (h1 _ (by omega) (by omega))]; exact g1, g2.congr hR hh⟩
theorem Lay.congr (hR : ∀ y, R y → R' y) (hh : ∀ y, R y → h' y = h y) : ∀ (n : Nat) {a : Nat} {x : Th n}, Lay n h R a x → Lay n h' R' a x
  | 0, _, _, H => LayP.congr hR hh H
  | n + 1, a, x, H => by
    obtain p | l := x
    · exact LayP.congr (a := a) (p := p) hR hh H
    · obtain ⟨h1, h3, h4, h5⟩ := H
      refine ⟨fun y p q => hR y (h1 y p q), by rw [hh _ (h1 _ (Nat.le_refl _) (by omega))]; exact h3, by rw [hh _ (h1 _ (by omega) (by omega))]; exact h4, fun i hi => ⟨fun z hz => ?_, fun hz => ?_⟩⟩
      · obtain ⟨g1, g2⟩ := (h5 i hi).1 z hz
        exact ⟨by rw [hh _ (h1 _ (by omega) (by omega))]; exact g1, by rw [hh _ (h1 _ (by omega) (by omega))]; exact g2⟩
      · obtain ⟨g1, b, g2, g3⟩ := (h5 i hi).2 hz
        exact ⟨by rw [hh _ (h1 _ (by omega) (by omega))]; exact g1, b, by rw [hh _ (h1 _ (by omega) (by omega))]; exact g2, Lay.congr hR hh n g3⟩
theorem LayP.kd {p : Pl} (H : LayP h R a p) : h a = kdP p ∧ R a := by
  obtain x | r | q := p
  · exact H.elim
  · exact ⟨H.2.1, H.1 _ (Nat.le_refl _) (by omega)⟩
  · exact ⟨H.2.1, H.1 _ (Nat.le_refl _) (by omega)⟩
theorem Lay.kd : ∀ (n : Nat) {x : Th n}, Lay n h R a x → h a = kdT n x ∧ R a
  | 0, p, H => LayP.kd (p := p) H
  | n + 1, x, H => by
    obtain p | l := x
    · exact LayP.kd (p := p) H
    · exact ⟨H.2.1, H.1 _ (Nat.le_refl _) (by omega)⟩
end LY2
/-- slot k's places -/
def Rk (k : Nat) (y : Nat) : Prop := 2410 * k ≤ y ∧ y < 2410 * k + 2410
/-- slot k of the reference has this -/
def rSl (h : Nat → Int32) (k : Nat) : Option (Th 4) → Prop
  | none => h (2410 * k) = -1
  | some x => match intT 4 x with
    | some z => h (2410 * k) = 0 ∧ h (2410 * k + 1) = z
    | none => Lay 4 h (Rk k) (2410 * k) x
/-- numbers of what may be bare -/
def serO : Option (Th 4) → List Int32
  | none => []
  | some x => ser 4 x
theorem int_ser {x : Th 4} {z : Int32} (h : intT 4 x = some z) : ser 4 x = [0, z] := by
  obtain p | l := x
  · obtain y | r | q := p
    · cases h
      rfl
    · cases h
    · cases h
  · cases h
theorem rSl.congr {h h' : Nat → Int32} {k : Nat} {x : Option (Th 4)} (hh : ∀ y, Rk k y → h' y = h y) (H : rSl h k x) : rSl h' k x := by
  cases x with
  | none => exact (hh _ ⟨Nat.le_refl _, by omega⟩).trans H
  | some x =>
    unfold rSl at H ⊢
    dsimp only at H ⊢
    split at H
    · exact ⟨(hh _ ⟨Nat.le_refl _, by omega⟩).trans H.1, (hh _ ⟨by omega, by omega⟩).trans H.2⟩
    · exact Lay.congr (fun _ q => q) hh 4 H
def kdO : Option (Th 4) → Int32
  | none => -1
  | some y => kdT 4 y
/-- slot k's first number -/
theorem rSl.hd {h : Nat → Int32} {k : Nat} {x : Option (Th 4)} (H : rSl h k x) : h (2410 * k) = kdO x := by
  cases x with
  | none => exact H
  | some x =>
    unfold rSl at H
    dsimp only at H ⊢
    split at H
    · rename_i z hz
      have := int_ser hz
      obtain ⟨l, hl⟩ := ser_kd 4 x
      rw [hl] at this
      rw [H.1]
      exact (List.cons.inj this).1.symm
    · exact (Lay.kd 4 H).1
end
-- ### 49.pshelf2.lean.txt
section
/-! ===== PURE: kind, clear, set, add ===== -/
/-- both sides' shelves and what is kept of them: S k is what slot k has (0..7 the shelves, 8 + 8 m + j what mark m kept of shelf j) -/
def iS (S : Nat → Option (Th 4)) (σ0 k : Nat) (μ : Nat → Nat) (t : cS) (s : mS) : Prop :=
  k ≤ 6 ∧ kP t 0 7 = some σ0 ∧ kI t 0 9 = Int32.ofNat k ∧ s.1 88 = Int32.ofNat k ∧ (cS0 t σ0 ∧ σ0 < kN t) ∧
  (∀ j, j < 8 → cS1 t σ0 j (serO (S j)) ∧ rSl (s.2.2.1 47) j (S j)) ∧ (∀ j x, S j = some x → wfT 4 x) ∧
  (∀ m, m < 6 → ∀ σ, kM t m = some σ → (cS0 t σ ∧ σ < kN t) ∧ σ ≠ σ0 ∧ ∀ m' σ', m' < 6 → kM t m' = some σ' → σ = σ' → m = m') ∧
  (∀ m, m < k → kM t m = some (μ m) ∧ ∀ j, j < 8 → cS1 t (μ m) j (serO (S (8 + 8 * m + j))) ∧ rSl (s.2.2.1 47) (8 + 8 * m + j) (S (8 + 8 * m + j)))
section PK
variable {N : Nat} {X : Nat → Option zz_C} {t t' : cS} {s s' : mS} {σ σ0 k j : Nat} {μ : Nat → Nat} {S : Nat → Option (Th 4)} {ξ : List Int32}
theorem isSh (a : Int32) : (∃ j, j < 8 ∧ a = Int32.ofNat j ∧ (∀ N X t, cf_21 N X a t = some (t, .inl (some (.int 1)))) ∧ ∀ N s, mf_73 N a s = some (s, some (.int 1))) ∨ ((∀ N X t, cf_21 N X a t = some (t, .inl (some (.int 0)))) ∧ ∀ N s, mf_73 N a s = some (s, some (.int 0))) := by
  by_cases e0 : a < 0
  · right
    refine ⟨fun N X t => ?_, fun N s => ?_⟩
    · unfold cf_21 cf_21_0
      rw [if_pos e0]
      rfl
    · unfold mf_73 mf_73_0
      rw [if_pos e0]
      rfl
  · obtain ⟨m, hm, rfl⟩ := i32of e0
    by_cases e1 : 8 ≤ m
    · right
      have e2 : (8 : Int32) ≤ Int32.ofNat m := (i32le (a := 8) (by decide) hm).mpr e1
      refine ⟨fun N X t => ?_, fun N s => ?_⟩
      · unfold cf_21 cf_21_0 cf_21_4
        rw [if_neg e0, if_pos e2]
        rfl
      · unfold mf_73 mf_73_0 mf_73_4
        rw [if_neg e0, if_pos e2]
        rfl
    · left
      have e2 : ¬ (8 : Int32) ≤ Int32.ofNat m := fun q => e1 ((i32le (a := 8) (by decide) hm).mp q)
      refine ⟨m, by omega, rfl, fun N X t => ?_, fun N s => ?_⟩
      · unfold cf_21 cf_21_0 cf_21_4
        rw [if_neg e0, if_neg e2]
        rfl
      · unfold mf_73 mf_73_0 mf_73_4
        rw [if_neg e0, if_neg e2]
        rfl
theorem serO_len {x : Option (Th 4)} (hw : ∀ y, x = some y → wfT 4 y) : (serO x).length ≤ 1200 := by
  cases x with
  | none => exact Nat.zero_le _
  | some y =>
    have h1 := ser_len 4 y
    have h2 := bulk_wf 4 y (hw y rfl)
    show (ser 4 y).length ≤ 1200
    omega
/-- a shelf's kind -/
theorem c_kindOn (h0 : cS0 t σ) (hj : j < 8) {x : Option (Th 4)} (hx : (serO x).length ≤ 1400) (h : cS1 t σ j (serO x)) : cf_23 N X σ (Int32.ofNat j) t = some (t, .inl (some (.int (kdO x)))) := by
  obtain ⟨g1, g2, g3⟩ := h0
  obtain ⟨h1, h2, h3⟩ := h
  unfold cf_23 cf_23_0
  rw [if_pos g1, i32c (m := j) (by omega), if_pos (fun q => q.elim (i32n (by omega)) (by omega)), h1]
  cases x with
  | none =>
    rw [if_neg (fun q => q rfl)]
    rfl
  | some y =>
    obtain ⟨l, hl⟩ := ser_kd 4 y
    have hl : serO (some y) = kdT 4 y :: l := hl
    have hp : 0 < (serO (some y)).length := by rw [hl]; exact Nat.succ_pos _
    rw [if_pos (fun q => by have := (i32eq (b := 0) (by omega) (by decide)).mp q; omega)]
    unfold cf_23_13
    have e0 : Int32.toNatClampNeg (0 : Int32) = 0 := rfl
    rw [if_pos g1, i32c (m := j) (by omega), if_pos (fun q => q.elim (i32n (by omega)) (by omega)), e0, if_pos (fun q => q.elim (by decide) (by omega)), h3 0 hp]
    have e1 : (serO (some y))[0] = kdT 4 y := by
      have := List.getElem_of_eq hl hp
      rw [this]
      rfl
    rw [e1]
    rfl
/-- the reference's big array at a slot -/
theorem slot_ix (hj : j < 8) : Int32.toNatClampNeg (2410 * Int32.ofNat j) = 2410 * j ∧ ¬ ((2410 : Int32) * Int32.ofNat j < 0 ∨ 166300 ≤ Int32.toNatClampNeg (2410 * Int32.ofNat j)) ∧ (2410 : Int32) * Int32.ofNat j = Int32.ofNat (2410 * j) := by
  have e : (2410 : Int32) * Int32.ofNat j = Int32.ofNat (2410 * j) := i32mul (a := 2410) (b := j)
  rw [e, i32c (by omega)]
  exact ⟨rfl, fun q => q.elim (i32n (by omega)) (by omega), rfl⟩
theorem p_kind (h : iS S σ0 k μ t s) (a : Int32) : ∃ v : Int32, cf_14 N X a t = some (t, .inl (some (.int v))) ∧ mf_79 N a s = some (s, some (.int v)) := by
  obtain ⟨h1, h2, h3, h4, ⟨h5, h50⟩, h6, h7, -⟩ := h
  unfold cf_14 cf_14_0 mf_79 mf_79_0
  rcases isSh a with ⟨j, hj, rfl, q1, q2⟩ | ⟨q1, q2⟩
  · rw [q1, q2]
    show ∃ v : Int32, cf_14_4 N X (Int32.ofNat j) 1 t = _ ∧ mf_79_4 N (Int32.ofNat j) 1 s = _
    unfold cf_14_4 mf_79_4
    rw [if_neg (by decide), if_neg (by decide)]
    unfold cf_14_7 mf_79_7
    obtain ⟨g1, g2⟩ := h6 j hj
    obtain ⟨i1, i2, i3⟩ := slot_ix hj
    refine ⟨kdO (S j), ?_, ?_⟩
    · rw [h2]
      show (if kH t σ0 = true then _ else none) = _
      rw [if_pos h5.1, c_kindOn h5 hj (Nat.le_trans (serO_len (fun y hy => h7 j y hy)) (by decide)) g1]
      rfl
    · rw [if_pos i2, i1, g2.hd]
      rfl
  · rw [q1, q2]
    exact ⟨-1, rfl, rfl⟩
/-- shelf j is emptied -/
theorem c_zero (h0 : cS0 t σ) (hj : j < 8) : cS0 (jA t (2000000 + 20 * σ + 10) (upd (kA t (2000000 + 20 * σ + 10)).2 j 0)) σ ∧ cS1 (jA t (2000000 + 20 * σ + 10) (upd (kA t (2000000 + 20 * σ + 10)).2 j 0)) σ j [] ∧ fSh σ j t (jA t (2000000 + 20 * σ + 10) (upd (kA t (2000000 + 20 * σ + 10)).2 j 0)) ∧ rSh σ j 0 t (jA t (2000000 + 20 * σ + 10) (upd (kA t (2000000 + 20 * σ + 10)).2 j 0)) := by
  obtain ⟨g1, g2, g3⟩ := h0
  have eR : ∀ i, i < 8 → kA (jA t (2000000 + 20 * σ + 10) (upd (kA t (2000000 + 20 * σ + 10)).2 j 0)) (2000000 + 20 * σ + 1 + 1 + i) = kA t (2000000 + 20 * σ + 1 + 1 + i) := fun i hi => by rw [kA_jA, if_neg (by omega)]
  have eL : kA (jA t (2000000 + 20 * σ + 10) (upd (kA t (2000000 + 20 * σ + 10)).2 j 0)) (2000000 + 20 * σ + 10) = ((kA t (2000000 + 20 * σ + 10)).1, upd (kA t (2000000 + 20 * σ + 10)).2 j 0) := by rw [kA_jA, if_pos rfl]
  refine ⟨⟨g1, by rw [eL]; exact g2, fun i hi => by rw [eR i hi]; exact g3 i hi⟩, ⟨?_, Nat.zero_le _, fun i hi => absurd hi (Nat.not_lt_zero _)⟩, ⟨⟨fun _ _ _ => rfl, rfl, rfl, fun k q r => by rw [kA_jA, if_neg (fun z => q (Or.inr z))], fun _ _ _ => rfl, rfl, rfl, Nat.le_refl _⟩, fun i hi => ?_, by rw [eL]⟩, ⟨Nat.le_refl _, by rw [eR j hj]; exact Nat.le_refl _, by rw [eR j hj]; exact Nat.le_refl _⟩⟩
  · rw [eL]
    show upd _ j 0 j = _
    unfold upd
    rw [if_pos rfl]
    rfl
  · rw [eL]
    show upd _ j 0 i = _
    unfold upd
    rw [if_neg hi]
/-- one shelf has changed, on both sides -/
theorem iS.chg (h : iS S σ0 k μ t s) (hj : j < 8) {x : Option (Th 4)} (hx : ∀ y, x = some y → wfT 4 y) (g0 : cS0 t' σ0) (g1 : cS1 t' σ0 j (serO x)) (g2 : fSh σ0 j t t') (r1 : s'.1 88 = s.1 88) (r2 : ∀ y, ¬ (2410 * j ≤ y ∧ y < 2410 * j + 2410) → s'.2.2.1 47 y = s.2.2.1 47 y) (r3 : rSl (s'.2.2.1 47) j x) : iS (fun i => if i = j then x else S i) σ0 k μ t' s' := by
  obtain ⟨h1, h2, h3, h4, ⟨h5, h50⟩, h6, h7, h8, h9⟩ := h
  obtain ⟨⟨f1, f2, f3, f4, f5, f6, f7, f70⟩, f8, f9⟩ := g2
  have hK : ∀ σ, σ ≠ σ0 → ∀ i, i ≤ 10 → kA t' (2000000 + 20 * σ + i) = kA t (2000000 + 20 * σ + i) := fun σ hσ i hi => f4 _ (by omega) (by omega)
  have hS : ∀ σ, σ ≠ σ0 → ∀ i, i < 8 → kA t' (2000000 + 20 * σ + 1 + 1 + i) = kA t (2000000 + 20 * σ + 1 + 1 + i) := fun σ hσ i hi => f4 _ (by omega) (by omega)
  have h0 : ∀ σ, σ ≠ σ0 → cS0 t σ → cS0 t' σ := fun σ hσ q => ⟨by rw [f7]; exact q.1, by rw [hK σ hσ 10 (by omega)]; exact q.2.1, fun i hi => by rw [hS σ hσ i hi]; exact q.2.2 i hi⟩
  have hc : ∀ σ, σ ≠ σ0 → ∀ i, i < 8 → ∀ ξ, cS1 t σ i ξ → cS1 t' σ i ξ := fun σ hσ i hi ξ q => ⟨by rw [hK σ hσ 10 (by omega)]; exact q.1, by rw [hS σ hσ i hi]; exact q.2.1, fun y hy => by rw [hS σ hσ i hi]; exact q.2.2 y hy⟩
  have hr : ∀ i, i ≠ j → ∀ y, rSl (s.2.2.1 47) i y → rSl (s'.2.2.1 47) i y := fun i hi y q => q.congr (fun z z1 => r2 z (fun z2 => by obtain ⟨u1, u2⟩ := z1; omega))
  refine ⟨h1, by rw [f3]; exact h2, by rw [f1 0 9 (fun z => z)]; exact h3, r1.trans h4, ⟨g0, Nat.lt_of_lt_of_le h50 f70⟩, fun i hi => ?_, fun i y hy => ?_, fun m hm σ hσ => ?_, fun m hm => ?_⟩
  · show cS1 t' σ0 i (serO (if i = j then x else S i)) ∧ rSl (s'.2.2.1 47) i (if i = j then x else S i)
    by_cases e : i = j
    · subst e
      rw [if_pos rfl]
      exact ⟨g1, r3⟩
    · rw [if_neg e]
      obtain ⟨q1, q2⟩ := h6 i hi
      refine ⟨⟨by rw [f8 i e]; exact q1.1, ?_, fun z hz => ?_⟩, hr i e _ q2⟩
      · rw [f4 _ (by omega) (by omega)]
        exact q1.2.1
      · rw [f4 _ (by omega) (by omega)]
        exact q1.2.2 z hz
  · by_cases e : i = j
    · have hy : (if i = j then x else S i) = some y := hy
      rw [if_pos e] at hy
      exact hx y hy
    · have hy : (if i = j then x else S i) = some y := hy
      rw [if_neg e] at hy
      exact h7 i y hy
  · rw [f6] at hσ
    obtain ⟨q1, q2, q3⟩ := h8 m hm σ hσ
    exact ⟨⟨h0 σ q2 q1.1, Nat.lt_of_lt_of_le q1.2 f70⟩, q2, fun m' σ' a b c => q3 m' σ' a (by rw [f6] at b; exact b) c⟩
  · obtain ⟨q1, q2⟩ := h9 m hm
    have q3 := (h8 m (by omega) (μ m) q1).2.1
    refine ⟨by rw [f6]; exact q1, fun i hi => ?_⟩
    have e : ¬ (8 + 8 * m + i = j) := by omega
    show cS1 t' (μ m) i (serO (if 8 + 8 * m + i = j then x else S (8 + 8 * m + i))) ∧ rSl (s'.2.2.1 47) (8 + 8 * m + i) (if 8 + 8 * m + i = j then x else S (8 + 8 * m + i))
    rw [if_neg e]
    exact ⟨hc (μ m) q3 i hi _ (q2 i hi).1, hr _ e _ (q2 i hi).2⟩
theorem p_clear (h : iS S σ0 k μ t s) (a : Int32) : ∃ t' s' S', ∃ v : Int32, cf_13 N X a t = some (t', .inl (some (.int v))) ∧ mf_78 N a s = some (s', some (.int v)) ∧ iS S' σ0 k μ t' s' ∧ (t' = t ∨ ∃ j, j < 8 ∧ fSh σ0 j t t' ∧ rSh σ0 j 0 t t') ∧ mfr (fun _ => False) (fun _ => False) (fun q => q = 47) (fun _ => False) s s' := by
  have h' := h
  obtain ⟨h1, h2, h3, h4, ⟨h5, h50⟩, h6, h7, -⟩ := h'
  unfold cf_13 cf_13_0 mf_78 mf_78_0
  rcases isSh a with ⟨j, hj, rfl, q1, q2⟩ | ⟨q1, q2⟩
  · rw [q1, q2]
    show ∃ t' s' S', ∃ v : Int32, cf_13_4 N X (Int32.ofNat j) 1 t = _ ∧ mf_78_4 N (Int32.ofNat j) 1 s = _ ∧ _
    unfold cf_13_4 mf_78_4
    rw [if_neg (by decide), if_neg (by decide)]
    unfold cf_13_7 mf_78_7
    obtain ⟨g1, g2⟩ := h6 j hj
    obtain ⟨i1, i2, i3⟩ := slot_ix hj
    have hk : (co_b (kP t 0 7) (fun w0 => if kH t w0 = true then (ko_call 7 (cf_23 N X w0 (Int32.ofNat j) t) (fun g1 v1 => co_i v1 (fun y => cf_13_15 N X (Int32.ofNat j) y g1))) else none)) = cf_13_15 N X (Int32.ofNat j) (kdO (S j)) t := by
      rw [h2]
      show (if kH t σ0 = true then _ else none) = _
      rw [if_pos h5.1, c_kindOn h5 hj (Nat.le_trans (serO_len (fun y hy => h7 j y hy)) (by decide)) g1]
      rfl
    rw [hk, if_pos i2, i1, g2.hd]
    unfold cf_13_15
    cases hS : S j with
    | none => exact ⟨t, s, S, 0, rfl, rfl, h, Or.inl rfl, mfr.rf⟩
    | some y =>
      have hne : ¬ kdT 4 y = -1 := by
        obtain p | l := y
        · obtain z | r | q := p
          · show ¬ (0 : Int32) = -1
            decide
          · show ¬ (1 : Int32) = -1
            decide
          · show ¬ (2 : Int32) = -1
            decide
        · show ¬ (3 : Int32) = -1
          decide
      rw [if_pos (show ¬ kdO (some y) = -1 from hne), if_pos (show ¬ kdO (some y) = -1 from hne)]
      unfold cf_13_21 mf_78_23
      rw [if_pos i2, i1]
      obtain ⟨z1, z2, z3, z4⟩ := c_zero h5 hj
      refine ⟨_, _, _, 1, ?_, rfl, h.chg hj (x := none) (fun y hy => by cases hy) z1 z2 z3 rfl (fun y hy => ?_) ?_, Or.inr ⟨j, hj, z3, z4⟩, ⟨fun _ _ => rfl, fun _ _ => rfl, fun q r => if_neg r, fun _ _ => rfl⟩⟩
      · rw [h2]
        show (if kH t σ0 = true then _ else none) = _
        rw [if_pos h5.1]
        unfold cf_214 cf_214_0
        rw [if_pos h5.1, i32c (m := j) (by omega), if_pos (fun q => q.elim (i32n (by omega)) (by have := h5.2.1; omega))]
        rfl
      · show upd _ (2410 * j) (-1) y = _
        unfold upd
        rw [if_neg (by omega)]
      · show upd _ (2410 * j) (-1) (2410 * j) = -1
        unfold upd
        rw [if_pos rfl]
  · rw [q1, q2]
    exact ⟨t, s, S, 0, rfl, rfl, h, Or.inl rfl, mfr.rf⟩
/-- an INT is laid on a shelf -/
theorem c_layInt (h0 : cS0 t σ) (hj : j < 8) (hr : kN t + 2 < zz_out) (v : Int32) : ∃ t', cf_24 N X σ (Int32.ofNat j) v t = some (t', .inl none) ∧ cS0 t' σ ∧ cS1 t' σ j [0, v] ∧ fSh σ j t t' ∧ rSh σ j 2 t t' := by
  obtain ⟨z1, z2, z3, z4⟩ := c_zero h0 hj
  obtain ⟨t1, a1, a2, a3, a4, a5⟩ := c_put (N := N) (X := X) z1 hj z2 (by decide) (by show kN t + 1 < _; omega) 0
  obtain ⟨t2, b1, b2, b3, b4, b5⟩ := c_put (N := N) (X := X) a2 hj a3 (by decide) (by have : kN t1 ≤ kN t + 1 := a5.1; omega) v
  refine ⟨t2, ?_, b2, b3, z3.tr (a4.tr b4), (z4.tr (a5.tr b5))⟩
  unfold cf_24 cf_24_0
  rw [if_pos h0.1, i32c (m := j) (by omega), if_pos (fun q => q.elim (i32n (by omega)) (by have := h0.2.1; omega)), a1]
  show cf_24_13 N X σ (Int32.ofNat j) v t1 = _
  unfold cf_24_13
  rw [if_pos a2.1, b1]
  rfl
theorem p_set (h : iS S σ0 k μ t s) (hr : kN t + 2 < zz_out) (a b : Int32) : ∃ t' s' S', ∃ v : Int32, cf_11 N X a b t = some (t', .inl (some (.int v))) ∧ mf_74 N a b s = some (s', some (.int v)) ∧ iS S' σ0 k μ t' s' ∧ (t' = t ∨ ∃ j, j < 8 ∧ fSh σ0 j t t' ∧ rSh σ0 j 2 t t') ∧ mfr (fun _ => False) (fun _ => False) (fun q => q = 47) (fun _ => False) s s' := by
  have h' := h
  obtain ⟨h1, h2, h3, h4, ⟨h5, h50⟩, h6, h7, -⟩ := h'
  unfold cf_11 cf_11_0 mf_74 mf_74_0
  rcases isSh a with ⟨j, hj, rfl, q1, q2⟩ | ⟨q1, q2⟩
  · rw [q1, q2]
    show ∃ t' s' S', ∃ v : Int32, cf_11_4 N X (Int32.ofNat j) b 1 t = _ ∧ mf_74_4 N (Int32.ofNat j) b 1 s = _ ∧ _
    unfold cf_11_4 mf_74_4
    rw [if_pos (by decide), if_pos (by decide)]
    unfold cf_11_9 mf_74_9
    obtain ⟨i1, i2, i3⟩ := slot_ix hj
    obtain ⟨t1, a1, a2, a3, a4, a5⟩ := c_layInt (N := N) (X := X) h5 hj hr b
    have e1 : (2410 : Int32) * Int32.ofNat j + 1 = Int32.ofNat (2410 * j + 1) := by
      rw [i3]
      exact i32add (b := 1)
    have hl : mf_75 N 0 b (2410 * Int32.ofNat j) s = some (mA (mA s 47 (upd (s.2.2.1 47) (2410 * j) 0)) 47 (upd (upd (s.2.2.1 47) (2410 * j) 0) (2410 * j + 1) b), none) := by
      unfold mf_75 mf_75_0
      rw [if_pos (by decide)]
      unfold mf_75_13
      rw [if_neg (by decide)]
      unfold mf_75_17
      rw [if_pos i2, e1, i32c (m := 2410 * j + 1) (by omega), i1, if_pos (fun q => q.elim (i32n (by omega)) (by omega))]
    rw [hl]
    refine ⟨t1, _, _, 1, ?_, rfl, h.chg hj (x := some (.inl (.inl b))) (fun y hy => by cases hy; exact trivial) a2 a3 a4 rfl (fun y hy => ?_) ⟨?_, ?_⟩, Or.inr ⟨j, hj, a4, a5⟩, ⟨fun _ _ => rfl, fun _ _ => rfl, fun q r => (if_neg r).trans (if_neg r), fun _ _ => rfl⟩⟩
    · rw [h2]
      show (if kH t σ0 = true then _ else none) = _
      rw [if_pos h5.1, a1]
      rfl
    · show upd (upd (s.2.2.1 47) (2410 * j) 0) (2410 * j + 1) b y = _
      unfold upd
      rw [if_neg (by omega), if_neg (by omega)]
    · show upd (upd (s.2.2.1 47) (2410 * j) 0) (2410 * j + 1) b (2410 * j) = 0
      unfold upd
      rw [if_neg (by omega), if_pos rfl]
    · show upd (upd (s.2.2.1 47) (2410 * j) 0) (2410 * j + 1) b (2410 * j + 1) = b
      unfold upd
      rw [if_pos rfl]
  · rw [q1, q2]
    exact ⟨t, s, S, 0, rfl, rfl, h, Or.inl rfl, mfr.rf⟩
end PK
end
-- ### 50.padd.lean.txt
section
/-! ===== PURE: add ===== -/
theorem gd {x : Int32} {m K : Nat} (hx : x = Int32.ofNat m) (hm : m < K) (hK : K ≤ 2147483648) : ¬ (x < 0 ∨ K ≤ Int32.toNatClampNeg x) := by
  rw [hx, i32c (by omega)]
  exact fun q => q.elim (i32n (by omega)) (by omega)
theorem cl {x : Int32} {m : Nat} (hx : x = Int32.ofNat m) (hm : m < 2147483648) : Int32.toNatClampNeg x = m := by
  rw [hx, i32c hm]
theorem i32al {a n : Nat} : Int32.ofNat a + (OfNat.ofNat n : Int32) = Int32.ofNat (a + n) := i32add
theorem i32ml {a n : Nat} : (OfNat.ofNat n : Int32) * Int32.ofNat a = Int32.ofNat (n * a) := i32mul
section PA
variable {N : Nat} {X : Nat → Option zz_C} {t t' : cS} {s s' : mS} {σ σ0 k j : Nat} {μ : Nat → Nat} {S : Nat → Option (Th 4)} {r : List Int32}
/-- one number of shelf j is changed -/
theorem c_poke {ξ ξ' : List Int32} (h0 : cS0 t σ) (h : cS1 t σ j ξ) (hl : ξ'.length = ξ.length) {p : Nat} (hp : p < ξ.length) {v : Int32} (hv : ξ'[p]'(hl ▸ hp) = v) (ho : ∀ i (hi : i < ξ.length), i ≠ p → ξ'[i]'(hl ▸ hi) = ξ[i]) (hj : j < 8) : cS0 (jA t (2000000 + 20 * σ + 1 + 1 + j) (upd (kA t (2000000 + 20 * σ + 1 + 1 + j)).2 p v)) σ ∧ cS1 (jA t (2000000 + 20 * σ + 1 + 1 + j) (upd (kA t (2000000 + 20 * σ + 1 + 1 + j)).2 p v)) σ j ξ' ∧ fSh σ j t (jA t (2000000 + 20 * σ + 1 + 1 + j) (upd (kA t (2000000 + 20 * σ + 1 + 1 + j)).2 p v)) ∧ rSh σ j 0 t (jA t (2000000 + 20 * σ + 1 + 1 + j) (upd (kA t (2000000 + 20 * σ + 1 + 1 + j)).2 p v)) := by
  obtain ⟨g1, g2, g3⟩ := h0
  obtain ⟨h1, h2, h3⟩ := h
  have eL : kA (jA t (2000000 + 20 * σ + 1 + 1 + j) (upd (kA t (2000000 + 20 * σ + 1 + 1 + j)).2 p v)) (2000000 + 20 * σ + 10) = kA t (2000000 + 20 * σ + 10) := by rw [kA_jA, if_neg (by omega)]
  have eR : kA (jA t (2000000 + 20 * σ + 1 + 1 + j) (upd (kA t (2000000 + 20 * σ + 1 + 1 + j)).2 p v)) (2000000 + 20 * σ + 1 + 1 + j) = ((kA t (2000000 + 20 * σ + 1 + 1 + j)).1, upd (kA t (2000000 + 20 * σ + 1 + 1 + j)).2 p v) := by rw [kA_jA, if_pos rfl]
  refine ⟨⟨g1, by rw [eL]; exact g2, fun i hi => ?_⟩, ⟨by rw [eL, hl]; exact h1, by rw [eR, hl]; exact h2, fun i hi => ?_⟩, ⟨⟨fun _ _ _ => rfl, rfl, rfl, fun k q r => by rw [kA_jA, if_neg (fun z => q (Or.inl z))], fun _ _ _ => rfl, rfl, rfl, Nat.le_refl _⟩, fun i hi => by rw [eL], by rw [eL]⟩, ⟨Nat.le_refl _, by rw [eR]; exact Nat.le_refl _, by rw [eR]; exact Nat.le_refl _⟩⟩
  · rw [kA_jA]
    by_cases e : i = j
    · subst e
      rw [if_pos rfl]
      exact g3 i hi
    · rw [if_neg (by omega)]
      exact g3 i hi
  · rw [eR]
    show upd _ p v i = _
    unfold upd
    by_cases e : i = p
    · subst e
      rw [if_pos rfl]
      exact hv.symm
    · rw [if_neg e, h3 i (hl ▸ hi)]
      exact (ho i (hl ▸ hi) e).symm
theorem c_app (h0 : cS0 t σ) (hj : j < 8) (hr : r.length ≤ 64) (h : cS1 t σ j (1 :: Int32.ofNat r.length :: r)) (hN : kN t + 1 < zz_out) (v : Int32) : (r.length < 64 ∧ ∃ t', cf_26_28 N X σ (Int32.ofNat j) v t = some (t', .inl (some (.int 1))) ∧ cS0 t' σ ∧ cS1 t' σ j (1 :: Int32.ofNat (r ++ [v]).length :: (r ++ [v])) ∧ fSh σ j t t' ∧ rSh σ j 1 t t') ∨ (r.length = 64 ∧ cf_26_28 N X σ (Int32.ofNat j) v t = some (t, .inl (some (.int 0)))) := by
  have h0' := h0
  have h' := h
  obtain ⟨g1, g2, g3⟩ := h0'
  obtain ⟨h1, h2, h3⟩ := h'
  have e1 : Int32.toNatClampNeg (1 : Int32) = 1 := rfl
  have h2 : r.length + 2 ≤ (kA t (2000000 + 20 * σ + 1 + 1 + j)).1 := h2
  have hx : (kA t (2000000 + 20 * σ + 1 + 1 + j)).2 1 = Int32.ofNat r.length := h3 1 (by show 1 < r.length + 2; omega)
  have ej : ¬ (Int32.ofNat j < 0 ∨ 8 ≤ j) := fun q => q.elim (i32n (by omega)) (by omega)
  have e2 : ¬ ((1 : Int32) < 0 ∨ (kA t (2000000 + 20 * σ + 1 + 1 + j)).1 ≤ 1) := fun q => q.elim (by decide) (by omega)
  unfold cf_26_28
  rw [if_pos g1, i32c (m := j) (by omega), if_pos ej, e1, if_pos e2, hx]
  by_cases c : r.length < 64
  · refine Or.inl ⟨c, ?_⟩
    rw [if_pos (show Int32.ofNat r.length < 64 from (i32lt (by omega) (b := 64) (by decide)).mpr c)]
    unfold cf_26_43
    rw [if_pos g1, i32c (m := j) (by omega), if_pos ej, e1, if_pos e2, hx]
    obtain ⟨a1, a2, a3, a4⟩ := c_poke (ξ' := 1 :: (Int32.ofNat r.length + 1) :: r) h0 h rfl (p := 1) (v := Int32.ofNat r.length + 1) (by show 1 < r.length + 2; omega) rfl (fun i hi hn => by
      match i, hn with
      | 0, _ => rfl
      | 1, hn => exact absurd rfl hn
      | i + 2, _ => rfl) hj
    obtain ⟨t', b1, b2, b3, b4, b5⟩ := c_put (N := N) (X := X) a1 hj a2 (by show r.length + 2 ≤ 1400; omega) hN v
    rw [b1]
    refine ⟨t', rfl, b2, ?_, a3.tr b4, ?_⟩
    · have e3 : (1 : Int32) :: Int32.ofNat (r ++ [v]).length :: (r ++ [v]) = (1 :: (Int32.ofNat r.length + 1) :: r) ++ [v] := by
        rw [List.length_append, show Int32.ofNat r.length + 1 = Int32.ofNat (r.length + 1) from i32add (b := 1)]
        rfl
      rw [e3]
      exact b3
    · have := a4.tr b5
      exact ⟨this.1, this.2⟩
  · refine Or.inr ⟨by omega, ?_⟩
    rw [if_neg (show ¬ Int32.ofNat r.length < 64 from fun q => c ((i32lt (by omega) (b := 64) (by decide)).mp q))]
    rfl
theorem r_app {a : Nat} (ha : a + 100 < 166300) (H : LayR (s.2.2.1 47) (Rk j) a r) (hr : r.length ≤ 64) (v : Int32) : (r.length < 64 ∧ mf_76_41 N v (Int32.ofNat a) s = some (mA (mA s 47 (upd (s.2.2.1 47) (a + 2 + r.length) v)) 47 (upd (upd (s.2.2.1 47) (a + 2 + r.length) v) (a + 1) (Int32.ofNat (r.length + 1))), some (.int 1))) ∨ (r.length = 64 ∧ mf_76_41 N v (Int32.ofNat a) s = some (s, some (.int 0))) := by
  obtain ⟨h1, h2, h3, h4⟩ := H
  have e1 : Int32.ofNat a + 1 = Int32.ofNat (a + 1) := i32al
  have hs : mf_77 N (Int32.ofNat a) s = some (s, some (.int (Int32.ofNat r.length))) := by
    unfold mf_77 mf_77_0
    rw [if_pos (gd e1 (by omega) (by decide)), cl e1 (by omega), h3]
  unfold mf_76_41
  rw [hs]
  show (_ ∧ mf_76_46 N v (Int32.ofNat a) (Int32.ofNat r.length) s = _) ∨ (_ ∧ mf_76_46 N v (Int32.ofNat a) (Int32.ofNat r.length) s = _)
  unfold mf_76_46
  by_cases c : r.length = 64
  · refine Or.inr ⟨c, ?_⟩
    rw [if_neg (fun q => q ((i32eq (by omega) (b := 64) (by decide)).mpr c))]
    rfl
  · refine Or.inl ⟨by omega, ?_⟩
    rw [if_pos (show ¬ Int32.ofNat r.length = 64 from fun q => c ((i32eq (by omega) (b := 64) (by decide)).mp q))]
    unfold mf_76_53
    rw [hs]
    show mf_76_65 N v (Int32.ofNat a) (Int32.ofNat a + 2) (Int32.ofNat r.length) s = _
    unfold mf_76_65
    have e2 : Int32.ofNat a + 2 + Int32.ofNat r.length = Int32.ofNat (a + 2 + r.length) := by
      rw [show Int32.ofNat a + 2 = Int32.ofNat (a + 2) from i32al, i32add]
    have e3 : upd (s.2.2.1 47) (a + 2 + r.length) v (a + 1) + 1 = Int32.ofNat (r.length + 1) := by
      unfold upd
      rw [if_neg (by omega), h3]
      exact i32al
    rw [if_pos (gd e2 (by omega) (by decide)), if_pos (gd e1 (by omega) (by decide)), if_pos (gd e1 (by omega) (by decide)), cl e2 (by omega), cl e1 (by omega), e3]
theorem LayR.app {h : Nat → Int32} {R : Nat → Prop} {a : Nat} {v : Int32} (H : LayR h R a r) (hR : R (a + 2 + r.length)) : LayR (upd (upd h (a + 2 + r.length) v) (a + 1) (Int32.ofNat (r.length + 1))) R a (r ++ [v]) := by
  obtain ⟨h1, h2, h3, h4⟩ := H
  refine ⟨fun y q1 q2 => ?_, ?_, ?_, fun i hi => ?_⟩
  · rw [List.length_append] at q2
    have q2 : y < a + 2 + (r.length + 1) := q2
    by_cases e : y = a + 2 + r.length
    · rw [e]
      exact hR
    · exact h1 y q1 (by omega)
  · unfold upd
    rw [if_neg (by omega), if_neg (by omega)]
    exact h2
  · unfold upd
    rw [if_pos rfl, List.length_append]
    rfl
  · unfold upd
    rw [List.length_append] at hi
    have hi : i < r.length + 1 := hi
    rw [if_neg (by omega)]
    by_cases e : i = r.length
    · subst e
      rw [if_pos rfl, List.getElem_append_right (Nat.le_refl _)]
      simp
    · rw [if_neg (by omega), List.getElem_append_left (by omega)]
      exact h4 i (by omega)
/-- a THING whose kind is ROW -/
theorem kdO_row {x : Option (Th 4)} (h : kdO x = 1) : ∃ r, x = some (.inl (.inr (.inl r))) := by
  cases x with
  | none => exact absurd h (show ¬ (-1 : Int32) = 1 by decide)
  | some x =>
    obtain p | l := x
    · obtain z | r | q := p
      · exact absurd h (show ¬ (0 : Int32) = 1 by decide)
      · exact ⟨r, rfl⟩
      · exact absurd h (show ¬ (2 : Int32) = 1 by decide)
    · exact absurd h (show ¬ (3 : Int32) = 1 by decide)
theorem p_add (h : iS S σ0 k μ t s) (hN : kN t + 3 < zz_out) (a b : Int32) : ∃ t' s' S', ∃ v : Int32, cf_12 N X a b t = some (t', .inl (some (.int v))) ∧ mf_76 N a b s = some (s', some (.int v)) ∧ iS S' σ0 k μ t' s' ∧ (t' = t ∨ ∃ j, j < 8 ∧ fSh σ0 j t t' ∧ rSh σ0 j 3 t t') ∧ mfr (fun _ => False) (fun _ => False) (fun q => q = 47) (fun _ => False) s s' := by
  have h' := h
  obtain ⟨h1, h2, h3, h4, ⟨h5, h50⟩, h6, h7, -⟩ := h'
  unfold cf_12 cf_12_0 mf_76 mf_76_0
  rcases isSh a with ⟨j, hj, rfl, q1, q2⟩ | ⟨q1, q2⟩
  · rw [q1, q2]
    show ∃ t' s' S', ∃ v : Int32, cf_12_4 N X (Int32.ofNat j) b 1 t = _ ∧ mf_76_4 N (Int32.ofNat j) b 1 s = _ ∧ _
    unfold cf_12_4 mf_76_4
    rw [if_neg (by decide), if_pos (by decide)]
    unfold cf_12_7 mf_76_9
    obtain ⟨g1, g2⟩ := h6 j hj
    obtain ⟨i1, i2, i3⟩ := slot_ix hj
    have hc : ∀ {t' : cS} {v : Int32}, v = 0 ∨ v = 1 → cf_26 N X σ0 (Int32.ofNat j) b t = some (t', .inl (some (.int v))) → co_b (kP t 0 7) (fun w0 => if kH t w0 = true then (ko_call 7 (cf_26 N X w0 (Int32.ofNat j) b t) (fun g1 v1 => co_i v1 (fun y => cf_12_16 N X y g1))) else none) = some (t', .inl (some (.int v))) := fun hv q => by
      rw [h2]
      show (if kH t σ0 = true then _ else none) = _
      rw [if_pos h5.1, q]
      rcases hv with rfl | rfl <;> rfl
    have hcl : (serO (S j)).length ≤ 1400 := Nat.le_trans (serO_len (fun y hy => h7 j y hy)) (by decide)
    have hk := c_kindOn (N := N) (X := X) h5 hj hcl g1
    have hc0 : cf_26 N X σ0 (Int32.ofNat j) b t = cf_26_5 N X σ0 (Int32.ofNat j) b (kdO (S j)) t := by
      unfold cf_26 cf_26_0
      rw [if_pos h5.1, hk]
      rfl
    have hd : (s.2.2.1 47) (2410 * j) = kdO (S j) := g2.hd
    rw [if_pos i2, i1, hd]
    unfold cf_26_5 at hc0
    by_cases e : kdO (S j) = 1
    · obtain ⟨r, hr⟩ := kdO_row e
      have hrl : r.length ≤ 64 := h7 j _ hr
      rw [hr] at g1 g2
      have g2 : LayR (s.2.2.1 47) (Rk j) (2410 * j) r := g2
      rw [if_pos e] at hc0 ⊢
      rw [i3]
      rcases r_app (N := N) (a := 2410 * j) (by omega) g2 hrl b with ⟨c1, c2⟩ | ⟨c1, c2⟩
      · rcases c_app (N := N) (X := X) h5 hj hrl g1 (by omega) b with ⟨d1, t', d2, d3, d4, d5, d6⟩ | ⟨d1, -⟩
        · rw [c2]
          refine ⟨t', _, _, 1, hc (Or.inr rfl) (hc0.trans d2), rfl, h.chg hj (x := some (.inl (.inr (.inl (r ++ [b]))))) (fun y hy => by cases hy; show (r ++ [b]).length ≤ 64; rw [List.length_append]; exact c1) d3 d4 d5 rfl (fun y hy => ?_) (LayR.app g2 ⟨by omega, by omega⟩), Or.inr ⟨j, hj, d5, ⟨by have := d6.1; omega, d6.2⟩⟩, ⟨fun _ _ => rfl, fun _ _ => rfl, fun q r => (if_neg r).trans (if_neg r), fun _ _ => rfl⟩⟩
          show upd (upd (s.2.2.1 47) (2410 * j + 2 + r.length) b) (2410 * j + 1) (Int32.ofNat (r.length + 1)) y = _
          unfold upd
          rw [if_neg (by omega), if_neg (by omega)]
        · omega
      · rcases c_app (N := N) (X := X) h5 hj hrl g1 (by omega) b with ⟨d1, -⟩ | ⟨d1, d2⟩
        · omega
        · rw [c2]
          exact ⟨t, s, S, 0, hc (Or.inl rfl) (hc0.trans d2), rfl, h, Or.inl rfl, mfr.rf⟩
    · rw [if_neg e] at hc0 ⊢
      unfold mf_76_25
      rw [if_pos i2, i3]
      have ea : Int32.ofNat (2410 * j) + 1 = Int32.ofNat (2410 * j + 1) := i32al
      rw [if_pos (gd ea (by omega) (by decide)), cl ea (by omega), i32c (m := 2410 * j) (by omega)]
      generalize hs1 : mA (mA s 47 (upd (s.2.2.1 47) (2410 * j) 1)) 47 (upd (upd (s.2.2.1 47) (2410 * j) 1) (2410 * j + 1) 0) = s1
      have e47 : s1.2.2.1 47 = upd (upd (s.2.2.1 47) (2410 * j) 1) (2410 * j + 1) 0 := by rw [← hs1]; rfl
      have g2 : LayR (s1.2.2.1 47) (Rk j) (2410 * j) [] := by
        rw [e47]
        refine ⟨fun y p1 p2 => ⟨p1, by have : y < 2410 * j + 2 + 0 := p2; omega⟩, ?_, ?_, fun i hi => absurd hi (Nat.not_lt_zero _)⟩
        · unfold upd
          rw [if_neg (by omega), if_pos rfl]
        · unfold upd
          rw [if_pos rfl]
          rfl
      obtain ⟨z1, z2, z3, z4⟩ := c_zero h5 hj
      obtain ⟨t1, a1, a2, a3, a4, a5⟩ := c_put (N := N) (X := X) z1 hj z2 (by decide) (by show kN t + 1 < _; omega) 1
      obtain ⟨t2, b1, b2, b3, b4, b5⟩ := c_put (N := N) (X := X) a2 hj a3 (by decide) (by have : kN t1 ≤ kN t + 1 := a5.1; omega) 0
      have n1 : kN t1 ≤ kN t + 1 := a5.1
      have n2 : kN t2 ≤ kN t1 + 1 := b5.1
      have hc1 : cf_26_9 N X σ0 (Int32.ofNat j) b t = cf_26_28 N X σ0 (Int32.ofNat j) b t2 := by
        unfold cf_26_9
        rw [if_pos h5.1, i32c (m := j) (by omega), if_pos (fun q => q.elim (i32n (by omega)) (by have := h5.2.1; omega)), a1]
        show cf_26_22 N X σ0 (Int32.ofNat j) b t1 = _
        unfold cf_26_22
        rw [if_pos a2.1, b1]
        rfl
      rcases c_app (N := N) (X := X) (r := []) b2 hj (by decide) b3 (by omega) b with ⟨d1, t', d2, d3, d4, d5, d6⟩ | ⟨d1, -⟩
      · rcases r_app (N := N) (a := 2410 * j) (by omega) g2 (by decide) b with ⟨c1, c2⟩ | ⟨c1, -⟩
        · rw [c2]
          have f := (z3.tr (a4.tr b4)).tr d5
          have rr := (z4.tr (a5.tr b5)).tr d6
          refine ⟨t', _, _, 1, hc (Or.inr rfl) (hc0.trans (hc1.trans d2)), rfl, h.chg hj (x := some (.inl (.inr (.inl ([] ++ [b]))))) (fun y hy => by cases hy; exact (show 1 ≤ 64 by decide)) d3 d4 f (by rw [← hs1]; rfl) (fun y hy => ?_) (LayR.app g2 ⟨by omega, by show 2410 * j + 2 + 0 < _; omega⟩), Or.inr ⟨j, hj, f, ⟨by have := rr.1; omega, rr.2⟩⟩, ⟨fun _ _ => by rw [← hs1]; rfl, fun _ _ => by rw [← hs1]; rfl, fun q r => by rw [← hs1]; exact (if_neg r).trans ((if_neg r).trans ((if_neg r).trans (if_neg r))), fun _ _ => by rw [← hs1]; rfl⟩⟩
          show upd (upd (s1.2.2.1 47) (2410 * j + 2 + 0) b) (2410 * j + 1) _ y = _
          rw [e47]
          unfold upd
          rw [if_neg (by omega), if_neg (by omega), if_neg (by omega), if_neg (by omega)]
        · exact absurd c1 (by decide)
      · exact absurd d1 (by decide)
  · rw [q1, q2]
    exact ⟨t, s, S, 0, rfl, rfl, h, Or.inl rfl, mfr.rf⟩
end PA
end
-- ### 51.nods.lean.txt
section
/-! ===== PURE: how the reference reads a THING ===== -/
/-- a THING of any depth, and what it is -/
abbrev Nod : Type := (n : Nat) × Th n
abbrev Vw : Type := Int32 ⊕ (List Int32 ⊕ (List (List Int32) ⊕ ((n : Nat) × List (Th n))))
abbrev vR (r : List Int32) : Vw := .inr (.inl r)
abbrev vT (q : List (List Int32)) : Vw := .inr (.inr (.inl q))
abbrev vP (n : Nat) (l : List (Th n)) : Vw := .inr (.inr (.inr ⟨n, l⟩))
abbrev nR (r : List Int32) : Nod := ⟨0, .inr (.inl r)⟩
def vwP : Pl → Vw
  | .inl z => .inl z
  | .inr (.inl r) => vR r
  | .inr (.inr q) => vT q
def vw : Nod → Vw
  | ⟨0, p⟩ => vwP p
  | ⟨n + 1, x⟩ => match (show Pl ⊕ List (Th n) from x) with
    | .inl p => vwP p
    | .inr l => vP n l
def kdV : Vw → Int32
  | .inl _ => 0
  | .inr (.inl _) => 1
  | .inr (.inr (.inl _)) => 2
  | .inr (.inr (.inr _)) => 3
def szV : Vw → Nat
  | .inl _ => 0
  | .inr (.inl r) => r.length
  | .inr (.inr (.inl q)) => q.length
  | .inr (.inr (.inr l)) => l.2.length
def kdsV : Vw → List Nod
  | .inl _ => []
  | .inr (.inl _) => []
  | .inr (.inr (.inl q)) => q.map nR
  | .inr (.inr (.inr l)) => l.2.map fun y => ⟨l.1, y⟩
def intV : Vw → Option Int32
  | .inl z => some z
  | _ => none
/-- a weight of what is no INT, by kind and size -/
def wV (w : Nat → Nat → Nat) : Vw → Nat
  | .inl _ => 0
  | .inr (.inl r) => w 1 r.length
  | .inr (.inr (.inl q)) => w 2 q.length
  | .inr (.inr (.inr l)) => w 3 l.2.length
def wn (k z : Nat) : Nat := if k = 3 then 2 + 2 * z else 2 + z
def w1 (_ _ : Nat) : Nat := 1
def TP (w : Nat → Nat → Nat) : Pl → Nat
  | .inl _ => 0
  | .inr (.inl r) => w 1 r.length
  | .inr (.inr q) => w 2 q.length + (q.map fun r => w 1 r.length).sum
def TT (w : Nat → Nat → Nat) : (n : Nat) → Th n → Nat
  | 0, p => TP w p
  | n + 1, x => match (show Pl ⊕ List (Th n) from x) with
    | .inl p => TP w p
    | .inr l => w 3 l.length + (l.map (TT w n)).sum
def TN (w : Nat → Nat → Nat) (x : Nod) : Nat := TT w x.1 x.2
theorem vw_int : ∀ x : Nod, intT x.1 x.2 = intV (vw x)
  | ⟨0, p⟩ => by
    obtain z | r | q := p <;> rfl
  | ⟨n + 1, x⟩ => by
    obtain p | l := x
    · obtain z | r | q := p <;> rfl
    · rfl
theorem vw_kd : ∀ x : Nod, kdT x.1 x.2 = kdV (vw x)
  | ⟨0, p⟩ => by
    obtain z | r | q := p <;> rfl
  | ⟨n + 1, x⟩ => by
    obtain p | l := x
    · obtain z | r | q := p <;> rfl
    · rfl
theorem TN_eq (w : Nat → Nat → Nat) : ∀ x : Nod, TN w x = wV w (vw x) + ((kdsV (vw x)).map (TN w)).sum := by
  have hT : ∀ q : List (List Int32), (q.map fun r => w 1 r.length).sum = ((q.map nR).map (TN w)).sum := fun q => by
    rw [List.map_map]
    rfl
  have hP : ∀ p : Pl, TP w p = wV w (vwP p) + ((kdsV (vwP p)).map (TN w)).sum := fun p => by
    obtain z | r | q := p
    · rfl
    · rfl
    · show w 2 q.length + _ = w 2 q.length + _
      rw [hT]
      rfl
  intro x
  match x with
  | ⟨0, p⟩ => exact hP p
  | ⟨n + 1, x⟩ =>
    obtain p | l := x
    · exact hP p
    · show w 3 l.length + (l.map (TT w n)).sum = w 3 l.length + ((l.map fun y => (⟨n, y⟩ : Nod)).map (TN w)).sum
      rw [List.map_map]
      rfl
theorem sum_add {α : Type} {f g : α → Nat} : ∀ {l : List α}, (l.map fun x => f x + g x).sum = (l.map f).sum + (l.map g).sum
  | [] => rfl
  | a :: l => by
    rw [List.map_cons, List.map_cons, List.map_cons, List.sum_cons, List.sum_cons, List.sum_cons, sum_add]
    omega
theorem sum_c {α : Type} (c : Nat) : ∀ {l : List α}, (l.map fun _ => c).sum = c * l.length
  | [] => rfl
  | a :: l => by
    rw [List.map_cons, List.sum_cons, sum_c c, List.length_cons, Nat.mul_succ]
    omega
/-- all numbers of a THING -/
theorem TT_wn : ∀ (n : Nat) (x : Th n), TT wn n x + 2 ≤ 4 * bulk n x := by
  have hP : ∀ p : Pl, TP wn p + 2 ≤ 4 * bulkP p := fun p => by
    obtain z | r | q := p
    · show 0 + 2 ≤ 4 * 1
      omega
    · show 2 + r.length + 2 ≤ 4 * (1 + r.length)
      omega
    · show 2 + q.length + (q.map fun r => 2 + r.length).sum + 2 ≤ 4 * (1 + (q.map fun r => 1 + r.length).sum)
      rw [sum_add, sum_add, sum_c, sum_c]
      omega
  intro n
  induction n with
  | zero => exact hP
  | succ n ih =>
    intro x
    obtain p | l := x
    · exact hP p
    · show 2 + 2 * l.length + (l.map (TT wn n)).sum + 2 ≤ 4 * (1 + (l.map (bulk n)).sum)
      have h1 : (l.map fun y => TT wn n y + 2).sum ≤ (l.map fun y => 4 * bulk n y).sum := sum_le (fun y _ => ih y)
      rw [sum_add, sum_c, sum_mul] at h1
      omega
theorem TT_w1 : ∀ (n : Nat) (x : Th n), TT w1 n x ≤ bulk n x := by
  have hP : ∀ p : Pl, TP w1 p ≤ bulkP p := fun p => by
    obtain z | r | q := p
    · show 0 ≤ 1
      omega
    · show 1 ≤ 1 + r.length
      omega
    · show 1 + (q.map fun _ => 1).sum ≤ 1 + (q.map fun r => 1 + r.length).sum
      rw [sum_add]
      omega
  intro n
  induction n with
  | zero => exact hP
  | succ n ih =>
    intro x
    obtain p | l := x
    · exact hP p
    · show 1 + (l.map (TT w1 n)).sum ≤ 1 + (l.map (bulk n)).sum
      have h1 : (l.map (TT w1 n)).sum ≤ (l.map (bulk n)).sum := sum_le (fun y _ => ih y)
      omega
/-- a THING's own numbers at b, with P of where its parts are -/
def Wy (h : Nat → Int32) (b : Nat) (P : Nat → Nod → Prop) : Vw → Prop
  | .inl _ => False
  | .inr (.inl r) => h b = 1 ∧ h (b + 1) = Int32.ofNat r.length ∧ ∀ i (hi : i < r.length), h (b + 2 + i) = r[i]
  | .inr (.inr (.inl q)) => h b = 2 ∧ h (b + 1) = Int32.ofNat q.length ∧ ∀ i (hi : i < q.length), ∃ c : Nat, Int32.ofNat b + h (b + 2 + i) = Int32.ofNat c ∧ P c (nR q[i])
  | .inr (.inr (.inr ⟨n, l⟩)) => h b = 3 ∧ h (b + 1) = Int32.ofNat l.length ∧ ∀ i (hi : i < l.length), (∀ z, intT n l[i] = some z → h (b + 2 + 2 * i) = 0 ∧ h (b + 3 + 2 * i) = z) ∧ (intT n l[i] = none → h (b + 2 + 2 * i) = 1 ∧ ∃ c : Nat, Int32.ofNat b + h (b + 3 + 2 * i) = Int32.ofNat c ∧ P c ⟨n, l[i]⟩)
def LayN (h : Nat → Int32) (R : Nat → Prop) (a : Nat) (x : Nod) : Prop := Lay x.1 h R a x.2
theorem LayN_iff {h : Nat → Int32} {R : Nat → Prop} {a : Nat} : ∀ {x : Nod}, LayN h R a x ↔ (∀ y, a ≤ y → y < a + wV wn (vw x) → R y) ∧ Wy h a (LayN h R) (vw x)
  | ⟨0, p⟩ => by
    obtain z | r | q := p
    · exact ⟨fun q => q.elim, fun q => q.2.elim⟩
    · have e : wV wn (vR r) = 2 + r.length := rfl
      show LayR h R a r ↔ (∀ y, a ≤ y → y < a + wV wn (vR r) → R y) ∧ _
      rw [e, ← Nat.add_assoc]
      exact Iff.rfl
    · have e : wV wn (vT q) = 2 + q.length := rfl
      show LayP h R a (.inr (.inr q)) ↔ (∀ y, a ≤ y → y < a + wV wn (vT q) → R y) ∧ _
      rw [e, ← Nat.add_assoc]
      exact Iff.rfl
  | ⟨n + 1, x⟩ => by
    obtain p | l := x
    · obtain z | r | q := p
      · exact ⟨fun q => q.elim, fun q => q.2.elim⟩
      · have e : wV wn (vR r) = 2 + r.length := rfl
        show LayR h R a r ↔ (∀ y, a ≤ y → y < a + wV wn (vR r) → R y) ∧ _
        rw [e, ← Nat.add_assoc]
        exact Iff.rfl
      · have e : wV wn (vT q) = 2 + q.length := rfl
        show LayP h R a (.inr (.inr q)) ↔ (∀ y, a ≤ y → y < a + wV wn (vT q) → R y) ∧ _
        rw [e, ← Nat.add_assoc]
        exact Iff.rfl
    · have e : wV wn (vP n l) = 2 + 2 * l.length := rfl
      show Lay (n + 1) h R a (.inr l) ↔ (∀ y, a ≤ y → y < a + wV wn (vP n l) → R y) ∧ _
      rw [e, ← Nat.add_assoc]
      exact Iff.rfl
section RD
variable {N : Nat} {s : mS} {a b : Nat} {P : Nat → Nod → Prop} {v : Vw}
theorem Wy.kd {h : Nat → Int32} (H : Wy h a P v) : h a = kdV v ∧ h (a + 1) = Int32.ofNat (szV v) ∧ 2 ≤ wV wn v := by
  obtain z | r | q | ⟨n, l⟩ := v
  · exact H.elim
  · exact ⟨H.1, H.2.1, by show 2 ≤ 2 + r.length; omega⟩
  · exact ⟨H.1, H.2.1, by show 2 ≤ 2 + q.length; omega⟩
  · exact ⟨H.1, H.2.1, by show 2 ≤ 2 + 2 * l.length; omega⟩
theorem r_size (H : Wy (s.2.2.1 47) a P v) (ha : a + wV wn v ≤ 166300) : mf_77 N (Int32.ofNat a) s = some (s, some (.int (Int32.ofNat (szV v)))) := by
  obtain ⟨h1, h2, h3⟩ := H.kd
  have e1 : Int32.ofNat a + 1 = Int32.ofNat (a + 1) := i32al
  unfold mf_77 mf_77_0
  rw [if_pos (gd e1 (by omega) (by decide)), cl e1 (by omega), h2]
theorem r_nums (H : Wy (s.2.2.1 47) a P v) (ha : a + wV wn v ≤ 166300) : mf_300 N (Int32.ofNat a) s = some (s, some (.int (Int32.ofNat (wV wn v)))) := by
  have hs := r_size (N := N) H ha
  obtain ⟨h1, h2, h3⟩ := H.kd
  unfold mf_300 mf_300_0
  rw [if_pos (gd rfl (by omega) (by decide)), i32c (m := a) (by omega), h1]
  unfold mf_300_21 mf_300_11
  rw [hs]
  obtain z | r | q | ⟨n, l⟩ := v
  · exact H.elim
  · rw [if_pos (show ¬ kdV (vR r) = 3 from (show ¬ (1 : Int32) = 3 by decide))]
    show some (s, some (Value.int (2 + Int32.ofNat r.length))) = some (s, some (Value.int (Int32.ofNat (2 + r.length))))
    rw [show (2 : Int32) + Int32.ofNat r.length = Int32.ofNat (2 + r.length) from i32add (a := 2)]
  · rw [if_pos (show ¬ kdV (vT q) = 3 from (show ¬ (2 : Int32) = 3 by decide))]
    show some (s, some (Value.int (2 + Int32.ofNat q.length))) = some (s, some (Value.int (Int32.ofNat (2 + q.length))))
    rw [show (2 : Int32) + Int32.ofNat q.length = Int32.ofNat (2 + q.length) from i32add (a := 2)]
  · rw [if_neg (fun q => q rfl)]
    show some (s, some (Value.int (2 + 2 * Int32.ofNat l.length))) = some (s, some (Value.int (Int32.ofNat (2 + 2 * l.length))))
    rw [show (2 : Int32) * Int32.ofNat l.length = Int32.ofNat (2 * l.length) from i32ml, show (2 : Int32) + Int32.ofNat (2 * l.length) = Int32.ofNat (2 + 2 * l.length) from i32add (a := 2)]
theorem r_partT {q : List (List Int32)} (H : Wy (s.2.2.1 47) a P (vT q)) (ha : a + wV wn (vT q) ≤ 166300) {i : Nat} (hi : i < q.length) : ∃ c : Nat, mf_294 N (Int32.ofNat a) (Int32.ofNat i) s = some (s, some (.int (Int32.ofNat c))) ∧ P c (nR q[i]) := by
  obtain ⟨h1, h2, h3⟩ := H
  obtain ⟨c, g1, g2⟩ := h3 i hi
  have ha : a + (2 + q.length) ≤ 166300 := ha
  refine ⟨c, ?_, g2⟩
  have e2 : Int32.ofNat a + 2 + Int32.ofNat i = Int32.ofNat (a + 2 + i) := by
    rw [show Int32.ofNat a + 2 = Int32.ofNat (a + 2) from i32al, i32add]
  unfold mf_294 mf_294_0
  rw [if_pos (gd rfl (by omega) (by decide)), i32c (m := a) (by omega), h1, if_neg (fun q => q rfl)]
  unfold mf_294_11
  rw [if_pos (gd e2 (by omega) (by decide)), cl e2 (by omega)]
  unfold mf_294_36
  rw [g1]
theorem r_partP {n : Nat} {l : List (Th n)} (H : Wy (s.2.2.1 47) a P (vP n l)) (ha : a + wV wn (vP n l) ≤ 166300) {i : Nat} (hi : i < l.length) (hz : intT n l[i] = none) : ∃ c : Nat, mf_294 N (Int32.ofNat a) (Int32.ofNat i) s = some (s, some (.int (Int32.ofNat c))) ∧ P c ⟨n, l[i]⟩ := by
  obtain ⟨h1, h2, h3⟩ := H
  obtain ⟨-, c, g1, g2⟩ := (h3 i hi).2 hz
  have ha : a + (2 + 2 * l.length) ≤ 166300 := ha
  refine ⟨c, ?_, g2⟩
  have e2 : Int32.ofNat a + 3 + 2 * Int32.ofNat i = Int32.ofNat (a + 3 + 2 * i) := by
    rw [show Int32.ofNat a + 3 = Int32.ofNat (a + 3) from i32al, show (2 : Int32) * Int32.ofNat i = Int32.ofNat (2 * i) from i32ml, i32add]
  unfold mf_294 mf_294_0
  rw [if_pos (gd rfl (by omega) (by decide)), i32c (m := a) (by omega), h1, if_pos (by decide)]
  unfold mf_294_24
  rw [if_pos (gd e2 (by omega) (by decide)), cl e2 (by omega)]
  unfold mf_294_36
  rw [g1]
theorem r_isInt {n : Nat} {l : List (Th n)} (H : Wy (s.2.2.1 47) a P (vP n l)) (ha : a + wV wn (vP n l) ≤ 166300) {i : Nat} (hi : i < l.length) : mf_293 N (Int32.ofNat a) (Int32.ofNat i) s = some (s, some (.int (if (intT n l[i]).isSome then 1 else 0))) := by
  obtain ⟨h1, h2, h3⟩ := H
  obtain ⟨g1, g2⟩ := h3 i hi
  have ha : a + (2 + 2 * l.length) ≤ 166300 := ha
  have e2 : Int32.ofNat a + 2 + 2 * Int32.ofNat i = Int32.ofNat (a + 2 + 2 * i) := by
    rw [show Int32.ofNat a + 2 = Int32.ofNat (a + 2) from i32al, show (2 : Int32) * Int32.ofNat i = Int32.ofNat (2 * i) from i32ml, i32add]
  unfold mf_293 mf_293_0
  rw [if_pos (gd e2 (by omega) (by decide)), cl e2 (by omega)]
  cases hz : intT n l[i] with
  | none =>
    rw [(g2 hz).1, if_pos (by decide)]
    rfl
  | some z =>
    rw [(g1 z hz).1, if_neg (fun q => q rfl)]
    rfl
end RD
end
-- ### 52.lay.lean.txt
section
/-! ===== PURE: lay, copy (the reference's) ===== -/
theorem mA_mA {s : mS} {k : Nat} {f g : Nat → Int32} : mA (mA s k f) k g = mA s k g := by
  unfold mA
  refine Prod.ext rfl (Prod.ext rfl (Prod.ext (funext fun q => ?_) rfl))
  show (if q = k then g else if q = k then f else s.2.2.1 q) = if q = k then g else s.2.2.1 q
  by_cases e : q = k
  · rw [if_pos e, if_pos e]
  · rw [if_neg e, if_neg e, if_neg e]
theorem mA_id {s : mS} {k : Nat} : mA s k (s.2.2.1 k) = s := by
  unfold mA
  refine Prod.ext rfl (Prod.ext rfl (Prod.ext (funext fun q => ?_) rfl))
  show (if q = k then s.2.2.1 k else s.2.2.1 q) = s.2.2.1 q
  by_cases e : q = k
  · rw [if_pos e, e]
  · rw [if_neg e]
/-- the numbers of [b + i, b + n) are those of [a + i, a + n) -/
def cpz (h : Nat → Int32) (a b i n : Nat) (y : Nat) : Int32 := if b + i ≤ y ∧ y < b + n then h (a + (y - b)) else h y
section LA
variable {N : Nat} {s : mS} {x4 x5 x6 : Int32}
theorem lay_copy {f a b n : Nat} (ha : a + n ≤ 166300) (hb : b + n ≤ 166300) (hd : a + n ≤ b ∨ b + n ≤ a) : ∀ (c i : Nat) (s : mS), i + c = n → mf_75_L1 N (f + (c + 1)) 2 (Int32.ofNat i) x4 x5 x6 (Int32.ofNat a) (Int32.ofNat b) (Int32.ofNat n) s = mf_75_L1 N f 1 0 x4 x5 x6 (Int32.ofNat a) (Int32.ofNat b) 0 (mA s 47 (cpz (s.2.2.1 47) a b i n)) := by
  intro c
  induction c with
  | zero =>
    intro i s hi
    have e : cpz (s.2.2.1 47) a b i n = s.2.2.1 47 := funext fun y => if_neg (by omega)
    rw [e, mA_id]
    show mf_75_99 N (mf_75_L1 N f) x4 x5 x6 (Int32.ofNat a) (Int32.ofNat b) (Int32.ofNat n) (Int32.ofNat i) s = _
    unfold mf_75_99
    rw [if_pos ((i32le (by omega) (by omega)).mpr (by omega))]
    rfl
  | succ c ih =>
    intro i s hi
    show mf_75_99 N (mf_75_L1 N (f + (c + 1))) x4 x5 x6 (Int32.ofNat a) (Int32.ofNat b) (Int32.ofNat n) (Int32.ofNat i) s = _
    unfold mf_75_99
    rw [if_neg (fun q => by have := (i32le (by omega) (by omega)).mp q; omega)]
    unfold mf_75_106
    have e1 : Int32.ofNat a + Int32.ofNat i = Int32.ofNat (a + i) := i32add
    have e2 : Int32.ofNat b + Int32.ofNat i = Int32.ofNat (b + i) := i32add
    rw [if_pos (gd e1 (by omega) (by decide)), if_pos (gd e2 (by omega) (by decide)), cl e1 (by omega), cl e2 (by omega), show Int32.ofNat i + 1 = Int32.ofNat (i + 1) from i32al, ih (i + 1) _ (by omega), mA_mA]
    congr 1
    refine congrArg _ (funext fun y => ?_)
    show cpz (upd (s.2.2.1 47) (b + i) (s.2.2.1 47 (a + i))) a b (i + 1) n y = cpz (s.2.2.1 47) a b i n y
    unfold cpz upd
    by_cases c1 : b + (i + 1) ≤ y ∧ y < b + n
    · rw [if_pos c1, if_neg (show ¬ a + (y - b) = b + i by omega), if_pos (show b + i ≤ y ∧ y < b + n from ⟨by omega, c1.2⟩)]
    · rw [if_neg c1]
      by_cases c2 : y = b + i
      · rw [if_pos c2, if_pos ⟨by omega, by omega⟩, c2, show a + (b + i - b) = a + i by omega]
      · rw [if_neg c2, if_neg (by omega)]
/-- behind the last part, and of a ROW at once -/
theorem lay_out {f a i : Nat} {b : Int32} {P : Nat → Nod → Prop} {v : Vw} (H : Wy (s.2.2.1 47) a P v) (ha : a + wV wn v ≤ 166300) (hi : i = szV v ∨ kdV v = 1) (hz : i < 166300) : mf_75_L1 N (f + 1) 1 (Int32.ofNat i) x4 x5 x6 (Int32.ofNat a) b 0 s = mf_75_L1 N f 0 0 x4 x5 (x6 + 1) 0 0 0 s := by
  obtain ⟨h1, h2, h3⟩ := H.kd
  have hsz : szV v ≤ wV wn v := by
    obtain z | r | q | ⟨n, l⟩ := v
    · exact Nat.zero_le _
    · show r.length ≤ 2 + r.length
      omega
    · show q.length ≤ 2 + q.length
      omega
    · show l.length ≤ 2 + 2 * l.length
      omega
  show mf_75_135 N (mf_75_L1 N f) x4 x5 x6 (Int32.ofNat a) b (Int32.ofNat i) s = _
  unfold mf_75_135
  rw [r_size H ha]
  show mf_75_143 N (mf_75_L1 N f) x4 x5 x6 (Int32.ofNat a) b (Int32.ofNat i) (Int32.ofNat i) (Int32.ofNat (szV v)) s = _
  unfold mf_75_143
  by_cases c : szV v ≤ i
  · rw [if_pos ((i32le (by omega) (by omega)).mpr c)]
    rfl
  · rw [if_neg (fun q => c ((i32le (by omega) (by omega)).mp q))]
    have hk : kdV v = 1 := hi.resolve_left (by omega)
    unfold mf_75_146
    rw [if_pos (gd rfl (by omega) (by decide)), i32c (m := a) (by omega), h1, if_pos hk]
    rfl
/-- an INT within a PACK is passed over -/
theorem lay_skip {f a i n : Nat} {b : Int32} {P : Nat → Nod → Prop} {l : List (Th n)} (H : Wy (s.2.2.1 47) a P (vP n l)) (ha : a + wV wn (vP n l) ≤ 166300) (hi : i < l.length) {z : Int32} (hz : intT n l[i] = some z) : mf_75_L1 N (f + 1) 1 (Int32.ofNat i) x4 x5 x6 (Int32.ofNat a) b 0 s = mf_75_L1 N f 1 (Int32.ofNat (i + 1)) x4 x5 x6 (Int32.ofNat a) b 0 s := by
  have hw : a + (2 + 2 * l.length) ≤ 166300 := ha
  have h1 : s.2.2.1 47 a = 3 := H.1
  show mf_75_135 N (mf_75_L1 N f) x4 x5 x6 (Int32.ofNat a) b (Int32.ofNat i) s = _
  unfold mf_75_135
  rw [r_size H ha]
  show mf_75_143 N (mf_75_L1 N f) x4 x5 x6 (Int32.ofNat a) b (Int32.ofNat i) (Int32.ofNat i) (Int32.ofNat l.length) s = _
  unfold mf_75_143
  rw [if_neg (fun q => by have := (i32le (by omega) (by omega)).mp q; omega)]
  unfold mf_75_146
  rw [if_pos (gd rfl (by omega) (by decide)), i32c (m := a) (by omega), h1, if_neg (by decide)]
  unfold mf_75_157
  rw [if_pos (gd rfl (by omega) (by decide)), i32c (m := a) (by omega), h1, if_neg (fun q => q rfl)]
  unfold mf_75_168
  rw [r_isInt H ha hi, hz]
  show mf_75_261 N (mf_75_L1 N f) x4 x5 x6 (Int32.ofNat a) b (Int32.ofNat i) s = _
  unfold mf_75_261
  rw [show Int32.ofNat i + 1 = Int32.ofNat (i + 1) from i32al]
/-- where the number is that tells part j -/
def ofs (v : Vw) (j : Nat) : Nat := match v with
  | .inr (.inr (.inr _)) => 3 + 2 * j
  | _ => 2 + j
/-- the state behind a part's entry -/
abbrev layS (s : mS) (m c e b o : Nat) : mS := mA (mA (mA s 58 (upd (s.2.2.1 58) m (Int32.ofNat c))) 59 (upd (s.2.2.1 59) m (Int32.ofNat e))) 47 (upd (s.2.2.1 47) (b + o) (Int32.ofNat e - Int32.ofNat b))
theorem lay_190 {f a b c e m i o np : Nat} {kd : Int32} (h1 : s.2.2.1 47 a = kd) (ha : a < 166300) (hb : b + o < 166300) (hm : m < 700) (ho : o = if kd = 2 then 2 + i else 3 + 2 * i) (hn : ∀ N, mf_300 N (Int32.ofNat c) (layS s m c e b o) = some (layS s m c e b o, some (.int (Int32.ofNat np)))) : mf_75_190 N (mf_75_L1 N f) (Int32.ofNat m) (Int32.ofNat e) x6 (Int32.ofNat a) (Int32.ofNat b) (Int32.ofNat i) (Int32.ofNat c) s = mf_75_L1 N f 1 (Int32.ofNat (i + 1)) (Int32.ofNat (m + 1)) (Int32.ofNat (e + np)) x6 (Int32.ofNat a) (Int32.ofNat b) 0 (layS s m c e b o) := by
  have hq : ∀ y2 : Int32, y2 = Int32.ofNat o → mf_75_243 N (mf_75_L1 N f) (Int32.ofNat m + 1) (Int32.ofNat e) x6 (Int32.ofNat a) (Int32.ofNat b) (Int32.ofNat i) (Int32.ofNat c) (Int32.ofNat b) y2 (mA (mA s 58 (upd (s.2.2.1 58) m (Int32.ofNat c))) 59 (upd (s.2.2.1 59) m (Int32.ofNat e))) = mf_75_L1 N f 1 (Int32.ofNat (i + 1)) (Int32.ofNat (m + 1)) (Int32.ofNat (e + np)) x6 (Int32.ofNat a) (Int32.ofNat b) 0 (layS s m c e b o) := fun y2 hy => by
    subst hy
    have e2 : Int32.ofNat b + Int32.ofNat o = Int32.ofNat (b + o) := i32add
    unfold mf_75_243
    rw [if_pos (gd e2 hb (by decide)), cl e2 (by omega)]
    show mo_bi (mf_300 N (Int32.ofNat c) (layS s m c e b o)) _ = _
    rw [hn]
    show mf_75_L1 N f 1 (Int32.ofNat i + 1) (Int32.ofNat m + 1) (Int32.ofNat e + Int32.ofNat np) x6 (Int32.ofNat a) (Int32.ofNat b) 0 (layS s m c e b o) = _
    rw [show Int32.ofNat i + 1 = Int32.ofNat (i + 1) from i32al, show Int32.ofNat m + 1 = Int32.ofNat (m + 1) from i32al, i32add]
  unfold mf_75_190
  rw [if_pos (gd rfl hm (by decide)), if_pos (gd rfl hm (by decide)), if_pos (gd rfl ha (by decide)), i32c (m := a) (by omega), i32c (m := m) (by omega), h1]
  by_cases c2 : kd = 2
  · rw [if_neg (fun q => q c2)]
    rw [if_pos c2] at ho
    exact hq _ (by rw [ho]; exact i32add (a := 2))
  · rw [if_pos c2]
    rw [if_neg c2] at ho
    refine hq _ ?_
    rw [ho, show (2 : Int32) * Int32.ofNat i = Int32.ofNat (2 * i) from i32ml]
    exact i32add (a := 3)
/-- a part of a TABLE, or one of a PACK that is no INT, is entered -/
theorem lay_part {a b e m i : Nat} {P : Nat → Nod → Prop} {v : Vw} (H : Wy (s.2.2.1 47) a P v) (ha : a + wV wn v ≤ 166300) (hb : b + wV wn v ≤ 166300) (hm : m < 700) (hi : i < (kdsV v).length) (hz : intV (vw (kdsV v)[i]) = none) : ∃ c, P c (kdsV v)[i] ∧ ∀ f np, (∀ N, mf_300 N (Int32.ofNat c) (layS s m c e b (ofs v i)) = some (layS s m c e b (ofs v i), some (.int (Int32.ofNat np)))) → mf_75_L1 N (f + 1) 1 (Int32.ofNat i) (Int32.ofNat m) (Int32.ofNat e) x6 (Int32.ofNat a) (Int32.ofNat b) 0 s = mf_75_L1 N f 1 (Int32.ofNat (i + 1)) (Int32.ofNat (m + 1)) (Int32.ofNat (e + np)) x6 (Int32.ofNat a) (Int32.ofNat b) 0 (layS s m c e b (ofs v i)) := by
  obtain z | r | q | ⟨n, l⟩ := v
  · exact H.elim
  · exact absurd hi (Nat.not_lt_zero _)
  · have hi' : i < q.length := by
      have : i < (q.map nR).length := hi
      rwa [List.length_map] at this
    have hw : a + (2 + q.length) ≤ 166300 := ha
    have hv : b + (2 + q.length) ≤ 166300 := hb
    have h1 : s.2.2.1 47 a = 2 := H.1
    obtain ⟨c, g1, g2⟩ := r_partT (N := N) H ha hi'
    have ek : (kdsV (vT q))[i] = nR q[i] := List.getElem_map _
    refine ⟨c, by rw [ek]; exact g2, fun f np hn => ?_⟩
    show mf_75_135 N (mf_75_L1 N f) (Int32.ofNat m) (Int32.ofNat e) x6 (Int32.ofNat a) (Int32.ofNat b) (Int32.ofNat i) s = _
    unfold mf_75_135
    rw [r_size H ha]
    show mf_75_143 N (mf_75_L1 N f) (Int32.ofNat m) (Int32.ofNat e) x6 (Int32.ofNat a) (Int32.ofNat b) (Int32.ofNat i) (Int32.ofNat i) (Int32.ofNat q.length) s = _
    unfold mf_75_143
    rw [if_neg (fun q => by have := (i32le (by omega) (by omega)).mp q; omega)]
    unfold mf_75_146
    rw [if_pos (gd rfl (by omega) (by decide)), i32c (m := a) (by omega), h1, if_neg (by decide)]
    unfold mf_75_157
    rw [if_pos (gd rfl (by omega) (by decide)), i32c (m := a) (by omega), h1, if_pos (by decide)]
    unfold mf_75_182
    rw [g1]
    exact lay_190 (o := 2 + i) h1 (by omega) (by omega) hm rfl hn
  · have hi' : i < l.length := by
      have : i < (l.map fun y => (⟨n, y⟩ : Nod)).length := hi
      rwa [List.length_map] at this
    have hw : a + (2 + 2 * l.length) ≤ 166300 := ha
    have hv : b + (2 + 2 * l.length) ≤ 166300 := hb
    have h1 : s.2.2.1 47 a = 3 := H.1
    have ek : (kdsV (vP n l))[i] = ⟨n, l[i]⟩ := List.getElem_map _
    rw [ek, ← vw_int] at hz
    have hz : intT n l[i] = none := hz
    obtain ⟨c, g1, g2⟩ := r_partP (N := N) H ha hi' hz
    refine ⟨c, by rw [ek]; exact g2, fun f np hn => ?_⟩
    show mf_75_135 N (mf_75_L1 N f) (Int32.ofNat m) (Int32.ofNat e) x6 (Int32.ofNat a) (Int32.ofNat b) (Int32.ofNat i) s = _
    unfold mf_75_135
    rw [r_size H ha]
    show mf_75_143 N (mf_75_L1 N f) (Int32.ofNat m) (Int32.ofNat e) x6 (Int32.ofNat a) (Int32.ofNat b) (Int32.ofNat i) (Int32.ofNat i) (Int32.ofNat l.length) s = _
    unfold mf_75_143
    rw [if_neg (fun q => by have := (i32le (by omega) (by omega)).mp q; omega)]
    unfold mf_75_146
    rw [if_pos (gd rfl (by omega) (by decide)), i32c (m := a) (by omega), h1, if_neg (by decide)]
    unfold mf_75_157
    rw [if_pos (gd rfl (by omega) (by decide)), i32c (m := a) (by omega), h1, if_neg (fun q => q rfl)]
    unfold mf_75_168
    rw [r_isInt H ha hi', hz]
    show mf_75_182 N (mf_75_L1 N f) (Int32.ofNat m) (Int32.ofNat e) x6 (Int32.ofNat a) (Int32.ofNat b) (Int32.ofNat i) s = _
    unfold mf_75_182
    rw [g1]
    exact lay_190 (o := 3 + 2 * i) h1 (by omega) (by omega) hm rfl hn
end LA
end
-- ### 53.lay2.lean.txt
section
/-! ===== PURE: lay goes through all parts ===== -/
def sm (f : Nat → Nat) (q : Nat) : Nat → Nat
  | 0 => 0
  | c + 1 => sm f q c + f (q + c)
theorem sm_hd {f : Nat → Nat} : ∀ {q c : Nat}, sm f q (c + 1) = f q + sm f (q + 1) c
  | q, 0 => by
    show 0 + f (q + 0) = f q + 0
    rw [Nat.add_zero, Nat.zero_add, Nat.add_zero]
  | q, c + 1 => by
    show sm f q (c + 1) + f (q + (c + 1)) = f q + (sm f (q + 1) c + f (q + 1 + c))
    rw [sm_hd (c := c), show q + (c + 1) = q + 1 + c by omega, Nat.add_assoc]
theorem sm_congr {f g : Nat → Nat} {q : Nat} : ∀ {c : Nat}, (∀ i, q ≤ i → i < q + c → f i = g i) → sm f q c = sm g q c
  | 0, _ => rfl
  | c + 1, h => by
    show sm f q c + f (q + c) = sm g q c + g (q + c)
    rw [sm_congr (fun i a b => h i a (by omega)), h (q + c) (by omega) (by omega)]
theorem Wy.congr {h h' : Nat → Int32} {b : Nat} {P P' : Nat → Nod → Prop} {v : Vw} (hh : ∀ y, b ≤ y → y < b + wV wn v → h' y = h y) (hP : ∀ c y, P c y → P' c y) (H : Wy h b P v) : Wy h' b P' v := by
  obtain z | r | q | ⟨n, l⟩ := v
  · exact H
  · have hh : ∀ y, b ≤ y → y < b + (2 + r.length) → h' y = h y := hh
    obtain ⟨h1, h2, h3⟩ := H
    exact ⟨by rw [hh _ (by omega) (by omega)]; exact h1, by rw [hh _ (by omega) (by omega)]; exact h2, fun i hi => by rw [hh _ (by omega) (by omega)]; exact h3 i hi⟩
  · have hh : ∀ y, b ≤ y → y < b + (2 + q.length) → h' y = h y := hh
    obtain ⟨h1, h2, h3⟩ := H
    refine ⟨by rw [hh _ (by omega) (by omega)]; exact h1, by rw [hh _ (by omega) (by omega)]; exact h2, fun i hi => ?_⟩
    obtain ⟨c, g1, g2⟩ := h3 i hi
    exact ⟨c, by rw [hh _ (by omega) (by omega)]; exact g1, hP _ _ g2⟩
  · have hh : ∀ y, b ≤ y → y < b + (2 + 2 * l.length) → h' y = h y := hh
    obtain ⟨h1, h2, h3⟩ := H
    refine ⟨by rw [hh _ (by omega) (by omega)]; exact h1, by rw [hh _ (by omega) (by omega)]; exact h2, fun i hi => ⟨fun z hz => ?_, fun hz => ?_⟩⟩
    · rw [hh _ (by omega) (by omega), hh _ (by omega) (by omega)]
      exact (h3 i hi).1 z hz
    · obtain ⟨g0, c, g1, g2⟩ := (h3 i hi).2 hz
      exact ⟨by rw [hh _ (by omega) (by omega)]; exact g0, c, by rw [hh _ (by omega) (by omega)]; exact g1, hP _ _ g2⟩
/-- where the numbers of entry i go -/
def bs (b0 : Nat) (Y : Nat → Nod) (i : Nat) : Nat := b0 + sm (fun i => wV wn (vw (Y i))) 0 i
theorem bs_s {b0 : Nat} {Y : Nat → Nod} {i : Nat} : bs b0 Y (i + 1) = bs b0 Y i + wV wn (vw (Y i)) := by
  show b0 + (sm _ 0 i + wV wn (vw (Y (0 + i)))) = b0 + sm _ 0 i + _
  rw [Nat.zero_add, Nat.add_assoc]
theorem bs_le {b0 : Nat} {Y : Nat → Nod} {i : Nat} : ∀ {j : Nat}, i ≤ j → bs b0 Y i ≤ bs b0 Y j
  | 0, h => by
    have : i = 0 := by omega
    rw [this]
    exact Nat.le_refl _
  | j + 1, h => by
    by_cases e : i = j + 1
    · rw [e]
      exact Nat.le_refl _
    · have := bs_le (b0 := b0) (Y := Y) (i := i) (j := j) (by omega)
      rw [bs_s]
      omega
theorem bs_congr {b0 : Nat} {Y Y' : Nat → Nod} {i : Nat} (h : ∀ j, j < i → Y' j = Y j) : bs b0 Y' i = bs b0 Y i := by
  unfold bs
  rw [sm_congr (g := fun i => wV wn (vw (Y i))) (fun j _ b => by rw [h j (by omega)])]
def rst (w : Nat → Nat → Nat) (y : Nod) : Nat := ((kdsV (vw y)).map (TN w)).sum
/-- the entries -/
def lyE (R : Nat → Prop) (b0 m : Nat) (A : Nat → Nat) (Y : Nat → Nod) (s : mS) : Prop := ∀ i, i < m → s.2.2.1 58 i = Int32.ofNat (A i) ∧ s.2.2.1 59 i = Int32.ofNat (bs b0 Y i) ∧ LayN (s.2.2.1 47) R (A i) (Y i)
/-- a part has an entry behind q -/
def lyP (b0 m : Nat) (Y : Nat → Nod) (q c : Nat) (y : Nod) : Prop := ∃ i, q < i ∧ i < m ∧ Y i = y ∧ bs b0 Y i = c
/-- the entries before q are done -/
def lyD (b0 m q : Nat) (Y : Nat → Nod) (s : mS) : Prop := ∀ i, i < q → Wy (s.2.2.1 47) (bs b0 Y i) (lyP b0 m Y i) (vw (Y i))
/-- what is still to come has room (d: parts of entry q - 1 that have no entry yet) -/
def lyW (w : Nat → Nat → Nat) (T q m d : Nat) (Y : Nat → Nod) : Prop := sm (fun i => wV w (vw (Y i))) 0 m + (sm (fun i => rst w (Y i)) q (m - q) + d) ≤ T
theorem TN_int {w : Nat → Nat → Nat} {y : Nod} {z : Int32} (h : intV (vw y) = some z) : TN w y = 0 := by
  rw [TN_eq]
  generalize vw y = v at h
  obtain z | r | q | ⟨n, l⟩ := v
  · rfl
  · cases h
  · cases h
  · cases h
theorem kdsV_len {v : Vw} : (kdsV v).length = szV v ∨ kdV v = 1 ∧ (kdsV v).length = 0 := by
  obtain z | r | q | ⟨n, l⟩ := v
  · exact Or.inl rfl
  · exact Or.inr ⟨rfl, rfl⟩
  · exact Or.inl (List.length_map _)
  · exact Or.inl (List.length_map _)
theorem ofs_lt {v : Vw} {j : Nat} (h : j < (kdsV v).length) : ofs v j < wV wn v ∧ (kdsV v).length + 2 ≤ wV wn v := by
  obtain z | r | q | ⟨n, l⟩ := v
  · exact absurd h (Nat.not_lt_zero _)
  · exact absurd h (Nat.not_lt_zero _)
  · have e : (kdsV (vT q)).length = q.length := List.length_map _
    rw [e] at h
    show 2 + j < 2 + q.length ∧ (kdsV (vT q)).length + 2 ≤ 2 + q.length
    rw [e]
    omega
  · have e : (kdsV (vP n l)).length = l.length := List.length_map _
    rw [e] at h
    show 3 + 2 * j < 2 + 2 * l.length ∧ (kdsV (vP n l)).length + 2 ≤ 2 + 2 * l.length
    rw [e]
    omega
theorem ofs_inj {v : Vw} {i j : Nat} (h : ofs v i = ofs v j) : i = j := by
  obtain z | r | q | ⟨n, l⟩ := v
  · have h : 2 + i = 2 + j := h
    omega
  · have h : 2 + i = 2 + j := h
    omega
  · have h : 2 + i = 2 + j := h
    omega
  · have h : 3 + 2 * i = 3 + 2 * j := h
    omega
/-- a THING's own numbers were copied, and those that tell of parts changed -/
theorem Wy.of {h : Nat → Int32} {a b : Nat} {P P' : Nat → Nod → Prop} {v : Vw} (H : Wy h a P v) (hc : ∀ y, y < wV wn v → (∀ j (hj : j < (kdsV v).length), intV (vw (kdsV v)[j]) = none → y ≠ ofs v j) → h (b + y) = h (a + y)) (hp : ∀ j (hj : j < (kdsV v).length), intV (vw (kdsV v)[j]) = none → ∃ c : Nat, Int32.ofNat b + h (b + ofs v j) = Int32.ofNat c ∧ P' c (kdsV v)[j]) : Wy h b P' v := by
  obtain z | r | q | ⟨n, l⟩ := v
  · exact H
  · have hc : ∀ y, y < 2 + r.length → h (b + y) = h (a + y) := fun y hy => hc y hy (fun j hj => absurd hj (Nat.not_lt_zero _))
    obtain ⟨h1, h2, h3⟩ := H
    exact ⟨(hc 0 (by omega)).trans h1, (hc 1 (by omega)).trans h2, fun i hi => by rw [Nat.add_assoc, hc (2 + i) (by omega), ← Nat.add_assoc]; exact h3 i hi⟩
  · have el : (kdsV (vT q)).length = q.length := List.length_map _
    have ek : ∀ j (hj : j < q.length), (kdsV (vT q))[j]'(by rw [el]; exact hj) = nR q[j] := fun j hj => List.getElem_map _
    have hc : ∀ y, y < 2 → h (b + y) = h (a + y) := fun y hy => hc y (by show y < 2 + q.length; omega) (fun j hj _ => by show y ≠ 2 + j; omega)
    obtain ⟨h1, h2, h3⟩ := H
    refine ⟨(hc 0 (by omega)).trans h1, (hc 1 (by omega)).trans h2, fun i hi => ?_⟩
    obtain ⟨c, g1, g2⟩ := hp i (by rw [el]; exact hi) (by rw [ek i hi]; rfl)
    rw [ek i hi] at g2
    exact ⟨c, by rw [Nat.add_assoc]; exact g1, g2⟩
  · have el : (kdsV (vP n l)).length = l.length := List.length_map _
    have ek : ∀ j (hj : j < l.length), (kdsV (vP n l))[j]'(by rw [el]; exact hj) = ⟨n, l[j]⟩ := fun j hj => List.getElem_map _
    have hc : ∀ y, y < 2 + 2 * l.length → (∀ j (hj : j < l.length), intT n l[j] = none → y ≠ 3 + 2 * j) → h (b + y) = h (a + y) := fun y hy hn => hc y hy (fun j hj hz => by
      have hj' : j < l.length := by rw [el] at hj; exact hj
      rw [ek j hj', ← vw_int] at hz
      exact hn j hj' hz)
    obtain ⟨h1, h2, h3⟩ := H
    refine ⟨(hc 0 (by omega) (fun j hj _ => by omega)).trans h1, (hc 1 (by omega) (fun j hj _ => by omega)).trans h2, fun i hi => ⟨fun z hz => ?_, fun hz => ?_⟩⟩
    · rw [show b + 2 + 2 * i = b + (2 + 2 * i) by omega, show b + 3 + 2 * i = b + (3 + 2 * i) by omega, hc (2 + 2 * i) (by omega) (fun j hj _ => by omega), hc (3 + 2 * i) (by omega) (fun j hj hn q => by
        have : i = j := by omega
        subst this
        rw [hz] at hn
        cases hn), ← Nat.add_assoc, ← Nat.add_assoc]
      exact (h3 i hi).1 z hz
    · obtain ⟨c, g1, g2⟩ := hp i (by rw [el]; exact hi) (by rw [ek i hi, ← vw_int]; exact hz)
      rw [ek i hi] at g2
      refine ⟨?_, c, by rw [Nat.add_assoc]; exact g1, g2⟩
      rw [show b + 2 + 2 * i = b + (2 + 2 * i) by omega, hc (2 + 2 * i) (by omega) (fun j hj _ => by omega), ← Nat.add_assoc]
      exact ((h3 i hi).2 hz).1
/-- lay's own arrays, and the slot it writes, may change -/
def lyF (b0 : Nat) (s s' : mS) : Prop := mfr (fun _ => False) (fun _ => False) (fun q => q = 47 ∨ q = 58 ∨ q = 59) (fun _ => False) s s' ∧ ∀ y, ¬ (b0 ≤ y ∧ y < b0 + 2410) → s'.2.2.1 47 y = s.2.2.1 47 y
theorem lyF.tr {b0 : Nat} {s s1 s2 : mS} (h : lyF b0 s s1) (g : lyF b0 s1 s2) : lyF b0 s s2 := ⟨h.1.tr g.1, fun y q => (g.2 y q).trans (h.2 y q)⟩
theorem lyF.rf {b0 : Nat} {s : mS} : lyF b0 s s := ⟨mfr.rf, fun _ _ => rfl⟩
theorem LayN.congr {h h' : Nat → Int32} {R R' : Nat → Prop} {a : Nat} {x : Nod} (hR : ∀ y, R y → R' y) (hh : ∀ y, R y → h' y = h y) (H : LayN h R a x) : LayN h' R' a x := Lay.congr hR hh x.1 H
theorem kid_sum {w : Nat → Nat → Nat} {l : List Nod} {i : Nat} (hi : i < l.length) : ((l.drop i).map (TN w)).sum = TN w l[i] + ((l.drop (i + 1)).map (TN w)).sum := by
  rw [List.drop_eq_getElem_cons hi, List.map_cons, List.sum_cons]
section LB
variable {N : Nat} {R : Nat → Prop} {b0 : Nat} {x6 : Int32} {q : Nat}
/-- an entry more -/
theorem lyW.add {w : Nat → Nat → Nat} {T m d : Nat} {Y : Nat → Nod} {y : Nod} (hq : q ≤ m) (h : lyW w T q m (TN w y + d) Y) : lyW w T q (m + 1) d (fun i => if i = m then y else Y i) := by
  unfold lyW at h ⊢
  have e1 : sm (fun i => wV w (vw (if i = m then y else Y i))) 0 (m + 1) = sm (fun i => wV w (vw (Y i))) 0 m + wV w (vw y) := by
    show sm _ 0 m + wV w (vw (if 0 + m = m then y else Y (0 + m))) = _
    rw [Nat.zero_add, if_pos rfl, sm_congr (g := fun i => wV w (vw (Y i))) (fun i _ b => by
      show wV w (vw (if i = m then y else Y i)) = _
      rw [if_neg (by omega)])]
  have e2 : sm (fun i => rst w (if i = m then y else Y i)) q (m + 1 - q) = sm (fun i => rst w (Y i)) q (m - q) + rst w y := by
    rw [show m + 1 - q = (m - q) + 1 by omega]
    show sm _ q (m - q) + rst w (if q + (m - q) = m then y else Y (q + (m - q))) = _
    rw [if_pos (by omega), sm_congr (g := fun i => rst w (Y i)) (fun i _ b => by
      show rst w (if i = m then y else Y i) = _
      rw [if_neg (by omega)])]
  rw [e1, e2]
  have e3 : TN w y = wV w (vw y) + rst w y := TN_eq w y
  omega
theorem lay_in {T T1 a b : Nat} {v : Vw} (hR : ∀ y, R y → y < 166300 ∧ ¬ (b0 ≤ y ∧ y < b0 + 2410)) (hb0 : b0 + 2410 ≤ 166300) (hT : T ≤ 2410) (hT1 : T1 ≤ 700) : ∀ (d i : Nat) (s : mS) (m : Nat) (A : Nat → Nat) (Y : Nat → Nod), i + d = (kdsV v).length → lyE R b0 m A Y s → q < m → v = vw (Y q) → a = A q → b = bs b0 Y q → (∀ y, y < wV wn v → (∀ j (hj : j < (kdsV v).length), j < i → intV (vw (kdsV v)[j]) = none → y ≠ ofs v j) → s.2.2.1 47 (b + y) = s.2.2.1 47 (a + y)) → (∀ j (hj : j < (kdsV v).length), j < i → intV (vw (kdsV v)[j]) = none → ∃ c : Nat, Int32.ofNat b + s.2.2.1 47 (b + ofs v j) = Int32.ofNat c ∧ lyP b0 m Y q c (kdsV v)[j]) → lyD b0 m q Y s → lyW wn T (q + 1) m (((kdsV v).drop i).map (TN wn)).sum Y → lyW w1 T1 (q + 1) m (((kdsV v).drop i).map (TN w1)).sum Y → ∃ s' m' A' Y', (∀ f, mf_75_L1 N (f + (d + 1)) 1 (Int32.ofNat i) (Int32.ofNat m) (Int32.ofNat (bs b0 Y m)) x6 (Int32.ofNat a) (Int32.ofNat b) 0 s = mf_75_L1 N f 0 0 (Int32.ofNat m') (Int32.ofNat (bs b0 Y' m')) (x6 + 1) 0 0 0 s') ∧ m ≤ m' ∧ (∀ i, i < m → Y' i = Y i) ∧ lyE R b0 m' A' Y' s' ∧ lyD b0 m' (q + 1) Y' s' ∧ lyW wn T (q + 1) m' 0 Y' ∧ lyW w1 T1 (q + 1) m' 0 Y' ∧ lyF b0 s s' := by
  intro d
  induction d with
  | zero =>
    intro i s m A Y hi hE hq hv ha hb hc hp hD hW hW1
    have hi : i = (kdsV v).length := hi
    obtain ⟨-, -, E3⟩ := hE q hq
    rw [← ha] at E3
    obtain ⟨L1, L2⟩ := LayN_iff.mp E3
    rw [← hv] at L1 L2
    obtain ⟨k1, k2, k3⟩ := L2.kd
    have hax : a + wV wn v ≤ 166300 := by
      have := (hR _ (L1 (a + wV wn v - 1) (by omega) (by omega))).1
      omega
    rw [hi, List.drop_length] at hW hW1
    refine ⟨s, m, A, Y, fun f => ?_, Nat.le_refl _, fun _ _ => rfl, hE, ?_, hW, hW1, lyF.rf⟩
    · have : i < 166300 := by
        by_cases z : 0 < (kdsV v).length
        · have := (ofs_lt (v := v) z).2
          omega
        · omega
      rcases kdsV_len (v := v) with e | ⟨e, e'⟩
      · exact lay_out L2 hax (Or.inl (by omega)) this
      · exact lay_out L2 hax (Or.inr e) this
    · intro i' hi'
      by_cases e : i' = q
      · subst e
        rw [← hv, ← hb]
        exact L2.of (fun y hy hn => hc y hy (fun j hj _ hz => hn j hj hz)) (fun j hj hz => hp j hj (by omega) hz)
      · exact hD i' (by omega)
  | succ d ih =>
    intro i s m A Y hi hE hq hv ha hb hc hp hD hW hW1
    obtain ⟨-, -, E3⟩ := hE q hq
    rw [← ha] at E3
    obtain ⟨L1, L2⟩ := LayN_iff.mp E3
    rw [← hv] at L1 L2
    obtain ⟨k1, k2, k3⟩ := L2.kd
    have hax : a + wV wn v ≤ 166300 := by
      have := (hR _ (L1 (a + wV wn v - 1) (by omega) (by omega))).1
      omega
    have hil : i < (kdsV v).length := by omega
    rw [kid_sum hil] at hW hW1
    have hbm : b + wV wn v ≤ bs b0 Y m := by
      have := bs_le (b0 := b0) (Y := Y) (i := q + 1) (j := m) (by omega)
      rw [bs_s, ← hv, ← hb] at this
      exact this
    have hbT : bs b0 Y m ≤ b0 + 2410 := by
      unfold lyW at hW
      unfold bs
      omega
    have hb0b : b0 ≤ b := by rw [hb]; exact Nat.le_add_right _ _
    cases hz : intV (vw (kdsV v)[i]) with
    | some z =>
      rw [TN_int hz, Nat.zero_add] at hW hW1
      obtain ⟨s', m', A', Y', g1, g2⟩ := ih (i + 1) s m A Y (by omega) hE hq hv ha hb (fun y hy hn => hc y hy (fun j hj hji => hn j hj (by omega))) (fun j hj hji hjz => by
        by_cases e : j = i
        · subst e
          rw [hz] at hjz
          cases hjz
        · exact hp j hj (by omega) hjz) hD hW hW1
      refine ⟨s', m', A', Y', fun f => ?_, g2⟩
      rw [← g1 f]
      obtain z' | r | q' | ⟨n, l⟩ := v
      · exact L2.elim
      · exact absurd hil (Nat.not_lt_zero _)
      · exfalso
        have ek : (kdsV (vT q'))[i] = nR (q'[i]'(by rw [show (kdsV (vT q')).length = q'.length from List.length_map _] at hil; exact hil)) := List.getElem_map _
        rw [ek] at hz
        cases hz
      · have hil' : i < l.length := by rw [show (kdsV (vP n l)).length = l.length from List.length_map _] at hil; exact hil
        have ek : (kdsV (vP n l))[i] = ⟨n, l[i]⟩ := List.getElem_map _
        rw [ek, ← vw_int] at hz
        exact lay_skip L2 hax hil' hz
    | none =>
      have hm7 : m < 700 := by
        unfold lyW at hW1
        have e1 : ∀ m, (∀ i, i < m → wV w1 (vw (Y i)) = 1) → sm (fun i => wV w1 (vw (Y i))) 0 m = m := fun m => by
          induction m with
          | zero => exact fun _ => rfl
          | succ m ihm =>
            intro hh
            show sm _ 0 m + wV w1 (vw (Y (0 + m))) = m + 1
            rw [ihm (fun i hi => hh i (by omega)), Nat.zero_add, hh m (by omega)]
        have e2 : ∀ i, i < m → wV w1 (vw (Y i)) = 1 := fun i hi => by
          have := (LayN_iff.mp (hE i hi).2.2).2
          generalize vw (Y i) = u at this
          obtain z' | r | q' | l := u
          · exact this.elim
          · rfl
          · rfl
          · rfl
        rw [e1 m e2] at hW1
        have e3 : 1 ≤ TN w1 (kdsV v)[i] := by
          rw [TN_eq]
          generalize vw (kdsV v)[i] = u at hz
          obtain z' | r | q' | l := u
          · cases hz
          · exact Nat.le_add_right _ _
          · exact Nat.le_add_right _ _
          · exact Nat.le_add_right _ _
        omega
      obtain ⟨ho1, ho2⟩ := ofs_lt (v := v) hil
      obtain ⟨c, c1, c2⟩ := lay_part (N := N) (x6 := x6) (e := bs b0 Y m) L2 hax (b := b) (by omega) hm7 hil hz
      obtain ⟨s1, hs1⟩ : ∃ s1, s1 = layS s m c (bs b0 Y m) b (ofs v i) := ⟨_, rfl⟩
      have f47 : s1.2.2.1 47 = upd (s.2.2.1 47) (b + ofs v i) (Int32.ofNat (bs b0 Y m) - Int32.ofNat b) := by rw [hs1]; rfl
      have f58 : s1.2.2.1 58 = upd (s.2.2.1 58) m (Int32.ofNat c) := by rw [hs1]; rfl
      have f59 : s1.2.2.1 59 = upd (s.2.2.1 59) m (Int32.ofNat (bs b0 Y m)) := by rw [hs1]; rfl
      have hup : ∀ y, y ≠ b + ofs v i → s1.2.2.1 47 y = s.2.2.1 47 y := fun y hy => by
        rw [f47]
        exact if_neg hy
      have hsR : ∀ y, R y → s1.2.2.1 47 y = s.2.2.1 47 y := fun y hy => hup y (fun e => (hR y hy).2 ⟨by omega, by omega⟩)
      have hkid : LayN (s1.2.2.1 47) R c (kdsV v)[i] := c1.congr (fun _ z => z) hsR
      obtain ⟨K1, K2⟩ := LayN_iff.mp hkid
      obtain ⟨-, -, K3⟩ := K2.kd
      have hkx : c + wV wn (vw (kdsV v)[i]) ≤ 166300 := by
        have := (hR _ (K1 (c + wV wn (vw (kdsV v)[i]) - 1) (by omega) (by omega))).1
        omega
      have hY : ∀ j, j < m → (fun i' => if i' = m then (kdsV v)[i] else Y i') j = Y j := fun j hj => if_neg (by omega)
      have hYm : (fun i' => if i' = m then (kdsV v)[i] else Y i') m = (kdsV v)[i] := if_pos rfl
      have hbs : ∀ j, j ≤ m → bs b0 (fun i' => if i' = m then (kdsV v)[i] else Y i') j = bs b0 Y j := fun j hj => bs_congr (fun i' hi' => hY i' (by omega))
      have hPm : ∀ q' c' y, lyP b0 m Y q' c' y → lyP b0 (m + 1) (fun i' => if i' = m then (kdsV v)[i] else Y i') q' c' y := fun q' c' y ⟨i', p1, p2, p3, p4⟩ => ⟨i', p1, by omega, (hY i' p2).trans p3, (hbs i' (by omega)).trans p4⟩
      have hdiff : Int32.ofNat b + (Int32.ofNat (bs b0 Y m) - Int32.ofNat b) = Int32.ofNat (bs b0 Y m) := by
        rw [Int32.add_comm]
        exact Int32.sub_add_cancel _ _
      obtain ⟨s', m', A', Y', g1, g2, g3, g4, g5, g6, g7, g8⟩ := ih (i + 1) s1 (m + 1) (fun i' => if i' = m then c else A i') (fun i' => if i' = m then (kdsV v)[i] else Y i') (by omega) (fun j hj => by
        by_cases e : j = m
        · subst e
          refine ⟨?_, ?_, ?_⟩
          · show _ = Int32.ofNat (if j = j then c else A j)
            rw [f58, if_pos rfl]
            exact if_pos rfl
          · rw [f59, hbs j (Nat.le_refl _)]
            exact if_pos rfl
          · show LayN _ R (if j = j then c else A j) (if j = j then (kdsV v)[i] else Y j)
            rw [if_pos rfl, if_pos rfl]
            exact hkid
        · obtain ⟨E1, E2, E3⟩ := hE j (by omega)
          refine ⟨?_, ?_, ?_⟩
          · show _ = Int32.ofNat (if j = m then c else A j)
            rw [f58, if_neg e]
            exact (if_neg e).trans E1
          · rw [f59, hbs j (by omega)]
            exact (if_neg e).trans E2
          · show LayN _ R (if j = m then c else A j) (if j = m then (kdsV v)[i] else Y j)
            rw [if_neg e, if_neg e]
            exact E3.congr (fun _ z => z) hsR) (by omega) (by show v = vw (if q = m then _ else Y q); rw [if_neg (by omega)]; exact hv) (by show a = if q = m then c else A q; rw [if_neg (by omega)]; exact ha) (by rw [hbs q (by omega)]; exact hb) (fun y hy hn => by
        have n1 : y ≠ ofs v i := hn i hil (by omega) hz
        rw [hup _ (by omega), hsR _ (L1 _ (by omega) (by omega))]
        exact hc y hy (fun j hj hji => hn j hj (by omega))) (fun j hj hji hjz => by
        by_cases e : j = i
        · subst e
          exact ⟨bs b0 Y m, by rw [f47]; show _ + (if _ = _ then _ else _) = _; rw [if_pos rfl]; exact hdiff, m, hq, by omega, hYm, hbs m (Nat.le_refl _)⟩
        · obtain ⟨c', p1, p2⟩ := hp j hj (by omega) hjz
          exact ⟨c', by rw [hup _ (fun z => e (ofs_inj (v := v) (by omega)))]; exact p1, hPm _ _ _ p2⟩) (fun i' hi' => by
        rw [hY i' (by omega), hbs i' (by omega)]
        refine (hD i' hi').congr (fun y y1 y2 => hup y (fun e => ?_)) (hPm i')
        have := bs_le (b0 := b0) (Y := Y) (i := i' + 1) (j := q) (by omega)
        rw [bs_s, ← hb] at this
        omega) (hW.add (by omega)) (hW1.add (by omega))
      refine ⟨s', m', A', Y', fun f => ?_, by omega, fun j hj => (g3 j (by omega)).trans (hY j hj), g4, g5, g6, g7, lyF.tr ⟨⟨fun _ _ => by rw [hs1]; rfl, fun _ _ => by rw [hs1]; rfl, fun k hk => ?_, fun _ _ => by rw [hs1]; rfl⟩, fun y hy => hup y (fun e => hy ⟨by omega, by omega⟩)⟩ g8⟩
      · rw [← g1 f, bs_s, hbs m (Nat.le_refl _), if_pos rfl, hs1]
        exact c2 (f + (d + 1)) _ (fun N' => by
          rw [← hs1]
          exact r_nums K2 hkx)
      · rw [hs1]
        show (if k = 47 then _ else if k = 59 then _ else if k = 58 then _ else _) = _
        rw [if_neg (fun z => hk (Or.inl z)), if_neg (fun z => hk (Or.inr (Or.inr z))), if_neg (fun z => hk (Or.inr (Or.inl z)))]
/-- from entry q on to the end -/
theorem lay_all {T T1 : Nat} (hR : ∀ y, R y → y < 166300 ∧ ¬ (b0 ≤ y ∧ y < b0 + 2410)) (hb0 : b0 + 2410 ≤ 166300) (hT : T ≤ 2410) (hT1 : T1 ≤ 700) : ∀ (d q : Nat) (s : mS) (m : Nat) (A : Nat → Nat) (Y : Nat → Nod), T1 ≤ q + d → q ≤ m → lyE R b0 m A Y s → lyD b0 m q Y s → lyW wn T q m 0 Y → lyW w1 T1 q m 0 Y → ∃ c s' m' Y', c + 3 * (bs b0 Y q - b0) ≤ 3 * T + 1 ∧ (∀ f, mf_75_L1 N (f + c) 0 0 (Int32.ofNat m) (Int32.ofNat (bs b0 Y m)) (Int32.ofNat q) 0 0 0 s = some (s', none)) ∧ m ≤ m' ∧ (∀ i, i < m → Y' i = Y i) ∧ lyD b0 m' m' Y' s' ∧ bs b0 Y' m' ≤ b0 + T ∧ lyF b0 s s' := by
  intro d
  induction d with
  | zero =>
    intro q s m A Y hd hq hE hD hW hW1
    have hm : m ≤ T1 := by
      unfold lyW at hW1
      have e1 : ∀ m, (∀ i, i < m → wV w1 (vw (Y i)) = 1) → sm (fun i => wV w1 (vw (Y i))) 0 m = m := fun m => by
        induction m with
        | zero => exact fun _ => rfl
        | succ m ihm =>
          intro hh
          show sm _ 0 m + wV w1 (vw (Y (0 + m))) = m + 1
          rw [ihm (fun i hi => hh i (by omega)), Nat.zero_add, hh m (by omega)]
      have e2 : ∀ i, i < m → wV w1 (vw (Y i)) = 1 := fun i hi => by
        have := (LayN_iff.mp (hE i hi).2.2).2
        generalize vw (Y i) = u at this
        obtain z' | r | q' | l := u
        · exact this.elim
        · rfl
        · rfl
        · rfl
      rw [e1 m e2] at hW1
      omega
    have hqm : q = m := by omega
    subst hqm
    have hbT : bs b0 Y q ≤ b0 + T := by
      unfold lyW at hW
      unfold bs
      omega
    refine ⟨1, s, q, Y, by omega, fun f => ?_, Nat.le_refl _, fun _ _ => rfl, hD, hbT, lyF.rf⟩
    show mf_75_63 N (mf_75_L1 N f) (Int32.ofNat q) (Int32.ofNat (bs b0 Y q)) (Int32.ofNat q) s = _
    unfold mf_75_63
    rw [if_pos ((i32le (by omega) (by omega)).mpr (Nat.le_refl _))]
    rfl
  | succ d ih =>
    intro q s m A Y hd hq hE hD hW hW1
    have hm : m ≤ T1 := by
      unfold lyW at hW1
      have e1 : ∀ m, (∀ i, i < m → wV w1 (vw (Y i)) = 1) → sm (fun i => wV w1 (vw (Y i))) 0 m = m := fun m => by
        induction m with
        | zero => exact fun _ => rfl
        | succ m ihm =>
          intro hh
          show sm _ 0 m + wV w1 (vw (Y (0 + m))) = m + 1
          rw [ihm (fun i hi => hh i (by omega)), Nat.zero_add, hh m (by omega)]
      have e2 : ∀ i, i < m → wV w1 (vw (Y i)) = 1 := fun i hi => by
        have := (LayN_iff.mp (hE i hi).2.2).2
        generalize vw (Y i) = u at this
        obtain z' | r | q' | l := u
        · exact this.elim
        · rfl
        · rfl
        · rfl
      rw [e1 m e2] at hW1
      omega
    have hbT : bs b0 Y m ≤ b0 + T := by
      unfold lyW at hW
      unfold bs
      omega
    have hbq := bs_le (b0 := b0) (Y := Y) hq
    by_cases hqm : q = m
    · subst hqm
      refine ⟨1, s, q, Y, by omega, fun f => ?_, Nat.le_refl _, fun _ _ => rfl, hD, hbT, lyF.rf⟩
      show mf_75_63 N (mf_75_L1 N f) (Int32.ofNat q) (Int32.ofNat (bs b0 Y q)) (Int32.ofNat q) s = _
      unfold mf_75_63
      rw [if_pos ((i32le (by omega) (by omega)).mpr (Nat.le_refl _))]
      rfl
    · obtain ⟨E1, E2, E3⟩ := hE q (by omega)
      obtain ⟨L1, L2⟩ := LayN_iff.mp E3
      obtain ⟨k1, k2, k3⟩ := L2.kd
      have hax : A q + wV wn (vw (Y q)) ≤ 166300 := by
        have := (hR _ (L1 (A q + wV wn (vw (Y q)) - 1) (by omega) (by omega))).1
        omega
      have hb1 := bs_le (b0 := b0) (Y := Y) (i := q + 1) (j := m) (by omega)
      rw [bs_s] at hb1
      have hb0b : b0 ≤ bs b0 Y q := Nat.le_add_right _ _
      obtain ⟨s1, hs1⟩ : ∃ s1, s1 = mA s 47 (cpz (s.2.2.1 47) (A q) (bs b0 Y q) 0 (wV wn (vw (Y q)))) := ⟨_, rfl⟩
      have f47 : s1.2.2.1 47 = cpz (s.2.2.1 47) (A q) (bs b0 Y q) 0 (wV wn (vw (Y q))) := by rw [hs1]; rfl
      have fo : ∀ k, k ≠ 47 → s1.2.2.1 k = s.2.2.1 k := fun k hk => by rw [hs1]; exact if_neg hk
      have hup : ∀ y, ¬ (bs b0 Y q ≤ y ∧ y < bs b0 Y q + wV wn (vw (Y q))) → s1.2.2.1 47 y = s.2.2.1 47 y := fun y hy => by
        rw [f47]
        exact if_neg hy
      have hsR : ∀ y, R y → s1.2.2.1 47 y = s.2.2.1 47 y := fun y hy => hup y (fun e => (hR y hy).2 ⟨by omega, by omega⟩)
      have hdis : A q + wV wn (vw (Y q)) ≤ bs b0 Y q ∨ bs b0 Y q + wV wn (vw (Y q)) ≤ A q := by
        by_cases c1 : A q ≤ bs b0 Y q
        · by_cases c2 : bs b0 Y q < A q + wV wn (vw (Y q))
          · exact absurd ⟨by omega, by omega⟩ (hR _ (L1 (bs b0 Y q) c1 c2)).2
          · exact Or.inl (by omega)
        · by_cases c2 : A q < bs b0 Y q + wV wn (vw (Y q))
          · exact absurd ⟨by omega, by omega⟩ (hR _ (L1 (A q) (Nat.le_refl _) (by omega))).2
          · exact Or.inr (by omega)
      have hsplit : ∀ w T', lyW w T' q m 0 Y → lyW w T' (q + 1) m (((kdsV (vw (Y q))).drop 0).map (TN w)).sum Y := fun w T' h => by
        unfold lyW at h ⊢
        rw [show m - q = (m - (q + 1)) + 1 by omega, sm_hd] at h
        have e : rst w (Y q) = (((kdsV (vw (Y q))).drop 0).map (TN w)).sum := by rw [List.drop_zero]; rfl
        rw [← e]
        have h : sm (fun i => wV w (vw (Y i))) 0 m + (rst w (Y q) + sm (fun i => rst w (Y i)) (q + 1) (m - (q + 1)) + 0) ≤ T' := h
        omega
      obtain ⟨s2, m2, A2, Y2, g1, g2, g3, g4, g5, g6, g7, g8⟩ := lay_in (N := N) (R := R) (b0 := b0) (x6 := Int32.ofNat q) (q := q) (a := A q) (b := bs b0 Y q) (v := vw (Y q)) hR hb0 hT hT1 (kdsV (vw (Y q))).length 0 s1 m A Y (Nat.zero_add _) (fun j hj => by
        obtain ⟨F1, F2, F3⟩ := hE j hj
        exact ⟨by rw [fo 58 (by decide)]; exact F1, by rw [fo 59 (by decide)]; exact F2, F3.congr (fun _ z => z) hsR⟩) (by omega) rfl rfl rfl (fun y hy _ => by
        rw [hsR (A q + y) (L1 (A q + y) (by omega) (by omega)), f47]
        unfold cpz
        rw [if_pos (show bs b0 Y q + 0 ≤ bs b0 Y q + y ∧ bs b0 Y q + y < bs b0 Y q + wV wn (vw (Y q)) from ⟨by omega, by omega⟩), show A q + (bs b0 Y q + y - bs b0 Y q) = A q + y by omega]) (fun j hj hji => absurd hji (Nat.not_lt_zero _)) (fun i' hi' => (hD i' hi').congr (fun y y1 y2 => hup y (fun e => by
          have := bs_le (b0 := b0) (Y := Y) (i := i' + 1) (j := q) (by omega)
          rw [bs_s] at this
          omega)) (fun _ _ z => z)) (hsplit _ _ hW) (hsplit _ _ hW1)
      have hY2 : bs b0 Y2 (q + 1) = bs b0 Y q + wV wn (vw (Y q)) := by
        rw [bs_congr (Y := Y) (fun j hj => g3 j (by omega)), bs_s]
      obtain ⟨c, s3, m3, Y3, r1, r2, r3, r4, r5, r6, r7⟩ := ih (q + 1) s2 m2 A2 Y2 (by omega) (by omega) g4 g5 g6 g7
      have hk2 : (kdsV (vw (Y q))).length ≤ wV wn (vw (Y q)) := by
        by_cases z : 0 < (kdsV (vw (Y q))).length
        · have := (ofs_lt (v := vw (Y q)) z).2
          omega
        · omega
      have hk3 : (kdsV (vw (Y q))).length + 2 ≤ wV wn (vw (Y q)) := by
        by_cases z : 0 < (kdsV (vw (Y q))).length
        · exact (ofs_lt (v := vw (Y q)) z).2
        · omega
      refine ⟨c + ((kdsV (vw (Y q))).length + 1) + (wV wn (vw (Y q)) + 1) + 1, s3, m3, Y3, ?_, fun f => ?_, by omega, fun i hi => (r4 i (by omega)).trans (g3 i hi), r5, r6, lyF.tr ⟨⟨fun _ _ => by rw [hs1]; rfl, fun _ _ => by rw [hs1]; rfl, fun k hk => fo k (fun z => hk (Or.inl z)), fun _ _ => by rw [hs1]; rfl⟩, fun y hy => hup y (fun e => hy ⟨by omega, by omega⟩)⟩ (g8.tr r7)⟩
      · rw [hY2] at r1
        omega
      · show mf_75_63 N (mf_75_L1 N (f + (c + ((kdsV (vw (Y q))).length + 1) + (wV wn (vw (Y q)) + 1)))) (Int32.ofNat m) (Int32.ofNat (bs b0 Y m)) (Int32.ofNat q) s = _
        unfold mf_75_63
        rw [if_neg (fun z => by have := (i32le (by omega) (by omega)).mp z; omega)]
        unfold mf_75_70
        rw [if_pos (gd rfl (by omega) (by decide)), if_pos (gd rfl (by omega) (by decide)), i32c (m := q) (by omega), E1, E2, r_nums L2 hax]
        have e1 := lay_copy (N := N) (x4 := Int32.ofNat m) (x5 := Int32.ofNat (bs b0 Y m)) (x6 := Int32.ofNat q) (f := f + (c + ((kdsV (vw (Y q))).length + 1))) hax (b := bs b0 Y q) (by omega) hdis (wV wn (vw (Y q))) 0 s (Nat.zero_add _)
        have e2 := g1 (f + c)
        have e3 := r2 f
        rw [show Int32.ofNat q + 1 = Int32.ofNat (q + 1) from i32al] at e2
        rw [← hs1, show f + (c + ((kdsV (vw (Y q))).length + 1)) = f + c + ((kdsV (vw (Y q))).length + 1) by omega] at e1
        have e4 := e1.trans (e2.trans e3)
        rw [show f + c + ((kdsV (vw (Y q))).length + 1) + (wV wn (vw (Y q)) + 1) = f + (c + ((kdsV (vw (Y q))).length + 1) + (wV wn (vw (Y q)) + 1)) by omega] at e4
        exact e4
/-- what is all done lies there -/
theorem lay_end {m T : Nat} {Y : Nat → Nod} {s : mS} (hD : lyD b0 m m Y s) (hb : bs b0 Y m ≤ b0 + T) (hT : T ≤ 2410) : ∀ (k i : Nat), m ≤ i + k → i < m → LayN (s.2.2.1 47) (fun y => b0 ≤ y ∧ y < b0 + 2410) (bs b0 Y i) (Y i) := by
  intro k
  induction k with
  | zero =>
    intro i h1 h2
    omega
  | succ k ih =>
    intro i h1 h2
    refine LayN_iff.mpr ⟨fun y y1 y2 => ?_, (hD i h2).congr (fun _ _ _ => rfl) (fun c y ⟨i', p1, p2, p3, p4⟩ => ?_)⟩
    · have := bs_le (b0 := b0) (Y := Y) (i := i + 1) (j := m) (by omega)
      rw [bs_s] at this
      have : b0 ≤ bs b0 Y i := Nat.le_add_right _ _
      exact ⟨by omega, by omega⟩
    · rw [← p3, ← p4]
      exact ih i' (by omega) p2
/-- lay, of what is no INT -/
theorem r_lay {x : Nod} {a : Nat} {s : mS} (hN : 8000 ≤ N) (hR : ∀ y, R y → y < 166300 ∧ ¬ (b0 ≤ y ∧ y < b0 + 2410)) (hb0 : b0 + 2410 ≤ 166300) (hx : bulk x.1 x.2 ≤ 600) (H : LayN (s.2.2.1 47) R a x) : ∃ s', mf_75 N 1 (Int32.ofNat a) (Int32.ofNat b0) s = some (s', none) ∧ LayN (s'.2.2.1 47) (fun y => b0 ≤ y ∧ y < b0 + 2410) b0 x ∧ lyF b0 s s' := by
  have hT := TT_wn x.1 x.2
  have hT1 := TT_w1 x.1 x.2
  obtain ⟨L1, L2⟩ := LayN_iff.mp H
  obtain ⟨k1, k2, k3⟩ := L2.kd
  have hax : a + wV wn (vw x) ≤ 166300 := by
    have := (hR _ (L1 (a + wV wn (vw x) - 1) (by omega) (by omega))).1
    omega
  obtain ⟨s1, hs1⟩ : ∃ s1, s1 = mA (mA s 58 (upd (s.2.2.1 58) 0 (Int32.ofNat a))) 59 (upd (s.2.2.1 59) 0 (Int32.ofNat b0)) := ⟨_, rfl⟩
  have f47 : s1.2.2.1 47 = s.2.2.1 47 := by rw [hs1]; rfl
  have hW : ∀ w, lyW w (TN w x) 0 1 0 (fun _ => x) := fun w => by
    unfold lyW
    show 0 + wV w (vw x) + (0 + rst w x + 0) ≤ _
    rw [TN_eq]
    show _ ≤ wV w (vw x) + rst w x
    omega
  obtain ⟨c, s', m', Y', r1, r2, r3, r4, r5, r6, r7⟩ := lay_all (N := N) (R := R) (b0 := b0) (T := TN wn x) (T1 := TN w1 x) hR hb0 (by show TT wn x.1 x.2 ≤ _; omega) (by show TT w1 x.1 x.2 ≤ _; omega) (TN w1 x) 0 s1 1 (fun _ => a) (fun _ => x) (by omega) (by omega) (fun i hi => by
    have : i = 0 := by omega
    subst this
    refine ⟨?_, ?_, by rw [f47]; exact H⟩
    · rw [hs1]
      rfl
    · rw [hs1]
      rfl) (fun i hi => absurd hi (Nat.not_lt_zero _)) (hW wn) (hW w1)
  refine ⟨s', ?_, ?_, lyF.tr ⟨⟨fun _ _ => by rw [hs1]; rfl, fun _ _ => by rw [hs1]; rfl, fun k hk => ?_, fun _ _ => by rw [hs1]; rfl⟩, fun y hy => by rw [f47]⟩ r7⟩
  · unfold mf_75 mf_75_0
    rw [if_pos (by decide)]
    unfold mf_75_13
    rw [if_pos (by decide)]
    unfold mf_75_34
    rw [r_nums L2 hax]
    show mf_75_43 N (Int32.ofNat a) (Int32.ofNat b0) 1 (Int32.ofNat b0) (Int32.ofNat (wV wn (vw x))) s = _
    unfold mf_75_43
    rw [if_pos (show ¬ ((0 : Int32) < 0 ∨ 700 ≤ Int32.toNatClampNeg (0 : Int32)) by decide), if_pos (show ¬ ((0 : Int32) < 0 ∨ 700 ≤ Int32.toNatClampNeg (0 : Int32)) by decide), i32add]
    have hc : c ≤ 8000 := by
      have : TN wn x ≤ 2400 := by show TT wn x.1 x.2 ≤ _; omega
      omega
    have e := r2 (N - c)
    rw [show N - c + c = N by omega] at e
    rw [show b0 + wV wn (vw x) = bs b0 (fun _ => x) 1 from (by rw [bs_s]; rfl)]
    show mf_75_L1 N N 0 0 (Int32.ofNat 1) _ (Int32.ofNat 0) 0 0 0 (mA (mA s 58 (upd (s.2.2.1 58) 0 (Int32.ofNat a))) 59 (upd (s.2.2.1 59) 0 (Int32.ofNat b0))) = _
    rw [← hs1]
    exact e
  · have e := lay_end r5 r6 (by show TT wn x.1 x.2 ≤ _; omega) m' 0 (by omega) (by omega)
    rw [r4 0 (by omega)] at e
    exact e
  · rw [hs1]
    show (if k = 59 then _ else if k = 58 then _ else _) = _
    rw [if_neg (fun z => hk (Or.inr (Or.inr z))), if_neg (fun z => hk (Or.inr (Or.inl z)))]
end LB
end
-- ### 54.pmark.lean.txt
section
/-! ===== PURE: copy, mark, back ===== -/
section PM
variable {N : Nat} {X : Nat → Option zz_C} {t t' : cS} {s s' : mS} {σ σ1 σ' σ0 k j i : Nat} {μ : Nat → Nat} {S : Nat → Option (Th 4)} {ξ : List Int32}
theorem fSh.o0 (f : fSh σ j t t') (hj : j < 8) (hn : σ' ≠ σ) (q : cS0 t σ') : cS0 t' σ' := by
  obtain ⟨⟨f1, f2, f3, f4, f5, f6, f7, f8⟩, g1, g2⟩ := f
  exact ⟨by rw [f7]; exact q.1, by rw [f4 _ (by omega) (by omega)]; exact q.2.1, fun i hi => by rw [f4 _ (by omega) (by omega)]; exact q.2.2 i hi⟩
theorem fSh.o1 (f : fSh σ j t t') (hj : j < 8) (hn : σ' ≠ σ) (hi : i < 8) (q : cS1 t σ' i ξ) : cS1 t' σ' i ξ := by
  obtain ⟨⟨f1, f2, f3, f4, f5, f6, f7, f8⟩, g1, g2⟩ := f
  exact ⟨by rw [f4 _ (by omega) (by omega)]; exact q.1, by rw [f4 _ (by omega) (by omega)]; exact q.2.1, fun y hy => by rw [f4 _ (by omega) (by omega)]; exact q.2.2 y hy⟩
theorem fSh.i1 (f : fSh σ j t t') (hj : j < 8) (hn : i ≠ j) (hi : i < 8) (q : cS1 t σ i ξ) : cS1 t' σ i ξ := by
  obtain ⟨⟨f1, f2, f3, f4, f5, f6, f7, f8⟩, g1, g2⟩ := f
  exact ⟨by rw [g1 i hn]; exact q.1, by rw [f4 _ (by omega) (by omega)]; exact q.2.1, fun y hy => by rw [f4 _ (by omega) (by omega)]; exact q.2.2 y hy⟩
/-- one shelf is copied, its row being long enough -/
theorem c_cp38 (h0 : cS0 t σ0) (h1 : cS0 t σ1) (hne : σ0 ≠ σ1) (hj : j < 8) (hs : cS1 t σ0 j ξ) (hl : ξ.length ≤ 1200) (hr : ξ.length ≤ (kA t (2000000 + 20 * σ1 + 1 + 1 + j)).1) : ∃ t', (∀ rc, cf_29_38 N X rc σ1 σ0 (Int32.ofNat j) t = rc 0 σ1 σ0 (Int32.ofNat (j + 1)) t') ∧ cS0 t' σ1 ∧ cS1 t' σ1 j ξ ∧ fSh σ1 j t t' ∧ kN t' = kN t ∧ kQ t' = kQ t ∧ (kA t' (2000000 + 20 * σ1 + 1 + 1 + j)).1 = (kA t (2000000 + 20 * σ1 + 1 + 1 + j)).1 := by
  obtain ⟨g1, g2, g3⟩ := h0
  obtain ⟨k1, k2, k3⟩ := h1
  obtain ⟨s1, s2, s3⟩ := hs
  have e0 : Int32.toNatClampNeg (0 : Int32) = 0 := rfl
  have ej : ¬ (Int32.ofNat j < 0 ∨ 8 ≤ j) := fun q => q.elim (i32n (by omega)) (by omega)
  have eL : ∀ g, kA (jA t (2000000 + 20 * σ1 + 1 + 1 + j) g) (2000000 + 20 * σ1 + 10) = kA t (2000000 + 20 * σ1 + 10) := fun g => if_neg (by omega)
  have eL0 : ∀ g, kA (jA t (2000000 + 20 * σ1 + 1 + 1 + j) g) (2000000 + 20 * σ0 + 10) = kA t (2000000 + 20 * σ0 + 10) := fun g => if_neg (by omega)
  generalize hg : va_cpy (kA t (2000000 + 20 * σ0 + 1 + 1 + j)).2 (kA t (2000000 + 20 * σ1 + 1 + 1 + j)).2 0 0 ξ.length = g
  have eg : ∀ i, (hi : i < ξ.length) → g i = ξ[i] := fun i hi => by
    rw [← hg]
    show (if _ then _ else _) = _
    rw [if_pos ⟨Nat.zero_le _, by omega⟩, Nat.sub_zero, Nat.zero_add]
    exact s3 i hi
  refine ⟨jA (jA t (2000000 + 20 * σ1 + 1 + 1 + j) g) (2000000 + 20 * σ1 + 10) (upd (kA t (2000000 + 20 * σ1 + 10)).2 j (Int32.ofNat ξ.length)), fun rc => ?_, ⟨k1, ?_, fun i hi => ?_⟩, ⟨?_, ?_, fun i hi => ?_⟩, ⟨⟨fun _ _ _ => rfl, rfl, rfl, fun k q r => ?_, fun _ _ _ => rfl, rfl, rfl, Nat.le_refl _⟩, fun i hi => ?_, ?_⟩, rfl, rfl, ?_⟩
  · unfold cf_29_38
    rw [if_pos g1, i32c (m := j) (by omega), if_pos ej, if_pos k1, if_pos (fun q => q.elim (i32n (by omega)) (by omega)), s1, e0, i32c (m := ξ.length) (by omega), if_pos ⟨by decide, by decide, i32n (by omega), by omega, by omega⟩, hg, eL, eL0, if_pos (fun q => q.elim (i32n (by omega)) (by omega)), if_pos (fun q => q.elim (i32n (by omega)) (by omega)), s1, show Int32.ofNat j + 1 = Int32.ofNat (j + 1) from i32al]
  · rw [kA_jA, if_pos rfl, eL]
    exact k2
  · rw [kA_jA, if_neg (by omega), kA_jA]
    by_cases e : i = j
    · subst e
      rw [if_pos rfl]
      exact k3 i hi
    · rw [if_neg (by omega)]
      exact k3 i hi
  · rw [kA_jA, if_pos rfl]
    show upd _ j _ j = _
    unfold upd
    rw [if_pos rfl]
  · rw [kA_jA, if_neg (by omega), kA_jA, if_pos rfl]
    exact hr
  · rw [kA_jA, if_neg (by omega), kA_jA, if_pos rfl]
    exact eg i hi
  · rw [kA_jA, if_neg (fun z => q (Or.inr z)), kA_jA, if_neg (fun z => q (Or.inl z))]
  · rw [kA_jA, if_pos rfl]
    show upd _ j _ i = _
    unfold upd
    rw [if_neg hi]
  · rw [kA_jA, if_pos rfl, eL]
  · rw [kA_jA, if_neg (by omega), kA_jA, if_pos rfl]
theorem c_cp1 (h0 : cS0 t σ0) (h1 : cS0 t σ1) (hne : σ0 ≠ σ1) (hj : j < 8) (hs : cS1 t σ0 j ξ) (hl : ξ.length ≤ 1200) (hN : kN t + 1 < zz_out) : ∃ t', (∀ rc, cf_29_8 N X rc σ1 σ0 (Int32.ofNat j) t = rc 0 σ1 σ0 (Int32.ofNat (j + 1)) t') ∧ cS0 t' σ1 ∧ cS1 t' σ1 j ξ ∧ fSh σ1 j t t' ∧ kN t' ≤ kN t + 1 ∧ kQ t' ≤ kQ t + 1200 ∧ (kA t (2000000 + 20 * σ1 + 1 + 1 + j)).1 ≤ (kA t' (2000000 + 20 * σ1 + 1 + 1 + j)).1 := by
  have ej : ¬ (Int32.ofNat j < 0 ∨ 8 ≤ j) := fun q => q.elim (i32n (by omega)) (by omega)
  have h0' := h0
  have h1' := h1
  have hs' := hs
  obtain ⟨g1, g2, g3⟩ := h0'
  obtain ⟨k1, k2, k3⟩ := h1'
  obtain ⟨s1, s2, s3⟩ := hs'
  have k3j := k3 j hj
  have e8 : ∀ rc, cf_29_8 N X rc σ1 σ0 (Int32.ofNat j) t = if Int32.ofNat ξ.length ≤ Int32.ofNat (kA t (2000000 + 20 * σ1 + 1 + 1 + j)).1 then cf_29_38 N X rc σ1 σ0 (Int32.ofNat j) t else cf_29_24 N X rc σ1 σ0 (Int32.ofNat j) t := fun rc => by
    unfold cf_29_8
    rw [if_pos k1, i32c (m := j) (by omega), if_pos ej, if_pos g1, if_pos (fun q => q.elim (i32n (by omega)) (by omega)), s1]
  by_cases c : ξ.length ≤ (kA t (2000000 + 20 * σ1 + 1 + 1 + j)).1
  · obtain ⟨t', q1, q2, q3, q4, q5, q6, q7⟩ := c_cp38 (N := N) (X := X) h0 h1 hne hj hs hl c
    exact ⟨t', fun rc => by rw [e8, if_pos ((i32le (by omega) (by omega)).mpr c)]; exact q1 rc, q2, q3, q4, by omega, by omega, by omega⟩
  · generalize ht1 : jMv (jNI t 1 ξ.length (fun _ => 0)) (2000000 + 20 * σ1 + 1 + 1 + j) = t1
    have eR : kA t1 (2000000 + 20 * σ1 + 1 + 1 + j) = (ξ.length, fun _ => 0) := by
      rw [← ht1, kA_jMv, if_pos rfl]
      rfl
    have eO : ∀ k, k ≠ 2000000 + 20 * σ1 + 1 + 1 + j → k ≠ 111 → kA t1 k = kA t k := fun k q r => by rw [← ht1, kA_jMv, if_neg q, kA_jNI, if_neg r]
    have f : fSh σ1 j t t1 := ⟨⟨fun _ _ _ => by rw [← ht1]; rfl, by rw [← ht1]; rfl, by rw [← ht1]; rfl, fun k q r => eO k (fun z => q (Or.inl z)) r, fun k q r => by rw [← ht1, kB_jMv, if_neg q]; rfl, by rw [← ht1]; rfl, by rw [← ht1]; rfl, by rw [← ht1]; exact Nat.le_succ _⟩, fun i _ => by rw [eO _ (by omega) (by omega)], by rw [eO _ (by omega) (by omega)]⟩
    have i1 : cS0 t1 σ1 := ⟨by rw [← ht1]; exact k1, by rw [eO _ (by omega) (by omega)]; exact k2, fun i hi => by
      by_cases e : i = j
      · subst e
        rw [eR]
        show ξ.length ≤ 3000
        omega
      · rw [eO _ (by omega) (by omega)]
        exact k3 i hi⟩
    obtain ⟨t', q1, q2, q3, q4, q5, q6, q7⟩ := c_cp38 (N := N) (X := X) (f.o0 hj hne h0) i1 hne hj (f.o1 hj hne hj hs) hl (by rw [eR]; exact Nat.le_refl _)
    have eN : kN t1 = kN t + 1 := by rw [← ht1]; rfl
    have eQ : kQ t1 = kQ t + ξ.length := by rw [← ht1]; rfl
    rw [eR] at q7
    have q7 : (kA t' (2000000 + 20 * σ1 + 1 + 1 + j)).1 = ξ.length := q7
    refine ⟨t', fun rc => ?_, q2, q3, f.tr q4, by omega, by omega, by omega⟩
    rw [e8, if_neg (fun q => c ((i32le (by omega) (by omega)).mp q))]
    unfold cf_29_24
    rw [if_pos k1, if_pos g1, i32c (m := j) (by omega), if_pos (fun q => q.elim (i32n (by omega)) (by omega)), s1, i32c (m := ξ.length) (by omega), if_pos ⟨i32n (by omega), by omega, hN⟩, if_pos ej, ht1]
    exact q1 rc
/-- what copying to σ may change -/
abbrev fCp (σ : Nat) (t t' : cS) : Prop := kfr (fun _ _ => False) (fun k => 2000000 + 20 * σ + 2 ≤ k ∧ k ≤ 2000000 + 20 * σ + 10) (fun k => 2000000 + 20 * σ + 2 ≤ k ∧ k ≤ 2000000 + 20 * σ + 10) t t' ∧ kN t' ≤ kN t + 8 ∧ kQ t' ≤ kQ t + 9600 ∧ ∀ j, j < 8 → (kA t (2000000 + 20 * σ + 1 + 1 + j)).1 ≤ (kA t' (2000000 + 20 * σ + 1 + 1 + j)).1
set_option maxRecDepth 8000 in
theorem c_copy (hne : σ0 ≠ σ1) {Ξ : Nat → List Int32} (hl : ∀ j, j < 8 → (Ξ j).length ≤ 1200) {n0 q0 : Nat} (hN : n0 + 8 < zz_out) : ∀ (d i : Nat) (t : cS), i + d = 8 → cS0 t σ0 → cS0 t σ1 → (∀ j, j < 8 → cS1 t σ0 j (Ξ j)) → (∀ j, j < i → cS1 t σ1 j (Ξ j)) → kN t ≤ n0 + i → kQ t ≤ q0 + 1200 * i → ∃ t', (∀ f, cf_29_L1 N X (f + (d + 1)) 0 σ1 σ0 (Int32.ofNat i) t = some (t', .inl none)) ∧ cS0 t' σ1 ∧ (∀ j, j < 8 → cS1 t' σ1 j (Ξ j)) ∧ kfr (fun _ _ => False) (fun k => 2000000 + 20 * σ1 + 2 ≤ k ∧ k ≤ 2000000 + 20 * σ1 + 10) (fun k => 2000000 + 20 * σ1 + 2 ≤ k ∧ k ≤ 2000000 + 20 * σ1 + 10) t t' ∧ kN t' ≤ n0 + 8 ∧ kQ t' ≤ q0 + 9600 ∧ ∀ j, j < 8 → (kA t (2000000 + 20 * σ1 + 1 + 1 + j)).1 ≤ (kA t' (2000000 + 20 * σ1 + 1 + 1 + j)).1 := by
  intro d
  induction d with
  | zero =>
    intro i t hi h0 h1 hs hd hn hq
    have hi : i = 8 := hi
    subst hi
    refine ⟨t, fun f => ?_, h1, hd, kfr.rf, hn, hq, fun _ _ => Nat.le_refl _⟩
    show cf_29_2 N X (cf_29_L1 N X f) σ1 σ0 (Int32.ofNat 8) t = _
    unfold cf_29_2
    rw [if_pos (show (8 : Int32) ≤ Int32.ofNat 8 by decide)]
    rfl
  | succ d ih =>
    intro i t hi h0 h1 hs hd hn hq
    obtain ⟨t1, a1, a2, a3, a4, a5, a6, a7⟩ := c_cp1 (N := N) (X := X) h0 h1 hne (by omega) (hs i (by omega)) (hl i (by omega)) (by omega)
    obtain ⟨t', b1, b2, b3, b4, b5, b6, b7⟩ := ih (i + 1) t1 (by omega) (a4.o0 (by omega) hne h0) a2 (fun j hj => a4.o1 (by omega) hne hj (hs j hj)) (fun j hj => by
      by_cases e : j = i
      · subst e
        exact a3
      · exact a4.i1 (by omega) e (by omega) (hd j (by omega))) (by omega) (by
        generalize kQ t1 = z1 at a6 ⊢
        generalize kQ t = z0 at a6 hq
        clear a1 a2 a3 a4 a7 hs hd h0 h1
        omega)
    refine ⟨t', fun f => ?_, b2, b3, ?_, b5, b6, fun j hj => ?_⟩
    · show cf_29_2 N X (cf_29_L1 N X (f + (d + 1))) σ1 σ0 (Int32.ofNat i) t = _
      unfold cf_29_2
      rw [if_neg (show ¬ (8 : Int32) ≤ Int32.ofNat i from fun q => by have := (i32le (a := 8) (by decide) (by omega)).mp q; omega), a1]
      exact b1 f
    · obtain ⟨⟨c1, c2, c3, c4, c5, c6, c7, c8⟩, -, -⟩ := a4
      exact kfr.tr ⟨c1, c2, c3, fun k q r => c4 k (fun z => q (by omega)) r, fun k q r => c5 k (fun z => q (by omega)) r, c6, c7, c8⟩ b4
    · refine Nat.le_trans ?_ (b7 j hj)
      by_cases e : j = i
      · subst e
        exact a7
      · rw [a4.1.2.2.2.1 (2000000 + 20 * σ1 + 1 + 1 + j) (fun z => by omega) (by omega)]
        exact Nat.le_refl _
/-- the reference's copy -/
theorem r_copy {k k' : Nat} {x : Option (Th 4)} (hN : 8000 ≤ N) (hk : k < 64) (hk' : k' < 64) (hne : k ≠ k') (hx : ∀ y, x = some y → wfT 4 y) (H : rSl (s.2.2.1 47) k x) : ∃ s', mf_84 N (Int32.ofNat (2410 * k)) (Int32.ofNat (2410 * k')) s = some (s', none) ∧ rSl (s'.2.2.1 47) k' x ∧ lyF (2410 * k') s s' := by
  have e1 : Int32.ofNat (2410 * k) + 1 = Int32.ofNat (2410 * k + 1) := i32al
  have e2 : Int32.ofNat (2410 * k') + 1 = Int32.ofNat (2410 * k' + 1) := i32al
  have hd := H.hd
  unfold mf_84 mf_84_0
  rw [if_pos (gd rfl (by omega) (by decide)), i32c (m := 2410 * k) (by omega), hd]
  cases x with
  | none =>
    rw [if_neg (fun q => q rfl)]
    unfold mf_84_11 mf_84_29
    rw [if_pos (gd rfl (by omega) (by decide)), i32c (m := 2410 * k) (by omega), hd, if_pos (show ¬ kdO none = 0 by decide)]
    unfold mf_84_49 mf_84_50 mf_75 mf_75_0
    rw [if_neg (fun q => q rfl)]
    unfold mf_75_5
    rw [if_pos (gd rfl (by omega) (by decide)), i32c (m := 2410 * k') (by omega)]
    refine ⟨_, rfl, if_pos rfl, ⟨fun _ _ => rfl, fun _ _ => rfl, fun q r => if_neg (fun z => r (Or.inl z)), fun _ _ => rfl⟩, fun y hy => ?_⟩
    show upd _ (2410 * k') (-1) y = _
    unfold upd
    rw [if_neg (by omega)]
  | some x =>
    have hv := vw_kd ⟨4, x⟩
    have hi := vw_int ⟨4, x⟩
    have hd : s.2.2.1 47 (2410 * k) = kdT 4 x := hd
    cases hz : intT 4 x with
    | some z =>
      have hkd : kdT 4 x = 0 := by
        obtain ⟨l, hl⟩ := ser_kd 4 x
        rw [int_ser hz] at hl
        exact (List.cons.inj hl).1.symm
      unfold rSl at H
      dsimp only at H
      rw [hz] at H
      obtain ⟨H1, H2⟩ := H
      rw [if_pos (show ¬ kdO (some x) = -1 by show ¬ kdT 4 x = -1; rw [hkd]; decide)]
      unfold mf_84_15
      rw [if_pos (gd rfl (by omega) (by decide)), i32c (m := 2410 * k) (by omega), H1, if_neg (fun q => q rfl)]
      unfold mf_84_24 mf_84_29
      rw [if_pos (gd rfl (by omega) (by decide)), i32c (m := 2410 * k) (by omega), H1, if_neg (fun q => q rfl)]
      unfold mf_84_38
      rw [if_pos (gd e1 (by omega) (by decide)), cl e1 (by omega), H2]
      unfold mf_84_50 mf_75 mf_75_0
      rw [if_pos (by decide)]
      unfold mf_75_13
      rw [if_neg (by decide)]
      unfold mf_75_17
      rw [if_pos (gd rfl (by omega) (by decide)), if_pos (gd e2 (by omega) (by decide)), cl e2 (by omega), i32c (m := 2410 * k') (by omega)]
      refine ⟨_, rfl, ?_, ⟨fun _ _ => rfl, fun _ _ => rfl, fun q r => (if_neg (fun z => r (Or.inl z))).trans (if_neg (fun z => r (Or.inl z))), fun _ _ => rfl⟩, fun y hy => ?_⟩
      · unfold rSl
        dsimp only
        rw [hz]
        refine ⟨?_, ?_⟩
        · show upd (upd _ (2410 * k') 0) (2410 * k' + 1) z (2410 * k') = 0
          unfold upd
          rw [if_neg (by omega), if_pos rfl]
        · show upd (upd _ (2410 * k') 0) (2410 * k' + 1) z (2410 * k' + 1) = z
          unfold upd
          rw [if_pos rfl]
      · show upd (upd _ (2410 * k') 0) (2410 * k' + 1) z y = _
        unfold upd
        rw [if_neg (by omega), if_neg (by omega)]
    | none =>
      unfold rSl at H
      dsimp only at H
      rw [hz] at H
      have H : LayN (s.2.2.1 47) (Rk k) (2410 * k) ⟨4, x⟩ := H
      have hkd : ¬ kdT 4 x = -1 ∧ ¬ kdT 4 x = 0 := by
        have hi : intT 4 x = intV (vw ⟨4, x⟩) := hi
        have hv : kdT 4 x = kdV (vw ⟨4, x⟩) := hv
        rw [hz] at hi
        rw [hv]
        generalize vw ⟨4, x⟩ = v at hi
        obtain z | r | q | l := v
        · cases hi
        · exact ⟨by show ¬ (1 : Int32) = -1; decide, by show ¬ (1 : Int32) = 0; decide⟩
        · exact ⟨by show ¬ (2 : Int32) = -1; decide, by show ¬ (2 : Int32) = 0; decide⟩
        · exact ⟨by show ¬ (3 : Int32) = -1; decide, by show ¬ (3 : Int32) = 0; decide⟩
      rw [if_pos (show ¬ kdO (some x) = -1 from hkd.1)]
      unfold mf_84_15
      rw [if_pos (gd rfl (by omega) (by decide)), i32c (m := 2410 * k) (by omega), hd, if_pos hkd.2]
      unfold mf_84_28 mf_84_29
      rw [if_pos (gd rfl (by omega) (by decide)), i32c (m := 2410 * k) (by omega), hd, if_pos hkd.2]
      unfold mf_84_49 mf_84_50
      obtain ⟨s', q1, q2, q3⟩ := r_lay (N := N) (R := Rk k) (b0 := 2410 * k') hN (fun y hy => ⟨by have := hy.2; omega, fun z => by obtain ⟨u1, u2⟩ := hy; omega⟩) (by omega) (bulk_wf 4 x (hx x rfl)) H
      rw [q1]
      refine ⟨s', rfl, ?_, q3⟩
      unfold rSl
      dsimp only
      rw [hz]
      exact q2
end PM
end
-- ### 55.pmark2.lean.txt
section
/-! ===== PURE: mark, back: both sides ===== -/
/-- nothing but shelves and marks has changed -/
def lfr (t t' : cS) : Prop := (∀ k f, k < 2000000 → ¬ (k = 0 ∧ f = 9) → kI t' k f = kI t k f) ∧ kL t' = kL t ∧ (∀ k f, ¬ (k = 0 ∧ f = 7) → kP t' k f = kP t k f) ∧ (∀ k, k < 2000000 → k ≠ 111 → kA t' k = kA t k) ∧ (∀ k, k < 2000000 → k ≠ 111 → kB t' k = kB t k) ∧ kN t ≤ kN t'
theorem lfr.rf {t : cS} : lfr t t := ⟨fun _ _ _ _ => rfl, rfl, fun _ _ _ => rfl, fun _ _ _ => rfl, fun _ _ _ => rfl, Nat.le_refl _⟩
theorem lfr.tr {t t1 t2 : cS} (h : lfr t t1) (g : lfr t1 t2) : lfr t t2 := by
  obtain ⟨a1, a2, a3, a4, a5, a6⟩ := h
  obtain ⟨b1, b2, b3, b4, b5, b6⟩ := g
  exact ⟨fun k f p q => (b1 k f p q).trans (a1 k f p q), b2.trans a2, fun k f q => (b3 k f q).trans (a3 k f q), fun k p q => (b4 k p q).trans (a4 k p q), fun k p q => (b5 k p q).trans (a5 k p q), Nat.le_trans a6 b6⟩
theorem lfr.of {cA cB : Nat → Prop} {t t' : cS} (h : kfr (fun _ _ => False) cA cB t t') (hA : ∀ k, cA k → 2000000 ≤ k) (hB : ∀ k, cB k → 2000000 ≤ k) : lfr t t' := by
  obtain ⟨a1, a2, a3, a4, a5, a6, a7, a8⟩ := h
  exact ⟨fun k f _ _ => a1 k f (fun z => z), a2, fun k f _ => by rw [a3], fun k p q => a4 k (fun z => by have := hA k z; omega) q, fun k p q => a5 k (fun z => by have := hB k z; omega) q, a8⟩
/-- all rows of the Shelves σ, and all rows that there are -/
def gS (t : cS) (σ : Nat) : Nat := sm (fun j => (kA t (2000000 + 20 * σ + 1 + 1 + j)).1) 0 8
def gO (t : cS) : Option Nat → Nat
  | none => 0
  | some σ => gS t σ
def gA (t : cS) (σ0 : Nat) : Nat := gS t σ0 + sm (fun m => gO t (kM t m)) 0 6
theorem sm_le {f g : Nat → Nat} {q : Nat} : ∀ {c : Nat}, (∀ i, q ≤ i → i < q + c → f i ≤ g i) → sm f q c ≤ sm g q c
  | 0, _ => Nat.le_refl _
  | c + 1, h => Nat.add_le_add (sm_le (fun i a b => h i a (by omega))) (h (q + c) (by omega) (by omega))
section PN
variable {N : Nat} {X : Nat → Option zz_C} {t t' : cS} {s s' : mS} {σ σ1 σ0 k m : Nat} {μ : Nat → Nat} {S : Nat → Option (Th 4)}
/-- the reference's loops -/
theorem r_backL (hN : 8000 ≤ N) {V : Nat → Option (Th 4)} (hm : m < 6) (hw : ∀ j y, j < 8 → V j = some y → wfT 4 y) : ∀ (d i : Nat) (s : mS), i + d = 8 → s.1 88 = Int32.ofNat m → (∀ j, j < 8 → rSl (s.2.2.1 47) (8 + 8 * m + j) (V j)) → (∀ j, j < i → rSl (s.2.2.1 47) j (V j)) → ∃ s', (∀ f, mf_85_L1 N (f + (d + 1)) 0 (Int32.ofNat i) s = some (s', some (.int 1))) ∧ (∀ j, j < 8 → rSl (s'.2.2.1 47) j (V j)) ∧ (∀ y, 19280 ≤ y → s'.2.2.1 47 y = s.2.2.1 47 y) ∧ mfr (fun _ => False) (fun _ => False) (fun q => q = 47 ∨ q = 58 ∨ q = 59) (fun _ => False) s s' := by
  intro d
  induction d with
  | zero =>
    intro i s hi h88 hs hd
    have hi : i = 8 := hi
    subst hi
    refine ⟨s, fun f => ?_, hd, fun _ _ => rfl, mfr.rf⟩
    show mf_85_21 N (mf_85_L1 N f) (Int32.ofNat 8) s = _
    unfold mf_85_21
    rw [if_pos (show (8 : Int32) ≤ Int32.ofNat 8 by decide)]
    rfl
  | succ d ih =>
    intro i s hi h88 hs hd
    obtain ⟨s1, q1, q2, q3, q4⟩ := r_copy (N := N) (k := 8 + 8 * m + i) (k' := i) hN (by omega) (by omega) (by omega) (fun y hy => hw i y (by omega) hy) (hs i (by omega))
    have hk : ∀ l x, l < 64 → l ≠ i → rSl (s.2.2.1 47) l x → rSl (s1.2.2.1 47) l x := fun l x hl hn q => q.congr (fun y hy => q4 y (fun z => by obtain ⟨u1, u2⟩ := hy; omega))
    obtain ⟨s', r1, r2, r3, r4⟩ := ih (i + 1) s1 (by omega) (by rw [q3.1 88 (fun z => z)]; exact h88) (fun j hj => hk _ _ (by omega) (by omega) (hs j hj)) (fun j hj => by
      by_cases e : j = i
      · subst e
        exact q2
      · exact hk _ _ (by omega) e (hd j (by omega)))
    refine ⟨s', fun f => ?_, r2, fun y hy => (r3 y hy).trans (q4 y (by omega)), q3.tr r4⟩
    show mf_85_21 N (mf_85_L1 N (f + (d + 1))) (Int32.ofNat i) s = _
    unfold mf_85_21
    rw [if_neg (show ¬ (8 : Int32) ≤ Int32.ofNat i from fun q => by have := (i32le (a := 8) (by decide) (by omega)).mp q; omega)]
    unfold mf_85_27
    have e1 : (2410 : Int32) * ((8 + 8 * s.1 88) + Int32.ofNat i) = Int32.ofNat (2410 * (8 + 8 * m + i)) := by
      rw [h88, show (8 : Int32) * Int32.ofNat m = Int32.ofNat (8 * m) from i32ml, show (8 : Int32) + Int32.ofNat (8 * m) = Int32.ofNat (8 + 8 * m) from i32add (a := 8), i32add]
      exact i32ml
    rw [e1, show (2410 : Int32) * Int32.ofNat i = Int32.ofNat (2410 * i) from i32ml, q1]
    show mf_85_L1 N (f + (d + 1)) 0 (Int32.ofNat i + 1) s1 = _
    rw [show Int32.ofNat i + 1 = Int32.ofNat (i + 1) from i32al]
    exact r1 f
theorem r_markL (hN : 8000 ≤ N) {V : Nat → Option (Th 4)} (hm : m < 6) (hw : ∀ j y, j < 8 → V j = some y → wfT 4 y) : ∀ (d i : Nat) (s : mS), i + d = 8 → s.1 88 = Int32.ofNat m → (∀ j, j < 8 → rSl (s.2.2.1 47) j (V j)) → (∀ j, j < i → rSl (s.2.2.1 47) (8 + 8 * m + j) (V j)) → ∃ s', (∀ f, mf_83_L1 N (f + (d + 1)) 0 (Int32.ofNat i) s = some (mI s' 88 (Int32.ofNat (m + 1)), some (.int (Int32.ofNat (m + 1))))) ∧ (∀ j, j < 8 → rSl (s'.2.2.1 47) (8 + 8 * m + j) (V j)) ∧ (∀ y, ¬ (2410 * (8 + 8 * m) ≤ y ∧ y < 2410 * (16 + 8 * m)) → s'.2.2.1 47 y = s.2.2.1 47 y) ∧ mfr (fun _ => False) (fun _ => False) (fun q => q = 47 ∨ q = 58 ∨ q = 59) (fun _ => False) s s' := by
  intro d
  induction d with
  | zero =>
    intro i s hi h88 hs hd
    have hi : i = 8 := hi
    subst hi
    refine ⟨s, fun f => ?_, hd, fun _ _ => rfl, mfr.rf⟩
    show mf_83_48 N (mf_83_L1 N f) (Int32.ofNat 8) s = _
    unfold mf_83_48
    rw [if_pos (show (8 : Int32) ≤ Int32.ofNat 8 by decide)]
    unfold mf_83_85
    rw [h88, show Int32.ofNat m + 1 = Int32.ofNat (m + 1) from i32al]
  | succ d ih =>
    intro i s hi h88 hs hd
    obtain ⟨s1, q1, q2, q3, q4⟩ := r_copy (N := N) (k := i) (k' := 8 + 8 * m + i) hN (by omega) (by omega) (by omega) (fun y hy => hw i y (by omega) hy) (hs i (by omega))
    have hk : ∀ l x, l < 64 → l ≠ 8 + 8 * m + i → rSl (s.2.2.1 47) l x → rSl (s1.2.2.1 47) l x := fun l x hl hn q => q.congr (fun y hy => q4 y (fun z => by obtain ⟨u1, u2⟩ := hy; omega))
    obtain ⟨s', r1, r2, r3, r4⟩ := ih (i + 1) s1 (by omega) (by rw [q3.1 88 (fun z => z)]; exact h88) (fun j hj => hk _ _ (by omega) (by omega) (hs j hj)) (fun j hj => by
      by_cases e : j = i
      · subst e
        exact q2
      · exact hk _ _ (by omega) (by omega) (hd j (by omega)))
    refine ⟨s', fun f => ?_, r2, fun y hy => (r3 y hy).trans (q4 y (by omega)), q3.tr r4⟩
    show mf_83_48 N (mf_83_L1 N (f + (d + 1))) (Int32.ofNat i) s = _
    unfold mf_83_48
    rw [if_neg (show ¬ (8 : Int32) ≤ Int32.ofNat i from fun q => by have := (i32le (a := 8) (by decide) (by omega)).mp q; omega)]
    unfold mf_83_54
    have e1 : (2410 : Int32) * ((8 + 8 * s.1 88) + Int32.ofNat i) = Int32.ofNat (2410 * (8 + 8 * m + i)) := by
      rw [h88, show (8 : Int32) * Int32.ofNat m = Int32.ofNat (8 * m) from i32ml, show (8 : Int32) + Int32.ofNat (8 * m) = Int32.ofNat (8 + 8 * m) from i32add (a := 8), i32add]
      exact i32ml
    rw [e1, show (2410 : Int32) * Int32.ofNat i = Int32.ofNat (2410 * i) from i32ml, q1]
    show mf_83_L1 N (f + (d + 1)) 0 (Int32.ofNat i + 1) s1 = _
    rw [show Int32.ofNat i + 1 = Int32.ofNat (i + 1) from i32al]
    exact r1 f
theorem r_dropL (hN : 8000 ≤ N) (hw : ∀ j y, S j = some y → wfT 4 y) : ∀ (d i : Nat) (s : mS), i + d = 48 → 8 ≤ i → (∀ j, j < 8 → rSl (s.2.2.1 47) j (S j)) → (∀ j, i + 8 ≤ j → j < 56 → rSl (s.2.2.1 47) j (S j)) → (∀ j, i ≤ j → j < i + 8 → rSl (s.2.2.1 47) j (S j)) → (∀ j, 8 ≤ j → j < i → rSl (s.2.2.1 47) j (S (j + 8))) → ∃ s', (∀ f, mf_83_L4 N (f + (d + 1)) 0 (Int32.ofNat i) s = mf_83_46 N (mI s' 88 5)) ∧ (∀ j, j < 8 → rSl (s'.2.2.1 47) j (S j)) ∧ (∀ j, 8 ≤ j → j < 48 → rSl (s'.2.2.1 47) j (S (j + 8))) ∧ mfr (fun _ => False) (fun _ => False) (fun q => q = 47 ∨ q = 58 ∨ q = 59) (fun _ => False) s s' := by
  intro d
  induction d with
  | zero =>
    intro i s hi h8 h0 h1 h2 h3
    have hi : i = 48 := hi
    subst hi
    refine ⟨s, fun f => ?_, h0, h3, mfr.rf⟩
    show mf_83_12 N (mf_83_L4 N f) (Int32.ofNat 48) s = _
    unfold mf_83_12
    rw [if_pos (show (48 : Int32) ≤ Int32.ofNat 48 by decide)]
    rfl
  | succ d ih =>
    intro i s hi h8 h0 h1 h2 h3
    obtain ⟨s1, q1, q2, q3, q4⟩ := r_copy (N := N) (k := i + 8) (k' := i) hN (by omega) (by omega) (by omega) (fun y hy => hw (i + 8) y hy) (h1 (i + 8) (by omega) (by omega))
    have hk : ∀ l x, l < 64 → l ≠ i → rSl (s.2.2.1 47) l x → rSl (s1.2.2.1 47) l x := fun l x hl hn q => q.congr (fun y hy => q4 y (fun z => by obtain ⟨u1, u2⟩ := hy; omega))
    obtain ⟨s', r1, r2, r3, r4⟩ := ih (i + 1) s1 (by omega) (by omega) (fun j hj => hk _ _ (by omega) (by omega) (h0 j hj)) (fun j a b => hk _ _ (by omega) (by omega) (h1 j (by omega) b)) (fun j a b => by
      by_cases e : j = i + 8
      · exact hk _ _ (by omega) (by omega) (h1 j (by omega) (by omega))
      · exact hk _ _ (by omega) (by omega) (h2 j (by omega) (by omega))) (fun j a b => by
      by_cases e : j = i
      · subst e
        exact q2
      · exact hk _ _ (by omega) (by omega) (h3 j a (by omega)))
    refine ⟨s', fun f => ?_, r2, r3, q3.tr r4⟩
    show mf_83_12 N (mf_83_L4 N (f + (d + 1))) (Int32.ofNat i) s = _
    unfold mf_83_12
    rw [if_neg (show ¬ (48 : Int32) ≤ Int32.ofNat i from fun q => by have := (i32le (a := 48) (by decide) (by omega)).mp q; omega)]
    unfold mf_83_18
    rw [show Int32.ofNat i + 8 = Int32.ofNat (i + 8) from i32al, show (2410 : Int32) * Int32.ofNat (i + 8) = Int32.ofNat (2410 * (i + 8)) from i32ml, show (2410 : Int32) * Int32.ofNat i = Int32.ofNat (2410 * i) from i32ml, q1]
    show mf_83_L4 N (f + (d + 1)) 0 (Int32.ofNat i + 1) s1 = _
    rw [show Int32.ofNat i + 1 = Int32.ofNat (i + 1) from i32al]
    exact r1 f
theorem i32sub {a : Nat} (h : 0 < a) : Int32.ofNat a - 1 = Int32.ofNat (a - 1) := by
  have e : Int32.ofNat a = Int32.ofNat (a - 1) + 1 := by
    rw [show Int32.ofNat (a - 1) + 1 = Int32.ofNat (a - 1 + 1) from i32al, show a - 1 + 1 = a by omega]
  rw [e]
  exact Int32.add_sub_cancel _ _
theorem p_back (hN : 8000 ≤ N) (h : iS S σ0 k μ t s) : ∃ t' s' S' σ' k' , ∃ v : Int32, cf_19 N X t = some (t', .inl (some (.int v))) ∧ mf_85 N s = some (s', some (.int v)) ∧ iS S' σ' k' μ t' s' ∧ lfr t t' ∧ kN t' = kN t ∧ kQ t' = kQ t ∧ gA t' σ' = gA t σ0 ∧ mfr (fun q => q = 88) (fun _ => False) (fun q => q = 47 ∨ q = 58 ∨ q = 59) (fun _ => False) s s' := by
  have h' := h
  obtain ⟨h1, h2, h3, h4, ⟨h5, h50⟩, h6, h7, h8, h9⟩ := h'
  unfold cf_19 cf_19_0 mf_85 mf_85_0
  rw [h3, h4]
  by_cases e0 : k = 0
  · subst e0
    rw [if_neg (fun q => q rfl), if_neg (fun q => q rfl)]
    exact ⟨t, s, S, σ0, 0, 0, rfl, rfl, h, lfr.rf, rfl, rfl, rfl, mfr.rf⟩
  · have e00 : ¬ Int32.ofNat k = 0 := fun q => e0 ((i32eq (b := 0) (by omega) (by decide)).mp q)
    rw [if_pos e00, if_pos e00]
    obtain ⟨m, rfl⟩ : ∃ m, k = m + 1 := ⟨k - 1, by omega⟩
    obtain ⟨n1, n2⟩ := h9 m (by omega)
    obtain ⟨⟨o1, o2⟩, o3, o4⟩ := h8 m (by omega) _ n1
    have ek : Int32.ofNat (m + 1) - 1 = Int32.ofNat m := i32sub (by omega)
    have eg : ¬ (Int32.ofNat m < 0 ∨ 6 ≤ m) := fun q => q.elim (i32n (by omega)) (by omega)
    unfold cf_19_9 mf_85_9
    rw [h3, h4, ek, i32c (m := m) (by omega), if_pos eg, n1]
    have hV : ∀ j y, j < 8 → S (8 + 8 * m + j) = some y → wfT 4 y := fun j y _ q => h7 _ y q
    obtain ⟨s', r1, r2, r3, r4⟩ := r_backL (N := N) (V := fun j => S (8 + 8 * m + j)) hN (by omega) hV 8 0 (mI s 88 (Int32.ofNat m)) rfl rfl (fun j hj => (n2 j hj).2) (fun j hj => absurd hj (Nat.not_lt_zero _))
    have r1 := r1 (N - 9)
    rw [show N - 9 + (8 + 1) = N by omega] at r1
    have hs47 : (mI s 88 (Int32.ofNat m)).2.2.1 47 = s.2.2.1 47 := rfl
    have eM : ∀ m', kM (jP (jM (jI t 0 9 (Int32.ofNat m)) (va_up (kM (jI t 0 9 (Int32.ofNat m))) m (some σ0))) 0 7 (some (μ m))) m' = if m' = m then some σ0 else kM t m' := fun _ => rfl
    refine ⟨jP (jM (jI t 0 9 (Int32.ofNat m)) (va_up (kM (jI t 0 9 (Int32.ofNat m))) m (some σ0))) 0 7 (some (μ m)), s', fun i => if i < 8 then S (8 + 8 * m + i) else S i, μ m, m, 1, ?_, r1, ⟨by omega, rfl, rfl, ?_, ⟨o1, o2⟩, fun j hj => ?_, fun j x hx => ?_, fun m' hm' σ hσ => ?_, fun m' hm' => ?_⟩, ⟨fun k f p q => if_neg q, rfl, fun k f q => if_neg q, fun _ _ _ => rfl, fun _ _ _ => rfl, Nat.le_refl _⟩, rfl, rfl, ?_, ?_⟩
    · show cf_19_33 N X (μ m) (jI t 0 9 (Int32.ofNat m)) = _
      unfold cf_19_33
      have e7 : kP (jI t 0 9 (Int32.ofNat m)) 0 7 = some σ0 := h2
      have e9 : kI (jI t 0 9 (Int32.ofNat m)) 0 9 = Int32.ofNat m := rfl
      rw [e7, e9]
      show (if ¬ (_ ∨ _) then _ else none) = _
      rw [i32c (m := m) (by omega), if_pos eg, if_pos (show kH (jI t 0 9 (Int32.ofNat m)) σ0 = true from h5.1)]
      rfl
    · rw [r4.1 88 (fun z => z)]
      rfl
    · show cS1 t (μ m) j (serO (if j < 8 then S (8 + 8 * m + j) else S j)) ∧ rSl (s'.2.2.1 47) j (if j < 8 then S (8 + 8 * m + j) else S j)
      rw [if_pos hj]
      exact ⟨(n2 j hj).1, r2 j hj⟩
    · have hx : (if j < 8 then S (8 + 8 * m + j) else S j) = some x := hx
      by_cases c : j < 8
      · rw [if_pos c] at hx
        exact h7 _ x hx
      · rw [if_neg c] at hx
        exact h7 _ x hx
    · rw [eM] at hσ
      by_cases c : m' = m
      · rw [if_pos c] at hσ
        cases hσ
        refine ⟨⟨h5, h50⟩, fun z => o3 z.symm, fun m2 σ2 b1 b2 b3 => ?_⟩
        rw [eM] at b2
        by_cases c2 : m2 = m
        · omega
        · rw [if_neg c2] at b2
          exact absurd b3.symm (h8 m2 b1 σ2 b2).2.1
      · rw [if_neg c] at hσ
        obtain ⟨p1, p2, p3⟩ := h8 m' hm' σ hσ
        refine ⟨p1, fun z => c (p3 m (μ m) (by omega) n1 z), fun m2 σ2 b1 b2 b3 => ?_⟩
        rw [eM] at b2
        by_cases c2 : m2 = m
        · rw [if_pos c2] at b2
          cases b2
          exact absurd b3 p2
        · rw [if_neg c2] at b2
          exact p3 m2 σ2 b1 b2 b3
    · obtain ⟨p1, p2⟩ := h9 m' (by omega)
      refine ⟨by rw [eM, if_neg (by omega)]; exact p1, fun j hj => ?_⟩
      show cS1 t (μ m') j (serO (if 8 + 8 * m' + j < 8 then _ else S (8 + 8 * m' + j))) ∧ rSl (s'.2.2.1 47) (8 + 8 * m' + j) (if 8 + 8 * m' + j < 8 then _ else S (8 + 8 * m' + j))
      rw [if_neg (by omega)]
      exact ⟨(p2 j hj).1, (p2 j hj).2.congr (fun y hy => (r3 y (by have := hy.1; omega)).trans rfl)⟩
    · have hG : ∀ σ, gS (jP (jM (jI t 0 9 (Int32.ofNat m)) (va_up (kM (jI t 0 9 (Int32.ofNat m))) m (some σ0))) 0 7 (some (μ m))) σ = gS t σ := fun _ => rfl
      have hO : ∀ o, gO (jP (jM (jI t 0 9 (Int32.ofNat m)) (va_up (kM (jI t 0 9 (Int32.ofNat m))) m (some σ0))) 0 7 (some (μ m))) o = gO t o := fun o => by cases o <;> rfl
      unfold gA
      rw [hG]
      have sw : ∀ (f g : Nat → Nat) (c : Nat), (∀ i, i ≠ m → f i = g i) → m < c → sm f 0 c + g m = sm g 0 c + f m := fun f g c hfg hc => by
        induction c with
        | zero => omega
        | succ c ihc =>
          show sm f 0 c + f (0 + c) + g m = sm g 0 c + g (0 + c) + f m
          rw [Nat.zero_add]
          by_cases e : m = c
          · subst e
            rw [sm_congr (f := f) (g := g) (fun i _ hi => hfg i (by omega))]
            omega
          · have := ihc (by omega)
            have := hfg c (by omega)
            omega
      have := sw (fun m' => gO (jP (jM (jI t 0 9 (Int32.ofNat m)) (va_up (kM (jI t 0 9 (Int32.ofNat m))) m (some σ0))) 0 7 (some (μ m))) (kM (jP (jM (jI t 0 9 (Int32.ofNat m)) (va_up (kM (jI t 0 9 (Int32.ofNat m))) m (some σ0))) 0 7 (some (μ m))) m')) (fun m' => gO t (kM t m')) 6 (fun i hi => by
        show gO _ (kM _ i) = _
        rw [hO, eM, if_neg hi]) (by omega)
      have e1 : gO (jP (jM (jI t 0 9 (Int32.ofNat m)) (va_up (kM (jI t 0 9 (Int32.ofNat m))) m (some σ0))) 0 7 (some (μ m))) (kM (jP (jM (jI t 0 9 (Int32.ofNat m)) (va_up (kM (jI t 0 9 (Int32.ofNat m))) m (some σ0))) 0 7 (some (μ m))) m) = gS t σ0 := by
        rw [hO, eM, if_pos rfl]
        rfl
      have e2 : gO t (kM t m) = gS t (μ m) := by
        rw [n1]
        rfl
      rw [e1, e2] at this
      omega
    · exact mfr.tr (s1 := mI s 88 (Int32.ofNat m)) ⟨fun q r => if_neg r, fun _ _ => rfl, fun _ _ => rfl, fun _ _ => rfl⟩ ⟨fun q r => r4.1 q (fun z => z), r4.2.1, r4.2.2.1, r4.2.2.2⟩
end PN
end
-- ### 56.pmark3.lean.txt
section
/-! ===== PURE: mark ===== -/
section PO
variable {N : Nat} {X : Nat → Option zz_C} {t t' : cS} {s s' : mS} {σ σ1 σ0 k m : Nat} {μ : Nat → Nat} {S : Nat → Option (Th 4)}
abbrev mfM (s s' : mS) : Prop := mfr (fun q => q = 88) (fun _ => False) (fun q => q = 47 ∨ q = 58 ∨ q = 59) (fun _ => False) s s'
/-- a place for another mark -/
theorem mk_new (h : iS S σ0 k μ t s) (hk : k < 6) (hM : kM t k = none) : iS S σ0 k μ (jM (jSh t) (va_up (kM t) k (some (kN t)))) s ∧ lfr t (jM (jSh t) (va_up (kM t) k (some (kN t)))) ∧ gA t σ0 ≤ gA (jM (jSh t) (va_up (kM t) k (some (kN t)))) σ0 := by
  obtain ⟨h1, h2, h3, h4, ⟨h5, h50⟩, h6, h7, h8, h9⟩ := h
  generalize ht1 : jM (jSh t) (va_up (kM t) k (some (kN t))) = t1
  have eA : ∀ a, ¬ (2000000 + 20 * kN t ≤ a ∧ a < 2000000 + 20 * kN t + 20) → kA t1 a = kA t a := fun a q => by
    rw [← ht1]
    exact if_neg q
  have eN : kN t1 = kN t + 11 := by rw [← ht1]; rfl
  have eH : ∀ a, kH t a = true → kH t1 a = true := fun a q => by
    rw [← ht1]
    show (if a = kN t then true else kH t a) = true
    by_cases c : a = kN t
    · rw [if_pos c]
    · rw [if_neg c]
      exact q
  have eM : ∀ m, kM t1 m = if m = k then some (kN t) else kM t m := fun m => by rw [← ht1]; rfl
  have o0 : ∀ σ, σ < kN t → cS0 t σ → cS0 t1 σ := fun σ hσ q => ⟨eH _ q.1, by rw [eA _ (by omega)]; exact q.2.1, fun i hi => by rw [eA _ (by omega)]; exact q.2.2 i hi⟩
  have o1 : ∀ σ, σ < kN t → ∀ j ξ, j < 8 → cS1 t σ j ξ → cS1 t1 σ j ξ := fun σ hσ j ξ hj q => ⟨by rw [eA _ (by omega)]; exact q.1, by rw [eA _ (by omega)]; exact q.2.1, fun i hi => by rw [eA _ (by omega)]; exact q.2.2 i hi⟩
  have gs : ∀ σ, σ < kN t → gS t1 σ = gS t σ := fun σ hσ => sm_congr (fun i _ hi => by
    show (kA t1 (2000000 + 20 * σ + 1 + 1 + i)).1 = _
    rw [eA _ (by omega)])
  have n0 : cS0 t1 (kN t) := by
    refine ⟨?_, ?_, fun i hi => ?_⟩
    · rw [← ht1]
      exact if_pos rfl
    · rw [← ht1]
      show (if 2000000 + 20 * kN t ≤ 2000000 + 20 * kN t + 10 ∧ 2000000 + 20 * kN t + 10 < 2000000 + 20 * kN t + 20 then ((if 2000000 + 20 * kN t + 10 = 2000000 + 20 * kN t + 10 then 8 else 4, fun _ => 0) : Nat × (Nat → Int32)) else _).1 = 8
      rw [if_pos (by omega), if_pos rfl]
    · rw [← ht1]
      show (if 2000000 + 20 * kN t ≤ 2000000 + 20 * kN t + 1 + 1 + i ∧ 2000000 + 20 * kN t + 1 + 1 + i < 2000000 + 20 * kN t + 20 then ((if 2000000 + 20 * kN t + 1 + 1 + i = 2000000 + 20 * kN t + 10 then 8 else 4, fun _ => 0) : Nat × (Nat → Int32)) else _).1 ≤ 3000
      rw [if_pos (by omega), if_neg (by omega)]
      decide
  refine ⟨⟨h1, by rw [← ht1]; exact h2, ?_, h4, ⟨o0 _ h50 h5, by omega⟩, fun j hj => ⟨o1 _ h50 j _ hj (h6 j hj).1, (h6 j hj).2⟩, h7, fun m hm σ hσ => ?_, fun m hm => ?_⟩, ⟨fun a f p q => ?_, by rw [← ht1]; rfl, fun _ _ _ => by rw [← ht1]; rfl, fun a p q => eA a (by omega), fun _ _ _ => by rw [← ht1]; rfl, by omega⟩, ?_⟩
  · rw [← ht1]
    exact (if_neg (by omega)).trans h3
  · rw [eM] at hσ
    by_cases c : m = k
    · rw [if_pos c] at hσ
      cases hσ
      refine ⟨⟨n0, by omega⟩, by omega, fun m' σ' b1 b2 b3 => ?_⟩
      rw [eM] at b2
      by_cases c2 : m' = k
      · omega
      · rw [if_neg c2] at b2
        have := (h8 m' b1 σ' b2).1.2
        omega
    · rw [if_neg c] at hσ
      obtain ⟨⟨p1, p2⟩, p3, p4⟩ := h8 m hm σ hσ
      refine ⟨⟨o0 _ p2 p1, by omega⟩, p3, fun m' σ' b1 b2 b3 => ?_⟩
      rw [eM] at b2
      by_cases c2 : m' = k
      · rw [if_pos c2] at b2
        cases b2
        omega
      · rw [if_neg c2] at b2
        exact p4 m' σ' b1 b2 b3
  · obtain ⟨p1, p2⟩ := h9 m hm
    have p3 := (h8 m (by omega) _ p1).1.2
    exact ⟨by rw [eM, if_neg (by omega)]; exact p1, fun j hj => ⟨o1 _ p3 j _ hj (p2 j hj).1, (p2 j hj).2⟩⟩
  · rw [← ht1]
    exact if_neg (by omega)
  · unfold gA
    rw [gs _ h50]
    refine Nat.add_le_add_left (sm_le (fun m _ hm => ?_)) _
    show gO t (kM t m) ≤ gO t1 (kM t1 m)
    rw [eM]
    by_cases c : m = k
    · rw [c, hM]
      exact Nat.zero_le _
    · rw [if_neg c]
      cases hσ : kM t m with
      | none => exact Nat.le_refl _
      | some σ => exact Nat.le_of_eq (gs σ (h8 m (by omega) σ hσ).1.2).symm
theorem mk_41 (hN : 8000 ≤ N) (h : iS S σ0 k μ t s) (hk : k < 6) (hM : kM t k = some σ1) (hr : kN t + 8 < zz_out) : ∃ t' s' S' μ', cf_18_41 N X t = some (t', .inl (some (.int (Int32.ofNat (k + 1))))) ∧ mf_83_46 N s = some (s', some (.int (Int32.ofNat (k + 1)))) ∧ iS S' σ0 (k + 1) μ' t' s' ∧ lfr t t' ∧ kN t' ≤ kN t + 8 ∧ kQ t' ≤ kQ t + 9600 ∧ gA t σ0 ≤ gA t' σ0 ∧ mfM s s' := by
  obtain ⟨h1, h2, h3, h4, ⟨h5, h50⟩, h6, h7, h8, h9⟩ := h
  obtain ⟨⟨o1, o2⟩, o3, o4⟩ := h8 k hk _ hM
  have hl : ∀ j, j < 8 → (serO (S j)).length ≤ 1200 := fun j _ => serO_len (fun y hy => h7 j y hy)
  obtain ⟨t2, c1, c2, c3, c4, c5, c6, c7⟩ := c_copy (N := N) (X := X) (σ0 := σ0) (σ1 := σ1) (fun z => o3 z.symm) hl (n0 := kN t) (q0 := kQ t) hr 8 0 t rfl h5 o1 (fun j hj => (h6 j hj).1) (fun j hj => absurd hj (Nat.not_lt_zero _)) (Nat.le_refl _) (Nat.le_refl _)
  have c1 := c1 (N - 9)
  rw [show N - 9 + (8 + 1) = N by omega] at c1
  obtain ⟨s', r1, r2, r3, r4⟩ := r_markL (N := N) (V := S) hN hk (fun j y _ q => h7 j y q) 8 0 s rfl h4 (fun j hj => (h6 j hj).2) (fun j hj => absurd hj (Nat.not_lt_zero _))
  have r1 := r1 (N - 9)
  rw [show N - 9 + (8 + 1) = N by omega] at r1
  have hlf : lfr t t2 := lfr.of c4 (fun k q => by omega) (fun k q => by omega)
  obtain ⟨f1, f2, f3, f4, f5, f6, f7, f8⟩ := c4
  have e9 : kI t2 0 9 + 1 = Int32.ofNat (k + 1) := by
    rw [f1 0 9 (fun z => z), h3]
    exact i32al
  have a0 : ∀ σ, σ ≠ σ1 → cS0 t σ → cS0 t2 σ := fun σ hσ q => ⟨by rw [f7]; exact q.1, by rw [f4 _ (by omega) (by omega)]; exact q.2.1, fun i hi => by rw [f4 _ (by omega) (by omega)]; exact q.2.2 i hi⟩
  have a1 : ∀ σ, σ ≠ σ1 → ∀ j ξ, j < 8 → cS1 t σ j ξ → cS1 t2 σ j ξ := fun σ hσ j ξ hj q => ⟨by rw [f4 _ (by omega) (by omega)]; exact q.1, by rw [f4 _ (by omega) (by omega)]; exact q.2.1, fun i hi => by rw [f4 _ (by omega) (by omega)]; exact q.2.2 i hi⟩
  have gs : ∀ σ, gS t σ ≤ gS t2 σ := fun σ => sm_le (fun i _ hi => by
    show (kA t (2000000 + 20 * σ + 1 + 1 + i)).1 ≤ (kA t2 (2000000 + 20 * σ + 1 + 1 + i)).1
    by_cases c : σ = σ1
    · rw [c]
      exact c7 i (by omega)
    · rw [f4 _ (by omega) (by omega)]
      exact Nat.le_refl _)
  refine ⟨jI t2 0 9 (Int32.ofNat (k + 1)), mI s' 88 (Int32.ofNat (k + 1)), fun i => if 8 + 8 * k ≤ i ∧ i < 16 + 8 * k then S (i - (8 + 8 * k)) else S i, fun m => if m = k then σ1 else μ m, ?_, r1, ⟨by omega, ?_, rfl, rfl, ⟨a0 σ0 (fun z => o3 z.symm) h5, Nat.lt_of_lt_of_le h50 f8⟩, fun j hj => ?_, fun j x hx => ?_, fun m hm σ hσ => ?_, fun m hm => ?_⟩, hlf.tr ⟨fun a f _ q => if_neg q, rfl, fun _ _ _ => rfl, fun _ _ _ => rfl, fun _ _ _ => rfl, Nat.le_refl _⟩, c5, c6, ?_, ?_⟩
  · unfold cf_18_41
    rw [h3, i32c (m := k) (by omega), if_pos (fun q => q.elim (i32n (by omega)) (by omega)), hM, h2]
    show (if kH t σ1 = true then _ else none) = _
    rw [if_pos o1.1]
    unfold cf_29 cf_29_0
    rw [show (0 : Int32) = Int32.ofNat 0 from rfl, c1]
    show cf_18_57 N X t2 = _
    unfold cf_18_57
    rw [e9]
  · show kP t2 0 7 = _
    rw [f3]
    exact h2
  · show cS1 t2 σ0 j (serO (if 8 + 8 * k ≤ j ∧ j < 16 + 8 * k then _ else S j)) ∧ rSl (s'.2.2.1 47) j (if 8 + 8 * k ≤ j ∧ j < 16 + 8 * k then _ else S j)
    rw [if_neg (by omega)]
    exact ⟨a1 σ0 (fun z => o3 z.symm) j _ hj (h6 j hj).1, (h6 j hj).2.congr (fun y hy => r3 y (fun z => by obtain ⟨u1, u2⟩ := hy; omega))⟩
  · have hx : (if 8 + 8 * k ≤ j ∧ j < 16 + 8 * k then S (j - (8 + 8 * k)) else S j) = some x := hx
    by_cases c : 8 + 8 * k ≤ j ∧ j < 16 + 8 * k
    · rw [if_pos c] at hx
      exact h7 _ x hx
    · rw [if_neg c] at hx
      exact h7 _ x hx
  · have hσ : kM t2 m = some σ := hσ
    rw [f6] at hσ
    obtain ⟨⟨p1, p2⟩, p3, p4⟩ := h8 m hm σ hσ
    refine ⟨⟨?_, Nat.lt_of_lt_of_le p2 f8⟩, p3, fun m' σ' b1 b2 b3 => ?_⟩
    · by_cases c : σ = σ1
      · rw [c]
        exact c2
      · exact a0 σ c p1
    · have b2 : kM t2 m' = some σ' := b2
      rw [f6] at b2
      exact p4 m' σ' b1 b2 b3
  · show kM t2 m = some (if m = k then σ1 else μ m) ∧ ∀ j, j < 8 → cS1 t2 (if m = k then σ1 else μ m) j (serO (if 8 + 8 * k ≤ 8 + 8 * m + j ∧ 8 + 8 * m + j < 16 + 8 * k then S (8 + 8 * m + j - (8 + 8 * k)) else S (8 + 8 * m + j))) ∧ rSl (s'.2.2.1 47) (8 + 8 * m + j) (if 8 + 8 * k ≤ 8 + 8 * m + j ∧ 8 + 8 * m + j < 16 + 8 * k then S (8 + 8 * m + j - (8 + 8 * k)) else S (8 + 8 * m + j))
    rw [f6]
    by_cases c : m = k
    · subst c
      rw [if_pos rfl]
      refine ⟨hM, fun j hj => ?_⟩
      rw [if_pos (by omega), show 8 + 8 * m + j - (8 + 8 * m) = j by omega]
      exact ⟨c3 j hj, r2 j hj⟩
    · rw [if_neg c]
      obtain ⟨p1, p2⟩ := h9 m (by omega)
      refine ⟨p1, fun j hj => ?_⟩
      rw [if_neg (by omega)]
      exact ⟨a1 (μ m) (fun z => c (o4 m (μ m) (by omega) p1 z.symm).symm) j _ hj (p2 j hj).1, (p2 j hj).2.congr (fun y hy => r3 y (fun z => by obtain ⟨u1, u2⟩ := hy; omega))⟩
  · unfold gA
    refine Nat.add_le_add (gs σ0) (sm_le (fun m _ hm => ?_))
    show gO t (kM t m) ≤ gO t2 (kM t2 m)
    rw [f6]
    cases kM t m with
    | none => exact Nat.le_refl _
    | some σ => exact gs σ
  · exact mfr.tr (s1 := s') ⟨fun q r => r4.1 q (fun z => z), r4.2.1, r4.2.2.1, r4.2.2.2⟩ ⟨fun q r => if_neg r, fun _ _ => rfl, fun _ _ => rfl, fun _ _ => rfl⟩
theorem mk_13 (hN : 8000 ≤ N) (h : iS S σ0 k μ t s) (hk : k < 6) (hr : kN t + 20 < zz_out) : ∃ t' s' S' μ', cf_18_13 N X t = some (t', .inl (some (.int (Int32.ofNat (k + 1))))) ∧ mf_83_46 N s = some (s', some (.int (Int32.ofNat (k + 1)))) ∧ iS S' σ0 (k + 1) μ' t' s' ∧ lfr t t' ∧ kN t' ≤ kN t + 19 ∧ kQ t' ≤ kQ t + 51 + 9600 ∧ gA t σ0 ≤ gA t' σ0 ∧ mfM s s' := by
  have h3 := h.2.2.1
  have eg : ¬ (Int32.ofNat k < 0 ∨ 6 ≤ k) := fun q => q.elim (i32n (by omega)) (by omega)
  unfold cf_18_13
  rw [h3, i32c (m := k) (by omega), if_pos eg]
  cases hM : kM t k with
  | some σ1 =>
    rw [if_pos (show (some σ1).isSome = true from rfl)]
    obtain ⟨t', s', S', μ', q1, q2, q3, q4, q5, q6, q7, q8⟩ := mk_41 (N := N) (X := X) hN h hk hM (by omega)
    exact ⟨t', s', S', μ', q1, q2, q3, q4, by omega, Nat.le_trans q6 (Nat.add_le_add_right (Nat.le_add_right _ _) _), q7, q8⟩
  | none =>
    rw [if_neg (by decide)]
    obtain ⟨g1, g2, g3⟩ := mk_new h hk hM
    have eN : kN (jM (jSh t) (va_up (kM t) k (some (kN t)))) = kN t + 11 := rfl
    have eQ : kQ (jM (jSh t) (va_up (kM t) k (some (kN t)))) = kQ t + 51 := rfl
    obtain ⟨t', s', S', μ', q1, q2, q3, q4, q5, q6, q7, q8⟩ := mk_41 (N := N) (X := X) (σ1 := kN t) hN g1 hk (if_pos rfl) (by rw [eN]; omega)
    refine ⟨t', s', S', μ', ?_, q2, q3, g2.tr q4, ?_, ?_, Nat.le_trans g3 q7, q8⟩
    · unfold cf_18_25
      rw [if_pos (by omega), h3, i32c (m := k) (by omega), if_pos eg, if_pos (show kH (jSh t) (kN t) = true from if_pos rfl)]
      exact q1
    · rw [eN] at q5
      omega
    · rw [eQ] at q6
      exact q6
/-- the oldest mark goes -/
theorem c_dropL {g0 : Nat → Option Nat} {w1 : Nat} (hw : kH t w1 = true) (hg : ∀ m, m < 6 → ∃ σ, g0 m = some σ ∧ kH t σ = true) : ∀ (d i : Nat) (g : Nat → Option Nat), i + d = 6 → 1 ≤ i → (∀ m, g m = if m + 1 < i then g0 (m + 1) else g0 m) → ∃ g', (∀ f, cf_252_L1 N X (f + (d + 1)) 0 w1 (Int32.ofNat i) (jM t g) = some (jI (jM t g') 0 9 (kI t 0 9 - 1), .inl none)) ∧ ∀ m, g' m = if m = 5 then some w1 else if m < 5 then g0 (m + 1) else g0 m := by
  intro d
  induction d with
  | zero =>
    intro i g hi h1 hgi
    have hi : i = 6 := hi
    subst hi
    refine ⟨va_up g 5 (some w1), fun f => ?_, fun m => ?_⟩
    · show cf_252_9 N X (cf_252_L1 N X f) w1 (Int32.ofNat 6) (jM t g) = _
      unfold cf_252_9
      rw [if_pos (show (6 : Int32) ≤ Int32.ofNat 6 by decide)]
      unfold cf_252_35
      rw [if_pos (by decide), if_pos (show kH (jM t g) w1 = true from hw)]
      rfl
    · show (if m = 5 then some w1 else g m) = _
      by_cases c : m = 5
      · rw [if_pos c, if_pos c]
      · rw [if_neg c, if_neg c, hgi]
        by_cases c2 : m < 5
        · rw [if_pos (by omega), if_pos c2]
        · rw [if_neg (by omega), if_neg c2]
  | succ d ih =>
    intro i g hi h1 hgi
    obtain ⟨σ, hσ, hσ'⟩ := hg i (by omega)
    have e1 : g i = some σ := by rw [hgi, if_neg (by omega)]; exact hσ
    obtain ⟨g', q1, q2⟩ := ih (i + 1) (va_up g (i - 1) (some σ)) (by omega) (by omega) (fun m => by
      show (if m = i - 1 then some σ else g m) = _
      by_cases c : m = i - 1
      · rw [if_pos c, if_pos (by omega), ← hσ, show m + 1 = i by omega]
      · rw [if_neg c, hgi]
        by_cases c2 : m + 1 < i
        · rw [if_pos c2, if_pos (by omega)]
        · rw [if_neg c2, if_neg (by omega)])
    refine ⟨g', fun f => ?_, q2⟩
    show cf_252_9 N X (cf_252_L1 N X (f + (d + 1))) w1 (Int32.ofNat i) (jM t g) = _
    unfold cf_252_9
    rw [if_neg (show ¬ (6 : Int32) ≤ Int32.ofNat i from fun q => by have := (i32le (a := 6) (by decide) (by omega)).mp q; omega)]
    unfold cf_252_15
    have e2 : kM (jM t g) i = some σ := e1
    rw [i32c (m := i) (by omega), if_pos (fun q => q.elim (i32n (by omega)) (by omega)), e2, i32sub (a := i) (by omega), i32c (m := i - 1) (by omega)]
    show (if ¬ (_ ∨ _) then _ else none) = _
    rw [if_pos (fun q => q.elim (i32n (by omega)) (by omega)), if_pos (show kH (jM t g) σ = true from hσ'), show Int32.ofNat i + 1 = Int32.ofNat (i + 1) from i32al]
    exact q1 f
theorem p_mark (hN : 8000 ≤ N) (h : iS S σ0 k μ t s) (hr : kN t + 20 < zz_out) : ∃ t' s' S' k' μ', ∃ v : Int32, cf_18 N X t = some (t', .inl (some (.int v))) ∧ mf_83 N s = some (s', some (.int v)) ∧ iS S' σ0 k' μ' t' s' ∧ lfr t t' ∧ kN t' ≤ kN t + 19 ∧ kQ t' ≤ kQ t + 51 + 9600 ∧ gA t σ0 ≤ gA t' σ0 ∧ mfM s s' := by
  have h' := h
  obtain ⟨h1, h2, h3, h4, ⟨h5, h50⟩, h6, h7, h8, h9⟩ := h'
  unfold cf_18 cf_18_0 mf_83 mf_83_0
  rw [h3, h4]
  by_cases e0 : k = 6
  · subst e0
    rw [if_neg (fun q => q rfl), if_neg (fun q => q rfl)]
    unfold cf_18_9 mf_83_9
    obtain ⟨g', q1, q2⟩ := c_dropL (N := N) (X := X) (t := t) (g0 := kM t) (w1 := μ 0) (h8 0 (by omega) _ (h9 0 (by omega)).1).1.1.1 (fun m hm => ⟨μ m, (h9 m hm).1, (h8 m hm _ (h9 m hm).1).1.1.1⟩) 5 1 (kM t) rfl (by omega) (fun m => by rw [if_neg (by omega)])
    have q1 := q1 (N - 6)
    rw [show N - 6 + (5 + 1) = N by omega] at q1
    have hc : cf_252 N X t = some (jI (jM t g') 0 9 (Int32.ofNat 5), .inl none) := by
      unfold cf_252 cf_252_0
      have e0 : Int32.toNatClampNeg (0 : Int32) = 0 := rfl
      rw [if_pos (by decide), e0, (h9 0 (by omega)).1]
      rw [h3] at q1
      exact q1
    obtain ⟨s1, r1, r2, r3, r4⟩ := r_dropL (N := N) (S := S) hN h7 40 8 s rfl (by omega) (fun j hj => (h6 j hj).2) (fun j a b => by
      have := ((h9 ((j - 8) / 8) (by omega)).2 ((j - 8) % 8) (by omega)).2
      rw [show 8 + 8 * ((j - 8) / 8) + (j - 8) % 8 = j by omega] at this
      exact this) (fun j a b => by
      have := ((h9 0 (by omega)).2 (j - 8) (by omega)).2
      rw [show 8 + 8 * 0 + (j - 8) = j by omega] at this
      exact this) (fun j a b => by omega)
    have r1 := r1 (N - 41)
    rw [show N - 41 + (40 + 1) = N by omega] at r1
    rw [hc]
    have eM : ∀ m, kM (jI (jM t g') 0 9 (Int32.ofNat 5)) m = if m = 5 then some (μ 0) else if m < 5 then kM t (m + 1) else kM t m := q2
    have eM' : ∀ m, m < 6 → kM (jI (jM t g') 0 9 (Int32.ofNat 5)) m = some (if m = 5 then μ 0 else μ (m + 1)) := fun m hm => by
      rw [eM]
      by_cases c : m = 5
      · rw [if_pos c, if_pos c]
      · rw [if_neg c, if_neg c, if_pos (by omega)]
        exact (h9 (m + 1) (by omega)).1
    have inj : ∀ a b, a < 6 → b < 6 → μ a = μ b → a = b := fun a b ha hb q => (h8 a ha _ (h9 a ha).1).2.2 b (μ b) hb (h9 b hb).1 q
    have hi : iS (fun i => if i < 8 then S i else S (i + 8)) σ0 5 (fun m => if m = 5 then μ 0 else μ (m + 1)) (jI (jM t g') 0 9 (Int32.ofNat 5)) (mI s1 88 5) := by
      refine ⟨by omega, h2, rfl, rfl, ⟨h5, h50⟩, fun j hj => ?_, fun j x hx => ?_, fun m hm σ hσ => ?_, fun m hm => ⟨eM' m (by omega), fun j hj => ?_⟩⟩
      · show cS1 t σ0 j (serO (if j < 8 then S j else _)) ∧ rSl (s1.2.2.1 47) j (if j < 8 then S j else _)
        rw [if_pos hj]
        exact ⟨(h6 j hj).1, r2 j hj⟩
      · have hx : (if j < 8 then S j else S (j + 8)) = some x := hx
        by_cases c : j < 8
        · rw [if_pos c] at hx
          exact h7 _ x hx
        · rw [if_neg c] at hx
          exact h7 _ x hx
      · rw [eM' m hm] at hσ
        cases hσ
        have hb : ∃ b, b < 6 ∧ (if m = 5 then μ 0 else μ (m + 1)) = μ b ∧ b = if m = 5 then 0 else m + 1 := by
          by_cases c : m = 5
          · exact ⟨0, by omega, by rw [if_pos c], by rw [if_pos c]⟩
          · exact ⟨m + 1, by omega, by rw [if_neg c], by rw [if_neg c]⟩
        obtain ⟨b, hb1, hb2, hb3⟩ := hb
        rw [hb2]
        obtain ⟨p1, p2, p3⟩ := h8 b hb1 _ (h9 b hb1).1
        refine ⟨p1, p2, fun m' σ' u1 u2 u3 => ?_⟩
        rw [eM' m' u1] at u2
        cases u2
        by_cases c : m' = 5
        · rw [if_pos c] at u3
          have := inj b 0 hb1 (by omega) u3
          by_cases c2 : m = 5
          · omega
          · rw [if_neg c2] at hb3
            omega
        · rw [if_neg c] at u3
          have := inj b (m' + 1) hb1 (by omega) u3
          by_cases c2 : m = 5
          · rw [if_pos c2] at hb3
            omega
          · rw [if_neg c2] at hb3
            omega
      · show cS1 t (if m = 5 then μ 0 else μ (m + 1)) j (serO (if 8 + 8 * m + j < 8 then _ else S (8 + 8 * m + j + 8))) ∧ rSl (s1.2.2.1 47) (8 + 8 * m + j) (if 8 + 8 * m + j < 8 then _ else S (8 + 8 * m + j + 8))
        rw [if_neg (by omega), if_neg (by omega)]
        have := ((h9 (m + 1) (by omega)).2 j hj).1
        rw [show 8 + 8 * (m + 1) + j = 8 + 8 * m + j + 8 by omega] at this
        exact ⟨this, r3 _ (by omega) (by omega)⟩
    obtain ⟨t', s', S', μ', u1, u2, u3, u4, u5, u6, u7, u8⟩ := mk_13 (N := N) (X := X) hN hi (by omega) hr
    refine ⟨t', s', S', 6, μ', _, u1, r1.trans u2, u3, lfr.tr (t1 := jI (jM t g') 0 9 (Int32.ofNat 5)) ⟨fun a f _ q => if_neg q, rfl, fun _ _ _ => rfl, fun _ _ _ => rfl, fun _ _ _ => rfl, Nat.le_refl _⟩ u4, u5, u6, Nat.le_trans (Nat.le_of_eq ?_) u7, mfr.tr (s1 := mI s1 88 5) ⟨fun q r => (if_neg r).trans (r4.1 q (fun z => z)), r4.2.1, r4.2.2.1, r4.2.2.2⟩ u8⟩
    unfold gA
    have hO : ∀ o, gO (jI (jM t g') 0 9 (Int32.ofNat 5)) o = gO t o := fun o => by cases o <;> rfl
    show gS t σ0 + (0 + gO t (kM t 0) + gO t (kM t 1) + gO t (kM t 2) + gO t (kM t 3) + gO t (kM t 4) + gO t (kM t 5)) = gS t σ0 + (0 + gO _ (kM (jI (jM t g') 0 9 (Int32.ofNat 5)) 0) + gO _ (kM (jI (jM t g') 0 9 (Int32.ofNat 5)) 1) + gO _ (kM (jI (jM t g') 0 9 (Int32.ofNat 5)) 2) + gO _ (kM (jI (jM t g') 0 9 (Int32.ofNat 5)) 3) + gO _ (kM (jI (jM t g') 0 9 (Int32.ofNat 5)) 4) + gO _ (kM (jI (jM t g') 0 9 (Int32.ofNat 5)) 5))
    rw [hO, hO, hO, hO, hO, hO, eM' 0 (by omega), eM' 1 (by omega), eM' 2 (by omega), eM' 3 (by omega), eM' 4 (by omega), eM' 5 (by omega), (h9 0 (by omega)).1, (h9 1 (by omega)).1, (h9 2 (by omega)).1, (h9 3 (by omega)).1, (h9 4 (by omega)).1, (h9 5 (by omega)).1]
    show gS t σ0 + (0 + gS t (μ 0) + gS t (μ 1) + gS t (μ 2) + gS t (μ 3) + gS t (μ 4) + gS t (μ 5)) = gS t σ0 + (0 + gS t (μ 1) + gS t (μ 2) + gS t (μ 3) + gS t (μ 4) + gS t (μ 5) + gS t (μ 0))
    omega
  · have e00 : ¬ Int32.ofNat k = 6 := fun q => e0 ((i32eq (b := 6) (by omega) (by decide)).mp q)
    rw [if_pos e00, if_pos e00]
    obtain ⟨t', s', S', μ', u1, u2, u3, u4, u5, u6, u7, u8⟩ := mk_13 (N := N) (X := X) hN h (by omega) hr
    exact ⟨t', s', S', k + 1, μ', _, u1, u2, u3, u4, u5, u6, u7, u8⟩
end PO
end
-- ### 57.psum.lean.txt
section
/-! ===== PURE: sum (the reference's) ===== -/
def mx (z : Int64) (l : List Int32) : Int64 := l.foldl (fun z v => (z * 1000003) ^^^ v.toInt64) z
theorem mx_app {z : Int64} {l l' : List Int32} : mx z (l ++ l') = mx (mx z l) l' := List.foldl_append ..
theorem mx_cons {z : Int64} {v : Int32} {l : List Int32} : mx z (v :: l) = mx (mx z [v]) l := rfl
theorem mL_mL {s : mS} {k : Nat} {x y : Int64} : mL (mL s k x) k y = mL s k y := by
  unfold mL
  refine Prod.ext rfl (Prod.ext (funext fun q => ?_) rfl)
  show (if q = k then y else if q = k then x else s.2.1 q) = if q = k then y else s.2.1 q
  by_cases e : q = k
  · rw [if_pos e, if_pos e]
  · rw [if_neg e, if_neg e, if_neg e]
theorem mL_id {s : mS} {k : Nat} : mL s k (s.2.1 k) = s := by
  unfold mL
  refine Prod.ext rfl (Prod.ext (funext fun q => ?_) rfl)
  show (if q = k then s.2.1 k else s.2.1 q) = s.2.1 q
  by_cases e : q = k
  · rw [if_pos e, e]
  · rw [if_neg e]
def serV : Vw → List Int32
  | .inl z => [0, z]
  | .inr (.inl r) => 1 :: serRow r
  | .inr (.inr (.inl q)) => 2 :: Int32.ofNat q.length :: q.flatMap serRow
  | .inr (.inr (.inr l)) => 3 :: Int32.ofNat l.2.length :: l.2.flatMap (ser l.1)
theorem vw_ser : ∀ x : Nod, ser x.1 x.2 = serV (vw x)
  | ⟨0, p⟩ => by
    obtain z | r | q := p <;> rfl
  | ⟨n + 1, x⟩ => by
    obtain p | l := x
    · obtain z | r | q := p <;> rfl
    · rfl
section SU
variable {N : Nat} {s : mS} {a : Nat} {P : Nat → Nod → Prop}
theorem r_mix {v : Int32} {z : Int64} : mf_87 N v (mL s 89 z) = some (mL s 89 (mx z [v]), none) := by
  unfold mf_87 mf_87_0
  rw [mL_mL]
  rfl
theorem r_mixRowL {r : List Int32} (H : Wy (s.2.2.1 47) a P (vR r)) (ha : a + wV wn (vR r) ≤ 166300) : ∀ (d i f : Nat) (z : Int64), i + d = r.length → mf_353_L1 N (f + (d + 1)) 0 (Int32.ofNat a) (Int32.ofNat i) (mL s 89 z) = some (mL s 89 (mx z (r.drop i)), none) := by
  have hw : a + (2 + r.length) ≤ 166300 := ha
  intro d
  induction d with
  | zero =>
    intro i f z hi
    have hi : i = r.length := hi
    subst hi
    rw [List.drop_length]
    show mf_353_11 N (mf_353_L1 N f) (Int32.ofNat a) (Int32.ofNat r.length) (mL s 89 z) = _
    unfold mf_353_11
    rw [r_size (s := mL s 89 z) H ha]
    show mf_353_17 N (mf_353_L1 N f) (Int32.ofNat a) (Int32.ofNat r.length) (Int32.ofNat r.length) (Int32.ofNat r.length) (mL s 89 z) = _
    unfold mf_353_17
    rw [if_pos ((i32le (by omega) (by omega)).mpr (Nat.le_refl _))]
    rfl
  | succ d ih =>
    intro i f z hi
    have hi' : i < r.length := by omega
    show mf_353_11 N (mf_353_L1 N (f + (d + 1))) (Int32.ofNat a) (Int32.ofNat i) (mL s 89 z) = _
    unfold mf_353_11
    rw [r_size (s := mL s 89 z) H ha]
    show mf_353_17 N (mf_353_L1 N (f + (d + 1))) (Int32.ofNat a) (Int32.ofNat i) (Int32.ofNat i) (Int32.ofNat r.length) (mL s 89 z) = _
    unfold mf_353_17
    rw [if_neg (fun q => by have := (i32le (by omega) (by omega)).mp q; omega)]
    unfold mf_353_20
    have e2 : Int32.ofNat a + 2 + Int32.ofNat i = Int32.ofNat (a + 2 + i) := by
      rw [show Int32.ofNat a + 2 = Int32.ofNat (a + 2) from i32al, i32add]
    have e3 : (mL s 89 z).2.2.1 47 (a + 2 + i) = r[i] := H.2.2 i hi'
    rw [if_pos (gd e2 (by omega) (by decide)), cl e2 (by omega), e3, r_mix]
    show mf_353_L1 N (f + (d + 1)) 0 (Int32.ofNat a) (Int32.ofNat i + 1) _ = _
    rw [show Int32.ofNat i + 1 = Int32.ofNat (i + 1) from i32al, ih (i + 1) f _ (by omega), List.drop_eq_getElem_cons hi']
    rfl
theorem r_mixRow (hN : 170000 ≤ N) {r : List Int32} {z : Int64} (H : Wy (s.2.2.1 47) a P (vR r)) (ha : a + wV wn (vR r) ≤ 166300) : mf_353 N (Int32.ofNat a) (mL s 89 z) = some (mL s 89 (mx z (serRow r)), none) := by
  have hw : a + (2 + r.length) ≤ 166300 := ha
  unfold mf_353 mf_353_0
  rw [r_size (s := mL s 89 z) H ha]
  show mo_bv (mf_87 N (Int32.ofNat r.length) (mL s 89 z)) _ = _
  rw [r_mix]
  have e := r_mixRowL (N := N) H ha r.length 0 (N - (r.length + 1)) (mx z [Int32.ofNat r.length]) (Nat.zero_add _)
  rw [show N - (r.length + 1) + (r.length + 1) = N by omega] at e
  exact e
theorem r_mixTabL {q : List (List Int32)} {R : Nat → Prop} (hN : 170000 ≤ N) (hR : ∀ y, R y → y < 166300) (H : Wy (s.2.2.1 47) a (LayN (s.2.2.1 47) R) (vT q)) (ha : a + wV wn (vT q) ≤ 166300) : ∀ (d i f : Nat) (z : Int64), i + d = q.length → mf_354_L1 N (f + (d + 1)) 0 (Int32.ofNat a) (Int32.ofNat i) (mL s 89 z) = some (mL s 89 (mx z ((q.drop i).flatMap serRow)), none) := by
  have hw : a + (2 + q.length) ≤ 166300 := ha
  intro d
  induction d with
  | zero =>
    intro i f z hi
    have hi : i = q.length := hi
    subst hi
    rw [List.drop_length]
    show mf_354_37 N (mf_354_L1 N f) (Int32.ofNat a) (Int32.ofNat q.length) (mL s 89 z) = _
    unfold mf_354_37
    rw [r_size (s := mL s 89 z) H ha]
    show mf_354_43 N (mf_354_L1 N f) (Int32.ofNat a) (Int32.ofNat q.length) (Int32.ofNat q.length) (Int32.ofNat q.length) (mL s 89 z) = _
    unfold mf_354_43
    rw [if_pos ((i32le (by omega) (by omega)).mpr (Nat.le_refl _))]
    rfl
  | succ d ih =>
    intro i f z hi
    have hi' : i < q.length := by omega
    show mf_354_37 N (mf_354_L1 N (f + (d + 1))) (Int32.ofNat a) (Int32.ofNat i) (mL s 89 z) = _
    unfold mf_354_37
    rw [r_size (s := mL s 89 z) H ha]
    show mf_354_43 N (mf_354_L1 N (f + (d + 1))) (Int32.ofNat a) (Int32.ofNat i) (Int32.ofNat i) (Int32.ofNat q.length) (mL s 89 z) = _
    unfold mf_354_43
    rw [if_neg (fun q => by have := (i32le (by omega) (by omega)).mp q; omega)]
    unfold mf_354_46
    obtain ⟨c, g1, g2⟩ := r_partT (N := N) (s := mL s 89 z) H ha hi'
    rw [g1]
    obtain ⟨L1, L2⟩ := LayN_iff.mp g2
    obtain ⟨-, -, k3⟩ := L2.kd
    have hc : c + wV wn (vw (nR q[i])) ≤ 166300 := by
      have := hR _ (L1 (c + wV wn (vw (nR q[i])) - 1) (by omega) (by omega))
      omega
    show mf_354_53 N (mf_354_L1 N (f + (d + 1))) (Int32.ofNat a) (Int32.ofNat i) (Int32.ofNat c) (mL s 89 z) = _
    unfold mf_354_53
    rw [r_mixRow (s := s) hN L2 hc]
    show mf_354_L1 N (f + (d + 1)) 0 (Int32.ofNat a) (Int32.ofNat i + 1) _ = _
    rw [show Int32.ofNat i + 1 = Int32.ofNat (i + 1) from i32al, ih (i + 1) f _ (by omega), List.drop_eq_getElem_cons hi', List.flatMap_cons, mx_app]
theorem r_mixPlain (hN : 170000 ≤ N) {R : Nat → Prop} (hR : ∀ y, R y → y < 166300) {v : Vw} {z : Int64} (hk : ¬ kdV v = 3) (H : Wy (s.2.2.1 47) a (LayN (s.2.2.1 47) R) v) (ha : a + wV wn v ≤ 166300) : mf_354 N (Int32.ofNat a) (mL s 89 z) = some (mL s 89 (mx z (serV v)), none) := by
  obtain ⟨k1, k2, k3⟩ := H.kd
  have e0 : ∀ z, (mL s 89 z).2.2.1 47 a = kdV v := fun _ => k1
  unfold mf_354 mf_354_0
  rw [if_pos (gd rfl (by omega) (by decide)), i32c (m := a) (by omega), e0, r_mix]
  show mf_354_10 N (Int32.ofNat a) (mL s 89 (mx z [kdV v])) = _
  unfold mf_354_10
  rw [if_pos (gd rfl (by omega) (by decide)), i32c (m := a) (by omega), e0]
  obtain y | r | q | ⟨n, l⟩ := v
  · exact H.elim
  · rw [if_neg (fun q => q rfl)]
    unfold mf_354_20
    have es : serV (vR r) = kdV (vR r) :: serRow r := rfl
    rw [r_mixRow hN H ha, es, mx_cons (l := serRow r)]
    generalize mx (mx z [kdV (vR r)]) (serRow r) = w
    rfl
  · rw [if_pos (show ¬ kdV (vT q) = 1 from (show ¬ (2 : Int32) = 1 by decide))]
    have hw : a + (2 + q.length) ≤ 166300 := ha
    unfold mf_354_26
    rw [r_size (s := mL s 89 _) H ha]
    show mo_bv (mf_87 N (Int32.ofNat q.length) (mL s 89 _)) _ = _
    rw [r_mix]
    have e := r_mixTabL (N := N) hN hR H ha q.length 0 (N - (q.length + 1)) (mx (mx z [kdV (vT q)]) [Int32.ofNat q.length]) (Nat.zero_add _)
    rw [show N - (q.length + 1) + (q.length + 1) = N by omega, List.drop_zero] at e
    have es : serV (vT q) = kdV (vT q) :: Int32.ofNat q.length :: q.flatMap serRow := rfl
    rw [es, mx_cons (l := Int32.ofNat q.length :: q.flatMap serRow), mx_cons (l := q.flatMap serRow)]
    generalize mx (mx (mx z [kdV (vT q)]) [Int32.ofNat q.length]) (q.flatMap serRow) = w at e ⊢
    generalize mx (mx z [kdV (vT q)]) [Int32.ofNat q.length] = w' at e ⊢
    exact e
  · exact absurd rfl hk
end SU
end
