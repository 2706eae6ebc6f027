/-! ===== PURE: run (23): the signs between two values, the reference ===== -/
section TWR
variable {N sg : Nat} {s s' : mS} {n f f' m i : Nat} {x y : Nod} {xs : List Nod} {k v : Int32}
theorem kn2 {x : Nod} (h : kn x = 2) : ∃ q, vw x = vT q := by
  have h : knV (vw x) = 2 := h
  revert h
  generalize vw x = V
  intro h
  obtain z | r | q | l := V
  · cases h
  · cases h
  · exact ⟨q, rfl⟩
  · cases h
theorem r_bsd (H : rvl (s.2.2.1 47) f k v x) (hf : f ≤ 166300) (h3 : kn x ≤ 2) (hi : kn x = 2 → i < szN x) (hw : wfN x) : (kn x = 0 ∧ bsd x i = .inl v ∧ mf_320 N k v (Int32.ofNat i) s = some (s, some (.int (-Int32.ofNat 1)))) ∨ ∃ a r, bsd x i = .inr r ∧ mf_320 N k v (Int32.ofNat i) s = some (s, some (.int (Int32.ofNat a))) ∧ LayN (s.2.2.1 47) (Rf f) a (nR r) ∧ r.length ≤ 64 := by
  rcases rvl.kz H with ⟨k1, k2⟩ | ⟨k1, k2, a, k3, k4⟩
  · left
    refine ⟨k2, ?_, ?_⟩
    · rcases H with ⟨-, q⟩ | ⟨-, q, -⟩
      · have e := kn0 k2
        rw [e] at q
        show bsdV (vw x) i = _
        rw [e]
        exact congrArg Sum.inl (Option.some.inj q)
      · rw [kn0 k2] at q
        cases q
    · unfold mf_320 mf_320_0 mf_320_4 mf_320_28
      simp (disch := omega) only [ev_S, ev_P, ↓reduceIte, Nat.reduceEqDiff, Nat.reduceLeDiff, Nat.reduceAdd, Nat.reduceMul, Nat.reduceSub, reduceCtorEq, l32_0, l32_1, l32_2, l32_3, l32_4, l32_5, l32_6, l32_7, l32_8, l32_9, l32_10, l32_11, l32_12, l32_13, l32_14, l32_15, l32_16, l32_17, l32_18, l32_19, l32_20, l32_21, l32_22, l32_23, l32_24, l32_25, l32_26, l32_27, l32_28, l32_29, l32_33, l32_40, l32_41, l32_44, l32_45, l32_59, l32_61, l32_91, l32_93, l32_123, l32_125, k1]
  · right
    have hlt := LayN.lt k4
    have L := LayN_iff.mp k4
    have kd := L.2.kd.1
    have wv := vw_wf x hw
    by_cases c : kn x = 1
    · have e := kn1 c
      refine ⟨a, rvN x, ?_, ?_, LayN_vw e.symm k4, ?_⟩
      · show bsdV (vw x) i = _
        rw [e]
        rfl
      · have kd : s.2.2.1 47 a = Int32.ofNat 1 := by rw [kd, e]; rfl
        unfold mf_320 mf_320_0 mf_320_8 mf_320_27 mf_320_28
        simp (disch := omega) only [ev_S, ev_P, ↓reduceIte, Nat.reduceEqDiff, Nat.reduceLeDiff, Nat.reduceAdd, Nat.reduceMul, Nat.reduceSub, reduceCtorEq, l32_0, l32_1, l32_2, l32_3, l32_4, l32_5, l32_6, l32_7, l32_8, l32_9, l32_10, l32_11, l32_12, l32_13, l32_14, l32_15, l32_16, l32_17, l32_18, l32_19, l32_20, l32_21, l32_22, l32_23, l32_24, l32_25, l32_26, l32_27, l32_28, l32_29, l32_33, l32_40, l32_41, l32_44, l32_45, l32_59, l32_61, l32_91, l32_93, l32_123, l32_125, k1, k3, kd]
      · rw [e] at wv
        exact wv
    · obtain ⟨q, e⟩ := kn2 (x := x) (by omega)
      have hi := hi (by omega)
      have hsq : szN x = q.length := by show szV (vw x) = _; rw [e]; rfl
      rw [e] at L wv hlt
      rw [hsq] at hi
      obtain ⟨c, c1, c2⟩ := r_partT (N := N) L.2 (Nat.le_trans hlt.1 hf) hi
      refine ⟨c, q[i], ?_, ?_, c2, wv.2.2 _ (List.getElem_mem hi)⟩
      · show bsdV (vw x) i = _
        rw [e]
        show Sum.inr (q.getD i []) = _
        rw [List.getD_eq_getElem?_getD, List.getElem?_eq_getElem hi]
        rfl
      · have kd : s.2.2.1 47 a = Int32.ofNat 2 := by rw [kd, e]; rfl
        unfold mf_320 mf_320_0 mf_320_8 mf_320_18 mf_320_24 mf_320_28
        simp (disch := omega) only [ev_S, ev_P, ↓reduceIte, Nat.reduceEqDiff, Nat.reduceLeDiff, Nat.reduceAdd, Nat.reduceMul, Nat.reduceSub, reduceCtorEq, l32_0, l32_1, l32_2, l32_3, l32_4, l32_5, l32_6, l32_7, l32_8, l32_9, l32_10, l32_11, l32_12, l32_13, l32_14, l32_15, l32_16, l32_17, l32_18, l32_19, l32_20, l32_21, l32_22, l32_23, l32_24, l32_25, l32_26, l32_27, l32_28, l32_29, l32_33, l32_40, l32_41, l32_44, l32_45, l32_59, l32_61, l32_91, l32_93, l32_123, l32_125, k1, k3, kd, c1]
theorem r_bsdS (H : rvl (s.2.2.1 47) f k v x) (hs : s'.2.2.1 47 = s.2.2.1 47) : rvl (s'.2.2.1 47) f k v x := by rw [hs]; exact H
theorem any_t {n i : Nat} {p : Nat → Bool} (hi : i < n) (h : p i = true) : (List.range n).any p = true := List.any_eq_true.mpr ⟨i, List.mem_range.mpr hi, h⟩
theorem any_s {i : Nat} {p : Nat → Bool} : (List.range (i + 1)).any p = ((List.range i).any p || p i) := by
  rw [List.range_succ, List.any_append, List.any_cons, List.any_nil, Bool.or_false]
theorem rws_le (wx : wfN x) (wy : wfN y) : rws x y ≤ 20 := by
  have h : ∀ {x : Nod}, wfN x → kn x = 2 → szN x ≤ 20 := fun {x} w h => by
    obtain ⟨q, e⟩ := kn2 h
    have wv := vw_wf x w
    show szV (vw x) ≤ 20
    rw [e] at wv ⊢
    exact wv.1
  unfold rws
  by_cases c : kn x = 2
  · rw [if_pos c]
    exact h wx c
  · rw [if_neg c]
    by_cases d : kn y = 2
    · rw [if_pos d]
      exact h wy d
    · rw [if_neg d]
      omega
/-- row by row: are the values unlike? -/
theorem r_unl {s1 : mS} {x1 x10 x8 x9 xk xv yk yv : Int32} (hN : 170000 ≤ N) (hx : rvl (s1.2.2.1 47) f xk xv x) (hy : rvl (s1.2.2.1 47) f yk yv y) (hf : f ≤ 166300) (wx : wfN x) (wy : wfN y) (h3 : kn x ≤ 2) (h3' : kn y ≤ 2) (b0 : Bool) (hb : b0 = false → kn x = 2 → kn y = 2 → szN x = szN y) : mf_321_L14 N N 0 x1 x10 (Int32.ofNat (rws x y)) (bI b0) (Int32.ofNat 0) xk xv yk yv x8 x9 s1 = mf_321_336 N x1 xk xv yk yv x8 x9 x10 (Int32.ofNat (rws x y)) (bI (b0 || (List.range (rws x y)).any fun i => unl (bsd x i) (bsd y i))) s1 := by
  have hR := rws_le wx wy
  exact lp (fun F i (a : Bool) => mf_321_L14 N F 0 x1 x10 (Int32.ofNat (rws x y)) (bI a) (Int32.ofNat i) xk xv yk yv x8 x9 s1) (rws x y) (fun i a => a = (b0 || (List.range i).any fun i => unl (bsd x i) (bsd y i)) ∧ (b0 = true → a = true)) (fun R => R = mf_321_336 N x1 xk xv yk yv x8 x9 x10 (Int32.ofNat (rws x y)) (bI (b0 || (List.range (rws x y)).any fun i => unl (bsd x i) (bsd y i))) s1) (by
    intro F i a hi hP _
    obtain ⟨hP, hb'⟩ := hP
    have n1 : ¬ rws x y ≤ i := by omega
    cases ha : a with
    | true =>
      right
      have : (b0 || (List.range (rws x y)).any fun i => unl (bsd x i) (bsd y i)) = true := by
        rw [ha] at hP
        have hP := hP.symm
        rw [Bool.or_eq_true] at hP ⊢
        rcases hP with h | h
        · exact Or.inl h
        · right
          obtain ⟨j, j1, j2⟩ := List.any_eq_true.mp h
          exact any_t (by have := List.mem_range.mp j1; omega) j2
      rw [this]
      show mf_321_264 N (mf_321_L14 N F) x1 xk xv yk yv x8 x9 x10 (Int32.ofNat (rws x y)) (bI true) (Int32.ofNat i) s1 = _
      unfold mf_321_264 mf_321_271
      simp only [bI]
      simp (disch := omega) only [ev_S, ev_P, ↓reduceIte, Nat.reduceEqDiff, Nat.reduceLeDiff, Nat.reduceAdd, Nat.reduceMul, Nat.reduceSub, reduceCtorEq, l32_0, l32_1, l32_2, l32_3, l32_4, l32_5, l32_6, l32_7, l32_8, l32_9, l32_10, l32_11, l32_12, l32_13, l32_14, l32_15, l32_16, l32_17, l32_18, l32_19, l32_20, l32_21, l32_22, l32_23, l32_24, l32_25, l32_26, l32_27, l32_28, l32_29, l32_33, l32_40, l32_41, l32_44, l32_45, l32_59, l32_61, l32_91, l32_93, l32_123, l32_125, n1]
    | false =>
      left
      have hb0 : b0 = false := by
        cases h : b0 with
        | false => rfl
        | true =>
          rw [hb' h] at ha
          cases ha
      have hix : kn x = 2 → i < szN x := fun c => by
        unfold rws at hi
        rw [if_pos c] at hi
        exact hi
      have hiy : kn y = 2 → i < szN y := fun c => by
        unfold rws at hi
        by_cases d : kn x = 2
        · rw [if_pos d] at hi
          rw [← hb hb0 d c]
          exact hi
        · rw [if_neg d, if_pos c] at hi
          exact hi
      refine ⟨unl (bsd x i) (bsd y i), ⟨?_, fun z => by rw [hb0] at z; cases z⟩, ?_⟩
      · rw [any_s, ← Bool.or_assoc, ← hP, ha, Bool.false_or]
      show mf_321_264 N (mf_321_L14 N F) x1 xk xv yk yv x8 x9 x10 (Int32.ofNat (rws x y)) (bI false) (Int32.ofNat i) s1 = mf_321_L14 N F 0 x1 x10 (Int32.ofNat (rws x y)) (bI (unl (bsd x i) (bsd y i))) (Int32.ofNat (i + 1)) xk xv yk yv x8 x9 s1
      have e0 : mf_321_264 N (mf_321_L14 N F) x1 xk xv yk yv x8 x9 x10 (Int32.ofNat (rws x y)) (bI false) (Int32.ofNat i) s1 = mf_321_276 N (mf_321_L14 N F) x1 xk xv yk yv x8 x9 x10 (Int32.ofNat (rws x y)) (Int32.ofNat i) s1 := by
        simp only [bI]
        unfold mf_321_264 mf_321_271
        simp (disch := omega) only [ev_S, ev_P, ↓reduceIte, Nat.reduceEqDiff, Nat.reduceLeDiff, Nat.reduceAdd, Nat.reduceMul, Nat.reduceSub, reduceCtorEq, l32_0, l32_1, l32_2, l32_3, l32_4, l32_5, l32_6, l32_7, l32_8, l32_9, l32_10, l32_11, l32_12, l32_13, l32_14, l32_15, l32_16, l32_17, l32_18, l32_19, l32_20, l32_21, l32_22, l32_23, l32_24, l32_25, l32_26, l32_27, l32_28, l32_29, l32_33, l32_40, l32_41, l32_44, l32_45, l32_59, l32_61, l32_91, l32_93, l32_123, l32_125, n1]
      rw [e0]
      rcases r_bsd (N := N) (i := i) hx hf h3 hix wx with ⟨-, p2, p3⟩ | ⟨p, r, p2, p3, p4, p5⟩
      · rw [p2]
        rcases r_bsd (N := N) (i := i) hy hf h3' hiy wy with ⟨-, q2, q3⟩ | ⟨q, r', q2, q3, q4, q5⟩
        · rw [q2]
          show _ = mf_321_L14 N F 0 x1 x10 (Int32.ofNat (rws x y)) (Int32.ofNat 0) (Int32.ofNat (i + 1)) xk xv yk yv x8 x9 s1
          unfold mf_321_276 mf_321_284 mf_321_296 mf_321_327 mf_321_328
          simp (disch := omega) only [ev_S, ev_P, ↓reduceIte, Nat.reduceEqDiff, Nat.reduceLeDiff, Nat.reduceAdd, Nat.reduceMul, Nat.reduceSub, reduceCtorEq, l32_0, l32_1, l32_2, l32_3, l32_4, l32_5, l32_6, l32_7, l32_8, l32_9, l32_10, l32_11, l32_12, l32_13, l32_14, l32_15, l32_16, l32_17, l32_18, l32_19, l32_20, l32_21, l32_22, l32_23, l32_24, l32_25, l32_26, l32_27, l32_28, l32_29, l32_33, l32_40, l32_41, l32_44, l32_45, l32_59, l32_61, l32_91, l32_93, l32_123, l32_125, p3, q3]
        · rw [q2]
          show _ = mf_321_L14 N F 0 x1 x10 (Int32.ofNat (rws x y)) (Int32.ofNat 0) (Int32.ofNat (i + 1)) xk xv yk yv x8 x9 s1
          unfold mf_321_276 mf_321_284 mf_321_296 mf_321_327 mf_321_328
          simp (disch := omega) only [ev_S, ev_P, ↓reduceIte, Nat.reduceEqDiff, Nat.reduceLeDiff, Nat.reduceAdd, Nat.reduceMul, Nat.reduceSub, reduceCtorEq, l32_0, l32_1, l32_2, l32_3, l32_4, l32_5, l32_6, l32_7, l32_8, l32_9, l32_10, l32_11, l32_12, l32_13, l32_14, l32_15, l32_16, l32_17, l32_18, l32_19, l32_20, l32_21, l32_22, l32_23, l32_24, l32_25, l32_26, l32_27, l32_28, l32_29, l32_33, l32_40, l32_41, l32_44, l32_45, l32_59, l32_61, l32_91, l32_93, l32_123, l32_125, p3, q3]
      · rw [p2]
        have pl := (LayN.lt p4).1
        rw [show wV wn (vw (nR r)) = 2 + r.length from rfl] at pl
        rcases r_bsd (N := N) (i := i) hy hf h3' hiy wy with ⟨-, q2, q3⟩ | ⟨q, r', q2, q3, q4, q5⟩
        · rw [q2]
          show _ = mf_321_L14 N F 0 x1 x10 (Int32.ofNat (rws x y)) (Int32.ofNat 0) (Int32.ofNat (i + 1)) xk xv yk yv x8 x9 s1
          unfold mf_321_276 mf_321_284 mf_321_296 mf_321_303 mf_321_327 mf_321_328
          simp (disch := omega) only [ev_S, ev_P, ↓reduceIte, Nat.reduceEqDiff, Nat.reduceLeDiff, Nat.reduceAdd, Nat.reduceMul, Nat.reduceSub, reduceCtorEq, l32_0, l32_1, l32_2, l32_3, l32_4, l32_5, l32_6, l32_7, l32_8, l32_9, l32_10, l32_11, l32_12, l32_13, l32_14, l32_15, l32_16, l32_17, l32_18, l32_19, l32_20, l32_21, l32_22, l32_23, l32_24, l32_25, l32_26, l32_27, l32_28, l32_29, l32_33, l32_40, l32_41, l32_44, l32_45, l32_59, l32_61, l32_91, l32_93, l32_123, l32_125, p3, q3]
        · rw [q2]
          have ql := (LayN.lt q4).1
          rw [show wV wn (vw (nR r')) = 2 + r'.length from rfl] at ql
          have z1 := r_size (N := N) (s := s1) (LayN_iff.mp p4).2 (Nat.le_trans (LayN.lt p4).1 hf)
          have z1 : mf_77 N (Int32.ofNat p) s1 = some (s1, some (.int (Int32.ofNat r.length))) := z1
          have z2 := r_size (N := N) (s := s1) (LayN_iff.mp q4).2 (Nat.le_trans (LayN.lt q4).1 hf)
          have z2 : mf_77 N (Int32.ofNat q) s1 = some (s1, some (.int (Int32.ofNat r'.length))) := z2
          show _ = mf_321_L14 N F 0 x1 x10 (Int32.ofNat (rws x y)) (bI (!(r.length == r'.length))) (Int32.ofNat (i + 1)) xk xv yk yv x8 x9 s1
          rw [show (r.length == r'.length) = decide (r.length = r'.length) from rfl]
          by_cases c : r.length = r'.length
          · rw [decide_eq_true c]
            simp only [bI]
            unfold mf_321_276 mf_321_284 mf_321_296 mf_321_303 mf_321_308 mf_321_314 mf_321_320 mf_321_327 mf_321_328
            simp (disch := omega) only [ev_S, ev_P, ↓reduceIte, Nat.reduceEqDiff, Nat.reduceLeDiff, Nat.reduceAdd, Nat.reduceMul, Nat.reduceSub, reduceCtorEq, l32_0, l32_1, l32_2, l32_3, l32_4, l32_5, l32_6, l32_7, l32_8, l32_9, l32_10, l32_11, l32_12, l32_13, l32_14, l32_15, l32_16, l32_17, l32_18, l32_19, l32_20, l32_21, l32_22, l32_23, l32_24, l32_25, l32_26, l32_27, l32_28, l32_29, l32_33, l32_40, l32_41, l32_44, l32_45, l32_59, l32_61, l32_91, l32_93, l32_123, l32_125, p3, q3, z1, z2, c]
            rfl
          · rw [decide_eq_false c]
            simp only [bI]
            unfold mf_321_276 mf_321_284 mf_321_296 mf_321_303 mf_321_308 mf_321_314 mf_321_320 mf_321_323 mf_321_328
            simp (disch := omega) only [ev_S, ev_P, ↓reduceIte, Nat.reduceEqDiff, Nat.reduceLeDiff, Nat.reduceAdd, Nat.reduceMul, Nat.reduceSub, reduceCtorEq, l32_0, l32_1, l32_2, l32_3, l32_4, l32_5, l32_6, l32_7, l32_8, l32_9, l32_10, l32_11, l32_12, l32_13, l32_14, l32_15, l32_16, l32_17, l32_18, l32_19, l32_20, l32_21, l32_22, l32_23, l32_24, l32_25, l32_26, l32_27, l32_28, l32_29, l32_33, l32_40, l32_41, l32_44, l32_45, l32_59, l32_61, l32_91, l32_93, l32_123, l32_125, p3, q3, z1, z2, c]
            rfl) (by
    intro F a hP
    have hP := hP.1
    subst hP
    show mf_321_264 N (mf_321_L14 N F) x1 xk xv yk yv x8 x9 x10 (Int32.ofNat (rws x y)) _ (Int32.ofNat (rws x y)) s1 = _
    unfold mf_321_264
    simp (disch := omega) only [ev_S, ev_P, ↓reduceIte, Nat.reduceEqDiff, Nat.reduceLeDiff, Nat.reduceAdd, Nat.reduceMul, Nat.reduceSub, reduceCtorEq, l32_0, l32_1, l32_2, l32_3, l32_4, l32_5, l32_6, l32_7, l32_8, l32_9, l32_10, l32_11, l32_12, l32_13, l32_14, l32_15, l32_16, l32_17, l32_18, l32_19, l32_20, l32_21, l32_22, l32_23, l32_24, l32_25, l32_26, l32_27, l32_28, l32_29, l32_33, l32_40, l32_41, l32_44, l32_45, l32_59, l32_61, l32_91, l32_93, l32_123, l32_125]) (rws x y) 0 N b0 (Nat.zero_add _) (by omega) ⟨by rw [List.range_zero, List.any_nil, Bool.or_false], fun h => h⟩
end TWR
