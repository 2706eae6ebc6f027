/-! ===== PURE: run (25): the signs between two values, the reference: all ===== -/
section TWA
variable {N sg : Nat} {s s' : mS} {n f f' m i : Nat} {x y : Nod} {xs ys : List Nod} {x1 x10 x8 x9 xk xv yk yv : Int32}
theorem r_hd (H : rA s n f m ys) (hx : rvl (s.2.2.1 47) f xk xv x) (hy : rvl (s.2.2.1 47) f yk yv y) (wx : wfN x) (wy : wfN y) (h3 : kn x ≤ 2) (h3' : kn y ≤ 2) (h00 : ¬ (kn x = 0 ∧ kn y = 0)) (hi : i < rws x y) (hR : rws x y ≤ 20) (hix : kn x = 2 → i < szN x) (hiy : kn y = 2 → i < szN y) (hu : unl (bsd x i) (bsd y i) = false) (G : rG s s' n f f' xs) : ∃ a14 a15 L, opR (s.2.2.1 47) f a14 xv (bsd x i) L ∧ opR (s.2.2.1 47) f a15 yv (bsd y i) L ∧ rsz (bsd x i) (bsd y i) = L ∧ L ≤ 64 ∧ ∀ F, mf_321_L9 N (F + 1) 0 x1 x10 (Int32.ofNat (rws x y)) (Int32.ofNat i) (Int32.ofNat 0) (Int32.ofNat 0) (Int32.ofNat 0) (Int32.ofNat 0) (Int32.ofNat 0) xk xv yk yv x8 x9 s' = mf_321_L9 N F 1 x1 x10 (Int32.ofNat (rws x y)) (Int32.ofNat i) a14 a15 (Int32.ofNat L) (Int32.ofNat (n + xs.length)) (Int32.ofNat 0) xk xv yk yv x8 x9 s' := by
  have hfb : 154240 ≤ f ∧ f + 1000 ≤ 166300 := H.2.2.2.2.2.1
  have G3 := G.2.2.1.2.2
  have sp := G.1.1
  have n1 : ¬ rws x y ≤ i := by omega
  have back : ∀ {a : Nat} {r : List Int32}, LayN (s'.2.2.1 47) (Rf f) a (nR r) → LayN (s.2.2.1 47) (Rf f) a (nR r) := fun h => LayN.congr (fun _ z => z) (fun y hy => (G3 y hy.1).symm) h
  have hx' : rvl (s'.2.2.1 47) f xk xv x := rvl.up hx (Nat.le_refl _) G3
  have hy' : rvl (s'.2.2.1 47) f yk yv y := rvl.up hy (Nat.le_refl _) G3
  rcases r_bsd (N := N) (i := i) hx' (by omega) h3 hix wx with ⟨p1, p2, p3⟩ | ⟨p, r, p2, p3, p4, p5⟩
  · rcases r_bsd (N := N) (i := i) hy' (by omega) h3' hiy wy with ⟨q1, q2, q3⟩ | ⟨q, r', q2, q3, q4, q5⟩
    · exact absurd ⟨p1, q1⟩ h00
    · have z2 := r_size (N := N) (s := s') (LayN_iff.mp q4).2 (Nat.le_trans (LayN.lt q4).1 (by omega))
      have z2 : mf_77 N (Int32.ofNat q) s' = some (s', some (.int (Int32.ofNat r'.length))) := z2
      refine ⟨-Int32.ofNat 1, Int32.ofNat q, r'.length, Or.inl ⟨rfl, p2⟩, Or.inr ⟨q, r', rfl, q2, back q4, rfl⟩, by rw [p2, q2]; rfl, q5, fun F => ?_⟩
      show mf_321_354 N (mf_321_L9 N F) x1 xk xv yk yv x8 x9 x10 (Int32.ofNat (rws x y)) (Int32.ofNat i) s' = _
      unfold mf_321_354 mf_321_361 mf_321_369 mf_321_381 mf_321_397 mf_321_403
      simp (disch := omega) only [ev_S, ev_P, ↓reduceIte, Nat.reduceEqDiff, Nat.reduceLeDiff, Nat.reduceAdd, Nat.reduceMul, Nat.reduceSub, reduceCtorEq, l32_0, l32_1, l32_2, l32_3, l32_4, l32_5, l32_6, l32_7, l32_8, l32_9, l32_10, l32_11, l32_12, l32_13, l32_14, l32_15, l32_16, l32_17, l32_18, l32_19, l32_20, l32_21, l32_22, l32_23, l32_24, l32_25, l32_26, l32_27, l32_28, l32_29, l32_33, l32_40, l32_41, l32_44, l32_45, l32_59, l32_61, l32_91, l32_93, l32_123, l32_125, n1, p3, q3, z2, sp]
  · have z1 := r_size (N := N) (s := s') (LayN_iff.mp p4).2 (Nat.le_trans (LayN.lt p4).1 (by omega))
    have z1 : mf_77 N (Int32.ofNat p) s' = some (s', some (.int (Int32.ofNat r.length))) := z1
    have pl := (LayN.lt p4).1
    rcases r_bsd (N := N) (i := i) hy' (by omega) h3' hiy wy with ⟨q1, q2, q3⟩ | ⟨q, r', q2, q3, q4, q5⟩
    · refine ⟨Int32.ofNat p, -Int32.ofNat 1, r.length, Or.inr ⟨p, r, rfl, p2, back p4, rfl⟩, Or.inl ⟨rfl, q2⟩, by rw [p2, q2]; rfl, p5, fun F => ?_⟩
      show mf_321_354 N (mf_321_L9 N F) x1 xk xv yk yv x8 x9 x10 (Int32.ofNat (rws x y)) (Int32.ofNat i) s' = _
      unfold mf_321_354 mf_321_361 mf_321_369 mf_321_381 mf_321_388 mf_321_394 mf_321_403
      simp (disch := omega) only [ev_S, ev_P, ↓reduceIte, Nat.reduceEqDiff, Nat.reduceLeDiff, Nat.reduceAdd, Nat.reduceMul, Nat.reduceSub, reduceCtorEq, l32_0, l32_1, l32_2, l32_3, l32_4, l32_5, l32_6, l32_7, l32_8, l32_9, l32_10, l32_11, l32_12, l32_13, l32_14, l32_15, l32_16, l32_17, l32_18, l32_19, l32_20, l32_21, l32_22, l32_23, l32_24, l32_25, l32_26, l32_27, l32_28, l32_29, l32_33, l32_40, l32_41, l32_44, l32_45, l32_59, l32_61, l32_91, l32_93, l32_123, l32_125, n1, p3, q3, z1, sp]
    · have hrr : r'.length = r.length := by
        rw [p2, q2] at hu
        have hu : (!(r.length == r'.length)) = false := hu
        rw [Bool.not_eq_false'] at hu
        exact (beq_iff_eq.mp hu).symm
      refine ⟨Int32.ofNat p, Int32.ofNat q, r.length, Or.inr ⟨p, r, rfl, p2, back p4, rfl⟩, Or.inr ⟨q, r', rfl, q2, back q4, hrr⟩, by rw [p2, q2]; rfl, p5, fun F => ?_⟩
      show mf_321_354 N (mf_321_L9 N F) x1 xk xv yk yv x8 x9 x10 (Int32.ofNat (rws x y)) (Int32.ofNat i) s' = _
      unfold mf_321_354 mf_321_361 mf_321_369 mf_321_381 mf_321_388 mf_321_394 mf_321_403
      simp (disch := omega) only [ev_S, ev_P, ↓reduceIte, Nat.reduceEqDiff, Nat.reduceLeDiff, Nat.reduceAdd, Nat.reduceMul, Nat.reduceSub, reduceCtorEq, l32_0, l32_1, l32_2, l32_3, l32_4, l32_5, l32_6, l32_7, l32_8, l32_9, l32_10, l32_11, l32_12, l32_13, l32_14, l32_15, l32_16, l32_17, l32_18, l32_19, l32_20, l32_21, l32_22, l32_23, l32_24, l32_25, l32_26, l32_27, l32_28, l32_29, l32_33, l32_40, l32_41, l32_44, l32_45, l32_59, l32_61, l32_91, l32_93, l32_123, l32_125, n1, p3, q3, z1, sp]
theorem row2_len {p q : Opd} : (row2 sg p q).length = rsz p q := by
  unfold row2
  rw [List.length_map, List.length_range]
/-- how many INTS lie in the rows up to i, for a table of at most 200 -/
theorem rsz_sum (wx : wfN x) (wy : wfN y) (h3 : kn x ≤ 2) (h3' : kn y ≤ 2) (hk : kn x = 2 ∨ kn y = 2) (huk : unkT x y = false) : ∀ i, i ≤ rws x y → ((List.range i).map fun i => rsz (bsd x i) (bsd y i)).sum ≤ 200 := by
  have tk : ∀ (q : List (List Int32)) (g : Nat → Nat), (∀ i, i < q.length → g i = (q.getD i []).length) → ∀ i, i ≤ q.length → ((List.range i).map g).sum ≤ ((q.take i).map List.length).sum := fun q g hg i => by
    induction i with
    | zero => intro _; exact Nat.le_refl _
    | succ i ih =>
      intro hi
      have hi' : i < q.length := by omega
      rw [range_map_s, List.sum_append, List.take_succ_eq_append_getElem hi', List.map_append, List.sum_append]
      have := ih (by omega)
      have e := hg i hi'
      rw [List.getD_eq_getElem?_getD, List.getElem?_eq_getElem hi'] at e
      have e : g i = q[i].length := e
      show _ + (g i + 0) ≤ _ + (q[i].length + 0)
      omega
  have tl : ∀ (q : List (List Int32)) i, ((q.take i).map List.length).sum ≤ (q.map List.length).sum := fun q i => by
    conv => rhs; rw [← List.take_append_drop i q, List.map_append, List.sum_append]
    omega
  unfold unkT at huk
  rw [Bool.or_eq_false_iff] at huk
  intro i hi
  by_cases c : kn x = 2
  · obtain ⟨q, e⟩ := kn2 c
    have wv := vw_wf x wx
    rw [e] at wv
    have hsz : szN x = q.length := by show szV (vw x) = _; rw [e]; rfl
    unfold rws at hi
    rw [if_pos c, hsz] at hi
    refine Nat.le_trans (tk q _ (fun i hi => ?_) i hi) (Nat.le_trans (tl q i) wv.2.1)
    show rsz (bsdV (vw x) i) (bsdV (vw y) i) = _
    rw [e]
    rfl
  · have d : kn y = 2 := by omega
    obtain ⟨q, e⟩ := kn2 d
    have wv := vw_wf y wy
    rw [e] at wv
    have hsz : szN y = q.length := by show szV (vw y) = _; rw [e]; rfl
    have hi0 : i ≤ rws x y := hi
    unfold rws at hi
    rw [if_neg c, if_pos d, hsz] at hi
    refine Nat.le_trans (tk q _ (fun j hj => ?_) i hi) (Nat.le_trans (tl q i) wv.2.1)
    have hjr : j < rws x y := by unfold rws; rw [if_neg c, if_pos d, hsz]; exact hj
    have hu : unl (bsdV (vw x) j) (bsdV (vw y) j) = false := by
      cases h : unl (bsdV (vw x) j) (bsdV (vw y) j) with
      | false => rfl
      | true =>
        rw [any_t (p := fun i => unl (bsd x i) (bsd y i)) hjr h] at huk
        cases huk.2
    show rsz (bsdV (vw x) j) (bsdV (vw y) j) = _
    rw [e] at hu ⊢
    by_cases c0 : kn x = 0
    · rw [kn0 c0]
      rfl
    · have e1 := kn1 (x := x) (by omega)
      rw [e1] at hu ⊢
      have hu : (!((rvN x).length == (q.getD j []).length)) = false := hu
      rw [Bool.not_eq_false'] at hu
      exact beq_iff_eq.mp hu
end TWA
