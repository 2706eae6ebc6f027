/-! ===== PURE: run (28): the signs between two values, the class: all ===== -/
section TWD
variable {N sg : Nat} {X : Nat → Option zz_C} {t t' t2 : cS} {u u' u2 w i j L : Nat} {x y : Nod} {xs : List Nod} {vx vy v : Int64}
theorem bsd_r (h0 : ¬ kn x = 0) (h3 : kn x ≤ 2) : ∃ r, bsd x i = .inr r := by
  show ∃ r, bsdV (vw x) i = .inr r
  by_cases c : kn x = 2
  · obtain ⟨q, e⟩ := kn2 c
    rw [e]
    exact ⟨_, rfl⟩
  · rw [kn1 (x := x) (by omega)]
    exact ⟨_, rfl⟩
theorem bsd_z (h0 : kn x = 0) : bsd x i = .inl (ivN x) := by
  show bsdV (vw x) i = _
  rw [kn0 h0]
  rfl
theorem unk_0 (h : kn x = 0 ∨ kn y = 0) : unkT x y = false := by
  unfold unkT
  have e : ∀ i, unl (bsd x i) (bsd y i) = false := fun i => by
    rcases h with h | h
    · rw [bsd_z h]
      cases bsd y i <;> rfl
    · rw [bsd_z h]
      cases bsd x i <;> rfl
  have e1 : (kn x == 2 && kn y == 2) = false := by
    rcases h with h | h
    · rw [h]
      rfl
    · rw [h]
      exact Bool.and_false _
  rw [e1, Bool.false_and, Bool.false_or]
  rw [List.any_eq_false]
  intro i _
  rw [e i]
  intro z
  cases z
theorem c_unl (hN : 170000 ≤ N) (hh : cHp t u w) (hx : cN (cel t) u vx x) (hy : cN (cel t) u vy y) (wx : wfN x) (wy : wfN y) (h3 : kn x ≤ 2) (h3' : kn y ≤ 2) : cf_226 N X vx vy t = some (t, .inl (some (.int (bI (unkT x y))))) := by
  have kx := c_kn (N := N) (X := X) hx
  have ky := c_kn (N := N) (X := X) hy
  have zx := c_size (N := N) (X := X) hh hx
  have zx : cf_128 N X vx t = some (t, .inl (some (.int (Int32.ofNat (szN x))))) := zx
  have zy := c_size (N := N) (X := X) hh hy
  have zy : cf_128 N X vy t = some (t, .inl (some (.int (Int32.ofNat (szN y))))) := zy
  have x64 := wf64 wx
  have y64 := wf64 wy
  by_cases c0 : kn x = 0 ∨ kn y = 0
  · rw [unk_0 c0]
    simp only [bI]
    generalize kn x = kx' at *
    generalize kn y = ky' at *
    by_cases d : kx' = 0
    · unfold cf_226 cf_226_0 cf_226_4 cf_226_10 cf_226_22
      simp (disch := omega) only [ev_S, ev_C, ↓reduceIte, Nat.reduceEqDiff, Nat.reduceLeDiff, Nat.reduceAdd, Nat.reduceMul, Nat.reduceSub, reduceCtorEq, l32_0, l32_1, l32_2, l32_3, l32_4, l32_5, l32_6, l32_7, l32_8, l32_9, l32_10, l32_11, l32_12, l32_13, l32_14, l32_15, l32_16, l32_17, l32_18, l32_19, l32_20, l32_21, l32_22, l32_23, l32_24, l32_25, l32_26, l32_27, l32_28, l32_29, l32_33, l32_40, l32_41, l32_44, l32_45, l32_59, l32_61, l32_91, l32_93, l32_123, l32_125, kx, ky, d]
    · have d' : ky' = 0 := by omega
      unfold cf_226 cf_226_0 cf_226_4 cf_226_10 cf_226_17 cf_226_22
      simp (disch := omega) only [ev_S, ev_C, ↓reduceIte, Nat.reduceEqDiff, Nat.reduceLeDiff, Nat.reduceAdd, Nat.reduceMul, Nat.reduceSub, reduceCtorEq, l32_0, l32_1, l32_2, l32_3, l32_4, l32_5, l32_6, l32_7, l32_8, l32_9, l32_10, l32_11, l32_12, l32_13, l32_14, l32_15, l32_16, l32_17, l32_18, l32_19, l32_20, l32_21, l32_22, l32_23, l32_24, l32_25, l32_26, l32_27, l32_28, l32_29, l32_33, l32_40, l32_41, l32_44, l32_45, l32_59, l32_61, l32_91, l32_93, l32_123, l32_125, kx, ky, d, d']
  · have x0 : ¬ kn x = 0 := fun z => c0 (Or.inl z)
    have y0 : ¬ kn y = 0 := fun z => c0 (Or.inr z)
    have hR := rws_le wx wy
    have LP : (kn x = 2 → kn y = 2 → szN x = szN y) → kn x = 2 ∨ kn y = 2 → cf_226_L2 N X N 0 vx vy (Int32.ofNat (rws x y)) (Int32.ofNat 0) (Int32.ofNat 0) t = some (t, .inl (some (.int (bI (unkT x y))))) := by
      intro hsz hk2
      have eu : unkT x y = (List.range (rws x y)).any fun i => unl (bsd x i) (bsd y i) := by
        unfold unkT
        have e : (kn x == 2 && kn y == 2 && !(szN x == szN y)) = false := by
          cases h : (kn x == 2 && kn y == 2 && !(szN x == szN y)) with
          | false => rfl
          | true =>
            rw [Bool.and_eq_true, Bool.and_eq_true] at h
            have h1 := hsz (beq_iff_eq.mp h.1.1) (beq_iff_eq.mp h.1.2)
            rw [h1] at h
            have h2 := h.2
            rw [show (szN y == szN y) = true from beq_self_eq_true _] at h2
            cases h2
        rw [e, Bool.false_or]
      rw [eu]
      exact lp (fun F i (a : Bool) => cf_226_L2 N X F 0 vx vy (Int32.ofNat (rws x y)) (bI a) (Int32.ofNat i) t) (rws x y) (fun i a => a = (List.range i).any fun i => unl (bsd x i) (bsd y i)) (fun R => R = some (t, .inl (some (.int (bI ((List.range (rws x y)).any fun i => unl (bsd x i) (bsd y i))))))) (by
        intro F i a hi hP _
        have n1 : ¬ rws x y ≤ i := by omega
        cases ha : a with
        | true =>
          right
          rw [ha] at hP
          obtain ⟨j, j1, j2⟩ := List.any_eq_true.mp hP.symm
          rw [any_t (by have := List.mem_range.mp j1; omega) j2]
          show cf_226_95 N X (cf_226_L2 N X F) vx vy (Int32.ofNat (rws x y)) (bI true) (Int32.ofNat i) t = _
          simp only [bI]
          unfold cf_226_95 cf_226_102 cf_226_151
          simp (disch := omega) only [ev_S, ev_C, ↓reduceIte, Nat.reduceEqDiff, Nat.reduceLeDiff, Nat.reduceAdd, Nat.reduceMul, Nat.reduceSub, reduceCtorEq, l32_0, l32_1, l32_2, l32_3, l32_4, l32_5, l32_6, l32_7, l32_8, l32_9, l32_10, l32_11, l32_12, l32_13, l32_14, l32_15, l32_16, l32_17, l32_18, l32_19, l32_20, l32_21, l32_22, l32_23, l32_24, l32_25, l32_26, l32_27, l32_28, l32_29, l32_33, l32_40, l32_41, l32_44, l32_45, l32_59, l32_61, l32_91, l32_93, l32_123, l32_125, n1]
        | false =>
          left
          have hix : kn x = 2 → i < szN x := fun c => by
            unfold rws at hi
            rw [if_pos c] at hi
            exact hi
          have hiy : kn y = 2 → i < szN y := fun c => by
            unfold rws at hi
            by_cases d : kn x = 2
            · rw [if_pos d] at hi
              rw [← hsz d c]
              exact hi
            · rw [if_neg d, if_pos c] at hi
              exact hi
          refine ⟨unl (bsd x i) (bsd y i), ?_, ?_⟩
          · rw [any_s, ← hP, ha, Bool.false_or]
          obtain ⟨v1, a1, a2⟩ := c_opn (N := N) (X := X) (i := i) hh hx h3 hix
          obtain ⟨v2, b1, b2⟩ := c_opn (N := N) (X := X) (i := i) hh hy h3' hiy
          obtain ⟨r, er⟩ := bsd_r (x := x) (i := i) x0 h3
          obtain ⟨r', er'⟩ := bsd_r (x := y) (i := i) y0 h3'
          rw [er] at a2
          rw [er'] at b2
          have z1 := c_size (N := N) (X := X) (x := nR r) hh (cN_iff.mpr a2)
          have z1 : cf_128 N X v1 t = some (t, .inl (some (.int (Int32.ofNat r.length)))) := z1
          have z2 := c_size (N := N) (X := X) (x := nR r') hh (cN_iff.mpr b2)
          have z2 : cf_128 N X v2 t = some (t, .inl (some (.int (Int32.ofNat r'.length)))) := z2
          have bnd : ∀ {x : Nod} {r : List Int32}, wfN x → ¬ kn x = 0 → kn x ≤ 2 → (kn x = 2 → i < szN x) → bsd x i = .inr r → r.length ≤ 64 := fun {x r} w c d hi e => by
            have wv := vw_wf x w
            have e : bsdV (vw x) i = .inr r := e
            by_cases c2 : kn x = 2
            · obtain ⟨q, e2⟩ := kn2 c2
              have hi := hi c2
              rw [show szN x = q.length by show szV (vw x) = _; rw [e2]; rfl] at hi
              rw [e2] at wv e
              have e : Sum.inr (q.getD i []) = (Sum.inr r : Opd) := e
              cases e
              rw [List.getD_eq_getElem?_getD, List.getElem?_eq_getElem hi]
              exact wv.2.2 _ (List.getElem_mem hi)
            · have e2 := kn1 (x := x) (by omega)
              rw [e2] at wv e
              have e : Sum.inr (rvN x) = (Sum.inr r : Opd) := e
              cases e
              exact wv
          have l1 := bnd wx x0 h3 hix er
          have l2 := bnd wy y0 h3' hiy er'
          rw [er, er']
          show cf_226_95 N X (cf_226_L2 N X F) vx vy (Int32.ofNat (rws x y)) (bI false) (Int32.ofNat i) t = cf_226_L2 N X F 0 vx vy (Int32.ofNat (rws x y)) (bI (!(r.length == r'.length))) (Int32.ofNat (i + 1)) t
          rw [show (r.length == r'.length) = decide (r.length = r'.length) from rfl]
          by_cases c : r.length = r'.length
          · rw [decide_eq_true c]
            simp only [bI]
            unfold cf_226_95 cf_226_102 cf_226_107 cf_226_118 cf_226_121 cf_226_132 cf_226_135 cf_226_142 cf_226_143
            simp (disch := omega) only [ev_S, ev_C, ↓reduceIte, Nat.reduceEqDiff, Nat.reduceLeDiff, Nat.reduceAdd, Nat.reduceMul, Nat.reduceSub, reduceCtorEq, l32_0, l32_1, l32_2, l32_3, l32_4, l32_5, l32_6, l32_7, l32_8, l32_9, l32_10, l32_11, l32_12, l32_13, l32_14, l32_15, l32_16, l32_17, l32_18, l32_19, l32_20, l32_21, l32_22, l32_23, l32_24, l32_25, l32_26, l32_27, l32_28, l32_29, l32_33, l32_40, l32_41, l32_44, l32_45, l32_59, l32_61, l32_91, l32_93, l32_123, l32_125, n1, a1, b1, z1, z2, c]
            rfl
          · rw [decide_eq_false c]
            simp only [bI]
            unfold cf_226_95 cf_226_102 cf_226_107 cf_226_118 cf_226_121 cf_226_132 cf_226_135 cf_226_138 cf_226_143
            simp (disch := omega) only [ev_S, ev_C, ↓reduceIte, Nat.reduceEqDiff, Nat.reduceLeDiff, Nat.reduceAdd, Nat.reduceMul, Nat.reduceSub, reduceCtorEq, l32_0, l32_1, l32_2, l32_3, l32_4, l32_5, l32_6, l32_7, l32_8, l32_9, l32_10, l32_11, l32_12, l32_13, l32_14, l32_15, l32_16, l32_17, l32_18, l32_19, l32_20, l32_21, l32_22, l32_23, l32_24, l32_25, l32_26, l32_27, l32_28, l32_29, l32_33, l32_40, l32_41, l32_44, l32_45, l32_59, l32_61, l32_91, l32_93, l32_123, l32_125, n1, a1, b1, z1, z2, c]
            rfl) (by
        intro F a hP
        rw [hP]
        show cf_226_95 N X (cf_226_L2 N X F) vx vy (Int32.ofNat (rws x y)) _ (Int32.ofNat (rws x y)) t = _
        cases (List.range (rws x y)).any fun i => unl (bsd x i) (bsd y i)
        · simp only [bI]
          unfold cf_226_95 cf_226_151
          simp (disch := omega) only [ev_S, ev_C, ↓reduceIte, Nat.reduceEqDiff, Nat.reduceLeDiff, Nat.reduceAdd, Nat.reduceMul, Nat.reduceSub, reduceCtorEq, l32_0, l32_1, l32_2, l32_3, l32_4, l32_5, l32_6, l32_7, l32_8, l32_9, l32_10, l32_11, l32_12, l32_13, l32_14, l32_15, l32_16, l32_17, l32_18, l32_19, l32_20, l32_21, l32_22, l32_23, l32_24, l32_25, l32_26, l32_27, l32_28, l32_29, l32_33, l32_40, l32_41, l32_44, l32_45, l32_59, l32_61, l32_91, l32_93, l32_123, l32_125]
        · simp only [bI]
          unfold cf_226_95 cf_226_151
          simp (disch := omega) only [ev_S, ev_C, ↓reduceIte, Nat.reduceEqDiff, Nat.reduceLeDiff, Nat.reduceAdd, Nat.reduceMul, Nat.reduceSub, reduceCtorEq, l32_0, l32_1, l32_2, l32_3, l32_4, l32_5, l32_6, l32_7, l32_8, l32_9, l32_10, l32_11, l32_12, l32_13, l32_14, l32_15, l32_16, l32_17, l32_18, l32_19, l32_20, l32_21, l32_22, l32_23, l32_24, l32_25, l32_26, l32_27, l32_28, l32_29, l32_33, l32_40, l32_41, l32_44, l32_45, l32_59, l32_61, l32_91, l32_93, l32_123, l32_125]) (rws x y) 0 N false (Nat.zero_add _) (by omega) rfl
    by_cases ce : kn x = kn y
    · by_cases cz : szN x = szN y
      · by_cases c2 : kn x = 2
        · have L := LP (fun _ _ => cz) (Or.inl c2)
          have er : rws x y = szN x := if_pos c2
          rw [er, cz] at L
          have c2' : kn y = 2 := by omega
          generalize szN x = sx at *
          generalize kn x = kx' at *
          generalize kn y = ky' at *
          unfold cf_226 cf_226_0 cf_226_4 cf_226_10 cf_226_17 cf_226_24 cf_226_31 cf_226_39 cf_226_47 cf_226_52 cf_226_58 cf_226_66 cf_226_87
          simp (disch := omega) only [ev_S, ev_C, ↓reduceIte, Nat.reduceEqDiff, Nat.reduceLeDiff, Nat.reduceAdd, Nat.reduceMul, Nat.reduceSub, reduceCtorEq, l32_0, l32_1, l32_2, l32_3, l32_4, l32_5, l32_6, l32_7, l32_8, l32_9, l32_10, l32_11, l32_12, l32_13, l32_14, l32_15, l32_16, l32_17, l32_18, l32_19, l32_20, l32_21, l32_22, l32_23, l32_24, l32_25, l32_26, l32_27, l32_28, l32_29, l32_33, l32_40, l32_41, l32_44, l32_45, l32_59, l32_61, l32_91, l32_93, l32_123, l32_125, kx, ky, c2, c2', zx, zy, cz, L]
        · have c1 : kn x = 1 := by omega
          have c1' : kn y = 1 := by omega
          have eu : unkT x y = false := by
            unfold unkT rws
            rw [if_neg c2, if_neg (by omega)]
            have ex := kn1 c1
            have ey := kn1 c1'
            have e1 : unl (bsd x 0) (bsd y 0) = false := by
              show unl (bsdV (vw x) 0) (bsdV (vw y) 0) = false
              rw [ex, ey]
              show (!((rvN x).length == (rvN y).length)) = false
              rw [← kn1_sz c1, ← kn1_sz c1', cz, show (szN y == szN y) = true from beq_self_eq_true _]
              rfl
            show ((kn x == 2 && kn y == 2 && !(szN x == szN y)) || (unl (bsd x 0) (bsd y 0) || false)) = false
            rw [e1, c1]
            rfl
          rw [eu]
          obtain ⟨N1, hN1⟩ : ∃ N1, N = N1 + 1 := ⟨N - 1, by omega⟩
          have L : cf_226_L2 N X N 0 vx vy (Int32.ofNat 0) (Int32.ofNat 0) (Int32.ofNat 0) t = some (t, .inl (some (.int (Int32.ofNat 0)))) := by
            have : ∀ q, cf_226_L2 N X (q + 1) 0 vx vy (Int32.ofNat 0) (Int32.ofNat 0) (Int32.ofNat 0) t = some (t, .inl (some (.int (Int32.ofNat 0)))) := fun q => by
              show cf_226_95 N X (cf_226_L2 N X q) vx vy (Int32.ofNat 0) (Int32.ofNat 0) (Int32.ofNat 0) t = _
              unfold cf_226_95 cf_226_151
              simp (disch := omega) only [ev_S, ev_C, ↓reduceIte, Nat.reduceEqDiff, Nat.reduceLeDiff, Nat.reduceAdd, Nat.reduceMul, Nat.reduceSub, reduceCtorEq, l32_0, l32_1, l32_2, l32_3, l32_4, l32_5, l32_6, l32_7, l32_8, l32_9, l32_10, l32_11, l32_12, l32_13, l32_14, l32_15, l32_16, l32_17, l32_18, l32_19, l32_20, l32_21, l32_22, l32_23, l32_24, l32_25, l32_26, l32_27, l32_28, l32_29, l32_33, l32_40, l32_41, l32_44, l32_45, l32_59, l32_61, l32_91, l32_93, l32_123, l32_125]
            have := this N1
            rw [← hN1] at this
            exact this
          simp only [bI]
          generalize szN x = sx at *
          generalize kn x = kx' at *
          generalize kn y = ky' at *
          unfold cf_226 cf_226_0 cf_226_4 cf_226_10 cf_226_17 cf_226_24 cf_226_31 cf_226_39 cf_226_47 cf_226_52 cf_226_69 cf_226_86 cf_226_87
          simp (disch := omega) only [ev_S, ev_C, ↓reduceIte, Nat.reduceEqDiff, Nat.reduceLeDiff, Nat.reduceAdd, Nat.reduceMul, Nat.reduceSub, reduceCtorEq, l32_0, l32_1, l32_2, l32_3, l32_4, l32_5, l32_6, l32_7, l32_8, l32_9, l32_10, l32_11, l32_12, l32_13, l32_14, l32_15, l32_16, l32_17, l32_18, l32_19, l32_20, l32_21, l32_22, l32_23, l32_24, l32_25, l32_26, l32_27, l32_28, l32_29, l32_33, l32_40, l32_41, l32_44, l32_45, l32_59, l32_61, l32_91, l32_93, l32_123, l32_125, kx, ky, c1, c1', zx, zy, cz, L]
      · have eu : unkT x y = true := by
          unfold unkT
          by_cases c2 : kn x = 2
          · have c2' : kn y = 2 := by omega
            rw [c2, c2', show (szN x == szN y) = decide (szN x = szN y) from rfl, decide_eq_false cz]
            rfl
          · have c1 : kn x = 1 := by omega
            have c1' : kn y = 1 := by omega
            have hr : rws x y = 1 := by
              unfold rws
              rw [if_neg c2, if_neg (by omega)]
            rw [Bool.or_eq_true]
            right
            refine any_t (i := 0) (by omega) ?_
            show unl (bsdV (vw x) 0) (bsdV (vw y) 0) = true
            rw [kn1 c1, kn1 c1']
            show (!((rvN x).length == (rvN y).length)) = true
            rw [← kn1_sz c1, ← kn1_sz c1', show (szN x == szN y) = decide (szN x = szN y) from rfl, decide_eq_false cz]
            rfl
        rw [eu]
        simp only [bI]
        generalize szN x = sx at *
        generalize szN y = sy at *
        generalize kn x = kx' at *
        generalize kn y = ky' at *
        unfold cf_226 cf_226_0 cf_226_4 cf_226_10 cf_226_17 cf_226_24 cf_226_31 cf_226_39 cf_226_47 cf_226_50
        simp (disch := omega) only [ev_S, ev_C, ↓reduceIte, Nat.reduceEqDiff, Nat.reduceLeDiff, Nat.reduceAdd, Nat.reduceMul, Nat.reduceSub, reduceCtorEq, l32_0, l32_1, l32_2, l32_3, l32_4, l32_5, l32_6, l32_7, l32_8, l32_9, l32_10, l32_11, l32_12, l32_13, l32_14, l32_15, l32_16, l32_17, l32_18, l32_19, l32_20, l32_21, l32_22, l32_23, l32_24, l32_25, l32_26, l32_27, l32_28, l32_29, l32_33, l32_40, l32_41, l32_44, l32_45, l32_59, l32_61, l32_91, l32_93, l32_123, l32_125, kx, ky, x0, y0, ce, zx, zy, cz]
    · by_cases c2 : kn x = 2
      · have L := LP (fun _ d => absurd (c2.trans d.symm) ce) (Or.inl c2)
        have er : rws x y = szN x := if_pos c2
        rw [er] at L
        have c1' : kn y = 1 := by omega
        generalize szN x = sx at *
        generalize kn x = kx' at *
        generalize kn y = ky' at *
        unfold cf_226 cf_226_0 cf_226_4 cf_226_10 cf_226_17 cf_226_24 cf_226_52 cf_226_58 cf_226_66 cf_226_87
        simp (disch := omega) only [ev_S, ev_C, ↓reduceIte, Nat.reduceEqDiff, Nat.reduceLeDiff, Nat.reduceAdd, Nat.reduceMul, Nat.reduceSub, reduceCtorEq, l32_0, l32_1, l32_2, l32_3, l32_4, l32_5, l32_6, l32_7, l32_8, l32_9, l32_10, l32_11, l32_12, l32_13, l32_14, l32_15, l32_16, l32_17, l32_18, l32_19, l32_20, l32_21, l32_22, l32_23, l32_24, l32_25, l32_26, l32_27, l32_28, l32_29, l32_33, l32_40, l32_41, l32_44, l32_45, l32_59, l32_61, l32_91, l32_93, l32_123, l32_125, kx, ky, c2, c1', zx, L]
      · have c1 : kn x = 1 := by omega
        have c2' : kn y = 2 := by omega
        have L := LP (fun d _ => absurd d c2) (Or.inr c2')
        have er : rws x y = szN y := by
          unfold rws
          rw [if_neg c2, if_pos c2']
        rw [er] at L
        generalize szN y = sy at *
        generalize kn x = kx' at *
        generalize kn y = ky' at *
        unfold cf_226 cf_226_0 cf_226_4 cf_226_10 cf_226_17 cf_226_24 cf_226_52 cf_226_69 cf_226_75 cf_226_83 cf_226_87
        simp (disch := omega) only [ev_S, ev_C, ↓reduceIte, Nat.reduceEqDiff, Nat.reduceLeDiff, Nat.reduceAdd, Nat.reduceMul, Nat.reduceSub, reduceCtorEq, l32_0, l32_1, l32_2, l32_3, l32_4, l32_5, l32_6, l32_7, l32_8, l32_9, l32_10, l32_11, l32_12, l32_13, l32_14, l32_15, l32_16, l32_17, l32_18, l32_19, l32_20, l32_21, l32_22, l32_23, l32_24, l32_25, l32_26, l32_27, l32_28, l32_29, l32_33, l32_40, l32_41, l32_44, l32_45, l32_59, l32_61, l32_91, l32_93, l32_123, l32_125, kx, ky, c1, c2', zy, L]
end TWD
