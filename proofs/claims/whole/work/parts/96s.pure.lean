/-! ===== PURE: run (46): join ===== -/
/-- all parts of a THING of kind k; another value is a part itself -/
def jnN (k : Nat) (x : Nod) : List Nod := if kn x = k then pts x else [x]
def jkN (x y : Nod) : Nat := if kn x = 3 ∨ kn y = 3 then 3 else if kn x = 2 ∨ kn y = 2 then 2 else 1
def ansJ (x y : Nod) : Ans := ansM (jkN x y) (jnN (jkN x y) x ++ jnN (jkN x y) y)
section JNS
variable {N k : Nat} {X : Nat → Option zz_C} {s s' : mS} {t t' : cS} {n f f' m u u' w a : Nat} {x y : Nod} {xs ys : List Nod} {v vx vy : Int64} {xk xv yk yv : Int32}
theorem jnN_len (wx : wfN x) : (jnN k x).length ≤ 64 := by
  unfold jnN
  split
  · exact sz64 wx
  · show 1 ≤ 64
    omega
theorem jnN_wf (wx : wfN x) (dx : x.1 ≤ 4) : ∀ y ∈ jnN k x, wfN y ∧ y.1 ≤ 4 := fun y hy => by
  unfold jnN at hy
  split at hy
  · exact ⟨wf_pts wx y hy, Nat.le_trans (pts_lv y hy) dx⟩
  · rw [List.mem_singleton.mp hy]
    exact ⟨wx, dx⟩
theorem pts_kd {y : Nod} (hy : y ∈ pts x) : (kn x = 1 → kdN y = 0) ∧ (kn x = 2 → kdN y = 1) := by
  refine ⟨fun h => ?_, fun h => ?_⟩
  · have e := kn1 h
    have hy : y ∈ ptsV (vw x) := hy
    rw [e] at hy
    obtain ⟨z, -, rfl⟩ := List.mem_map.mp (show y ∈ (rvN x).map nZ from hy)
    rfl
  · have e := kn2' h
    have hy : y ∈ ptsV (vw x) := hy
    rw [e] at hy
    obtain ⟨z, -, rfl⟩ := List.mem_map.mp (show y ∈ (tvN x).map nR from hy)
    rfl
theorem jnN_ok (h : ¬ (jkN x y = 2 ∧ (kn x = 0 ∨ kn y = 0))) : mkOk (jkN x y) (jnN (jkN x y) x ++ jnN (jkN x y) y) := by
  have lx := kn_le (x := x)
  have ly := kn_le (x := y)
  have key : ∀ z : Nod, (z = x ∨ z = y) → ∀ p ∈ jnN (jkN x y) z, (jkN x y = 1 → kdN p = 0) ∧ (jkN x y = 2 → kdN p = 1) := fun z hz p hp => by
    unfold jnN at hp
    by_cases c : kn z = jkN x y
    · rw [if_pos c] at hp
      have := pts_kd hp
      exact ⟨fun q => this.1 (by omega), fun q => this.2 (by omega)⟩
    · rw [if_neg c] at hp
      rw [List.mem_singleton.mp hp]
      unfold jkN at *
      refine ⟨fun q => (kd_iff (k := 0) (by omega)).mpr ?_, fun q => (kd_iff (k := 1) (by omega)).mpr ?_⟩
      · split at q
        · omega
        · split at q
          · omega
          · rename_i h1 h2
            rw [if_neg h1, if_neg h2] at c
            rcases hz with rfl | rfl <;> omega
      · split at q
        · omega
        · split at q
          · rename_i h1 h2
            rw [if_neg h1, if_pos h2] at c h
            rcases hz with rfl | rfl <;> omega
          · omega
  have all : ∀ p ∈ jnN (jkN x y) x ++ jnN (jkN x y) y, (jkN x y = 1 → kdN p = 0) ∧ (jkN x y = 2 → kdN p = 1) := fun p hp => by
    rcases List.mem_append.mp hp with hp | hp
    · exact key x (Or.inl rfl) p hp
    · exact key y (Or.inr rfl) p hp
  have h3 : jkN x y = 1 ∨ jkN x y = 2 ∨ jkN x y = 3 := by
    unfold jkN
    split
    · omega
    · split <;> omega
  rcases h3 with h | h | h
  · rw [h] at all ⊢
    exact Or.inl ⟨rfl, fun p hp => (all p hp).1 rfl⟩
  · rw [h] at all ⊢
    exact Or.inr (Or.inl ⟨rfl, fun p hp => (all p hp).2 rfl⟩)
  · rw [h]
    exact Or.inr (Or.inr rfl)
theorem r_all (hN : 170000 ≤ N) (G : rG s s' n f f' xs) (hx : rvl (s.2.2.1 47) f xk xv x) (wx : wfN x) (hf : f' ≤ 166000) (hn : n + xs.length + 66 < 9000) : ∃ s'', mf_336 N xk xv (bI (kn x == k)) s' = some (s'', none) ∧ rG s s'' n f f' (xs ++ (if kn x = k ∧ ¬ kn x = 0 then pts x else [x])) := by
  have hx' : rvl (s'.2.2.1 47) f' xk xv x := rvl.up hx G.1.2.2 G.2.2.1.2.2
  have ph := rG.push (N := N) G (by omega) hx'
  rw [show (kn x == k) = decide (kn x = k) from rfl]
  by_cases c0 : kn x = 0
  · rw [if_neg (fun z => z.2 c0)]
    refine ⟨_, ?_, ph.2⟩
    have p1 := ph.1
    rw [(hx.iv c0).1] at p1 ⊢
    repeat ((first | unfold mf_336 | unfold mf_336_0 | unfold mf_336_4 | unfold mf_336_8 | unfold mf_336_14 | unfold mf_336_17 | unfold mf_336_20 | unfold mf_336_27 | unfold mf_336_30 | unfold mf_336_37 | unfold mf_336_43); try simp (disch := omega) only [ev_S, ev_P, ↓reduceIte, Nat.reduceEqDiff, Nat.reduceLeDiff, Nat.reduceAdd, Nat.reduceMul, Nat.reduceSub, reduceCtorEq, l32_0, l32_1, l32_2, l32_3, l32_4, p1])
  · obtain ⟨e1, a, ea, La⟩ := hx.th c0
    by_cases c : kn x = k
    · rw [if_pos ⟨c, c0⟩, decide_eq_true c]
      have hpl : (pts x).length = szN x := pts_len
      have s64 := wf64 wx
      have E1 : mf_336 N xk xv (bI true) s' = mf_336_L3 N N 0 (Int32.ofNat a) (Int32.ofNat 0) s' := by
        rw [e1, ea]
        simp only [bI]
        repeat ((first | unfold mf_336 | unfold mf_336_0 | unfold mf_336_4 | unfold mf_336_8 | unfold mf_336_14 | unfold mf_336_17 | unfold mf_336_20 | unfold mf_336_27 | unfold mf_336_30 | unfold mf_336_37 | unfold mf_336_43); try simp (disch := omega) only [ev_S, ev_P, ↓reduceIte, Nat.reduceEqDiff, Nat.reduceLeDiff, Nat.reduceAdd, Nat.reduceMul, Nat.reduceSub, reduceCtorEq, l32_0, l32_1, l32_2, l32_3, l32_4])
      rw [E1]
      refine lp (fun F i (s1 : mS) => mf_336_L3 N F 0 (Int32.ofNat a) (Int32.ofNat i) s1) (pts x).length (fun i s1 => rG s s1 n f f' (xs ++ (pts x).take i)) (fun R => ∃ s'', R = some (s'', none) ∧ rG s s'' n f f' (xs ++ pts x)) ?_ ?_ (pts x).length 0 N s' (Nat.zero_add _) (by omega) (by rw [List.take_zero, List.append_nil]; exact G)
      · intro F i s1 hi G1 _
        left
        have zz := G1.size (N := N) La (by have := G1.1.2.2; omega)
        rw [← hpl] at zz
        have n1 : ¬ (pts x).length ≤ i := by omega
        obtain ⟨s2, d1, d2⟩ := rG.elem (N := N) (i := i) G1 (by rw [List.length_append, List.length_take]; omega) (by omega) La hi
        refine ⟨s2, ?_, ?_⟩
        · rw [List.take_succ_eq_append_getElem hi, ← List.append_assoc]
          exact d2
        · show mf_336_20 N (mf_336_L3 N F) (Int32.ofNat a) (Int32.ofNat i) s1 = _
          repeat ((first | unfold mf_336 | unfold mf_336_0 | unfold mf_336_4 | unfold mf_336_8 | unfold mf_336_14 | unfold mf_336_17 | unfold mf_336_20 | unfold mf_336_27 | unfold mf_336_30 | unfold mf_336_37 | unfold mf_336_43); try simp (disch := omega) only [ev_S, ev_P, ↓reduceIte, Nat.reduceEqDiff, Nat.reduceLeDiff, Nat.reduceAdd, Nat.reduceMul, Nat.reduceSub, reduceCtorEq, l32_0, l32_1, l32_2, l32_3, l32_4, zz, n1, d1])
      · intro F s1 G1
        rw [List.take_length] at G1
        have zz := G1.size (N := N) La (by have := G1.1.2.2; omega)
        rw [← hpl] at zz
        refine ⟨s1, ?_, G1⟩
        show mf_336_20 N (mf_336_L3 N F) (Int32.ofNat a) (Int32.ofNat (pts x).length) s1 = _
        repeat ((first | unfold mf_336 | unfold mf_336_0 | unfold mf_336_4 | unfold mf_336_8 | unfold mf_336_14 | unfold mf_336_17 | unfold mf_336_20 | unfold mf_336_27 | unfold mf_336_30 | unfold mf_336_37 | unfold mf_336_43); try simp (disch := omega) only [ev_S, ev_P, ↓reduceIte, Nat.reduceEqDiff, Nat.reduceLeDiff, Nat.reduceAdd, Nat.reduceMul, Nat.reduceSub, reduceCtorEq, l32_0, l32_1, l32_2, l32_3, l32_4, zz])
    · rw [if_neg (fun z => c z.1), decide_eq_false c]
      refine ⟨_, ?_, ph.2⟩
      have p1 := ph.1
      rw [e1] at p1 ⊢
      simp only [bI]
      repeat ((first | unfold mf_336 | unfold mf_336_0 | unfold mf_336_4 | unfold mf_336_8 | unfold mf_336_14 | unfold mf_336_17 | unfold mf_336_20 | unfold mf_336_27 | unfold mf_336_30 | unfold mf_336_37 | unfold mf_336_43); try simp (disch := omega) only [ev_S, ev_P, ↓reduceIte, Nat.reduceEqDiff, Nat.reduceLeDiff, Nat.reduceAdd, Nat.reduceMul, Nat.reduceSub, reduceCtorEq, l32_0, l32_1, l32_2, l32_3, l32_4, p1])
theorem jnN_r (h : 1 ≤ k) : (if kn x = k ∧ ¬ kn x = 0 then pts x else [x]) = jnN k x := by
  unfold jnN
  by_cases c : kn x = k
  · rw [if_pos c, if_pos ⟨c, by omega⟩]
  · rw [if_neg c, if_neg (fun z => c z.1)]
theorem jkN_1 : 1 ≤ jkN x y ∧ jkN x y ≤ 3 := by
  unfold jkN
  split
  · omega
  · split <;> omega
theorem r_join (hN : 170000 ≤ N) (H : rA s n f m [x, y]) (hok : ¬ (jkN x y = 2 ∧ (kn x = 0 ∨ kn y = 0))) : ∃ s', mf_337 N (s.2.2.1 50 n) (s.2.2.1 50 (n + 1)) (Int32.ofNat n) s = some (s', none) ∧ rE s s' n f m (ansJ x y) := by
  have H' := H
  obtain ⟨⟨h51, hv⟩, H2, H3, H4, H5, H6, H7, H8, H9, H10⟩ := H'
  have hx : rvl (s.2.2.1 47) f (s.2.2.1 49 n) (s.2.2.1 50 n) x := hv 0 (by show 0 < 2; omega)
  have hy : rvl (s.2.2.1 47) f (s.2.2.1 49 (n + 1)) (s.2.2.1 50 (n + 1)) y := hv 1 (by show 1 < 2; omega)
  have kx := r_kindAt (N := N) hx (by omega) (by omega)
  have ky := r_kindAt (N := N) hy (by omega) (by omega)
  rw [kd_kn] at kx ky
  have lx := kn_le (x := x)
  have ly := kn_le (x := y)
  have wx : wfN x := H9 x List.mem_cons_self
  have wy : wfN y := H9 y (List.mem_cons_of_mem _ List.mem_cons_self)
  have dx : x.1 ≤ 4 := H10 x List.mem_cons_self
  have dy : y.1 ≤ 4 := H10 y (List.mem_cons_of_mem _ List.mem_cons_self)
  have G0 : rG s (mI s 51 (Int32.ofNat n)) n f f [] := rG.nil H2
  obtain ⟨s1, hs1⟩ : ∃ s1, s1 = mI s 51 (Int32.ofNat n) := ⟨_, rfl⟩
  rw [← hs1] at G0
  generalize hxk : s.2.2.1 49 n = xk at *
  generalize hxv : s.2.2.1 50 n = xv at *
  generalize hyk : s.2.2.1 49 (n + 1) = yk at *
  generalize hyv : s.2.2.1 50 (n + 1) = yv at *
  have jl := jnN_len (k := jkN x y) wx
  have jl' := jnN_len (k := jkN x y) wy
  obtain ⟨s2, a1, a2⟩ := r_all (N := N) (k := jkN x y) hN G0 hx wx (by omega) (by show n + 0 + 66 < 9000; omega)
  rw [List.nil_append, jnN_r jkN_1.1] at a2
  obtain ⟨s3, b1, b2⟩ := r_all (N := N) (k := jkN x y) hN a2 hy wy (by omega) (by omega)
  rw [jnN_r jkN_1.1] at b2
  have hll : (jnN (jkN x y) x ++ jnN (jkN x y) y).length ≤ 128 := by rw [List.length_append]; omega
  obtain ⟨s4, c1, c2⟩ := rA.builds (N := N) (k := jkN x y) hN H b2 (jnN_ok hok) (fun z hz => (List.mem_append.mp hz).elim (fun q => (jnN_wf wx dx z q).1) (fun q => (jnN_wf wy dy z q).1)) (fun z hz => (List.mem_append.mp hz).elim (fun q => (jnN_wf wx dx z q).2) (fun q => (jnN_wf wy dy z q).2)) (by omega) (by omega) (by omega) (by omega)
  refine ⟨s4, ?_, c2⟩
  have E1 : mf_337 N xv yv (Int32.ofNat n) s = mf_337_67 N xv yv (Int32.ofNat n) xk yk (Int32.ofNat (kn x)) (Int32.ofNat (kn y)) (Int32.ofNat (jkN x y)) s := by
    unfold jkN
    generalize kn x = kx' at *
    generalize kn y = ky' at *
    by_cases d1 : kx' = 3
    · rw [if_pos (Or.inl d1)]
      unfold mf_337 mf_337_0 mf_337_23 mf_337_32 mf_337_46
      simp (disch := omega) only [ev_S, ev_P, ↓reduceIte, Nat.reduceEqDiff, Nat.reduceLeDiff, Nat.reduceAdd, Nat.reduceMul, Nat.reduceSub, reduceCtorEq, l32_0, l32_1, l32_2, l32_3, l32_4, l32_5, l32_6, l32_7, l32_8, l32_9, l32_10, l32_11, l32_12, l32_13, l32_14, l32_15, l32_16, l32_17, l32_18, l32_19, l32_20, l32_21, l32_22, l32_23, l32_24, l32_25, l32_26, l32_27, l32_28, l32_29, l32_33, l32_40, l32_41, l32_44, l32_45, l32_59, l32_61, l32_91, l32_93, l32_123, l32_125, kx, ky, d1, hxk, hyk]
    · by_cases d2 : ky' = 3
      · rw [if_pos (Or.inr d2)]
        unfold mf_337 mf_337_0 mf_337_23 mf_337_32 mf_337_40 mf_337_46
        simp (disch := omega) only [ev_S, ev_P, ↓reduceIte, Nat.reduceEqDiff, Nat.reduceLeDiff, Nat.reduceAdd, Nat.reduceMul, Nat.reduceSub, reduceCtorEq, l32_0, l32_1, l32_2, l32_3, l32_4, l32_5, l32_6, l32_7, l32_8, l32_9, l32_10, l32_11, l32_12, l32_13, l32_14, l32_15, l32_16, l32_17, l32_18, l32_19, l32_20, l32_21, l32_22, l32_23, l32_24, l32_25, l32_26, l32_27, l32_28, l32_29, l32_33, l32_40, l32_41, l32_44, l32_45, l32_59, l32_61, l32_91, l32_93, l32_123, l32_125, kx, ky, d1, d2, hxk, hyk]
      · rw [if_neg (fun z => z.elim d1 d2)]
        by_cases d3 : kx' = 2
        · rw [if_pos (Or.inl d3)]
          unfold mf_337 mf_337_0 mf_337_23 mf_337_32 mf_337_40 mf_337_50 mf_337_62
          simp (disch := omega) only [ev_S, ev_P, ↓reduceIte, Nat.reduceEqDiff, Nat.reduceLeDiff, Nat.reduceAdd, Nat.reduceMul, Nat.reduceSub, reduceCtorEq, l32_0, l32_1, l32_2, l32_3, l32_4, l32_5, l32_6, l32_7, l32_8, l32_9, l32_10, l32_11, l32_12, l32_13, l32_14, l32_15, l32_16, l32_17, l32_18, l32_19, l32_20, l32_21, l32_22, l32_23, l32_24, l32_25, l32_26, l32_27, l32_28, l32_29, l32_33, l32_40, l32_41, l32_44, l32_45, l32_59, l32_61, l32_91, l32_93, l32_123, l32_125, kx, ky, d1, d2, d3, hxk, hyk]
        · by_cases d4 : ky' = 2
          · rw [if_pos (Or.inr d4)]
            unfold mf_337 mf_337_0 mf_337_23 mf_337_32 mf_337_40 mf_337_50 mf_337_56 mf_337_62
            simp (disch := omega) only [ev_S, ev_P, ↓reduceIte, Nat.reduceEqDiff, Nat.reduceLeDiff, Nat.reduceAdd, Nat.reduceMul, Nat.reduceSub, reduceCtorEq, l32_0, l32_1, l32_2, l32_3, l32_4, l32_5, l32_6, l32_7, l32_8, l32_9, l32_10, l32_11, l32_12, l32_13, l32_14, l32_15, l32_16, l32_17, l32_18, l32_19, l32_20, l32_21, l32_22, l32_23, l32_24, l32_25, l32_26, l32_27, l32_28, l32_29, l32_33, l32_40, l32_41, l32_44, l32_45, l32_59, l32_61, l32_91, l32_93, l32_123, l32_125, kx, ky, d1, d2, d3, d4, hxk, hyk]
          · rw [if_neg (fun z => z.elim d3 d4)]
            unfold mf_337 mf_337_0 mf_337_23 mf_337_32 mf_337_40 mf_337_50 mf_337_56 mf_337_66
            simp (disch := omega) only [ev_S, ev_P, ↓reduceIte, Nat.reduceEqDiff, Nat.reduceLeDiff, Nat.reduceAdd, Nat.reduceMul, Nat.reduceSub, reduceCtorEq, l32_0, l32_1, l32_2, l32_3, l32_4, l32_5, l32_6, l32_7, l32_8, l32_9, l32_10, l32_11, l32_12, l32_13, l32_14, l32_15, l32_16, l32_17, l32_18, l32_19, l32_20, l32_21, l32_22, l32_23, l32_24, l32_25, l32_26, l32_27, l32_28, l32_29, l32_33, l32_40, l32_41, l32_44, l32_45, l32_59, l32_61, l32_91, l32_93, l32_123, l32_125, kx, ky, d1, d2, d3, d4, hxk, hyk]
  rw [E1]
  have j3 := (jkN_1 (x := x) (y := y)).2
  generalize jkN x y = J at *
  have E2 : mf_337_67 N xv yv (Int32.ofNat n) xk yk (Int32.ofNat (kn x)) (Int32.ofNat (kn y)) (Int32.ofNat J) s = mf_337_93 N yv (Int32.ofNat n) yk (Int32.ofNat (kn y)) (Int32.ofNat J) s2 := by
    rw [show (kn x == J) = decide (kn x = J) from rfl] at a1
    rw [hs1] at a1
    generalize kn x = kx' at *
    by_cases d : kx' = J
    · rw [decide_eq_true d] at a1
      have a1 : mf_336 N xk xv (Int32.ofNat 1) (mI s 51 (Int32.ofNat n)) = _ := a1
      unfold mf_337_67 mf_337_85 mf_337_90
      simp (disch := omega) only [ev_S, ev_P, ↓reduceIte, Nat.reduceEqDiff, Nat.reduceLeDiff, Nat.reduceAdd, Nat.reduceMul, Nat.reduceSub, reduceCtorEq, l32_0, l32_1, l32_2, l32_3, l32_4, l32_5, l32_6, l32_7, l32_8, l32_9, l32_10, l32_11, l32_12, l32_13, l32_14, l32_15, l32_16, l32_17, l32_18, l32_19, l32_20, l32_21, l32_22, l32_23, l32_24, l32_25, l32_26, l32_27, l32_28, l32_29, l32_33, l32_40, l32_41, l32_44, l32_45, l32_59, l32_61, l32_91, l32_93, l32_123, l32_125, d, a1]
    · rw [decide_eq_false d] at a1
      have a1 : mf_336 N xk xv (Int32.ofNat 0) (mI s 51 (Int32.ofNat n)) = _ := a1
      unfold mf_337_67 mf_337_89 mf_337_90
      simp (disch := omega) only [ev_S, ev_P, ↓reduceIte, Nat.reduceEqDiff, Nat.reduceLeDiff, Nat.reduceAdd, Nat.reduceMul, Nat.reduceSub, reduceCtorEq, l32_0, l32_1, l32_2, l32_3, l32_4, l32_5, l32_6, l32_7, l32_8, l32_9, l32_10, l32_11, l32_12, l32_13, l32_14, l32_15, l32_16, l32_17, l32_18, l32_19, l32_20, l32_21, l32_22, l32_23, l32_24, l32_25, l32_26, l32_27, l32_28, l32_29, l32_33, l32_40, l32_41, l32_44, l32_45, l32_59, l32_61, l32_91, l32_93, l32_123, l32_125, d, a1]
  rw [E2]
  rw [show (kn y == J) = decide (kn y = J) from rfl] at b1
  generalize kn y = ky' at *
  by_cases d : ky' = J
  · rw [decide_eq_true d] at b1
    have b1 : mf_336 N yk yv (Int32.ofNat 1) s2 = _ := b1
    unfold mf_337_93 mf_337_104 mf_337_109 mf_337_112 mf_337_119
    simp (disch := omega) only [ev_S, ev_P, ↓reduceIte, Nat.reduceEqDiff, Nat.reduceLeDiff, Nat.reduceAdd, Nat.reduceMul, Nat.reduceSub, reduceCtorEq, l32_0, l32_1, l32_2, l32_3, l32_4, l32_5, l32_6, l32_7, l32_8, l32_9, l32_10, l32_11, l32_12, l32_13, l32_14, l32_15, l32_16, l32_17, l32_18, l32_19, l32_20, l32_21, l32_22, l32_23, l32_24, l32_25, l32_26, l32_27, l32_28, l32_29, l32_33, l32_40, l32_41, l32_44, l32_45, l32_59, l32_61, l32_91, l32_93, l32_123, l32_125, d, b1, c1]
  · rw [decide_eq_false d] at b1
    have b1 : mf_336 N yk yv (Int32.ofNat 0) s2 = _ := b1
    unfold mf_337_93 mf_337_108 mf_337_109 mf_337_112 mf_337_119
    simp (disch := omega) only [ev_S, ev_P, ↓reduceIte, Nat.reduceEqDiff, Nat.reduceLeDiff, Nat.reduceAdd, Nat.reduceMul, Nat.reduceSub, reduceCtorEq, l32_0, l32_1, l32_2, l32_3, l32_4, l32_5, l32_6, l32_7, l32_8, l32_9, l32_10, l32_11, l32_12, l32_13, l32_14, l32_15, l32_16, l32_17, l32_18, l32_19, l32_20, l32_21, l32_22, l32_23, l32_24, l32_25, l32_26, l32_27, l32_28, l32_29, l32_33, l32_40, l32_41, l32_44, l32_45, l32_59, l32_61, l32_91, l32_93, l32_123, l32_125, d, b1, c1]
theorem cG.into (hN : 170000 ≤ N) (G : cG t t' u u' w xs) (hx : cN (cel t) u vx x) (wx : wfN x) (hk : k ≤ 3) (hw : w + xs.length + 70 < 61000) : ∃ t2, cf_125 N X (Int32.ofNat k) vx t' = some (t2, .inl none) ∧ cG t t2 u u' w (xs ++ jnN k x) := by
  have kx := c_kn (N := N) (X := X) (G.up hx)
  have lx := kn_le (x := x)
  unfold jnN
  by_cases c : kn x = k
  · rw [if_pos c]
    have zx := c_sizeN (N := N) (X := X) G.c (G.up hx)
    have hpl : (pts x).length = szN x := pts_len
    have s64 := wf64 wx
    rw [← hpl] at zx
    have E1 : cf_125 N X (Int32.ofNat k) vx t' = cf_125_L1 N X N 0 vx (Int32.ofNat (pts x).length) (Int32.ofNat 0) t' := by
      generalize kn x = kx' at *
      unfold cf_125 cf_125_0 cf_125_4 cf_125_14 cf_125_19
      simp (disch := omega) only [ev_S, ev_C, ↓reduceIte, Nat.reduceEqDiff, Nat.reduceLeDiff, Nat.reduceAdd, Nat.reduceMul, Nat.reduceSub, reduceCtorEq, l32_0, l32_1, l32_2, l32_3, l32_4, l32_5, l32_6, l32_7, l32_8, l32_9, l32_10, l32_11, l32_12, l32_13, l32_14, l32_15, l32_16, l32_17, l32_18, l32_19, l32_20, l32_21, l32_22, l32_23, l32_24, l32_25, l32_26, l32_27, l32_28, l32_29, l32_33, l32_40, l32_41, l32_44, l32_45, l32_59, l32_61, l32_91, l32_93, l32_123, l32_125, kx, c, zx]
    rw [E1]
    refine lp (fun F i (t1 : cS) => cf_125_L1 N X F 0 vx (Int32.ofNat (pts x).length) (Int32.ofNat i) t1) (pts x).length (fun i t1 => cG t t1 u u' w (xs ++ (pts x).take i)) (fun R => ∃ t2, R = some (t2, .inl none) ∧ cG t t2 u u' w (xs ++ pts x)) ?_ ?_ (pts x).length 0 N t' (Nat.zero_add _) (by omega) (by rw [List.take_zero, List.append_nil]; exact G)
    · intro F i t1 hi G1 _
      left
      have n1 : ¬ (pts x).length ≤ i := by omega
      obtain ⟨v', d1, d2⟩ := c_part (N := N) (X := X) G1.c (G1.up hx) (i := i) hi
      obtain ⟨t2, p1, p2⟩ := cG.put (N := N) (X := X) G1 (by rw [List.length_append, List.length_take]; omega) d2
      refine ⟨t2, ?_, ?_⟩
      · rw [List.take_succ_eq_append_getElem hi, ← List.append_assoc]
        exact p2
      · show cf_125_24 N X (cf_125_L1 N X F) vx (Int32.ofNat (pts x).length) (Int32.ofNat i) t1 = _
        unfold cf_125_24 cf_125_31 cf_125_39 cf_125_42
        simp (disch := omega) only [ev_S, ev_C, ↓reduceIte, Nat.reduceEqDiff, Nat.reduceLeDiff, Nat.reduceAdd, Nat.reduceMul, Nat.reduceSub, reduceCtorEq, l32_0, l32_1, l32_2, l32_3, l32_4, l32_5, l32_6, l32_7, l32_8, l32_9, l32_10, l32_11, l32_12, l32_13, l32_14, l32_15, l32_16, l32_17, l32_18, l32_19, l32_20, l32_21, l32_22, l32_23, l32_24, l32_25, l32_26, l32_27, l32_28, l32_29, l32_33, l32_40, l32_41, l32_44, l32_45, l32_59, l32_61, l32_91, l32_93, l32_123, l32_125, n1, d1, p1]
    · intro F t1 G1
      rw [List.take_length] at G1
      refine ⟨t1, ?_, G1⟩
      show cf_125_24 N X (cf_125_L1 N X F) vx (Int32.ofNat (pts x).length) (Int32.ofNat (pts x).length) t1 = _
      unfold cf_125_24 cf_125_48
      simp (disch := omega) only [ev_S, ev_C, ↓reduceIte, Nat.reduceEqDiff, Nat.reduceLeDiff, Nat.reduceAdd, Nat.reduceMul, Nat.reduceSub, reduceCtorEq, l32_0, l32_1, l32_2, l32_3, l32_4, l32_5, l32_6, l32_7, l32_8, l32_9, l32_10, l32_11, l32_12, l32_13, l32_14, l32_15, l32_16, l32_17, l32_18, l32_19, l32_20, l32_21, l32_22, l32_23, l32_24, l32_25, l32_26, l32_27, l32_28, l32_29, l32_33, l32_40, l32_41, l32_44, l32_45, l32_59, l32_61, l32_91, l32_93, l32_123, l32_125]
  · rw [if_neg c]
    obtain ⟨t2, p1, p2⟩ := cG.put (N := N) (X := X) G (by omega) (G.up hx)
    refine ⟨t2, ?_, p2⟩
    generalize kn x = kx' at *
    unfold cf_125 cf_125_0 cf_125_4 cf_125_8 cf_125_13
    simp (disch := omega) only [ev_S, ev_C, ↓reduceIte, Nat.reduceEqDiff, Nat.reduceLeDiff, Nat.reduceAdd, Nat.reduceMul, Nat.reduceSub, reduceCtorEq, l32_0, l32_1, l32_2, l32_3, l32_4, l32_5, l32_6, l32_7, l32_8, l32_9, l32_10, l32_11, l32_12, l32_13, l32_14, l32_15, l32_16, l32_17, l32_18, l32_19, l32_20, l32_21, l32_22, l32_23, l32_24, l32_25, l32_26, l32_27, l32_28, l32_29, l32_33, l32_40, l32_41, l32_44, l32_45, l32_59, l32_61, l32_91, l32_93, l32_123, l32_125, kx, c, p1]
theorem jk_max {a b : Nat} (ha : a ≤ 3) (hb : b ≤ 3) : (if (1 : Int32) < (if Int32.ofNat a < Int32.ofNat b then Int32.ofNat b else Int32.ofNat a) then (if Int32.ofNat a < Int32.ofNat b then Int32.ofNat b else Int32.ofNat a) else 1) = Int32.ofNat (if a = 3 ∨ b = 3 then 3 else if a = 2 ∨ b = 2 then 2 else 1) := by
  rcases (show a = 0 ∨ a = 1 ∨ a = 2 ∨ a = 3 by omega) with rfl | rfl | rfl | rfl <;> rcases (show b = 0 ∨ b = 1 ∨ b = 2 ∨ b = 3 by omega) with rfl | rfl | rfl | rfl <;> decide
theorem c_join (hN : 170000 ≤ N) (hh : cHp t u w) (hx : cN (cel t) u vx x) (hy : cN (cel t) u vy y) (wx : wfN x) (wy : wfN y) (dx : x.1 ≤ 4) (dy : y.1 ≤ 4) (hu : u ≤ 162000) (hw : w ≤ 1000) : ∃ t' v, cf_108 N X vx vy t = some (t', .inl (some (.long v))) ∧ cE t t' u v (if jkN x y = 2 ∧ (kn x = 0 ∨ kn y = 0) then .inl 3 else ansJ x y) := by
  have kx := c_kn (N := N) (X := X) hx
  have ky := c_kn (N := N) (X := X) hy
  have lx := kn_le (x := x)
  have ly := kn_le (x := y)
  have ga := c_gathered (N := N) (X := X) hh
  have em : (if Int32.ofNat 1 < (if Int32.ofNat (kn x) < Int32.ofNat (kn y) then Int32.ofNat (kn y) else Int32.ofNat (kn x)) then (if Int32.ofNat (kn x) < Int32.ofNat (kn y) then Int32.ofNat (kn y) else Int32.ofNat (kn x)) else Int32.ofNat 1) = Int32.ofNat (jkN x y) := by
    exact jk_max lx ly
  have E1 : cf_108 N X vx vy t = cf_108_9 N X vx vy (Int32.ofNat 1) (Int32.ofNat (kn x)) (Int32.ofNat (kn y)) t := by
    generalize kn x = kx' at *
    generalize kn y = ky' at *
    unfold cf_108 cf_108_0 cf_108_5
    simp (disch := omega) only [ev_S, ev_C, ↓reduceIte, Nat.reduceEqDiff, Nat.reduceLeDiff, Nat.reduceAdd, Nat.reduceMul, Nat.reduceSub, reduceCtorEq, l32_0, l32_1, l32_2, l32_3, l32_4, l32_5, l32_6, l32_7, l32_8, l32_9, l32_10, l32_11, l32_12, l32_13, l32_14, l32_15, l32_16, l32_17, l32_18, l32_19, l32_20, l32_21, l32_22, l32_23, l32_24, l32_25, l32_26, l32_27, l32_28, l32_29, l32_33, l32_40, l32_41, l32_44, l32_45, l32_59, l32_61, l32_91, l32_93, l32_123, l32_125, kx, ky]
  rw [E1]
  unfold cf_108_9
  rw [em]
  by_cases c : jkN x y = 2 ∧ (kn x = 0 ∨ kn y = 0)
  · rw [if_pos c]
    refine ⟨t, _, ?_, cE.tr hh⟩
    rw [if_neg (show ¬ ¬ Int32.ofNat (jkN x y) = 2 from fun z => z (by rw [c.1]; rfl))]
    have b1 := c_rf (N := N) (X := X) (t := t) (k := Int32.ofNat 3)
    generalize jkN x y = J at *
    generalize kn x = kx' at *
    generalize kn y = ky' at *
    by_cases d : kx' = 0
    · unfold cf_108_23 cf_108_27 cf_108_37 cf_108_41
      simp (disch := omega) only [ev_S, ev_C, ↓reduceIte, Nat.reduceEqDiff, Nat.reduceLeDiff, Nat.reduceAdd, Nat.reduceMul, Nat.reduceSub, reduceCtorEq, l32_0, l32_1, l32_2, l32_3, l32_4, l32_5, l32_6, l32_7, l32_8, l32_9, l32_10, l32_11, l32_12, l32_13, l32_14, l32_15, l32_16, l32_17, l32_18, l32_19, l32_20, l32_21, l32_22, l32_23, l32_24, l32_25, l32_26, l32_27, l32_28, l32_29, l32_33, l32_40, l32_41, l32_44, l32_45, l32_59, l32_61, l32_91, l32_93, l32_123, l32_125, kx, d, b1]
    · have d' : ky' = 0 := by omega
      unfold cf_108_23 cf_108_27 cf_108_30 cf_108_34 cf_108_37 cf_108_41
      simp (disch := omega) only [ev_S, ev_C, ↓reduceIte, Nat.reduceEqDiff, Nat.reduceLeDiff, Nat.reduceAdd, Nat.reduceMul, Nat.reduceSub, reduceCtorEq, l32_0, l32_1, l32_2, l32_3, l32_4, l32_5, l32_6, l32_7, l32_8, l32_9, l32_10, l32_11, l32_12, l32_13, l32_14, l32_15, l32_16, l32_17, l32_18, l32_19, l32_20, l32_21, l32_22, l32_23, l32_24, l32_25, l32_26, l32_27, l32_28, l32_29, l32_33, l32_40, l32_41, l32_44, l32_45, l32_59, l32_61, l32_91, l32_93, l32_123, l32_125, kx, ky, d, d', b1]
  · rw [if_neg c]
    obtain ⟨t2, a1, a2⟩ := cG.into (N := N) (X := X) (k := jkN x y) hN (cG.nil hh) hx wx jkN_1.2 (by rw [List.length_nil]; omega)
    rw [List.nil_append] at a2
    have jl := jnN_len (k := jkN x y) wx
    have jl' := jnN_len (k := jkN x y) wy
    obtain ⟨t3, b1, b2⟩ := cG.into (N := N) (X := X) (k := jkN x y) hN a2 hy wy jkN_1.2 (by omega)
    have hll : (jnN (jkN x y) x ++ jnN (jkN x y) y).length ≤ 128 := by rw [List.length_append]; omega
    obtain ⟨t4, v, c1, c2⟩ := cG.build (N := N) (X := X) (k := jkN x y) hN b2 (jnN_ok c) (fun z hz => (List.mem_append.mp hz).elim (fun q => (jnN_wf wx dx z q).1) (fun q => (jnN_wf wy dy z q).1)) (fun z hz => (List.mem_append.mp hz).elim (fun q => (jnN_wf wx dx z q).2) (fun q => (jnN_wf wy dy z q).2)) (by omega) (by omega) (by omega) (by omega) (by omega)
    refine ⟨t4, v, ?_, c2⟩
    have E2 : cf_108_42 N X vx vy (Int32.ofNat (jkN x y)) t = some (t4, .inl (some (.long v))) := by
      generalize jkN x y = J at *
      unfold cf_108_42 cf_108_49 cf_108_61 cf_108_71 cf_108_82
      simp (disch := omega) only [ev_S, ev_C, ↓reduceIte, Nat.reduceEqDiff, Nat.reduceLeDiff, Nat.reduceAdd, Nat.reduceMul, Nat.reduceSub, reduceCtorEq, l32_0, l32_1, l32_2, l32_3, l32_4, l32_5, l32_6, l32_7, l32_8, l32_9, l32_10, l32_11, l32_12, l32_13, l32_14, l32_15, l32_16, l32_17, l32_18, l32_19, l32_20, l32_21, l32_22, l32_23, l32_24, l32_25, l32_26, l32_27, l32_28, l32_29, l32_33, l32_40, l32_41, l32_44, l32_45, l32_59, l32_61, l32_91, l32_93, l32_123, l32_125, ga, a1, b1, c1]
    by_cases d : jkN x y = 2
    · rw [if_neg (show ¬ ¬ Int32.ofNat (jkN x y) = 2 from fun z => z (by rw [d]; rfl))]
      have d1 : ¬ kn x = 0 := fun z => c ⟨d, Or.inl z⟩
      have d2 : ¬ kn y = 0 := fun z => c ⟨d, Or.inr z⟩
      generalize jkN x y = J at *
      generalize kn x = kx' at *
      generalize kn y = ky' at *
      unfold cf_108_23 cf_108_27 cf_108_30 cf_108_34
      simp (disch := omega) only [ev_S, ev_C, ↓reduceIte, Nat.reduceEqDiff, Nat.reduceLeDiff, Nat.reduceAdd, Nat.reduceMul, Nat.reduceSub, reduceCtorEq, l32_0, l32_1, l32_2, l32_3, l32_4, l32_5, l32_6, l32_7, l32_8, l32_9, l32_10, l32_11, l32_12, l32_13, l32_14, l32_15, l32_16, l32_17, l32_18, l32_19, l32_20, l32_21, l32_22, l32_23, l32_24, l32_25, l32_26, l32_27, l32_28, l32_29, l32_33, l32_40, l32_41, l32_44, l32_45, l32_59, l32_61, l32_91, l32_93, l32_123, l32_125, kx, ky, d1, d2, E2]
    · rw [if_pos (show ¬ Int32.ofNat (jkN x y) = 2 from fun z => d (ofNat_inj (by have := (jkN_1 (x := x) (y := y)).2; omega) (by omega) z))]
      exact E2
end JNS
