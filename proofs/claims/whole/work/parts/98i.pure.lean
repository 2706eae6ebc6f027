/-! ===== PURE: run (86): a new thing is given, or a trouble comes (the class) ===== -/
section GIV
variable {N : Nat} {X : Nat → Option zz_C} {t0 t t' t2 : cS} {u u' w w' p fu m m' d d' k j : Nat} {code : List Ins} {Fs : List Fn} {T : Ty} {out : List Int32} {F F' : List Fm} {sh S0 : Nat → Option Nod} {vs : List (Option Nod)} {I J : List It} {it : It} {v : Int64} {o : Option Nod} {z q r : Int32} {a b : Fm} {l : List (Option Nod)} {x : Nod}
theorem sum4 : ∀ {q : List (List Int32)}, (q.map fun r => 4 + r.length).sum = 4 * q.length + (q.map List.length).sum
  | [] => rfl
  | r :: q => by
    rw [List.map_cons, List.sum_cons, List.map_cons, List.sum_cons, sum4, List.length_cons]
    omega
/-- what a thing costs -/
theorem c_made (hh : cHp t u w) (hx : cN (cel t) u v x) (wx : wfN x) : cf_131 N X v t = some (t, .inl (some (.int (Int32.ofNat (ctV (vw x)))))) := by
  have e1 := c_kn (N := N) (X := X) hx
  have e2 := c_sizeN (N := N) (X := X) hh hx
  have h := cN_iff.mp hx
  have e1 : cf_255 N X v t = some (t, .inl (some (.int (Int32.ofNat (knV (vw x)))))) := e1
  have hz : szN x = szV (vw x) := rfl
  rw [hz] at e2
  obtain ⟨h1, h2, h3, h4, h5, h6, h7, h8, h9⟩ := hh
  generalize vw x = V at *
  obtain z | r | q | ⟨n, l⟩ := V
  · have e1 : cf_255 N X v t = some (t, .inl (some (.int (Int32.ofNat 0)))) := e1
    unfold cf_131 cf_131_0
    rw [e1]
    rfl
  · have e1 : cf_255 N X v t = some (t, .inl (some (.int (Int32.ofNat 1)))) := e1
    have e2 : cf_128 N X v t = some (t, .inl (some (.int (Int32.ofNat r.length)))) := e2
    have E : cf_131 N X v t = cf_131_32 N X v t := by
      unfold cf_131 cf_131_0
      rw [e1]
      rfl
    rw [E]
    show cf_131_32 N X v t = some (t, .inl (some (.int (Int32.ofNat (4 + r.length)))))
    unfold cf_131_32 cf_131_38
    simp (disch := omega) only [ev_S, ev_C, ↓reduceIte, Nat.reduceEqDiff, Nat.reduceLeDiff, Nat.reduceAdd, Nat.reduceMul, Nat.reduceSub, reduceCtorEq, l32_0, l32_1, l32_2, l32_3, l32_4, l32_5, l32_6, l32_7, l32_8, l32_9, l32_10, l32_11, l32_12, l32_13, l32_14, l32_15, l32_16, l32_17, l32_18, l32_19, l32_20, l32_21, l32_22, l32_23, l32_24, l32_25, l32_26, l32_27, l32_28, l32_29, l32_33, l32_40, l32_41, l32_44, l32_45, l32_59, l32_61, l32_91, l32_93, l32_123, l32_125, e2]
  · have e1 : cf_255 N X v t = some (t, .inl (some (.int (Int32.ofNat 2)))) := e1
    have e2 : cf_128 N X v t = some (t, .inl (some (.int (Int32.ofNat q.length)))) := e2
    have E : cf_131 N X v t = cf_131_40 N X v t := by
      unfold cf_131 cf_131_0
      rw [e1]
      rfl
    rw [E]
    show cf_131_40 N X v t = some (t, .inl (some (.int (Int32.ofNat (4 + (q.map fun r => 4 + r.length).sum)))))
    rw [sum4]
    obtain ⟨a, g0, g1, g2, g3, g4⟩ := h
    have g3 : (kB t 43).2 (a + 1) = _ := g3
    have e3 : cf_136 N X v t = some (t, .inl (some (.int (Int32.ofNat (q.map List.length).sum)))) := by
      have n1 : ¬ u ≤ a + 1 := by omega
      rw [g0]
      repeat ((first | unfold cf_136 | unfold cf_136_0 | unfold cf_136_9 | unfold cf_136_17 | unfold cf_136_27 | unfold cf_136_28); try simp (disch := omega) only [ev_S, ev_C, ↓reduceIte, Nat.reduceEqDiff, Nat.reduceLeDiff, Nat.reduceAdd, Nat.reduceMul, Nat.reduceSub, reduceCtorEq, l32_0, l32_1, l32_2, l32_3, l32_4, l32_42, l32_43, tg_low, h1, n1, g3, i64_32])
    generalize (q.map List.length).sum = sq at *
    unfold cf_131_40 cf_131_47 cf_131_54
    simp (disch := omega) only [ev_S, ev_C, ↓reduceIte, Nat.reduceEqDiff, Nat.reduceLeDiff, Nat.reduceAdd, Nat.reduceMul, Nat.reduceSub, reduceCtorEq, l32_0, l32_1, l32_2, l32_3, l32_4, l32_5, l32_6, l32_7, l32_8, l32_9, l32_10, l32_11, l32_12, l32_13, l32_14, l32_15, l32_16, l32_17, l32_18, l32_19, l32_20, l32_21, l32_22, l32_23, l32_24, l32_25, l32_26, l32_27, l32_28, l32_29, l32_33, l32_40, l32_41, l32_44, l32_45, l32_59, l32_61, l32_91, l32_93, l32_123, l32_125, e2, e3]
    rw [show 4 + 4 * q.length + sq = 4 + (4 * q.length + sq) by omega]
  · have e1 : cf_255 N X v t = some (t, .inl (some (.int (Int32.ofNat 3)))) := e1
    have e2 : cf_128 N X v t = some (t, .inl (some (.int (Int32.ofNat l.length)))) := e2
    have E : cf_131 N X v t = cf_131_56 N X v t := by
      unfold cf_131 cf_131_0
      rw [e1]
      rfl
    rw [E]
    show cf_131_56 N X v t = some (t, .inl (some (.int (Int32.ofNat (4 + 2 * l.length)))))
    unfold cf_131_56 cf_131_63
    simp (disch := omega) only [ev_S, ev_C, ↓reduceIte, Nat.reduceEqDiff, Nat.reduceLeDiff, Nat.reduceAdd, Nat.reduceMul, Nat.reduceSub, reduceCtorEq, l32_0, l32_1, l32_2, l32_3, l32_4, l32_5, l32_6, l32_7, l32_8, l32_9, l32_10, l32_11, l32_12, l32_13, l32_14, l32_15, l32_16, l32_17, l32_18, l32_19, l32_20, l32_21, l32_22, l32_23, l32_24, l32_25, l32_26, l32_27, l32_28, l32_29, l32_33, l32_40, l32_41, l32_44, l32_45, l32_59, l32_61, l32_91, l32_93, l32_123, l32_125, e2]
theorem rf_tg0 : ∀ k : Fin 12, rf (Int32.ofNat k.1) = tg 4 (Int32.ofNat k.1) := by decide
theorem rf_tg (hk : k < 12) : rf (Int32.ofNat k) = tg 4 (Int32.ofNat k) := rf_tg0 ⟨k, hk⟩
theorem c_giveT (hk : k < 12) (hr : cf_156 N X (Int32.ofNat k) q (Int32.ofNat 0) t = some (t2, .inl none)) {g : Int32} : cf_144 N X (rf (Int32.ofNat k)) g q t = some (t2, .inl none) := by
  have e1 : cf_255 N X (rf (Int32.ofNat k)) t = some (t, .inl (some (.int (Int32.ofNat 4)))) := by rw [rf_tg hk]; exact c_kindOf (k := 4) (a := Int32.ofNat k)
  have e2 : cf_256 N X (rf (Int32.ofNat k)) t = some (t, .inl (some (.int (Int32.ofNat k)))) := by rw [rf_tg hk]; exact c_lowOf (k := 4) (a := Int32.ofNat k)
  unfold cf_144 cf_144_0 cf_144_4 cf_144_8 cf_144_13 cf_144_19 cf_144_71
  simp (disch := omega) only [ev_S, ev_C, ↓reduceIte, Nat.reduceEqDiff, Nat.reduceLeDiff, Nat.reduceAdd, Nat.reduceMul, Nat.reduceSub, reduceCtorEq, l32_0, l32_1, l32_2, l32_3, l32_4, l32_5, l32_6, l32_7, l32_8, l32_9, l32_10, l32_11, l32_12, l32_13, l32_14, l32_15, l32_16, l32_17, l32_18, l32_19, l32_20, l32_21, l32_22, l32_23, l32_24, l32_25, l32_26, l32_27, l32_28, l32_29, l32_33, l32_40, l32_41, l32_44, l32_45, l32_59, l32_61, l32_91, l32_93, l32_123, l32_125, e1, e2, hr]
/-- too much is made -/
theorem c_giveM (hh : cHp t u w) (hx : cN (cel t) u v x) (wx : wfN x) (h3 : kI t 48 3 = Int32.ofNat T.2.1) (hm : T.2.1 ≤ 3000) (ho : ¬ T.2.1 + ctV (vw x) ≤ 3000) (hr : cf_156 N X (Int32.ofNat 11) q (Int32.ofNat 0) (jI t 48 3 (Int32.ofNat (T.2.1 + ctV (vw x)))) = some (t2, .inl none)) {g : Int32} : cf_144 N X v g q t = some (t2, .inl none) := by
  have e1 := c_kn (N := N) (X := X) hx
  have lx := kn_le (x := x)
  have e2 := c_made (N := N) (X := X) hh hx wx
  have hb := ct_le wx
  have ho' : 3000 < T.2.1 + ctV (vw x) := by omega
  generalize ctV (vw x) = c at *
  generalize T.2.1 = md at *
  have n4 : ¬ kn x = 4 := by omega
  generalize kn x = kk at *
  have e3 : cf_236 N X (Int32.ofNat c) t = some (jI t 48 3 (Int32.ofNat (md + c)), .inl (some (.int (Int32.ofNat 0)))) := by
    unfold cf_236 cf_236_0 cf_236_24 cf_236_25
    simp (disch := omega) only [ev_S, ev_C, ↓reduceIte, Nat.reduceEqDiff, Nat.reduceLeDiff, Nat.reduceAdd, Nat.reduceMul, Nat.reduceSub, reduceCtorEq, l32_0, l32_1, l32_2, l32_3, l32_4, l32_5, l32_6, l32_7, l32_8, l32_9, l32_10, l32_11, l32_12, l32_13, l32_14, l32_15, l32_16, l32_17, l32_18, l32_19, l32_20, l32_21, l32_22, l32_23, l32_24, l32_25, l32_26, l32_27, l32_28, l32_29, l32_33, l32_40, l32_41, l32_44, l32_45, l32_59, l32_61, l32_91, l32_93, l32_123, l32_125, h3, ho', l32_3000]
  unfold cf_144 cf_144_0 cf_144_4 cf_144_22 cf_144_34 cf_144_37 cf_144_40 cf_144_49 cf_144_71
  simp (disch := omega) only [ev_S, ev_C, ↓reduceIte, Nat.reduceEqDiff, Nat.reduceLeDiff, Nat.reduceAdd, Nat.reduceMul, Nat.reduceSub, reduceCtorEq, l32_0, l32_1, l32_2, l32_3, l32_4, l32_5, l32_6, l32_7, l32_8, l32_9, l32_10, l32_11, l32_12, l32_13, l32_14, l32_15, l32_16, l32_17, l32_18, l32_19, l32_20, l32_21, l32_22, l32_23, l32_24, l32_25, l32_26, l32_27, l32_28, l32_29, l32_33, l32_40, l32_41, l32_44, l32_45, l32_59, l32_61, l32_91, l32_93, l32_123, l32_125, e1, n4, e2, e3, hr]
theorem CB.md (h : CB t0 t p code Fs fu T out) {c : Nat} : CB t0 (jI t 48 3 (Int32.ofNat c)) p code Fs fu (T.1, c, T.2.2) out := by
  obtain ⟨a1, ⟨b1, b2, b3, b4, b5⟩, ⟨c1, c2, c3⟩, a4, a5, a6⟩ := h
  have g : gf (fun k f => k = 48 ∧ f = 3) (fun _ => False) t (jI t 48 3 (Int32.ofNat c)) := gf_I
  exact ⟨a1.keep g (fun f => ⟨fun q => by omega, fun q => by omega⟩) (fun k k1 k2 q => q), ⟨b1, b2, rfl, b4, b5⟩, ⟨c1, c2, c3⟩, a4.keep2 g (fun q => by omega) (fun q => q) (fun q => q), a5, a6.tr2 (g.mono2 (fun k f q => by show k = 42 ∨ k = 45 ∨ (k = 48 ∧ ¬ f = 0) ∨ k = 49 ∨ k = 58; omega) (fun k q => q.elim))⟩
theorem CX.md (h : CX t0 t p code Fs fu S0 u w F sh T out) {c : Nat} : CX t0 (jI t 48 3 (Int32.ofNat c)) p code Fs fu S0 u w F sh (T.1, c, T.2.2) out := by
  obtain ⟨h1, h2, h3, h4⟩ := h
  obtain ⟨a1, a2, a3, a4, a5, a6, a7, a8⟩ := h2
  exact ⟨h1.md, ⟨a1, cFr.ji a2, a3, a4, a5, a6, a7, a8⟩, h3.I (by decide), h4⟩
/-- it comes in the stead of what it was made of -/
theorem CX.give (h : CX t0 t p code Fs fu S0 u w ((m, d, vs, J ++ I) :: F) sh T out) (hl : (cStk ((m, d, vs, J ++ I) :: F)).length ≤ 20000) (hJ : ∀ y ∈ J, ¬ y.1 = 3) (hj : (cIt J).length = j) (hx : cN (cel t) u v x) (wx : wfN x) (hm : T.2.1 + ctV (vw x) ≤ 3000) : ∃ t', cf_144 N X v (Int32.ofNat j) q t = some (t', .inl none) ∧ CX t0 t' p code Fs fu S0 u w ((m', d', vs, (0, [x], 0) :: I) :: F) sh (T.1, T.2.1 + ctV (vw x), T.2.2) out ∧ kI t' 49 17 = kI t 49 17 := by
  have e1 := c_kn (N := N) (X := X) hx
  have lx := kn_le (x := x)
  have e2 := c_made (N := N) (X := X) h.2.2.1 hx wx
  have h3 := h.1.2.1.2.2.1
  have eC : cStk ((m, d, vs, J ++ I) :: F) = cIt J ++ cStk ((m', d', vs, I) :: F) := by
    show (J ++ I).flatMap iC ++ _ = J.flatMap iC ++ (I.flatMap iC ++ _)
    rw [List.flatMap_append, List.append_assoc]
  have eT : tStk ((m', d', vs, I) :: F) = tStk ((m, d, vs, J ++ I) :: F) := by
    show tIt _ _ I ++ _ = tIt _ _ (J ++ I) ++ _
    rw [tIt_app hJ]
  have H1 := h.md (c := T.2.1 + ctV (vw x))
  have H2 := H1.lower eC eT
  have h8 := h.2.2.2
  rw [eC, List.length_append, hj] at h8
  have hl' := hl
  rw [eC, List.length_append, hj] at hl'
  obtain ⟨t', b1, b2, b3, b4⟩ := CX.push (N := N) (X := X) (m' := m') (d' := d') (it := (0, [x], 0)) (o := some x) H2 (by omega) hx (by show ¬ (0 : Nat) = 3; decide) rfl
  refine ⟨t', ?_, b2, b3⟩
  have e3 : cf_236 N X (Int32.ofNat (ctV (vw x))) t = some (jI t 48 3 (Int32.ofNat (T.2.1 + ctV (vw x))), .inl (some (.int (Int32.ofNat 1)))) := by
    generalize ctV (vw x) = c at *
    generalize T.2.1 = md at *
    have ho : ¬ 3000 < md + c := by omega
    unfold cf_236 cf_236_0 cf_236_20 cf_236_25
    simp (disch := omega) only [ev_S, ev_C, ↓reduceIte, Nat.reduceEqDiff, Nat.reduceLeDiff, Nat.reduceAdd, Nat.reduceMul, Nat.reduceSub, reduceCtorEq, l32_0, l32_1, l32_2, l32_3, l32_4, l32_5, l32_6, l32_7, l32_8, l32_9, l32_10, l32_11, l32_12, l32_13, l32_14, l32_15, l32_16, l32_17, l32_18, l32_19, l32_20, l32_21, l32_22, l32_23, l32_24, l32_25, l32_26, l32_27, l32_28, l32_29, l32_33, l32_40, l32_41, l32_44, l32_45, l32_59, l32_61, l32_91, l32_93, l32_123, l32_125, h3, ho, l32_3000]
  have n4 : ¬ kn x = 4 := by omega
  have hb := ct_le wx
  generalize (cStk ((m', d', vs, I) :: F)).length = n at *
  clear H1 H2 b2 eC eT hl b4
  have sb : Int32.ofNat (j + n) - Int32.ofNat j = Int32.ofNat n := by rw [← Int32.ofNat_sub _ _ (by omega), Nat.add_sub_cancel_left]
  have h8' : kI (jI t 48 3 (Int32.ofNat (T.2.1 + ctV (vw x)))) 49 8 = Int32.ofNat (j + n) := h8
  have ng : ¬ n < 0 := by omega
  generalize ctV (vw x) = c at *
  generalize kn x = kk at *
  unfold cf_144 cf_144_0 cf_144_4 cf_144_22 cf_144_34 cf_144_37 cf_144_52 cf_144_71
  simp (disch := omega) only [ev_S, ev_C, ↓reduceIte, Nat.reduceEqDiff, Nat.reduceLeDiff, Nat.reduceAdd, Nat.reduceMul, Nat.reduceSub, reduceCtorEq, l32_0, l32_1, l32_2, l32_3, l32_4, l32_5, l32_6, l32_7, l32_8, l32_9, l32_10, l32_11, l32_12, l32_13, l32_14, l32_15, l32_16, l32_17, l32_18, l32_19, l32_20, l32_21, l32_22, l32_23, l32_24, l32_25, l32_26, l32_27, l32_28, l32_29, l32_33, l32_40, l32_41, l32_44, l32_45, l32_59, l32_61, l32_91, l32_93, l32_123, l32_125, e1, n4, e2, e3, h8', sb, ng, b1]
end GIV
