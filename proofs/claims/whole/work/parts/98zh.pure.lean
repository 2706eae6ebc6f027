/-! ===== PURE: run (111): a call begins (the class) ===== -/
/-- the most calls -/
def opT (T : Ty) (k : Nat) : Ty := (T.1, T.2.1, (if T.2.2.1 < k then k else T.2.2.1), T.2.2.2)
section ENT
variable {N : Nat} {X : Nat → Option zz_C} {t0 t t1 t2 : cS} {u w p fu m m' d d' n k fi bb nv : Nat} {code : List Ins} {Fs : List Fn} {T : Ty} {out : List Int32} {G F : List Fm} {sh S0 : Nat → Option Nod} {vs : List (Option Nod)} {I' J : List It} {q : Int32} {xs : List Nod}
theorem c_told (hE : cEv t p code Fs) (hf : fi < Fs.length) : cf_33 N X p (Int32.ofNat fi) (Int32.ofNat 1) t = some (t, .inl (some (.int (Int32.ofNat Fs[fi].2.2.2.1)))) ∧ cf_33 N X p (Int32.ofNat fi) (Int32.ofNat 0) t = some (t, .inl (some (.int (Int32.ofNat Fs[fi].2.2.1)))) ∧ cf_204 N X p (Int32.ofNat fi) t = some (t, .inl (some (.int (Int32.ofNat (posC code Fs[fi].2.2.2.2.1))))) := by
  obtain ⟨h1, h2, -, ⟨c1, c2, c3, c4, c5, c6, c7, c8, c9⟩⟩ := hE
  obtain ⟨d1, d2, d3, d4, d5⟩ := c9 fi hf
  have hp2 : (p = 12 ∨ p = 21) = True := eq_true h2
  clear c9
  generalize Fs[fi] = g at *
  generalize Fs.length = L at *
  have n1 : ¬ L ≤ fi := by omega
  refine ⟨?_, ?_, ?_⟩
  · have E : cf_33 N X p (Int32.ofNat fi) (Int32.ofNat 1) t = cf_33_47 N X p (Int32.ofNat fi) t := by
      unfold cf_33 cf_33_0 cf_33_4
      simp (disch := omega) only [ev_S, ev_C, ↓reduceIte, Nat.reduceEqDiff, Nat.reduceLeDiff, Nat.reduceAdd, Nat.reduceMul, Nat.reduceSub, reduceCtorEq, l32_0, l32_1, l32_2, l32_3, l32_4, l32_5, l32_6, l32_7, l32_8, l32_9, l32_10, l32_11, l32_12, l32_13, l32_14, l32_15, l32_16, l32_17, l32_18, l32_19, l32_20, l32_21, l32_22, l32_23, l32_24, l32_25, l32_26, l32_27, l32_28, l32_29, l32_33, l32_40, l32_41, l32_44, l32_45, l32_59, l32_61, l32_91, l32_93, l32_123, l32_125, hp2, c1, hf]
      rfl
    rw [E]
    unfold cf_33_47
    simp (disch := omega) only [ev_S, ev_C, ↓reduceIte, Nat.reduceEqDiff, Nat.reduceLeDiff, Nat.reduceAdd, Nat.reduceMul, Nat.reduceSub, reduceCtorEq, l32_0, l32_1, l32_2, l32_3, l32_4, l32_5, l32_6, l32_7, l32_8, l32_9, l32_10, l32_11, l32_12, l32_13, l32_14, l32_15, l32_16, l32_17, l32_18, l32_19, l32_20, l32_21, l32_22, l32_23, l32_24, l32_25, l32_26, l32_27, l32_28, l32_29, l32_33, l32_40, l32_41, l32_44, l32_45, l32_59, l32_61, l32_91, l32_93, l32_123, l32_125, hp2, c7, d4]
  · have E : cf_33 N X p (Int32.ofNat fi) (Int32.ofNat 0) t = cf_33_40 N X p (Int32.ofNat fi) t := by
      unfold cf_33 cf_33_0 cf_33_4
      simp (disch := omega) only [ev_S, ev_C, ↓reduceIte, Nat.reduceEqDiff, Nat.reduceLeDiff, Nat.reduceAdd, Nat.reduceMul, Nat.reduceSub, reduceCtorEq, l32_0, l32_1, l32_2, l32_3, l32_4, l32_5, l32_6, l32_7, l32_8, l32_9, l32_10, l32_11, l32_12, l32_13, l32_14, l32_15, l32_16, l32_17, l32_18, l32_19, l32_20, l32_21, l32_22, l32_23, l32_24, l32_25, l32_26, l32_27, l32_28, l32_29, l32_33, l32_40, l32_41, l32_44, l32_45, l32_59, l32_61, l32_91, l32_93, l32_123, l32_125, hp2, c1, hf]
      rfl
    rw [E]
    unfold cf_33_40
    simp (disch := omega) only [ev_S, ev_C, ↓reduceIte, Nat.reduceEqDiff, Nat.reduceLeDiff, Nat.reduceAdd, Nat.reduceMul, Nat.reduceSub, reduceCtorEq, l32_0, l32_1, l32_2, l32_3, l32_4, l32_5, l32_6, l32_7, l32_8, l32_9, l32_10, l32_11, l32_12, l32_13, l32_14, l32_15, l32_16, l32_17, l32_18, l32_19, l32_20, l32_21, l32_22, l32_23, l32_24, l32_25, l32_26, l32_27, l32_28, l32_29, l32_33, l32_40, l32_41, l32_44, l32_45, l32_59, l32_61, l32_91, l32_93, l32_123, l32_125, hp2, c6, d3]
  · unfold cf_204 cf_204_0 cf_204_4 cf_204_12 cf_204_25
    simp (disch := omega) only [ev_S, ev_C, ↓reduceIte, Nat.reduceEqDiff, Nat.reduceLeDiff, Nat.reduceAdd, Nat.reduceMul, Nat.reduceSub, reduceCtorEq, l32_0, l32_1, l32_2, l32_3, l32_4, l32_5, l32_6, l32_7, l32_8, l32_9, l32_10, l32_11, l32_12, l32_13, l32_14, l32_15, l32_16, l32_17, l32_18, l32_19, l32_20, l32_21, l32_22, l32_23, l32_24, l32_25, l32_26, l32_27, l32_28, l32_29, l32_33, l32_40, l32_41, l32_44, l32_45, l32_59, l32_61, l32_91, l32_93, l32_123, l32_125, hp2, c1, n1, c5, d2]
/-- one more variable that has nothing -/
theorem CX.bareV {ws : List (Option Nod)} (C : CX t0 t p code Fs fu S0 u w ((m, d, ws, []) :: F) sh T out) (hl : (cStk ((m, d, ws, []) :: F)).length ≤ 20000) : ∃ t', cf_165 N X bare t = some (t', .inl none) ∧ CX t0 t' p code Fs fu S0 u w ((m, d, ws ++ [none], []) :: F) sh T out := by
  obtain ⟨h1, h2, h3, h4⟩ := C
  obtain ⟨t', a1, a2, a3, a4, a5⟩ := c_push (N := N) (X := X) (v := bare) (o := none) h3 h2.1 h4 hl rfl
  have e : cStk ((m, d, ws ++ [none], []) :: F) = none :: cStk ((m, d, ws, []) :: F) := by
    show [] ++ ((ws ++ [none]).reverse ++ cStk F) = none :: ([] ++ (ws.reverse ++ cStk F))
    rw [List.reverse_append]
    rfl
  exact ⟨t', a1, h1.P a4, h2.stk a4 (fun f q => by have := q.2; omega) (fun k q => q) (by rw [e]; exact a2) rfl, a5, by rw [e]; exact a3⟩
theorem CX.enter (hN : 170000 ≤ N) (C : CX t0 t p code Fs fu S0 u w ((m, d, vs, J ++ I') :: G) sh T out) (hJ : cIt J = xs.reverse.map some) (hJ3 : ∀ y ∈ J, ¬ y.1 = 3) (hfi : fi < Fs.length) (hG : G.length ≤ 8) (hret : kI t 49 17 = Int32.ofNat (cBk code ((m, d', vs, I') :: G))) (hl : (cStk ((m, d, vs, J ++ I') :: G)).length ≤ 17600) (hnv : xs.length ≤ Fs[fi].2.2.2.1 ∧ Fs[fi].2.2.2.1 ≤ 14) (hdp : T.2.2.1 ≤ 10) : ∃ t', cf_157 N X (Int32.ofNat fi) (Int32.ofNat xs.length) q t = some (t', .inl none) ∧ CX t0 t' p code Fs fu S0 u w ((Fs[fi].2.2.2.2.1, 0, xs.map some ++ List.replicate (Fs[fi].2.2.2.1 - xs.length) none, []) :: (m, d', vs, I') :: G) sh (opT T (G.length + 2)) out ∧ kI t' 49 17 = Int32.ofNat (posC code Fs[fi].2.2.2.2.1) := by
  obtain ⟨w1, w2, w3⟩ := c_told (N := N) (X := X) C.1.1 hfi
  have hP := C.1.1.1
  have hp := C.1.1.2.1
  have eC : cStk ((m, d, vs, J ++ I') :: G) = xs.reverse.map some ++ cStk ((m, d', vs, I') :: G) := by rw [cStk_app (m' := m) (d' := d'), hJ]
  have eT : tStk ((m, d', vs, I') :: G) = tStk ((m, d, vs, J ++ I') :: G) := by
    show tIt _ _ I' ++ _ = tIt _ _ (J ++ I') ++ _
    rw [tIt_app hJ3]
  have hlen : (cStk ((m, d, vs, J ++ I') :: G)).length = xs.length + (cStk ((m, d', vs, I') :: G)).length := by rw [eC, List.length_append, List.length_map, List.length_reverse]
  have C' := C
  obtain ⟨c1, ⟨z1, z2, z3, z4, z5, z6, z7, z8⟩, c3, c4⟩ := C'
  have z7 : kI t 49 11 = Int32.ofNat (G.length + 1) := z7
  have h4 : kI t 48 4 = Int32.ofNat T.2.2.1 := c1.2.1.2.2.2.1
  obtain ⟨tE, htE⟩ : ∃ tE, tE = jI (jI (jA (jA t 53 (upd (kA t 53).2 (G.length + 1) (Int32.ofNat (cStk ((m, d', vs, I') :: G)).length))) 54 (upd (kA t 54).2 (G.length + 1) (Int32.ofNat (cBk code ((m, d', vs, I') :: G))))) 49 11 (Int32.ofNat (G.length + 2))) 48 4 (Int32.ofNat (if T.2.2.1 < G.length + 2 then G.length + 2 else T.2.2.1)) := ⟨_, rfl⟩
  have gE : gf (fun k f => (k = 49 ∧ f = 11) ∨ (k = 48 ∧ f = 4)) (fun k => k = 53 ∨ k = 54) t tE := by
    rw [htE]
    refine ⟨fun k f r => ?_, rfl, rfl, fun k r1 r2 => ⟨?_, rfl, rfl⟩, rfl, rfl, Nat.le_refl _, Nat.le_refl _, Nat.le_refl _⟩
    · show (if k = 48 ∧ f = 4 then _ else if k = 49 ∧ f = 11 then _ else kI t k f) = _
      rw [if_neg (fun q => r (Or.inr q)), if_neg (fun q => r (Or.inl q))]
    · show (if k = 54 then _ else if k = 53 then _ else kA t k) = _
      rw [if_neg (by omega), if_neg (by omega)]
  -- the first part
  have E1 : cf_157 N X (Int32.ofNat fi) (Int32.ofNat xs.length) q t = cf_157_L2 N X N 0 (Int32.ofNat fi) (Int32.ofNat Fs[fi].2.2.2.1) (Int32.ofNat xs.length) tE := by
    have l53 : (kA t 53).1 = 10 := z4.1
    have l54 : (kA t 54).1 = 10 := z4.2.1
    rw [hlen] at c4
    have hP' : kP tE 49 16 = some p := by rw [htE]; exact hP
    have hE' : cEv tE p code Fs := c1.1.keep gE (fun f => ⟨fun q => by omega, fun q => by omega⟩) (fun k k1 k2 q => by omega)
    obtain ⟨w1', -, -⟩ := c_told (N := N) (X := X) hE' hfi
    have hp2 : (p = 12 ∨ p = 21) = True := eq_true hp
    have hnc : (cStk ((m, d', vs, I') :: G)).length ≤ 17600 := by omega
    have sb : Int32.ofNat (xs.length + (cStk ((m, d', vs, I') :: G)).length) - Int32.ofNat xs.length = Int32.ofNat (cStk ((m, d', vs, I') :: G)).length := by rw [← Int32.ofNat_sub _ _ (by omega), Nat.add_sub_cancel_left]
    have hx14 : xs.length ≤ 14 := by omega
    have e237 : cf_237 N X (Int32.ofNat (G.length + 2)) (jI (jA (jA t 53 (upd (kA t 53).2 (G.length + 1) (Int32.ofNat (cStk ((m, d', vs, I') :: G)).length))) 54 (upd (kA t 54).2 (G.length + 1) (Int32.ofNat (cBk code ((m, d', vs, I') :: G))))) 49 11 (Int32.ofNat (G.length + 2))) = some (tE, .inl none) := by
      have h4' : kI (jI (jA (jA t 53 (upd (kA t 53).2 (G.length + 1) (Int32.ofNat (cStk ((m, d', vs, I') :: G)).length))) 54 (upd (kA t 54).2 (G.length + 1) (Int32.ofNat (cBk code ((m, d', vs, I') :: G))))) 49 11 (Int32.ofNat (G.length + 2))) 48 4 = Int32.ofNat T.2.2.1 := h4
      unfold cf_237 cf_237_0
      rw [h4', htE]
      congr 3
      have elt : (Int32.ofNat T.2.2.1 < Int32.ofNat (G.length + 2)) = (T.2.2.1 < G.length + 2) := ev_lt (by omega) (by omega)
      by_cases c : T.2.2.1 < G.length + 2
      · rw [if_pos (elt.mpr c), if_pos c]
      · rw [if_neg (fun q => c (elt.mp q)), if_neg c]
    have n10 : ¬ G.length + 1 = 10 := by omega
    have k54 : kA (jA t 53 (upd (kA t 53).2 (G.length + 1) (Int32.ofNat (cStk ((m, d', vs, I') :: G)).length))) 54 = kA t 54 := rfl
    clear htE w1 w2 w3 gE eC hlen
    generalize (cStk ((m, d', vs, I') :: G)).length = nc at *
    generalize cBk code ((m, d', vs, I') :: G) = cb at *
    generalize xs.length = nx at *
    generalize Fs[fi].2.2.2.1 = nvv at *
    unfold cf_157 cf_157_0 cf_157_18 cf_157_71 cf_157_80
    simp (disch := omega) only [ev_S, ev_C, ↓reduceIte, Nat.reduceEqDiff, Nat.reduceLeDiff, Nat.reduceAdd, Nat.reduceMul, Nat.reduceSub, reduceCtorEq, l32_0, l32_1, l32_2, l32_3, l32_4, l32_5, l32_6, l32_7, l32_8, l32_9, l32_10, l32_11, l32_12, l32_13, l32_14, l32_15, l32_16, l32_17, l32_18, l32_19, l32_20, l32_21, l32_22, l32_23, l32_24, l32_25, l32_26, l32_27, l32_28, l32_29, l32_33, l32_40, l32_41, l32_44, l32_45, l32_59, l32_61, l32_91, l32_93, l32_123, l32_125, z7, n10, l53, l54, c4, sb, hret, k54, e237, hP', hp2, w1']
  have CE : CX t0 tE p code Fs fu S0 u w ((Fs[fi].2.2.2.2.1, 0, xs.map some ++ List.replicate 0 none, []) :: (m, d', vs, I') :: G) sh (opT T (G.length + 2)) out := by
    have eC2 : cStk ((Fs[fi].2.2.2.2.1, 0, xs.map some ++ List.replicate 0 none, []) :: (m, d', vs, I') :: G) = cStk ((m, d, vs, J ++ I') :: G) := by
      show [] ++ ((xs.map some ++ []).reverse ++ cStk ((m, d', vs, I') :: G)) = _
      rw [List.append_nil, eC, List.map_reverse]
      rfl
    have eT2 : tStk ((Fs[fi].2.2.2.2.1, 0, xs.map some ++ List.replicate 0 none, []) :: (m, d', vs, I') :: G) = tStk ((m, d, vs, J ++ I') :: G) := by
      rw [← eT]
      rfl
    have e : ∀ k, ¬ (k = 53 ∨ k = 54) → ¬ k = 111 → kA tE k = kA t k ∧ kB tE k = kB t k := fun k k1 k2 => by
      have := gE.2.2.2.1 k k1 k2
      exact ⟨this.1, this.2.1⟩
    obtain ⟨a1, ⟨b1, b2, b3, b4, b5⟩, a3, a4, a5, a6⟩ := c1
    refine ⟨⟨a1.keep gE (fun f => ⟨fun q => by omega, fun q => by omega⟩) (fun k k1 k2 q => by omega), ?_, ?_, a4.keep2 gE (by omega) (by omega) (by omega), ?_, a6.tr2 (gE.mono2 (fun k f q => by show k = 42 ∨ k = 45 ∨ (k = 48 ∧ ¬ f = 0) ∨ k = 49 ∨ k = 58; omega) (fun k q => by show 43 ≤ k ∧ k ≤ 60; omega))⟩, ⟨?_, ?_, ?_, ?_, ?_, ?_, ?_, ?_⟩, gE.hp c3 (by omega) (by omega) (by omega) (by omega) (by omega), ?_⟩
    · rw [htE]; exact ⟨b1, b2, b3, rfl, b5⟩
    · rw [htE]; exact a3
    · rw [htE]; exact a5
    · rw [eC2]; exact z1.keep gE (by omega) (by omega)
    · refine ⟨?_, ?_, ?_⟩
      · rw [htE]; exact if_pos rfl
      · rw [htE]; exact if_pos rfl
      · -- those below
        have key : ∀ {H : List Fm}, H.length ≤ G.length + 1 → cFr t code H → cFr tE code H := by
          intro H
          induction H with
          | nil => intro _ _; trivial
          | cons a H ih =>
            intro hH q
            have hH : H.length + 1 ≤ G.length + 1 := hH
            refine ⟨?_, ?_, ih (by omega) q.2.2⟩
            · rw [htE]
              show (if H.length = G.length + 1 then _ else _) = _
              rw [if_neg (by omega)]
              exact q.1
            · rw [htE]
              show (if H.length = G.length + 1 then _ else _) = _
              rw [if_neg (by omega)]
              exact q.2.1
        exact key (Nat.le_refl _) (show cFr t code ((m, d', vs, I') :: G) from z2)
    · rw [eT2, (e 55 (by omega) (by omega)).1, (e 56 (by omega) (by omega)).1, (e 57 (by omega) (by omega)).1]
      exact z3
    · have l1 : (kA tE 53).1 = (kA t 53).1 := by rw [htE]; rfl
      have l2 : (kA tE 54).1 = (kA t 54).1 := by rw [htE]; rfl
      rw [l1, l2, (e 50 (by omega) (by omega)).2, (e 51 (by omega) (by omega)).1, (e 60 (by omega) (by omega)).1]
      exact z4
    · rw [eT2, (e 55 (by omega) (by omega)).1, (e 56 (by omega) (by omega)).1, (e 57 (by omega) (by omega)).1]
      exact z5
    · have ec : cel tE = cel t := by unfold cel; rw [(e 43 (by omega) (by omega)).2]
      rw [(e 50 (by omega) (by omega)).2, (e 51 (by omega) (by omega)).1, ec]
      exact z6
    · rw [htE]; rfl
    · rw [eT2, htE]; exact z8
    · rw [eC2, htE]; exact c4
  -- the variables
  have key : ∀ (dd i Q : Nat) (t1 : cS), i + dd = Fs[fi].2.2.2.1 - xs.length → dd < Q → CX t0 t1 p code Fs fu S0 u w ((Fs[fi].2.2.2.2.1, 0, xs.map some ++ List.replicate i none, []) :: (m, d', vs, I') :: G) sh (opT T (G.length + 2)) out → ∃ t', cf_157_L2 N X Q 0 (Int32.ofNat fi) (Int32.ofNat Fs[fi].2.2.2.1) (Int32.ofNat (xs.length + i)) t1 = some (t', .inl none) ∧ CX t0 t' p code Fs fu S0 u w ((Fs[fi].2.2.2.2.1, 0, xs.map some ++ List.replicate (Fs[fi].2.2.2.1 - xs.length) none, []) :: (m, d', vs, I') :: G) sh (opT T (G.length + 2)) out ∧ kI t' 49 17 = Int32.ofNat (posC code Fs[fi].2.2.2.2.1) := by
    intro dd
    induction dd with
    | zero =>
      intro i Q t1 hi hQ H
      obtain ⟨Q', rfl⟩ : ∃ Q', Q = Q' + 1 := ⟨Q - 1, by omega⟩
      have hi : i = Fs[fi].2.2.2.1 - xs.length := by omega
      obtain ⟨-, -, v3⟩ := c_told (N := N) (X := X) H.1.1 hfi
      have hP1 := H.1.1.1
      have hp2 : (p = 12 ∨ p = 21) = True := eq_true hp
      refine ⟨jI t1 49 17 (Int32.ofNat (posC code Fs[fi].2.2.2.2.1)), ?_, ?_, rfl⟩
      · show cf_157_85 N X (cf_157_L2 N X Q') (Int32.ofNat fi) (Int32.ofNat Fs[fi].2.2.2.1) (Int32.ofNat (xs.length + i)) t1 = _
        have n1 : Fs[fi].2.2.2.1 ≤ xs.length + i := by omega
        have n2 : xs.length + i ≤ 14 := by omega
        clear H CE E1
        generalize Fs[fi].2.2.2.1 = nvv at *
        unfold cf_157_85 cf_157_107 cf_157_116
        simp (disch := omega) only [ev_S, ev_C, ↓reduceIte, Nat.reduceEqDiff, Nat.reduceLeDiff, Nat.reduceAdd, Nat.reduceMul, Nat.reduceSub, reduceCtorEq, l32_0, l32_1, l32_2, l32_3, l32_4, l32_5, l32_6, l32_7, l32_8, l32_9, l32_10, l32_11, l32_12, l32_13, l32_14, l32_15, l32_16, l32_17, l32_18, l32_19, l32_20, l32_21, l32_22, l32_23, l32_24, l32_25, l32_26, l32_27, l32_28, l32_29, l32_33, l32_40, l32_41, l32_44, l32_45, l32_59, l32_61, l32_91, l32_93, l32_123, l32_125, n1, hP1, hp2, v3]
      · rw [hi] at H
        exact H.pc (Or.inl rfl)
    | succ dd ih =>
      intro i Q t1 hi hQ H
      obtain ⟨Q', rfl⟩ : ∃ Q', Q = Q' + 1 := ⟨Q - 1, by omega⟩
      have hcl : (cStk ((Fs[fi].2.2.2.2.1, 0, xs.map some ++ List.replicate i none, []) :: (m, d', vs, I') :: G)).length ≤ 20000 := by
        show ([] ++ ((xs.map some ++ List.replicate i none).reverse ++ cStk ((m, d', vs, I') :: G))).length ≤ _
        rw [List.nil_append, List.length_append, List.length_reverse, List.length_append, List.length_map, List.length_replicate]
        omega
      obtain ⟨t2, v1, v2⟩ := H.bareV (N := N) (X := X) hcl
      rw [List.append_assoc, ← List.replicate_succ'] at v2
      obtain ⟨t', k1, k2, k3⟩ := ih (i + 1) Q' t2 (by omega) (by omega) v2
      refine ⟨t', ?_, k2, k3⟩
      rw [← k1]
      show cf_157_85 N X (cf_157_L2 N X Q') (Int32.ofNat fi) (Int32.ofNat Fs[fi].2.2.2.1) (Int32.ofNat (xs.length + i)) t1 = _
      have n1 : ¬ Fs[fi].2.2.2.1 ≤ xs.length + i := by omega
      have n2 : xs.length + i ≤ 14 := by omega
      have eb : cf_253 N X (-Int32.ofNat 1) (Int32.ofNat 0) t1 = some (t1, .inl (some (.long bare))) := rfl
      clear H CE E1 v2 k1 k2
      generalize Fs[fi].2.2.2.1 = nvv at *
      unfold cf_157_85 cf_157_92 cf_157_98 cf_157_101
      simp (disch := omega) only [ev_S, ev_C, ↓reduceIte, Nat.reduceEqDiff, Nat.reduceLeDiff, Nat.reduceAdd, Nat.reduceMul, Nat.reduceSub, reduceCtorEq, l32_0, l32_1, l32_2, l32_3, l32_4, l32_5, l32_6, l32_7, l32_8, l32_9, l32_10, l32_11, l32_12, l32_13, l32_14, l32_15, l32_16, l32_17, l32_18, l32_19, l32_20, l32_21, l32_22, l32_23, l32_24, l32_25, l32_26, l32_27, l32_28, l32_29, l32_33, l32_40, l32_41, l32_44, l32_45, l32_59, l32_61, l32_91, l32_93, l32_123, l32_125, n1, eb, v1]
      rfl
  obtain ⟨t', k1, k2, k3⟩ := key (Fs[fi].2.2.2.1 - xs.length) 0 N tE (Nat.zero_add _) (by omega) CE
  exact ⟨t', by rw [E1]; exact k1, k2, k3⟩
end ENT
