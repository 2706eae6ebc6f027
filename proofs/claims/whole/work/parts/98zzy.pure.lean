/-! ===== PURE: run (154): the first call ===== -/
section EN0
variable {N : Nat} {X : Nat → Option zz_C} {t0 t t1 t2 : cS} {s0 s s1 s2 : mS} {u w f p h fu m n k fi : Nat} {code : List Ins} {Fs : List Fn} {T : Ty} {out : List Int32} {sh S0 : Nat → Option Nod} {q x1 : Int32}
theorem CX.enter0 (hN : 170000 ≤ N) (C : CX t0 t p code Fs fu S0 u w [] sh T out) (hfi : fi < Fs.length) (hret : kI t 49 17 = Int32.ofNat 0) (hnv : Fs[fi].2.2.2.1 ≤ 14) (hdp : T.2.2.1 ≤ 10) : ∃ t', cf_157 N X (Int32.ofNat fi) (Int32.ofNat 0) q t = some (t', .inl none) ∧ CX t0 t' p code Fs fu S0 u w [(Fs[fi].2.2.2.2.1, 0, List.replicate Fs[fi].2.2.2.1 none, [])] sh (opT T 1) out ∧ kI t' 49 17 = Int32.ofNat (posC code Fs[fi].2.2.2.2.1) := by
  have hP := C.1.1.1
  have hp := C.1.1.2.1
  have C' := C
  obtain ⟨c1, ⟨z1, z2, z3, z4, z5, z6, z7, z8⟩, c3, c4⟩ := C'
  have z7 : kI t 49 11 = Int32.ofNat 0 := z7
  have c4 : kI t 49 8 = Int32.ofNat 0 := c4
  have h4 : kI t 48 4 = Int32.ofNat T.2.2.1 := c1.2.1.2.2.2.1
  obtain ⟨tE, htE⟩ : ∃ tE, tE = jI (jI (jA (jA t 53 (upd (kA t 53).2 0 (Int32.ofNat 0))) 54 (upd (kA t 54).2 0 (Int32.ofNat 0))) 49 11 (Int32.ofNat 1)) 48 4 (Int32.ofNat (if T.2.2.1 < 1 then 1 else T.2.2.1)) := ⟨_, rfl⟩
  have gE : gf (fun k f => (k = 49 ∧ f = 11) ∨ (k = 48 ∧ f = 4)) (fun k => k = 53 ∨ k = 54) t tE := by
    rw [htE]
    refine ⟨fun k f r => ?_, rfl, rfl, fun k r1 r2 => ⟨?_, rfl, rfl⟩, rfl, rfl, Nat.le_refl _, Nat.le_refl _, Nat.le_refl _⟩
    · show (if k = 48 ∧ f = 4 then _ else if k = 49 ∧ f = 11 then _ else kI t k f) = _
      rw [if_neg (fun q => r (Or.inr q)), if_neg (fun q => r (Or.inl q))]
    · show (if k = 54 then _ else if k = 53 then _ else kA t k) = _
      rw [if_neg (by omega), if_neg (by omega)]
  have E1 : cf_157 N X (Int32.ofNat fi) (Int32.ofNat 0) q t = cf_157_L2 N X N 0 (Int32.ofNat fi) (Int32.ofNat Fs[fi].2.2.2.1) (Int32.ofNat 0) tE := by
    have l53 : (kA t 53).1 = 10 := z4.1
    have l54 : (kA t 54).1 = 10 := z4.2.1
    have hP' : kP tE 49 16 = some p := by rw [htE]; exact hP
    have hE' : cEv tE p code Fs := c1.1.keep gE (fun f => ⟨fun q => by omega, fun q => by omega⟩) (fun k k1 k2 q => by omega)
    obtain ⟨w1', -, -⟩ := c_told (N := N) (X := X) hE' hfi
    have hp2 : (p = 12 ∨ p = 21) = True := eq_true hp
    have e237 : cf_237 N X (Int32.ofNat 1) (jI (jA (jA t 53 (upd (kA t 53).2 0 (Int32.ofNat 0))) 54 (upd (kA t 54).2 0 (Int32.ofNat 0))) 49 11 (Int32.ofNat 1)) = some (tE, .inl none) := by
      have h4' : kI (jI (jA (jA t 53 (upd (kA t 53).2 0 (Int32.ofNat 0))) 54 (upd (kA t 54).2 0 (Int32.ofNat 0))) 49 11 (Int32.ofNat 1)) 48 4 = Int32.ofNat T.2.2.1 := h4
      unfold cf_237 cf_237_0
      rw [h4', htE]
      congr 3
      have elt : (Int32.ofNat T.2.2.1 < Int32.ofNat 1) = (T.2.2.1 < 1) := ev_lt (by omega) (by omega)
      by_cases c : T.2.2.1 < 1
      · rw [if_pos (elt.mpr c), if_pos c]
      · rw [if_neg (fun q => c (elt.mp q)), if_neg c]
    have k54 : kA (jA t 53 (upd (kA t 53).2 0 (Int32.ofNat 0))) 54 = kA t 54 := rfl
    have sb : Int32.ofNat 0 - Int32.ofNat 0 = Int32.ofNat 0 := rfl
    clear htE gE
    generalize Fs[fi].2.2.2.1 = nvv at *
    unfold cf_157 cf_157_0 cf_157_18 cf_157_71 cf_157_80
    simp (disch := omega) only [ev_S, ev_C, ↓reduceIte, Nat.reduceEqDiff, Nat.reduceLeDiff, Nat.reduceAdd, Nat.reduceMul, Nat.reduceSub, reduceCtorEq, l32_0, l32_1, l32_2, l32_3, l32_4, l32_5, l32_6, l32_7, l32_8, l32_9, l32_10, l32_11, l32_12, l32_13, l32_14, l32_15, l32_16, l32_17, l32_18, l32_19, l32_20, l32_21, l32_22, l32_23, l32_24, l32_25, l32_26, l32_27, l32_28, l32_29, l32_33, l32_40, l32_41, l32_44, l32_45, l32_59, l32_61, l32_91, l32_93, l32_123, l32_125, z7, l53, l54, c4, sb, hret, k54, e237, hP', hp2, w1']
  have CE : CX t0 tE p code Fs fu S0 u w [(Fs[fi].2.2.2.2.1, 0, List.replicate 0 none, [])] sh (opT T 1) out := by
    have e : ∀ k, ¬ (k = 53 ∨ k = 54) → ¬ k = 111 → kA tE k = kA t k ∧ kB tE k = kB t k := fun k k1 k2 => by
      have := gE.2.2.2.1 k k1 k2
      exact ⟨this.1, this.2.1⟩
    obtain ⟨a1, ⟨b1, b2, b3, b4, b5⟩, a3, a4, a5, a6⟩ := c1
    refine ⟨⟨a1.keep gE (fun f => ⟨fun q => by omega, fun q => by omega⟩) (fun k k1 k2 q => by omega), ?_, ?_, a4.keep2 gE (by omega) (by omega) (by omega), ?_, a6.tr2 (gE.mono2 (fun k f q => by show k = 42 ∨ k = 45 ∨ (k = 48 ∧ ¬ f = 0) ∨ k = 49 ∨ k = 58; omega) (fun k q => by show 43 ≤ k ∧ k ≤ 60; omega))⟩, ⟨?_, ?_, ?_, ?_, ?_, ?_, ?_, ?_⟩, gE.hp c3 (by omega) (by omega) (by omega) (by omega) (by omega), ?_⟩
    · rw [htE]; exact ⟨b1, b2, b3, rfl, b5⟩
    · rw [htE]; exact a3
    · rw [htE]; exact a5
    · exact z1.keep gE (by omega) (by omega)
    · refine ⟨?_, ?_, trivial⟩
      · rw [htE]; rfl
      · rw [htE]; rfl
    · trivial
    · have l1 : (kA tE 53).1 = (kA t 53).1 := by rw [htE]; rfl
      have l2 : (kA tE 54).1 = (kA t 54).1 := by rw [htE]; rfl
      rw [l1, l2, (e 50 (by omega) (by omega)).2, (e 51 (by omega) (by omega)).1, (e 60 (by omega) (by omega)).1]
      exact z4
    · rw [(e 55 (by omega) (by omega)).1, (e 56 (by omega) (by omega)).1, (e 57 (by omega) (by omega)).1]
      exact z5
    · have ec : cel tE = cel t := by unfold cel; rw [(e 43 (by omega) (by omega)).2]
      rw [(e 50 (by omega) (by omega)).2, (e 51 (by omega) (by omega)).1, ec]
      exact z6
    · rw [htE]; rfl
    · rw [htE]; exact z8
    · rw [htE]; exact c4
  have key : ∀ (dd i Q : Nat) (t1 : cS), i + dd = Fs[fi].2.2.2.1 → dd < Q → CX t0 t1 p code Fs fu S0 u w [(Fs[fi].2.2.2.2.1, 0, List.replicate i none, [])] sh (opT T 1) out → ∃ t', cf_157_L2 N X Q 0 (Int32.ofNat fi) (Int32.ofNat Fs[fi].2.2.2.1) (Int32.ofNat i) t1 = some (t', .inl none) ∧ CX t0 t' p code Fs fu S0 u w [(Fs[fi].2.2.2.2.1, 0, List.replicate Fs[fi].2.2.2.1 none, [])] sh (opT T 1) out ∧ kI t' 49 17 = Int32.ofNat (posC code Fs[fi].2.2.2.2.1) := by
    intro dd
    induction dd with
    | zero =>
      intro i Q t1 hi hQ H
      obtain ⟨Q', rfl⟩ : ∃ Q', Q = Q' + 1 := ⟨Q - 1, by omega⟩
      have hi : i = Fs[fi].2.2.2.1 := by omega
      obtain ⟨-, -, v3⟩ := c_told (N := N) (X := X) H.1.1 hfi
      have hP1 := H.1.1.1
      have hp2 : (p = 12 ∨ p = 21) = True := eq_true hp
      refine ⟨jI t1 49 17 (Int32.ofNat (posC code Fs[fi].2.2.2.2.1)), ?_, ?_, rfl⟩
      · show cf_157_85 N X (cf_157_L2 N X Q') (Int32.ofNat fi) (Int32.ofNat Fs[fi].2.2.2.1) (Int32.ofNat i) t1 = _
        have n1 : Fs[fi].2.2.2.1 ≤ i := by omega
        have n2 : i ≤ 14 := by omega
        clear H CE E1
        generalize Fs[fi].2.2.2.1 = nvv at *
        unfold cf_157_85 cf_157_107 cf_157_116
        simp (disch := omega) only [ev_S, ev_C, ↓reduceIte, Nat.reduceEqDiff, Nat.reduceLeDiff, Nat.reduceAdd, Nat.reduceMul, Nat.reduceSub, reduceCtorEq, l32_0, l32_1, l32_2, l32_3, l32_4, l32_5, l32_6, l32_7, l32_8, l32_9, l32_10, l32_11, l32_12, l32_13, l32_14, l32_15, l32_16, l32_17, l32_18, l32_19, l32_20, l32_21, l32_22, l32_23, l32_24, l32_25, l32_26, l32_27, l32_28, l32_29, l32_33, l32_40, l32_41, l32_44, l32_45, l32_59, l32_61, l32_91, l32_93, l32_123, l32_125, n1, hP1, hp2, v3]
      · rw [hi] at H
        exact H.pc (Or.inl rfl)
    | succ dd ih =>
      intro i Q t1 hi hQ H
      obtain ⟨Q', rfl⟩ : ∃ Q', Q = Q' + 1 := ⟨Q - 1, by omega⟩
      have hcl : (cStk [(Fs[fi].2.2.2.2.1, 0, List.replicate i (none : Option Nod), [])]).length ≤ 20000 := by
        show ([] ++ ((List.replicate i (none : Option Nod)).reverse ++ [])).length ≤ _
        rw [List.nil_append, List.append_nil, List.length_reverse, List.length_replicate]
        omega
      obtain ⟨t2, v1, v2⟩ := H.bareV (N := N) (X := X) hcl
      rw [← List.replicate_succ'] at v2
      obtain ⟨t', k1, k2, k3⟩ := ih (i + 1) Q' t2 (by omega) (by omega) v2
      refine ⟨t', ?_, k2, k3⟩
      rw [← k1]
      show cf_157_85 N X (cf_157_L2 N X Q') (Int32.ofNat fi) (Int32.ofNat Fs[fi].2.2.2.1) (Int32.ofNat i) t1 = _
      have n1 : ¬ Fs[fi].2.2.2.1 ≤ i := by omega
      have n2 : i ≤ 14 := by omega
      have eb : cf_253 N X (-Int32.ofNat 1) (Int32.ofNat 0) t1 = some (t1, .inl (some (.long bare))) := rfl
      clear H CE E1 v2 k1 k2
      generalize Fs[fi].2.2.2.1 = nvv at *
      unfold cf_157_85 cf_157_92 cf_157_98 cf_157_101
      simp (disch := omega) only [ev_S, ev_C, ↓reduceIte, Nat.reduceEqDiff, Nat.reduceLeDiff, Nat.reduceAdd, Nat.reduceMul, Nat.reduceSub, reduceCtorEq, l32_0, l32_1, l32_2, l32_3, l32_4, l32_5, l32_6, l32_7, l32_8, l32_9, l32_10, l32_11, l32_12, l32_13, l32_14, l32_15, l32_16, l32_17, l32_18, l32_19, l32_20, l32_21, l32_22, l32_23, l32_24, l32_25, l32_26, l32_27, l32_28, l32_29, l32_33, l32_40, l32_41, l32_44, l32_45, l32_59, l32_61, l32_91, l32_93, l32_123, l32_125, n1, eb, v1]
  obtain ⟨t', k1, k2, k3⟩ := key Fs[fi].2.2.2.1 0 N tE (Nat.zero_add _) (by omega) CE
  exact ⟨t', by rw [E1]; exact k1, k2, k3⟩
theorem RXm.enter0 (hN : 170000 ≤ N) (R : RXm s0 s h code Fs fu f [] sh T out) (hfi : fi < Fs.length) (hF12 : Fs.length ≤ 12) (hnv : Fs[fi].2.2.2.1 ≤ 14) (hdp : T.2.2.1 ≤ 10) : ∃ s2, mf_310 N (Int32.ofNat (fb0 h + fi)) (Int32.ofNat 0) (-Int32.ofNat 1) s = some (s2, none) ∧ RXm s0 s2 h code Fs fu f [(Fs[fi].2.2.2.2.1, 0, List.replicate Fs[fi].2.2.2.1 none, [])] sh (opT T 1) out ∧ s2.1 69 = Int32.ofNat (ob0 h + posR code Fs[fi].2.2.2.2.1) := by
  obtain ⟨r1, ⟨b1, b2, b3, b4, b5, b6, b7, b8⟩, r3⟩ := R
  have b6 : s.1 73 = Int32.ofNat 0 := b6
  have r3 : s.1 51 = Int32.ofNat 0 := r3
  have hh := r1.1.1
  have hfe := r1.1.2.2 fi hfi
  have hf20 : s.2.2.1 20 (fb0 h + fi) = Int32.ofNat (ob0 h + posR code Fs[fi].2.2.2.2.1) := hfe.1
  have hfb : fb0 h + fi < 24 := by unfold fb0; omega
  obtain ⟨sv, v1, v2, v3, v4, v5, v6, v7⟩ := r_vars (N := N) (s := s) (x1 := Int32.ofNat (fb0 h + fi)) (bk := -Int32.ofNat 1) (D := 0) (nb := 0) (r := 0) hN b6 (by omega) (by omega) (by omega)
  have E0 : mf_310 N (Int32.ofNat (fb0 h + fi)) (Int32.ofNat 0) (-Int32.ofNat 1) s = mf_310_L4 N N 0 (Int32.ofNat (fb0 h + fi)) (Int32.ofNat 0) (-Int32.ofNat 1) (Int32.ofNat 0) (Int32.ofNat 0) s := by
    have sb : Int32.ofNat 0 - Int32.ofNat 0 = Int32.ofNat 0 := rfl
    clear v1
    unfold mf_310 mf_310_0 mf_310_20
    simp (disch := omega) only [ev_S, ev_P, ↓reduceIte, Nat.reduceEqDiff, Nat.reduceLeDiff, Nat.reduceAdd, Nat.reduceMul, Nat.reduceSub, reduceCtorEq, l32_0, l32_1, l32_2, l32_3, l32_4, l32_5, l32_6, l32_7, l32_8, l32_9, l32_10, l32_11, l32_12, l32_13, l32_14, l32_15, l32_16, l32_17, l32_18, l32_19, l32_20, l32_21, l32_22, l32_23, l32_24, l32_25, l32_26, l32_27, l32_28, l32_29, l32_33, l32_40, l32_41, l32_44, l32_45, l32_59, l32_61, l32_91, l32_93, l32_123, l32_125, b6, r3, sb]
  have h63 : s.1 63 = Int32.ofNat T.2.2.1 := r1.2.1.2.2.2.1
  obtain ⟨s2, hs2⟩ : ∃ s2, s2 = mI (mI (mI (mA (mA (mA (mI sv 51 (Int32.ofNat 0)) 74 (upd (sv.2.2.1 74) 0 (Int32.ofNat 0))) 75 (upd (sv.2.2.1 75) 0 (-Int32.ofNat 1))) 76 (upd (sv.2.2.1 76) 0 (Int32.ofNat 0))) 73 (Int32.ofNat 1)) 63 (Int32.ofNat (if T.2.2.1 < 1 then 1 else T.2.2.1))) 69 (Int32.ofNat (ob0 h + posR code Fs[fi].2.2.2.2.1)) := ⟨_, rfl⟩
  have e114 : mf_310_114 N (Int32.ofNat (fb0 h + fi)) (-Int32.ofNat 1) (Int32.ofNat 0) sv = some (s2, none) := by
    have w73 : sv.1 73 = Int32.ofNat 0 := by rw [v2]; exact b6
    have w63 : sv.1 63 = Int32.ofNat T.2.2.1 := by rw [v2]; exact h63
    have w79 : sv.1 79 = Int32.ofNat 0 := by rw [v2]; exact b7
    have w20 : sv.2.2.1 20 (fb0 h + fi) = Int32.ofNat (ob0 h + posR code Fs[fi].2.2.2.2.1) := by rw [v5 20 (by omega) (by omega)]; exact hf20
    rw [hs2]
    clear v1 E0 hs2
    generalize ob0 h + posR code Fs[fi].2.2.2.2.1 = en at *
    generalize fb0 h + fi = fn at *
    by_cases c : T.2.2.1 < 1
    · have c' : ¬ 1 ≤ T.2.2.1 := by omega
      rw [if_pos c]
      unfold mf_310_114 mf_310_176 mf_310_187
      simp (disch := omega) only [ev_S, ev_P, ↓reduceIte, Nat.reduceEqDiff, Nat.reduceLeDiff, Nat.reduceAdd, Nat.reduceMul, Nat.reduceSub, reduceCtorEq, l32_0, l32_1, l32_2, l32_3, l32_4, l32_5, l32_6, l32_7, l32_8, l32_9, l32_10, l32_11, l32_12, l32_13, l32_14, l32_15, l32_16, l32_17, l32_18, l32_19, l32_20, l32_21, l32_22, l32_23, l32_24, l32_25, l32_26, l32_27, l32_28, l32_29, l32_33, l32_40, l32_41, l32_44, l32_45, l32_59, l32_61, l32_91, l32_93, l32_123, l32_125, w73, w63, c', w79, w20]
    · have c' : 1 ≤ T.2.2.1 := by omega
      rw [if_neg c]
      unfold mf_310_114 mf_310_183 mf_310_187
      simp (disch := omega) only [ev_S, ev_P, ↓reduceIte, Nat.reduceEqDiff, Nat.reduceLeDiff, Nat.reduceAdd, Nat.reduceMul, Nat.reduceSub, reduceCtorEq, l32_0, l32_1, l32_2, l32_3, l32_4, l32_5, l32_6, l32_7, l32_8, l32_9, l32_10, l32_11, l32_12, l32_13, l32_14, l32_15, l32_16, l32_17, l32_18, l32_19, l32_20, l32_21, l32_22, l32_23, l32_24, l32_25, l32_26, l32_27, l32_28, l32_29, l32_33, l32_40, l32_41, l32_44, l32_45, l32_59, l32_61, l32_91, l32_93, l32_123, l32_125, w73, w63, c', w79, w20]
  refine ⟨s2, by rw [E0, v1, e114], ⟨?_, ⟨?_, ?_, ?_, ?_, ?_, ?_, ?_, ?_⟩, ?_⟩, by rw [hs2]; rfl⟩
  · have iq : ∀ q, ¬ (q = 51 ∨ q = 73 ∨ q = 63 ∨ q = 69) → s2.1 q = s.1 q := fun q hq => by
      rw [hs2]
      show (if q = 69 then _ else if q = 63 then _ else if q = 73 then _ else if q = 51 then _ else sv.1 q) = _
      rw [if_neg (by omega), if_neg (by omega), if_neg (by omega), if_neg (by omega), v2]
    have aq : ∀ q, ¬ (74 ≤ q ∧ q ≤ 78) → s2.2.2.1 q = s.2.2.1 q := fun q hq => by
      rw [hs2]
      show (if q = 76 then _ else if q = 75 then _ else if q = 74 then _ else sv.2.2.1 q) = _
      rw [if_neg (by omega), if_neg (by omega), if_neg (by omega), v5 q (by omega) (by omega)]
    obtain ⟨a1, ⟨t1, t2, t3, t4, t5⟩, a3, a4, a5⟩ := r1
    refine ⟨a1.keep (fun q q1 q2 => aq q (by omega)), ⟨?_, ?_, ?_, ?_, ?_⟩, ⟨?_, ?_⟩, a4.ch (iq 87 (by omega)) (aq 86 (by omega)), a5.tr ⟨⟨fun q r => iq q (by unfold iRn at r; omega), fun q r => ?_, fun q r => aq q (by unfold aRn at r; omega), fun q r => ?_⟩, fun y hy => by rw [aq 47 (by omega)]⟩⟩
    · rw [iq 61 (by omega)]; exact t1
    · rw [iq 60 (by omega)]; exact t2
    · rw [iq 62 (by omega)]; exact t3
    · rw [hs2]; rfl
    · rw [iq 64 (by omega)]; exact t5
    · rw [iq 66 (by omega)]; exact a3.1
    · rw [iq 67 (by omega)]; exact a3.2
    · rw [hs2]; show sv.2.1 q = _; rw [v3]
    · rw [hs2]; show sv.2.2.2 q = _; rw [v4]
  · trivial
  · have e47 : s2.2.2.1 47 = s.2.2.1 47 := by rw [hs2]; exact v5 47 (by omega) (by omega)
    refine ⟨?_, ?_, ?_, fun i hi => ?_, trivial⟩
    · rw [hs2]; rfl
    · rw [hs2]; rfl
    · rw [hs2]; rfl
    · have e77 : s2.2.2.1 77 = sv.2.2.1 77 := by rw [hs2]; rfl
      have e78 : s2.2.2.1 78 = sv.2.2.1 78 := by rw [hs2]; rfl
      rw [e47, e77, e78]
      obtain ⟨u1, u2⟩ := v6 i hi
      have u1 : sv.2.2.1 77 (14 * 0 + i) = Int32.ofNat 2 := by rw [u1, if_neg (Nat.not_lt_zero _)]
      show rvo (s.2.2.1 47) f (sv.2.2.1 77 (14 * 0 + i)) (sv.2.2.1 78 (14 * 0 + i)) ((List.replicate Fs[fi].2.2.2.1 (none : Option Nod)).getD i none)
      rw [u1]
      have eg : (List.replicate Fs[fi].2.2.2.1 (none : Option Nod)).getD i none = none := by
        rw [List.getD_eq_getElem?_getD, List.getElem?_replicate]
        split <;> rfl
      rw [eg]
      rfl
  · trivial
  · intro i hi
    have e47 : s2.2.2.1 47 = s.2.2.1 47 := by rw [hs2]; exact v5 47 (by omega) (by omega)
    have e71 : s2.2.2.1 71 = s.2.2.1 71 := by rw [hs2]; exact v5 71 (by omega) (by omega)
    have e72 : s2.2.2.1 72 = s.2.2.1 72 := by rw [hs2]; exact v5 72 (by omega) (by omega)
    rw [e47, e71, e72]
    exact b4 i hi
  · have e47 : s2.2.2.1 47 = s.2.2.1 47 := by rw [hs2]; exact v5 47 (by omega) (by omega)
    rw [e47]
    exact b5
  · rw [hs2]; rfl
  · rw [hs2]
    show sv.1 79 = _
    rw [v2]
    exact b7
  · rw [hs2]
    show sv.1 48 = _
    rw [v2]
    exact b8
  · rw [hs2]; rfl
end EN0
