/-! ===== PURE: run (99): a try is open (the class) ===== -/
section TRY
variable {N : Nat} {X : Nat → Option zz_C} {t0 t t1 t2 : cS} {u w p fu m m' d d' n k m0 : Nat} {code : List Ins} {Fs : List Fn} {T : Ty} {out : List Int32} {G : List Fm} {sh S0 : Nat → Option Nod} {vs : List (Option Nod)} {I : List It} {a : Fm}
theorem grw55 (hl : (kA t 55).1 = n) (h1 : 1 ≤ n) (h2 : n ≤ 1000) : gf (fun _ _ => False) (fun k => k = 55) t (jMv (jNI t 1 (2 * n) (kcp 0 (kA t 55).2 n)) 55) ∧ (kA (jMv (jNI t 1 (2 * n) (kcp 0 (kA t 55).2 n)) 55) 55).1 = 2 * n ∧ ∀ y, y < n → (kA (jMv (jNI t 1 (2 * n) (kcp 0 (kA t 55).2 n)) 55) 55).2 y = (kA t 55).2 y := by
  have hlg := lgc2 (a := (kA t 55).1) (b := 2 * n) (by omega) (by omega) (by omega)
  refine ⟨⟨fun _ _ _ => rfl, rfl, rfl, fun k r1 r2 => ⟨?_, ?_, ?_⟩, rfl, rfl, ?_, ?_, ?_⟩, rfl, fun y hy => ?_⟩
  · show (if k = 55 then _ else (if k = 111 then _ else kA t k)) = _
    rw [if_neg r1, if_neg r2]
  · exact if_neg r1
  · show (if k = 55 then _ else (if k = 111 then _ else kD t k)) = _
    rw [if_neg r1, if_neg r2]
  · show kN t ≤ kN t + 1
    omega
  · show kN t + 1 + pot t ≤ kN t + (lgc (kB t 43).1 + lgc (kB t 44).1 + (kA t 46).1 / 64 + lgc (kB t 52).1 + lgc (2 * n) + lgc (kA t 56).1 + lgc (kA t 57).1)
    unfold pot
    omega
  · show kQ t + 2 * n + poq t ≤ kQ t + (2 * (kB t 43).1 + 2 * (kB t 44).1 + 17 * (kA t 46).1 + 2 * (kB t 52).1 + 2 * (2 * n) + 2 * (kA t 56).1 + 2 * (kA t 57).1)
    unfold poq
    omega
  · exact kcp_lt hy
theorem grw56 (hl : (kA t 56).1 = n) (h1 : 1 ≤ n) (h2 : n ≤ 1000) : gf (fun _ _ => False) (fun k => k = 56) t (jMv (jNI t 1 (2 * n) (kcp 0 (kA t 56).2 n)) 56) ∧ (kA (jMv (jNI t 1 (2 * n) (kcp 0 (kA t 56).2 n)) 56) 56).1 = 2 * n ∧ ∀ y, y < n → (kA (jMv (jNI t 1 (2 * n) (kcp 0 (kA t 56).2 n)) 56) 56).2 y = (kA t 56).2 y := by
  have hlg := lgc2 (a := (kA t 56).1) (b := 2 * n) (by omega) (by omega) (by omega)
  refine ⟨⟨fun _ _ _ => rfl, rfl, rfl, fun k r1 r2 => ⟨?_, ?_, ?_⟩, rfl, rfl, ?_, ?_, ?_⟩, rfl, fun y hy => ?_⟩
  · show (if k = 56 then _ else (if k = 111 then _ else kA t k)) = _
    rw [if_neg r1, if_neg r2]
  · exact if_neg r1
  · show (if k = 56 then _ else (if k = 111 then _ else kD t k)) = _
    rw [if_neg r1, if_neg r2]
  · show kN t ≤ kN t + 1
    omega
  · show kN t + 1 + pot t ≤ kN t + (lgc (kB t 43).1 + lgc (kB t 44).1 + (kA t 46).1 / 64 + lgc (kB t 52).1 + lgc (kA t 55).1 + lgc (2 * n) + lgc (kA t 57).1)
    unfold pot
    omega
  · show kQ t + 2 * n + poq t ≤ kQ t + (2 * (kB t 43).1 + 2 * (kB t 44).1 + 17 * (kA t 46).1 + 2 * (kB t 52).1 + 2 * (kA t 55).1 + 2 * (2 * n) + 2 * (kA t 57).1)
    unfold poq
    omega
  · exact kcp_lt hy
theorem grw57 (hl : (kA t 57).1 = n) (h1 : 1 ≤ n) (h2 : n ≤ 1000) : gf (fun _ _ => False) (fun k => k = 57) t (jMv (jNI t 1 (2 * n) (kcp 0 (kA t 57).2 n)) 57) ∧ (kA (jMv (jNI t 1 (2 * n) (kcp 0 (kA t 57).2 n)) 57) 57).1 = 2 * n ∧ ∀ y, y < n → (kA (jMv (jNI t 1 (2 * n) (kcp 0 (kA t 57).2 n)) 57) 57).2 y = (kA t 57).2 y := by
  have hlg := lgc2 (a := (kA t 57).1) (b := 2 * n) (by omega) (by omega) (by omega)
  refine ⟨⟨fun _ _ _ => rfl, rfl, rfl, fun k r1 r2 => ⟨?_, ?_, ?_⟩, rfl, rfl, ?_, ?_, ?_⟩, rfl, fun y hy => ?_⟩
  · show (if k = 57 then _ else (if k = 111 then _ else kA t k)) = _
    rw [if_neg r1, if_neg r2]
  · exact if_neg r1
  · show (if k = 57 then _ else (if k = 111 then _ else kD t k)) = _
    rw [if_neg r1, if_neg r2]
  · show kN t ≤ kN t + 1
    omega
  · show kN t + 1 + pot t ≤ kN t + (lgc (kB t 43).1 + lgc (kB t 44).1 + (kA t 46).1 / 64 + lgc (kB t 52).1 + lgc (kA t 55).1 + lgc (kA t 56).1 + lgc (2 * n))
    unfold pot
    omega
  · show kQ t + 2 * n + poq t ≤ kQ t + (2 * (kB t 43).1 + 2 * (kB t 44).1 + 17 * (kA t 46).1 + 2 * (kB t 52).1 + 2 * (kA t 55).1 + 2 * (kA t 56).1 + 2 * (2 * n))
    unfold poq
    omega
  · exact kcp_lt hy
theorem CX.grow (C : CX t0 t p code Fs fu S0 u w (a :: G) sh T out) (g : gf (fun _ _ => False) (fun k => k = 55 ∨ k = 56 ∨ k = 57) t t1) (h55 : ∀ y, y < (kA t 55).1 → (kA t1 55).2 y = (kA t 55).2 y ∧ (kA t1 56).2 y = (kA t 56).2 y ∧ (kA t1 57).2 y = (kA t 57).2 y) (hl : (kA t 55).1 ≤ (kA t1 55).1 ∧ (kA t1 56).1 = (kA t1 55).1 ∧ (kA t1 57).1 = (kA t1 55).1 ∧ (kA t1 55).1 ≤ 1000) : CX t0 t1 p code Fs fu S0 u w (a :: G) sh T out := by
  obtain ⟨c1, ⟨e1, e2, e3, e4, e5, e6, e7, e8⟩, c3, c4⟩ := C
  have e : ∀ k, ¬ (k = 55 ∨ k = 56 ∨ k = 57) → ¬ k = 111 → kA t1 k = kA t k ∧ kB t1 k = kB t k := fun k k1 k2 => by
    have := g.2.2.2.1 k k1 k2
    exact ⟨this.1, this.2.1⟩
  refine ⟨c1.keep g (fun _ _ q => q.elim) (fun k q => by omega), ⟨e1.keep g (by decide) (by decide), cFr.keep (e 53 (by omega) (by omega)).1 (e 54 (by omega) (by omega)).1 e2, e3.mono (fun _ _ _ z => z) (fun i hi => ?_), ?_, ?_, ?_, ?_, ?_⟩, g.hp c3 (fun q => q) (fun q => q) (by decide) (by decide) (by decide), ?_⟩
  · have := h55 i (by omega)
    rw [this.1, this.2.1, this.2.2]
  · rw [(e 53 (by omega) (by omega)).1, (e 54 (by omega) (by omega)).1, (e 50 (by omega) (by omega)).2, (e 51 (by omega) (by omega)).1, (e 60 (by omega) (by omega)).1]
    exact e4
  · omega
  · have ec : cel t1 = cel t := by unfold cel; rw [(e 43 (by omega) (by omega)).2]
    rw [(e 50 (by omega) (by omega)).2, (e 51 (by omega) (by omega)).1, ec]
    exact e6
  · rw [g.1 49 11 (fun q => q)]; exact e7
  · rw [g.1 49 15 (fun q => q)]; exact e8
  · rw [g.1 49 8 (fun q => q)]; exact c4
/-- a try begins -/
theorem CX.tryB (C : CX t0 t p code Fs fu S0 u w ((m, d, vs, I) :: G) sh T out) (hl : (tStk ((m, d, vs, I) :: G)).length ≤ 110) (hc : (cStk ((m, d, vs, I) :: G)).length ≤ 17500) (hG : G.length ≤ 9) : ∃ t', cf_154 N X (Int32.ofNat (posC code (inA code m0).2.1)) t = some (t', .inl none) ∧ CX t0 t' p code Fs fu S0 u w ((m', d', vs, (3, [], m0) :: I) :: G) sh T out ∧ kI t' 49 17 = kI t 49 17 := by
  -- there is room for it
  have key : ∃ t1, cf_154 N X (Int32.ofNat (posC code (inA code m0).2.1)) t = cf_154_63 N X (Int32.ofNat (posC code (inA code m0).2.1)) t1 ∧ CX t0 t1 p code Fs fu S0 u w ((m, d, vs, I) :: G) sh T out ∧ kI t1 49 17 = kI t 49 17 ∧ (tStk ((m, d, vs, I) :: G)).length < (kA t1 55).1 := by
    have hk9 := C.2.2.1.2.2.2.2.2.2.2.2
    have hk := hk9.k
    have h15 := C.2.1.2.2.2.2.2.2.2
    have h5 := C.2.1.2.2.2.2.1
    obtain ⟨l1, l2, l3, l4, l5⟩ := h5
    generalize (tStk ((m, d, vs, I) :: G)).length = nt at *
    by_cases c : nt = (kA t 55).1
    · obtain ⟨g1, g2, g3⟩ := grw55 (t := t) (n := nt) c.symm (by omega) (by omega)
      obtain ⟨ta, hta⟩ : ∃ ta, ta = jMv (jNI t 1 (2 * nt) (kcp 0 (kA t 55).2 nt)) 55 := ⟨_, rfl⟩
      rw [← hta] at g1 g2 g3
      have n56 : (kA ta 56).1 = nt := by rw [(g1.2.2.2.1 56 (by decide) (by decide)).1]; omega
      obtain ⟨g4, g5, g6⟩ := grw56 (t := ta) (n := nt) n56 (by omega) (by omega)
      obtain ⟨tb, htb⟩ : ∃ tb, tb = jMv (jNI ta 1 (2 * nt) (kcp 0 (kA ta 56).2 nt)) 56 := ⟨_, rfl⟩
      rw [← htb] at g4 g5 g6
      have n57 : (kA tb 57).1 = nt := by rw [(g4.2.2.2.1 57 (by decide) (by decide)).1, (g1.2.2.2.1 57 (by decide) (by decide)).1]; omega
      obtain ⟨g7, g8, g9⟩ := grw57 (t := tb) (n := nt) n57 (by omega) (by omega)
      obtain ⟨tc, htc⟩ : ∃ tc, tc = jMv (jNI tb 1 (2 * nt) (kcp 0 (kA tb 57).2 nt)) 57 := ⟨_, rfl⟩
      rw [← htc] at g7 g8 g9
      have G3 : gf (fun _ _ => False) (fun k => k = 55 ∨ k = 56 ∨ k = 57) t tc := ((g1.mono2 (fun _ _ q => q) (fun k q => Or.inl q)).tr2 (g4.mono2 (fun _ _ q => q) (fun k q => Or.inr (Or.inl q)))).tr2 (g7.mono2 (fun _ _ q => q) (fun k q => Or.inr (Or.inr q)))
      have a55 : kA tc 55 = kA ta 55 := by rw [(g7.2.2.2.1 55 (by decide) (by decide)).1, (g4.2.2.2.1 55 (by decide) (by decide)).1]
      have a56 : kA tc 56 = kA tb 56 := by rw [(g7.2.2.2.1 56 (by decide) (by decide)).1]
      have b56 : kA ta 56 = kA t 56 := (g1.2.2.2.1 56 (by decide) (by decide)).1
      have b57 : kA tb 57 = kA t 57 := by rw [(g4.2.2.2.1 57 (by decide) (by decide)).1, (g1.2.2.2.1 57 (by decide) (by decide)).1]
      refine ⟨tc, ?_, C.grow G3 (fun y hy => ⟨?_, ?_, ?_⟩) ⟨by rw [a55, g2]; omega, by rw [a56, a55, g5, g2], by rw [a55, g8, g2], by rw [a55, g2]; omega⟩, G3.1 49 17 (fun q => q), by rw [a55, g2]; omega⟩
      · have c' : (kA t 55).1 = nt := c.symm
        have hm : Nat.min nt (2 * nt) = nt := Nat.min_eq_left (by omega)
        have i1 : kI ta 49 15 = Int32.ofNat nt := by rw [g1.1 49 15 (fun q => q)]; exact h15
        have i2 : kI tb 49 15 = Int32.ofNat nt := by rw [g4.1 49 15 (fun q => q)]; exact i1
        have k1 : kN ta = kN t + 1 := by rw [hta]; rfl
        have k2 : kN tb = kN t + 2 := by rw [htb]; show kN ta + 1 = _; omega
        have e1 : cf_154 N X (Int32.ofNat (posC code (inA code m0).2.1)) t = cf_154_29 N X (Int32.ofNat (posC code (inA code m0).2.1)) ta := by
          rw [hta]
          clear hta htb htc
          unfold cf_154 cf_154_0 cf_154_12
          simp (disch := omega) only [ev_S, ev_C, ↓reduceIte, Nat.reduceEqDiff, Nat.reduceLeDiff, Nat.reduceAdd, Nat.reduceMul, Nat.reduceSub, reduceCtorEq, l32_0, l32_1, l32_2, l32_3, l32_4, l32_5, l32_6, l32_7, l32_8, l32_9, l32_10, l32_11, l32_12, l32_13, l32_14, l32_15, l32_16, l32_17, l32_18, l32_19, l32_20, l32_21, l32_22, l32_23, l32_24, l32_25, l32_26, l32_27, l32_28, l32_29, l32_33, l32_40, l32_41, l32_44, l32_45, l32_59, l32_61, l32_91, l32_93, l32_123, l32_125, h15, c', hm]
        have e2 : cf_154_29 N X (Int32.ofNat (posC code (inA code m0).2.1)) ta = cf_154_46 N X (Int32.ofNat (posC code (inA code m0).2.1)) tb := by
          rw [htb]
          clear hta htb htc
          unfold cf_154_29
          simp (disch := omega) only [ev_S, ev_C, ↓reduceIte, Nat.reduceEqDiff, Nat.reduceLeDiff, Nat.reduceAdd, Nat.reduceMul, Nat.reduceSub, reduceCtorEq, l32_0, l32_1, l32_2, l32_3, l32_4, l32_5, l32_6, l32_7, l32_8, l32_9, l32_10, l32_11, l32_12, l32_13, l32_14, l32_15, l32_16, l32_17, l32_18, l32_19, l32_20, l32_21, l32_22, l32_23, l32_24, l32_25, l32_26, l32_27, l32_28, l32_29, l32_33, l32_40, l32_41, l32_44, l32_45, l32_59, l32_61, l32_91, l32_93, l32_123, l32_125, i1, n56, hm, k1]
        have e3 : cf_154_46 N X (Int32.ofNat (posC code (inA code m0).2.1)) tb = cf_154_63 N X (Int32.ofNat (posC code (inA code m0).2.1)) tc := by
          rw [htc]
          clear hta htb htc
          unfold cf_154_46
          simp (disch := omega) only [ev_S, ev_C, ↓reduceIte, Nat.reduceEqDiff, Nat.reduceLeDiff, Nat.reduceAdd, Nat.reduceMul, Nat.reduceSub, reduceCtorEq, l32_0, l32_1, l32_2, l32_3, l32_4, l32_5, l32_6, l32_7, l32_8, l32_9, l32_10, l32_11, l32_12, l32_13, l32_14, l32_15, l32_16, l32_17, l32_18, l32_19, l32_20, l32_21, l32_22, l32_23, l32_24, l32_25, l32_26, l32_27, l32_28, l32_29, l32_33, l32_40, l32_41, l32_44, l32_45, l32_59, l32_61, l32_91, l32_93, l32_123, l32_125, i2, n57, hm, k2]
        rw [e1, e2, e3]
      · rw [a55]; exact g3 y (by omega)
      · rw [a56, g6 y (by omega), b56]
      · rw [g9 y (by omega), b57]
    · refine ⟨t, ?_, C, rfl, by omega⟩
      unfold cf_154 cf_154_0
      simp (disch := omega) only [ev_S, ev_C, ↓reduceIte, Nat.reduceEqDiff, Nat.reduceLeDiff, Nat.reduceAdd, Nat.reduceMul, Nat.reduceSub, reduceCtorEq, l32_0, l32_1, l32_2, l32_3, l32_4, l32_5, l32_6, l32_7, l32_8, l32_9, l32_10, l32_11, l32_12, l32_13, l32_14, l32_15, l32_16, l32_17, l32_18, l32_19, l32_20, l32_21, l32_22, l32_23, l32_24, l32_25, l32_26, l32_27, l32_28, l32_29, l32_33, l32_40, l32_41, l32_44, l32_45, l32_59, l32_61, l32_91, l32_93, l32_123, l32_125, h15, c]
  obtain ⟨t1, e1, C1, e2, e3⟩ := key
  rw [e1]
  have C1' := C1
  obtain ⟨c1, ⟨z1, z2, z3, z4, z5, z6, z7, z8⟩, c3, c4⟩ := C1'
  have eT : tStk ((m', d', vs, (3, [], m0) :: I) :: G) = (m0, (cStk ((m, d, vs, I) :: G)).length, G.length + 1) :: tStk ((m, d, vs, I) :: G) := by
    show tIt _ _ ((3, [], m0) :: I) ++ _ = _
    rw [show tIt (vs.length + (cStk G).length) (G.length + 1) ((3, [], m0) :: I) = (m0, (cIt I).length + (vs.length + (cStk G).length), G.length + 1) :: tIt (vs.length + (cStk G).length) (G.length + 1) I from if_pos rfl]
    show (m0, (cIt I).length + (vs.length + (cStk G).length), G.length + 1) :: (tIt _ _ I ++ tStk G) = _
    congr 3
    show _ = (cIt I ++ (vs.reverse ++ cStk G)).length
    rw [List.length_append, List.length_append, List.length_reverse]
  have eC : cStk ((m', d', vs, (3, [], m0) :: I) :: G) = cStk ((m, d, vs, I) :: G) := cStk_cons (m' := m) (d' := d)
  have z7 : kI t1 49 11 = Int32.ofNat (G.length + 1) := z7
  obtain ⟨t', ht'⟩ : ∃ t', t' = jI (jA (jA (jA t1 55 (upd (kA t1 55).2 (tStk ((m, d, vs, I) :: G)).length (Int32.ofNat (G.length + 1)))) 56 (upd (kA t1 56).2 (tStk ((m, d, vs, I) :: G)).length (Int32.ofNat (cStk ((m, d, vs, I) :: G)).length))) 57 (upd (kA t1 57).2 (tStk ((m, d, vs, I) :: G)).length (Int32.ofNat (posC code (inA code m0).2.1)))) 49 15 (Int32.ofNat ((tStk ((m, d, vs, I) :: G)).length + 1)) := ⟨_, rfl⟩
  have g : gf (fun k f => k = 49 ∧ f = 15) (fun k => k = 55 ∨ k = 56 ∨ k = 57) t1 t' := by
    rw [ht']
    refine ⟨fun k f r => if_neg r, rfl, rfl, fun k r1 r2 => ⟨?_, rfl, rfl⟩, rfl, rfl, Nat.le_refl _, Nat.le_refl _, Nat.le_refl _⟩
    show (if k = 57 then _ else if k = 56 then _ else if k = 55 then _ else kA t1 k) = _
    rw [if_neg (by omega), if_neg (by omega), if_neg (by omega)]
  refine ⟨t', ?_, ⟨c1.keep g (fun k f q => Or.inr (Or.inr ⟨q.1, by omega⟩)) (fun k q => by omega), ⟨?_, ?_, ?_, ?_, ?_, ?_, ?_, ?_⟩, g.hp c3 (by omega) (by omega) (by decide) (by decide) (by decide), ?_⟩, ?_⟩
  · obtain ⟨l1, l2, l3, l4, l5⟩ := z5
    rw [ht']
    generalize (tStk ((m, d, vs, I) :: G)).length = nt at *
    generalize (cStk ((m, d, vs, I) :: G)).length = nc at *
    generalize posC code (inA code m0).2.1 = pj at *
    unfold cf_154_63
    have x55 : (kA t1 55).1 ≤ 1000 := l5
    have l2' : (kA (jA t1 55 (upd (kA t1 55).2 nt (Int32.ofNat (G.length + 1)))) 56).1 = (kA t1 55).1 := l2
    have l3' : (kA (jA (jA t1 55 (upd (kA t1 55).2 nt (Int32.ofNat (G.length + 1)))) 56 (upd (kA t1 56).2 nt (Int32.ofNat nc))) 57).1 = (kA t1 55).1 := l3
    have i1 : kI (jA t1 55 (upd (kA t1 55).2 nt (Int32.ofNat (G.length + 1)))) 49 8 = Int32.ofNat nc := c4
    have i2 : kA (jA t1 55 (upd (kA t1 55).2 nt (Int32.ofNat (G.length + 1)))) 56 = kA t1 56 := rfl
    have i3 : kA (jA (jA t1 55 (upd (kA t1 55).2 nt (Int32.ofNat (G.length + 1)))) 56 (upd (kA t1 56).2 nt (Int32.ofNat nc))) 57 = kA t1 57 := rfl
    generalize G.length + 1 = ng at *
    simp (disch := omega) only [ev_S, ev_C, ↓reduceIte, Nat.reduceEqDiff, Nat.reduceLeDiff, Nat.reduceAdd, Nat.reduceMul, Nat.reduceSub, reduceCtorEq, l32_0, l32_1, l32_2, l32_3, l32_4, l32_5, l32_6, l32_7, l32_8, l32_9, l32_10, l32_11, l32_12, l32_13, l32_14, l32_15, l32_16, l32_17, l32_18, l32_19, l32_20, l32_21, l32_22, l32_23, l32_24, l32_25, l32_26, l32_27, l32_28, l32_29, l32_33, l32_40, l32_41, l32_44, l32_45, l32_59, l32_61, l32_91, l32_93, l32_123, l32_125, z8, z7, c4, l2', l3', i1, i2, i3, l2, l3]
  · rw [eC]
    exact z1.keep g (by decide) (by decide)
  · exact cFr.keep (t := t1) (by rw [(g.2.2.2.1 53 (by decide) (by decide)).1]) (by rw [(g.2.2.2.1 54 (by decide) (by decide)).1]) (F := (m, d, vs, I) :: G) z2
  · rw [eT]
    refine ⟨⟨?_, ?_, ?_⟩, z3.mono (fun _ _ _ z => z) (fun i hi => ?_)⟩
    · show (kA t' 55).2 _ = _
      rw [ht']
      exact if_pos rfl
    · show (kA t' 56).2 _ = _
      rw [ht']
      exact if_pos rfl
    · show (kA t' 57).2 _ = _
      rw [ht']
      exact if_pos rfl
    · show ((kA t' 55).2 i, (kA t' 56).2 i, (kA t' 57).2 i) = _
      rw [ht']
      show ((if i = _ then _ else _), (if i = _ then _ else _), (if i = _ then _ else _)) = _
      rw [if_neg (by omega), if_neg (by omega), if_neg (by omega)]
  · rw [(g.2.2.2.1 53 (by decide) (by decide)).1, (g.2.2.2.1 54 (by decide) (by decide)).1, (g.2.2.2.1 50 (by decide) (by decide)).2.1, (g.2.2.2.1 51 (by decide) (by decide)).1, (g.2.2.2.1 60 (by decide) (by decide)).1]
    exact z4
  · rw [eT, ht', List.length_cons]
    exact ⟨e3, z5.2⟩
  · have ec : cel t' = cel t1 := by unfold cel; rw [(g.2.2.2.1 43 (by decide) (by decide)).2.1]
    rw [(g.2.2.2.1 50 (by decide) (by decide)).2.1, (g.2.2.2.1 51 (by decide) (by decide)).1, ec]
    exact z6
  · rw [ht']
    exact z7
  · rw [eT, ht', List.length_cons]
    rfl
  · rw [eC, ht']
    exact c4
  · rw [ht']
    exact e2
end TRY
