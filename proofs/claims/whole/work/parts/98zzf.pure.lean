/-! ===== PURE: run (135): each ends ===== -/
section EEN
variable {N : Nat} {X : Nat → Option zz_C} {t0 t t' t1 t2 : cS} {s0 s s1 s2 : mS} {u w f p h fu m m' d d' n k b j : Nat} {code : List Ins} {Fs : List Fn} {T T1 : Ty} {out : List Int32} {G F : List Fm} {sh S0 : Nat → Option Nod} {vs : List (Option Nod)} {I J I' Iq : List It} {q z pl fz : Int32} {x y c : Nod} {g : Fn} {L : List Nat} {rs : List Nod} {r : Ans} {v : Int64}
theorem hfw.pcI (g : hfw t t') : hfw (jI t 49 17 z) (jI t' 49 17 z) := by
  obtain ⟨h1, h2, h3, h4, h5, h6, h7, h8, h9, h10⟩ := g
  refine ⟨fun k f r1 r2 => ?_, h2, h3, h4, h5, h6, h7, h8, h9, h10⟩
  show (if k = 49 ∧ f = 17 then z else kI t' k f) = (if k = 49 ∧ f = 17 then z else kI t k f)
  rw [h1 k f r1 r2]
theorem cF.pcI (g : cF t t' u v r) : cF (jI t 49 17 z) (jI t' 49 17 z) u v r := by
  obtain ⟨u', w', g1, g2, g3, g4, g5⟩ := g
  exact ⟨u', w', g1.I (by decide), hfw.pcI g2, g3, g4, g5⟩
/-- values as items -/
abbrev vIt (l : List Nod) : List It := l.map fun x => ((0, [x], 0) : It)
theorem vIt_c : ∀ {l : List Nod}, cIt (vIt l) = l.map some
  | [] => rfl
  | x :: l => by
    show some x :: cIt (vIt l) = some x :: l.map some
    rw [vIt_c]
theorem vIt_0 {l : List Nod} : ∀ y ∈ vIt l, y.1 = 0 := by
  intro y hy
  obtain ⟨x, -, e⟩ := List.mem_map.mp hy
  rw [← e]
theorem CX.eachE (hN : 170000 ≤ N) (C : CX t0 t p code Fs fu S0 u 0 ((m, d, vs, (6, rs ++ [y], k) :: I) :: G) sh T out) (hl : (cStk ((m, d, vs, (6, rs ++ [y], k) :: I) :: G)).length ≤ 17500) (hrs : rs.length = k / 2) (h0 : ¬ kn y = 0) (hi : szN y = k / 2) (hb : szN y ≤ 64) (hw : ∀ x ∈ rs, wfN x ∧ x.1 ≤ 4) (hu : u ≤ 162000) : ∃ t1 t2 v, CX t0 t1 p code Fs fu S0 u 0 ((m, d, vs, vIt (rs ++ [y]) ++ I) :: G) sh T out ∧ kI t1 49 17 = kI t 49 17 + 1 ∧ cF t1 t2 u v (ansE y rs.reverse) ∧ ∀ t3, cf_144 N X v (Int32.ofNat (k / 2 + 1)) pl t2 = some (t3, .inl none) → cf_161 N X fz pl t = some (t3, .inl none) := by
  have e6 := cStk_6 (m := m) (d := d) (m' := m) (d' := d) (vs := vs) (l := rs ++ [y]) (k := k) (I := I) (G := G)
  obtain ⟨va, a1, a2⟩ := C.top1 (N := N) (X := X) e6
  have hlen : k / 2 + 2 ≤ (cStk ((m, d, vs, (6, rs ++ [y], k) :: I) :: G)).length := by
    rw [e6, List.length_cons, List.length_append, List.length_map, List.length_append, List.length_singleton]
    omega
  obtain ⟨vb, b1, b2⟩ := C.peek (N := N) (X := X) (k := k / 2 + 2) (by omega) hlen
  have eg : (cStk ((m, d, vs, (6, rs ++ [y], k) :: I) :: G))[k / 2 + 2 - 1]'(by omega) = some y := by
    have h1 : (cStk ((m, d, vs, (6, rs ++ [y], k) :: I) :: G))[k / 2 + 2 - 1]? = some (some y) := by
      rw [e6, show k / 2 + 2 - 1 = k / 2 + 1 by omega, List.getElem?_cons_succ, List.getElem?_append_left (by rw [List.length_map, List.length_append, List.length_singleton]; omega), List.getElem?_map, List.getElem?_append_right (by omega), show k / 2 - rs.length = 0 by omega]
      rfl
    rw [List.getElem?_eq_getElem (by omega)] at h1
    exact Option.some.inj h1
  rw [eg] at b2
  have a2 : cN (cel t) u va (nZ (Int32.ofNat (k / 2))) := a2
  have b2 : cN (cel t) u vb y := b2
  have ea := a2.z rfl
  have lo := c_lowOf (N := N) (X := X) (t := t) (k := 0) (a := ivN (nZ (Int32.ofNat (k / 2))))
  rw [← ea] at lo
  have lo : cf_256 N X va t = some (t, .inl (some (.int (Int32.ofNat (k / 2))))) := lo
  have sz := c_sizeN (N := N) (X := X) C.2.2.1 b2
  have eA := cStk_app (m := m) (d := d) (m' := m) (d' := d) (vs := vs) (J := vIt (rs ++ [y])) (I := I) (G := G)
  rw [vIt_c] at eA
  have CV : CX t0 t p code Fs fu S0 u 0 ((m, d, vs, (0, [nZ (Int32.ofNat (k / 2))], 0) :: (vIt (rs ++ [y]) ++ I)) :: G) sh T out := by
    refine C.re ?_ ?_
    · rw [cStk_0 (m' := m) (d' := d), eA, e6]
    · rw [tStk_0 (m' := m) (d' := d), tStk_678 (m' := m) (d' := d) (Or.inl rfl)]
      show tIt _ _ (vIt (rs ++ [y]) ++ I) ++ _ = _
      rw [tIt_app (fun y hy => by rw [vIt_0 y hy]; decide)]
      rfl
  have hl2 : (cStk ((m, d, vs, (0, [nZ (Int32.ofNat (k / 2))], 0) :: (vIt (rs ++ [y]) ++ I)) :: G)).length ≤ 17500 := by
    rw [cStk_0 (m' := m) (d' := d), eA, ← e6]
    exact hl
  obtain ⟨tp, v2, p1, -, p3, p4, p5⟩ := CV.pop (N := N) (X := X) (m' := m) (d' := d) (o := some (nZ (Int32.ofNat (k / 2)))) (by omega) (by show ¬ (0 : Nat) = 3; decide) rfl
  have hl3 : (cStk ((m, d, vs, vIt (rs ++ [y]) ++ I) :: G)).length ≤ 17500 := by
    rw [cStk_0 (m' := m) (d' := d), List.length_cons] at hl2
    omega
  obtain ⟨tg, g1, g2⟩ := p3.gather (N := N) (X := X) (xs := rs.reverse) (l := some y :: cStk ((m, d, vs, I) :: G)) hN (by omega) (by rw [eA, List.reverse_reverse, List.map_append, List.append_assoc]; rfl)
  rw [List.length_reverse, hrs] at g1
  have hcl := g2.2.2.2.1
  have b3 : cN (cel tg) u vb y := cN.mono (fun y hy => by rw [hcl y hy, p5]) (Nat.le_refl _) b2
  have kn1 := c_kn (N := N) (X := X) b3
  have hrl : rs.reverse.length ≤ 64 := by rw [List.length_reverse]; omega
  obtain ⟨B3, Bn⟩ := c_eachB (N := N) (X := X) (y := y) hN g2 (fun x hx => (hw x (List.mem_reverse.mp hx)).1) (fun x hx => (hw x (List.mem_reverse.mp hx)).2) (by omega) hu h0
  have key : ∃ t'' v, cE tp t'' u v (ansE y rs.reverse) ∧ ∀ t3, cf_144 N X v (Int32.ofNat (k / 2 + 1)) pl (jI t'' 49 17 (kI t'' 49 17 + Int32.ofNat 1)) = some (t3, .inl none) → cf_161 N X fz pl t = some (t3, .inl none) := by
    by_cases c3 : kn y = 3
    · obtain ⟨t'', v, k1, k2⟩ := B3 c3
      refine ⟨t'', v, k2, fun t3 h3 => ?_⟩
      rw [c3] at kn1
      rw [hi] at sz hb
      clear C CV p3 e6 a2 b2 ea B3 Bn g2 k2 eg hlen hl hl2 hl3 b3 eA
      generalize k / 2 = kh at *
      unfold cf_161 cf_161_0 cf_161_5 cf_161_8 cf_161_16 cf_161_28 cf_161_61 cf_161_65 cf_161_71 cf_161_76 cf_161_80 cf_161_89 cf_161_105 cf_161_127
      simp (disch := omega) only [ev_S, ev_C, ↓reduceIte, Nat.reduceEqDiff, Nat.reduceLeDiff, Nat.reduceAdd, Nat.reduceMul, Nat.reduceSub, reduceCtorEq, l32_0, l32_1, l32_2, l32_3, l32_4, l32_5, l32_6, l32_7, l32_8, l32_9, l32_10, l32_11, l32_12, l32_13, l32_14, l32_15, l32_16, l32_17, l32_18, l32_19, l32_20, l32_21, l32_22, l32_23, l32_24, l32_25, l32_26, l32_27, l32_28, l32_29, l32_33, l32_40, l32_41, l32_44, l32_45, l32_59, l32_61, l32_91, l32_93, l32_123, l32_125, a1, lo, b1, sz, p1, g1, kn1, k1, h3]
    · obtain ⟨t'', v, k1, k2⟩ := Bn c3
      refine ⟨t'', v, k2, fun t3 h3 => ?_⟩
      have hk := kn_le (x := y)
      rw [hi] at sz hb
      clear C CV p3 e6 a2 b2 ea B3 Bn g2 k2 eg hlen hl hl2 hl3 b3 eA
      generalize k / 2 = kh at *
      generalize kn y = ky at *
      unfold cf_161 cf_161_0 cf_161_5 cf_161_8 cf_161_16 cf_161_28 cf_161_61 cf_161_65 cf_161_71 cf_161_76 cf_161_92 cf_161_101 cf_161_105 cf_161_127
      simp (disch := omega) only [ev_S, ev_C, ↓reduceIte, Nat.reduceEqDiff, Nat.reduceLeDiff, Nat.reduceAdd, Nat.reduceMul, Nat.reduceSub, reduceCtorEq, l32_0, l32_1, l32_2, l32_3, l32_4, l32_5, l32_6, l32_7, l32_8, l32_9, l32_10, l32_11, l32_12, l32_13, l32_14, l32_15, l32_16, l32_17, l32_18, l32_19, l32_20, l32_21, l32_22, l32_23, l32_24, l32_25, l32_26, l32_27, l32_28, l32_29, l32_33, l32_40, l32_41, l32_44, l32_45, l32_59, l32_61, l32_91, l32_93, l32_123, l32_125, a1, lo, b1, sz, p1, g1, kn1, c3, k1, h3]
  obtain ⟨t'', v, k1, k2⟩ := key
  have e17 : kI t'' 49 17 = kI t 49 17 := by
    obtain ⟨u', w', -, q2, -⟩ := k1
    rw [q2.1 49 17 (by omega) (by omega), p4]
  rw [e17] at k2
  exact ⟨jI tp 49 17 (kI t 49 17 + 1), jI t'' 49 17 (kI t 49 17 + 1), v, p3.pc (Or.inl rfl), rfl, cF.pcI k1.F, k2⟩
end EEN
