/-! ===== PURE: run (123): the next of each and fold (the class) ===== -/
section NXC
variable {N : Nat} {X : Nat → Option zz_C} {t0 t t1 t2 : cS} {u w p fu m m' d d' n k b j fi : Nat} {code : List Ins} {Fs : List Fn} {T : Ty} {out : List Int32} {G F : List Fm} {sh S0 : Nat → Option Nod} {vs : List (Option Nod)} {I J : List It} {q z pl fz : Int32} {x y c : Nod} {rs : List Nod}
theorem elN_c (h0 : ¬ kn y = 0) {i : Nat} (hi : i < szN y) : ∃ hp : i < (pts y).length, elN y i = (pts y)[i] := by
  have hip : i < (pts y).length := by rw [pts_len]; exact hi
  refine ⟨hip, ?_⟩
  unfold elN
  rw [if_neg h0, List.getD_eq_getElem?_getD, List.getElem?_eq_getElem hip]
  rfl
theorem CX.eachA (C : CX t0 t p code Fs fu S0 u w ((m, d, vs, (6, rs ++ [y], k) :: I) :: G) sh T out) (hl : (cStk ((m, d, vs, (6, rs ++ [y], k) :: I) :: G)).length ≤ 17500) (hrs : rs.length = k / 2) (h0 : ¬ kn y = 0) (hi : k / 2 < szN y) (hb : szN y ≤ 64) (hf : fu ≤ 20000) (hs : T.1 < fu) : ∃ t4, CX t0 t4 p code Fs fu S0 u w ((m, d, vs, (0, [elN y (k / 2)], 0) :: (6, rs ++ [y], k) :: I) :: G) sh (T.1 + 1, T.2) out ∧ kI t4 49 17 = kI t 49 17 ∧ ∀ t5, cf_157 N X fz (Int32.ofNat 1) pl t4 = some (t5, .inl none) → cf_161 N X fz pl t = some (t5, .inl none) := by
  have e6 := cStk_6 (m := m) (d := d) (m' := m) (d' := d) (vs := vs) (l := rs ++ [y]) (k := k) (I := I) (G := G)
  obtain ⟨va, a1, a2⟩ := C.top1 (N := N) (X := X) e6
  have hlen : k / 2 + 2 ≤ (cStk ((m, d, vs, (6, rs ++ [y], k) :: I) :: G)).length := by
    rw [e6, List.length_cons, List.length_append, List.length_map, List.length_append, List.length_singleton]
    omega
  obtain ⟨vb, b1, b2⟩ := C.peek (N := N) (X := X) (k := k / 2 + 2) (by omega) hlen
  have eg : (cStk ((m, d, vs, (6, rs ++ [y], k) :: I) :: G))[k / 2 + 2 - 1]'(by omega) = some y := by
    have h1 : (cStk ((m, d, vs, (6, rs ++ [y], k) :: I) :: G))[k / 2 + 2 - 1]? = some (some y) := by
      rw [e6, show k / 2 + 2 - 1 = k / 2 + 1 by omega, List.getElem?_cons_succ, List.getElem?_append_left (by rw [List.length_map, List.length_append, List.length_singleton]; omega), List.getElem?_map, List.getElem?_append_right (by omega), show k / 2 - rs.length = 0 by omega]
      rfl
    rw [List.getElem?_eq_getElem (by omega)] at h1
    exact Option.some.inj h1
  rw [eg] at b2
  have a2 : cN (cel t) u va (nZ (Int32.ofNat (k / 2))) := a2
  have b2 : cN (cel t) u vb y := b2
  have ea := a2.z rfl
  have lo := c_lowOf (N := N) (X := X) (t := t) (k := 0) (a := ivN (nZ (Int32.ofNat (k / 2))))
  rw [← ea] at lo
  have lo : cf_256 N X va t = some (t, .inl (some (.int (Int32.ofNat (k / 2))))) := lo
  have sz := c_sizeN (N := N) (X := X) C.2.2.1 b2
  have hst := c_step (N := N) (X := X) (t := t) (q := pl) C.1.2.1.1 C.1.2.1.2.1 hf hs
  have CS1 := C.st
  have b3 : cN (cel (jI t 48 2 (Int32.ofNat (T.1 + 1)))) u vb y := b2
  obtain ⟨hip, eel⟩ := elN_c h0 hi
  obtain ⟨ve, e1, e2⟩ := c_part (N := N) (X := X) CS1.2.2.1 b3 hip
  rw [← eel] at e2
  obtain ⟨t4, r1, r2, r3, -⟩ := CS1.push (N := N) (X := X) (m' := m) (d' := d) (it := (0, [elN y (k / 2)], 0)) (o := some (elN y (k / 2))) (v := ve) (by omega) e2 (by show ¬ (0 : Nat) = 3; decide) rfl
  refine ⟨t4, r2, r3, fun t5 h5 => ?_⟩
  have hn : ¬ szN y ≤ k / 2 := by omega
  clear e2 eel r2 CS1 b3 eg e6 hlen a2 ea
  generalize hkh : k / 2 = kh at *
  generalize jI t 48 2 (Int32.ofNat (T.1 + 1)) = tS at *
  generalize szN y = sy at *
  unfold cf_161 cf_161_0 cf_161_5 cf_161_8 cf_161_16 cf_161_28 cf_161_31 cf_161_36 cf_161_39 cf_161_50 cf_161_53 cf_161_60
  simp (disch := omega) only [ev_S, ev_C, ↓reduceIte, Nat.reduceEqDiff, Nat.reduceLeDiff, Nat.reduceAdd, Nat.reduceMul, Nat.reduceSub, reduceCtorEq, l32_0, l32_1, l32_2, l32_3, l32_4, l32_5, l32_6, l32_7, l32_8, l32_9, l32_10, l32_11, l32_12, l32_13, l32_14, l32_15, l32_16, l32_17, l32_18, l32_19, l32_20, l32_21, l32_22, l32_23, l32_24, l32_25, l32_26, l32_27, l32_28, l32_29, l32_33, l32_40, l32_41, l32_44, l32_45, l32_59, l32_61, l32_91, l32_93, l32_123, l32_125, a1, lo, b1, sz, hn, hst, e1, r1, h5]
theorem CX.foldA (C : CX t0 t p code Fs fu S0 u w ((m, d, vs, (8, [y], k) :: (0, [c], j) :: I) :: G) sh T out) (hl : (cStk ((m, d, vs, (8, [y], k) :: (0, [c], j) :: I) :: G)).length ≤ 17500) (h0 : ¬ kn y = 0) (hi : k / 2 < szN y) (hb : szN y ≤ 64) (hf : fu ≤ 20000) (hs : T.1 < fu) : ∃ t4, CX t0 t4 p code Fs fu S0 u w ((m, d, vs, (0, [elN y (k / 2)], 0) :: (0, [c], 0) :: (8, [y], k) :: (0, [c], j) :: I) :: G) sh (T.1 + 1, T.2) out ∧ kI t4 49 17 = kI t 49 17 ∧ ∀ t5, cf_157 N X fz (Int32.ofNat 2) pl t4 = some (t5, .inl none) → cf_163 N X fz pl t = some (t5, .inl none) := by
  have e8 : cStk ((m, d, vs, (8, [y], k) :: (0, [c], j) :: I) :: G) = some (nZ (Int32.ofNat (k / 2))) :: some y :: some c :: cStk ((m, d, vs, I) :: G) := by
    rw [cStk_8 (m' := m) (d' := d), cStk_0 (m' := m) (d' := d)]
    rfl
  obtain ⟨va, a1, a2⟩ := C.top1 (N := N) (X := X) e8
  obtain ⟨vb, b1, b2⟩ := C.top2 (N := N) (X := X) e8
  have a2 : cN (cel t) u va (nZ (Int32.ofNat (k / 2))) := a2
  have b2 : cN (cel t) u vb y := b2
  have ea := a2.z rfl
  have lo := c_lowOf (N := N) (X := X) (t := t) (k := 0) (a := ivN (nZ (Int32.ofNat (k / 2))))
  rw [← ea] at lo
  have lo : cf_256 N X va t = some (t, .inl (some (.int (Int32.ofNat (k / 2))))) := lo
  have sz := c_sizeN (N := N) (X := X) C.2.2.1 b2
  have hst := c_step (N := N) (X := X) (t := t) (q := pl) C.1.2.1.1 C.1.2.1.2.1 hf hs
  have CS1 := C.st
  obtain ⟨vc, c1, c2'⟩ := CS1.peek (N := N) (X := X) (k := 3) (by omega) (by rw [e8, List.length_cons, List.length_cons, List.length_cons]; omega)
  have c2 : cC (cel (jI t 48 2 (Int32.ofNat (T.1 + 1)))) u vc (some c) := by
    have eg : (cStk ((m, d, vs, (8, [y], k) :: (0, [c], j) :: I) :: G))[3 - 1]'(by rw [e8, List.length_cons, List.length_cons, List.length_cons]; omega) = some c := by
      have h1 : (cStk ((m, d, vs, (8, [y], k) :: (0, [c], j) :: I) :: G))[3 - 1]? = some (some c) := by
        rw [e8]
        rfl
      rw [List.getElem?_eq_getElem (by rw [e8, List.length_cons, List.length_cons, List.length_cons]; omega)] at h1
      exact Option.some.inj h1
    rw [eg] at c2'
    exact c2'
  obtain ⟨t3, p1, p2, p3, p4⟩ := CS1.push (N := N) (X := X) (m' := m) (d' := d) (it := (0, [c], 0)) (o := some c) (v := vc) (by omega) c2 (by show ¬ (0 : Nat) = 3; decide) rfl
  have b3 : cN (cel t3) u vb y := by
    rw [p4]
    exact b2
  obtain ⟨hip, eel⟩ := elN_c h0 hi
  obtain ⟨ve, e1, e2⟩ := c_part (N := N) (X := X) p2.2.2.1 b3 hip
  rw [← eel] at e2
  obtain ⟨t4, r1, r2, r3, -⟩ := p2.push (N := N) (X := X) (m' := m) (d' := d) (it := (0, [elN y (k / 2)], 0)) (o := some (elN y (k / 2))) (v := ve) (by rw [cStk_0 (m' := m) (d' := d), List.length_cons]; omega) e2 (by show ¬ (0 : Nat) = 3; decide) rfl
  refine ⟨t4, r2, r3.trans p3, fun t5 h5 => ?_⟩
  have hn : ¬ szN y ≤ k / 2 := by omega
  clear e2 eel r2 CS1 b3 a2 ea c2 c2' p2 p4 e8
  generalize hkh : k / 2 = kh at *
  generalize jI t 48 2 (Int32.ofNat (T.1 + 1)) = tS at *
  generalize szN y = sy at *
  unfold cf_163 cf_163_0 cf_163_5 cf_163_8 cf_163_14 cf_163_26 cf_163_29 cf_163_34 cf_163_37 cf_163_43 cf_163_46 cf_163_57 cf_163_60 cf_163_67
  simp (disch := omega) only [ev_S, ev_C, ↓reduceIte, Nat.reduceEqDiff, Nat.reduceLeDiff, Nat.reduceAdd, Nat.reduceMul, Nat.reduceSub, reduceCtorEq, l32_0, l32_1, l32_2, l32_3, l32_4, l32_5, l32_6, l32_7, l32_8, l32_9, l32_10, l32_11, l32_12, l32_13, l32_14, l32_15, l32_16, l32_17, l32_18, l32_19, l32_20, l32_21, l32_22, l32_23, l32_24, l32_25, l32_26, l32_27, l32_28, l32_29, l32_33, l32_40, l32_41, l32_44, l32_45, l32_59, l32_61, l32_91, l32_93, l32_123, l32_125, a1, lo, b1, sz, hn, hst, c1, p1, e1, r1, h5]
end NXC
