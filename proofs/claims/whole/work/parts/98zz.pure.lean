/-! ===== PURE: run (129): no fuel at a walk's next ===== -/
section NXX
variable {N : Nat} {X : Nat → Option zz_C} {t0 t t1 t2 t3 : cS} {s0 s s1 s2 : mS} {u w f p h fu m m' d d' n k b j e kx : Nat} {code : List Ins} {Fs : List Fn} {T T1 : Ty} {out : List Int32} {G F : List Fm} {sh S0 : Nat → Option Nod} {vs : List (Option Nod)} {I J I' Iq : List It} {q z pl fz : Int32} {x y c : Nod} {rs : List Nod} {g : Fn} {L : List Nat}
theorem c_stepX (C : CX t0 t p code Fs fu S0 u w F sh T out) (hf : fu ≤ 20000) (hT : T.1 ≤ fu) (hs : ¬ T.1 < fu) (ht : cf_156 N X (Int32.ofNat 10) pl (Int32.ofNat 0) t = some (t3, .inl none)) : cf_146 N X pl t = some (t3, .inl (some (.int (Int32.ofNat 0)))) := by
  have h1 := C.1.2.1.1
  have h2 := C.1.2.1.2.1
  have fit0 : zz_reti (some .boolean) (Int32.ofNat 0) = true := rfl
  have hn : ¬ fu < fu := by omega
  rw [show T.1 = fu by omega] at h2
  unfold cf_146 cf_146_0 cf_146_7 cf_146_12 cf_146_20 cf_235 cf_235_0 cf_235_11
  simp (disch := omega) only [ev_S, ev_C, ↓reduceIte, Nat.reduceEqDiff, Nat.reduceLeDiff, Nat.reduceAdd, Nat.reduceMul, Nat.reduceSub, reduceCtorEq, l32_0, l32_1, l32_2, l32_3, l32_4, l32_5, l32_6, l32_7, l32_8, l32_9, l32_10, l32_11, l32_12, l32_13, l32_14, l32_15, l32_16, l32_17, l32_18, l32_19, l32_20, l32_21, l32_22, l32_23, l32_24, l32_25, l32_26, l32_27, l32_28, l32_29, l32_33, l32_40, l32_41, l32_44, l32_45, l32_59, l32_61, l32_91, l32_93, l32_123, l32_125, h1, h2, hn, ht, fit0]
theorem CX.eachX (C : CX t0 t p code Fs fu S0 u w ((m, d, vs, (6, rs ++ [y], k) :: I) :: G) sh T out) (hrs : rs.length = k / 2) (hi : k / 2 < szN y) (hb : szN y ≤ 64) (hst : cf_146 N X pl t = some (t3, .inl (some (.int (Int32.ofNat 0))))) : cf_161 N X fz pl t = some (t3, .inl none) := by
  have e6 := cStk_6 (m := m) (d := d) (m' := m) (d' := d) (vs := vs) (l := rs ++ [y]) (k := k) (I := I) (G := G)
  obtain ⟨va, a1, a2⟩ := C.top1 (N := N) (X := X) e6
  have hlen : k / 2 + 2 ≤ (cStk ((m, d, vs, (6, rs ++ [y], k) :: I) :: G)).length := by
    rw [e6, List.length_cons, List.length_append, List.length_map, List.length_append, List.length_singleton]
    omega
  obtain ⟨vb, b1, b2⟩ := C.peek (N := N) (X := X) (k := k / 2 + 2) (by omega) hlen
  have eg : (cStk ((m, d, vs, (6, rs ++ [y], k) :: I) :: G))[k / 2 + 2 - 1]'(by omega) = some y := by
    have h1 : (cStk ((m, d, vs, (6, rs ++ [y], k) :: I) :: G))[k / 2 + 2 - 1]? = some (some y) := by
      rw [e6, show k / 2 + 2 - 1 = k / 2 + 1 by omega, List.getElem?_cons_succ, List.getElem?_append_left (by rw [List.length_map, List.length_append, List.length_singleton]; omega), List.getElem?_map, List.getElem?_append_right (by omega), show k / 2 - rs.length = 0 by omega]
      rfl
    rw [List.getElem?_eq_getElem (by omega)] at h1
    exact Option.some.inj h1
  rw [eg] at b2
  have a2 : cN (cel t) u va (nZ (Int32.ofNat (k / 2))) := a2
  have b2 : cN (cel t) u vb y := b2
  have ea := a2.z rfl
  have lo := c_lowOf (N := N) (X := X) (t := t) (k := 0) (a := ivN (nZ (Int32.ofNat (k / 2))))
  rw [← ea] at lo
  have lo : cf_256 N X va t = some (t, .inl (some (.int (Int32.ofNat (k / 2))))) := lo
  have sz := c_sizeN (N := N) (X := X) C.2.2.1 b2
  have hn : ¬ szN y ≤ k / 2 := by omega
  clear eg e6 hlen a2 ea b2 C
  generalize hkh : k / 2 = kh at *
  generalize szN y = sy at *
  unfold cf_161 cf_161_0 cf_161_5 cf_161_8 cf_161_16 cf_161_28 cf_161_31 cf_161_36 cf_161_60
  simp (disch := omega) only [ev_S, ev_C, ↓reduceIte, Nat.reduceEqDiff, Nat.reduceLeDiff, Nat.reduceAdd, Nat.reduceMul, Nat.reduceSub, reduceCtorEq, l32_0, l32_1, l32_2, l32_3, l32_4, l32_5, l32_6, l32_7, l32_8, l32_9, l32_10, l32_11, l32_12, l32_13, l32_14, l32_15, l32_16, l32_17, l32_18, l32_19, l32_20, l32_21, l32_22, l32_23, l32_24, l32_25, l32_26, l32_27, l32_28, l32_29, l32_33, l32_40, l32_41, l32_44, l32_45, l32_59, l32_61, l32_91, l32_93, l32_123, l32_125, a1, lo, b1, sz, hn, hst]
theorem CX.foldX (C : CX t0 t p code Fs fu S0 u w ((m, d, vs, (8, [y], k) :: I) :: G) sh T out) (hi : k / 2 < szN y) (hb : szN y ≤ 64) (hst : cf_146 N X pl t = some (t3, .inl (some (.int (Int32.ofNat 0))))) : cf_163 N X fz pl t = some (t3, .inl none) := by
  have e8 : cStk ((m, d, vs, (8, [y], k) :: I) :: G) = some (nZ (Int32.ofNat (k / 2))) :: some y :: cStk ((m, d, vs, I) :: G) := by
    rw [cStk_8 (m' := m) (d' := d)]
    rfl
  obtain ⟨va, a1, a2⟩ := C.top1 (N := N) (X := X) e8
  obtain ⟨vb, b1, b2⟩ := C.top2 (N := N) (X := X) e8
  have a2 : cN (cel t) u va (nZ (Int32.ofNat (k / 2))) := a2
  have b2 : cN (cel t) u vb y := b2
  have ea := a2.z rfl
  have lo := c_lowOf (N := N) (X := X) (t := t) (k := 0) (a := ivN (nZ (Int32.ofNat (k / 2))))
  rw [← ea] at lo
  have lo : cf_256 N X va t = some (t, .inl (some (.int (Int32.ofNat (k / 2))))) := lo
  have sz := c_sizeN (N := N) (X := X) C.2.2.1 b2
  have hn : ¬ szN y ≤ k / 2 := by omega
  clear e8 a2 ea b2 C
  generalize k / 2 = kh at *
  generalize szN y = sy at *
  unfold cf_163 cf_163_0 cf_163_5 cf_163_8 cf_163_14 cf_163_26 cf_163_29 cf_163_34 cf_163_67
  simp (disch := omega) only [ev_S, ev_C, ↓reduceIte, Nat.reduceEqDiff, Nat.reduceLeDiff, Nat.reduceAdd, Nat.reduceMul, Nat.reduceSub, reduceCtorEq, l32_0, l32_1, l32_2, l32_3, l32_4, l32_5, l32_6, l32_7, l32_8, l32_9, l32_10, l32_11, l32_12, l32_13, l32_14, l32_15, l32_16, l32_17, l32_18, l32_19, l32_20, l32_21, l32_22, l32_23, l32_24, l32_25, l32_26, l32_27, l32_28, l32_29, l32_33, l32_40, l32_41, l32_44, l32_45, l32_59, l32_61, l32_91, l32_93, l32_123, l32_125, a1, lo, b1, sz, hn, hst]
/-- the reference has no fuel -/
theorem r_nextX (R : RXm s0 s h code Fs fu f ((m, d, vs, (e, rs ++ [y], k) :: I) :: G) sh T out) (he : e = 6 ∨ e = 8) (hk : k % 2 = 0) (hw : (wStk ((m, d, vs, (e, rs ++ [y], k) :: I) :: G)).length ≤ 110) (hi : k / 2 < szN y) (hb : szN y ≤ 64) (hst : mf_302 N s = some (s2, none)) (h66 : s2.1 66 = Int32.ofNat 10) : mf_317 N (Int32.ofNat kx) s = some (s2, none) := by
  have hw6 : e = 2 ∨ e = 3 ∨ e = 6 ∨ e = 8 := by omega
  have eW := wStk_w (m := m) (d := d) (m' := m) (d' := d) (vs := vs) (I := I) (G := G) (it := (e, rs ++ [y], k)) hw6
  have h79 := R.2.1.2.2.2.2.2.2.1
  have hv := R.2.1.2.2.1
  rw [eW, List.length_cons] at h79 hw
  rw [eW] at hv
  obtain ⟨v1, v2, v3, v4⟩ := hv.1.2.2 he
  obtain ⟨a, v5, v6, v7⟩ := v4 rs y rfl
  have v8 : s.2.2.1 82 (wStk ((m, d, vs, I) :: G)).length = Int32.ofNat ((k + 1) / 2) := v2
  have v9 : s.2.2.1 83 (wStk ((m, d, vs, I) :: G)).length = Int32.ofNat (szN y) := v7
  have hn : ¬ szN y ≤ (k + 1) / 2 := by omega
  clear hv v1 v2 v3 v4 v5 v6 v7 eW R
  generalize (wStk ((m, d, vs, I) :: G)).length = nw at *
  have sb : Int32.ofNat (nw + 1) - Int32.ofNat 1 = Int32.ofNat nw := by rw [← Int32.ofNat_sub _ _ (by omega)]; rfl
  have hkb : (k + 1) / 2 ≤ 64 := by omega
  generalize (k + 1) / 2 = kh at *
  generalize szN y = sy at *
  unfold mf_317 mf_317_0 mf_317_22 mf_317_26 mf_317_33
  simp (disch := omega) only [ev_S, ev_P, ↓reduceIte, Nat.reduceEqDiff, Nat.reduceLeDiff, Nat.reduceAdd, Nat.reduceMul, Nat.reduceSub, reduceCtorEq, l32_0, l32_1, l32_2, l32_3, l32_4, l32_5, l32_6, l32_7, l32_8, l32_9, l32_10, l32_11, l32_12, l32_13, l32_14, l32_15, l32_16, l32_17, l32_18, l32_19, l32_20, l32_21, l32_22, l32_23, l32_24, l32_25, l32_26, l32_27, l32_28, l32_29, l32_33, l32_40, l32_41, l32_44, l32_45, l32_59, l32_61, l32_91, l32_93, l32_123, l32_125, h79, sb, v8, v9, hn, hst, h66]
end NXX
