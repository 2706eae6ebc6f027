/-! ===== PURE: statements (7): blocks ===== -/
/-- a statement on both sides -/
def ST (N : Nat) (b : Nat → Nat) (n p e i op D : Nat) (code : List Ins) (cu : List Nat) (fs : Nat × Nat × Nat) (Bs : List (Int32 × Int32 × Int32)) (t : cS) (s : mS) (R : kO) : Prop := (∃ t' s' k i' seg vs' cl' W', R = some (t', .inl none) ∧ i < i' ∧ k + i ≤ i' ∧ (∀ f, TW N (f + k) s = TW N f s') ∧ PE b n p e i' op D (code ++ seg) (code ++ seg) vs' cl' W' cu (fs.1, (code ++ seg).length, fs.2.2) t' s' ∧ rB s' Bs ∧ JP (code ++ seg) code.length (code ++ seg).length ∧ FRs p e t t' s s') ∨ (∃ t' s' k, R = some (t', .inr ()) ∧ k + i ≤ (TL b n).length + 1 ∧ (∀ f, TW N (f + k) s = some (s', none)) ∧ pF t' s' ∧ FXs p e t t' s s')
def SSt (N : Nat) (X : Nat → Option zz_C) (b : Nat → Nat) (n p e F : Nat) : Prop := ∀ i op D code vs cl W cu fs Bs t s, PE b n p e i op D code code vs cl W cu fs t s → rWn s → rB s Bs → noX cu → (Bs.length ≤ op ∧ nF cu + 1 ≤ op) → 1 ≤ Bs.length → 1 ≤ D → (∀ hi : i < (TL b n).length, ¬ (TL b n)[i].1 = 125) → 3 * (10 - op) + 3 ≤ F → ST N b n p e i op D code cu fs Bs t s (cf_S1 N X F 177 [] t)
section BLK
variable {N : Nat} {X : Nat → Option zz_C} {t t' t1 t2 : cS} {s s' s1 s2 : mS} {b : Nat → Nat} {n p e i op D D' : Nat} {code code1 l : List Ins} {vs : List (List Nat)} {cl : List Cn} {W : List Wt} {cu cu' : List Nat} {fs : Nat × Nat × Nat} {Bs : List (Int32 × Int32 × Int32)}
theorem FRs.wn (f : fS e s s') (h : rWn s) : rWn s' := fun k hk => by rw [f.2.2.1 1 (by omega)]; exact h k hk
theorem JP.nil {a : Nat} : JP code a a := fun m h1 h2 => absurd h1 (by omega)
/-- statements up to the bracket -/
theorem p_body {F : Nat} (hsl : noX cu) (hS : SSt N X b n p e F) (hF : 3 * (10 - op) + 3 ≤ F) (hB : Bs.length ≤ op ∧ nF cu + 1 ≤ op) (hB1 : 1 ≤ Bs.length) : ∀ (d i D : Nat) (code : List Ins) (vs : List (List Nat)) (cl : List Cn) (W : List Wt) (fs : Nat × Nat × Nat) (t : cS) (s : mS) (m Q : Nat), (TL b n).length ≤ i + d → PE b n p e i op D code code vs cl W cu fs t s → rWn s → rB s Bs → m ≤ i → d < Q → 1 ≤ D → (∃ t' s' k i' seg vs' cl' W', cf_176_L2 N X (cf_S1 N X F) Q 0 (Int32.ofNat m) t = cf_176_41 N X (cf_S1 N X F) t' ∧ i ≤ i' ∧ k + i ≤ i' ∧ (∀ f, TW N (f + k) s = TW N f s') ∧ (∃ hi : i' < (TL b n).length, (TL b n)[i'].1 = 125) ∧ PE b n p e i' op D (code ++ seg) (code ++ seg) vs' cl' W' cu (fs.1, (code ++ seg).length, fs.2.2) t' s' ∧ rB s' Bs ∧ JP (code ++ seg) code.length (code ++ seg).length ∧ FRs p e t t' s s') ∨ (∃ t' s' k, cf_176_L2 N X (cf_S1 N X F) Q 0 (Int32.ofNat m) t = some (t', .inr ()) ∧ k + i ≤ (TL b n).length + 1 ∧ (∀ f, TW N (f + k) s = some (s', none)) ∧ pF t' s' ∧ FXs p e t t' s s') := by
  have eL : ∀ Q x1 t, cf_176_L2 N X (cf_S1 N X F) (Q + 1) 0 x1 t = cf_176_8 N X (cf_S1 N X F) (cf_176_L2 N X (cf_S1 N X F) Q) x1 t := fun _ _ _ => rfl
  intro d
  induction d with
  | zero =>
    intro i D code vs cl W fs t s m Q hd h
    obtain ⟨hi, -⟩ := h.1.now
    omega
  | succ d ih =>
    intro i D code vs cl W fs t s m Q hd h hwn hb hmi hdQ hD
    obtain ⟨Q, rfl⟩ : ∃ q, Q = q + 1 := ⟨Q - 1, by omega⟩
    obtain ⟨hi, e5, e6, e7, hkk, ho, he, hlt, hll⟩ := h.1.now
    have hcnt := h.1.cnt
    have hci : ck (TL b n)[i] = 125 ↔ (TL b n)[i].1 = 125 := ck_sg (by decide)
    have hm1 : ¬ (TL b n).length ≤ m := by omega
    rw [eL]
    by_cases z : (TL b n)[i].1 = 125
    · rw [hci.mpr z] at e5
      refine Or.inl ⟨t, s, 0, i, [], vs, cl, W, ?_, Nat.le_refl _, by omega, fun f => rfl, ⟨hi, z⟩, ?_, hb, ?_, FRs.rf⟩
      · unfold cf_176_8 cf_176_16 cf_176_19 cf_176_26
        simp (disch := omega) only [ev_S, ev_C, ↓reduceIte, Nat.reduceEqDiff, Nat.reduceLeDiff, Nat.reduceAdd, Nat.reduceMul, Nat.reduceSub, reduceCtorEq, l32_0, l32_1, l32_2, l32_3, l32_4, l32_5, l32_6, l32_7, l32_8, l32_9, l32_10, l32_11, l32_12, l32_13, l32_14, l32_15, l32_16, l32_17, l32_18, l32_19, l32_20, l32_21, l32_22, l32_23, l32_24, l32_25, l32_26, l32_27, l32_28, l32_29, l32_33, l32_40, l32_41, l32_44, l32_45, l32_59, l32_61, l32_91, l32_93, l32_123, l32_125, c_count, hcnt, hm1, c_kindNow, e5]
      · rw [List.append_nil]
        exact h.fsx ⟨h.nj.1, Nat.le_refl _⟩ h.pa
      · rw [List.append_nil]
        exact JP.nil
    · have z2 : ¬ ck (TL b n)[i] = 125 := fun q => z (hci.mp q)
      have hR : cf_176_8 N X (cf_S1 N X F) (cf_176_L2 N X (cf_S1 N X F) Q) (Int32.ofNat m) t = ko_call 5 (cf_S1 N X F 177 [] t) (fun g1 v1 => co_v v1 (cf_176_L2 N X (cf_S1 N X F) Q 0 (Int32.ofNat (m + 1)) g1)) := by
        unfold cf_176_8 cf_176_16 cf_176_19 cf_176_26 cf_176_31 cf_176_35
        simp (disch := omega) only [ev_S, ev_C, ↓reduceIte, Nat.reduceEqDiff, Nat.reduceLeDiff, Nat.reduceAdd, Nat.reduceMul, Nat.reduceSub, reduceCtorEq, l32_0, l32_1, l32_2, l32_3, l32_4, l32_5, l32_6, l32_7, l32_8, l32_9, l32_10, l32_11, l32_12, l32_13, l32_14, l32_15, l32_16, l32_17, l32_18, l32_19, l32_20, l32_21, l32_22, l32_23, l32_24, l32_25, l32_26, l32_27, l32_28, l32_29, l32_33, l32_40, l32_41, l32_44, l32_45, l32_59, l32_61, l32_91, l32_93, l32_123, l32_125, c_count, hcnt, hm1, c_kindNow, e5, z2, l32_125]
      rw [hR]
      rcases hS i op D code vs cl W cu fs Bs t s h hwn hb hsl hB hB1 hD (fun _ => z) hF with ⟨t1, s1, k1, i1, seg1, vs1, cl1, W1, a1, a2, a3, a4, a5, a6, a7, a8⟩ | ⟨t1, s1, k1, a1, a2, a3, a4, a5⟩
      · rw [a1]
        show (∃ t' s' k i' seg vs' cl' W', cf_176_L2 N X (cf_S1 N X F) Q 0 (Int32.ofNat (m + 1)) t1 = _ ∧ _) ∨ (∃ t' s' k, cf_176_L2 N X (cf_S1 N X F) Q 0 (Int32.ofNat (m + 1)) t1 = _ ∧ _)
        rcases ih i1 D (code ++ seg1) vs1 cl1 W1 (fs.1, (code ++ seg1).length, fs.2.2) t1 s1 (m + 1) Q (by omega) a5 (FRs.wn a8.2 hwn) a6 (by omega) (by omega) hD with ⟨t2, s2, k2, i2, seg2, vs2, cl2, W2, b1, b2, b3, b4, b5, b6, b7, b8, b9⟩ | ⟨t2, s2, k2, b1, b2, b3, b4, b5⟩
        · refine Or.inl ⟨t2, s2, k2 + k1, i2, seg1 ++ seg2, vs2, cl2, W2, b1, by omega, by omega, fun f => ?_, b5, ?_, b7, ?_, a8.tr b9⟩
          · rw [← Nat.add_assoc, a4, b4]
          · rw [← List.append_assoc]
            exact b6
          · rw [← List.append_assoc]
            exact (a7.app (Nat.le_refl _)).cat b8 (by rw [List.length_append]; omega)
        · refine Or.inr ⟨t2, s2, k2 + k1, b1, by omega, fun f => ?_, b4, a8.pre b5⟩
          rw [← Nat.add_assoc, a4, b3]
      · exact Or.inr ⟨t1, s1, k1, by rw [a1]; rfl, a2, a3, a4, a5⟩
theorem S1_176 {F : Nat} : cf_S1 N X (F + 1) 176 [] t = cf_176 N X (cf_S1 N X F) t := rfl
theorem S1_177 {F : Nat} : cf_S1 N X (F + 1) 177 [] t = cf_177 N X (cf_S1 N X F) t := rfl
theorem S1_181 {F : Nat} {x1 : Int32} : cf_S1 N X (F + 1) 181 [.int x1] t = cf_181 N X (cf_S1 N X F) x1 t := rfl
theorem S1_182 {F : Nat} {x1 : Int32} : cf_S1 N X (F + 1) 182 [.int x1] t = cf_182 N X (cf_S1 N X F) x1 t := rfl
theorem S1_184 {F : Nat} {x1 : Int32} : cf_S1 N X (F + 1) 184 [.int x1] t = cf_184 N X (cf_S1 N X F) x1 t := rfl
theorem S1_185 {F : Nat} : cf_S1 N X (F + 1) 185 [] t = cf_185 N X (cf_S1 N X F) t := rfl
/-- a block, up to what the reference does behind its last bracket -/
theorem p_blk {F : Nat} {x1 x2 x3 : Int32} (hsl : noX cu) (hN : 170000 ≤ N) (hS : SSt N X b n p e F) (hF : 3 * (10 - op) ≤ F) (h : PE b n p e i op D code code vs cl W cu fs t s) (hwn : rWn s) (hb : rB s Bs) (hB : Bs.length ≤ op ∧ nF cu ≤ op) : (∃ t2 s0 s2 k i2 seg vs2 cl2 W2, cf_S1 N X (F + 1) 176 [] t = some (t2, .inl none) ∧ mf_276 N x1 x2 x3 s = some (s0, none) ∧ i + 1 < i2 ∧ k + i + 1 ≤ i2 ∧ (∀ f, TW N (f + k) s0 = mo_bv (mf_278_6 N s2) (fun s3 => TW N f s3)) ∧ PE b n p e i2 op (D + 2) (code ++ seg) (code ++ seg) vs2 cl2 W2 cu (fs.1, (code ++ seg).length, fs.2.2) t2 s2 ∧ rB s2 (Bs ++ [(x1, x2, x3)]) ∧ JP (code ++ seg) code.length (code ++ seg).length ∧ FRs p e t t2 s s2) ∨ (∃ t' s0 s' k, cf_S1 N X (F + 1) 176 [] t = some (t', .inr ()) ∧ mf_276 N x1 x2 x3 s = some (s0, none) ∧ k + i ≤ (TL b n).length + 1 ∧ (∀ f, TW N (f + k) s0 = some (s', none)) ∧ pF t' s' ∧ FXs p e t t' s s') := by
  have hop := h.1.2.2.2.1
  obtain ⟨hi, e5, e6, e7, hkk, ho, he, hlt, hll⟩ := h.1.now
  rw [S1_176]
  rcases h.opn (N := N) (X := X) (c := 123) hN (by omega) with ⟨t1, s1, a1, a2, a3, a4, a5, a6⟩ | ⟨t1, s1, a1, a2, a3, a4, a5⟩
  · obtain ⟨s0, b1, b2, b3⟩ := (hb.kp a6.2).push (N := N) (x1 := x1) (x2 := x2) (x3 := x3) (by omega)
    have c1 := a5.kS b2
    have hM : mf_276 N x1 x2 x3 s = some (s0, none) := by
      unfold mf_276 mf_276_0
      rw [l32_123, a2]
      exact b1
    have hR : cf_176 N X (cf_S1 N X F) t = cf_176_L2 N X (cf_S1 N X F) N 0 (Int32.ofNat 0) t1 := by
      unfold cf_176 cf_176_0
      rw [l32_123, a1]
      rfl
    have f0 : FRs p e t t1 s s0 := a6.S.tr ⟨gL.rf, fBk.S b2⟩
    have hlen : (Bs ++ [(x1, x2, x3)]).length = Bs.length + 1 := List.length_append
    rw [hR]
    rcases p_body (cu := cu) (Bs := Bs ++ [(x1, x2, x3)]) hsl hS (by omega) (by omega) (by omega) (TL b n).length (i + 1) (D + 1) code vs cl W fs t1 s0 0 N (by omega) c1 (FRs.wn f0.2 hwn) b3 (Nat.zero_le _) (by omega) (by omega) with ⟨t2, s2, k2, i2, seg2, vs2, cl2, W2, d1, d2, d3, d4, ⟨hi2, d5⟩, d6, d7, d8, d9⟩ | ⟨t2, s2, k2, d1, d2, d3, d4, d5⟩
    · rcases d6.sgn (N := N) (X := X) (c := 125) hN (by omega) (fun _ => by omega) with ⟨t3, s3, q1, q2, q3, q4, q5, q6⟩ | ⟨t3, s3, q1, q2, q3, q4, q5⟩
      · rw [if_pos (by omega), Nat.add_sub_cancel] at q4
        obtain ⟨_, _, w2⟩ := TW_s (N := N) (f := 0) (B := Bs.length) d6.1 (by rw [← hlen]; exact d7.1) (by have := d7.2.1; omega)
        refine Or.inl ⟨t3, s0, s3, k2 + 1, i2 + 1, seg2, vs2, cl2, W2, ?_, hM, by omega, by omega, fun f => ?_, q4, d7.kp q5.2, d8, f0.tr (d9.tr q5.S)⟩
        · rw [d1]
          unfold cf_176_41 cf_176_47
          rw [l32_125, q1]
          rfl
        · rw [show f + (k2 + 1) = (f + 1) + k2 by omega, d4]
          obtain ⟨_, _, w2⟩ := TW_s (N := N) (f := f) (B := Bs.length) d6.1 (by rw [← hlen]; exact d7.1) (by have := d7.2.1; omega)
          rw [w2 d5]
          unfold mf_278 mf_278_0
          rw [l32_125, q2]
          rfl
      · -- the bracket stands there
        exfalso
        obtain ⟨hi3, e53, e63, e73, hkk3, ho3, he3, hlt3, hll3⟩ := d6.1.now
        have h9 : s2.1 9 = Int32.ofNat 0 := d6.1.2.2.2.2.2.2.2.2.2
        have g1 := r_isSign (N := N) (c := 125) hkk3 (by decide) (by decide)
        rw [if_pos d5] at g1
        obtain ⟨tx, sx, p1, p2, p3, p4, p5⟩ := p_adv (N := N) (X := X) hN d6.1 (fun _ => by omega)
        obtain ⟨x, y, v1, v2, v3, v4, v5, v6, v7⟩ := q3
        have key : ∃ sy, mf_267 N (Int32.ofNat 125) s2 = some (sy, none) ∧ sy.1 9 = Int32.ofNat 0 := by
          obtain ⟨sy, r1, r2, r3⟩ := r_take (N := N) (s := mI s2 11 (s2.1 11 - Int32.ofNat 1)) hN (d6.1.2.2.2.2.2.1) (k := (TL b n)[i2]) hkk3 he3
          refine ⟨sy, ?_, by rw [r3.1 9 (by omega)]; exact h9⟩
          repeat ((first | unfold mf_267 | unfold mf_267_0 | unfold mf_267_7 | unfold mf_267_8 | unfold mf_267_13 | unfold mf_267_16 | unfold mf_267_22 | unfold mf_267_28 | unfold mf_267_34 | unfold mf_267_44 | unfold mf_267_48 | unfold mf_267_51 | unfold mf_267_55); try simp (disch := omega) only [ev_S, ev_P, ↓reduceIte, Nat.reduceEqDiff, Nat.reduceLeDiff, Nat.reduceAdd, Nat.reduceMul, Nat.reduceSub, reduceCtorEq, l32_0, l32_1, l32_2, l32_3, l32_4, l32_9, l32_11, l32_41, l32_93, l32_125, h9, g1, r1])
        obtain ⟨sy, y1, y2⟩ := key
        rw [q2] at y1
        obtain rfl : s3 = sy := by
          injection y1 with y1
          injection y1
        rw [v6] at y2
        have := ofNat_inj (a := x) (b := 0) (by omega) (by omega) y2
        omega
    · exact Or.inr ⟨t2, s0, s2, k2, d1, hM, by omega, d3, d4, f0.pre d5⟩
  · have hF' : FX p e t t1 s s1 := a4
    obtain ⟨m, m1, m2⟩ := h.fU hb a3 hF'
    have hf2 := m2
    obtain ⟨⟨x, v1, v2, v6⟩, -, -, -, -, B, hB1, hB2⟩ := hf2
    obtain ⟨s0, b1, b2⟩ := r_push (N := N) (x1 := x1) (x2 := x2) (x3 := x3) hB2 (by omega)
    obtain ⟨b2, -⟩ := b2
    have tl0 : tl e s1 s0 := ⟨b2.1 9 (by omega), b2.1 10 (by omega), fBk.S b2⟩
    refine Or.inr ⟨t1, s0, s0, 1, ?_, ?_, by omega, fun f => TW_F (a3.tl tl0), a3.tl tl0, hF'.S.tl tl0⟩
    · unfold cf_176 cf_176_0
      rw [l32_123, a1]
      rfl
    · unfold mf_276 mf_276_0
      rw [l32_123, a2]
      exact b1
end BLK
