/-! ===== PURE: functions (3): parameters ===== -/
section PAR
variable {N : Nat} {X : Nat → Option zz_C} {t t' t1 t2 : cS} {s s' s1 s2 : mS} {b : Nat → Nat} {n p e i op c : Nat} {vs : List (List Nat)} {ls : List Nat}
/-- the reference goes over the parameters -/
theorem r_toldP {u q : Nat} (h : VR vs t s) (ho : okL ls) (h8 : ls.length ≤ 8) (e7 : s.2.1 7 = Int64.ofNat (evB 27 ls)) (hu : u ≤ 1) : ∃ w : Nat, w ≤ 1 ∧ (w = 0 ↔ u = 0 ∧ ∀ j (hj : j < vs.length), ¬ vs[j] = ls) ∧ mf_277_L8 N (q + (vs.length + 1)) 1 (Int32.ofNat 0) (Int32.ofNat u) (Int32.ofNat 0) s = mf_277_118 N (mf_277_L8 N q) (Int32.ofNat w) s := by
  obtain ⟨a1, a2, a3, a4, a5⟩ := h
  have hv := evB_27 ho h8
  have go : ∀ d j u, j + d = vs.length → u ≤ 1 → ∃ w : Nat, w ≤ 1 ∧ (w = 0 ↔ u = 0 ∧ ∀ k (hk : k < vs.length), j ≤ k → ¬ vs[k] = ls) ∧ mf_277_L8 N (q + (d + 1)) 1 (Int32.ofNat 0) (Int32.ofNat u) (Int32.ofNat j) s = mf_277_118 N (mf_277_L8 N q) (Int32.ofNat w) s := by
    intro d
    induction d with
    | zero =>
      intro j u hj hu
      refine ⟨u, hu, ⟨fun z => ⟨z, fun k hk hjk => by omega⟩, fun z => z.1⟩, ?_⟩
      show mf_277_80 N (mf_277_L8 N q) (Int32.ofNat u) (Int32.ofNat j) s = _
      have hj : j = vs.length := hj
      subst hj
      unfold mf_277_80
      simp (disch := omega) only [ev_S, ev_P, ↓reduceIte, Nat.reduceEqDiff, Nat.reduceLeDiff, Nat.reduceAdd, Nat.reduceMul, Nat.reduceSub, reduceCtorEq, l32_0, l32_1, l32_2, l32_3, l32_4, l32_5, l32_6, l32_7, l32_8, l32_9, l32_10, l32_11, l32_12, l32_13, l32_14, l32_15, l32_16, l32_17, l32_18, l32_19, l32_20, l32_21, l32_22, l32_23, l32_24, l32_25, l32_26, l32_27, l32_28, l32_29, l32_33, l32_40, l32_41, l32_44, l32_45, l32_59, l32_61, l32_91, l32_93, l32_123, l32_125, a4]
    | succ d ih =>
      intro j u hj hu
      have hj1 : j < vs.length := by omega
      obtain ⟨-, y, y2, y3⟩ := a5 j hj1
      have hw := evB_27 y2 y3
      have stp : ∀ v : Nat, v ≤ 1 → (v = 0 ↔ u = 0 ∧ ¬ vs[j] = ls) → mf_277_L8 N (q + (d + 1 + 1)) 1 (Int32.ofNat 0) (Int32.ofNat u) (Int32.ofNat j) s = mf_277_L8 N (q + (d + 1)) 1 (Int32.ofNat 0) (Int32.ofNat v) (Int32.ofNat (j + 1)) s := fun v hv1 hv2 => by
        show mf_277_80 N (mf_277_L8 N (q + (d + 1))) (Int32.ofNat u) (Int32.ofNat j) s = _
        have hlt : ¬ vs.length ≤ j := by omega
        by_cases u0 : u = 0
        · subst u0
          by_cases eq : vs[j] = ls
          · have v1 : v = 1 := by
              have : ¬ v = 0 := fun z => (hv2.mp z).2 eq
              omega
            subst v1
            rw [eq] at y
            unfold mf_277_80 mf_277_88 mf_277_92 mf_277_106 mf_277_111
            simp (disch := omega) only [ev_S, ev_P, ↓reduceIte, Nat.reduceEqDiff, Nat.reduceLeDiff, Nat.reduceAdd, Nat.reduceMul, Nat.reduceSub, reduceCtorEq, l32_0, l32_1, l32_2, l32_3, l32_4, l32_5, l32_6, l32_7, l32_8, l32_9, l32_10, l32_11, l32_12, l32_13, l32_14, l32_15, l32_16, l32_17, l32_18, l32_19, l32_20, l32_21, l32_22, l32_23, l32_24, l32_25, l32_26, l32_27, l32_28, l32_29, l32_33, l32_40, l32_41, l32_44, l32_45, l32_59, l32_61, l32_91, l32_93, l32_123, l32_125, a4, y, e7, lg_eq0, hlt]
          · have v0 : v = 0 := hv2.mpr ⟨rfl, eq⟩
            subst v0
            have hne : ¬ evB 27 vs[j] = evB 27 ls := fun e => eq (evB_inj (by decide) y2 ho e)
            unfold mf_277_80 mf_277_88 mf_277_92 mf_277_110 mf_277_111
            simp (disch := omega) only [ev_S, ev_P, ↓reduceIte, Nat.reduceEqDiff, Nat.reduceLeDiff, Nat.reduceAdd, Nat.reduceMul, Nat.reduceSub, reduceCtorEq, l32_0, l32_1, l32_2, l32_3, l32_4, l32_5, l32_6, l32_7, l32_8, l32_9, l32_10, l32_11, l32_12, l32_13, l32_14, l32_15, l32_16, l32_17, l32_18, l32_19, l32_20, l32_21, l32_22, l32_23, l32_24, l32_25, l32_26, l32_27, l32_28, l32_29, l32_33, l32_40, l32_41, l32_44, l32_45, l32_59, l32_61, l32_91, l32_93, l32_123, l32_125, a4, y, e7, lg_eq0, hne, hlt]
        · have u1 : u = 1 := by omega
          subst u1
          have v1 : v = 1 := by
            have : ¬ v = 0 := fun z => absurd (hv2.mp z).1 (by decide)
            omega
          subst v1
          unfold mf_277_80 mf_277_88 mf_277_106 mf_277_111
          simp (disch := omega) only [ev_S, ev_P, ↓reduceIte, Nat.reduceEqDiff, Nat.reduceLeDiff, Nat.reduceAdd, Nat.reduceMul, Nat.reduceSub, reduceCtorEq, l32_0, l32_1, l32_2, l32_3, l32_4, l32_5, l32_6, l32_7, l32_8, l32_9, l32_10, l32_11, l32_12, l32_13, l32_14, l32_15, l32_16, l32_17, l32_18, l32_19, l32_20, l32_21, l32_22, l32_23, l32_24, l32_25, l32_26, l32_27, l32_28, l32_29, l32_33, l32_40, l32_41, l32_44, l32_45, l32_59, l32_61, l32_91, l32_93, l32_123, l32_125, a4, hlt]
      by_cases z : u = 0 ∧ ¬ vs[j] = ls
      · obtain ⟨w, w1, w2, w3⟩ := ih (j + 1) 0 (by omega) (by omega)
        refine ⟨w, w1, ⟨fun q => ⟨z.1, fun k hk hjk => ?_⟩, fun q => w2.mpr ⟨rfl, fun k hk hjk => q.2 k hk (by omega)⟩⟩, ?_⟩
        · by_cases y : k = j
          · subst y
            exact z.2
          · exact (w2.mp q).2 k hk (by omega)
        · rw [stp 0 (by omega) ⟨fun _ => z, fun _ => rfl⟩]
          exact w3
      · obtain ⟨w, w1, w2, w3⟩ := ih (j + 1) 1 (by omega) (by omega)
        refine ⟨w, w1, ⟨fun q => absurd (w2.mp q).1 (by decide), fun q => absurd ⟨q.1, q.2 j hj1 (Nat.le_refl _)⟩ z⟩, ?_⟩
        rw [stp 1 (by omega) ⟨fun q => absurd q (by decide), fun q => absurd q z⟩]
        exact w3
  obtain ⟨w, w1, w2, w3⟩ := go vs.length 0 u (Nat.zero_add _) hu
  exact ⟨w, w1, ⟨fun z => ⟨(w2.mp z).1, fun j hj => (w2.mp z).2 j hj (Nat.zero_le _)⟩, fun z => w2.mpr ⟨z.1, fun j hj _ => z.2 j hj⟩⟩, w3⟩
/-- one parameter on both sides -/
theorem p_par1 {q : Nat} (hN : 170000 ≤ N) (h : pR b n i op t s) (hV : VR vs t s) (hv4 : vs.length ≤ 4) : (∃ t' s' ls, cf_175 N X t = some (t', .inl none) ∧ mf_277_40 N (mf_277_L8 N (q + (vs.length + 1))) s = mf_277_159 N (mf_277_L8 N q) s' ∧ vs.length < 4 ∧ pR b n (i + 1) op t' s' ∧ VR (vs ++ [ls]) t' s' ∧ gL eV aV t t' ∧ fV s s') ∨ (∃ t' s', cf_175 N X t = some (t', .inr ()) ∧ mf_277_40 N (mf_277_L8 N (q + (vs.length + 1))) s = some (s', none) ∧ pF t' s' ∧ gX eP a0 t t' ∧ fV s s') := by
  obtain ⟨hi, e5, e6, e7, hkk, ho, he, hlt, hll⟩ := h.now
  have h9 : s.1 9 = Int32.ofNat 0 := h.2.2.2.2.2.2.2.2.2
  have hnm := r_isName (N := N) hN h.2.2.2.2.2.2.2.1 hkk
  have h6 : s.1 6 = Int32.ofNat (TL b n)[i].2.2.2.1 := hkk.1
  have a2 := hV.2.1
  have a3 := hV.2.2.1
  have a4 := hV.2.2.2.1
  have fX0 : ∀ {s'}, fPs s s' → fV s s' := fun f => ⟨fun q r => f.1 q (by omega), f.2.1, f.2.2.1, fun q r => f.2.2.2 q (fun z => z)⟩
  by_cases k3 : ck (TL b n)[i] = 3
  · rw [if_pos k3] at hnm
    obtain ⟨k1, k2⟩ := ck3.mp k3
    have hoL : okL (TL b n)[i].2.2.1 ∧ (TL b n)[i].2.2.1.length ≤ 8 := by
      rcases ho with z | z | z | z | z
      · omega
      · omega
      · omega
      · exact z.2
      · omega
    have hv : s.2.1 7 = Int64.ofNat (evB 27 (TL b n)[i].2.2.1) := by
      obtain ⟨y1, y2, y3 | y3 | y3 | y3 | y3⟩ := hkk
      · omega
      · omega
      · omega
      · exact y3.2.2.1
      · omega
    have hc3 : kL t 3 7 = Int64.ofNat (evB 32 (TL b n)[i].2.2.1) := by
      rw [e7]
      unfold c3
      rw [if_pos k1, k2]
    have hpl : (TL b n)[i].2.2.2.1 ≤ 1600 := by
      have := TL_at hi
      have := h.2.2.2.2.1
      omega
    have ft : ∀ x : Nat, 2 ≤ x → x ≤ 6 → ∃ t', cf_202 N X (Int32.ofNat 0) (Int32.ofNat x) t = some (t', .inr ()) ∧ mf_261 N (Int32.ofNat x) (Int32.ofNat (TL b n)[i].2.2.2.1) s = some (flt s (Int32.ofNat x) (Int32.ofNat (TL b n)[i].2.2.2.1), none) ∧ pF t' (flt s (Int32.ofNat x) (Int32.ofNat (TL b n)[i].2.2.2.1)) ∧ gX eP a0 t t' ∧ fPs s (flt s (Int32.ofNat x) (Int32.ofNat (TL b n)[i].2.2.2.1)) := fun x hx1 hx2 => by
      obtain ⟨t', a1, a2, ⟨hi', a3, a4⟩⟩ := c_fail (N := N) (X := X) (x := x) h (by omega)
      rw [if_neg (by omega)] at a3
      refine ⟨t', a1, r_breaks h9, ⟨x, (TL b n)[i].2.2.2.1, by omega, hx2, hpl, a3, a4, rfl, rfl⟩, a2, ⟨fun q r => ?_, fun _ _ => rfl, fun _ _ => rfl, fun _ _ => rfl⟩⟩
      show (if q = 10 then _ else if q = 9 then _ else s.1 q) = _
      rw [if_neg (by omega), if_neg (by omega)]
    generalize hls : (TL b n)[i].2.2.1 = ls at *
    generalize hplq : (TL b n)[i].2.2.2.1 = pl at *
    have hf1 : cf_202 N X (Int32.ofNat 1) (Int32.ofNat 2) t = some (t, .inl none) := c_fine
    have hf2 : cf_202 N X (Int32.ofNat 1) (Int32.ofNat 3) t = some (t, .inl none) := c_fine
    have hf3 : cf_202 N X (Int32.ofNat 1) (Int32.ofNat 4) t = some (t, .inl none) := c_fine
    rw [k3] at e5
    by_cases c4 : vs.length = 4
    · obtain ⟨t', b1, b2, b3, b4, b5⟩ := ft 3 (by omega) (by omega)
      refine Or.inr ⟨t', _, ?_, ?_, b3, b4, fX0 b5⟩
      · unfold cf_175 cf_175_0 cf_175_8 cf_175_12 cf_175_17 cf_175_21 cf_175_28 cf_175_42 cf_175_43
        simp (disch := omega) only [ev_S, ev_C, ↓reduceIte, Nat.reduceEqDiff, Nat.reduceLeDiff, Nat.reduceAdd, Nat.reduceMul, Nat.reduceSub, reduceCtorEq, l32_0, l32_1, l32_2, l32_3, l32_4, l32_5, l32_6, l32_7, l32_8, l32_9, l32_10, l32_11, l32_12, l32_13, l32_14, l32_15, l32_16, l32_17, l32_18, l32_19, l32_20, l32_21, l32_22, l32_23, l32_24, l32_25, l32_26, l32_27, l32_28, l32_29, l32_33, l32_40, l32_41, l32_44, l32_45, l32_59, l32_61, l32_91, l32_93, l32_123, l32_125, c_kindNow, e5, hf1, c_valueNow, hc3, a2, c4, b1]
        rfl
      · unfold mf_277_40 mf_277_44 mf_277_52 mf_277_60 mf_277_69
        simp (disch := omega) only [ev_S, ev_P, ↓reduceIte, Nat.reduceEqDiff, Nat.reduceLeDiff, Nat.reduceAdd, Nat.reduceMul, Nat.reduceSub, reduceCtorEq, l32_0, l32_1, l32_2, l32_3, l32_4, l32_5, l32_6, l32_7, l32_8, l32_9, l32_10, l32_11, l32_12, l32_13, l32_14, l32_15, l32_16, l32_17, l32_18, l32_19, l32_20, l32_21, l32_22, l32_23, l32_24, l32_25, l32_26, l32_27, l32_28, l32_29, l32_33, l32_40, l32_41, l32_44, l32_45, l32_59, l32_61, l32_91, l32_93, l32_123, l32_125, hnm, a4, c4, h6, b2]
    · have hlt4 : vs.length < 4 := by omega
      obtain ⟨cs1, cs2⟩ := c_namesShelf (N := N) (X := X) (t := t) hoL.1 hoL.2
      obtain ⟨rs1, rs2⟩ := r_isShelf (N := N) (s := s) hoL.1 hoL.2
      obtain ⟨m, m1, m2, m3⟩ := fnd vs ls
      have nmO := c_varNumber (N := N) (X := X) hN hV hoL.1 hoL.2 m1 m2 m3
      have hM1 : ∀ u : Nat, mf_274 N (Int64.ofNat (evB 27 ls)) s = some (s, some (.int (Int32.ofNat u))) → mf_277_40 N (mf_277_L8 N (q + (vs.length + 1))) s = mf_277_L8 N (q + (vs.length + 1)) 1 (Int32.ofNat 0) (Int32.ofNat u) (Int32.ofNat 0) s := fun u hu => by
        unfold mf_277_40 mf_277_44 mf_277_52 mf_277_70 mf_277_77
        simp (disch := omega) only [ev_S, ev_P, ↓reduceIte, Nat.reduceEqDiff, Nat.reduceLeDiff, Nat.reduceAdd, Nat.reduceMul, Nat.reduceSub, reduceCtorEq, l32_0, l32_1, l32_2, l32_3, l32_4, l32_5, l32_6, l32_7, l32_8, l32_9, l32_10, l32_11, l32_12, l32_13, l32_14, l32_15, l32_16, l32_17, l32_18, l32_19, l32_20, l32_21, l32_22, l32_23, l32_24, l32_25, l32_26, l32_27, l32_28, l32_29, l32_33, l32_40, l32_41, l32_44, l32_45, l32_59, l32_61, l32_91, l32_93, l32_123, l32_125, hnm, a4, c4, hv, hu]
      have hC1 : ∀ y : Int32, cf_197 N X (Int64.ofNat (evB 32 ls)) t = some (t, .inl (some (.int y))) → cf_175 N X t = cf_175_52 N X (Int64.ofNat (evB 32 ls)) y t := fun y hy => by
        have n4 : ¬ 4 ≤ vs.length := by omega
        unfold cf_175 cf_175_0 cf_175_8 cf_175_12 cf_175_17 cf_175_21 cf_175_28 cf_175_38 cf_175_43 cf_175_47
        simp (disch := omega) only [ev_S, ev_C, ↓reduceIte, Nat.reduceEqDiff, Nat.reduceLeDiff, Nat.reduceAdd, Nat.reduceMul, Nat.reduceSub, reduceCtorEq, l32_0, l32_1, l32_2, l32_3, l32_4, l32_5, l32_6, l32_7, l32_8, l32_9, l32_10, l32_11, l32_12, l32_13, l32_14, l32_15, l32_16, l32_17, l32_18, l32_19, l32_20, l32_21, l32_22, l32_23, l32_24, l32_25, l32_26, l32_27, l32_28, l32_29, l32_33, l32_40, l32_41, l32_44, l32_45, l32_59, l32_61, l32_91, l32_93, l32_123, l32_125, c_kindNow, e5, hf1, c_valueNow, hc3, a2, n4, hf2, hy]
      obtain ⟨t4, b1, b2, b3, b4, b5⟩ := ft 4 (by omega) (by omega)
      have bad : ∀ (u : Nat), mf_274 N (Int64.ofNat (evB 27 ls)) s = some (s, some (.int (Int32.ofNat u))) → u ≤ 1 → (¬ u = 0 ∨ m < vs.length) → mf_277_40 N (mf_277_L8 N (q + (vs.length + 1))) s = some (flt s (Int32.ofNat 4) (Int32.ofNat pl), none) := fun u hu hu1 hb => by
        obtain ⟨w, w1, w2, w3⟩ := r_toldP (N := N) (u := u) (q := q) hV hoL.1 hoL.2 hv hu1
        have w0 : w = 1 := by
          have : ¬ w = 0 := fun z => by
            obtain ⟨z1, z2⟩ := w2.mp z
            rcases hb with hb | hb
            · exact hb z1
            · exact z2 m hb (m3 hb)
          omega
        subst w0
        rw [hM1 u hu, w3]
        unfold mf_277_118 mf_277_122 mf_277_131
        simp (disch := omega) only [ev_S, ev_P, ↓reduceIte, Nat.reduceEqDiff, Nat.reduceLeDiff, Nat.reduceAdd, Nat.reduceMul, Nat.reduceSub, reduceCtorEq, l32_0, l32_1, l32_2, l32_3, l32_4, l32_5, l32_6, l32_7, l32_8, l32_9, l32_10, l32_11, l32_12, l32_13, l32_14, l32_15, l32_16, l32_17, l32_18, l32_19, l32_20, l32_21, l32_22, l32_23, l32_24, l32_25, l32_26, l32_27, l32_28, l32_29, l32_33, l32_40, l32_41, l32_44, l32_45, l32_59, l32_61, l32_91, l32_93, l32_123, l32_125, h6, b2]
      by_cases sh : isH ls
      · refine Or.inr ⟨t4, _, ?_, bad 1 (rs1 sh) (by omega) (Or.inl (by omega)), b3, b4, fX0 b5⟩
        rw [hC1 1 (cs1 sh)]
        unfold cf_175_52 cf_175_68 cf_175_69
        simp (disch := omega) only [ev_S, ev_C, ↓reduceIte, Nat.reduceEqDiff, Nat.reduceLeDiff, Nat.reduceAdd, Nat.reduceMul, Nat.reduceSub, reduceCtorEq, l32_0, l32_1, l32_2, l32_3, l32_4, l32_5, l32_6, l32_7, l32_8, l32_9, l32_10, l32_11, l32_12, l32_13, l32_14, l32_15, l32_16, l32_17, l32_18, l32_19, l32_20, l32_21, l32_22, l32_23, l32_24, l32_25, l32_26, l32_27, l32_28, l32_29, l32_33, l32_40, l32_41, l32_44, l32_45, l32_59, l32_61, l32_91, l32_93, l32_123, l32_125, b1]
        rfl
      · have rs2 : mf_274 N (Int64.ofNat (evB 27 ls)) s = some (s, some (.int (Int32.ofNat 0))) := rs2 sh
        by_cases mf : m < vs.length
        · refine Or.inr ⟨t4, _, ?_, bad 0 rs2 (by omega) (Or.inr mf), b3, b4, fX0 b5⟩
          rw [if_pos mf] at nmO
          rw [hC1 0 (cs2 sh)]
          unfold cf_175_52 cf_175_55 cf_175_60 cf_175_68 cf_175_69
          simp (disch := omega) only [ev_S, ev_C, ↓reduceIte, Nat.reduceEqDiff, Nat.reduceLeDiff, Nat.reduceAdd, Nat.reduceMul, Nat.reduceSub, reduceCtorEq, l32_0, l32_1, l32_2, l32_3, l32_4, l32_5, l32_6, l32_7, l32_8, l32_9, l32_10, l32_11, l32_12, l32_13, l32_14, l32_15, l32_16, l32_17, l32_18, l32_19, l32_20, l32_21, l32_22, l32_23, l32_24, l32_25, l32_26, l32_27, l32_28, l32_29, l32_33, l32_40, l32_41, l32_44, l32_45, l32_59, l32_61, l32_91, l32_93, l32_123, l32_125, nmO, b1]
          rfl
        · rw [if_neg mf] at nmO
          obtain ⟨w, w1, w2, w3⟩ := r_toldP (N := N) (u := 0) (q := q) hV hoL.1 hoL.2 hv (by omega)
          have w0 : w = 0 := w2.mpr ⟨rfl, fun j hj => m2 j hj (by omega)⟩
          subst w0
          -- the writes
          have hlt14 : vs.length < 14 := by omega
          have hM2 : mf_277_40 N (mf_277_L8 N (q + (vs.length + 1))) s = mo_bv (mf_260 N (mI (mB s 21 (vp_updL (s.2.2.2 21) vs.length (Int64.ofNat (evB 27 ls)))) 22 (Int32.ofNat (vs.length + 1)))) (fun s1 => mf_277_159 N (mf_277_L8 N q) s1) := by
            rw [hM1 0 rs2, w3]
            unfold mf_277_118 mf_277_132
            simp (disch := omega) only [ev_S, ev_P, ↓reduceIte, Nat.reduceEqDiff, Nat.reduceLeDiff, Nat.reduceAdd, Nat.reduceMul, Nat.reduceSub, reduceCtorEq, l32_0, l32_1, l32_2, l32_3, l32_4, l32_5, l32_6, l32_7, l32_8, l32_9, l32_10, l32_11, l32_12, l32_13, l32_14, l32_15, l32_16, l32_17, l32_18, l32_19, l32_20, l32_21, l32_22, l32_23, l32_24, l32_25, l32_26, l32_27, l32_28, l32_29, l32_33, l32_40, l32_41, l32_44, l32_45, l32_59, l32_61, l32_91, l32_93, l32_123, l32_125, a4, hv]
          have q1 : pR b n i op (jI (jB t 7 (vp_updL (kB t 7).2 vs.length (Int64.ofNat (evB 32 ls)))) 2 4 (Int32.ofNat (vs.length + 1))) (mI (mB s 21 (vp_updL (s.2.2.2 21) vs.length (Int64.ofNat (evB 27 ls)))) 22 (Int32.ofNat (vs.length + 1))) := by
            obtain ⟨⟨x1, x2, x3, x4, x5, x6, x7, x8⟩, ⟨c4, hl, c5, c6, c7⟩, d3, d4, d5, d6, d7, d8, d9, d10⟩ := h
            exact ⟨⟨x1, x2, x3, x4, x5, x6, x7, x8⟩, ⟨c4, hl, c5, c6, c7⟩, d3, d4, d5, d6, d7, d8, d9, d10⟩
          have g1 : gL eV aV t (jI (jB t 7 (vp_updL (kB t 7).2 vs.length (Int64.ofNat (evB 32 ls)))) 2 4 (Int32.ofNat (vs.length + 1))) := ⟨fun k f r => if_neg (by omega), fun _ _ _ => rfl, fun k r1 r2 => ⟨rfl, if_neg r1, rfl⟩, rfl, rfl, Nat.le_refl _, Nat.le_refl _, Nat.le_refl _⟩
          have f1 : fV s (mI (mB s 21 (vp_updL (s.2.2.2 21) vs.length (Int64.ofNat (evB 27 ls)))) 22 (Int32.ofNat (vs.length + 1))) := ⟨fun q r => if_neg (by omega), fun _ _ => rfl, fun _ _ => rfl, fun q r => if_neg r⟩
          have V1 : VR (vs ++ [ls]) (jI (jB t 7 (vp_updL (kB t 7).2 vs.length (Int64.ofNat (evB 32 ls)))) 2 4 (Int32.ofNat (vs.length + 1))) (mI (mB s 21 (vp_updL (s.2.2.2 21) vs.length (Int64.ofNat (evB 27 ls)))) 22 (Int32.ofNat (vs.length + 1))) := by
            have hl : (vs ++ [ls]).length = vs.length + 1 := List.length_append
            refine ⟨by omega, by rw [hl]; rfl, a3, by rw [hl]; rfl, fun k hk => ?_⟩
            rw [hl] at hk
            by_cases z : k < vs.length
            · rw [List.getElem_append_left z]
              obtain ⟨y1, y2, y3, y4⟩ := hV.2.2.2.2 k z
              exact ⟨(updL_n (by omega)).trans y1, (updL_n (by omega)).trans y2, y3, y4⟩
            · have z : k = vs.length := by omega
              subst z
              rw [List.getElem_append_right (Nat.le_refl _)]
              simp only [Nat.sub_self, List.getElem_cons_zero]
              exact ⟨if_pos rfl, if_pos rfl, hoL.1, hoL.2⟩
          generalize hs1 : mI (mB s 21 (vp_updL (s.2.2.2 21) vs.length (Int64.ofNat (evB 27 ls)))) 22 (Int32.ofNat (vs.length + 1)) = s1 at *
          have hC2 : cf_175 N X t = ko_call 10 (cf_46 N X (jI (jB t 7 (vp_updL (kB t 7).2 vs.length (Int64.ofNat (evB 32 ls)))) 2 4 (Int32.ofNat (vs.length + 1)))) (fun g1 v1 => co_v v1 (some (g1, .inl none))) := by
            have nm1 : (-1 : Int32) = -Int32.ofNat 1 := rfl
            rw [hC1 0 (cs2 sh)]
            unfold cf_175_52 cf_175_55 cf_175_60 cf_175_64 cf_175_69 cf_175_73
            simp (disch := omega) only [ev_S, ev_C, ↓reduceIte, Nat.reduceEqDiff, Nat.reduceLeDiff, Nat.reduceAdd, Nat.reduceMul, Nat.reduceSub, reduceCtorEq, l32_0, l32_1, l32_2, l32_3, l32_4, l32_5, l32_6, l32_7, l32_8, l32_9, l32_10, l32_11, l32_12, l32_13, l32_14, l32_15, l32_16, l32_17, l32_18, l32_19, l32_20, l32_21, l32_22, l32_23, l32_24, l32_25, l32_26, l32_27, l32_28, l32_29, l32_33, l32_40, l32_41, l32_44, l32_45, l32_59, l32_61, l32_91, l32_93, l32_123, l32_125, nmO, nm1, hf3, a2, a3]
            rfl
          generalize ht1 : jI (jB t 7 (vp_updL (kB t 7).2 vs.length (Int64.ofNat (evB 32 ls)))) 2 4 (Int32.ofNat (vs.length + 1)) = t1 at *
          obtain ⟨t2, s2, d1, d2, d3, d4, d5⟩ := p_adv (N := N) (X := X) hN q1 (fun _ => by omega)
          refine Or.inl ⟨t2, s2, ls, ?_, ?_, hlt4, d3, V1.keep (d4.1 2 4 (by omega)) (d4.2.2.1 7 (fun z => z) (by decide)).2.1 (d5.1 22 (by omega)) (d5.2.2.2 21 (fun z => z)), g1.tr (d4.mono (fun k f z => by
            rcases z with z | ⟨z1, z2⟩
            · exact Or.inl z
            · exact Or.inr ⟨z1, by omega⟩) (fun _ z => z.elim)), ⟨fun q r => (d5.1 q (by omega)).trans (f1.1 q r), fun q r => (d5.2.1 q r).trans (f1.2.1 q r), fun q r => (d5.2.2.1 q r).trans (f1.2.2.1 q r), fun q r => (d5.2.2.2 q (fun z => z)).trans (f1.2.2.2 q r)⟩⟩
          · rw [hC2, d1]
            rfl
          · rw [hM2, d2]
            rfl
  · rw [if_neg k3] at hnm
    obtain ⟨t', s', c1, c2, c3, c4, c5⟩ := p_wrong (N := N) (X := X) h
    have c1 : cf_202 N X (Int32.ofNat 0) (Int32.ofNat 2) t = some (t', .inr ()) := c1
    refine Or.inr ⟨t', s', ?_, ?_, c3, c4, fX0 c5⟩
    · unfold cf_175 cf_175_0 cf_175_8 cf_175_16 cf_175_17
      simp (disch := omega) only [ev_S, ev_C, ↓reduceIte, Nat.reduceEqDiff, Nat.reduceLeDiff, Nat.reduceAdd, Nat.reduceMul, Nat.reduceSub, reduceCtorEq, l32_0, l32_1, l32_2, l32_3, l32_4, l32_5, l32_6, l32_7, l32_8, l32_9, l32_10, l32_11, l32_12, l32_13, l32_14, l32_15, l32_16, l32_17, l32_18, l32_19, l32_20, l32_21, l32_22, l32_23, l32_24, l32_25, l32_26, l32_27, l32_28, l32_29, l32_33, l32_40, l32_41, l32_44, l32_45, l32_59, l32_61, l32_91, l32_93, l32_123, l32_125, c_kindNow, e5, k3, c1]
      rfl
    · unfold mf_277_40 mf_277_44 mf_277_47 mf_277_51
      simp (disch := omega) only [ev_S, ev_P, ↓reduceIte, Nat.reduceEqDiff, Nat.reduceLeDiff, Nat.reduceAdd, Nat.reduceMul, Nat.reduceSub, reduceCtorEq, l32_0, l32_1, l32_2, l32_3, l32_4, l32_5, l32_6, l32_7, l32_8, l32_9, l32_10, l32_11, l32_12, l32_13, l32_14, l32_15, l32_16, l32_17, l32_18, l32_19, l32_20, l32_21, l32_22, l32_23, l32_24, l32_25, l32_26, l32_27, l32_28, l32_29, l32_33, l32_40, l32_41, l32_44, l32_45, l32_59, l32_61, l32_91, l32_93, l32_123, l32_125, hnm, c2]
end PAR
