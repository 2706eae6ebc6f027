/-! ===== PURE: calls ===== -/
section CLL
variable {N : Nat} {X : Nat → Option zz_C} {t t' : cS} {s s' s0 s1 s2 : mS} {b : Nat → Nat} {n p e i i0 op D D' : Nat} {code code1 code2 fl : List Ins} {vs : List (List Nat)} {cl : List Cn} {W W' : List Wt} {cu cu' : List Nat} {fs : Nat × Nat × Nat} {al : Int32} {rk : Nat → List Value → cS → kO} {Z : List (Nat × Nat)} {ah : Option (Nat × Nat)}
/-- which kind of bracket waits behind a word -/
def bgK (x1 : Int32) (q a : Nat) : Prop := (x1 = -Int32.ofNat 1 ∧ q = 6 ∧ a = 4294967284) ∨ (x1 = Int32.ofNat (a + 11) ∧ a < 28 ∧ q = 7) ∨ (x1 = Int32.ofNat (a + 11) ∧ (a = 28 ∨ a = 29) ∧ q = 8)
theorem p_beg {x1 : Int32} {q a : Nat} (hN : 170000 ≤ N) (h : PE b n p e i op D code code vs cl W cu fs t s) (hb : bgK x1 q a) (hWl : W.length ≤ 6 * op + 5) (hk : ∀ hi : i < (TL b n).length, (TL b n)[i].1 = 3) : ∃ hi : i < (TL b n).length, (∃ t1 t2 s3, cf_46 N X t = some (t1, .inl none) ∧ cf_201 N X (Int32.ofNat 40) t1 = some (t2, .inl none) ∧ op < 10 ∧ PE b n p e (i + 2) (op + 1) (D + 2) code code vs cl (W ++ [(q, a, 0, (TL b n)[i].2.2.2.1, Int64.ofNat (evB 27 (TL b n)[i].2.2.1), (TL b n)[i].2.2.2.1)]) cu fs t2 s3 ∧ mf_287 N x1 (Int32.ofNat (TL b n)[i].2.2.2.1) s = (if q = 8 then mf_287_95 N s3 else mf_287_151 N s3) ∧ FR p e t t2 s s3) ∨ (∃ t1 t2 s3, cf_46 N X t = some (t1, .inl none) ∧ cf_201 N X (Int32.ofNat 40) t1 = some (t2, .inr ()) ∧ mf_287 N x1 (Int32.ofNat (TL b n)[i].2.2.2.1) s = some (s3, some (.int (Int32.ofNat 0))) ∧ pF t2 s3 ∧ FX p e t t2 s s3) := by
  obtain ⟨hi, e5, e6, e7, hkk, ho, he, hlt, hll⟩ := h.1.now
  have hk := hk hi
  have hop := h.1.2.2.2.1
  have hv : s.2.1 7 = Int64.ofNat (evB 27 (TL b n)[i].2.2.1) := by
    obtain ⟨y1, y2, y3 | y3 | y3 | y3 | y3⟩ := hkk
    · omega
    · omega
    · omega
    · exact y3.2.2.1
    · omega
  have hx5 : x1 - Int32.ofNat 11 = Int32.ofNat a := by
    rcases hb with ⟨z1, z2, z3⟩ | ⟨z1, z2, z3⟩ | ⟨z1, z2, z3⟩
    · rw [z1, z3]
      decide
    · rw [z1, ev_sub (by omega), Nat.add_sub_cancel]
    · rw [z1, ev_sub (by omega), Nat.add_sub_cancel]
  refine ⟨hi, ?_⟩
  obtain ⟨t1, s1, a1, a2, a3, a4, a5⟩ := h.adv (N := N) (X := X) hN (fun _ => by omega)
  rcases a3.opn (N := N) (X := X) (c := 40) hN (by omega) with ⟨t2, s2, b1, b2, b3, b4, b5, b6⟩ | ⟨t2, s2, b1, b2, b3, b4, b5⟩
  · have h29 : s2.1 9 = Int32.ofNat 0 := b5.1.2.2.2.2.2.2.2.2.2
    have hq8 : q ≤ 8 ∧ 6 ≤ q := by rcases hb with ⟨z1, z2, z3⟩ | ⟨z1, z2, z3⟩ | ⟨z1, z2, z3⟩ <;> omega
    obtain ⟨s3, v0, y0, c1, c2, c3⟩ := r_waitN (N := N) (k := q) (a := a) (q := (TL b n)[i].2.2.2.1) b5.2.2.2.2.1 (by omega) hq8.1
    obtain ⟨d1, d2⟩ := b5.wt c2 c3
    obtain ⟨f1, f2⟩ := d1.2.2.2.2.1.nm (v := Int64.ofNat (evB 27 (TL b n)[i].2.2.1)) (x := (TL b n)[i].2.2.2.1)
    obtain ⟨g1, g2⟩ := d1.wt f1 f2
    obtain ⟨q0, q1, -⟩ := w_last c2
    refine Or.inl ⟨t1, t2, _, a1, b1, b4, g1, ?_, FR.tr ⟨a4, a5⟩ (b6.tr (d2.tr g2))⟩
    have hW8 : W.length < 80 := by omega
    unfold mf_287 mf_287_0 mf_287_15
    simp (disch := omega) only [ev_S, ev_P, ↓reduceIte, Nat.reduceEqDiff, Nat.reduceLeDiff, Nat.reduceAdd, Nat.reduceMul, Nat.reduceSub, reduceCtorEq, l32_0, l32_1, l32_2, l32_3, l32_4, l32_5, l32_6, l32_7, l32_8, l32_9, l32_10, l32_11, l32_12, l32_13, l32_14, l32_15, l32_16, l32_17, l32_18, l32_19, l32_20, l32_21, l32_22, l32_23, l32_24, l32_25, l32_26, l32_27, l32_28, l32_29, l32_33, l32_40, l32_41, l32_44, l32_45, l32_59, l32_61, l32_91, l32_93, l32_123, l32_125, a2, b2, hv, hx5]
    rcases hb with ⟨z1, z2, z3⟩ | ⟨z1, z2, z3⟩ | ⟨z1, z2, z3⟩
    · subst z1 z2
      have r1 : (Int32.ofNat 0 ≤ -Int32.ofNat 1) = False := by decide
      have r2 : (-Int32.ofNat 1 < Int32.ofNat 0) = True := by decide
      unfold mf_287_21 mf_287_30 mf_287_35 mf_287_54 mf_287_60
      simp (disch := omega) only [ev_S, ev_P, ↓reduceIte, Nat.reduceEqDiff, Nat.reduceLeDiff, Nat.reduceAdd, Nat.reduceMul, Nat.reduceSub, reduceCtorEq, l32_0, l32_1, l32_2, l32_3, l32_4, l32_5, l32_6, l32_7, l32_8, l32_9, l32_10, l32_11, l32_12, l32_13, l32_14, l32_15, l32_16, l32_17, l32_18, l32_19, l32_20, l32_21, l32_22, l32_23, l32_24, l32_25, l32_26, l32_27, l32_28, l32_29, l32_33, l32_40, l32_41, l32_44, l32_45, l32_59, l32_61, l32_91, l32_93, l32_123, l32_125, h29, r1, r2, c1, q0]
    · subst z1 z3
      unfold mf_287_21 mf_287_30 mf_287_40 mf_287_52 mf_287_54 mf_287_60 mf_287_88
      simp (disch := omega) only [ev_S, ev_P, ↓reduceIte, Nat.reduceEqDiff, Nat.reduceLeDiff, Nat.reduceAdd, Nat.reduceMul, Nat.reduceSub, reduceCtorEq, l32_0, l32_1, l32_2, l32_3, l32_4, l32_5, l32_6, l32_7, l32_8, l32_9, l32_10, l32_11, l32_12, l32_13, l32_14, l32_15, l32_16, l32_17, l32_18, l32_19, l32_20, l32_21, l32_22, l32_23, l32_24, l32_25, l32_26, l32_27, l32_28, l32_29, l32_33, l32_40, l32_41, l32_44, l32_45, l32_59, l32_61, l32_91, l32_93, l32_123, l32_125, h29, c1, q0, z2]
    · subst z1 z3
      have z4 : 28 ≤ a ∧ a < 30 := by omega
      unfold mf_287_21 mf_287_30 mf_287_40 mf_287_47 mf_287_54 mf_287_60 mf_287_88
      simp (disch := omega) only [ev_S, ev_P, ↓reduceIte, Nat.reduceEqDiff, Nat.reduceLeDiff, Nat.reduceAdd, Nat.reduceMul, Nat.reduceSub, reduceCtorEq, l32_0, l32_1, l32_2, l32_3, l32_4, l32_5, l32_6, l32_7, l32_8, l32_9, l32_10, l32_11, l32_12, l32_13, l32_14, l32_15, l32_16, l32_17, l32_18, l32_19, l32_20, l32_21, l32_22, l32_23, l32_24, l32_25, l32_26, l32_27, l32_28, l32_29, l32_33, l32_40, l32_41, l32_44, l32_45, l32_59, l32_61, l32_91, l32_93, l32_123, l32_125, h29, c1, q0]
  · obtain ⟨x, y, v1, v2, v3, v4, v5, v6, v7⟩ := b3
    refine Or.inr ⟨t1, t2, s2, a1, b1, ?_, ⟨x, y, v1, v2, v3, v4, v5, v6, v7⟩, FR.pre ⟨a4, a5⟩ b4⟩
    unfold mf_287 mf_287_0 mf_287_15
    simp (disch := omega) only [ev_S, ev_P, ↓reduceIte, Nat.reduceEqDiff, Nat.reduceLeDiff, Nat.reduceAdd, Nat.reduceMul, Nat.reduceSub, reduceCtorEq, l32_0, l32_1, l32_2, l32_3, l32_4, l32_5, l32_6, l32_7, l32_8, l32_9, l32_10, l32_11, l32_12, l32_13, l32_14, l32_15, l32_16, l32_17, l32_18, l32_19, l32_20, l32_21, l32_22, l32_23, l32_24, l32_25, l32_26, l32_27, l32_28, l32_29, l32_33, l32_40, l32_41, l32_44, l32_45, l32_59, l32_61, l32_91, l32_93, l32_123, l32_125, a2, b2, hv, hx5]
    unfold mf_287_21 mf_287_28
    simp (disch := omega) only [ev_S, ev_P, ↓reduceIte, Nat.reduceEqDiff, Nat.reduceLeDiff, Nat.reduceAdd, Nat.reduceMul, Nat.reduceSub, reduceCtorEq, l32_0, l32_1, l32_2, l32_3, l32_4, l32_5, l32_6, l32_7, l32_8, l32_9, l32_10, l32_11, l32_12, l32_13, l32_14, l32_15, l32_16, l32_17, l32_18, l32_19, l32_20, l32_21, l32_22, l32_23, l32_24, l32_25, l32_26, l32_27, l32_28, l32_29, l32_33, l32_40, l32_41, l32_44, l32_45, l32_59, l32_61, l32_91, l32_93, l32_123, l32_125, v6]
theorem posC_e {l : List Ins} : posC (code ++ l) code.length = cx code := (posC_app (Nat.le_refl _)).trans posC_len
theorem posR_len : posR code code.length = rl code := by
  unfold posR rl
  rw [List.take_length]
theorem posR_e {l : List Ins} : posR (code ++ l) code.length = rl code := (posR_app (Nat.le_refl _)).trans posR_len
/-- a function's call -/
theorem p_call {F : Nat} (hN : 170000 ≤ N) (hSX : SX N X b n p e F) (h : PE b n p e i op D code code vs cl W cu fs t s) (hwn : rWn s) (hF : 10 * (10 - op) ≤ F) (hWl : W.length ≤ 6 * op + 5) (hk : ∀ hi : i < (TL b n).length, ck (TL b n)[i] = 3 ∧ ∀ hj : i + 1 < (TL b n).length, (TL b n)[i + 1].1 = 40) : RS N b n p e i op (D + 1) code W cu fs al t s (cf_191 N X (cf_S0 N X (F + 1)) t) := by
  obtain ⟨hi, e5, e6, e7, hkk, ho, he, hlt, hll⟩ := h.1.now
  obtain ⟨hk, hk2⟩ := hk hi
  have h9 : s.1 9 = Int32.ofNat 0 := h.1.2.2.2.2.2.2.2.2.2
  have hop := h.1.2.2.2.1
  have hpl := TL_at hi
  have hn16 : n ≤ 1600 := h.1.2.2.2.2.1
  obtain ⟨k1, k2⟩ := ck3.mp hk
  obtain ⟨hj, hj2⟩ := TL_next hi (by omega)
  have hk2 := hk2 hj
  have bh := r_behind hN h.1.2.2.2.2.2.1 hkk he
  rw [← hj2, if_pos hk2] at bh
  have hst := st_name (u := 1) hN h.1.2.2.2.2.2.2.2.1 hkk k1 k2 bh (by omega)
  rw [if_pos rfl] at hst
  have hoL : okL (TL b n)[i].2.2.1 ∧ (TL b n)[i].2.2.1.length ≤ 8 := by
    rcases ho with z | z | z | z | z
    · omega
    · omega
    · omega
    · exact z.2
    · omega
  have hc3 : kL t 3 7 = Int64.ofNat (evB 32 (TL b n)[i].2.2.1) := by
    rw [e7]
    unfold c3
    rw [if_pos k1, k2]
  have hC : ∀ t1, cf_46 N X t = some (t1, .inl none) → cf_191 N X (cf_S0 N X (F + 1)) t = ko_call 5 (cf_194 N X (cf_S0 N X F) (Int32.ofNat 40) (Int32.ofNat 41) (Int32.ofNat 0) (Int32.ofNat 2000) t1) (fun g1 v1 => co_i v1 (fun y => cf_191_35 N X (cf_S0 N X (F + 1)) (Int64.ofNat (evB 32 (TL b n)[i].2.2.1)) (Int32.ofNat (TL b n)[i].2.2.2.1) y g1)) := fun t1 a1 => by
    unfold cf_191 cf_191_0 cf_191_7 cf_191_15
    simp (disch := omega) only [ev_S, ev_C, ↓reduceIte, Nat.reduceEqDiff, Nat.reduceLeDiff, Nat.reduceAdd, Nat.reduceMul, Nat.reduceSub, reduceCtorEq, l32_0, l32_1, l32_2, l32_3, l32_4, l32_5, l32_6, l32_7, l32_8, l32_9, l32_10, l32_11, l32_12, l32_13, l32_14, l32_15, l32_16, l32_17, l32_18, l32_19, l32_20, l32_21, l32_22, l32_23, l32_24, l32_25, l32_26, l32_27, l32_28, l32_29, l32_33, l32_40, l32_41, l32_44, l32_45, l32_59, l32_61, l32_91, l32_93, l32_123, l32_125, c_valueNow, c_placeNow, hc3, e6, a1]
    rfl
  obtain ⟨hi0, (⟨t1, t2, s3, a1, a2, a3, a4, a5, a6⟩ | ⟨t1, t2, s3, a1, a2, a3, a4, a5⟩)⟩ := p_beg (N := N) (X := X) hN h (Or.inl ⟨rfl, rfl, rfl⟩) hWl (fun _ => k1)
  · rw [hC t1 a1]
    rw [if_neg (by decide)] at a5
    have w3 : rWn s3 := hwn.kp a6.2
    obtain ⟨hi2, _, _, _, hkk2, _, _, _, _⟩ := a4.1.now
    have g1 := r_isSign (N := N) (c := 41) hkk2 (by decide) (by decide)
    have hC2 : cf_194 N X (cf_S0 N X F) (Int32.ofNat 40) (Int32.ofNat 41) (Int32.ofNat 0) (Int32.ofNat 2000) t1 = cf_194_5 N X (cf_S0 N X F) (Int32.ofNat 41) (Int32.ofNat 0) (Int32.ofNat 2000) t2 := by
      unfold cf_194 cf_194_0
      simp (disch := omega) only [ev_S, ev_C, ↓reduceIte, Nat.reduceEqDiff, Nat.reduceLeDiff, Nat.reduceAdd, Nat.reduceMul, Nat.reduceSub, reduceCtorEq, l32_0, l32_1, l32_2, l32_3, l32_4, l32_5, l32_6, l32_7, l32_8, l32_9, l32_10, l32_11, l32_12, l32_13, l32_14, l32_15, l32_16, l32_17, l32_18, l32_19, l32_20, l32_21, l32_22, l32_23, l32_24, l32_25, l32_26, l32_27, l32_28, l32_29, l32_33, l32_40, l32_41, l32_44, l32_45, l32_59, l32_61, l32_91, l32_93, l32_123, l32_125, a2]
    rw [hC2]
    have hQ : okQ 6 4294967284 0 2000 := ⟨Or.inr (Or.inl rfl), fun z => absurd z (by decide), fun _ => ⟨rfl, rfl⟩⟩
    rcases p_list2 (al := al) (s0 := s) (i0 := i) hN hSX hQ (by omega) (by omega) (by omega) a4 w3 (by omega) (by omega) (fun z s4 he2 f => by
      rw [LL_0 h9, hst]
      have z := z hi2
      rw [if_neg (by decide)] at z
      rw [if_pos z] at g1
      unfold mf_286_180 mf_286_186
      rw [a5]
      unfold mf_287_151 mf_287_157 mf_287_160 mf_287_164 mf_287_167 mf_287_172
      simp (disch := omega) only [ev_S, ev_P, ↓reduceIte, Nat.reduceEqDiff, Nat.reduceLeDiff, Nat.reduceAdd, Nat.reduceMul, Nat.reduceSub, reduceCtorEq, l32_0, l32_1, l32_2, l32_3, l32_4, l32_5, l32_6, l32_7, l32_8, l32_9, l32_10, l32_11, l32_12, l32_13, l32_14, l32_15, l32_16, l32_17, l32_18, l32_19, l32_20, l32_21, l32_22, l32_23, l32_24, l32_25, l32_26, l32_27, l32_28, l32_29, l32_33, l32_40, l32_41, l32_44, l32_45, l32_59, l32_61, l32_91, l32_93, l32_123, l32_125, g1, he2]) (fun z f => by
      rw [LL_0 h9, hst]
      have z := z hi2
      rw [if_neg (by decide)] at z
      rw [if_neg z] at g1
      unfold mf_286_180 mf_286_186
      rw [a5]
      unfold mf_287_151 mf_287_157 mf_287_171 mf_287_172
      simp (disch := omega) only [ev_S, ev_P, ↓reduceIte, Nat.reduceEqDiff, Nat.reduceLeDiff, Nat.reduceAdd, Nat.reduceMul, Nat.reduceSub, reduceCtorEq, l32_0, l32_1, l32_2, l32_3, l32_4, l32_5, l32_6, l32_7, l32_8, l32_9, l32_10, l32_11, l32_12, l32_13, l32_14, l32_15, l32_16, l32_17, l32_18, l32_19, l32_20, l32_21, l32_22, l32_23, l32_24, l32_25, l32_26, l32_27, l32_28, l32_29, l32_33, l32_40, l32_41, l32_44, l32_45, l32_59, l32_61, l32_91, l32_93, l32_123, l32_125, g1]) with ⟨t3, s4, c3, i3, seg, vs3, cl3, k3, y1, y2, y3, y4, y5, y6, y7, y8, y9⟩ | ⟨t3, s4, k3, y1, y2, y3, y4, y5⟩
    · rw [if_neg (by decide)] at y1
      rw [y1]
      have hP : kP t3 2 1 = some p := y4.2.1.1
      have hp : (p = 12 ∨ p = 21) = True := eq_true y4.2.1.2.1
      have y4c := y4.2.2.2.2.2.2.2.2.2.2.2.1
      obtain ⟨t5, s5, d1, d2, d3, d4, d5⟩ := (y4.cps (cp := cl3 ++ [((code ++ seg).length, 0, (TL b n)[i].2.2.1, (TL b n)[i].2.2.2.1, c3)]) (fun x hx => List.mem_append_left _ hx)).bo (N := N) (X := X) (js := fs.2.1) (c := (9, unk, c3, 0, Int32.ofNat (TL b n)[i].2.2.2.1, 0, 0)) (cu' := 0 :: cu) (D' := D + 2) (k := Int32.ofNat 28) (a := Int32.ofNat 0) (v := Int32.ofNat (TL b n)[i].2.2.2.1) (x1 := Int32.ofNat 9) (x2 := Int32.ofNat 0) (x3 := Int32.ofNat c3) (x4 := Int32.ofNat (TL b n)[i].2.2.2.1) (fun _ => ⟨_, List.mem_append_right _ (List.mem_singleton.mpr rfl), rfl⟩) (Or.inl ⟨rfl, by unfold noJ; simp⟩) rfl rfl (Or.inl rfl) (by show (pop0 c3 (List.replicate c3 0 ++ cu)).map (0 :: ·) = _; rw [pop0_app]; rfl) (by unfold okI; simp; exact y7) (by omega) (Or.inr (by show D + 2 + (1 + (c3 - 1)) ≤ _; omega))
      have ex : ((code ++ seg).length, 0, (TL b n)[i].2.2.1, (TL b n)[i].2.2.2.1, c3).1 < ((code ++ seg) ++ [(9, unk, c3, 0, Int32.ofNat (TL b n)[i].2.2.2.1, 0, 0)] : List Ins).length := by
        rw [List.length_append (bs := [_])]
        show (code ++ seg).length < (code ++ seg).length + 1
        omega
      obtain ⟨t6, s6, f1, f2, f3, f4⟩ := d3.nt (N := N) (X := X) (x := ((code ++ seg).length, 0, (TL b n)[i].2.2.1, (TL b n)[i].2.2.2.1, c3)) (D' := D + 1) ⟨ex, hoL.1, hoL.2, by show (TL b n)[i].2.2.2.1 ≤ 1600; omega, by show c3 ≤ 2000; omega, by rw [getD_last], Or.inl ⟨by rw [getD_last], rfl⟩⟩ (by omega) (by rw [rl_app (code := code ++ seg), rl_one]; show cl3.length + 1 ≤ rl (code ++ seg) + 1; omega)
      have f1 : cf_198 N X (Int32.ofNat (posC ((code ++ seg) ++ [(9, unk, c3, 0, Int32.ofNat (TL b n)[i].2.2.2.1, 0, 0)]) (code ++ seg).length + 0)) (Int64.ofNat (evB 32 (TL b n)[i].2.2.1)) (Int32.ofNat (TL b n)[i].2.2.2.1) (Int32.ofNat c3) t5 = some (t6, .inl none) := f1
      have f2 : mf_273 N (Int32.ofNat (ob0 e + posR ((code ++ seg) ++ [(9, unk, c3, 0, Int32.ofNat (TL b n)[i].2.2.2.1, 0, 0)]) (code ++ seg).length + 0)) (Int64.ofNat (evB 27 (TL b n)[i].2.2.1)) (Int32.ofNat c3) (Int32.ofNat (TL b n)[i].2.2.2.1) s5 = some (s6, none) := f2
      rw [posC_e, Nat.add_zero] at f1
      rw [posR_e, Nat.add_zero] at f2
      have hW8 : W.length < 80 := by omega
      obtain ⟨m1, m2, m3, m4, m5⟩ := y5
      have m6 := m5 (by show 6 ≤ 6; omega)
      have n42 : s5.2.2.2 42 W.length = Int64.ofNat (evB 27 (TL b n)[i].2.2.1) := by rw [d5.2.2.2.1 42]; exact m6.1
      have n43 : s5.2.2.1 43 W.length = Int32.ofNat (TL b n)[i].2.2.2.1 := by rw [d5.2.2.1 43 (by decide)]; exact m6.2
      have h49 : s4.1 9 = Int32.ofNat 0 := y4.1.2.2.2.2.2.2.2.2.2
      have hE : E2 N 6 W.length (Int32.ofNat c3) s4 = some (s6, some (.int (Int32.ofNat 1))) := by
        show mf_290_114 N (Int32.ofNat W.length) (Int32.ofNat c3) s4 = _
        unfold mf_290_114 mf_290_123 mf_290_157 mf_290_168 mf_290_183 mf_290_199 mf_290_273
        simp (disch := omega) only [ev_S, ev_P, ↓reduceIte, Nat.reduceEqDiff, Nat.reduceLeDiff, Nat.reduceAdd, Nat.reduceMul, Nat.reduceSub, reduceCtorEq, l32_0, l32_1, l32_2, l32_3, l32_4, l32_5, l32_6, l32_7, l32_8, l32_9, l32_10, l32_11, l32_12, l32_13, l32_14, l32_15, l32_16, l32_17, l32_18, l32_19, l32_20, l32_21, l32_22, l32_23, l32_24, l32_25, l32_26, l32_27, l32_28, l32_29, l32_33, l32_40, l32_41, l32_44, l32_45, l32_59, l32_61, l32_91, l32_93, l32_123, l32_125, h49, m1, m4, d2, n42, n43, f2]
      refine Or.inl ⟨t6, s6, k3, i3, seg ++ [_], vs3, cl3 ++ [_], ?_, by omega, by omega, fun f => y9 s6 hE f, by rw [← List.append_assoc]; exact f3, a6.tr (y8.tr (d4.tr f4))⟩
      show cf_191_35 N X (cf_S0 N X (F + 1)) (Int64.ofNat (evB 32 (TL b n)[i].2.2.1)) (Int32.ofNat (TL b n)[i].2.2.2.1) (Int32.ofNat c3) t3 = _
      unfold cf_191_35 cf_191_49 cf_191_56
      simp (disch := omega) only [ev_S, ev_C, ↓reduceIte, Nat.reduceEqDiff, Nat.reduceLeDiff, Nat.reduceAdd, Nat.reduceMul, Nat.reduceSub, reduceCtorEq, l32_0, l32_1, l32_2, l32_3, l32_4, l32_5, l32_6, l32_7, l32_8, l32_9, l32_10, l32_11, l32_12, l32_13, l32_14, l32_15, l32_16, l32_17, l32_18, l32_19, l32_20, l32_21, l32_22, l32_23, l32_24, l32_25, l32_26, l32_27, l32_28, l32_29, l32_33, l32_40, l32_41, l32_44, l32_45, l32_59, l32_61, l32_91, l32_93, l32_123, l32_125, hP, hp, d1, f1]
    · rw [if_neg (by decide)] at y1
      exact Or.inr ⟨t3, s4, k3, by rw [y1]; rfl, y2, fun f => y5 f, y3, a6.pre y4⟩
  · rw [hC t1 a1]
    obtain ⟨x, y, v1, v2, v3, v4, v5, v6, v7⟩ := a4
    refine Or.inr ⟨t2, s3, 2, ?_, by omega, fun f => ?_, ⟨x, y, v1, v2, v3, v4, v5, v6, v7⟩, a5⟩
    · unfold cf_194 cf_194_0
      simp (disch := omega) only [ev_S, ev_C, ↓reduceIte, Nat.reduceEqDiff, Nat.reduceLeDiff, Nat.reduceAdd, Nat.reduceMul, Nat.reduceSub, reduceCtorEq, l32_0, l32_1, l32_2, l32_3, l32_4, l32_5, l32_6, l32_7, l32_8, l32_9, l32_10, l32_11, l32_12, l32_13, l32_14, l32_15, l32_16, l32_17, l32_18, l32_19, l32_20, l32_21, l32_22, l32_23, l32_24, l32_25, l32_26, l32_27, l32_28, l32_29, l32_33, l32_40, l32_41, l32_44, l32_45, l32_59, l32_61, l32_91, l32_93, l32_123, l32_125, a2]
      rfl
    · rw [show f + 2 = (f + 1) + 1 by omega, LL_0 h9, hst]
      unfold mf_286_180 mf_286_186
      simp (disch := omega) only [ev_S, ev_P, ↓reduceIte, Nat.reduceEqDiff, Nat.reduceLeDiff, Nat.reduceAdd, Nat.reduceMul, Nat.reduceSub, reduceCtorEq, l32_0, l32_1, l32_2, l32_3, l32_4, l32_5, l32_6, l32_7, l32_8, l32_9, l32_10, l32_11, l32_12, l32_13, l32_14, l32_15, l32_16, l32_17, l32_18, l32_19, l32_20, l32_21, l32_22, l32_23, l32_24, l32_25, l32_26, l32_27, l32_28, l32_29, l32_33, l32_40, l32_41, l32_44, l32_45, l32_59, l32_61, l32_91, l32_93, l32_123, l32_125, a3]
      exact LL_f (N := N) v6 ⟨v1, v2⟩
end CLL
