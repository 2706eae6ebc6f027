/-! ===== PURE: run (26): the signs between two values, the reference: the end ===== -/
section TWE
variable {N sg : Nat} {s s' : mS} {n f f' m i : Nat} {x y : Nod}
theorem any_le {n i : Nat} {p : Nat → Bool} (hi : i ≤ n) (h : (List.range n).any p = false) : ∀ j, j < i → p j = false := fun j hj => by
  cases hp : p j with
  | false => rfl
  | true =>
    rw [any_t (n := n) (by omega) hp] at h
    cases h
theorem nR_wf {r : List Int32} (h : r.length ≤ 64) : wfN (nR r) := wf_vw _ h
theorem sum2 (g : Nat → Nat) : ∀ i, ((List.range i).map fun j => 2 + g j).sum = 2 * i + ((List.range i).map g).sum
  | 0 => rfl
  | i + 1 => by
    rw [range_map_s, range_map_s, List.sum_append, List.sum_append, sum2 g i]
    show _ + (2 + g i + 0) = _ + (_ + (g i + 0))
    omega
theorem r_two (hN : 170000 ≤ N) (hs : isS sg) (H : rA s n f m [x, y]) : ∃ s', mf_321 N (Int32.ofNat sg) s = some (s', none) ∧ rE s s' n f m (ansT sg x y) := by
  have H' := H
  obtain ⟨⟨h51, hv⟩, H2, H3, H4, H5, H6, H7, H8, H9, H10⟩ := H'
  have h51 : s.1 51 = Int32.ofNat (n + 2) := h51
  have hx : rvl (s.2.2.1 47) f (s.2.2.1 49 n) (s.2.2.1 50 n) x := hv 0 (by show 0 < 2; omega)
  have hy : rvl (s.2.2.1 47) f (s.2.2.1 49 (n + 1)) (s.2.2.1 50 (n + 1)) y := hv 1 (by show 1 < 2; omega)
  have kx := r_kindAt (N := N) hx (by omega) (by omega)
  have ky := r_kindAt (N := N) hy (by omega) (by omega)
  rw [kd_kn] at kx ky
  have e21 : n + 2 - 1 = n + 1 := rfl
  have lx := kn_le (x := x)
  have ly := kn_le (x := y)
  have wx : wfN x := H9 x List.mem_cons_self
  have wy : wfN y := H9 y (List.mem_cons_of_mem _ List.mem_cons_self)
  have hsg : sg ≤ 259 := by
    rcases hs with rfl | rfl | rfl | rfl | rfl | rfl | rfl | rfl | rfl | rfl | rfl | rfl | rfl <;> omega
  have G0 : rG s (mI s 51 (Int32.ofNat n)) n f f [] := rG.nil H2
  obtain ⟨s1, hs1⟩ : ∃ s1, s1 = mI s 51 (Int32.ofNat n) := ⟨_, rfl⟩
  rw [← hs1] at G0
  have T := fun k => rG.trb (N := N) H G0 (by omega) k
  have hs47 : s1.2.2.1 = s.2.2.1 := by rw [hs1]; rfl
  generalize hxk : s.2.2.1 49 n = xk at *
  generalize hxv : s.2.2.1 50 n = xv at *
  generalize hyk : s.2.2.1 49 (n + 1) = yk at *
  generalize hyv : s.2.2.1 50 (n + 1) = yv at *
  have hx1 : rvl (s1.2.2.1 47) f xk xv x := by rw [hs47]; exact hx
  have hy1 : rvl (s1.2.2.1 47) f yk yv y := by rw [hs47]; exact hy
  have E1 : mf_321 N (Int32.ofNat sg) s = mf_321_107 N (Int32.ofNat sg) xk xv yk yv (Int32.ofNat (kn x)) (Int32.ofNat (kn y)) (Int32.ofNat n) (bI (dv sg)) s1 := by
    rw [hs1]
    by_cases c : sg = 47
    · rw [c]
      show _ = mf_321_107 N (Int32.ofNat 47) xk xv yk yv (Int32.ofNat (kn x)) (Int32.ofNat (kn y)) (Int32.ofNat n) (Int32.ofNat 1) (mI s 51 (Int32.ofNat n))
      unfold mf_321 mf_321_0 mf_321_60 mf_321_72 mf_321_102
      simp (disch := omega) only [ev_S, ev_P, ↓reduceIte, Nat.reduceEqDiff, Nat.reduceLeDiff, Nat.reduceAdd, Nat.reduceMul, Nat.reduceSub, reduceCtorEq, l32_0, l32_1, l32_2, l32_3, l32_4, l32_5, l32_6, l32_7, l32_8, l32_9, l32_10, l32_11, l32_12, l32_13, l32_14, l32_15, l32_16, l32_17, l32_18, l32_19, l32_20, l32_21, l32_22, l32_23, l32_24, l32_25, l32_26, l32_27, l32_28, l32_29, l32_33, l32_40, l32_41, l32_44, l32_45, l32_59, l32_61, l32_91, l32_93, l32_123, l32_125, h51, e21, kx, ky, hxk, hxv, hyk, hyv, l32_47]
    · by_cases d : sg = 37
      · rw [d]
        show _ = mf_321_107 N (Int32.ofNat 37) xk xv yk yv (Int32.ofNat (kn x)) (Int32.ofNat (kn y)) (Int32.ofNat n) (Int32.ofNat 1) (mI s 51 (Int32.ofNat n))
        unfold mf_321 mf_321_0 mf_321_60 mf_321_72 mf_321_96 mf_321_102
        simp (disch := omega) only [ev_S, ev_P, ↓reduceIte, Nat.reduceEqDiff, Nat.reduceLeDiff, Nat.reduceAdd, Nat.reduceMul, Nat.reduceSub, reduceCtorEq, l32_0, l32_1, l32_2, l32_3, l32_4, l32_5, l32_6, l32_7, l32_8, l32_9, l32_10, l32_11, l32_12, l32_13, l32_14, l32_15, l32_16, l32_17, l32_18, l32_19, l32_20, l32_21, l32_22, l32_23, l32_24, l32_25, l32_26, l32_27, l32_28, l32_29, l32_33, l32_40, l32_41, l32_44, l32_45, l32_59, l32_61, l32_91, l32_93, l32_123, l32_125, h51, e21, kx, ky, hxk, hxv, hyk, hyv, l32_47, l32_37]
      · have e : dv sg = false := by
          show ((sg == 47) || (sg == 37)) = false
          rw [show (sg == 47) = decide (sg = 47) from rfl, show (sg == 37) = decide (sg = 37) from rfl, decide_eq_false c, decide_eq_false d]
          rfl
        rw [e]
        show _ = mf_321_107 N (Int32.ofNat sg) xk xv yk yv (Int32.ofNat (kn x)) (Int32.ofNat (kn y)) (Int32.ofNat n) (Int32.ofNat 0) (mI s 51 (Int32.ofNat n))
        unfold mf_321 mf_321_0 mf_321_60 mf_321_72 mf_321_96 mf_321_106
        simp (disch := omega) only [ev_S, ev_P, ↓reduceIte, Nat.reduceEqDiff, Nat.reduceLeDiff, Nat.reduceAdd, Nat.reduceMul, Nat.reduceSub, reduceCtorEq, l32_0, l32_1, l32_2, l32_3, l32_4, l32_5, l32_6, l32_7, l32_8, l32_9, l32_10, l32_11, l32_12, l32_13, l32_14, l32_15, l32_16, l32_17, l32_18, l32_19, l32_20, l32_21, l32_22, l32_23, l32_24, l32_25, l32_26, l32_27, l32_28, l32_29, l32_33, l32_40, l32_41, l32_44, l32_45, l32_59, l32_61, l32_91, l32_93, l32_123, l32_125, h51, e21, kx, ky, hxk, hxv, hyk, hyv, l32_47, l32_37, c, d]
  rw [E1]
  unfold ansT
  by_cases c3 : kn x = 3 ∨ kn y = 3
  · rw [if_pos c3]
    obtain ⟨b1, b2⟩ := T 3
    refine ⟨_, ?_, b2⟩
    generalize kn x = kx' at *
    generalize kn y = ky' at *
    by_cases c : kx' = 3
    · unfold mf_321_107 mf_321_121 mf_321_130
      simp (disch := omega) only [ev_S, ev_P, ↓reduceIte, Nat.reduceEqDiff, Nat.reduceLeDiff, Nat.reduceAdd, Nat.reduceMul, Nat.reduceSub, reduceCtorEq, l32_0, l32_1, l32_2, l32_3, l32_4, l32_5, l32_6, l32_7, l32_8, l32_9, l32_10, l32_11, l32_12, l32_13, l32_14, l32_15, l32_16, l32_17, l32_18, l32_19, l32_20, l32_21, l32_22, l32_23, l32_24, l32_25, l32_26, l32_27, l32_28, l32_29, l32_33, l32_40, l32_41, l32_44, l32_45, l32_59, l32_61, l32_91, l32_93, l32_123, l32_125, c, b1]
    · have d : ky' = 3 := by omega
      unfold mf_321_107 mf_321_115 mf_321_121 mf_321_130
      simp (disch := omega) only [ev_S, ev_P, ↓reduceIte, Nat.reduceEqDiff, Nat.reduceLeDiff, Nat.reduceAdd, Nat.reduceMul, Nat.reduceSub, reduceCtorEq, l32_0, l32_1, l32_2, l32_3, l32_4, l32_5, l32_6, l32_7, l32_8, l32_9, l32_10, l32_11, l32_12, l32_13, l32_14, l32_15, l32_16, l32_17, l32_18, l32_19, l32_20, l32_21, l32_22, l32_23, l32_24, l32_25, l32_26, l32_27, l32_28, l32_29, l32_33, l32_40, l32_41, l32_44, l32_45, l32_59, l32_61, l32_91, l32_93, l32_123, l32_125, c, d, b1]
  · rw [if_neg c3]
    have h3 : kn x ≤ 2 := by omega
    have h3' : kn y ≤ 2 := by omega
    by_cases c0 : kn x = 0 ∧ kn y = 0
    · rw [if_pos c0]
      have exv : xv = ivN x := by
        rcases hx with ⟨-, q⟩ | ⟨-, q, -⟩
        · rw [kn0 c0.1] at q
          exact (Option.some.inj q).symm
        · rw [kn0 c0.1] at q
          cases q
      have eyv : yv = ivN y := by
        rcases hy with ⟨-, q⟩ | ⟨-, q, -⟩
        · rw [kn0 c0.2] at q
          exact (Option.some.inj q).symm
        · rw [kn0 c0.2] at q
          cases q
      have E2 : mf_321_107 N (Int32.ofNat sg) xk xv yk yv (Int32.ofNat (kn x)) (Int32.ofNat (kn y)) (Int32.ofNat n) (bI (dv sg)) s1 = mf_321_141 N (Int32.ofNat sg) (ivN x) (ivN y) (bI (dv sg)) s1 := by
        rw [c0.1, c0.2, exv, eyv]
        unfold mf_321_107 mf_321_115 mf_321_131 mf_321_136
        simp (disch := omega) only [ev_S, ev_P, ↓reduceIte, Nat.reduceEqDiff, Nat.reduceLeDiff, Nat.reduceAdd, Nat.reduceMul, Nat.reduceSub, reduceCtorEq, l32_0, l32_1, l32_2, l32_3, l32_4, l32_5, l32_6, l32_7, l32_8, l32_9, l32_10, l32_11, l32_12, l32_13, l32_14, l32_15, l32_16, l32_17, l32_18, l32_19, l32_20, l32_21, l32_22, l32_23, l32_24, l32_25, l32_26, l32_27, l32_28, l32_29, l32_33, l32_40, l32_41, l32_44, l32_45, l32_59, l32_61, l32_91, l32_93, l32_123, l32_125]
      rw [E2]
      by_cases hbad : (dv sg && (ivN y == 0)) = true
      · rw [if_pos hbad]
        rw [Bool.and_eq_true] at hbad
        have hq0 : ivN y = 0 := beq_iff_eq.mp hbad.2
        obtain ⟨b1, b2⟩ := T 6
        refine ⟨_, ?_, b2⟩
        rw [hq0, hbad.1]
        simp only [bI]
        unfold mf_321_141 mf_321_146 mf_321_151 mf_321_161 mf_321_176
        simp (disch := omega) only [ev_S, ev_P, ↓reduceIte, Nat.reduceEqDiff, Nat.reduceLeDiff, Nat.reduceAdd, Nat.reduceMul, Nat.reduceSub, reduceCtorEq, l32_0, l32_1, l32_2, l32_3, l32_4, l32_5, l32_6, l32_7, l32_8, l32_9, l32_10, l32_11, l32_12, l32_13, l32_14, l32_15, l32_16, l32_17, l32_18, l32_19, l32_20, l32_21, l32_22, l32_23, l32_24, l32_25, l32_26, l32_27, l32_28, l32_29, l32_33, l32_40, l32_41, l32_44, l32_45, l32_59, l32_61, l32_91, l32_93, l32_123, l32_125, b1]
      · rw [if_neg hbad]
        have hnd : ¬ (dv sg = true ∧ ivN y = 0) := fun z => hbad (by rw [z.1, z.2]; rfl)
        have ra := r_act (N := N) (s := s1) (sg := sg) hs (a := ivN x) (b := ivN y) hnd
        obtain ⟨s2, p1, p2⟩ := rG.pushZ (N := N) G0 (by show n + 0 < 9000; omega) (ac sg (ivN x) (ivN y))
        refine ⟨s2, ?_, rG.int H p2 rfl⟩
        have E3 : mf_321_164 N (Int32.ofNat sg) (ivN x) (ivN y) s1 = some (s2, none) := by
          unfold mf_321_164 mf_321_173 mf_321_176
          simp (disch := omega) only [ev_S, ev_P, ↓reduceIte, Nat.reduceEqDiff, Nat.reduceLeDiff, Nat.reduceAdd, Nat.reduceMul, Nat.reduceSub, reduceCtorEq, l32_0, l32_1, l32_2, l32_3, l32_4, l32_5, l32_6, l32_7, l32_8, l32_9, l32_10, l32_11, l32_12, l32_13, l32_14, l32_15, l32_16, l32_17, l32_18, l32_19, l32_20, l32_21, l32_22, l32_23, l32_24, l32_25, l32_26, l32_27, l32_28, l32_29, l32_33, l32_40, l32_41, l32_44, l32_45, l32_59, l32_61, l32_91, l32_93, l32_123, l32_125, ra, p1]
        unfold mf_321_141
        cases hd : dv sg with
        | false =>
          rw [if_pos (show bI false = 0 from rfl)]
          exact E3
        | true =>
          have hb : ¬ ivN y = 0 := fun z => hnd ⟨hd, z⟩
          unfold mf_321_146
          rw [if_neg (show ¬ bI true = 0 by decide), if_pos hb]
          exact E3
    · rw [if_neg c0]
      have sxz : ¬ kn x = 0 → mf_77 N xv s1 = some (s1, some (.int (Int32.ofNat (szN x)))) := fun c => by
        rcases rvl.kz hx1 with ⟨-, z⟩ | ⟨-, -, a, k3, k4⟩
        · exact absurd z c
        · rw [k3]
          exact r_size (N := N) (s := s1) (LayN_iff.mp k4).2 (Nat.le_trans (LayN.lt k4).1 (by omega))
      have syz : ¬ kn y = 0 → mf_77 N yv s1 = some (s1, some (.int (Int32.ofNat (szN y)))) := fun c => by
        rcases rvl.kz hy1 with ⟨-, z⟩ | ⟨-, -, a, k3, k4⟩
        · exact absurd z c
        · rw [k3]
          exact r_size (N := N) (s := s1) (LayN_iff.mp k4).2 (Nat.le_trans (LayN.lt k4).1 (by omega))
      have x64 := wf64 wx
      have y64 := wf64 wy
      have E2 : mf_321_107 N (Int32.ofNat sg) xk xv yk yv (Int32.ofNat (kn x)) (Int32.ofNat (kn y)) (Int32.ofNat n) (bI (dv sg)) s1 = mf_321_L14 N N 0 (Int32.ofNat sg) (bI (kn x == 2 || kn y == 2)) (Int32.ofNat (rws x y)) (bI (kn x == 2 && kn y == 2 && !(szN x == szN y))) (Int32.ofNat 0) xk xv yk yv (Int32.ofNat n) (bI (dv sg)) s1 := by
        unfold rws
        generalize bI (dv sg) = d9 at *
        generalize szN x = zx at *
        generalize szN y = zy at *
        generalize kn x = kx' at *
        generalize kn y = ky' at *
        rcases (show kx' = 0 ∨ kx' = 1 ∨ kx' = 2 by omega) with rfl | rfl | rfl
        · rcases (show ky' = 1 ∨ ky' = 2 by omega) with rfl | rfl
          · show _ = mf_321_L14 N N 0 (Int32.ofNat sg) (Int32.ofNat 0) (Int32.ofNat 1) (Int32.ofNat 0) (Int32.ofNat 0) xk xv yk yv (Int32.ofNat n) d9 s1
            repeat ((first | unfold mf_321 | unfold mf_321_0 | unfold mf_321_60 | unfold mf_321_72 | unfold mf_321_96 | unfold mf_321_102 | unfold mf_321_106 | unfold mf_321_107 | unfold mf_321_115 | unfold mf_321_121 | unfold mf_321_130 | unfold mf_321_131 | unfold mf_321_136 | unfold mf_321_141 | unfold mf_321_146 | unfold mf_321_151 | unfold mf_321_161 | unfold mf_321_164 | unfold mf_321_173 | unfold mf_321_176 | unfold mf_321_177 | unfold mf_321_183 | unfold mf_321_189 | unfold mf_321_193 | unfold mf_321_194 | unfold mf_321_202 | unfold mf_321_207 | unfold mf_321_210 | unfold mf_321_216 | unfold mf_321_222 | unfold mf_321_225 | unfold mf_321_226 | unfold mf_321_234 | unfold mf_321_240 | unfold mf_321_245 | unfold mf_321_251 | unfold mf_321_254 | unfold mf_321_258 | unfold mf_321_259 | unfold mf_321_264 | unfold mf_321_271 | unfold mf_321_276 | unfold mf_321_284 | unfold mf_321_296 | unfold mf_321_303 | unfold mf_321_308 | unfold mf_321_314 | unfold mf_321_320 | unfold mf_321_323 | unfold mf_321_327 | unfold mf_321_328 | unfold mf_321_336 | unfold mf_321_341 | unfold mf_321_350 | unfold mf_321_351 | unfold mf_321_354 | unfold mf_321_361 | unfold mf_321_369 | unfold mf_321_381 | unfold mf_321_388 | unfold mf_321_394 | unfold mf_321_397 | unfold mf_321_403 | unfold mf_321_414 | unfold mf_321_421 | unfold mf_321_426 | unfold mf_321_441 | unfold mf_321_442 | unfold mf_321_449 | unfold mf_321_464 | unfold mf_321_466 | unfold mf_321_473 | unfold mf_321_478 | unfold mf_321_488 | unfold mf_321_489 | unfold mf_321_499 | unfold mf_321_502 | unfold mf_321_508 | unfold mf_321_513 | unfold mf_321_519 | unfold mf_321_525 | unfold mf_321_531 | unfold mf_321_535 | unfold mf_321_536 | unfold mf_321_541); try simp (disch := omega) only [ev_S, ev_P, ↓reduceIte, Nat.reduceEqDiff, Nat.reduceLeDiff, Nat.reduceAdd, Nat.reduceMul, Nat.reduceSub, reduceCtorEq, l32_0, l32_1, l32_2, l32_3, l32_4, l32_6, l32_37, l32_47, l32_49, l32_50, l32_51, l32_9000, l32_166300])
          · have z2 := syz (by omega)
            show _ = mf_321_L14 N N 0 (Int32.ofNat sg) (Int32.ofNat 1) (Int32.ofNat zy) (Int32.ofNat 0) (Int32.ofNat 0) xk xv yk yv (Int32.ofNat n) d9 s1
            repeat ((first | unfold mf_321 | unfold mf_321_0 | unfold mf_321_60 | unfold mf_321_72 | unfold mf_321_96 | unfold mf_321_102 | unfold mf_321_106 | unfold mf_321_107 | unfold mf_321_115 | unfold mf_321_121 | unfold mf_321_130 | unfold mf_321_131 | unfold mf_321_136 | unfold mf_321_141 | unfold mf_321_146 | unfold mf_321_151 | unfold mf_321_161 | unfold mf_321_164 | unfold mf_321_173 | unfold mf_321_176 | unfold mf_321_177 | unfold mf_321_183 | unfold mf_321_189 | unfold mf_321_193 | unfold mf_321_194 | unfold mf_321_202 | unfold mf_321_207 | unfold mf_321_210 | unfold mf_321_216 | unfold mf_321_222 | unfold mf_321_225 | unfold mf_321_226 | unfold mf_321_234 | unfold mf_321_240 | unfold mf_321_245 | unfold mf_321_251 | unfold mf_321_254 | unfold mf_321_258 | unfold mf_321_259 | unfold mf_321_264 | unfold mf_321_271 | unfold mf_321_276 | unfold mf_321_284 | unfold mf_321_296 | unfold mf_321_303 | unfold mf_321_308 | unfold mf_321_314 | unfold mf_321_320 | unfold mf_321_323 | unfold mf_321_327 | unfold mf_321_328 | unfold mf_321_336 | unfold mf_321_341 | unfold mf_321_350 | unfold mf_321_351 | unfold mf_321_354 | unfold mf_321_361 | unfold mf_321_369 | unfold mf_321_381 | unfold mf_321_388 | unfold mf_321_394 | unfold mf_321_397 | unfold mf_321_403 | unfold mf_321_414 | unfold mf_321_421 | unfold mf_321_426 | unfold mf_321_441 | unfold mf_321_442 | unfold mf_321_449 | unfold mf_321_464 | unfold mf_321_466 | unfold mf_321_473 | unfold mf_321_478 | unfold mf_321_488 | unfold mf_321_489 | unfold mf_321_499 | unfold mf_321_502 | unfold mf_321_508 | unfold mf_321_513 | unfold mf_321_519 | unfold mf_321_525 | unfold mf_321_531 | unfold mf_321_535 | unfold mf_321_536 | unfold mf_321_541); try simp (disch := omega) only [ev_S, ev_P, ↓reduceIte, Nat.reduceEqDiff, Nat.reduceLeDiff, Nat.reduceAdd, Nat.reduceMul, Nat.reduceSub, reduceCtorEq, l32_0, l32_1, l32_2, l32_3, l32_4, l32_6, l32_37, l32_47, l32_49, l32_50, l32_51, l32_9000, l32_166300, z2])
        · rcases (show ky' = 0 ∨ ky' = 1 ∨ ky' = 2 by omega) with rfl | rfl | rfl
          · show _ = mf_321_L14 N N 0 (Int32.ofNat sg) (Int32.ofNat 0) (Int32.ofNat 1) (Int32.ofNat 0) (Int32.ofNat 0) xk xv yk yv (Int32.ofNat n) d9 s1
            repeat ((first | unfold mf_321 | unfold mf_321_0 | unfold mf_321_60 | unfold mf_321_72 | unfold mf_321_96 | unfold mf_321_102 | unfold mf_321_106 | unfold mf_321_107 | unfold mf_321_115 | unfold mf_321_121 | unfold mf_321_130 | unfold mf_321_131 | unfold mf_321_136 | unfold mf_321_141 | unfold mf_321_146 | unfold mf_321_151 | unfold mf_321_161 | unfold mf_321_164 | unfold mf_321_173 | unfold mf_321_176 | unfold mf_321_177 | unfold mf_321_183 | unfold mf_321_189 | unfold mf_321_193 | unfold mf_321_194 | unfold mf_321_202 | unfold mf_321_207 | unfold mf_321_210 | unfold mf_321_216 | unfold mf_321_222 | unfold mf_321_225 | unfold mf_321_226 | unfold mf_321_234 | unfold mf_321_240 | unfold mf_321_245 | unfold mf_321_251 | unfold mf_321_254 | unfold mf_321_258 | unfold mf_321_259 | unfold mf_321_264 | unfold mf_321_271 | unfold mf_321_276 | unfold mf_321_284 | unfold mf_321_296 | unfold mf_321_303 | unfold mf_321_308 | unfold mf_321_314 | unfold mf_321_320 | unfold mf_321_323 | unfold mf_321_327 | unfold mf_321_328 | unfold mf_321_336 | unfold mf_321_341 | unfold mf_321_350 | unfold mf_321_351 | unfold mf_321_354 | unfold mf_321_361 | unfold mf_321_369 | unfold mf_321_381 | unfold mf_321_388 | unfold mf_321_394 | unfold mf_321_397 | unfold mf_321_403 | unfold mf_321_414 | unfold mf_321_421 | unfold mf_321_426 | unfold mf_321_441 | unfold mf_321_442 | unfold mf_321_449 | unfold mf_321_464 | unfold mf_321_466 | unfold mf_321_473 | unfold mf_321_478 | unfold mf_321_488 | unfold mf_321_489 | unfold mf_321_499 | unfold mf_321_502 | unfold mf_321_508 | unfold mf_321_513 | unfold mf_321_519 | unfold mf_321_525 | unfold mf_321_531 | unfold mf_321_535 | unfold mf_321_536 | unfold mf_321_541); try simp (disch := omega) only [ev_S, ev_P, ↓reduceIte, Nat.reduceEqDiff, Nat.reduceLeDiff, Nat.reduceAdd, Nat.reduceMul, Nat.reduceSub, reduceCtorEq, l32_0, l32_1, l32_2, l32_3, l32_4, l32_6, l32_37, l32_47, l32_49, l32_50, l32_51, l32_9000, l32_166300])
          · show _ = mf_321_L14 N N 0 (Int32.ofNat sg) (Int32.ofNat 0) (Int32.ofNat 1) (Int32.ofNat 0) (Int32.ofNat 0) xk xv yk yv (Int32.ofNat n) d9 s1
            repeat ((first | unfold mf_321 | unfold mf_321_0 | unfold mf_321_60 | unfold mf_321_72 | unfold mf_321_96 | unfold mf_321_102 | unfold mf_321_106 | unfold mf_321_107 | unfold mf_321_115 | unfold mf_321_121 | unfold mf_321_130 | unfold mf_321_131 | unfold mf_321_136 | unfold mf_321_141 | unfold mf_321_146 | unfold mf_321_151 | unfold mf_321_161 | unfold mf_321_164 | unfold mf_321_173 | unfold mf_321_176 | unfold mf_321_177 | unfold mf_321_183 | unfold mf_321_189 | unfold mf_321_193 | unfold mf_321_194 | unfold mf_321_202 | unfold mf_321_207 | unfold mf_321_210 | unfold mf_321_216 | unfold mf_321_222 | unfold mf_321_225 | unfold mf_321_226 | unfold mf_321_234 | unfold mf_321_240 | unfold mf_321_245 | unfold mf_321_251 | unfold mf_321_254 | unfold mf_321_258 | unfold mf_321_259 | unfold mf_321_264 | unfold mf_321_271 | unfold mf_321_276 | unfold mf_321_284 | unfold mf_321_296 | unfold mf_321_303 | unfold mf_321_308 | unfold mf_321_314 | unfold mf_321_320 | unfold mf_321_323 | unfold mf_321_327 | unfold mf_321_328 | unfold mf_321_336 | unfold mf_321_341 | unfold mf_321_350 | unfold mf_321_351 | unfold mf_321_354 | unfold mf_321_361 | unfold mf_321_369 | unfold mf_321_381 | unfold mf_321_388 | unfold mf_321_394 | unfold mf_321_397 | unfold mf_321_403 | unfold mf_321_414 | unfold mf_321_421 | unfold mf_321_426 | unfold mf_321_441 | unfold mf_321_442 | unfold mf_321_449 | unfold mf_321_464 | unfold mf_321_466 | unfold mf_321_473 | unfold mf_321_478 | unfold mf_321_488 | unfold mf_321_489 | unfold mf_321_499 | unfold mf_321_502 | unfold mf_321_508 | unfold mf_321_513 | unfold mf_321_519 | unfold mf_321_525 | unfold mf_321_531 | unfold mf_321_535 | unfold mf_321_536 | unfold mf_321_541); try simp (disch := omega) only [ev_S, ev_P, ↓reduceIte, Nat.reduceEqDiff, Nat.reduceLeDiff, Nat.reduceAdd, Nat.reduceMul, Nat.reduceSub, reduceCtorEq, l32_0, l32_1, l32_2, l32_3, l32_4, l32_6, l32_37, l32_47, l32_49, l32_50, l32_51, l32_9000, l32_166300])
          · have z2 := syz (by omega)
            show _ = mf_321_L14 N N 0 (Int32.ofNat sg) (Int32.ofNat 1) (Int32.ofNat zy) (Int32.ofNat 0) (Int32.ofNat 0) xk xv yk yv (Int32.ofNat n) d9 s1
            repeat ((first | unfold mf_321 | unfold mf_321_0 | unfold mf_321_60 | unfold mf_321_72 | unfold mf_321_96 | unfold mf_321_102 | unfold mf_321_106 | unfold mf_321_107 | unfold mf_321_115 | unfold mf_321_121 | unfold mf_321_130 | unfold mf_321_131 | unfold mf_321_136 | unfold mf_321_141 | unfold mf_321_146 | unfold mf_321_151 | unfold mf_321_161 | unfold mf_321_164 | unfold mf_321_173 | unfold mf_321_176 | unfold mf_321_177 | unfold mf_321_183 | unfold mf_321_189 | unfold mf_321_193 | unfold mf_321_194 | unfold mf_321_202 | unfold mf_321_207 | unfold mf_321_210 | unfold mf_321_216 | unfold mf_321_222 | unfold mf_321_225 | unfold mf_321_226 | unfold mf_321_234 | unfold mf_321_240 | unfold mf_321_245 | unfold mf_321_251 | unfold mf_321_254 | unfold mf_321_258 | unfold mf_321_259 | unfold mf_321_264 | unfold mf_321_271 | unfold mf_321_276 | unfold mf_321_284 | unfold mf_321_296 | unfold mf_321_303 | unfold mf_321_308 | unfold mf_321_314 | unfold mf_321_320 | unfold mf_321_323 | unfold mf_321_327 | unfold mf_321_328 | unfold mf_321_336 | unfold mf_321_341 | unfold mf_321_350 | unfold mf_321_351 | unfold mf_321_354 | unfold mf_321_361 | unfold mf_321_369 | unfold mf_321_381 | unfold mf_321_388 | unfold mf_321_394 | unfold mf_321_397 | unfold mf_321_403 | unfold mf_321_414 | unfold mf_321_421 | unfold mf_321_426 | unfold mf_321_441 | unfold mf_321_442 | unfold mf_321_449 | unfold mf_321_464 | unfold mf_321_466 | unfold mf_321_473 | unfold mf_321_478 | unfold mf_321_488 | unfold mf_321_489 | unfold mf_321_499 | unfold mf_321_502 | unfold mf_321_508 | unfold mf_321_513 | unfold mf_321_519 | unfold mf_321_525 | unfold mf_321_531 | unfold mf_321_535 | unfold mf_321_536 | unfold mf_321_541); try simp (disch := omega) only [ev_S, ev_P, ↓reduceIte, Nat.reduceEqDiff, Nat.reduceLeDiff, Nat.reduceAdd, Nat.reduceMul, Nat.reduceSub, reduceCtorEq, l32_0, l32_1, l32_2, l32_3, l32_4, l32_6, l32_37, l32_47, l32_49, l32_50, l32_51, l32_9000, l32_166300, z2])
        · have z1 := sxz (by omega)
          rcases (show ky' = 0 ∨ ky' = 1 ∨ ky' = 2 by omega) with rfl | rfl | rfl
          · show _ = mf_321_L14 N N 0 (Int32.ofNat sg) (Int32.ofNat 1) (Int32.ofNat zx) (Int32.ofNat 0) (Int32.ofNat 0) xk xv yk yv (Int32.ofNat n) d9 s1
            repeat ((first | unfold mf_321 | unfold mf_321_0 | unfold mf_321_60 | unfold mf_321_72 | unfold mf_321_96 | unfold mf_321_102 | unfold mf_321_106 | unfold mf_321_107 | unfold mf_321_115 | unfold mf_321_121 | unfold mf_321_130 | unfold mf_321_131 | unfold mf_321_136 | unfold mf_321_141 | unfold mf_321_146 | unfold mf_321_151 | unfold mf_321_161 | unfold mf_321_164 | unfold mf_321_173 | unfold mf_321_176 | unfold mf_321_177 | unfold mf_321_183 | unfold mf_321_189 | unfold mf_321_193 | unfold mf_321_194 | unfold mf_321_202 | unfold mf_321_207 | unfold mf_321_210 | unfold mf_321_216 | unfold mf_321_222 | unfold mf_321_225 | unfold mf_321_226 | unfold mf_321_234 | unfold mf_321_240 | unfold mf_321_245 | unfold mf_321_251 | unfold mf_321_254 | unfold mf_321_258 | unfold mf_321_259 | unfold mf_321_264 | unfold mf_321_271 | unfold mf_321_276 | unfold mf_321_284 | unfold mf_321_296 | unfold mf_321_303 | unfold mf_321_308 | unfold mf_321_314 | unfold mf_321_320 | unfold mf_321_323 | unfold mf_321_327 | unfold mf_321_328 | unfold mf_321_336 | unfold mf_321_341 | unfold mf_321_350 | unfold mf_321_351 | unfold mf_321_354 | unfold mf_321_361 | unfold mf_321_369 | unfold mf_321_381 | unfold mf_321_388 | unfold mf_321_394 | unfold mf_321_397 | unfold mf_321_403 | unfold mf_321_414 | unfold mf_321_421 | unfold mf_321_426 | unfold mf_321_441 | unfold mf_321_442 | unfold mf_321_449 | unfold mf_321_464 | unfold mf_321_466 | unfold mf_321_473 | unfold mf_321_478 | unfold mf_321_488 | unfold mf_321_489 | unfold mf_321_499 | unfold mf_321_502 | unfold mf_321_508 | unfold mf_321_513 | unfold mf_321_519 | unfold mf_321_525 | unfold mf_321_531 | unfold mf_321_535 | unfold mf_321_536 | unfold mf_321_541); try simp (disch := omega) only [ev_S, ev_P, ↓reduceIte, Nat.reduceEqDiff, Nat.reduceLeDiff, Nat.reduceAdd, Nat.reduceMul, Nat.reduceSub, reduceCtorEq, l32_0, l32_1, l32_2, l32_3, l32_4, l32_6, l32_37, l32_47, l32_49, l32_50, l32_51, l32_9000, l32_166300, z1])
          · show _ = mf_321_L14 N N 0 (Int32.ofNat sg) (Int32.ofNat 1) (Int32.ofNat zx) (Int32.ofNat 0) (Int32.ofNat 0) xk xv yk yv (Int32.ofNat n) d9 s1
            repeat ((first | unfold mf_321 | unfold mf_321_0 | unfold mf_321_60 | unfold mf_321_72 | unfold mf_321_96 | unfold mf_321_102 | unfold mf_321_106 | unfold mf_321_107 | unfold mf_321_115 | unfold mf_321_121 | unfold mf_321_130 | unfold mf_321_131 | unfold mf_321_136 | unfold mf_321_141 | unfold mf_321_146 | unfold mf_321_151 | unfold mf_321_161 | unfold mf_321_164 | unfold mf_321_173 | unfold mf_321_176 | unfold mf_321_177 | unfold mf_321_183 | unfold mf_321_189 | unfold mf_321_193 | unfold mf_321_194 | unfold mf_321_202 | unfold mf_321_207 | unfold mf_321_210 | unfold mf_321_216 | unfold mf_321_222 | unfold mf_321_225 | unfold mf_321_226 | unfold mf_321_234 | unfold mf_321_240 | unfold mf_321_245 | unfold mf_321_251 | unfold mf_321_254 | unfold mf_321_258 | unfold mf_321_259 | unfold mf_321_264 | unfold mf_321_271 | unfold mf_321_276 | unfold mf_321_284 | unfold mf_321_296 | unfold mf_321_303 | unfold mf_321_308 | unfold mf_321_314 | unfold mf_321_320 | unfold mf_321_323 | unfold mf_321_327 | unfold mf_321_328 | unfold mf_321_336 | unfold mf_321_341 | unfold mf_321_350 | unfold mf_321_351 | unfold mf_321_354 | unfold mf_321_361 | unfold mf_321_369 | unfold mf_321_381 | unfold mf_321_388 | unfold mf_321_394 | unfold mf_321_397 | unfold mf_321_403 | unfold mf_321_414 | unfold mf_321_421 | unfold mf_321_426 | unfold mf_321_441 | unfold mf_321_442 | unfold mf_321_449 | unfold mf_321_464 | unfold mf_321_466 | unfold mf_321_473 | unfold mf_321_478 | unfold mf_321_488 | unfold mf_321_489 | unfold mf_321_499 | unfold mf_321_502 | unfold mf_321_508 | unfold mf_321_513 | unfold mf_321_519 | unfold mf_321_525 | unfold mf_321_531 | unfold mf_321_535 | unfold mf_321_536 | unfold mf_321_541); try simp (disch := omega) only [ev_S, ev_P, ↓reduceIte, Nat.reduceEqDiff, Nat.reduceLeDiff, Nat.reduceAdd, Nat.reduceMul, Nat.reduceSub, reduceCtorEq, l32_0, l32_1, l32_2, l32_3, l32_4, l32_6, l32_37, l32_47, l32_49, l32_50, l32_51, l32_9000, l32_166300, z1])
          · have z2 := syz (by omega)
            show _ = mf_321_L14 N N 0 (Int32.ofNat sg) (Int32.ofNat 1) (Int32.ofNat zx) (bI (!(zx == zy))) (Int32.ofNat 0) xk xv yk yv (Int32.ofNat n) d9 s1
            rw [show (zx == zy) = decide (zx = zy) from rfl]
            by_cases c : zx = zy
            · rw [decide_eq_true c]
              simp only [bI]
              repeat ((first | unfold mf_321 | unfold mf_321_0 | unfold mf_321_60 | unfold mf_321_72 | unfold mf_321_96 | unfold mf_321_102 | unfold mf_321_106 | unfold mf_321_107 | unfold mf_321_115 | unfold mf_321_121 | unfold mf_321_130 | unfold mf_321_131 | unfold mf_321_136 | unfold mf_321_141 | unfold mf_321_146 | unfold mf_321_151 | unfold mf_321_161 | unfold mf_321_164 | unfold mf_321_173 | unfold mf_321_176 | unfold mf_321_177 | unfold mf_321_183 | unfold mf_321_189 | unfold mf_321_193 | unfold mf_321_194 | unfold mf_321_202 | unfold mf_321_207 | unfold mf_321_210 | unfold mf_321_216 | unfold mf_321_222 | unfold mf_321_225 | unfold mf_321_226 | unfold mf_321_234 | unfold mf_321_240 | unfold mf_321_245 | unfold mf_321_251 | unfold mf_321_254 | unfold mf_321_258 | unfold mf_321_259 | unfold mf_321_264 | unfold mf_321_271 | unfold mf_321_276 | unfold mf_321_284 | unfold mf_321_296 | unfold mf_321_303 | unfold mf_321_308 | unfold mf_321_314 | unfold mf_321_320 | unfold mf_321_323 | unfold mf_321_327 | unfold mf_321_328 | unfold mf_321_336 | unfold mf_321_341 | unfold mf_321_350 | unfold mf_321_351 | unfold mf_321_354 | unfold mf_321_361 | unfold mf_321_369 | unfold mf_321_381 | unfold mf_321_388 | unfold mf_321_394 | unfold mf_321_397 | unfold mf_321_403 | unfold mf_321_414 | unfold mf_321_421 | unfold mf_321_426 | unfold mf_321_441 | unfold mf_321_442 | unfold mf_321_449 | unfold mf_321_464 | unfold mf_321_466 | unfold mf_321_473 | unfold mf_321_478 | unfold mf_321_488 | unfold mf_321_489 | unfold mf_321_499 | unfold mf_321_502 | unfold mf_321_508 | unfold mf_321_513 | unfold mf_321_519 | unfold mf_321_525 | unfold mf_321_531 | unfold mf_321_535 | unfold mf_321_536 | unfold mf_321_541); try simp (disch := omega) only [ev_S, ev_P, ↓reduceIte, Nat.reduceEqDiff, Nat.reduceLeDiff, Nat.reduceAdd, Nat.reduceMul, Nat.reduceSub, reduceCtorEq, l32_0, l32_1, l32_2, l32_3, l32_4, l32_6, l32_37, l32_47, l32_49, l32_50, l32_51, l32_9000, l32_166300, z1, z2, c])
              rfl
            · rw [decide_eq_false c]
              simp only [bI]
              repeat ((first | unfold mf_321 | unfold mf_321_0 | unfold mf_321_60 | unfold mf_321_72 | unfold mf_321_96 | unfold mf_321_102 | unfold mf_321_106 | unfold mf_321_107 | unfold mf_321_115 | unfold mf_321_121 | unfold mf_321_130 | unfold mf_321_131 | unfold mf_321_136 | unfold mf_321_141 | unfold mf_321_146 | unfold mf_321_151 | unfold mf_321_161 | unfold mf_321_164 | unfold mf_321_173 | unfold mf_321_176 | unfold mf_321_177 | unfold mf_321_183 | unfold mf_321_189 | unfold mf_321_193 | unfold mf_321_194 | unfold mf_321_202 | unfold mf_321_207 | unfold mf_321_210 | unfold mf_321_216 | unfold mf_321_222 | unfold mf_321_225 | unfold mf_321_226 | unfold mf_321_234 | unfold mf_321_240 | unfold mf_321_245 | unfold mf_321_251 | unfold mf_321_254 | unfold mf_321_258 | unfold mf_321_259 | unfold mf_321_264 | unfold mf_321_271 | unfold mf_321_276 | unfold mf_321_284 | unfold mf_321_296 | unfold mf_321_303 | unfold mf_321_308 | unfold mf_321_314 | unfold mf_321_320 | unfold mf_321_323 | unfold mf_321_327 | unfold mf_321_328 | unfold mf_321_336 | unfold mf_321_341 | unfold mf_321_350 | unfold mf_321_351 | unfold mf_321_354 | unfold mf_321_361 | unfold mf_321_369 | unfold mf_321_381 | unfold mf_321_388 | unfold mf_321_394 | unfold mf_321_397 | unfold mf_321_403 | unfold mf_321_414 | unfold mf_321_421 | unfold mf_321_426 | unfold mf_321_441 | unfold mf_321_442 | unfold mf_321_449 | unfold mf_321_464 | unfold mf_321_466 | unfold mf_321_473 | unfold mf_321_478 | unfold mf_321_488 | unfold mf_321_489 | unfold mf_321_499 | unfold mf_321_502 | unfold mf_321_508 | unfold mf_321_513 | unfold mf_321_519 | unfold mf_321_525 | unfold mf_321_531 | unfold mf_321_535 | unfold mf_321_536 | unfold mf_321_541); try simp (disch := omega) only [ev_S, ev_P, ↓reduceIte, Nat.reduceEqDiff, Nat.reduceLeDiff, Nat.reduceAdd, Nat.reduceMul, Nat.reduceSub, reduceCtorEq, l32_0, l32_1, l32_2, l32_3, l32_4, l32_6, l32_37, l32_47, l32_49, l32_50, l32_51, l32_9000, l32_166300, z1, z2, c])
              rfl
      rw [E2, r_unl hN hx1 hy1 (by omega) wx wy h3 h3' _ (fun hb c d => by
        rw [c, d] at hb
        have hb : (!(szN x == szN y)) = false := hb
        rw [Bool.not_eq_false'] at hb
        exact beq_iff_eq.mp hb)]
      have hR := rws_le wx wy
      show ∃ s', mf_321_336 N (Int32.ofNat sg) xk xv yk yv (Int32.ofNat n) (bI (dv sg)) (bI (kn x == 2 || kn y == 2)) (Int32.ofNat (rws x y)) (bI (unkT x y)) s1 = some (s', none) ∧ _
      cases huk : unkT x y with
      | true =>
        rw [if_pos rfl]
        obtain ⟨b1, b2⟩ := T 4
        refine ⟨_, ?_, b2⟩
        simp only [bI]
        unfold mf_321_336 mf_321_341 mf_321_350
        simp (disch := omega) only [ev_S, ev_P, ↓reduceIte, Nat.reduceEqDiff, Nat.reduceLeDiff, Nat.reduceAdd, Nat.reduceMul, Nat.reduceSub, reduceCtorEq, l32_0, l32_1, l32_2, l32_3, l32_4, l32_5, l32_6, l32_7, l32_8, l32_9, l32_10, l32_11, l32_12, l32_13, l32_14, l32_15, l32_16, l32_17, l32_18, l32_19, l32_20, l32_21, l32_22, l32_23, l32_24, l32_25, l32_26, l32_27, l32_28, l32_29, l32_33, l32_40, l32_41, l32_44, l32_45, l32_59, l32_61, l32_91, l32_93, l32_123, l32_125, b1]
      | false =>
        rw [if_neg (by intro h; cases h)]
        have E4 : mf_321_336 N (Int32.ofNat sg) xk xv yk yv (Int32.ofNat n) (bI (dv sg)) (bI (kn x == 2 || kn y == 2)) (Int32.ofNat (rws x y)) (bI false) s1 = mf_321_L9 N N 0 (Int32.ofNat sg) (bI (kn x == 2 || kn y == 2)) (Int32.ofNat (rws x y)) (Int32.ofNat 0) (Int32.ofNat 0) (Int32.ofNat 0) (Int32.ofNat 0) (Int32.ofNat 0) (Int32.ofNat 0) xk xv yk yv (Int32.ofNat n) (bI (dv sg)) s1 := by
          unfold mf_321_336
          rw [if_pos (show bI false = 0 from rfl)]
          rfl
        rw [E4]
        have huk' := huk
        unfold unkT at huk'
        rw [Bool.or_eq_false_iff] at huk'
        have hix : ∀ i, i < rws x y → kn x = 2 → i < szN x := fun i hi c => by
          unfold rws at hi
          rw [if_pos c] at hi
          exact hi
        have hiy : ∀ i, i < rws x y → kn y = 2 → i < szN y := fun i hi c => by
          unfold rws at hi
          by_cases d : kn x = 2
          · rw [if_pos d] at hi
            have hb := huk'.1
            rw [c, d] at hb
            have hb : (!(szN x == szN y)) = false := hb
            rw [Bool.not_eq_false'] at hb
            rw [← beq_iff_eq.mp hb]
            exact hi
          · rw [if_neg d, if_pos c] at hi
            exact hi
        have hnu : ∀ i, i < rws x y → unl (bsd x i) (bsd y i) = false := any_le (Nat.le_refl _) huk'.2
        by_cases ct : kn x = 2 ∨ kn y = 2
        · rw [if_pos ct]
          have etb : (kn x == 2 || kn y == 2) = true := by
            rw [Bool.or_eq_true]
            exact ct.elim (fun z => Or.inl (beq_iff_eq.mpr z)) (fun z => Or.inr (beq_iff_eq.mpr z))
          rw [etb]
          have hsum := rsz_sum (x := x) (y := y) wx wy h3 h3' ct huk
          have hs2 := sum2 (fun i => rsz (bsd x i) (bsd y i))
          refine lpo (fun F i (s' : mS) => mf_321_L9 N F 0 (Int32.ofNat sg) (bI true) (Int32.ofNat (rws x y)) (Int32.ofNat i) (Int32.ofNat 0) (Int32.ofNat 0) (Int32.ofNat 0) (Int32.ofNat 0) (Int32.ofNat 0) xk xv yk yv (Int32.ofNat n) (bI (dv sg)) s') (rws x y) 67 (fun i s' => rG s s' n f (f + ((List.range i).map fun i => 2 + rsz (bsd x i) (bsd y i)).sum) ((List.range i).map fun i => nR (row2 sg (bsd x i) (bsd y i))) ∧ ((List.range i).any fun i => bad2 sg (bsd x i) (bsd y i)) = false) (fun R => ∃ s', R = some (s', none) ∧ rE s s' n f m (if bdk sg x y = true then .inl 6 else ansM 2 ((List.range (rws x y)).map fun i => nR (row2 sg (bsd x i) (bsd y i))))) ?_ ?_ (rws x y) 0 N s1 (Nat.zero_add _) (by omega) ⟨G0, rfl⟩
          · intro F i s2 hi hP
            obtain ⟨G, hnb⟩ := hP
            have hl : ((List.range i).map fun i => nR (row2 sg (bsd x i) (bsd y i))).length = i := by rw [List.length_map, List.length_range]
            have hsi := hsum i (by omega)
            have hs2i := hs2 i
            have hsi1 := hsum (i + 1) (by omega)
            have hs2i1 := hs2 (i + 1)
            obtain ⟨a14, a15, L, o1, o2, o3, o4, o5⟩ := r_hd (N := N) (x1 := Int32.ofNat sg) (x10 := bI true) (x8 := Int32.ofNat n) (x9 := bI (dv sg)) H hx hy wx wy h3 h3' c0 hi hR (hix i hi) (hiy i hi) (hnu i hi) G
            rw [o5 (F + 66)]
            rcases r_in (N := N) (x1 := Int32.ofNat sg) (x10 := bI true) (x11 := Int32.ofNat (rws x y)) (x13 := Int32.ofNat i) (xk := xk) (yk := yk) (x8 := Int32.ofNat n) (x9 := bI (dv sg)) hs H o4 o3 rfl rfl o1 o2 (by rw [hl]; omega) (by omega) (F + 66 - L) G with ⟨s3, ⟨g1, g2⟩, g3⟩ | ⟨g1, s3, g2, g3⟩
            · left
              rw [show F + 66 - L + L = F + 66 by omega] at g3
              have hrl : (row2 sg (bsd x i) (bsd y i)).length = L := by rw [row2_len, o3]
              obtain ⟨s4, w1, w2⟩ := rG.row (N := N) hN g1 (by rw [hl, hrl]; omega) (by rw [hrl]; omega)
              refine ⟨s4, F + 65 - L, ⟨?_, ?_⟩, by omega, ?_⟩
              · rw [range_map_s, range_map_s, List.sum_append]
                rw [hrl] at w2
                have e : f + (((List.range i).map fun i => 2 + rsz (bsd x i) (bsd y i)).sum + [2 + rsz (bsd x i) (bsd y i)].sum) = f + ((List.range i).map fun i => 2 + rsz (bsd x i) (bsd y i)).sum + 2 + L := by
                  rw [o3]
                  show f + (_ + (2 + L + 0)) = _
                  omega
                rw [e]
                exact w2
              · rw [any_s, hnb, g2]
                rfl
              · rw [g3, show F + 66 - L = F + 65 - L + 1 by omega]
                show mf_321_414 N (mf_321_L9 N (F + 65 - L)) (Int32.ofNat sg) xk xv yk yv (Int32.ofNat n) (bI (dv sg)) (bI true) (Int32.ofNat (rws x y)) (Int32.ofNat i) a14 a15 (Int32.ofNat L) (Int32.ofNat (n + _)) (Int32.ofNat L) s3 = mf_321_L9 N (F + 65 - L) 0 (Int32.ofNat sg) (bI true) (Int32.ofNat (rws x y)) (Int32.ofNat (i + 1)) (Int32.ofNat 0) (Int32.ofNat 0) (Int32.ofNat 0) (Int32.ofNat 0) (Int32.ofNat 0) xk xv yk yv (Int32.ofNat n) (bI (dv sg)) s4
                generalize bI (dv sg) = d9
                simp only [bI]
                unfold mf_321_414 mf_321_508 mf_321_513 mf_321_519
                simp (disch := omega) only [ev_S, ev_P, ↓reduceIte, Nat.reduceEqDiff, Nat.reduceLeDiff, Nat.reduceAdd, Nat.reduceMul, Nat.reduceSub, reduceCtorEq, l32_0, l32_1, l32_2, l32_3, l32_4, l32_5, l32_6, l32_7, l32_8, l32_9, l32_10, l32_11, l32_12, l32_13, l32_14, l32_15, l32_16, l32_17, l32_18, l32_19, l32_20, l32_21, l32_22, l32_23, l32_24, l32_25, l32_26, l32_27, l32_28, l32_29, l32_33, l32_40, l32_41, l32_44, l32_45, l32_59, l32_61, l32_91, l32_93, l32_123, l32_125, w1]
            · right
              rw [show F + 66 - L + L = F + 66 by omega] at g2
              have hbd : bdk sg x y = true := any_t hi g1
              rw [if_pos hbd]
              exact ⟨s3, g2, g3⟩
          · intro F s2 hP
            obtain ⟨G, hnb⟩ := hP
            have hbd : ¬ bdk sg x y = true := by
              unfold bdk
              rw [hnb]
              intro h
              cases h
            rw [if_neg hbd]
            have hs2i := hs2 (rws x y)
            have hsi := hsum (rws x y) (Nat.le_refl _)
            have hl : ((List.range (rws x y)).map fun i => nR (row2 sg (bsd x i) (bsd y i))).length = rws x y := by rw [List.length_map, List.length_range]
            have hrl : ∀ i, i < rws x y → (row2 sg (bsd x i) (bsd y i)).length ≤ 64 := fun i hi => by
              obtain ⟨a14, a15, L, o1, o2, o3, o4, o5⟩ := r_hd (N := N) (x1 := Int32.ofNat sg) (x10 := bI true) (x8 := Int32.ofNat n) (x9 := bI (dv sg)) H hx hy wx wy h3 h3' c0 hi hR (hix i hi) (hiy i hi) (hnu i hi) G0
              rw [row2_len, o3]
              exact o4
            obtain ⟨s3, b1, b2⟩ := rA.builds (N := N) (k := 2) hN H G (Or.inr (Or.inl ⟨rfl, fun z hz => by obtain ⟨j, -, rfl⟩ := List.mem_map.mp hz; rfl⟩)) (fun z hz => by
              obtain ⟨j, hj, rfl⟩ := List.mem_map.mp hz
              exact nR_wf (hrl j (List.mem_range.mp hj))) (fun z hz => by obtain ⟨j, -, rfl⟩ := List.mem_map.mp hz; exact Nat.zero_le _) (by
              have e : grw 2 ((List.range (rws x y)).map fun i => nR (row2 sg (bsd x i) (bsd y i))) = ((List.range (rws x y)).map fun i => 2 + rsz (bsd x i) (bsd y i)).sum := by
                show (((List.range (rws x y)).map fun i => nR (row2 sg (bsd x i) (bsd y i))).map fun x => 2 + szN x).sum = _
                rw [List.map_map]
                congr 2
                funext i
                show 2 + (row2 sg (bsd x i) (bsd y i)).length = _
                rw [row2_len]
              rw [e]
              exact Nat.le_refl _) (by omega) (by rw [hl]; omega) (by rw [hl]; omega)
            refine ⟨s3, ?_, b2⟩
            show mf_321_354 N (mf_321_L9 N F) (Int32.ofNat sg) xk xv yk yv (Int32.ofNat n) (bI (dv sg)) (bI true) (Int32.ofNat (rws x y)) (Int32.ofNat (rws x y)) s2 = _
            generalize bI (dv sg) = d9
            simp only [bI]
            unfold mf_321_354 mf_321_525 mf_321_531 mf_321_536 mf_321_541
            simp (disch := omega) only [ev_S, ev_P, ↓reduceIte, Nat.reduceEqDiff, Nat.reduceLeDiff, Nat.reduceAdd, Nat.reduceMul, Nat.reduceSub, reduceCtorEq, l32_0, l32_1, l32_2, l32_3, l32_4, l32_5, l32_6, l32_7, l32_8, l32_9, l32_10, l32_11, l32_12, l32_13, l32_14, l32_15, l32_16, l32_17, l32_18, l32_19, l32_20, l32_21, l32_22, l32_23, l32_24, l32_25, l32_26, l32_27, l32_28, l32_29, l32_33, l32_40, l32_41, l32_44, l32_45, l32_59, l32_61, l32_91, l32_93, l32_123, l32_125, b1]
        · rw [if_neg ct]
          have etb : (kn x == 2 || kn y == 2) = false := by
            rw [Bool.or_eq_false_iff]
            exact ⟨beq_eq_false_iff_ne.mpr (fun z => ct (Or.inl z)), beq_eq_false_iff_ne.mpr (fun z => ct (Or.inr z))⟩
          rw [etb]
          have hr1 : rws x y = 1 := by
            unfold rws
            rw [if_neg (fun z => ct (Or.inl z)), if_neg (fun z => ct (Or.inr z))]
          have hi : 0 < rws x y := by omega
          obtain ⟨a14, a15, L, o1, o2, o3, o4, o5⟩ := r_hd (N := N) (x1 := Int32.ofNat sg) (x10 := bI false) (x8 := Int32.ofNat n) (x9 := bI (dv sg)) H hx hy wx wy h3 h3' c0 hi hR (hix 0 hi) (hiy 0 hi) (hnu 0 hi) G0
          have hbd : bdk sg x y = bad2 sg (bsd x 0) (bsd y 0) := by
            unfold bdk
            rw [hr1]
            show (bad2 sg (bsd x 0) (bsd y 0) || false) = _
            rw [Bool.or_false]
          have o5' := o5 (N - 1)
          rw [show N - 1 + 1 = N by omega] at o5'
          rw [o5', hbd]
          rcases r_in (N := N) (x1 := Int32.ofNat sg) (x10 := bI false) (x11 := Int32.ofNat (rws x y)) (x13 := Int32.ofNat 0) (xk := xk) (yk := yk) (x8 := Int32.ofNat n) (x9 := bI (dv sg)) hs H o4 o3 rfl rfl o1 o2 (by show n + 0 + L + 1 < 9000; omega) (by omega) (N - 1 - L) G0 with ⟨s3, ⟨g1, g2⟩, g3⟩ | ⟨g1, s3, g2, g3⟩
          · rw [show N - 1 - L + L = N - 1 by omega] at g3
            rw [g3, g2]
            have hrl : (row2 sg (bsd x 0) (bsd y 0)).length = L := by rw [row2_len, o3]
            obtain ⟨s4, b1, b2⟩ := rA.builds (N := N) (k := 1) hN H g1 (Or.inl ⟨rfl, fun z hz => by obtain ⟨j, -, rfl⟩ := List.mem_map.mp hz; rfl⟩) (fun z hz => by obtain ⟨j, -, rfl⟩ := List.mem_map.mp hz; exact trivial) (fun z hz => by obtain ⟨j, -, rfl⟩ := List.mem_map.mp hz; exact Nat.zero_le _) (by omega) (by omega) (by show ((row2 sg (bsd x 0) (bsd y 0)).map nZ).length ≤ 3000; rw [List.length_map, hrl]; omega) (by show n + ((row2 sg (bsd x 0) (bsd y 0)).map nZ).length < 9000; rw [List.length_map, hrl]; omega)
            refine ⟨s4, ?_, b2⟩
            obtain ⟨F2, hF2⟩ : ∃ F2, N - 1 - L = F2 + 1 + 1 := ⟨N - 1 - L - 2, by omega⟩
            rw [hF2, hr1]
            show mf_321_414 N (mf_321_L9 N (F2 + 1)) (Int32.ofNat sg) xk xv yk yv (Int32.ofNat n) (bI (dv sg)) (bI false) (Int32.ofNat 1) (Int32.ofNat 0) a14 a15 (Int32.ofNat L) (Int32.ofNat (n + 0)) (Int32.ofNat L) s3 = _
            generalize bI (dv sg) = d9
            have st : mf_321_L9 N (F2 + 1) 0 (Int32.ofNat sg) (Int32.ofNat 0) (Int32.ofNat 1) (Int32.ofNat 1) (Int32.ofNat 0) (Int32.ofNat 0) (Int32.ofNat 0) (Int32.ofNat 0) (Int32.ofNat 0) xk xv yk yv (Int32.ofNat n) d9 s3 = some (s4, none) := by
              show mf_321_354 N (mf_321_L9 N F2) (Int32.ofNat sg) xk xv yk yv (Int32.ofNat n) d9 (Int32.ofNat 0) (Int32.ofNat 1) (Int32.ofNat 1) s3 = _
              unfold mf_321_354 mf_321_525 mf_321_535 mf_321_536 mf_321_541
              simp (disch := omega) only [ev_S, ev_P, ↓reduceIte, Nat.reduceEqDiff, Nat.reduceLeDiff, Nat.reduceAdd, Nat.reduceMul, Nat.reduceSub, reduceCtorEq, l32_0, l32_1, l32_2, l32_3, l32_4, l32_5, l32_6, l32_7, l32_8, l32_9, l32_10, l32_11, l32_12, l32_13, l32_14, l32_15, l32_16, l32_17, l32_18, l32_19, l32_20, l32_21, l32_22, l32_23, l32_24, l32_25, l32_26, l32_27, l32_28, l32_29, l32_33, l32_40, l32_41, l32_44, l32_45, l32_59, l32_61, l32_91, l32_93, l32_123, l32_125, b1]
            simp only [bI]
            unfold mf_321_414 mf_321_508 mf_321_519
            simp (disch := omega) only [ev_S, ev_P, ↓reduceIte, Nat.reduceEqDiff, Nat.reduceLeDiff, Nat.reduceAdd, Nat.reduceMul, Nat.reduceSub, reduceCtorEq, l32_0, l32_1, l32_2, l32_3, l32_4, l32_5, l32_6, l32_7, l32_8, l32_9, l32_10, l32_11, l32_12, l32_13, l32_14, l32_15, l32_16, l32_17, l32_18, l32_19, l32_20, l32_21, l32_22, l32_23, l32_24, l32_25, l32_26, l32_27, l32_28, l32_29, l32_33, l32_40, l32_41, l32_44, l32_45, l32_59, l32_61, l32_91, l32_93, l32_123, l32_125, st]
          · rw [show N - 1 - L + L = N - 1 by omega] at g2
            rw [if_pos g1]
            exact ⟨s3, g2, g3⟩
end TWE
