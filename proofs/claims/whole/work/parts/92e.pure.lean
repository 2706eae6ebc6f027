/-! ===== PURE: each and fold (1) ===== -/
section WLK
variable {N : Nat} {X : Nat → Option zz_C} {t t' : cS} {s s' s0 s1 s2 : mS} {b : Nat → Nat} {n p e i i0 op D D' : Nat} {code code1 code2 fl : List Ins} {vs : List (List Nat)} {cl : List Cn} {W W' : List Wt} {cu cu' : List Nat} {fs : Nat × Nat × Nat} {al : Int32} {rk : Nat → List Value → cS → kO} {Z : List (Nat × Nat)} {ah : Option (Nat × Nat)}
/-- what goes over is written, and its call noted -/
theorem PE.wk {r pl npl : Nat} {ls : List Nat} (h : PE b n p e i op D code code vs cl W (List.replicate r 0 ++ cu) fs t s) (hr : r = 1 ∨ r = 2) (hls : okL ls ∧ ls.length ≤ 8) (hnp : npl ≤ 1600) (hD : D' + 3 ≤ D) : ∃ t1 t2 t3 t4 s1 s2 s3, (cf_209 N X p (Int32.ofNat 25) (Int32.ofNat 0) (Int32.ofNat pl) t = some (t1, .inl (some (.int (Int32.ofNat (cx code))))) ∧ kP t1 2 1 = some p) ∧ (cf_209 N X p (if r = 1 then Int32.ofNat 13 else Int32.ofNat 15) (Int32.ofNat 0) (Int32.ofNat pl) t1 = some (t2, .inl (some (.int (Int32.ofNat (cx code + 1))))) ∧ kP t2 2 1 = some p) ∧ (cf_198 N X (Int32.ofNat (cx code + 1)) (Int64.ofNat (evB 32 ls)) (Int32.ofNat npl) (Int32.ofNat r) t2 = some (t3, .inl none) ∧ kP t3 2 1 = some p) ∧ cf_209 N X p (if r = 1 then Int32.ofNat 14 else Int32.ofNat 16) (Int32.ofNat (cx code + 1)) (Int32.ofNat pl) t3 = some (t4, .inl (some (.int (Int32.ofNat (cx code + 2))))) ∧ mf_271 N (Int32.ofNat 10) (Int32.ofNat (27 + r)) (Int32.ofNat 0) (Int32.ofNat pl) s = some (s1, some (.int (Int32.ofNat (ob0 e + rl code)))) ∧ mf_271 N (Int32.ofNat 11) (Int32.ofNat (27 + r)) (Int32.ofNat 0) (Int32.ofNat pl) s1 = some (s2, some (.int (Int32.ofNat (ob0 e + rl code + 1)))) ∧ mf_273 N (Int32.ofNat (ob0 e + rl code + 1)) (Int64.ofNat (evB 27 ls)) (Int32.ofNat r) (Int32.ofNat npl) s2 = some (s3, none) ∧ PE b n p e i op D' (code ++ [(10, unk, r, 0, Int32.ofNat pl, 0, 0)]) (code ++ [(10, unk, r, 0, Int32.ofNat pl, 0, 0)]) vs (cl ++ [(code.length, 1, ls, npl, r)]) W (0 :: cu) fs t4 s3 ∧ FR p e t t4 s s3 ∧ fO e s s1 ∧ fO e s1 s2 := by
  have hrl := h.rle
  obtain ⟨h1, hc, hrc, ⟨w1, w2, w3⟩, hW, hV, k1, k2, k3, k4, k5, k6, k7⟩ := h
  have hp := hc.2.1
  obtain ⟨hi, e5, e6, e7, hkk, ho, he, hlt, hll⟩ := h1.now
  have hrm : rmG t := h1.1.2.2.2.2.2.2.2
  have hcx : cx code < 6450 := by omega
  have eE : ∀ k f, eC p k f → ¬ (k = 3) ∧ ¬ (k = 2 ∧ (f = 2 ∨ f = 10 ∨ f = 11)) := fun k f z => by rcases hp with y | y <;> omega
  have eA : ∀ k, aC p k → ¬ (k = 4 ∨ k = 5 ∨ k = 6) := fun k z => by rcases hp with y | y <;> omega
  obtain ⟨t1, a1, a2, a3, a4⟩ := c_emit (N := N) (X := X) (k := Int32.ofNat 25) (a := Int32.ofNat 0) (v := Int32.ofNat pl) hc hrm (by rw [CA_len]; omega)
  rw [CA_len] at a1
  have q1 : pR b n i op t1 s := h1.kC a3 a4 eE eA
  obtain ⟨t2, b1, b2, b3, b4⟩ := c_emit (N := N) (X := X) (k := if r = 1 then Int32.ofNat 13 else Int32.ofNat 15) (a := Int32.ofNat 0) (v := Int32.ofNat pl) a2 q1.1.2.2.2.2.2.2.2 (by rw [List.length_append, CA_len, List.length_singleton]; omega)
  rw [List.length_append, CA_len, List.length_singleton] at b1
  have q2 : pR b n i op t2 s := q1.kC b3 b4 eE eA
  have cl2 : cCl t2 (cl.map (cK code)) := (k1.keep a3 (fun z => by rcases hp with y | y <;> omega) (fun _ z => by rcases hp with y | y <;> omega)).keep b3 (fun z => by rcases hp with y | y <;> omega) (fun _ z => by rcases hp with y | y <;> omega)
  obtain ⟨t3, c1, c2, c3, c4⟩ := c_note (N := N) (X := X) (a := Int32.ofNat (cx code + 1)) (v := Int64.ofNat (evB 32 ls)) (c := Int32.ofNat npl) (d := Int32.ofNat r) cl2 q2.1.2.2.2.2.2.2.2 (by rw [List.length_map]; omega)
  have q3 : pR b n i op t3 s := q2.kC c3 c4 (fun k f z => by omega) (fun k z => by omega)
  have cd3 := b2.keep c3 (fun z => by rcases hp with y | y <;> omega) (fun k z => by rcases hp with y | y <;> omega) (c3.p21 (by omega))
  obtain ⟨t4, d1, d2, d3, d4⟩ := c_emit (N := N) (X := X) (k := if r = 1 then Int32.ofNat 14 else Int32.ofNat 16) (a := Int32.ofNat (cx code + 1)) (v := Int32.ofNat pl) cd3 q3.1.2.2.2.2.2.2.2 (by rw [List.length_append, List.length_append, CA_len, List.length_singleton, List.length_singleton]; omega)
  rw [List.length_append, List.length_append, CA_len, List.length_singleton, List.length_singleton] at d1
  have q4 : pR b n i op t4 s := q3.kC d3 d4 eE eA
  have cl4 := c2.keep d3 (fun z => by rcases hp with y | y <;> omega) (fun _ z => by rcases hp with y | y <;> omega)
  obtain ⟨s1, r1, r2, r3⟩ := r_order (N := N) (x1 := Int32.ofNat 10) (x2 := Int32.ofNat (27 + r)) (x3 := Int32.ofNat 0) (x4 := Int32.ofNat pl) hrc (by rw [RA_len]; omega)
  rw [RA_len] at r1
  obtain ⟨s2, u1, u2, u3⟩ := r_order (N := N) (x1 := Int32.ofNat 11) (x2 := Int32.ofNat (27 + r)) (x3 := Int32.ofNat 0) (x4 := Int32.ofNat pl) r2 (by rw [List.length_append, RA_len, List.length_singleton]; omega)
  rw [List.length_append, RA_len, List.length_singleton, ← Nat.add_assoc] at u1
  have f12 := r3.tr u3
  have rl2 := k2.keep (f12.1 29 (by omega)) (fun q _ => f12.2.2.1 q (by omega)) (f12.2.2.2.1 33)
  obtain ⟨s3, v1, v2, v3⟩ := r_called (N := N) (a := Int32.ofNat (ob0 e + rl code + 1)) (v := Int64.ofNat (evB 27 ls)) (c := Int32.ofNat r) (d := Int32.ofNat npl) rl2 (by rw [List.length_map]; omega)
  have hcI : cI code (posC code code.length) (10, unk, r, 0, Int32.ofNat pl, 0, 0) = [(Int32.ofNat 25, Int32.ofNat 0, Int32.ofNat pl), (if r = 1 then Int32.ofNat 13 else Int32.ofNat 15, Int32.ofNat 0, Int32.ofNat pl), (if r = 1 then Int32.ofNat 14 else Int32.ofNat 16, Int32.ofNat (cx code + 1), Int32.ofNat pl)] := by
    rw [posC_len]
    rfl
  have hrI : rI e code (10, unk, r, 0, Int32.ofNat pl, 0, 0) = [(Int32.ofNat 10, Int32.ofNat (27 + r), Int32.ofNat 0, 0, Int32.ofNat pl), (Int32.ofNat 11, Int32.ofNat (27 + r), Int32.ofNat 0, 0, Int32.ofNat pl)] := rfl
  have tg : tgO code.length (10, unk, r, 0, Int32.ofNat pl, 0, 0) := Or.inl rfl
  have e1 : cl.map (cK (code ++ [(10, unk, r, 0, Int32.ofNat pl, 0, 0)])) = cl.map (cK code) := List.map_congr_left fun x hx => cK_app (k3.1 x hx).1
  have e2 : cl.map (rK e (code ++ [(10, unk, r, 0, Int32.ofNat pl, 0, 0)])) = cl.map (rK e code) := List.map_congr_left fun x hx => rK_app (k3.1 x hx).1
  have e3 : cK (code ++ [(10, unk, r, 0, Int32.ofNat pl, 0, 0)]) (code.length, 1, ls, npl, r) = (Int32.ofNat (cx code + 1), Int64.ofNat (evB 32 ls), Int32.ofNat npl, Int32.ofNat r) := by
    show (Int32.ofNat (posC _ code.length + 1), _) = _
    rw [posC_e]
  have e4 : rK e (code ++ [(10, unk, r, 0, Int32.ofNat pl, 0, 0)]) (code.length, 1, ls, npl, r) = (Int32.ofNat (ob0 e + rl code + 1), Int64.ofNat (evB 27 ls), Int32.ofNat r, Int32.ofNat npl) := by
    show (Int32.ofNat (ob0 e + posR _ code.length + 1), _) = _
    rw [posR_e]
  have hwf : wfC (code ++ [(10, unk, r, 0, Int32.ofNat pl, 0, 0)]) := wfC_app w1 (Or.inl rfl)
  have G : gL (eQ p) (aQ p) t t4 := ((a3.mono (fun k f z => Or.inr (Or.inr z)) (fun k z => by unfold aQ; omega)).tr (b3.mono (fun k f z => Or.inr (Or.inr z)) (fun k z => by unfold aQ; omega))).tr ((c3.mono (fun k f z => Or.inr (Or.inl (by omega))) (fun k z => by unfold aQ; omega)).tr (d3.mono (fun k f z => Or.inr (Or.inr z)) (fun k z => by unfold aQ; omega)))
  have g4 : kI t4 2 4 = kI t 2 4 ∧ kB t4 7 = kB t 7 := by
    have n1 : ¬ eC p 2 4 := fun z => by rcases hp with y | y <;> omega
    have n2 : ¬ aC p 7 := fun z => by rcases hp with y | y <;> omega
    exact ⟨(d3.1 2 4 n1).trans ((c3.1 2 4 (by omega)).trans ((b3.1 2 4 n1).trans (a3.1 2 4 n1))), (d3.2.2.1 7 n2 (by decide)).2.1.trans ((c3.2.2.1 7 (by omega) (by decide)).2.1.trans ((b3.2.2.1 7 n2 (by decide)).2.1.trans (a3.2.2.1 7 n2 (by decide)).2.1))⟩
  refine ⟨t1, t2, t3, t4, s1, s2, s3, ⟨a1, a2.1⟩, ⟨b1, b2.1⟩, ⟨c1, cd3.1⟩, d1, r1, u1, v1, ⟨?_, ?_, ?_, ⟨hwf, hwf, ⟨[], by rw [List.append_nil]⟩⟩, ?_, ?_, ?_, ?_, ?_, ?_, ?_, ?_, ?_⟩, ⟨G, (fO.Q f12).tr (fN.Q v3)⟩, r3, u3⟩
  · exact (q4.kR (s' := s2) (fun q z => f12.1 q (by omega)) (f12.2.1 7) (f12.2.2.1 2 (by omega)) (f12.2.2.2.1 0)).kR (fun q z => v3.1 q (by omega)) (v3.2.1 7 (fun z => z)) (v3.2.2.1 2 (by omega)) (v3.2.2.2 0 (by omega))
  · rw [CA_app w1 tg, hcI]
    rw [List.append_assoc, List.append_assoc] at d2
    exact d2
  · rw [RA_app w1 tg, hrI]
    rw [List.append_assoc] at u2
    exact rCd.keep u2 (v3.1 12 (by omega)) (v3.1 28 (by omega)) (fun q _ => v3.2.2.1 q (by omega))
  · exact (hW.keep (f12.1 44 (by omega)) (fun q _ => f12.2.2.1 q (by omega)) (f12.2.2.2.1 42)).keep (v3.1 44 (by omega)) (fun q _ => v3.2.2.1 q (by omega)) (v3.2.2.2 42 (by omega))
  · exact hV.keep g4.1 g4.2 ((v3.1 22 (by omega)).trans (f12.1 22 (by omega))) ((v3.2.2.2 21 (by omega)).trans (f12.2.2.2.1 21))
  · rw [List.map_append, e1, List.map_singleton, e3]
    exact cl4
  · rw [List.map_append, e2, List.map_singleton, e4]
    exact v2
  · refine ⟨fun x hx => ?_, fun m hm hk => ?_⟩
    · rw [List.mem_append, List.mem_singleton] at hx
      rcases hx with hx | hx
      · exact (k3.1 x hx).app
      · rw [hx]
        exact ⟨by show code.length < (code ++ [_]).length; rw [List.length_append, List.length_singleton]; omega, hls.1, hls.2, hnp, by show r ≤ 2000; omega, by rw [getD_last], Or.inr ⟨by rw [getD_last], rfl⟩⟩
    · rw [List.length_append, List.length_singleton] at hm
      by_cases z : m < code.length
      · rw [getD_app z] at hk
        obtain ⟨x, hx, he⟩ := k3.2 m z hk
        exact ⟨x, List.mem_append_left _ hx, he⟩
      · exact ⟨_, List.mem_append_right _ (List.mem_singleton.mpr rfl), by show code.length = m; omega⟩
  · exact k4.app (Nat.le_refl _) (by show (if r ≤ 2 then (pop0 r (List.replicate r 0 ++ cu)).map (0 :: ·) else none) = _; rw [if_pos (by omega), pop0_app]; rfl) ⟨by simp, by simp, by simp, fun _ => hr, by simp, by simp, by simp⟩ (Or.inl ⟨rfl, by unfold noJ; simp⟩)
  · rw [rl_app, rl_one, xl_app, xl_one, List.length_append, List.length_singleton]
    show rl code + 2 + (xl code + 0) + (cl.length + 1) + D' ≤ i + 1
    omega
  · rw [rl_app, rl_one, List.length_append, List.length_singleton]
    show cl.length + 1 ≤ rl code + 2
    omega
  · rw [cx_app, cx_one]
    show cx code + 3 + 3 * D' ≤ 4 * i + 4
    omega
/-- ends1 of each and fold -/
theorem PE.e1w {w : Wt} (h : PE b n p e i op D code code vs cl (W ++ [w]) cu fs t s) (hq : w.1 = 8) (ha : w.2.1 = 28 ∨ w.2.1 = 29) (hc2 : w.2.2.1 < 2000) : ∃ s1, PE b n p e i op D code code vs cl (W ++ [inc w]) cu fs t s1 ∧ FR p e t t s s1 ∧ ((w.2.1 = 29 ∧ w.2.2.1 = 0 → mf_288 N s = mo_bv (mf_267 N (Int32.ofNat 44) s1) (fun s2 => some (s2, some (.int (Int32.ofNat 0))))) ∧ (¬ (w.2.1 = 29 ∧ w.2.2.1 = 0) → mf_288 N s = mo_bi (mf_290 N s1) (fun s2 y => mf_288_189 N y s2))) := by
  have h5 := h.2.2.2.2.1
  obtain ⟨q0, q1, q2, q3, q4, q5, q6, q7⟩ := w_last h5
  obtain ⟨c1, c2⟩ := h.nc
  obtain ⟨hi, e5, e6, e7, hkk, ho, he, hlt, hll⟩ := c1.1.now
  obtain ⟨r0, r1, r2, r3, r4, -⟩ := w_last c1.2.2.2.2.1
  have g1 := r_isSign (N := N) (c := 44) hkk (by decide) (by decide)
  have hW8 : W.length < 80 := by omega
  have hst : mf_288 N s = mo_bi (mf_263 N (Int32.ofNat 44) (mA s 40 (upd (s.2.2.1 40) W.length (Int32.ofNat (w.2.2.1 + 1))))) (fun s1 y => mf_288_30 N (Int32.ofNat W.length) (Int32.ofNat w.1) y s1) := by
    unfold mf_288 mf_288_0
    simp (disch := omega) only [ev_S, ev_P, ↓reduceIte, Nat.reduceEqDiff, Nat.reduceLeDiff, Nat.reduceAdd, Nat.reduceMul, Nat.reduceSub, reduceCtorEq, l32_0, l32_1, l32_2, l32_3, l32_4, l32_5, l32_6, l32_7, l32_8, l32_9, l32_10, l32_11, l32_12, l32_13, l32_14, l32_15, l32_16, l32_17, l32_18, l32_19, l32_20, l32_21, l32_22, l32_23, l32_24, l32_25, l32_26, l32_27, l32_28, l32_29, l32_33, l32_40, l32_41, l32_44, l32_45, l32_59, l32_61, l32_91, l32_93, l32_123, l32_125, q0, q2, q4]
  have r3 : (mA s 40 (upd (s.2.2.1 40) W.length (Int32.ofNat (w.2.2.1 + 1)))).2.2.1 39 W.length = Int32.ofNat w.2.1 := r3
  have r4 : (mA s 40 (upd (s.2.2.1 40) W.length (Int32.ofNat (w.2.2.1 + 1)))).2.2.1 40 W.length = Int32.ofNat (w.2.2.1 + 1) := r4
  generalize hS : mA s 40 (upd (s.2.2.1 40) W.length (Int32.ofNat (w.2.2.1 + 1))) = sn at *
  refine ⟨sn, c1, c2, fun z => ?_, fun z => ?_⟩
  · rw [hst, g1, hq]
    rw [z.1] at r3
    rw [z.2] at r4
    unfold mf_288_30 mf_288_36 mf_288_89 mf_288_95 mf_288_106 mf_288_116 mf_288_122
    simp (disch := omega) only [ev_S, ev_P, ↓reduceIte, Nat.reduceEqDiff, Nat.reduceLeDiff, Nat.reduceAdd, Nat.reduceMul, Nat.reduceSub, reduceCtorEq, l32_0, l32_1, l32_2, l32_3, l32_4, l32_5, l32_6, l32_7, l32_8, l32_9, l32_10, l32_11, l32_12, l32_13, l32_14, l32_15, l32_16, l32_17, l32_18, l32_19, l32_20, l32_21, l32_22, l32_23, l32_24, l32_25, l32_26, l32_27, l32_28, l32_29, l32_33, l32_40, l32_41, l32_44, l32_45, l32_59, l32_61, l32_91, l32_93, l32_123, l32_125, r3, r4]
  · rw [hst, g1, hq]
    have tail : ∀ y : Nat, y ≤ 1 → mf_288_124 N (Int32.ofNat W.length) (Int32.ofNat 8) (Int32.ofNat y) sn = mo_bi (mf_290 N sn) (fun s2 y => mf_288_189 N y s2) := fun y hy => by
      unfold mf_288_124 mf_288_162 mf_288_166 mf_288_185
      by_cases y0 : y = 0
      · subst y0
        simp (disch := omega) only [ev_S, ev_P, ↓reduceIte, Nat.reduceEqDiff, Nat.reduceLeDiff, Nat.reduceAdd, Nat.reduceMul, Nat.reduceSub, reduceCtorEq, l32_0, l32_1, l32_2, l32_3, l32_4, l32_5, l32_6, l32_7, l32_8, l32_9, l32_10, l32_11, l32_12, l32_13, l32_14, l32_15, l32_16, l32_17, l32_18, l32_19, l32_20, l32_21, l32_22, l32_23, l32_24, l32_25, l32_26, l32_27, l32_28, l32_29, l32_33, l32_40, l32_41, l32_44, l32_45, l32_59, l32_61, l32_91, l32_93, l32_123, l32_125]
      · have y1 : y = 1 := by omega
        subst y1
        simp (disch := omega) only [ev_S, ev_P, ↓reduceIte, Nat.reduceEqDiff, Nat.reduceLeDiff, Nat.reduceAdd, Nat.reduceMul, Nat.reduceSub, reduceCtorEq, l32_0, l32_1, l32_2, l32_3, l32_4, l32_5, l32_6, l32_7, l32_8, l32_9, l32_10, l32_11, l32_12, l32_13, l32_14, l32_15, l32_16, l32_17, l32_18, l32_19, l32_20, l32_21, l32_22, l32_23, l32_24, l32_25, l32_26, l32_27, l32_28, l32_29, l32_33, l32_40, l32_41, l32_44, l32_45, l32_59, l32_61, l32_91, l32_93, l32_123, l32_125]
    have hu : ∃ u : Nat, u ≤ 1 ∧ (if (TL b n)[i].1 = 44 then (1 : Int32) else 0) = Int32.ofNat u := by
      split
      · exact ⟨1, by omega, rfl⟩
      · exact ⟨0, by omega, rfl⟩
    obtain ⟨u, hu1, hu2⟩ := hu
    rw [hu2]
    have tl := tail u hu1
    unfold mf_288_30 mf_288_36 mf_288_89 mf_288_95 mf_288_106
    rcases ha with z1 | z1
    · rw [z1] at r3
      simp (disch := omega) only [ev_S, ev_P, ↓reduceIte, Nat.reduceEqDiff, Nat.reduceLeDiff, Nat.reduceAdd, Nat.reduceMul, Nat.reduceSub, reduceCtorEq, l32_0, l32_1, l32_2, l32_3, l32_4, l32_5, l32_6, l32_7, l32_8, l32_9, l32_10, l32_11, l32_12, l32_13, l32_14, l32_15, l32_16, l32_17, l32_18, l32_19, l32_20, l32_21, l32_22, l32_23, l32_24, l32_25, l32_26, l32_27, l32_28, l32_29, l32_33, l32_40, l32_41, l32_44, l32_45, l32_59, l32_61, l32_91, l32_93, l32_123, l32_125, r3, tl]
    · rw [z1] at r3
      have z2 : ¬ w.2.2.1 = 0 := fun y => z ⟨z1, y⟩
      have z3 : ¬ w.2.2.1 + 1 = 1 := by omega
      simp (disch := omega) only [ev_S, ev_P, ↓reduceIte, Nat.reduceEqDiff, Nat.reduceLeDiff, Nat.reduceAdd, Nat.reduceMul, Nat.reduceSub, reduceCtorEq, l32_0, l32_1, l32_2, l32_3, l32_4, l32_5, l32_6, l32_7, l32_8, l32_9, l32_10, l32_11, l32_12, l32_13, l32_14, l32_15, l32_16, l32_17, l32_18, l32_19, l32_20, l32_21, l32_22, l32_23, l32_24, l32_25, l32_26, l32_27, l32_28, l32_29, l32_33, l32_40, l32_41, l32_44, l32_45, l32_59, l32_61, l32_91, l32_93, l32_123, l32_125, r3, r4, z3, tl]
end WLK
