/-! ===== PURE: statements (14): try, its end ===== -/
section TRY
variable {N : Nat} {X : Nat → Option zz_C} {t t' t1 t2 : cS} {s s' s1 s2 : mS} {b : Nat → Nat} {n p e i i' op op' D D' : Nat} {code code1 code2 l codeB segB : List Ins} {vs vs' : List (List Nat)} {cl : List Cn} {W : List Wt} {cu cu' : List Nat} {fs fs' : Nat × Nat × Nat} {Bs : List (Int32 × Int32 × Int32)} {a m z : Nat} {c c' : Ins}
theorem r_hereF {m : Nat} (h : fU e m s) : mf_272 N s = some (s, some (.int (Int32.ofNat (ob0 e + m)))) := by
  obtain ⟨h1, h2, h3, h4, h5, B, h6, h7⟩ := h
  have e9 : Int32.ofNat 1 - Int32.ofNat e = Int32.ofNat (1 - e) := ev_sub h4
  have e4 : Int32.ofNat 4000 * Int32.ofNat (1 - e) = Int32.ofNat (ob0 e) := i32mul
  unfold mf_272 mf_272_0
  simp (disch := omega) only [h5, h3, l32_1, l32_4000, e9, e4, i32add]
theorem tl_seta {m : Nat} {v : Int32} (hm : ob0 e ≤ m ∧ m < ob0 e + 4000) : tl e s (mA s 24 (upd (s.2.2.1 24) m v)) := by
  refine ⟨rfl, rfl, ⟨fun _ _ => rfl, fun _ _ => rfl, fun q r => if_neg (by omega), fun _ _ => rfl, fun q y r1 r2 => ?_, Kd.kp rfl (fun q z => if_neg (by omega)) rfl⟩⟩
  show (if q = 24 then upd (s.2.2.1 24) m v else s.2.2.1 q) y = _
  split
  · rename_i z
    rw [upd_n (by omega), z]
  · rfl
theorem tl_setb {m : Nat} {v : Int32} (hm : ob0 e ≤ m ∧ m < ob0 e + 4000) : tl e s (mA s 25 (upd (s.2.2.1 25) m v)) := by
  refine ⟨rfl, rfl, ⟨fun _ _ => rfl, fun _ _ => rfl, fun q r => if_neg (by omega), fun _ _ => rfl, fun q y r1 r2 => ?_, Kd.kp rfl (fun q z => if_neg (by omega)) rfl⟩⟩
  show (if q = 25 then upd (s.2.2.1 25) m v else s.2.2.1 q) y = _
  split
  · rename_i z
    rw [upd_n (by omega), z]
  · rfl
/-- the end of a try behind a fault -/
theorem r_219F {m q : Nat} {x2 y2 : Int32} (h : fU e m s) (hq : q ≤ 3000) : ∃ s', mf_278_219 N (Int32.ofNat (ob0 e + q)) x2 (Int32.ofNat (ob0 e + q)) y2 s = some (s', none) ∧ tl e s s' := by
  have ho4 : ob0 e ≤ 4000 := by unfold ob0; omega
  have h1 : fU e m (mA s 25 (upd (s.2.2.1 25) (ob0 e + q) y2)) := h
  have hh := r_hereF (N := N) h1
  have h2 : fU e m (mA (mA s 25 (upd (s.2.2.1 25) (ob0 e + q) y2)) 24 (upd ((mA s 25 (upd (s.2.2.1 25) (ob0 e + q) y2)).2.2.1 24) (ob0 e + q) (Int32.ofNat (ob0 e + m)))) := h
  obtain ⟨s3, c1, c2⟩ := r_blockF (N := N) (x1 := Int32.ofNat 6) (x2 := x2) (x3 := Int32.ofNat 0) h2
  refine ⟨s3, ?_, (tl_setb (m := ob0 e + q) (v := y2) (by omega)).tr ((tl_seta (m := ob0 e + q) (by omega)).tr c2)⟩
  generalize ob0 e = o at *
  generalize hs1 : mA s 25 (upd (s.2.2.1 25) (o + q) y2) = s1 at *
  unfold mf_278_219 mf_278_229 mf_278_238
  simp (disch := omega) only [ev_S, ev_P, ↓reduceIte, Nat.reduceEqDiff, Nat.reduceLeDiff, Nat.reduceAdd, Nat.reduceMul, Nat.reduceSub, reduceCtorEq, l32_0, l32_1, l32_2, l32_3, l32_4, l32_5, l32_6, l32_7, l32_8, l32_9, l32_10, l32_11, l32_12, l32_13, l32_14, l32_15, l32_16, l32_17, l32_18, l32_19, l32_20, l32_21, l32_22, l32_23, l32_24, l32_25, l32_26, l32_27, l32_28, l32_29, l32_33, l32_40, l32_41, l32_44, l32_45, l32_59, l32_61, l32_91, l32_93, l32_123, l32_125, hs1, hh, c1, l32_8000]
theorem r_210TF {m q : Nat} {x2 : Int32} (h : fU e m s) (hq : q ≤ 3000) : ∃ s', mf_278_210 N (Int32.ofNat (ob0 e + q)) x2 s = some (s', none) ∧ tl e s s' := by
  obtain ⟨x, hx1, hx2, h9⟩ := h.1
  obtain ⟨s1, a1, a2⟩ := r_219F (N := N) (x2 := x2) (y2 := Int32.ofNat 0) h hq
  refine ⟨s1, ?_, a2⟩
  unfold mf_278_210
  rw [r_nameF h9 ⟨hx1, hx2⟩]
  exact a1
/-- the end of a try: up to the second block -/
theorem p_tryE {rk : Nat → List Value → cS → kO} (hN : 170000 ≤ N) (hX : oX N X) (h : PE b n p e i op D codeB codeB vs cl W (3 :: cu) (fs.1, codeB.length, fs.2.2) t s) (hf1 : fs.1 ≤ code.length) (hb : rB s Bs) (hpB : codeB = code ++ [((23, unk, 0, 0, 0, 0, 0) : Ins)] ++ segB) (hl : lyo code = some (5 :: cu)) (J2 : JP codeB (code.length + 1) codeB.length) : (∃ t' s' codeD vs' y0, cf_185_23 N X rk (Int32.ofNat (cx code)) t = cf_185_94 N X rk (Int32.ofNat (cx codeB)) y0 t' ∧ mf_278_184 N (Int32.ofNat (ob0 e + rl code)) s = mo_bv (mf_276 N (Int32.ofNat 6) (Int32.ofNat (ob0 e + rl codeB)) (Int32.ofNat 0) s') (fun s => some (s, none)) ∧ ((∃ l, codeD = code ++ l) ∧ codeD.length = codeB.length + 2 ∧ codeD.getD codeB.length dI = (24, unk, 0, 0, 0, 0, 0) ∧ lyo (codeD.take codeB.length) = some (3 :: cu) ∧ posC codeD codeB.length = cx codeB ∧ posR codeD codeB.length = rl codeB) ∧ PE b n p e (i + 2) op D codeD codeD vs' cl W cu (fs.1, codeB.length + 2, fs.2.2) t' s' ∧ rB s' Bs ∧ (∀ k, code.length ≤ k → k < codeD.length → ¬ k = codeB.length → okJ codeD code.length k) ∧ FR p e t t' s s') ∨ (∃ t' s', cf_185_23 N X rk (Int32.ofNat (cx code)) t = some (t', .inr ()) ∧ mf_278_184 N (Int32.ofNat (ob0 e + rl code)) s = some (s', none) ∧ pF t' s' ∧ FXs p e t t' s s') := by
  have hP : kP t 2 1 = some p := h.2.1.1
  have hp : (p = 12 ∨ p = 21) = True := eq_true h.2.1.2.1
  have hpp := h.2.1.2.1
  obtain ⟨hl1, hl2⟩ := h.len
  have hrl := h.rle
  have ho4 : ob0 e ≤ 4000 := by unfold ob0; omega
  have hpB2 : codeB = code ++ ([((23, unk, 0, 0, 0, 0, 0) : Ins)] ++ segB) := by rw [hpB, List.append_assoc]
  have hlB : code.length + 1 ≤ codeB.length := by
    rw [hpB2, List.length_append, List.length_append, List.length_singleton]
    omega
  have hrE : rl code ≤ rl codeB := by
    rw [hpB2, rl_app]
    omega
  obtain ⟨hi, e5, e6, e7, hkk, ho, he, hlt, hll⟩ := h.1.now
  have h6 : s.1 6 = Int32.ofNat (TL b n)[i].2.2.2.1 := hkk.1
  generalize hpl : (TL b n)[i].2.2.2.1 = plO at *
  have hk0 := h
  obtain ⟨h1, hc', hr', ⟨w1, w2, w3⟩, hW, hV, k1, k2, k3, k4, k5, k6, k7⟩ := hk0
  generalize hC' : codeB ++ [((24, unk, 0, 0, 0, 0, 0) : Ins)] = codeC
  have hlC : codeC.length = codeB.length + 1 := by rw [← hC', List.length_append, List.length_singleton]
  have hpC : codeC = code ++ ([((23, unk, 0, 0, 0, 0, 0) : Ins)] ++ segB ++ [((24, unk, 0, 0, 0, 0, 0) : Ins)]) := by
    rw [← hC', hpB2, List.append_assoc]
  have hcd : codeC.getD code.length dI = (23, unk, 0, 0, 0, 0, 0) := by
    rw [← hC', getD_appl (by omega), hpB, getD_appl (by rw [List.length_append, List.length_singleton]; omega)]
    exact getD_last
  have tgG : tgO codeB.length (24, unk, 0, 0, 0, 0, 0) := Or.inl rfl
  have hCA : CA codeC = CA codeB ++ [(Int32.ofNat 11, Int32.ofNat 0, Int32.ofNat 0)] := by
    rw [← hC', CA_app w1 tgG]
    rfl
  have hRA : RA e codeC = RA e codeB ++ [(Int32.ofNat 24, Int32.ofNat 0, Int32.ofNat 0, 0, Int32.ofNat 0)] := by
    rw [← hC', RA_app w1 tgG]
    rfl
  have hcx : cx codeC = cx codeB + 1 := by
    rw [← hC', cx_app, cx_one]
    rfl
  have hxC : xl codeC = xl codeB := by
    rw [← hC', xl_app, xl_one]
    rfl
  have hrC : rl codeC = rl codeB + 1 := by
    rw [← hC', rl_app, rl_one]
    rfl
  have pC : posC codeC code.length = cx code := by rw [hpC]; exact posC_e
  have pRR : posR codeC code.length = rl code := by rw [hpC]; exact posR_e
  have tc : tgC codeC codeC.length 0 = Int32.ofNat (cx codeC) := tgC_end (by omega)
  have tr : tgR e codeC codeC.length 0 = Int32.ofNat (ob0 e + rl codeC) := tgR_end (by omega)
  -- the reference: the order, op1
  obtain ⟨s5, r1, r2, r3⟩ := r_order (N := N) (x1 := Int32.ofNat 24) (x2 := Int32.ofNat 0) (x3 := Int32.ofNat 0) (x4 := Int32.ofNat 0) hr' (by rw [RA_len]; omega)
  rw [RA_len] at r1
  rw [← hRA] at r2
  have h65 : s5.1 6 = Int32.ofNat plO := by rw [r3.1 6 (by omega)]; exact h6
  have kk : ∀ (j r : Nat) (q : Int32), ((23, j, r, (0 : Int32), q, (0 : Int32), (0 : Int32)) : Ins).1 = (codeC.getD code.length dI).1 := fun j r q => by rw [hcd]
  obtain ⟨y1, y2⟩ := r_amdd (m := code.length) (c' := (23, unk, 0, 0, Int32.ofNat plO, 0, 0)) (x1 := Int32.ofNat 23) (x2 := Int32.ofNat 0) (x3 := Int32.ofNat 0) (x4 := Int32.ofNat 0) (x5 := Int32.ofNat 0) (v := Int32.ofNat plO) r2 (by omega) (rlen_k (kk _ _ _)) (by rw [hcd]; rfl) rfl
  rw [pRR] at y1 y2
  have f6 := r3.tr y2
  generalize hs6 : mA s5 27 (upd (s5.2.2.1 27) (ob0 e + rl code) (Int32.ofNat plO)) = s6 at *
  -- the class: the act, its target
  obtain ⟨t5, g1, g2, g3, g4⟩ := c_emit (N := N) (X := X) (k := Int32.ofNat 11) (a := Int32.ofNat 0) (v := Int32.ofNat 0) hc' h1.1.2.2.2.2.2.2.2 (by rw [CA_len]; omega)
  rw [CA_len] at g1
  rw [← hCA] at g2
  obtain ⟨t6, d1, d2, d3, d4⟩ := c_amd (N := N) (X := X) (m := code.length) (c' := (23, codeC.length, 0, 0, 0, 0, 0)) (x := Int32.ofNat 10) (a0 := Int32.ofNat 0) (y := Int32.ofNat 0) (v := Int32.ofNat (cx codeC)) (lc := []) g2 (by omega) (by omega) (clen_k (kk _ _ _)) (by rw [hcd]; rfl) (by rw [← tc]; rfl)
  rw [pC] at d1
  have eE : ∀ k f, eC p k f → ¬ (k = 3) ∧ ¬ (k = 2 ∧ (f = 2 ∨ f = 10 ∨ f = 11)) := fun k f z => by rcases hpp with y | y <;> omega
  have eA : ∀ k, aC p k → ¬ (k = 4 ∨ k = 5 ∨ k = 6) := fun k z => by rcases hpp with y | y <;> omega
  have q6 : pR b n i op t6 s6 := ((h1.kC g3 g4 eE eA).kC d3 d4 (fun k f z => z.elim) eA).kR (fun q z => f6.1 q (by omega)) (f6.2.1 7) (f6.2.2.1 2 (by omega)) (f6.2.2.2.1 0)
  have hV6 : VR vs t6 s6 := hV.keep ((d3.1 2 4 (fun z => z)).trans (g3.1 2 4 (fun z => by rcases hpp with y | y <;> omega))) ((d3.2.2.1 7 (fun z => by rcases hpp with y | y <;> omega) (by decide)).2.1.trans (g3.2.2.1 7 (fun z => by rcases hpp with y | y <;> omega) (by decide)).2.1) (f6.1 22 (by omega)) (f6.2.2.2.1 21)
  have G6 : gL (eM p) (aM p) t t6 := (g3.mono (fun k f z => Or.inr (Or.inr z)) (fun k z => by unfold aM; omega)).tr (d3.mono (fun _ _ z => z.elim) (fun k z => by unfold aM; omega))
  have hP5 : kP t5 2 1 = some p := g2.1
  have hlen : cf_203 N X p t5 = some (t5, .inl (some (.int (Int32.ofNat (cx codeC))))) := by
    have := c_len (N := N) (X := X) g2
    rw [CA_len] at this
    exact this
  have e66 : kI t6 3 6 = Int32.ofNat plO := by
    rw [d3.1 3 6 (fun z => z), g3.1 3 6 (fun z => by rcases hpp with y | y <;> omega)]
    exact e6
  have hR0 : cf_185_23 N X rk (Int32.ofNat (cx code)) t = ko_call 5 (cf_200 N X (zz_out + 11) t6) (fun g1 v1 => co_v v1 (cf_185_65 N X rk (Int32.ofNat (cx codeB)) (Int32.ofNat plO) g1)) := by
    unfold cf_185_23 cf_185_34 cf_185_47 cf_185_50 cf_185_57
    simp (disch := omega) only [ev_S, ev_C, ↓reduceIte, Nat.reduceEqDiff, Nat.reduceLeDiff, Nat.reduceAdd, Nat.reduceMul, Nat.reduceSub, reduceCtorEq, l32_0, l32_1, l32_2, l32_3, l32_4, l32_5, l32_6, l32_7, l32_8, l32_9, l32_10, l32_11, l32_12, l32_13, l32_14, l32_15, l32_16, l32_17, l32_18, l32_19, l32_20, l32_21, l32_22, l32_23, l32_24, l32_25, l32_26, l32_27, l32_28, l32_29, l32_33, l32_40, l32_41, l32_44, l32_45, l32_59, l32_61, l32_91, l32_93, l32_123, l32_125, hP, hp, g1, hP5, hlen, d1, c_placeNow, e66]
  have hM0 : mf_278_184 N (Int32.ofNat (ob0 e + rl code)) s = mo_bv (mf_269 N (Int32.ofNat 10) s6) (fun s1 => mf_278_210 N (Int32.ofNat (ob0 e + rl code)) (Int32.ofNat (ob0 e + rl codeB)) s1) := by
    generalize ob0 e = o at *
    unfold mf_278_184 mf_278_193
    simp (disch := omega) only [ev_S, ev_P, ↓reduceIte, Nat.reduceEqDiff, Nat.reduceLeDiff, Nat.reduceAdd, Nat.reduceMul, Nat.reduceSub, reduceCtorEq, l32_0, l32_1, l32_2, l32_3, l32_4, l32_5, l32_6, l32_7, l32_8, l32_9, l32_10, l32_11, l32_12, l32_13, l32_14, l32_15, l32_16, l32_17, l32_18, l32_19, l32_20, l32_21, l32_22, l32_23, l32_24, l32_25, l32_26, l32_27, l32_28, l32_29, l32_33, l32_40, l32_41, l32_44, l32_45, l32_59, l32_61, l32_91, l32_93, l32_123, l32_125, r1, h65, hs6, l32_8000]
  rw [hR0, hM0]
  have z6 : SZ p t6 := by
    have e : ∀ k, (k = 4 ∨ k = 5 ∨ k = 6 ∨ k = 7 ∨ k = 8 ∨ k = 9 ∨ k = 10 ∨ k = 11) → kA t6 k = kA t k ∧ kB t6 k = kB t k := fun k hk => by
      have r1 := d3.2.2.1 k (fun z => by rcases hpp with y | y <;> omega) (by omega)
      have r2 := g3.2.2.1 k (fun z => by rcases hpp with y | y <;> omega) (by omega)
      exact ⟨r1.1.trans r2.1, r1.2.1.trans r2.2.1⟩
    obtain ⟨q1, q2, q3, q4⟩ := h.sz
    refine ⟨?_, ?_, ⟨d2.2.2.2.2.1, d2.2.2.2.2.2.1, d2.2.2.2.2.2.2.2.1, d2.2.2.2.2.2.2.2.2⟩, ?_⟩
    · rw [(e 4 (by omega)).1, (e 5 (by omega)).1, (e 6 (by omega)).2]
      exact q1
    · rw [(e 8 (by omega)).1, (e 9 (by omega)).2, (e 10 (by omega)).1, (e 11 (by omega)).1]
      exact q2
    · rw [(e 7 (by omega)).2]
      exact q4
  have fT6 : ∀ s', fPs s6 s' ∨ fV s6 s' → (∃ x : Nat, 1 ≤ x ∧ x ≤ 6 ∧ s'.1 9 = Int32.ofNat x) → fU e (rl codeC) s' := fun s' hf hx => by
    have e28 : s'.1 28 = s6.1 28 ∧ s'.1 12 = s6.1 12 ∧ s'.1 37 = s6.1 37 := by
      rcases hf with hf | hf
      · exact ⟨hf.1 28 (by omega), hf.1 12 (by omega), hf.1 37 (by omega)⟩
      · exact ⟨hf.1 28 (by omega), hf.1 12 (by omega), hf.1 37 (by omega)⟩
    have b28 := y1.2.2.1
    rw [RA_len, rl_set (rlen_k (kk _ _ _))] at b28
    refine ⟨hx, by omega, e28.1.trans b28, y1.2.1, e28.2.1.trans y1.1, Bs.length, Nat.le_trans hb.2.1 (by omega), e28.2.2.trans ((f6.1 37 (by omega)).trans hb.1)⟩
  rcases p_word (N := N) (X := X) (w := 10) hN hX (by decide) q6 with ⟨t7, s7, a1, a2, a3, a4, a5⟩ | ⟨t7, s7, a1, a2, a3, a4, a5⟩
  · have a1 : cf_200 N X (zz_out + 11) t6 = some (t7, .inl none) := a1
    rw [a1, a2]
    have hV7 : VR vs t7 s7 := hV6.keep (a4.1 2 4 (by omega)) (a4.2.2.1 7 (fun z => z) (by decide)).2.1 (a5.1 22 (by omega)) (a5.2.2.2 21 (fun z => z))
    have G7 : gL (eM p) (aM p) t t7 := G6.tr (a4.mono eP_M (fun _ z => z.elim))
    have hR1 : ko_call 5 (some (t7, .inl none)) (fun g1 v1 => co_v v1 (cf_185_65 N X rk (Int32.ofNat (cx codeB)) (Int32.ofNat plO) g1)) = ko_call 5 (cf_195 N X t7) (fun g1 v1 => co_i v1 (fun y => cf_185_69 N X rk (Int32.ofNat (cx codeB)) (Int32.ofNat plO) y g1)) := rfl
    have hM1 : mo_bv (some (s7, none)) (fun s1 => mf_278_210 N (Int32.ofNat (ob0 e + rl code)) (Int32.ofNat (ob0 e + rl codeB)) s1) = mo_bi (mf_275 N s7) (fun s1 y => mf_278_219 N (Int32.ofNat (ob0 e + rl code)) (Int32.ofNat (ob0 e + rl codeB)) (Int32.ofNat (ob0 e + rl code)) y s1) := rfl
    rw [hR1, hM1]
    rcases p_name (N := N) (X := X) hN a3 hV7 with ⟨r, t8, s8, vs8, b1, b2, b3, b4, b5, b6, ⟨lv, b7⟩, bg, bf⟩ | ⟨t8, s8, b1, b2, b3, b4, b5⟩
    · rw [b1, b2]
      have y8 : rCd s8 e (RA e (codeC.set code.length (23, unk, 0, 0, Int32.ofNat plO, 0, 0))) := (y1.keep (a5.1 12 (by omega)) (a5.1 28 (by omega)) (fun q _ => a5.2.2.1 q (fun z => z))).keep (bf.1 12 (by omega)) (bf.1 28 (by omega)) (fun q _ => bf.2.2.1 q (fun z => z))
      have cs : codeC.set code.length ((23, unk, 0, 0, Int32.ofNat plO, 0, 0) : Ins) = codeC.set code.length ((23, unk, 0, 0, Int32.ofNat plO, 0, 0) : Ins) := rfl
      -- ob
      have hcd1 : (codeC.set code.length ((23, unk, 0, 0, Int32.ofNat plO, 0, 0) : Ins)).getD code.length dI = (23, unk, 0, 0, Int32.ofNat plO, 0, 0) := getD_set_eq (by omega)
      obtain ⟨u1, u2⟩ := r_amdb (m := code.length) (c' := (23, unk, r, 0, Int32.ofNat plO, 0, 0)) (x1 := Int32.ofNat 23) (x2 := Int32.ofNat 0) (x3 := Int32.ofNat 0) (x4 := Int32.ofNat 0) (x5 := Int32.ofNat plO) (v := Int32.ofNat r) y8 (by rw [List.length_set]; omega) (rlen_k (by rw [hcd1])) (by rw [hcd1]; rfl) rfl
      rw [posR_set (rlen_k (kk _ _ _)), pRR, List.set_set] at u1
      rw [posR_set (rlen_k (kk _ _ _)), pRR] at u2
      generalize hs9 : mA s8 25 (upd (s8.2.2.1 25) (ob0 e + rl code) (Int32.ofNat r)) = s9 at *
      -- oa
      have hcd2 : (codeC.set code.length ((23, unk, r, 0, Int32.ofNat plO, 0, 0) : Ins)).getD code.length dI = (23, unk, r, 0, Int32.ofNat plO, 0, 0) := getD_set_eq (by omega)
      have hher : mf_272 N s9 = some (s9, some (.int (Int32.ofNat (ob0 e + rl codeC)))) := by
        have := r_here (N := N) u1
        rw [RA_len, rl_set (rlen_k (kk _ _ _))] at this
        exact this
      have tr2 : tgR e (codeC.set code.length ((23, unk, r, 0, Int32.ofNat plO, 0, 0) : Ins)) codeC.length 0 = Int32.ofNat (ob0 e + rl codeC) := by
        rw [← tr]
        unfold tgR
        rw [posR_set (rlen_k (kk _ _ _))]
      obtain ⟨v1, v2⟩ := r_amda (m := code.length) (c' := (23, codeC.length, r, 0, Int32.ofNat plO, 0, 0)) (x1 := Int32.ofNat 23) (x2 := Int32.ofNat 0) (x3 := Int32.ofNat r) (x4 := Int32.ofNat 0) (x5 := Int32.ofNat plO) (v := Int32.ofNat (ob0 e + rl codeC)) u1 (by rw [List.length_set]; omega) (rlen_k (by rw [hcd2])) (by rw [hcd2]; rfl) (by rw [← tr2]; rfl)
      rw [posR_set (rlen_k (kk _ _ _)), pRR, List.set_set] at v1
      rw [posR_set (rlen_k (kk _ _ _)), pRR] at v2
      generalize hs10 : mA s9 24 (upd (s9.2.2.1 24) (ob0 e + rl code) (Int32.ofNat (ob0 e + rl codeC))) = s10 at *
      have f10 := u2.tr v2
      -- the class: what stands behind
      have ccd : ∀ (j r : Nat) (q : Int32), CA (codeC.set code.length ((23, codeC.length, 0, 0, 0, 0, 0) : Ins)) = CA (codeC.set code.length ((23, codeC.length, r, 0, q, 0, 0) : Ins)) := fun j r q => by
        rw [CA_set (a := (Int32.ofNat 10, Int32.ofNat 0, Int32.ofNat 0)) (a' := (Int32.ofNat 10, tgC codeC codeC.length 0, Int32.ofNat 0)) (l := []) (by omega) (clen_k (kk _ _ _)) (by rw [hcd]; rfl) rfl, CA_set (a := (Int32.ofNat 10, Int32.ofNat 0, Int32.ofNat 0)) (a' := (Int32.ofNat 10, tgC codeC codeC.length 0, Int32.ofNat 0)) (l := []) (by omega) (clen_k (kk _ _ _)) (by rw [hcd]; rfl) rfl]
      have cd8 : cCd t8 p (CA (codeC.set code.length ((23, codeC.length, r, 0, Int32.ofNat plO, 0, 0) : Ins))) := by
        rw [← ccd 0 r (Int32.ofNat plO)]
        exact (d2.keep a4 (by rcases hpp with z | z <;> subst z <;> omega) (fun _ z => z.elim) (a4.p21 (by omega))).keep bg (by rcases hpp with z | z <;> subst z <;> omega) (fun _ z => by rcases hpp with y | y <;> omega) (bg.p21 (by omega))
      generalize hD' : codeC.set code.length ((23, codeC.length, r, 0, Int32.ofNat plO, 0, 0) : Ins) = codeS at *
      have hcS : cx codeS = cx codeC := by rw [← hD']; exact cx_set (clen_k (kk _ _ _))
      have hrS : rl codeS = rl codeC := by rw [← hD']; exact rl_set (rlen_k (kk _ _ _))
      have hxS : xl codeS = xl codeC := by rw [← hD']; exact xl_set (xlen_k (kk _ _ _) (by unfold noJ; simp))
      have hlS : codeS.length = codeC.length := by rw [← hD', List.length_set]
      obtain ⟨t9, t10, z1, z2, z3, z4, z5, z6⟩ := c_emit2 (N := N) (X := X) (k1 := Int32.ofNat 12) (a1 := Int32.ofNat 0) (v1 := Int32.ofNat plO) (k2 := Int32.ofNat 2) (a2 := cv r) (v2 := Int32.ofNat plO) cd8 b4.1.2.2.2.2.2.2.2 (by rw [CA_len]; omega)
      have hP8 : kP t8 2 1 = some p := cd8.1
      have tg25 : tgO codeS.length (25, 0, r, 0, Int32.ofNat plO, 0, 0) := Or.inr (Or.inl (Nat.zero_le _))
      have wS : wfC codeS := by
        rw [← hD', ← hC']
        exact (wfC_app w1 (Or.inl rfl)).set (by show (codeB ++ [_]).length ≤ (codeB ++ [_]).length; exact Nat.le_refl _)
      have q10 : pR b n (i + 2) op t10 s10 := (b4.kC z5 z6 eE eA).kR (fun q z => f10.1 q (by omega)) (f10.2.1 7) (f10.2.2.1 2 (by omega)) (f10.2.2.2.1 0)
      have G10 : gL (eM p) (aM p) t t10 := G7.tr ((bg.mono (A' := aM p) eV_M (fun k z => Or.inl z)).tr (z5.mono (fun k f z => Or.inr (Or.inr z)) (fun k z => by unfold aM; omega)))
      have hV10 : VR vs8 t10 s10 := b5.keep (z5.1 2 4 (fun z => by rcases hpp with y | y <;> omega)) (z5.2.2.1 7 (fun z => by rcases hpp with y | y <;> omega) (by decide)).2.1 (f10.1 22 (by omega)) (f10.2.2.2.1 21)
      have hvl : vs.length ≤ vs8.length := by rw [b7, List.length_append]; omega
      have F1 : ∀ q, ¬ (q = 5 ∨ q = 6 ∨ q = 8 ∨ q = 9 ∨ q = 10 ∨ q = 11 ∨ q = 22 ∨ q = 28) → s10.1 q = s.1 q := fun q z => (f10.1 q (by omega)).trans ((bf.1 q (by omega)).trans ((a5.1 q (by omega)).trans (f6.1 q (by omega))))
      have F2 : ∀ q, ¬ (q = 23 ∨ q = 24 ∨ q = 25 ∨ q = 26 ∨ q = 27) → s10.2.2.1 q = s.2.2.1 q := fun q z => (f10.2.2.1 q z).trans ((bf.2.2.1 q (fun z => z)).trans ((a5.2.2.1 q (fun z => z)).trans (f6.2.2.1 q z)))
      have F3 : ∀ q, ¬ q = 21 → s10.2.2.2 q = s.2.2.2 q := fun q z => (f10.2.2.2.1 q).trans ((bf.2.2.2 q z).trans ((a5.2.2.2 q (fun z => z)).trans (f6.2.2.2.1 q)))
      have hFQ : fQ e s s10 := (fO.Q f6).tr ((fPs.Q a5).tr ((fV.Q bf).tr (fO.Q f10)))
      have kS : ((23, codeC.length, r, (0 : Int32), Int32.ofNat plO, (0 : Int32), (0 : Int32)) : Ins).1 = (codeC.getD code.length dI).1 := kk _ _ _
      have hCAD : CA (codeS ++ [((25, 0, r, 0, Int32.ofNat plO, 0, 0) : Ins)]) = CA codeS ++ [(Int32.ofNat 12, Int32.ofNat 0, Int32.ofNat plO), (Int32.ofNat 2, cv r, Int32.ofNat plO)] := by
        rw [CA_app wS tg25]
        rfl
      have hRAD : RA e (codeS ++ [((25, 0, r, 0, Int32.ofNat plO, 0, 0) : Ins)]) = RA e codeS := by
        rw [RA_app wS tg25]
        show RA e codeS ++ [] = _
        rw [List.append_nil]
      have hposS : ∀ j, j ≤ codeB.length → posC codeS j = posC codeB j ∧ posR codeS j = posR codeB j := fun j hj => by
        rw [← hD', posC_set (clen_k kS), posR_set (rlen_k kS), ← hC']
        exact ⟨posC_app hj, posR_app hj⟩
      have effS : ∀ L, eff (23, codeC.length, r, 0, Int32.ofNat plO, 0, 0) L = eff (codeC.getD code.length dI) L := fun L => by
        rw [hcd]
        rfl
      have tyC : TY (fs.1, codeB.length + 1, fs.2.2) vs8.length (9 :: cu) codeC := by
        rw [← hC']
        exact k4.app (cu' := 9 :: cu) hvl rfl (by unfold okI; simp) (Or.inr rfl)
      have tyS : TY (fs.1, codeB.length + 1, fs.2.2) vs8.length (9 :: cu) codeS := by
        rw [← hD']
        exact tyC.set effS (by unfold okI; simp; omega) (by show code.length < codeB.length + 1; omega)
      have hlyS : lyo codeS = some (9 :: cu) := tyS.2.1
      have hPE : PE b n p e (i + 2) op D (codeS ++ [((25, 0, r, 0, Int32.ofNat plO, 0, 0) : Ins)]) (codeS ++ [((25, 0, r, 0, Int32.ofNat plO, 0, 0) : Ins)]) vs8 cl W cu (fs.1, codeB.length + 2, fs.2.2) t10 s10 := by
        refine h.asm q10 (by rw [hCAD]; exact z4) (by rw [hRAD]; exact v1) (wfC_app wS (Or.inr (Or.inl (Nat.zero_le _)))) hV10 G10 (fun q z => F1 q (by omega)) (fun q z => F2 q (by omega)) (fun q z => F3 q (by omega)) (fun j hj => ?_) ?_ ?_ ?_ ?_ ?_
        · rw [posC_app (by omega), posR_app (by omega)]
          exact hposS j hj
        · refine okX.app ?_ (fun z => absurd z (by simp))
          rw [← hD']
          refine okX.set ?_ (by omega) kS (by unfold noJ; simp)
          rw [← hC']
          exact k3.app (fun z => absurd z (by simp))
        · have := tyS.app (c := (25, 0, r, 0, Int32.ofNat plO, 0, 0)) (js := codeB.length + 2) (cu' := cu) (Nat.le_refl _) (eff_id rfl) (by unfold okI; simp; omega) (Or.inr (by omega))
          exact this
        · rw [rl_app, rl_one, xl_app, xl_one, hrS, hrC, hxS, hxC]
          show rl codeB + 1 + 0 + (xl codeB + 0) + cl.length + D ≤ _
          omega
        · rw [rl_app, rl_one, hrS, hrC]
          show cl.length ≤ rl codeB + 1 + 0
          omega
        · rw [cx_app, cx_one, hcS, hcx]
          show cx codeB + 1 + 2 + 3 * D ≤ _
          omega
      have hne : ¬ codeB.length = code.length := by omega
      have gS : codeS.getD codeB.length dI = (24, unk, 0, 0, 0, 0, 0) := by
        rw [← hD', getD_set_ne hne, ← hC']
        exact getD_last
      have tS : lyo (codeS.take codeB.length) = some (3 :: cu) := by
        rw [← hD', lyo_set_take effS, ← hC', List.take_left]
        exact h.ly
      refine Or.inl ⟨t10, s10, codeS ++ [((25, 0, r, 0, Int32.ofNat plO, 0, 0) : Ins)], vs8, Int32.ofNat (cx codeS + 1), ?_, ?_, ⟨?_, ?_, ?_, ?_, ?_, ?_⟩, hPE, ?_, fun k j1 j2 j3 => ?_, ⟨gM_Q G10, hFQ⟩⟩
      · rw [CA_len] at z1 z2
        show cf_185_69 N X rk (Int32.ofNat (cx codeB)) (Int32.ofNat plO) (cv r) t8 = _
        unfold cf_185_69 cf_185_82
        simp (disch := omega) only [ev_S, ev_C, ↓reduceIte, Nat.reduceEqDiff, Nat.reduceLeDiff, Nat.reduceAdd, Nat.reduceMul, Nat.reduceSub, reduceCtorEq, l32_0, l32_1, l32_2, l32_3, l32_4, l32_5, l32_6, l32_7, l32_8, l32_9, l32_10, l32_11, l32_12, l32_13, l32_14, l32_15, l32_16, l32_17, l32_18, l32_19, l32_20, l32_21, l32_22, l32_23, l32_24, l32_25, l32_26, l32_27, l32_28, l32_29, l32_33, l32_40, l32_41, l32_44, l32_45, l32_59, l32_61, l32_91, l32_93, l32_123, l32_125, hP8, hp, z1, z3, z2]
      · show mf_278_219 N (Int32.ofNat (ob0 e + rl code)) (Int32.ofNat (ob0 e + rl codeB)) (Int32.ofNat (ob0 e + rl code)) (Int32.ofNat r) s8 = _
        have e1 : mf_278_219 N (Int32.ofNat (ob0 e + rl code)) (Int32.ofNat (ob0 e + rl codeB)) (Int32.ofNat (ob0 e + rl code)) (Int32.ofNat r) s8 = mo_bv (mf_276 N (Int32.ofNat 6) (Int32.ofNat (ob0 e + rl codeB)) (Int32.ofNat 0) s10) (fun s1 => mf_278_238 N s1) := by
          generalize ob0 e = o at *
          unfold mf_278_219 mf_278_229
          simp (disch := omega) only [ev_S, ev_P, ↓reduceIte, Nat.reduceEqDiff, Nat.reduceLeDiff, Nat.reduceAdd, Nat.reduceMul, Nat.reduceSub, reduceCtorEq, l32_0, l32_1, l32_2, l32_3, l32_4, l32_5, l32_6, l32_7, l32_8, l32_9, l32_10, l32_11, l32_12, l32_13, l32_14, l32_15, l32_16, l32_17, l32_18, l32_19, l32_20, l32_21, l32_22, l32_23, l32_24, l32_25, l32_26, l32_27, l32_28, l32_29, l32_33, l32_40, l32_41, l32_44, l32_45, l32_59, l32_61, l32_91, l32_93, l32_123, l32_125, hs9, hher, hs10, l32_8000]
        rw [e1]
        rfl
      · obtain ⟨seg, hseg⟩ := pre_set (c' := (23, codeC.length, r, 0, Int32.ofNat plO, 0, 0)) (m := code.length) hpC (Nat.le_refl _)
        refine ⟨seg ++ [((25, 0, r, 0, Int32.ofNat plO, 0, 0) : Ins)], ?_⟩
        rw [← hD', hseg, List.append_assoc]
      · rw [List.length_append, List.length_singleton, hlS, hlC]
      · rw [getD_appl (by omega)]
        exact gS
      · rw [List.take_append_of_le_length (by omega)]
        exact tS
      · rw [posC_app (by omega), (hposS _ (Nat.le_refl _)).1, posC_len]
        rfl
      · rw [posR_app (by omega), (hposS _ (Nat.le_refl _)).2, posR_len]
      · exact hb.kp hFQ
      · rw [List.length_append, List.length_singleton, hlS, hlC] at j2
        by_cases y : k = codeC.length
        · refine Or.inl ?_
          have e1 : (codeS ++ [((25, 0, r, 0, Int32.ofNat plO, 0, 0) : Ins)]).getD k dI = (25, 0, r, 0, Int32.ofNat plO, 0, 0) := by
            rw [y, ← hlS]
            exact getD_last
          rw [e1]
          unfold noJ
          simp
        · by_cases y2 : k = code.length
          · subst y2
            have e1 : (codeS ++ [((25, 0, r, 0, Int32.ofNat plO, 0, 0) : Ins)]).getD code.length dI = (23, codeC.length, r, 0, Int32.ofNat plO, 0, 0) := by
              rw [getD_appl (by omega), ← hD']
              exact getD_set_eq (by omega)
            have e2 : (codeS ++ [((25, 0, r, 0, Int32.ofNat plO, 0, 0) : Ins)]).getD codeC.length dI = (25, 0, r, 0, Int32.ofNat plO, 0, 0) := by
              rw [← hlS]
              exact getD_last
            unfold okJ
            rw [e1]
            refine Or.inr ⟨by show code.length ≤ codeC.length; omega, ?_, fun _ => ?_, 5 :: cu, 9 :: cu, ?_, ?_, Or.inr (Or.inr (Or.inr (Or.inl ⟨rfl, cu, rfl, rfl⟩)))⟩
            · show codeC.length ≤ _
              rw [List.length_append, hlS]
              omega
            · show ((codeS ++ [((25, 0, r, 0, Int32.ofNat plO, 0, 0) : Ins)]).getD codeC.length dI).1 = 25 ∧ ((codeS ++ [((25, 0, r, 0, Int32.ofNat plO, 0, 0) : Ins)]).getD codeC.length dI).2.2.1 = r ∧ ((codeS ++ [((25, 0, r, 0, Int32.ofNat plO, 0, 0) : Ins)]).getD codeC.length dI).2.2.2.2.1 = Int32.ofNat plO
              rw [e2]
              exact ⟨rfl, rfl, rfl⟩
            · rw [List.take_append_of_le_length (by omega), ← hD', lyo_set_take effS, take_pre hpC]
              exact hl
            · show lyo ((codeS ++ [_]).take codeC.length) = _
              rw [← hlS, List.take_left]
              exact hlyS
          · have := ((J2 k (by omega) (by omega)).lo (a' := code.length) (by omega)).app (l := [((24, unk, 0, 0, 0, 0, 0) : Ins)]) (by omega)
            rw [hC'] at this
            have := this.set (c' := (23, codeC.length, r, 0, Int32.ofNat plO, 0, 0)) (m0 := code.length) (by omega) effS (by rw [hcd]; decide)
            rw [hD'] at this
            exact this.app (by omega)
    · have b2 : mf_275 N s7 = some (s8, some (.int (Int32.ofNat 0))) := b2
      rw [b1, b2]
      obtain ⟨x, y, v1, v2, v3, v4, v5, v6, v7⟩ := b3
      have f78 : fV s6 s8 := ⟨fun q r => (b5.1 q r).trans (a5.1 q (by omega)), fun q r => (b5.2.1 q r).trans (a5.2.1 q r), fun q r => (b5.2.2.1 q r).trans (a5.2.2.1 q r), fun q r => (b5.2.2.2 q r).trans (a5.2.2.2 q (fun z => z))⟩
      obtain ⟨s9, c1, c2⟩ := r_219F (N := N) (q := rl code) (x2 := Int32.ofNat (ob0 e + rl codeB)) (y2 := Int32.ofNat 0) (fT6 s8 (Or.inr f78) ⟨x, v1, v2, v6⟩) (by omega)
      refine Or.inr ⟨t8, s9, rfl, c1, pF.tl ⟨x, y, v1, v2, v3, v4, v5, v6, v7⟩ c2, gX.pre (gM_Q G7) (b4.mono eP_Q (fun _ z => z.elim)), ((fO.Q f6).tr (fV.Q f78)).S.tr c2.2.2, (z6.kp (gX.pre a4 b4) hpp (fun _ z => z.elim))⟩
  · have a1 : cf_200 N X (zz_out + 11) t6 = some (t7, .inr ()) := a1
    rw [a1, a2]
    obtain ⟨x, y, v1, v2, v3, v4, v5, v6, v7⟩ := a3
    obtain ⟨s9, c1, c2⟩ := r_210TF (N := N) (q := rl code) (x2 := Int32.ofNat (ob0 e + rl codeB)) (fT6 s7 (Or.inl a5) ⟨x, v1, v2, v6⟩) (by omega)
    refine Or.inr ⟨t7, s9, rfl, c1, pF.tl ⟨x, y, v1, v2, v3, v4, v5, v6, v7⟩ c2, gX.pre (gM_Q G6) (a4.mono eP_Q (fun _ z => z.elim)), ((fO.Q f6).tr (fPs.Q a5)).S.tr c2.2.2, z6.kp a4 hpp (fun _ z => z.elim)⟩
end TRY
