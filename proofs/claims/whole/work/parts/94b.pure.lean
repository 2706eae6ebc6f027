/-! ===== PURE: functions (2): a function's name is told ===== -/
section FNB
variable {N : Nat} {X : Nat → Option zz_C} {t t' t1 t2 : cS} {s s' s1 s2 : mS} {b : Nat → Nat} {n p e i op c : Nat} {code : List Ins} {Fs : List Fn} {ls : List Nat}
abbrev eB4 (p : Nat) : Nat → Nat → Prop := fun k f => k = p ∧ f = 4
abbrev aB4 (p : Nat) : Nat → Prop := fun k => k = p + 4 ∨ k = p + 5 ∨ k = p + 8
/-- the class begins a function -/
theorem c_begin {v : Int64} {q : Int32} (hp : p = 12 ∨ p = 21) (hl : kI t p 3 = Int32.ofNat (cx code)) (h : cFt t p Fs.length code Fs) (hlt : Fs.length < 12) : ∃ t1, cf_206 N X p v q t = some (t1, .inl none) ∧ cFt t1 p (Fs.length + 1) code Fs ∧ (kB t1 (p + 4)).2 Fs.length = v ∧ (kA t1 (p + 5)).2 Fs.length = Int32.ofNat (cx code) ∧ (kA t1 (p + 8)).2 Fs.length = q ∧ gL (eB4 p) (aB4 p) t t1 ∧ kL t1 = kL t := by
  obtain ⟨a1, a2, a3, a4, a5, a6, a7, a8, a9⟩ := h
  rcases hp with hp | hp <;> subst hp
  · refine ⟨jI (jA (jA (jB t 16 (vp_updL (kB t 16).2 Fs.length v)) 17 (upd (kA t 17).2 Fs.length (Int32.ofNat (cx code)))) 20 (upd (kA t 20).2 Fs.length q)) 12 4 (Int32.ofNat (Fs.length + 1)), ?_, ⟨rfl, by omega, by omega, a4, a5, a6, a7, a8, fun k hk => ?_⟩, if_pos rfl, upd_s, upd_s, ⟨fun k f r => if_neg r, fun _ _ _ => rfl, fun k r1 r2 => ⟨?_, if_neg (by omega), rfl⟩, rfl, rfl, Nat.le_refl _, Nat.le_refl _, Nat.le_refl _⟩, rfl⟩
    · have a4 : (kB t 16).1 = 12 := a4
      have a5 : (kA t 17).1 = 12 := a5
      have a8 : (kA t 20).1 = 12 := a8
      repeat ((first | unfold cf_206 | unfold cf_206_0 | unfold cf_206_9 | unfold cf_206_52); try simp (disch := omega) only [ev_S, ev_C, ↓reduceIte, Nat.reduceEqDiff, Nat.reduceLeDiff, Nat.reduceAdd, Nat.reduceMul, Nat.reduceSub, reduceCtorEq, l32_0, l32_1, l32_2, l32_3, l32_4, l32_5, l32_8, l32_12, l32_21, a1, hl, a4, a5, a8])
    · obtain ⟨q1, q2, q3, q4, q5⟩ := a9 k hk
      exact ⟨(updL_n (by omega)).trans q1, (upd_n (by omega)).trans q2, q3, q4, (upd_n (by omega)).trans q5⟩
    · show (if k = 20 then _ else if k = 17 then _ else kA t k) = _
      rw [if_neg (by omega), if_neg (by omega)]
  · refine ⟨jI (jA (jA (jB t 25 (vp_updL (kB t 25).2 Fs.length v)) 26 (upd (kA t 26).2 Fs.length (Int32.ofNat (cx code)))) 29 (upd (kA t 29).2 Fs.length q)) 21 4 (Int32.ofNat (Fs.length + 1)), ?_, ⟨rfl, by omega, by omega, a4, a5, a6, a7, a8, fun k hk => ?_⟩, if_pos rfl, upd_s, upd_s, ⟨fun k f r => if_neg r, fun _ _ _ => rfl, fun k r1 r2 => ⟨?_, if_neg (by omega), rfl⟩, rfl, rfl, Nat.le_refl _, Nat.le_refl _, Nat.le_refl _⟩, rfl⟩
    · have a4 : (kB t 25).1 = 12 := a4
      have a5 : (kA t 26).1 = 12 := a5
      have a8 : (kA t 29).1 = 12 := a8
      repeat ((first | unfold cf_206 | unfold cf_206_0 | unfold cf_206_9 | unfold cf_206_52); try simp (disch := omega) only [ev_S, ev_C, ↓reduceIte, Nat.reduceEqDiff, Nat.reduceLeDiff, Nat.reduceAdd, Nat.reduceMul, Nat.reduceSub, reduceCtorEq, l32_0, l32_1, l32_2, l32_3, l32_4, l32_5, l32_8, l32_12, l32_21, a1, hl, a4, a5, a8])
    · obtain ⟨q1, q2, q3, q4, q5⟩ := a9 k hk
      exact ⟨(updL_n (by omega)).trans q1, (upd_n (by omega)).trans q2, q3, q4, (upd_n (by omega)).trans q5⟩
    · show (if k = 29 then _ else if k = 26 then _ else kA t k) = _
      rw [if_neg (by omega), if_neg (by omega)]
/-- both name a function, or fault -/
theorem p_fname (hN : 170000 ≤ N) (h : pR b n i op t s) (hcd : cCd t p (CA code)) (hc : cFt t p Fs.length code Fs) (hr : rFt s e Fs.length code Fs) (he12 : s.1 12 = Int32.ofNat e) (he1 : e ≤ 1) (hF : okFn Fs) : (∃ t' s' nm pl, cf_174 N X t = some (t', .inl none) ∧ mf_66 N s = mf_66_160 N (Int32.ofNat (fb0 e + Fs.length)) s' ∧ (Fs.length < 12 ∧ okL nm ∧ nm.length ≤ 8 ∧ pl ≤ 1600) ∧ pR b n (i + 1) op t' s' ∧ cFt t' p (Fs.length + 1) code Fs ∧ rFt s' e (Fs.length + 1) code Fs ∧ ((kB t' (p + 4)).2 Fs.length = Int64.ofNat (evB 32 nm) ∧ (kA t' (p + 5)).2 Fs.length = Int32.ofNat (cx code) ∧ (kA t' (p + 8)).2 Fs.length = Int32.ofNat pl) ∧ (s'.2.2.2 16 (fb0 e + Fs.length) = Int64.ofNat (evB 27 nm) ∧ s'.2.2.1 17 (fb0 e + Fs.length) = Int32.ofNat pl ∧ s'.1 22 = Int32.ofNat 0) ∧ gL (fun k f => eP k f ∨ eB4 p k f) (aB4 p) t t' ∧ ((∀ q, ¬ (q = 5 ∨ q = 6 ∨ q = 8 ∨ q = 9 ∨ q = 10 ∨ q = 11 ∨ q = 15 ∨ q = 22) → s'.1 q = s.1 q) ∧ (∀ q, ¬ q = 7 → s'.2.1 q = s.2.1 q) ∧ (∀ q, ¬ q = 17 → s'.2.2.1 q = s.2.2.1 q) ∧ (∀ q, ¬ q = 16 → s'.2.2.2 q = s.2.2.2 q) ∧ ∀ y, ¬ y = fb0 e + Fs.length → s'.2.2.1 17 y = s.2.2.1 17 y)) ∨ (∃ t' s', cf_174 N X t = some (t', .inr ()) ∧ mf_66 N s = some (s', none) ∧ pF t' s' ∧ gX eP a0 t t' ∧ fPs s s') := by
  obtain ⟨hi, e5, e6, e7, hkk, ho, he, hlt, hll⟩ := h.now
  have hP : kP t 2 1 = some p := hcd.1
  have hpp := hcd.2.1
  have hp : (p = 12 ∨ p = 21) = True := eq_true hpp
  have h9 : s.1 9 = Int32.ofNat 0 := h.2.2.2.2.2.2.2.2.2
  have hnm := r_isName (N := N) hN h.2.2.2.2.2.2.2.1 hkk
  have h6 : s.1 6 = Int32.ofNat (TL b n)[i].2.2.2.1 := hkk.1
  have hle := hc.2.1
  have hlen : kI t p 3 = Int32.ofNat (cx code) := by
    have := hcd.2.2.1
    rw [CA_len] at this
    exact this
  by_cases k3 : ck (TL b n)[i] = 3
  · rw [if_pos k3] at hnm
    obtain ⟨k1, k2⟩ := ck3.mp k3
    have hoL : okL (TL b n)[i].2.2.1 ∧ (TL b n)[i].2.2.1.length ≤ 8 := by
      rcases ho with z | z | z | z | z
      · omega
      · omega
      · omega
      · exact z.2
      · omega
    have hv : s.2.1 7 = Int64.ofNat (evB 27 (TL b n)[i].2.2.1) := by
      obtain ⟨y1, y2, y3 | y3 | y3 | y3 | y3⟩ := hkk
      · omega
      · omega
      · omega
      · exact y3.2.2.1
      · omega
    have hc3 : kL t 3 7 = Int64.ofNat (evB 32 (TL b n)[i].2.2.1) := by
      rw [e7]
      unfold c3
      rw [if_pos k1, k2]
    have hpl : (TL b n)[i].2.2.2.1 ≤ 1600 := by
      have := TL_at hi
      have := h.2.2.2.2.1
      omega
    have ft : ∀ x : Nat, 2 ≤ x → x ≤ 6 → ∃ t', cf_202 N X (Int32.ofNat 0) (Int32.ofNat x) t = some (t', .inr ()) ∧ mf_261 N (Int32.ofNat x) (Int32.ofNat (TL b n)[i].2.2.2.1) s = some (flt s (Int32.ofNat x) (Int32.ofNat (TL b n)[i].2.2.2.1), none) ∧ pF t' (flt s (Int32.ofNat x) (Int32.ofNat (TL b n)[i].2.2.2.1)) ∧ gX eP a0 t t' ∧ fPs s (flt s (Int32.ofNat x) (Int32.ofNat (TL b n)[i].2.2.2.1)) := fun x hx1 hx2 => by
      obtain ⟨t', a1, a2, ⟨hi', a3, a4⟩⟩ := c_fail (N := N) (X := X) (x := x) h (by omega)
      rw [if_neg (by omega)] at a3
      refine ⟨t', a1, r_breaks h9, ⟨x, (TL b n)[i].2.2.2.1, by omega, hx2, hpl, a3, a4, rfl, rfl⟩, a2, ⟨fun q r => ?_, fun _ _ => rfl, fun _ _ => rfl, fun _ _ => rfl⟩⟩
      show (if q = 10 then _ else if q = 9 then _ else s.1 q) = _
      rw [if_neg (by omega), if_neg (by omega)]
    generalize hls : (TL b n)[i].2.2.1 = ls at *
    generalize hplq : (TL b n)[i].2.2.2.1 = pl at *
    have hf1 : cf_202 N X (Int32.ofNat 1) (Int32.ofNat 2) t = some (t, .inl none) := c_fine
    have hf2 : cf_202 N X (Int32.ofNat 1) (Int32.ofNat 3) t = some (t, .inl none) := c_fine
    have hf3 : cf_202 N X (Int32.ofNat 1) (Int32.ofNat 4) t = some (t, .inl none) := c_fine
    have hfn : cf_32 N X p t = some (t, .inl (some (.int (Int32.ofNat Fs.length)))) := by
      unfold cf_32 cf_32_0
      rw [if_pos hpp, hc.1]
    have h15 : s.1 15 = Int32.ofNat Fs.length := hr.1
    rw [k3] at e5
    by_cases c12 : Fs.length = 12
    · obtain ⟨t', a1, a2, a3, a4, a5⟩ := ft 3 (by omega) (by omega)
      refine Or.inr ⟨t', _, ?_, ?_, a3, a4, a5⟩
      · unfold cf_174 cf_174_0 cf_174_8 cf_174_12 cf_174_17 cf_174_21 cf_174_28 cf_174_37 cf_174_46 cf_174_47
        simp (disch := omega) only [ev_S, ev_C, ↓reduceIte, Nat.reduceEqDiff, Nat.reduceLeDiff, Nat.reduceAdd, Nat.reduceMul, Nat.reduceSub, reduceCtorEq, l32_0, l32_1, l32_2, l32_3, l32_4, l32_5, l32_6, l32_7, l32_8, l32_9, l32_10, l32_11, l32_12, l32_13, l32_14, l32_15, l32_16, l32_17, l32_18, l32_19, l32_20, l32_21, l32_22, l32_23, l32_24, l32_25, l32_26, l32_27, l32_28, l32_29, l32_33, l32_40, l32_41, l32_44, l32_45, l32_59, l32_61, l32_91, l32_93, l32_123, l32_125, c_kindNow, e5, hf1, c_valueNow, hc3, hP, hp, hfn, c12, a1]
        rfl
      · unfold mf_66 mf_66_0 mf_66_8 mf_66_12 mf_66_20 mf_66_29 mf_66_38
        simp (disch := omega) only [ev_S, ev_P, ↓reduceIte, Nat.reduceEqDiff, Nat.reduceLeDiff, Nat.reduceAdd, Nat.reduceMul, Nat.reduceSub, reduceCtorEq, l32_0, l32_1, l32_2, l32_3, l32_4, l32_5, l32_6, l32_7, l32_8, l32_9, l32_10, l32_11, l32_12, l32_13, l32_14, l32_15, l32_16, l32_17, l32_18, l32_19, l32_20, l32_21, l32_22, l32_23, l32_24, l32_25, l32_26, l32_27, l32_28, l32_29, l32_33, l32_40, l32_41, l32_44, l32_45, l32_59, l32_61, l32_91, l32_93, l32_123, l32_125, h9, hnm, h15, c12, h6, a2]
    · have hlt12 : Fs.length < 12 := by omega
      obtain ⟨cs1, cs2⟩ := c_namesShelf (N := N) (X := X) (t := t) hoL.1 hoL.2
      obtain ⟨rs1, rs2⟩ := r_isShelf (N := N) (s := s) hoL.1 hoL.2
      obtain ⟨m, m1, m2, m3⟩ := fndF Fs ls
      have nmO := c_numOf (N := N) (X := X) hN hpp hc hF hoL.1 hoL.2 m1 m2 m3
      have hfb : fb0 e ≤ 12 := by unfold fb0; omega
      have eb : Int32.ofNat 12 * (Int32.ofNat 1 - Int32.ofNat e) = Int32.ofNat (fb0 e) := by
        rw [ev_sub he1]
        exact i32mul
      have eb2 : Int32.ofNat 12 * (Int32.ofNat 1 - Int32.ofNat e) + Int32.ofNat Fs.length = Int32.ofNat (fb0 e + Fs.length) := by
        rw [eb, i32add]
      have hM1 : ∀ u : Nat, mf_274 N (Int64.ofNat (evB 27 ls)) s = some (s, some (.int (Int32.ofNat u))) → mf_66 N s = mf_66_L8 N N 0 (Int32.ofNat (fb0 e + Fs.length)) (Int32.ofNat u) (Int32.ofNat (fb0 e)) s := fun u hu => by
        have e1 : mf_66 N s = mf_66_39 N s := by
          unfold mf_66 mf_66_0 mf_66_8 mf_66_12 mf_66_20
          simp (disch := omega) only [ev_S, ev_P, ↓reduceIte, Nat.reduceEqDiff, Nat.reduceLeDiff, Nat.reduceAdd, Nat.reduceMul, Nat.reduceSub, reduceCtorEq, l32_0, l32_1, l32_2, l32_3, l32_4, l32_5, l32_6, l32_7, l32_8, l32_9, l32_10, l32_11, l32_12, l32_13, l32_14, l32_15, l32_16, l32_17, l32_18, l32_19, l32_20, l32_21, l32_22, l32_23, l32_24, l32_25, l32_26, l32_27, l32_28, l32_29, l32_33, l32_40, l32_41, l32_44, l32_45, l32_59, l32_61, l32_91, l32_93, l32_123, l32_125, h9, hnm, h15, c12]
        rw [e1]
        unfold mf_66_39
        rw [hv, hu]
        show mf_66_61 N (12 * (1 - s.1 12) + s.1 15) (Int32.ofNat u) s = _
        unfold mf_66_61
        rw [he12, h15, l32_12, l32_1, eb, i32add]
      have hC1 : ∀ y : Int32, cf_197 N X (Int64.ofNat (evB 32 ls)) t = some (t, .inl (some (.int y))) → cf_174 N X t = cf_174_56 N X (Int64.ofNat (evB 32 ls)) y t := fun y hy => by
        have n12 : ¬ 12 ≤ Fs.length := by omega
        unfold cf_174 cf_174_0 cf_174_8 cf_174_12 cf_174_17 cf_174_21 cf_174_28 cf_174_37 cf_174_42 cf_174_47 cf_174_51
        simp (disch := omega) only [ev_S, ev_C, ↓reduceIte, Nat.reduceEqDiff, Nat.reduceLeDiff, Nat.reduceAdd, Nat.reduceMul, Nat.reduceSub, reduceCtorEq, l32_0, l32_1, l32_2, l32_3, l32_4, l32_5, l32_6, l32_7, l32_8, l32_9, l32_10, l32_11, l32_12, l32_13, l32_14, l32_15, l32_16, l32_17, l32_18, l32_19, l32_20, l32_21, l32_22, l32_23, l32_24, l32_25, l32_26, l32_27, l32_28, l32_29, l32_33, l32_40, l32_41, l32_44, l32_45, l32_59, l32_61, l32_91, l32_93, l32_123, l32_125, c_kindNow, e5, hf1, c_valueNow, hc3, hP, hp, hfn, n12, hf2, hy]
      obtain ⟨t4, b1, b2, b3, b4, b5⟩ := ft 4 (by omega) (by omega)
      have bad : ∀ (u : Nat), mf_274 N (Int64.ofNat (evB 27 ls)) s = some (s, some (.int (Int32.ofNat u))) → u ≤ 1 → (¬ u = 0 ∨ m < Fs.length) → mf_66 N s = some (flt s (Int32.ofNat 4) (Int32.ofNat pl), none) := fun u hu hu1 hb => by
        obtain ⟨w, w1, w2, w3⟩ := r_told (N := N) (u := u) he1 hle hr hF hoL.1 hoL.2 hv hu1
        have w0 : w = 1 := by
          have : ¬ w = 0 := fun z => by
            obtain ⟨z1, z2⟩ := w2.mp z
            rcases hb with hb | hb
            · exact hb z1
            · exact z2 m hb (m3 hb)
          omega
        subst w0
        have e1 := w3 (N - (Fs.length + 1))
        rw [show N - (Fs.length + 1) + (Fs.length + 1) = N by omega] at e1
        rw [hM1 u hu, e1]
        unfold mf_66_107 mf_66_111 mf_66_120
        simp (disch := omega) only [ev_S, ev_P, ↓reduceIte, Nat.reduceEqDiff, Nat.reduceLeDiff, Nat.reduceAdd, Nat.reduceMul, Nat.reduceSub, reduceCtorEq, l32_0, l32_1, l32_2, l32_3, l32_4, l32_5, l32_6, l32_7, l32_8, l32_9, l32_10, l32_11, l32_12, l32_13, l32_14, l32_15, l32_16, l32_17, l32_18, l32_19, l32_20, l32_21, l32_22, l32_23, l32_24, l32_25, l32_26, l32_27, l32_28, l32_29, l32_33, l32_40, l32_41, l32_44, l32_45, l32_59, l32_61, l32_91, l32_93, l32_123, l32_125, h6, b2]
      by_cases sh : isH ls
      · refine Or.inr ⟨t4, _, ?_, bad 1 (rs1 sh) (by omega) (Or.inl (by omega)), b3, b4, b5⟩
        rw [hC1 1 (cs1 sh)]
        unfold cf_174_56 cf_174_75 cf_174_76
        simp (disch := omega) only [ev_S, ev_C, ↓reduceIte, Nat.reduceEqDiff, Nat.reduceLeDiff, Nat.reduceAdd, Nat.reduceMul, Nat.reduceSub, reduceCtorEq, l32_0, l32_1, l32_2, l32_3, l32_4, l32_5, l32_6, l32_7, l32_8, l32_9, l32_10, l32_11, l32_12, l32_13, l32_14, l32_15, l32_16, l32_17, l32_18, l32_19, l32_20, l32_21, l32_22, l32_23, l32_24, l32_25, l32_26, l32_27, l32_28, l32_29, l32_33, l32_40, l32_41, l32_44, l32_45, l32_59, l32_61, l32_91, l32_93, l32_123, l32_125, b1]
        rfl
      · have rs2 : mf_274 N (Int64.ofNat (evB 27 ls)) s = some (s, some (.int (Int32.ofNat 0))) := rs2 sh
        by_cases mf : m < Fs.length
        · refine Or.inr ⟨t4, _, ?_, bad 0 rs2 (by omega) (Or.inr mf), b3, b4, b5⟩
          rw [if_pos mf] at nmO
          rw [hC1 0 (cs2 sh)]
          unfold cf_174_56 cf_174_59 cf_174_67 cf_174_75 cf_174_76
          simp (disch := omega) only [ev_S, ev_C, ↓reduceIte, Nat.reduceEqDiff, Nat.reduceLeDiff, Nat.reduceAdd, Nat.reduceMul, Nat.reduceSub, reduceCtorEq, l32_0, l32_1, l32_2, l32_3, l32_4, l32_5, l32_6, l32_7, l32_8, l32_9, l32_10, l32_11, l32_12, l32_13, l32_14, l32_15, l32_16, l32_17, l32_18, l32_19, l32_20, l32_21, l32_22, l32_23, l32_24, l32_25, l32_26, l32_27, l32_28, l32_29, l32_33, l32_40, l32_41, l32_44, l32_45, l32_59, l32_61, l32_91, l32_93, l32_123, l32_125, hP, hp, nmO, b1]
          rfl
        · rw [if_neg mf] at nmO
          -- none has it
          obtain ⟨w, w1, w2, w3⟩ := r_told (N := N) (u := 0) he1 hle hr hF hoL.1 hoL.2 hv (by omega)
          have w0 : w = 0 := w2.mpr ⟨rfl, fun j hj => m2 j hj (by omega)⟩
          subst w0
          have e1 := w3 (N - (Fs.length + 1))
          rw [show N - (Fs.length + 1) + (Fs.length + 1) = N by omega] at e1
          obtain ⟨t1, c1, c2, c3, c4, c5, c6, c7⟩ := c_begin (N := N) (X := X) (v := Int64.ofNat (evB 32 ls)) (q := Int32.ofNat pl) hpp hlen hc hlt12
          -- the reference's writes
          have hlt24 : fb0 e + Fs.length < 24 := by omega
          have hM2 : mf_66 N s = mo_bv (mf_260 N (mI (mI (mA (mB s 16 (vp_updL (s.2.2.2 16) (fb0 e + Fs.length) (Int64.ofNat (evB 27 ls)))) 17 (upd (s.2.2.1 17) (fb0 e + Fs.length) (Int32.ofNat pl))) 15 (Int32.ofNat (Fs.length + 1))) 22 (Int32.ofNat 0))) (fun s1 => mf_66_160 N (Int32.ofNat (fb0 e + Fs.length)) s1) := by
            rw [hM1 0 rs2, e1]
            generalize fb0 e + Fs.length = o at *
            unfold mf_66_107 mf_66_121
            simp (disch := omega) only [ev_S, ev_P, ↓reduceIte, Nat.reduceEqDiff, Nat.reduceLeDiff, Nat.reduceAdd, Nat.reduceMul, Nat.reduceSub, reduceCtorEq, l32_0, l32_1, l32_2, l32_3, l32_4, l32_5, l32_6, l32_7, l32_8, l32_9, l32_10, l32_11, l32_12, l32_13, l32_14, l32_15, l32_16, l32_17, l32_18, l32_19, l32_20, l32_21, l32_22, l32_23, l32_24, l32_25, l32_26, l32_27, l32_28, l32_29, l32_33, l32_40, l32_41, l32_44, l32_45, l32_59, l32_61, l32_91, l32_93, l32_123, l32_125, hv, h6, h15]
          have q1 : pR b n i op t1 (mI (mI (mA (mB s 16 (vp_updL (s.2.2.2 16) (fb0 e + Fs.length) (Int64.ofNat (evB 27 ls)))) 17 (upd (s.2.2.1 17) (fb0 e + Fs.length) (Int32.ofNat pl))) 15 (Int32.ofNat (Fs.length + 1))) 22 (Int32.ofNat 0)) := (h.kC c6 c7 (fun k f z => by rcases hpp with y | y <;> omega) (fun k z => by rcases hpp with y | y <;> omega)).kR (fun q z => by
              show (if q = 22 then _ else if q = 15 then _ else s.1 q) = _
              rw [if_neg (by omega), if_neg (by omega)]) rfl rfl rfl
          generalize hs1 : mI (mI (mA (mB s 16 (vp_updL (s.2.2.2 16) (fb0 e + Fs.length) (Int64.ofNat (evB 27 ls)))) 17 (upd (s.2.2.1 17) (fb0 e + Fs.length) (Int32.ofNat pl))) 15 (Int32.ofNat (Fs.length + 1))) 22 (Int32.ofNat 0) = s1 at *
          obtain ⟨t2, s2, d1, d2, d3, d4, d5⟩ := p_adv (N := N) (X := X) hN q1 (fun _ => by omega)
          have f1 : ∀ q, ¬ (q = 15 ∨ q = 22) → s1.1 q = s.1 q := fun q z => by
            rw [← hs1]
            show (if q = 22 then _ else if q = 15 then _ else s.1 q) = _
            rw [if_neg (by omega), if_neg (by omega)]
          have f2 : ∀ q, ¬ q = 17 → s1.2.2.1 q = s.2.2.1 q := fun q z => by
            rw [← hs1]
            exact if_neg z
          have f3 : ∀ q, ¬ q = 16 → s1.2.2.2 q = s.2.2.2 q := fun q z => by
            rw [← hs1]
            exact if_neg z
          have f4 : s1.2.2.1 17 = upd (s.2.2.1 17) (fb0 e + Fs.length) (Int32.ofNat pl) := by rw [← hs1]; rfl
          have f5 : s1.2.2.2 16 = vp_updL (s.2.2.2 16) (fb0 e + Fs.length) (Int64.ofNat (evB 27 ls)) := by rw [← hs1]; rfl
          have f6 : s1.1 15 = Int32.ofNat (Fs.length + 1) ∧ s1.1 22 = Int32.ofNat 0 := by rw [← hs1]; exact ⟨rfl, rfl⟩
          have f7 : s1.2.1 = s.2.1 := by rw [← hs1]; rfl
          have kp : ∀ k, ¬ a0 k := fun k z => z
          refine Or.inl ⟨t2, s2, ls, pl, ?_, ?_, ⟨hlt12, hoL.1, hoL.2, hpl⟩, d3, ?_, ?_, ⟨?_, ?_, ?_⟩, ⟨?_, ?_, ?_⟩, (c6.mono (fun k f z => Or.inr z) (fun k z => z)).tr (d4.mono (fun k f z => Or.inl z) (fun k z => z.elim)), ⟨fun q z => ?_, fun q z => ?_, fun q z => ?_, fun q z => ?_, fun y z => ?_⟩⟩
          · have hP1 : kP t 2 1 = some p := hP
            have nm1 : (-1 : Int32) = -Int32.ofNat 1 := rfl
            rw [hC1 0 (cs2 sh)]
            unfold cf_174_56 cf_174_59 cf_174_67 cf_174_71 cf_174_76 cf_174_80 cf_174_92 cf_174_95 cf_174_102
            simp (disch := omega) only [ev_S, ev_C, ↓reduceIte, Nat.reduceEqDiff, Nat.reduceLeDiff, Nat.reduceAdd, Nat.reduceMul, Nat.reduceSub, reduceCtorEq, l32_0, l32_1, l32_2, l32_3, l32_4, l32_5, l32_6, l32_7, l32_8, l32_9, l32_10, l32_11, l32_12, l32_13, l32_14, l32_15, l32_16, l32_17, l32_18, l32_19, l32_20, l32_21, l32_22, l32_23, l32_24, l32_25, l32_26, l32_27, l32_28, l32_29, l32_33, l32_40, l32_41, l32_44, l32_45, l32_59, l32_61, l32_91, l32_93, l32_123, l32_125, hP, hp, nmO, nm1, hf3, c_placeNow, e6, c1, d1]
          · rw [hM2, d2]
            rfl
          · obtain ⟨g1, g2, g3, g4, g5, g6, g7, g8, g9⟩ := c2
            have kA' : ∀ k, k ≠ 111 → kA t2 k = kA t1 k ∧ kB t2 k = kB t1 k := fun k hk => ⟨(d4.2.2.1 k (kp k) hk).1, (d4.2.2.1 k (kp k) hk).2.1⟩
            have n5 : ∀ j, j ≤ 8 → p + j ≠ 111 := fun j hj => by rcases hpp with y | y <;> omega
            refine ⟨by rw [d4.1 p 4 (by rcases hpp with y | y <;> omega)]; exact g1, g2, g3, by rw [(kA' _ (n5 4 (by omega))).2]; exact g4, by rw [(kA' _ (n5 5 (by omega))).1]; exact g5, by rw [(kA' _ (n5 6 (by omega))).1]; exact g6, by rw [(kA' _ (n5 7 (by omega))).1]; exact g7, by rw [(kA' _ (n5 8 (by omega))).1]; exact g8, ?_⟩
            rw [(kA' _ (n5 4 (by omega))).2, (kA' _ (n5 5 (by omega))).1, (kA' _ (n5 6 (by omega))).1, (kA' _ (n5 7 (by omega))).1, (kA' _ (n5 8 (by omega))).1]
            exact g9
          · refine ⟨by rw [d5.1 15 (by omega)]; exact f6.1, fun k hk => ?_⟩
            obtain ⟨y1, y2, y3, y4, y5⟩ := hr.2 k hk
            rw [d5.2.2.2 16 (fun z => z), d5.2.2.1 20 (fun z => z), d5.2.2.1 18 (fun z => z), d5.2.2.1 19 (fun z => z), d5.2.2.1 17 (fun z => z), f5, f4, f2 20 (by omega), f2 18 (by omega), f2 19 (by omega)]
            exact ⟨(updL_n (by omega)).trans y1, y2, y3, y4, (upd_n (by omega)).trans y5⟩
          · rw [(d4.2.2.1 (p + 4) (kp _) (by rcases hpp with y | y <;> omega)).2.1]
            exact c3
          · rw [(d4.2.2.1 (p + 5) (kp _) (by rcases hpp with y | y <;> omega)).1]
            exact c4
          · rw [(d4.2.2.1 (p + 8) (kp _) (by rcases hpp with y | y <;> omega)).1]
            exact c5
          · rw [d5.2.2.2 16 (fun z => z), f5]
            exact if_pos rfl
          · rw [d5.2.2.1 17 (fun z => z), f4]
            exact upd_s
          · rw [d5.1 22 (by omega)]
            exact f6.2
          · rw [d5.1 q (by omega), f1 q (by omega)]
          · rw [d5.2.1 q z, f7]
          · rw [d5.2.2.1 q (fun z => z), f2 q z]
          · rw [d5.2.2.2 q (fun z => z), f3 q z]
          · rw [d5.2.2.1 17 (fun z => z), f4]
            exact upd_n z
  · rw [if_neg k3] at hnm
    obtain ⟨t', s', c1, c2, c3, c4, c5⟩ := p_wrong (N := N) (X := X) h
    have c1 : cf_202 N X (Int32.ofNat 0) (Int32.ofNat 2) t = some (t', .inr ()) := c1
    refine Or.inr ⟨t', s', ?_, ?_, c3, c4, c5⟩
    · unfold cf_174 cf_174_0 cf_174_8 cf_174_16 cf_174_17
      simp (disch := omega) only [ev_S, ev_C, ↓reduceIte, Nat.reduceEqDiff, Nat.reduceLeDiff, Nat.reduceAdd, Nat.reduceMul, Nat.reduceSub, reduceCtorEq, l32_0, l32_1, l32_2, l32_3, l32_4, l32_5, l32_6, l32_7, l32_8, l32_9, l32_10, l32_11, l32_12, l32_13, l32_14, l32_15, l32_16, l32_17, l32_18, l32_19, l32_20, l32_21, l32_22, l32_23, l32_24, l32_25, l32_26, l32_27, l32_28, l32_29, l32_33, l32_40, l32_41, l32_44, l32_45, l32_59, l32_61, l32_91, l32_93, l32_123, l32_125, c_kindNow, e5, k3, c1]
      rfl
    · unfold mf_66 mf_66_0 mf_66_8 mf_66_12 mf_66_15 mf_66_19
      simp (disch := omega) only [ev_S, ev_P, ↓reduceIte, Nat.reduceEqDiff, Nat.reduceLeDiff, Nat.reduceAdd, Nat.reduceMul, Nat.reduceSub, reduceCtorEq, l32_0, l32_1, l32_2, l32_3, l32_4, l32_5, l32_6, l32_7, l32_8, l32_9, l32_10, l32_11, l32_12, l32_13, l32_14, l32_15, l32_16, l32_17, l32_18, l32_19, l32_20, l32_21, l32_22, l32_23, l32_24, l32_25, l32_26, l32_27, l32_28, l32_29, l32_33, l32_40, l32_41, l32_44, l32_45, l32_59, l32_61, l32_91, l32_93, l32_123, l32_125, h9, hnm, c2]
end FNB
