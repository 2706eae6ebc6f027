/-! ===== PURE: functions (6): a function is read alike ===== -/
section PFN
variable {N : Nat} {X : Nat → Option zz_C} {t t' t1 t2 : cS} {s s' s1 s2 : mS} {b : Nat → Nat} {n p e i op c D : Nat} {code code1 l : List Ins} {vs : List (List Nat)} {cl : List Cn} {W : List Wt} {cu : List Nat} {fs : Nat × Nat × Nat} {Fs : List Fn}
theorem PE.kG (h : PE b n p e i op D code code1 vs cl W cu fs t s) (g : gL (fun _ _ => False) (fun k => k = p + 7) t t') (gl : kL t' = kL t) : PE b n p e i op D code code1 vs cl W cu fs t' s := by
  obtain ⟨h1, hc', hr, hw, hW, hV, k1, k2, k3, k4, k5, k6, k7⟩ := h
  have hp := hc'.2.1
  exact ⟨h1.kC g gl (fun k f z => z.elim) (fun k z => by rcases hp with y | y <;> omega), hc'.keep g (fun z => z) (fun k z => by omega) (g.p21 (fun z => z)), hr, hw, hW, hV.keep (g.1 2 4 (fun z => z)) (g.2.2.1 7 (by rcases hp with y | y <;> omega) (by decide)).2.1 rfl rfl, k1.keep g (fun z => z) (fun _ z => by rcases hp with y | y <;> omega), k2, k3, k4, k5, k6, k7⟩
/-- a function's head behind a fault -/
theorem r_164F {m q : Nat} (h : fU e m s) (hq : q < 12) : ∃ s', mf_66_164 N (Int32.ofNat (fb0 e + q)) s = some (s', none) ∧ s'.1 9 = s.1 9 ∧ s'.1 10 = s.1 10 ∧ fJ e s s' := by
  have he : e ≤ 1 := h.2.2.2.1
  have hf : fb0 e + q < 24 := by unfold fb0; omega
  have h1 : fU e m (mA s 18 (upd (s.2.2.1 18) (fb0 e + q) (s.1 22))) := h
  have hh := r_hereF (N := N) h1
  have h2 : fU e m (mA (mA s 18 (upd (s.2.2.1 18) (fb0 e + q) (s.1 22))) 20 (upd ((mA s 18 (upd (s.2.2.1 18) (fb0 e + q) (s.1 22))).2.2.1 20) (fb0 e + q) (Int32.ofNat (ob0 e + m)))) := h
  obtain ⟨s3, c1, c2⟩ := r_blockF (N := N) (x1 := Int32.ofNat 0) (x2 := Int32.ofNat (fb0 e + q)) (x3 := Int32.ofNat 0) h2
  refine ⟨s3, ?_, c2.1, c2.2.1, fJ.tr (s1 := mA (mA s 18 (upd (s.2.2.1 18) (fb0 e + q) (s.1 22))) 20 (upd ((mA s 18 (upd (s.2.2.1 18) (fb0 e + q) (s.1 22))).2.2.1 20) (fb0 e + q) (Int32.ofNat (ob0 e + m)))) ⟨fun _ _ => rfl, fun _ _ => rfl, fun k r => ?_, fun _ _ => rfl, fun k y r1 r2 => ?_, fun k y r1 r2 => ?_, Kd.kp rfl (fun k z => ?_) rfl⟩ (fS.F c2.2.2)⟩
  · generalize fb0 e + q = o at *
    generalize hs1 : mA s 18 (upd (s.2.2.1 18) o (s.1 22)) = s1 at *
    unfold mf_66_164 mf_66_183 mf_66_191
    simp (disch := omega) only [ev_S, ev_P, ↓reduceIte, Nat.reduceEqDiff, Nat.reduceLeDiff, Nat.reduceAdd, Nat.reduceMul, Nat.reduceSub, reduceCtorEq, l32_0, l32_1, l32_2, l32_3, l32_4, l32_5, l32_6, l32_7, l32_8, l32_9, l32_10, l32_11, l32_12, l32_13, l32_14, l32_15, l32_16, l32_17, l32_18, l32_19, l32_20, l32_21, l32_22, l32_23, l32_24, l32_25, l32_26, l32_27, l32_28, l32_29, l32_33, l32_40, l32_41, l32_44, l32_45, l32_59, l32_61, l32_91, l32_93, l32_123, l32_125, hs1, hh, c1]
  · show (if k = 20 then _ else if k = 18 then _ else s.2.2.1 k) = _
    rw [if_neg (by omega), if_neg (by omega)]
  · show (if k = 20 then _ else if k = 18 then _ else s.2.2.1 k) y = _
    rw [if_neg (by omega), if_neg (by omega)]
  · show (if k = 20 then upd _ _ _ else if k = 18 then upd _ _ _ else s.2.2.1 k) y = _
    have hy : ¬ y = fb0 e + q := by omega
    by_cases z : k = 20
    · rw [if_pos z, z, upd_n hy]
      rfl
    · rw [if_neg z]
      by_cases z2 : k = 18
      · rw [if_pos z2, z2, upd_n hy]
      · rw [if_neg z2]
  · show (if k = 20 then _ else if k = 18 then _ else s.2.2.1 k) = _
    rw [if_neg (by omega), if_neg (by omega)]
/-- a function -/
theorem p_fun (hN : 170000 ≤ N) (hX : oX N X) (hY : oY X) (hZ : oZ X) (h : QE b n p e i code cl Fs t s) (hk : ∀ hi : i < (TL b n).length, ¬ (TL b n)[i].1 = 0) : (∃ t' s' k i' code' cl' Fs', cf_173 N X t = some (t', .inl none) ∧ i < i' ∧ k + i ≤ i' ∧ (∀ f, TW N (f + k) s = TW N f s') ∧ QE b n p e i' code' cl' Fs' t' s' ∧ FRf p e t t' s s') ∨ (∃ t' s' k, cf_173 N X t = some (t', .inr ()) ∧ k + i ≤ (TL b n).length + 1 ∧ (∀ f, TW N (f + k) s = some (s', none)) ∧ pF t' s' ∧ FXf p e t t' s s') := by
  obtain ⟨h1, h2, h3, h4, h5, h6, h7, h8, h9, h10, h11, h12, h13, h14, h15, h16, h17, h18⟩ := h
  obtain ⟨hi, e5, e6, e7, hkk, ho, he, hlt, hll⟩ := h1.now
  have hpp := h2.2.1
  have hp : (p = 12 ∨ p = 21) = True := eq_true hpp
  have he1 : e ≤ 1 := h3.2.1
  have h37 : s.1 37 = Int32.ofNat 0 := h18.1
  have hT := fun f => TW_0 (N := N) (f := f) h1 h37 hk
  have hF : okFn Fs := fun f hf => ⟨(h16 f hf).2.2.2.2.2.2.2.1, (h16 f hf).2.2.2.2.2.2.2.2.1⟩
  have h28 : s.1 28 = Int32.ofNat (rl code) := by
    have := h3.2.2.1
    rw [RA_len] at this
    exact this
  have hrl : rl code ≤ 1601 := by omega
  have z0 : SZ p t := ⟨⟨h1.1.2.2.1, h1.1.2.2.2.1, h1.1.2.2.2.2.2.1, h1.1.2.2.2.2.2.2.1⟩, ⟨h7.2.2.1, h7.2.2.2.1, h7.2.2.2.2.1, h7.2.2.2.2.2.2.1, h7.2.2.2.2.2.2.2⟩, ⟨h2.2.2.2.2.1, h2.2.2.2.2.2.1, h2.2.2.2.2.2.2.2.1, h2.2.2.2.2.2.2.2.2⟩, h6⟩
  have hT2 : ∀ f (s1 s2 : mS), mf_269 N (Int32.ofNat 0) s = some (s1, none) → mf_66 N s1 = some (s2, none) → TW N (f + 1) s = TW N f s2 := fun f s1 s2 a1 a2 => by
    rw [hT, a1]
    show mo_bv (mf_66 N s1) (fun s2 => TW N f s2) = _
    rw [a2]
    rfl
  have hR0 : cf_173 N X t = ko_call 5 (cf_200 N X (zz_out + (0 + 1)) t) (fun g1 v1 => co_v v1 (ko_call 5 (cf_174 N X g1) (fun g1 v1 => co_v v1 (cf_173_11 N X g1)))) := rfl
  rw [hR0]
  rcases p_word (N := N) (X := X) (w := 0) hN hX (by decide) h1 with ⟨t1, s1, a1, a2, a3, a4, a5⟩ | ⟨t1, s1, a1, a2, a3, a4, a5⟩
  · rw [a1]
    have cd1 : cCd t1 p (CA code) := h2.keep a4 (by rcases hpp with z | z <;> subst z <;> omega) (fun _ z => z.elim) (a4.p21 (by omega))
    have cf1 : cFt t1 p Fs.length code Fs := h14.keep a4 hpp (by rcases hpp with z | z <;> subst z <;> omega) (fun _ z => z.elim)
    have rf1 : rFt s1 e Fs.length code Fs := h15.keep (a5.1 15 (by omega)) (fun q _ => a5.2.2.1 q (fun z => z)) (a5.2.2.2 16 (fun z => z))
    have s12 : s1.1 12 = Int32.ofNat e := by rw [a5.1 12 (by omega)]; exact h3.1
    have F1 : FRf p e t t1 s s1 := FRs.F (FR.S ⟨a4.mono eP_Q (fun _ z => z.elim), fPs.Q a5⟩)
    show (∃ t' s' k i' code' cl' Fs', ko_call 5 (cf_174 N X t1) (fun g1 v1 => co_v v1 (cf_173_11 N X g1)) = _ ∧ _) ∨ (∃ t' s' k, ko_call 5 (cf_174 N X t1) (fun g1 v1 => co_v v1 (cf_173_11 N X g1)) = _ ∧ _)
    rcases p_fname (N := N) (X := X) hN a3 cd1 cf1 rf1 s12 he1 hF with ⟨t2, s2, nm, pl, b1, b2, ⟨b3, b4, b5, b6⟩, b7, b8, b9, ⟨b10, b11, b12⟩, ⟨b13, b14, b15⟩, b16, ⟨b17, b18, b19, b20, b21⟩⟩ | ⟨t2, s2, b1, b2, b3, b4, b5⟩
    · rw [b1]
      have F2 : FRf p e t1 t2 s1 s2 := ⟨b16.mono (fun k f z => z.elim (fun z => Or.inl (eP_Q k f z)) (fun z => Or.inr z)) (fun k z => Or.inr (by omega)), ⟨fun q r => b17 q (by omega), b18, fun q r => b19 q (by omega), fun q r => b20 q (by omega), fun q y r1 r2 => congrFun (b19 q (by omega)) y, fun q y r1 r2 => by
        by_cases z : q = 17
        · subst z
          exact b21 y (by omega)
        · exact congrFun (b19 q z) y, Kd.kp (b17 44 (by omega)) (fun q z => b19 q (by omega)) (b20 42 (by omega))⟩⟩
      have F02 := F1.tr F2
      have hB7 : (kB t2 7).1 = 14 := by
        rw [(b16.2.2.1 7 (by rcases hpp with y | y <;> omega) (by decide)).2.1, (a4.2.2.1 7 (fun z => z) (by decide)).2.1]
        exact h6
      show (∃ t' s' k i' code' cl' Fs', cf_173_11 N X t2 = _ ∧ _) ∨ (∃ t' s' k, cf_173_11 N X t2 = _ ∧ _)
      have hM2 : mf_66 N s1 = mo_bv (mf_277 N s2) (fun s3 => mf_66_164 N (Int32.ofNat (fb0 e + Fs.length)) s3) := b2
      have fld2 : ∀ q, ¬ (q = 5 ∨ q = 6 ∨ q = 8 ∨ q = 9 ∨ q = 10 ∨ q = 11 ∨ q = 15 ∨ q = 22) → s2.1 q = s.1 q := fun q z => (b17 q z).trans (a5.1 q (by omega))
      rcases p_head (N := N) (X := X) hN b7 hB7 b15 with ⟨t3, s3, i3, vs, c1, c2, c3, c4, c5, c6, c7, c8⟩ | ⟨t3, s3, c1, c2, c3, c4, cz, c5⟩
      · rw [c1]
        have hvl := c5.1
        have cf3 : cFt t3 p (Fs.length + 1) code Fs := b8.keep c7 hpp (by rcases hpp with z | z <;> subst z <;> omega) (fun k z => by rcases hpp with y | y <;> omega)
        have k3' : ∀ j, 4 ≤ j → j ≤ 8 → kA t3 (p + j) = kA t2 (p + j) ∧ kB t3 (p + j) = kB t2 (p + j) := fun j j1 j2 => by
          have := c7.2.2.1 (p + j) (by rcases hpp with y | y <;> omega) (by rcases hpp with y | y <;> omega)
          exact ⟨this.1, this.2.1⟩
        have hP3 : kP t3 2 1 = some p := by
          rw [c7.p21 (by omega), b16.p21 (by rcases hpp with z | z <;> subst z <;> omega)]
          exact cd1.1
        obtain ⟨t4, d1, d2, d3, d4, d5⟩ := c_cntP (N := N) (X := X) (v := kI t3 2 4) hpp cf3
        have hv4 : kI t3 2 4 = Int32.ofNat vs.length := c5.2.1
        -- the reference's writes
        have h22 : s3.1 22 = Int32.ofNat vs.length := c5.2.2.2.1
        have fld3 : ∀ q, ¬ (q = 5 ∨ q = 6 ∨ q = 8 ∨ q = 9 ∨ q = 10 ∨ q = 11 ∨ q = 15 ∨ q = 22) → s3.1 q = s.1 q := fun q z => (c8.1 q (by omega)).trans (fld2 q z)
        have arr3 : ∀ q, ¬ q = 17 → s3.2.2.1 q = s.2.2.1 q := fun q z => (c8.2.2.1 q (fun z => z)).trans ((b19 q z).trans (a5.2.2.1 q (fun z => z)))
        have lar3 : ∀ q, ¬ (q = 16 ∨ q = 21) → s3.2.2.2 q = s.2.2.2 q := fun q z => (c8.2.2.2 q (by omega)).trans ((b20 q (by omega)).trans (a5.2.2.2 q (fun z => z)))
        have hlt24 : fb0 e + Fs.length < 24 := by unfold fb0; omega
        generalize hsA : mA s3 18 (upd (s3.2.2.1 18) (fb0 e + Fs.length) (Int32.ofNat vs.length)) = sA
        have rcA : rCd sA e (RA e code) := by
          rw [← hsA]
          exact h3.keep (fld3 12 (by omega)) (fld3 28 (by omega)) (fun q z => by
            show (if q = 18 then _ else s3.2.2.1 q) = _
            rw [if_neg (by omega)]
            exact arr3 q (by omega))
        have hher : mf_272 N sA = some (sA, some (.int (Int32.ofNat (ob0 e + rl code)))) := by
          have := r_here (N := N) rcA
          rw [RA_len] at this
          exact this
        generalize hs4 : mA sA 20 (upd (sA.2.2.1 20) (fb0 e + Fs.length) (Int32.ofNat (ob0 e + rl code))) = s4
        have fld4 : ∀ q, s4.1 q = s3.1 q := fun q => by rw [← hs4, ← hsA]; rfl
        have lng4 : s4.2.1 = s3.2.1 := by rw [← hs4, ← hsA]; rfl
        have arr4 : ∀ q, ¬ (q = 18 ∨ q = 20) → s4.2.2.1 q = s3.2.2.1 q := fun q z => by
          rw [← hs4, ← hsA]
          show (if q = 20 then _ else if q = 18 then _ else s3.2.2.1 q) = _
          rw [if_neg (by omega), if_neg (by omega)]
        have lar4 : s4.2.2.2 = s3.2.2.2 := by rw [← hs4, ← hsA]; rfl
        have a418 : s4.2.2.1 18 = upd (s3.2.2.1 18) (fb0 e + Fs.length) (Int32.ofNat vs.length) := by rw [← hs4, ← hsA]; rfl
        have a420 : s4.2.2.1 20 = upd (s3.2.2.1 20) (fb0 e + Fs.length) (Int32.ofNat (ob0 e + rl code)) := by rw [← hs4, ← hsA]; rfl
        have hM3 : mf_66 N s1 = mo_bv (mf_276 N (Int32.ofNat 0) (Int32.ofNat (fb0 e + Fs.length)) (Int32.ofNat 0) s4) (fun s => some (s, none)) := by
          rw [hM2, c2]
          show mf_66_164 N (Int32.ofNat (fb0 e + Fs.length)) s3 = _
          have e1 : mf_66_164 N (Int32.ofNat (fb0 e + Fs.length)) s3 = mo_bv (mf_276 N (Int32.ofNat 0) (Int32.ofNat (fb0 e + Fs.length)) (Int32.ofNat 0) s4) (fun s1 => mf_66_191 N s1) := by
            generalize fb0 e + Fs.length = o at *
            unfold mf_66_164 mf_66_183
            simp (disch := omega) only [ev_S, ev_P, ↓reduceIte, Nat.reduceEqDiff, Nat.reduceLeDiff, Nat.reduceAdd, Nat.reduceMul, Nat.reduceSub, reduceCtorEq, l32_0, l32_1, l32_2, l32_3, l32_4, l32_5, l32_6, l32_7, l32_8, l32_9, l32_10, l32_11, l32_12, l32_13, l32_14, l32_15, l32_16, l32_17, l32_18, l32_19, l32_20, l32_21, l32_22, l32_23, l32_24, l32_25, l32_26, l32_27, l32_28, l32_29, l32_33, l32_40, l32_41, l32_44, l32_45, l32_59, l32_61, l32_91, l32_93, l32_123, l32_125, h22, hsA, hher, hs4]
          rw [e1]
          rfl
        -- the picture at the first bracket
        have q4 : pR b n i3 0 t4 s4 := (c4.kC d4 d5 (fun k f z => z.elim) (fun k z => by rcases hpp with y | y <;> omega)).kR (fun q _ => fld4 q) (by rw [lng4]) (arr4 2 (by omega)) (by rw [lar4])
        have G4 : gL (fun k f => eV k f ∨ eB4 p k f) (fun k => k = 7 ∨ k = p + 4 ∨ k = p + 5 ∨ k = p + 6 ∨ k = p + 8) t t4 := ((a4.mono (fun k f z => Or.inl (eP_V k f z)) (fun _ z => z.elim)).tr (b16.mono (fun k f z => z.elim (fun z => Or.inl (eP_V k f z)) (fun z => Or.inr z)) (fun k z => by omega))).tr ((c7.mono (fun k f z => Or.inl z) (fun k z => Or.inl z)).tr (d4.mono (fun _ _ z => z.elim) (fun k z => by omega)))
        have cd4 : cCd t4 p (CA code) := h2.keep G4 (fun z => by rcases hpp with y | y <;> subst y <;> omega) (fun k z => by rcases hpp with y | y <;> omega) (G4.p21 (fun z => by rcases hpp with y | y <;> subst y <;> omega))
        have cl4 : cCl t4 (cl.map (cK code)) := h7.keep G4 (fun z => by rcases hpp with y | y <;> subst y <;> omega) (fun k z => by rcases hpp with y | y <;> omega)
        have V4 : VR vs t4 s4 := c5.keep (d4.1 2 4 (fun z => z)) (d4.2.2.1 7 (by rcases hpp with y | y <;> omega) (by decide)).2.1 (fld4 22) (by rw [lar4])
        have fld04 : ∀ q, ¬ (q = 5 ∨ q = 6 ∨ q = 8 ∨ q = 9 ∨ q = 10 ∨ q = 11 ∨ q = 15 ∨ q = 22) → s4.1 q = s.1 q := fun q z => (fld4 q).trans (fld3 q z)
        have arr04 : ∀ q, ¬ (q = 17 ∨ q = 18 ∨ q = 20) → s4.2.2.1 q = s.2.2.1 q := fun q z => (arr4 q (by omega)).trans (arr3 q (by omega))
        have lar04 : ∀ q, ¬ (q = 16 ∨ q = 21) → s4.2.2.2 q = s.2.2.2 q := fun q z => (by rw [lar4] : s4.2.2.2 q = s3.2.2.2 q).trans (lar3 q z)
        have kd4 : Kd s4 := Kd.kp (fld04 44 (by omega)) (fun q z => arr04 q (by omega)) (lar04 42 (by omega)) h5
        obtain ⟨W4, rw4⟩ := kd4
        have rc4 : rCd s4 e (RA e code) := h3.keep (fld04 12 (by omega)) (fld04 28 (by omega)) (fun q z => arr04 q (by omega))
        have rcl4 : rCl s4 (cl.map (rK e code)) := h8.keep (fld04 29 (by omega)) (fun q z => arr04 q (by omega)) (lar04 33 (by omega))
        have P4 : PE b n p e i3 0 0 code code vs cl W4 [] (code.length, code.length, vs.length) t4 s4 := ⟨q4, cd4, rc4, ⟨h4, h4, ⟨[], by rw [List.append_nil]⟩⟩, rw4, V4, cl4, rcl4, h9, ⟨Nat.le_refl _, h10, fun x hx => by rw [List.drop_length] at hx; exact absurd hx List.not_mem_nil, Nat.le_refl _, fun x hx => by rw [List.drop_length] at hx; exact absurd hx List.not_mem_nil, Nat.le_refl _⟩, by omega, h12, by omega⟩
        have wn4 : rWn s4 := fun k hk => by rw [arr04 1 (by omega)]; exact h17 k hk
        have rb4 : rB s4 [] := ⟨by rw [fld04 37 (by omega)]; exact h37, Nat.zero_le _, fun k hk => absurd hk (Nat.not_lt_zero _)⟩
        have F4 : fJ e s2 s4 := (fS.F (fV.Q c8).S).tr ⟨fun q _ => fld4 q, fun q _ => by rw [lng4], fun q r => arr4 q (by omega), fun q _ => by rw [lar4], fun q y r1 r2 => congrFun (arr4 q (by omega)) y, fun q y r1 r2 => by
          have hy : ¬ y = fb0 e + Fs.length := by omega
          by_cases z : q = 18
          · subst z
            rw [a418]
            exact upd_n hy
          · by_cases z2 : q = 20
            · subst z2
              rw [a420]
              exact upd_n hy
            · exact congrFun (arr4 q (by omega)) y, Kd.kp (fld4 44) (fun q z => arr4 q (by omega)) (by rw [lar4])⟩
        have FR4 : FRf p e t t4 s s4 := ⟨G4.mono (fun k f z => z.elim (fun z => Or.inl (eV_Q k f z)) (fun z => Or.inr z)) (fun k z => by
          rcases z with z | z
          · exact Or.inl (Or.inl z)
          · exact Or.inr (by omega)), F02.2.tr F4⟩
        have hR4 : cf_173_86 N X t3 = ko_call 5 (cf_S1 N X (149 + 1) 176 [] t4) (fun g1 v1 => co_v v1 (cf_173_101 N X g1)) := by
          unfold cf_173_86
          simp (disch := omega) only [ev_S, ev_C, ↓reduceIte, Nat.reduceEqDiff, Nat.reduceLeDiff, Nat.reduceAdd, Nat.reduceMul, Nat.reduceSub, reduceCtorEq, l32_0, l32_1, l32_2, l32_3, l32_4, l32_5, l32_6, l32_7, l32_8, l32_9, l32_10, l32_11, l32_12, l32_13, l32_14, l32_15, l32_16, l32_17, l32_18, l32_19, l32_20, l32_21, l32_22, l32_23, l32_24, l32_25, l32_26, l32_27, l32_28, l32_29, l32_33, l32_40, l32_41, l32_44, l32_45, l32_59, l32_61, l32_91, l32_93, l32_123, l32_125, hP3, hp, d1]
          rfl
        rw [hR4]
        rcases p_blk (x1 := Int32.ofNat 0) (x2 := Int32.ofNat (fb0 e + Fs.length)) (x3 := Int32.ofNat 0) noX_0 hN (p_SSt hN hX hY hZ 149) (by omega) P4 wn4 rb4 ⟨Nat.zero_le _, Nat.zero_le _⟩ with ⟨t5, u0, s5, k5, i5, seg, vs5, cl5, W5, g1, g2, g3, g4, g5, g6, g7, g8, g9⟩ | ⟨t5, u0, s5, k5, g1, g2, g3, g4, g5, g6⟩
        · rw [g1]
          have g7 : rB s5 ([] ++ [(Int32.ofNat 0, Int32.ofNat (fb0 e + Fs.length), Int32.ofNat 0)]) := g7
          obtain ⟨v1, v2, v3, v4, v5⟩ := g7.close (N := N) (by omega)
          rw [if_pos rfl] at v5
          have v1 : rB (mI s5 37 (Int32.ofNat 0)) [] := v1
          have v2 : fBk s5 (mI s5 37 (Int32.ofNat 0)) := v2
          have v5 : mf_278_6 N s5 = mf_278_72 N (Int32.ofNat (fb0 e + Fs.length)) (mI s5 37 (Int32.ofNat 0)) := v5
          have P5 := g6.kS v2
          have FS5 : FRs p e t4 t5 s4 (mI s5 37 (Int32.ofNat 0)) := g9.tr ⟨gL.rf, fBk.S v2⟩
          generalize hs6 : mI s5 37 (Int32.ofNat 0) = s6 at *
          have cf5 : cFt t5 p (Fs.length + 1) code Fs := d2.keep g9.1 hpp (by rcases hpp with z | z <;> subst z <;> omega) (fun k z => by rcases hpp with y | y <;> subst y <;> omega)
          have hP5 : kP t5 2 1 = some p := P5.2.1.1
          obtain ⟨t6, w1, w2, w3, w4, w5⟩ := c_cntV (N := N) (X := X) (v := kI t5 2 4) hpp cf5
          have hv5 : kI t5 2 4 = Int32.ofNat vs5.length := P5.2.2.2.2.2.1.2.1
          have P6 := P5.kG w4 w5
          have hP6 : kP t6 2 1 = some p := P6.2.1.1
          obtain ⟨t7, s7, x1, x2, x3, x4, x5⟩ := P6.bo (N := N) (X := X) (D' := 1) (cu' := [0]) (c := (0, 0, 0, 0, 0, 0, 0)) (k := Int32.ofNat 0) (a := Int32.ofNat 0) (v := Int32.ofNat 0) (x1 := Int32.ofNat 2) (x2 := Int32.ofNat 0) (x3 := Int32.ofNat 0) (x4 := Int32.ofNat 0) rfl rfl (Or.inr (Or.inl (Nat.zero_le _))) rfl (by unfold okI; simp) (by omega) (Or.inl (Nat.le_refl 1))
          have hP7 : kP t7 2 1 = some p := x3.2.1.1
          obtain ⟨t8, s8, y1, y2, y3, y4, y5⟩ := x3.bo (N := N) (X := X) (D' := 0) (cu' := []) (c := (20, 0, 0, 0, 0, 0, 0)) (k := Int32.ofNat 8) (a := Int32.ofNat 0) (v := Int32.ofNat 0) (x1 := Int32.ofNat 20) (x2 := Int32.ofNat 0) (x3 := Int32.ofNat 0) (x4 := Int32.ofNat 0) rfl rfl (Or.inr (Or.inl (Nat.zero_le _))) rfl (by unfold okI; simp) (by omega) (Or.inl (Nat.le_refl 1))
          have h822 : s8.1 22 = Int32.ofNat vs5.length := y3.2.2.2.2.2.1.2.2.2.1
          generalize hs9 : mA s8 19 (upd (s8.2.2.1 19) (fb0 e + Fs.length) (Int32.ofNat vs5.length)) = s9
          have hM6 : mf_278_6 N s5 = some (s9, none) := by
            rw [v5]
            generalize fb0 e + Fs.length = o at *
            unfold mf_278_72 mf_278_80 mf_278_90
            simp (disch := omega) only [ev_S, ev_P, ↓reduceIte, Nat.reduceEqDiff, Nat.reduceLeDiff, Nat.reduceAdd, Nat.reduceMul, Nat.reduceSub, reduceCtorEq, l32_0, l32_1, l32_2, l32_3, l32_4, l32_5, l32_6, l32_7, l32_8, l32_9, l32_10, l32_11, l32_12, l32_13, l32_14, l32_15, l32_16, l32_17, l32_18, l32_19, l32_20, l32_21, l32_22, l32_23, l32_24, l32_25, l32_26, l32_27, l32_28, l32_29, l32_33, l32_40, l32_41, l32_44, l32_45, l32_59, l32_61, l32_91, l32_93, l32_123, l32_125, x2, y2, h822, hs9]
          have fld9 : ∀ q, s9.1 q = s8.1 q := fun q => by rw [← hs9]; rfl
          have lng9 : s9.2.1 = s8.2.1 := by rw [← hs9]; rfl
          have arr9 : ∀ q, ¬ q = 19 → s9.2.2.1 q = s8.2.2.1 q := fun q z => by
            rw [← hs9]
            exact if_neg z
          have lar9 : s9.2.2.2 = s8.2.2.2 := by rw [← hs9]; rfl
          have a919 : s9.2.2.1 19 = upd (s8.2.2.1 19) (fb0 e + Fs.length) (Int32.ofNat vs5.length) := by rw [← hs9]; rfl
          have FR8 : FR p e t6 t8 s6 s8 := x4.tr y4
          have FJ9 : fJ e s8 s9 := ⟨fun q _ => fld9 q, fun q _ => by rw [lng9], fun q r => arr9 q (by omega), fun q _ => by rw [lar9], fun q y r1 r2 => congrFun (arr9 q (by omega)) y, fun q y r1 r2 => by
            by_cases z : q = 19
            · subst z
              rw [a919]
              exact upd_n (by omega)
            · exact congrFun (arr9 q z) y, Kd.kp (fld9 44) (fun q z => arr9 q (by omega)) (by rw [lar9])⟩
          have G58 : gL (eF p) (aF p) t5 t8 := (w4.mono (fun _ _ z => z.elim) (fun k z => Or.inr (by omega))).tr (FR8.1.mono (fun k f z => Or.inl z) (fun k z => Or.inl z))
          have FR9 : FRf p e t t8 s s9 := (FR4.tr (FRs.F FS5)).tr ⟨G58, (fS.F FR8.2.S).tr FJ9⟩
          generalize hc2 : code ++ seg ++ [((0, 0, 0, 0, 0, 0, 0) : Ins)] ++ [((20, 0, 0, 0, 0, 0, 0) : Ins)] = code2 at *
          have hc2' : code2 = code ++ seg ++ ([((0, 0, 0, 0, 0, 0, 0) : Ins)] ++ [((20, 0, 0, 0, 0, 0, 0) : Ins)]) := by rw [← hc2, List.append_assoc (code ++ seg)]
          have hl2 : code2.length = (code ++ seg).length + 2 := by rw [hc2', List.length_append]; rfl
          have hpc : code2 = code ++ (seg ++ ([((0, 0, 0, 0, 0, 0, 0) : Ins)] ++ [((20, 0, 0, 0, 0, 0, 0) : Ins)])) := by rw [hc2', List.append_assoc code]
          have hls : code.length ≤ (code ++ seg).length := by rw [List.length_append]; omega
          have P8 : PE b n p e i5 0 0 code2 code2 vs5 cl5 W5 [] (code.length, (code ++ seg).length, vs.length) t8 s8 := y3
          have fn2 : FOK code2 (nm, pl, vs.length, vs5.length, code.length, code2.length) := by
            refine ⟨by show code.length < code2.length; omega, Nat.le_refl _, ?_, fun m m1 m2 => P8.okA m1 m2, ?_, ?_, ⟨P8.pa, P8.2.2.2.2.2.1.1, c6⟩, b4, b5, b6⟩
            · show lyo (code2.take code.length) = _
              rw [take_pre hpc]
              exact h10
            · show FJ code2 code.length code2.length
              rw [hc2']
              refine g8.F (by rw [← hc2', hl2]; omega) (fun c hc => ?_) (Nat.le_refl _)
              have hc : c = (0, 0, 0, 0, 0, 0, 0) ∨ c = (20, 0, 0, 0, 0, 0, 0) := by
                rcases List.mem_append.mp hc with z | z
                · exact Or.inl (List.mem_singleton.mp z)
                · exact Or.inr (List.mem_singleton.mp z)
              unfold noJ
              rcases hc with z | z <;> subst z <;> simp
            · show (code2.getD (code2.length - 1) dI).1 = 20
              rw [show code2.length - 1 = (code ++ seg ++ [((0, 0, 0, 0, 0, 0, 0) : Ins)]).length by rw [hl2, List.length_append (as := code ++ seg), List.length_singleton]; omega, ← hc2, getD_last]
          have hA8 : ∀ j, 4 ≤ j → j ≤ 8 → ¬ j = 7 → kA t8 (p + j) = kA t4 (p + j) ∧ kB t8 (p + j) = kB t4 (p + j) := fun j j1 j2 j3 => by
            have r1 := FR8.1.2.2.1 (p + j) (fun z => by rcases hpp with y | y <;> subst y <;> omega) (by rcases hpp with y | y <;> omega)
            have r2 := w4.2.2.1 (p + j) (by omega) (by rcases hpp with y | y <;> omega)
            have r3 := g9.1.2.2.1 (p + j) (fun z => by rcases hpp with y | y <;> subst y <;> omega) (by rcases hpp with y | y <;> omega)
            exact ⟨r1.1.trans (r2.1.trans r3.1), r1.2.1.trans (r2.2.1.trans r3.2.1)⟩
          have h34 : ∀ j, 4 ≤ j → j ≤ 8 → ¬ j = 6 → kA t4 (p + j) = kA t2 (p + j) ∧ kB t4 (p + j) = kB t2 (p + j) := fun j j1 j2 j3 => by
            have r2 := d4.2.2.1 (p + j) (by omega) (by rcases hpp with y | y <;> omega)
            exact ⟨r2.1.trans (k3' j j1 j2).1, r2.2.1.trans (k3' j j1 j2).2⟩
          have h87 : kA t8 (p + 7) = kA t6 (p + 7) := (FR8.1.2.2.1 (p + 7) (fun z => by rcases hpp with y | y <;> subst y <;> omega) (by rcases hpp with y | y <;> omega)).1
          have cf8 : cFt t8 p (Fs.length + 1) code Fs := w2.keep FR8.1 hpp (by rcases hpp with z | z <;> subst z <;> omega) (fun k z => by rcases hpp with y | y <;> subst y <;> omega)
          have rf4 : rFt s4 e (Fs.length + 1) code Fs := by
            refine ⟨by rw [fld4, c8.1 15 (by omega)]; exact b9.1, fun k hk => ?_⟩
            obtain ⟨z1, z2, z3, z4, z5⟩ := b9.2 k hk
            have n1 : ¬ fb0 e + k = fb0 e + Fs.length := by omega
            rw [a418, a420, upd_n n1, upd_n n1, arr4 19 (by omega), arr4 17 (by omega), lar4, c8.2.2.1 18 (fun z => z), c8.2.2.1 20 (fun z => z), c8.2.2.1 19 (fun z => z), c8.2.2.1 17 (fun z => z), c8.2.2.2 16 (by omega)]
            exact ⟨z1, z2, z3, z4, z5⟩
          have S48 : fS e s4 s8 := FS5.2.tr FR8.2.S
          have rf8 : rFt s8 e (Fs.length + 1) code Fs := rf4.keep (S48.1 15 (by omega)) (fun q z => S48.2.2.1 q (by omega)) (S48.2.2.2.1 16 (by omega))
          have lenF : (Fs ++ [((nm, pl, vs.length, vs5.length, code.length, code2.length) : Fn)]).length = Fs.length + 1 := by rw [List.length_append, List.length_singleton]
          have pC2 : ∀ k (hk : k < Fs.length), posC code2 Fs[k].2.2.2.2.1 = posC code Fs[k].2.2.2.2.1 ∧ posR code2 Fs[k].2.2.2.2.1 = posR code Fs[k].2.2.2.2.1 := fun k hk => by
            have := h16 Fs[k] (List.getElem_mem _)
            have hs : Fs[k].2.2.2.2.1 ≤ code.length := by
              have z1 := this.1
              have z2 := this.2.1
              omega
            rw [hpc]
            exact ⟨posC_app hs, posR_app hs⟩
          refine Or.inl ⟨t8, s9, k5 + 1, i5, code2, cl5, Fs ++ [((nm, pl, vs.length, vs5.length, code.length, code2.length) : Fn)], ?_, by omega, by omega, fun f => ?_, ⟨P8.1.kR (fun q _ => fld9 q) (by rw [lng9]) (arr9 2 (by omega)) (by rw [lar9]), P8.2.1, P8.2.2.1.keep (fld9 12) (fld9 28) (fun q z => arr9 q (by omega)), P8.2.2.2.1.1, ?_, P8.2.2.2.2.2.1.2.2.1, P8.2.2.2.2.2.2.1, P8.2.2.2.2.2.2.2.1.keep (fld9 29) (fun q z => arr9 q (by omega)) (by rw [lar9]), P8.2.2.2.2.2.2.2.2.1, P8.ly, P8.2.2.2.2.2.2.2.2.2.2.1, P8.2.2.2.2.2.2.2.2.2.2.2.1, P8.2.2.2.2.2.2.2.2.2.2.2.2, ?_, ?_, ?_, ?_, ?_⟩, FR9⟩
          · show cf_173_101 N X t5 = _
            unfold cf_173_101 cf_173_112 cf_173_122 cf_173_134
            simp (disch := omega) only [ev_S, ev_C, ↓reduceIte, Nat.reduceEqDiff, Nat.reduceLeDiff, Nat.reduceAdd, Nat.reduceMul, Nat.reduceSub, reduceCtorEq, l32_0, l32_1, l32_2, l32_3, l32_4, l32_5, l32_6, l32_7, l32_8, l32_9, l32_10, l32_11, l32_12, l32_13, l32_14, l32_15, l32_16, l32_17, l32_18, l32_19, l32_20, l32_21, l32_22, l32_23, l32_24, l32_25, l32_26, l32_27, l32_28, l32_29, l32_33, l32_40, l32_41, l32_44, l32_45, l32_59, l32_61, l32_91, l32_93, l32_123, l32_125, hP5, hp, w1, hP6, x1, hP7, y1]
          · rw [← Nat.add_assoc, hT2 (f + k5) s1 u0 a2 (by rw [hM3, g2]; rfl), g5, hM6]
            rfl
          · exact Kd.kp (fld9 44) (fun q z => arr9 q (by omega)) (by rw [lar9]) ⟨_, P8.2.2.2.2.1⟩
          · obtain ⟨r1, r2, r3, r4, r5, r6, r7, r8, r9⟩ := cf8
            refine ⟨by rw [lenF]; exact r1, by rw [lenF]; exact r2, Nat.le_refl _, r4, r5, r6, r7, r8, fun k hk => ?_⟩
            rw [lenF] at hk
            by_cases z : k < Fs.length
            · rw [List.getElem_append_left z, (pC2 k z).1]
              exact r9 k z
            · have z : k = Fs.length := by omega
              subst z
              rw [List.getElem_append_right (Nat.le_refl _)]
              simp only [Nat.sub_self, List.getElem_cons_zero]
              refine ⟨?_, ?_, ?_, ?_, ?_⟩
              · rw [(hA8 4 (by omega) (by omega) (by omega)).2, (h34 4 (by omega) (by omega) (by omega)).2]
                exact b10
              · rw [(hA8 5 (by omega) (by omega) (by omega)).1, (h34 5 (by omega) (by omega) (by omega)).1, b11, hpc, posC_e]
              · rw [(hA8 6 (by omega) (by omega) (by omega)).1, d3]
                exact hv4
              · rw [h87, w3]
                exact hv5
              · rw [(hA8 8 (by omega) (by omega) (by omega)).1, (h34 8 (by omega) (by omega) (by omega)).1]
                exact b12
          · refine ⟨by rw [lenF, fld9]; exact rf8.1, fun k hk => ?_⟩
            rw [lenF] at hk
            by_cases z : k < Fs.length
            · have n1 : ¬ fb0 e + k = fb0 e + Fs.length := by omega
              rw [List.getElem_append_left z, (pC2 k z).2, lar9, arr9 20 (by omega), arr9 18 (by omega), a919, upd_n n1, arr9 17 (by omega)]
              exact rf8.2 k z
            · have z : k = Fs.length := by omega
              subst z
              rw [List.getElem_append_right (Nat.le_refl _)]
              simp only [Nat.sub_self, List.getElem_cons_zero]
              rw [lar9, arr9 20 (by omega), arr9 18 (by omega), a919, upd_s, arr9 17 (by omega), S48.2.2.2.1 16 (by omega), S48.2.2.1 20 (by omega), S48.2.2.1 18 (by omega), S48.2.2.1 17 (by omega), lar4, a420, a418, upd_s, upd_s, arr4 17 (by omega), c8.2.2.2 16 (by omega), c8.2.2.1 17 (fun z => z), hpc, posR_e]
              exact ⟨b13, rfl, rfl, rfl, b14⟩
          · intro f hf
            rcases List.mem_append.mp hf with z | z
            · rw [hpc]
              exact (h16 f z).app
            · rw [List.mem_singleton.mp z]
              exact fn2
          · intro k hk
            rw [arr9 1 (by omega), S48.2.2.1 1 (by omega)]
            exact wn4 k hk
          · exact ⟨by rw [fld9]; exact (v1.kp FR8.2).1, Nat.zero_le _, fun k hk => absurd hk (Nat.not_lt_zero _)⟩
        · refine Or.inr ⟨t5, s5, k5 + 1, by rw [g1]; rfl, by omega, fun f => ?_, g5, FR4.pre (FXs.F g6 d2 hpp)⟩
          rw [← Nat.add_assoc, hT2 (f + k5) s1 u0 a2 (by rw [hM3, g2]; rfl)]
          exact g4 f
      · obtain ⟨x, y, v1, v2, v3, v4, v5, v6, v7⟩ := c3
        have fU3 : fU e (rl code) s3 := ⟨⟨x, v1, v2, v6⟩, by omega, by rw [c5.1 28 (by omega), fld2 28 (by omega)]; exact h28, he1, by rw [c5.1 12 (by omega), fld2 12 (by omega)]; exact h3.1, 0, by omega, by rw [c5.1 37 (by omega), fld2 37 (by omega)]; exact h37⟩
        obtain ⟨s4, d1, d2, d3, d4⟩ := r_164F (N := N) (q := Fs.length) fU3 b3
        have z3 : SZ p t3 := by
          have e : ∀ k, (k = 4 ∨ k = 5 ∨ k = 6 ∨ k = 8 ∨ k = 9 ∨ k = 10 ∨ k = 11 ∨ k = p + 1 ∨ k = p + 2 ∨ k = p + 3) → kA t3 k = kA t k ∧ kB t3 k = kB t k := fun k hk => by
            have r1 := c4.2.2.1 k (by rcases hpp with y | y <;> omega) (by rcases hpp with y | y <;> omega)
            have r2 := b16.2.2.1 k (by rcases hpp with y | y <;> omega) (by rcases hpp with y | y <;> omega)
            have r3 := a4.2.2.1 k (fun z => z) (by rcases hpp with y | y <;> omega)
            exact ⟨r1.1.trans (r2.1.trans r3.1), r1.2.1.trans (r2.2.1.trans r3.2.1)⟩
          obtain ⟨q1, q2, q3, q4⟩ := z0
          refine ⟨?_, ?_, ?_, cz⟩
          · rw [(e 4 (by omega)).1, (e 5 (by omega)).1, (e 6 (by omega)).2]
            exact q1
          · rw [(e 8 (by omega)).1, (e 9 (by omega)).2, (e 10 (by omega)).1, (e 11 (by omega)).1]
            exact q2
          · rw [(e (p + 1) (by omega)).1, (e (p + 2) (by omega)).1, (e (p + 3) (by omega)).1]
            exact q3
        have pf4 : pF t3 s4 := pF.post ⟨x, y, v1, v2, v3, v4, v5, v6, v7⟩ d2 d3
        refine Or.inr ⟨t3, s4, 2, c1, by omega, fun f => ?_, pf4, F02.pre ⟨(c4.mono eV_Q (fun _ z => Or.inl z)).mono (fun k f z => Or.inl z) (fun k z => Or.inl z), (fS.F (fV.Q c5).S).tr d4, b8.sz c4 hpp (fun k z => by rcases hpp with y | y <;> omega) z3⟩⟩
        rw [show f + 2 = (f + 1) + 1 by omega, hT2 (f + 1) s1 s4 a2 (by rw [hM2, c2]; exact d1)]
        exact TW_F pf4
    · refine Or.inr ⟨t2, s2, 2, by rw [b1]; rfl, by omega, fun f => ?_, b3, F1.pre (FXs.F ⟨b4.mono eP_Q (fun _ z => z.elim), (fPs.Q b5).S, z0.kp (gX.pre a4 b4) hpp (fun _ z => z.elim)⟩ cf1 hpp)⟩
      rw [show f + 2 = (f + 1) + 1 by omega, hT2 (f + 1) s1 s2 a2 b2]
      exact TW_F b3
  · obtain ⟨x, y, v1, v2, v3, v4, v5, v6, v7⟩ := a3
    have e1 : mf_66 N s1 = some (s1, none) := by
      unfold mf_66 mf_66_0 mf_66_7
      simp (disch := omega) only [ev_S, ev_P, ↓reduceIte, Nat.reduceEqDiff, Nat.reduceLeDiff, Nat.reduceAdd, Nat.reduceMul, Nat.reduceSub, reduceCtorEq, l32_0, l32_1, l32_2, l32_3, l32_4, l32_5, l32_6, l32_7, l32_8, l32_9, l32_10, l32_11, l32_12, l32_13, l32_14, l32_15, l32_16, l32_17, l32_18, l32_19, l32_20, l32_21, l32_22, l32_23, l32_24, l32_25, l32_26, l32_27, l32_28, l32_29, l32_33, l32_40, l32_41, l32_44, l32_45, l32_59, l32_61, l32_91, l32_93, l32_123, l32_125, v6]
    refine Or.inr ⟨t1, s1, 2, by rw [a1]; rfl, by omega, fun f => ?_, ⟨x, y, v1, v2, v3, v4, v5, v6, v7⟩, FXs.F ⟨a4.mono eP_Q (fun _ z => z.elim), (fPs.Q a5).S, z0.kp a4 hpp (fun _ z => z.elim)⟩ h14 hpp⟩
    rw [show f + 2 = (f + 1) + 1 by omega, hT2 (f + 1) s1 s1 a2 e1]
    exact TW_F ⟨x, y, v1, v2, v3, v4, v5, v6, v7⟩
end PFN
