-- ### 94j.pure.lean.txt
section
/-! ===== PURE: load (4): all calls ===== -/
/-- a call that is bound -/
def bnds (code : List Ins) (Fs : List Fn) (x : Cn) : Prop := ∃ hm : (code.getD x.1 dI).2.1 < Fs.length, Fs[(code.getD x.1 dI).2.1].2.2.1 = x.2.2.2.2
/-- all calls so far are bound -/
def BS (p e : Nat) (code : List Ins) (cl : List Cn) (Fs : List Fn) (t : cS) (s : mS) : Prop := cCd t p (CA code) ∧ rCd s e (RA e code) ∧ cCl t (cl.map (cK code)) ∧ rCl s (cl.map (rK e code)) ∧ okX code cl cl ∧ cFt t p Fs.length code Fs ∧ rFt s e Fs.length code Fs ∧ (∀ f ∈ Fs, FOK code f) ∧ cx code < 6500 ∧ rl code + xl code ≤ 1610 ∧ lyo code = some [] ∧ wfC code ∧ s.1 9 = Int32.ofNat 0
section BNL
variable {N : Nat} {X : Nat → Option zz_C} {t t' t1 t2 : cS} {s s' s1 s2 : mS} {b : Nat → Nat} {n p e i op c D m : Nat} {code code1 : List Ins} {cl : List Cn} {Fs : List Fn} {x : Cn}
theorem okN.ltC (h : okN code x) : posC code x.1 + x.2.1 < cx code := by
  obtain ⟨x1, x2, x3, x4, x5, x6, x7⟩ := h
  have key : ∃ pre a l, x.2.1 = (pre : List C3).length ∧ cI code (posC code x.1) (code.getD x.1 dI) = pre ++ a :: l := by
    generalize code.getD x.1 dI = c at *
    obtain ⟨o, j, r, a, q, u, y⟩ := c
    rcases x7 with ⟨y1, y2⟩ | ⟨y1, y2⟩
    · have y1 : o = 9 := y1
      subst y1
      exact ⟨[], (28, fa j, q), [], y2, rfl⟩
    · have y1 : o = 10 := y1
      subst y1
      exact ⟨[(25, 0, q)], (if r = 1 then 13 else 15, fa j, q), [(if r = 1 then 14 else 16, Int32.ofNat (posC code x.1 + 1), q)], y2, rfl⟩
  obtain ⟨pre, a, l, z1, z2⟩ := key
  obtain ⟨g1, g2⟩ := CA_get2 x1 z2
  rw [CA_len, ← z1] at g1
  exact g1
theorem okN.ltR (h : okN code x) : posR code x.1 + x.2.1 < rl code := by
  obtain ⟨x1, x2, x3, x4, x5, x6, x7⟩ := h
  have key : ∃ pre a l, x.2.1 = (pre : List R5).length ∧ rI 0 code (code.getD x.1 dI) = pre ++ a :: l := by
    generalize code.getD x.1 dI = c at *
    obtain ⟨o, j, r, a, q, u, y⟩ := c
    rcases x7 with ⟨y1, y2⟩ | ⟨y1, y2⟩
    · have y1 : o = 9 := y1
      subst y1
      exact ⟨[], (9, fr 0 j, Int32.ofNat r, 0, q), [], y2, rfl⟩
    · have y1 : o = 10 := y1
      subst y1
      exact ⟨[(10, Int32.ofNat (27 + r), 0, 0, q)], (11, Int32.ofNat (27 + r), fr 0 j, 0, q), [], y2, rfl⟩
  obtain ⟨pre, a, l, z1, z2⟩ := key
  obtain ⟨g1, g2⟩ := RA_get2 x1 z2
  rw [RA_len, ← z1] at g1
  exact g1
theorem tl_fJ (h : tl e s s') : fJ e s s' := fS.F h.2.2
theorem gL_bi {v w : Int32} : gL eBi a0 t (jI (jI t 2 10 v) 2 11 w) := ⟨fun k f r => by
  show (if k = 2 ∧ f = 11 then _ else if k = 2 ∧ f = 10 then _ else kI t k f) = _
  rw [if_neg (by omega), if_neg (by omega)], fun _ _ _ => rfl, fun _ _ _ => ⟨rfl, rfl, rfl⟩, rfl, rfl, Nat.le_refl _, Nat.le_refl _, Nat.le_refl _⟩
/-- the class's loop and the reference's at the end -/
theorem c_bend {Q : Nat} (hcl : cCl t (cl.map (cK code))) (hle : cl.length ≤ 800) : cf_38_L1 N X (Q + 1) 0 (Int32.ofNat cl.length) t = some (t, .inl none) := by
  have h9 : kI t 2 9 = Int32.ofNat cl.length := by
    have := hcl.1
    rw [List.length_map] at this
    exact this
  show cf_38_2 N X (cf_38_L1 N X Q) (Int32.ofNat cl.length) t = _
  unfold cf_38_2 cf_38_108
  simp (disch := omega) only [ev_S, ev_C, ↓reduceIte, Nat.reduceEqDiff, Nat.reduceLeDiff, Nat.reduceAdd, Nat.reduceMul, Nat.reduceSub, reduceCtorEq, l32_0, l32_1, l32_2, l32_3, l32_4, l32_5, l32_6, l32_7, l32_8, l32_9, l32_10, l32_11, l32_12, l32_13, l32_14, l32_15, l32_16, l32_17, l32_18, l32_19, l32_20, l32_21, l32_22, l32_23, l32_24, l32_25, l32_26, l32_27, l32_28, l32_29, l32_33, l32_40, l32_41, l32_44, l32_45, l32_59, l32_61, l32_91, l32_93, l32_123, l32_125, h9]
theorem r_bend {q : Nat} {x1 : Int32} (hcl : rCl s (cl.map (rK e code))) : mf_64_L3 N (q + 1) 0 x1 (Int32.ofNat cl.length) 0 0 s = mf_64_184 N x1 s := by
  have h9 : s.1 29 = Int32.ofNat cl.length := by
    have := hcl.1
    rw [List.length_map] at this
    exact this
  have hle : cl.length ≤ 800 := by
    have := hcl.2.1
    rw [List.length_map] at this
    exact this
  show mf_64_4 N (mf_64_L3 N q) x1 (Int32.ofNat cl.length) s = _
  unfold mf_64_4
  simp (disch := omega) only [ev_S, ev_P, ↓reduceIte, Nat.reduceEqDiff, Nat.reduceLeDiff, Nat.reduceAdd, Nat.reduceMul, Nat.reduceSub, reduceCtorEq, l32_0, l32_1, l32_2, l32_3, l32_4, l32_5, l32_6, l32_7, l32_8, l32_9, l32_10, l32_11, l32_12, l32_13, l32_14, l32_15, l32_16, l32_17, l32_18, l32_19, l32_20, l32_21, l32_22, l32_23, l32_24, l32_25, l32_26, l32_27, l32_28, l32_29, l32_33, l32_40, l32_41, l32_44, l32_45, l32_59, l32_61, l32_91, l32_93, l32_123, l32_125, h9]
/-- one call is wrong; the others -/
theorem p_bnd2 (hN : 170000 ≤ N) (he : e ≤ 1) (hF : okFn Fs) (hp4 : ∀ k (hk : k < Fs.length), Fs[k].2.2.1 ≤ 4) (hx : ∀ x ∈ cl, okN code x) (hcx : cx code < 6500) (hrl : rl code ≤ 1700) : ∀ (r c y : Nat) (t : cS) (s : mS) (Q q : Nat), c + r = cl.length → BW p e code cl Fs t s → kI t 2 10 = Int32.ofNat 6 → kI t 2 11 = Int32.ofNat y → y ≤ 1600 → r < Q → 20 * (r + 1) ≤ q → ∃ t' s', cf_38_L1 N X Q 0 (Int32.ofNat c) t = some (t', .inl none) ∧ mf_64_L3 N q 0 (Int32.ofNat y) (Int32.ofNat c) 0 0 s = some (s', none) ∧ pF t' s' ∧ gL eBi (aC p) t t' ∧ fJ e s s' ∧ ∃ LC, cCd t' p LC := by
  intro r
  induction r with
  | zero =>
    intro c y t s Q q hc h h10 h11 hy hQ hq
    have hc : c = cl.length := hc
    subst hc
    obtain ⟨⟨LC, b1, b2⟩, b3, b4, b5, b6, b7, b8, b9⟩ := h
    have hle : cl.length ≤ 800 := by
      have := b4.2.1
      rw [List.length_map] at this
      exact this
    obtain ⟨Q, rfl⟩ : ∃ k, Q = k + 1 := ⟨Q - 1, by omega⟩
    obtain ⟨q, rfl⟩ : ∃ k, q = k + 1 := ⟨q - 1, by omega⟩
    have hb : mf_261 N (Int32.ofNat 6) (Int32.ofNat y) s = some (flt s (Int32.ofNat 6) (Int32.ofNat y), none) := r_breaks b9
    refine ⟨t, flt s (Int32.ofNat 6) (Int32.ofNat y), c_bend b3 hle, ?_, ⟨6, y, by omega, by omega, hy, h10, h11, rfl, rfl⟩, gL.rf, ⟨fun q r => ?_, fun _ _ => rfl, fun _ _ => rfl, fun _ _ => rfl, fun _ _ _ _ => rfl, fun _ _ _ _ => rfl, fun z => z⟩, LC, b1⟩
    · rw [r_bend b4]
      unfold mf_64_184 mf_64_188 mf_64_195
      simp (disch := omega) only [ev_S, ev_P, ↓reduceIte, Nat.reduceEqDiff, Nat.reduceLeDiff, Nat.reduceAdd, Nat.reduceMul, Nat.reduceSub, reduceCtorEq, l32_0, l32_1, l32_2, l32_3, l32_4, l32_5, l32_6, l32_7, l32_8, l32_9, l32_10, l32_11, l32_12, l32_13, l32_14, l32_15, l32_16, l32_17, l32_18, l32_19, l32_20, l32_21, l32_22, l32_23, l32_24, l32_25, l32_26, l32_27, l32_28, l32_29, l32_33, l32_40, l32_41, l32_44, l32_45, l32_59, l32_61, l32_91, l32_93, l32_123, l32_125, hb]
    · show (if q = 10 then _ else if q = 9 then _ else s.1 q) = _
      rw [if_neg (by omega), if_neg (by omega)]
  | succ r ih =>
    intro c y t s Q q hc h h10 h11 hy hQ hq
    obtain ⟨⟨LC, b1, b2⟩, b3, b4, b5, b6, b7, b8, b9⟩ := h
    have hcl : c < cl.length := by omega
    have hle : cl.length ≤ 800 := by
      have := b4.2.1
      rw [List.length_map] at this
      exact this
    have hxc := hx cl[c] (List.getElem_mem _)
    obtain ⟨m, m1, m2, m3⟩ := fndF Fs cl[c].2.2.1
    have hpp := b1.2.1
    have hc12 := b5.2.1
    have lC := hxc.ltC
    have lR := hxc.ltR
    obtain ⟨Q, rfl⟩ : ∃ k, Q = k + 1 := ⟨Q - 1, by omega⟩
    obtain ⟨q', rfl⟩ : ∃ k, q = k + (m + 1) + 1 := ⟨q - (m + 1) - 1, by omega⟩
    obtain ⟨t1, d1, d2, d3, d4⟩ := c_amend (N := N) (X := X) (m := posC code cl[c].1 + cl[c].2.1) (v := if m < Fs.length then Int32.ofNat m else -1) b1 (by rw [b2]; exact lC) (by rw [b2]; exact hcx)
    obtain ⟨cc1, cc2⟩ := c_call1 (N := N) (X := X) (rc := cf_38_L1 N X Q) (m := m) (t1 := t1) hN hF b5 b3 b1.1 hpp hcl hle hxc hp4 m1 m2 m3 d1 d3
    obtain ⟨rr1, rr2, rr3⟩ := r_call1 (N := N) (q := q') (x1 := Int32.ofNat y) (m := m) he hF hc12 b6 b8 b4 hcl hxc (by omega) (b7 cl[c] (List.getElem_mem _)) hp4 m1 m2 m3
    have n10 : kI t1 2 10 = Int32.ofNat 6 := by rw [d3.1 2 10 (fun z => z)]; exact h10
    have n11 : kI t1 2 11 = Int32.ofNat y := by rw [d3.1 2 11 (fun z => z)]; exact h11
    have eL : cf_38_L1 N X (Q + 1) 0 (Int32.ofNat c) t = cf_38_2 N X (cf_38_L1 N X Q) (Int32.ofNat c) t := rfl
    rw [eL]
    have cl1 : cCl t1 (cl.map (cK code)) := b3.keep d3 (fun z => z) (fun _ z => by rcases hpp with y | y <;> subst y <;> omega)
    have cf1 : cFt t1 p Fs.length code Fs := b5.keep d3 hpp (fun z => z) (fun _ z => by omega)
    have len1 : (LC.set (posC code cl[c].1 + cl[c].2.1) (LC[posC code cl[c].1 + cl[c].2.1]'(by rw [b2]; exact lC) |>.1, (if m < Fs.length then Int32.ofNat m else -1), (LC[posC code cl[c].1 + cl[c].2.1]'(by rw [b2]; exact lC)).2.2)).length = cx code := by rw [List.length_set]; exact b2
    have o24 : ob0 e ≤ ob0 e + posR code cl[c].1 + cl[c].2.1 ∧ ob0 e + posR code cl[c].1 + cl[c].2.1 < ob0 e + 4000 := by omega
    by_cases hf : fit Fs cl[c] m
    · have cs := cc1 hf
      rw [cs]
      have kk := hxc.2.2.2.2.2.2
      rcases kk with ⟨kk, -⟩ | ⟨kk, -⟩
      · rw [rr1 hf kk]
        obtain ⟨t2, s2, e1, e2, e3, e4, e5, e6⟩ := ih (c + 1) y t1 (mA s 24 (upd (s.2.2.1 24) (ob0 e + posR code cl[c].1 + cl[c].2.1) (Int32.ofNat (fb0 e + m)))) Q q' (by omega) ⟨⟨_, d2, len1⟩, cl1, b4.keep rfl (fun q z => if_neg (by omega)) rfl, cf1, b6.keep rfl (fun q z => if_neg (by omega)) rfl, b7, b8, b9⟩ n10 n11 hy (by omega) (by omega)
        exact ⟨t2, s2, e1, e2, e3, (d3.mono (fun _ _ z => z.elim) (fun _ z => z)).tr e4, (tl_fJ (tl_seta o24)).tr e5, e6⟩
      · rw [rr2 hf kk]
        obtain ⟨t2, s2, e1, e2, e3, e4, e5, e6⟩ := ih (c + 1) y t1 (mA s 25 (upd (s.2.2.1 25) (ob0 e + posR code cl[c].1 + cl[c].2.1) (Int32.ofNat (fb0 e + m)))) Q q' (by omega) ⟨⟨_, d2, len1⟩, cl1, b4.keep rfl (fun q z => if_neg (by omega)) rfl, cf1, b6.keep rfl (fun q z => if_neg (by omega)) rfl, b7, b8, b9⟩ n10 n11 hy (by omega) (by omega)
        exact ⟨t2, s2, e1, e2, e3, (d3.mono (fun _ _ z => z.elim) (fun _ z => z)).tr e4, (tl_fJ (tl_setb o24)).tr e5, e6⟩
    · have cs := (cc2 hf).2 y hy n10 n11
      rw [cs, rr3 hf (Or.inr ⟨y, hy, rfl⟩)]
      have n1 : ¬ Int32.ofNat y = -Int32.ofNat 1 := by
        rw [ev_n5 (by omega)]
        exact fun q => q
      rw [if_neg n1]
      have hpl := hxc.2.2.2.1
      by_cases z : y ≤ cl[c].2.2.2.1
      · rw [if_pos z, if_pos ((i32le (by omega) (by omega)).mpr z)]
        obtain ⟨t2, s2, e1, e2, e3, e4, e5, e6⟩ := ih (c + 1) y t1 s Q q' (by omega) ⟨⟨_, d2, len1⟩, cl1, b4, cf1, b6, b7, b8, b9⟩ n10 n11 hy (by omega) (by omega)
        exact ⟨t2, s2, e1, e2, e3, (d3.mono (fun _ _ z => z.elim) (fun _ z => z)).tr e4, e5, e6⟩
      · rw [if_neg z, if_neg (fun q => z ((i32le (by omega) (by omega)).mp q))]
        have gj : gL eBi a0 t1 (jI (jI t1 2 10 (Int32.ofNat 6)) 2 11 (Int32.ofNat cl[c].2.2.2.1)) := gL_bi
        obtain ⟨t2, s2, e1, e2, e3, e4, e5, e6⟩ := ih (c + 1) cl[c].2.2.2.1 (jI (jI t1 2 10 (Int32.ofNat 6)) 2 11 (Int32.ofNat cl[c].2.2.2.1)) s Q q' (by omega) ⟨⟨_, d2.keep gj (fun z => by rcases hpp with y | y <;> subst y <;> omega) (fun _ z => z.elim) (gj.p21 (by omega)), len1⟩, cl1.keep gj (by omega) (fun _ z => z.elim), b4, cf1.keep gj hpp (by rcases hpp with y | y <;> subst y <;> omega) (fun _ z => z.elim), b6, b7, b8, b9⟩ rfl rfl hpl (by omega) (by omega)
        exact ⟨t2, s2, e1, e2, e3, ((d3.mono (fun _ _ z => z.elim) (fun _ z => z)).tr (gj.mono (fun _ _ z => z) (fun _ z => z.elim))).tr e4, e5, e6⟩
/-- the picture of the code, where a call is bound -/
theorem okI_bnd {nv f : Nat} {c : Ins} (hk : c.1 = 9 ∨ c.1 = 10) (h : okI nv c) : okI nv (bnd f c) := by
  obtain ⟨h1, h2, h3, h4, h5, h6, h7⟩ := h
  exact ⟨h1, h2, fun z => by have z : c.1 = 8 := z; omega, h4, fun z => by have z : c.1 = 12 := z; omega, fun z => by have z : c.1 = 6 := z; omega, h7⟩
theorem FOK.bnd {f : Fn} {g m : Nat} (h : FOK code f) (hm : m < code.length) (hk : (code.getD m dI).1 = 9 ∨ (code.getD m dI).1 = 10) : FOK (code.set m (bnd g (code.getD m dI))) f := by
  obtain ⟨h1, h2, h3, h4, h5, h6, h7⟩ := h
  have he : ∀ L, eff (Jvm.Pilot.CTallySlateLaw_law_r9425_93dbe7.bnd g (code.getD m dI)) L = eff (code.getD m dI) L := eff_bnd hk
  refine ⟨h1, by rw [List.length_set]; exact h2, ?_, fun k k1 k2 => ?_, fun k k1 k2 => ?_, ?_, h7⟩
  · rw [lyo_set_take he]
    exact h3
  · by_cases z : k = m
    · subst z
      rw [getD_set_eq hm]
      exact okI_bnd hk (h4 k k1 k2)
    · rw [getD_set_ne z]
      exact h4 k k1 k2
  · by_cases z : k = m
    · subst z
      rw [getD_set_eq hm]
      refine Or.inl ?_
      unfold noJ
      show ¬ ((code.getD k dI).1 = 13 ∨ (code.getD k dI).1 = 14 ∨ (code.getD k dI).1 = 18 ∨ (code.getD k dI).1 = 23 ∨ (code.getD k dI).1 = 24)
      omega
    · rw [getD_set_ne z]
      rcases h5 k k1 k2 with w | ⟨g1, g2, g3, L, L', g4, g5, g6⟩
      · exact Or.inl w
      · refine Or.inr ⟨g1, g2, fun q => ?_, L, L', ?_, ?_, g6⟩
        · have g3 := g3 q
          have hne : ¬ (code.getD k dI).2.1 = m := fun q => by
            rw [q] at g3
            omega
          rw [getD_set_ne hne]
          exact g3
        · rw [lyo_set_take he]
          exact g4
        · rw [lyo_set_take he]
          exact g5
  · by_cases z : f.2.2.2.2.2 - 1 = m
    · rw [z] at h6
      omega
    · rw [getD_set_ne z]
      exact h6
theorem okX.bnd {g m : Nat} (h : okX code cl cl) (hm : m < code.length) : okX (code.set m (bnd g (code.getD m dI))) cl cl := by
  refine ⟨fun x hx => ?_, fun k k1 k2 => ?_⟩
  · obtain ⟨q1, q2, q3, q4, q5, q6, q7⟩ := h.1 x hx
    by_cases z : x.1 = m
    · subst z
      refine ⟨by rw [List.length_set]; exact q1, q2, q3, q4, q5, ?_, ?_⟩
      · rw [getD_set_eq q1]
        exact q6
      · rw [getD_set_eq q1]
        exact q7
    · refine ⟨by rw [List.length_set]; exact q1, q2, q3, q4, q5, ?_, ?_⟩
      · rw [getD_set_ne z]
        exact q6
      · rw [getD_set_ne z]
        exact q7
  · rw [List.length_set] at k1
    by_cases z : k = m
    · subst z
      rw [getD_set_eq hm] at k2
      exact h.2 k k1 k2
    · rw [getD_set_ne z] at k2
      exact h.2 k k1 k2
/-- all calls, as long as none is wrong -/
theorem p_bnd1 (hN : 170000 ≤ N) (he : e ≤ 1) (hF : okFn Fs) (hp4 : ∀ k (hk : k < Fs.length), Fs[k].2.2.1 ≤ 4) : ∀ (r c : Nat) (code : List Ins) (t : cS) (s : mS) (Q q : Nat), c + r = cl.length → BS p e code cl Fs t s → (∀ k (hk : k < cl.length), k < c → bnds code Fs cl[k]) → kI t 2 10 = Int32.ofNat 0 → r < Q → 20 * (r + 1) ≤ q → (∃ t' s' code', cf_38_L1 N X Q 0 (Int32.ofNat c) t = some (t', .inl none) ∧ mf_64_L3 N q 0 (-Int32.ofNat 1) (Int32.ofNat c) 0 0 s = some (s', none) ∧ BS p e code' cl Fs t' s' ∧ (∀ x ∈ cl, bnds code' Fs x) ∧ gL eBi (aC p) t t' ∧ kI t' 2 10 = Int32.ofNat 0 ∧ kI t' 2 11 = kI t 2 11 ∧ s'.1 10 = s.1 10 ∧ fJ e s s') ∨ (∃ t' s', cf_38_L1 N X Q 0 (Int32.ofNat c) t = some (t', .inl none) ∧ mf_64_L3 N q 0 (-Int32.ofNat 1) (Int32.ofNat c) 0 0 s = some (s', none) ∧ pF t' s' ∧ gL eBi (aC p) t t' ∧ fJ e s s' ∧ ∃ LC, cCd t' p LC) := by
  intro r
  induction r with
  | zero =>
    intro c code t s Q q hc h hb h10 hQ hq
    have hc : c = cl.length := hc
    subst hc
    have b3 := h.2.2.1
    have b4 := h.2.2.2.1
    have hle : cl.length ≤ 800 := by
      have := b4.2.1
      rw [List.length_map] at this
      exact this
    obtain ⟨Q, rfl⟩ : ∃ k, Q = k + 1 := ⟨Q - 1, by omega⟩
    obtain ⟨q, rfl⟩ : ∃ k, q = k + 1 := ⟨q - 1, by omega⟩
    refine Or.inl ⟨t, s, code, c_bend b3 hle, ?_, h, fun x hx => ?_, gL.rf, h10, rfl, rfl, fJ.rf⟩
    · rw [r_bend b4]
      have r2 : (-Int32.ofNat 1 < Int32.ofNat 0) = True := by decide
      unfold mf_64_184 mf_64_195
      simp (disch := omega) only [ev_S, ev_P, ↓reduceIte, Nat.reduceEqDiff, Nat.reduceLeDiff, Nat.reduceAdd, Nat.reduceMul, Nat.reduceSub, reduceCtorEq, l32_0, l32_1, l32_2, l32_3, l32_4, l32_5, l32_6, l32_7, l32_8, l32_9, l32_10, l32_11, l32_12, l32_13, l32_14, l32_15, l32_16, l32_17, l32_18, l32_19, l32_20, l32_21, l32_22, l32_23, l32_24, l32_25, l32_26, l32_27, l32_28, l32_29, l32_33, l32_40, l32_41, l32_44, l32_45, l32_59, l32_61, l32_91, l32_93, l32_123, l32_125, r2]
    · obtain ⟨k, hk, e1⟩ := List.mem_iff_getElem.mp hx
      rw [← e1]
      exact hb k hk hk
  | succ r ih =>
    intro c code t s Q q hc h hb h10 hQ hq
    obtain ⟨c1, c2, c3, c4, c5, c6, c7, c8, c9, c10, c11, c12', c13⟩ := h
    have hcl : c < cl.length := by omega
    have hle : cl.length ≤ 800 := by
      have := c4.2.1
      rw [List.length_map] at this
      exact this
    have hxc := c5.1 cl[c] (List.getElem_mem _)
    obtain ⟨m, m1, m2, m3⟩ := fndF Fs cl[c].2.2.1
    have hpp := c1.2.1
    have hc12 := c6.2.1
    have lC := hxc.ltC
    have lR := hxc.ltR
    have h12 : s.1 12 = Int32.ofNat e := c2.1
    have hop : ∀ x ∈ cl, s.2.2.1 23 (ob0 e + posR code x.1 + x.2.1) = (if (code.getD x.1 dI).1 = 9 then Int32.ofNat 9 else Int32.ofNat 11) := fun x hx => (r_bnd (f := 0) c2 (c5.1 x hx) (by omega)).1
    obtain ⟨Q, rfl⟩ : ∃ k, Q = k + 1 := ⟨Q - 1, by omega⟩
    obtain ⟨q', rfl⟩ : ∃ k, q = k + (m + 1) + 1 := ⟨q - (m + 1) - 1, by omega⟩
    obtain ⟨rr1, rr2, rr3⟩ := r_call1 (N := N) (q := q') (x1 := -Int32.ofNat 1) (m := m) he hF hc12 c7 h12 c4 hcl hxc (by omega) (hop cl[c] (List.getElem_mem _)) hp4 m1 m2 m3
    have eL : cf_38_L1 N X (Q + 1) 0 (Int32.ofNat c) t = cf_38_2 N X (cf_38_L1 N X Q) (Int32.ofNat c) t := rfl
    rw [eL]
    have o24 : ob0 e ≤ ob0 e + posR code cl[c].1 + cl[c].2.1 ∧ ob0 e + posR code cl[c].1 + cl[c].2.1 < ob0 e + 4000 := by omega
    by_cases hf : fit Fs cl[c] m
    · have hmF := hf.1
      obtain ⟨t1, d1, d2, d3⟩ := c_bnd (N := N) (X := X) (f := m) c1 c9 hxc (by omega)
      have d1' : cf_210 N X p (cK code cl[c]).1 (if m < Fs.length then Int32.ofNat m else -1) t = some (t1, .inl none) := by rw [if_pos hmF]; exact d1
      obtain ⟨cc1, cc2⟩ := c_call1 (N := N) (X := X) (rc := cf_38_L1 N X Q) (m := m) (t1 := t1) hN hF c6 c3 c1.1 hpp hcl hle hxc hp4 m1 m2 m3 d1' d3
      obtain ⟨-, -, rb1, rb2⟩ := r_bnd (f := m) c2 hxc (by omega)
      rw [cc1 hf]
      have kk := hxc.2.2.2.2.2.2
      have k910 : (code.getD cl[c].1 dI).1 = 9 ∨ (code.getD cl[c].1 dI).1 = 10 := by
        rcases kk with ⟨kk, -⟩ | ⟨kk, -⟩
        · exact Or.inl kk
        · exact Or.inr kk
      have hx1 := hxc.1
      have kcl : clen (bnd m (code.getD cl[c].1 dI)) = clen (code.getD cl[c].1 dI) := clen_k rfl
      have krl : rlen (bnd m (code.getD cl[c].1 dI)) = rlen (code.getD cl[c].1 dI) := rlen_k rfl
      have kxl : xlen (bnd m (code.getD cl[c].1 dI)) = xlen (code.getD cl[c].1 dI) := by
        rcases k910 with z | z
        · unfold xlen bnd
          dsimp only
          rw [if_neg (by omega), if_pos z, if_neg (by omega), if_pos z]
        · unfold xlen bnd
          dsimp only
          rw [if_neg (by omega), if_neg (by omega), if_neg (by omega), if_neg (by omega), if_neg (by omega), if_neg (by omega)]
      have e1 : cl.map (cK (code.set cl[c].1 (bnd m (code.getD cl[c].1 dI)))) = cl.map (cK code) := List.map_congr_left fun x hx => by
        unfold cK
        rw [posC_set kcl]
      have e2 : cl.map (rK e (code.set cl[c].1 (bnd m (code.getD cl[c].1 dI)))) = cl.map (rK e code) := List.map_congr_left fun x hx => by
        unfold rK
        rw [posR_set krl]
      have cf1 : cFt t1 p Fs.length (code.set cl[c].1 (bnd m (code.getD cl[c].1 dI))) Fs := by
        obtain ⟨g1, g2, g3, g4, g5, g6, g7, g8, g9⟩ := c6.keep d3 hpp (fun z => z) (fun _ z => by omega)
        refine ⟨g1, g2, g3, g4, g5, g6, g7, g8, fun k hk => ?_⟩
        rw [posC_set kcl]
        exact g9 k hk
      have rfx : ∀ s' : mS, rFt s' e Fs.length code Fs → rFt s' e Fs.length (code.set cl[c].1 (bnd m (code.getD cl[c].1 dI))) Fs := fun s' hh => by
        refine ⟨hh.1, fun k hk => ?_⟩
        rw [posR_set krl]
        exact hh.2 k hk
      have wf1 : wfC (code.set cl[c].1 (bnd m (code.getD cl[c].1 dI))) := fun x hx => by
        rw [List.length_set]
        rcases List.mem_or_eq_of_mem_set hx with z | z
        · exact c12' x z
        · subst z
          refine Or.inr (Or.inr ?_)
          show ¬ ((code.getD cl[c].1 dI).1 = 13 ∨ (code.getD cl[c].1 dI).1 = 14 ∨ (code.getD cl[c].1 dI).1 = 18 ∨ (code.getD cl[c].1 dI).1 = 23 ∨ (code.getD cl[c].1 dI).1 = 24)
          omega
      have bs1 : ∀ s' : mS, rCd s' e (RA e (code.set cl[c].1 (bnd m (code.getD cl[c].1 dI)))) → rCl s' (cl.map (rK e code)) → rFt s' e Fs.length code Fs → s'.1 9 = Int32.ofNat 0 → BS p e (code.set cl[c].1 (bnd m (code.getD cl[c].1 dI))) cl Fs t1 s' := fun s' z1 z2 z3 z4 => ⟨d2, z1, by rw [e1]; exact c3.keep d3 (fun z => z) (fun _ z => by rcases hpp with y | y <;> subst y <;> omega), by rw [e2]; exact z2, c5.bnd hx1, cf1, rfx s' z3, fun f hf => (c8 f hf).bnd hx1 k910, by rw [cx_set kcl]; exact c9, by rw [rl_set krl, xl_set kxl]; exact c10, by rw [lyo_set (eff_bnd k910)]; exact c11, wf1, z4⟩
      have hb1 : ∀ k (hk : k < cl.length), k < c + 1 → bnds (code.set cl[c].1 (bnd m (code.getD cl[c].1 dI))) Fs cl[k] := fun k hk hkc => by
        unfold bnds
        by_cases z : cl[k].1 = cl[c].1
        · rw [z, getD_set_eq hx1]
          refine ⟨hmF, ?_⟩
          show Fs[m].2.2.1 = _
          rw [hf.2]
          have q1 := (c5.1 cl[k] (List.getElem_mem _)).2.2.2.2.2.1
          rw [z, hxc.2.2.2.2.2.1] at q1
          exact q1
        · rw [getD_set_ne z]
          have hkc2 : ¬ k = c := fun q => by
            subst q
            exact z rfl
          exact hb k hk (by omega)
      have n10 : kI t1 2 10 = Int32.ofNat 0 := by rw [d3.1 2 10 (fun z => z)]; exact h10
      have n11 : kI t1 2 11 = kI t 2 11 := d3.1 2 11 (fun z => z)
      have G1 : gL eBi (aC p) t t1 := d3.mono (fun _ _ z => z.elim) (fun _ z => z)
      rcases k910 with kk | kk
      · rw [rr1 hf kk]
        obtain ⟨u1, u2⟩ := rb1 kk
        rcases ih (c + 1) (code.set cl[c].1 (bnd m (code.getD cl[c].1 dI))) t1 (mA s 24 (upd (s.2.2.1 24) (ob0 e + posR code cl[c].1 + cl[c].2.1) (Int32.ofNat (fb0 e + m)))) Q q' (by omega) (bs1 _ u1 (c4.keep rfl (fun q z => if_neg (by omega)) rfl) (c7.keep rfl (fun q z => if_neg (by omega)) rfl) c13) hb1 n10 (by omega) (by omega) with ⟨t2, s2, code2, f1, f2, f3, f4, f5, f6, f7, f8, f9⟩ | ⟨t2, s2, f1, f2, f3, f4, f5, f6⟩
        · exact Or.inl ⟨t2, s2, code2, f1, f2, f3, f4, G1.tr f5, f6, f7.trans n11, f8, (tl_fJ (tl_seta o24)).tr f9⟩
        · exact Or.inr ⟨t2, s2, f1, f2, f3, G1.tr f4, (tl_fJ (tl_seta o24)).tr f5, f6⟩
      · rw [rr2 hf kk]
        obtain ⟨u1, u2⟩ := rb2 kk
        rcases ih (c + 1) (code.set cl[c].1 (bnd m (code.getD cl[c].1 dI))) t1 (mA s 25 (upd (s.2.2.1 25) (ob0 e + posR code cl[c].1 + cl[c].2.1) (Int32.ofNat (fb0 e + m)))) Q q' (by omega) (bs1 _ u1 (c4.keep rfl (fun q z => if_neg (by omega)) rfl) (c7.keep rfl (fun q z => if_neg (by omega)) rfl) c13) hb1 n10 (by omega) (by omega) with ⟨t2, s2, code2, f1, f2, f3, f4, f5, f6, f7, f8, f9⟩ | ⟨t2, s2, f1, f2, f3, f4, f5, f6⟩
        · exact Or.inl ⟨t2, s2, code2, f1, f2, f3, f4, G1.tr f5, f6, f7.trans n11, f8, (tl_fJ (tl_setb o24)).tr f9⟩
        · exact Or.inr ⟨t2, s2, f1, f2, f3, G1.tr f4, (tl_fJ (tl_setb o24)).tr f5, f6⟩
    · obtain ⟨t1, d1, d2, d3, d4⟩ := c_amend (N := N) (X := X) (m := posC code cl[c].1 + cl[c].2.1) (v := if m < Fs.length then Int32.ofNat m else -1) c1 (by rw [CA_len]; exact lC) (by rw [CA_len]; exact c9)
      obtain ⟨cc1, cc2⟩ := c_call1 (N := N) (X := X) (rc := cf_38_L1 N X Q) (m := m) (t1 := t1) hN hF c6 c3 c1.1 hpp hcl hle hxc hp4 m1 m2 m3 d1 d3
      have n10 : kI t1 2 10 = Int32.ofNat 0 := by rw [d3.1 2 10 (fun z => z)]; exact h10
      rw [(cc2 hf).1 n10, rr3 hf (Or.inl rfl), if_pos rfl]
      have gj : gL eBi a0 t1 (jI (jI t1 2 10 (Int32.ofNat 6)) 2 11 (Int32.ofNat cl[c].2.2.2.1)) := gL_bi
      have len1 : ∀ a : C3, ((CA code).set (posC code cl[c].1 + cl[c].2.1) a).length = cx code := fun a => by rw [List.length_set, CA_len]
      have cl1 : cCl t1 (cl.map (cK code)) := c3.keep d3 (fun z => z) (fun _ z => by rcases hpp with y | y <;> subst y <;> omega)
      have cf1 : cFt t1 p Fs.length code Fs := c6.keep d3 hpp (fun z => z) (fun _ z => by omega)
      obtain ⟨t2, s2, f1, f2, f3, f4, f5, f6⟩ := p_bnd2 (N := N) (X := X) (p := p) (e := e) (code := code) (cl := cl) (Fs := Fs) hN he hF hp4 c5.1 c9 (by omega) r (c + 1) cl[c].2.2.2.1 (jI (jI t1 2 10 (Int32.ofNat 6)) 2 11 (Int32.ofNat cl[c].2.2.2.1)) s Q q' (by omega) ⟨⟨_, d2.keep gj (fun z => by rcases hpp with y | y <;> subst y <;> omega) (fun _ z => z.elim) (gj.p21 (by omega)), len1 _⟩, cl1.keep gj (by omega) (fun _ z => z.elim), c4, cf1.keep gj hpp (by rcases hpp with y | y <;> subst y <;> omega) (fun _ z => z.elim), c7, hop, h12, c13⟩ rfl rfl hxc.2.2.2.1 (by omega) (by omega)
      exact Or.inr ⟨t2, s2, f1, f2, f3, ((d3.mono (fun _ _ z => z.elim) (fun _ z => z)).tr (gj.mono (fun _ _ z => z) (fun _ z => z.elim))).tr f4, f5, f6⟩
end BNL
end
-- ### 94k.pure.lean.txt
section
/-! ===== PURE: load (5): the text is compiled ===== -/
section CMP
variable {N : Nat} {X : Nat → Option zz_C} {b : Nat → Nat} {n x1 : Nat}
theorem c_scan2 {t : cS} (hN : 170000 ≤ N) (hX : oX N X) (h : cTx t x1 b n) (h3 : (kA t 5).1 = (kA t 4).1 ∧ (kB t 6).1 = (kA t 4).1 ∧ 1 ≤ (kA t 4).1 ∧ (kA t 4).1 < 13000 ∧ rmG t) : ∃ t', cf_40 N X x1 (Int32.ofNat n) t = some (t', .inl none) ∧ cT3 t' ((tks b n (n + 1) 0).map c3) ∧ cNow t' ((tks b n (n + 1) 0).map c3) 0 ∧ gL (fun k f => k = 3 ∧ (f = 3 ∨ f = 4 ∨ f = 5 ∨ f = 6)) aTk t t' := by
  obtain ⟨e5, e6, h6, h7, h8⟩ := h3
  obtain ⟨g1, g2, g3, g4, g5, g6⟩ := h
  obtain ⟨t1, ht1⟩ : ∃ t1, t1 = jI (jI t 3 3 (Int32.ofNat 0)) 3 4 (-Int32.ofNat 1) := ⟨_, rfl⟩
  have x0 : cTx t1 x1 b n := by rw [ht1]; exact ⟨g1, g2, g3, g4, g5, g6⟩
  have y0 : cT3 t1 [] := by rw [ht1]; exact ⟨rfl, fun i hi => absurd hi (Nat.not_lt_zero _), e5, e6, Nat.zero_le _, h6, h7, h8⟩
  obtain ⟨t2, a1, a2, a3⟩ := c_scanL (N := N) (X := X) (b := b) (n := n) (x1 := x1) hN hX (n + 1) 0 0 (N - (n + 1 + 1)) t1 [] (by omega) (Nat.le_refl _) (Nat.zero_le _) x0 y0 (by show 0 + (n + 1) < _; omega)
  rw [show N - (n + 1 + 1) + (n + 1 + 1) = N by omega] at a1
  rw [List.nil_append] at a2
  have hlen := tks_len (b := b) (n := n) (n + 1) 0
  have hpos : 0 < ((tks b n (n + 1) 0).map c3).length := by
    rw [List.length_map]
    unfold tks
    split
    · exact Nat.succ_pos _
    · exact Nat.succ_pos _
  have e34 : kI t2 3 4 = -Int32.ofNat 1 := by
    rw [a3.1 3 4 (by omega), ht1]
    rfl
  obtain ⟨t3, b1, b2, b3, b4⟩ := c_adv (N := N) (X := X) (i := 0) a2 (by rw [List.length_map]; omega) hpos (Or.inl (by rw [e34]; decide))
  have f0 : gL (fun k f => k = 3 ∧ (f = 3 ∨ f = 4 ∨ f = 5 ∨ f = 6)) aTk t t1 := by
    rw [ht1]
    refine ⟨fun k f r => ?_, fun _ _ _ => rfl, fun _ _ _ => ⟨rfl, rfl, rfl⟩, rfl, rfl, Nat.le_refl _, Nat.le_refl _, Nat.le_refl _⟩
    show (if k = 3 ∧ f = 4 then _ else if k = 3 ∧ f = 3 then _ else kI t k f) = _
    rw [if_neg (by omega), if_neg (by omega)]
  refine ⟨t3, ?_, b3, b2, gL.tr (t1 := t1) f0 (gL.tr (t1 := t2) (a3.mono (by omega) (by omega)) (b4.mono (by omega) (fun _ z => z.elim)))⟩
  have a1 : cf_40_L2 N X N 0 x1 (Int32.ofNat n) (Int32.ofNat 0) (Int32.ofNat 0) t1 = cf_40_55 N X t2 := a1
  have ln : (if Int32.ofNat (kA t 1).1 < Int32.ofNat n then Int32.ofNat (kA t 1).1 else Int32.ofNat n) = Int32.ofNat n := if_neg (fun q => by have := (i32lt (by omega) (by omega)).mp q; omega)
  unfold cf_40 cf_40_0
  rw [if_pos g1, ln]
  show cf_40_L2 N X N 0 x1 (Int32.ofNat n) (Int32.ofNat 0) (Int32.ofNat 0) (jI (jI t 3 3 (Int32.ofNat 0)) 3 4 (-Int32.ofNat 1)) = _
  rw [← ht1, a1]
  unfold cf_40_55 cf_40_59
  simp (disch := omega) only [ev_S, ev_C, ↓reduceIte, Nat.reduceEqDiff, Nat.reduceLeDiff, Nat.reduceAdd, Nat.reduceMul, Nat.reduceSub, reduceCtorEq, l32_0, l32_1, l32_2, l32_3, l32_4, l32_5, l32_6, l32_7, l32_8, l32_9, l32_10, l32_11, l32_12, l32_13, l32_14, l32_15, l32_16, l32_17, l32_18, l32_19, l32_20, l32_21, l32_22, l32_23, l32_24, l32_25, l32_26, l32_27, l32_28, l32_29, l32_33, l32_40, l32_41, l32_44, l32_45, l32_59, l32_61, l32_91, l32_93, l32_123, l32_125, b1]
end CMP
section CMQ
variable {N : Nat} {X : Nat → Option zz_C} {t t' t1 t2 : cS} {s s' s1 s2 : mS} {b : Nat → Nat} {n p e : Nat}
set_option maxRecDepth 100000 in
/-- a byte, without its sign -/
theorem by_sb : ∀ k : Fin 256, sb k.1 &&& 255 = Int32.ofNat k.1 := by decide
set_option maxRecDepth 100000 in
theorem ng_in : ∀ k : Fin 129, (-Int32.ofNat k.1).toInt = -(k.1 : Int) := by decide
theorem fit_b {v : Int32} (h : fits .byte (.int v) = true) : ∃ k : Nat, k < 256 ∧ v = sb k ∧ v &&& 255 = Int32.ofNat k := by
  have h : (decide (-128 ≤ v) && decide (v ≤ 127)) = true := h
  rw [Bool.and_eq_true, decide_eq_true_iff, decide_eq_true_iff, Int32.le_iff_toInt_le, Int32.le_iff_toInt_le] at h
  have h1 : (-128 : Int) ≤ v.toInt := h.1
  have h2 : v.toInt ≤ 127 := h.2
  have key : ∃ k : Nat, k < 256 ∧ v = sb k := by
    by_cases c : 0 ≤ v.toInt
    · refine ⟨v.toInt.toNat, by omega, ?_⟩
      rw [sb_l (by omega)]
      apply Int32.toInt_inj.mp
      rw [i32t (by omega)]
      omega
    · refine ⟨(256 + v.toInt).toNat, by omega, ?_⟩
      rw [sb_g (by omega)]
      apply Int32.toInt_inj.mp
      have := ng_in ⟨256 - (256 + v.toInt).toNat, by omega⟩
      rw [this]
      show v.toInt = -((256 - (256 + v.toInt).toNat : Nat) : Int)
      omega
  obtain ⟨k, k1, k2⟩ := key
  exact ⟨k, k1, k2, by rw [k2]; exact by_sb ⟨k, k1⟩⟩
/-- the text on the tape -/
theorem iB.text {m L : Nat} (h : iB m L t s) (hn : n ≤ m) (hn2 : n ≤ 1600) (hL : m ≤ L ∧ L ≤ 1620) (s4 : s'.1 4 = Int32.ofNat n) (s2 : s'.2.2.1 2 = s.2.2.1 2) (k1 : kD t' 1 = kD t 1 ∧ kA t' 1 = kA t 1) : ∃ b : Nat → Nat, cTx t' (kD t 1) b n ∧ rTx s' b n := by
  obtain ⟨h1, h2, h3, h4, h5⟩ := h
  have hb : ∀ i, ∃ k : Nat, k < 256 ∧ (kA t 1).2 i = sb k ∧ (kA t 1).2 i &&& 255 = Int32.ofNat k := fun i => fit_b (h5 i)
  refine ⟨fun i => Classical.choose (hb i), ⟨k1.1, by rw [k1.2]; omega, by rw [k1.2]; omega, hn2, fun i => (Classical.choose_spec (hb i)).1, fun i hi => ?_⟩, ⟨s4, hn2, fun i => (Classical.choose_spec (hb i)).1, fun i hi => ?_⟩⟩
  · rw [k1.2]
    exact (Classical.choose_spec (hb i)).2.1
  · rw [s2, ← h4 i (by omega)]
    exact (Classical.choose_spec (hb i)).2.2
theorem gL.toX {E : Nat → Nat → Prop} {A : Nat → Prop} (g : gL E A t t') : gX E A t t' := ⟨g.1, g.2.1, g.2.2.1, g.2.2.2.1, g.2.2.2.2.1, g.2.2.2.2.2.1, by have := g.2.2.2.2.2.2.1; omega, by have := g.2.2.2.2.2.2.2; omega⟩
/-- what load may change in the class's program p, its parser and tokens -/
abbrev eLd (p : Nat) : Nat → Nat → Prop := fun k f => eF p k f ∨ (k = 3 ∧ f = 3) ∨ (k = 2 ∧ f = 1)
abbrev aLd (p : Nat) : Nat → Prop := fun k => aF p k ∨ k = 4 ∨ k = 5 ∨ k = 6
/-- the text is compiled -/
theorem p_comp (hN : 170000 ≤ N) (hX : oX N X) (hY : oY X) (hZ : oZ X) (hT : cTx t (kD t 1) b n) (hz : SZf p t) (hrm : rmG t) (hpp : p = 12 ∨ p = 21) (hx : rTx s b n) (h12 : s.1 12 = Int32.ofNat e) (he : e ≤ 1) (h9 : s.1 9 = Int32.ofNat 0) (h10 : s.1 10 = -Int32.ofNat 1) (h11 : s.1 11 = Int32.ofNat 0) (h15 : s.1 15 = Int32.ofNat 0) (h28 : s.1 28 = Int32.ofNat 0) (h29 : s.1 29 = Int32.ofNat 0) (hWd : rWd s) (hWn : rWn s) (hK : Kd s) : (∃ t' s' code cl Fs, cf_35 N X (kD t 1) (Int32.ofNat n) p t = some (t', .inl none) ∧ mf_59_73 N s = mf_59_93 N s' ∧ BS p e code cl Fs t' s' ∧ (∀ x ∈ cl, bnds code Fs x) ∧ kI t' 2 10 = Int32.ofNat 0 ∧ kI t' 2 11 = -Int32.ofNat 1 ∧ s'.1 9 = Int32.ofNat 0 ∧ gL (eLd p) (aLd p) t t' ∧ fJ e s s' ∧ SZf p t') ∨ (∃ t' s', cf_35 N X (kD t 1) (Int32.ofNat n) p t = some (t', .inl none) ∧ mf_59_73 N s = mf_59_93 N s' ∧ pF t' s' ∧ gX (eLd p) (aLd p) t t' ∧ fJ e s s' ∧ SZf p t') := by
  obtain ⟨z1, z2, z3, z4⟩ := hz.1
  have hn16 : n ≤ 1600 := hx.2.1
  obtain ⟨t1, a1, a2, a3, a4⟩ := c_scan2 (N := N) (X := X) hN hX hT ⟨z1.1, z1.2.1, z1.2.2.1, z1.2.2.2, hrm⟩
  obtain ⟨s1, b1, b2, b3⟩ := r_token (N := N) (p := 0) hN hx (Nat.zero_le _)
  have hp : (p = 12 ∨ p = 21) = True := eq_true hpp
  -- the class's state at the first function
  obtain ⟨t2, ht2⟩ : ∃ t2, t2 = jI (jI (jI (jI (jI (jI (jP t1 2 1 (some p)) p 3 (Int32.ofNat 0)) p 4 (Int32.ofNat 0)) 2 2 (Int32.ofNat 0)) 2 9 (Int32.ofNat 0)) 2 10 (Int32.ofNat 0)) 2 11 (-Int32.ofNat 1) := ⟨_, rfl⟩
  have hR0 : cf_35 N X (kD t 1) (Int32.ofNat n) p t = cf_35_L3 N X N 0 (Int32.ofNat 0) t2 := by
    rw [ht2]
    unfold cf_35 cf_35_0
    rw [a1]
    show cf_35_9 N X p t1 = _
    unfold cf_35_9
    rw [if_pos hpp]
    unfold cf_31 cf_31_0
    rw [if_pos hpp]
    rfl
  have kI2 : ∀ k f, ¬ ((k = 2 ∧ (f = 2 ∨ f = 9 ∨ f = 10 ∨ f = 11)) ∨ (k = p ∧ (f = 3 ∨ f = 4))) → kI t2 k f = kI t1 k f := fun k f r => by
    rw [ht2]
    show (if k = 2 ∧ f = 11 then _ else if k = 2 ∧ f = 10 then _ else if k = 2 ∧ f = 9 then _ else if k = 2 ∧ f = 2 then _ else if k = p ∧ f = 4 then _ else if k = p ∧ f = 3 then _ else kI t1 k f) = _
    rw [if_neg (by omega), if_neg (by omega), if_neg (by omega), if_neg (by omega), if_neg (by omega), if_neg (by omega)]
  have g12 : gL (eLd p) (aLd p) t1 t2 := ⟨fun k f r => kI2 k f (fun z => r (by
      rcases z with ⟨z1, z2⟩ | ⟨z1, z2⟩
      · exact Or.inl (Or.inl (Or.inr (Or.inl ⟨z1, by omega⟩)))
      · rcases z2 with z2 | z2
        · exact Or.inl (Or.inl (Or.inr (Or.inr ⟨z1, z2⟩)))
        · exact Or.inl (Or.inr ⟨z1, z2⟩))), fun k f r => by
      rw [ht2]
      show (if k = 2 ∧ f = 1 then _ else kP t1 k f) = _
      rw [if_neg (fun z => r ⟨z.1, z.2, Or.inr (Or.inr ⟨rfl, rfl⟩)⟩)], fun k _ _ => by rw [ht2]; exact ⟨rfl, rfl, rfl⟩, by rw [ht2]; rfl, by rw [ht2]; rfl, by rw [ht2]; exact Nat.le_refl _, by rw [ht2]; exact Nat.le_refl _, by rw [ht2]; exact Nat.le_refl _⟩
  have G02 : gL (eLd p) (aLd p) t t2 := (a4.mono (fun k f z => by
      rcases z with ⟨z1, z2⟩
      by_cases y : f = 3
      · exact Or.inr (Or.inl ⟨z1, y⟩)
      · exact Or.inl (Or.inl (Or.inl ⟨z1, by omega⟩))) (fun k z => Or.inr (by omega))).tr g12
  have eA : ∀ k, kA t2 k = kA t1 k := fun k => by rw [ht2]; rfl
  have eB : ∀ k, kB t2 k = kB t1 k := fun k => by rw [ht2]; rfl
  have eK : ∀ k, ¬ (k = 4 ∨ k = 5 ∨ k = 6) → k ≠ 111 → kA t2 k = kA t k ∧ kB t2 k = kB t k := fun k h1 h2 => by
    have := a4.2.2.1 k h1 h2
    exact ⟨(eA k).trans this.1, (eB k).trans this.2.1⟩
  have p6 : ∀ j, 1 ≤ j → j ≤ 8 → kA t2 (p + j) = kA t (p + j) ∧ kB t2 (p + j) = kB t (p + j) := fun j h1 h2 => eK (p + j) (by rcases hpp with y | y <;> omega) (by rcases hpp with y | y <;> omega)
  have k22 : kI t2 2 2 = Int32.ofNat 0 := by rw [ht2]; rfl
  have k29 : kI t2 2 9 = Int32.ofNat 0 := by rw [ht2]; rfl
  have k210 : kI t2 2 10 = Int32.ofNat 0 := by rw [ht2]; rfl
  have k211 : kI t2 2 11 = -Int32.ofNat 1 := by rw [ht2]; rfl
  have kp3 : kI t2 p 3 = Int32.ofNat 0 := by
    rw [ht2]
    rcases hpp with y | y <;> subst y <;> rfl
  have kp4 : kI t2 p 4 = Int32.ofNat 0 := by
    rw [ht2]
    rcases hpp with y | y <;> subst y <;> rfl
  have kP2 : kP t2 2 1 = some p := by rw [ht2]; rfl
  have hrm2 : rmG t2 := G02.rm hrm
  have hs2 : ∀ q, ¬ q = 37 → (mI s1 37 (Int32.ofNat 0)).1 q = s1.1 q := fun q z => if_neg z
  have fld : ∀ q, ¬ (q = 5 ∨ q = 6 ∨ q = 8 ∨ q = 37) → (mI s1 37 (Int32.ofNat 0)).1 q = s.1 q := fun q z => (hs2 q (by omega)).trans (b3.1 q (by omega))
  have hTL : ∃ hi : 0 < (TL b n).length, (TL b n)[0] = lex b n 0 := by
    have e1 : TL b n = tks b n (n + 1) 0 := rfl
    by_cases z : (lex b n 0).1 ≤ 1
    · have e2 : tks b n (n + 1) 0 = [lex b n 0] := if_pos z
      simp only [e1, e2]
      exact ⟨Nat.succ_pos _, rfl⟩
    · have e2 : tks b n (n + 1) 0 = lex b n 0 :: tks b n n (lex b n 0).2.2.2.2 := if_neg z
      simp only [e1, e2]
      exact ⟨Nat.succ_pos _, rfl⟩
  obtain ⟨hi0, hT0⟩ := hTL
  have hpR : pR b n 0 0 t2 (mI s1 37 (Int32.ofNat 0)) := by
    obtain ⟨c1, c2, c3, c4, c5, c6, c7, c8⟩ := a2
    obtain ⟨d1, d2, d3, d4, d5⟩ := a3
    have e3 : ∀ f, kI t2 3 f = kI t1 3 f := fun f => kI2 3 f (by rcases hpp with y | y <;> omega)
    refine ⟨⟨by rw [e3]; exact c1, by rw [eA, eA, eB]; exact c2, by rw [eA, eA]; exact c3, by rw [eB, eA]; exact c4, by rw [eA]; exact c5, by rw [eA]; exact c6, by rw [eA]; exact c7, hrm2⟩, ⟨by rw [e3]; exact d1, d2, by rw [e3]; exact d3, by rw [e3]; exact d4, by rw [ht2]; exact d5⟩, ⟨k22, k210, k211⟩, by omega, hn16, ?_, ⟨hi0, by rw [hT0]; exact b2⟩, ?_, ?_, ?_⟩
    · have r1 := hx.keep b3
      exact ⟨(hs2 4 (by omega)).trans r1.1, r1.2⟩
    · intro w hw
      show s1.2.2.2 0 w = _
      rw [b3.2.2.2 0 (fun z => z)]
      exact hWd w hw
    · rw [fld 11 (by omega)]
      exact h11
    · rw [fld 9 (by omega)]
      exact h9
  have hQE : QE b n p e 0 [] [] [] t2 (mI s1 37 (Int32.ofNat 0)) := by
    refine ⟨hpR, ⟨kP2, hpp, kp3, fun i hi => absurd hi (Nat.not_lt_zero _), by rw [(p6 2 (by omega) (by omega)).1, (p6 1 (by omega) (by omega)).1]; exact z3.1, by rw [(p6 3 (by omega) (by omega)).1, (p6 1 (by omega) (by omega)).1]; exact z3.2.1, Nat.zero_le _, by rw [(p6 1 (by omega) (by omega)).1]; exact z3.2.2.1, by rw [(p6 1 (by omega) (by omega)).1]; exact z3.2.2.2⟩, ⟨by rw [fld 12 (by omega)]; exact h12, he, by rw [fld 28 (by omega)]; exact h28, Nat.zero_le _, fun i hi => absurd hi (Nat.not_lt_zero _)⟩, fun c hc => absurd hc List.not_mem_nil, ?_, by rw [(eK 7 (by omega) (by decide)).2]; exact z4, ⟨k29, fun i hi => absurd hi (Nat.not_lt_zero _), by rw [(eK 9 (by omega) (by decide)).2, (eK 8 (by omega) (by decide)).1]; exact z2.1, by rw [(eK 10 (by omega) (by decide)).1, (eK 8 (by omega) (by decide)).1]; exact z2.2.1, by rw [(eK 11 (by omega) (by decide)).1, (eK 8 (by omega) (by decide)).1]; exact z2.2.2.1, Nat.zero_le _, by rw [(eK 8 (by omega) (by decide)).1]; exact z2.2.2.2.1, by rw [(eK 8 (by omega) (by decide)).1]; exact z2.2.2.2.2⟩, ⟨by rw [fld 29 (by omega)]; exact h29, Nat.zero_le _, fun i hi => absurd hi (Nat.not_lt_zero _)⟩, ⟨fun x hx => absurd hx List.not_mem_nil, fun m hm => absurd hm (Nat.not_lt_zero _)⟩, rfl, Nat.zero_le _, Nat.zero_le _, Nat.zero_le _, ⟨kp4, by decide, Nat.le_refl _, by rw [(p6 4 (by omega) (by omega)).2]; exact hz.2.1, by rw [(p6 5 (by omega) (by omega)).1]; exact hz.2.2.1, by rw [(p6 6 (by omega) (by omega)).1]; exact hz.2.2.2.1, by rw [(p6 7 (by omega) (by omega)).1]; exact hz.2.2.2.2.1, by rw [(p6 8 (by omega) (by omega)).1]; exact hz.2.2.2.2.2, fun k hk => absurd hk (Nat.not_lt_zero _)⟩, ⟨by rw [fld 15 (by omega)]; exact h15, fun k hk => absurd hk (Nat.not_lt_zero _)⟩, fun f hf => absurd hf List.not_mem_nil, ?_, ⟨rfl, Nat.zero_le _, fun k hk => absurd hk (Nat.not_lt_zero _)⟩⟩
    · exact Kd.kp (fld 44 (by omega)) (fun q z => b3.2.2.1 q (fun z => z)) (b3.2.2.2 42 (fun z => z)) hK
    · intro k hk
      show s1.2.2.1 1 k = _
      rw [b3.2.2.1 1 (fun z => z)]
      exact hWn k hk
  have J01 : fJ e s (mI s1 37 (Int32.ofNat 0)) := ⟨fun q r => fld q (by omega), fun q r => b3.2.1 q r, fun q r => b3.2.2.1 q (fun z => z), fun q r => b3.2.2.2 q (fun z => z), fun q y r1 r2 => congrFun (b3.2.2.1 q (fun z => z)) y, fun q y r1 r2 => congrFun (b3.2.2.1 q (fun z => z)) y, Kd.kp (fld 44 (by omega)) (fun q z => b3.2.2.1 q (fun z => z)) (b3.2.2.2 42 (fun z => z))⟩
  have hM0 : mf_59_73 N s = mo_bv (TW N N (mI s1 37 (Int32.ofNat 0))) (fun s2 => mf_59_82 N s2) := by
    unfold mf_59_73
    rw [l32_0, b1]
    rfl
  rw [hR0, hM0]
  have hll := TL_len (b := b) (n := n)
  have EF : ∀ k f, eF p k f → eLd p k f := fun k f z => Or.inl z
  have AF : ∀ k, aF p k → aLd p k := fun k z => Or.inl z
  rcases p_text (N := N) (X := X) hN hX hY hZ (TL b n).length 0 [] [] [] t2 (mI s1 37 (Int32.ofNat 0)) 0 N (by omega) hQE (Nat.le_refl _) (by omega) with ⟨t3, s3, k3, i3, code, cl, Fs, c1, c2, c3, c4, c5⟩ | ⟨t3, s3, k3, c1, c2, c3, c4, c5⟩
  · have hT3 := c3 (N - k3)
    rw [show N - k3 + k3 = N by omega] at hT3
    rw [c1, hT3]
    obtain ⟨q1, q2, q3, q4, q5, q6, q7, q8, q9, q10, q11, q12, q13, q14, q15, q16, q17, q18⟩ := c4
    obtain ⟨hi, e5, e6, e7, hkk, ho, he', hlt, hll'⟩ := q1.now
    have hF : okFn Fs := fun f hf => ⟨(q16 f hf).2.2.2.2.2.2.2.1, (q16 f hf).2.2.2.2.2.2.2.2.1⟩
    have hp4 : ∀ k (hk : k < Fs.length), Fs[k].2.2.1 ≤ 4 := fun k hk => (q16 Fs[k] (List.getElem_mem _)).2.2.2.2.2.2.1.2.2
    have s39 : s3.1 9 = Int32.ofNat 0 := q1.2.2.2.2.2.2.2.2.2
    have bs : BS p e code cl Fs t3 s3 := ⟨q2, q3, q7, q8, q9, q14, q15, q16, by omega, by omega, q10, q4, s39⟩
    have hcl8 : cl.length ≤ 800 := by
      have := q8.2.1
      rw [List.length_map] at this
      exact this
    have hR1 : cf_35_76 N X t3 = ko_call 5 (cf_38_L1 N X N 0 (Int32.ofNat 0) t3) (fun g1 v1 => co_v v1 (some (g1, .inl none))) := rfl
    have hM1 : mo_bv (some (s3, none)) (fun s2 => mf_59_82 N s2) = mo_bv (mf_64_L3 N N 0 (-Int32.ofNat 1) (Int32.ofNat 0) 0 0 s3) (fun s1 => mf_59_93 N s1) := by
      show mf_59_82 N s3 = _
      unfold mf_59_82 mf_59_89
      simp (disch := omega) only [ev_S, ev_P, ↓reduceIte, Nat.reduceEqDiff, Nat.reduceLeDiff, Nat.reduceAdd, Nat.reduceMul, Nat.reduceSub, reduceCtorEq, l32_0, l32_1, l32_2, l32_3, l32_4, l32_5, l32_6, l32_7, l32_8, l32_9, l32_10, l32_11, l32_12, l32_13, l32_14, l32_15, l32_16, l32_17, l32_18, l32_19, l32_20, l32_21, l32_22, l32_23, l32_24, l32_25, l32_26, l32_27, l32_28, l32_29, l32_33, l32_40, l32_41, l32_44, l32_45, l32_59, l32_61, l32_91, l32_93, l32_123, l32_125, s39]
      rfl
    rw [hR1, hM1]
    have k310 : kI t3 2 10 = Int32.ofNat 0 := q1.2.2.1.2.1
    have k311 : kI t3 2 11 = -Int32.ofNat 1 := q1.2.2.1.2.2
    have EB : ∀ k f, eBi k f → eLd p k f := fun k f z => Or.inl (Or.inl (Or.inr (Or.inl ⟨z.1, by omega⟩)))
    have AB : ∀ k, aC p k → aLd p k := fun k z => Or.inl (Or.inl (by show k = 7 ∨ k = 8 ∨ k = 9 ∨ k = 10 ∨ k = 11 ∨ k = p + 1 ∨ k = p + 2 ∨ k = p + 3; omega))
    have G3 : gL (eLd p) (aLd p) t t3 := G02.tr (c5.1.mono EF AF)
    -- sizes behind the binding
    have szB : ∀ t4 : cS, gL eBi (aC p) t3 t4 → (∃ LC, cCd t4 p LC) → SZf p t4 := fun t4 g hc => by
      obtain ⟨LC, d1, d2, d3, d4, d5, d6, d7, d8, d9⟩ := hc
      have e : ∀ k, (k = 4 ∨ k = 5 ∨ k = 6 ∨ k = 7 ∨ k = 8 ∨ k = 9 ∨ k = 10 ∨ k = 11 ∨ k = p + 4 ∨ k = p + 5 ∨ k = p + 6 ∨ k = p + 7 ∨ k = p + 8) → kA t4 k = kA t3 k ∧ kB t4 k = kB t3 k := fun k hk => by
        have := g.2.2.1 k (fun z => by rcases hpp with y | y <;> subst y <;> omega) (by rcases hpp with y | y <;> subst y <;> omega)
        exact ⟨this.1, this.2.1⟩
      refine ⟨⟨?_, ?_, ⟨d5, d6, d8, d9⟩, ?_⟩, ?_, ?_, ?_, ?_, ?_⟩
      · rw [(e 4 (by omega)).1, (e 5 (by omega)).1, (e 6 (by omega)).2]
        exact ⟨q1.1.2.2.1, q1.1.2.2.2.1, q1.1.2.2.2.2.2.1, q1.1.2.2.2.2.2.2.1⟩
      · rw [(e 8 (by omega)).1, (e 9 (by omega)).2, (e 10 (by omega)).1, (e 11 (by omega)).1]
        exact ⟨q7.2.2.1, q7.2.2.2.1, q7.2.2.2.2.1, q7.2.2.2.2.2.2.1, q7.2.2.2.2.2.2.2⟩
      · rw [(e 7 (by omega)).2]
        exact q6
      · rw [(e (p + 4) (by omega)).2]
        exact q14.2.2.2.1
      · rw [(e (p + 5) (by omega)).1]
        exact q14.2.2.2.2.1
      · rw [(e (p + 6) (by omega)).1]
        exact q14.2.2.2.2.2.1
      · rw [(e (p + 7) (by omega)).1]
        exact q14.2.2.2.2.2.2.1
      · rw [(e (p + 8) (by omega)).1]
        exact q14.2.2.2.2.2.2.2.1
    rcases p_bnd1 (N := N) (X := X) (p := p) (e := e) (cl := cl) (Fs := Fs) hN he hF hp4 cl.length 0 code t3 s3 N N (Nat.zero_add _) bs (fun k hk hk0 => absurd hk0 (Nat.not_lt_zero _)) k310 (by omega) (by omega) with ⟨t4, s4, code4, f1, f2, f3, f4, f5, f6, f7, f8, f9⟩ | ⟨t4, s4, f1, f2, f3, f4, f5, f6⟩
    · exact Or.inl ⟨t4, s4, code4, cl, Fs, by rw [f1]; rfl, by rw [f2]; rfl, f3, f4, f6, f7.trans k311, f3.2.2.2.2.2.2.2.2.2.2.2.2, G3.tr (f5.mono EB AB), (J01.tr c5.2).tr f9, szB t4 f5 ⟨_, f3.1⟩⟩
    · exact Or.inr ⟨t4, s4, by rw [f1]; rfl, by rw [f2]; rfl, f3, gL.toX (G3.tr (f4.mono EB AB)), (J01.tr c5.2).tr f5, szB t4 f4 f6⟩
  · have hT3 := c3 (N - k3)
    rw [show N - k3 + k3 = N by omega] at hT3
    refine Or.inr ⟨t3, s3, c1, ?_, c4, gX.pre G02 (c5.1.mono EF AF), J01.tr c5.2.1, c5.2.2⟩
    rw [hT3]
    obtain ⟨x, y, v1, v2, v3, v4, v5, v6, v7⟩ := c4
    show mf_59_82 N s3 = _
    have x0 : ¬ x = 0 := by omega
    unfold mf_59_82
    simp (disch := omega) only [ev_S, ev_P, ↓reduceIte, Nat.reduceEqDiff, Nat.reduceLeDiff, Nat.reduceAdd, Nat.reduceMul, Nat.reduceSub, reduceCtorEq, l32_0, l32_1, l32_2, l32_3, l32_4, l32_5, l32_6, l32_7, l32_8, l32_9, l32_10, l32_11, l32_12, l32_13, l32_14, l32_15, l32_16, l32_17, l32_18, l32_19, l32_20, l32_21, l32_22, l32_23, l32_24, l32_25, l32_26, l32_27, l32_28, l32_29, l32_33, l32_40, l32_41, l32_44, l32_45, l32_59, l32_61, l32_91, l32_93, l32_123, l32_125, v6, x0]
end CMQ
end
-- ### 94l.pure.lean.txt
section
/-! ===== PURE: load (6): load on both sides ===== -/
/-- the class's program p bears these acts -/
def cPg (t : cS) (p : Nat) (L : List C3) : Prop := kI t p 3 = Int32.ofNat L.length ∧ (∀ i (hi : i < L.length), (kA t (p + 1)).2 i = L[i].1 ∧ (kA t (p + 2)).2 i = L[i].2.1 ∧ (kA t (p + 3)).2 i = L[i].2.2) ∧ (kA t (p + 2)).1 = (kA t (p + 1)).1 ∧ (kA t (p + 3)).1 = (kA t (p + 1)).1 ∧ L.length ≤ (kA t (p + 1)).1 ∧ 1 ≤ (kA t (p + 1)).1 ∧ (kA t (p + 1)).1 < 13000
/-- the reference's orders -/
def rPg (s : mS) (e : Nat) (L : List R5) : Prop := ∀ i (hi : i < L.length), s.2.2.1 23 (ob0 e + i) = L[i].1 ∧ s.2.2.1 24 (ob0 e + i) = L[i].2.1 ∧ s.2.2.1 25 (ob0 e + i) = L[i].2.2.1 ∧ s.2.2.1 26 (ob0 e + i) = L[i].2.2.2.1 ∧ s.2.2.1 27 (ob0 e + i) = L[i].2.2.2.2
/-- its functions -/
def rFp (s : mS) (e : Nat) (code : List Ins) (Fs : List Fn) : Prop := ∀ k (hk : k < Fs.length), s.2.2.1 20 (fb0 e + k) = Int32.ofNat (ob0 e + posR code Fs[k].2.2.2.2.1) ∧ s.2.2.1 18 (fb0 e + k) = Int32.ofNat Fs[k].2.2.1 ∧ s.2.2.1 19 (fb0 e + k) = Int32.ofNat Fs[k].2.2.2.1 ∧ s.2.2.1 17 (fb0 e + k) = Int32.ofNat Fs[k].2.1
/-- a program: all that run needs of it -/
def PGc (code : List Ins) (Fs : List Fn) : Prop := (∀ f ∈ Fs, FOK code f) ∧ (∀ m, m < code.length → ((code.getD m dI).1 = 9 ∨ (code.getD m dI).1 = 10) → ∃ hm : (code.getD m dI).2.1 < Fs.length, Fs[(code.getD m dI).2.1].2.2.1 = (code.getD m dI).2.2.1) ∧ lyo code = some [] ∧ wfC code ∧ cx code < 6500 ∧ rl code + xl code ≤ 1610
/-- both have the program (in the class's p; the reference's half is e) -/
def PGI (t : cS) (s : mS) (p e : Nat) : Prop := ∃ code Fs, (kP t 0 3 = some p ∧ (p = 12 ∨ p = 21) ∧ s.1 12 = Int32.ofNat e ∧ e ≤ 1 ∧ s.1 14 = Int32.ofNat Fs.length) ∧ cPg t p (CA code) ∧ cFt t p Fs.length code Fs ∧ rPg s (1 - e) (RA (1 - e) code) ∧ rFp s (1 - e) code Fs ∧ PGc code Fs
/-- what load needs, and leaves -/
def LI (t : cS) (s : mS) (p p' e : Nat) : Prop := kP t 0 3 = some p ∧ kP t 0 4 = some p' ∧ ((p = 12 ∧ p' = 21) ∨ (p = 21 ∧ p' = 12)) ∧ SZf 12 t ∧ SZf 21 t ∧ rWd s ∧ rWn s ∧ Kd s ∧ s.1 12 = Int32.ofNat e ∧ e ≤ 1
/-- what load leaves alone in the class -/
def gW (t t' : cS) : Prop := (∀ k f, ¬ ((k = 0 ∧ (f = 1 ∨ f = 5 ∨ f = 6)) ∨ k = 2 ∨ k = 3 ∨ k = 12 ∨ k = 21) → kI t' k f = kI t k f) ∧ (∀ k f, ¬ ((k = 0 ∧ (f = 3 ∨ f = 4)) ∨ (k = 2 ∧ f = 1)) → kP t' k f = kP t k f) ∧ (∀ k, ¬ (4 ≤ k ∧ k ≤ 29) → k ≠ 111 → kA t' k = kA t k ∧ kB t' k = kB t k ∧ kD t' k = kD t k) ∧ kM t' = kM t ∧ kH t' = kH t ∧ kN t ≤ kN t' ∧ kN t' + potL t ≤ kN t + potL t' + 1 ∧ kQ t' + poqL t ≤ kQ t + poqL t' + 6
/-- and in the reference -/
def fW2 (s s' : mS) : Prop := (∀ q, ¬ (q = 3 ∨ q = 4 ∨ q = 5 ∨ q = 6 ∨ q = 8 ∨ q = 9 ∨ q = 10 ∨ q = 11 ∨ q = 12 ∨ q = 13 ∨ q = 14 ∨ q = 15 ∨ q = 22 ∨ q = 28 ∨ q = 29 ∨ q = 37 ∨ q = 44 ∨ q = 45 ∨ q = 46) → s'.1 q = s.1 q) ∧ (∀ q, ¬ q = 7 → s'.2.1 q = s.2.1 q) ∧ (∀ q, ¬ (17 ≤ q ∧ q ≤ 43) → s'.2.2.1 q = s.2.2.1 q) ∧ (∀ q, ¬ (q = 16 ∨ q = 21 ∨ q = 33 ∨ q = 42) → s'.2.2.2 q = s.2.2.2 q)
section LOA
variable {N : Nat} {X : Nat → Option zz_C} {t t' t1 t2 : cS} {s s' s1 s2 : mS} {p p' e : Nat} {code : List Ins} {Fs : List Fn}
theorem gW.rf : gW t t := ⟨fun _ _ _ => rfl, fun _ _ _ => rfl, fun _ _ _ => ⟨rfl, rfl, rfl⟩, rfl, rfl, Nat.le_refl _, by omega, by omega⟩
theorem fW2.rf : fW2 s s := ⟨fun _ _ => rfl, fun _ _ => rfl, fun _ _ => rfl, fun _ _ => rfl⟩
theorem gX.W (g : gX (eLd p) (aLd p) t t') (hp : p = 12 ∨ p = 21) : gW t t' := by
  obtain ⟨a1, a2, a3, a4, a5, a6, a7, a8⟩ := g
  refine ⟨fun k f r => a1 k f (fun z => r ?_), fun k f r => a2 k f (fun z => r (Or.inr ⟨z.1, z.2.1⟩)), fun k r1 r2 => a3 k (fun z => r1 ?_) r2, a4, a5, a6, a7, a8⟩
  · rcases hp with y | y <;> subst y <;> omega
  · rcases hp with y | y <;> subst y <;> omega
theorem fJ.W (f : fJ e s s') : fW2 s s' := ⟨fun q r => f.1 q (by omega), f.2.1, fun q r => f.2.2.1 q (by omega), f.2.2.2.1⟩
theorem fW2.tr (h : fW2 s s1) (g : fW2 s1 s2) : fW2 s s2 := ⟨fun q r => (g.1 q r).trans (h.1 q r), fun q r => (g.2.1 q r).trans (h.2.1 q r), fun q r => (g.2.2.1 q r).trans (h.2.2.1 q r), fun q r => (g.2.2.2 q r).trans (h.2.2.2 q r)⟩
/-- the program that stands is left alone -/
theorem PGI.kp (h : PGI t s p e) (k3 : kP t' 0 3 = kP t 0 3) (kI' : ∀ f, kI t' p f = kI t p f) (kA' : ∀ j, 1 ≤ j → j ≤ 8 → kA t' (p + j) = kA t (p + j) ∧ kB t' (p + j) = kB t (p + j)) (s12 : s'.1 12 = s.1 12) (s14 : s'.1 14 = s.1 14) (h1 : ∀ q y, (q = 23 ∨ q = 24 ∨ q = 25 ∨ q = 26 ∨ q = 27) → ob0 (1 - e) ≤ y → y < ob0 (1 - e) + 4000 → s'.2.2.1 q y = s.2.2.1 q y) (h2 : ∀ q y, (q = 17 ∨ q = 18 ∨ q = 19 ∨ q = 20) → fb0 (1 - e) ≤ y → y < fb0 (1 - e) + 12 → s'.2.2.1 q y = s.2.2.1 q y) : PGI t' s' p e := by
  obtain ⟨code, Fs, ⟨a1, a2, a3, a4, a5⟩, ⟨b1, b2, b3, b4, b5, b6, b7⟩, ⟨c1, c2, c3, c4, c5, c6, c7, c8, c9⟩, d1, d2, d3⟩ := h
  have hrl := d3.2.2.2.2.2
  refine ⟨code, Fs, ⟨k3.trans a1, a2, s12.trans a3, a4, s14.trans a5⟩, ⟨(kI' 3).trans b1, ?_, ?_, ?_, ?_, ?_, ?_⟩, ⟨(kI' 4).trans c1, c2, c3, ?_, ?_, ?_, ?_, ?_, ?_⟩, fun i hi => ?_, fun k hk => ?_, d3⟩
  · rw [(kA' 1 (by omega) (by omega)).1, (kA' 2 (by omega) (by omega)).1, (kA' 3 (by omega) (by omega)).1]
    exact b2
  · rw [(kA' 1 (by omega) (by omega)).1, (kA' 2 (by omega) (by omega)).1]
    exact b3
  · rw [(kA' 1 (by omega) (by omega)).1, (kA' 3 (by omega) (by omega)).1]
    exact b4
  · rw [(kA' 1 (by omega) (by omega)).1]
    exact b5
  · rw [(kA' 1 (by omega) (by omega)).1]
    exact b6
  · rw [(kA' 1 (by omega) (by omega)).1]
    exact b7
  · rw [(kA' 4 (by omega) (by omega)).2]
    exact c4
  · rw [(kA' 5 (by omega) (by omega)).1]
    exact c5
  · rw [(kA' 6 (by omega) (by omega)).1]
    exact c6
  · rw [(kA' 7 (by omega) (by omega)).1]
    exact c7
  · rw [(kA' 8 (by omega) (by omega)).1]
    exact c8
  · rw [(kA' 4 (by omega) (by omega)).2, (kA' 5 (by omega) (by omega)).1, (kA' 6 (by omega) (by omega)).1, (kA' 7 (by omega) (by omega)).1, (kA' 8 (by omega) (by omega)).1]
    exact c9
  · have hlt : i < 4000 := by
      rw [RA_len] at hi
      omega
    rw [h1 23 _ (by omega) (by omega) (by omega), h1 24 _ (by omega) (by omega) (by omega), h1 25 _ (by omega) (by omega) (by omega), h1 26 _ (by omega) (by omega) (by omega), h1 27 _ (by omega) (by omega) (by omega)]
    exact d1 i hi
  · have hlt : k < 12 := by omega
    rw [h2 20 _ (by omega) (by omega) (by omega), h2 18 _ (by omega) (by omega) (by omega), h2 19 _ (by omega) (by omega) (by omega), h2 17 _ (by omega) (by omega) (by omega)]
    exact d2 k hk
/-- a program that is compiled, and bound, is one that may stand -/
theorem BS.pg {cl : List Cn} (h : BS p e code cl Fs t s) (hb : ∀ x ∈ cl, bnds code Fs x) : cPg t p (CA code) ∧ cFt t p Fs.length code Fs ∧ rPg s e (RA e code) ∧ rFp s e code Fs ∧ PGc code Fs := by
  obtain ⟨c1, c2, c3, c4, c5, c6, c7, c8, c9, c10, c11, c12, c13⟩ := h
  refine ⟨c1.2.2, c6, c2.2.2.2.2, fun k hk => (c7.2 k hk).2, c8, fun m hm hk => ?_, c11, c12, c9, c10⟩
  obtain ⟨x, hx, hx1⟩ := c5.2 m hm hk
  obtain ⟨q1, q2⟩ := hb x hx
  have q3 := (c5.1 x hx).2.2.2.2.2.1
  subst hx1
  exact ⟨q1, by rw [q2, q3]⟩
end LOA
end
-- ### 94m.pure.lean.txt
section
/-! ===== PURE: load (7): the call of load ===== -/
section LOB
variable {N : Nat} {X : Nat → Option zz_C} {t t' t1 t2 : cS} {s s' s1 s2 : mS} {p p' e : Nat} {a : Int32}
theorem i32_get (h : ¬ a < Int32.ofNat 0) : ∃ n : Nat, n < 2147483648 ∧ a = Int32.ofNat n := i32of h
/-- what both do with a fault, or with none -/
theorem p_load (hN : 170000 ≤ N) (hX : oX N X) (hY : oY X) (hZ : oZ X) (hA : iA t s) (hL : LI t s p p' e) (hG : PGI t s p e) (hF : iF t s) (hrm : rmG t) : ∃ t' s' v p1 p1' e1, cf_3 N X a t = some (t', .inl (some (.int v))) ∧ mf_59 N a s = some (s', some (.int v)) ∧ iA t' s' ∧ iF t' s' ∧ LI t' s' p1 p1' e1 ∧ PGI t' s' p1 e1 ∧ gW t t' ∧ fW2 s s' ∧ (s'.1 13 = 1 ∨ (s'.1 13 = s.1 13 ∧ s'.1 14 = s.1 14)) := by
  obtain ⟨m, L, hB, hmL, hm20, hLL⟩ := hA
  have hL16 : L ≤ 1620 := by omega
  have k01 : kI t 0 1 = Int32.ofNat m := hB.1
  have s3 : s.1 3 = Int32.ofNat m := hB.2.1
  by_cases a0 : a < Int32.ofNat 0
  · refine ⟨t, s, -2, p, p', e, ?_, ?_, ⟨m, L, hB, hmL, hm20, hLL⟩, hF, hL, hG, gW.rf, fW2.rf, Or.inr ⟨rfl, rfl⟩⟩
    · unfold cf_3 cf_3_0 cf_3_12
      rw [l32_0, if_pos a0]
    · unfold mf_59 mf_59_0 mf_59_12
      rw [l32_0, if_pos a0]
  · obtain ⟨n, hn31, rfl⟩ := i32_get a0
    by_cases nm : n ≤ m
    · -- the text is taken
      have hc1 : cf_3 N X (Int32.ofNat n) t = cf_3_15 N X (Int32.ofNat n) t := by
        unfold cf_3 cf_3_0 cf_3_4
        simp (disch := omega) only [ev_S, ev_C, ↓reduceIte, Nat.reduceEqDiff, Nat.reduceLeDiff, Nat.reduceAdd, Nat.reduceMul, Nat.reduceSub, reduceCtorEq, l32_0, l32_1, l32_2, l32_3, l32_4, l32_5, l32_6, l32_7, l32_8, l32_9, l32_10, l32_11, l32_12, l32_13, l32_14, l32_15, l32_16, l32_17, l32_18, l32_19, l32_20, l32_21, l32_22, l32_23, l32_24, l32_25, l32_26, l32_27, l32_28, l32_29, l32_33, l32_40, l32_41, l32_44, l32_45, l32_59, l32_61, l32_91, l32_93, l32_123, l32_125, k01, nm]
      have hm1 : mf_59 N (Int32.ofNat n) s = mf_59_15 N (Int32.ofNat n) s := by
        unfold mf_59 mf_59_0 mf_59_4
        simp (disch := omega) only [ev_S, ev_P, ↓reduceIte, Nat.reduceEqDiff, Nat.reduceLeDiff, Nat.reduceAdd, Nat.reduceMul, Nat.reduceSub, reduceCtorEq, l32_0, l32_1, l32_2, l32_3, l32_4, l32_5, l32_6, l32_7, l32_8, l32_9, l32_10, l32_11, l32_12, l32_13, l32_14, l32_15, l32_16, l32_17, l32_18, l32_19, l32_20, l32_21, l32_22, l32_23, l32_24, l32_25, l32_26, l32_27, l32_28, l32_29, l32_33, l32_40, l32_41, l32_44, l32_45, l32_59, l32_61, l32_91, l32_93, l32_123, l32_125, s3, nm]
      rw [hc1, hm1]
      obtain ⟨l1, l2, l3, l4, l5, l6, l7, l8, l9, l10⟩ := hL
      have hpp : p = 12 ∨ p = 21 := by rcases l3 with z | z <;> omega
      have hpp' : p' = 12 ∨ p' = 21 := by rcases l3 with z | z <;> omega
      obtain ⟨s1, hs1⟩ : ∃ s1, s1 = mI (mI (mI (mI (mI (mI (mI (mI s 3 (Int32.ofNat 0)) 4 (Int32.ofNat n)) 9 (Int32.ofNat 0)) 10 (-Int32.ofNat 1)) 11 (Int32.ofNat 0)) 15 (Int32.ofNat 0)) 28 (Int32.ofNat 0)) 29 (Int32.ofNat 0) := ⟨_, rfl⟩
      have fs1 : ∀ q, ¬ (q = 3 ∨ q = 4 ∨ q = 9 ∨ q = 10 ∨ q = 11 ∨ q = 15 ∨ q = 28 ∨ q = 29) → s1.1 q = s.1 q := fun q r => by
        rw [hs1]
        show (if q = 29 then _ else if q = 28 then _ else if q = 15 then _ else if q = 11 then _ else if q = 10 then _ else if q = 9 then _ else if q = 4 then _ else if q = 3 then _ else s.1 q) = _
        rw [if_neg (by omega), if_neg (by omega), if_neg (by omega), if_neg (by omega), if_neg (by omega), if_neg (by omega), if_neg (by omega), if_neg (by omega)]
      have v3 : s1.1 3 = Int32.ofNat 0 := by rw [hs1]; rfl
      have v4 : s1.1 4 = Int32.ofNat n := by rw [hs1]; rfl
      have v9 : s1.1 9 = Int32.ofNat 0 := by rw [hs1]; rfl
      have v10 : s1.1 10 = -Int32.ofNat 1 := by rw [hs1]; rfl
      have v11 : s1.1 11 = Int32.ofNat 0 := by rw [hs1]; rfl
      have v15 : s1.1 15 = Int32.ofNat 0 := by rw [hs1]; rfl
      have v28 : s1.1 28 = Int32.ofNat 0 := by rw [hs1]; rfl
      have v29 : s1.1 29 = Int32.ofNat 0 := by rw [hs1]; rfl
      have vr : s1.2 = s.2 := by rw [hs1]; rfl
      have W1 : fW2 s s1 := ⟨fun q r => fs1 q (by omega), fun q _ => by rw [vr], fun q _ => by rw [vr], fun q _ => by rw [vr]⟩
      have g1 : ∀ k f, ¬ (k = 0 ∧ f = 1) → kI (jI t 0 1 (Int32.ofNat 0)) k f = kI t k f := fun k f r => if_neg r
      -- the tape behind
      have tape : ∀ (t2 : cS) (s2 : mS), kI t2 0 1 = Int32.ofNat 0 → s2.1 3 = Int32.ofNat 0 → kA t2 1 = kA t 1 → iA t2 s2 := fun t2 s2 z1 z2 z3 => ⟨0, L, ⟨z1, z2, by rw [z3]; exact hB.2.2.1, fun i hi => absurd hi (Nat.not_lt_zero _), by rw [z3]; exact hB.2.2.2.2⟩, Nat.zero_le _, rfl, hLL⟩
      -- the program that stands, where nothing of it has changed
      have keepP : ∀ (t2 : cS) (s2 : mS), gX (eLd p') (aLd p') (jI t 0 1 (Int32.ofNat 0)) t2 → fJ e s1 s2 → ∀ t3 s3, (∀ k f, ¬ (k = 0) → kI t3 k f = kI t2 k f) → kP t3 = kP t2 → kA t3 = kA t2 → kB t3 = kB t2 → (∀ q, ¬ (q = 45 ∨ q = 46) → s3.1 q = s2.1 q) → s3.2 = s2.2 → PGI t3 s3 p e := fun t2 s2 gx fj t3 s3 w1 w2 w3 w4 w5 w6 => by
        refine hG.kp ?_ (fun f => ?_) (fun j j1 j2 => ?_) ?_ ?_ (fun q y r1 r2 r3 => ?_) (fun q y r1 r2 r3 => ?_)
        · rw [w2, gx.2.1 0 3 (fun z => by omega)]
          rfl
        · rw [w1 p f (by rcases hpp with y | y <;> omega), gx.1 p f (fun z => by rcases l3 with y | y <;> obtain ⟨y1, y2⟩ := y <;> subst y1 y2 <;> omega)]
          exact g1 p f (by rcases hpp with y | y <;> omega)
        · have := gx.2.2.1 (p + j) (fun z => by rcases l3 with y | y <;> obtain ⟨y1, y2⟩ := y <;> subst y1 y2 <;> omega) (by rcases hpp with y | y <;> omega)
          rw [w3, w4]
          exact ⟨this.1, this.2.1⟩
        · rw [w5 12 (by omega), fj.1 12 (by omega), fs1 12 (by omega)]
        · rw [w5 14 (by omega), fj.1 14 (by omega), fs1 14 (by omega)]
        · rw [w6, fj.2.2.2.2.1 q y r1 (by unfold ob0 at *; omega), vr]
        · rw [w6, fj.2.2.2.2.2.1 q y r1 (by unfold fb0 at *; omega), vr]
      by_cases n16 : n ≤ 1600
      · -- compiled
        obtain ⟨b, hT, hx⟩ := hB.text (t' := jI t 0 1 (Int32.ofNat 0)) (s' := s1) nm n16 ⟨hmL, hL16⟩ v4 (by rw [vr]) ⟨rfl, rfl⟩
        have hz' : SZf p' (jI t 0 1 (Int32.ofNat 0)) := by rcases hpp' with z | z <;> subst z <;> assumption
        have hK1 : Kd s1 := Kd.kp (fs1 44 (by omega)) (fun q _ => by rw [vr]) (by rw [vr]) l8
        have hW1 : rWd s1 := fun w hw => by rw [vr]; exact l6 w hw
        have hN1 : rWn s1 := fun w hw => by rw [vr]; exact l7 w hw
        have hP4 : kP (jI t 0 1 (Int32.ofNat 0)) 0 4 = some p' := l2
        have hcC : cf_3_15 N X (Int32.ofNat n) t = co_b (kP (jI t 0 1 (Int32.ofNat 0)) 0 4) (fun w0 => ko_call 1005 (cf_35 N X (kD (jI t 0 1 (Int32.ofNat 0)) 1) (Int32.ofNat n) w0 (jI t 0 1 (Int32.ofNat 0))) (fun g1 v1 => co_v v1 (cf_3_57 N X g1))) := by
          have q : (Int32.ofNat n ≤ Int32.ofNat 1600) = True := eq_true ((i32le hn31 (by decide)).mpr n16)
          unfold cf_3_15 cf_3_41
          rw [l32_1600, if_pos (by rw [q]; trivial)]
          rfl
        have hmC : mf_59_15 N (Int32.ofNat n) s = mf_59_73 N s1 := by
          have q : (Int32.ofNat n ≤ Int32.ofNat 1600) = True := eq_true ((i32le hn31 (by decide)).mpr n16)
          unfold mf_59_15
          rw [l32_1600, if_pos (by rw [q]; trivial), hs1]
          rfl
        rw [hcC, hmC, hP4]
        have eb : ∀ g : Nat → kO, co_b (some p') g = g p' := fun g => rfl
        rw [eb]
        have lieq : ∀ t2 : cS, (∀ k, ¬ aLd p' k → k ≠ 111 → kA t2 k = kA t k ∧ kB t2 k = kB t k) → SZf p' t2 → SZf 12 t2 ∧ SZf 21 t2 := fun t2 w hz => by
          have oth : SZf p t2 := by
            have hzp : SZf p t := by rcases hpp with z | z <;> subst z <;> assumption
            have e1 : ∀ j, 1 ≤ j → j ≤ 8 → kA t2 (p + j) = kA t (p + j) ∧ kB t2 (p + j) = kB t (p + j) := fun j j1 j2 => w (p + j) (fun z => by rcases l3 with y | y <;> obtain ⟨y1, y2⟩ := y <;> subst y1 y2 <;> omega) (by rcases hpp with y | y <;> omega)
            obtain ⟨⟨q1, q2, q3, q4⟩, q5⟩ := hz
            obtain ⟨⟨r1, r2, r3, r4⟩, r5⟩ := hzp
            refine ⟨⟨q1, q2, ?_, q4⟩, ?_⟩
            · rw [(e1 1 (by omega) (by omega)).1, (e1 2 (by omega) (by omega)).1, (e1 3 (by omega) (by omega)).1]
              exact r3
            · rw [(e1 4 (by omega) (by omega)).2, (e1 5 (by omega) (by omega)).1, (e1 6 (by omega) (by omega)).1, (e1 7 (by omega) (by omega)).1, (e1 8 (by omega) (by omega)).1]
              exact r5
          rcases l3 with ⟨y1, y2⟩ | ⟨y1, y2⟩ <;> subst y1 y2
          · exact ⟨oth, hz⟩
          · exact ⟨hz, oth⟩
        rcases p_comp (N := N) (X := X) (p := p') (e := e) hN hX hY hZ hT hz' hrm hpp' hx (by rw [fs1 12 (by omega)]; exact l9) l10 v9 v10 v11 v15 v28 v29 hW1 hN1 hK1 with ⟨t2, s2, code, cl, Fs, c1, c2, c3, c4, c5, c6, c7, c8, c9, c10⟩ | ⟨t2, s2, c1, c2, c3, c4, c5, c6⟩
        · have c1 : cf_35 N X (kD (jI t 0 1 (Int32.ofNat 0)) 1) (Int32.ofNat n) p' (jI t 0 1 (Int32.ofNat 0)) = some (t2, .inl none) := c1
          rw [c1, c2]
          obtain ⟨pg1, pg2, pg3, pg4, pg5⟩ := c3.pg c4
          have k4 : kI t2 p' 4 = Int32.ofNat Fs.length := pg2.1
          have q12 : s2.1 12 = Int32.ofNat e := by rw [c9.1 12 (by omega), fs1 12 (by omega)]; exact l9
          have q15 : s2.1 15 = Int32.ofNat Fs.length := c3.2.2.2.2.2.2.1.1
          have kP3 : kP t2 0 3 = some p := by rw [c8.2.1 0 3 (fun z => by omega)]; exact l1
          have kP4 : kP t2 0 4 = some p' := by rw [c8.2.1 0 4 (fun z => by omega)]; exact l2
          have hp' : (p' = 12 ∨ p' = 21) = True := eq_true hpp'
          have n0 : ¬ p' = 0 := by rcases hpp' with y | y <;> omega
          obtain ⟨t3, ht3⟩ : ∃ t3, t3 = jP (jP (jI (jI t2 0 5 (Int32.ofNat 0)) 0 6 (-Int32.ofNat 1)) 0 3 (some p')) 0 4 (some p) := ⟨_, rfl⟩
          have hc3 : ko_call 1005 (some (t2, .inl none)) (fun g1 v1 => co_v v1 (cf_3_57 N X g1)) = some (t3, .inl (some (.int (Int32.ofNat Fs.length)))) := by
            show cf_3_57 N X t2 = _
            have e36 : cf_36 N X t2 = some (t2, .inl (some (.int (Int32.ofNat 0)))) := by
              unfold cf_36 cf_36_0
              rw [c5]
            have e37 : cf_37 N X (jI t2 0 5 (Int32.ofNat 0)) = some (jI t2 0 5 (Int32.ofNat 0), .inl (some (.int (-Int32.ofNat 1)))) := by
              unfold cf_37 cf_37_0
              show some (jI t2 0 5 (Int32.ofNat 0), (Sum.inl (some (Value.int (kI t2 2 11))) : Option Value ⊕ Unit)) = _
              rw [c6]
            have e32 : cf_32 N X p' t3 = some (t3, .inl (some (.int (Int32.ofNat Fs.length)))) := by
              unfold cf_32 cf_32_0
              rw [if_pos hpp', ht3]
              show some (_, (Sum.inl (some (Value.int (if p' = 0 ∧ 4 = 6 then _ else if p' = 0 ∧ 4 = 5 then _ else kI t2 p' 4))) : Option Value ⊕ Unit)) = _
              rw [if_neg (by omega), if_neg (by omega), k4]
            unfold cf_3_57
            rw [e36]
            show cf_3_65 N X (Int32.ofNat 0) t2 = _
            unfold cf_3_65
            rw [e37]
            show cf_3_76 N X (-Int32.ofNat 1) (jI t2 0 5 (Int32.ofNat 0)) = _
            unfold cf_3_76
            rw [if_pos (show kI (jI t2 0 5 (Int32.ofNat 0)) 0 5 = 0 from rfl)]
            unfold cf_3_88
            have z3 : kP (jI (jI t2 0 5 (Int32.ofNat 0)) 0 6 (-Int32.ofNat 1)) 0 3 = some p := kP3
            have z4 : kP (jI (jI t2 0 5 (Int32.ofNat 0)) 0 6 (-Int32.ofNat 1)) 0 4 = some p' := kP4
            rw [z3, z4]
            show (if p' = 12 ∨ p' = 21 then _ else none) = _
            rw [if_pos hpp', ← ht3, e32]
            rfl
          obtain ⟨s3', hs3⟩ : ∃ s3, s3 = mI (mI (mI (mI (mI s2 45 (Int32.ofNat 0)) 46 (-Int32.ofNat 1)) 12 (Int32.ofNat (1 - e))) 14 (Int32.ofNat Fs.length)) 13 1 := ⟨_, rfl⟩
          have hm3 : mf_59_93 N s2 = some (s3', some (.int (Int32.ofNat Fs.length))) := by
            have e9 : Int32.ofNat 1 - Int32.ofNat e = Int32.ofNat (1 - e) := ev_sub l10
            rw [hs3]
            unfold mf_59_93 mf_59_109 mf_59_117 mf_59_129
            simp (disch := omega) only [ev_S, ev_P, ↓reduceIte, Nat.reduceEqDiff, Nat.reduceLeDiff, Nat.reduceAdd, Nat.reduceMul, Nat.reduceSub, reduceCtorEq, l32_0, l32_1, l32_2, l32_3, l32_4, l32_5, l32_6, l32_7, l32_8, l32_9, l32_10, l32_11, l32_12, l32_13, l32_14, l32_15, l32_16, l32_17, l32_18, l32_19, l32_20, l32_21, l32_22, l32_23, l32_24, l32_25, l32_26, l32_27, l32_28, l32_29, l32_33, l32_40, l32_41, l32_44, l32_45, l32_59, l32_61, l32_91, l32_93, l32_123, l32_125, c7, q12, q15, e9]
          have fs3 : ∀ q, ¬ (q = 12 ∨ q = 13 ∨ q = 14 ∨ q = 45 ∨ q = 46) → s3'.1 q = s2.1 q := fun q r => by
            rw [hs3]
            show (if q = 13 then _ else if q = 14 then _ else if q = 12 then _ else if q = 46 then _ else if q = 45 then _ else s2.1 q) = _
            rw [if_neg (by omega), if_neg (by omega), if_neg (by omega), if_neg (by omega), if_neg (by omega)]
          have w12 : s3'.1 12 = Int32.ofNat (1 - e) := by rw [hs3]; rfl
          have w14 : s3'.1 14 = Int32.ofNat Fs.length := by rw [hs3]; rfl
          have w45 : s3'.1 45 = Int32.ofNat 0 := by rw [hs3]; rfl
          have w46 : s3'.1 46 = -Int32.ofNat 1 := by rw [hs3]; rfl
          have wr : s3'.2 = s2.2 := by rw [hs3]; rfl
          have kI3 : ∀ k f, ¬ (k = 0 ∧ (f = 5 ∨ f = 6)) → kI t3 k f = kI t2 k f := fun k f r => by
            rw [ht3]
            show (if k = 0 ∧ f = 6 then _ else if k = 0 ∧ f = 5 then _ else kI t2 k f) = _
            rw [if_neg (by omega), if_neg (by omega)]
          have kA3 : kA t3 = kA t2 := by rw [ht3]; rfl
          have kB3 : kB t3 = kB t2 := by rw [ht3]; rfl
          have kAt : ∀ k, ¬ aLd p' k → k ≠ 111 → kA t3 k = kA t k ∧ kB t3 k = kB t k := fun k r1 r2 => by
            have := c8.2.2.1 k r1 r2
            rw [kA3, kB3]
            exact ⟨this.1, this.2.1⟩
          have szz : SZf p' t3 := by
            have := c10
            unfold SZf SZ at this ⊢
            rw [kA3, kB3]
            exact this
          obtain ⟨sz1, sz2⟩ := lieq t3 kAt szz
          have hrest : ∀ q, s3'.2.2.1 q = s2.2.2.1 q := fun q => by rw [wr]
          have e11 : 1 - (1 - e) = e := by omega
          refine ⟨t3, s3', Int32.ofNat Fs.length, p', p, 1 - e, hc3, hm3, tape t3 s3' ?_ ?_ ?_, ⟨?_, ?_⟩, ⟨by rw [ht3]; rfl, by rw [ht3]; rfl, by omega, sz1, sz2, fun w hw => ?_, fun w hw => ?_, ?_, w12, by omega⟩, ⟨code, Fs, ⟨by rw [ht3]; rfl, hpp', w12, by omega, w14⟩, ?_, ?_, ?_, ?_, pg5⟩, ?_, ?_, Or.inl (by rw [hs3]; rfl)⟩
          · rw [kI3 0 1 (by omega), c8.1 0 1 (fun z => by rcases hpp' with y | y <;> subst y <;> omega)]
            rfl
          · rw [fs3 3 (by omega), c9.1 3 (by omega)]
            exact v3
          · exact (kAt 1 (by rcases hpp' with y | y <;> subst y <;> omega) (by decide)).1
          · rw [w45, ht3]
            rfl
          · rw [w46, ht3]
            rfl
          · rw [wr, c9.2.2.2.1 0 (by omega)]
            exact hW1 w hw
          · rw [wr, c9.2.2.1 1 (by omega)]
            exact hN1 w hw
          · exact Kd.kp (fs3 44 (by omega)) (fun q _ => hrest q) (by rw [wr]) (c9.2.2.2.2.2.2 hK1)
          · unfold cPg at pg1 ⊢
            rw [kA3, kI3 p' 3 (by rcases hpp' with y | y <;> omega)]
            exact pg1
          · obtain ⟨r1, r2⟩ := pg2
            refine ⟨by rw [kI3 p' 4 (by rcases hpp' with y | y <;> omega)]; exact r1, ?_⟩
            rw [kA3, kB3]
            exact r2
          · rw [e11]
            unfold rPg at pg3 ⊢
            rw [hrest 23, hrest 24, hrest 25, hrest 26, hrest 27]
            exact pg3
          · rw [e11]
            unfold rFp at pg4 ⊢
            rw [hrest 17, hrest 18, hrest 19, hrest 20]
            exact pg4
          · obtain ⟨u1, u2, u3, u4, u5, u6, u7, u8⟩ := (gL.toX c8).W hpp'
            refine ⟨fun k f r => ?_, fun k f r => ?_, fun k r1 r2 => ?_, ?_, ?_, ?_, ?_, ?_⟩
            · rw [kI3 k f (by omega), u1 k f (by omega)]
              exact g1 k f (by omega)
            · rw [ht3]
              show (if k = 0 ∧ f = 4 then _ else if k = 0 ∧ f = 3 then _ else kP t2 k f) = _
              rw [if_neg (by omega), if_neg (by omega)]
              exact u2 k f (by omega)
            · have := u3 k r1 r2
              rw [kA3, kB3]
              exact ⟨this.1, this.2.1, by rw [ht3]; exact this.2.2⟩
            · rw [ht3]; exact u4
            · rw [ht3]; exact u5
            · rw [ht3]; exact u6
            · rw [ht3]; exact u7
            · rw [ht3]; exact u8
          · exact (W1.tr (fJ.W c9)).tr ⟨fun q r => fs3 q (by omega), fun q _ => by rw [wr], fun q _ => hrest q, fun q _ => by rw [wr]⟩
        · have c1 : cf_35 N X (kD (jI t 0 1 (Int32.ofNat 0)) 1) (Int32.ofNat n) p' (jI t 0 1 (Int32.ofNat 0)) = some (t2, .inl none) := c1
          rw [c1, c2]
          obtain ⟨x, y, x1, x2, x3, x4, x5, x6, x7⟩ := c3
          have x0 : ¬ x = 0 := by omega
          have x00 : ¬ x ≤ 0 := by omega
          have hc3 : ko_call 1005 (some (t2, .inl none)) (fun g1 v1 => co_v v1 (cf_3_57 N X g1)) = some (jI (jI t2 0 5 (Int32.ofNat x)) 0 6 (Int32.ofNat y), .inl (some (.int (-1)))) := by
            show cf_3_57 N X t2 = _
            have e36 : cf_36 N X t2 = some (t2, .inl (some (.int (Int32.ofNat x)))) := by
              unfold cf_36 cf_36_0
              rw [x4]
            have e37 : cf_37 N X (jI t2 0 5 (Int32.ofNat x)) = some (jI t2 0 5 (Int32.ofNat x), .inl (some (.int (Int32.ofNat y)))) := by
              unfold cf_37 cf_37_0
              show some (jI t2 0 5 (Int32.ofNat x), (Sum.inl (some (Value.int (kI t2 2 11))) : Option Value ⊕ Unit)) = _
              rw [x5]
            unfold cf_3_57
            rw [e36]
            show cf_3_65 N X (Int32.ofNat x) t2 = _
            unfold cf_3_65
            rw [e37]
            show cf_3_76 N X (Int32.ofNat y) (jI t2 0 5 (Int32.ofNat x)) = _
            unfold cf_3_76
            rw [if_neg (show ¬ kI (jI t2 0 5 (Int32.ofNat x)) 0 5 = 0 from fun q => x0 (ofNat_inj (b := 0) (by omega) (by omega) q))]
            rfl
          have hm3 : mf_59_93 N s2 = some (mI (mI s2 45 (Int32.ofNat x)) 46 (Int32.ofNat y), some (.int (-1))) := by
            have nm1 : (-1 : Int32) = -Int32.ofNat 1 := rfl
            unfold mf_59_93 mf_59_113 mf_59_117 mf_59_127
            simp (disch := omega) only [ev_S, ev_P, ↓reduceIte, Nat.reduceEqDiff, Nat.reduceLeDiff, Nat.reduceAdd, Nat.reduceMul, Nat.reduceSub, reduceCtorEq, l32_0, l32_1, l32_2, l32_3, l32_4, l32_5, l32_6, l32_7, l32_8, l32_9, l32_10, l32_11, l32_12, l32_13, l32_14, l32_15, l32_16, l32_17, l32_18, l32_19, l32_20, l32_21, l32_22, l32_23, l32_24, l32_25, l32_26, l32_27, l32_28, l32_29, l32_33, l32_40, l32_41, l32_44, l32_45, l32_59, l32_61, l32_91, l32_93, l32_123, l32_125, x6, x7, x0, x00, nm1]
          have kAt : ∀ k, ¬ aLd p' k → k ≠ 111 → kA t2 k = kA t k ∧ kB t2 k = kB t k := fun k r1 r2 => by
            have := c4.2.2.1 k r1 r2
            exact ⟨this.1, this.2.1⟩
          obtain ⟨sz1, sz2⟩ := lieq t2 kAt c6
          have kI3 : ∀ k f, ¬ (k = 0 ∧ (f = 5 ∨ f = 6)) → kI (jI (jI t2 0 5 (Int32.ofNat x)) 0 6 (Int32.ofNat y)) k f = kI t2 k f := fun k f r => by
            show (if k = 0 ∧ f = 6 then _ else if k = 0 ∧ f = 5 then _ else kI t2 k f) = _
            rw [if_neg (by omega), if_neg (by omega)]
          have fs3 : ∀ q, ¬ (q = 45 ∨ q = 46) → (mI (mI s2 45 (Int32.ofNat x)) 46 (Int32.ofNat y)).1 q = s2.1 q := fun q r => by
            show (if q = 46 then _ else if q = 45 then _ else s2.1 q) = _
            rw [if_neg (by omega), if_neg (by omega)]
          refine ⟨jI (jI t2 0 5 (Int32.ofNat x)) 0 6 (Int32.ofNat y), mI (mI s2 45 (Int32.ofNat x)) 46 (Int32.ofNat y), -1, p, p', e, hc3, hm3, tape _ _ ?_ ?_ ?_, ⟨rfl, rfl⟩, ⟨?_, ?_, l3, sz1, sz2, fun w hw => ?_, fun w hw => ?_, ?_, ?_, l10⟩, keepP t2 s2 c4 c5 _ _ (fun k f r => kI3 k f (by omega)) rfl rfl rfl fs3 rfl, ?_, ?_, Or.inr ⟨by rw [fs3 13 (by omega), c5.1 13 (by omega), fs1 13 (by omega)], by rw [fs3 14 (by omega), c5.1 14 (by omega), fs1 14 (by omega)]⟩⟩
          · rw [kI3 0 1 (by omega), c4.1 0 1 (fun z => by rcases hpp' with y | y <;> subst y <;> omega)]
            rfl
          · rw [fs3 3 (by omega), c5.1 3 (by omega)]
            exact v3
          · exact (kAt 1 (by rcases hpp' with y | y <;> subst y <;> omega) (by decide)).1
          · show kP t2 0 3 = _
            rw [c4.2.1 0 3 (fun z => by omega)]
            exact l1
          · show kP t2 0 4 = _
            rw [c4.2.1 0 4 (fun z => by omega)]
            exact l2
          · show s2.2.2.2 0 w = _
            rw [c5.2.2.2.1 0 (by omega)]
            exact hW1 w hw
          · show s2.2.2.1 1 w = _
            rw [c5.2.2.1 1 (by omega)]
            exact hN1 w hw
          · exact Kd.kp (fs3 44 (by omega)) (fun q _ => rfl) rfl (c5.2.2.2.2.2.2 hK1)
          · rw [fs3 12 (by omega), c5.1 12 (by omega), fs1 12 (by omega)]
            exact l9
          · obtain ⟨u1, u2, u3, u4, u5, u6, u7, u8⟩ := c4.W hpp'
            refine ⟨fun k f r => ?_, fun k f r => u2 k f r, fun k r1 r2 => u3 k r1 r2, u4, u5, u6, u7, u8⟩
            rw [kI3 k f (by omega), u1 k f (by omega)]
            exact g1 k f (by omega)
          · exact (W1.tr (fJ.W c5)).tr ⟨fun q r => fs3 q (by omega), fun q _ => rfl, fun q _ => rfl, fun q _ => rfl⟩
      · -- too long
        have q : (Int32.ofNat n ≤ Int32.ofNat 1600) = False := eq_false (fun q => n16 ((i32le hn31 (by decide)).mp q))
        have hb : mf_261 N (Int32.ofNat 1) (Int32.ofNat 1600) s1 = some (flt s1 (Int32.ofNat 1) (Int32.ofNat 1600), none) := r_breaks v9
        have hc3 : cf_3_15 N X (Int32.ofNat n) t = some (jI (jI (jI t 0 1 (Int32.ofNat 0)) 0 5 (Int32.ofNat 1)) 0 6 (Int32.ofNat 1600), .inl (some (.int (-1)))) := by
          unfold cf_3_15 cf_3_27
          rw [l32_1600, if_neg (by rw [q]; exact fun z => z)]
          rfl
        have hm3 : mf_59_15 N (Int32.ofNat n) s = some (mI (mI (flt s1 (Int32.ofNat 1) (Int32.ofNat 1600)) 45 (Int32.ofNat 1)) 46 (Int32.ofNat 1600), some (.int (-1))) := by
          have e1 : mf_59_15 N (Int32.ofNat n) s = mf_59_62 N s1 := by
            unfold mf_59_15
            rw [l32_1600, if_neg (by rw [q]; exact fun z => z), hs1]
            rfl
          rw [e1]
          unfold mf_59_62
          rw [l32_1, l32_1600, hb]
          rfl
        have fs3 : ∀ q, ¬ (q = 9 ∨ q = 10 ∨ q = 45 ∨ q = 46) → (mI (mI (flt s1 (Int32.ofNat 1) (Int32.ofNat 1600)) 45 (Int32.ofNat 1)) 46 (Int32.ofNat 1600)).1 q = s1.1 q := fun q r => by
          show (if q = 46 then _ else if q = 45 then _ else if q = 10 then _ else if q = 9 then _ else s1.1 q) = _
          rw [if_neg (by omega), if_neg (by omega), if_neg (by omega), if_neg (by omega)]
        have kI3 : ∀ k f, ¬ (k = 0 ∧ (f = 1 ∨ f = 5 ∨ f = 6)) → kI (jI (jI (jI t 0 1 (Int32.ofNat 0)) 0 5 (Int32.ofNat 1)) 0 6 (Int32.ofNat 1600)) k f = kI t k f := fun k f r => by
          show (if k = 0 ∧ f = 6 then _ else if k = 0 ∧ f = 5 then _ else if k = 0 ∧ f = 1 then _ else kI t k f) = _
          rw [if_neg (by omega), if_neg (by omega), if_neg (by omega)]
        refine ⟨_, _, -1, p, p', e, hc3, hm3, tape _ _ rfl ?_ rfl, ⟨rfl, rfl⟩, ⟨l1, l2, l3, l4, l5, fun w hw => ?_, fun w hw => ?_, ?_, ?_, l10⟩, hG.kp rfl (fun f => kI3 p f (by rcases hpp with y | y <;> omega)) (fun j _ _ => ⟨rfl, rfl⟩) ?_ ?_ (fun q y _ _ _ => ?_) (fun q y _ _ _ => ?_), ⟨fun k f r => kI3 k f (by omega), fun _ _ _ => rfl, fun _ _ _ => ⟨rfl, rfl, rfl⟩, rfl, rfl, Nat.le_refl _, ?_, ?_⟩, ?_, Or.inr ⟨by rw [fs3 13 (by omega), fs1 13 (by omega)], by rw [fs3 14 (by omega), fs1 14 (by omega)]⟩⟩
        · rw [fs3 3 (by omega)]
          exact v3
        · show s1.2.2.2 0 w = _
          rw [vr]
          exact l6 w hw
        · show s1.2.2.1 1 w = _
          rw [vr]
          exact l7 w hw
        · exact Kd.kp (by rw [fs3 44 (by omega), fs1 44 (by omega)]) (fun q _ => by show s1.2.2.1 q = _; rw [vr]) (by show s1.2.2.2 42 = _; rw [vr]) l8
        · rw [fs3 12 (by omega), fs1 12 (by omega)]
          exact l9
        · rw [fs3 12 (by omega), fs1 12 (by omega)]
        · rw [fs3 14 (by omega), fs1 14 (by omega)]
        · show s1.2.2.1 q y = _
          rw [vr]
        · show s1.2.2.1 q y = _
          rw [vr]
        · show kN t + potL t ≤ kN t + potL t + 1
          omega
        · show kQ t + poqL t ≤ kQ t + poqL t + 6
          omega
        · exact W1.tr ⟨fun q r => fs3 q (by omega), fun q _ => rfl, fun q _ => rfl, fun q _ => rfl⟩
    · refine ⟨t, s, -2, p, p', e, ?_, ?_, ⟨m, L, hB, hmL, hm20, hLL⟩, hF, hL, hG, gW.rf, fW2.rf, Or.inr ⟨rfl, rfl⟩⟩
      · unfold cf_3 cf_3_0 cf_3_4 cf_3_12
        simp (disch := omega) only [ev_S, ev_C, ↓reduceIte, Nat.reduceEqDiff, Nat.reduceLeDiff, Nat.reduceAdd, Nat.reduceMul, Nat.reduceSub, reduceCtorEq, l32_0, l32_1, l32_2, l32_3, l32_4, l32_5, l32_6, l32_7, l32_8, l32_9, l32_10, l32_11, l32_12, l32_13, l32_14, l32_15, l32_16, l32_17, l32_18, l32_19, l32_20, l32_21, l32_22, l32_23, l32_24, l32_25, l32_26, l32_27, l32_28, l32_29, l32_33, l32_40, l32_41, l32_44, l32_45, l32_59, l32_61, l32_91, l32_93, l32_123, l32_125, k01, nm]
      · unfold mf_59 mf_59_0 mf_59_4 mf_59_12
        simp (disch := omega) only [ev_S, ev_P, ↓reduceIte, Nat.reduceEqDiff, Nat.reduceLeDiff, Nat.reduceAdd, Nat.reduceMul, Nat.reduceSub, reduceCtorEq, l32_0, l32_1, l32_2, l32_3, l32_4, l32_5, l32_6, l32_7, l32_8, l32_9, l32_10, l32_11, l32_12, l32_13, l32_14, l32_15, l32_16, l32_17, l32_18, l32_19, l32_20, l32_21, l32_22, l32_23, l32_24, l32_25, l32_26, l32_27, l32_28, l32_29, l32_33, l32_40, l32_41, l32_44, l32_45, l32_59, l32_61, l32_91, l32_93, l32_123, l32_125, s3, nm]
end LOB
end
-- ### 94n.pure.lean.txt
section
/-! ===== PURE: what is asked of the outside holds ===== -/
section OUT
variable {N : Nat} {L : Nat} {xs : Nat → Int32} {t : cS}
theorem rd_X {j : Nat} : zz_rd (zt_X L xs) [] (zz_out + j) = zt_X L xs j := by
  unfold zz_rd
  rw [if_neg (by omega), Nat.add_sub_cancel_left]
theorem xw {w : Nat} (hw : w < 41) : zt_X L xs (w + 1) = some (.inr (20, [.long (zy_code.getD w 0), .int (zy_least.getD w 0), .int (zy_most.getD w 0), .int (Int32.ofNat w)])) := by
  unfold zt_X
  rw [if_neg (by omega), if_pos (by omega)]
  rfl
theorem gv_X {j k : Nat} {cj : Nat} {fs : List Value} (h : zt_X L xs j = some (.inr (cj, fs))) (hc : ¬ cj < 20) : hgv (zt_X L xs) [] (zz_out + j) cj k = fs[k]? := by
  unfold hgv
  rw [if_neg hc, if_neg (by omega), Nat.add_sub_cancel_left, h]
  exact if_pos rfl
theorem cl_X {j : Nat} {cj : Nat} {fs : List Value} (h : zt_X L xs j = some (.inr (cj, fs))) (hc : ¬ cj < 20) : hcl (zt_X L xs) [] (zz_out + j) cj = true := by
  unfold hcl
  rw [rd_X, h]
  exact decide_eq_true ⟨⟨fun q => by omega, fun q => absurd q hc⟩, Or.inl rfl⟩
theorem cd_X : ∀ w : Fin 41, zy_code.getD w.1 0 = Int64.ofNat (evB 32 (wd w.1)) := by decide
theorem le_X : ∀ w : Fin 41, zy_least.getD w.1 0 = Int32.ofNat (wlo w.1) := by decide
theorem mo_X : ∀ w : Fin 41, zy_most.getD w.1 0 = Int32.ofNat (whi w.1) := by decide
theorem mp_X : ∀ w : Fin 41, zy_map.getD w.1 0 = Int32.ofNat (swm w.1) := by decide
theorem oY_X : oY (zt_X L xs) := fun w hw => by
  have h := xw (L := L) (xs := xs) hw
  refine ⟨cl_X h (by decide), ?_, ?_⟩
  · unfold hgi
    rw [gv_X h (by decide)]
    show some (zy_least.getD w 0) = _
    rw [le_X ⟨w, hw⟩]
  · unfold hgi
    rw [gv_X h (by decide)]
    show some (zy_most.getD w 0) = _
    rw [mo_X ⟨w, hw⟩]
theorem oZ_X : oZ (zt_X L xs) := fun w hw => by
  have h := xw (L := L) (xs := xs) hw
  refine ⟨?_, ?_⟩
  · unfold hgi
    rw [gv_X h (by decide)]
    rfl
  · have h43 : zt_X L xs 43 = some (.inl (0, 41, .inl fun i => zy_map.getD i 0)) := rfl
    unfold hai
    rw [rd_X, h43]
    show (if 0 = 0 ∧ ¬ (Int32.ofNat w < 0 ∨ 41 ≤ (Int32.ofNat w).toNatClampNeg) then some (zy_map.getD (Int32.ofNat w).toNatClampNeg 0) else none) = _
    rw [ev_S.1 (by omega), if_pos ⟨rfl, fun q => q.elim (fun q => i32n (by omega) q) (fun q => by omega)⟩, mp_X ⟨w, hw⟩]
/-- indexOf goes over the bytes -/
theorem ix_L {X : Nat → Option zz_C} {x0 : Nat} {v : Int32} {l : List Int32} (hx : ¬ x0 < zz_out) (hl : l.length < 1000) (hb : ∀ i, i < l.length → hab X [] x0 (Int32.ofNat i) = some (l.getD i 0)) : ∀ d j q, j + d = l.length → ∃ r : Int32, cf_364_L2 N X (q + (d + 1)) 0 x0 (Int32.ofNat l.length) v (Int32.ofNat j) t = some (t, .inl (some (.int r))) ∧ (((∃ k, j ≤ k ∧ k < l.length ∧ l.getD k 0 = v) ∧ ∃ m : Nat, m < l.length ∧ r = Int32.ofNat m) ∨ ((∀ k, j ≤ k → k < l.length → ¬ l.getD k 0 = v) ∧ r = -Int32.ofNat 1)) := by
  intro d
  induction d with
  | zero =>
    intro j q hj
    refine ⟨-Int32.ofNat 1, ?_, Or.inr ⟨fun k k1 k2 => by omega, rfl⟩⟩
    have hj : j = l.length := hj
    subst hj
    show cf_364_7 N X (cf_364_L2 N X q) x0 (Int32.ofNat l.length) v (Int32.ofNat l.length) t = _
    unfold cf_364_7 cf_364_31
    simp (disch := omega) only [ev_S, ev_C, ↓reduceIte, Nat.reduceEqDiff, Nat.reduceLeDiff, Nat.reduceAdd, Nat.reduceMul, Nat.reduceSub, reduceCtorEq, l32_0, l32_1, l32_2, l32_3, l32_4, l32_5, l32_6, l32_7, l32_8, l32_9, l32_10, l32_11, l32_12, l32_13, l32_14, l32_15, l32_16, l32_17, l32_18, l32_19, l32_20, l32_21, l32_22, l32_23, l32_24, l32_25, l32_26, l32_27, l32_28, l32_29, l32_33, l32_40, l32_41, l32_44, l32_45, l32_59, l32_61, l32_91, l32_93, l32_123, l32_125]
  | succ d ih =>
    intro j q hj
    have hj1 : j < l.length := by omega
    have n1 : ¬ l.length ≤ j := by omega
    have hx' : (x0 < zz_out) = False := eq_false hx
    have h1 := hb j hj1
    by_cases z : l.getD j 0 = v
    · refine ⟨Int32.ofNat j, ?_, Or.inl ⟨⟨j, Nat.le_refl _, hj1, z⟩, j, hj1, rfl⟩⟩
      show cf_364_7 N X (cf_364_L2 N X (q + (d + 1))) x0 (Int32.ofNat l.length) v (Int32.ofNat j) t = _
      rw [z] at h1
      unfold cf_364_7 cf_364_13 cf_364_22
      simp (disch := omega) only [ev_S, ev_C, ↓reduceIte, Nat.reduceEqDiff, Nat.reduceLeDiff, Nat.reduceAdd, Nat.reduceMul, Nat.reduceSub, reduceCtorEq, l32_0, l32_1, l32_2, l32_3, l32_4, l32_5, l32_6, l32_7, l32_8, l32_9, l32_10, l32_11, l32_12, l32_13, l32_14, l32_15, l32_16, l32_17, l32_18, l32_19, l32_20, l32_21, l32_22, l32_23, l32_24, l32_25, l32_26, l32_27, l32_28, l32_29, l32_33, l32_40, l32_41, l32_44, l32_45, l32_59, l32_61, l32_91, l32_93, l32_123, l32_125, n1, hx', h1, ev_b32]
    · obtain ⟨r, r1, r2⟩ := ih (j + 1) q (by omega)
      refine ⟨r, ?_, ?_⟩
      · rw [← r1]
        show cf_364_7 N X (cf_364_L2 N X (q + (d + 1))) x0 (Int32.ofNat l.length) v (Int32.ofNat j) t = _
        unfold cf_364_7 cf_364_13 cf_364_25
        have z' : ¬ l.getD j (Int32.ofNat 0) = v := z
        simp (disch := omega) only [ev_S, ev_C, ↓reduceIte, Nat.reduceEqDiff, Nat.reduceLeDiff, Nat.reduceAdd, Nat.reduceMul, Nat.reduceSub, reduceCtorEq, l32_0, l32_1, l32_2, l32_3, l32_4, l32_5, l32_6, l32_7, l32_8, l32_9, l32_10, l32_11, l32_12, l32_13, l32_14, l32_15, l32_16, l32_17, l32_18, l32_19, l32_20, l32_21, l32_22, l32_23, l32_24, l32_25, l32_26, l32_27, l32_28, l32_29, l32_33, l32_40, l32_41, l32_44, l32_45, l32_59, l32_61, l32_91, l32_93, l32_123, l32_125, n1, hx', h1, ev_b32]
        first | rfl | exact if_pos z'
      · rcases r2 with ⟨⟨k, k1, k2, k3⟩, r2⟩ | ⟨r2, r3⟩
        · exact Or.inl ⟨⟨k, by omega, k2, k3⟩, r2⟩
        · refine Or.inr ⟨fun k k1 k2 => ?_, r3⟩
          by_cases y : k = j
          · subst y
            exact z
          · exact r2 k (by omega) k2
theorem ch_X : ∀ c : Fin 128, Int8.toInt32 (Int32.toInt8 (UInt32.toInt32 (Int32.toUInt32 (Int32.ofNat c.1) % 65536))) = Int32.ofNat c.1 ∧ UInt32.toInt32 (Int32.toUInt32 (Int32.ofNat c.1) % 65536) = Int32.ofNat c.1 := by decide
theorem b0_X : ∀ c : Fin 128, (sgB c.1 = true → ∃ k : Fin 19, (zy_byt 0).getD k.1 0 = Int32.ofNat c.1) ∧ (¬ sgB c.1 = true → ∀ k : Fin 19, ¬ (zy_byt 0).getD k.1 0 = Int32.ofNat c.1) := by decide
theorem b1_X : ∀ c : Fin 128, (eqB c.1 = true → ∃ k : Fin 4, (zy_byt 1).getD k.1 0 = Int32.ofNat c.1) ∧ (¬ eqB c.1 = true → ∀ k : Fin 4, ¬ (zy_byt 1).getD k.1 0 = Int32.ofNat c.1) := by decide
/-- indexOf of a string outside -/
theorem ix_X {u c n : Nat} (hN : 170000 ≤ N) (hu : u = 0 ∨ u = 1) (hn : n = (zy_byt u).length) (hc : c < 128) : ∃ r : Int32, cf_359 N (zt_X L xs) (zz_out + (44 + u)) (UInt32.toInt32 (Int32.toUInt32 (Int32.ofNat c) % 65536)) t = some (t, .inl (some (.int r))) ∧ (((∃ k, k < n ∧ (zy_byt u).getD k 0 = Int32.ofNat c) ∧ ∃ m : Nat, m < 100 ∧ r = Int32.ofNat m) ∨ ((∀ k, k < n → ¬ (zy_byt u).getD k 0 = Int32.ofNat c) ∧ r = -Int32.ofNat 1)) := by
  have hn20 : 1 ≤ n ∧ n < 20 := by rcases hu with z | z <;> subst z <;> rw [hn] <;> decide
  have h44 : zt_X L xs (44 + u) = some (.inr (21, [.ref (zz_out + (47 + u)), .int 0])) := by rcases hu with z | z <;> subst z <;> rfl
  have h47 : zt_X L xs (47 + u) = some (.inl (2, (zy_byt u).length, .inl fun i => (zy_byt u).getD i 0)) := by rcases hu with z | z <;> subst z <;> rfl
  have hcl' : (hcl (zt_X L xs) [] (zz_out + (44 + u)) 21 = true) = True := eq_true (cl_X h44 (by decide))
  have o1 : (zz_out + (44 + u) < zz_out) = False := eq_false (by omega)
  have o2 : (zz_out + (47 + u) < zz_out) = False := eq_false (by omega)
  have hg0 : hgr (zt_X L xs) [] (zz_out + (44 + u)) 21 0 = some (zz_out + (47 + u)) := by
    unfold hgr
    rw [gv_X h44 (by decide)]
    rfl
  have hg1 : hgi (zt_X L xs) [] (zz_out + (44 + u)) 21 1 = some (Int32.ofNat 0) := by
    unfold hgi
    rw [gv_X h44 (by decide)]
    rfl
  have hle : hlen (zt_X L xs) [] (zz_out + (47 + u)) = some (Int32.ofNat n) := by
    unfold hlen
    rw [rd_X, h47, hn]
    exact if_pos (Or.inl (by decide))
  have hb : ∀ i, i < (zy_byt u).length → hab (zt_X L xs) [] (zz_out + (47 + u)) (Int32.ofNat i) = some ((zy_byt u).getD i 0) := fun i hi => by
    unfold hab
    rw [rd_X, h47]
    show (if (2 = 2 ∨ 2 = 3) ∧ ¬ (Int32.ofNat i < 0 ∨ (zy_byt u).length ≤ (Int32.ofNat i).toNatClampNeg) then some ((zy_byt u).getD (Int32.ofNat i).toNatClampNeg 0) else none) = _
    rw [ev_S.1 (by omega), if_pos ⟨Or.inl rfl, fun q => q.elim (fun q => i32n (by omega) q) (fun q => by omega)⟩]
  obtain ⟨r, r1, r2⟩ := ix_L (N := N) (t := t) (X := zt_X L xs) (x0 := zz_out + (47 + u)) (v := Int32.ofNat c) (l := zy_byt u) (by omega) (by omega) hb (zy_byt u).length 0 (N - ((zy_byt u).length + 1)) (Nat.zero_add _)
  rw [show N - ((zy_byt u).length + 1) + ((zy_byt u).length + 1) = N by omega, ← hn] at r1
  have hch := ch_X ⟨c, hc⟩
  refine ⟨r, ?_, ?_⟩
  · have e2 := hch.1
    have e3 := hch.2
    rw [e3]
    rw [e3] at e2
    have e61 : cf_361 N (zt_X L xs) (zz_out + (44 + u)) t = some (t, .inl (some (.int (Int32.ofNat 1)))) := by
      unfold cf_361 cf_361_0 cf_361_6 cf_361_13 cf_361_18
      rw [hg1]
      rfl
    have e62 : cf_362 N (zt_X L xs) (Int32.ofNat c) t = some (t, .inl (some (.int (Int32.ofNat 1)))) := by
      have n255 : ¬ 255 < c := by omega
      unfold cf_362 cf_362_0 cf_362_4 cf_362_11 cf_362_16
      simp (disch := omega) only [ev_S, ev_C, ↓reduceIte, Nat.reduceEqDiff, Nat.reduceLeDiff, Nat.reduceAdd, Nat.reduceMul, Nat.reduceSub, reduceCtorEq, l32_0, l32_1, l32_2, l32_3, l32_4, l32_5, l32_6, l32_7, l32_8, l32_9, l32_10, l32_11, l32_12, l32_13, l32_14, l32_15, l32_16, l32_17, l32_18, l32_19, l32_20, l32_21, l32_22, l32_23, l32_24, l32_25, l32_26, l32_27, l32_28, l32_29, l32_33, l32_40, l32_41, l32_44, l32_45, l32_59, l32_61, l32_91, l32_93, l32_123, l32_125, l32_255, n255]
    have e58 : cf_358 N (zt_X L xs) (zz_out + (44 + u)) t = some (t, .inl (some (.int (Int32.ofNat 0)))) := by
      unfold cf_358 cf_358_0 cf_358_6 cf_358_14
      rw [hg1]
      rfl
    have e57 : cf_357 N (zt_X L xs) (zz_out + (44 + u)) t = some (t, .inl (some (.int (Int32.ofNat n)))) := by
      have sh : Int32.ofNat n >>> (Int32.ofNat 0 &&& 31) = Int32.ofNat n := by
        rcases hu with z | z <;> subst z <;> subst hn <;> decide
      unfold cf_357 cf_357_0 cf_357_9
      simp (disch := omega) only [ev_S, ev_C, ↓reduceIte, Nat.reduceEqDiff, Nat.reduceLeDiff, Nat.reduceAdd, Nat.reduceMul, Nat.reduceSub, reduceCtorEq, l32_0, l32_1, l32_2, l32_3, l32_4, l32_5, l32_6, l32_7, l32_8, l32_9, l32_10, l32_11, l32_12, l32_13, l32_14, l32_15, l32_16, l32_17, l32_18, l32_19, l32_20, l32_21, l32_22, l32_23, l32_24, l32_25, l32_26, l32_27, l32_28, l32_29, l32_33, l32_40, l32_41, l32_44, l32_45, l32_59, l32_61, l32_91, l32_93, l32_123, l32_125, hg0, o2, hle, ev_b32, o1, hcl', e58, sh]
    have e64 : cf_364 N (zt_X L xs) (zz_out + (47 + u)) (Int32.ofNat c) (Int32.ofNat 0) (Int32.ofNat n) t = some (t, .inl (some (.int r))) := by
      unfold cf_364 cf_364_0
      rw [e2]
      exact r1
    unfold cf_359 cf_359_0 cf_359_6 cf_360 cf_360_0 cf_360_4 cf_360_7 cf_360_17 cf_360_20 cf_360_36 cf_363 cf_363_0 cf_363_4 cf_363_9 cf_363_29 cf_363_36
    simp (disch := omega) only [ev_S, ev_C, ↓reduceIte, Nat.reduceEqDiff, Nat.reduceLeDiff, Nat.reduceAdd, Nat.reduceMul, Nat.reduceSub, reduceCtorEq, l32_0, l32_1, l32_2, l32_3, l32_4, l32_5, l32_6, l32_7, l32_8, l32_9, l32_10, l32_11, l32_12, l32_13, l32_14, l32_15, l32_16, l32_17, l32_18, l32_19, l32_20, l32_21, l32_22, l32_23, l32_24, l32_25, l32_26, l32_27, l32_28, l32_29, l32_33, l32_40, l32_41, l32_44, l32_45, l32_59, l32_61, l32_91, l32_93, l32_123, l32_125, o1, hcl', e61, hg0, e57, e62, o2, hle, ev_b32, e64]
  · rcases r2 with ⟨⟨k, k1, k2, k3⟩, m, m1, m2⟩ | ⟨k1, k2⟩
    · exact Or.inl ⟨⟨k, by omega, k3⟩, m, by omega, m2⟩
    · exact Or.inr ⟨fun k hk => k1 k (Nat.zero_le _) (by omega), k2⟩
theorem oX_X (hN : 170000 ≤ N) : oX N (zt_X L xs) := by
  have h44 : zt_X L xs 44 = some (.inr (21, [.ref (zz_out + 47), .int 0])) := rfl
  have h45 : zt_X L xs 45 = some (.inr (21, [.ref (zz_out + 48), .int 0])) := rfl
  have h42 : zt_X L xs 42 = some (.inl (6, 41, .inr (.inr (.inr (.inr fun i => some (zz_out + (i + 1))))))) := rfl
  refine ⟨?_, fun i hi => ⟨?_, ?_⟩, cl_X h44 (by decide), cl_X h45 (by decide), fun t c hc => ?_, fun t c hc => ?_⟩
  · unfold hlen
    rw [rd_X, h42]
    exact if_pos (Or.inr (by omega))
  · unfold har haq
    rw [rd_X, h42]
    show (match (if (4 ≤ 6 ∧ (6 < 6 ∨ ¬ zz_out + 42 < zz_out)) ∧ ¬ (Int32.ofNat i < 0 ∨ 41 ≤ (Int32.ofNat i).toNatClampNeg) then some (some (zz_out + ((Int32.ofNat i).toNatClampNeg + 1))) else none : Option (Option Nat)) with
      | some (some x) => some x
      | _ => none) = _
    rw [ev_S.1 (by omega), if_pos ⟨⟨by decide, Or.inr (by omega)⟩, fun q => q.elim (fun q => i32n (by omega) q) (fun q => by omega)⟩]
  · unfold hgl
    rw [gv_X (xw hi) (by decide)]
    show some (zy_code.getD i 0) = _
    rw [cd_X ⟨i, hi⟩]
  · obtain ⟨r, r1, r2⟩ := ix_X (N := N) (L := L) (xs := xs) (t := t) (u := 0) (c := c) (n := 19) hN (Or.inl rfl) rfl hc
    refine ⟨r, r1, fun q => ?_, fun q => ?_⟩
    · obtain ⟨k, hk⟩ := (b0_X ⟨c, hc⟩).1 (sgB_iff.mpr q)
      rcases r2 with ⟨-, r2⟩ | ⟨r2, -⟩
      · exact r2
      · exact absurd hk (r2 k.1 k.2)
    · rcases r2 with ⟨⟨k, k1, k2⟩, -⟩ | ⟨-, r2⟩
      · exact absurd k2 ((b0_X ⟨c, hc⟩).2 (fun z => q (sgB_iff.mp z)) ⟨k, k1⟩)
      · exact r2
  · obtain ⟨r, r1, r2⟩ := ix_X (N := N) (L := L) (xs := xs) (t := t) (u := 1) (c := c) (n := 4) hN (Or.inr rfl) rfl hc
    refine ⟨r, r1, fun q => ?_, fun q => ?_⟩
    · obtain ⟨k, hk⟩ := (b1_X ⟨c, hc⟩).1 (eqB_iff.mpr q)
      rcases r2 with ⟨-, r2⟩ | ⟨r2, -⟩
      · exact r2
      · exact absurd hk (r2 k.1 k.2)
    · rcases r2 with ⟨⟨k, k1, k2⟩, -⟩ | ⟨-, r2⟩
      · exact absurd k2 ((b1_X ⟨c, hc⟩).2 (fun z => q (eqB_iff.mp z)) ⟨k, k1⟩)
      · exact r2
end OUT
end
-- ### 94o.pure.lean.txt
section
/-! ===== PURE: run (1): how high the stack may be ===== -/
/-- how many values lie there -/
def nV : List Nat → Nat
  | [] => 0
  | x :: L => nV L + (if x = 0 then 1 else 0)
theorem pop0_V : ∀ (k : Nat) (L M : List Nat), pop0 k L = some M → nV L = nV M + k
  | 0, L, M, h => by
    rw [show L = M from Option.some.inj h]
    rfl
  | k + 1, [], M, h => by
    simp [pop0] at h
  | k + 1, 0 :: L, M, h => by
    have := pop0_V k L M h
    show nV L + 1 = nV M + (k + 1)
    omega
  | k + 1, (x + 1) :: L, M, h => by
    simp [pop0] at h
/-- what an instruction does to the number of values -/
theorem eff_V {c : Ins} {L L' : List Nat} (h : eff c L = some L') : nV L ≤ nV L' + (rlen c + xlen c) ∧ nV L' ≤ nV L + rlen c ∧ (nF L ≤ 10 → nF L' ≤ 10) := by
  obtain ⟨o, j, r, a, q, x, y⟩ := c
  have pm : ∀ k, (pop0 k L).map (0 :: ·) = some L' → nV L + 1 = nV L' + k ∧ nF L' = nF L := fun k hk => by
    cases hM : pop0 k L with
    | none =>
      rw [hM] at hk
      cases hk
    | some M =>
      rw [hM] at hk
      have h1 := pop0_V k L M hM
      have h2 := pop0_F k L M hM
      rw [← show 0 :: M = L' from Option.some.inj hk]
      refine ⟨?_, h2.symm⟩
      show _ = nV M + 1 + k
      omega
  have pp : ∀ k, pop0 k L = some L' → nV L = nV L' + k ∧ nF L' = nF L := fun k hk => ⟨pop0_V k L L' hk, (pop0_F k L L' hk).symm⟩
  by_cases h26 : o ≤ 26
  · have hv : o = 0 ∨ o = 1 ∨ o = 2 ∨ o = 3 ∨ o = 4 ∨ o = 5 ∨ o = 6 ∨ o = 7 ∨ o = 8 ∨ o = 9 ∨ o = 10 ∨ o = 11 ∨ o = 12 ∨ o = 13 ∨ o = 14 ∨ o = 15 ∨ o = 16 ∨ o = 17 ∨ o = 18 ∨ o = 19 ∨ o = 20 ∨ o = 21 ∨ o = 22 ∨ o = 23 ∨ o = 24 ∨ o = 25 ∨ o = 26 := by omega
    rcases hv with rfl | rfl | rfl | rfl | rfl | rfl | rfl | rfl | rfl | rfl | rfl | rfl | rfl | rfl | rfl | rfl | rfl | rfl | rfl | rfl | rfl | rfl | rfl | rfl | rfl | rfl | rfl
    · rw [← show 0 :: L = L' from Option.some.inj h]
      show nV L ≤ nV L + 1 + (1 + 0) ∧ nV L + 1 ≤ nV L + 1 ∧ (nF L ≤ 10 → nF L ≤ 10)
      omega
    · rw [← show 0 :: L = L' from Option.some.inj h]
      show nV L ≤ nV L + 1 + (1 + 0) ∧ nV L + 1 ≤ nV L + 1 ∧ (nF L ≤ 10 → nF L ≤ 10)
      omega
    · rw [← show 1 :: L = L' from Option.some.inj h]
      show nV L ≤ nV L + (0 + 0) ∧ nV L ≤ nV L + 0 ∧ (nF L ≤ 10 → nF L ≤ 10)
      omega
    · have h : (match (generalizing := false) L with | 0 :: 1 :: M => some (0 :: M) | _ => none) = some L' := h
      split at h
      · rename_i M h0
        rw [← Option.some.inj h]
        show nV M + 1 ≤ nV M + 1 + (1 + 0) ∧ nV M + 1 ≤ nV M + 1 + 1 ∧ (nF M ≤ 10 → nF M ≤ 10)
        omega
      · cases h
    · have := pm 1 h
      show nV L ≤ nV L' + (1 + 0) ∧ nV L' ≤ nV L + 1 ∧ _
      omega
    · have := pm 2 h
      show nV L ≤ nV L' + (1 + 0) ∧ nV L' ≤ nV L + 1 ∧ _
      omega
    · have := pm j h
      show nV L ≤ nV L' + (1 + (j - 1)) ∧ nV L' ≤ nV L + 1 ∧ _
      omega
    · have := pm 2 h
      show nV L ≤ nV L' + (1 + 0) ∧ nV L' ≤ nV L + 1 ∧ _
      omega
    · have := pm j h
      show nV L ≤ nV L' + (1 + (j - 1)) ∧ nV L' ≤ nV L + 1 ∧ _
      omega
    · have := pm r h
      show nV L ≤ nV L' + (1 + (r - 1)) ∧ nV L' ≤ nV L + 1 ∧ _
      omega
    · have h : (if r ≤ 2 then (pop0 r L).map (0 :: ·) else none) = some L' := h
      by_cases z : r ≤ 2
      · rw [if_pos z] at h
        have := pm r h
        show nV L ≤ nV L' + (2 + 0) ∧ nV L' ≤ nV L + 2 ∧ _
        omega
      · rw [if_neg z] at h
        cases h
    · rw [pay_eq h]
      show nV L' + 1 ≤ nV L' + (1 + 0) ∧ nV L' ≤ nV L' + 1 + 1 ∧ (nF L' ≤ 10 → nF L' ≤ 10)
      omega
    · have h : (pop0 j L).bind pay = some L' := h
      cases hM : pop0 j L with
      | none =>
        rw [hM] at h
        cases h
      | some M =>
        rw [hM] at h
        have h : pay M = some L' := h
        have h1 := pop0_V j L M hM
        have h2 := pop0_F j L M hM
        rw [pay_eq h] at h1 h2
        have h1 : nV L = nV L' + 1 + j := h1
        have h2 : nF L = nF L' := h2
        show nV L ≤ nV L' + (1 + j) ∧ nV L' ≤ nV L + 1 ∧ _
        omega
    · have h : (match (generalizing := false) L with | 0 :: 5 :: M => if nF M < 10 then some (4 :: M) else none | _ => none) = some L' := h
      split at h
      · rename_i M h0
        split at h
        · rw [← Option.some.inj h]
          show nV M + 1 ≤ nV M + (1 + 0) ∧ nV M ≤ nV M + 1 + 1 ∧ (nF M ≤ 10 → nF M + 1 ≤ 10)
          omega
        · cases h
      · cases h
    · have h : (if r = 1 then (match (generalizing := false) L with | 5 :: 2 :: M => some M | _ => none) else if r = 2 then (match (generalizing := false) L with | 4 :: 5 :: M => some M | _ => none) else (match (generalizing := false) L with | 4 :: M => some M | _ => none)) = some L' := h
      split at h
      · split at h
        · rename_i M h0
          rw [← Option.some.inj h]
          show nV M ≤ nV M + (1 + 0) ∧ nV M ≤ nV M + 1 ∧ (nF M + 1 ≤ 10 → nF M ≤ 10)
          omega
        · cases h
      · split at h
        · split at h
          · rename_i M h0
            rw [← Option.some.inj h]
            show nV M ≤ nV M + (1 + 0) ∧ nV M ≤ nV M + 1 ∧ (nF M + 1 ≤ 10 → nF M ≤ 10)
            omega
          · cases h
        · split at h
          · rename_i M h0
            rw [← Option.some.inj h]
            show nV M ≤ nV M + (1 + 0) ∧ nV M ≤ nV M + 1 ∧ (nF M + 1 ≤ 10 → nF M ≤ 10)
            omega
          · cases h
    · have h : (match (generalizing := false) L with | 5 :: M => some (5 :: 5 :: M) | _ => none) = some L' := h
      split at h
      · rw [← Option.some.inj h]
        exact ⟨Nat.le_add_right _ _, Nat.le_add_right _ _, fun z => z⟩
      · cases h
    · have h : (match (generalizing := false) L with | 0 :: _ => none | 1 :: _ => none | _ => some (5 :: L)) = some L' := h
      split at h
      · cases h
      · cases h
      · rw [← Option.some.inj h]
        exact ⟨Nat.le_add_right _ _, Nat.le_add_right _ _, fun z => z⟩
    · have h : (match (generalizing := false) L with | 0 :: 5 :: M => if nF M < 10 then some (2 :: M) else none | _ => none) = some L' := h
      split at h
      · rename_i M h0
        split at h
        · rw [← Option.some.inj h]
          show nV M + 1 ≤ nV M + (1 + 0) ∧ nV M ≤ nV M + 1 + 1 ∧ (nF M ≤ 10 → nF M + 1 ≤ 10)
          omega
        · cases h
      · cases h
    · have h : (match (generalizing := false) L with | 2 :: M => some (5 :: 2 :: M) | _ => none) = some L' := h
      split at h
      · rw [← Option.some.inj h]
        exact ⟨Nat.le_add_right _ _, Nat.le_add_right _ _, fun z => z⟩
      · cases h
    · rw [pay_eq h]
      show nV L' + 1 ≤ nV L' + (1 + 0) ∧ nV L' ≤ nV L' + 1 + 1 ∧ (nF L' ≤ 10 → nF L' ≤ 10)
      omega
    · have h : (match (generalizing := false) L with | 0 :: 5 :: M => some M | [0] => some [] | _ => none) = some L' := h
      split at h
      · rename_i M h0
        rw [← Option.some.inj h]
        show nV M + 1 ≤ nV M + (1 + 0) ∧ nV M ≤ nV M + 1 + 1 ∧ (nF M ≤ 10 → nF M ≤ 10)
        omega
      · rw [← Option.some.inj h]
        show 0 + 1 ≤ 0 + (1 + 0) ∧ 0 ≤ 0 + 1 + 1 ∧ (0 ≤ 10 → 0 ≤ 10)
        omega
      · cases h
    · rw [pay_eq h]
      show nV L' + 1 ≤ nV L' + (1 + 0) ∧ nV L' ≤ nV L' + 1 + 1 ∧ (nF L' ≤ 10 → nF L' ≤ 10)
      omega
    · rw [pay_eq h]
      show nV L' + 1 ≤ nV L' + (1 + 0) ∧ nV L' ≤ nV L' + 1 + 1 ∧ (nF L' ≤ 10 → nF L' ≤ 10)
      omega
    · have h : (match (generalizing := false) L with | 5 :: M => if nF M < 10 then some (3 :: M) else none | _ => none) = some L' := h
      split at h
      · rename_i M h0
        split at h
        · rw [← Option.some.inj h]
          show nV M ≤ nV M + (1 + 0) ∧ nV M ≤ nV M + 1 ∧ (nF M ≤ 10 → nF M + 1 ≤ 10)
          omega
        · cases h
      · cases h
    · have h : (match (generalizing := false) L with | 3 :: M => some (9 :: M) | _ => none) = some L' := h
      split at h
      · rename_i M h0
        rw [← Option.some.inj h]
        show nV M ≤ nV M + (1 + 0) ∧ nV M ≤ nV M + 1 ∧ (nF M + 1 ≤ 10 → nF M ≤ 10)
        omega
      · cases h
    · have h : (match (generalizing := false) L with | 9 :: M => some M | _ => none) = some L' := h
      split at h
      · rw [← Option.some.inj h]
        exact ⟨Nat.le_add_right _ _, Nat.le_add_right _ _, fun z => z⟩
      · cases h
    · have h : (match (generalizing := false) L with | 4 :: M => some M | _ => none) = some L' := h
      split at h
      · rename_i M h0
        rw [← Option.some.inj h]
        show nV M ≤ nV M + (0 + 0) ∧ nV M ≤ nV M + 0 ∧ (nF M + 1 ≤ 10 → nF M ≤ 10)
        omega
      · cases h
  · exfalso
    have : eff (o, j, r, a, q, x, y) L = none := by
      unfold eff
      dsimp only
      split
      all_goals first | rfl | omega
    rw [this] at h
    cases h
theorem run_V : ∀ (code : List Ins) (L L' : List Nat), code.foldlM (fun L c => eff c L) L = some L' → nV L ≤ nV L' + (rl code + xl code) ∧ nV L' ≤ nV L + rl code ∧ (nF L ≤ 10 → nF L' ≤ 10)
  | [], L, L', h => by
    rw [show L = L' from Option.some.inj h]
    exact ⟨Nat.le_add_right _ _, Nat.le_add_right _ _, fun z => z⟩
  | c :: code, L, L', h => by
    rw [List.foldlM_cons] at h
    cases hM : eff c L with
    | none =>
      rw [hM] at h
      cases h
    | some M =>
      rw [hM] at h
      obtain ⟨i1, i2, i3⟩ := run_V code M L' h
      obtain ⟨j1, j2, j3⟩ := eff_V hM
      have er : rl (c :: code) = rlen c + rl code := by unfold rl; rw [List.map_cons, List.sum_cons]
      have ex : xl (c :: code) = xlen c + xl code := by unfold xl; rw [List.map_cons, List.sum_cons]
      rw [er, ex]
      exact ⟨by omega, by omega, fun z => i3 (j3 z)⟩
/-- at each place of a program: few values, and no deep nest -/
theorem hgt {code : List Ins} {m : Nat} (h : lyo code = some []) (hw : rl code + xl code ≤ 1610) : ∃ L, lyo (code.take m) = some L ∧ (code.drop m).foldlM (fun L c => eff c L) L = some [] ∧ nV L ≤ 805 ∧ nF L ≤ 10 := by
  have e : code = code.take m ++ code.drop m := (List.take_append_drop m code).symm
  have h' : (code.take m ++ code.drop m).foldlM (fun L c => eff c L) [] = some [] := by
    rw [← e]
    exact h
  rw [List.foldlM_append] at h'
  have hr : rl code = rl (code.take m) + rl (code.drop m) := by rw [← rl_app, ← e]
  have hx : xl code = xl (code.take m) + xl (code.drop m) := by rw [← xl_app, ← e]
  cases hM : (code.take m).foldlM (fun L c => eff c L) [] with
  | none =>
    rw [hM] at h'
    cases h'
  | some L =>
    rw [hM] at h'
    have h' : (code.drop m).foldlM (fun L c => eff c L) L = some [] := h'
    obtain ⟨a1, a2, a3⟩ := run_V _ _ _ hM
    obtain ⟨b1, b2, b3⟩ := run_V _ _ _ h'
    have n0 : nV [] = 0 := rfl
    exact ⟨L, hM, h', by omega, a3 (Nat.zero_le _)⟩
end
-- ### 94p.pure.lean.txt
section
/-! ===== PURE: run (1b): how many values the class has there ===== -/
def nW : List Nat → Nat
  | [] => 0
  | x :: L => nW L + (if x ≤ 1 then 1 else 0)
theorem pop0_W : ∀ (k : Nat) (L M : List Nat), pop0 k L = some M → nW L = nW M + k
  | 0, L, M, h => by
    rw [show L = M from Option.some.inj h]
    rfl
  | k + 1, [], M, h => by
    simp [pop0] at h
  | k + 1, 0 :: L, M, h => by
    have := pop0_W k L M h
    show nW L + 1 = nW M + (k + 1)
    omega
  | k + 1, (x + 1) :: L, M, h => by
    simp [pop0] at h
theorem eff_W {c : Ins} {L L' : List Nat} (h : eff c L = some L') : nW L ≤ nW L' + (rlen c + xlen c) := by
  obtain ⟨o, j, r, a, q, x, y⟩ := c
  have pm : ∀ k, (pop0 k L).map (0 :: ·) = some L' → nW L + 1 = nW L' + k := fun k hk => by
    cases hM : pop0 k L with
    | none =>
      rw [hM] at hk
      cases hk
    | some M =>
      rw [hM] at hk
      have h1 := pop0_W k L M hM
      rw [← show 0 :: M = L' from Option.some.inj hk]
      show _ = nW M + 1 + k
      omega
  by_cases h26 : o ≤ 26
  · have hv : o = 0 ∨ o = 1 ∨ o = 2 ∨ o = 3 ∨ o = 4 ∨ o = 5 ∨ o = 6 ∨ o = 7 ∨ o = 8 ∨ o = 9 ∨ o = 10 ∨ o = 11 ∨ o = 12 ∨ o = 13 ∨ o = 14 ∨ o = 15 ∨ o = 16 ∨ o = 17 ∨ o = 18 ∨ o = 19 ∨ o = 20 ∨ o = 21 ∨ o = 22 ∨ o = 23 ∨ o = 24 ∨ o = 25 ∨ o = 26 := by omega
    rcases hv with rfl | rfl | rfl | rfl | rfl | rfl | rfl | rfl | rfl | rfl | rfl | rfl | rfl | rfl | rfl | rfl | rfl | rfl | rfl | rfl | rfl | rfl | rfl | rfl | rfl | rfl | rfl
    · rw [← show 0 :: L = L' from Option.some.inj h]
      show nW L ≤ nW L + 1 + (1 + 0)
      omega
    · rw [← show 0 :: L = L' from Option.some.inj h]
      show nW L ≤ nW L + 1 + (1 + 0)
      omega
    · rw [← show 1 :: L = L' from Option.some.inj h]
      show nW L ≤ nW L + 1 + (0 + 0)
      omega
    · have h : (match (generalizing := false) L with | 0 :: 1 :: M => some (0 :: M) | _ => none) = some L' := h
      split at h
      · rename_i M h0
        rw [← Option.some.inj h]
        show nW M + 1 + 1 ≤ nW M + 1 + (1 + 0)
        omega
      · cases h
    · have := pm 1 h
      show nW L ≤ nW L' + (1 + 0)
      omega
    · have := pm 2 h
      show nW L ≤ nW L' + (1 + 0)
      omega
    · have := pm j h
      show nW L ≤ nW L' + (1 + (j - 1))
      omega
    · have := pm 2 h
      show nW L ≤ nW L' + (1 + 0)
      omega
    · have := pm j h
      show nW L ≤ nW L' + (1 + (j - 1))
      omega
    · have := pm r h
      show nW L ≤ nW L' + (1 + (r - 1))
      omega
    · have h : (if r ≤ 2 then (pop0 r L).map (0 :: ·) else none) = some L' := h
      by_cases z : r ≤ 2
      · rw [if_pos z] at h
        have := pm r h
        show nW L ≤ nW L' + (2 + 0)
        omega
      · rw [if_neg z] at h
        cases h
    · rw [pay_eq h]
      show nW L' + 1 ≤ nW L' + (1 + 0)
      omega
    · have h : (pop0 j L).bind pay = some L' := h
      cases hM : pop0 j L with
      | none =>
        rw [hM] at h
        cases h
      | some M =>
        rw [hM] at h
        have h : pay M = some L' := h
        have h1 := pop0_W j L M hM
        rw [pay_eq h] at h1
        have h1 : nW L = nW L' + 1 + j := h1
        show nW L ≤ nW L' + (1 + j)
        omega
    · have h : (match (generalizing := false) L with | 0 :: 5 :: M => if nF M < 10 then some (4 :: M) else none | _ => none) = some L' := h
      split at h
      · rename_i M h0
        split at h
        · rw [← Option.some.inj h]
          show nW M + 1 ≤ nW M + (1 + 0)
          omega
        · cases h
      · cases h
    · have h : (if r = 1 then (match (generalizing := false) L with | 5 :: 2 :: M => some M | _ => none) else if r = 2 then (match (generalizing := false) L with | 4 :: 5 :: M => some M | _ => none) else (match (generalizing := false) L with | 4 :: M => some M | _ => none)) = some L' := h
      split at h
      · split at h
        · rename_i M h0
          rw [← Option.some.inj h]
          show nW M ≤ nW M + (1 + 0)
          omega
        · cases h
      · split at h
        · split at h
          · rename_i M h0
            rw [← Option.some.inj h]
            show nW M ≤ nW M + (1 + 0)
            omega
          · cases h
        · split at h
          · rename_i M h0
            rw [← Option.some.inj h]
            show nW M ≤ nW M + (1 + 0)
            omega
          · cases h
    · have h : (match (generalizing := false) L with | 5 :: M => some (5 :: 5 :: M) | _ => none) = some L' := h
      split at h
      · rw [← Option.some.inj h]
        exact Nat.le_add_right _ _
      · cases h
    · have h : (match (generalizing := false) L with | 0 :: _ => none | 1 :: _ => none | _ => some (5 :: L)) = some L' := h
      split at h
      · cases h
      · cases h
      · rw [← Option.some.inj h]
        exact Nat.le_add_right _ _
    · have h : (match (generalizing := false) L with | 0 :: 5 :: M => if nF M < 10 then some (2 :: M) else none | _ => none) = some L' := h
      split at h
      · rename_i M h0
        split at h
        · rw [← Option.some.inj h]
          show nW M + 1 ≤ nW M + (1 + 0)
          omega
        · cases h
      · cases h
    · have h : (match (generalizing := false) L with | 2 :: M => some (5 :: 2 :: M) | _ => none) = some L' := h
      split at h
      · rw [← Option.some.inj h]
        exact Nat.le_add_right _ _
      · cases h
    · rw [pay_eq h]
      show nW L' + 1 ≤ nW L' + (1 + 0)
      omega
    · have h : (match (generalizing := false) L with | 0 :: 5 :: M => some M | [0] => some [] | _ => none) = some L' := h
      split at h
      · rename_i M h0
        rw [← Option.some.inj h]
        show nW M + 1 ≤ nW M + (1 + 0)
        omega
      · rw [← Option.some.inj h]
        show 0 + 1 ≤ 0 + (1 + 0)
        omega
      · cases h
    · rw [pay_eq h]
      show nW L' + 1 ≤ nW L' + (1 + 0)
      omega
    · rw [pay_eq h]
      show nW L' + 1 ≤ nW L' + (1 + 0)
      omega
    · have h : (match (generalizing := false) L with | 5 :: M => if nF M < 10 then some (3 :: M) else none | _ => none) = some L' := h
      split at h
      · rename_i M h0
        split at h
        · rw [← Option.some.inj h]
          show nW M ≤ nW M + (1 + 0)
          omega
        · cases h
      · cases h
    · have h : (match (generalizing := false) L with | 3 :: M => some (9 :: M) | _ => none) = some L' := h
      split at h
      · rename_i M h0
        rw [← Option.some.inj h]
        show nW M ≤ nW M + (1 + 0)
        omega
      · cases h
    · have h : (match (generalizing := false) L with | 9 :: M => some M | _ => none) = some L' := h
      split at h
      · rw [← Option.some.inj h]
        exact Nat.le_add_right _ _
      · cases h
    · have h : (match (generalizing := false) L with | 4 :: M => some M | _ => none) = some L' := h
      split at h
      · rename_i M h0
        rw [← Option.some.inj h]
        show nW M ≤ nW M + (0 + 0)
        omega
      · cases h
  · exfalso
    have : eff (o, j, r, a, q, x, y) L = none := by
      unfold eff
      dsimp only
      split
      all_goals first | rfl | omega
    rw [this] at h
    cases h
theorem run_W : ∀ (code : List Ins) (L L' : List Nat), code.foldlM (fun L c => eff c L) L = some L' → nW L ≤ nW L' + (rl code + xl code)
  | [], L, L', h => by
    rw [show L = L' from Option.some.inj h]
    exact Nat.le_add_right _ _
  | c :: code, L, L', h => by
    rw [List.foldlM_cons] at h
    cases hM : eff c L with
    | none =>
      rw [hM] at h
      cases h
    | some M =>
      rw [hM] at h
      have i1 := run_W code M L' h
      have j1 := eff_W hM
      have er : rl (c :: code) = rlen c + rl code := by unfold rl; rw [List.map_cons, List.sum_cons]
      have ex : xl (c :: code) = xlen c + xl code := by unfold xl; rw [List.map_cons, List.sum_cons]
      rw [er, ex]
      omega
/-- at each place of a program -/
theorem hgt2 {code : List Ins} {m : Nat} {L : List Nat} (h : lyo code = some []) (hw : rl code + xl code ≤ 1610) (hL : lyo (code.take m) = some L) : nV L ≤ 805 ∧ nF L ≤ 10 ∧ nW L ≤ 1610 := by
  obtain ⟨L', h1, h2, h3, h4⟩ := hgt (m := m) h hw
  rw [hL] at h1
  cases Option.some.inj h1
  refine ⟨h3, h4, ?_⟩
  have h5 := run_W _ _ _ h2
  have hr : rl code = rl (code.take m) + rl (code.drop m) := by rw [← rl_app, List.take_append_drop]
  have hx : xl code = xl (code.take m) + xl (code.drop m) := by rw [← xl_app, List.take_append_drop]
  have n0 : nW [] = 0 := rfl
  omega
end
-- ### 95a.pure.lean.txt
section
/-! ===== PURE: run (2): the reference's values ===== -/
abbrev Rf (f : Nat) : Nat → Prop := fun y => y < f ∧ (y < 19280 ∨ 154240 ≤ y)
/-- a value, as the reference has it on its stack, in a variable, on a shelf: all of it below f -/
def rvl (h : Nat → Int32) (f : Nat) (k v : Int32) (x : Nod) : Prop := (k = Int32.ofNat 0 ∧ intV (vw x) = some v) ∨ (k = Int32.ofNat 1 ∧ intV (vw x) = none ∧ ∃ a : Nat, v = Int32.ofNat a ∧ LayN h (Rf f) a x)
abbrev pus (s : mS) (n : Nat) (k v : Int32) : mS := mI (mA (mA s 49 (upd (s.2.2.1 49) n k)) 50 (upd (s.2.2.1 50) n v)) 51 (Int32.ofNat (n + 1))
section RVL
variable {N : Nat} {s s' : mS} {f f' a i n : Nat} {k v : Int32} {x : Nod} {h h' : Nat → Int32}
theorem rvl.up (H : rvl h f k v x) (hf : f ≤ f') (hh : ∀ y, y < f → h' y = h y) : rvl h' f' k v x := by
  rcases H with H | ⟨h1, h2, a, h3, h4⟩
  · exact Or.inl H
  · exact Or.inr ⟨h1, h2, a, h3, LayN.congr (fun y z => ⟨Nat.lt_of_lt_of_le z.1 hf, z.2⟩) (fun y z => hh y z.1) h4⟩
theorem LayN.lt (H : LayN h (Rf f) a x) : a + wV wn (vw x) ≤ f ∧ 2 ≤ wV wn (vw x) := by
  obtain ⟨L1, L2⟩ := LayN_iff.mp H
  obtain ⟨-, -, h2⟩ := L2.kd
  have := L1 (a + wV wn (vw x) - 1) (by omega) (by omega)
  have this : a + wV wn (vw x) - 1 < f := this.1
  exact ⟨by omega, h2⟩
theorem r_psh (h51 : s.1 51 = Int32.ofNat n) (hn : n < 9000) : mf_291 N k v s = some (pus s n k v, none) := by
  unfold mf_291 mf_291_0
  simp (disch := omega) only [ev_S, ev_P, ↓reduceIte, Nat.reduceEqDiff, Nat.reduceLeDiff, Nat.reduceAdd, Nat.reduceMul, Nat.reduceSub, reduceCtorEq, l32_0, l32_1, l32_2, l32_3, l32_4, l32_5, l32_6, l32_7, l32_8, l32_9, l32_10, l32_11, l32_12, l32_13, l32_14, l32_15, l32_16, l32_17, l32_18, l32_19, l32_20, l32_21, l32_22, l32_23, l32_24, l32_25, l32_26, l32_27, l32_28, l32_29, l32_33, l32_40, l32_41, l32_44, l32_45, l32_59, l32_61, l32_91, l32_93, l32_123, l32_125, h51]
/-- a part of a THING is laid on the stack -/
theorem r_elemV {w : Vw} (H : Wy (s.2.2.1 47) a (LayN (s.2.2.1 47) (Rf f)) w) (ha : a + wV wn w ≤ 166300) (hi : i < (ptsV w).length) (h51 : s.1 51 = Int32.ofNat n) (hn : n < 9000) : ∃ k v, mf_295 N (Int32.ofNat a) (Int32.ofNat i) s = some (pus s n k v, none) ∧ rvl (s.2.2.1 47) f k v (ptsV w)[i] := by
  obtain z | r | q | ⟨m, l⟩ := w
  · exact H.elim
  · obtain ⟨h1, h2, h3⟩ := H
    have hi : i < (r.map nZ).length := hi
    have hi' : i < r.length := by rw [List.length_map] at hi; exact hi
    have ha : a + (2 + r.length) ≤ 166300 := ha
    have g1 : (s.2.2.1 47) a = Int32.ofNat 1 := h1
    have g3 := h3 i hi'
    have p1 := r_psh (N := N) (k := Int32.ofNat 0) (v := r[i]) h51 hn
    refine ⟨Int32.ofNat 0, r[i], ?_, Or.inl ⟨rfl, ?_⟩⟩
    · unfold mf_295 mf_295_0 mf_295_10 mf_295_25 mf_295_78
      simp (disch := omega) only [ev_S, ev_P, ↓reduceIte, Nat.reduceEqDiff, Nat.reduceLeDiff, Nat.reduceAdd, Nat.reduceMul, Nat.reduceSub, reduceCtorEq, l32_0, l32_1, l32_2, l32_3, l32_4, l32_5, l32_6, l32_7, l32_8, l32_9, l32_10, l32_11, l32_12, l32_13, l32_14, l32_15, l32_16, l32_17, l32_18, l32_19, l32_20, l32_21, l32_22, l32_23, l32_24, l32_25, l32_26, l32_27, l32_28, l32_29, l32_33, l32_40, l32_41, l32_44, l32_45, l32_59, l32_61, l32_91, l32_93, l32_123, l32_125, g1, g3, p1]
    · show intV (vw ((r.map nZ)[i])) = _
      rw [List.getElem_map]
      rfl
  · have H' := H
    obtain ⟨h1, h2, h3⟩ := H'
    have hi : i < (q.map nR).length := hi
    have hi' : i < q.length := by rw [List.length_map] at hi; exact hi
    obtain ⟨c, c1, c2⟩ := r_partT (N := N) H ha hi'
    have ha : a + (2 + q.length) ≤ 166300 := ha
    have g1 : (s.2.2.1 47) a = Int32.ofNat 2 := h1
    have p1 := r_psh (N := N) (k := Int32.ofNat 1) (v := Int32.ofNat c) h51 hn
    refine ⟨Int32.ofNat 1, Int32.ofNat c, ?_, Or.inr ⟨rfl, ?_, c, rfl, ?_⟩⟩
    · unfold mf_295 mf_295_0 mf_295_28 mf_295_67 mf_295_75 mf_295_78
      simp (disch := omega) only [ev_S, ev_P, ↓reduceIte, Nat.reduceEqDiff, Nat.reduceLeDiff, Nat.reduceAdd, Nat.reduceMul, Nat.reduceSub, reduceCtorEq, l32_0, l32_1, l32_2, l32_3, l32_4, l32_5, l32_6, l32_7, l32_8, l32_9, l32_10, l32_11, l32_12, l32_13, l32_14, l32_15, l32_16, l32_17, l32_18, l32_19, l32_20, l32_21, l32_22, l32_23, l32_24, l32_25, l32_26, l32_27, l32_28, l32_29, l32_33, l32_40, l32_41, l32_44, l32_45, l32_59, l32_61, l32_91, l32_93, l32_123, l32_125, g1, c1, p1]
    · show intV (vw ((q.map nR)[i])) = _
      rw [List.getElem_map]
      rfl
    · show LayN _ _ _ ((q.map nR)[i])
      rw [List.getElem_map]
      exact c2
  · have H' := H
    obtain ⟨h1, h2, h3⟩ := H'
    have hi : i < (l.map fun y => (⟨m, y⟩ : Nod)).length := hi
    have hi' : i < l.length := by rw [List.length_map] at hi; exact hi
    have b1 := r_isInt (N := N) H ha hi'
    have hw : a + (2 + 2 * l.length) ≤ 166300 := ha
    have g1 : (s.2.2.1 47) a = Int32.ofNat 3 := h1
    have ei : ∀ y : Th m, intV (vw ⟨m, y⟩) = intT m y := fun y => (vw_int ⟨m, y⟩).symm
    cases hz : intT m l[i] with
    | none =>
      obtain ⟨c, c1, c2⟩ := r_partP (N := N) H ha hi' hz
      rw [hz] at b1
      have b1 : mf_293 N (Int32.ofNat a) (Int32.ofNat i) s = some (s, some (.int (Int32.ofNat 0))) := b1
      have p1 := r_psh (N := N) (k := Int32.ofNat 1) (v := Int32.ofNat c) h51 hn
      refine ⟨Int32.ofNat 1, Int32.ofNat c, ?_, Or.inr ⟨rfl, ?_, c, rfl, ?_⟩⟩
      · unfold mf_295 mf_295_0 mf_295_28 mf_295_38 mf_295_44 mf_295_67 mf_295_75 mf_295_78
        simp (disch := omega) only [ev_S, ev_P, ↓reduceIte, Nat.reduceEqDiff, Nat.reduceLeDiff, Nat.reduceAdd, Nat.reduceMul, Nat.reduceSub, reduceCtorEq, l32_0, l32_1, l32_2, l32_3, l32_4, l32_5, l32_6, l32_7, l32_8, l32_9, l32_10, l32_11, l32_12, l32_13, l32_14, l32_15, l32_16, l32_17, l32_18, l32_19, l32_20, l32_21, l32_22, l32_23, l32_24, l32_25, l32_26, l32_27, l32_28, l32_29, l32_33, l32_40, l32_41, l32_44, l32_45, l32_59, l32_61, l32_91, l32_93, l32_123, l32_125, g1, b1, c1, p1]
      · show intV (vw ((l.map fun y => (⟨m, y⟩ : Nod))[i])) = _
        rw [List.getElem_map, ei]
        exact hz
      · show LayN _ _ _ ((l.map fun y => (⟨m, y⟩ : Nod))[i])
        rw [List.getElem_map]
        exact c2
    | some z =>
      rw [hz] at b1
      have b1 : mf_293 N (Int32.ofNat a) (Int32.ofNat i) s = some (s, some (.int (Int32.ofNat 1))) := b1
      have g3 := ((h3 i hi').1 z hz).2
      have p1 := r_psh (N := N) (k := Int32.ofNat 0) (v := z) h51 hn
      refine ⟨Int32.ofNat 0, z, ?_, Or.inl ⟨rfl, ?_⟩⟩
      · unfold mf_295 mf_295_0 mf_295_28 mf_295_38 mf_295_44 mf_295_47 mf_295_64 mf_295_78
        simp (disch := omega) only [ev_S, ev_P, ↓reduceIte, Nat.reduceEqDiff, Nat.reduceLeDiff, Nat.reduceAdd, Nat.reduceMul, Nat.reduceSub, reduceCtorEq, l32_0, l32_1, l32_2, l32_3, l32_4, l32_5, l32_6, l32_7, l32_8, l32_9, l32_10, l32_11, l32_12, l32_13, l32_14, l32_15, l32_16, l32_17, l32_18, l32_19, l32_20, l32_21, l32_22, l32_23, l32_24, l32_25, l32_26, l32_27, l32_28, l32_29, l32_33, l32_40, l32_41, l32_44, l32_45, l32_59, l32_61, l32_91, l32_93, l32_123, l32_125, g1, b1, g3, p1]
      · show intV (vw ((l.map fun y => (⟨m, y⟩ : Nod))[i])) = _
        rw [List.getElem_map, ei]
        exact hz
theorem r_elem (H : LayN (s.2.2.1 47) (Rf f) a x) (hf : f ≤ 166300) (hi : i < (pts x).length) (h51 : s.1 51 = Int32.ofNat n) (hn : n < 9000) : ∃ k v, mf_295 N (Int32.ofNat a) (Int32.ofNat i) s = some (pus s n k v, none) ∧ rvl (s.2.2.1 47) f k v (pts x)[i] := by
  obtain ⟨L1, L2⟩ := LayN_iff.mp H
  have := (LayN.lt H).1
  exact r_elemV L2 (by omega) hi h51 hn
end RVL
end
-- ### 95b.pure.lean.txt
section
/-! ===== PURE: run (3): a ROW of what lies on the stack ===== -/
section RRW
variable {N : Nat} {s s' : mS} {f n : Nat} {zs : List Int32}
theorem r_rowL (hz2 : n + zs.length < 9000) (hf : f + 2 + zs.length ≤ 166300) : ∀ (d i q : Nat) (s : mS), i + d = zs.length → s.1 48 = Int32.ofNat (f + 2 + i) → s.1 51 = Int32.ofNat (n + zs.length) → (∀ j (hj : j < zs.length), s.2.2.1 50 (n + j) = zs[j]) → ∃ s2, mf_306_L2 N (q + (d + 1)) 0 (Int32.ofNat n) (Int32.ofNat f) (Int32.ofNat (n + i)) s = mf_306_53 N (Int32.ofNat n) (Int32.ofNat f) s2 ∧ s2.1 48 = Int32.ofNat (f + 2 + zs.length) ∧ (∀ j (hj : j < zs.length), i ≤ j → s2.2.2.1 47 (f + 2 + j) = zs[j]) ∧ (∀ y, y < f + 2 + i → s2.2.2.1 47 y = s.2.2.1 47 y) ∧ mfr (fun q => q = 48) (fun _ => False) (fun q => q = 47) (fun _ => False) s s2 := by
  intro d
  induction d with
  | zero =>
    intro i q s hi h48 h51 hz
    have hi : i = zs.length := hi
    subst hi
    refine ⟨s, ?_, h48, fun j hj z => by omega, fun _ _ => rfl, ⟨fun _ _ => rfl, fun _ _ => rfl, fun _ _ => rfl, fun _ _ => rfl⟩⟩
    show mf_306_14 N (mf_306_L2 N q) (Int32.ofNat n) (Int32.ofNat f) (Int32.ofNat (n + zs.length)) s = _
    unfold mf_306_14
    simp (disch := omega) only [ev_S, ev_P, ↓reduceIte, Nat.reduceEqDiff, Nat.reduceLeDiff, Nat.reduceAdd, Nat.reduceMul, Nat.reduceSub, reduceCtorEq, l32_0, l32_1, l32_2, l32_3, l32_4, l32_5, l32_6, l32_7, l32_8, l32_9, l32_10, l32_11, l32_12, l32_13, l32_14, l32_15, l32_16, l32_17, l32_18, l32_19, l32_20, l32_21, l32_22, l32_23, l32_24, l32_25, l32_26, l32_27, l32_28, l32_29, l32_33, l32_40, l32_41, l32_44, l32_45, l32_59, l32_61, l32_91, l32_93, l32_123, l32_125, h51]
  | succ d ih =>
    intro i q s hi h48 h51 hz
    have hi1 : i < zs.length := by omega
    have g := hz i hi1
    have n1 : ¬ n + zs.length ≤ n + i := by omega
    obtain ⟨s1, hs1⟩ : ∃ s1, s1 = mI (mA s 47 (upd (s.2.2.1 47) (f + 2 + i) zs[i])) 48 (Int32.ofNat (f + 2 + i + 1)) := ⟨_, rfl⟩
    have e47 : s1.2.2.1 47 = upd (s.2.2.1 47) (f + 2 + i) zs[i] := by rw [hs1]; rfl
    obtain ⟨s2, a1, a2, a3, a4, a5⟩ := ih (i + 1) q s1 (by omega) (by rw [hs1]; rfl) (by rw [hs1]; exact h51) (by rw [hs1]; exact hz)
    refine ⟨s2, ?_, a2, fun j hj z => ?_, fun y hy => ?_, ?_⟩
    · rw [← a1, hs1]
      show mf_306_14 N (mf_306_L2 N (q + (d + 1))) (Int32.ofNat n) (Int32.ofNat f) (Int32.ofNat (n + i)) s = _
      unfold mf_306_14 mf_306_22
      simp (disch := omega) only [ev_S, ev_P, ↓reduceIte, Nat.reduceEqDiff, Nat.reduceLeDiff, Nat.reduceAdd, Nat.reduceMul, Nat.reduceSub, reduceCtorEq, l32_0, l32_1, l32_2, l32_3, l32_4, l32_5, l32_6, l32_7, l32_8, l32_9, l32_10, l32_11, l32_12, l32_13, l32_14, l32_15, l32_16, l32_17, l32_18, l32_19, l32_20, l32_21, l32_22, l32_23, l32_24, l32_25, l32_26, l32_27, l32_28, l32_29, l32_33, l32_40, l32_41, l32_44, l32_45, l32_59, l32_61, l32_91, l32_93, l32_123, l32_125, h51, h48, g, n1]
      rfl
    · by_cases y : i + 1 ≤ j
      · exact a3 j hj y
      · have y : j = i := by omega
        subst y
        rw [a4 _ (by omega), e47]
        exact if_pos rfl
    · rw [a4 y (by omega), e47]
      exact if_neg (by omega)
    · refine ⟨fun q r => ?_, fun q r => ?_, fun q r => ?_, fun q r => ?_⟩
      · rw [a5.1 q r, hs1]
        exact if_neg r
      · rw [a5.2.1 q r, hs1]
        rfl
      · rw [a5.2.2.1 q r, hs1]
        exact if_neg r
      · rw [a5.2.2.2 q r, hs1]
        rfl
/-- the numbers on top of the stack become a ROW -/
theorem r_rowOf (hN : 170000 ≤ N) (h48 : s.1 48 = Int32.ofNat f) (h51 : s.1 51 = Int32.ofNat (n + zs.length)) (hz : ∀ j (hj : j < zs.length), s.2.2.1 50 (n + j) = zs[j]) (hz2 : n + zs.length < 9000) (hf : 154240 ≤ f ∧ f + 2 + zs.length ≤ 166300) : ∃ s', mf_306 N (Int32.ofNat n) s = some (s', none) ∧ LayN (s'.2.2.1 47) (Rf (f + 2 + zs.length)) f (nR zs) ∧ (∀ y, y < f → s'.2.2.1 47 y = s.2.2.1 47 y) ∧ s'.1 48 = Int32.ofNat (f + 2 + zs.length) ∧ s'.1 51 = Int32.ofNat (n + 1) ∧ (s'.2.2.1 49 n = Int32.ofNat 1 ∧ s'.2.2.1 50 n = Int32.ofNat f) ∧ (∀ y, ¬ y = n → s'.2.2.1 49 y = s.2.2.1 49 y ∧ s'.2.2.1 50 y = s.2.2.1 50 y) ∧ mfr (fun q => q = 48 ∨ q = 51) (fun _ => False) (fun q => q = 47 ∨ q = 49 ∨ q = 50) (fun _ => False) s s' := by
  obtain ⟨s1, hs1⟩ : ∃ s1, s1 = mI (mA (mA s 47 (upd (s.2.2.1 47) f (Int32.ofNat 1))) 47 (upd (upd (s.2.2.1 47) f (Int32.ofNat 1)) (f + 1) (Int32.ofNat zs.length))) 48 (Int32.ofNat (f + 2)) := ⟨_, rfl⟩
  have e47 : s1.2.2.1 47 = upd (upd (s.2.2.1 47) f (Int32.ofNat 1)) (f + 1) (Int32.ofNat zs.length) := by rw [hs1]; rfl
  obtain ⟨s2, a1, a2, a3, a4, a5⟩ := r_rowL (N := N) (n := n) (f := f) (zs := zs) hz2 hf.2 zs.length 0 (N - (zs.length + 1)) s1 (Nat.zero_add _) (by rw [hs1]; rfl) (by rw [hs1]; exact h51) (by rw [hs1]; exact hz)
  rw [show N - (zs.length + 1) + (zs.length + 1) = N by omega] at a1
  have hb : mf_304 N (Int32.ofNat 1) (Int32.ofNat zs.length) s = some (s1, some (.int (Int32.ofNat f))) := by
    rw [hs1]
    unfold mf_304 mf_304_0
    simp (disch := omega) only [ev_S, ev_P, ↓reduceIte, Nat.reduceEqDiff, Nat.reduceLeDiff, Nat.reduceAdd, Nat.reduceMul, Nat.reduceSub, reduceCtorEq, l32_0, l32_1, l32_2, l32_3, l32_4, l32_5, l32_6, l32_7, l32_8, l32_9, l32_10, l32_11, l32_12, l32_13, l32_14, l32_15, l32_16, l32_17, l32_18, l32_19, l32_20, l32_21, l32_22, l32_23, l32_24, l32_25, l32_26, l32_27, l32_28, l32_29, l32_33, l32_40, l32_41, l32_44, l32_45, l32_59, l32_61, l32_91, l32_93, l32_123, l32_125, h48]
  obtain ⟨s3, hs3⟩ : ∃ s3, s3 = mI s2 51 (Int32.ofNat n) := ⟨_, rfl⟩
  have p1 := r_psh (N := N) (s := s3) (n := n) (k := Int32.ofNat 1) (v := Int32.ofNat f) (by rw [hs3]; rfl) (by omega)
  have e3 : s3.2.2.1 = s2.2.2.1 := by rw [hs3]; rfl
  have f49 : s2.2.2.1 49 = s.2.2.1 49 := by rw [a5.2.2.1 49 (by decide), hs1]; rfl
  have f50 : s2.2.2.1 50 = s.2.2.1 50 := by rw [a5.2.2.1 50 (by decide), hs1]; rfl
  refine ⟨pus s3 n (Int32.ofNat 1) (Int32.ofNat f), ?_, ?_, ?_, ?_, rfl, ⟨?_, ?_⟩, fun y hy => ⟨?_, ?_⟩, ?_⟩
  · have hsub : Int32.ofNat (n + zs.length) - Int32.ofNat n = Int32.ofNat zs.length := by
      rw [Nat.add_comm, Int32.ofNat_add]
      exact Int32.add_sub_cancel _ _
    unfold mf_306 mf_306_0
    rw [h51, hsub]
    show mo_bi (mf_304 N (Int32.ofNat 1) (Int32.ofNat zs.length) s) _ = _
    rw [hb]
    show mf_306_L2 N N 0 (Int32.ofNat n) (Int32.ofNat f) (Int32.ofNat (n + 0)) s1 = _
    rw [a1]
    unfold mf_306_53 mf_306_64
    rw [← hs3]
    show mo_bv (mf_291 N (Int32.ofNat 1) (Int32.ofNat f) s3) _ = _
    rw [p1]
    rfl
  · show LayN (s3.2.2.1 47) _ _ _
    rw [e3]
    have q0 : s2.2.2.1 47 f = Int32.ofNat 1 := by
      rw [a4 f (by omega), e47]
      show (if f = f + 1 then _ else if f = f then _ else _) = _
      rw [if_neg (by omega), if_pos rfl]
    have q1 : s2.2.2.1 47 (f + 1) = Int32.ofNat zs.length := by
      rw [a4 (f + 1) (by omega), e47]
      exact if_pos rfl
    refine LayN_iff.mpr ⟨fun y y1 y2 => ?_, q0, q1, fun j hj => a3 j hj (Nat.zero_le _)⟩
    have y2 : y < f + (2 + zs.length) := y2
    exact ⟨by omega, Or.inr (by omega)⟩
  · intro y hy
    show s3.2.2.1 47 y = _
    rw [e3, a4 y (by omega), e47]
    show (if y = f + 1 then _ else if y = f then _ else _) = _
    rw [if_neg (by omega), if_neg (by omega)]
  · show s3.1 48 = _
    rw [hs3]
    exact a2
  · exact if_pos rfl
  · exact if_pos rfl
  · show (if y = n then _ else s3.2.2.1 49 y) = _
    rw [if_neg hy, e3, f49]
  · show (if y = n then _ else s3.2.2.1 50 y) = _
    rw [if_neg hy, e3, f50]
  · refine ⟨fun q r => ?_, fun q r => ?_, fun q r => ?_, fun q r => ?_⟩
    · show (if q = 51 then _ else s3.1 q) = _
      rw [if_neg (by omega), hs3]
      show (if q = 51 then _ else s2.1 q) = _
      rw [if_neg (by omega), a5.1 q (by omega), hs1]
      exact if_neg (by omega)
    · show s3.2.1 q = _
      rw [hs3]
      show s2.2.1 q = _
      rw [a5.2.1 q r, hs1]
      rfl
    · show (if q = 50 then _ else if q = 49 then _ else s3.2.2.1 q) = _
      rw [if_neg (by omega), if_neg (by omega), e3, a5.2.2.1 q (by omega), hs1]
      show (if q = 47 then _ else if q = 47 then _ else s.2.2.1 q) = _
      rw [if_neg (by omega), if_neg (by omega)]
    · show s3.2.2.2 q = _
      rw [hs3]
      show s2.2.2.2 q = _
      rw [a5.2.2.2 q r, hs1]
      rfl
end RRW
end
-- ### 95c.pure.lean.txt
section
/-! ===== PURE: run (4): what a THING counts ===== -/
def ctV : Vw → Nat
  | .inl _ => 0
  | .inr (.inl r) => 4 + r.length
  | .inr (.inr (.inl q)) => 4 + (q.map fun r => 4 + r.length).sum
  | .inr (.inr (.inr l)) => 4 + 2 * l.2.length
def pbV : Vw → Nat
  | .inr (.inl r) => 1 + r.length
  | .inr (.inr (.inl q)) => 1 + (q.map fun r => 1 + r.length).sum
  | _ => 0
section CNT
variable {N : Nat} {s : mS} {f a i : Nat} {x : Nod} {q : List (List Int32)}
theorem sum_take {c : Nat} (hi : i < q.length) : ((q.take (i + 1)).map fun r => c + r.length).sum = ((q.take i).map fun r => c + r.length).sum + (c + q[i].length) := by
  rw [List.take_succ_eq_append_getElem hi, List.map_append, List.sum_append]
  simp
theorem r_ctL (H : LayN (s.2.2.1 47) (Rf f) a x) (hv : vw x = vT q) (hf : f ≤ 166300) : ∀ (d i k : Nat), i + d = q.length → mf_299_L1 N (k + (d + 1)) 0 (Int32.ofNat a) (Int32.ofNat (4 + ((q.take i).map fun r => 4 + r.length).sum)) (Int32.ofNat i) s = some (s, some (.int (Int32.ofNat (4 + (q.map fun r => 4 + r.length).sum)))) := by
  obtain ⟨L1, L2⟩ := LayN_iff.mp H
  have hw := (LayN.lt H).1
  rw [hv] at L2 hw
  have hsz := r_size (N := N) L2 (by omega)
  have hsz : mf_77 N (Int32.ofNat a) s = some (s, some (.int (Int32.ofNat q.length))) := hsz
  have hw' : a + (2 + q.length) ≤ f := hw
  intro d
  induction d with
  | zero =>
    intro i k hi
    have hi : i = q.length := hi
    subst hi
    rw [List.take_length]
    show mf_299_42 N (mf_299_L1 N k) (Int32.ofNat a) _ (Int32.ofNat q.length) s = _
    generalize 4 + (q.map fun r => 4 + r.length).sum = w
    unfold mf_299_42 mf_299_48 mf_299_72
    simp (disch := omega) only [ev_S, ev_P, ↓reduceIte, Nat.reduceEqDiff, Nat.reduceLeDiff, Nat.reduceAdd, Nat.reduceMul, Nat.reduceSub, reduceCtorEq, l32_0, l32_1, l32_2, l32_3, l32_4, l32_5, l32_6, l32_7, l32_8, l32_9, l32_10, l32_11, l32_12, l32_13, l32_14, l32_15, l32_16, l32_17, l32_18, l32_19, l32_20, l32_21, l32_22, l32_23, l32_24, l32_25, l32_26, l32_27, l32_28, l32_29, l32_33, l32_40, l32_41, l32_44, l32_45, l32_59, l32_61, l32_91, l32_93, l32_123, l32_125, hsz]
  | succ d ih =>
    intro i k hi
    have hi1 : i < q.length := by omega
    have n1 : ¬ q.length ≤ i := by omega
    obtain ⟨c, c1, c2⟩ := r_partT (N := N) L2 (by omega) hi1
    obtain ⟨M1, M2⟩ := LayN_iff.mp c2
    have hc := (LayN.lt c2).1
    have hs2 := r_size (N := N) M2 (by omega)
    have hs2 : mf_77 N (Int32.ofNat c) s = some (s, some (.int (Int32.ofNat q[i].length))) := hs2
    rw [← ih (i + 1) k (by omega), sum_take hi1]
    show mf_299_42 N (mf_299_L1 N (k + (d + 1))) (Int32.ofNat a) _ (Int32.ofNat i) s = _
    generalize ((q.take i).map fun r => 4 + r.length).sum = w
    rw [show 4 + (w + (4 + q[i].length)) = 4 + w + (4 + q[i].length) by omega, Int32.ofNat_add (4 + w), Int32.ofNat_add 4 q[i].length]
    generalize Int32.ofNat (4 + w) = W
    unfold mf_299_42 mf_299_48 mf_299_51 mf_299_60 mf_299_63
    simp only [hsz, mo_bi]
    rw [if_neg (fun z => n1 ((i32le (by omega) (by omega)).mp z))]
    simp only [c1, mo_bi, hs2]
    rw [show Int32.ofNat i + 1 = Int32.ofNat (i + 1) from i32al]
    rfl
theorem r_counts (hN : 170000 ≤ N) (H : LayN (s.2.2.1 47) (Rf f) a x) (hf : f ≤ 166300) : mf_299 N (Int32.ofNat a) s = some (s, some (.int (Int32.ofNat (ctV (vw x))))) := by
  obtain ⟨L1, L2⟩ := LayN_iff.mp H
  have hw := (LayN.lt H).1
  have hsz := r_size (N := N) L2 (by omega)
  have hk := L2.kd
  cases hv : vw x with
  | inl z =>
    rw [hv] at L2
    exact L2.elim
  | inr v1 =>
    rcases v1 with r | q | l
    · rw [hv] at hw hsz hk
      have hw : a + (2 + r.length) ≤ f := hw
      have hsz : mf_77 N (Int32.ofNat a) s = some (s, some (.int (Int32.ofNat r.length))) := hsz
      have h1 : s.2.2.1 47 a = Int32.ofNat 1 := hk.1
      show mf_299 N (Int32.ofNat a) s = some (s, some (Value.int (Int32.ofNat (4 + r.length))))
      unfold mf_299 mf_299_0 mf_299_10 mf_299_16
      simp (disch := omega) only [ev_S, ev_P, ↓reduceIte, Nat.reduceEqDiff, Nat.reduceLeDiff, Nat.reduceAdd, Nat.reduceMul, Nat.reduceSub, reduceCtorEq, l32_0, l32_1, l32_2, l32_3, l32_4, l32_5, l32_6, l32_7, l32_8, l32_9, l32_10, l32_11, l32_12, l32_13, l32_14, l32_15, l32_16, l32_17, l32_18, l32_19, l32_20, l32_21, l32_22, l32_23, l32_24, l32_25, l32_26, l32_27, l32_28, l32_29, l32_33, l32_40, l32_41, l32_44, l32_45, l32_59, l32_61, l32_91, l32_93, l32_123, l32_125, h1, hsz]
    · have hl := r_ctL (N := N) H hv hf q.length 0 (N - (q.length + 1)) (Nat.zero_add _)
      rw [hv] at hw hsz hk
      have hw : a + (2 + q.length) ≤ f := hw
      rw [show N - (q.length + 1) + (q.length + 1) = N by omega] at hl
      have h1 : s.2.2.1 47 a = Int32.ofNat 2 := hk.1
      have hl : mf_299_L1 N N 0 (Int32.ofNat a) (Int32.ofNat 4) (Int32.ofNat 0) s = some (s, some (.int (Int32.ofNat (4 + (q.map fun r => 4 + r.length).sum)))) := hl
      show mf_299 N (Int32.ofNat a) s = some (s, some (Value.int (Int32.ofNat (4 + (q.map fun r => 4 + r.length).sum))))
      generalize 4 + (q.map fun r => 4 + r.length).sum = w at *
      unfold mf_299 mf_299_0 mf_299_18 mf_299_38
      simp (disch := omega) only [ev_S, ev_P, ↓reduceIte, Nat.reduceEqDiff, Nat.reduceLeDiff, Nat.reduceAdd, Nat.reduceMul, Nat.reduceSub, reduceCtorEq, l32_0, l32_1, l32_2, l32_3, l32_4, l32_5, l32_6, l32_7, l32_8, l32_9, l32_10, l32_11, l32_12, l32_13, l32_14, l32_15, l32_16, l32_17, l32_18, l32_19, l32_20, l32_21, l32_22, l32_23, l32_24, l32_25, l32_26, l32_27, l32_28, l32_29, l32_33, l32_40, l32_41, l32_44, l32_45, l32_59, l32_61, l32_91, l32_93, l32_123, l32_125, h1, hl]
    · rw [hv] at hw hsz hk
      have hw : a + (2 + 2 * l.2.length) ≤ f := hw
      have hsz : mf_77 N (Int32.ofNat a) s = some (s, some (.int (Int32.ofNat l.2.length))) := hsz
      have h1 : s.2.2.1 47 a = Int32.ofNat 3 := hk.1
      show mf_299 N (Int32.ofNat a) s = some (s, some (Value.int (Int32.ofNat (4 + 2 * l.2.length))))
      unfold mf_299 mf_299_0 mf_299_18 mf_299_28 mf_299_35
      simp (disch := omega) only [ev_S, ev_P, ↓reduceIte, Nat.reduceEqDiff, Nat.reduceLeDiff, Nat.reduceAdd, Nat.reduceMul, Nat.reduceSub, reduceCtorEq, l32_0, l32_1, l32_2, l32_3, l32_4, l32_5, l32_6, l32_7, l32_8, l32_9, l32_10, l32_11, l32_12, l32_13, l32_14, l32_15, l32_16, l32_17, l32_18, l32_19, l32_20, l32_21, l32_22, l32_23, l32_24, l32_25, l32_26, l32_27, l32_28, l32_29, l32_33, l32_40, l32_41, l32_44, l32_45, l32_59, l32_61, l32_91, l32_93, l32_123, l32_125, h1, hsz]
end CNT
end
-- ### 95d.pure.lean.txt
section
/-! ===== PURE: run (5): a plain THING's bulk ===== -/
section PBK
variable {N : Nat} {s : mS} {f a i : Nat} {x : Nod} {q : List (List Int32)}
theorem r_pbL (H : LayN (s.2.2.1 47) (Rf f) a x) (hv : vw x = vT q) (hf : f ≤ 166300) : ∀ (d i k : Nat), i + d = q.length → mf_297_L1 N (k + (d + 1)) 0 (Int32.ofNat a) (Int32.ofNat (1 + ((q.take i).map fun r => 1 + r.length).sum)) (Int32.ofNat i) s = some (s, some (.int (Int32.ofNat (1 + (q.map fun r => 1 + r.length).sum)))) := by
  obtain ⟨L1, L2⟩ := LayN_iff.mp H
  have hw := (LayN.lt H).1
  rw [hv] at L2 hw
  have hsz := r_size (N := N) L2 (by omega)
  have hsz : mf_77 N (Int32.ofNat a) s = some (s, some (.int (Int32.ofNat q.length))) := hsz
  have hw' : a + (2 + q.length) ≤ f := hw
  intro d
  induction d with
  | zero =>
    intro i k hi
    have hi : i = q.length := hi
    subst hi
    rw [List.take_length]
    show mf_297_22 N (mf_297_L1 N k) (Int32.ofNat a) _ (Int32.ofNat q.length) s = _
    generalize 1 + (q.map fun r => 1 + r.length).sum = w
    unfold mf_297_22 mf_297_28 mf_297_52
    simp (disch := omega) only [ev_S, ev_P, ↓reduceIte, Nat.reduceEqDiff, Nat.reduceLeDiff, Nat.reduceAdd, Nat.reduceMul, Nat.reduceSub, reduceCtorEq, l32_0, l32_1, l32_2, l32_3, l32_4, l32_5, l32_6, l32_7, l32_8, l32_9, l32_10, l32_11, l32_12, l32_13, l32_14, l32_15, l32_16, l32_17, l32_18, l32_19, l32_20, l32_21, l32_22, l32_23, l32_24, l32_25, l32_26, l32_27, l32_28, l32_29, l32_33, l32_40, l32_41, l32_44, l32_45, l32_59, l32_61, l32_91, l32_93, l32_123, l32_125, hsz]
  | succ d ih =>
    intro i k hi
    have hi1 : i < q.length := by omega
    have n1 : ¬ q.length ≤ i := by omega
    obtain ⟨c, c1, c2⟩ := r_partT (N := N) L2 (by omega) hi1
    obtain ⟨M1, M2⟩ := LayN_iff.mp c2
    have hc := (LayN.lt c2).1
    have hs2 := r_size (N := N) M2 (by omega)
    have hs2 : mf_77 N (Int32.ofNat c) s = some (s, some (.int (Int32.ofNat q[i].length))) := hs2
    rw [← ih (i + 1) k (by omega), sum_take hi1]
    show mf_297_22 N (mf_297_L1 N (k + (d + 1))) (Int32.ofNat a) _ (Int32.ofNat i) s = _
    generalize ((q.take i).map fun r => 1 + r.length).sum = w
    rw [show 1 + (w + (1 + q[i].length)) = 1 + w + (1 + q[i].length) by omega, Int32.ofNat_add (1 + w), Int32.ofNat_add 1 q[i].length]
    generalize Int32.ofNat (1 + w) = W
    unfold mf_297_22 mf_297_28 mf_297_31 mf_297_40 mf_297_43
    simp only [hsz, mo_bi]
    rw [if_neg (fun z => n1 ((i32le (by omega) (by omega)).mp z))]
    simp only [c1, mo_bi, hs2]
    rw [show Int32.ofNat i + 1 = Int32.ofNat (i + 1) from i32al]
    rfl
theorem r_plainBulk (hN : 170000 ≤ N) (H : LayN (s.2.2.1 47) (Rf f) a x) (hf : f ≤ 166300) (hp : ¬ kdV (vw x) = 3) : mf_297 N (Int32.ofNat a) s = some (s, some (.int (Int32.ofNat (pbV (vw x))))) := by
  obtain ⟨L1, L2⟩ := LayN_iff.mp H
  have hw := (LayN.lt H).1
  have hsz := r_size (N := N) L2 (by omega)
  have hk := L2.kd
  cases hv : vw x with
  | inl z =>
    rw [hv] at L2
    exact L2.elim
  | inr v1 =>
    rcases v1 with r | q | l
    · rw [hv] at hw hsz hk
      have hw : a + (2 + r.length) ≤ f := hw
      have hsz : mf_77 N (Int32.ofNat a) s = some (s, some (.int (Int32.ofNat r.length))) := hsz
      have h1 : s.2.2.1 47 a = Int32.ofNat 1 := hk.1
      show mf_297 N (Int32.ofNat a) s = some (s, some (Value.int (Int32.ofNat (1 + r.length))))
      unfold mf_297 mf_297_0 mf_297_10 mf_297_16
      simp (disch := omega) only [ev_S, ev_P, ↓reduceIte, Nat.reduceEqDiff, Nat.reduceLeDiff, Nat.reduceAdd, Nat.reduceMul, Nat.reduceSub, reduceCtorEq, l32_0, l32_1, l32_2, l32_3, l32_4, l32_5, l32_6, l32_7, l32_8, l32_9, l32_10, l32_11, l32_12, l32_13, l32_14, l32_15, l32_16, l32_17, l32_18, l32_19, l32_20, l32_21, l32_22, l32_23, l32_24, l32_25, l32_26, l32_27, l32_28, l32_29, l32_33, l32_40, l32_41, l32_44, l32_45, l32_59, l32_61, l32_91, l32_93, l32_123, l32_125, h1, hsz]
    · have hl := r_pbL (N := N) H hv hf q.length 0 (N - (q.length + 1)) (Nat.zero_add _)
      rw [hv] at hw hsz hk
      have hw : a + (2 + q.length) ≤ f := hw
      rw [show N - (q.length + 1) + (q.length + 1) = N by omega] at hl
      have h1 : s.2.2.1 47 a = Int32.ofNat 2 := hk.1
      have hl : mf_297_L1 N N 0 (Int32.ofNat a) (Int32.ofNat 1) (Int32.ofNat 0) s = some (s, some (.int (Int32.ofNat (1 + (q.map fun r => 1 + r.length).sum)))) := hl
      show mf_297 N (Int32.ofNat a) s = some (s, some (Value.int (Int32.ofNat (1 + (q.map fun r => 1 + r.length).sum))))
      generalize 1 + (q.map fun r => 1 + r.length).sum = w at *
      unfold mf_297 mf_297_0 mf_297_18
      simp (disch := omega) only [ev_S, ev_P, ↓reduceIte, Nat.reduceEqDiff, Nat.reduceLeDiff, Nat.reduceAdd, Nat.reduceMul, Nat.reduceSub, reduceCtorEq, l32_0, l32_1, l32_2, l32_3, l32_4, l32_5, l32_6, l32_7, l32_8, l32_9, l32_10, l32_11, l32_12, l32_13, l32_14, l32_15, l32_16, l32_17, l32_18, l32_19, l32_20, l32_21, l32_22, l32_23, l32_24, l32_25, l32_26, l32_27, l32_28, l32_29, l32_33, l32_40, l32_41, l32_44, l32_45, l32_59, l32_61, l32_91, l32_93, l32_123, l32_125, h1, hl]
    · rw [hv] at hp
      exact absurd rfl hp
end PBK
end
-- ### 95e.pure.lean.txt
section
/-! ===== PURE: run (6): troubles, steps, what is given (the reference) ===== -/
section GVS
variable {N : Nat} {s : mS} {f a n m : Nat} {x : Nod} {k p : Int32}
abbrev trb (s : mS) (k p : Int32) : mS := mI (mI s 66 k) 67 p
theorem r_trb (h66 : s.1 66 = Int32.ofNat 0) : mf_301 N k p s = some (trb s k p, none) := by
  unfold mf_301 mf_301_0 mf_301_8
  simp (disch := omega) only [ev_S, ev_P, ↓reduceIte, Nat.reduceEqDiff, Nat.reduceLeDiff, Nat.reduceAdd, Nat.reduceMul, Nat.reduceSub, reduceCtorEq, l32_0, l32_1, l32_2, l32_3, l32_4, l32_5, l32_6, l32_7, l32_8, l32_9, l32_10, l32_11, l32_12, l32_13, l32_14, l32_15, l32_16, l32_17, l32_18, l32_19, l32_20, l32_21, l32_22, l32_23, l32_24, l32_25, l32_26, l32_27, l32_28, l32_29, l32_33, l32_40, l32_41, l32_44, l32_45, l32_59, l32_61, l32_91, l32_93, l32_123, l32_125, h66]
theorem r_stp {st fu : Nat} (h66 : s.1 66 = Int32.ofNat 0) (h60 : s.1 60 = Int32.ofNat st) (h61 : s.1 61 = Int32.ofNat fu) (hs : st ≤ fu) (hf : fu ≤ 20000) : mf_302 N s = some (if st = fu then trb s (Int32.ofNat 10) (s.1 70) else mI s 60 (Int32.ofNat (st + 1)), none) := by
  have t1 := r_trb (N := N) (k := Int32.ofNat 10) (p := s.1 70) h66
  by_cases z : st = fu
  · rw [if_pos z]
    have hz : s.1 60 = s.1 61 := by rw [h60, h61, z]
    unfold mf_302 mf_302_0
    rw [if_neg (fun y => y hz)]
    unfold mf_302_11
    show mo_bv (mf_301 N (Int32.ofNat 10) (s.1 70) s) _ = _
    rw [t1]
    rfl
  · rw [if_neg z]
    have hz : ¬ s.1 60 = s.1 61 := by
      rw [h60, h61]
      exact fun y => z (ofNat_inj (by omega) (by omega) y)
    unfold mf_302 mf_302_0
    rw [if_pos hz]
    unfold mf_302_24 mf_302_34
    rw [h60]
    rw [show Int32.ofNat st + 1 = Int32.ofNat (st + 1) from i32al]
/-- a THING is given: it is counted, and lies on the stack -/
theorem r_gives (hN : 170000 ≤ N) (H : LayN (s.2.2.1 47) (Rf f) a x) (hf : f ≤ 166300) (h66 : s.1 66 = Int32.ofNat 0) (h62 : s.1 62 = Int32.ofNat m) (hm : m + ctV (vw x) < 2000000) (h51 : s.1 51 = Int32.ofNat n) (hn : n < 9000) : mf_303 N (Int32.ofNat a) s = some (pus (if m + ctV (vw x) ≤ 3000 then mI s 62 (Int32.ofNat (m + ctV (vw x))) else trb (mI s 62 (Int32.ofNat (m + ctV (vw x)))) (Int32.ofNat 11) (s.1 70)) n (Int32.ofNat 1) (Int32.ofNat a), none) := by
  have c1 := r_counts hN H hf
  generalize ctV (vw x) = w at *
  have e1 : Int32.ofNat m + Int32.ofNat w = Int32.ofNat (m + w) := (Int32.ofNat_add m w).symm
  have step : ∀ s1 : mS, s1.1 51 = Int32.ofNat n → mf_303_34 N (Int32.ofNat a) s1 = some (pus s1 n (Int32.ofNat 1) (Int32.ofNat a), none) := fun s1 h1 => by
    unfold mf_303_34
    show mo_bv (mf_291 N (Int32.ofNat 1) (Int32.ofNat a) s1) _ = _
    rw [r_psh (N := N) h1 hn]
    rfl
  unfold mf_303 mf_303_0
  rw [c1]
  show mf_303_10 N (Int32.ofNat a) (s.1 62) (Int32.ofNat w) s = _
  unfold mf_303_10
  rw [h62, e1]
  by_cases z : m + w ≤ 3000
  · rw [if_pos (show Int32.ofNat (m + w) ≤ 3000 from (i32le (b := 3000) (by omega) (by omega)).mpr z), if_pos z]
    exact step _ h51
  · rw [if_neg (show ¬ Int32.ofNat (m + w) ≤ 3000 from fun y => z ((i32le (b := 3000) (by omega) (by omega)).mp y)), if_neg z]
    unfold mf_303_24
    show mo_bv (mf_301 N (Int32.ofNat 11) (s.1 70) (mI s 62 (Int32.ofNat (m + w)))) _ = _
    rw [r_trb (s := mI s 62 (Int32.ofNat (m + w))) h66]
    exact step (trb (mI s 62 (Int32.ofNat (m + w))) (Int32.ofNat 11) (s.1 70)) h51
end GVS
end
