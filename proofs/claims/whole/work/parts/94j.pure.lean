/-! ===== PURE: load (4): all calls ===== -/
/-- a call that is bound -/
def bnds (code : List Ins) (Fs : List Fn) (x : Cn) : Prop := ∃ hm : (code.getD x.1 dI).2.1 < Fs.length, Fs[(code.getD x.1 dI).2.1].2.2.1 = x.2.2.2.2
/-- all calls so far are bound -/
def BS (p e : Nat) (code : List Ins) (cl : List Cn) (Fs : List Fn) (t : cS) (s : mS) : Prop := cCd t p (CA code) ∧ rCd s e (RA e code) ∧ cCl t (cl.map (cK code)) ∧ rCl s (cl.map (rK e code)) ∧ okX code cl cl ∧ cFt t p Fs.length code Fs ∧ rFt s e Fs.length code Fs ∧ (∀ f ∈ Fs, FOK code f) ∧ cx code < 6500 ∧ rl code + xl code ≤ 1610 ∧ lyo code = some [] ∧ wfC code ∧ s.1 9 = Int32.ofNat 0
section BNL
variable {N : Nat} {X : Nat → Option zz_C} {t t' t1 t2 : cS} {s s' s1 s2 : mS} {b : Nat → Nat} {n p e i op c D m : Nat} {code code1 : List Ins} {cl : List Cn} {Fs : List Fn} {x : Cn}
theorem okN.ltC (h : okN code x) : posC code x.1 + x.2.1 < cx code := by
  obtain ⟨x1, x2, x3, x4, x5, x6, x7⟩ := h
  have key : ∃ pre a l, x.2.1 = (pre : List C3).length ∧ cI code (posC code x.1) (code.getD x.1 dI) = pre ++ a :: l := by
    generalize code.getD x.1 dI = c at *
    obtain ⟨o, j, r, a, q, u, y⟩ := c
    rcases x7 with ⟨y1, y2⟩ | ⟨y1, y2⟩
    · have y1 : o = 9 := y1
      subst y1
      exact ⟨[], (28, fa j, q), [], y2, rfl⟩
    · have y1 : o = 10 := y1
      subst y1
      exact ⟨[(25, 0, q)], (if r = 1 then 13 else 15, fa j, q), [(if r = 1 then 14 else 16, Int32.ofNat (posC code x.1 + 1), q)], y2, rfl⟩
  obtain ⟨pre, a, l, z1, z2⟩ := key
  obtain ⟨g1, g2⟩ := CA_get2 x1 z2
  rw [CA_len, ← z1] at g1
  exact g1
theorem okN.ltR (h : okN code x) : posR code x.1 + x.2.1 < rl code := by
  obtain ⟨x1, x2, x3, x4, x5, x6, x7⟩ := h
  have key : ∃ pre a l, x.2.1 = (pre : List R5).length ∧ rI 0 code (code.getD x.1 dI) = pre ++ a :: l := by
    generalize code.getD x.1 dI = c at *
    obtain ⟨o, j, r, a, q, u, y⟩ := c
    rcases x7 with ⟨y1, y2⟩ | ⟨y1, y2⟩
    · have y1 : o = 9 := y1
      subst y1
      exact ⟨[], (9, fr 0 j, Int32.ofNat r, 0, q), [], y2, rfl⟩
    · have y1 : o = 10 := y1
      subst y1
      exact ⟨[(10, Int32.ofNat (27 + r), 0, 0, q)], (11, Int32.ofNat (27 + r), fr 0 j, 0, q), [], y2, rfl⟩
  obtain ⟨pre, a, l, z1, z2⟩ := key
  obtain ⟨g1, g2⟩ := RA_get2 x1 z2
  rw [RA_len, ← z1] at g1
  exact g1
theorem tl_fJ (h : tl e s s') : fJ e s s' := fS.F h.2.2
theorem gL_bi {v w : Int32} : gL eBi a0 t (jI (jI t 2 10 v) 2 11 w) := ⟨fun k f r => by
  show (if k = 2 ∧ f = 11 then _ else if k = 2 ∧ f = 10 then _ else kI t k f) = _
  rw [if_neg (by omega), if_neg (by omega)], fun _ _ _ => rfl, fun _ _ _ => ⟨rfl, rfl, rfl⟩, rfl, rfl, Nat.le_refl _, Nat.le_refl _, Nat.le_refl _⟩
/-- the class's loop and the reference's at the end -/
theorem c_bend {Q : Nat} (hcl : cCl t (cl.map (cK code))) (hle : cl.length ≤ 800) : cf_38_L1 N X (Q + 1) 0 (Int32.ofNat cl.length) t = some (t, .inl none) := by
  have h9 : kI t 2 9 = Int32.ofNat cl.length := by
    have := hcl.1
    rw [List.length_map] at this
    exact this
  show cf_38_2 N X (cf_38_L1 N X Q) (Int32.ofNat cl.length) t = _
  unfold cf_38_2 cf_38_108
  simp (disch := omega) only [ev_S, ev_C, ↓reduceIte, Nat.reduceEqDiff, Nat.reduceLeDiff, Nat.reduceAdd, Nat.reduceMul, Nat.reduceSub, reduceCtorEq, l32_0, l32_1, l32_2, l32_3, l32_4, l32_5, l32_6, l32_7, l32_8, l32_9, l32_10, l32_11, l32_12, l32_13, l32_14, l32_15, l32_16, l32_17, l32_18, l32_19, l32_20, l32_21, l32_22, l32_23, l32_24, l32_25, l32_26, l32_27, l32_28, l32_29, l32_33, l32_40, l32_41, l32_44, l32_45, l32_59, l32_61, l32_91, l32_93, l32_123, l32_125, h9]
theorem r_bend {q : Nat} {x1 : Int32} (hcl : rCl s (cl.map (rK e code))) : mf_64_L3 N (q + 1) 0 x1 (Int32.ofNat cl.length) 0 0 s = mf_64_184 N x1 s := by
  have h9 : s.1 29 = Int32.ofNat cl.length := by
    have := hcl.1
    rw [List.length_map] at this
    exact this
  have hle : cl.length ≤ 800 := by
    have := hcl.2.1
    rw [List.length_map] at this
    exact this
  show mf_64_4 N (mf_64_L3 N q) x1 (Int32.ofNat cl.length) s = _
  unfold mf_64_4
  simp (disch := omega) only [ev_S, ev_P, ↓reduceIte, Nat.reduceEqDiff, Nat.reduceLeDiff, Nat.reduceAdd, Nat.reduceMul, Nat.reduceSub, reduceCtorEq, l32_0, l32_1, l32_2, l32_3, l32_4, l32_5, l32_6, l32_7, l32_8, l32_9, l32_10, l32_11, l32_12, l32_13, l32_14, l32_15, l32_16, l32_17, l32_18, l32_19, l32_20, l32_21, l32_22, l32_23, l32_24, l32_25, l32_26, l32_27, l32_28, l32_29, l32_33, l32_40, l32_41, l32_44, l32_45, l32_59, l32_61, l32_91, l32_93, l32_123, l32_125, h9]
/-- one call is wrong; the others -/
theorem p_bnd2 (hN : 170000 ≤ N) (he : e ≤ 1) (hF : okFn Fs) (hp4 : ∀ k (hk : k < Fs.length), Fs[k].2.2.1 ≤ 4) (hx : ∀ x ∈ cl, okN code x) (hcx : cx code < 6500) (hrl : rl code ≤ 1700) : ∀ (r c y : Nat) (t : cS) (s : mS) (Q q : Nat), c + r = cl.length → BW p e code cl Fs t s → kI t 2 10 = Int32.ofNat 6 → kI t 2 11 = Int32.ofNat y → y ≤ 1600 → r < Q → 20 * (r + 1) ≤ q → ∃ t' s', cf_38_L1 N X Q 0 (Int32.ofNat c) t = some (t', .inl none) ∧ mf_64_L3 N q 0 (Int32.ofNat y) (Int32.ofNat c) 0 0 s = some (s', none) ∧ pF t' s' ∧ gL eBi (aC p) t t' ∧ fJ e s s' ∧ ∃ LC, cCd t' p LC := by
  intro r
  induction r with
  | zero =>
    intro c y t s Q q hc h h10 h11 hy hQ hq
    have hc : c = cl.length := hc
    subst hc
    obtain ⟨⟨LC, b1, b2⟩, b3, b4, b5, b6, b7, b8, b9⟩ := h
    have hle : cl.length ≤ 800 := by
      have := b4.2.1
      rw [List.length_map] at this
      exact this
    obtain ⟨Q, rfl⟩ : ∃ k, Q = k + 1 := ⟨Q - 1, by omega⟩
    obtain ⟨q, rfl⟩ : ∃ k, q = k + 1 := ⟨q - 1, by omega⟩
    have hb : mf_261 N (Int32.ofNat 6) (Int32.ofNat y) s = some (flt s (Int32.ofNat 6) (Int32.ofNat y), none) := r_breaks b9
    refine ⟨t, flt s (Int32.ofNat 6) (Int32.ofNat y), c_bend b3 hle, ?_, ⟨6, y, by omega, by omega, hy, h10, h11, rfl, rfl⟩, gL.rf, ⟨fun q r => ?_, fun _ _ => rfl, fun _ _ => rfl, fun _ _ => rfl, fun _ _ _ _ => rfl, fun _ _ _ _ => rfl, fun z => z⟩, LC, b1⟩
    · rw [r_bend b4]
      unfold mf_64_184 mf_64_188 mf_64_195
      simp (disch := omega) only [ev_S, ev_P, ↓reduceIte, Nat.reduceEqDiff, Nat.reduceLeDiff, Nat.reduceAdd, Nat.reduceMul, Nat.reduceSub, reduceCtorEq, l32_0, l32_1, l32_2, l32_3, l32_4, l32_5, l32_6, l32_7, l32_8, l32_9, l32_10, l32_11, l32_12, l32_13, l32_14, l32_15, l32_16, l32_17, l32_18, l32_19, l32_20, l32_21, l32_22, l32_23, l32_24, l32_25, l32_26, l32_27, l32_28, l32_29, l32_33, l32_40, l32_41, l32_44, l32_45, l32_59, l32_61, l32_91, l32_93, l32_123, l32_125, hb]
    · show (if q = 10 then _ else if q = 9 then _ else s.1 q) = _
      rw [if_neg (by omega), if_neg (by omega)]
  | succ r ih =>
    intro c y t s Q q hc h h10 h11 hy hQ hq
    obtain ⟨⟨LC, b1, b2⟩, b3, b4, b5, b6, b7, b8, b9⟩ := h
    have hcl : c < cl.length := by omega
    have hle : cl.length ≤ 800 := by
      have := b4.2.1
      rw [List.length_map] at this
      exact this
    have hxc := hx cl[c] (List.getElem_mem _)
    obtain ⟨m, m1, m2, m3⟩ := fndF Fs cl[c].2.2.1
    have hpp := b1.2.1
    have hc12 := b5.2.1
    have lC := hxc.ltC
    have lR := hxc.ltR
    obtain ⟨Q, rfl⟩ : ∃ k, Q = k + 1 := ⟨Q - 1, by omega⟩
    obtain ⟨q', rfl⟩ : ∃ k, q = k + (m + 1) + 1 := ⟨q - (m + 1) - 1, by omega⟩
    obtain ⟨t1, d1, d2, d3, d4⟩ := c_amend (N := N) (X := X) (m := posC code cl[c].1 + cl[c].2.1) (v := if m < Fs.length then Int32.ofNat m else -1) b1 (by rw [b2]; exact lC) (by rw [b2]; exact hcx)
    obtain ⟨cc1, cc2⟩ := c_call1 (N := N) (X := X) (rc := cf_38_L1 N X Q) (m := m) (t1 := t1) hN hF b5 b3 b1.1 hpp hcl hle hxc hp4 m1 m2 m3 d1 d3
    obtain ⟨rr1, rr2, rr3⟩ := r_call1 (N := N) (q := q') (x1 := Int32.ofNat y) (m := m) he hF hc12 b6 b8 b4 hcl hxc (by omega) (b7 cl[c] (List.getElem_mem _)) hp4 m1 m2 m3
    have n10 : kI t1 2 10 = Int32.ofNat 6 := by rw [d3.1 2 10 (fun z => z)]; exact h10
    have n11 : kI t1 2 11 = Int32.ofNat y := by rw [d3.1 2 11 (fun z => z)]; exact h11
    have eL : cf_38_L1 N X (Q + 1) 0 (Int32.ofNat c) t = cf_38_2 N X (cf_38_L1 N X Q) (Int32.ofNat c) t := rfl
    rw [eL]
    have cl1 : cCl t1 (cl.map (cK code)) := b3.keep d3 (fun z => z) (fun _ z => by rcases hpp with y | y <;> subst y <;> omega)
    have cf1 : cFt t1 p Fs.length code Fs := b5.keep d3 hpp (fun z => z) (fun _ z => by omega)
    have len1 : (LC.set (posC code cl[c].1 + cl[c].2.1) (LC[posC code cl[c].1 + cl[c].2.1]'(by rw [b2]; exact lC) |>.1, (if m < Fs.length then Int32.ofNat m else -1), (LC[posC code cl[c].1 + cl[c].2.1]'(by rw [b2]; exact lC)).2.2)).length = cx code := by rw [List.length_set]; exact b2
    have o24 : ob0 e ≤ ob0 e + posR code cl[c].1 + cl[c].2.1 ∧ ob0 e + posR code cl[c].1 + cl[c].2.1 < ob0 e + 4000 := by omega
    by_cases hf : fit Fs cl[c] m
    · have cs := cc1 hf
      rw [cs]
      have kk := hxc.2.2.2.2.2.2
      rcases kk with ⟨kk, -⟩ | ⟨kk, -⟩
      · rw [rr1 hf kk]
        obtain ⟨t2, s2, e1, e2, e3, e4, e5, e6⟩ := ih (c + 1) y t1 (mA s 24 (upd (s.2.2.1 24) (ob0 e + posR code cl[c].1 + cl[c].2.1) (Int32.ofNat (fb0 e + m)))) Q q' (by omega) ⟨⟨_, d2, len1⟩, cl1, b4.keep rfl (fun q z => if_neg (by omega)) rfl, cf1, b6.keep rfl (fun q z => if_neg (by omega)) rfl, b7, b8, b9⟩ n10 n11 hy (by omega) (by omega)
        exact ⟨t2, s2, e1, e2, e3, (d3.mono (fun _ _ z => z.elim) (fun _ z => z)).tr e4, (tl_fJ (tl_seta o24)).tr e5, e6⟩
      · rw [rr2 hf kk]
        obtain ⟨t2, s2, e1, e2, e3, e4, e5, e6⟩ := ih (c + 1) y t1 (mA s 25 (upd (s.2.2.1 25) (ob0 e + posR code cl[c].1 + cl[c].2.1) (Int32.ofNat (fb0 e + m)))) Q q' (by omega) ⟨⟨_, d2, len1⟩, cl1, b4.keep rfl (fun q z => if_neg (by omega)) rfl, cf1, b6.keep rfl (fun q z => if_neg (by omega)) rfl, b7, b8, b9⟩ n10 n11 hy (by omega) (by omega)
        exact ⟨t2, s2, e1, e2, e3, (d3.mono (fun _ _ z => z.elim) (fun _ z => z)).tr e4, (tl_fJ (tl_setb o24)).tr e5, e6⟩
    · have cs := (cc2 hf).2 y hy n10 n11
      rw [cs, rr3 hf (Or.inr ⟨y, hy, rfl⟩)]
      have n1 : ¬ Int32.ofNat y = -Int32.ofNat 1 := by
        rw [ev_n5 (by omega)]
        exact fun q => q
      rw [if_neg n1]
      have hpl := hxc.2.2.2.1
      by_cases z : y ≤ cl[c].2.2.2.1
      · rw [if_pos z, if_pos ((i32le (by omega) (by omega)).mpr z)]
        obtain ⟨t2, s2, e1, e2, e3, e4, e5, e6⟩ := ih (c + 1) y t1 s Q q' (by omega) ⟨⟨_, d2, len1⟩, cl1, b4, cf1, b6, b7, b8, b9⟩ n10 n11 hy (by omega) (by omega)
        exact ⟨t2, s2, e1, e2, e3, (d3.mono (fun _ _ z => z.elim) (fun _ z => z)).tr e4, e5, e6⟩
      · rw [if_neg z, if_neg (fun q => z ((i32le (by omega) (by omega)).mp q))]
        have gj : gL eBi a0 t1 (jI (jI t1 2 10 (Int32.ofNat 6)) 2 11 (Int32.ofNat cl[c].2.2.2.1)) := gL_bi
        obtain ⟨t2, s2, e1, e2, e3, e4, e5, e6⟩ := ih (c + 1) cl[c].2.2.2.1 (jI (jI t1 2 10 (Int32.ofNat 6)) 2 11 (Int32.ofNat cl[c].2.2.2.1)) s Q q' (by omega) ⟨⟨_, d2.keep gj (fun z => by rcases hpp with y | y <;> subst y <;> omega) (fun _ z => z.elim) (gj.p21 (by omega)), len1⟩, cl1.keep gj (by omega) (fun _ z => z.elim), b4, cf1.keep gj hpp (by rcases hpp with y | y <;> subst y <;> omega) (fun _ z => z.elim), b6, b7, b8, b9⟩ rfl rfl hpl (by omega) (by omega)
        exact ⟨t2, s2, e1, e2, e3, ((d3.mono (fun _ _ z => z.elim) (fun _ z => z)).tr (gj.mono (fun _ _ z => z) (fun _ z => z.elim))).tr e4, e5, e6⟩
/-- the picture of the code, where a call is bound -/
theorem okI_bnd {nv f : Nat} {c : Ins} (hk : c.1 = 9 ∨ c.1 = 10) (h : okI nv c) : okI nv (bnd f c) := by
  obtain ⟨h1, h2, h3, h4, h5, h6, h7⟩ := h
  exact ⟨h1, h2, fun z => by have z : c.1 = 8 := z; omega, h4, fun z => by have z : c.1 = 12 := z; omega, fun z => by have z : c.1 = 6 := z; omega, h7⟩
theorem FOK.bnd {f : Fn} {g m : Nat} (h : FOK code f) (hm : m < code.length) (hk : (code.getD m dI).1 = 9 ∨ (code.getD m dI).1 = 10) : FOK (code.set m (bnd g (code.getD m dI))) f := by
  obtain ⟨h1, h2, h3, h4, h5, h6, h7⟩ := h
  have he : ∀ L, eff (Jvm.Pilot.CTallySlateLaw_law_r9425_93dbe7.bnd g (code.getD m dI)) L = eff (code.getD m dI) L := eff_bnd hk
  refine ⟨h1, by rw [List.length_set]; exact h2, ?_, fun k k1 k2 => ?_, fun k k1 k2 => ?_, ?_, h7⟩
  · rw [lyo_set_take he]
    exact h3
  · by_cases z : k = m
    · subst z
      rw [getD_set_eq hm]
      exact okI_bnd hk (h4 k k1 k2)
    · rw [getD_set_ne z]
      exact h4 k k1 k2
  · by_cases z : k = m
    · subst z
      rw [getD_set_eq hm]
      refine Or.inl ?_
      unfold noJ
      show ¬ ((code.getD k dI).1 = 13 ∨ (code.getD k dI).1 = 14 ∨ (code.getD k dI).1 = 18 ∨ (code.getD k dI).1 = 23 ∨ (code.getD k dI).1 = 24)
      omega
    · rw [getD_set_ne z]
      rcases h5 k k1 k2 with w | ⟨g1, g2, g3, L, L', g4, g5, g6⟩
      · exact Or.inl w
      · refine Or.inr ⟨g1, g2, fun q => ?_, L, L', ?_, ?_, g6⟩
        · have g3 := g3 q
          have hne : ¬ (code.getD k dI).2.1 = m := fun q => by
            rw [q] at g3
            omega
          rw [getD_set_ne hne]
          exact g3
        · rw [lyo_set_take he]
          exact g4
        · rw [lyo_set_take he]
          exact g5
  · by_cases z : f.2.2.2.2.2 - 1 = m
    · rw [z] at h6
      omega
    · rw [getD_set_ne z]
      exact h6
theorem okX.bnd {g m : Nat} (h : okX code cl cl) (hm : m < code.length) : okX (code.set m (bnd g (code.getD m dI))) cl cl := by
  refine ⟨fun x hx => ?_, fun k k1 k2 => ?_⟩
  · obtain ⟨q1, q2, q3, q4, q5, q6, q7⟩ := h.1 x hx
    by_cases z : x.1 = m
    · subst z
      refine ⟨by rw [List.length_set]; exact q1, q2, q3, q4, q5, ?_, ?_⟩
      · rw [getD_set_eq q1]
        exact q6
      · rw [getD_set_eq q1]
        exact q7
    · refine ⟨by rw [List.length_set]; exact q1, q2, q3, q4, q5, ?_, ?_⟩
      · rw [getD_set_ne z]
        exact q6
      · rw [getD_set_ne z]
        exact q7
  · rw [List.length_set] at k1
    by_cases z : k = m
    · subst z
      rw [getD_set_eq hm] at k2
      exact h.2 k k1 k2
    · rw [getD_set_ne z] at k2
      exact h.2 k k1 k2
/-- all calls, as long as none is wrong -/
theorem p_bnd1 (hN : 170000 ≤ N) (he : e ≤ 1) (hF : okFn Fs) (hp4 : ∀ k (hk : k < Fs.length), Fs[k].2.2.1 ≤ 4) : ∀ (r c : Nat) (code : List Ins) (t : cS) (s : mS) (Q q : Nat), c + r = cl.length → BS p e code cl Fs t s → (∀ k (hk : k < cl.length), k < c → bnds code Fs cl[k]) → kI t 2 10 = Int32.ofNat 0 → r < Q → 20 * (r + 1) ≤ q → (∃ t' s' code', cf_38_L1 N X Q 0 (Int32.ofNat c) t = some (t', .inl none) ∧ mf_64_L3 N q 0 (-Int32.ofNat 1) (Int32.ofNat c) 0 0 s = some (s', none) ∧ BS p e code' cl Fs t' s' ∧ (∀ x ∈ cl, bnds code' Fs x) ∧ gL eBi (aC p) t t' ∧ kI t' 2 10 = Int32.ofNat 0 ∧ kI t' 2 11 = kI t 2 11 ∧ s'.1 10 = s.1 10 ∧ fJ e s s') ∨ (∃ t' s', cf_38_L1 N X Q 0 (Int32.ofNat c) t = some (t', .inl none) ∧ mf_64_L3 N q 0 (-Int32.ofNat 1) (Int32.ofNat c) 0 0 s = some (s', none) ∧ pF t' s' ∧ gL eBi (aC p) t t' ∧ fJ e s s' ∧ ∃ LC, cCd t' p LC) := by
  intro r
  induction r with
  | zero =>
    intro c code t s Q q hc h hb h10 hQ hq
    have hc : c = cl.length := hc
    subst hc
    have b3 := h.2.2.1
    have b4 := h.2.2.2.1
    have hle : cl.length ≤ 800 := by
      have := b4.2.1
      rw [List.length_map] at this
      exact this
    obtain ⟨Q, rfl⟩ : ∃ k, Q = k + 1 := ⟨Q - 1, by omega⟩
    obtain ⟨q, rfl⟩ : ∃ k, q = k + 1 := ⟨q - 1, by omega⟩
    refine Or.inl ⟨t, s, code, c_bend b3 hle, ?_, h, fun x hx => ?_, gL.rf, h10, rfl, rfl, fJ.rf⟩
    · rw [r_bend b4]
      have r2 : (-Int32.ofNat 1 < Int32.ofNat 0) = True := by decide
      unfold mf_64_184 mf_64_195
      simp (disch := omega) only [ev_S, ev_P, ↓reduceIte, Nat.reduceEqDiff, Nat.reduceLeDiff, Nat.reduceAdd, Nat.reduceMul, Nat.reduceSub, reduceCtorEq, l32_0, l32_1, l32_2, l32_3, l32_4, l32_5, l32_6, l32_7, l32_8, l32_9, l32_10, l32_11, l32_12, l32_13, l32_14, l32_15, l32_16, l32_17, l32_18, l32_19, l32_20, l32_21, l32_22, l32_23, l32_24, l32_25, l32_26, l32_27, l32_28, l32_29, l32_33, l32_40, l32_41, l32_44, l32_45, l32_59, l32_61, l32_91, l32_93, l32_123, l32_125, r2]
    · obtain ⟨k, hk, e1⟩ := List.mem_iff_getElem.mp hx
      rw [← e1]
      exact hb k hk hk
  | succ r ih =>
    intro c code t s Q q hc h hb h10 hQ hq
    obtain ⟨c1, c2, c3, c4, c5, c6, c7, c8, c9, c10, c11, c12', c13⟩ := h
    have hcl : c < cl.length := by omega
    have hle : cl.length ≤ 800 := by
      have := c4.2.1
      rw [List.length_map] at this
      exact this
    have hxc := c5.1 cl[c] (List.getElem_mem _)
    obtain ⟨m, m1, m2, m3⟩ := fndF Fs cl[c].2.2.1
    have hpp := c1.2.1
    have hc12 := c6.2.1
    have lC := hxc.ltC
    have lR := hxc.ltR
    have h12 : s.1 12 = Int32.ofNat e := c2.1
    have hop : ∀ x ∈ cl, s.2.2.1 23 (ob0 e + posR code x.1 + x.2.1) = (if (code.getD x.1 dI).1 = 9 then Int32.ofNat 9 else Int32.ofNat 11) := fun x hx => (r_bnd (f := 0) c2 (c5.1 x hx) (by omega)).1
    obtain ⟨Q, rfl⟩ : ∃ k, Q = k + 1 := ⟨Q - 1, by omega⟩
    obtain ⟨q', rfl⟩ : ∃ k, q = k + (m + 1) + 1 := ⟨q - (m + 1) - 1, by omega⟩
    obtain ⟨rr1, rr2, rr3⟩ := r_call1 (N := N) (q := q') (x1 := -Int32.ofNat 1) (m := m) he hF hc12 c7 h12 c4 hcl hxc (by omega) (hop cl[c] (List.getElem_mem _)) hp4 m1 m2 m3
    have eL : cf_38_L1 N X (Q + 1) 0 (Int32.ofNat c) t = cf_38_2 N X (cf_38_L1 N X Q) (Int32.ofNat c) t := rfl
    rw [eL]
    have o24 : ob0 e ≤ ob0 e + posR code cl[c].1 + cl[c].2.1 ∧ ob0 e + posR code cl[c].1 + cl[c].2.1 < ob0 e + 4000 := by omega
    by_cases hf : fit Fs cl[c] m
    · have hmF := hf.1
      obtain ⟨t1, d1, d2, d3⟩ := c_bnd (N := N) (X := X) (f := m) c1 c9 hxc (by omega)
      have d1' : cf_210 N X p (cK code cl[c]).1 (if m < Fs.length then Int32.ofNat m else -1) t = some (t1, .inl none) := by rw [if_pos hmF]; exact d1
      obtain ⟨cc1, cc2⟩ := c_call1 (N := N) (X := X) (rc := cf_38_L1 N X Q) (m := m) (t1 := t1) hN hF c6 c3 c1.1 hpp hcl hle hxc hp4 m1 m2 m3 d1' d3
      obtain ⟨-, -, rb1, rb2⟩ := r_bnd (f := m) c2 hxc (by omega)
      rw [cc1 hf]
      have kk := hxc.2.2.2.2.2.2
      have k910 : (code.getD cl[c].1 dI).1 = 9 ∨ (code.getD cl[c].1 dI).1 = 10 := by
        rcases kk with ⟨kk, -⟩ | ⟨kk, -⟩
        · exact Or.inl kk
        · exact Or.inr kk
      have hx1 := hxc.1
      have kcl : clen (bnd m (code.getD cl[c].1 dI)) = clen (code.getD cl[c].1 dI) := clen_k rfl
      have krl : rlen (bnd m (code.getD cl[c].1 dI)) = rlen (code.getD cl[c].1 dI) := rlen_k rfl
      have kxl : xlen (bnd m (code.getD cl[c].1 dI)) = xlen (code.getD cl[c].1 dI) := by
        rcases k910 with z | z
        · unfold xlen bnd
          dsimp only
          rw [if_neg (by omega), if_pos z, if_neg (by omega), if_pos z]
        · unfold xlen bnd
          dsimp only
          rw [if_neg (by omega), if_neg (by omega), if_neg (by omega), if_neg (by omega), if_neg (by omega), if_neg (by omega)]
      have e1 : cl.map (cK (code.set cl[c].1 (bnd m (code.getD cl[c].1 dI)))) = cl.map (cK code) := List.map_congr_left fun x hx => by
        unfold cK
        rw [posC_set kcl]
      have e2 : cl.map (rK e (code.set cl[c].1 (bnd m (code.getD cl[c].1 dI)))) = cl.map (rK e code) := List.map_congr_left fun x hx => by
        unfold rK
        rw [posR_set krl]
      have cf1 : cFt t1 p Fs.length (code.set cl[c].1 (bnd m (code.getD cl[c].1 dI))) Fs := by
        obtain ⟨g1, g2, g3, g4, g5, g6, g7, g8, g9⟩ := c6.keep d3 hpp (fun z => z) (fun _ z => by omega)
        refine ⟨g1, g2, g3, g4, g5, g6, g7, g8, fun k hk => ?_⟩
        rw [posC_set kcl]
        exact g9 k hk
      have rfx : ∀ s' : mS, rFt s' e Fs.length code Fs → rFt s' e Fs.length (code.set cl[c].1 (bnd m (code.getD cl[c].1 dI))) Fs := fun s' hh => by
        refine ⟨hh.1, fun k hk => ?_⟩
        rw [posR_set krl]
        exact hh.2 k hk
      have wf1 : wfC (code.set cl[c].1 (bnd m (code.getD cl[c].1 dI))) := fun x hx => by
        rw [List.length_set]
        rcases List.mem_or_eq_of_mem_set hx with z | z
        · exact c12' x z
        · subst z
          refine Or.inr (Or.inr ?_)
          show ¬ ((code.getD cl[c].1 dI).1 = 13 ∨ (code.getD cl[c].1 dI).1 = 14 ∨ (code.getD cl[c].1 dI).1 = 18 ∨ (code.getD cl[c].1 dI).1 = 23 ∨ (code.getD cl[c].1 dI).1 = 24)
          omega
      have bs1 : ∀ s' : mS, rCd s' e (RA e (code.set cl[c].1 (bnd m (code.getD cl[c].1 dI)))) → rCl s' (cl.map (rK e code)) → rFt s' e Fs.length code Fs → s'.1 9 = Int32.ofNat 0 → BS p e (code.set cl[c].1 (bnd m (code.getD cl[c].1 dI))) cl Fs t1 s' := fun s' z1 z2 z3 z4 => ⟨d2, z1, by rw [e1]; exact c3.keep d3 (fun z => z) (fun _ z => by rcases hpp with y | y <;> subst y <;> omega), by rw [e2]; exact z2, c5.bnd hx1, cf1, rfx s' z3, fun f hf => (c8 f hf).bnd hx1 k910, by rw [cx_set kcl]; exact c9, by rw [rl_set krl, xl_set kxl]; exact c10, by rw [lyo_set (eff_bnd k910)]; exact c11, wf1, z4⟩
      have hb1 : ∀ k (hk : k < cl.length), k < c + 1 → bnds (code.set cl[c].1 (bnd m (code.getD cl[c].1 dI))) Fs cl[k] := fun k hk hkc => by
        unfold bnds
        by_cases z : cl[k].1 = cl[c].1
        · rw [z, getD_set_eq hx1]
          refine ⟨hmF, ?_⟩
          show Fs[m].2.2.1 = _
          rw [hf.2]
          have q1 := (c5.1 cl[k] (List.getElem_mem _)).2.2.2.2.2.1
          rw [z, hxc.2.2.2.2.2.1] at q1
          exact q1
        · rw [getD_set_ne z]
          have hkc2 : ¬ k = c := fun q => by
            subst q
            exact z rfl
          exact hb k hk (by omega)
      have n10 : kI t1 2 10 = Int32.ofNat 0 := by rw [d3.1 2 10 (fun z => z)]; exact h10
      have n11 : kI t1 2 11 = kI t 2 11 := d3.1 2 11 (fun z => z)
      have G1 : gL eBi (aC p) t t1 := d3.mono (fun _ _ z => z.elim) (fun _ z => z)
      rcases k910 with kk | kk
      · rw [rr1 hf kk]
        obtain ⟨u1, u2⟩ := rb1 kk
        rcases ih (c + 1) (code.set cl[c].1 (bnd m (code.getD cl[c].1 dI))) t1 (mA s 24 (upd (s.2.2.1 24) (ob0 e + posR code cl[c].1 + cl[c].2.1) (Int32.ofNat (fb0 e + m)))) Q q' (by omega) (bs1 _ u1 (c4.keep rfl (fun q z => if_neg (by omega)) rfl) (c7.keep rfl (fun q z => if_neg (by omega)) rfl) c13) hb1 n10 (by omega) (by omega) with ⟨t2, s2, code2, f1, f2, f3, f4, f5, f6, f7, f8, f9⟩ | ⟨t2, s2, f1, f2, f3, f4, f5, f6⟩
        · exact Or.inl ⟨t2, s2, code2, f1, f2, f3, f4, G1.tr f5, f6, f7.trans n11, f8, (tl_fJ (tl_seta o24)).tr f9⟩
        · exact Or.inr ⟨t2, s2, f1, f2, f3, G1.tr f4, (tl_fJ (tl_seta o24)).tr f5, f6⟩
      · rw [rr2 hf kk]
        obtain ⟨u1, u2⟩ := rb2 kk
        rcases ih (c + 1) (code.set cl[c].1 (bnd m (code.getD cl[c].1 dI))) t1 (mA s 25 (upd (s.2.2.1 25) (ob0 e + posR code cl[c].1 + cl[c].2.1) (Int32.ofNat (fb0 e + m)))) Q q' (by omega) (bs1 _ u1 (c4.keep rfl (fun q z => if_neg (by omega)) rfl) (c7.keep rfl (fun q z => if_neg (by omega)) rfl) c13) hb1 n10 (by omega) (by omega) with ⟨t2, s2, code2, f1, f2, f3, f4, f5, f6, f7, f8, f9⟩ | ⟨t2, s2, f1, f2, f3, f4, f5, f6⟩
        · exact Or.inl ⟨t2, s2, code2, f1, f2, f3, f4, G1.tr f5, f6, f7.trans n11, f8, (tl_fJ (tl_setb o24)).tr f9⟩
        · exact Or.inr ⟨t2, s2, f1, f2, f3, G1.tr f4, (tl_fJ (tl_setb o24)).tr f5, f6⟩
    · obtain ⟨t1, d1, d2, d3, d4⟩ := c_amend (N := N) (X := X) (m := posC code cl[c].1 + cl[c].2.1) (v := if m < Fs.length then Int32.ofNat m else -1) c1 (by rw [CA_len]; exact lC) (by rw [CA_len]; exact c9)
      obtain ⟨cc1, cc2⟩ := c_call1 (N := N) (X := X) (rc := cf_38_L1 N X Q) (m := m) (t1 := t1) hN hF c6 c3 c1.1 hpp hcl hle hxc hp4 m1 m2 m3 d1 d3
      have n10 : kI t1 2 10 = Int32.ofNat 0 := by rw [d3.1 2 10 (fun z => z)]; exact h10
      rw [(cc2 hf).1 n10, rr3 hf (Or.inl rfl), if_pos rfl]
      have gj : gL eBi a0 t1 (jI (jI t1 2 10 (Int32.ofNat 6)) 2 11 (Int32.ofNat cl[c].2.2.2.1)) := gL_bi
      have len1 : ∀ a : C3, ((CA code).set (posC code cl[c].1 + cl[c].2.1) a).length = cx code := fun a => by rw [List.length_set, CA_len]
      have cl1 : cCl t1 (cl.map (cK code)) := c3.keep d3 (fun z => z) (fun _ z => by rcases hpp with y | y <;> subst y <;> omega)
      have cf1 : cFt t1 p Fs.length code Fs := c6.keep d3 hpp (fun z => z) (fun _ z => by omega)
      obtain ⟨t2, s2, f1, f2, f3, f4, f5, f6⟩ := p_bnd2 (N := N) (X := X) (p := p) (e := e) (code := code) (cl := cl) (Fs := Fs) hN he hF hp4 c5.1 c9 (by omega) r (c + 1) cl[c].2.2.2.1 (jI (jI t1 2 10 (Int32.ofNat 6)) 2 11 (Int32.ofNat cl[c].2.2.2.1)) s Q q' (by omega) ⟨⟨_, d2.keep gj (fun z => by rcases hpp with y | y <;> subst y <;> omega) (fun _ z => z.elim) (gj.p21 (by omega)), len1 _⟩, cl1.keep gj (by omega) (fun _ z => z.elim), c4, cf1.keep gj hpp (by rcases hpp with y | y <;> subst y <;> omega) (fun _ z => z.elim), c7, hop, h12, c13⟩ rfl rfl hxc.2.2.2.1 (by omega) (by omega)
      exact Or.inr ⟨t2, s2, f1, f2, f3, ((d3.mono (fun _ _ z => z.elim) (fun _ z => z)).tr (gj.mono (fun _ _ z => z) (fun _ z => z.elim))).tr f4, f5, f6⟩
end BNL
