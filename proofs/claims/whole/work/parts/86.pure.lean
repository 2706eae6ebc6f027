/-! ===== PURE: show; what calls leave, in one form ===== -/
/-- fields of E and arrays of A may have changed, nothing else; the room is paid for -/
def gf (E : Nat → Nat → Prop) (A : Nat → Prop) (t t' : cS) : Prop := (∀ k f, ¬ E k f → kI t' k f = kI t k f) ∧ kL t' = kL t ∧ kP t' = kP t ∧ (∀ k, ¬ A k → k ≠ 111 → kA t' k = kA t k ∧ kB t' k = kB t k ∧ kD t' k = kD t k) ∧ kM t' = kM t ∧ kH t' = kH t ∧ kN t ≤ kN t' ∧ kN t' + pot t ≤ kN t + pot t' ∧ kQ t' + poq t ≤ kQ t + poq t'
section GF
variable {E E' : Nat → Nat → Prop} {A A' : Nat → Prop} {t t1 t2 t' : cS} {σ : Nat}
theorem gf.rf : gf E A t t := ⟨fun _ _ _ => rfl, rfl, rfl, fun _ _ _ => ⟨rfl, rfl, rfl⟩, rfl, rfl, Nat.le_refl _, Nat.le_refl _, Nat.le_refl _⟩
theorem gf.mono (h : gf E A t t') (hE : ∀ k f, E k f → E' k f) (hA : ∀ k, A k → A' k) : gf E' A' t t' := ⟨fun k f r => h.1 k f (fun z => r (hE k f z)), h.2.1, h.2.2.1, fun k r1 r2 => h.2.2.2.1 k (fun z => r1 (hA k z)) r2, h.2.2.2.2⟩
theorem gf.tr (h : gf E A t t1) (g : gf E A t1 t2) : gf E A t t2 := by
  obtain ⟨a1, a2, a3, a4, a5, a6, a8, a9, a10⟩ := h
  obtain ⟨b1, b2, b3, b4, b5, b6, b8, b9, b10⟩ := g
  exact ⟨fun k f r => (b1 k f r).trans (a1 k f r), b2.trans a2, b3.trans a3, fun k r1 r3 => ⟨(b4 k r1 r3).1.trans (a4 k r1 r3).1, (b4 k r1 r3).2.1.trans (a4 k r1 r3).2.1, (b4 k r1 r3).2.2.trans (a4 k r1 r3).2.2⟩, b5.trans a5, b6.trans a6, by omega, by omega, by omega⟩
theorem hfr.gf (h : hfr t t') : gf (fun k f => k = 42 ∧ (f = 1 ∨ f = 3)) (fun k => k = 43 ∨ k = 44) t t' := ⟨h.1, h.2.1, h.2.2.1, fun k r1 r2 => h.2.2.2.1 k (fun z => r1 (Or.inl z)) (fun z => r1 (Or.inr z)) r2, h.2.2.2.2⟩
theorem ofr.gf (h : ofr t t') : gf (fun k f => k = 45 ∧ f = 1) (fun k => k = 46 ∨ k = 47) t t' := ⟨h.1, h.2.1, h.2.2.1, fun k r1 r2 => h.2.2.2.1 k (fun z => r1 (Or.inl z)) (fun z => r1 (Or.inr z)) r2, h.2.2.2.2⟩
theorem rfr.gf (h : rfr σ t t') : gf (fun k f => (k = 42 ∧ (f = 1 ∨ f = 3)) ∨ (k = 3000000 + σ ∧ f = 2)) (fun k => k = 43 ∨ k = 44) t t' := by
  refine ⟨fun k f r => rfr.kI h (fun z => r (Or.inr z)) (fun z => r (Or.inl z)), h.2.1, h.2.2.1, fun k r1 r2 => ?_, h.2.2.2.2.1, h.2.2.2.2.2.1, h.2.2.2.2.2.2.1, h.2.2.2.2.2.2.2.1, h.2.2.2.2.2.2.2.2⟩
  exact h.2.2.2.1 k (fun z => r1 (Or.inl z)) (fun z => r1 (Or.inr z)) r2
theorem gf.s0 (h : gf E A t t') (hA : ∀ k, A k → k < 2000000) (h0 : cS0 t σ) : cS0 t' σ := by
  obtain ⟨a1, a2, a3, a4, a5, a6, a8, a9, a10⟩ := h
  obtain ⟨g1, g2, g3⟩ := h0
  refine ⟨by rw [a6]; exact g1, by rw [(a4 _ (fun z => by have := hA _ z; omega) (by omega)).1]; exact g2, fun j hj => by rw [(a4 _ (fun z => by have := hA _ z; omega) (by omega)).1]; exact g3 j hj⟩
theorem gf.s1 (h : gf E A t t') (hA : ∀ k, A k → k < 2000000) {j : Nat} {ξ : List Int32} (h0 : cS1 t σ j ξ) : cS1 t' σ j ξ := by
  obtain ⟨a1, a2, a3, a4, a5, a6, a8, a9, a10⟩ := h
  unfold cS1 at h0 ⊢
  rw [(a4 _ (fun z => by have := hA _ z; omega) (by omega)).1, (a4 (2000000 + 20 * σ + 1 + 1 + j) (fun z => by have := hA _ z; omega) (by omega)).1]
  exact h0
theorem iS.gf {S : Nat → Option (Th 4)} {σ0 k : Nat} {μ : Nat → Nat} {s s' : mS} (h : iS S σ0 k μ t s) (hf : gf E A t t') (hE : ¬ E 0 9) (hA : ∀ k, A k → k < 2000000) (e1 : s'.1 88 = s.1 88) (e2 : s'.2.2.1 47 = s.2.2.1 47) : iS S σ0 k μ t' s' := by
  obtain ⟨h1, h2, h3, h4, ⟨h5, h50⟩, h6, h7, h8, h9⟩ := h
  have eM : kM t' = kM t := hf.2.2.2.2.1
  have eP : kP t' = kP t := hf.2.2.1
  have eN : kN t ≤ kN t' := hf.2.2.2.2.2.2.1
  refine ⟨h1, by rw [eP]; exact h2, by rw [hf.1 _ _ hE]; exact h3, by rw [e1]; exact h4, ⟨hf.s0 hA h5, by omega⟩, fun j hj => ⟨hf.s1 hA (h6 j hj).1, by rw [e2]; exact (h6 j hj).2⟩, h7, fun m hm σ e => ?_, fun m hm => ?_⟩
  · rw [eM] at e
    obtain ⟨⟨a1, a2⟩, a3, a4⟩ := h8 m hm σ e
    exact ⟨⟨hf.s0 hA a1, by omega⟩, a3, fun m' σ' hm' e' => by rw [eM] at e'; exact a4 m' σ' hm' e'⟩
  · obtain ⟨a1, a2⟩ := h9 m hm
    exact ⟨by rw [eM]; exact a1, fun j hj => ⟨hf.s1 hA (a2 j hj).1, by rw [e2]; exact (a2 j hj).2⟩⟩
theorem gf.out {l : List Int32} (hf : gf E A t t') (hE : ¬ E 45 1) (h46 : ¬ A 46) (h47 : ¬ A 47) (h : cOut t l) : cOut t' l := by
  obtain ⟨h1, h2, h3, h4, h5, h6, h7⟩ := h
  have e46 := (hf.2.2.2.1 46 h46 (by decide)).1
  have e47 := (hf.2.2.2.1 47 h47 (by decide)).1
  refine ⟨by rw [hf.1 _ _ hE]; exact h1, by rw [e46]; exact h2, by rw [e46]; exact h3, by rw [e46]; exact h4, by rw [e46]; exact h5, by rw [e47]; exact h6, ?_, by rw [e46]; exact h7.2⟩
  have := h7.1
  have := hf.2.2.2.2.2.2.2.1
  omega
end GF
/-- what show may change -/
abbrev eSh (σ : Nat) : Nat → Nat → Prop := fun k f => (k = 42 ∧ (f = 1 ∨ f = 3)) ∨ (k = 3000000 + σ ∧ f = 2) ∨ (k = 45 ∧ f = 1)
abbrev aSh : Nat → Prop := fun k => k = 43 ∨ k = 44 ∨ k = 46 ∨ k = 47
section SHO
variable {N : Nat} {X : Nat → Option zz_C} {S : Nat → Option (Th 4)} {σ0 k : Nat} {μ : Nat → Nat} {t : cS} {s : mS}
theorem cOut0 {l : List Int32} (h : cOut t l) : cOut (jI t 45 1 0) [] := by
  obtain ⟨h1, h2, h3, h4, h5, h6, h7⟩ := h
  exact ⟨rfl, fun i hi => absurd hi (Nat.not_lt_zero _), h3, Or.inl (Nat.zero_le _), h5, h6, h7⟩
theorem rOut0 : rOut (mI s 87 0) [] := ⟨rfl, fun i hi => absurd hi (Nat.not_lt_zero _)⟩
theorem p_show {l : List Int32} (hN : 170000 ≤ N) (h : iS S σ0 k μ t s) (hH : iH t) (hc : cOut t l) (hr : rOut s l) (a : Int32) : ∃ t' s' l', ∃ v : Int32, cf_10 N X a t = some (t', .inl (some (.int v))) ∧ mf_72 N a s = some (s', some (.int v)) ∧ cOut t' l' ∧ rOut s' l' ∧ l'.length ≤ l.length + 9000 ∧ gf (eSh σ0) aSh t t' ∧ fF s s' ∧ iH t' := by
  have h' := h
  obtain ⟨h1, h2, h3, h4, ⟨h5, h50⟩, h6, h7, -⟩ := h'
  have h5a := h5.1
  rcases isSh a with ⟨j, hj, rfl, q1, q2⟩ | ⟨q1, q2⟩
  · have ck := c_kindOn (N := N) (X := X) h5 hj (Nat.le_trans (serO_len (fun y hy => h7 j y hy)) (by omega)) (h6 j hj).1
    have q1 := q1 N X t
    have r1 := q2 N s
    have hd := (h6 j hj).2.hd
    -- a THING is there
    have key : ∀ x : Th 4, S j = some x → ¬ kdO (some x) = -1 → (∃ s', rOut s' ([] ++ (fm 4 x).map nb) ∧ fF (mI s 87 0) s' ∧ mf_72_23 N (Int32.ofNat j) s = mf_72_69 N s') → ∃ t' s' l', ∃ v : Int32, cf_10 N X (Int32.ofNat j) t = some (t', .inl (some (.int v))) ∧ mf_72 N (Int32.ofNat j) s = some (s', some (.int v)) ∧ cOut t' l' ∧ rOut s' l' ∧ l'.length ≤ l.length + 9000 ∧ gf (eSh σ0) aSh t t' ∧ fF s s' ∧ iH t' := by
      intro x e1 hne hrf
      have hw := h7 j x e1
      have hbw := bulk_wf 4 x hw
      have hfl := fm_len 4 x
      obtain ⟨t1, v, u, b1, b2, b3, b4, b5⟩ := c_look (N := N) (X := X) hN h hH hj e1
      have hc1 : cOut t1 l := b4.gf.out (by omega) (by omega) (by omega) hc
      have b3' := cHp_ix (k := 45) (f := 1) (x := 0) (by omega) b3
      obtain ⟨t2, c1, c2, c3⟩ := c_tell (N := N) (X := X) (x := ⟨4, x⟩) hN hw (Nat.le_refl _) (jI t1 45 1 0) [] u 0 v (cOut0 hc1) b3' b2 (by show 0 + 15 * bulk 4 x < _; omega)
      have c1 : cf_169 N X v (jI t1 45 1 0) = some (t2, .inl none) := c1
      have c1' : cf_169 N X v (jI t1 45 1 (Int32.ofNat 0)) = some (t2, .inl none) := c1
      obtain ⟨s', d1, d2, d3⟩ := hrf
      have hlen : ([] ++ (fm 4 x).map nb : List Int32).length = (fm 4 x).length := by rw [List.nil_append, List.length_map]
      refine ⟨t2, s', [] ++ (fm 4 x).map nb, Int32.ofNat (fm 4 x).length, ?_, ?_, c2, d1, by rw [hlen]; omega, ?_, ?_, ?_⟩
      · have e45 := c2.1
        have e45 : kI t2 45 1 = Int32.ofNat ([] ++ (fm 4 x).map nb : List Int32).length := e45
        rw [hlen] at e45
        rw [e1] at ck
        have hne' : ¬ kdO (some x) = -Int32.ofNat 1 := hne
        have e168 : cf_168 N X t1 = some (jI t1 45 1 (Int32.ofNat 0), .inl none) := rfl
        have e50 : cf_50 N X t2 = some (t2, .inl (some (.int (Int32.ofNat (fm 4 x).length)))) := by
          repeat ((first | unfold cf_50 | unfold cf_50_0); try simp (disch := omega) only [ev_S, ev_C, ↓reduceIte, Nat.reduceEqDiff, Nat.reduceLeDiff, Nat.reduceAdd, Nat.reduceMul, Nat.reduceSub, reduceCtorEq, l32_0, l32_1, l32_2, l32_3, l32_4, l32_45, e45])
        repeat ((first | unfold cf_10 | unfold cf_10_0 | unfold cf_10_4 | unfold cf_10_7 | unfold cf_10_15 | unfold cf_10_19 | unfold cf_10_21 | unfold cf_10_26 | unfold cf_10_34 | unfold cf_10_46 | unfold cf_10_53); try simp (disch := omega) only [ev_S, ev_C, ↓reduceIte, Nat.reduceEqDiff, Nat.reduceLeDiff, Nat.reduceAdd, Nat.reduceMul, Nat.reduceSub, reduceCtorEq, l32_0, l32_1, l32_2, l32_3, l32_4, l32_7, l32_12, q1, h2, h5a, ck, hne', b1, e168, c1', e50])
      · have e87 := d1.1
        rw [hlen] at e87
        have hne' : ¬ s.2.2.1 47 (2410 * j) = -Int32.ofNat 1 := by
          rw [hd, e1]
          exact hne
        have e69 : mf_72_69 N s' = some (s', some (.int (Int32.ofNat (fm 4 x).length))) := by
          repeat ((first | unfold mf_72_69); try simp (disch := omega) only [ev_S, ev_P, ↓reduceIte, Nat.reduceEqDiff, Nat.reduceLeDiff, Nat.reduceAdd, Nat.reduceMul, Nat.reduceSub, reduceCtorEq, l32_0, l32_1, l32_2, l32_3, l32_4, e87])
        rw [← e69, ← d3]
        unfold mf_72 mf_72_0 mf_72_4 mf_72_7
        simp (disch := omega) only [ev_S, ev_P, ↓reduceIte, Nat.reduceEqDiff, l32_0, l32_1, l32_2410, r1, hne']
      · refine gf.tr (t1 := t1) (b4.gf.mono (by omega) (by omega)) (gf.tr (t1 := jI t1 45 1 0) ⟨fun k f r => if_neg (by omega), rfl, rfl, fun _ _ _ => ⟨rfl, rfl, rfl⟩, rfl, rfl, Nat.le_refl _, Nat.le_refl _, Nat.le_refl _⟩ (c3.gf.mono (by omega) (by omega)))
      · exact mfr.tr (s1 := mI s 87 0) ⟨fun q r => if_neg (fun z => r (Or.inr z)), fun _ _ => rfl, fun _ _ => rfl, fun _ _ => rfl⟩ d2
      · have g3 := c3.gf
        have e43 := (g3.2.2.2.1 43 (by omega) (by omega)).2.1
        have e44 := (g3.2.2.2.1 44 (by omega) (by omega)).2.1
        obtain ⟨z1, z2, z3, z4, -⟩ := b3'.iH
        exact ⟨by rw [e44]; exact z1, by rw [e43]; exact z2, by rw [e43]; exact z3, by rw [e44]; exact z4, c2.2.2.2.2.2.2⟩
    obtain ⟨e1, g1⟩ | ⟨x, z, e1, g0, g1, g2⟩ | ⟨x, m, e1, g1, g2, g3, g4⟩ := slot3 (h6 j hj).2
    · rw [e1] at ck
      have e : kdO none = -Int32.ofNat 1 := rfl
      refine ⟨t, s, l, -1, ?_, ?_, hc, hr, by omega, gf.rf, mfr.rf, hH⟩
      · repeat ((first | unfold cf_10 | unfold cf_10_0 | unfold cf_10_4 | unfold cf_10_7 | unfold cf_10_15 | unfold cf_10_19 | unfold cf_10_21 | unfold cf_10_26 | unfold cf_10_34 | unfold cf_10_46 | unfold cf_10_53); try simp (disch := omega) only [ev_S, ev_C, ↓reduceIte, Nat.reduceEqDiff, Nat.reduceLeDiff, Nat.reduceAdd, Nat.reduceMul, Nat.reduceSub, reduceCtorEq, l32_0, l32_1, l32_2, l32_3, l32_4, l32_7, l32_12, q1, h2, h5a, ck, e])
      · repeat ((first | unfold mf_72 | unfold mf_72_0 | unfold mf_72_4 | unfold mf_72_7 | unfold mf_72_21 | unfold mf_72_23 | unfold mf_72_41 | unfold mf_72_57 | unfold mf_72_60 | unfold mf_72_69); try simp (disch := omega) only [ev_S, ev_P, ↓reduceIte, Nat.reduceEqDiff, Nat.reduceLeDiff, Nat.reduceAdd, Nat.reduceMul, Nat.reduceSub, reduceCtorEq, l32_0, l32_1, l32_2, l32_3, l32_4, l32_47, l32_2410, l32_166300, r1, g1])
    · refine key x e1 ?_ ?_
      · rw [e1, g1] at hd
        rw [← hd]
        decide
      · obtain ⟨s', b1, b2, b3⟩ := r_number (N := N) (s := mI s 87 0) (z := z) hN rOut0 (by show 0 < _; omega)
        have b1' : mf_349 N z (mI s 87 (Int32.ofNat 0)) = some (s', none) := b1
        refine ⟨s', ?_, b3.fF, ?_⟩
        · have e : fm 4 x = numL z := by
            have : fm 4 x = fmV (vw ⟨4, x⟩) := vw_fm ⟨4, x⟩
            rw [this, int_vw g0]
            rfl
          rw [e]
          exact b2
        · unfold mf_72_23 mf_72_41 mf_72_57
          simp (disch := omega) only [ev_S, ev_P, ↓reduceIte, Nat.reduceEqDiff, l32_0, l32_1, l32_2410, g1, g2, b1']
    · refine key x e1 ?_ ?_
      · rw [e1, g1] at hd
        rw [← hd]
        intro q
        have := congrArg Int32.toInt q
        rw [i32t (by omega)] at this
        have e : (-1 : Int32).toInt = -1 := by decide
        omega
      · have hR : ∀ y, Rk j y → y < 166300 := fun y hy => by have := hy.2; omega
        obtain ⟨s', b1, b2, b3⟩ := r_form (N := N) (s := mI s 87 0) (R := Rk j) (x := ⟨4, x⟩) hN hR (h7 j x e1) (Nat.le_refl _) g4 rOut0 (by show 0 < _; omega)
        have b1' : mf_352 N (Int32.ofNat (2410 * j)) (mI s 87 (Int32.ofNat 0)) = some (s', none) := b1
        refine ⟨s', b2, b3, ?_⟩
        unfold mf_72_23 mf_72_60
        simp (disch := omega) only [ev_S, ev_P, ↓reduceIte, Nat.reduceEqDiff, l32_0, l32_1, l32_2410, g1, b1']
  · refine ⟨t, s, l, -1, ?_, ?_, hc, hr, by omega, gf.rf, mfr.rf, hH⟩
    · have q1 := q1 N X t
      repeat ((first | unfold cf_10 | unfold cf_10_0 | unfold cf_10_4 | unfold cf_10_7 | unfold cf_10_15 | unfold cf_10_19 | unfold cf_10_21 | unfold cf_10_26 | unfold cf_10_34 | unfold cf_10_46 | unfold cf_10_53); try simp (disch := omega) only [ev_S, ev_C, ↓reduceIte, Nat.reduceEqDiff, Nat.reduceLeDiff, Nat.reduceAdd, Nat.reduceMul, Nat.reduceSub, reduceCtorEq, l32_0, l32_1, l32_2, l32_3, l32_4, l32_7, l32_12, q1])
    · have r1 := q2 N s
      repeat ((first | unfold mf_72 | unfold mf_72_0 | unfold mf_72_4 | unfold mf_72_7 | unfold mf_72_21 | unfold mf_72_23 | unfold mf_72_41 | unfold mf_72_57 | unfold mf_72_60 | unfold mf_72_69); try simp (disch := omega) only [ev_S, ev_P, ↓reduceIte, Nat.reduceEqDiff, Nat.reduceLeDiff, Nat.reduceAdd, Nat.reduceMul, Nat.reduceSub, reduceCtorEq, l32_0, l32_1, l32_2, l32_3, l32_4, l32_47, l32_2410, l32_166300, r1])
end SHO
