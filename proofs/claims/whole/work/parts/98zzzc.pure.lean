/-! ===== PURE: run (158): what run is asked; what it leaves alone ===== -/
/-- what a run leaves alone in the class -/
def rnF (σ : Nat) (t t' : cS) : Prop := (∀ k f, ¬ (k = 42 ∨ k = 45 ∨ k = 48 ∨ k = 49 ∨ k = 58 ∨ k = 3000000 + σ) → kI t' k f = kI t k f) ∧ (∀ k f, ¬ k = 49 → kP t' k f = kP t k f) ∧ (∀ k, ¬ (43 ≤ k ∧ k ≤ 60) → ¬ (2000000 + 20 * σ + 2 ≤ k ∧ k ≤ 2000000 + 20 * σ + 10) → k ≠ 111 → kA t' k = kA t k ∧ kB t' k = kB t k) ∧ kM t' = kM t ∧ kH t' = kH t ∧ kN t ≤ kN t' ∧ kN t' + (pot t + gS t σ) ≤ kN t + (pot t' + gS t' σ) ∧ kQ t' + (poq t + 2 * gS t σ) ≤ kQ t + (poq t' + 2 * gS t' σ) ∧ gS t σ ≤ gS t' σ
/-- and in the reference -/
def rnM (s s' : mS) : Prop := mfr (fun q => iRn q ∨ q = 68) (fun q => q = 89) aRn (fun _ => False) s s'
section RNF
variable {N : Nat} {X : Nat → Option zz_C} {t t1 t2 t' : cS} {s s1 s2 s' : mS} {σ p e : Nat} {E : Nat → Nat → Prop} {A : Nat → Prop} {code : List Ins} {Fs : List Fn} {a1 a2 a3 : Int32}
theorem rnF.tr (h : rnF σ t t1) (g : rnF σ t1 t2) : rnF σ t t2 := by
  obtain ⟨h1, h2, h3, h4, h5, h6, h7, h8, h9⟩ := h
  obtain ⟨g1, g2, g3, g4, g5, g6, g7, g8, g9⟩ := g
  exact ⟨fun k f r => (g1 k f r).trans (h1 k f r), fun k f r => (g2 k f r).trans (h2 k f r), fun k r1 r2 r3 => ⟨(g3 k r1 r2 r3).1.trans (h3 k r1 r2 r3).1, (g3 k r1 r2 r3).2.trans (h3 k r1 r2 r3).2⟩, g4.trans h4, g5.trans h5, by omega, by omega, by omega, by omega⟩
theorem gf.gS (g : gf E A t t') (hA : ∀ k, A k → k < 2000000) : gS t' σ = gS t σ := by
  unfold Jvm.Pilot.CTallySlateLaw_law_r9425_93dbe7.gS
  refine sm_congr (fun i _ h2 => ?_)
  show (kA t' (2000000 + 20 * σ + 1 + 1 + i)).1 = (kA t (2000000 + 20 * σ + 1 + 1 + i)).1
  rw [(g.2.2.2.1 _ (fun q => by have := hA _ q; omega) (by omega)).1]
theorem gf.rnF (g : gf E A t t') (hE : ∀ k f, E k f → k = 42 ∨ k = 45 ∨ k = 48 ∨ k = 49 ∨ k = 58 ∨ k = 3000000 + σ) (hA : ∀ k, A k → 43 ≤ k ∧ k ≤ 60) : rnF σ t t' := by
  have e := g.gS (σ := σ) (fun k q => by have := hA k q; omega)
  obtain ⟨g1, g2, g3, g4, g5, g6, g7, g8, g9⟩ := g
  exact ⟨fun k f r => g1 k f (fun q => r (hE k f q)), fun k f _ => by rw [g3], fun k r1 _ r3 => ⟨(g4 k (fun q => r1 (hA k q)) r3).1, (g4 k (fun q => r1 (hA k q)) r3).2.1⟩, g5, g6, g7, by rw [e]; omega, by rw [e]; omega, by rw [e]; exact Nat.le_refl _⟩
theorem shF.pot (g : shF σ t t') : pot t' = pot t ∧ poq t' = poq t := by
  have e := fun q h1 h2 => g.kB50 (q := q) h1 h2
  unfold Jvm.Pilot.CTallySlateLaw_law_r9425_93dbe7.pot Jvm.Pilot.CTallySlateLaw_law_r9425_93dbe7.poq
  rw [(e 43 (by omega) (by omega)).1, (e 44 (by omega) (by omega)).1, (e 46 (by omega) (by omega)).2, (e 52 (by omega) (by omega)).1, (e 55 (by omega) (by omega)).2, (e 56 (by omega) (by omega)).2, (e 57 (by omega) (by omega)).2]
  exact ⟨rfl, rfl⟩
theorem shF.rnF (g : shF σ t t') : rnF σ t t' := by
  obtain ⟨e1, e2⟩ := g.pot
  obtain ⟨⟨k1, k2, k3, k4, k5, k6, k7, k8⟩, r1, r2, r3⟩ := g
  exact ⟨fun k f _ => k1 k f (fun q => q), fun k f _ => by rw [k3], fun k _ r2 r3 => ⟨k4 k r2 r3, k5 k r2 r3⟩, k6, k7, k8, by rw [e1]; omega, by rw [e2]; omega, r3⟩
theorem rnF.rf : rnF σ t t := ⟨fun _ _ _ => rfl, fun _ _ _ => rfl, fun _ _ _ _ => ⟨rfl, rfl⟩, rfl, rfl, Nat.le_refl _, Nat.le_refl _, Nat.le_refl _, Nat.le_refl _⟩
theorem rnF_P {z : Option Nat} : rnF σ t (jP t 49 16 z) := ⟨fun _ _ _ => rfl, fun k f r => if_neg (fun q => r q.1), fun _ _ _ _ => ⟨rfl, rfl⟩, rfl, rfl, Nat.le_refl _, Nat.le_refl _, Nat.le_refl _, Nat.le_refl _⟩
theorem rnM.tr (h : rnM s s1) (g : rnM s1 s2) : rnM s s2 := mfr.tr h g
/-- the program stands -/
theorem PGI.rn (h : PGI t s p e) (f : rnF σ t t') (g : rnM s s') : PGI t' s' p e := by
  have hp : p = 12 ∨ p = 21 := by
    obtain ⟨code, Fs, h1, -⟩ := h
    exact h1.2.1
  obtain ⟨f1, f2, f3, -⟩ := f
  obtain ⟨g1, g2, g3, g4⟩ := g
  refine h.kp (f2 0 3 (by omega)) (fun f => f1 p f (by omega)) (fun j j1 j2 => f3 (p + j) (by omega) (by omega) (by omega)) (g1 12 (by unfold iRn; omega)) (g1 14 (by unfold iRn; omega)) (fun q y r1 _ _ => ?_) (fun q y r1 _ _ => ?_)
  · rw [g3 q (by unfold aRn; omega)]
  · rw [g3 q (by unfold aRn; omega)]
/-- what a function takes -/
theorem c_told0 {fi : Nat} (h2 : p = 12 ∨ p = 21) (hF : cFt t p Fs.length code Fs) (hf : fi < Fs.length) : cf_33 N X p (Int32.ofNat fi) (Int32.ofNat 0) t = some (t, .inl (some (.int (Int32.ofNat Fs[fi].2.2.1)))) := by
  obtain ⟨c1, c2, c3, c4, c5, c6, c7, c8, c9⟩ := hF
  obtain ⟨d1, d2, d3, d4, d5⟩ := c9 fi hf
  have hp2 : (p = 12 ∨ p = 21) = True := eq_true h2
  clear c9
  generalize Fs[fi] = g at *
  generalize Fs.length = L at *
  have E : cf_33 N X p (Int32.ofNat fi) (Int32.ofNat 0) t = cf_33_40 N X p (Int32.ofNat fi) t := by
    unfold cf_33 cf_33_0 cf_33_4
    simp (disch := omega) only [ev_S, ev_C, ↓reduceIte, Nat.reduceEqDiff, Nat.reduceLeDiff, Nat.reduceAdd, Nat.reduceMul, Nat.reduceSub, reduceCtorEq, l32_0, l32_1, l32_2, l32_3, l32_4, l32_5, l32_6, l32_7, l32_8, l32_9, l32_10, l32_11, l32_12, l32_13, l32_14, l32_15, l32_16, l32_17, l32_18, l32_19, l32_20, l32_21, l32_22, l32_23, l32_24, l32_25, l32_26, l32_27, l32_28, l32_29, l32_33, l32_40, l32_41, l32_44, l32_45, l32_59, l32_61, l32_91, l32_93, l32_123, l32_125, hp2, c1, hf]
    rfl
  rw [E]
  unfold cf_33_40
  simp (disch := omega) only [ev_S, ev_C, ↓reduceIte, Nat.reduceEqDiff, Nat.reduceLeDiff, Nat.reduceAdd, Nat.reduceMul, Nat.reduceSub, reduceCtorEq, l32_0, l32_1, l32_2, l32_3, l32_4, l32_5, l32_6, l32_7, l32_8, l32_9, l32_10, l32_11, l32_12, l32_13, l32_14, l32_15, l32_16, l32_17, l32_18, l32_19, l32_20, l32_21, l32_22, l32_23, l32_24, l32_25, l32_26, l32_27, l32_28, l32_29, l32_33, l32_40, l32_41, l32_44, l32_45, l32_59, l32_61, l32_91, l32_93, l32_123, l32_125, hp2, c6, d3]
theorem i32lt1 {a : Int32} (h0 : a < 0) (h1 : ¬ a = -1) : a < -1 := by
  rw [Int32.lt_iff_toInt_lt] at h0 ⊢
  have e0 : (0 : Int32).toInt = 0 := by decide
  have e1 : (-1 : Int32).toInt = -1 := by decide
  rw [e0] at h0
  rw [e1]
  have : ¬ a.toInt = -1 := fun q => h1 (Int32.toInt_inj.mp (by rw [q, e1]))
  omega
theorem run_args (hF : cFt t p Fs.length code Fs) (hP : kP t 0 3 = some p) (hp : p = 12 ∨ p = 21) (h12 : s.1 12 = Int32.ofNat e) (he : e ≤ 1) (h14 : s.1 14 = Int32.ofNat Fs.length) (hR : rFp s (1 - e) code Fs) (hO : ∀ f ∈ Fs, FOK code f) (h13 : s.1 13 = 0 → s.1 14 = 0) :
    (cf_6 N X a1 a2 a3 t = some (t, .inl (some (.int (-1)))) ∧ mf_68 N a1 a2 a3 s = some (s, some (.int (-1)))) ∨
    (∃ fi fu, ∃ hfi : fi < Fs.length, a1 = Int32.ofNat fi ∧ Fs[fi].2.2.1 = 0 ∧ a3 = Int32.ofNat fu ∧ 1 ≤ fu ∧ fu ≤ 20000 ∧ (a2 = -1 ∨ ∃ j, j < 8 ∧ a2 = Int32.ofNat j) ∧ cf_6 N X a1 a2 a3 t = cf_6_38 N X a1 a2 a3 t ∧ mf_68 N a1 a2 a3 s = mf_68_61 N a1 a2 a3 s) := by
  have hF' := hF
  obtain ⟨c1, c2, -⟩ := hF'
  have hp2 : (p = 12 ∨ p = 21) = True := eq_true hp
  have C1 : ∀ y : Int32, cf_33 N X p a1 (Int32.ofNat 0) t = some (t, .inl (some (.int y))) → cf_6 N X a1 a2 a3 t = cf_6_9 N X a1 a2 a3 y t := fun y hy => by
    have hy : cf_33 N X p a1 0 t = some (t, .inl (some (.int y))) := hy
    unfold cf_6 cf_6_0
    rw [hP]
    show (if p = 12 ∨ p = 21 then _ else none) = _
    rw [if_pos hp, hy]
    rfl
  have Cn : ∀ y : Int32, ¬ y = 0 → cf_33 N X p a1 (Int32.ofNat 0) t = some (t, .inl (some (.int y))) → cf_6 N X a1 a2 a3 t = some (t, .inl (some (.int (-1)))) := fun y hy h => by
    rw [C1 y h]
    unfold cf_6_9
    rw [if_pos hy]
    rfl
  by_cases b0 : a1 < 0
  · left
    refine ⟨Cn (-1) (by decide) ?_, ?_⟩
    · unfold cf_33 cf_33_0
      rw [if_pos b0]
      rfl
    · unfold mf_68 mf_68_0
      by_cases c : s.1 13 = 0
      · rw [if_pos c]; rfl
      · rw [if_neg c]
        unfold mf_68_7
        rw [if_pos b0]; rfl
  · obtain ⟨n, hn31, rfl⟩ := i32of b0
    by_cases nl : n < Fs.length
    · have h13' : ¬ s.1 13 = 0 := fun q => by
        have := h13 q
        rw [h14] at this
        have := ofNat_inj (b := 0) (by omega) (by omega) this
        omega
      have ht := c_told0 (N := N) (X := X) hp hF nl
      obtain ⟨r1, r2, r3, r4⟩ := hR n nl
      have hfo := (hO _ (List.getElem_mem nl)).2.2.2.2.2.2.1
      have eix : Int32.ofNat 12 * Int32.ofNat e + Int32.ofNat n = Int32.ofNat (12 * e + n) := by rw [i32mul, i32add]
      have efb : fb0 (1 - e) + n = 12 * e + n := by unfold fb0; omega
      rw [efb] at r2
      have M1 : mf_68 N (Int32.ofNat n) a2 a3 s = if ¬ Int32.ofNat Fs[n].2.2.1 = 0 then mf_68_59 N s else mf_68_36 N (Int32.ofNat n) a2 a3 s := by
        have nl' : ¬ Fs.length ≤ n := by omega
        unfold mf_68 mf_68_0
        rw [if_neg h13']
        unfold mf_68_7
        rw [if_neg b0]
        unfold mf_68_11
        rw [h14, if_neg (fun q => nl' ((i32le (by omega) (by omega)).mp q))]
        unfold mf_68_19
        rw [h12, show (12 : Int32) * Int32.ofNat e + Int32.ofNat n = Int32.ofNat (12 * e + n) from eix, if_pos (gd rfl (by omega) (by decide)), i32c (by omega), r2]
      by_cases pz : Fs[n].2.2.1 = 0
      · rw [pz] at ht M1
        rw [if_neg (fun q => q rfl)] at M1
        have C2 : cf_6 N X (Int32.ofNat n) a2 a3 t = cf_6_12 N X (Int32.ofNat n) a2 a3 t := by
          rw [C1 _ ht]
          unfold cf_6_9
          rw [if_neg (fun q => q rfl)]
        rw [C2, M1]
        -- the shelf
        have sh : (cf_6_12 N X (Int32.ofNat n) a2 a3 t = some (t, .inl (some (.int (-1)))) ∧ mf_68_36 N (Int32.ofNat n) a2 a3 s = some (s, some (.int (-1)))) ∨ ((a2 = -1 ∨ ∃ j, j < 8 ∧ a2 = Int32.ofNat j) ∧ cf_6_12 N X (Int32.ofNat n) a2 a3 t = cf_6_24 N X (Int32.ofNat n) a2 a3 t ∧ mf_68_36 N (Int32.ofNat n) a2 a3 s = mf_68_47 N (Int32.ofNat n) a2 a3 s) := by
          by_cases m1 : a2 = -1
          · right
            refine ⟨Or.inl m1, ?_, ?_⟩
            · unfold cf_6_12
              rw [if_pos m1]
            · rw [m1]
              unfold mf_68_36 mf_68_41
              rw [if_neg (by decide), if_neg (by decide)]
          · by_cases s0 : a2 < 0
            · left
              have h21 := c_noSh (N := N) (X := X) (t := t) s0
              refine ⟨?_, ?_⟩
              · unfold cf_6_12
                rw [if_neg m1]
                unfold cf_6_17
                rw [h21]
                rfl
              · unfold mf_68_36
                rw [if_pos (i32lt1 s0 m1)]
                rfl
            · obtain ⟨j, hj31, rfl⟩ := i32of s0
              have nn : ¬ Int32.ofNat j < -1 := fun q => by
                have : (Int32.ofNat j < -Int32.ofNat 1) = False := ev_n3 hj31
                rw [← this]
                exact q
              by_cases j8 : j < 8
              · right
                have h21 := c_isSh (N := N) (X := X) (t := t) j8
                refine ⟨Or.inr ⟨j, j8, rfl⟩, ?_, ?_⟩
                · unfold cf_6_12
                  rw [if_neg m1]
                  unfold cf_6_17
                  rw [h21]
                  rfl
                · unfold mf_68_36 mf_68_41
                  rw [if_neg nn, if_neg (fun q => by have := (i32lt (a := 7) (by omega) (by omega)).mp q; omega)]
              · left
                have h21 : cf_21 N X (Int32.ofNat j) t = some (t, .inl (some (.int (Int32.ofNat 0)))) := by
                  have j8' : 8 ≤ j := by omega
                  unfold cf_21 cf_21_0 cf_21_4 cf_21_14 cf_21_15
                  simp (disch := omega) only [ev_S, ev_C, ↓reduceIte, Nat.reduceEqDiff, Nat.reduceLeDiff, Nat.reduceAdd, Nat.reduceMul, Nat.reduceSub, reduceCtorEq, l32_0, l32_1, l32_2, l32_3, l32_4, l32_5, l32_6, l32_7, l32_8, l32_9, l32_10, l32_11, l32_12, l32_13, l32_14, l32_15, l32_16, l32_17, l32_18, l32_19, l32_20, l32_21, l32_22, l32_23, l32_24, l32_25, l32_26, l32_27, l32_28, l32_29, l32_33, l32_40, l32_41, l32_44, l32_45, l32_59, l32_61, l32_91, l32_93, l32_123, l32_125, j8']
                refine ⟨?_, ?_⟩
                · unfold cf_6_12
                  rw [if_neg m1]
                  unfold cf_6_17
                  rw [h21]
                  rfl
                · unfold mf_68_36 mf_68_41
                  rw [if_neg nn, if_pos (show (7 : Int32) < Int32.ofNat j from (i32lt (a := 7) (by omega) (by omega)).mpr (by omega))]
                  rfl
        rcases sh with ⟨q1, q2⟩ | ⟨q0, q1, q2⟩
        · exact Or.inl ⟨q1, q2⟩
        · rw [q1, q2]
          by_cases f1 : a3 < 1
          · left
            unfold cf_6_24 mf_68_47
            rw [if_pos f1, if_pos f1]
            exact ⟨rfl, rfl⟩
          · by_cases f2 : a3 ≤ 20000
            · right
              have f0 : ¬ a3 < 0 := fun q => f1 (Int32.lt_of_lt_of_le q (by decide))
              obtain ⟨fu, hfu, rfl⟩ := i32of f0
              refine ⟨n, fu, nl, rfl, pz, rfl, ?_, (i32le (b := 20000) (by omega) (by omega)).mp f2, q0, ?_, ?_⟩
              · refine Nat.not_lt.mp (fun q => f1 ?_)
                exact (i32lt (b := 1) (by omega) (by omega)).mpr q
              · unfold cf_6_24 cf_6_29
                rw [if_neg f1, if_pos f2]
              · unfold mf_68_47 mf_68_52
                rw [if_neg f1, if_pos f2]
            · left
              unfold cf_6_24 mf_68_47
              rw [if_neg f1, if_neg f1]
              unfold cf_6_29 mf_68_52
              rw [if_neg f2, if_neg f2]
              exact ⟨rfl, rfl⟩
      · left
        have hnz : ¬ Int32.ofNat Fs[n].2.2.1 = 0 := fun q => pz (ofNat_inj (b := 0) (by omega) (by omega) q)
        refine ⟨Cn _ hnz ht, ?_⟩
        rw [M1, if_pos hnz]
        rfl
    · left
      refine ⟨Cn (-1) (by decide) ?_, ?_⟩
      · have nl' : ¬ n < Fs.length := nl
        unfold cf_33 cf_33_0
        rw [if_neg b0]
        unfold cf_33_4
        rw [if_pos hp, c1, if_neg (fun q => nl ((i32lt (by omega) (by omega)).mp q))]
        rfl
      · unfold mf_68 mf_68_0
        by_cases c : s.1 13 = 0
        · rw [if_pos c]; rfl
        · rw [if_neg c]
          unfold mf_68_7
          rw [if_neg b0]
          unfold mf_68_11
          rw [h14, if_pos ((i32le (by omega) (by omega)).mpr (by omega))]
          rfl
end RNF
