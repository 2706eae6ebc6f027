/-! ===== PURE: functions (1): their tables, and a function's name ===== -/
/-- a function: name, place, parameters, variables, begin, end -/
abbrev Fn : Type := List Nat × Nat × Nat × Nat × Nat × Nat
abbrev fb0 (e : Nat) : Nat := 12 * (1 - e)
/-- the class's table: c functions are begun, those of Fs are ended -/
def cFt (t : cS) (p c : Nat) (code : List Ins) (Fs : List Fn) : Prop := kI t p 4 = Int32.ofNat c ∧ c ≤ 12 ∧ Fs.length ≤ c ∧ (kB t (p + 4)).1 = 12 ∧ (kA t (p + 5)).1 = 12 ∧ (kA t (p + 6)).1 = 12 ∧ (kA t (p + 7)).1 = 12 ∧ (kA t (p + 8)).1 = 12 ∧ ∀ k (hk : k < Fs.length), (kB t (p + 4)).2 k = Int64.ofNat (evB 32 Fs[k].1) ∧ (kA t (p + 5)).2 k = Int32.ofNat (posC code Fs[k].2.2.2.2.1) ∧ (kA t (p + 6)).2 k = Int32.ofNat Fs[k].2.2.1 ∧ (kA t (p + 7)).2 k = Int32.ofNat Fs[k].2.2.2.1 ∧ (kA t (p + 8)).2 k = Int32.ofNat Fs[k].2.1
/-- the reference's -/
def rFt (s : mS) (e c : Nat) (code : List Ins) (Fs : List Fn) : Prop := s.1 15 = Int32.ofNat c ∧ ∀ k (hk : k < Fs.length), s.2.2.2 16 (fb0 e + k) = Int64.ofNat (evB 27 Fs[k].1) ∧ s.2.2.1 20 (fb0 e + k) = Int32.ofNat (ob0 e + posR code Fs[k].2.2.2.2.1) ∧ s.2.2.1 18 (fb0 e + k) = Int32.ofNat Fs[k].2.2.1 ∧ s.2.2.1 19 (fb0 e + k) = Int32.ofNat Fs[k].2.2.2.1 ∧ s.2.2.1 17 (fb0 e + k) = Int32.ofNat Fs[k].2.1
/-- names are names -/
def okFn (Fs : List Fn) : Prop := ∀ f ∈ Fs, okL f.1 ∧ f.1.length ≤ 8
abbrev eF (p : Nat) : Nat → Nat → Prop := fun k f => eQ p k f ∨ (k = p ∧ f = 4)
abbrev aF (p : Nat) : Nat → Prop := fun k => aQ p k ∨ k = p + 4 ∨ k = p + 5 ∨ k = p + 6 ∨ k = p + 7 ∨ k = p + 8
/-- what functions may change in the reference -/
def fJ (e : Nat) (s s' : mS) : Prop := (∀ q, ¬ (q = 5 ∨ q = 6 ∨ q = 8 ∨ q = 9 ∨ q = 10 ∨ q = 11 ∨ q = 15 ∨ q = 22 ∨ q = 28 ∨ q = 29 ∨ q = 37 ∨ q = 44) → s'.1 q = s.1 q) ∧ (∀ q, ¬ q = 7 → s'.2.1 q = s.2.1 q) ∧ (∀ q, ¬ (q = 17 ∨ q = 18 ∨ q = 19 ∨ q = 20 ∨ q = 23 ∨ q = 24 ∨ q = 25 ∨ q = 26 ∨ q = 27 ∨ q = 30 ∨ q = 31 ∨ q = 32 ∨ q = 34 ∨ q = 35 ∨ q = 36 ∨ q = 38 ∨ q = 39 ∨ q = 40 ∨ q = 41 ∨ q = 43) → s'.2.2.1 q = s.2.2.1 q) ∧ (∀ q, ¬ (q = 16 ∨ q = 21 ∨ q = 33 ∨ q = 42) → s'.2.2.2 q = s.2.2.2 q) ∧ (∀ q y, (q = 23 ∨ q = 24 ∨ q = 25 ∨ q = 26 ∨ q = 27) → (y < ob0 e ∨ ob0 e + 4000 ≤ y) → s'.2.2.1 q y = s.2.2.1 q y) ∧ (∀ q y, (q = 17 ∨ q = 18 ∨ q = 19 ∨ q = 20) → (y < fb0 e ∨ fb0 e + 12 ≤ y) → s'.2.2.1 q y = s.2.2.1 q y) ∧ (Kd s → Kd s')
section FNM
variable {N : Nat} {X : Nat → Option zz_C} {t t' t1 t2 : cS} {s s' s1 s2 : mS} {b : Nat → Nat} {n p e i op c : Nat} {code : List Ins} {Fs : List Fn} {ls : List Nat}
theorem fJ.rf : fJ e s s := ⟨fun _ _ => rfl, fun _ _ => rfl, fun _ _ => rfl, fun _ _ => rfl, fun _ _ _ _ => rfl, fun _ _ _ _ => rfl, fun z => z⟩
theorem fJ.tr (h : fJ e s s1) (g : fJ e s1 s2) : fJ e s s2 := ⟨fun q r => (g.1 q r).trans (h.1 q r), fun q r => (g.2.1 q r).trans (h.2.1 q r), fun q r => (g.2.2.1 q r).trans (h.2.2.1 q r), fun q r => (g.2.2.2.1 q r).trans (h.2.2.2.1 q r), fun q y r1 r2 => (g.2.2.2.2.1 q y r1 r2).trans (h.2.2.2.2.1 q y r1 r2), fun q y r1 r2 => (g.2.2.2.2.2.1 q y r1 r2).trans (h.2.2.2.2.2.1 q y r1 r2), fun z => g.2.2.2.2.2.2 (h.2.2.2.2.2.2 z)⟩
theorem fS.F (h : fS e s s') : fJ e s s' := ⟨fun q r => h.1 q (by omega), h.2.1, fun q r => h.2.2.1 q (by omega), fun q r => h.2.2.2.1 q (by omega), h.2.2.2.2.1, fun q y r _ => congrFun (h.2.2.1 q (by omega)) y, h.2.2.2.2.2⟩
/-- the class seeks a name -/
theorem c_numOf {m : Nat} (hN : 170000 ≤ N) (hp : p = 12 ∨ p = 21) (h : cFt t p Fs.length code Fs) (hF : okFn Fs) (ho : okL ls) (h8 : ls.length ≤ 8) (hm : m ≤ Fs.length) (h1 : ∀ j (hj : j < Fs.length), j < m → ¬ Fs[j].1 = ls) (h2 : ∀ hm : m < Fs.length, Fs[m].1 = ls) : cf_205 N X p (Int64.ofNat (evB 32 ls)) t = some (t, .inl (some (.int (if m < Fs.length then Int32.ofNat m else -1)))) := by
  obtain ⟨a1, a2, -, a4, -, -, -, -, a5⟩ := h
  have hv := evB_32 ho h8
  have hpp : (p = 12 ∨ p = 21) = True := eq_true hp
  have go : ∀ d j q, j + d = m → cf_205_L2 N X (q + (d + 1)) 0 p (Int64.ofNat (evB 32 ls)) (Int32.ofNat j) t = some (t, .inl (some (.int (if m < Fs.length then Int32.ofNat m else -1)))) := by
    intro d
    induction d with
    | zero =>
      intro j q hj
      have hj : j = m := hj
      subst hj
      show cf_205_2 N X (cf_205_L2 N X q) p (Int64.ofNat (evB 32 ls)) (Int32.ofNat j) t = _
      by_cases c : j < Fs.length
      · rw [if_pos c]
        have y := (a5 j c).1
        rw [h2 c] at y
        unfold cf_205_2 cf_205_10 cf_205_21
        simp (disch := omega) only [ev_S, ev_C, ↓reduceIte, Nat.reduceEqDiff, Nat.reduceLeDiff, Nat.reduceAdd, Nat.reduceMul, Nat.reduceSub, reduceCtorEq, l32_0, l32_1, l32_2, l32_3, l32_4, l32_5, l32_6, l32_7, l32_8, l32_9, l32_10, l32_11, l32_12, l32_13, l32_14, l32_15, l32_16, l32_17, l32_18, l32_19, l32_20, l32_21, l32_22, l32_23, l32_24, l32_25, l32_26, l32_27, l32_28, l32_29, l32_33, l32_40, l32_41, l32_44, l32_45, l32_59, l32_61, l32_91, l32_93, l32_123, l32_125, a1, a4, y, lg_eq0, hpp]
      · rw [if_neg c]
        unfold cf_205_2 cf_205_29
        simp (disch := omega) only [ev_S, ev_C, ↓reduceIte, Nat.reduceEqDiff, Nat.reduceLeDiff, Nat.reduceAdd, Nat.reduceMul, Nat.reduceSub, reduceCtorEq, l32_0, l32_1, l32_2, l32_3, l32_4, l32_5, l32_6, l32_7, l32_8, l32_9, l32_10, l32_11, l32_12, l32_13, l32_14, l32_15, l32_16, l32_17, l32_18, l32_19, l32_20, l32_21, l32_22, l32_23, l32_24, l32_25, l32_26, l32_27, l32_28, l32_29, l32_33, l32_40, l32_41, l32_44, l32_45, l32_59, l32_61, l32_91, l32_93, l32_123, l32_125, a1, hpp]
    | succ d ih =>
      intro j q hj
      have hj1 : j < Fs.length := by omega
      have y := (a5 j hj1).1
      obtain ⟨y2, y3⟩ := hF Fs[j] (List.getElem_mem _)
      have hw := evB_32 y2 y3
      have hne : ¬ evB 32 Fs[j].1 = evB 32 ls := fun e => h1 j hj1 (by omega) (evB_inj (by decide) y2 ho e)
      rw [← ih (j + 1) q (by omega)]
      show cf_205_2 N X (cf_205_L2 N X (q + (d + 1))) p (Int64.ofNat (evB 32 ls)) (Int32.ofNat j) t = _
      unfold cf_205_2 cf_205_10 cf_205_23
      simp (disch := omega) only [ev_S, ev_C, ↓reduceIte, Nat.reduceEqDiff, Nat.reduceLeDiff, Nat.reduceAdd, Nat.reduceMul, Nat.reduceSub, reduceCtorEq, l32_0, l32_1, l32_2, l32_3, l32_4, l32_5, l32_6, l32_7, l32_8, l32_9, l32_10, l32_11, l32_12, l32_13, l32_14, l32_15, l32_16, l32_17, l32_18, l32_19, l32_20, l32_21, l32_22, l32_23, l32_24, l32_25, l32_26, l32_27, l32_28, l32_29, l32_33, l32_40, l32_41, l32_44, l32_45, l32_59, l32_61, l32_91, l32_93, l32_123, l32_125, a1, a4, y, lg_eq0, hne, hpp]
  have e := go m 0 (N - (m + 1)) (Nat.zero_add _)
  rw [show N - (m + 1) + (m + 1) = N by omega] at e
  exact e
theorem fndF (Fs : List Fn) (ls : List Nat) : ∃ m, m ≤ Fs.length ∧ (∀ j (hj : j < Fs.length), j < m → ¬ Fs[j].1 = ls) ∧ (∀ hm : m < Fs.length, Fs[m].1 = ls) := by
  obtain ⟨m, h1, h2, h3⟩ := fnd (Fs.map (·.1)) ls
  rw [List.length_map] at h1
  refine ⟨m, h1, fun j hj hm => ?_, fun hm => ?_⟩
  · have := h2 j (by rw [List.length_map]; exact hj) hm
    rw [List.getElem_map] at this
    exact this
  · have := h3 (by rw [List.length_map]; exact hm)
    rw [List.getElem_map] at this
    exact this
/-- the reference goes over the names -/
theorem r_told {u : Nat} (he : e ≤ 1) (hc : Fs.length ≤ 12) (h : rFt s e Fs.length code Fs) (hF : okFn Fs) (ho : okL ls) (h8 : ls.length ≤ 8) (e7 : s.2.1 7 = Int64.ofNat (evB 27 ls)) (hu : u ≤ 1) : ∃ w : Nat, w ≤ 1 ∧ (w = 0 ↔ u = 0 ∧ ∀ j (hj : j < Fs.length), ¬ Fs[j].1 = ls) ∧ ∀ q, mf_66_L8 N (q + (Fs.length + 1)) 0 (Int32.ofNat (fb0 e + Fs.length)) (Int32.ofNat u) (Int32.ofNat (fb0 e)) s = mf_66_107 N (Int32.ofNat (fb0 e + Fs.length)) (Int32.ofNat w) s := by
  obtain ⟨a1, a5⟩ := h
  have hv := evB_27 ho h8
  have hf : fb0 e ≤ 12 := by unfold fb0; omega
  have go : ∀ d j u, j + d = Fs.length → u ≤ 1 → ∃ w : Nat, w ≤ 1 ∧ (w = 0 ↔ u = 0 ∧ ∀ k (hk : k < Fs.length), j ≤ k → ¬ Fs[k].1 = ls) ∧ ∀ q, mf_66_L8 N (q + (d + 1)) 0 (Int32.ofNat (fb0 e + Fs.length)) (Int32.ofNat u) (Int32.ofNat (fb0 e + j)) s = mf_66_107 N (Int32.ofNat (fb0 e + Fs.length)) (Int32.ofNat w) s := by
    intro d
    induction d with
    | zero =>
      intro j u hj hu
      refine ⟨u, hu, ⟨fun z => ⟨z, fun k hk hjk => by omega⟩, fun z => z.1⟩, fun q => ?_⟩
      show mf_66_72 N (mf_66_L8 N q) (Int32.ofNat (fb0 e + Fs.length)) (Int32.ofNat u) (Int32.ofNat (fb0 e + j)) s = _
      have hj : j = Fs.length := hj
      subst hj
      generalize fb0 e = o at *
      unfold mf_66_72
      simp (disch := omega) only [ev_S, ev_P, ↓reduceIte, Nat.reduceEqDiff, Nat.reduceLeDiff, Nat.reduceAdd, Nat.reduceMul, Nat.reduceSub, reduceCtorEq, l32_0, l32_1, l32_2, l32_3, l32_4, l32_5, l32_6, l32_7, l32_8, l32_9, l32_10, l32_11, l32_12, l32_13, l32_14, l32_15, l32_16, l32_17, l32_18, l32_19, l32_20, l32_21, l32_22, l32_23, l32_24, l32_25, l32_26, l32_27, l32_28, l32_29, l32_33, l32_40, l32_41, l32_44, l32_45, l32_59, l32_61, l32_91, l32_93, l32_123, l32_125]
    | succ d ih =>
      intro j u hj hu
      have hj1 : j < Fs.length := by omega
      have y := (a5 j hj1).1
      obtain ⟨y2, y3⟩ := hF Fs[j] (List.getElem_mem _)
      have hw := evB_27 y2 y3
      have stp : ∀ v : Nat, v ≤ 1 → (v = 0 ↔ u = 0 ∧ ¬ Fs[j].1 = ls) → ∀ q, mf_66_L8 N (q + (d + 1 + 1)) 0 (Int32.ofNat (fb0 e + Fs.length)) (Int32.ofNat u) (Int32.ofNat (fb0 e + j)) s = mf_66_L8 N (q + (d + 1)) 0 (Int32.ofNat (fb0 e + Fs.length)) (Int32.ofNat v) (Int32.ofNat (fb0 e + (j + 1))) s := fun v hv1 hv2 q => by
        show mf_66_72 N (mf_66_L8 N (q + (d + 1))) (Int32.ofNat (fb0 e + Fs.length)) (Int32.ofNat u) (Int32.ofNat (fb0 e + j)) s = _
        have hlt : ¬ fb0 e + Fs.length ≤ fb0 e + j := by omega
        have h24 : fb0 e + j < 24 := by omega
        generalize fb0 e = o at *
        have ho2 : o + (j + 1) = o + j + 1 := by omega
        by_cases u0 : u = 0
        · subst u0
          by_cases eq : Fs[j].1 = ls
          · have v1 : v = 1 := by
              have : ¬ v = 0 := fun z => (hv2.mp z).2 eq
              omega
            subst v1
            rw [eq] at y
            unfold mf_66_72 mf_66_77 mf_66_81 mf_66_95 mf_66_100
            simp (disch := omega) only [ev_S, ev_P, ↓reduceIte, Nat.reduceEqDiff, Nat.reduceLeDiff, Nat.reduceAdd, Nat.reduceMul, Nat.reduceSub, reduceCtorEq, l32_0, l32_1, l32_2, l32_3, l32_4, l32_5, l32_6, l32_7, l32_8, l32_9, l32_10, l32_11, l32_12, l32_13, l32_14, l32_15, l32_16, l32_17, l32_18, l32_19, l32_20, l32_21, l32_22, l32_23, l32_24, l32_25, l32_26, l32_27, l32_28, l32_29, l32_33, l32_40, l32_41, l32_44, l32_45, l32_59, l32_61, l32_91, l32_93, l32_123, l32_125, y, e7, lg_eq0, hlt, ho2]
          · have v0 : v = 0 := hv2.mpr ⟨rfl, eq⟩
            subst v0
            have hne : ¬ evB 27 Fs[j].1 = evB 27 ls := fun e => eq (evB_inj (by decide) y2 ho e)
            unfold mf_66_72 mf_66_77 mf_66_81 mf_66_99 mf_66_100
            simp (disch := omega) only [ev_S, ev_P, ↓reduceIte, Nat.reduceEqDiff, Nat.reduceLeDiff, Nat.reduceAdd, Nat.reduceMul, Nat.reduceSub, reduceCtorEq, l32_0, l32_1, l32_2, l32_3, l32_4, l32_5, l32_6, l32_7, l32_8, l32_9, l32_10, l32_11, l32_12, l32_13, l32_14, l32_15, l32_16, l32_17, l32_18, l32_19, l32_20, l32_21, l32_22, l32_23, l32_24, l32_25, l32_26, l32_27, l32_28, l32_29, l32_33, l32_40, l32_41, l32_44, l32_45, l32_59, l32_61, l32_91, l32_93, l32_123, l32_125, y, e7, lg_eq0, hne, hlt, ho2]
        · have u1 : u = 1 := by omega
          subst u1
          have v1 : v = 1 := by
            have : ¬ v = 0 := fun z => absurd (hv2.mp z).1 (by decide)
            omega
          subst v1
          unfold mf_66_72 mf_66_77 mf_66_95 mf_66_100
          simp (disch := omega) only [ev_S, ev_P, ↓reduceIte, Nat.reduceEqDiff, Nat.reduceLeDiff, Nat.reduceAdd, Nat.reduceMul, Nat.reduceSub, reduceCtorEq, l32_0, l32_1, l32_2, l32_3, l32_4, l32_5, l32_6, l32_7, l32_8, l32_9, l32_10, l32_11, l32_12, l32_13, l32_14, l32_15, l32_16, l32_17, l32_18, l32_19, l32_20, l32_21, l32_22, l32_23, l32_24, l32_25, l32_26, l32_27, l32_28, l32_29, l32_33, l32_40, l32_41, l32_44, l32_45, l32_59, l32_61, l32_91, l32_93, l32_123, l32_125, hlt, ho2]
      by_cases z : u = 0 ∧ ¬ Fs[j].1 = ls
      · obtain ⟨w, w1, w2, w3⟩ := ih (j + 1) 0 (by omega) (by omega)
        refine ⟨w, w1, ⟨fun q => ⟨z.1, fun k hk hjk => ?_⟩, fun q => w2.mpr ⟨rfl, fun k hk hjk => q.2 k hk (by omega)⟩⟩, fun q => ?_⟩
        · by_cases y : k = j
          · subst y
            exact z.2
          · exact (w2.mp q).2 k hk (by omega)
        · rw [stp 0 (by omega) ⟨fun _ => z, fun _ => rfl⟩ q]
          exact w3 q
      · obtain ⟨w, w1, w2, w3⟩ := ih (j + 1) 1 (by omega) (by omega)
        refine ⟨w, w1, ⟨fun q => absurd (w2.mp q).1 (by decide), fun q => absurd ⟨q.1, q.2 j hj1 (Nat.le_refl _)⟩ z⟩, fun q => ?_⟩
        rw [stp 1 (by omega) ⟨fun q => absurd q (by decide), fun q => absurd q z⟩ q]
        exact w3 q
  obtain ⟨w, w1, w2, w3⟩ := go Fs.length 0 u (Nat.zero_add _) hu
  exact ⟨w, w1, ⟨fun z => ⟨(w2.mp z).1, fun j hj => (w2.mp z).2 j hj (Nat.zero_le _)⟩, fun z => w2.mpr ⟨z.1, fun j hj _ => z.2 j hj⟩⟩, w3⟩
end FNM
