/-! ===== PURE: run (89): a trouble is taken (the class) ===== -/
abbrev e89 : Nat → Nat → Prop := fun k f => (k = 48 ∧ ¬ f = 0) ∨ k = 49
abbrev aNo : Nat → Prop := fun _ => False
/-- the picture, however high the stack -/
def CY (t0 t : cS) (p : Nat) (code : List Ins) (Fs : List Fn) (fu : Nat) (S0 : Nat → Option Nod) (u w : Nat) (F : List Fm) (sh : Nat → Option Nod) (T : Ty) (out : List Int32) : Prop := CB t0 t p code Fs fu T out ∧ CM0 t u code F sh S0 ∧ cHp t u w
section TAK
variable {N : Nat} {X : Nat → Option zz_C} {t0 t t' t1 t2 : cS} {u w p fu m m' d d' k i : Nat} {code : List Ins} {Fs : List Fn} {T T' : Ty} {out : List Int32} {F F' G P : List Fm} {sh S0 : Nat → Option Nod} {vs : List (Option Nod)} {I : List It} {a : Fm} {q r z : Int32} {l : List (Option Nod)}
theorem g89 {f x : Nat} (hx : (x = 48 ∧ ¬ f = 0) ∨ x = 49) : gf e89 aNo t (jI t x f z) := gf_I.mono2 (fun k f' q => by show (k = 48 ∧ ¬ f' = 0) ∨ k = 49; omega) (fun k q => q)
theorem cFr.suf : ∀ {P : List Fm}, cFr t code (P ++ G) → cFr t code G
  | [], h => h
  | _ :: P, h => cFr.suf (P := P) h.2.2
/-- what the innermost try is -/
theorem try_ok {J : List It} {x : It} {b z : Nat} (h : okIs code b z (J ++ x :: I)) (hx : x.1 = 3) : okI1 code b z x I ∧ okIs code b z I := by
  induction J with
  | nil => exact h
  | cons y J ih => exact ih h.2
/-- what is left of the picture where only the tally and the machine's numbers change -/
theorem CX.cy (h : CX t0 t p code Fs fu S0 u w F sh T out) : CY t0 t p code Fs fu S0 u w F sh T out := ⟨h.1, h.2.1, h.2.2.1⟩
theorem CY.tk (h : CY t0 t p code Fs fu S0 u w F sh T out) (g : gf e89 aNo t t') (hT : cTy t' fu T') (hid : kI t' 48 6 = Int32.ofNat 0 ∧ kI t' 48 7 = -Int32.ofNat 1 ∧ kI t' 48 8 = Int32.ofNat 0) (hg : kI t' 49 18 = Int32.ofNat 1) (hc : cStk F = l ++ cStk F') (hf : cFr t code F') (ht : stk (tryP code) (fun i => ((kA t 55).2 i, (kA t 56).2 i, (kA t 57).2 i)) (tStk F')) (htl : (tStk F').length ≤ (tStk F).length) (h8 : kI t' 49 8 = Int32.ofNat (cStk F').length) (h11 : kI t' 49 11 = Int32.ofNat F'.length) (h15 : kI t' 49 15 = Int32.ofNat (tStk F').length) : CX t0 t' p code Fs fu S0 u w F' sh T' out := by
  obtain ⟨⟨a1, a2, a3, a4, a5, a6⟩, ⟨b1, b2, b3, b4, b5, b6, b7, b8⟩, c1⟩ := h
  have e : ∀ k, ¬ k = 111 → kA t' k = kA t k ∧ kB t' k = kB t k := fun k k2 => by
    have := g.2.2.2.1 k (fun q => q) k2
    exact ⟨this.1, this.2.1⟩
  refine ⟨⟨a1.keep g (fun f => ⟨fun q => by omega, fun q => by omega⟩) (fun _ _ _ q => q), hT, hid, a4.keep2 g (fun q => by omega) (fun q => q) (fun q => q), hg, a6.tr2 (g.mono2 (fun k f q => by show k = 42 ∨ k = 45 ∨ (k = 48 ∧ ¬ f = 0) ∨ k = 49 ∨ k = 58; omega) (fun k q => q.elim))⟩, ?_, g.hp c1 (by decide) (by decide) (fun q => q) (fun q => q) (fun q => q), h8⟩
  unfold CM0 cel
  rw [(e 55 (by omega)).1, (e 56 (by omega)).1, (e 57 (by omega)).1, (e 53 (by omega)).1, (e 54 (by omega)).1, (e 50 (by omega)).2, (e 51 (by omega)).1, (e 60 (by omega)).1, (e 43 (by omega)).2]
  refine ⟨?_, cFr.keep (e 53 (by omega)).1 (e 54 (by omega)).1 hf, ht, b4, by omega, b6, h11, h15⟩
  rw [hc] at b1
  have := b1.app
  unfold cSk cel at this ⊢
  rw [(e 52 (by omega)).2, (e 43 (by omega)).2]
  exact this
/-- what a trouble that is taken gives -/
def tkV (k : Nat) (r : Int32) : Int32 := if k = 9 then r else Int32.ofNat k
theorem c_taken (hE : CY t0 t p code Fs fu S0 u w F sh T out) (hcx : cx code < 6500) (hk : 1 ≤ k ∧ k < 10) (hu : unF F = some (m, F')) (hF' : F' = (m', d', vs, I) :: G) (hm : (inA code m).2.1 < code.length) (h25 : (inA code (inA code m).2.1).1 = 25) (hr : (inA code (inA code m).2.1).2.2.1 < 8 + vs.length) (hvs : vs.length ≤ 14) (hG : G.length ≤ 9) (hl : (cStk F).length ≤ 17500) (htl : (tStk F).length ≤ 500) (hT : okTy fu T) : ∃ t1, cf_156 N X (Int32.ofNat k) q r t = some (t1, .inl none) ∧ (T.2.1 + 300 ≤ 3000 → ∃ t2, (∀ Q i, i + 2 ≤ 1000000 → cf_141_L4 N X (Q + 2) 0 (Int32.ofNat i) t1 = cf_141_L4 N X Q 0 (Int32.ofNat (i + 2)) t2) ∧ CX t0 t2 p code Fs fu S0 u w (((inA code m).2.1 + 1, 0, stV (inA code (inA code m).2.1).2.2.1 (nZ (tkV k r)) vs, I) :: G) (if (inA code (inA code m).2.1).2.2.1 < 8 then stS (inA code (inA code m).2.1).2.2.1 (nZ (tkV k r)) sh else sh) (T.1, T.2.1 + 300, T.2.2.1, T.2.2.2 + 1) out ∧ kI t2 49 17 = Int32.ofNat (posC code ((inA code m).2.1 + 1))) ∧ (¬ T.2.1 + 300 ≤ 3000 → ∃ t2 tB, (∀ Q i, i + 2 ≤ 1000000 → cf_141_L4 N X (Q + 2) 0 (Int32.ofNat i) t1 = some (t2, .inl none)) ∧ CX t0 tB p code Fs fu S0 u w F' sh (T.1, T.2.1 + 300, T.2.2.1, T.2.2.2 + 1) out ∧ t2 = jI (tol tB (Int32.ofNat 11) (inA code (inA code m).2.1).2.2.2.2.1 (Int32.ofNat 0)) 49 18 (Int32.ofNat 0)) := by
  obtain ⟨hf1, hf2, hf3, hf4, hf5⟩ := hT
  obtain ⟨a0, I0, G0, u1, ⟨P, J, x, u2, u3, u4, u5⟩, u6, -, ⟨l, u7⟩, -⟩ := unF_some hu
  generalize hj : (inA code m).2.1 = j at *
  -- the class's tables of its tries
  have hE' := hE
  obtain ⟨⟨a1, ⟨e1, e2, e3, e4, e5⟩, ⟨i1, i2, i3⟩, a4, a5, a6⟩, ⟨b1, b2, b3, b4, b5, b6, b7, b8⟩, c1⟩ := hE'
  rw [u6] at b3 b8
  have hn : (tStk F).length = (tStk F').length + 1 := by rw [u6]; rfl
  obtain ⟨y1, y2, y3⟩ := b3.1
  have v1 : (kA t 55).2 (tStk F').length = Int32.ofNat F'.length := y1
  have v2 : (kA t 56).2 (tStk F').length = Int32.ofNat (cStk F').length := y2
  have v3 : (kA t 57).2 (tStk F').length = Int32.ofNat (posC code j) := by
    have := y3
    rw [show (inA code (m, (cStk F').length, F'.length).1).2.1 = j from hj] at this
    exact this
  have hF'l : F'.length = G.length + 1 := by rw [hF']; rfl
  have hcl : (cStk F').length ≤ 17500 := by rw [u7, List.length_append] at hl; omega
  have htr : (tStk F').length + 1 ≤ 1000 := by omega
  have b8' : kI t 49 15 = Int32.ofNat ((tStk F').length + 1) := b8
  -- the fall
  have hsb : Int32.ofNat ((tStk F').length + 1) - Int32.ofNat 1 = Int32.ofNat (tStk F').length := by rw [← Int32.ofNat_sub _ _ (by omega)]; rfl
  obtain ⟨t1, ht1⟩ : ∃ t1, t1 = jI (jI (jI (jI (tol t (Int32.ofNat k) q r) 49 15 (Int32.ofNat (tStk F').length)) 49 11 (Int32.ofNat F'.length)) 49 8 (Int32.ofNat (cStk F').length)) 49 17 (Int32.ofNat (posC code j)) := ⟨_, rfl⟩
  have efall : cf_156 N X (Int32.ofNat k) q r t = some (t1, .inl none) := by
    have e : cf_238 N X (Int32.ofNat k) q r t = some (tol t (Int32.ofNat k) q r, .inl none) := rfl
    have w15 : kI (tol t (Int32.ofNat k) q r) 49 15 = Int32.ofNat ((tStk F').length + 1) := b8'
    have k55 : kA (tol t (Int32.ofNat k) q r) 55 = kA t 55 := rfl
    have k56 : kA (tol t (Int32.ofNat k) q r) 56 = kA t 56 := rfl
    have k57 : kA (tol t (Int32.ofNat k) q r) 57 = kA t 57 := rfl
    have l56 : (kA t 56).1 = (kA t 55).1 := b5.2.1
    have l57 : (kA t 57).1 = (kA t 55).1 := b5.2.2.1
    have l55 : (tStk F').length < (kA t 55).1 := by have := b5.1; omega
    have m55 : (kA t 55).1 ≤ 1000 := b5.2.2.2.2
    have nk : ¬ 10 ≤ k := by omega
    rw [ht1]
    clear b3 u6 ht1
    generalize (tStk F').length = nt at *
    generalize (cStk F').length = nc at *
    generalize F'.length = nf at *
    unfold cf_156 cf_156_0 cf_156_10 cf_156_16 cf_156_29
    simp (disch := omega) only [ev_S, ev_C, ↓reduceIte, Nat.reduceEqDiff, Nat.reduceLeDiff, Nat.reduceAdd, Nat.reduceMul, Nat.reduceSub, reduceCtorEq, l32_0, l32_1, l32_2, l32_3, l32_4, l32_5, l32_6, l32_7, l32_8, l32_9, l32_10, l32_11, l32_12, l32_13, l32_14, l32_15, l32_16, l32_17, l32_18, l32_19, l32_20, l32_21, l32_22, l32_23, l32_24, l32_25, l32_26, l32_27, l32_28, l32_29, l32_33, l32_40, l32_41, l32_44, l32_45, l32_59, l32_61, l32_91, l32_93, l32_123, l32_125, e, nk, w15, hsb, k55, k56, k57, l56, l57, v1, v2, v3]
  have gt1 : gf e89 aNo t t1 := by
    rw [ht1]
    exact (((((((g89 (Or.inl ⟨rfl, by decide⟩)).tr2 (g89 (Or.inl ⟨rfl, by decide⟩))).tr2 (g89 (Or.inl ⟨rfl, by decide⟩))).tr2 (g89 (Or.inr rfl))).tr2 (g89 (Or.inr rfl))).tr2 (g89 (Or.inr rfl))).tr2 (g89 (Or.inr rfl)))
  -- the first act there
  have hcI := (cI_25 (code := code) (own := posC code j) (e := 0) h25).1
  generalize hpl : (inA code j).2.2.2.2.1 = pl at *
  generalize hrr : (inA code j).2.2.1 = rr at *
  obtain ⟨p0, p1⟩ := CA_at (l1 := []) hm hcI
  obtain ⟨p2, p3⟩ := CA_at (l1 := [((12 : Int32), (0 : Int32), pl)]) (a := (2, cv rr, pl)) (l := []) hm hcI
  have p1 : (CA code)[posC code j]'p0 = (12, 0, pl) := p1
  have hE1 : cEv t1 p code Fs := a1.keep gt1 (fun f => ⟨fun q => by omega, fun q => by omega⟩) (fun _ _ _ q => q)
  have hg1 : kI t1 49 18 = Int32.ofNat 1 := by rw [ht1]; exact a5
  have hn1 : kI t1 49 17 = Int32.ofNat (posC code j) := by rw [ht1]; rfl
  obtain ⟨tB, htB⟩ : ∃ tB, tB = jI (jI (jI (jI (jI (jI t1 49 17 (Int32.ofNat (posC code j + 1))) 48 5 (Int32.ofNat (T.2.2.2 + 1))) 48 3 (Int32.ofNat (T.2.1 + 300))) 48 6 (Int32.ofNat 0)) 48 7 (-Int32.ofNat 1)) 48 8 (Int32.ofNat 0) := ⟨_, rfl⟩
  have gtB : gf e89 aNo t tB := by
    rw [htB]
    exact gt1.tr2 (((((((g89 (Or.inr rfl)).tr2 (g89 (Or.inl ⟨rfl, by decide⟩))).tr2 (g89 (Or.inl ⟨rfl, by decide⟩))).tr2 (g89 (Or.inl ⟨rfl, by decide⟩))).tr2 (g89 (Or.inl ⟨rfl, by decide⟩))).tr2 (g89 (Or.inl ⟨rfl, by decide⟩))))
  have hcF : cFr t code F' := by
    rw [u2] at b2
    have := cFr.suf (P := P) b2
    rw [u1]
    exact this
  have HB : CX t0 tB p code Fs fu S0 u w F' sh (T.1, T.2.1 + 300, T.2.2.1, T.2.2.2 + 1) out := hE.tk gtB (by rw [htB, ht1]; exact ⟨e1, e2, rfl, e4, rfl⟩) (by rw [htB]; exact ⟨rfl, rfl, rfl⟩) (by rw [htB, ht1]; exact a5) u7 hcF b3.2 (by omega) (by rw [htB, ht1]; rfl) (by rw [htB, ht1]; rfl) (by rw [htB, ht1]; rfl)
  -- take
  have etake : cf_239 N X (jI t1 49 17 (Int32.ofNat (posC code j + 1))) = some (tB, .inl (some (.int (tkV k r)))) := by
    have w5 : kI (jI t1 49 17 (Int32.ofNat (posC code j + 1))) 48 5 = Int32.ofNat T.2.2.2 := by rw [ht1]; exact e5
    have w3 : kI (jI (jI t1 49 17 (Int32.ofNat (posC code j + 1))) 48 5 (Int32.ofNat (T.2.2.2 + 1))) 48 3 = Int32.ofNat T.2.1 := by rw [ht1]; exact e3
    have w6 : kI (jI (jI (jI t1 49 17 (Int32.ofNat (posC code j + 1))) 48 5 (Int32.ofNat (T.2.2.2 + 1))) 48 3 (Int32.ofNat (T.2.1 + 300))) 48 6 = Int32.ofNat k := by rw [ht1]; rfl
    have w8 : kI (jI (jI (jI t1 49 17 (Int32.ofNat (posC code j + 1))) 48 5 (Int32.ofNat (T.2.2.2 + 1))) 48 3 (Int32.ofNat (T.2.1 + 300))) 48 8 = r := by rw [ht1]; rfl
    have es : cf_241 N X (jI (jI (jI t1 49 17 (Int32.ofNat (posC code j + 1))) 48 5 (Int32.ofNat (T.2.2.2 + 1))) 48 3 (Int32.ofNat (T.2.1 + 300))) = some (tB, .inl none) := by rw [htB]; rfl
    have e236 : ∃ y, cf_236 N X (Int32.ofNat 300) (jI (jI t1 49 17 (Int32.ofNat (posC code j + 1))) 48 5 (Int32.ofNat (T.2.2.2 + 1))) = some (jI (jI (jI t1 49 17 (Int32.ofNat (posC code j + 1))) 48 5 (Int32.ofNat (T.2.2.2 + 1))) 48 3 (Int32.ofNat (T.2.1 + 300)), .inl (some (.int y))) := by
      by_cases c : 3000 < T.2.1 + 300
      · refine ⟨Int32.ofNat 0, ?_⟩
        unfold cf_236 cf_236_0 cf_236_24 cf_236_25
        simp (disch := omega) only [ev_S, ev_C, ↓reduceIte, Nat.reduceEqDiff, Nat.reduceLeDiff, Nat.reduceAdd, Nat.reduceMul, Nat.reduceSub, reduceCtorEq, l32_0, l32_1, l32_2, l32_3, l32_4, l32_5, l32_6, l32_7, l32_8, l32_9, l32_10, l32_11, l32_12, l32_13, l32_14, l32_15, l32_16, l32_17, l32_18, l32_19, l32_20, l32_21, l32_22, l32_23, l32_24, l32_25, l32_26, l32_27, l32_28, l32_29, l32_33, l32_40, l32_41, l32_44, l32_45, l32_59, l32_61, l32_91, l32_93, l32_123, l32_125, w3, c, l32_3000]
      · refine ⟨Int32.ofNat 1, ?_⟩
        unfold cf_236 cf_236_0 cf_236_20 cf_236_25
        simp (disch := omega) only [ev_S, ev_C, ↓reduceIte, Nat.reduceEqDiff, Nat.reduceLeDiff, Nat.reduceAdd, Nat.reduceMul, Nat.reduceSub, reduceCtorEq, l32_0, l32_1, l32_2, l32_3, l32_4, l32_5, l32_6, l32_7, l32_8, l32_9, l32_10, l32_11, l32_12, l32_13, l32_14, l32_15, l32_16, l32_17, l32_18, l32_19, l32_20, l32_21, l32_22, l32_23, l32_24, l32_25, l32_26, l32_27, l32_28, l32_29, l32_33, l32_40, l32_41, l32_44, l32_45, l32_59, l32_61, l32_91, l32_93, l32_123, l32_125, w3, c, l32_3000]
    obtain ⟨y, e236⟩ := e236
    have e236 : cf_236 N X 300 (jI (jI t1 49 17 (Int32.ofNat (posC code j + 1))) 48 5 (Int32.ofNat (T.2.2.2 + 1))) = _ := e236
    unfold tkV
    clear ht1 htB
    by_cases c9 : k = 9
    · rw [if_pos c9]
      unfold cf_239 cf_239_0 cf_239_17 cf_239_27 cf_239_38 cf_239_43
      simp (disch := omega) only [ev_S, ev_C, ↓reduceIte, Nat.reduceEqDiff, Nat.reduceLeDiff, Nat.reduceAdd, Nat.reduceMul, Nat.reduceSub, reduceCtorEq, l32_0, l32_1, l32_2, l32_3, l32_4, l32_5, l32_6, l32_7, l32_8, l32_9, l32_10, l32_11, l32_12, l32_13, l32_14, l32_15, l32_16, l32_17, l32_18, l32_19, l32_20, l32_21, l32_22, l32_23, l32_24, l32_25, l32_26, l32_27, l32_28, l32_29, l32_33, l32_40, l32_41, l32_44, l32_45, l32_59, l32_61, l32_91, l32_93, l32_123, l32_125, w5, e236, w6, w8, c9, es]
    · rw [if_neg c9]
      unfold cf_239 cf_239_0 cf_239_17 cf_239_34 cf_239_38 cf_239_43
      simp (disch := omega) only [ev_S, ev_C, ↓reduceIte, Nat.reduceEqDiff, Nat.reduceLeDiff, Nat.reduceAdd, Nat.reduceMul, Nat.reduceSub, reduceCtorEq, l32_0, l32_1, l32_2, l32_3, l32_4, l32_5, l32_6, l32_7, l32_8, l32_9, l32_10, l32_11, l32_12, l32_13, l32_14, l32_15, l32_16, l32_17, l32_18, l32_19, l32_20, l32_21, l32_22, l32_23, l32_24, l32_25, l32_26, l32_27, l32_28, l32_29, l32_33, l32_40, l32_41, l32_44, l32_45, l32_59, l32_61, l32_91, l32_93, l32_123, l32_125, w5, e236, w6, c9, es]
  have hB3 : kI tB 48 3 = Int32.ofNat (T.2.1 + 300) := HB.1.2.1.2.2.1
  refine ⟨t1, efall, fun hle => ?_, fun hgt => ?_⟩
  · subst hF'
    have e240 : cf_240 N X tB = some (tB, .inl (some (.int (Int32.ofNat 0)))) := by
      unfold cf_240 cf_240_0 cf_240_14 cf_240_15
      simp (disch := omega) only [ev_S, ev_C, ↓reduceIte, Nat.reduceEqDiff, Nat.reduceLeDiff, Nat.reduceAdd, Nat.reduceMul, Nat.reduceSub, reduceCtorEq, l32_0, l32_1, l32_2, l32_3, l32_4, l32_5, l32_6, l32_7, l32_8, l32_9, l32_10, l32_11, l32_12, l32_13, l32_14, l32_15, l32_16, l32_17, l32_18, l32_19, l32_20, l32_21, l32_22, l32_23, l32_24, l32_25, l32_26, l32_27, l32_28, l32_29, l32_33, l32_40, l32_41, l32_44, l32_45, l32_59, l32_61, l32_91, l32_93, l32_123, l32_125, hB3, hle, l32_3000]
    obtain ⟨t3, s1, s2, s3, s4⟩ := CX.push (N := N) (X := X) (m' := m') (d' := d') (v := tg 0 (tkV k r)) (it := (0, [nZ (tkV k r)], 0)) (o := some (nZ (tkV k r))) HB (by omega) cN_Z (by show ¬ (0 : Nat) = 3; decide) rfl
    have eon : cf_142 N X 12 0 pl (jI t1 49 17 (Int32.ofNat (posC code j + 1))) = some (t3, .inl none) := by
      have := c_mv12 (N := N) (X := X) (g := 0) (q := pl) (t := jI t1 49 17 (Int32.ofNat (posC code j + 1)))
      have this : cf_142 N X 12 0 pl (jI t1 49 17 (Int32.ofNat (posC code j + 1))) = _ := this
      rw [this]
      have eth := c_thing (N := N) (X := X) (t := tB) (k := Int32.ofNat 0) (a := tkV k r)
      have s1 : cf_165 N X (tg (Int32.ofNat 0) (tkV k r)) tB = _ := s1
      unfold cf_142_273 cf_142_278 cf_142_296 cf_155 cf_155_0 cf_155_8 cf_155_11 cf_155_19 cf_155_33 cf_155_38
      simp (disch := omega) only [ev_S, ev_C, ↓reduceIte, Nat.reduceEqDiff, Nat.reduceLeDiff, Nat.reduceAdd, Nat.reduceMul, Nat.reduceSub, reduceCtorEq, l32_0, l32_1, l32_2, l32_3, l32_4, l32_5, l32_6, l32_7, l32_8, l32_9, l32_10, l32_11, l32_12, l32_13, l32_14, l32_15, l32_16, l32_17, l32_18, l32_19, l32_20, l32_21, l32_22, l32_23, l32_24, l32_25, l32_26, l32_27, l32_28, l32_29, l32_33, l32_40, l32_41, l32_44, l32_45, l32_59, l32_61, l32_91, l32_93, l32_123, l32_125, etake, eth, e240, s1]
    have hB17 : kI tB 49 17 = Int32.ofNat (posC code j + 1) := by rw [htB]; rfl
    have s3' : kI t3 49 17 = Int32.ofNat (posC code j + 1) := s3.trans hB17
    have H3 := s2.pc (z := Int32.ofNat (posC code j + 1 + 1)) (Or.inl rfl)
    have hl3 : (cStk ((m', d', vs, (0, [nZ (tkV k r)], 0) :: I) :: G)).length ≤ 20000 := by
      rw [cStk_cons (m' := m') (d' := d'), List.length_append]
      show 1 + _ ≤ _
      omega
    obtain ⟨t4, r1, r2, r3, r4⟩ := CX.store (N := N) (X := X) (m' := j + 1) (d' := 0) H3 hl3 hG hr hvs
    have est : cf_142 N X 2 (cv rr) pl (jI t3 49 17 (Int32.ofNat (posC code j + 1 + 1))) = some (t4, .inl none) := by
      have := c_mv2 (N := N) (X := X) (g := cv rr) (q := pl) (t := jI t3 49 17 (Int32.ofNat (posC code j + 1 + 1)))
      have this : cf_142 N X 2 (cv rr) pl (jI t3 49 17 (Int32.ofNat (posC code j + 1 + 1))) = _ := this
      rw [this]
      unfold cf_142_152 cf_142_157 cf_142_296
      simp (disch := omega) only [ev_S, ev_C, ↓reduceIte, Nat.reduceEqDiff, Nat.reduceLeDiff, Nat.reduceAdd, Nat.reduceMul, Nat.reduceSub, reduceCtorEq, l32_0, l32_1, l32_2, l32_3, l32_4, l32_5, l32_6, l32_7, l32_8, l32_9, l32_10, l32_11, l32_12, l32_13, l32_14, l32_15, l32_16, l32_17, l32_18, l32_19, l32_20, l32_21, l32_22, l32_23, l32_24, l32_25, l32_26, l32_27, l32_28, l32_29, l32_33, l32_40, l32_41, l32_44, l32_45, l32_59, l32_61, l32_91, l32_93, l32_123, l32_125, r1]
    refine ⟨t4, fun Q i hi => ?_, r2, ?_⟩
    · rw [show Q + 2 = Q + 1 + 1 from rfl, c_fet (N := N) (X := X) (F := Q + 1) hE1 hcx hg1 (by omega) hn1 p0 p1, c_rdM (by decide) (by decide) eon]
      rw [c_fet (N := N) (X := X) (F := Q) s2.1.1 hcx s2.1.2.2.2.2.1 (by omega) s3' p2 p3, c_rdM (by decide) (by decide) est]
    · rw [r3, posC_s hm]
      show Int32.ofNat (posC code j + 1 + 1) = _
      rw [show clen (inA code j) = 2 by unfold clen; rw [h25]; rfl]
  · have e240 : cf_240 N X tB = some (tB, .inl (some (.int (Int32.ofNat 1)))) := by
      unfold cf_240 cf_240_0 cf_240_10 cf_240_15
      simp (disch := omega) only [ev_S, ev_C, ↓reduceIte, Nat.reduceEqDiff, Nat.reduceLeDiff, Nat.reduceAdd, Nat.reduceMul, Nat.reduceSub, reduceCtorEq, l32_0, l32_1, l32_2, l32_3, l32_4, l32_5, l32_6, l32_7, l32_8, l32_9, l32_10, l32_11, l32_12, l32_13, l32_14, l32_15, l32_16, l32_17, l32_18, l32_19, l32_20, l32_21, l32_22, l32_23, l32_24, l32_25, l32_26, l32_27, l32_28, l32_29, l32_33, l32_40, l32_41, l32_44, l32_45, l32_59, l32_61, l32_91, l32_93, l32_123, l32_125, hB3, hgt, l32_3000]
    refine ⟨_, tB, fun Q i hi => ?_, HB, rfl⟩
    have ef := c_fallE (N := N) (X := X) (t := tB) (k := 11) (q := pl) (r := Int32.ofNat 0) (Or.inl (by omega)) (by omega)
    have eon : cf_142 N X 12 0 pl (jI t1 49 17 (Int32.ofNat (posC code j + 1))) = some (jI (tol tB (Int32.ofNat 11) pl (Int32.ofNat 0)) 49 18 (Int32.ofNat 0), .inl none) := by
      have := c_mv12 (N := N) (X := X) (g := 0) (q := pl) (t := jI t1 49 17 (Int32.ofNat (posC code j + 1)))
      have this : cf_142 N X 12 0 pl (jI t1 49 17 (Int32.ofNat (posC code j + 1))) = _ := this
      rw [this]
      have eth := c_thing (N := N) (X := X) (t := tB) (k := Int32.ofNat 0) (a := tkV k r)
      unfold cf_142_273 cf_142_278 cf_142_296 cf_155 cf_155_0 cf_155_8 cf_155_11 cf_155_19 cf_155_22 cf_155_30 cf_155_38
      simp (disch := omega) only [ev_S, ev_C, ↓reduceIte, Nat.reduceEqDiff, Nat.reduceLeDiff, Nat.reduceAdd, Nat.reduceMul, Nat.reduceSub, reduceCtorEq, l32_0, l32_1, l32_2, l32_3, l32_4, l32_5, l32_6, l32_7, l32_8, l32_9, l32_10, l32_11, l32_12, l32_13, l32_14, l32_15, l32_16, l32_17, l32_18, l32_19, l32_20, l32_21, l32_22, l32_23, l32_24, l32_25, l32_26, l32_27, l32_28, l32_29, l32_33, l32_40, l32_41, l32_44, l32_45, l32_59, l32_61, l32_91, l32_93, l32_123, l32_125, etake, eth, e240, ef]
    rw [show Q + 2 = Q + 1 + 1 from rfl, c_fet (N := N) (X := X) (F := Q + 1) hE1 hcx hg1 (by omega) hn1 p0 p1, c_rdM (by decide) (by decide) eon]
    exact c_off rfl (by omega)
end TAK
