/-! ===== PURE: load (5): the text is compiled ===== -/
section CMP
variable {N : Nat} {X : Nat → Option zz_C} {b : Nat → Nat} {n x1 : Nat}
theorem c_scan2 {t : cS} (hN : 170000 ≤ N) (hX : oX N X) (h : cTx t x1 b n) (h3 : (kA t 5).1 = (kA t 4).1 ∧ (kB t 6).1 = (kA t 4).1 ∧ 1 ≤ (kA t 4).1 ∧ (kA t 4).1 < 13000 ∧ rmG t) : ∃ t', cf_40 N X x1 (Int32.ofNat n) t = some (t', .inl none) ∧ cT3 t' ((tks b n (n + 1) 0).map c3) ∧ cNow t' ((tks b n (n + 1) 0).map c3) 0 ∧ gL (fun k f => k = 3 ∧ (f = 3 ∨ f = 4 ∨ f = 5 ∨ f = 6)) aTk t t' := by
  obtain ⟨e5, e6, h6, h7, h8⟩ := h3
  obtain ⟨g1, g2, g3, g4, g5, g6⟩ := h
  obtain ⟨t1, ht1⟩ : ∃ t1, t1 = jI (jI t 3 3 (Int32.ofNat 0)) 3 4 (-Int32.ofNat 1) := ⟨_, rfl⟩
  have x0 : cTx t1 x1 b n := by rw [ht1]; exact ⟨g1, g2, g3, g4, g5, g6⟩
  have y0 : cT3 t1 [] := by rw [ht1]; exact ⟨rfl, fun i hi => absurd hi (Nat.not_lt_zero _), e5, e6, Nat.zero_le _, h6, h7, h8⟩
  obtain ⟨t2, a1, a2, a3⟩ := c_scanL (N := N) (X := X) (b := b) (n := n) (x1 := x1) hN hX (n + 1) 0 0 (N - (n + 1 + 1)) t1 [] (by omega) (Nat.le_refl _) (Nat.zero_le _) x0 y0 (by show 0 + (n + 1) < _; omega)
  rw [show N - (n + 1 + 1) + (n + 1 + 1) = N by omega] at a1
  rw [List.nil_append] at a2
  have hlen := tks_len (b := b) (n := n) (n + 1) 0
  have hpos : 0 < ((tks b n (n + 1) 0).map c3).length := by
    rw [List.length_map]
    unfold tks
    split
    · exact Nat.succ_pos _
    · exact Nat.succ_pos _
  have e34 : kI t2 3 4 = -Int32.ofNat 1 := by
    rw [a3.1 3 4 (by omega), ht1]
    rfl
  obtain ⟨t3, b1, b2, b3, b4⟩ := c_adv (N := N) (X := X) (i := 0) a2 (by rw [List.length_map]; omega) hpos (Or.inl (by rw [e34]; decide))
  have f0 : gL (fun k f => k = 3 ∧ (f = 3 ∨ f = 4 ∨ f = 5 ∨ f = 6)) aTk t t1 := by
    rw [ht1]
    refine ⟨fun k f r => ?_, fun _ _ _ => rfl, fun _ _ _ => ⟨rfl, rfl, rfl⟩, rfl, rfl, Nat.le_refl _, Nat.le_refl _, Nat.le_refl _⟩
    show (if k = 3 ∧ f = 4 then _ else if k = 3 ∧ f = 3 then _ else kI t k f) = _
    rw [if_neg (by omega), if_neg (by omega)]
  refine ⟨t3, ?_, b3, b2, gL.tr (t1 := t1) f0 (gL.tr (t1 := t2) (a3.mono (by omega) (by omega)) (b4.mono (by omega) (fun _ z => z.elim)))⟩
  have a1 : cf_40_L2 N X N 0 x1 (Int32.ofNat n) (Int32.ofNat 0) (Int32.ofNat 0) t1 = cf_40_55 N X t2 := a1
  have ln : (if Int32.ofNat (kA t 1).1 < Int32.ofNat n then Int32.ofNat (kA t 1).1 else Int32.ofNat n) = Int32.ofNat n := if_neg (fun q => by have := (i32lt (by omega) (by omega)).mp q; omega)
  unfold cf_40 cf_40_0
  rw [if_pos g1, ln]
  show cf_40_L2 N X N 0 x1 (Int32.ofNat n) (Int32.ofNat 0) (Int32.ofNat 0) (jI (jI t 3 3 (Int32.ofNat 0)) 3 4 (-Int32.ofNat 1)) = _
  rw [← ht1, a1]
  unfold cf_40_55 cf_40_59
  simp (disch := omega) only [ev_S, ev_C, ↓reduceIte, Nat.reduceEqDiff, Nat.reduceLeDiff, Nat.reduceAdd, Nat.reduceMul, Nat.reduceSub, reduceCtorEq, l32_0, l32_1, l32_2, l32_3, l32_4, l32_5, l32_6, l32_7, l32_8, l32_9, l32_10, l32_11, l32_12, l32_13, l32_14, l32_15, l32_16, l32_17, l32_18, l32_19, l32_20, l32_21, l32_22, l32_23, l32_24, l32_25, l32_26, l32_27, l32_28, l32_29, l32_33, l32_40, l32_41, l32_44, l32_45, l32_59, l32_61, l32_91, l32_93, l32_123, l32_125, b1]
end CMP
section CMQ
variable {N : Nat} {X : Nat → Option zz_C} {t t' t1 t2 : cS} {s s' s1 s2 : mS} {b : Nat → Nat} {n p e : Nat}
set_option maxRecDepth 100000 in
/-- a byte, without its sign -/
theorem by_sb : ∀ k : Fin 256, sb k.1 &&& 255 = Int32.ofNat k.1 := by decide
set_option maxRecDepth 100000 in
theorem ng_in : ∀ k : Fin 129, (-Int32.ofNat k.1).toInt = -(k.1 : Int) := by decide
theorem fit_b {v : Int32} (h : fits .byte (.int v) = true) : ∃ k : Nat, k < 256 ∧ v = sb k ∧ v &&& 255 = Int32.ofNat k := by
  have h : (decide (-128 ≤ v) && decide (v ≤ 127)) = true := h
  rw [Bool.and_eq_true, decide_eq_true_iff, decide_eq_true_iff, Int32.le_iff_toInt_le, Int32.le_iff_toInt_le] at h
  have h1 : (-128 : Int) ≤ v.toInt := h.1
  have h2 : v.toInt ≤ 127 := h.2
  have key : ∃ k : Nat, k < 256 ∧ v = sb k := by
    by_cases c : 0 ≤ v.toInt
    · refine ⟨v.toInt.toNat, by omega, ?_⟩
      rw [sb_l (by omega)]
      apply Int32.toInt_inj.mp
      rw [i32t (by omega)]
      omega
    · refine ⟨(256 + v.toInt).toNat, by omega, ?_⟩
      rw [sb_g (by omega)]
      apply Int32.toInt_inj.mp
      have := ng_in ⟨256 - (256 + v.toInt).toNat, by omega⟩
      rw [this]
      show v.toInt = -((256 - (256 + v.toInt).toNat : Nat) : Int)
      omega
  obtain ⟨k, k1, k2⟩ := key
  exact ⟨k, k1, k2, by rw [k2]; exact by_sb ⟨k, k1⟩⟩
/-- the text on the tape -/
theorem iB.text {m L : Nat} (h : iB m L t s) (hn : n ≤ m) (hn2 : n ≤ 1600) (hL : m ≤ L ∧ L ≤ 1620) (s4 : s'.1 4 = Int32.ofNat n) (s2 : s'.2.2.1 2 = s.2.2.1 2) (k1 : kD t' 1 = kD t 1 ∧ kA t' 1 = kA t 1) : ∃ b : Nat → Nat, cTx t' (kD t 1) b n ∧ rTx s' b n := by
  obtain ⟨h1, h2, h3, h4, h5⟩ := h
  have hb : ∀ i, ∃ k : Nat, k < 256 ∧ (kA t 1).2 i = sb k ∧ (kA t 1).2 i &&& 255 = Int32.ofNat k := fun i => fit_b (h5 i)
  refine ⟨fun i => Classical.choose (hb i), ⟨k1.1, by rw [k1.2]; omega, by rw [k1.2]; omega, hn2, fun i => (Classical.choose_spec (hb i)).1, fun i hi => ?_⟩, ⟨s4, hn2, fun i => (Classical.choose_spec (hb i)).1, fun i hi => ?_⟩⟩
  · rw [k1.2]
    exact (Classical.choose_spec (hb i)).2.1
  · rw [s2, ← h4 i (by omega)]
    exact (Classical.choose_spec (hb i)).2.2
theorem gL.toX {E : Nat → Nat → Prop} {A : Nat → Prop} (g : gL E A t t') : gX E A t t' := ⟨g.1, g.2.1, g.2.2.1, g.2.2.2.1, g.2.2.2.2.1, g.2.2.2.2.2.1, by have := g.2.2.2.2.2.2.1; omega, by have := g.2.2.2.2.2.2.2; omega⟩
/-- what load may change in the class's program p, its parser and tokens -/
abbrev eLd (p : Nat) : Nat → Nat → Prop := fun k f => eF p k f ∨ (k = 3 ∧ f = 3) ∨ (k = 2 ∧ f = 1)
abbrev aLd (p : Nat) : Nat → Prop := fun k => aF p k ∨ k = 4 ∨ k = 5 ∨ k = 6
/-- the text is compiled -/
theorem p_comp (hN : 170000 ≤ N) (hX : oX N X) (hY : oY X) (hZ : oZ X) (hT : cTx t (kD t 1) b n) (hz : SZf p t) (hrm : rmG t) (hpp : p = 12 ∨ p = 21) (hx : rTx s b n) (h12 : s.1 12 = Int32.ofNat e) (he : e ≤ 1) (h9 : s.1 9 = Int32.ofNat 0) (h10 : s.1 10 = -Int32.ofNat 1) (h11 : s.1 11 = Int32.ofNat 0) (h15 : s.1 15 = Int32.ofNat 0) (h28 : s.1 28 = Int32.ofNat 0) (h29 : s.1 29 = Int32.ofNat 0) (hWd : rWd s) (hWn : rWn s) (hK : Kd s) : (∃ t' s' code cl Fs, cf_35 N X (kD t 1) (Int32.ofNat n) p t = some (t', .inl none) ∧ mf_59_73 N s = mf_59_93 N s' ∧ BS p e code cl Fs t' s' ∧ (∀ x ∈ cl, bnds code Fs x) ∧ kI t' 2 10 = Int32.ofNat 0 ∧ kI t' 2 11 = -Int32.ofNat 1 ∧ s'.1 9 = Int32.ofNat 0 ∧ gL (eLd p) (aLd p) t t' ∧ fJ e s s' ∧ SZf p t') ∨ (∃ t' s', cf_35 N X (kD t 1) (Int32.ofNat n) p t = some (t', .inl none) ∧ mf_59_73 N s = mf_59_93 N s' ∧ pF t' s' ∧ gX (eLd p) (aLd p) t t' ∧ fJ e s s' ∧ SZf p t') := by
  obtain ⟨z1, z2, z3, z4⟩ := hz.1
  have hn16 : n ≤ 1600 := hx.2.1
  obtain ⟨t1, a1, a2, a3, a4⟩ := c_scan2 (N := N) (X := X) hN hX hT ⟨z1.1, z1.2.1, z1.2.2.1, z1.2.2.2, hrm⟩
  obtain ⟨s1, b1, b2, b3⟩ := r_token (N := N) (p := 0) hN hx (Nat.zero_le _)
  have hp : (p = 12 ∨ p = 21) = True := eq_true hpp
  -- the class's state at the first function
  obtain ⟨t2, ht2⟩ : ∃ t2, t2 = jI (jI (jI (jI (jI (jI (jP t1 2 1 (some p)) p 3 (Int32.ofNat 0)) p 4 (Int32.ofNat 0)) 2 2 (Int32.ofNat 0)) 2 9 (Int32.ofNat 0)) 2 10 (Int32.ofNat 0)) 2 11 (-Int32.ofNat 1) := ⟨_, rfl⟩
  have hR0 : cf_35 N X (kD t 1) (Int32.ofNat n) p t = cf_35_L3 N X N 0 (Int32.ofNat 0) t2 := by
    rw [ht2]
    unfold cf_35 cf_35_0
    rw [a1]
    show cf_35_9 N X p t1 = _
    unfold cf_35_9
    rw [if_pos hpp]
    unfold cf_31 cf_31_0
    rw [if_pos hpp]
    rfl
  have kI2 : ∀ k f, ¬ ((k = 2 ∧ (f = 2 ∨ f = 9 ∨ f = 10 ∨ f = 11)) ∨ (k = p ∧ (f = 3 ∨ f = 4))) → kI t2 k f = kI t1 k f := fun k f r => by
    rw [ht2]
    show (if k = 2 ∧ f = 11 then _ else if k = 2 ∧ f = 10 then _ else if k = 2 ∧ f = 9 then _ else if k = 2 ∧ f = 2 then _ else if k = p ∧ f = 4 then _ else if k = p ∧ f = 3 then _ else kI t1 k f) = _
    rw [if_neg (by omega), if_neg (by omega), if_neg (by omega), if_neg (by omega), if_neg (by omega), if_neg (by omega)]
  have g12 : gL (eLd p) (aLd p) t1 t2 := ⟨fun k f r => kI2 k f (fun z => r (by
      rcases z with ⟨z1, z2⟩ | ⟨z1, z2⟩
      · exact Or.inl (Or.inl (Or.inr (Or.inl ⟨z1, by omega⟩)))
      · rcases z2 with z2 | z2
        · exact Or.inl (Or.inl (Or.inr (Or.inr ⟨z1, z2⟩)))
        · exact Or.inl (Or.inr ⟨z1, z2⟩))), fun k f r => by
      rw [ht2]
      show (if k = 2 ∧ f = 1 then _ else kP t1 k f) = _
      rw [if_neg (fun z => r ⟨z.1, z.2, Or.inr (Or.inr ⟨rfl, rfl⟩)⟩)], fun k _ _ => by rw [ht2]; exact ⟨rfl, rfl, rfl⟩, by rw [ht2]; rfl, by rw [ht2]; rfl, by rw [ht2]; exact Nat.le_refl _, by rw [ht2]; exact Nat.le_refl _, by rw [ht2]; exact Nat.le_refl _⟩
  have G02 : gL (eLd p) (aLd p) t t2 := (a4.mono (fun k f z => by
      rcases z with ⟨z1, z2⟩
      by_cases y : f = 3
      · exact Or.inr (Or.inl ⟨z1, y⟩)
      · exact Or.inl (Or.inl (Or.inl ⟨z1, by omega⟩))) (fun k z => Or.inr (by omega))).tr g12
  have eA : ∀ k, kA t2 k = kA t1 k := fun k => by rw [ht2]; rfl
  have eB : ∀ k, kB t2 k = kB t1 k := fun k => by rw [ht2]; rfl
  have eK : ∀ k, ¬ (k = 4 ∨ k = 5 ∨ k = 6) → k ≠ 111 → kA t2 k = kA t k ∧ kB t2 k = kB t k := fun k h1 h2 => by
    have := a4.2.2.1 k h1 h2
    exact ⟨(eA k).trans this.1, (eB k).trans this.2.1⟩
  have p6 : ∀ j, 1 ≤ j → j ≤ 8 → kA t2 (p + j) = kA t (p + j) ∧ kB t2 (p + j) = kB t (p + j) := fun j h1 h2 => eK (p + j) (by rcases hpp with y | y <;> omega) (by rcases hpp with y | y <;> omega)
  have k22 : kI t2 2 2 = Int32.ofNat 0 := by rw [ht2]; rfl
  have k29 : kI t2 2 9 = Int32.ofNat 0 := by rw [ht2]; rfl
  have k210 : kI t2 2 10 = Int32.ofNat 0 := by rw [ht2]; rfl
  have k211 : kI t2 2 11 = -Int32.ofNat 1 := by rw [ht2]; rfl
  have kp3 : kI t2 p 3 = Int32.ofNat 0 := by
    rw [ht2]
    rcases hpp with y | y <;> subst y <;> rfl
  have kp4 : kI t2 p 4 = Int32.ofNat 0 := by
    rw [ht2]
    rcases hpp with y | y <;> subst y <;> rfl
  have kP2 : kP t2 2 1 = some p := by rw [ht2]; rfl
  have hrm2 : rmG t2 := G02.rm hrm
  have hs2 : ∀ q, ¬ q = 37 → (mI s1 37 (Int32.ofNat 0)).1 q = s1.1 q := fun q z => if_neg z
  have fld : ∀ q, ¬ (q = 5 ∨ q = 6 ∨ q = 8 ∨ q = 37) → (mI s1 37 (Int32.ofNat 0)).1 q = s.1 q := fun q z => (hs2 q (by omega)).trans (b3.1 q (by omega))
  have hTL : ∃ hi : 0 < (TL b n).length, (TL b n)[0] = lex b n 0 := by
    have e1 : TL b n = tks b n (n + 1) 0 := rfl
    by_cases z : (lex b n 0).1 ≤ 1
    · have e2 : tks b n (n + 1) 0 = [lex b n 0] := if_pos z
      simp only [e1, e2]
      exact ⟨Nat.succ_pos _, rfl⟩
    · have e2 : tks b n (n + 1) 0 = lex b n 0 :: tks b n n (lex b n 0).2.2.2.2 := if_neg z
      simp only [e1, e2]
      exact ⟨Nat.succ_pos _, rfl⟩
  obtain ⟨hi0, hT0⟩ := hTL
  have hpR : pR b n 0 0 t2 (mI s1 37 (Int32.ofNat 0)) := by
    obtain ⟨c1, c2, c3, c4, c5, c6, c7, c8⟩ := a2
    obtain ⟨d1, d2, d3, d4, d5⟩ := a3
    have e3 : ∀ f, kI t2 3 f = kI t1 3 f := fun f => kI2 3 f (by rcases hpp with y | y <;> omega)
    refine ⟨⟨by rw [e3]; exact c1, by rw [eA, eA, eB]; exact c2, by rw [eA, eA]; exact c3, by rw [eB, eA]; exact c4, by rw [eA]; exact c5, by rw [eA]; exact c6, by rw [eA]; exact c7, hrm2⟩, ⟨by rw [e3]; exact d1, d2, by rw [e3]; exact d3, by rw [e3]; exact d4, by rw [ht2]; exact d5⟩, ⟨k22, k210, k211⟩, by omega, hn16, ?_, ⟨hi0, by rw [hT0]; exact b2⟩, ?_, ?_, ?_⟩
    · have r1 := hx.keep b3
      exact ⟨(hs2 4 (by omega)).trans r1.1, r1.2⟩
    · intro w hw
      show s1.2.2.2 0 w = _
      rw [b3.2.2.2 0 (fun z => z)]
      exact hWd w hw
    · rw [fld 11 (by omega)]
      exact h11
    · rw [fld 9 (by omega)]
      exact h9
  have hQE : QE b n p e 0 [] [] [] t2 (mI s1 37 (Int32.ofNat 0)) := by
    refine ⟨hpR, ⟨kP2, hpp, kp3, fun i hi => absurd hi (Nat.not_lt_zero _), by rw [(p6 2 (by omega) (by omega)).1, (p6 1 (by omega) (by omega)).1]; exact z3.1, by rw [(p6 3 (by omega) (by omega)).1, (p6 1 (by omega) (by omega)).1]; exact z3.2.1, Nat.zero_le _, by rw [(p6 1 (by omega) (by omega)).1]; exact z3.2.2.1, by rw [(p6 1 (by omega) (by omega)).1]; exact z3.2.2.2⟩, ⟨by rw [fld 12 (by omega)]; exact h12, he, by rw [fld 28 (by omega)]; exact h28, Nat.zero_le _, fun i hi => absurd hi (Nat.not_lt_zero _)⟩, fun c hc => absurd hc List.not_mem_nil, ?_, by rw [(eK 7 (by omega) (by decide)).2]; exact z4, ⟨k29, fun i hi => absurd hi (Nat.not_lt_zero _), by rw [(eK 9 (by omega) (by decide)).2, (eK 8 (by omega) (by decide)).1]; exact z2.1, by rw [(eK 10 (by omega) (by decide)).1, (eK 8 (by omega) (by decide)).1]; exact z2.2.1, by rw [(eK 11 (by omega) (by decide)).1, (eK 8 (by omega) (by decide)).1]; exact z2.2.2.1, Nat.zero_le _, by rw [(eK 8 (by omega) (by decide)).1]; exact z2.2.2.2.1, by rw [(eK 8 (by omega) (by decide)).1]; exact z2.2.2.2.2⟩, ⟨by rw [fld 29 (by omega)]; exact h29, Nat.zero_le _, fun i hi => absurd hi (Nat.not_lt_zero _)⟩, ⟨fun x hx => absurd hx List.not_mem_nil, fun m hm => absurd hm (Nat.not_lt_zero _)⟩, rfl, Nat.zero_le _, Nat.zero_le _, Nat.zero_le _, ⟨kp4, by decide, Nat.le_refl _, by rw [(p6 4 (by omega) (by omega)).2]; exact hz.2.1, by rw [(p6 5 (by omega) (by omega)).1]; exact hz.2.2.1, by rw [(p6 6 (by omega) (by omega)).1]; exact hz.2.2.2.1, by rw [(p6 7 (by omega) (by omega)).1]; exact hz.2.2.2.2.1, by rw [(p6 8 (by omega) (by omega)).1]; exact hz.2.2.2.2.2, fun k hk => absurd hk (Nat.not_lt_zero _)⟩, ⟨by rw [fld 15 (by omega)]; exact h15, fun k hk => absurd hk (Nat.not_lt_zero _)⟩, fun f hf => absurd hf List.not_mem_nil, ?_, ⟨rfl, Nat.zero_le _, fun k hk => absurd hk (Nat.not_lt_zero _)⟩⟩
    · exact Kd.kp (fld 44 (by omega)) (fun q z => b3.2.2.1 q (fun z => z)) (b3.2.2.2 42 (fun z => z)) hK
    · intro k hk
      show s1.2.2.1 1 k = _
      rw [b3.2.2.1 1 (fun z => z)]
      exact hWn k hk
  have J01 : fJ e s (mI s1 37 (Int32.ofNat 0)) := ⟨fun q r => fld q (by omega), fun q r => b3.2.1 q r, fun q r => b3.2.2.1 q (fun z => z), fun q r => b3.2.2.2 q (fun z => z), fun q y r1 r2 => congrFun (b3.2.2.1 q (fun z => z)) y, fun q y r1 r2 => congrFun (b3.2.2.1 q (fun z => z)) y, Kd.kp (fld 44 (by omega)) (fun q z => b3.2.2.1 q (fun z => z)) (b3.2.2.2 42 (fun z => z))⟩
  have hM0 : mf_59_73 N s = mo_bv (TW N N (mI s1 37 (Int32.ofNat 0))) (fun s2 => mf_59_82 N s2) := by
    unfold mf_59_73
    rw [l32_0, b1]
    rfl
  rw [hR0, hM0]
  have hll := TL_len (b := b) (n := n)
  have EF : ∀ k f, eF p k f → eLd p k f := fun k f z => Or.inl z
  have AF : ∀ k, aF p k → aLd p k := fun k z => Or.inl z
  rcases p_text (N := N) (X := X) hN hX hY hZ (TL b n).length 0 [] [] [] t2 (mI s1 37 (Int32.ofNat 0)) 0 N (by omega) hQE (Nat.le_refl _) (by omega) with ⟨t3, s3, k3, i3, code, cl, Fs, c1, c2, c3, c4, c5⟩ | ⟨t3, s3, k3, c1, c2, c3, c4, c5⟩
  · have hT3 := c3 (N - k3)
    rw [show N - k3 + k3 = N by omega] at hT3
    rw [c1, hT3]
    obtain ⟨q1, q2, q3, q4, q5, q6, q7, q8, q9, q10, q11, q12, q13, q14, q15, q16, q17, q18⟩ := c4
    obtain ⟨hi, e5, e6, e7, hkk, ho, he', hlt, hll'⟩ := q1.now
    have hF : okFn Fs := fun f hf => ⟨(q16 f hf).2.2.2.2.2.2.2.1, (q16 f hf).2.2.2.2.2.2.2.2.1⟩
    have hp4 : ∀ k (hk : k < Fs.length), Fs[k].2.2.1 ≤ 4 := fun k hk => (q16 Fs[k] (List.getElem_mem _)).2.2.2.2.2.2.1.2.2
    have s39 : s3.1 9 = Int32.ofNat 0 := q1.2.2.2.2.2.2.2.2.2
    have bs : BS p e code cl Fs t3 s3 := ⟨q2, q3, q7, q8, q9, q14, q15, q16, by omega, by omega, q10, q4, s39⟩
    have hcl8 : cl.length ≤ 800 := by
      have := q8.2.1
      rw [List.length_map] at this
      exact this
    have hR1 : cf_35_76 N X t3 = ko_call 5 (cf_38_L1 N X N 0 (Int32.ofNat 0) t3) (fun g1 v1 => co_v v1 (some (g1, .inl none))) := rfl
    have hM1 : mo_bv (some (s3, none)) (fun s2 => mf_59_82 N s2) = mo_bv (mf_64_L3 N N 0 (-Int32.ofNat 1) (Int32.ofNat 0) 0 0 s3) (fun s1 => mf_59_93 N s1) := by
      show mf_59_82 N s3 = _
      unfold mf_59_82 mf_59_89
      simp (disch := omega) only [ev_S, ev_P, ↓reduceIte, Nat.reduceEqDiff, Nat.reduceLeDiff, Nat.reduceAdd, Nat.reduceMul, Nat.reduceSub, reduceCtorEq, l32_0, l32_1, l32_2, l32_3, l32_4, l32_5, l32_6, l32_7, l32_8, l32_9, l32_10, l32_11, l32_12, l32_13, l32_14, l32_15, l32_16, l32_17, l32_18, l32_19, l32_20, l32_21, l32_22, l32_23, l32_24, l32_25, l32_26, l32_27, l32_28, l32_29, l32_33, l32_40, l32_41, l32_44, l32_45, l32_59, l32_61, l32_91, l32_93, l32_123, l32_125, s39]
      rfl
    rw [hR1, hM1]
    have k310 : kI t3 2 10 = Int32.ofNat 0 := q1.2.2.1.2.1
    have k311 : kI t3 2 11 = -Int32.ofNat 1 := q1.2.2.1.2.2
    have EB : ∀ k f, eBi k f → eLd p k f := fun k f z => Or.inl (Or.inl (Or.inr (Or.inl ⟨z.1, by omega⟩)))
    have AB : ∀ k, aC p k → aLd p k := fun k z => Or.inl (Or.inl (by show k = 7 ∨ k = 8 ∨ k = 9 ∨ k = 10 ∨ k = 11 ∨ k = p + 1 ∨ k = p + 2 ∨ k = p + 3; omega))
    have G3 : gL (eLd p) (aLd p) t t3 := G02.tr (c5.1.mono EF AF)
    -- sizes behind the binding
    have szB : ∀ t4 : cS, gL eBi (aC p) t3 t4 → (∃ LC, cCd t4 p LC) → SZf p t4 := fun t4 g hc => by
      obtain ⟨LC, d1, d2, d3, d4, d5, d6, d7, d8, d9⟩ := hc
      have e : ∀ k, (k = 4 ∨ k = 5 ∨ k = 6 ∨ k = 7 ∨ k = 8 ∨ k = 9 ∨ k = 10 ∨ k = 11 ∨ k = p + 4 ∨ k = p + 5 ∨ k = p + 6 ∨ k = p + 7 ∨ k = p + 8) → kA t4 k = kA t3 k ∧ kB t4 k = kB t3 k := fun k hk => by
        have := g.2.2.1 k (fun z => by rcases hpp with y | y <;> subst y <;> omega) (by rcases hpp with y | y <;> subst y <;> omega)
        exact ⟨this.1, this.2.1⟩
      refine ⟨⟨?_, ?_, ⟨d5, d6, d8, d9⟩, ?_⟩, ?_, ?_, ?_, ?_, ?_⟩
      · rw [(e 4 (by omega)).1, (e 5 (by omega)).1, (e 6 (by omega)).2]
        exact ⟨q1.1.2.2.1, q1.1.2.2.2.1, q1.1.2.2.2.2.2.1, q1.1.2.2.2.2.2.2.1⟩
      · rw [(e 8 (by omega)).1, (e 9 (by omega)).2, (e 10 (by omega)).1, (e 11 (by omega)).1]
        exact ⟨q7.2.2.1, q7.2.2.2.1, q7.2.2.2.2.1, q7.2.2.2.2.2.2.1, q7.2.2.2.2.2.2.2⟩
      · rw [(e 7 (by omega)).2]
        exact q6
      · rw [(e (p + 4) (by omega)).2]
        exact q14.2.2.2.1
      · rw [(e (p + 5) (by omega)).1]
        exact q14.2.2.2.2.1
      · rw [(e (p + 6) (by omega)).1]
        exact q14.2.2.2.2.2.1
      · rw [(e (p + 7) (by omega)).1]
        exact q14.2.2.2.2.2.2.1
      · rw [(e (p + 8) (by omega)).1]
        exact q14.2.2.2.2.2.2.2.1
    rcases p_bnd1 (N := N) (X := X) (p := p) (e := e) (cl := cl) (Fs := Fs) hN he hF hp4 cl.length 0 code t3 s3 N N (Nat.zero_add _) bs (fun k hk hk0 => absurd hk0 (Nat.not_lt_zero _)) k310 (by omega) (by omega) with ⟨t4, s4, code4, f1, f2, f3, f4, f5, f6, f7, f8, f9⟩ | ⟨t4, s4, f1, f2, f3, f4, f5, f6⟩
    · exact Or.inl ⟨t4, s4, code4, cl, Fs, by rw [f1]; rfl, by rw [f2]; rfl, f3, f4, f6, f7.trans k311, f3.2.2.2.2.2.2.2.2.2.2.2.2, G3.tr (f5.mono EB AB), (J01.tr c5.2).tr f9, szB t4 f5 ⟨_, f3.1⟩⟩
    · exact Or.inr ⟨t4, s4, by rw [f1]; rfl, by rw [f2]; rfl, f3, gL.toX (G3.tr (f4.mono EB AB)), (J01.tr c5.2).tr f5, szB t4 f4 f6⟩
  · have hT3 := c3 (N - k3)
    rw [show N - k3 + k3 = N by omega] at hT3
    refine Or.inr ⟨t3, s3, c1, ?_, c4, gX.pre G02 (c5.1.mono EF AF), J01.tr c5.2.1, c5.2.2⟩
    rw [hT3]
    obtain ⟨x, y, v1, v2, v3, v4, v5, v6, v7⟩ := c4
    show mf_59_82 N s3 = _
    have x0 : ¬ x = 0 := by omega
    unfold mf_59_82
    simp (disch := omega) only [ev_S, ev_P, ↓reduceIte, Nat.reduceEqDiff, Nat.reduceLeDiff, Nat.reduceAdd, Nat.reduceMul, Nat.reduceSub, reduceCtorEq, l32_0, l32_1, l32_2, l32_3, l32_4, l32_5, l32_6, l32_7, l32_8, l32_9, l32_10, l32_11, l32_12, l32_13, l32_14, l32_15, l32_16, l32_17, l32_18, l32_19, l32_20, l32_21, l32_22, l32_23, l32_24, l32_25, l32_26, l32_27, l32_28, l32_29, l32_33, l32_40, l32_41, l32_44, l32_45, l32_59, l32_61, l32_91, l32_93, l32_123, l32_125, v6, x0]
end CMQ
