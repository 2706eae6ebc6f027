/-! ===== PURE: run (153): a run begins (the class) ===== -/
/-- what a shelf has -/
def shO (S : Nat → Option (Th 4)) (j : Nat) : Option Nod := (S j).map fun x => (⟨4, x⟩ : Nod)
abbrev eB (σ : Nat) : Nat → Nat → Prop := fun k f => (k = 42 ∧ (f = 1 ∨ f = 3)) ∨ (k = 3000000 + σ ∧ f = 2)
abbrev aB : Nat → Prop := fun k => k = 43 ∨ k = 44 ∨ k = 50 ∨ k = 51
abbrev eBg (σ : Nat) : Nat → Nat → Prop := fun k f => k = 42 ∨ k = 45 ∨ k = 48 ∨ (k = 3000000 + σ ∧ f = 2)
section BGC
variable {N : Nat} {X : Nat → Option zz_C} {S : Nat → Option (Th 4)} {σ0 k j u w i : Nat} {μ : Nat → Nat} {t t1 t2 tb : cS} {s : mS} {x1 x2 : Int32}
/-- a shelf is read -/
theorem c_get (hN : 170000 ≤ N) (h : iS S σ0 k μ t s) (hh : cHp t u 0) (hj : j < 8) (hu : u + 2400 ≤ 162000) : ∃ t' v u', cf_215 N X σ0 (Int32.ofNat j) t = some (t', .inl (some (.long v))) ∧ cC (cel t') u' v (shO S j) ∧ cHp t' u' 0 ∧ rfr σ0 t t' ∧ u ≤ u' ∧ u' ≤ u + 2400 ∧ ∀ y, y < u → cel t' y = cel t y := by
  have hS := (h.2.2.2.2.2.1 j hj).1
  have h0 := h.2.2.2.2.1.1
  have kh := h0.1
  have l10 := h0.2.1
  have hcl : Int32.toNatClampNeg (Int32.ofNat j) = j := i32c (by omega)
  have hg : ¬ (Int32.ofNat j < 0 ∨ 8 ≤ j) := fun q => q.elim (i32n (by omega)) (by omega)
  have hwT := h.2.2.2.2.2.2.1 j
  unfold shO
  cases hx : S j with
  | none =>
    rw [hx] at hS
    have e0 : (kA t (2000000 + 20 * σ0 + 10)).2 j = 0 := hS.1
    refine ⟨t, bare, u, ?_, rfl, hh, rfr.rf, Nat.le_refl _, by omega, fun _ _ => rfl⟩
    unfold cf_215 cf_215_0
    rw [if_pos kh, l10, hcl, if_pos hg, e0, if_neg (fun q => q rfl)]
    rfl
  | some x =>
    rw [hx] at hS
    have hw : wfT 4 x := hwT x hx
    have hbw := bulk_wf 4 x hw
    have hsl := ser_len 4 x
    have hS : cS1 t σ0 j (ser 4 x) := hS
    have hpos : 1 ≤ (ser 4 x).length := by
      obtain ⟨l, e⟩ := ser_kd 4 x
      rw [e, List.length_cons]
      omega
    have e0 : ¬ (kA t (2000000 + 20 * σ0 + 10)).2 j = 0 := fun q => by
      rw [hS.1] at q
      have := ofNat_inj (b := 0) (by omega) (by omega) q
      omega
    have hRd : cRd (jI t (3000000 + σ0) 2 (Int32.ofNat 0)) σ0 j (ser 4 x) 0 := ⟨h0, hS, by show (if 3000000 + σ0 = 3000000 + σ0 ∧ 2 = 2 then _ else _) = _; rw [if_pos ⟨rfl, rfl⟩], by omega, hj⟩
    obtain ⟨t', v, u', a1, a2, a3, a4, a5, a6, a7, a8, a9, a10⟩ := c_readThing (N := N) (X := X) (σ := σ0) (j := j) (ξ := ser 4 x) hN 4 7 0 x hw (by omega) (jI t (3000000 + σ0) 2 (Int32.ofNat 0)) u 0 0 [] hRd (cHp_ix (by omega) hh) (by rw [List.drop_zero, List.append_nil]) (by omega) (by show u + 4 * bulk 4 x ≤ _; omega)
    have a8 : u' + 1 ≤ u + 4 * bulk 4 x := a8
    refine ⟨t', v, u', ?_, a2, a3, rfr.tr rfr.ix a4, a7, by omega, a9⟩
    have a1 : cf_S4 N X 12 217 [.ref σ0, .int (Int32.ofNat j), .int 0] (jI t (3000000 + σ0) 2 0) = some (t', .inl (some (.long v))) := a1
    unfold cf_215 cf_215_0
    rw [if_pos kh, l10, hcl, if_pos hg, if_pos e0]
    unfold cf_215_15
    rw [if_pos kh, a1]
    rfl
/-- shelves 0 .. i - 1 are there -/
def BL (S : Nat → Option (Th 4)) (σ0 k : Nat) (μ : Nat → Nat) (s : mS) (tb : cS) (i : Nat) (t : cS) : Prop := gf (eB σ0) aB tb t ∧ iS S σ0 k μ t s ∧ ((kB t 50).1 = 8 ∧ (kA t 51).1 = 8) ∧ ∃ u, cHp t u 0 ∧ u ≤ 2400 * i ∧ ∀ j, j < i → cC (cel t) u ((kB t 50).2 j) (shO S j) ∧ (kA t 51).2 j = 0
theorem c_begL (hN : 170000 ≤ N) : ∀ (d i Q : Nat) (t : cS), i + d = 8 → BL S σ0 k μ s tb i t → ∃ t2, cf_6_L7 N X (Q + (d + 1)) 0 x1 x2 (Int32.ofNat i) t = cf_6_98 N X x1 x2 t2 ∧ BL S σ0 k μ s tb 8 t2 := by
  intro d
  induction d with
  | zero =>
    intro i Q t hi H
    have hi : i = 8 := hi
    subst hi
    exact ⟨t, rfl, H⟩
  | succ d ih =>
    intro i Q t hi H
    obtain ⟨H1, H2, ⟨l50, l51⟩, u, H4, H5, H6⟩ := H
    obtain ⟨t', v, u', a1, a2, a3, a4, a5, a6, a7⟩ := c_get (N := N) (X := X) hN H2 H4 (j := i) (by omega) (by omega)
    have g4 := a4.gf
    have l50' : (kB t' 50).1 = 8 := by rw [(g4.2.2.2.1 50 (by omega) (by omega)).2.1]; exact l50
    have l51' : (kA t' 51).1 = 8 := by rw [(g4.2.2.2.1 51 (by omega) (by omega)).1]; exact l51
    have e50 : (kB t' 50).2 = (kB t 50).2 := by rw [(g4.2.2.2.1 50 (by omega) (by omega)).2.1]
    have e51 : (kA t' 51).2 = (kA t 51).2 := by rw [(g4.2.2.2.1 51 (by omega) (by omega)).1]
    have hcl : Int32.toNatClampNeg (Int32.ofNat i) = i := i32c (by omega)
    have hg : ¬ (Int32.ofNat i < 0 ∨ 8 ≤ i) := fun q => q.elim (i32n (by omega)) (by omega)
    obtain ⟨t'', ht⟩ : ∃ t'', t'' = jA (jB t' 50 (vp_updL (kB t' 50).2 i v)) 51 (upd (kA t' 51).2 i (vp_nar (zz_ty 3) 0)) := ⟨_, rfl⟩
    have e137 : cf_137 N X (Int32.ofNat i) v t' = some (t'', .inl none) := by
      unfold cf_137 cf_137_0
      rw [l50', l51', hcl, if_pos hg, if_pos hg, ht]
    have g5 : gf (fun _ _ => False) (fun k => k = 50 ∨ k = 51) t' t'' := by
      rw [ht]
      refine ⟨fun _ _ _ => rfl, rfl, rfl, fun k r1 r2 => ⟨?_, ?_, rfl⟩, rfl, rfl, Nat.le_refl _, Nat.le_refl _, Nat.le_refl _⟩
      · show (if k = 51 then _ else kA t' k) = _
        rw [if_neg (by omega)]
      · show (if k = 50 then _ else kB t' k) = _
        rw [if_neg (by omega)]
    have ec : cel t'' = cel t' := by unfold cel; rw [(g5.2.2.2.1 43 (by omega) (by omega)).2.1]
    have H' : BL S σ0 k μ s tb (i + 1) t'' := by
      refine ⟨H1.tr ((g4.mono (fun k f q => q) (fun k q => by rcases q with q | q; exact Or.inl q; exact Or.inr (Or.inl q))).tr (g5.mono (fun k f q => q.elim) (fun k q => by rcases q with q | q; exact Or.inr (Or.inr (Or.inl q)); exact Or.inr (Or.inr (Or.inr q))))), (H2.rd a4).gf g5 (fun q => q) (fun k q => by omega) rfl rfl, ⟨?_, ?_⟩, u', g5.hp a3 (fun q => q) (fun q => q) (by omega) (by omega) (by omega), by omega, fun j hj => ?_⟩
      · rw [ht]; exact l50'
      · rw [ht]; exact l51'
      · rw [ec, ht]
        show cC (cel t') u' (if j = i then v else (kB t' 50).2 j) (shO S j) ∧ (if j = i then _ else (kA t' 51).2 j) = _
        by_cases c : j = i
        · rw [if_pos c, if_pos c, c]
          exact ⟨a2, rfl⟩
        · rw [if_neg c, if_neg c, e50, e51]
          obtain ⟨p1, p2⟩ := H6 j (by omega)
          exact ⟨p1.mono a7 a5, p2⟩
    obtain ⟨t2, b1, b2⟩ := ih (i + 1) Q t'' (by omega) H'
    refine ⟨t2, ?_, b2⟩
    rw [← b1]
    show cf_6_63 N X (cf_6_L7 N X (Q + (d + 1))) x1 x2 (Int32.ofNat i) t = _
    have n8 : ¬ 8 ≤ i := by omega
    have hP : kP t 0 7 = some σ0 := H2.2.1
    have kh : kH t σ0 = true := H2.2.2.2.2.1.1.1
    unfold cf_6_63 cf_6_70 cf_6_89 cf_6_92
    simp (disch := omega) only [ev_S, ev_C, ↓reduceIte, Nat.reduceEqDiff, Nat.reduceLeDiff, Nat.reduceAdd, Nat.reduceMul, Nat.reduceSub, reduceCtorEq, l32_0, l32_1, l32_2, l32_3, l32_4, l32_5, l32_6, l32_7, l32_8, l32_9, l32_10, l32_11, l32_12, l32_13, l32_14, l32_15, l32_16, l32_17, l32_18, l32_19, l32_20, l32_21, l32_22, l32_23, l32_24, l32_25, l32_26, l32_27, l32_28, l32_29, l32_33, l32_40, l32_41, l32_44, l32_45, l32_59, l32_61, l32_91, l32_93, l32_123, l32_125, n8, hP, kh, a1, e137]
/-- all that comes before the acts -/
theorem c_beg {l : List Int32} {fu : Nat} (hN : 170000 ≤ N) (h : iS S σ0 k μ t s) (hH : iH t) (h50 : (kB t 50).1 = 8 ∧ (kA t 51).1 = 8) (hO : cOut t l) : ∃ t2 u, cf_6_38 N X x1 x2 (Int32.ofNat fu) t = cf_6_98 N X x1 x2 t2 ∧ gf (eBg σ0) aB t t2 ∧ iS S σ0 k μ t2 s ∧ (cHp t2 u 0 ∧ u ≤ 19200) ∧ (∀ j, j < 8 → cC (cel t2) u ((kB t2 50).2 j) (shO S j) ∧ (kA t2 51).2 j = 0) ∧ cTy t2 fu (0, 0, 0, 0) ∧ (kI t2 48 6 = Int32.ofNat 0 ∧ kI t2 48 7 = -Int32.ofNat 1 ∧ kI t2 48 8 = Int32.ofNat 0) ∧ kI t2 48 0 = 1 ∧ cOut t2 [] ∧ ((kB t2 50).1 = 8 ∧ (kA t2 51).1 = 8) := by
  obtain ⟨tb, htb⟩ : ∃ tb, tb = jI (jI (jI (jI (jI (jI (jI (jI (jI (jI (jI (jI t 45 1 0) 42 1 0) 42 3 0) 48 0 1) 48 1 (Int32.ofNat fu)) 48 2 0) 48 3 0) 48 4 0) 48 5 0) 48 6 0) 48 7 (-1)) 48 8 0 := ⟨_, rfl⟩
  have gb : gf (fun k f => k = 42 ∨ k = 45 ∨ k = 48) (fun _ => False) t tb := by
    rw [htb]
    refine ⟨fun k f r => ?_, rfl, rfl, fun _ _ _ => ⟨rfl, rfl, rfl⟩, rfl, rfl, Nat.le_refl _, Nat.le_refl _, Nat.le_refl _⟩
    show (if k = 48 ∧ f = 8 then _ else if k = 48 ∧ f = 7 then _ else if k = 48 ∧ f = 6 then _ else if k = 48 ∧ f = 5 then _ else if k = 48 ∧ f = 4 then _ else if k = 48 ∧ f = 3 then _ else if k = 48 ∧ f = 2 then _ else if k = 48 ∧ f = 1 then _ else if k = 48 ∧ f = 0 then _ else if k = 42 ∧ f = 3 then _ else if k = 42 ∧ f = 1 then _ else if k = 45 ∧ f = 1 then _ else kI t k f) = _
    repeat rw [if_neg (by omega)]
  have E : cf_6_38 N X x1 x2 (Int32.ofNat fu) t = cf_6_L7 N X N 0 x1 x2 (Int32.ofNat 0) tb := by rw [htb]; rfl
  have Ib : iS S σ0 k μ tb s := h.gf gb (by omega) (fun k q => q.elim) rfl rfl
  obtain ⟨q1, q2, q3, q4, q5⟩ := hH
  have hb : cHp tb 0 0 := by
    rw [htb]
    exact ⟨rfl, rfl, Nat.zero_le _, Nat.zero_le _, q1, q2, q3, q4, q5⟩
  have B0 : BL S σ0 k μ s tb 0 tb := ⟨gf.rf, Ib, by rw [htb]; exact h50, 0, hb, Nat.le_refl _, fun j hj => absurd hj (Nat.not_lt_zero _)⟩
  obtain ⟨t2, b1, H1, H2, H3, u, H4, H5, H6⟩ := c_begL (N := N) (X := X) (x1 := x1) (x2 := x2) hN 8 0 (N - 9) tb (Nat.zero_add _) B0
  rw [show N - 9 + (8 + 1) = N by omega] at b1
  have iq : ∀ k f, k = 48 ∨ k = 45 → kI t2 k f = kI tb k f := fun k f q => H1.1 k f (by omega)
  have c0 : cOut tb [] := by
    obtain ⟨z1, z2, z3, z4, z5, z6, z7⟩ := hO
    rw [htb]
    exact ⟨rfl, fun i hi => absurd hi (Nat.not_lt_zero _), z3, Or.inl (Nat.zero_le _), z5, z6, z7⟩
  refine ⟨t2, u, by rw [E, b1], (gb.mono (fun k f q => by rcases q with q | q | q; exact Or.inl q; exact Or.inr (Or.inl q); exact Or.inr (Or.inr (Or.inl q))) (fun k q => q.elim)).tr (H1.mono (fun k f q => by rcases q with q | q; exact Or.inl q.1; exact Or.inr (Or.inr (Or.inr q))) (fun k q => q)), H2, ⟨H4, H5⟩, H6, ⟨?_, ?_, ?_, ?_, ?_⟩, ⟨?_, ?_, ?_⟩, ?_, H1.out (by omega) (by omega) (by omega) c0, H3⟩
  · rw [iq 48 1 (Or.inl rfl), htb]; rfl
  · rw [iq 48 2 (Or.inl rfl), htb]; rfl
  · rw [iq 48 3 (Or.inl rfl), htb]; rfl
  · rw [iq 48 4 (Or.inl rfl), htb]; rfl
  · rw [iq 48 5 (Or.inl rfl), htb]; rfl
  · rw [iq 48 6 (Or.inl rfl), htb]; rfl
  · rw [iq 48 7 (Or.inl rfl), htb]; rfl
  · rw [iq 48 8 (Or.inl rfl), htb]; rfl
  · rw [iq 48 0 (Or.inl rfl), htb]; rfl
end BGC
