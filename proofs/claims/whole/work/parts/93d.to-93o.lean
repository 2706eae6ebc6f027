-- ### 93d.pure.lean.txt
section
/-! ===== PURE: statements (3): an E between two signs; plain statements ===== -/
/-- the class passes a sign, an E, a sign -/
abbrev cH (N : Nat) (X : Nat → Option zz_C) (c1 c2 : Nat) (K : cS → kO) (t : cS) : kO := ko_call 5 (cf_201 N X (Int32.ofNat c1) t) (fun g v => co_v v (ko_call 5 (cf_S0 N X 150 186 [.int (Int32.ofNat 0)] g) (fun g v => co_v v (ko_call 5 (cf_201 N X (Int32.ofNat c2) g) (fun g v => co_v v (K g))))))
/-- and the reference -/
abbrev rH (N : Nat) (c2 : Nat) (R : mO) (K : mS → mO) : mO := mo_bv R (fun a => mo_bv (mf_285 N (Int32.ofNat 0) a) (fun b => mo_bv (mf_267 N (Int32.ofNat c2) b) K))
/-- a statement without a block -/
def SR (b : Nat → Nat) (n p e i op D : Nat) (code : List Ins) (cu : List Nat) (fs : Nat × Nat × Nat) (t : cS) (s : mS) (R : kO) (M : mO) : Prop := (∃ t' s' i' seg vs' cl' W', R = some (t', .inl none) ∧ M = some (s', none) ∧ i < i' ∧ PE b n p e i' op D (code ++ seg) (code ++ seg) vs' cl' W' cu fs t' s' ∧ FR p e t t' s s') ∨ (∃ t' s', R = some (t', .inr ()) ∧ M = some (s', none) ∧ pF t' s' ∧ FXs p e t t' s s')
section PLN
variable {N : Nat} {X : Nat → Option zz_C} {t t' t1 t2 : cS} {s s' s1 s2 : mS} {b : Nat → Nat} {n p e i op D D' : Nat} {code code1 : List Ins} {vs : List (List Nat)} {cl : List Cn} {W : List Wt} {cu : List Nat} {fs : Nat × Nat × Nat} {Bs : List (Int32 × Int32 × Int32)}
theorem oB.e44 {x : Int32} (h : oB s) : oB (mI s 44 x) := h
theorem fQ_44 : fQ e s (mI s 44 0) := ⟨fun q r => if_neg (by omega), fun _ _ => rfl, fun _ _ => rfl, fun _ _ => rfl, fun _ _ _ _ => rfl, fun _ => Kd_0⟩
theorem FX.e44 (h : FX p e t t' s s1) : FX p e t t' s (mI s1 44 0) := h.post fQ_44 h.2.2.1
theorem pF.e44 {x : Int32} (h : pF t s) : pF t (mI s 44 x) := h
/-- E and a sign behind it -/
theorem p_esg {c2 : Nat} (hN : 170000 ≤ N) (hX : oX N X) (hY : oY X) (hc2 : c2 = 41 ∨ c2 = 93 ∨ c2 = 59) (ho : c2 = 41 ∨ c2 = 93 → 1 ≤ op) (h : PE b n p e i op D code code vs cl W cu fs t s) (hwn : rWn s) (hD : 1 ≤ D) : (∃ t' s' i' seg vs' cl', (∀ K : cS → kO, ko_call 5 (cf_S0 N X 150 186 [.int (Int32.ofNat 0)] t) (fun g v => co_v v (ko_call 5 (cf_201 N X (Int32.ofNat c2) g) (fun g v => co_v v (K g)))) = K t') ∧ (∀ K : mS → mO, mo_bv (mf_285 N (Int32.ofNat 0) s) (fun b => mo_bv (mf_267 N (Int32.ofNat c2) b) K) = K s') ∧ i + 1 < i' ∧ vs.length ≤ vs'.length ∧ PE b n p e i' (if c2 = 41 ∨ c2 = 93 ∨ c2 = 125 then op - 1 else op) (D + 1) (code ++ seg) (code ++ seg) vs' cl' [] (0 :: cu) fs t' s' ∧ FR p e t t' s s') ∨ (∃ t' s', (∀ K : cS → kO, ko_call 5 (cf_S0 N X 150 186 [.int (Int32.ofNat 0)] t) (fun g v => co_v v (ko_call 5 (cf_201 N X (Int32.ofNat c2) g) (fun g v => co_v v (K g)))) = some (t', .inr ())) ∧ (∀ K : mS → mO, mo_bv (mf_285 N (Int32.ofNat 0) s) (fun b => mo_bv (mf_267 N (Int32.ofNat c2) b) K) = K s') ∧ pF t' s' ∧ FX p e t t' s s') := by
  rcases p_exp hN hX hY h hwn hD with ⟨t1, s1, i1, seg, vs1, cl1, a1, a2, a3, av, a4, a5⟩ | ⟨t1, s1, a1, a2, a3, a4⟩
  · rcases a4.sgn (N := N) (X := X) (c := c2) hN (by omega) (fun z => ho (by omega)) with ⟨t2, s2, b1, b2, b3, b4, b5, b6⟩ | ⟨t2, s2, b1, b2, b3, b4, b5⟩
    · refine Or.inl ⟨t2, s2, i1 + 1, seg, vs1, cl1, fun K => ?_, fun K => ?_, by omega, av, b4, a5.tr b5⟩
      · rw [a1]
        show ko_call 5 (cf_201 N X (Int32.ofNat c2) t1) _ = _
        rw [b1]
        rfl
      · rw [a2]
        show mo_bv (mf_267 N (Int32.ofNat c2) s1) K = _
        rw [b2]
        rfl
    · refine Or.inr ⟨t2, s2, fun K => ?_, fun K => ?_, b3, a5.pre b4⟩
      · rw [a1]
        show ko_call 5 (cf_201 N X (Int32.ofNat c2) t1) _ = _
        rw [b1]
        rfl
      · rw [a2]
        show mo_bv (mf_267 N (Int32.ofNat c2) s1) K = _
        rw [b2]
        rfl
  · obtain ⟨x, y, v1, v2, v3, v4, v5, v6, v7⟩ := a3
    refine Or.inr ⟨t1, s1, fun K => ?_, fun K => ?_, ⟨x, y, v1, v2, v3, v4, v5, v6, v7⟩, a4⟩
    · rw [a1]
      rfl
    · rw [a2]
      show mo_bv (mf_267 N (Int32.ofNat c2) s1) K = _
      rw [r_signF v6 ⟨v1, v2⟩]
      rfl
/-- a bracket, an E, a bracket -/
theorem p_brk {c1 c2 : Nat} (hN : 170000 ≤ N) (hX : oX N X) (hY : oY X) (hc : (c1 = 40 ∧ c2 = 41) ∨ (c1 = 91 ∧ c2 = 93)) (h : PE b n p e i op D code code vs cl W cu fs t s) (hwn : rWn s) : (∃ t' s' i' seg vs' cl', (∀ K, cH N X c1 c2 K t = K t') ∧ (∀ K, rH N c2 (mf_268 N (Int32.ofNat c1) s) K = K s') ∧ i + 2 < i' ∧ vs.length ≤ vs'.length ∧ PE b n p e i' op (D + 2) (code ++ seg) (code ++ seg) vs' cl' [] (0 :: cu) fs t' s' ∧ FR p e t t' s s') ∨ (∃ t' s', (∀ K, cH N X c1 c2 K t = some (t', .inr ())) ∧ (∀ K, rH N c2 (mf_268 N (Int32.ofNat c1) s) K = K s') ∧ pF t' s' ∧ FX p e t t' s s') := by
  rcases h.opn (N := N) (X := X) (c := c1) hN (by omega) with ⟨t1, s1, a1, a2, a3, a4, a5, a6⟩ | ⟨t1, s1, a1, a2, a3, a4, a5⟩
  · rcases p_esg (c2 := c2) hN hX hY (by omega) (fun _ => by omega) a5 (hwn.kp a6.2) (by omega) with ⟨t2, s2, i2, seg, vs2, cl2, b1, b2, b3, bv, b4, b5⟩ | ⟨t2, s2, b1, b2, b3, b4⟩
    · rw [if_pos (by omega), Nat.add_sub_cancel] at b4
      refine Or.inl ⟨t2, s2, i2, seg, vs2, cl2, fun K => ?_, fun K => ?_, by omega, bv, b4, a6.tr b5⟩
      · show ko_call 5 (cf_201 N X (Int32.ofNat c1) t) _ = _
        rw [a1]
        exact b1 K
      · rw [a2]
        exact b2 K
    · refine Or.inr ⟨t2, s2, fun K => ?_, fun K => ?_, b3, a6.pre b4⟩
      · show ko_call 5 (cf_201 N X (Int32.ofNat c1) t) _ = _
        rw [a1]
        exact b1 K
      · rw [a2]
        exact b2 K
  · obtain ⟨x, y, v1, v2, v3, v4, v5, v6, v7⟩ := a3
    refine Or.inr ⟨t1, mI s1 44 0, fun K => ?_, fun K => ?_, ⟨x, y, v1, v2, v3, v4, v5, v6, v7⟩, a4.e44⟩
    · show ko_call 5 (cf_201 N X (Int32.ofNat c1) t) _ = _
      rw [a1]
      rfl
    · rw [a2]
      show mo_bv (mf_285 N (Int32.ofNat 0) s1) _ = _
      rw [r_exprF hN v6 ⟨v1, v2⟩]
      show mo_bv (mf_267 N (Int32.ofNat c2) (mI s1 44 0)) K = _
      rw [r_signF (s := mI s1 44 0) v6 ⟨v1, v2⟩]
      rfl
/-- =, an E, ; -/
theorem p_eqs (hN : 170000 ≤ N) (hX : oX N X) (hY : oY X) (h : PE b n p e i op D code code vs cl W cu fs t s) (hwn : rWn s) : (∃ t' s' i' seg vs' cl', (∀ K, cH N X 61 59 K t = K t') ∧ (∀ K, rH N 59 (mf_267 N (Int32.ofNat 61) s) K = K s') ∧ i + 2 < i' ∧ vs.length ≤ vs'.length ∧ PE b n p e i' op (D + 2) (code ++ seg) (code ++ seg) vs' cl' [] (0 :: cu) fs t' s' ∧ FR p e t t' s s') ∨ (∃ t' s', (∀ K, cH N X 61 59 K t = some (t', .inr ())) ∧ (∀ K, rH N 59 (mf_267 N (Int32.ofNat 61) s) K = K s') ∧ pF t' s' ∧ FX p e t t' s s') := by
  rcases h.sgn (N := N) (X := X) (c := 61) hN (by omega) (fun z => by omega) with ⟨t1, s1, a1, a2, a3, a5, a6, a7⟩ | ⟨t1, s1, a1, a2, a3, a4, a5⟩
  · rw [if_neg (by omega)] at a5
    rcases p_esg (c2 := 59) hN hX hY (by omega) (fun z => by omega) a5 (hwn.kp a6.2) (by omega) with ⟨t2, s2, i2, seg, vs2, cl2, b1, b2, b3, bv, b4, b5⟩ | ⟨t2, s2, b1, b2, b3, b4⟩
    · rw [if_neg (by omega)] at b4
      refine Or.inl ⟨t2, s2, i2, seg, vs2, cl2, fun K => ?_, fun K => ?_, by omega, bv, b4, a6.tr b5⟩
      · show ko_call 5 (cf_201 N X (Int32.ofNat 61) t) _ = _
        rw [a1]
        exact b1 K
      · rw [a2]
        exact b2 K
    · refine Or.inr ⟨t2, s2, fun K => ?_, fun K => ?_, b3, a6.pre b4⟩
      · show ko_call 5 (cf_201 N X (Int32.ofNat 61) t) _ = _
        rw [a1]
        exact b1 K
      · rw [a2]
        exact b2 K
  · obtain ⟨x, y, v1, v2, v3, v4, v5, v6, v7⟩ := a3
    refine Or.inr ⟨t1, mI s1 44 0, fun K => ?_, fun K => ?_, ⟨x, y, v1, v2, v3, v4, v5, v6, v7⟩, a4.e44⟩
    · show ko_call 5 (cf_201 N X (Int32.ofNat 61) t) _ = _
      rw [a1]
      rfl
    · rw [a2]
      show mo_bv (mf_285 N (Int32.ofNat 0) s1) _ = _
      rw [r_exprF hN v6 ⟨v1, v2⟩]
      show mo_bv (mf_267 N (Int32.ofNat 59) (mI s1 44 0)) K = _
      rw [r_signF (s := mI s1 44 0) v6 ⟨v1, v2⟩]
      rfl
/-- the class's act and the reference's order at a statement's end -/
theorem eff_p1 {c : Ins} (h : c.1 = 11 ∨ c.1 = 19 ∨ c.1 = 20 ∨ c.1 = 21 ∨ c.1 = 22) : eff c (0 :: 5 :: cu) = some cu := by
  obtain ⟨o, j, r, a, q, x, y⟩ := c
  have h : o = 11 ∨ o = 19 ∨ o = 20 ∨ o = 21 ∨ o = 22 := h
  rcases h with h | h | h | h | h <;> subst h <;> rfl
theorem eff_id {c : Ins} (h : c.1 = 25) : eff c (9 :: cu) = some cu := by
  obtain ⟨o, j, r, a, q, x, y⟩ := c
  have h : o = 25 := h
  subst h
  rfl
theorem eff_15 {c : Ins} (h : c.1 = 15) : eff c (5 :: cu) = some (5 :: 5 :: cu) := by
  obtain ⟨o, j, r, a, q, x, y⟩ := c
  have h : o = 15 := h
  subst h
  rfl
/-- no expression is under way -/
def noX (L : List Nat) : Prop := ∀ M, ¬ L = 0 :: M ∧ ¬ L = 1 :: M
theorem noX_2 {x : Nat} {L : List Nat} : noX ((x + 2) :: L) := fun M => ⟨fun q => (by cases q), fun q => (by cases q)⟩
theorem noX_0 : noX [] := fun M => ⟨fun q => (by cases q), fun q => (by cases q)⟩
theorem eff_16 {c : Ins} (h : c.1 = 16) (hs : noX cu) : eff c cu = some (5 :: cu) := by
  obtain ⟨o, j, r, a, q, x, y⟩ := c
  have h : o = 16 := h
  subst h
  cases cu with
  | nil => rfl
  | cons z M =>
    match z, hs with
    | 0, hs => exact absurd rfl (hs M).1
    | 1, hs => exact absurd rfl (hs M).2
    | z + 2, _ => rfl
/-- say, return, raise -/
theorem p_plain {w pl : Nat} (hN : 170000 ≤ N) (hX : oX N X) (hY : oY X) (hw : w = 6 ∨ w = 7 ∨ w = 8) (h : PE b n p e i op D code code vs cl W (5 :: cu) fs t s) (hwn : rWn s) (hb : rB s Bs) (hk : ∀ hi : i < (TL b n).length, (TL b n)[i].1 = 3) : SR b n p e i op (D + 1) code cu fs t s (cf_179 N X (Int32.ofNat (w + 1)) (Int32.ofNat pl) t) (mf_279_271 N (Int32.ofNat pl) (Int32.ofNat w) s) := by
  obtain ⟨hi, -⟩ := h.1.now
  obtain ⟨t1, s1, a1, a2, a3, a4, a5⟩ := h.adv (N := N) (X := X) hN (fun _ => by have := hk hi; omega)
  have hR : cf_179 N X (Int32.ofNat (w + 1)) (Int32.ofNat pl) t = ko_call 5 (cf_S0 N X 150 186 [.int (Int32.ofNat 0)] t1) (fun g v => co_v v (ko_call 5 (cf_201 N X (Int32.ofNat 59) g) (fun g v => co_v v (cf_179_18 N X (Int32.ofNat (w + 1)) (Int32.ofNat pl) g)))) := by
    unfold cf_179 cf_179_0
    simp (disch := omega) only [ev_S, ev_C, ↓reduceIte, Nat.reduceEqDiff, Nat.reduceLeDiff, Nat.reduceAdd, Nat.reduceMul, Nat.reduceSub, reduceCtorEq, l32_0, l32_1, l32_2, l32_3, l32_4, l32_5, l32_6, l32_7, l32_8, l32_9, l32_10, l32_11, l32_12, l32_13, l32_14, l32_15, l32_16, l32_17, l32_18, l32_19, l32_20, l32_21, l32_22, l32_23, l32_24, l32_25, l32_26, l32_27, l32_28, l32_29, l32_33, l32_40, l32_41, l32_44, l32_45, l32_59, l32_61, l32_91, l32_93, l32_123, l32_125, a1]
    rfl
  have hM : mf_279_271 N (Int32.ofNat pl) (Int32.ofNat w) s = mo_bv (mf_285 N (Int32.ofNat 0) s1) (fun b => mo_bv (mf_267 N (Int32.ofNat 59) b) (fun s => mo_bi (mf_271 N (Int32.ofNat (w + 13)) (Int32.ofNat 0) (Int32.ofNat 0) (Int32.ofNat pl) s) (fun s y => some (s, none)))) := by
    have e1 : mf_279_271 N (Int32.ofNat pl) (Int32.ofNat w) s = mo_bv (mf_285 N (Int32.ofNat 0) s1) (fun b => mo_bv (mf_267 N (Int32.ofNat 59) b) (fun s => mf_279_286 N (Int32.ofNat pl) (Int32.ofNat w) s)) := by
      unfold mf_279_271
      simp (disch := omega) only [ev_S, ev_P, ↓reduceIte, Nat.reduceEqDiff, Nat.reduceLeDiff, Nat.reduceAdd, Nat.reduceMul, Nat.reduceSub, reduceCtorEq, l32_0, l32_1, l32_2, l32_3, l32_4, l32_5, l32_6, l32_7, l32_8, l32_9, l32_10, l32_11, l32_12, l32_13, l32_14, l32_15, l32_16, l32_17, l32_18, l32_19, l32_20, l32_21, l32_22, l32_23, l32_24, l32_25, l32_26, l32_27, l32_28, l32_29, l32_33, l32_40, l32_41, l32_44, l32_45, l32_59, l32_61, l32_91, l32_93, l32_123, l32_125, a2]
      rfl
    rw [e1]
    have e2 : (fun s => mf_279_286 N (Int32.ofNat pl) (Int32.ofNat w) s) = (fun s => mo_bi (mf_271 N (Int32.ofNat (w + 13)) (Int32.ofNat 0) (Int32.ofNat 0) (Int32.ofNat pl) s) (fun s y => some (s, none))) := by
      funext s
      rcases hw with z | z | z <;> subst z
      · unfold mf_279_286 mf_279_293 mf_279_311
        simp (disch := omega) only [ev_S, ev_P, ↓reduceIte, Nat.reduceEqDiff, Nat.reduceLeDiff, Nat.reduceAdd, Nat.reduceMul, Nat.reduceSub, reduceCtorEq, l32_0, l32_1, l32_2, l32_3, l32_4, l32_5, l32_6, l32_7, l32_8, l32_9, l32_10, l32_11, l32_12, l32_13, l32_14, l32_15, l32_16, l32_17, l32_18, l32_19, l32_20, l32_21, l32_22, l32_23, l32_24, l32_25, l32_26, l32_27, l32_28, l32_29, l32_33, l32_40, l32_41, l32_44, l32_45, l32_59, l32_61, l32_91, l32_93, l32_123, l32_125]
        rfl
      · unfold mf_279_286 mf_279_298 mf_279_304 mf_279_311
        simp (disch := omega) only [ev_S, ev_P, ↓reduceIte, Nat.reduceEqDiff, Nat.reduceLeDiff, Nat.reduceAdd, Nat.reduceMul, Nat.reduceSub, reduceCtorEq, l32_0, l32_1, l32_2, l32_3, l32_4, l32_5, l32_6, l32_7, l32_8, l32_9, l32_10, l32_11, l32_12, l32_13, l32_14, l32_15, l32_16, l32_17, l32_18, l32_19, l32_20, l32_21, l32_22, l32_23, l32_24, l32_25, l32_26, l32_27, l32_28, l32_29, l32_33, l32_40, l32_41, l32_44, l32_45, l32_59, l32_61, l32_91, l32_93, l32_123, l32_125]
        rfl
      · unfold mf_279_286 mf_279_298 mf_279_309 mf_279_311
        simp (disch := omega) only [ev_S, ev_P, ↓reduceIte, Nat.reduceEqDiff, Nat.reduceLeDiff, Nat.reduceAdd, Nat.reduceMul, Nat.reduceSub, reduceCtorEq, l32_0, l32_1, l32_2, l32_3, l32_4, l32_5, l32_6, l32_7, l32_8, l32_9, l32_10, l32_11, l32_12, l32_13, l32_14, l32_15, l32_16, l32_17, l32_18, l32_19, l32_20, l32_21, l32_22, l32_23, l32_24, l32_25, l32_26, l32_27, l32_28, l32_29, l32_33, l32_40, l32_41, l32_44, l32_45, l32_59, l32_61, l32_91, l32_93, l32_123, l32_125]
        rfl
    rw [e2]
  rw [hR, hM]
  have f1 : FR p e t t1 s s1 := ⟨a4, a5⟩
  rcases p_esg (c2 := 59) hN hX hY (by omega) (fun z => by omega) a3 (hwn.kp a5) (by omega) with ⟨t2, s2, i2, seg, vs2, cl2, b1, b2, b3, bv, b4, b5⟩ | ⟨t2, s2, b1, b2, b3, b4⟩
  · rw [if_neg (by omega)] at b4
    have hP : kP t2 2 1 = some p := b4.2.1.1
    have hp : (p = 12 ∨ p = 21) = True := eq_true b4.2.1.2.1
    have hI : cI (code ++ seg) (posC (code ++ seg) (code ++ seg).length) (w + 13, 0, 0, 0, Int32.ofNat pl, 0, 0) = [(Int32.ofNat (w + 1), Int32.ofNat 0, Int32.ofNat pl)] := by
      rcases hw with z | z | z <;> subst z <;> rfl
    have hRI : rI e (code ++ seg) (w + 13, 0, 0, 0, Int32.ofNat pl, 0, 0) = [(Int32.ofNat (w + 13), Int32.ofNat 0, Int32.ofNat 0, 0, Int32.ofNat pl)] := by
      rcases hw with z | z | z <;> subst z <;> rfl
    obtain ⟨t3, s3, c1, c2, c3, c4, c5⟩ := b4.bo (N := N) (X := X) (D' := D + 1) (cu' := cu) hI hRI (Or.inr (Or.inl (Nat.zero_le _))) (eff_p1 (by show w + 13 = 11 ∨ w + 13 = 19 ∨ w + 13 = 20 ∨ w + 13 = 21 ∨ w + 13 = 22; omega)) (by unfold okI; rcases hw with z | z | z <;> subst z <;> simp) (by omega) (Or.inl (by rcases hw with z | z | z <;> subst z <;> exact Nat.le_refl 1)) (by unfold xp noJ; rcases hw with z | z | z <;> subst z <;> simp)
    refine Or.inl ⟨t3, s3, i2, seg ++ [_], vs2, cl2, [], ?_, ?_, by omega, by rw [← List.append_assoc]; exact c3, f1.tr (b5.tr c4)⟩
    · rw [b1]
      unfold cf_179_18 cf_179_28
      simp (disch := omega) only [ev_S, ev_C, ↓reduceIte, Nat.reduceEqDiff, Nat.reduceLeDiff, Nat.reduceAdd, Nat.reduceMul, Nat.reduceSub, reduceCtorEq, l32_0, l32_1, l32_2, l32_3, l32_4, l32_5, l32_6, l32_7, l32_8, l32_9, l32_10, l32_11, l32_12, l32_13, l32_14, l32_15, l32_16, l32_17, l32_18, l32_19, l32_20, l32_21, l32_22, l32_23, l32_24, l32_25, l32_26, l32_27, l32_28, l32_29, l32_33, l32_40, l32_41, l32_44, l32_45, l32_59, l32_61, l32_91, l32_93, l32_123, l32_125, hP, hp, c1]
    · rw [b2, c2]
      rfl
  · obtain ⟨m, m1, m2⟩ := h.fU hb b3 (f1.pre b4)
    obtain ⟨s3, c1, c2, c3⟩ := r_orderF (N := N) (x1 := Int32.ofNat (w + 13)) (x2 := Int32.ofNat 0) (x3 := Int32.ofNat 0) (x4 := Int32.ofNat pl) m2
    refine Or.inr ⟨t2, s3, b1 _, ?_, b3.tl c2, (f1.pre b4).S.tl c2⟩
    rw [b2, c1]
    rfl
/-- a call's end -/
theorem p_drop {pl : Nat} {R : kO} (hN : 170000 ≤ N) (h : PE b n p e i op D code code vs cl W (5 :: cu) fs t s) (hb : rB s Bs) (hA : (∃ t' s' i' seg vs' cl', R = some (t', .inl none) ∧ mf_285 N (Int32.ofNat 1) s = some (s', none) ∧ i < i' ∧ PE b n p e i' op (D + 1) (code ++ seg) (code ++ seg) vs' cl' [] (0 :: 5 :: cu) fs t' s' ∧ FR p e t t' s s') ∨ (∃ t' s', R = some (t', .inr ()) ∧ mf_285 N (Int32.ofNat 1) s = some (s', none) ∧ pF t' s' ∧ FX p e t t' s s')) : SR b n p e i op (D + 1) code cu fs t s (ko_call 5 R (fun g v => co_v v (ko_call 5 (cf_178 N X g) (fun g v => co_v v (some (g, .inl none)))))) (mf_279_69 N (Int32.ofNat pl) s) := by
  have hM : ∀ s1, mf_285 N (Int32.ofNat 1) s = some (s1, none) → mf_279_69 N (Int32.ofNat pl) s = mo_bv (mf_267 N (Int32.ofNat 59) s1) (fun s => mo_bi (mf_271 N (Int32.ofNat 22) (Int32.ofNat 0) (Int32.ofNat 0) (Int32.ofNat pl) s) (fun s y => some (s, none))) := fun s1 e1 => by
    unfold mf_279_69
    simp (disch := omega) only [ev_S, ev_P, ↓reduceIte, Nat.reduceEqDiff, Nat.reduceLeDiff, Nat.reduceAdd, Nat.reduceMul, Nat.reduceSub, reduceCtorEq, l32_0, l32_1, l32_2, l32_3, l32_4, l32_5, l32_6, l32_7, l32_8, l32_9, l32_10, l32_11, l32_12, l32_13, l32_14, l32_15, l32_16, l32_17, l32_18, l32_19, l32_20, l32_21, l32_22, l32_23, l32_24, l32_25, l32_26, l32_27, l32_28, l32_29, l32_33, l32_40, l32_41, l32_44, l32_45, l32_59, l32_61, l32_91, l32_93, l32_123, l32_125, e1]
    rfl
  rcases hA with ⟨t1, s1, i1, seg, vs1, cl1, a1, a2, a3, a4, a5⟩ | ⟨t1, s1, a1, a2, a3, a4⟩
  · rw [a1, hM s1 a2]
    rcases a4.sgn (N := N) (X := X) (c := 59) hN (by omega) (fun z => by omega) with ⟨t2, s2, b1, b2, b3, b4, b5, b6⟩ | ⟨t2, s2, b1, b2, b3, b4, b5⟩
    · rw [if_neg (by omega)] at b4
      have hP : kP t2 2 1 = some p := b4.2.1.1
      have hp : (p = 12 ∨ p = 21) = True := eq_true b4.2.1.2.1
      obtain ⟨t3, s3, c1, c2, c3, c4, c5⟩ := b4.bo (N := N) (X := X) (D' := D + 1) (cu' := cu) (c := (22, 0, 0, 0, 0, Int32.ofNat pl, 0)) (k := Int32.ofNat 3) (a := Int32.ofNat 0) (v := Int32.ofNat 0) (x1 := Int32.ofNat 22) (x2 := Int32.ofNat 0) (x3 := Int32.ofNat 0) (x4 := Int32.ofNat pl) rfl rfl (Or.inr (Or.inl (Nat.zero_le _))) (eff_p1 (by simp)) (by unfold okI; simp) (by omega) (Or.inl (Nat.le_refl 1))
      refine Or.inl ⟨t3, s3, i1 + 1, seg ++ [_], vs1, cl1, [], ?_, ?_, by omega, by rw [← List.append_assoc]; exact c3, a5.tr (b5.tr c4)⟩
      · show ko_call 5 (cf_178 N X t1) _ = _
        unfold cf_178 cf_178_0 cf_178_6 cf_178_16
        simp (disch := omega) only [ev_S, ev_C, ↓reduceIte, Nat.reduceEqDiff, Nat.reduceLeDiff, Nat.reduceAdd, Nat.reduceMul, Nat.reduceSub, reduceCtorEq, l32_0, l32_1, l32_2, l32_3, l32_4, l32_5, l32_6, l32_7, l32_8, l32_9, l32_10, l32_11, l32_12, l32_13, l32_14, l32_15, l32_16, l32_17, l32_18, l32_19, l32_20, l32_21, l32_22, l32_23, l32_24, l32_25, l32_26, l32_27, l32_28, l32_29, l32_33, l32_40, l32_41, l32_44, l32_45, l32_59, l32_61, l32_91, l32_93, l32_123, l32_125, b1, hP, hp, c1]
      · rw [b2]
        show mo_bi (mf_271 N (Int32.ofNat 22) (Int32.ofNat 0) (Int32.ofNat 0) (Int32.ofNat pl) s2) _ = _
        rw [c2]
        rfl
    · obtain ⟨m, m1, m2⟩ := h.fU hb b3 (a5.pre b4)
      obtain ⟨s3, c1, c2, c3⟩ := r_orderF (N := N) (x1 := Int32.ofNat 22) (x2 := Int32.ofNat 0) (x3 := Int32.ofNat 0) (x4 := Int32.ofNat pl) m2
      refine Or.inr ⟨t2, s3, ?_, ?_, b3.tl c2, (a5.pre b4).S.tl c2⟩
      · show ko_call 5 (cf_178 N X t1) _ = _
        unfold cf_178 cf_178_0
        simp (disch := omega) only [ev_S, ev_C, ↓reduceIte, Nat.reduceEqDiff, Nat.reduceLeDiff, Nat.reduceAdd, Nat.reduceMul, Nat.reduceSub, reduceCtorEq, l32_0, l32_1, l32_2, l32_3, l32_4, l32_5, l32_6, l32_7, l32_8, l32_9, l32_10, l32_11, l32_12, l32_13, l32_14, l32_15, l32_16, l32_17, l32_18, l32_19, l32_20, l32_21, l32_22, l32_23, l32_24, l32_25, l32_26, l32_27, l32_28, l32_29, l32_33, l32_40, l32_41, l32_44, l32_45, l32_59, l32_61, l32_91, l32_93, l32_123, l32_125, b1]
        rfl
      · rw [b2]
        show mo_bi (mf_271 N (Int32.ofNat 22) (Int32.ofNat 0) (Int32.ofNat 0) (Int32.ofNat pl) s2) _ = _
        rw [c1]
        rfl
  · rw [a1, hM s1 a2]
    obtain ⟨m, m1, m2⟩ := h.fU hb a3 a4
    obtain ⟨s3, c1, c2, c3⟩ := r_orderF (N := N) (x1 := Int32.ofNat 22) (x2 := Int32.ofNat 0) (x3 := Int32.ofNat 0) (x4 := Int32.ofNat pl) m2
    obtain ⟨x, y, v1, v2, v3, v4, v5, v6, v7⟩ := a3
    refine Or.inr ⟨t1, s3, rfl, ?_, pF.tl ⟨x, y, v1, v2, v3, v4, v5, v6, v7⟩ c2, a4.S.tl c2⟩
    rw [r_signF v6 ⟨v1, v2⟩]
    show mo_bi (mf_271 N (Int32.ofNat 22) (Int32.ofNat 0) (Int32.ofNat 0) (Int32.ofNat pl) s1) _ = _
    rw [c1]
    rfl
end PLN
end
-- ### 93e.pure.lean.txt
section
/-! ===== PURE: statements (4): instructions of several acts; assignments ===== -/
section EMM
variable {N : Nat} {X : Nat → Option zz_C} {t t' t1 t2 : cS} {s s' s1 s2 : mS} {b : Nat → Nat} {n p e i op D D' : Nat} {code code1 : List Ins} {vs : List (List Nat)} {cl : List Cn} {W : List Wt} {cu cu' : List Nat} {fs : Nat × Nat × Nat} {Bs : List (Int32 × Int32 × Int32)} {L : List R5} {LC : List C3}
theorem rCd.setc {m : Nat} {v : Int32} (h : rCd s e L) (hm : m < L.length) : rCd (mA s 26 (upd (s.2.2.1 26) (ob0 e + m) v)) e (L.set m (L[m].1, L[m].2.1, L[m].2.2.1, v, L[m].2.2.2.2)) ∧ fO e s (mA s 26 (upd (s.2.2.1 26) (ob0 e + m) v)) := by
  obtain ⟨h1, h2, h3, h4, h5⟩ := h
  have ls : (L.set m (L[m].1, L[m].2.1, L[m].2.2.1, v, L[m].2.2.2.2)).length = L.length := List.length_set
  refine ⟨⟨h1, h2, by rw [ls]; exact h3, by rw [ls]; exact h4, fun i hi => ?_⟩, ⟨fun _ _ => rfl, fun _ => rfl, fun q r => if_neg (by omega), fun _ => rfl, fun q y r => ?_⟩⟩
  · have hi' : i < L.length := by rw [ls] at hi; exact hi
    obtain ⟨q1, q2, q3, q4, q5⟩ := h5 i hi'
    by_cases c : i = m
    · subst c
      rw [List.getElem_set_self]
      exact ⟨q1, q2, q3, if_pos rfl, q5⟩
    · rw [List.getElem_set_ne (by omega)]
      exact ⟨q1, q2, q3, (upd_n (by omega)).trans q4, q5⟩
  · show (if q = 26 then upd (s.2.2.1 26) (ob0 e + m) v else s.2.2.1 q) y = _
    split
    · rename_i z
      rw [upd_n (by omega), z]
    · rfl
theorem rCd.setd {m : Nat} {v : Int32} (h : rCd s e L) (hm : m < L.length) : rCd (mA s 27 (upd (s.2.2.1 27) (ob0 e + m) v)) e (L.set m (L[m].1, L[m].2.1, L[m].2.2.1, L[m].2.2.2.1, v)) ∧ fO e s (mA s 27 (upd (s.2.2.1 27) (ob0 e + m) v)) := by
  obtain ⟨h1, h2, h3, h4, h5⟩ := h
  have ls : (L.set m (L[m].1, L[m].2.1, L[m].2.2.1, L[m].2.2.2.1, v)).length = L.length := List.length_set
  refine ⟨⟨h1, h2, by rw [ls]; exact h3, by rw [ls]; exact h4, fun i hi => ?_⟩, ⟨fun _ _ => rfl, fun _ => rfl, fun q r => if_neg (by omega), fun _ => rfl, fun q y r => ?_⟩⟩
  · have hi' : i < L.length := by rw [ls] at hi; exact hi
    obtain ⟨q1, q2, q3, q4, q5⟩ := h5 i hi'
    by_cases c : i = m
    · subst c
      rw [List.getElem_set_self]
      exact ⟨q1, q2, q3, q4, if_pos rfl⟩
    · rw [List.getElem_set_ne (by omega)]
      exact ⟨q1, q2, q3, q4, (upd_n (by omega)).trans q5⟩
  · show (if q = 27 then upd (s.2.2.1 27) (ob0 e + m) v else s.2.2.1 q) y = _
    split
    · rename_i z
      rw [upd_n (by omega), z]
    · rfl
theorem c_emit2 {k1 a1 v1 k2 a2 v2 : Int32} (h : cCd t p LC) (h8 : rmG t) (hl : LC.length + 2 < 6500) : ∃ t1 t2, cf_209 N X p k1 a1 v1 t = some (t1, .inl (some (.int (Int32.ofNat LC.length)))) ∧ cf_209 N X p k2 a2 v2 t1 = some (t2, .inl (some (.int (Int32.ofNat (LC.length + 1))))) ∧ kP t1 2 1 = some p ∧ cCd t2 p (LC ++ [(k1, a1, v1), (k2, a2, v2)]) ∧ gL (eC p) (aC p) t t2 ∧ kL t2 = kL t := by
  obtain ⟨t1, b1, b2, b3, b4⟩ := c_emit (N := N) (X := X) (k := k1) (a := a1) (v := v1) h h8 (by omega)
  obtain ⟨t2, c1, c2, c3, c4⟩ := c_emit (N := N) (X := X) (k := k2) (a := a2) (v := v2) b2 (b3.rm h8) (by rw [List.length_append, List.length_singleton]; omega)
  rw [List.length_append, List.length_singleton] at c1
  rw [List.append_assoc] at c2
  exact ⟨t1, t2, b1, c1, b2.1, c2, b3.tr c3, c4.trans b4⟩
/-- two acts, one order -/
theorem PE.bo2 {c : Ins} {js : Nat} {k1 a1 v1 k2 a2 v2 x1 x2 x3 x4 : Int32} (h : PE b n p e i op D code code vs cl W cu fs t s) (hcv : ¬ (c.1 = 9 ∨ c.1 = 10)) (hjs : (js = fs.2.1 ∧ noJ c) ∨ js = code.length + 1) (hI : cI code (posC code code.length) c = [(k1, a1, v1), (k2, a2, v2)]) (hR : rI e code c = [(x1, x2, x3, 0, x4)]) (hc : tgO code.length c) (he : eff c cu = some cu') (ho : okI vs.length c) (hD : D' + 1 ≤ D) (hD2 : rlen c + xlen c ≤ 1 ∨ D' + (rlen c + xlen c) ≤ D) : ∃ t1 t2 s', cf_209 N X p k1 a1 v1 t = some (t1, .inl (some (.int (Int32.ofNat (cx code))))) ∧ kP t1 2 1 = some p ∧ cf_209 N X p k2 a2 v2 t1 = some (t2, .inl (some (.int (Int32.ofNat (cx code + 1))))) ∧ mf_271 N x1 x2 x3 x4 s = some (s', some (.int (Int32.ofNat (ob0 e + rl code)))) ∧ PE b n p e i op D' (code ++ [c]) (code ++ [c]) vs cl W cu' (fs.1, js, fs.2.2) t2 s' ∧ FR p e t t2 s s' ∧ fO e s s' := by
  have hrl := h.rle
  have hcx := h.2.2.2.2.2.2.2.2.2.2.2.2
  obtain ⟨hi, e5, e6, e7, hkk, ho', he', hlt, hll⟩ := h.1.now
  obtain ⟨t1, t2, a1, a2, a3, a4, a5, a6⟩ := c_emit2 (N := N) (X := X) (k1 := k1) (a1 := a1) (v1 := v1) (k2 := k2) (a2 := a2) (v2 := v2) h.2.1 h.1.1.2.2.2.2.2.2.2 (by rw [CA_len]; omega)
  rw [CA_len] at a1 a2
  obtain ⟨b1, b2⟩ := PEg.cEm h (fun z => absurd z hcv) hjs hc he ho (by rw [hI]; exact a4) a5 a6 hD hD2
  obtain ⟨s', d1, d2, d3⟩ := r_order (N := N) (x1 := x1) (x2 := x2) (x3 := x3) (x4 := x4) b1.2.2.1 (by rw [RA_len]; omega)
  rw [RA_len] at d1
  obtain ⟨c1, c2⟩ := PEg.rEm (fl := []) (s' := s') b1 hc rfl (by rw [hR]; exact d2) d3
  exact ⟨t1, t2, s', a1, a3, a2, d1, c1, b2.tr c2, d3⟩
/-- two acts, no order -/
theorem PE.co2 {c : Ins} {k1 a1 v1 k2 a2 v2 : Int32} (h : PE b n p e i op D code code vs cl W cu fs t s) (hx : xp c) (hI : cI code (posC code code.length) c = [(k1, a1, v1), (k2, a2, v2)]) (hR : rI e code c = []) (hc : tgO code.length c) (he : eff c cu = some cu') (ho : okI vs.length c) (hD : D' + 1 ≤ D) (hD2 : rlen c + xlen c ≤ 1 ∨ D' + (rlen c + xlen c) ≤ D) : ∃ t1 t2, cf_209 N X p k1 a1 v1 t = some (t1, .inl (some (.int (Int32.ofNat (cx code))))) ∧ kP t1 2 1 = some p ∧ cf_209 N X p k2 a2 v2 t1 = some (t2, .inl (some (.int (Int32.ofNat (cx code + 1))))) ∧ PE b n p e i op D' (code ++ [c]) (code ++ [c]) vs cl W cu' fs t2 s ∧ FR p e t t2 s s := by
  have hcx := h.2.2.2.2.2.2.2.2.2.2.2.2
  obtain ⟨hi, e5, e6, e7, hkk, ho', he', hlt, hll⟩ := h.1.now
  obtain ⟨t1, t2, a1, a2, a3, a4, a5, a6⟩ := c_emit2 (N := N) (X := X) (k1 := k1) (a1 := a1) (v1 := v1) (k2 := k2) (a2 := a2) (v2 := v2) h.2.1 h.1.1.2.2.2.2.2.2.2 (by rw [CA_len]; omega)
  rw [CA_len] at a1 a2
  obtain ⟨b1, b2⟩ := h.cEm hc he ho (by rw [hI]; exact a4) a5 a6 hD hD2 hx
  obtain ⟨c1, c2⟩ := b1.rEm (fl := []) (s' := s) hc rfl (by rw [hR, List.append_nil]; exact b1.2.2.1) fO.rf
  exact ⟨t1, t2, a1, a3, a2, c1, b2.tr c2⟩
/-- what is put at a place of a variable's THING: three acts, one order -/
theorem PE.put {r j : Nat} {x y q : Int32} (h : PE b n p e i op D code code vs cl W (List.replicate (j + 1) 0 ++ 5 :: cu) fs t s) (hj : j = 1 ∨ j = 2) (hy : j = 2 → ¬ y = -Int32.ofNat 1) (hr : r < 8 + vs.length) (hD : D' + 3 ≤ D) : ∃ t1 t2 t3 s1 s2, cf_209 N X p (Int32.ofNat 1) (cv r) x t = some (t1, .inl (some (.int (Int32.ofNat (cx code))))) ∧ kP t1 2 1 = some p ∧ cf_209 N X p (if j = 1 then Int32.ofNat 17 else Int32.ofNat 18) y q t1 = some (t2, .inl (some (.int (Int32.ofNat (cx code + 1))))) ∧ kP t2 2 1 = some p ∧ cf_209 N X p (Int32.ofNat 2) (cv r) x t2 = some (t3, .inl (some (.int (Int32.ofNat (cx code + 2))))) ∧ mf_271 N (Int32.ofNat 13) (Int32.ofNat r) (if j = 1 then -Int32.ofNat 1 else y) q s = some (s1, some (.int (Int32.ofNat (ob0 e + rl code)))) ∧ s2 = mA s1 26 (upd (s1.2.2.1 26) (ob0 e + rl code) x) ∧ PE b n p e i op D' (code ++ [(12, j, r, 0, q, x, y)]) (code ++ [(12, j, r, 0, q, x, y)]) vs cl W cu fs t3 s2 ∧ FR p e t t3 s s2 := by
  have hrl := h.rle
  have hcx := h.2.2.2.2.2.2.2.2.2.2.2.2
  have hrm : rmG t := h.1.1.2.2.2.2.2.2.2
  obtain ⟨hi, e5, e6, e7, hkk, ho', he', hlt, hll⟩ := h.1.now
  obtain ⟨t1, t2, a1, a2, a3, a4, a5, a6⟩ := c_emit2 (N := N) (X := X) (k1 := Int32.ofNat 1) (a1 := cv r) (v1 := x) (k2 := if j = 1 then Int32.ofNat 17 else Int32.ofNat 18) (a2 := y) (v2 := q) h.2.1 hrm (by rw [CA_len]; omega)
  rw [CA_len] at a1 a2
  obtain ⟨t3, c1, c2, c3, c4⟩ := c_emit (N := N) (X := X) (k := Int32.ofNat 2) (a := cv r) (v := x) a4 (a5.rm hrm) (by rw [List.length_append, CA_len]; show cx code + 2 < 6500; omega)
  rw [List.length_append, CA_len] at c1
  have c1 : cf_209 N X p (Int32.ofNat 2) (cv r) x t2 = some (t3, .inl (some (.int (Int32.ofNat (cx code + 2))))) := c1
  rw [List.append_assoc] at c2
  have hc : tgO code.length (12, j, r, 0, q, x, y) := Or.inr (Or.inr (by simp))
  have hI : cI code (posC code code.length) (12, j, r, 0, q, x, y) = [(Int32.ofNat 1, cv r, x), (if j = 1 then Int32.ofNat 17 else Int32.ofNat 18, y, q), (Int32.ofNat 2, cv r, x)] := rfl
  obtain ⟨b1, b2⟩ := h.cEm (c := (12, j, r, 0, q, x, y)) (t' := t3) (cu' := cu) (D' := D') hc (by rcases hj with rfl | rfl <;> rfl) ⟨fun _ => hr, fun z => (by cases z), fun z => (by cases z), fun z => (by cases z), fun _ => ⟨hj, hy⟩, fun z => (by cases z), fun z => (by cases z)⟩ (by rw [hI]; exact c2) (a5.tr c3) (c4.trans a6) (by omega) (Or.inr (by show D' + (1 + j) ≤ D; omega))
  obtain ⟨s1, d1, d2, d3⟩ := r_order (N := N) (x1 := Int32.ofNat 13) (x2 := Int32.ofNat r) (x3 := if j = 1 then -Int32.ofNat 1 else y) (x4 := q) b1.2.2.1 (by rw [RA_len]; omega)
  obtain ⟨f1, f2⟩ := d2.setc (m := rl code) (v := x) (by rw [List.length_append, RA_len, List.length_singleton]; omega)
  rw [RA_len] at d1
  have hset : (RA e code ++ [(Int32.ofNat 13, Int32.ofNat r, (if j = 1 then -Int32.ofNat 1 else y), (0 : Int32), q)]).set (rl code) (Int32.ofNat 13, Int32.ofNat r, (if j = 1 then -Int32.ofNat 1 else y), x, q) = RA e code ++ [(Int32.ofNat 13, Int32.ofNat r, (if j = 1 then -Int32.ofNat 1 else y), x, q)] := by
    rw [List.set_append_right _ _ (by rw [RA_len]; omega), RA_len, Nat.sub_self]
    rfl
  have hget : ∀ (hh : rl code < (RA e code ++ [(Int32.ofNat 13, Int32.ofNat r, (if j = 1 then -Int32.ofNat 1 else y), (0 : Int32), q)]).length), (RA e code ++ [(Int32.ofNat 13, Int32.ofNat r, (if j = 1 then -Int32.ofNat 1 else y), (0 : Int32), q)])[rl code] = (Int32.ofNat 13, Int32.ofNat r, (if j = 1 then -Int32.ofNat 1 else y), (0 : Int32), q) := fun hh => by
    rw [List.getElem_append_right (by rw [RA_len]; omega)]
    simp only [RA_len, Nat.sub_self, List.getElem_cons_zero]
  rw [hget] at f1
  have f1 : rCd (mA s1 26 (upd (s1.2.2.1 26) (ob0 e + rl code) x)) e ((RA e code ++ [(Int32.ofNat 13, Int32.ofNat r, (if j = 1 then -Int32.ofNat 1 else y), (0 : Int32), q)]).set (rl code) (Int32.ofNat 13, Int32.ofNat r, (if j = 1 then -Int32.ofNat 1 else y), x, q)) := f1
  rw [hset] at f1
  obtain ⟨g1, g2⟩ := b1.rEm (fl := []) (s' := mA s1 26 (upd (s1.2.2.1 26) (ob0 e + rl code) x)) hc rfl f1 (d3.tr f2)
  exact ⟨t1, t2, t3, s1, _, a1, a3, a2, a4.1, c1, d1, rfl, g1, b2.tr g2⟩
end EMM
end
-- ### 93f.pure.lean.txt
section
/-! ===== PURE: statements (5): assignments ===== -/
section ASG
variable {N : Nat} {X : Nat → Option zz_C} {t t' t1 t2 : cS} {s s' s1 s2 : mS} {b : Nat → Nat} {n p e i op D D' : Nat} {code code1 : List Ins} {vs : List (List Nat)} {cl : List Cn} {W : List Wt} {cu cu' : List Nat} {fs : Nat × Nat × Nat} {Bs : List (Int32 × Int32 × Int32)}
theorem r_setcF {m : Nat} {v : Int32} (hm : ob0 e + 0 ≤ m ∧ m < ob0 e + 4000) : tl e s (mA s 26 (upd (s.2.2.1 26) m v)) := by
  refine ⟨rfl, rfl, ⟨fun _ _ => rfl, fun _ _ => rfl, fun q r => if_neg (by omega), fun _ _ => rfl, fun q y r1 r2 => ?_, Kd.kp rfl (fun q z => if_neg (by omega)) rfl⟩⟩
  show (if q = 26 then upd (s.2.2.1 26) m v else s.2.2.1 q) y = _
  split
  · rename_i z
    rw [upd_n (by omega), z]
  · rfl
/-- the end of an assignment behind a fault -/
theorem r_136F {m : Nat} {x1 x2 x3 x4 : Int32} (h : fU e m s) : ∃ s', mf_280_136 N x1 x2 x3 x4 s = some (s', none) ∧ tl e s s' := by
  obtain ⟨s1, a1, a2, a3⟩ := r_orderF (N := N) (x1 := Int32.ofNat 13) (x2 := x2) (x3 := x4) (x4 := x3) h
  have hm := h.2.1
  have ho : ob0 e ≤ 4000 := by unfold ob0; omega
  refine ⟨mA s1 26 (upd (s1.2.2.1 26) (ob0 e + m) x1), ?_, a2.tr (r_setcF (by omega))⟩
  generalize ob0 e = o at *
  unfold mf_280_136
  rw [l32_13, a1]
  show mf_280_146 N x1 (Int32.ofNat (o + m)) s1 = _
  unfold mf_280_146
  simp (disch := omega) only [ev_S, ev_P, ↓reduceIte, Nat.reduceEqDiff, Nat.reduceLeDiff, Nat.reduceAdd, Nat.reduceMul, Nat.reduceSub, reduceCtorEq, l32_0, l32_1, l32_2, l32_3, l32_4, l32_5, l32_6, l32_7, l32_8, l32_9, l32_10, l32_11, l32_12, l32_13, l32_14, l32_15, l32_16, l32_17, l32_18, l32_19, l32_20, l32_21, l32_22, l32_23, l32_24, l32_25, l32_26, l32_27, l32_28, l32_29, l32_33, l32_40, l32_41, l32_44, l32_45, l32_59, l32_61, l32_91, l32_93, l32_123, l32_125, l32_8000]
theorem r_119F {m : Nat} {x1 x2 x3 x4 : Int32} (hN : 170000 ≤ N) (h : fU e m s) : ∃ s', mf_280_119 N x1 x2 x3 x4 s = some (s', none) ∧ tl e s s' := by
  obtain ⟨x, hx1, hx2, h9⟩ := h.1
  obtain ⟨s', a1, a2⟩ := r_136F (N := N) (x1 := x1) (x2 := x2) (x3 := x3) (x4 := x4) (h.e44 (x := 0))
  refine ⟨s', ?_, tl_44.tr a2⟩
  unfold mf_280_119
  rw [r_signF h9 ⟨hx1, hx2⟩]
  show mo_bv (mf_285 N 0 s) _ = _
  rw [r_exprF hN h9 ⟨hx1, hx2⟩]
  show mo_bv (mf_267 N 59 (mI s 44 0)) _ = _
  rw [r_signF (s := mI s 44 0) h9 ⟨hx1, hx2⟩]
  exact a1
/-- = E ; behind indices -/
theorem p_aend {j r : Nat} {x q y : Int32} (hN : 170000 ≤ N) (hX : oX N X) (hY : oY X) (hj : j = 1 ∨ j = 2) (hy : j = 2 → ¬ y = -Int32.ofNat 1) (hr : r < 8 + vs.length) (hD1 : 1 ≤ D) (h : PE b n p e i op D code code vs cl W (List.replicate j 0 ++ 5 :: cu) fs t s) (hwn : rWn s) (hb : rB s Bs) : SR b n p e i op (D - 1) code cu fs t s (cf_180_77 N X x (cv r) (Int32.ofNat j) q y t) (mf_280_119 N x (Int32.ofNat r) q (if j = 1 then -Int32.ofNat 1 else y) s) := by
  have hR : cf_180_77 N X x (cv r) (Int32.ofNat j) q y t = cH N X 61 59 (fun g => cf_180_94 N X x (cv r) (Int32.ofNat j) q y g) t := rfl
  have hM : mf_280_119 N x (Int32.ofNat r) q (if j = 1 then -Int32.ofNat 1 else y) s = rH N 59 (mf_267 N (Int32.ofNat 61) s) (fun s => mf_280_136 N x (Int32.ofNat r) q (if j = 1 then -Int32.ofNat 1 else y) s) := rfl
  rw [hR, hM]
  rcases p_eqs hN hX hY h hwn with ⟨t2, s2, i2, seg, vs2, cl2, b1, b2, b3, bv, b4, b5⟩ | ⟨t2, s2, b1, b2, b3, b4⟩
  · have hP : kP t2 2 1 = some p := b4.2.1.1
    have hp : (p = 12 ∨ p = 21) = True := eq_true b4.2.1.2.1
    have hcu : (0 :: (List.replicate j 0 ++ 5 :: cu)) = List.replicate (j + 1) 0 ++ 5 :: cu := rfl
    rw [hcu] at b4
    obtain ⟨u1, u2, u3, z1, z2, c1, c1', c2, c2', c3, o1, o2, o3, o4⟩ := b4.put (N := N) (X := X) (D' := D - 1) (r := r) (x := x) (y := y) (q := q) hj hy (by omega) (by omega)
    refine Or.inl ⟨u3, z2, i2, seg ++ [_], vs2, cl2, [], ?_, ?_, by omega, by rw [← List.append_assoc]; exact o3, b5.tr o4⟩
    · rw [b1]
      rcases hj with z | z <;> subst z
      · rw [if_pos rfl] at c2
        unfold cf_180_94 cf_180_98 cf_180_108 cf_180_118 cf_180_125 cf_180_132 cf_180_133 cf_180_143
        simp (disch := omega) only [ev_S, ev_C, ↓reduceIte, Nat.reduceEqDiff, Nat.reduceLeDiff, Nat.reduceAdd, Nat.reduceMul, Nat.reduceSub, reduceCtorEq, l32_0, l32_1, l32_2, l32_3, l32_4, l32_5, l32_6, l32_7, l32_8, l32_9, l32_10, l32_11, l32_12, l32_13, l32_14, l32_15, l32_16, l32_17, l32_18, l32_19, l32_20, l32_21, l32_22, l32_23, l32_24, l32_25, l32_26, l32_27, l32_28, l32_29, l32_33, l32_40, l32_41, l32_44, l32_45, l32_59, l32_61, l32_91, l32_93, l32_123, l32_125, hP, hp, c1, c1', c2, c2', c3]
      · rw [if_neg (by decide)] at c2
        unfold cf_180_94 cf_180_98 cf_180_108 cf_180_123 cf_180_125 cf_180_132 cf_180_133 cf_180_143
        simp (disch := omega) only [ev_S, ev_C, ↓reduceIte, Nat.reduceEqDiff, Nat.reduceLeDiff, Nat.reduceAdd, Nat.reduceMul, Nat.reduceSub, reduceCtorEq, l32_0, l32_1, l32_2, l32_3, l32_4, l32_5, l32_6, l32_7, l32_8, l32_9, l32_10, l32_11, l32_12, l32_13, l32_14, l32_15, l32_16, l32_17, l32_18, l32_19, l32_20, l32_21, l32_22, l32_23, l32_24, l32_25, l32_26, l32_27, l32_28, l32_29, l32_33, l32_40, l32_41, l32_44, l32_45, l32_59, l32_61, l32_91, l32_93, l32_123, l32_125, hP, hp, c1, c1', c2, c2', c3]
    · rw [b2]
      have hrl := b4.rle
      have ho : ob0 e ≤ 4000 := by unfold ob0; omega
      unfold mf_280_136
      rw [l32_13, o1]
      rw [o2]
      show mf_280_146 N x (Int32.ofNat (ob0 e + rl (code ++ seg))) z1 = _
      have hlt8 : ob0 e + rl (code ++ seg) < 8000 := by omega
      generalize ob0 e + rl (code ++ seg) = o at *
      unfold mf_280_146
      simp (disch := omega) only [ev_S, ev_P, ↓reduceIte, Nat.reduceEqDiff, Nat.reduceLeDiff, Nat.reduceAdd, Nat.reduceMul, Nat.reduceSub, reduceCtorEq, l32_0, l32_1, l32_2, l32_3, l32_4, l32_5, l32_6, l32_7, l32_8, l32_9, l32_10, l32_11, l32_12, l32_13, l32_14, l32_15, l32_16, l32_17, l32_18, l32_19, l32_20, l32_21, l32_22, l32_23, l32_24, l32_25, l32_26, l32_27, l32_28, l32_29, l32_33, l32_40, l32_41, l32_44, l32_45, l32_59, l32_61, l32_91, l32_93, l32_123, l32_125, l32_8000]
  · obtain ⟨m, m1, m2⟩ := h.fU hb b3 b4
    obtain ⟨s3, c1, c2⟩ := r_136F (N := N) (x1 := x) (x2 := Int32.ofNat r) (x3 := q) (x4 := if j = 1 then -Int32.ofNat 1 else y) m2
    refine Or.inr ⟨t2, s3, b1 _, ?_, b3.tl c2, b4.S.tl c2⟩
    rw [b2]
    exact c1
theorem SR.pre' {i0 : Nat} {code0 seg0 : List Ins} {t0 : cS} {s0 : mS} {R : kO} {M : mO} (f : FR p e t0 t s0 s) (hi : i0 ≤ i) (hc : code = code0 ++ seg0) (h : SR b n p e i op D code cu fs t s R M) : SR b n p e i0 op D code0 cu fs t0 s0 R M := by
  subst hc
  rcases h with ⟨t', s', i', seg, vs', cl', W', a1, a2, a3, a4, a5⟩ | ⟨t', s', a1, a2, a3, a4⟩
  · exact Or.inl ⟨t', s', i', seg0 ++ seg, vs', cl', W', a1, a2, by omega, by rw [← List.append_assoc]; exact a4, f.tr a5⟩
  · exact Or.inr ⟨t', s', a1, a2, a3, f.S.pre a4⟩
theorem SR.dn {R : kO} {M : mO} (hD : D' ≤ D) (h : SR b n p e i op D code cu fs t s R M) : SR b n p e i op D' code cu fs t s R M := by
  rcases h with ⟨t', s', i', seg, vs', cl', W', a1, a2, a3, a4, a5⟩ | h
  · exact Or.inl ⟨t', s', i', seg, vs', cl', W', a1, a2, a3, a4.dn hD, a5⟩
  · exact Or.inr h
/-- a variable, its indices, =, E, ; -/
theorem p_asg (hN : 170000 ≤ N) (hX : oX N X) (hY : oY X) (h : PE b n p e i op D code code vs cl W (5 :: cu) fs t s) (hwn : rWn s) (hb : rB s Bs) : SR b n p e i op (D + 1) code cu fs t s (cf_180 N X t) (mf_280 N s) := by
  obtain ⟨hi, e5, e6, e7, hkk, ho, he, hlt, hll⟩ := h.1.now
  have h6 : s.1 6 = Int32.ofNat (TL b n)[i].2.2.2.1 := hkk.1
  generalize hpl : (TL b n)[i].2.2.2.1 = pl at *
  rcases h.nam (N := N) (X := X) hN with ⟨r, t1, s1, vs1, a1, a2, a3, a4, a5, a6⟩ | ⟨t1, s1, a1, a2, a3, a4, a5⟩
  · obtain ⟨hi1, e51, e61, e71, hkk1, ho1, he1, hlt1, hll1⟩ := a4.1.now
    have h61 : s1.1 6 = Int32.ofNat (TL b n)[i + 1].2.2.2.1 := hkk1.1
    have h91 : s1.1 9 = Int32.ofNat 0 := a4.1.2.2.2.2.2.2.2.2.2
    have w1 : rWn s1 := hwn.kp a6.2
    have rb1 : rB s1 Bs := hb.kp a6.2
    have g1 := r_isSign (N := N) (c := 91) hkk1 (by decide) (by decide)
    have eL : ∀ Q x1 x2 x3 x4 x5 t, cf_180_L12 N X (Q + 1) 0 x1 x2 x3 x4 x5 t = cf_180_28 N X (cf_180_L12 N X Q) x1 x2 x3 x4 x5 t := fun _ _ _ _ _ _ _ => rfl
    have hR : cf_180 N X t = cf_180_28 N X (cf_180_L12 N X (N - 3 + 2)) (Int32.ofNat pl) (cv r) (Int32.ofNat 0) (Int32.ofNat (TL b n)[i + 1].2.2.2.1) (Int32.ofNat (TL b n)[i + 1].2.2.2.1) t1 := by
      have e1 : cf_180 N X t = cf_180_L12 N X N 0 (Int32.ofNat pl) (cv r) (Int32.ofNat 0) (Int32.ofNat (TL b n)[i + 1].2.2.2.1) (Int32.ofNat (TL b n)[i + 1].2.2.2.1) t1 := by
        unfold cf_180 cf_180_0 cf_180_7 cf_180_12 cf_180_22
        simp (disch := omega) only [ev_S, ev_C, ↓reduceIte, Nat.reduceEqDiff, Nat.reduceLeDiff, Nat.reduceAdd, Nat.reduceMul, Nat.reduceSub, reduceCtorEq, l32_0, l32_1, l32_2, l32_3, l32_4, l32_5, l32_6, l32_7, l32_8, l32_9, l32_10, l32_11, l32_12, l32_13, l32_14, l32_15, l32_16, l32_17, l32_18, l32_19, l32_20, l32_21, l32_22, l32_23, l32_24, l32_25, l32_26, l32_27, l32_28, l32_29, l32_33, l32_40, l32_41, l32_44, l32_45, l32_59, l32_61, l32_91, l32_93, l32_123, l32_125, c_placeNow, e6, a1, e61]
      rw [e1, ← eL, show N - 3 + 2 + 1 = N by omega]
    have hM : mf_280 N s = mo_bi (mf_263 N (Int32.ofNat 91) s1) (fun s2 y => mf_280_24 N (Int32.ofNat pl) (Int32.ofNat r) y s2) := by
      unfold mf_280 mf_280_0 mf_280_9
      simp (disch := omega) only [ev_S, ev_P, ↓reduceIte, Nat.reduceEqDiff, Nat.reduceLeDiff, Nat.reduceAdd, Nat.reduceMul, Nat.reduceSub, reduceCtorEq, l32_0, l32_1, l32_2, l32_3, l32_4, l32_5, l32_6, l32_7, l32_8, l32_9, l32_10, l32_11, l32_12, l32_13, l32_14, l32_15, l32_16, l32_17, l32_18, l32_19, l32_20, l32_21, l32_22, l32_23, l32_24, l32_25, l32_26, l32_27, l32_28, l32_29, l32_33, l32_40, l32_41, l32_44, l32_45, l32_59, l32_61, l32_91, l32_93, l32_123, l32_125, a2, h6, h91]
      rfl
    rw [hR, hM, g1]
    have hci : ck (TL b n)[i + 1] = 91 ↔ (TL b n)[i + 1].1 = 91 := ck_sg (by decide)
    by_cases z : (TL b n)[i + 1].1 = 91
    · rw [if_pos z]
      rw [hci.mpr z] at e51
      have hR2 : cf_180_28 N X (cf_180_L12 N X (N - 3 + 2)) (Int32.ofNat pl) (cv r) (Int32.ofNat 0) (Int32.ofNat (TL b n)[i + 1].2.2.2.1) (Int32.ofNat (TL b n)[i + 1].2.2.2.1) t1 = cH N X 91 93 (fun g => cf_180_28 N X (cf_180_L12 N X (N - 3 + 1)) (Int32.ofNat pl) (cv r) (Int32.ofNat 1) (Int32.ofNat (TL b n)[i + 1].2.2.2.1) (Int32.ofNat (TL b n)[i + 1].2.2.2.1) g) t1 := by
        unfold cf_180_28 cf_180_33 cf_180_40 cf_180_45
        simp (disch := omega) only [ev_S, ev_C, ↓reduceIte, Nat.reduceEqDiff, Nat.reduceLeDiff, Nat.reduceAdd, Nat.reduceMul, Nat.reduceSub, reduceCtorEq, l32_0, l32_1, l32_2, l32_3, l32_4, l32_5, l32_6, l32_7, l32_8, l32_9, l32_10, l32_11, l32_12, l32_13, l32_14, l32_15, l32_16, l32_17, l32_18, l32_19, l32_20, l32_21, l32_22, l32_23, l32_24, l32_25, l32_26, l32_27, l32_28, l32_29, l32_33, l32_40, l32_41, l32_44, l32_45, l32_59, l32_61, l32_91, l32_93, l32_123, l32_125, c_kindNow, e51, c_placeNow, e61]
        rfl
      have hM2 : mo_bi (some (s1, some (.int 1))) (fun s2 y => mf_280_24 N (Int32.ofNat pl) (Int32.ofNat r) y s2) = rH N 93 (mf_268 N (Int32.ofNat 91) s1) (fun s => mf_280_80 N (Int32.ofNat pl) (Int32.ofNat r) (Int32.ofNat (TL b n)[i + 1].2.2.2.1) (-Int32.ofNat 1) s) := by
        show mf_280_24 N (Int32.ofNat pl) (Int32.ofNat r) 1 s1 = _
        unfold mf_280_24 mf_280_55
        simp (disch := omega) only [ev_S, ev_P, ↓reduceIte, Nat.reduceEqDiff, Nat.reduceLeDiff, Nat.reduceAdd, Nat.reduceMul, Nat.reduceSub, reduceCtorEq, l32_0, l32_1, l32_2, l32_3, l32_4, l32_5, l32_6, l32_7, l32_8, l32_9, l32_10, l32_11, l32_12, l32_13, l32_14, l32_15, l32_16, l32_17, l32_18, l32_19, l32_20, l32_21, l32_22, l32_23, l32_24, l32_25, l32_26, l32_27, l32_28, l32_29, l32_33, l32_40, l32_41, l32_44, l32_45, l32_59, l32_61, l32_91, l32_93, l32_123, l32_125, h61]
        rfl
      rw [hR2, hM2]
      rcases p_brk (c1 := 91) (c2 := 93) hN hX hY (by omega) a4 w1 with ⟨t2, s2, i2, seg, vs2, cl2, b1, b2, b3, bv, b4, b5⟩ | ⟨t2, s2, b1, b2, b3, b4⟩
      · rw [b1, b2]
        refine SR.pre' (i := i2) (code := code ++ seg) (seg0 := seg) (a6.tr b5) (by omega) rfl ?_
        have w2 : rWn s2 := w1.kp b5.2
        have rb2 : rB s2 Bs := rb1.kp b5.2
        obtain ⟨hi2, e52, e62, e72, hkk2, ho2, he2, hlt2, hll2⟩ := b4.1.now
        have h62 : s2.1 6 = Int32.ofNat (TL b n)[i2].2.2.2.1 := hkk2.1
        have h92 : s2.1 9 = Int32.ofNat 0 := b4.1.2.2.2.2.2.2.2.2.2
        have g2 := r_isSign (N := N) (c := 91) hkk2 (by decide) (by decide)
        have hci2 : ck (TL b n)[i2] = 91 ↔ (TL b n)[i2].1 = 91 := ck_sg (by decide)
        have hM3 : mf_280_80 N (Int32.ofNat pl) (Int32.ofNat r) (Int32.ofNat (TL b n)[i + 1].2.2.2.1) (-Int32.ofNat 1) s2 = mo_bi (mf_263 N (Int32.ofNat 91) s2) (fun s3 y => mf_280_93 N (Int32.ofNat pl) (Int32.ofNat r) (Int32.ofNat (TL b n)[i + 1].2.2.2.1) (-Int32.ofNat 1) y s3) := by
          unfold mf_280_80 mf_280_87
          simp (disch := omega) only [ev_S, ev_P, ↓reduceIte, Nat.reduceEqDiff, Nat.reduceLeDiff, Nat.reduceAdd, Nat.reduceMul, Nat.reduceSub, reduceCtorEq, l32_0, l32_1, l32_2, l32_3, l32_4, l32_5, l32_6, l32_7, l32_8, l32_9, l32_10, l32_11, l32_12, l32_13, l32_14, l32_15, l32_16, l32_17, l32_18, l32_19, l32_20, l32_21, l32_22, l32_23, l32_24, l32_25, l32_26, l32_27, l32_28, l32_29, l32_33, l32_40, l32_41, l32_44, l32_45, l32_59, l32_61, l32_91, l32_93, l32_123, l32_125, h92]
        rw [hM3, g2]
        by_cases z2 : (TL b n)[i2].1 = 91
        · rw [if_pos z2]
          rw [hci2.mpr z2] at e52
          have hR4 : cf_180_28 N X (cf_180_L12 N X (N - 3 + 1)) (Int32.ofNat pl) (cv r) (Int32.ofNat 1) (Int32.ofNat (TL b n)[i + 1].2.2.2.1) (Int32.ofNat (TL b n)[i + 1].2.2.2.1) t2 = cH N X 91 93 (fun g => cf_180_77 N X (Int32.ofNat pl) (cv r) (Int32.ofNat 2) (Int32.ofNat (TL b n)[i + 1].2.2.2.1) (Int32.ofNat (TL b n)[i2].2.2.2.1) g) t2 := by
            have e2 : ∀ g, cf_180_71 N X (cf_180_L12 N X (N - 3 + 1)) (Int32.ofNat pl) (cv r) (Int32.ofNat 1) (Int32.ofNat (TL b n)[i + 1].2.2.2.1) (Int32.ofNat (TL b n)[i2].2.2.2.1) g = cf_180_77 N X (Int32.ofNat pl) (cv r) (Int32.ofNat 2) (Int32.ofNat (TL b n)[i + 1].2.2.2.1) (Int32.ofNat (TL b n)[i2].2.2.2.1) g := fun g => by
              show cf_180_28 N X (cf_180_L12 N X (N - 3)) (Int32.ofNat pl) (cv r) (Int32.ofNat 1 + 1) (Int32.ofNat (TL b n)[i + 1].2.2.2.1) (Int32.ofNat (TL b n)[i2].2.2.2.1) g = _
              unfold cf_180_28
              simp (disch := omega) only [ev_S, ev_C, ↓reduceIte, Nat.reduceEqDiff, Nat.reduceLeDiff, Nat.reduceAdd, Nat.reduceMul, Nat.reduceSub, reduceCtorEq, l32_0, l32_1, l32_2, l32_3, l32_4, l32_5, l32_6, l32_7, l32_8, l32_9, l32_10, l32_11, l32_12, l32_13, l32_14, l32_15, l32_16, l32_17, l32_18, l32_19, l32_20, l32_21, l32_22, l32_23, l32_24, l32_25, l32_26, l32_27, l32_28, l32_29, l32_33, l32_40, l32_41, l32_44, l32_45, l32_59, l32_61, l32_91, l32_93, l32_123, l32_125]
            unfold cf_180_28 cf_180_33 cf_180_40 cf_180_45 cf_180_52 cf_180_60 cf_180_65
            simp (disch := omega) only [ev_S, ev_C, ↓reduceIte, Nat.reduceEqDiff, Nat.reduceLeDiff, Nat.reduceAdd, Nat.reduceMul, Nat.reduceSub, reduceCtorEq, l32_0, l32_1, l32_2, l32_3, l32_4, l32_5, l32_6, l32_7, l32_8, l32_9, l32_10, l32_11, l32_12, l32_13, l32_14, l32_15, l32_16, l32_17, l32_18, l32_19, l32_20, l32_21, l32_22, l32_23, l32_24, l32_25, l32_26, l32_27, l32_28, l32_29, l32_33, l32_40, l32_41, l32_44, l32_45, l32_59, l32_61, l32_91, l32_93, l32_123, l32_125, c_kindNow, e52, c_placeNow, e62, e2]
          have hM4 : mo_bi (some (s2, some (.int 1))) (fun s3 y => mf_280_93 N (Int32.ofNat pl) (Int32.ofNat r) (Int32.ofNat (TL b n)[i + 1].2.2.2.1) (-Int32.ofNat 1) y s3) = rH N 93 (mf_268 N (Int32.ofNat 91) s2) (fun s => mf_280_119 N (Int32.ofNat pl) (Int32.ofNat r) (Int32.ofNat (TL b n)[i + 1].2.2.2.1) (Int32.ofNat (TL b n)[i2].2.2.2.1) s) := by
            show mf_280_93 N (Int32.ofNat pl) (Int32.ofNat r) (Int32.ofNat (TL b n)[i + 1].2.2.2.1) (-Int32.ofNat 1) 1 s2 = _
            unfold mf_280_93 mf_280_96
            simp (disch := omega) only [ev_S, ev_P, ↓reduceIte, Nat.reduceEqDiff, Nat.reduceLeDiff, Nat.reduceAdd, Nat.reduceMul, Nat.reduceSub, reduceCtorEq, l32_0, l32_1, l32_2, l32_3, l32_4, l32_5, l32_6, l32_7, l32_8, l32_9, l32_10, l32_11, l32_12, l32_13, l32_14, l32_15, l32_16, l32_17, l32_18, l32_19, l32_20, l32_21, l32_22, l32_23, l32_24, l32_25, l32_26, l32_27, l32_28, l32_29, l32_33, l32_40, l32_41, l32_44, l32_45, l32_59, l32_61, l32_91, l32_93, l32_123, l32_125, h62]
            rfl
          rw [hR4, hM4]
          rcases p_brk (c1 := 91) (c2 := 93) hN hX hY (by omega) b4 w2 with ⟨t3, s3, i3, seg3, vs3, cl3, c1, c2, c3, cv3, c4, c5⟩ | ⟨t3, s3, c1, c2, c3, c4⟩
          · rw [c1, c2]
            refine SR.pre' (i := i3) (code := code ++ seg ++ seg3) (seg0 := seg3) c5 (by omega) rfl ?_
            have q := p_aend (x := Int32.ofNat pl) (q := Int32.ofNat (TL b n)[i + 1].2.2.2.1) (y := Int32.ofNat (TL b n)[i2].2.2.2.1) (j := 2) (r := r) (cu := cu) hN hX hY (Or.inr rfl) (fun _ => by have h1 := TL_at hi2; have h2 := b4.1.2.2.2.2.1; rw [ev_n5 (by omega)]; exact not_false) (by omega) (by omega) c4 (w2.kp c5.2) (rb2.kp c5.2)
            rw [if_neg (by decide)] at q
            exact q.dn (by omega)
          · obtain ⟨m, m1, m2⟩ := b4.fU rb2 c3 c4
            obtain ⟨s5, d1, d2⟩ := r_119F (N := N) (x1 := Int32.ofNat pl) (x2 := Int32.ofNat r) (x3 := Int32.ofNat (TL b n)[i + 1].2.2.2.1) (x4 := Int32.ofNat (TL b n)[i2].2.2.2.1) hN m2
            exact Or.inr ⟨t3, s5, c1 _, (c2 _).trans d1, c3.tl d2, c4.S.tl d2⟩
        · rw [if_neg z2]
          have z3 : ¬ ck (TL b n)[i2] = 91 := fun q => z2 (hci2.mp q)
          have hR4 : cf_180_28 N X (cf_180_L12 N X (N - 3 + 1)) (Int32.ofNat pl) (cv r) (Int32.ofNat 1) (Int32.ofNat (TL b n)[i + 1].2.2.2.1) (Int32.ofNat (TL b n)[i + 1].2.2.2.1) t2 = cf_180_77 N X (Int32.ofNat pl) (cv r) (Int32.ofNat 1) (Int32.ofNat (TL b n)[i + 1].2.2.2.1) (Int32.ofNat (TL b n)[i + 1].2.2.2.1) t2 := by
            unfold cf_180_28 cf_180_33 cf_180_40
            simp (disch := omega) only [ev_S, ev_C, ↓reduceIte, Nat.reduceEqDiff, Nat.reduceLeDiff, Nat.reduceAdd, Nat.reduceMul, Nat.reduceSub, reduceCtorEq, l32_0, l32_1, l32_2, l32_3, l32_4, l32_5, l32_6, l32_7, l32_8, l32_9, l32_10, l32_11, l32_12, l32_13, l32_14, l32_15, l32_16, l32_17, l32_18, l32_19, l32_20, l32_21, l32_22, l32_23, l32_24, l32_25, l32_26, l32_27, l32_28, l32_29, l32_33, l32_40, l32_41, l32_44, l32_45, l32_59, l32_61, l32_91, l32_93, l32_123, l32_125, c_kindNow, e52, z3, l32_91]
          have hM4 : mo_bi (some (s2, some (.int 0))) (fun s3 y => mf_280_93 N (Int32.ofNat pl) (Int32.ofNat r) (Int32.ofNat (TL b n)[i + 1].2.2.2.1) (-Int32.ofNat 1) y s3) = mf_280_119 N (Int32.ofNat pl) (Int32.ofNat r) (Int32.ofNat (TL b n)[i + 1].2.2.2.1) (-Int32.ofNat 1) s2 := rfl
          rw [hR4, hM4]
          have q := p_aend (x := Int32.ofNat pl) (q := Int32.ofNat (TL b n)[i + 1].2.2.2.1) (y := Int32.ofNat (TL b n)[i + 1].2.2.2.1) (j := 1) (r := r) (cu := cu) hN hX hY (Or.inl rfl) (fun z => by cases z) (by omega) (by omega) b4 w2 rb2
          rw [if_pos rfl] at q
          exact q.dn (by omega)
      · obtain ⟨m, m1, m2⟩ := a4.fU rb1 b3 b4
        obtain ⟨s5, d1, d2⟩ := r_119F (N := N) (x1 := Int32.ofNat pl) (x2 := Int32.ofNat r) (x3 := Int32.ofNat (TL b n)[i + 1].2.2.2.1) (x4 := -Int32.ofNat 1) hN m2
        refine Or.inr ⟨t2, s5, b1 _, ?_, b3.tl d2, (a6.pre b4).S.tl d2⟩
        rw [b2, ← d1]
        obtain ⟨x, y, v1, v2, v3, v4, v5, v6, v7⟩ := b3
        unfold mf_280_80
        simp (disch := omega) only [ev_S, ev_P, ↓reduceIte, Nat.reduceEqDiff, Nat.reduceLeDiff, Nat.reduceAdd, Nat.reduceMul, Nat.reduceSub, reduceCtorEq, l32_0, l32_1, l32_2, l32_3, l32_4, l32_5, l32_6, l32_7, l32_8, l32_9, l32_10, l32_11, l32_12, l32_13, l32_14, l32_15, l32_16, l32_17, l32_18, l32_19, l32_20, l32_21, l32_22, l32_23, l32_24, l32_25, l32_26, l32_27, l32_28, l32_29, l32_33, l32_40, l32_41, l32_44, l32_45, l32_59, l32_61, l32_91, l32_93, l32_123, l32_125, v6]
    · rw [if_neg z]
      have z3 : ¬ ck (TL b n)[i + 1] = 91 := fun q => z (hci.mp q)
      have hR2 : cf_180_28 N X (cf_180_L12 N X (N - 3 + 2)) (Int32.ofNat pl) (cv r) (Int32.ofNat 0) (Int32.ofNat (TL b n)[i + 1].2.2.2.1) (Int32.ofNat (TL b n)[i + 1].2.2.2.1) t1 = cH N X 61 59 (fun g => cf_180_94 N X (Int32.ofNat pl) (cv r) (Int32.ofNat 0) (Int32.ofNat (TL b n)[i + 1].2.2.2.1) (Int32.ofNat (TL b n)[i + 1].2.2.2.1) g) t1 := by
        unfold cf_180_28 cf_180_33 cf_180_40
        simp (disch := omega) only [ev_S, ev_C, ↓reduceIte, Nat.reduceEqDiff, Nat.reduceLeDiff, Nat.reduceAdd, Nat.reduceMul, Nat.reduceSub, reduceCtorEq, l32_0, l32_1, l32_2, l32_3, l32_4, l32_5, l32_6, l32_7, l32_8, l32_9, l32_10, l32_11, l32_12, l32_13, l32_14, l32_15, l32_16, l32_17, l32_18, l32_19, l32_20, l32_21, l32_22, l32_23, l32_24, l32_25, l32_26, l32_27, l32_28, l32_29, l32_33, l32_40, l32_41, l32_44, l32_45, l32_59, l32_61, l32_91, l32_93, l32_123, l32_125, c_kindNow, e51, z3, l32_91]
        rfl
      have hM2 : mo_bi (some (s1, some (.int 0))) (fun s2 y => mf_280_24 N (Int32.ofNat pl) (Int32.ofNat r) y s2) = rH N 59 (mf_267 N (Int32.ofNat 61) s1) (fun s => mo_bi (mf_271 N (Int32.ofNat 12) (Int32.ofNat r) (Int32.ofNat 0) (Int32.ofNat pl) s) (fun s y => some (s, none))) := rfl
      rw [hR2, hM2]
      rcases p_eqs hN hX hY a4 w1 with ⟨t2, s2, i2, seg, vs2, cl2, b1, b2, b3, bv, b4, b5⟩ | ⟨t2, s2, b1, b2, b3, b4⟩
      · have hP : kP t2 2 1 = some p := b4.2.1.1
        have hp : (p = 12 ∨ p = 21) = True := eq_true b4.2.1.2.1
        obtain ⟨t3, s3, c1, c2, c3, c4, c5⟩ := b4.bo (N := N) (X := X) (D' := D + 1) (cu' := cu) (c := (11, 0, r, 0, Int32.ofNat pl, 0, 0)) (k := Int32.ofNat 2) (a := cv r) (v := Int32.ofNat pl) (x1 := Int32.ofNat 12) (x2 := Int32.ofNat r) (x3 := Int32.ofNat 0) (x4 := Int32.ofNat pl) rfl rfl (Or.inr (Or.inl (Nat.zero_le _))) (eff_p1 (by simp)) (by unfold okI; simp; omega) (by omega) (Or.inl (Nat.le_refl 1))
        refine Or.inl ⟨t3, s3, i2, seg ++ [_], vs2, cl2, [], ?_, ?_, by omega, by rw [← List.append_assoc]; exact c3, a6.tr (b5.tr c4)⟩
        · rw [b1]
          unfold cf_180_94 cf_180_133 cf_180_143
          simp (disch := omega) only [ev_S, ev_C, ↓reduceIte, Nat.reduceEqDiff, Nat.reduceLeDiff, Nat.reduceAdd, Nat.reduceMul, Nat.reduceSub, reduceCtorEq, l32_0, l32_1, l32_2, l32_3, l32_4, l32_5, l32_6, l32_7, l32_8, l32_9, l32_10, l32_11, l32_12, l32_13, l32_14, l32_15, l32_16, l32_17, l32_18, l32_19, l32_20, l32_21, l32_22, l32_23, l32_24, l32_25, l32_26, l32_27, l32_28, l32_29, l32_33, l32_40, l32_41, l32_44, l32_45, l32_59, l32_61, l32_91, l32_93, l32_123, l32_125, hP, hp, c1]
        · rw [b2, c2]
          rfl
      · obtain ⟨m, m1, m2⟩ := a4.fU rb1 b3 b4
        obtain ⟨s3, c1, c2, c3⟩ := r_orderF (N := N) (x1 := Int32.ofNat 12) (x2 := Int32.ofNat r) (x3 := Int32.ofNat 0) (x4 := Int32.ofNat pl) m2
        refine Or.inr ⟨t2, s3, b1 _, ?_, b3.tl c2, (a6.pre b4).S.tl c2⟩
        rw [b2, c1]
        rfl
  · obtain ⟨x, y, v1, v2, v3, v4, v5, v6, v7⟩ := a3
    refine Or.inr ⟨t1, s1, ?_, ?_, ⟨x, y, v1, v2, v3, v4, v5, v6, v7⟩, a4.S⟩
    · unfold cf_180 cf_180_0 cf_180_7
      simp (disch := omega) only [ev_S, ev_C, ↓reduceIte, Nat.reduceEqDiff, Nat.reduceLeDiff, Nat.reduceAdd, Nat.reduceMul, Nat.reduceSub, reduceCtorEq, l32_0, l32_1, l32_2, l32_3, l32_4, l32_5, l32_6, l32_7, l32_8, l32_9, l32_10, l32_11, l32_12, l32_13, l32_14, l32_15, l32_16, l32_17, l32_18, l32_19, l32_20, l32_21, l32_22, l32_23, l32_24, l32_25, l32_26, l32_27, l32_28, l32_29, l32_33, l32_40, l32_41, l32_44, l32_45, l32_59, l32_61, l32_91, l32_93, l32_123, l32_125, c_placeNow, e6, a1]
      rfl
    · unfold mf_280 mf_280_0 mf_280_9 mf_280_17
      simp (disch := omega) only [ev_S, ev_P, ↓reduceIte, Nat.reduceEqDiff, Nat.reduceLeDiff, Nat.reduceAdd, Nat.reduceMul, Nat.reduceSub, reduceCtorEq, l32_0, l32_1, l32_2, l32_3, l32_4, l32_5, l32_6, l32_7, l32_8, l32_9, l32_10, l32_11, l32_12, l32_13, l32_14, l32_15, l32_16, l32_17, l32_18, l32_19, l32_20, l32_21, l32_22, l32_23, l32_24, l32_25, l32_26, l32_27, l32_28, l32_29, l32_33, l32_40, l32_41, l32_44, l32_45, l32_59, l32_61, l32_91, l32_93, l32_123, l32_125, a2, h6, v6]
end ASG
end
-- ### 93g.pure.lean.txt
section
/-! ===== PURE: statements (6): jumps ===== -/
def jl (c : Ins) (L L' : List Nat) : Prop := (c.1 = 13 ∧ (L = 0 :: 5 :: L' ∨ L = 0 :: 5 :: 5 :: L')) ∨ (c.1 = 14 ∧ ((c.2.2.1 = 1 ∧ L = 5 :: L') ∨ (¬ c.2.2.1 = 1 ∧ L = 4 :: L'))) ∨ (c.1 = 18 ∧ L = 2 :: L') ∨ (c.1 = 23 ∧ ∃ M, L = 5 :: M ∧ L' = 9 :: M) ∨ (c.1 = 24 ∧ L = 3 :: L')
/-- a jump goes to where what lies on the stack is what it leaves -/
def okJ (code : List Ins) (a m : Nat) : Prop := noJ (code.getD m dI) ∨ (a ≤ (code.getD m dI).2.1 ∧ (code.getD m dI).2.1 ≤ code.length ∧ ((code.getD m dI).1 = 23 → (code.getD (code.getD m dI).2.1 dI).1 = 25 ∧ (code.getD (code.getD m dI).2.1 dI).2.2.1 = (code.getD m dI).2.2.1 ∧ (code.getD (code.getD m dI).2.1 dI).2.2.2.2.1 = (code.getD m dI).2.2.2.2.1) ∧ ∃ L L', lyo (code.take m) = some L ∧ lyo (code.take (code.getD m dI).2.1) = some L' ∧ jl (code.getD m dI) L L')
def JP (code : List Ins) (a z : Nat) : Prop := ∀ m, a ≤ m → m < z → okJ code a m
section JMP
variable {N : Nat} {X : Nat → Option zz_C} {t t' t1 t2 : cS} {s s' s1 s2 : mS} {b : Nat → Nat} {n p e i op D D' : Nat} {code code1 l : List Ins} {vs : List (List Nat)} {cl : List Cn} {W : List Wt} {cu cu' : List Nat} {fs : Nat × Nat × Nat} {Bs : List (Int32 × Int32 × Int32)} {a a' m m0 z z' : Nat} {c c' : Ins}
theorem getD_appl (h : m < code.length) : (code ++ l).getD m dI = code.getD m dI := by
  rw [List.getD_eq_getElem?_getD, List.getD_eq_getElem?_getD, List.getElem?_append_left h]
theorem getD_out (h : code.length ≤ m) : code.getD m dI = dI := by
  rw [List.getD_eq_getElem?_getD, List.getElem?_eq_none h]
  rfl
theorem okJ.app (hm : m < code.length) (h : okJ code a m) : okJ (code ++ l) a m := by
  unfold okJ at h ⊢
  rw [getD_appl hm]
  rcases h with h | ⟨h1, h2, h3, L, L', h4, h5, h6⟩
  · exact Or.inl h
  · refine Or.inr ⟨h1, by rw [List.length_append]; omega, fun z => ?_, L, L', ?_, ?_, h6⟩
    · have h3 := h3 z
      have hlt : (code.getD m dI).2.1 < code.length := by
        by_cases y : (code.getD m dI).2.1 < code.length
        · exact y
        · rw [getD_out (by omega)] at h3
          exact absurd h3.1 (by decide)
      rw [getD_appl hlt]
      exact h3
    · rw [List.take_append_of_le_length (Nat.le_of_lt hm)]
      exact h4
    · rw [List.take_append_of_le_length h2]
      exact h5
theorem okJ.lo (h : okJ code a m) (ha : a' ≤ a) : okJ code a' m := by
  rcases h with h | ⟨h1, h2⟩
  · exact Or.inl h
  · exact Or.inr ⟨Nat.le_trans ha h1, h2⟩
theorem okJ.set (hne : ¬ m = m0) (he : ∀ L, eff c' L = eff (code.getD m0 dI) L) (hk : ¬ (code.getD m0 dI).1 = 25) (h : okJ code a m) : okJ (code.set m0 c') a m := by
  unfold okJ at h ⊢
  rw [getD_set_ne hne]
  rcases h with h | ⟨h1, h2, h3, L, L', h4, h5, h6⟩
  · exact Or.inl h
  · refine Or.inr ⟨h1, by rw [List.length_set]; exact h2, fun z => ?_, L, L', ?_, ?_, h6⟩
    · have h3 := h3 z
      have y : ¬ (code.getD m dI).2.1 = m0 := fun q => hk (by rw [← q]; exact h3.1)
      rw [getD_set_ne y]
      exact h3
    · rw [lyo_set_take he]
      exact h4
    · rw [lyo_set_take he]
      exact h5
theorem JP.app (h : JP code a z) (hz : z ≤ code.length) : JP (code ++ l) a z := fun m h1 h2 => (h m h1 h2).app (by omega)
theorem JP.cat (h : JP code a z) (g : JP code z z') (ha : a ≤ z) : JP code a z' := fun m h1 h2 => by
  by_cases y : m < z
  · exact h m h1 y
  · exact (g m (by omega) h2).lo ha
theorem JP.lo (h : JP code a z) (ha : a' ≤ a) : ∀ m, a ≤ m → m < z → okJ code a' m := fun m h1 h2 => (h m h1 h2).lo ha
theorem JP.no (h : ∀ c ∈ code.drop a, noJ c) : JP code a code.length := fun m h1 h2 => by
  refine Or.inl (h _ ?_)
  rw [List.getD_eq_getElem?_getD, List.getElem?_eq_getElem h2]
  show code[m] ∈ _
  have e1 : code[m] = (code.drop a)[m - a]'(by rw [List.length_drop]; omega) := by
    rw [List.getElem_drop]
    congr 1
    omega
  rw [e1]
  exact List.getElem_mem _
theorem JP.one (h : okJ code m m) : JP code m (m + 1) := fun k h1 h2 => by
  have : k = m := by omega
  subst this
  exact h
theorem mem_drop_set {k : Nat} {x : Ins} (h : x ∈ (code.set m c').drop k) : x = c' ∨ x ∈ code.drop k := by
  obtain ⟨j, hj, e1⟩ := List.mem_iff_getElem.mp h
  rw [List.getElem_drop, List.getElem_set] at e1
  split at e1
  · exact Or.inl e1.symm
  · refine Or.inr ?_
    rw [← e1]
    have hj2 : j < (code.drop k).length := by
      rw [List.length_drop, List.length_set] at hj
      rw [List.length_drop]
      exact hj
    have e2 : (code.drop k)[j] = code[k + j]'(by rw [List.length_drop] at hj2; omega) := List.getElem_drop
    rw [← e2]
    exact List.getElem_mem _
theorem clen_k (h : c.1 = c'.1) : clen c = clen c' := by
  unfold clen
  rw [h]
theorem rlen_k (h : c.1 = c'.1) : rlen c = rlen c' := by
  unfold rlen
  rw [h]
theorem xlen_k (h : c.1 = c'.1) (hj : ¬ noJ c) : xlen c = xlen c' := by
  have hj : c.1 = 13 ∨ c.1 = 14 ∨ c.1 = 18 ∨ c.1 = 23 ∨ c.1 = 24 := Classical.byContradiction hj
  have e : ∀ x : Ins, (x.1 = 13 ∨ x.1 = 14 ∨ x.1 = 18 ∨ x.1 = 23 ∨ x.1 = 24) → xlen x = 0 := fun x hx => by
    unfold xlen
    rw [if_neg (by omega), if_neg (by omega), if_neg (by omega)]
  rw [e c hj, e c' (by omega)]
theorem okX.set (hk : okX code cl cl) (hm : m < code.length) (hkk : c'.1 = (code.getD m dI).1) (hj : ¬ noJ c') : okX (code.set m c') cl cl := by
  have hnc : ¬ ((code.getD m dI).1 = 9 ∨ (code.getD m dI).1 = 10) := fun z => hj (by unfold noJ; omega)
  refine ⟨fun x hx => ?_, fun k hk1 hk2 => ?_⟩
  · obtain ⟨q1, q2, q3, q4, q5, q6, q7⟩ := hk.1 x hx
    have hne : ¬ x.1 = m := fun z => hnc (by rw [← z]; rcases q7 with q7 | q7; exact Or.inl q7.1; exact Or.inr q7.1)
    refine ⟨by rw [List.length_set]; exact q1, q2, q3, q4, q5, ?_, ?_⟩
    · rw [getD_set_ne hne]
      exact q6
    · rw [getD_set_ne hne]
      exact q7
  · rw [List.length_set] at hk1
    by_cases z : k = m
    · subst z
      rw [getD_set_eq hm, hkk] at hk2
      exact absurd hk2 hnc
    · rw [getD_set_ne z] at hk2
      exact hk.2 k hk1 hk2
theorem TY.set {nv : Nat} (h : TY fs nv cu code) (he : ∀ L, eff c' L = eff (code.getD m dI) L) (ho : okI nv c') (hf : m < fs.2.1) : TY fs nv cu (code.set m c') := by
  obtain ⟨y1, y2, y3, y4, y5, y6⟩ := h
  refine ⟨by rw [List.length_set]; exact y1, by rw [lyo_set he]; exact y2, fun x hx => ?_, by rw [List.length_set]; exact y4, fun x hx => ?_, y6⟩
  · rcases mem_drop_set hx with z | z
    · subst z
      exact ho
    · exact y3 x z
  · rw [List.drop_set_of_lt hf] at hx
    exact y5 x hx
theorem wfC.set (h : wfC code) (hw : c'.2.1 ≤ code.length) : wfC (code.set m c') := fun x hx => by
  rw [List.length_set]
  rcases List.mem_or_eq_of_mem_set hx with z | z
  · exact h x z
  · subst z
    exact Or.inr (Or.inl hw)
/-- both have amended an instruction -/
theorem PE.amd (h : PE b n p e i op D code code vs cl W cu fs t s) (hm : m < code.length) (hk : c'.1 = (code.getD m dI).1) (hj : ¬ noJ c') (he : ∀ L, eff c' L = eff (code.getD m dI) L) (hw : c'.2.1 ≤ code.length) (ho : okI vs.length c') (hf : m < fs.2.1) (hc : cCd t' p (CA (code.set m c'))) (hr : rCd s' e (RA e (code.set m c'))) (g : gL (fun _ _ => False) (aC p) t t') (gl : kL t' = kL t) (f : fO e s s') : PE b n p e i op D (code.set m c') (code.set m c') vs cl W cu fs t' s' ∧ FR p e t t' s s' := by
  obtain ⟨h1, hc', hr', ⟨w1, w2, w3⟩, hW, hV, k1, k2, k3, k4, k5, k6, k7⟩ := h
  have hp := hc'.2.1
  have hcl := clen_k hk
  have hrl := rlen_k hk
  have e1 : cl.map (cK (code.set m c')) = cl.map (cK code) := List.map_congr_left fun x hx => by
    unfold cK
    rw [posC_set hcl]
  have e2 : cl.map (rK e (code.set m c')) = cl.map (rK e code) := List.map_congr_left fun x hx => by
    unfold rK
    rw [posR_set hrl]
  have hwf := w1.set (m := m) hw
  exact ⟨⟨(h1.kC g gl (fun k f z => z.elim) (fun k z => by rcases hp with y | y <;> omega)).kR (fun q z => f.1 q (by omega)) (f.2.1 7) (f.2.2.1 2 (by omega)) (f.2.2.2.1 0), hc, hr, ⟨hwf, hwf, ⟨[], by rw [List.append_nil]⟩⟩, hW.keep (f.1 44 (by omega)) (fun q _ => f.2.2.1 q (by omega)) (f.2.2.2.1 42), hV.keep (g.1 2 4 (fun z => z)) (g.2.2.1 7 (fun z => by rcases hp with y | y <;> omega) (by decide)).2.1 (f.1 22 (by omega)) (f.2.2.2.1 21), by rw [e1]; exact k1.keep g (fun z => z) (fun _ z => by rcases hp with y | y <;> omega), by rw [e2]; exact k2.keep (f.1 29 (by omega)) (fun q _ => f.2.2.1 q (by omega)) (f.2.2.2.1 33), k3.set hm hk hj, k4.set he ho hf, by rw [rl_set hrl, xl_set (xlen_k hk hj)]; exact k5, by rw [rl_set hrl]; exact k6, by rw [cx_set hcl]; exact k7⟩, g.mono (fun _ _ z => z.elim) (fun k z => by unfold aQ; omega), fO.Q f⟩
/-- the class amends an act -/
theorem c_amd {x a0 y v : Int32} {lc : List C3} (h : cCd t p (CA code)) (hm : m < code.length) (hl : cx code < 6500) (hk : clen c' = clen (code.getD m dI)) (h1 : cI code (posC code m) (code.getD m dI) = (x, a0, y) :: lc) (h2 : cI code (posC code m) c' = (x, v, y) :: lc) : ∃ t', cf_210 N X p (Int32.ofNat (posC code m)) v t = some (t', .inl none) ∧ cCd t' p (CA (code.set m c')) ∧ gL (fun _ _ => False) (aC p) t t' ∧ kL t' = kL t := by
  obtain ⟨g1, g2⟩ := CA_get hm h1
  obtain ⟨t', b1, b2, b3, b4⟩ := c_amend (N := N) (X := X) (v := v) h g1 (by rw [CA_len]; exact hl)
  rw [g2] at b2
  refine ⟨t', b1, ?_, b3, b4⟩
  rw [CA_set hm hk h1 h2]
  exact b2
/-- the reference tells oa anew -/
theorem r_amda {x1 x2 x3 x4 x5 v : Int32} (h : rCd s e (RA e code)) (hm : m < code.length) (hk : rlen c' = rlen (code.getD m dI)) (h1 : rI e code (code.getD m dI) = [(x1, x2, x3, x4, x5)]) (h2 : rI e code c' = [(x1, v, x3, x4, x5)]) : rCd (mA s 24 (upd (s.2.2.1 24) (ob0 e + posR code m) v)) e (RA e (code.set m c')) ∧ fO e s (mA s 24 (upd (s.2.2.1 24) (ob0 e + posR code m) v)) := by
  obtain ⟨g1, g2⟩ := RA_get hm h1
  obtain ⟨b1, b2⟩ := h.seta (v := v) g1
  rw [g2] at b1
  refine ⟨?_, b2⟩
  rw [RA_set hm hk h1 h2]
  exact b1
theorem r_amdb {x1 x2 x3 x4 x5 v : Int32} (h : rCd s e (RA e code)) (hm : m < code.length) (hk : rlen c' = rlen (code.getD m dI)) (h1 : rI e code (code.getD m dI) = [(x1, x2, x3, x4, x5)]) (h2 : rI e code c' = [(x1, x2, v, x4, x5)]) : rCd (mA s 25 (upd (s.2.2.1 25) (ob0 e + posR code m) v)) e (RA e (code.set m c')) ∧ fO e s (mA s 25 (upd (s.2.2.1 25) (ob0 e + posR code m) v)) := by
  obtain ⟨g1, g2⟩ := RA_get hm h1
  obtain ⟨b1, b2⟩ := h.setb (v := v) g1
  rw [g2] at b1
  refine ⟨?_, b2⟩
  rw [RA_set hm hk h1 h2]
  exact b1
theorem r_amdd {x1 x2 x3 x4 x5 v : Int32} (h : rCd s e (RA e code)) (hm : m < code.length) (hk : rlen c' = rlen (code.getD m dI)) (h1 : rI e code (code.getD m dI) = [(x1, x2, x3, x4, x5)]) (h2 : rI e code c' = [(x1, x2, x3, x4, v)]) : rCd (mA s 27 (upd (s.2.2.1 27) (ob0 e + posR code m) v)) e (RA e (code.set m c')) ∧ fO e s (mA s 27 (upd (s.2.2.1 27) (ob0 e + posR code m) v)) := by
  obtain ⟨g1, g2⟩ := RA_get hm h1
  obtain ⟨b1, b2⟩ := h.setd (v := v) g1
  rw [g2] at b1
  refine ⟨?_, b2⟩
  rw [RA_set hm hk h1 h2]
  exact b1
end JMP
end
-- ### 93h.pure.lean.txt
section
/-! ===== PURE: statements (7): blocks ===== -/
/-- a statement on both sides -/
def ST (N : Nat) (b : Nat → Nat) (n p e i op D : Nat) (code : List Ins) (cu : List Nat) (fs : Nat × Nat × Nat) (Bs : List (Int32 × Int32 × Int32)) (t : cS) (s : mS) (R : kO) : Prop := (∃ t' s' k i' seg vs' cl' W', R = some (t', .inl none) ∧ i < i' ∧ k + i ≤ i' ∧ (∀ f, TW N (f + k) s = TW N f s') ∧ PE b n p e i' op D (code ++ seg) (code ++ seg) vs' cl' W' cu (fs.1, (code ++ seg).length, fs.2.2) t' s' ∧ rB s' Bs ∧ JP (code ++ seg) code.length (code ++ seg).length ∧ FRs p e t t' s s') ∨ (∃ t' s' k, R = some (t', .inr ()) ∧ k + i ≤ (TL b n).length + 1 ∧ (∀ f, TW N (f + k) s = some (s', none)) ∧ pF t' s' ∧ FXs p e t t' s s')
def SSt (N : Nat) (X : Nat → Option zz_C) (b : Nat → Nat) (n p e F : Nat) : Prop := ∀ i op D code vs cl W cu fs Bs t s, PE b n p e i op D code code vs cl W cu fs t s → rWn s → rB s Bs → noX cu → (Bs.length ≤ op ∧ nF cu + 1 ≤ op) → 1 ≤ Bs.length → 1 ≤ D → (∀ hi : i < (TL b n).length, ¬ (TL b n)[i].1 = 125) → 3 * (10 - op) + 3 ≤ F → ST N b n p e i op D code cu fs Bs t s (cf_S1 N X F 177 [] t)
section BLK
variable {N : Nat} {X : Nat → Option zz_C} {t t' t1 t2 : cS} {s s' s1 s2 : mS} {b : Nat → Nat} {n p e i op D D' : Nat} {code code1 l : List Ins} {vs : List (List Nat)} {cl : List Cn} {W : List Wt} {cu cu' : List Nat} {fs : Nat × Nat × Nat} {Bs : List (Int32 × Int32 × Int32)}
theorem FRs.wn (f : fS e s s') (h : rWn s) : rWn s' := fun k hk => by rw [f.2.2.1 1 (by omega)]; exact h k hk
theorem JP.nil {a : Nat} : JP code a a := fun m h1 h2 => absurd h1 (by omega)
/-- statements up to the bracket -/
theorem p_body {F : Nat} (hsl : noX cu) (hS : SSt N X b n p e F) (hF : 3 * (10 - op) + 3 ≤ F) (hB : Bs.length ≤ op ∧ nF cu + 1 ≤ op) (hB1 : 1 ≤ Bs.length) : ∀ (d i D : Nat) (code : List Ins) (vs : List (List Nat)) (cl : List Cn) (W : List Wt) (fs : Nat × Nat × Nat) (t : cS) (s : mS) (m Q : Nat), (TL b n).length ≤ i + d → PE b n p e i op D code code vs cl W cu fs t s → rWn s → rB s Bs → m ≤ i → d < Q → 1 ≤ D → (∃ t' s' k i' seg vs' cl' W', cf_176_L2 N X (cf_S1 N X F) Q 0 (Int32.ofNat m) t = cf_176_41 N X (cf_S1 N X F) t' ∧ i ≤ i' ∧ k + i ≤ i' ∧ (∀ f, TW N (f + k) s = TW N f s') ∧ (∃ hi : i' < (TL b n).length, (TL b n)[i'].1 = 125) ∧ PE b n p e i' op D (code ++ seg) (code ++ seg) vs' cl' W' cu (fs.1, (code ++ seg).length, fs.2.2) t' s' ∧ rB s' Bs ∧ JP (code ++ seg) code.length (code ++ seg).length ∧ FRs p e t t' s s') ∨ (∃ t' s' k, cf_176_L2 N X (cf_S1 N X F) Q 0 (Int32.ofNat m) t = some (t', .inr ()) ∧ k + i ≤ (TL b n).length + 1 ∧ (∀ f, TW N (f + k) s = some (s', none)) ∧ pF t' s' ∧ FXs p e t t' s s') := by
  have eL : ∀ Q x1 t, cf_176_L2 N X (cf_S1 N X F) (Q + 1) 0 x1 t = cf_176_8 N X (cf_S1 N X F) (cf_176_L2 N X (cf_S1 N X F) Q) x1 t := fun _ _ _ => rfl
  intro d
  induction d with
  | zero =>
    intro i D code vs cl W fs t s m Q hd h
    obtain ⟨hi, -⟩ := h.1.now
    omega
  | succ d ih =>
    intro i D code vs cl W fs t s m Q hd h hwn hb hmi hdQ hD
    obtain ⟨Q, rfl⟩ : ∃ q, Q = q + 1 := ⟨Q - 1, by omega⟩
    obtain ⟨hi, e5, e6, e7, hkk, ho, he, hlt, hll⟩ := h.1.now
    have hcnt := h.1.cnt
    have hci : ck (TL b n)[i] = 125 ↔ (TL b n)[i].1 = 125 := ck_sg (by decide)
    have hm1 : ¬ (TL b n).length ≤ m := by omega
    rw [eL]
    by_cases z : (TL b n)[i].1 = 125
    · rw [hci.mpr z] at e5
      refine Or.inl ⟨t, s, 0, i, [], vs, cl, W, ?_, Nat.le_refl _, by omega, fun f => rfl, ⟨hi, z⟩, ?_, hb, ?_, FRs.rf⟩
      · unfold cf_176_8 cf_176_16 cf_176_19 cf_176_26
        simp (disch := omega) only [ev_S, ev_C, ↓reduceIte, Nat.reduceEqDiff, Nat.reduceLeDiff, Nat.reduceAdd, Nat.reduceMul, Nat.reduceSub, reduceCtorEq, l32_0, l32_1, l32_2, l32_3, l32_4, l32_5, l32_6, l32_7, l32_8, l32_9, l32_10, l32_11, l32_12, l32_13, l32_14, l32_15, l32_16, l32_17, l32_18, l32_19, l32_20, l32_21, l32_22, l32_23, l32_24, l32_25, l32_26, l32_27, l32_28, l32_29, l32_33, l32_40, l32_41, l32_44, l32_45, l32_59, l32_61, l32_91, l32_93, l32_123, l32_125, c_count, hcnt, hm1, c_kindNow, e5]
      · rw [List.append_nil]
        exact h.fsx ⟨h.nj.1, Nat.le_refl _⟩ h.pa
      · rw [List.append_nil]
        exact JP.nil
    · have z2 : ¬ ck (TL b n)[i] = 125 := fun q => z (hci.mp q)
      have hR : cf_176_8 N X (cf_S1 N X F) (cf_176_L2 N X (cf_S1 N X F) Q) (Int32.ofNat m) t = ko_call 5 (cf_S1 N X F 177 [] t) (fun g1 v1 => co_v v1 (cf_176_L2 N X (cf_S1 N X F) Q 0 (Int32.ofNat (m + 1)) g1)) := by
        unfold cf_176_8 cf_176_16 cf_176_19 cf_176_26 cf_176_31 cf_176_35
        simp (disch := omega) only [ev_S, ev_C, ↓reduceIte, Nat.reduceEqDiff, Nat.reduceLeDiff, Nat.reduceAdd, Nat.reduceMul, Nat.reduceSub, reduceCtorEq, l32_0, l32_1, l32_2, l32_3, l32_4, l32_5, l32_6, l32_7, l32_8, l32_9, l32_10, l32_11, l32_12, l32_13, l32_14, l32_15, l32_16, l32_17, l32_18, l32_19, l32_20, l32_21, l32_22, l32_23, l32_24, l32_25, l32_26, l32_27, l32_28, l32_29, l32_33, l32_40, l32_41, l32_44, l32_45, l32_59, l32_61, l32_91, l32_93, l32_123, l32_125, c_count, hcnt, hm1, c_kindNow, e5, z2, l32_125]
      rw [hR]
      rcases hS i op D code vs cl W cu fs Bs t s h hwn hb hsl hB hB1 hD (fun _ => z) hF with ⟨t1, s1, k1, i1, seg1, vs1, cl1, W1, a1, a2, a3, a4, a5, a6, a7, a8⟩ | ⟨t1, s1, k1, a1, a2, a3, a4, a5⟩
      · rw [a1]
        show (∃ t' s' k i' seg vs' cl' W', cf_176_L2 N X (cf_S1 N X F) Q 0 (Int32.ofNat (m + 1)) t1 = _ ∧ _) ∨ (∃ t' s' k, cf_176_L2 N X (cf_S1 N X F) Q 0 (Int32.ofNat (m + 1)) t1 = _ ∧ _)
        rcases ih i1 D (code ++ seg1) vs1 cl1 W1 (fs.1, (code ++ seg1).length, fs.2.2) t1 s1 (m + 1) Q (by omega) a5 (FRs.wn a8.2 hwn) a6 (by omega) (by omega) hD with ⟨t2, s2, k2, i2, seg2, vs2, cl2, W2, b1, b2, b3, b4, b5, b6, b7, b8, b9⟩ | ⟨t2, s2, k2, b1, b2, b3, b4, b5⟩
        · refine Or.inl ⟨t2, s2, k2 + k1, i2, seg1 ++ seg2, vs2, cl2, W2, b1, by omega, by omega, fun f => ?_, b5, ?_, b7, ?_, a8.tr b9⟩
          · rw [← Nat.add_assoc, a4, b4]
          · rw [← List.append_assoc]
            exact b6
          · rw [← List.append_assoc]
            exact (a7.app (Nat.le_refl _)).cat b8 (by rw [List.length_append]; omega)
        · refine Or.inr ⟨t2, s2, k2 + k1, b1, by omega, fun f => ?_, b4, a8.pre b5⟩
          rw [← Nat.add_assoc, a4, b3]
      · exact Or.inr ⟨t1, s1, k1, by rw [a1]; rfl, a2, a3, a4, a5⟩
theorem S1_176 {F : Nat} : cf_S1 N X (F + 1) 176 [] t = cf_176 N X (cf_S1 N X F) t := rfl
theorem S1_177 {F : Nat} : cf_S1 N X (F + 1) 177 [] t = cf_177 N X (cf_S1 N X F) t := rfl
theorem S1_181 {F : Nat} {x1 : Int32} : cf_S1 N X (F + 1) 181 [.int x1] t = cf_181 N X (cf_S1 N X F) x1 t := rfl
theorem S1_182 {F : Nat} {x1 : Int32} : cf_S1 N X (F + 1) 182 [.int x1] t = cf_182 N X (cf_S1 N X F) x1 t := rfl
theorem S1_184 {F : Nat} {x1 : Int32} : cf_S1 N X (F + 1) 184 [.int x1] t = cf_184 N X (cf_S1 N X F) x1 t := rfl
theorem S1_185 {F : Nat} : cf_S1 N X (F + 1) 185 [] t = cf_185 N X (cf_S1 N X F) t := rfl
/-- a block, up to what the reference does behind its last bracket -/
theorem p_blk {F : Nat} {x1 x2 x3 : Int32} (hsl : noX cu) (hN : 170000 ≤ N) (hS : SSt N X b n p e F) (hF : 3 * (10 - op) ≤ F) (h : PE b n p e i op D code code vs cl W cu fs t s) (hwn : rWn s) (hb : rB s Bs) (hB : Bs.length ≤ op ∧ nF cu ≤ op) : (∃ t2 s0 s2 k i2 seg vs2 cl2 W2, cf_S1 N X (F + 1) 176 [] t = some (t2, .inl none) ∧ mf_276 N x1 x2 x3 s = some (s0, none) ∧ i + 1 < i2 ∧ k + i + 1 ≤ i2 ∧ (∀ f, TW N (f + k) s0 = mo_bv (mf_278_6 N s2) (fun s3 => TW N f s3)) ∧ PE b n p e i2 op (D + 2) (code ++ seg) (code ++ seg) vs2 cl2 W2 cu (fs.1, (code ++ seg).length, fs.2.2) t2 s2 ∧ rB s2 (Bs ++ [(x1, x2, x3)]) ∧ JP (code ++ seg) code.length (code ++ seg).length ∧ FRs p e t t2 s s2) ∨ (∃ t' s0 s' k, cf_S1 N X (F + 1) 176 [] t = some (t', .inr ()) ∧ mf_276 N x1 x2 x3 s = some (s0, none) ∧ k + i ≤ (TL b n).length + 1 ∧ (∀ f, TW N (f + k) s0 = some (s', none)) ∧ pF t' s' ∧ FXs p e t t' s s') := by
  have hop := h.1.2.2.2.1
  obtain ⟨hi, e5, e6, e7, hkk, ho, he, hlt, hll⟩ := h.1.now
  rw [S1_176]
  rcases h.opn (N := N) (X := X) (c := 123) hN (by omega) with ⟨t1, s1, a1, a2, a3, a4, a5, a6⟩ | ⟨t1, s1, a1, a2, a3, a4, a5⟩
  · obtain ⟨s0, b1, b2, b3⟩ := (hb.kp a6.2).push (N := N) (x1 := x1) (x2 := x2) (x3 := x3) (by omega)
    have c1 := a5.kS b2
    have hM : mf_276 N x1 x2 x3 s = some (s0, none) := by
      unfold mf_276 mf_276_0
      rw [l32_123, a2]
      exact b1
    have hR : cf_176 N X (cf_S1 N X F) t = cf_176_L2 N X (cf_S1 N X F) N 0 (Int32.ofNat 0) t1 := by
      unfold cf_176 cf_176_0
      rw [l32_123, a1]
      rfl
    have f0 : FRs p e t t1 s s0 := a6.S.tr ⟨gL.rf, fBk.S b2⟩
    have hlen : (Bs ++ [(x1, x2, x3)]).length = Bs.length + 1 := List.length_append
    rw [hR]
    rcases p_body (cu := cu) (Bs := Bs ++ [(x1, x2, x3)]) hsl hS (by omega) (by omega) (by omega) (TL b n).length (i + 1) (D + 1) code vs cl W fs t1 s0 0 N (by omega) c1 (FRs.wn f0.2 hwn) b3 (Nat.zero_le _) (by omega) (by omega) with ⟨t2, s2, k2, i2, seg2, vs2, cl2, W2, d1, d2, d3, d4, ⟨hi2, d5⟩, d6, d7, d8, d9⟩ | ⟨t2, s2, k2, d1, d2, d3, d4, d5⟩
    · rcases d6.sgn (N := N) (X := X) (c := 125) hN (by omega) (fun _ => by omega) with ⟨t3, s3, q1, q2, q3, q4, q5, q6⟩ | ⟨t3, s3, q1, q2, q3, q4, q5⟩
      · rw [if_pos (by omega), Nat.add_sub_cancel] at q4
        obtain ⟨_, _, w2⟩ := TW_s (N := N) (f := 0) (B := Bs.length) d6.1 (by rw [← hlen]; exact d7.1) (by have := d7.2.1; omega)
        refine Or.inl ⟨t3, s0, s3, k2 + 1, i2 + 1, seg2, vs2, cl2, W2, ?_, hM, by omega, by omega, fun f => ?_, q4, d7.kp q5.2, d8, f0.tr (d9.tr q5.S)⟩
        · rw [d1]
          unfold cf_176_41 cf_176_47
          rw [l32_125, q1]
          rfl
        · rw [show f + (k2 + 1) = (f + 1) + k2 by omega, d4]
          obtain ⟨_, _, w2⟩ := TW_s (N := N) (f := f) (B := Bs.length) d6.1 (by rw [← hlen]; exact d7.1) (by have := d7.2.1; omega)
          rw [w2 d5]
          unfold mf_278 mf_278_0
          rw [l32_125, q2]
          rfl
      · -- the bracket stands there
        exfalso
        obtain ⟨hi3, e53, e63, e73, hkk3, ho3, he3, hlt3, hll3⟩ := d6.1.now
        have h9 : s2.1 9 = Int32.ofNat 0 := d6.1.2.2.2.2.2.2.2.2.2
        have g1 := r_isSign (N := N) (c := 125) hkk3 (by decide) (by decide)
        rw [if_pos d5] at g1
        obtain ⟨tx, sx, p1, p2, p3, p4, p5⟩ := p_adv (N := N) (X := X) hN d6.1 (fun _ => by omega)
        obtain ⟨x, y, v1, v2, v3, v4, v5, v6, v7⟩ := q3
        have key : ∃ sy, mf_267 N (Int32.ofNat 125) s2 = some (sy, none) ∧ sy.1 9 = Int32.ofNat 0 := by
          obtain ⟨sy, r1, r2, r3⟩ := r_take (N := N) (s := mI s2 11 (s2.1 11 - Int32.ofNat 1)) hN (d6.1.2.2.2.2.2.1) (k := (TL b n)[i2]) hkk3 he3
          refine ⟨sy, ?_, by rw [r3.1 9 (by omega)]; exact h9⟩
          repeat ((first | unfold mf_267 | unfold mf_267_0 | unfold mf_267_7 | unfold mf_267_8 | unfold mf_267_13 | unfold mf_267_16 | unfold mf_267_22 | unfold mf_267_28 | unfold mf_267_34 | unfold mf_267_44 | unfold mf_267_48 | unfold mf_267_51 | unfold mf_267_55); try simp (disch := omega) only [ev_S, ev_P, ↓reduceIte, Nat.reduceEqDiff, Nat.reduceLeDiff, Nat.reduceAdd, Nat.reduceMul, Nat.reduceSub, reduceCtorEq, l32_0, l32_1, l32_2, l32_3, l32_4, l32_9, l32_11, l32_41, l32_93, l32_125, h9, g1, r1])
        obtain ⟨sy, y1, y2⟩ := key
        rw [q2] at y1
        obtain rfl : s3 = sy := by
          injection y1 with y1
          injection y1
        rw [v6] at y2
        have := ofNat_inj (a := x) (b := 0) (by omega) (by omega) y2
        omega
    · exact Or.inr ⟨t2, s0, s2, k2, d1, hM, by omega, d3, d4, f0.pre d5⟩
  · have hF' : FX p e t t1 s s1 := a4
    obtain ⟨m, m1, m2⟩ := h.fU hb a3 hF'
    have hf2 := m2
    obtain ⟨⟨x, v1, v2, v6⟩, -, -, -, -, B, hB1, hB2⟩ := hf2
    obtain ⟨s0, b1, b2⟩ := r_push (N := N) (x1 := x1) (x2 := x2) (x3 := x3) hB2 (by omega)
    obtain ⟨b2, -⟩ := b2
    have tl0 : tl e s1 s0 := ⟨b2.1 9 (by omega), b2.1 10 (by omega), fBk.S b2⟩
    refine Or.inr ⟨t1, s0, s0, 1, ?_, ?_, by omega, fun f => TW_F (a3.tl tl0), a3.tl tl0, hF'.S.tl tl0⟩
    · unfold cf_176 cf_176_0
      rw [l32_123, a1]
      rfl
    · unfold mf_276 mf_276_0
      rw [l32_123, a2]
      exact b1
end BLK
end
-- ### 93i.pure.lean.txt
section
/-! ===== PURE: statements (8): targets are told ===== -/
/-- a statement with blocks: the class's answer R, the reference's M, and the rounds behind it -/
def SQ (N : Nat) (b : Nat → Nat) (n p e i op D : Nat) (code : List Ins) (cu : List Nat) (fs : Nat × Nat × Nat) (Bs : List (Int32 × Int32 × Int32)) (t : cS) (s : mS) (R : kO) (M : mO) : Prop := (∃ t' s0 s' k i' seg vs' cl' W', R = some (t', .inl none) ∧ M = some (s0, none) ∧ i < i' ∧ k + 1 + i ≤ i' ∧ (∀ f, TW N (f + k) s0 = TW N f s') ∧ PE b n p e i' op D (code ++ seg) (code ++ seg) vs' cl' W' cu (fs.1, (code ++ seg).length, fs.2.2) t' s' ∧ rB s' Bs ∧ JP (code ++ seg) code.length (code ++ seg).length ∧ FRs p e t t' s s') ∨ (∃ t' s0 s' k, R = some (t', .inr ()) ∧ M = some (s0, none) ∧ k + 1 + i ≤ (TL b n).length + 1 ∧ (∀ f, TW N (f + k) s0 = some (s', none)) ∧ pF t' s' ∧ FXs p e t t' s s')
/-- what the class may change between -/
abbrev eM (p : Nat) : Nat → Nat → Prop := fun k f => (k = 3 ∧ (f = 4 ∨ f = 5 ∨ f = 6)) ∨ (k = 2 ∧ (f = 2 ∨ f = 4 ∨ f = 10 ∨ f = 11)) ∨ (k = p ∧ f = 3)
abbrev aM (p : Nat) : Nat → Prop := fun k => k = 7 ∨ k = p + 1 ∨ k = p + 2 ∨ k = p + 3
section TGT
variable {N : Nat} {X : Nat → Option zz_C} {t t' t1 t2 : cS} {s s' s1 s2 : mS} {b : Nat → Nat} {n p e i i' op op' D D' : Nat} {code code1 code2 l : List Ins} {vs vs' : List (List Nat)} {cl : List Cn} {W : List Wt} {cu cu' : List Nat} {fs fs' : Nat × Nat × Nat} {Bs : List (Int32 × Int32 × Int32)} {a m : Nat} {c c' : Ins}
theorem pop0_F : ∀ (k : Nat) (L M : List Nat), pop0 k L = some M → nF L = nF M
  | 0, L, M, h => by
    rw [show L = M from Option.some.inj h]
  | k + 1, [], M, h => by
    simp [pop0] at h
  | k + 1, 0 :: L, M, h => pop0_F k L M h
  | k + 1, (x + 1) :: L, M, h => by
    simp [pop0] at h
theorem pay_eq {L L' : List Nat} (h : pay L = some L') : L = 0 :: 5 :: L' := by
  unfold pay at h
  split at h
  · rw [Option.some.inj h]
  · cases h
theorem pay2_F {k : Nat} {L L' : List Nat} (h : (pop0 k L).bind pay = some L') : nF L = nF L' := by
  cases hM : pop0 k L with
  | none =>
    rw [hM] at h
    cases h
  | some M =>
    rw [hM] at h
    have e : M = 0 :: 5 :: L' := pay_eq h
    rw [pop0_F k L M hM, e]
    rfl
/-- what an instruction does to the nest -/
theorem eff_F {c : Ins} {L L' : List Nat} (h : eff c L = some L') : 1 + nF L' ≤ 2 * clen c + nF L := by
  obtain ⟨o, j, r, a, q, x, y⟩ := c
  have pm : ∀ k, (pop0 k L).map (0 :: ·) = some L' → nF L' = nF L := fun k hk => by
    cases hM : pop0 k L with
    | none =>
      rw [hM] at hk
      cases hk
    | some M =>
      rw [hM] at hk
      have := pop0_F k L M hM
      rw [← show 0 :: M = L' from Option.some.inj hk, this]
      rfl
  have one : ∀ n, n ≤ 24 → 1 ≤ clen (n, j, r, a, q, x, y) := fun n hn => by
    unfold clen
    dsimp only
    repeat' split
    all_goals omega
  by_cases h26 : o = 26
  · subst h26
    have h : (match (generalizing := false) L with | 4 :: M => some M | _ => none) = some L' := h
    split at h
    · rename_i M h0
      have h : M = L' := Option.some.inj h
      subst h
      show 1 + nF M ≤ 2 * 0 + (nF M + 1)
      omega
    · cases h
  · by_cases h25 : o ≤ 25
    · have key : nF L' ≤ nF L + 1 := by
        have hv : o = 0 ∨ o = 1 ∨ o = 2 ∨ o = 3 ∨ o = 4 ∨ o = 5 ∨ o = 6 ∨ o = 7 ∨ o = 8 ∨ o = 9 ∨ o = 10 ∨ o = 11 ∨ o = 12 ∨ o = 13 ∨ o = 14 ∨ o = 15 ∨ o = 16 ∨ o = 17 ∨ o = 18 ∨ o = 19 ∨ o = 20 ∨ o = 21 ∨ o = 22 ∨ o = 23 ∨ o = 24 ∨ o = 25 := by omega
        rcases hv with rfl | rfl | rfl | rfl | rfl | rfl | rfl | rfl | rfl | rfl | rfl | rfl | rfl | rfl | rfl | rfl | rfl | rfl | rfl | rfl | rfl | rfl | rfl | rfl | rfl | rfl
        · rw [← show 0 :: L = L' from Option.some.inj h]
          exact Nat.le_succ _
        · rw [← show 0 :: L = L' from Option.some.inj h]
          exact Nat.le_succ _
        · rw [← show 1 :: L = L' from Option.some.inj h]
          exact Nat.le_succ _
        · have h : (match (generalizing := false) L with | 0 :: 1 :: M => some (0 :: M) | _ => none) = some L' := h
          split at h
          · rw [← Option.some.inj h]
            exact Nat.le_succ _
          · cases h
        · rw [pm 1 h]; exact Nat.le_succ _
        · rw [pm 2 h]; exact Nat.le_succ _
        · rw [pm j h]; exact Nat.le_succ _
        · rw [pm 2 h]; exact Nat.le_succ _
        · rw [pm j h]; exact Nat.le_succ _
        · rw [pm r h]; exact Nat.le_succ _
        · have h : (if r ≤ 2 then (pop0 r L).map (0 :: ·) else none) = some L' := h
          by_cases z : r ≤ 2
          · rw [if_pos z] at h
            rw [pm r h]; exact Nat.le_succ _
          · rw [if_neg z] at h
            cases h
        · rw [pay_eq h]; exact Nat.le_succ _
        · rw [pay2_F h]; exact Nat.le_succ _
        · have h : (match (generalizing := false) L with | 0 :: 5 :: M => if nF M < 10 then some (4 :: M) else none | _ => none) = some L' := h
          split at h
          · split at h
            · rw [← Option.some.inj h]
              exact Nat.le_refl _
            · cases h
          · cases h
        · have h : (if r = 1 then (match (generalizing := false) L with | 5 :: 2 :: M => some M | _ => none) else if r = 2 then (match (generalizing := false) L with | 4 :: 5 :: M => some M | _ => none) else (match (generalizing := false) L with | 4 :: M => some M | _ => none)) = some L' := h
          split at h
          · split at h
            · rw [← Option.some.inj h]
              exact Nat.le_succ_of_le (Nat.le_succ _)
            · cases h
          · split at h
            · split at h
              · rw [← Option.some.inj h]
                exact Nat.le_succ_of_le (Nat.le_succ _)
              · cases h
            · split at h
              · rw [← Option.some.inj h]
                exact Nat.le_succ_of_le (Nat.le_succ _)
              · cases h
        · have h : (match (generalizing := false) L with | 5 :: M => some (5 :: 5 :: M) | _ => none) = some L' := h
          split at h
          · rw [← Option.some.inj h]
            exact Nat.le_succ _
          · cases h
        · have h : (match (generalizing := false) L with | 0 :: _ => none | 1 :: _ => none | _ => some (5 :: L)) = some L' := h
          split at h
          · cases h
          · cases h
          · rw [← Option.some.inj h]
            exact Nat.le_succ _
        · have h : (match (generalizing := false) L with | 0 :: 5 :: M => if nF M < 10 then some (2 :: M) else none | _ => none) = some L' := h
          split at h
          · split at h
            · rw [← Option.some.inj h]
              exact Nat.le_refl _
            · cases h
          · cases h
        · have h : (match (generalizing := false) L with | 2 :: M => some (5 :: 2 :: M) | _ => none) = some L' := h
          split at h
          · rw [← Option.some.inj h]
            exact Nat.le_succ _
          · cases h
        · rw [pay_eq h]; exact Nat.le_succ _
        · have h : (match (generalizing := false) L with | 0 :: 5 :: M => some M | [0] => some [] | _ => none) = some L' := h
          split at h
          · rw [← Option.some.inj h]
            exact Nat.le_succ _
          · rw [← Option.some.inj h]
            exact Nat.le_succ _
          · cases h
        · rw [pay_eq h]; exact Nat.le_succ _
        · rw [pay_eq h]; exact Nat.le_succ _
        · have h : (match (generalizing := false) L with | 5 :: M => if nF M < 10 then some (3 :: M) else none | _ => none) = some L' := h
          split at h
          · split at h
            · rw [← Option.some.inj h]
              exact Nat.le_refl _
            · cases h
          · cases h
        · have h : (match (generalizing := false) L with | 3 :: M => some (9 :: M) | _ => none) = some L' := h
          split at h
          · rw [← Option.some.inj h]
            exact Nat.le_succ_of_le (Nat.le_succ _)
          · cases h
        · have h : (match (generalizing := false) L with | 9 :: M => some M | _ => none) = some L' := h
          split at h
          · rw [← Option.some.inj h]
            exact Nat.le_succ _
          · cases h
      have c1 : 1 ≤ clen (o, j, r, a, q, x, y) := by
        unfold clen
        dsimp only
        repeat' split
        all_goals omega
      omega
    · exfalso
      have : eff (o, j, r, a, q, x, y) L = none := by
        unfold eff
        dsimp only
        split
        all_goals first | rfl | omega
      rw [this] at h
      cases h
theorem len_cx : ∀ (code : List Ins) (L L' : List Nat), code.foldlM (fun L c => eff c L) L = some L' → code.length + nF L' ≤ 2 * cx code + nF L
  | [], L, L', h => by
    rw [show L = L' from Option.some.inj h]
    show 0 + _ ≤ _
    omega
  | c :: code, L, L', h => by
    rw [List.foldlM_cons] at h
    cases hM : eff c L with
    | none =>
      rw [hM] at h
      cases h
    | some M =>
      rw [hM] at h
      have i1 := len_cx code M L' h
      have i2 := eff_F hM
      unfold cx at i1 ⊢
      rw [List.map_cons, List.sum_cons, List.length_cons]
      omega
theorem PE.len (h : PE b n p e i op D code code1 vs cl W cu fs t s) : code.length ≤ 2 * cx code ∧ cx code ≤ 6408 := by
  have hcx := h.2.2.2.2.2.2.2.2.2.2.2.2
  obtain ⟨hi, e5, e6, e7, hkk, ho', he', hlt, hll⟩ := h.1.now
  have := len_cx code [] cu (PE.ly h)
  have h0 : nF [] = 0 := rfl
  exact ⟨by omega, by omega⟩
abbrev nuI : Ins := (26, 0, 0, 0, 0, 0, 0)
/-- a block ends, and neither writes -/
theorem PE.nul (h : PE b n p e i op D code code vs cl W (4 :: cu) fs t s) : PE b n p e i op D (code ++ [nuI]) (code ++ [nuI]) vs cl W cu (fs.1, code.length + 1, fs.2.2) t s := by
  obtain ⟨h1, hc', hr, ⟨w1, w2, -⟩, hW, hV, k1, k2, k3, k4, k5, k6, k7⟩ := h
  have hc : tgO code.length nuI := Or.inr (Or.inl (Nat.zero_le _))
  have e1 : cl.map (cK (code ++ [nuI])) = cl.map (cK code) := List.map_congr_left fun x hx => cK_app (k3.1 x hx).1
  have e2 : cl.map (rK e (code ++ [nuI])) = cl.map (rK e code) := List.map_congr_left fun x hx => rK_app (k3.1 x hx).1
  have eC : CA (code ++ [nuI]) = CA code := by
    rw [CA_app w1 hc]
    exact List.append_nil _
  have eR : RA e (code ++ [nuI]) = RA e code := by
    rw [RA_app w1 hc]
    exact List.append_nil _
  have wf : wfC (code ++ [nuI]) := wfC_app w1 (Or.inr (Or.inl (Nat.zero_le _)))
  refine ⟨h1, by rw [eC]; exact hc', by rw [eR]; exact hr, ⟨wf, wf, ⟨[], by rw [List.append_nil]⟩⟩, hW, hV, by rw [e1]; exact k1, by rw [e2]; exact k2, k3.app (fun z => absurd z (by simp)), k4.app (Nat.le_refl _) rfl (by unfold okI; simp) (Or.inr rfl), ?_, ?_, ?_⟩
  · rw [rl_app, rl_one, xl_app, xl_one]
    exact k5
  · rw [rl_app, rl_one]
    exact k6
  · rw [cx_app, cx_one]
    exact k7
theorem JP.nul {a : Nat} (h : JP code a code.length) : JP (code ++ [nuI]) a (code ++ [nuI]).length := fun m h1 h2 => by
  by_cases z : m < code.length
  · exact (h m h1 z).app z
  · have z : m = code.length := by
      rw [List.length_append, List.length_singleton] at h2
      omega
    subst z
    exact Or.inl (by rw [getD_last]; unfold noJ; simp)
theorem tgC_end (h : code.length < 99999) : tgC code code.length 0 = Int32.ofNat (cx code) := by
  unfold tgC
  rw [if_neg (by show ¬ code.length = 99999; omega), posC_len]
  rfl
theorem tgR_end (h : code.length < 99999) : tgR e code code.length 0 = Int32.ofNat (ob0 e + rl code) := by
  unfold tgR
  rw [if_neg (by show ¬ code.length = 99999; omega), posR_len]
  rfl
/-- a jump is told that it goes to the end -/
theorem PE.tgt {q r : Nat} {pl : Int32} (h : PE b n p e i op D code code vs cl W cu fs t s) (hq : q = 13 ∨ q = 14 ∨ q = 18 ∨ q = 24) (hm : m < code.length) (hcd : code.getD m dI = (q, unk, r, 0, pl, 0, 0)) (hf : m < fs.2.1) (ho : okI vs.length (q, code.length, r, 0, pl, 0, 0)) : ∃ t', cf_210 N X p (Int32.ofNat (posC code m)) (Int32.ofNat (cx code)) t = some (t', .inl none) ∧ PE b n p e i op D (code.set m (q, code.length, r, 0, pl, 0, 0)) (code.set m (q, code.length, r, 0, pl, 0, 0)) vs cl W cu fs t' (mA s 24 (upd (s.2.2.1 24) (ob0 e + posR code m) (Int32.ofNat (ob0 e + rl code)))) ∧ FR p e t t' s (mA s 24 (upd (s.2.2.1 24) (ob0 e + posR code m) (Int32.ofNat (ob0 e + rl code)))) := by
  obtain ⟨hl1, hl2⟩ := h.len
  have tc := tgC_end (code := code) (by omega)
  have tr := tgR_end (e := e) (code := code) (by omega)
  have k0 : (q, code.length, r, (0 : Int32), pl, (0 : Int32), (0 : Int32)).1 = (code.getD m dI).1 := by rw [hcd]
  have hC : ∃ x y lc, cI code (posC code m) (code.getD m dI) = (x, 0, y) :: lc ∧ cI code (posC code m) (q, code.length, r, 0, pl, 0, 0) = (x, Int32.ofNat (cx code), y) :: lc := by
    rw [hcd, ← tc]
    rcases hq with z | z | z | z <;> subst z
    · exact ⟨5, pl, [], rfl, rfl⟩
    · exact ⟨4, pl, [], rfl, rfl⟩
    · exact ⟨27, pl, [(2, cv r, pl)], rfl, rfl⟩
    · exact ⟨11, 0, [], rfl, rfl⟩
  have hR : ∃ x1 x3 x4 x5, rI e code (code.getD m dI) = [(x1, 0, x3, x4, x5)] ∧ rI e code (q, code.length, r, 0, pl, 0, 0) = [(x1, Int32.ofNat (ob0 e + rl code), x3, x4, x5)] := by
    rw [hcd, ← tr]
    rcases hq with z | z | z | z <;> subst z
    · exact ⟨14, 0, 0, pl, rfl, rfl⟩
    · exact ⟨15, 0, 0, 0, rfl, rfl⟩
    · exact ⟨18, Int32.ofNat r, 0, pl, rfl, rfl⟩
    · exact ⟨24, 0, 0, 0, rfl, rfl⟩
  obtain ⟨x, y, lc, c1, c2⟩ := hC
  obtain ⟨x1, x3, x4, x5, r1, r2⟩ := hR
  obtain ⟨t', b1, b2, b3, b4⟩ := c_amd (N := N) (X := X) h.2.1 hm (by omega) (clen_k k0) c1 c2
  obtain ⟨d1, d2⟩ := r_amda h.2.2.1 hm (rlen_k k0) r1 r2
  obtain ⟨g1, g2⟩ := h.amd (t' := t') hm k0 (by unfold noJ; show ¬ ¬ (q = 13 ∨ q = 14 ∨ q = 18 ∨ q = 23 ∨ q = 24); omega) (fun L => by rw [hcd]; rcases hq with z | z | z | z <;> subst z <;> rfl) (Nat.le_refl _) ho hf b2 d1 b3 b4 d2
  exact ⟨t', b1, g1, g2⟩
/-- such a jump is well -/
theorem okJ_tgt {q r : Nat} {pl : Int32} {L : List Nat} (hq : q = 13 ∨ q = 14 ∨ q = 18 ∨ q = 24) (hm : m < code.length) (hcd : code.getD m dI = (q, unk, r, 0, pl, 0, 0)) (ha : a ≤ code.length) (h1 : lyo (code.take m) = some L) (h2 : lyo code = some cu) (hj : jl (q, code.length, r, 0, pl, 0, 0) L cu) : okJ (code.set m (q, code.length, r, 0, pl, 0, 0)) a m := by
  have he : ∀ L, eff (q, code.length, r, 0, pl, 0, 0) L = eff (code.getD m dI) L := fun L => by rw [hcd]; rcases hq with z | z | z | z <;> subst z <;> rfl
  unfold okJ
  rw [getD_set_eq hm]
  refine Or.inr ⟨ha, by rw [List.length_set]; exact Nat.le_refl _, fun z => ?_, L, cu, ?_, ?_, hj⟩
  · have z : q = 23 := z
    omega
  · rw [lyo_set_take he]
    exact h1
  · rw [lyo_set_take he]
    show lyo (code.take code.length) = _
    rw [List.take_length]
    exact h2
/-- the picture put together anew -/
theorem PE.asm (h : PE b n p e i op D code code vs cl W cu fs t s) (hq : pR b n i' op' t' s') (hc : cCd t' p (CA code2)) (hr : rCd s' e (RA e code2)) (hw : wfC code2) (hV : VR vs' t' s') (g : gL (eM p) (aM p) t t') (f1 : ∀ q, q = 29 ∨ q = 44 → s'.1 q = s.1 q) (f2 : ∀ q, q = 30 ∨ q = 31 ∨ q = 32 ∨ q = 38 ∨ q = 39 ∨ q = 40 ∨ q = 41 ∨ q = 43 → s'.2.2.1 q = s.2.2.1 q) (f3 : ∀ q, q = 33 ∨ q = 42 → s'.2.2.2 q = s.2.2.2 q) (hpos : ∀ j, j ≤ code.length → posC code2 j = posC code j ∧ posR code2 j = posR code j) (hx : okX code2 cl cl) (ht : TY fs' vs'.length cu' code2) (d1 : rl code2 + xl code2 + cl.length + D' ≤ i' + 1) (d2 : cl.length ≤ rl code2) (d3 : cx code2 + 3 * D' ≤ 4 * i' + 4) : PE b n p e i' op' D' code2 code2 vs' cl W cu' fs' t' s' := by
  obtain ⟨h1, hc', hr', ⟨w1, w2, w3⟩, hW, hV', k1, k2, k3, k4, k5, k6, k7⟩ := h
  have hp := hc'.2.1
  have e1 : cl.map (cK code2) = cl.map (cK code) := List.map_congr_left fun x hx => by
    unfold cK
    rw [(hpos x.1 (Nat.le_of_lt (k3.1 x hx).1)).1]
  have e2 : cl.map (rK e code2) = cl.map (rK e code) := List.map_congr_left fun x hx => by
    unfold rK
    rw [(hpos x.1 (Nat.le_of_lt (k3.1 x hx).1)).2]
  exact ⟨hq, hc, hr, ⟨hw, hw, ⟨[], by rw [List.append_nil]⟩⟩, hW.keep (f1 44 (by omega)) (fun q z => f2 q (by omega)) (f3 42 (by omega)), hV, by rw [e1]; exact k1.keep g (fun z => by rcases hp with y | y <;> omega) (fun _ z => by rcases hp with y | y <;> omega), by rw [e2]; exact k2.keep (f1 29 (by omega)) (fun q z => f2 q (by omega)) (f3 33 (by omega)), hx, ht, d1, d2, d3⟩
theorem eP_M : ∀ k f, eP k f → eM p k f := fun k f z => by
  rcases z with ⟨z1, z2⟩ | ⟨z1, z2⟩
  · exact Or.inl ⟨z1, z2⟩
  · exact Or.inr (Or.inl ⟨z1, by omega⟩)
theorem eV_M : ∀ k f, eV k f → eM p k f := fun k f z => by
  rcases z with ⟨z1, z2⟩ | ⟨z1, z2⟩
  · exact Or.inl ⟨z1, z2⟩
  · exact Or.inr (Or.inl ⟨z1, by omega⟩)
theorem gM_Q (g : gL (eM p) (aM p) t t') : gL (eQ p) (aQ p) t t' := g.mono (fun k f z => by
  rcases z with z | ⟨z1, z2⟩ | z
  · exact Or.inl z
  · exact Or.inr (Or.inl ⟨z1, by omega⟩)
  · exact Or.inr (Or.inr z)) (fun k z => by unfold aQ; omega)
/-- a block is taken down -/
theorem rB.close {q : Nat} {x2 x3 : Int32} (h : rB s (Bs ++ [(Int32.ofNat q, x2, x3)])) (hq : q ≤ 6) : rB (mI s 37 (Int32.ofNat Bs.length)) Bs ∧ fBk s (mI s 37 (Int32.ofNat Bs.length)) ∧ s.2.2.1 36 Bs.length = x3 ∧ Bs.length ≤ 9 ∧ mf_278_6 N s = (if q = 0 then mf_278_72 N x2 (mI s 37 (Int32.ofNat Bs.length)) else if q = 1 then mf_278_102 N x2 (mI s 37 (Int32.ofNat Bs.length)) else if q = 3 ∨ q = 4 then mf_278_155 N x2 (mI s 37 (Int32.ofNat Bs.length)) else if q = 5 then mf_278_184 N x2 (mI s 37 (Int32.ofNat Bs.length)) else mf_278_239 N x2 (mI s 37 (Int32.ofNat Bs.length))) := by
  obtain ⟨h1, h2, h3⟩ := h
  rw [List.length_append, List.length_singleton] at h1 h2
  have h4 := h3 Bs.length (by rw [List.length_append, List.length_singleton]; omega)
  rw [List.getElem_append_right (Nat.le_refl _)] at h4
  simp only [Nat.sub_self, List.getElem_cons_zero] at h4
  obtain ⟨q1, q2, q3⟩ := h4
  refine ⟨⟨rfl, by omega, fun k hk => ?_⟩, ⟨fun q r => if_neg r, fun _ _ => rfl, fun _ _ => rfl, fun _ _ => rfl⟩, q3, by omega, ?_⟩
  · have h5 := h3 k (by rw [List.length_append]; omega)
    rw [List.getElem_append_left hk] at h5
    exact h5
  · have hv : q = 0 ∨ q = 1 ∨ q = 2 ∨ q = 3 ∨ q = 4 ∨ q = 5 ∨ q = 6 := by omega
    rcases hv with z | z | z | z | z | z | z <;> subst z
    · have g : (Int32.toInt (Int32.ofNat 0) < 0 ∨ 5 < Int32.toInt (Int32.ofNat 0)) = False := by decide
      unfold mf_278_6
      simp (disch := omega) only [ev_S, ev_P, ↓reduceIte, Nat.reduceEqDiff, Nat.reduceLeDiff, Nat.reduceAdd, Nat.reduceMul, Nat.reduceSub, reduceCtorEq, l32_0, l32_1, l32_2, l32_3, l32_4, l32_5, l32_6, l32_7, l32_8, l32_9, l32_10, l32_11, l32_12, l32_13, l32_14, l32_15, l32_16, l32_17, l32_18, l32_19, l32_20, l32_21, l32_22, l32_23, l32_24, l32_25, l32_26, l32_27, l32_28, l32_29, l32_33, l32_40, l32_41, l32_44, l32_45, l32_59, l32_61, l32_91, l32_93, l32_123, l32_125, h1, q1, q2, g]
    · have g : (Int32.toInt (Int32.ofNat 1) < 0 ∨ 5 < Int32.toInt (Int32.ofNat 1)) = False := by decide
      unfold mf_278_6
      simp (disch := omega) only [ev_S, ev_P, ↓reduceIte, Nat.reduceEqDiff, Nat.reduceLeDiff, Nat.reduceAdd, Nat.reduceMul, Nat.reduceSub, reduceCtorEq, l32_0, l32_1, l32_2, l32_3, l32_4, l32_5, l32_6, l32_7, l32_8, l32_9, l32_10, l32_11, l32_12, l32_13, l32_14, l32_15, l32_16, l32_17, l32_18, l32_19, l32_20, l32_21, l32_22, l32_23, l32_24, l32_25, l32_26, l32_27, l32_28, l32_29, l32_33, l32_40, l32_41, l32_44, l32_45, l32_59, l32_61, l32_91, l32_93, l32_123, l32_125, h1, q1, q2, g]
    · have g : (Int32.toInt (Int32.ofNat 2) < 0 ∨ 5 < Int32.toInt (Int32.ofNat 2)) = False := by decide
      unfold mf_278_6
      simp (disch := omega) only [ev_S, ev_P, ↓reduceIte, Nat.reduceEqDiff, Nat.reduceLeDiff, Nat.reduceAdd, Nat.reduceMul, Nat.reduceSub, reduceCtorEq, l32_0, l32_1, l32_2, l32_3, l32_4, l32_5, l32_6, l32_7, l32_8, l32_9, l32_10, l32_11, l32_12, l32_13, l32_14, l32_15, l32_16, l32_17, l32_18, l32_19, l32_20, l32_21, l32_22, l32_23, l32_24, l32_25, l32_26, l32_27, l32_28, l32_29, l32_33, l32_40, l32_41, l32_44, l32_45, l32_59, l32_61, l32_91, l32_93, l32_123, l32_125, h1, q1, q2, g]
    · have g : (Int32.toInt (Int32.ofNat 3) < 0 ∨ 5 < Int32.toInt (Int32.ofNat 3)) = False := by decide
      unfold mf_278_6
      simp (disch := omega) only [ev_S, ev_P, ↓reduceIte, Nat.reduceEqDiff, Nat.reduceLeDiff, Nat.reduceAdd, Nat.reduceMul, Nat.reduceSub, reduceCtorEq, l32_0, l32_1, l32_2, l32_3, l32_4, l32_5, l32_6, l32_7, l32_8, l32_9, l32_10, l32_11, l32_12, l32_13, l32_14, l32_15, l32_16, l32_17, l32_18, l32_19, l32_20, l32_21, l32_22, l32_23, l32_24, l32_25, l32_26, l32_27, l32_28, l32_29, l32_33, l32_40, l32_41, l32_44, l32_45, l32_59, l32_61, l32_91, l32_93, l32_123, l32_125, h1, q1, q2, g]
    · have g : (Int32.toInt (Int32.ofNat 4) < 0 ∨ 5 < Int32.toInt (Int32.ofNat 4)) = False := by decide
      unfold mf_278_6
      simp (disch := omega) only [ev_S, ev_P, ↓reduceIte, Nat.reduceEqDiff, Nat.reduceLeDiff, Nat.reduceAdd, Nat.reduceMul, Nat.reduceSub, reduceCtorEq, l32_0, l32_1, l32_2, l32_3, l32_4, l32_5, l32_6, l32_7, l32_8, l32_9, l32_10, l32_11, l32_12, l32_13, l32_14, l32_15, l32_16, l32_17, l32_18, l32_19, l32_20, l32_21, l32_22, l32_23, l32_24, l32_25, l32_26, l32_27, l32_28, l32_29, l32_33, l32_40, l32_41, l32_44, l32_45, l32_59, l32_61, l32_91, l32_93, l32_123, l32_125, h1, q1, q2, g]
    · have g : (Int32.toInt (Int32.ofNat 5) < 0 ∨ 5 < Int32.toInt (Int32.ofNat 5)) = False := by decide
      unfold mf_278_6
      simp (disch := omega) only [ev_S, ev_P, ↓reduceIte, Nat.reduceEqDiff, Nat.reduceLeDiff, Nat.reduceAdd, Nat.reduceMul, Nat.reduceSub, reduceCtorEq, l32_0, l32_1, l32_2, l32_3, l32_4, l32_5, l32_6, l32_7, l32_8, l32_9, l32_10, l32_11, l32_12, l32_13, l32_14, l32_15, l32_16, l32_17, l32_18, l32_19, l32_20, l32_21, l32_22, l32_23, l32_24, l32_25, l32_26, l32_27, l32_28, l32_29, l32_33, l32_40, l32_41, l32_44, l32_45, l32_59, l32_61, l32_91, l32_93, l32_123, l32_125, h1, q1, q2, g]
    · have g : (Int32.toInt (Int32.ofNat 6) < 0 ∨ 5 < Int32.toInt (Int32.ofNat 6)) = True := by decide
      unfold mf_278_6
      simp (disch := omega) only [ev_S, ev_P, ↓reduceIte, Nat.reduceEqDiff, Nat.reduceLeDiff, Nat.reduceAdd, Nat.reduceMul, Nat.reduceSub, reduceCtorEq, l32_0, l32_1, l32_2, l32_3, l32_4, l32_5, l32_6, l32_7, l32_8, l32_9, l32_10, l32_11, l32_12, l32_13, l32_14, l32_15, l32_16, l32_17, l32_18, l32_19, l32_20, l32_21, l32_22, l32_23, l32_24, l32_25, l32_26, l32_27, l32_28, l32_29, l32_33, l32_40, l32_41, l32_44, l32_45, l32_59, l32_61, l32_91, l32_93, l32_123, l32_125, h1, q1, q2, g]
/-- ( E ) and the jump behind it -/
theorem p_cond {w : Nat} {pl top : Int32} (hN : 170000 ≤ N) (hX : oX N X) (hY : oY X) (hw : w = 1 ∨ w = 3) (h : PE b n p e i op D code code vs cl W (5 :: cu) fs t s) (hwn : rWn s) (hb : rB s Bs) (hB : nF cu + 1 ≤ op) : (∃ t' s' i' seg vs' cl', cf_183 N X pl t = some (t', .inl (some (.int (Int32.ofNat (cx (code ++ seg)))))) ∧ mf_279_138 N pl (Int32.ofNat w) top s = mo_bv (mf_276 N (Int32.ofNat w) (Int32.ofNat (ob0 e + rl (code ++ seg))) top s') (fun s => some (s, none)) ∧ i + 2 < i' ∧ PE b n p e i' op (D + 1) (code ++ seg ++ [(13, unk, 0, 0, pl, 0, 0)]) (code ++ seg ++ [(13, unk, 0, 0, pl, 0, 0)]) vs' cl' [] (4 :: cu) (fs.1, (code ++ seg).length + 1, fs.2.2) t' s' ∧ lyo (code ++ seg) = some (0 :: 5 :: cu) ∧ (∀ c ∈ (code ++ seg).drop fs.2.1, noJ c) ∧ FR p e t t' s s') ∨ (∃ t' s', cf_183 N X pl t = some (t', .inr ()) ∧ mf_279_138 N pl (Int32.ofNat w) top s = some (s', none) ∧ pF t' s' ∧ FXs p e t t' s s') := by
  have hR : cf_183 N X pl t = cH N X 40 41 (fun g => cf_183_17 N X pl g) t := rfl
  have hM : mf_279_138 N pl (Int32.ofNat w) top s = rH N 41 (mf_268 N (Int32.ofNat 40) s) (fun s => mo_bi (mf_271 N (Int32.ofNat 14) (Int32.ofNat 0) (Int32.ofNat 0) pl s) (fun s k => mo_bv (mf_276 N (Int32.ofNat w) k top s) (fun s => some (s, none)))) := by
    rcases hw with z | z <;> subst z <;> rfl
  rw [hR, hM]
  rcases p_brk (c1 := 40) (c2 := 41) hN hX hY (by omega) h hwn with ⟨t2, s2, i2, seg, vs2, cl2, b1, b2, b3, bv, b4, b5⟩ | ⟨t2, s2, b1, b2, b3, b4⟩
  · have hP : kP t2 2 1 = some p := b4.2.1.1
    have hp : (p = 12 ∨ p = 21) = True := eq_true b4.2.1.2.1
    obtain ⟨t3, s3, c1, c2, c3, c4, c5⟩ := PEg.bo (N := N) (X := X) (js := (code ++ seg).length + 1) (D' := D + 1) (cu' := 4 :: cu) (c := (13, unk, 0, 0, pl, 0, 0)) (k := Int32.ofNat 5) (a := Int32.ofNat 0) (v := pl) (x1 := Int32.ofNat 14) (x2 := Int32.ofNat 0) (x3 := Int32.ofNat 0) (x4 := pl) b4 (fun z => absurd z (by simp)) (Or.inr rfl) rfl rfl (Or.inl rfl) (by show (if nF cu < 10 then some (4 :: cu) else none) = _; rw [if_pos (by have := h.1.2.2.2.1; omega)]) (by unfold okI; simp) (by omega) (Or.inl (Nat.le_refl 1))
    refine Or.inl ⟨t3, s3, i2, seg, vs2, cl2, ?_, ?_, b3, c3, b4.ly, b4.nj.2, b5.tr c4⟩
    · rw [b1]
      unfold cf_183_17 cf_183_27
      simp (disch := omega) only [ev_S, ev_C, ↓reduceIte, Nat.reduceEqDiff, Nat.reduceLeDiff, Nat.reduceAdd, Nat.reduceMul, Nat.reduceSub, reduceCtorEq, l32_0, l32_1, l32_2, l32_3, l32_4, l32_5, l32_6, l32_7, l32_8, l32_9, l32_10, l32_11, l32_12, l32_13, l32_14, l32_15, l32_16, l32_17, l32_18, l32_19, l32_20, l32_21, l32_22, l32_23, l32_24, l32_25, l32_26, l32_27, l32_28, l32_29, l32_33, l32_40, l32_41, l32_44, l32_45, l32_59, l32_61, l32_91, l32_93, l32_123, l32_125, hP, hp, c1]
    · rw [b2, c2]
      rfl
  · obtain ⟨m, m1, m2⟩ := h.fU hb b3 b4
    obtain ⟨s3, c1, c2, c3⟩ := r_orderF (N := N) (x1 := Int32.ofNat 14) (x2 := Int32.ofNat 0) (x3 := Int32.ofNat 0) (x4 := pl) m2
    obtain ⟨s4, d1, d2⟩ := r_blockF (N := N) (x1 := Int32.ofNat w) (x2 := Int32.ofNat (ob0 e + m)) (x3 := top) (c3 (by omega))
    refine Or.inr ⟨t2, s4, b1 _, ?_, b3.tl (c2.tr d2), b4.S.tl (c2.tr d2)⟩
    rw [b2, c1]
    show mo_bv (mf_276 N (Int32.ofNat w) (Int32.ofNat (ob0 e + m)) top s3) _ = _
    rw [d1]
    rfl
end TGT
end
-- ### 93j.pure.lean.txt
section
/-! ===== PURE: statements (9): while and if ===== -/
section WHI
variable {N : Nat} {X : Nat → Option zz_C} {t t' t1 t2 : cS} {s s' s1 s2 : mS} {b : Nat → Nat} {n p e i i' op op' D D' : Nat} {code code1 code2 l : List Ins} {vs vs' : List (List Nat)} {cl : List Cn} {W : List Wt} {cu cu' : List Nat} {fs fs' : Nat × Nat × Nat} {Bs : List (Int32 × Int32 × Int32)} {a m z : Nat} {c c' : Ins}
theorem JP.setx (hm : m < code.length) (hk : c'.1 = (code.getD m dI).1) (hj : ¬ noJ c') (he : ∀ L, eff c' L = eff (code.getD m dI) L) (h : ∀ k, a ≤ k → k < z → ¬ k = m → okJ code a k) (h0 : okJ (code.set m c') a m) : JP (code.set m c') a z := fun k h1 h2 => by
  by_cases y : k = m
  · subst y
    exact h0
  · exact (h k h1 h2 y).set y he (fun q => hj (by unfold noJ; omega))
theorem pre_set (hc : code2 = code ++ l) (hm : code.length ≤ m) : ∃ seg, code2.set m c' = code ++ seg := by
  subst hc
  exact ⟨_, List.set_append_right _ _ hm⟩
theorem okJ_at {q r j : Nat} {pl : Int32} {L : List Nat} (hcd : code.getD m dI = (q, j, r, 0, pl, 0, 0)) (hq : ¬ q = 23) (h1 : a ≤ j ∧ j ≤ code.length) (h2 : lyo (code.take m) = some L) (h3 : lyo (code.take j) = some cu) (hj : jl (q, j, r, 0, pl, 0, 0) L cu) : okJ code a m := by
  unfold okJ
  rw [hcd]
  exact Or.inr ⟨h1.1, h1.2, fun z => absurd z hq, L, cu, h2, h3, hj⟩
theorem take_pre (h : code2 = code ++ l) : code2.take code.length = code := by
  rw [h]
  exact List.take_left
theorem SQ.f1 {R : kO} {M : mO} (hi : i < (TL b n).length) (hR : R = some (t', .inr ())) (hM : M = some (s', none)) (hF : pF t' s') (hx : FXs p e t t' s s') : SQ N b n p e i op D code cu fs Bs t s R M := Or.inr ⟨t', s', s', 1, hR, hM, by omega, fun f => TW_F hF, hF, hx⟩
/-- while -/
theorem p_while {F : Nat} {pl : Int32} (hN : 170000 ≤ N) (hX : oX N X) (hY : oY X) (hS : SSt N X b n p e F) (hF : 3 * (10 - op) ≤ F) (h : PE b n p e i op D code code vs cl W (5 :: cu) fs t s) (hfs : fs.2.1 = code.length) (hwn : rWn s) (hb : rB s Bs) (hB : Bs.length ≤ op ∧ nF cu + 1 ≤ op) (hk : ∀ hi : i < (TL b n).length, (TL b n)[i].1 = 3) : SQ N b n p e i op (D + 1) code cu fs Bs t s (cf_182 N X (cf_S1 N X (F + 1)) pl t) (mf_279_114 N pl (Int32.ofNat 3) s) := by
  obtain ⟨hi, e5, e6, e7, hkk, ho, he, hlt, hll⟩ := h.1.now
  obtain ⟨t1, s1, a1, a2, a3, a4, a5⟩ := h.adv (N := N) (X := X) hN (fun _ => by have := hk hi; omega)
  have f1 : FR p e t t1 s s1 := ⟨a4, a5⟩
  have hp : (p = 12 ∨ p = 21) = True := eq_true a3.2.1.2.1
  have hP1 : kP t1 2 1 = some p := a3.2.1.1
  have hh : mf_272 N s1 = some (s1, some (.int (Int32.ofNat (ob0 e + rl code)))) := by
    have := r_here (N := N) a3.2.2.1
    rw [RA_len] at this
    exact this
  obtain ⟨t2, s2, b1, b2, b3, b4, b5⟩ := a3.bo (N := N) (X := X) (D' := D) (cu' := 5 :: 5 :: cu) (c := (15, 0, 0, 0, pl, 0, 0)) (k := Int32.ofNat 26) (a := Int32.ofNat 0) (v := pl) (x1 := Int32.ofNat 16) (x2 := Int32.ofNat 0) (x3 := Int32.ofNat 0) (x4 := pl) rfl rfl (Or.inr (Or.inl (Nat.zero_le _))) (eff_15 rfl) (by unfold okI; simp) (by omega) (Or.inl (Nat.le_refl 1))
  have hM0 : mf_279_114 N pl (Int32.ofNat 3) s = mf_279_138 N pl (Int32.ofNat 3) (Int32.ofNat (ob0 e + rl code)) s2 := by
    unfold mf_279_114 mf_279_118 mf_279_122 mf_279_128 mf_279_137
    simp (disch := omega) only [ev_S, ev_P, ↓reduceIte, Nat.reduceEqDiff, Nat.reduceLeDiff, Nat.reduceAdd, Nat.reduceMul, Nat.reduceSub, reduceCtorEq, l32_0, l32_1, l32_2, l32_3, l32_4, l32_5, l32_6, l32_7, l32_8, l32_9, l32_10, l32_11, l32_12, l32_13, l32_14, l32_15, l32_16, l32_17, l32_18, l32_19, l32_20, l32_21, l32_22, l32_23, l32_24, l32_25, l32_26, l32_27, l32_28, l32_29, l32_33, l32_40, l32_41, l32_44, l32_45, l32_59, l32_61, l32_91, l32_93, l32_123, l32_125, a2, hh, b2]
  have hR0 : cf_182 N X (cf_S1 N X (F + 1)) pl t = ko_call 5 (cf_183 N X pl t2) (fun g1 v1 => co_i v1 (fun y => cf_182_24 N X (cf_S1 N X (F + 1)) pl (Int32.ofNat (cx code)) y g1)) := by
    unfold cf_182 cf_182_0 cf_182_7 cf_182_18
    simp (disch := omega) only [ev_S, ev_C, ↓reduceIte, Nat.reduceEqDiff, Nat.reduceLeDiff, Nat.reduceAdd, Nat.reduceMul, Nat.reduceSub, reduceCtorEq, l32_0, l32_1, l32_2, l32_3, l32_4, l32_5, l32_6, l32_7, l32_8, l32_9, l32_10, l32_11, l32_12, l32_13, l32_14, l32_15, l32_16, l32_17, l32_18, l32_19, l32_20, l32_21, l32_22, l32_23, l32_24, l32_25, l32_26, l32_27, l32_28, l32_29, l32_33, l32_40, l32_41, l32_44, l32_45, l32_59, l32_61, l32_91, l32_93, l32_123, l32_125, a1, hP1, hp, b1]
  rw [hM0, hR0]
  have f2 := f1.tr b4
  have w2 : rWn s2 := hwn.kp f2.2
  have rb2 : rB s2 Bs := hb.kp f2.2
  rcases p_cond (w := 3) (pl := pl) (top := Int32.ofNat (ob0 e + rl code)) hN hX hY (Or.inr rfl) b3 w2 rb2 hB.2 with ⟨t3, s3, i3, segE, vs3, cl3, c1, c2, c3, c4, c5, c6, c7⟩ | ⟨t3, s3, c1, c2, c3, c4⟩
  · rw [c1, c2]
    have f3 := f2.tr c7
    have w3 : rWn s3 := hwn.kp f3.2
    have rb3 : rB s3 Bs := hb.kp f3.2
    have hR1 : ∀ y, ko_call 5 (some (t3, .inl (some (.int y)))) (fun g1 v1 => co_i v1 (fun y => cf_182_24 N X (cf_S1 N X (F + 1)) pl (Int32.ofNat (cx code)) y g1)) = ko_call 5 (cf_S1 N X (F + 1) 176 [] t3) (fun g1 v1 => co_v v1 (cf_182_29 N X (cf_S1 N X (F + 1)) pl (Int32.ofNat (cx code)) y g1)) := fun y => rfl
    rw [hR1]
    generalize hE : code ++ [((15, 0, 0, 0, pl, 0, 0) : Ins)] ++ segE = codeE at *
    have hpE : codeE = code ++ ([((15, 0, 0, 0, pl, 0, 0) : Ins)] ++ segE) := by rw [← hE, List.append_assoc]
    have hlE : code.length + 1 ≤ codeE.length := by
      rw [hpE, List.length_append, List.length_append, List.length_singleton]
      omega
    rcases p_blk (x1 := Int32.ofNat 3) (x2 := Int32.ofNat (ob0 e + rl codeE)) (x3 := Int32.ofNat (ob0 e + rl code)) noX_2 hN hS hF c4 w3 rb3 ⟨hB.1, by first | exact hB.2 | omega⟩ with ⟨t4, s0, s4, k4, i4, segB, vs4, cl4, W4, d1, d2, d3, d4, d5, d6, d7, d8, d9⟩ | ⟨t4, s0, s4, k4, d1, d2, d3, d4, d5, d6⟩
    · rw [d1, d2]
      obtain ⟨q1, q2, q3, q4, q5⟩ := d7.close (N := N) (by omega)
      rw [if_neg (by decide), if_neg (by decide), if_pos (by decide)] at q5
      have d6 := d6.kS q2
      have q3 : (mI s4 37 (Int32.ofNat Bs.length)).2.2.1 36 Bs.length = Int32.ofNat (ob0 e + rl code) := q3
      have f4 : FRs p e t t4 s (mI s4 37 (Int32.ofNat Bs.length)) := f3.S.tr (d9.tr ⟨gL.rf, fBk.S q2⟩)
      have h37 : (mI s4 37 (Int32.ofNat Bs.length)).1 37 = Int32.ofNat Bs.length := rfl
      generalize hs5 : mI s4 37 (Int32.ofNat Bs.length) = s5 at *
      generalize hB' : codeE ++ [((13, unk, 0, 0, pl, 0, 0) : Ins)] ++ segB = codeB at *
      have hpB : codeB = codeE ++ ([((13, unk, 0, 0, pl, 0, 0) : Ins)] ++ segB) := by rw [← hB', List.append_assoc]
      have hlB : codeE.length + 1 ≤ codeB.length := by
        rw [hpB, List.length_append, List.length_append, List.length_singleton]
        omega
      have hpB0 : codeB = code ++ ([((15, 0, 0, 0, pl, 0, 0) : Ins)] ++ segE ++ ([((13, unk, 0, 0, pl, 0, 0) : Ins)] ++ segB)) := by
        rw [hpB, hpE, List.append_assoc]
      have hP4 : kP t4 2 1 = some p := d6.2.1.1
      obtain ⟨hl1, hl2⟩ := d6.len
      have hrl := d6.rle
      have ho4 : ob0 e ≤ 4000 := by unfold ob0; omega
      have tC : cI codeB (posC codeB codeB.length) (14, code.length, 2, 0, pl, 0, 0) = [(Int32.ofNat 4, Int32.ofNat (cx code), pl)] := by
        show [(_, tgC codeB code.length 0, pl)] = _
        unfold tgC
        rw [if_neg (by show ¬ code.length = 99999; omega), hpB0, posC_e]
        rfl
      have tR : rI e codeB (14, code.length, 2, 0, pl, 0, 0) = [(Int32.ofNat 15, Int32.ofNat (ob0 e + rl code), Int32.ofNat 0, 0, Int32.ofNat 0)] := by
        show [(_, tgR e codeB code.length 0, _)] = _
        unfold tgR
        rw [if_neg (by show ¬ code.length = 99999; omega), hpB0, posR_e]
        rfl
      obtain ⟨t6, s6, g1, g2, g3, g4, g5⟩ := PEg.bo (N := N) (X := X) (js := codeB.length + 1) (D' := D + 2) (cu' := cu) d6 (fun z => absurd z (by simp)) (Or.inr rfl) tC tR (Or.inr (Or.inl (by show code.length ≤ codeB.length; omega))) rfl (by unfold okI; simp) (by omega) (Or.inl (Nat.le_refl 1))
      generalize hC' : codeB ++ [((14, code.length, 2, 0, pl, 0, 0) : Ins)] = codeC at *
      have hlC : codeC.length = codeB.length + 1 := by rw [← hC', List.length_append, List.length_singleton]
      have hpC : codeC = codeE ++ ([((13, unk, 0, 0, pl, 0, 0) : Ins)] ++ segB ++ [((14, code.length, 2, 0, pl, 0, 0) : Ins)]) := by
        rw [← hC', hpB, List.append_assoc]
      have hcd : codeC.getD codeE.length dI = (13, unk, 0, 0, pl, 0, 0) := by
        rw [← hC', getD_appl (by omega), ← hB', getD_appl (by rw [List.length_append, List.length_singleton]; omega)]
        exact getD_last
      obtain ⟨t7, u1, u2, u3⟩ := PE.tgt (N := N) (X := X) (m := codeE.length) g3 (Or.inl rfl) (by omega) hcd (by show codeE.length < codeB.length + 1; omega) (by unfold okI; simp)
      have pC : posC codeC codeE.length = cx codeE := by rw [hpC]; exact posC_e
      have pR : posR codeC codeE.length = rl codeE := by rw [hpC]; exact posR_e
      rw [pC] at u1
      rw [pR] at u2 u3
      have hP6 : kP t6 2 1 = some p := g3.2.1.1
      have hlen : cf_203 N X p t6 = some (t6, .inl (some (.int (Int32.ofNat (cx codeC))))) := by
        have := c_len (N := N) (X := X) g3.2.1
        rw [CA_len] at this
        exact this
      have hh6 : mf_272 N s6 = some (s6, some (.int (Int32.ofNat (ob0 e + rl codeC)))) := by
        have := r_here (N := N) g3.2.2.1
        rw [RA_len] at this
        exact this
      have hrE : rl codeE ≤ rl codeB := by
        rw [hpB, rl_app]
        omega
      obtain ⟨seg, hseg⟩ := pre_set (c' := (13, codeC.length, 0, 0, pl, 0, 0)) (m := codeE.length) (code := code) (code2 := codeC) (by rw [← hC', hpB0, List.append_assoc]) (by omega)
      rw [hseg] at u2
      have hls : (code ++ seg).length = codeB.length + 1 := by rw [← hseg, List.length_set, hlC]
      have hlyC : lyo codeC = some cu := PE.ly g3
      have okG : okJ codeC code.length codeB.length := okJ_at (q := 14) (j := code.length) (r := 2) (pl := pl) (L := 4 :: 5 :: cu) (cu := 5 :: cu) (by rw [← hC']; exact getD_last) (by decide) (by omega) (by rw [← hC', List.take_left]; exact d6.ly) (by rw [take_pre (code2 := codeC) (code := code) (by rw [← hC', hpB0, List.append_assoc])]; exact h.ly) (Or.inr (Or.inl ⟨rfl, Or.inr ⟨by simp, rfl⟩⟩))
      have J1 : JP codeE code.length codeE.length := by
        rw [hfs] at c6
        exact JP.no c6
      have d8 : JP codeB (codeE.length + 1) codeB.length := by
        have : (codeE ++ [((13, unk, 0, 0, pl, 0, 0) : Ins)]).length = codeE.length + 1 := by rw [List.length_append, List.length_singleton]
        rw [this] at d8
        exact d8
      have JF : JP (code ++ seg) code.length (code ++ seg).length := by
        rw [hls, ← hseg]
        refine JP.setx (by omega) (by rw [hcd]) (by unfold noJ; simp) (fun L => by rw [hcd]; rfl) (fun k k1 k2 k3 => ?_) (okJ_tgt (L := 0 :: 5 :: 5 :: cu) (Or.inl rfl) (by omega) hcd (by omega) (by rw [take_pre hpC]; exact c5) hlyC (Or.inl ⟨rfl, Or.inr rfl⟩))
        by_cases y : k < codeE.length
        · rw [hpC]
          exact (J1 k k1 y).app y
        · by_cases y2 : k = codeB.length
          · rw [y2]
            exact okG
          · rw [← hC']
            exact ((d8 k (by omega) (by omega)).lo (by omega)).app (by omega)
      refine Or.inl ⟨t7, s0, _, k4, i4, seg, vs4, cl4, W4, ?_, rfl, by omega, by omega, fun f => ?_, ?_, (q1.kp (fO.Q g5)).kp u3.2, JF, f4.tr (g4.S.tr u3.S)⟩
      · show cf_182_29 N X (cf_S1 N X (F + 1)) pl (Int32.ofNat (cx code)) (Int32.ofNat (cx codeE)) t4 = _
        unfold cf_182_29 cf_182_39 cf_182_52 cf_182_55
        simp (disch := omega) only [ev_S, ev_C, ↓reduceIte, Nat.reduceEqDiff, Nat.reduceLeDiff, Nat.reduceAdd, Nat.reduceMul, Nat.reduceSub, reduceCtorEq, l32_0, l32_1, l32_2, l32_3, l32_4, l32_5, l32_6, l32_7, l32_8, l32_9, l32_10, l32_11, l32_12, l32_13, l32_14, l32_15, l32_16, l32_17, l32_18, l32_19, l32_20, l32_21, l32_22, l32_23, l32_24, l32_25, l32_26, l32_27, l32_28, l32_29, l32_33, l32_40, l32_41, l32_44, l32_45, l32_59, l32_61, l32_91, l32_93, l32_123, l32_125, hP4, hp, g1, hP6, hlen, u1]
      · rw [d5, q5]
        have e1 : mf_278_155 N (Int32.ofNat (ob0 e + rl codeE)) s5 = some (mA s6 24 (upd (s6.2.2.1 24) (ob0 e + rl codeE) (Int32.ofNat (ob0 e + rl codeC))), none) := by
          generalize ob0 e = o at *
          unfold mf_278_155 mf_278_172 mf_278_182
          simp (disch := omega) only [ev_S, ev_P, ↓reduceIte, Nat.reduceEqDiff, Nat.reduceLeDiff, Nat.reduceAdd, Nat.reduceMul, Nat.reduceSub, reduceCtorEq, l32_0, l32_1, l32_2, l32_3, l32_4, l32_5, l32_6, l32_7, l32_8, l32_9, l32_10, l32_11, l32_12, l32_13, l32_14, l32_15, l32_16, l32_17, l32_18, l32_19, l32_20, l32_21, l32_22, l32_23, l32_24, l32_25, l32_26, l32_27, l32_28, l32_29, l32_33, l32_40, l32_41, l32_44, l32_45, l32_59, l32_61, l32_91, l32_93, l32_123, l32_125, h37, q3, g2, hh6, l32_8000]
        rw [e1]
        rfl
      · rw [hls]
        refine (u2.dn (Nat.le_succ _)).fsx ⟨Nat.le_refl _, ?_⟩ u2.pa
        rw [hls]
        exact Nat.le_refl _
    · rw [d1, d2]
      exact Or.inr ⟨t4, s0, s4, k4, rfl, rfl, by omega, d4, d5, f3.S.pre d6⟩
  · exact SQ.f1 hi (by rw [c1]; rfl) c2 c3 (f2.S.pre c4)
end WHI
end
-- ### 93k.pure.lean.txt
section
/-! ===== PURE: statements (10): if ===== -/
section IFS
variable {N : Nat} {X : Nat → Option zz_C} {t t' t1 t2 : cS} {s s' s1 s2 : mS} {b : Nat → Nat} {n p e i i' op op' D D' : Nat} {code code1 code2 l : List Ins} {vs vs' : List (List Nat)} {cl : List Cn} {W : List Wt} {cu cu' : List Nat} {fs fs' : Nat × Nat × Nat} {Bs : List (Int32 × Int32 × Int32)} {a m z : Nat} {c c' : Ins}
/-- is it the word else? both see it alike -/
theorem p_isElse (hX : oX N X) (h : pR b n i op t s) : ∃ hi : i < (TL b n).length, (((TL b n)[i].1 = 3 ∧ wix (TL b n)[i].2.2.1 = some 2) ∧ mf_264 N (Int32.ofNat 2) s = some (s, some (.int (Int32.ofNat 1))) ∧ ∀ rk pl y, cf_181_17 N X rk pl y t = cf_181_54 N X rk pl y t) ∨ (mf_264 N (Int32.ofNat 2) s = some (s, some (.int (Int32.ofNat 0))) ∧ ∀ rk pl y, cf_181_17 N X rk pl y t = cf_181_38 N X rk y t) := by
  obtain ⟨hi, e5, e6, e7, hkk, ho, he, hlt, hll⟩ := h.now
  have g1 := r_isWord (N := N) h.2.2.2.2.2.2.2.1 (w := 2) (by decide) hkk
  refine ⟨hi, ?_⟩
  have o6 : (zz_out < zz_out + 3) = True := eq_true (by omega)
  have o7 : (zz_out + 3 ≤ zz_out + 41) = True := eq_true (by omega)
  by_cases z : (TL b n)[i].1 = 3 ∧ wix (TL b n)[i].2.2.1 = some 2
  · obtain ⟨w1, w2, w3, w4⟩ := c_word (N := N) (X := X) hX h (fun _ => z)
    rw [if_pos ⟨z.1, (wix_some z.2).2.symm⟩] at g1
    refine Or.inl ⟨z, g1, fun rk pl y => ?_⟩
    unfold cf_181_17 cf_181_24 cf_181_28 cf_181_32
    simp (disch := omega) only [ev_S, ev_C, ↓reduceIte, Nat.reduceEqDiff, Nat.reduceLeDiff, Nat.reduceAdd, Nat.reduceMul, Nat.reduceSub, reduceCtorEq, l32_0, l32_1, l32_2, l32_3, l32_4, l32_5, l32_6, l32_7, l32_8, l32_9, l32_10, l32_11, l32_12, l32_13, l32_14, l32_15, l32_16, l32_17, l32_18, l32_19, l32_20, l32_21, l32_22, l32_23, l32_24, l32_25, l32_26, l32_27, l32_28, l32_29, l32_33, l32_40, l32_41, l32_44, l32_45, l32_59, l32_61, l32_91, l32_93, l32_123, l32_125, c_kindNow, w2, w1, o6, o7, ac_eq]
  · rw [if_neg (fun y => z ⟨y.1, by rw [y.2]; exact wix_wd (by decide)⟩)] at g1
    refine Or.inr ⟨g1, fun rk pl yy => ?_⟩
    by_cases y : ck (TL b n)[i] = 4
    · have y0 := ck4.mp y
      rcases y0 with ⟨y1, v, y2⟩ | y1
      · obtain ⟨w1, w2, w3, w4⟩ := c_word (N := N) (X := X) hX h (fun _ => ⟨y1, y2⟩)
        have hne : ¬ v = 2 := fun q => z ⟨y1, by rw [y2, q]⟩
        have o4 : (zz_out < zz_out + (v + 1)) = True := eq_true (by omega)
        have o5 : (zz_out + (v + 1) ≤ zz_out + 41) = True := eq_true (by omega)
        have o8 : (zz_out + (v + 1) = zz_out + 3) = False := eq_false (by omega)
        unfold cf_181_17 cf_181_24 cf_181_28 cf_181_32
        simp (disch := omega) only [ev_S, ev_C, ↓reduceIte, Nat.reduceEqDiff, Nat.reduceLeDiff, Nat.reduceAdd, Nat.reduceMul, Nat.reduceSub, reduceCtorEq, l32_0, l32_1, l32_2, l32_3, l32_4, l32_5, l32_6, l32_7, l32_8, l32_9, l32_10, l32_11, l32_12, l32_13, l32_14, l32_15, l32_16, l32_17, l32_18, l32_19, l32_20, l32_21, l32_22, l32_23, l32_24, l32_25, l32_26, l32_27, l32_28, l32_29, l32_33, l32_40, l32_41, l32_44, l32_45, l32_59, l32_61, l32_91, l32_93, l32_123, l32_125, c_kindNow, w2, w1, o4, o5, o6, o7, o8, ac_eq]
      · rcases ho with q | q | q | q | q <;> omega
    · unfold cf_181_17 cf_181_24
      simp (disch := omega) only [ev_S, ev_C, ↓reduceIte, Nat.reduceEqDiff, Nat.reduceLeDiff, Nat.reduceAdd, Nat.reduceMul, Nat.reduceSub, reduceCtorEq, l32_0, l32_1, l32_2, l32_3, l32_4, l32_5, l32_6, l32_7, l32_8, l32_9, l32_10, l32_11, l32_12, l32_13, l32_14, l32_15, l32_16, l32_17, l32_18, l32_19, l32_20, l32_21, l32_22, l32_23, l32_24, l32_25, l32_26, l32_27, l32_28, l32_29, l32_33, l32_40, l32_41, l32_44, l32_45, l32_59, l32_61, l32_91, l32_93, l32_123, l32_125, c_kindNow, e5, y]
end IFS
end
-- ### 93l.pure.lean.txt
section
/-! ===== PURE: statements (11): if, its end ===== -/
section IFE
variable {N : Nat} {X : Nat → Option zz_C} {t t' t1 t2 : cS} {s s' s1 s2 : mS} {b : Nat → Nat} {n p e i i' op op' D D' : Nat} {code code1 code2 l codeE codeB segB : List Ins} {vs vs' : List (List Nat)} {cl : List Cn} {W : List Wt} {cu cu' : List Nat} {fs fs' : Nat × Nat × Nat} {Bs : List (Int32 × Int32 × Int32)} {a m z : Nat} {c c' : Ins}
theorem PE.hlen (h : PE b n p e i op D code code1 vs cl W cu fs t s) : cf_203 N X p t = some (t, .inl (some (.int (Int32.ofNat (cx code))))) := by
  have := c_len (N := N) (X := X) h.2.1
  rw [CA_len] at this
  exact this
theorem PE.hher (h : PE b n p e i op D code code1 vs cl W cu fs t s) : mf_272 N s = some (s, some (.int (Int32.ofNat (ob0 e + rl code1)))) := by
  have := r_here (N := N) h.2.2.1
  rw [RA_len] at this
  exact this
/-- an if that no else follows: the answer -/
theorem p_ifN {pl : Int32} {rk : Nat → List Value → cS → kO} (h : PE b n p e i op D codeB codeB vs cl W cu (fs.1, codeB.length, fs.2.2) t s) (hb : rB s Bs) (hpE : codeE = code ++ l) (hpB : codeB = codeE ++ [((13, unk, 0, 0, pl, 0, 0) : Ins)] ++ segB) (hl : lyo codeE = some (0 :: 5 :: cu)) (J1 : JP codeE code.length codeE.length) (J2 : JP codeB (codeE.length + 1) codeB.length) : ∃ t' s' seg, cf_181_38 N X rk (Int32.ofNat (cx codeE)) t = some (t', .inl none) ∧ mf_278_144 N (Int32.ofNat (ob0 e + rl codeE)) s = some (s', none) ∧ PE b n p e i op D (code ++ seg) (code ++ seg) vs cl W cu (fs.1, (code ++ seg).length, fs.2.2) t' s' ∧ rB s' Bs ∧ JP (code ++ seg) code.length (code ++ seg).length ∧ FR p e t t' s s' := by
  have hP : kP t 2 1 = some p := h.2.1.1
  have hp : (p = 12 ∨ p = 21) = True := eq_true h.2.1.2.1
  obtain ⟨hl1, hl2⟩ := h.len
  have hrl := h.rle
  have ho4 : ob0 e ≤ 4000 := by unfold ob0; omega
  have hpB2 : codeB = codeE ++ ([((13, unk, 0, 0, pl, 0, 0) : Ins)] ++ segB) := by rw [hpB, List.append_assoc]
  have hlB : codeE.length + 1 ≤ codeB.length := by
    rw [hpB2, List.length_append, List.length_append, List.length_singleton]
    omega
  have hlE : code.length ≤ codeE.length := by
    rw [hpE, List.length_append]
    omega
  have hcd : codeB.getD codeE.length dI = (13, unk, 0, 0, pl, 0, 0) := by
    rw [hpB, getD_appl (by rw [List.length_append, List.length_singleton]; omega)]
    exact getD_last
  obtain ⟨t7, u1, u2, u3⟩ := PE.tgt (N := N) (X := X) (m := codeE.length) h (Or.inl rfl) (by omega) hcd (by show codeE.length < codeB.length; omega) (by unfold okI; simp)
  have pC : posC codeB codeE.length = cx codeE := by rw [hpB2]; exact posC_e
  have pR : posR codeB codeE.length = rl codeE := by rw [hpB2]; exact posR_e
  rw [pC] at u1
  rw [pR] at u2 u3
  have hlen := h.hlen (N := N) (X := X)
  have hher := h.hher (N := N)
  have hrE : rl codeE ≤ rl codeB := by
    rw [hpB2, rl_app]
    omega
  obtain ⟨seg, hseg⟩ := pre_set (c' := (13, codeB.length, 0, 0, pl, 0, 0)) (m := codeE.length) (code := code) (code2 := codeB) (by rw [hpB2, hpE, List.append_assoc]) (by omega)
  rw [hseg] at u2
  have hls : (code ++ seg).length = codeB.length := by rw [← hseg, List.length_set]
  refine ⟨t7, _, seg, ?_, ?_, by rw [hls]; exact u2, hb.kp u3.2, ?_, u3⟩
  · unfold cf_181_38 cf_181_50 cf_181_53
    simp (disch := omega) only [ev_S, ev_C, ↓reduceIte, Nat.reduceEqDiff, Nat.reduceLeDiff, Nat.reduceAdd, Nat.reduceMul, Nat.reduceSub, reduceCtorEq, l32_0, l32_1, l32_2, l32_3, l32_4, l32_5, l32_6, l32_7, l32_8, l32_9, l32_10, l32_11, l32_12, l32_13, l32_14, l32_15, l32_16, l32_17, l32_18, l32_19, l32_20, l32_21, l32_22, l32_23, l32_24, l32_25, l32_26, l32_27, l32_28, l32_29, l32_33, l32_40, l32_41, l32_44, l32_45, l32_59, l32_61, l32_91, l32_93, l32_123, l32_125, hP, hp, hlen, u1]
  · generalize ob0 e = o at *
    unfold mf_278_144 mf_278_153 mf_278_154
    simp (disch := omega) only [ev_S, ev_P, ↓reduceIte, Nat.reduceEqDiff, Nat.reduceLeDiff, Nat.reduceAdd, Nat.reduceMul, Nat.reduceSub, reduceCtorEq, l32_0, l32_1, l32_2, l32_3, l32_4, l32_5, l32_6, l32_7, l32_8, l32_9, l32_10, l32_11, l32_12, l32_13, l32_14, l32_15, l32_16, l32_17, l32_18, l32_19, l32_20, l32_21, l32_22, l32_23, l32_24, l32_25, l32_26, l32_27, l32_28, l32_29, l32_33, l32_40, l32_41, l32_44, l32_45, l32_59, l32_61, l32_91, l32_93, l32_123, l32_125, hher, l32_8000]
  · rw [hls, ← hseg]
    refine JP.setx (by omega) (by rw [hcd]) (by unfold noJ; simp) (fun L => by rw [hcd]; rfl) (fun k k1 k2 k3 => ?_) (okJ_tgt (L := 0 :: 5 :: cu) (Or.inl rfl) (by omega) hcd (by omega) (by rw [take_pre hpB2]; exact hl) h.ly (Or.inl ⟨rfl, Or.inl rfl⟩))
    by_cases y : k < codeE.length
    · rw [hpB2]
      exact (J1 k k1 y).app y
    · exact (J2 k (by omega) (by omega)).lo (by omega)
/-- an if that else follows: up to the second block -/
theorem p_ifE {F : Nat} {pl : Int32} {rk : Nat → List Value → cS → kO} (hN : 170000 ≤ N) (h : PE b n p e i op D codeB codeB vs cl W (4 :: cu) (fs.1, codeB.length, fs.2.2) t s) (hb : rB s Bs) (hpE : codeE = code ++ l) (hpB : codeB = codeE ++ [((13, unk, 0, 0, pl, 0, 0) : Ins)] ++ segB) (hl : lyo codeE = some (0 :: 5 :: cu)) (J1 : JP codeE code.length codeE.length) (J2 : JP codeB (codeE.length + 1) codeB.length) (hk : ∀ hi : i < (TL b n).length, (TL b n)[i].1 = 3) : ∃ t' s' seg, cf_181_54 N X rk pl (Int32.ofNat (cx codeE)) t = cf_181_87 N X rk (Int32.ofNat (cx codeB)) t' ∧ mf_278_110 N (Int32.ofNat (ob0 e + rl codeE)) s = mo_bv (mf_276 N (Int32.ofNat 2) (Int32.ofNat (ob0 e + rl codeB)) (Int32.ofNat 0) s') (fun s => some (s, none)) ∧ ((code ++ seg).length = codeB.length + 1 ∧ (code ++ seg).getD codeB.length dI = (14, unk, 0, 0, pl, 0, 0) ∧ lyo ((code ++ seg).take codeB.length) = some (4 :: cu) ∧ posC (code ++ seg) codeB.length = cx codeB ∧ posR (code ++ seg) codeB.length = rl codeB) ∧ PE b n p e (i + 1) op D (code ++ seg) (code ++ seg) vs cl W cu (fs.1, codeB.length + 1, fs.2.2) t' s' ∧ rB s' Bs ∧ JP (code ++ seg) code.length codeB.length ∧ FR p e t t' s s' := by
  have hP : kP t 2 1 = some p := h.2.1.1
  have hp : (p = 12 ∨ p = 21) = True := eq_true h.2.1.2.1
  have hpp := h.2.1.2.1
  obtain ⟨hl1, hl2⟩ := h.len
  have hrl := h.rle
  have ho4 : ob0 e ≤ 4000 := by unfold ob0; omega
  have hpB2 : codeB = codeE ++ ([((13, unk, 0, 0, pl, 0, 0) : Ins)] ++ segB) := by rw [hpB, List.append_assoc]
  have hlB : codeE.length + 1 ≤ codeB.length := by
    rw [hpB2, List.length_append, List.length_append, List.length_singleton]
    omega
  have hlE : code.length ≤ codeE.length := by
    rw [hpE, List.length_append]
    omega
  have hrE : rl codeE ≤ rl codeB := by
    rw [hpB2, rl_app]
    omega
  have hk0 := h
  obtain ⟨h1, hc', hr', ⟨w1, w2, w3⟩, hW, hV, k1, k2, k3, k4, k5, k6, k7⟩ := hk0
  -- the code behind
  generalize hC' : codeB ++ [((14, unk, 0, 0, pl, 0, 0) : Ins)] = codeC
  have hlC : codeC.length = codeB.length + 1 := by rw [← hC', List.length_append, List.length_singleton]
  have hpC : codeC = codeE ++ ([((13, unk, 0, 0, pl, 0, 0) : Ins)] ++ segB ++ [((14, unk, 0, 0, pl, 0, 0) : Ins)]) := by
    rw [← hC', hpB2, List.append_assoc]
  have hcd : codeC.getD codeE.length dI = (13, unk, 0, 0, pl, 0, 0) := by
    rw [← hC', getD_appl (by omega), hpB, getD_appl (by rw [List.length_append, List.length_singleton]; omega)]
    exact getD_last
  have tgG : tgO codeB.length (14, unk, 0, 0, pl, 0, 0) := Or.inl rfl
  have hCA : CA codeC = CA codeB ++ [(Int32.ofNat 4, Int32.ofNat 0, pl)] := by
    rw [← hC', CA_app w1 tgG]
    rfl
  have hRA : RA e codeC = RA e codeB ++ [(Int32.ofNat 15, Int32.ofNat 0, Int32.ofNat 0, 0, Int32.ofNat 0)] := by
    rw [← hC', RA_app w1 tgG]
    rfl
  have hcx : cx codeC = cx codeB + 1 := by
    rw [← hC', cx_app, cx_one]
    rfl
  have hxC : xl codeC = xl codeB := by
    rw [← hC', xl_app, xl_one]
    rfl
  have hrC : rl codeC = rl codeB + 1 := by
    rw [← hC', rl_app, rl_one]
    rfl
  have pC : posC codeC codeE.length = cx codeE := by rw [hpC]; exact posC_e
  have pRR : posR codeC codeE.length = rl codeE := by rw [hpC]; exact posR_e
  have tc : tgC codeC codeC.length 0 = Int32.ofNat (cx codeC) := tgC_end (by omega)
  have tr : tgR e codeC codeC.length 0 = Int32.ofNat (ob0 e + rl codeC) := tgR_end (by omega)
  have hk0 : ((13, codeC.length, 0, (0 : Int32), pl, (0 : Int32), (0 : Int32)) : Ins).1 = (codeC.getD codeE.length dI).1 := by rw [hcd]
  -- the reference
  obtain ⟨s5, r1, r2, r3⟩ := r_order (N := N) (x1 := Int32.ofNat 15) (x2 := Int32.ofNat 0) (x3 := Int32.ofNat 0) (x4 := Int32.ofNat 0) hr' (by rw [RA_len]; omega)
  rw [RA_len] at r1
  rw [← hRA] at r2
  have hher : mf_272 N s5 = some (s5, some (.int (Int32.ofNat (ob0 e + rl codeC)))) := by
    have := r_here (N := N) r2
    rw [RA_len] at this
    exact this
  obtain ⟨y1, y2⟩ := r_amda (m := codeE.length) (c' := (13, codeC.length, 0, 0, pl, 0, 0)) (x1 := Int32.ofNat 14) (x2 := Int32.ofNat 0) (x3 := Int32.ofNat 0) (x4 := Int32.ofNat 0) (x5 := pl) (v := Int32.ofNat (ob0 e + rl codeC)) r2 (by omega) (rlen_k hk0) (by rw [hcd]; rfl) (by rw [← tr]; rfl)
  rw [pRR] at y1 y2
  have f6 := r3.tr y2
  generalize hs6 : mA s5 24 (upd (s5.2.2.1 24) (ob0 e + rl codeE) (Int32.ofNat (ob0 e + rl codeC))) = s6 at *
  have q6 : pR b n i op t s6 := h1.kR (fun q z => f6.1 q (by omega)) (f6.2.1 7) (f6.2.2.1 2 (by omega)) (f6.2.2.2.1 0)
  obtain ⟨hi, -⟩ := h1.now
  obtain ⟨t5, s7, v1, v2, v3, v4, v5⟩ := p_adv (N := N) (X := X) hN q6 (fun _ => by have := hk hi; omega)
  -- the class
  have cd5 : cCd t5 p (CA codeB) := hc'.keep v4 (by rcases hpp with z | z <;> subst z <;> omega) (fun _ z => z.elim) (v4.p21 (by omega))
  obtain ⟨t6, g1, g2, g3, g4⟩ := c_emit (N := N) (X := X) (k := Int32.ofNat 4) (a := Int32.ofNat 0) (v := pl) cd5 v3.1.2.2.2.2.2.2.2 (by rw [CA_len]; omega)
  rw [CA_len] at g1
  rw [← hCA] at g2
  obtain ⟨t7, d1, d2, d3, d4⟩ := c_amd (N := N) (X := X) (m := codeE.length) (c' := (13, codeC.length, 0, 0, pl, 0, 0)) (x := Int32.ofNat 5) (a0 := Int32.ofNat 0) (y := pl) (v := Int32.ofNat (cx codeC)) (lc := []) g2 (by omega) (by omega) (clen_k hk0) (by rw [hcd]; rfl) (by rw [← tc]; rfl)
  rw [pC] at d1
  have eE : ∀ k f, eC p k f → ¬ (k = 3) ∧ ¬ (k = 2 ∧ (f = 2 ∨ f = 10 ∨ f = 11)) := fun k f z => by rcases hpp with y | y <;> omega
  have eA : ∀ k, aC p k → ¬ (k = 4 ∨ k = 5 ∨ k = 6) := fun k z => by rcases hpp with y | y <;> omega
  have q7 : pR b n (i + 1) op t7 s7 := (v3.kC g3 g4 eE eA).kC d3 d4 (fun k f z => z.elim) eA
  have G : gL (eM p) (aM p) t t7 := (v4.mono eP_M (fun _ z => z.elim)).tr ((g3.mono (fun k f z => Or.inr (Or.inr z)) (fun k z => by unfold aM; omega)).tr (d3.mono (fun _ _ z => z.elim) (fun k z => by unfold aM; omega)))
  have hV7 : VR vs t7 s7 := hV.keep ((d3.1 2 4 (fun z => z)).trans ((g3.1 2 4 (fun z => by rcases hpp with y | y <;> omega)).trans (v4.1 2 4 (by omega)))) ((d3.2.2.1 7 (fun z => by rcases hpp with y | y <;> omega) (by decide)).2.1.trans ((g3.2.2.1 7 (fun z => by rcases hpp with y | y <;> omega) (by decide)).2.1.trans (v4.2.2.1 7 (fun z => z) (by decide)).2.1)) ((v5.1 22 (by omega)).trans (f6.1 22 (by omega))) ((v5.2.2.2 21 (fun z => z)).trans (f6.2.2.2.1 21))
  have hFQ : fQ e s s7 := (fO.Q f6).tr (fPs.Q v5)
  have hPE : PE b n p e (i + 1) op D (codeC.set codeE.length (13, codeC.length, 0, 0, pl, 0, 0)) (codeC.set codeE.length (13, codeC.length, 0, 0, pl, 0, 0)) vs cl W cu (fs.1, codeB.length + 1, fs.2.2) t7 s7 := by
    refine h.asm q7 d2 (y1.keep (v5.1 12 (by omega)) (v5.1 28 (by omega)) (fun q _ => v5.2.2.1 q (fun z => z))) ?_ hV7 G (fun q z => (v5.1 q (by omega)).trans (f6.1 q (by omega))) (fun q z => (v5.2.2.1 q (fun z => z)).trans (f6.2.2.1 q (by omega))) (fun q z => (v5.2.2.2 q (fun z => z)).trans (f6.2.2.2.1 q)) (fun j hj => ?_) ?_ ?_ ?_ ?_ ?_
    · rw [← hC']
      exact (wfC_app w1 (Or.inl rfl)).set (Nat.le_refl _)
    · rw [posC_set (clen_k hk0), posR_set (rlen_k hk0), ← hC']
      exact ⟨posC_app hj, posR_app hj⟩
    · rw [← hC'] at hcd hk0 ⊢
      refine okX.set (k3.app (fun z => absurd z (by simp))) ?_ hk0 (by unfold noJ; simp)
      rw [List.length_append, List.length_singleton]
      omega
    · rw [← hC'] at hcd ⊢
      refine TY.set (k4.app (Nat.le_refl _) (cu' := cu) rfl (by unfold okI; simp) (Or.inr rfl)) (fun L => by rw [hcd]; rfl) (by unfold okI; simp) ?_
      show codeE.length < codeB.length + 1
      omega
    · rw [rl_set (rlen_k hk0), xl_set (xlen_k hk0 (by unfold noJ; simp)), hrC, hxC]
      omega
    · rw [rl_set (rlen_k hk0), hrC]
      omega
    · rw [cx_set (clen_k hk0), hcx]
      omega
  obtain ⟨seg, hseg⟩ := pre_set (c' := (13, codeC.length, 0, 0, pl, 0, 0)) (m := codeE.length) (code := code) (code2 := codeC) (by rw [hpC, hpE, List.append_assoc]) (by omega)
  refine ⟨t7, s7, seg, ?_, ?_, ?_, by rw [← hseg]; exact hPE, hb.kp hFQ, ?_, ⟨gM_Q G, hFQ⟩⟩
  · have hP5 : kP t5 2 1 = some p := cd5.1
    have hP6 : kP t6 2 1 = some p := g2.1
    have hlen : cf_203 N X p t6 = some (t6, .inl (some (.int (Int32.ofNat (cx codeC))))) := by
      have := c_len (N := N) (X := X) g2
      rw [CA_len] at this
      exact this
    unfold cf_181_54 cf_181_61 cf_181_71 cf_181_84
    simp (disch := omega) only [ev_S, ev_C, ↓reduceIte, Nat.reduceEqDiff, Nat.reduceLeDiff, Nat.reduceAdd, Nat.reduceMul, Nat.reduceSub, reduceCtorEq, l32_0, l32_1, l32_2, l32_3, l32_4, l32_5, l32_6, l32_7, l32_8, l32_9, l32_10, l32_11, l32_12, l32_13, l32_14, l32_15, l32_16, l32_17, l32_18, l32_19, l32_20, l32_21, l32_22, l32_23, l32_24, l32_25, l32_26, l32_27, l32_28, l32_29, l32_33, l32_40, l32_41, l32_44, l32_45, l32_59, l32_61, l32_91, l32_93, l32_123, l32_125, v1, hP5, hp, g1, hP6, hlen, d1]
  · have e1 : mf_278_110 N (Int32.ofNat (ob0 e + rl codeE)) s = mf_278_134 N (Int32.ofNat (ob0 e + rl codeB)) s7 := by
      generalize ob0 e = o at *
      unfold mf_278_110 mf_278_119 mf_278_129
      simp (disch := omega) only [ev_S, ev_P, ↓reduceIte, Nat.reduceEqDiff, Nat.reduceLeDiff, Nat.reduceAdd, Nat.reduceMul, Nat.reduceSub, reduceCtorEq, l32_0, l32_1, l32_2, l32_3, l32_4, l32_5, l32_6, l32_7, l32_8, l32_9, l32_10, l32_11, l32_12, l32_13, l32_14, l32_15, l32_16, l32_17, l32_18, l32_19, l32_20, l32_21, l32_22, l32_23, l32_24, l32_25, l32_26, l32_27, l32_28, l32_29, l32_33, l32_40, l32_41, l32_44, l32_45, l32_59, l32_61, l32_91, l32_93, l32_123, l32_125, r1, hher, hs6, v2, l32_8000]
    rw [e1]
    rfl
  · rw [← hseg, List.length_set, getD_set_ne (by omega), lyo_set_take (fun L => by rw [hcd]; rfl), posC_set (clen_k hk0), posR_set (rlen_k hk0)]
    refine ⟨hlC, ?_, ?_, ?_, ?_⟩
    · rw [← hC']
      exact getD_last
    · rw [← hC', List.take_left]
      exact h.ly
    · rw [← hC']
      exact posC_e
    · rw [← hC']
      exact posR_e
  · rw [← hseg]
    refine JP.setx (by omega) (by rw [hcd]) (by unfold noJ; simp) (fun L => by rw [hcd]; rfl) (fun k k1 k2 k3 => ?_) (okJ_tgt (L := 0 :: 5 :: cu) (cu := cu) (Or.inl rfl) (by omega) hcd (by omega) (by rw [take_pre hpC]; exact hl) ?_ (Or.inl ⟨rfl, Or.inl rfl⟩))
    · by_cases y : k < codeE.length
      · rw [hpC]
        exact (J1 k k1 y).app y
      · rw [← hC']
        exact ((J2 k (by omega) (by omega)).lo (by omega)).app (by omega)
    · have := hPE.ly
      rw [lyo_set (fun L => by rw [hcd]; rfl)] at this
      exact this
end IFE
end
-- ### 93m.pure.lean.txt
section
/-! ===== PURE: statements (12): if, the whole ===== -/
section IFW
variable {N : Nat} {X : Nat → Option zz_C} {t t' t1 t2 : cS} {s s' s1 s2 : mS} {b : Nat → Nat} {n p e i i' op op' D D' : Nat} {code code1 code2 l : List Ins} {vs vs' : List (List Nat)} {cl : List Cn} {W : List Wt} {cu cu' : List Nat} {fs fs' : Nat × Nat × Nat} {Bs : List (Int32 × Int32 × Int32)} {a m z : Nat} {c c' : Ins}
/-- the last target of a statement -/
theorem p_last {q r : Nat} {pl x2 : Int32} (h : PE b n p e i op D code2 code2 vs cl W cu (fs.1, code2.length, fs.2.2) t s) (hb : rB s Bs) (hq : q = 14 ∨ q = 24) (hp2 : code2 = code ++ l) (hm : code.length ≤ m ∧ m < code2.length) (hcd : code2.getD m dI = (q, unk, r, 0, pl, 0, 0)) (h0 : ∀ k, code.length ≤ k → k < code2.length → ¬ k = m → okJ code2 code.length k) (L : List Nat) (hL : lyo (code2.take m) = some L) (hj : jl (q, code2.length, r, 0, pl, 0, 0) L cu) (hx2 : x2 = Int32.ofNat (ob0 e + posR code2 m)) : ∃ t' s' seg, cf_203 N X p t = some (t, .inl (some (.int (Int32.ofNat (cx code2))))) ∧ cf_210 N X p (Int32.ofNat (posC code2 m)) (Int32.ofNat (cx code2)) t = some (t', .inl none) ∧ mf_278_239 N x2 s = some (s', none) ∧ PE b n p e i op D (code ++ seg) (code ++ seg) vs cl W cu (fs.1, (code ++ seg).length, fs.2.2) t' s' ∧ rB s' Bs ∧ JP (code ++ seg) code.length (code ++ seg).length ∧ FR p e t t' s s' := by
  subst hx2
  obtain ⟨hl1, hl2⟩ := h.len
  have hrl := h.rle
  have ho4 : ob0 e ≤ 4000 := by unfold ob0; omega
  obtain ⟨t7, u1, u2, u3⟩ := PE.tgt (N := N) (X := X) (m := m) h (by omega) hm.2 hcd hm.2 (by unfold okI; rcases hq with z | z <;> subst z <;> simp)
  have hher := h.hher (N := N)
  have hpr : posR code2 m ≤ rl code2 := by
    unfold posR rl
    have e1 : code2.map rlen = (code2.take m).map rlen ++ (code2.drop m).map rlen := by rw [← List.map_append, List.take_append_drop]
    rw [e1, List.sum_append]
    omega
  obtain ⟨seg, hseg⟩ := pre_set (c' := (q, code2.length, r, 0, pl, 0, 0)) (m := m) hp2 hm.1
  rw [hseg] at u2
  have hls : (code ++ seg).length = code2.length := by rw [← hseg, List.length_set]
  refine ⟨t7, _, seg, h.hlen, u1, ?_, by rw [hls]; exact u2, hb.kp u3.2, ?_, u3⟩
  · generalize posR code2 m = pm at *
    generalize ob0 e = o at *
    unfold mf_278_239 mf_278_248
    simp (disch := omega) only [ev_S, ev_P, ↓reduceIte, Nat.reduceEqDiff, Nat.reduceLeDiff, Nat.reduceAdd, Nat.reduceMul, Nat.reduceSub, reduceCtorEq, l32_0, l32_1, l32_2, l32_3, l32_4, l32_5, l32_6, l32_7, l32_8, l32_9, l32_10, l32_11, l32_12, l32_13, l32_14, l32_15, l32_16, l32_17, l32_18, l32_19, l32_20, l32_21, l32_22, l32_23, l32_24, l32_25, l32_26, l32_27, l32_28, l32_29, l32_33, l32_40, l32_41, l32_44, l32_45, l32_59, l32_61, l32_91, l32_93, l32_123, l32_125, hher, l32_8000]
  · rw [hls, ← hseg]
    have e0 : ((q, code2.length, r, (0 : Int32), pl, (0 : Int32), (0 : Int32)) : Ins).1 = (code2.getD m dI).1 := by rw [hcd]
    refine JP.setx hm.2 e0 (by unfold noJ; show ¬ ¬ (q = 13 ∨ q = 14 ∨ q = 18 ∨ q = 23 ∨ q = 24); omega) (fun L => by rw [hcd]; rcases hq with z | z <;> subst z <;> rfl) (fun k k1 k2 k3 => h0 k k1 k2 k3) (okJ_tgt (L := L) (by omega) hm.2 hcd (by omega) hL h.ly hj)
/-- if -/
theorem p_if {F : Nat} {pl : Int32} (hsl : noX cu) (hN : 170000 ≤ N) (hX : oX N X) (hY : oY X) (hS : SSt N X b n p e F) (hF : 3 * (10 - op) ≤ F) (h : PE b n p e i op D code code vs cl W (5 :: cu) fs t s) (hfs : fs.2.1 = code.length) (hwn : rWn s) (hb : rB s Bs) (hB : Bs.length ≤ op ∧ nF cu + 1 ≤ op) (hk : ∀ hi : i < (TL b n).length, (TL b n)[i].1 = 3) : SQ N b n p e i op (D + 1) code cu fs Bs t s (cf_181 N X (cf_S1 N X (F + 1)) pl t) (mf_279_114 N pl (Int32.ofNat 1) s) := by
  obtain ⟨hi, e5, e6, e7, hkk, ho, he, hlt, hll⟩ := h.1.now
  obtain ⟨t1, s1, a1, a2, a3, a4, a5⟩ := h.adv (N := N) (X := X) hN (fun _ => by have := hk hi; omega)
  have f1 : FR p e t t1 s s1 := ⟨a4, a5⟩
  have hp : (p = 12 ∨ p = 21) = True := eq_true a3.2.1.2.1
  have hh := a3.hher (N := N)
  have hM0 : mf_279_114 N pl (Int32.ofNat 1) s = mf_279_138 N pl (Int32.ofNat 1) (Int32.ofNat (ob0 e + rl code)) s1 := by
    unfold mf_279_114 mf_279_118 mf_279_122
    simp (disch := omega) only [ev_S, ev_P, ↓reduceIte, Nat.reduceEqDiff, Nat.reduceLeDiff, Nat.reduceAdd, Nat.reduceMul, Nat.reduceSub, reduceCtorEq, l32_0, l32_1, l32_2, l32_3, l32_4, l32_5, l32_6, l32_7, l32_8, l32_9, l32_10, l32_11, l32_12, l32_13, l32_14, l32_15, l32_16, l32_17, l32_18, l32_19, l32_20, l32_21, l32_22, l32_23, l32_24, l32_25, l32_26, l32_27, l32_28, l32_29, l32_33, l32_40, l32_41, l32_44, l32_45, l32_59, l32_61, l32_91, l32_93, l32_123, l32_125, a2, hh]
  have hR0 : cf_181 N X (cf_S1 N X (F + 1)) pl t = ko_call 5 (cf_183 N X pl t1) (fun g1 v1 => co_i v1 (fun y => cf_181_12 N X (cf_S1 N X (F + 1)) pl y g1)) := by
    unfold cf_181 cf_181_0 cf_181_7
    simp (disch := omega) only [ev_S, ev_C, ↓reduceIte, Nat.reduceEqDiff, Nat.reduceLeDiff, Nat.reduceAdd, Nat.reduceMul, Nat.reduceSub, reduceCtorEq, l32_0, l32_1, l32_2, l32_3, l32_4, l32_5, l32_6, l32_7, l32_8, l32_9, l32_10, l32_11, l32_12, l32_13, l32_14, l32_15, l32_16, l32_17, l32_18, l32_19, l32_20, l32_21, l32_22, l32_23, l32_24, l32_25, l32_26, l32_27, l32_28, l32_29, l32_33, l32_40, l32_41, l32_44, l32_45, l32_59, l32_61, l32_91, l32_93, l32_123, l32_125, a1]
  rw [hM0, hR0]
  rcases p_cond (w := 1) (pl := pl) (top := Int32.ofNat (ob0 e + rl code)) hN hX hY (Or.inl rfl) a3 (hwn.kp a5) (hb.kp a5) hB.2 with ⟨t3, s3, i3, segE, vs3, cl3, c1, c2, c3, c4, c5, c6, c7⟩ | ⟨t3, s3, c1, c2, c3, c4⟩
  · rw [c1, c2]
    have f3 := f1.tr c7
    have w3 : rWn s3 := hwn.kp f3.2
    have rb3 : rB s3 Bs := hb.kp f3.2
    have hR1 : ∀ y, ko_call 5 (some (t3, .inl (some (.int y)))) (fun g1 v1 => co_i v1 (fun y => cf_181_12 N X (cf_S1 N X (F + 1)) pl y g1)) = ko_call 5 (cf_S1 N X (F + 1) 176 [] t3) (fun g1 v1 => co_v v1 (cf_181_17 N X (cf_S1 N X (F + 1)) pl y g1)) := fun y => rfl
    rw [hR1]
    generalize hE : code ++ segE = codeE at *
    rcases p_blk (x1 := Int32.ofNat 1) (x2 := Int32.ofNat (ob0 e + rl codeE)) (x3 := Int32.ofNat (ob0 e + rl code)) noX_2 hN hS hF c4 w3 rb3 ⟨hB.1, by first | exact hB.2 | omega⟩ with ⟨t4, s0, s4, k4, i4, segB, vs4, cl4, W4, d1, d2, d3, d4, d5, d6, d7, d8, d9⟩ | ⟨t4, s0, s4, k4, d1, d2, d3, d4, d5, d6⟩
    · rw [d1, d2]
      obtain ⟨q1, q2, q3, q4, q5⟩ := d7.close (N := N) (by omega)
      rw [if_neg (by decide), if_pos (by decide)] at q5
      have d6 := d6.kS q2
      have f4 : FRs p e t t4 s (mI s4 37 (Int32.ofNat Bs.length)) := f3.S.tr (d9.tr ⟨gL.rf, fBk.S q2⟩)
      generalize hs5 : mI s4 37 (Int32.ofNat Bs.length) = s5 at *
      generalize hB' : codeE ++ [((13, unk, 0, 0, pl, 0, 0) : Ins)] ++ segB = codeB at *
      have J1 : JP codeE code.length codeE.length := by
        rw [hfs] at c6
        exact JP.no c6
      have d8 : JP codeB (codeE.length + 1) codeB.length := by
        have : (codeE ++ [((13, unk, 0, 0, pl, 0, 0) : Ins)]).length = codeE.length + 1 := by rw [List.length_append, List.length_singleton]
        rw [this] at d8
        exact d8
      have d6 : PE b n p e i4 op (D + 1 + 1 + 2) codeB codeB vs4 cl4 W4 (4 :: cu) (fs.1, codeB.length, fs.2.2) t4 s5 := d6
      show SQ N b n p e i op (D + 1) code cu fs Bs t s (cf_181_17 N X (cf_S1 N X (F + 1)) pl (Int32.ofNat (cx codeE)) t4) (some (s0, none))
      obtain ⟨hi4, (⟨z1, z2, z3⟩ | ⟨z2, z3⟩)⟩ := p_isElse (N := N) (X := X) hX d6.1
      · rw [z3]
        obtain ⟨t7, s7, seg, g1, g2, ⟨g3, g4, g5, g6, g7⟩, g8, g9, g10, g11⟩ := p_ifE (F := F) (N := N) (X := X) (pl := pl) (rk := cf_S1 N X (F + 1)) (fs := fs) hN d6 q1 hE.symm hB'.symm c5 J1 d8 (fun _ => z1.1)
        rw [g1]
        have f7 := f4.tr g11.S
        have hR2 : cf_181_87 N X (cf_S1 N X (F + 1)) (Int32.ofNat (cx codeB)) t7 = ko_call 5 (cf_S1 N X (F + 1) 176 [] t7) (fun g1 v1 => co_v v1 (cf_181_91 N X (cf_S1 N X (F + 1)) (Int32.ofNat (cx codeB)) g1)) := rfl
        rw [hR2]
        have hM2 : ∀ s8, mf_276 N (Int32.ofNat 2) (Int32.ofNat (ob0 e + rl codeB)) (Int32.ofNat 0) s7 = some (s8, none) → mf_278_6 N s4 = some (s8, none) := fun s8 hh => by
          rw [q5]
          have e1 : mf_278_102 N (Int32.ofNat (ob0 e + rl codeE)) s5 = mf_278_110 N (Int32.ofNat (ob0 e + rl codeE)) s5 := by
            unfold mf_278_102 mf_278_107
            simp (disch := omega) only [ev_S, ev_P, ↓reduceIte, Nat.reduceEqDiff, Nat.reduceLeDiff, Nat.reduceAdd, Nat.reduceMul, Nat.reduceSub, reduceCtorEq, l32_0, l32_1, l32_2, l32_3, l32_4, l32_5, l32_6, l32_7, l32_8, l32_9, l32_10, l32_11, l32_12, l32_13, l32_14, l32_15, l32_16, l32_17, l32_18, l32_19, l32_20, l32_21, l32_22, l32_23, l32_24, l32_25, l32_26, l32_27, l32_28, l32_29, l32_33, l32_40, l32_41, l32_44, l32_45, l32_59, l32_61, l32_91, l32_93, l32_123, l32_125, z2]
          rw [e1, g2, hh]
          rfl
        rcases p_blk (x1 := Int32.ofNat 2) (x2 := Int32.ofNat (ob0 e + rl codeB)) (x3 := Int32.ofNat 0) hsl hN hS hF g8 (FRs.wn f7.2 hwn) g9 ⟨hB.1, by first | exact hB.2 | omega⟩ with ⟨t8, u0, s8, k8, i8, seg8, vs8, cl8, W8, y1, y2, y3, y4, y5, y6, y7, y8, y9⟩ | ⟨t8, u0, s8, k8, y1, y2, y3, y4, y5, y6⟩
        · rw [y1]
          obtain ⟨v1, v2, v3, v4, v5⟩ := y7.close (N := N) (by omega)
          rw [if_neg (by decide), if_neg (by decide), if_neg (by decide), if_neg (by decide)] at v5
          have y6 := y6.kS v2
          have hP8 : kP t8 2 1 = some p := y6.2.1.1
          have f8 : FRs p e t t8 s (mI s8 37 (Int32.ofNat Bs.length)) := f7.tr (y9.tr ⟨gL.rf, fBk.S v2⟩)
          generalize hs9 : mI s8 37 (Int32.ofNat Bs.length) = s9 at *
          have hlt8 : codeB.length < (code ++ seg ++ seg8).length := by rw [List.length_append, g3]; omega
          have hcB : code.length ≤ codeB.length := by rw [← hB', ← hE, List.length_append, List.length_append, List.length_append]; omega
          have hpos : posC (code ++ seg ++ seg8) codeB.length = cx codeB := by rw [posC_app (by omega)]; exact g6
          have hposR : posR (code ++ seg ++ seg8) codeB.length = rl codeB := by rw [posR_app (by omega)]; exact g7
          obtain ⟨t9, s10, segF, w1, w2, w3', w4, w5, w6, w7⟩ := p_last (N := N) (X := X) (q := 14) (r := 0) (pl := pl) (x2 := Int32.ofNat (ob0 e + rl codeB)) (code := code) (code2 := code ++ seg ++ seg8) (m := codeB.length) (l := seg ++ seg8) (fs := fs) y6 v1 (Or.inl rfl) (List.append_assoc _ _ _) ⟨hcB, hlt8⟩ (by rw [getD_appl (by omega)]; exact g4) (fun k k1 k2 k3 => by
            by_cases y : k < codeB.length
            · exact (g10 k k1 y).app (by omega)
            · exact (y8 k (by omega) k2).lo (by omega)) (4 :: cu) (by rw [List.take_append_of_le_length (by omega)]; exact g5) (Or.inr (Or.inl ⟨rfl, Or.inr ⟨by simp, rfl⟩⟩)) (by rw [hposR])
          rw [hpos] at w2
          refine Or.inl ⟨t9, s0, s10, k8 + k4, i8, segF, vs8, cl8, W8, ?_, rfl, by omega, by omega, fun f => ?_, w4.dn (by omega), w5, w6, f8.tr w7.S⟩
          · show cf_181_91 N X (cf_S1 N X (F + 1)) (Int32.ofNat (cx codeB)) t8 = _
            unfold cf_181_91 cf_181_103 cf_181_106
            simp (disch := omega) only [ev_S, ev_C, ↓reduceIte, Nat.reduceEqDiff, Nat.reduceLeDiff, Nat.reduceAdd, Nat.reduceMul, Nat.reduceSub, reduceCtorEq, l32_0, l32_1, l32_2, l32_3, l32_4, l32_5, l32_6, l32_7, l32_8, l32_9, l32_10, l32_11, l32_12, l32_13, l32_14, l32_15, l32_16, l32_17, l32_18, l32_19, l32_20, l32_21, l32_22, l32_23, l32_24, l32_25, l32_26, l32_27, l32_28, l32_29, l32_33, l32_40, l32_41, l32_44, l32_45, l32_59, l32_61, l32_91, l32_93, l32_123, l32_125, hP8, hp, w1, w2]
          · rw [← Nat.add_assoc, d5, hM2 u0 y2]
            show TW N (f + k8) u0 = _
            rw [y5, v5, w3']
            rfl
        · refine Or.inr ⟨t8, s0, s8, k8 + k4, by rw [y1]; rfl, rfl, by omega, fun f => ?_, y5, f7.pre y6⟩
          rw [← Nat.add_assoc, d5, hM2 u0 y2]
          exact y4 f
      · rw [z3]
        obtain ⟨t7, s7, seg, g1, g2, g3, g4, g5, g6⟩ := p_ifN (N := N) (X := X) (pl := pl) (rk := cf_S1 N X (F + 1)) (fs := fs) (codeB := codeB ++ [nuI]) (segB := segB ++ [nuI]) (by rw [List.length_append]; exact d6.nul) q1 hE.symm (by rw [← hB', List.append_assoc]) c5 J1 (JP.nul d8)
        refine Or.inl ⟨t7, s0, s7, k4, i4, seg, vs4, cl4, W4, g1, rfl, by omega, by omega, fun f => ?_, g3.dn (by omega), g4, g5, f4.tr g6.S⟩
        rw [d5, q5]
        have e1 : mf_278_102 N (Int32.ofNat (ob0 e + rl codeE)) s5 = mf_278_144 N (Int32.ofNat (ob0 e + rl codeE)) s5 := by
          unfold mf_278_102 mf_278_107
          simp (disch := omega) only [ev_S, ev_P, ↓reduceIte, Nat.reduceEqDiff, Nat.reduceLeDiff, Nat.reduceAdd, Nat.reduceMul, Nat.reduceSub, reduceCtorEq, l32_0, l32_1, l32_2, l32_3, l32_4, l32_5, l32_6, l32_7, l32_8, l32_9, l32_10, l32_11, l32_12, l32_13, l32_14, l32_15, l32_16, l32_17, l32_18, l32_19, l32_20, l32_21, l32_22, l32_23, l32_24, l32_25, l32_26, l32_27, l32_28, l32_29, l32_33, l32_40, l32_41, l32_44, l32_45, l32_59, l32_61, l32_91, l32_93, l32_123, l32_125, z2]
        rw [e1, g2]
        rfl
    · rw [d1, d2]
      exact Or.inr ⟨t4, s0, s4, k4, rfl, rfl, by omega, d4, d5, f3.S.pre d6⟩
  · exact SQ.f1 hi (by rw [c1]; rfl) c2 c3 (f1.S.pre c4)
end IFW
end
-- ### 93n.pure.lean.txt
section
/-! ===== PURE: statements (13): for ===== -/
section FOR
variable {N : Nat} {X : Nat → Option zz_C} {t t' t1 t2 : cS} {s s' s1 s2 : mS} {b : Nat → Nat} {n p e i i' op op' D D' : Nat} {code code1 code2 l : List Ins} {vs vs' : List (List Nat)} {cl : List Cn} {W : List Wt} {cu cu' : List Nat} {fs fs' : Nat × Nat × Nat} {Bs : List (Int32 × Int32 × Int32)} {a m z : Nat} {c c' : Ins}
/-- a word is passed -/
theorem PE.wrd {w : Nat} (hN : 170000 ≤ N) (hX : oX N X) (hw : w < 41) (h : PE b n p e i op D code code1 vs cl W cu fs t s) : (∃ t' s', cf_200 N X (zz_out + (w + 1)) t = some (t', .inl none) ∧ mf_269 N (Int32.ofNat w) s = some (s', none) ∧ PE b n p e (i + 1) op (D + 1) code code1 vs cl W cu fs t' s' ∧ FR p e t t' s s') ∨ (∃ t' s', cf_200 N X (zz_out + (w + 1)) t = some (t', .inr ()) ∧ mf_269 N (Int32.ofNat w) s = some (s', none) ∧ pF t' s' ∧ FX p e t t' s s') := by
  rcases p_word (N := N) (X := X) hN hX hw h.1 with ⟨t', s', a1, a2, a3, a4, a5⟩ | ⟨t', s', a1, a2, a3, a4, a5⟩
  · obtain ⟨b1, b2⟩ := h.mv a3 (Nat.le_succ i) a4 a5
    exact Or.inl ⟨t', s', a1, a2, by rw [show D + 1 = D + (i + 1 - i) by omega]; exact b1, b2⟩
  · exact Or.inr ⟨t', s', a1, a2, a3, ⟨a4.mono eP_Q (fun _ z => z.elim), fPs.Q a5, h.oB.kp (a5.1 28 (by omega)), h.szF a4⟩⟩
theorem PE.okA (h : PE b n p e i op D code code1 vs cl W cu fs t s) (h1 : fs.1 ≤ m) (h2 : m < code.length) : okI vs.length (code.getD m dI) := by
  refine h.2.2.2.2.2.2.2.2.2.1.2.2.1 _ ?_
  rw [List.getD_eq_getElem?_getD, List.getElem?_eq_getElem h2]
  show code[m] ∈ _
  have e1 : code[m] = (code.drop fs.1)[m - fs.1]'(by rw [List.length_drop]; omega) := by
    rw [List.getElem_drop]
    congr 1
    omega
  rw [e1]
  exact List.getElem_mem _
theorem PE.f1 (h : PE b n p e i op D code code1 vs cl W cu fs t s) : fs.1 ≤ code.length := h.2.2.2.2.2.2.2.2.2.1.1
/-- behind a fault -/
theorem r_210F {m : Nat} {x1 x3 : Int32} (h : fU e m s) (hm : m ≤ 2900) : ∃ s', mf_279_210 N x1 x3 s = some (s', none) ∧ tl e s s' := by
  obtain ⟨s1, a1, a2, a3⟩ := r_orderF (N := N) (x1 := Int32.ofNat 17) (x2 := Int32.ofNat 0) (x3 := Int32.ofNat 0) (x4 := x1) h
  obtain ⟨s2, b1, b2, b3⟩ := r_orderF (N := N) (x1 := Int32.ofNat 18) (x2 := Int32.ofNat 0) (x3 := x3) (x4 := x1) (a3 (by omega))
  obtain ⟨s3, c1, c2⟩ := r_blockF (N := N) (x1 := Int32.ofNat 4) (x2 := Int32.ofNat (ob0 e + (m + 1))) (x3 := Int32.ofNat (ob0 e + (m + 1))) (b3 (by omega))
  refine ⟨s3, ?_, a2.tr (b2.tr c2)⟩
  unfold mf_279_210 mf_279_219 mf_279_229 mf_279_240 mf_279_318
  simp (disch := omega) only [ev_S, ev_P, ↓reduceIte, Nat.reduceEqDiff, Nat.reduceLeDiff, Nat.reduceAdd, Nat.reduceMul, Nat.reduceSub, reduceCtorEq, l32_0, l32_1, l32_2, l32_3, l32_4, l32_5, l32_6, l32_7, l32_8, l32_9, l32_10, l32_11, l32_12, l32_13, l32_14, l32_15, l32_16, l32_17, l32_18, l32_19, l32_20, l32_21, l32_22, l32_23, l32_24, l32_25, l32_26, l32_27, l32_28, l32_29, l32_33, l32_40, l32_41, l32_44, l32_45, l32_59, l32_61, l32_91, l32_93, l32_123, l32_125, a1, b1, c1]
theorem r_205F {m : Nat} {x1 x3 : Int32} (hN : 170000 ≤ N) (h : fU e m s) (hm : m ≤ 2900) : ∃ s', mf_279_205 N x1 x3 s = some (s', none) ∧ tl e s s' := by
  obtain ⟨x, hx1, hx2, h9⟩ := h.1
  obtain ⟨s1, a1, a2⟩ := r_210F (N := N) (x1 := x1) (x3 := x3) (h.e44 (x := 0)) hm
  refine ⟨s1, ?_, tl_44.tr a2⟩
  unfold mf_279_205
  rw [r_exprF hN h9 ⟨hx1, hx2⟩]
  exact a1
theorem r_199F {m : Nat} {x1 x3 : Int32} (hN : 170000 ≤ N) (h : fU e m s) (hm : m ≤ 2900) : ∃ s', mf_279_199 N x1 x3 s = some (s', none) ∧ tl e s s' := by
  obtain ⟨x, hx1, hx2, h9⟩ := h.1
  obtain ⟨s1, a1, a2⟩ := r_205F (x1 := x1) (x3 := x3) hN h hm
  refine ⟨s1, ?_, a2⟩
  unfold mf_279_199
  rw [r_wordF h9 ⟨hx1, hx2⟩]
  exact a1
/-- for -/
theorem p_for {F : Nat} {pl : Int32} (hN : 170000 ≤ N) (hX : oX N X) (hY : oY X) (hS : SSt N X b n p e F) (hF : 3 * (10 - op) ≤ F) (h : PE b n p e i op D code code vs cl W (5 :: cu) fs t s) (hfs : fs.2.1 = code.length) (hwn : rWn s) (hb : rB s Bs) (hB : Bs.length ≤ op ∧ nF cu + 1 ≤ op) (hk : ∀ hi : i < (TL b n).length, (TL b n)[i].1 = 3) : SQ N b n p e i op (D + 1) code cu fs Bs t s (cf_184 N X (cf_S1 N X (F + 1)) pl t) (mf_279_191 N pl s) := by
  obtain ⟨hi, e5, e6, e7, hkk, ho, he, hlt, hll⟩ := h.1.now
  obtain ⟨t1, s1, a1, a2, a3, a4, a5⟩ := h.adv (N := N) (X := X) hN (fun _ => by have := hk hi; omega)
  have f1 : FR p e t t1 s s1 := ⟨a4, a5⟩
  have hp : (p = 12 ∨ p = 21) = True := eq_true a3.2.1.2.1
  rcases a3.nam (N := N) (X := X) hN with ⟨r, t2, s2, vs2, b1, b2, b3, b4, b5, b6⟩ | ⟨t2, s2, b1, b2, b3, b4, b5⟩
  · have f2 := f1.tr b6
    have hR0 : cf_184 N X (cf_S1 N X (F + 1)) pl t = ko_call 5 (cf_200 N X (zz_out + 6) t2) (fun g1 v1 => co_v v1 (cf_184_19 N X (cf_S1 N X (F + 1)) pl (cv r) g1)) := by
      unfold cf_184 cf_184_0 cf_184_7 cf_184_11
      simp (disch := omega) only [ev_S, ev_C, ↓reduceIte, Nat.reduceEqDiff, Nat.reduceLeDiff, Nat.reduceAdd, Nat.reduceMul, Nat.reduceSub, reduceCtorEq, l32_0, l32_1, l32_2, l32_3, l32_4, l32_5, l32_6, l32_7, l32_8, l32_9, l32_10, l32_11, l32_12, l32_13, l32_14, l32_15, l32_16, l32_17, l32_18, l32_19, l32_20, l32_21, l32_22, l32_23, l32_24, l32_25, l32_26, l32_27, l32_28, l32_29, l32_33, l32_40, l32_41, l32_44, l32_45, l32_59, l32_61, l32_91, l32_93, l32_123, l32_125, a1, b1]
    have hM0 : mf_279_191 N pl s = mo_bv (mf_269 N (Int32.ofNat 5) s2) (fun s1 => mf_279_205 N pl (Int32.ofNat r) s1) := by
      unfold mf_279_191 mf_279_195
      simp (disch := omega) only [ev_S, ev_P, ↓reduceIte, Nat.reduceEqDiff, Nat.reduceLeDiff, Nat.reduceAdd, Nat.reduceMul, Nat.reduceSub, reduceCtorEq, l32_0, l32_1, l32_2, l32_3, l32_4, l32_5, l32_6, l32_7, l32_8, l32_9, l32_10, l32_11, l32_12, l32_13, l32_14, l32_15, l32_16, l32_17, l32_18, l32_19, l32_20, l32_21, l32_22, l32_23, l32_24, l32_25, l32_26, l32_27, l32_28, l32_29, l32_33, l32_40, l32_41, l32_44, l32_45, l32_59, l32_61, l32_91, l32_93, l32_123, l32_125, a2, b2]
      rfl
    rw [hR0, hM0]
    rcases b4.wrd (N := N) (X := X) (w := 5) hN hX (by decide) with ⟨t3, s3, c1, c2, c3, c4⟩ | ⟨t3, s3, c1, c2, c3, c4⟩
    · have c1 : cf_200 N X (zz_out + 6) t2 = some (t3, .inl none) := c1
      rw [c1, c2]
      have f3 := f2.tr c4
      have hR1 : ko_call 5 (some (t3, .inl none)) (fun g1 v1 => co_v v1 (cf_184_19 N X (cf_S1 N X (F + 1)) pl (cv r) g1)) = ko_call 5 (cf_S0 N X 150 186 [.int (Int32.ofNat 0)] t3) (fun g1 v1 => co_v v1 (cf_184_24 N X (cf_S1 N X (F + 1)) pl (cv r) g1)) := rfl
      have hM1 : mo_bv (some (s3, none)) (fun s1 => mf_279_205 N pl (Int32.ofNat r) s1) = mo_bv (mf_285 N (Int32.ofNat 0) s3) (fun s1 => mf_279_210 N pl (Int32.ofNat r) s1) := rfl
      rw [hR1, hM1]
      rcases p_exp hN hX hY c3 (hwn.kp f3.2) (by omega) with ⟨t4, s4, i4, seg4, vs4, cl4, d1, d2, d3, dv, d4, d5⟩ | ⟨t4, s4, d1, d2, d3, d4⟩
      · rw [d1, d2]
        have f4 := f3.tr d5
        obtain ⟨t5, s5, g1, g2, g3, g4, g5⟩ := d4.bo (N := N) (X := X) (D' := D + 2) (cu' := 2 :: cu) (c := (17, 0, 0, 0, pl, 0, 0)) (k := Int32.ofNat 6) (a := Int32.ofNat 0) (v := pl) (x1 := Int32.ofNat 17) (x2 := Int32.ofNat 0) (x3 := Int32.ofNat 0) (x4 := pl) rfl rfl (Or.inr (Or.inl (Nat.zero_le _))) (by show (if nF cu < 10 then some (2 :: cu) else none) = _; rw [if_pos (by have := h.1.2.2.2.1; omega)]) (by unfold okI; simp) (by omega) (Or.inl (Nat.le_refl 1))
        have hnE := g3.nj.2
        rw [hfs] at hnE
        generalize hE : code ++ seg4 ++ [((17, 0, 0, 0, pl, 0, 0) : Ins)] = codeE at *
        have hpE : codeE = code ++ (seg4 ++ [((17, 0, 0, 0, pl, 0, 0) : Ins)]) := by rw [← hE, List.append_assoc]
        have hlE : code.length ≤ codeE.length := by
          rw [hpE, List.length_append]
          omega
        obtain ⟨t6, t7, s7, u1, u2, u3, u4, u5, u6, u7⟩ := g3.bo2 (N := N) (X := X) (js := codeE.length + 1) (D' := D + 1) (cu' := 5 :: 2 :: cu) (c := (18, unk, r, 0, pl, 0, 0)) (k1 := Int32.ofNat 27) (a1 := Int32.ofNat 0) (v1 := pl) (k2 := Int32.ofNat 2) (a2 := cv r) (v2 := pl) (x1 := Int32.ofNat 18) (x2 := Int32.ofNat 0) (x3 := Int32.ofNat r) (x4 := pl) (by simp) (Or.inr rfl) rfl rfl (Or.inl rfl) rfl (by unfold okI; simp; omega) (by omega) (Or.inl (Nat.le_refl 1))
        have f7 : FR p e t t7 s s7 := f4.tr (g4.tr u6)
        have hP4 : kP t4 2 1 = some p := d4.2.1.1
        have hP5 : kP t5 2 1 = some p := g3.2.1.1
        have hR2 : ko_call 5 (some (t4, .inl none)) (fun g1 v1 => co_v v1 (cf_184_24 N X (cf_S1 N X (F + 1)) pl (cv r) g1)) = ko_call 5 (cf_S1 N X (F + 1) 176 [] t7) (fun g1 v1 => co_v v1 (cf_184_63 N X (cf_S1 N X (F + 1)) pl (Int32.ofNat (cx codeE)) g1)) := by
          show cf_184_24 N X (cf_S1 N X (F + 1)) pl (cv r) t4 = _
          unfold cf_184_24 cf_184_35 cf_184_47 cf_184_58
          simp (disch := omega) only [ev_S, ev_C, ↓reduceIte, Nat.reduceEqDiff, Nat.reduceLeDiff, Nat.reduceAdd, Nat.reduceMul, Nat.reduceSub, reduceCtorEq, l32_0, l32_1, l32_2, l32_3, l32_4, l32_5, l32_6, l32_7, l32_8, l32_9, l32_10, l32_11, l32_12, l32_13, l32_14, l32_15, l32_16, l32_17, l32_18, l32_19, l32_20, l32_21, l32_22, l32_23, l32_24, l32_25, l32_26, l32_27, l32_28, l32_29, l32_33, l32_40, l32_41, l32_44, l32_45, l32_59, l32_61, l32_91, l32_93, l32_123, l32_125, hP4, hp, g1, hP5, u1, u2, u3]
        have hM2 : mo_bv (some (s4, none)) (fun s1 => mf_279_210 N pl (Int32.ofNat r) s1) = mo_bv (mf_276 N (Int32.ofNat 4) (Int32.ofNat (ob0 e + rl codeE)) (Int32.ofNat (ob0 e + rl codeE)) s7) (fun s => some (s, none)) := by
          show mf_279_210 N pl (Int32.ofNat r) s4 = _
          unfold mf_279_210 mf_279_219 mf_279_229
          simp (disch := omega) only [ev_S, ev_P, ↓reduceIte, Nat.reduceEqDiff, Nat.reduceLeDiff, Nat.reduceAdd, Nat.reduceMul, Nat.reduceSub, reduceCtorEq, l32_0, l32_1, l32_2, l32_3, l32_4, l32_5, l32_6, l32_7, l32_8, l32_9, l32_10, l32_11, l32_12, l32_13, l32_14, l32_15, l32_16, l32_17, l32_18, l32_19, l32_20, l32_21, l32_22, l32_23, l32_24, l32_25, l32_26, l32_27, l32_28, l32_29, l32_33, l32_40, l32_41, l32_44, l32_45, l32_59, l32_61, l32_91, l32_93, l32_123, l32_125, g2, u4]
          rfl
        rw [hR2, hM2]
        have w7 : rWn s7 := hwn.kp f7.2
        have rb7 : rB s7 Bs := hb.kp f7.2
        rcases p_blk (x1 := Int32.ofNat 4) (x2 := Int32.ofNat (ob0 e + rl codeE)) (x3 := Int32.ofNat (ob0 e + rl codeE)) noX_2 hN hS hF u5 w7 rb7 ⟨hB.1, by first | exact hB.2 | omega⟩ with ⟨t8, s0, s8, k8, i8, segB, vs8, cl8, W8, y1, y2, y3, y4, y5, y6, y7, y8, y9⟩ | ⟨t8, s0, s8, k8, y1, y2, y3, y4, y5, y6⟩
        · rw [y1, y2]
          obtain ⟨q1, q2, q3, q4, q5⟩ := y7.close (N := N) (by omega)
          rw [if_neg (by decide), if_neg (by decide), if_pos (by decide)] at q5
          have y6 := y6.kS q2
          have q3 : (mI s8 37 (Int32.ofNat Bs.length)).2.2.1 36 Bs.length = Int32.ofNat (ob0 e + rl codeE) := q3
          have f8 : FRs p e t t8 s (mI s8 37 (Int32.ofNat Bs.length)) := f7.S.tr (y9.tr ⟨gL.rf, fBk.S q2⟩)
          have h37 : (mI s8 37 (Int32.ofNat Bs.length)).1 37 = Int32.ofNat Bs.length := rfl
          generalize hs9 : mI s8 37 (Int32.ofNat Bs.length) = s9 at *
          generalize hB' : codeE ++ [((18, unk, r, 0, pl, 0, 0) : Ins)] ++ segB = codeB at *
          have hpB : codeB = codeE ++ ([((18, unk, r, 0, pl, 0, 0) : Ins)] ++ segB) := by rw [← hB', List.append_assoc]
          have hlB : codeE.length + 1 ≤ codeB.length := by
            rw [hpB, List.length_append, List.length_append, List.length_singleton]
            omega
          have hP8 : kP t8 2 1 = some p := y6.2.1.1
          obtain ⟨hl1, hl2⟩ := y6.len
          have hrl := y6.rle
          have ho4 : ob0 e ≤ 4000 := by unfold ob0; omega
          have tC : cI codeB (posC codeB codeB.length) (14, codeE.length, 1, 0, pl, 0, 0) = [(Int32.ofNat 4, Int32.ofNat (cx codeE), pl)] := by
            show [(_, tgC codeB codeE.length 0, pl)] = _
            unfold tgC
            rw [if_neg (by show ¬ codeE.length = 99999; omega), hpB, posC_e]
            rfl
          have tR : rI e codeB (14, codeE.length, 1, 0, pl, 0, 0) = [(Int32.ofNat 15, Int32.ofNat (ob0 e + rl codeE), Int32.ofNat 0, 0, Int32.ofNat 0)] := by
            show [(_, tgR e codeB codeE.length 0, _)] = _
            unfold tgR
            rw [if_neg (by show ¬ codeE.length = 99999; omega), hpB, posR_e]
            rfl
          obtain ⟨t10, s10, v1, v2, v3, v4, v5⟩ := PEg.bo (N := N) (X := X) (js := codeB.length + 1) (D' := D + 2) (cu' := cu) y6 (fun z => absurd z (by simp)) (Or.inr rfl) tC tR (Or.inr (Or.inl (by show codeE.length ≤ codeB.length; omega))) rfl (by unfold okI; simp) (by omega) (Or.inl (Nat.le_refl 1))
          have hcB : codeB.getD codeE.length dI = (18, unk, r, 0, pl, 0, 0) := by
            rw [← hB', getD_appl (by rw [List.length_append, List.length_singleton]; omega)]
            exact getD_last
          have hoB := y6.okA (m := codeE.length) (Nat.le_trans h.f1 hlE) (by omega)
          rw [hcB] at hoB
          have hr8 : r < 8 + vs8.length := hoB.1 (by simp)
          have hlyB := y6.ly
          generalize hC' : codeB ++ [((14, codeE.length, 1, 0, pl, 0, 0) : Ins)] = codeC at *
          have hlC : codeC.length = codeB.length + 1 := by rw [← hC', List.length_append, List.length_singleton]
          have hpC : codeC = codeE ++ ([((18, unk, r, 0, pl, 0, 0) : Ins)] ++ segB ++ [((14, codeE.length, 1, 0, pl, 0, 0) : Ins)]) := by
            rw [← hC', hpB, List.append_assoc]
          have hcd : codeC.getD codeE.length dI = (18, unk, r, 0, pl, 0, 0) := by
            rw [← hC', getD_appl (by omega)]
            exact hcB
          obtain ⟨t11, x1, x2, x3⟩ := PE.tgt (N := N) (X := X) (m := codeE.length) v3 (Or.inr (Or.inr (Or.inl rfl))) (by omega) hcd (by show codeE.length < codeB.length + 1; omega) (by unfold okI; simp; omega)
          have pC : posC codeC codeE.length = cx codeE := by rw [hpC]; exact posC_e
          have pR : posR codeC codeE.length = rl codeE := by rw [hpC]; exact posR_e
          rw [pC] at x1
          rw [pR] at x2 x3
          have hP10 : kP t10 2 1 = some p := v3.2.1.1
          have hlen := PE.hlen (N := N) (X := X) v3
          have hh6 := PE.hher (N := N) v3
          have hrE : rl codeE ≤ rl codeB := by
            rw [hpB, rl_app]
            omega
          obtain ⟨seg, hseg⟩ := pre_set (c' := (18, codeC.length, r, 0, pl, 0, 0)) (m := codeE.length) (code := code) (code2 := codeC) (by rw [hpC, hpE, List.append_assoc]) (by omega)
          rw [hseg] at x2
          have hls : (code ++ seg).length = codeB.length + 1 := by rw [← hseg, List.length_set, hlC]
          have hlyC : lyo codeC = some cu := PE.ly v3
          have hlyE : lyo codeE = some (2 :: cu) := g3.ly
          have okG : okJ codeC code.length codeB.length := okJ_at (q := 14) (j := codeE.length) (r := 1) (pl := pl) (L := 5 :: 2 :: cu) (cu := 2 :: cu) (by rw [← hC']; exact getD_last) (by decide) (by omega) (by rw [← hC', List.take_left]; exact hlyB) (by rw [take_pre hpC]; exact hlyE) (Or.inr (Or.inl ⟨rfl, Or.inl ⟨rfl, rfl⟩⟩))
          have J1 : JP codeE code.length codeE.length := JP.no hnE
          have y8 : JP codeB (codeE.length + 1) codeB.length := by
            have : (codeE ++ [((18, unk, r, 0, pl, 0, 0) : Ins)]).length = codeE.length + 1 := by rw [List.length_append, List.length_singleton]
            rw [this] at y8
            exact y8
          have JF : JP (code ++ seg) code.length (code ++ seg).length := by
            rw [hls, ← hseg]
            refine JP.setx (by omega) (by rw [hcd]) (by unfold noJ; simp) (fun L => by rw [hcd]; rfl) (fun k k1 k2 k3 => ?_) (okJ_tgt (L := 2 :: cu) (Or.inr (Or.inr (Or.inl rfl))) (by omega) hcd (by omega) (by rw [take_pre hpC]; exact hlyE) hlyC (Or.inr (Or.inr (Or.inl ⟨rfl, rfl⟩))))
            by_cases y : k < codeE.length
            · rw [hpC]
              exact (J1 k k1 y).app y
            · by_cases y2 : k = codeB.length
              · rw [y2]
                exact okG
              · rw [← hC']
                exact ((y8 k (by omega) (by omega)).lo (by omega)).app (by omega)
          refine Or.inl ⟨t11, s0, _, k8, i8, seg, vs8, cl8, W8, ?_, rfl, by omega, by omega, fun f => ?_, ?_, (q1.kp (fO.Q v5)).kp x3.2, JF, f8.tr (v4.S.tr x3.S)⟩
          · show cf_184_63 N X (cf_S1 N X (F + 1)) pl (Int32.ofNat (cx codeE)) t8 = _
            unfold cf_184_63 cf_184_73 cf_184_86 cf_184_89
            simp (disch := omega) only [ev_S, ev_C, ↓reduceIte, Nat.reduceEqDiff, Nat.reduceLeDiff, Nat.reduceAdd, Nat.reduceMul, Nat.reduceSub, reduceCtorEq, l32_0, l32_1, l32_2, l32_3, l32_4, l32_5, l32_6, l32_7, l32_8, l32_9, l32_10, l32_11, l32_12, l32_13, l32_14, l32_15, l32_16, l32_17, l32_18, l32_19, l32_20, l32_21, l32_22, l32_23, l32_24, l32_25, l32_26, l32_27, l32_28, l32_29, l32_33, l32_40, l32_41, l32_44, l32_45, l32_59, l32_61, l32_91, l32_93, l32_123, l32_125, hP8, hp, v1, hP10, hlen, x1]
          · rw [y5, q5]
            have e1 : mf_278_155 N (Int32.ofNat (ob0 e + rl codeE)) s9 = some (mA s10 24 (upd (s10.2.2.1 24) (ob0 e + rl codeE) (Int32.ofNat (ob0 e + rl codeC))), none) := by
              generalize ob0 e = o at *
              unfold mf_278_155 mf_278_172 mf_278_182
              simp (disch := omega) only [ev_S, ev_P, ↓reduceIte, Nat.reduceEqDiff, Nat.reduceLeDiff, Nat.reduceAdd, Nat.reduceMul, Nat.reduceSub, reduceCtorEq, l32_0, l32_1, l32_2, l32_3, l32_4, l32_5, l32_6, l32_7, l32_8, l32_9, l32_10, l32_11, l32_12, l32_13, l32_14, l32_15, l32_16, l32_17, l32_18, l32_19, l32_20, l32_21, l32_22, l32_23, l32_24, l32_25, l32_26, l32_27, l32_28, l32_29, l32_33, l32_40, l32_41, l32_44, l32_45, l32_59, l32_61, l32_91, l32_93, l32_123, l32_125, h37, q3, v2, hh6, l32_8000]
            rw [e1]
            rfl
          · rw [hls]
            refine (x2.dn (Nat.le_succ _)).fsx ⟨Nat.le_refl _, ?_⟩ x2.pa
            rw [hls]
            exact Nat.le_refl _
        · rw [y1, y2]
          exact Or.inr ⟨t8, s0, s8, k8, rfl, rfl, by omega, y4, y5, f7.S.pre y6⟩
      · obtain ⟨m, m1, m2⟩ := h.fU hb d3 (f3.pre d4)
        obtain ⟨s5, g1, g2⟩ := r_210F (N := N) (x1 := pl) (x3 := Int32.ofNat r) m2 (by omega)
        exact SQ.f1 hi (by rw [d1]; rfl) (by rw [d2]; exact g1) (d3.tl g2) ((f3.pre d4).S.tl g2)
    · have c1 : cf_200 N X (zz_out + 6) t2 = some (t3, .inr ()) := c1
      obtain ⟨m, m1, m2⟩ := h.fU hb c3 (f2.pre c4)
      obtain ⟨s5, g1, g2⟩ := r_205F (x1 := pl) (x3 := Int32.ofNat r) hN m2 (by omega)
      exact SQ.f1 hi (by rw [c1]; rfl) (by rw [c2]; exact g1) (c3.tl g2) ((f2.pre c4).S.tl g2)
  · obtain ⟨m, m1, m2⟩ := h.fU hb b3 (f1.pre b4)
    obtain ⟨s5, g1, g2⟩ := r_199F (x1 := pl) (x3 := Int32.ofNat 0) hN m2 (by omega)
    have b2 : mf_275 N s1 = some (s2, some (.int (Int32.ofNat 0))) := b2
    refine SQ.f1 hi ?_ ?_ (b3.tl g2) ((f1.pre b4).S.tl g2)
    · unfold cf_184 cf_184_0 cf_184_7
      simp (disch := omega) only [ev_S, ev_C, ↓reduceIte, Nat.reduceEqDiff, Nat.reduceLeDiff, Nat.reduceAdd, Nat.reduceMul, Nat.reduceSub, reduceCtorEq, l32_0, l32_1, l32_2, l32_3, l32_4, l32_5, l32_6, l32_7, l32_8, l32_9, l32_10, l32_11, l32_12, l32_13, l32_14, l32_15, l32_16, l32_17, l32_18, l32_19, l32_20, l32_21, l32_22, l32_23, l32_24, l32_25, l32_26, l32_27, l32_28, l32_29, l32_33, l32_40, l32_41, l32_44, l32_45, l32_59, l32_61, l32_91, l32_93, l32_123, l32_125, a1, b1]
      rfl
    · unfold mf_279_191 mf_279_195
      simp (disch := omega) only [ev_S, ev_P, ↓reduceIte, Nat.reduceEqDiff, Nat.reduceLeDiff, Nat.reduceAdd, Nat.reduceMul, Nat.reduceSub, reduceCtorEq, l32_0, l32_1, l32_2, l32_3, l32_4, l32_5, l32_6, l32_7, l32_8, l32_9, l32_10, l32_11, l32_12, l32_13, l32_14, l32_15, l32_16, l32_17, l32_18, l32_19, l32_20, l32_21, l32_22, l32_23, l32_24, l32_25, l32_26, l32_27, l32_28, l32_29, l32_33, l32_40, l32_41, l32_44, l32_45, l32_59, l32_61, l32_91, l32_93, l32_123, l32_125, a2, b2, g1]
end FOR
end
-- ### 93o.pure.lean.txt
section
/-! ===== PURE: statements (14): try, its end ===== -/
section TRY
variable {N : Nat} {X : Nat → Option zz_C} {t t' t1 t2 : cS} {s s' s1 s2 : mS} {b : Nat → Nat} {n p e i i' op op' D D' : Nat} {code code1 code2 l codeB segB : List Ins} {vs vs' : List (List Nat)} {cl : List Cn} {W : List Wt} {cu cu' : List Nat} {fs fs' : Nat × Nat × Nat} {Bs : List (Int32 × Int32 × Int32)} {a m z : Nat} {c c' : Ins}
theorem r_hereF {m : Nat} (h : fU e m s) : mf_272 N s = some (s, some (.int (Int32.ofNat (ob0 e + m)))) := by
  obtain ⟨h1, h2, h3, h4, h5, B, h6, h7⟩ := h
  have e9 : Int32.ofNat 1 - Int32.ofNat e = Int32.ofNat (1 - e) := ev_sub h4
  have e4 : Int32.ofNat 4000 * Int32.ofNat (1 - e) = Int32.ofNat (ob0 e) := i32mul
  unfold mf_272 mf_272_0
  simp (disch := omega) only [h5, h3, l32_1, l32_4000, e9, e4, i32add]
theorem tl_seta {m : Nat} {v : Int32} (hm : ob0 e ≤ m ∧ m < ob0 e + 4000) : tl e s (mA s 24 (upd (s.2.2.1 24) m v)) := by
  refine ⟨rfl, rfl, ⟨fun _ _ => rfl, fun _ _ => rfl, fun q r => if_neg (by omega), fun _ _ => rfl, fun q y r1 r2 => ?_, Kd.kp rfl (fun q z => if_neg (by omega)) rfl⟩⟩
  show (if q = 24 then upd (s.2.2.1 24) m v else s.2.2.1 q) y = _
  split
  · rename_i z
    rw [upd_n (by omega), z]
  · rfl
theorem tl_setb {m : Nat} {v : Int32} (hm : ob0 e ≤ m ∧ m < ob0 e + 4000) : tl e s (mA s 25 (upd (s.2.2.1 25) m v)) := by
  refine ⟨rfl, rfl, ⟨fun _ _ => rfl, fun _ _ => rfl, fun q r => if_neg (by omega), fun _ _ => rfl, fun q y r1 r2 => ?_, Kd.kp rfl (fun q z => if_neg (by omega)) rfl⟩⟩
  show (if q = 25 then upd (s.2.2.1 25) m v else s.2.2.1 q) y = _
  split
  · rename_i z
    rw [upd_n (by omega), z]
  · rfl
/-- the end of a try behind a fault -/
theorem r_219F {m q : Nat} {x2 y2 : Int32} (h : fU e m s) (hq : q ≤ 3000) : ∃ s', mf_278_219 N (Int32.ofNat (ob0 e + q)) x2 (Int32.ofNat (ob0 e + q)) y2 s = some (s', none) ∧ tl e s s' := by
  have ho4 : ob0 e ≤ 4000 := by unfold ob0; omega
  have h1 : fU e m (mA s 25 (upd (s.2.2.1 25) (ob0 e + q) y2)) := h
  have hh := r_hereF (N := N) h1
  have h2 : fU e m (mA (mA s 25 (upd (s.2.2.1 25) (ob0 e + q) y2)) 24 (upd ((mA s 25 (upd (s.2.2.1 25) (ob0 e + q) y2)).2.2.1 24) (ob0 e + q) (Int32.ofNat (ob0 e + m)))) := h
  obtain ⟨s3, c1, c2⟩ := r_blockF (N := N) (x1 := Int32.ofNat 6) (x2 := x2) (x3 := Int32.ofNat 0) h2
  refine ⟨s3, ?_, (tl_setb (m := ob0 e + q) (v := y2) (by omega)).tr ((tl_seta (m := ob0 e + q) (by omega)).tr c2)⟩
  generalize ob0 e = o at *
  generalize hs1 : mA s 25 (upd (s.2.2.1 25) (o + q) y2) = s1 at *
  unfold mf_278_219 mf_278_229 mf_278_238
  simp (disch := omega) only [ev_S, ev_P, ↓reduceIte, Nat.reduceEqDiff, Nat.reduceLeDiff, Nat.reduceAdd, Nat.reduceMul, Nat.reduceSub, reduceCtorEq, l32_0, l32_1, l32_2, l32_3, l32_4, l32_5, l32_6, l32_7, l32_8, l32_9, l32_10, l32_11, l32_12, l32_13, l32_14, l32_15, l32_16, l32_17, l32_18, l32_19, l32_20, l32_21, l32_22, l32_23, l32_24, l32_25, l32_26, l32_27, l32_28, l32_29, l32_33, l32_40, l32_41, l32_44, l32_45, l32_59, l32_61, l32_91, l32_93, l32_123, l32_125, hs1, hh, c1, l32_8000]
theorem r_210TF {m q : Nat} {x2 : Int32} (h : fU e m s) (hq : q ≤ 3000) : ∃ s', mf_278_210 N (Int32.ofNat (ob0 e + q)) x2 s = some (s', none) ∧ tl e s s' := by
  obtain ⟨x, hx1, hx2, h9⟩ := h.1
  obtain ⟨s1, a1, a2⟩ := r_219F (N := N) (x2 := x2) (y2 := Int32.ofNat 0) h hq
  refine ⟨s1, ?_, a2⟩
  unfold mf_278_210
  rw [r_nameF h9 ⟨hx1, hx2⟩]
  exact a1
/-- the end of a try: up to the second block -/
theorem p_tryE {rk : Nat → List Value → cS → kO} (hN : 170000 ≤ N) (hX : oX N X) (h : PE b n p e i op D codeB codeB vs cl W (3 :: cu) (fs.1, codeB.length, fs.2.2) t s) (hf1 : fs.1 ≤ code.length) (hb : rB s Bs) (hpB : codeB = code ++ [((23, unk, 0, 0, 0, 0, 0) : Ins)] ++ segB) (hl : lyo code = some (5 :: cu)) (J2 : JP codeB (code.length + 1) codeB.length) : (∃ t' s' codeD vs' y0, cf_185_23 N X rk (Int32.ofNat (cx code)) t = cf_185_94 N X rk (Int32.ofNat (cx codeB)) y0 t' ∧ mf_278_184 N (Int32.ofNat (ob0 e + rl code)) s = mo_bv (mf_276 N (Int32.ofNat 6) (Int32.ofNat (ob0 e + rl codeB)) (Int32.ofNat 0) s') (fun s => some (s, none)) ∧ ((∃ l, codeD = code ++ l) ∧ codeD.length = codeB.length + 2 ∧ codeD.getD codeB.length dI = (24, unk, 0, 0, 0, 0, 0) ∧ lyo (codeD.take codeB.length) = some (3 :: cu) ∧ posC codeD codeB.length = cx codeB ∧ posR codeD codeB.length = rl codeB) ∧ PE b n p e (i + 2) op D codeD codeD vs' cl W cu (fs.1, codeB.length + 2, fs.2.2) t' s' ∧ rB s' Bs ∧ (∀ k, code.length ≤ k → k < codeD.length → ¬ k = codeB.length → okJ codeD code.length k) ∧ FR p e t t' s s') ∨ (∃ t' s', cf_185_23 N X rk (Int32.ofNat (cx code)) t = some (t', .inr ()) ∧ mf_278_184 N (Int32.ofNat (ob0 e + rl code)) s = some (s', none) ∧ pF t' s' ∧ FXs p e t t' s s') := by
  have hP : kP t 2 1 = some p := h.2.1.1
  have hp : (p = 12 ∨ p = 21) = True := eq_true h.2.1.2.1
  have hpp := h.2.1.2.1
  obtain ⟨hl1, hl2⟩ := h.len
  have hrl := h.rle
  have ho4 : ob0 e ≤ 4000 := by unfold ob0; omega
  have hpB2 : codeB = code ++ ([((23, unk, 0, 0, 0, 0, 0) : Ins)] ++ segB) := by rw [hpB, List.append_assoc]
  have hlB : code.length + 1 ≤ codeB.length := by
    rw [hpB2, List.length_append, List.length_append, List.length_singleton]
    omega
  have hrE : rl code ≤ rl codeB := by
    rw [hpB2, rl_app]
    omega
  obtain ⟨hi, e5, e6, e7, hkk, ho, he, hlt, hll⟩ := h.1.now
  have h6 : s.1 6 = Int32.ofNat (TL b n)[i].2.2.2.1 := hkk.1
  generalize hpl : (TL b n)[i].2.2.2.1 = plO at *
  have hk0 := h
  obtain ⟨h1, hc', hr', ⟨w1, w2, w3⟩, hW, hV, k1, k2, k3, k4, k5, k6, k7⟩ := hk0
  generalize hC' : codeB ++ [((24, unk, 0, 0, 0, 0, 0) : Ins)] = codeC
  have hlC : codeC.length = codeB.length + 1 := by rw [← hC', List.length_append, List.length_singleton]
  have hpC : codeC = code ++ ([((23, unk, 0, 0, 0, 0, 0) : Ins)] ++ segB ++ [((24, unk, 0, 0, 0, 0, 0) : Ins)]) := by
    rw [← hC', hpB2, List.append_assoc]
  have hcd : codeC.getD code.length dI = (23, unk, 0, 0, 0, 0, 0) := by
    rw [← hC', getD_appl (by omega), hpB, getD_appl (by rw [List.length_append, List.length_singleton]; omega)]
    exact getD_last
  have tgG : tgO codeB.length (24, unk, 0, 0, 0, 0, 0) := Or.inl rfl
  have hCA : CA codeC = CA codeB ++ [(Int32.ofNat 11, Int32.ofNat 0, Int32.ofNat 0)] := by
    rw [← hC', CA_app w1 tgG]
    rfl
  have hRA : RA e codeC = RA e codeB ++ [(Int32.ofNat 24, Int32.ofNat 0, Int32.ofNat 0, 0, Int32.ofNat 0)] := by
    rw [← hC', RA_app w1 tgG]
    rfl
  have hcx : cx codeC = cx codeB + 1 := by
    rw [← hC', cx_app, cx_one]
    rfl
  have hxC : xl codeC = xl codeB := by
    rw [← hC', xl_app, xl_one]
    rfl
  have hrC : rl codeC = rl codeB + 1 := by
    rw [← hC', rl_app, rl_one]
    rfl
  have pC : posC codeC code.length = cx code := by rw [hpC]; exact posC_e
  have pRR : posR codeC code.length = rl code := by rw [hpC]; exact posR_e
  have tc : tgC codeC codeC.length 0 = Int32.ofNat (cx codeC) := tgC_end (by omega)
  have tr : tgR e codeC codeC.length 0 = Int32.ofNat (ob0 e + rl codeC) := tgR_end (by omega)
  -- the reference: the order, op1
  obtain ⟨s5, r1, r2, r3⟩ := r_order (N := N) (x1 := Int32.ofNat 24) (x2 := Int32.ofNat 0) (x3 := Int32.ofNat 0) (x4 := Int32.ofNat 0) hr' (by rw [RA_len]; omega)
  rw [RA_len] at r1
  rw [← hRA] at r2
  have h65 : s5.1 6 = Int32.ofNat plO := by rw [r3.1 6 (by omega)]; exact h6
  have kk : ∀ (j r : Nat) (q : Int32), ((23, j, r, (0 : Int32), q, (0 : Int32), (0 : Int32)) : Ins).1 = (codeC.getD code.length dI).1 := fun j r q => by rw [hcd]
  obtain ⟨y1, y2⟩ := r_amdd (m := code.length) (c' := (23, unk, 0, 0, Int32.ofNat plO, 0, 0)) (x1 := Int32.ofNat 23) (x2 := Int32.ofNat 0) (x3 := Int32.ofNat 0) (x4 := Int32.ofNat 0) (x5 := Int32.ofNat 0) (v := Int32.ofNat plO) r2 (by omega) (rlen_k (kk _ _ _)) (by rw [hcd]; rfl) rfl
  rw [pRR] at y1 y2
  have f6 := r3.tr y2
  generalize hs6 : mA s5 27 (upd (s5.2.2.1 27) (ob0 e + rl code) (Int32.ofNat plO)) = s6 at *
  -- the class: the act, its target
  obtain ⟨t5, g1, g2, g3, g4⟩ := c_emit (N := N) (X := X) (k := Int32.ofNat 11) (a := Int32.ofNat 0) (v := Int32.ofNat 0) hc' h1.1.2.2.2.2.2.2.2 (by rw [CA_len]; omega)
  rw [CA_len] at g1
  rw [← hCA] at g2
  obtain ⟨t6, d1, d2, d3, d4⟩ := c_amd (N := N) (X := X) (m := code.length) (c' := (23, codeC.length, 0, 0, 0, 0, 0)) (x := Int32.ofNat 10) (a0 := Int32.ofNat 0) (y := Int32.ofNat 0) (v := Int32.ofNat (cx codeC)) (lc := []) g2 (by omega) (by omega) (clen_k (kk _ _ _)) (by rw [hcd]; rfl) (by rw [← tc]; rfl)
  rw [pC] at d1
  have eE : ∀ k f, eC p k f → ¬ (k = 3) ∧ ¬ (k = 2 ∧ (f = 2 ∨ f = 10 ∨ f = 11)) := fun k f z => by rcases hpp with y | y <;> omega
  have eA : ∀ k, aC p k → ¬ (k = 4 ∨ k = 5 ∨ k = 6) := fun k z => by rcases hpp with y | y <;> omega
  have q6 : pR b n i op t6 s6 := ((h1.kC g3 g4 eE eA).kC d3 d4 (fun k f z => z.elim) eA).kR (fun q z => f6.1 q (by omega)) (f6.2.1 7) (f6.2.2.1 2 (by omega)) (f6.2.2.2.1 0)
  have hV6 : VR vs t6 s6 := hV.keep ((d3.1 2 4 (fun z => z)).trans (g3.1 2 4 (fun z => by rcases hpp with y | y <;> omega))) ((d3.2.2.1 7 (fun z => by rcases hpp with y | y <;> omega) (by decide)).2.1.trans (g3.2.2.1 7 (fun z => by rcases hpp with y | y <;> omega) (by decide)).2.1) (f6.1 22 (by omega)) (f6.2.2.2.1 21)
  have G6 : gL (eM p) (aM p) t t6 := (g3.mono (fun k f z => Or.inr (Or.inr z)) (fun k z => by unfold aM; omega)).tr (d3.mono (fun _ _ z => z.elim) (fun k z => by unfold aM; omega))
  have hP5 : kP t5 2 1 = some p := g2.1
  have hlen : cf_203 N X p t5 = some (t5, .inl (some (.int (Int32.ofNat (cx codeC))))) := by
    have := c_len (N := N) (X := X) g2
    rw [CA_len] at this
    exact this
  have e66 : kI t6 3 6 = Int32.ofNat plO := by
    rw [d3.1 3 6 (fun z => z), g3.1 3 6 (fun z => by rcases hpp with y | y <;> omega)]
    exact e6
  have hR0 : cf_185_23 N X rk (Int32.ofNat (cx code)) t = ko_call 5 (cf_200 N X (zz_out + 11) t6) (fun g1 v1 => co_v v1 (cf_185_65 N X rk (Int32.ofNat (cx codeB)) (Int32.ofNat plO) g1)) := by
    unfold cf_185_23 cf_185_34 cf_185_47 cf_185_50 cf_185_57
    simp (disch := omega) only [ev_S, ev_C, ↓reduceIte, Nat.reduceEqDiff, Nat.reduceLeDiff, Nat.reduceAdd, Nat.reduceMul, Nat.reduceSub, reduceCtorEq, l32_0, l32_1, l32_2, l32_3, l32_4, l32_5, l32_6, l32_7, l32_8, l32_9, l32_10, l32_11, l32_12, l32_13, l32_14, l32_15, l32_16, l32_17, l32_18, l32_19, l32_20, l32_21, l32_22, l32_23, l32_24, l32_25, l32_26, l32_27, l32_28, l32_29, l32_33, l32_40, l32_41, l32_44, l32_45, l32_59, l32_61, l32_91, l32_93, l32_123, l32_125, hP, hp, g1, hP5, hlen, d1, c_placeNow, e66]
  have hM0 : mf_278_184 N (Int32.ofNat (ob0 e + rl code)) s = mo_bv (mf_269 N (Int32.ofNat 10) s6) (fun s1 => mf_278_210 N (Int32.ofNat (ob0 e + rl code)) (Int32.ofNat (ob0 e + rl codeB)) s1) := by
    generalize ob0 e = o at *
    unfold mf_278_184 mf_278_193
    simp (disch := omega) only [ev_S, ev_P, ↓reduceIte, Nat.reduceEqDiff, Nat.reduceLeDiff, Nat.reduceAdd, Nat.reduceMul, Nat.reduceSub, reduceCtorEq, l32_0, l32_1, l32_2, l32_3, l32_4, l32_5, l32_6, l32_7, l32_8, l32_9, l32_10, l32_11, l32_12, l32_13, l32_14, l32_15, l32_16, l32_17, l32_18, l32_19, l32_20, l32_21, l32_22, l32_23, l32_24, l32_25, l32_26, l32_27, l32_28, l32_29, l32_33, l32_40, l32_41, l32_44, l32_45, l32_59, l32_61, l32_91, l32_93, l32_123, l32_125, r1, h65, hs6, l32_8000]
  rw [hR0, hM0]
  have z6 : SZ p t6 := by
    have e : ∀ k, (k = 4 ∨ k = 5 ∨ k = 6 ∨ k = 7 ∨ k = 8 ∨ k = 9 ∨ k = 10 ∨ k = 11) → kA t6 k = kA t k ∧ kB t6 k = kB t k := fun k hk => by
      have r1 := d3.2.2.1 k (fun z => by rcases hpp with y | y <;> omega) (by omega)
      have r2 := g3.2.2.1 k (fun z => by rcases hpp with y | y <;> omega) (by omega)
      exact ⟨r1.1.trans r2.1, r1.2.1.trans r2.2.1⟩
    obtain ⟨q1, q2, q3, q4⟩ := h.sz
    refine ⟨?_, ?_, ⟨d2.2.2.2.2.1, d2.2.2.2.2.2.1, d2.2.2.2.2.2.2.2.1, d2.2.2.2.2.2.2.2.2⟩, ?_⟩
    · rw [(e 4 (by omega)).1, (e 5 (by omega)).1, (e 6 (by omega)).2]
      exact q1
    · rw [(e 8 (by omega)).1, (e 9 (by omega)).2, (e 10 (by omega)).1, (e 11 (by omega)).1]
      exact q2
    · rw [(e 7 (by omega)).2]
      exact q4
  have fT6 : ∀ s', fPs s6 s' ∨ fV s6 s' → (∃ x : Nat, 1 ≤ x ∧ x ≤ 6 ∧ s'.1 9 = Int32.ofNat x) → fU e (rl codeC) s' := fun s' hf hx => by
    have e28 : s'.1 28 = s6.1 28 ∧ s'.1 12 = s6.1 12 ∧ s'.1 37 = s6.1 37 := by
      rcases hf with hf | hf
      · exact ⟨hf.1 28 (by omega), hf.1 12 (by omega), hf.1 37 (by omega)⟩
      · exact ⟨hf.1 28 (by omega), hf.1 12 (by omega), hf.1 37 (by omega)⟩
    have b28 := y1.2.2.1
    rw [RA_len, rl_set (rlen_k (kk _ _ _))] at b28
    refine ⟨hx, by omega, e28.1.trans b28, y1.2.1, e28.2.1.trans y1.1, Bs.length, Nat.le_trans hb.2.1 (by omega), e28.2.2.trans ((f6.1 37 (by omega)).trans hb.1)⟩
  rcases p_word (N := N) (X := X) (w := 10) hN hX (by decide) q6 with ⟨t7, s7, a1, a2, a3, a4, a5⟩ | ⟨t7, s7, a1, a2, a3, a4, a5⟩
  · have a1 : cf_200 N X (zz_out + 11) t6 = some (t7, .inl none) := a1
    rw [a1, a2]
    have hV7 : VR vs t7 s7 := hV6.keep (a4.1 2 4 (by omega)) (a4.2.2.1 7 (fun z => z) (by decide)).2.1 (a5.1 22 (by omega)) (a5.2.2.2 21 (fun z => z))
    have G7 : gL (eM p) (aM p) t t7 := G6.tr (a4.mono eP_M (fun _ z => z.elim))
    have hR1 : ko_call 5 (some (t7, .inl none)) (fun g1 v1 => co_v v1 (cf_185_65 N X rk (Int32.ofNat (cx codeB)) (Int32.ofNat plO) g1)) = ko_call 5 (cf_195 N X t7) (fun g1 v1 => co_i v1 (fun y => cf_185_69 N X rk (Int32.ofNat (cx codeB)) (Int32.ofNat plO) y g1)) := rfl
    have hM1 : mo_bv (some (s7, none)) (fun s1 => mf_278_210 N (Int32.ofNat (ob0 e + rl code)) (Int32.ofNat (ob0 e + rl codeB)) s1) = mo_bi (mf_275 N s7) (fun s1 y => mf_278_219 N (Int32.ofNat (ob0 e + rl code)) (Int32.ofNat (ob0 e + rl codeB)) (Int32.ofNat (ob0 e + rl code)) y s1) := rfl
    rw [hR1, hM1]
    rcases p_name (N := N) (X := X) hN a3 hV7 with ⟨r, t8, s8, vs8, b1, b2, b3, b4, b5, b6, ⟨lv, b7⟩, bg, bf⟩ | ⟨t8, s8, b1, b2, b3, b4, b5⟩
    · rw [b1, b2]
      have y8 : rCd s8 e (RA e (codeC.set code.length (23, unk, 0, 0, Int32.ofNat plO, 0, 0))) := (y1.keep (a5.1 12 (by omega)) (a5.1 28 (by omega)) (fun q _ => a5.2.2.1 q (fun z => z))).keep (bf.1 12 (by omega)) (bf.1 28 (by omega)) (fun q _ => bf.2.2.1 q (fun z => z))
      have cs : codeC.set code.length ((23, unk, 0, 0, Int32.ofNat plO, 0, 0) : Ins) = codeC.set code.length ((23, unk, 0, 0, Int32.ofNat plO, 0, 0) : Ins) := rfl
      -- ob
      have hcd1 : (codeC.set code.length ((23, unk, 0, 0, Int32.ofNat plO, 0, 0) : Ins)).getD code.length dI = (23, unk, 0, 0, Int32.ofNat plO, 0, 0) := getD_set_eq (by omega)
      obtain ⟨u1, u2⟩ := r_amdb (m := code.length) (c' := (23, unk, r, 0, Int32.ofNat plO, 0, 0)) (x1 := Int32.ofNat 23) (x2 := Int32.ofNat 0) (x3 := Int32.ofNat 0) (x4 := Int32.ofNat 0) (x5 := Int32.ofNat plO) (v := Int32.ofNat r) y8 (by rw [List.length_set]; omega) (rlen_k (by rw [hcd1])) (by rw [hcd1]; rfl) rfl
      rw [posR_set (rlen_k (kk _ _ _)), pRR, List.set_set] at u1
      rw [posR_set (rlen_k (kk _ _ _)), pRR] at u2
      generalize hs9 : mA s8 25 (upd (s8.2.2.1 25) (ob0 e + rl code) (Int32.ofNat r)) = s9 at *
      -- oa
      have hcd2 : (codeC.set code.length ((23, unk, r, 0, Int32.ofNat plO, 0, 0) : Ins)).getD code.length dI = (23, unk, r, 0, Int32.ofNat plO, 0, 0) := getD_set_eq (by omega)
      have hher : mf_272 N s9 = some (s9, some (.int (Int32.ofNat (ob0 e + rl codeC)))) := by
        have := r_here (N := N) u1
        rw [RA_len, rl_set (rlen_k (kk _ _ _))] at this
        exact this
      have tr2 : tgR e (codeC.set code.length ((23, unk, r, 0, Int32.ofNat plO, 0, 0) : Ins)) codeC.length 0 = Int32.ofNat (ob0 e + rl codeC) := by
        rw [← tr]
        unfold tgR
        rw [posR_set (rlen_k (kk _ _ _))]
      obtain ⟨v1, v2⟩ := r_amda (m := code.length) (c' := (23, codeC.length, r, 0, Int32.ofNat plO, 0, 0)) (x1 := Int32.ofNat 23) (x2 := Int32.ofNat 0) (x3 := Int32.ofNat r) (x4 := Int32.ofNat 0) (x5 := Int32.ofNat plO) (v := Int32.ofNat (ob0 e + rl codeC)) u1 (by rw [List.length_set]; omega) (rlen_k (by rw [hcd2])) (by rw [hcd2]; rfl) (by rw [← tr2]; rfl)
      rw [posR_set (rlen_k (kk _ _ _)), pRR, List.set_set] at v1
      rw [posR_set (rlen_k (kk _ _ _)), pRR] at v2
      generalize hs10 : mA s9 24 (upd (s9.2.2.1 24) (ob0 e + rl code) (Int32.ofNat (ob0 e + rl codeC))) = s10 at *
      have f10 := u2.tr v2
      -- the class: what stands behind
      have ccd : ∀ (j r : Nat) (q : Int32), CA (codeC.set code.length ((23, codeC.length, 0, 0, 0, 0, 0) : Ins)) = CA (codeC.set code.length ((23, codeC.length, r, 0, q, 0, 0) : Ins)) := fun j r q => by
        rw [CA_set (a := (Int32.ofNat 10, Int32.ofNat 0, Int32.ofNat 0)) (a' := (Int32.ofNat 10, tgC codeC codeC.length 0, Int32.ofNat 0)) (l := []) (by omega) (clen_k (kk _ _ _)) (by rw [hcd]; rfl) rfl, CA_set (a := (Int32.ofNat 10, Int32.ofNat 0, Int32.ofNat 0)) (a' := (Int32.ofNat 10, tgC codeC codeC.length 0, Int32.ofNat 0)) (l := []) (by omega) (clen_k (kk _ _ _)) (by rw [hcd]; rfl) rfl]
      have cd8 : cCd t8 p (CA (codeC.set code.length ((23, codeC.length, r, 0, Int32.ofNat plO, 0, 0) : Ins))) := by
        rw [← ccd 0 r (Int32.ofNat plO)]
        exact (d2.keep a4 (by rcases hpp with z | z <;> subst z <;> omega) (fun _ z => z.elim) (a4.p21 (by omega))).keep bg (by rcases hpp with z | z <;> subst z <;> omega) (fun _ z => by rcases hpp with y | y <;> omega) (bg.p21 (by omega))
      generalize hD' : codeC.set code.length ((23, codeC.length, r, 0, Int32.ofNat plO, 0, 0) : Ins) = codeS at *
      have hcS : cx codeS = cx codeC := by rw [← hD']; exact cx_set (clen_k (kk _ _ _))
      have hrS : rl codeS = rl codeC := by rw [← hD']; exact rl_set (rlen_k (kk _ _ _))
      have hxS : xl codeS = xl codeC := by rw [← hD']; exact xl_set (xlen_k (kk _ _ _) (by unfold noJ; simp))
      have hlS : codeS.length = codeC.length := by rw [← hD', List.length_set]
      obtain ⟨t9, t10, z1, z2, z3, z4, z5, z6⟩ := c_emit2 (N := N) (X := X) (k1 := Int32.ofNat 12) (a1 := Int32.ofNat 0) (v1 := Int32.ofNat plO) (k2 := Int32.ofNat 2) (a2 := cv r) (v2 := Int32.ofNat plO) cd8 b4.1.2.2.2.2.2.2.2 (by rw [CA_len]; omega)
      have hP8 : kP t8 2 1 = some p := cd8.1
      have tg25 : tgO codeS.length (25, 0, r, 0, Int32.ofNat plO, 0, 0) := Or.inr (Or.inl (Nat.zero_le _))
      have wS : wfC codeS := by
        rw [← hD', ← hC']
        exact (wfC_app w1 (Or.inl rfl)).set (by show (codeB ++ [_]).length ≤ (codeB ++ [_]).length; exact Nat.le_refl _)
      have q10 : pR b n (i + 2) op t10 s10 := (b4.kC z5 z6 eE eA).kR (fun q z => f10.1 q (by omega)) (f10.2.1 7) (f10.2.2.1 2 (by omega)) (f10.2.2.2.1 0)
      have G10 : gL (eM p) (aM p) t t10 := G7.tr ((bg.mono (A' := aM p) eV_M (fun k z => Or.inl z)).tr (z5.mono (fun k f z => Or.inr (Or.inr z)) (fun k z => by unfold aM; omega)))
      have hV10 : VR vs8 t10 s10 := b5.keep (z5.1 2 4 (fun z => by rcases hpp with y | y <;> omega)) (z5.2.2.1 7 (fun z => by rcases hpp with y | y <;> omega) (by decide)).2.1 (f10.1 22 (by omega)) (f10.2.2.2.1 21)
      have hvl : vs.length ≤ vs8.length := by rw [b7, List.length_append]; omega
      have F1 : ∀ q, ¬ (q = 5 ∨ q = 6 ∨ q = 8 ∨ q = 9 ∨ q = 10 ∨ q = 11 ∨ q = 22 ∨ q = 28) → s10.1 q = s.1 q := fun q z => (f10.1 q (by omega)).trans ((bf.1 q (by omega)).trans ((a5.1 q (by omega)).trans (f6.1 q (by omega))))
      have F2 : ∀ q, ¬ (q = 23 ∨ q = 24 ∨ q = 25 ∨ q = 26 ∨ q = 27) → s10.2.2.1 q = s.2.2.1 q := fun q z => (f10.2.2.1 q z).trans ((bf.2.2.1 q (fun z => z)).trans ((a5.2.2.1 q (fun z => z)).trans (f6.2.2.1 q z)))
      have F3 : ∀ q, ¬ q = 21 → s10.2.2.2 q = s.2.2.2 q := fun q z => (f10.2.2.2.1 q).trans ((bf.2.2.2 q z).trans ((a5.2.2.2 q (fun z => z)).trans (f6.2.2.2.1 q)))
      have hFQ : fQ e s s10 := (fO.Q f6).tr ((fPs.Q a5).tr ((fV.Q bf).tr (fO.Q f10)))
      have kS : ((23, codeC.length, r, (0 : Int32), Int32.ofNat plO, (0 : Int32), (0 : Int32)) : Ins).1 = (codeC.getD code.length dI).1 := kk _ _ _
      have hCAD : CA (codeS ++ [((25, 0, r, 0, Int32.ofNat plO, 0, 0) : Ins)]) = CA codeS ++ [(Int32.ofNat 12, Int32.ofNat 0, Int32.ofNat plO), (Int32.ofNat 2, cv r, Int32.ofNat plO)] := by
        rw [CA_app wS tg25]
        rfl
      have hRAD : RA e (codeS ++ [((25, 0, r, 0, Int32.ofNat plO, 0, 0) : Ins)]) = RA e codeS := by
        rw [RA_app wS tg25]
        show RA e codeS ++ [] = _
        rw [List.append_nil]
      have hposS : ∀ j, j ≤ codeB.length → posC codeS j = posC codeB j ∧ posR codeS j = posR codeB j := fun j hj => by
        rw [← hD', posC_set (clen_k kS), posR_set (rlen_k kS), ← hC']
        exact ⟨posC_app hj, posR_app hj⟩
      have effS : ∀ L, eff (23, codeC.length, r, 0, Int32.ofNat plO, 0, 0) L = eff (codeC.getD code.length dI) L := fun L => by
        rw [hcd]
        rfl
      have tyC : TY (fs.1, codeB.length + 1, fs.2.2) vs8.length (9 :: cu) codeC := by
        rw [← hC']
        exact k4.app (cu' := 9 :: cu) hvl rfl (by unfold okI; simp) (Or.inr rfl)
      have tyS : TY (fs.1, codeB.length + 1, fs.2.2) vs8.length (9 :: cu) codeS := by
        rw [← hD']
        exact tyC.set effS (by unfold okI; simp; omega) (by show code.length < codeB.length + 1; omega)
      have hlyS : lyo codeS = some (9 :: cu) := tyS.2.1
      have hPE : PE b n p e (i + 2) op D (codeS ++ [((25, 0, r, 0, Int32.ofNat plO, 0, 0) : Ins)]) (codeS ++ [((25, 0, r, 0, Int32.ofNat plO, 0, 0) : Ins)]) vs8 cl W cu (fs.1, codeB.length + 2, fs.2.2) t10 s10 := by
        refine h.asm q10 (by rw [hCAD]; exact z4) (by rw [hRAD]; exact v1) (wfC_app wS (Or.inr (Or.inl (Nat.zero_le _)))) hV10 G10 (fun q z => F1 q (by omega)) (fun q z => F2 q (by omega)) (fun q z => F3 q (by omega)) (fun j hj => ?_) ?_ ?_ ?_ ?_ ?_
        · rw [posC_app (by omega), posR_app (by omega)]
          exact hposS j hj
        · refine okX.app ?_ (fun z => absurd z (by simp))
          rw [← hD']
          refine okX.set ?_ (by omega) kS (by unfold noJ; simp)
          rw [← hC']
          exact k3.app (fun z => absurd z (by simp))
        · have := tyS.app (c := (25, 0, r, 0, Int32.ofNat plO, 0, 0)) (js := codeB.length + 2) (cu' := cu) (Nat.le_refl _) (eff_id rfl) (by unfold okI; simp; omega) (Or.inr (by omega))
          exact this
        · rw [rl_app, rl_one, xl_app, xl_one, hrS, hrC, hxS, hxC]
          show rl codeB + 1 + 0 + (xl codeB + 0) + cl.length + D ≤ _
          omega
        · rw [rl_app, rl_one, hrS, hrC]
          show cl.length ≤ rl codeB + 1 + 0
          omega
        · rw [cx_app, cx_one, hcS, hcx]
          show cx codeB + 1 + 2 + 3 * D ≤ _
          omega
      have hne : ¬ codeB.length = code.length := by omega
      have gS : codeS.getD codeB.length dI = (24, unk, 0, 0, 0, 0, 0) := by
        rw [← hD', getD_set_ne hne, ← hC']
        exact getD_last
      have tS : lyo (codeS.take codeB.length) = some (3 :: cu) := by
        rw [← hD', lyo_set_take effS, ← hC', List.take_left]
        exact h.ly
      refine Or.inl ⟨t10, s10, codeS ++ [((25, 0, r, 0, Int32.ofNat plO, 0, 0) : Ins)], vs8, Int32.ofNat (cx codeS + 1), ?_, ?_, ⟨?_, ?_, ?_, ?_, ?_, ?_⟩, hPE, ?_, fun k j1 j2 j3 => ?_, ⟨gM_Q G10, hFQ⟩⟩
      · rw [CA_len] at z1 z2
        show cf_185_69 N X rk (Int32.ofNat (cx codeB)) (Int32.ofNat plO) (cv r) t8 = _
        unfold cf_185_69 cf_185_82
        simp (disch := omega) only [ev_S, ev_C, ↓reduceIte, Nat.reduceEqDiff, Nat.reduceLeDiff, Nat.reduceAdd, Nat.reduceMul, Nat.reduceSub, reduceCtorEq, l32_0, l32_1, l32_2, l32_3, l32_4, l32_5, l32_6, l32_7, l32_8, l32_9, l32_10, l32_11, l32_12, l32_13, l32_14, l32_15, l32_16, l32_17, l32_18, l32_19, l32_20, l32_21, l32_22, l32_23, l32_24, l32_25, l32_26, l32_27, l32_28, l32_29, l32_33, l32_40, l32_41, l32_44, l32_45, l32_59, l32_61, l32_91, l32_93, l32_123, l32_125, hP8, hp, z1, z3, z2]
      · show mf_278_219 N (Int32.ofNat (ob0 e + rl code)) (Int32.ofNat (ob0 e + rl codeB)) (Int32.ofNat (ob0 e + rl code)) (Int32.ofNat r) s8 = _
        have e1 : mf_278_219 N (Int32.ofNat (ob0 e + rl code)) (Int32.ofNat (ob0 e + rl codeB)) (Int32.ofNat (ob0 e + rl code)) (Int32.ofNat r) s8 = mo_bv (mf_276 N (Int32.ofNat 6) (Int32.ofNat (ob0 e + rl codeB)) (Int32.ofNat 0) s10) (fun s1 => mf_278_238 N s1) := by
          generalize ob0 e = o at *
          unfold mf_278_219 mf_278_229
          simp (disch := omega) only [ev_S, ev_P, ↓reduceIte, Nat.reduceEqDiff, Nat.reduceLeDiff, Nat.reduceAdd, Nat.reduceMul, Nat.reduceSub, reduceCtorEq, l32_0, l32_1, l32_2, l32_3, l32_4, l32_5, l32_6, l32_7, l32_8, l32_9, l32_10, l32_11, l32_12, l32_13, l32_14, l32_15, l32_16, l32_17, l32_18, l32_19, l32_20, l32_21, l32_22, l32_23, l32_24, l32_25, l32_26, l32_27, l32_28, l32_29, l32_33, l32_40, l32_41, l32_44, l32_45, l32_59, l32_61, l32_91, l32_93, l32_123, l32_125, hs9, hher, hs10, l32_8000]
        rw [e1]
        rfl
      · obtain ⟨seg, hseg⟩ := pre_set (c' := (23, codeC.length, r, 0, Int32.ofNat plO, 0, 0)) (m := code.length) hpC (Nat.le_refl _)
        refine ⟨seg ++ [((25, 0, r, 0, Int32.ofNat plO, 0, 0) : Ins)], ?_⟩
        rw [← hD', hseg, List.append_assoc]
      · rw [List.length_append, List.length_singleton, hlS, hlC]
      · rw [getD_appl (by omega)]
        exact gS
      · rw [List.take_append_of_le_length (by omega)]
        exact tS
      · rw [posC_app (by omega), (hposS _ (Nat.le_refl _)).1, posC_len]
        rfl
      · rw [posR_app (by omega), (hposS _ (Nat.le_refl _)).2, posR_len]
      · exact hb.kp hFQ
      · rw [List.length_append, List.length_singleton, hlS, hlC] at j2
        by_cases y : k = codeC.length
        · refine Or.inl ?_
          have e1 : (codeS ++ [((25, 0, r, 0, Int32.ofNat plO, 0, 0) : Ins)]).getD k dI = (25, 0, r, 0, Int32.ofNat plO, 0, 0) := by
            rw [y, ← hlS]
            exact getD_last
          rw [e1]
          unfold noJ
          simp
        · by_cases y2 : k = code.length
          · subst y2
            have e1 : (codeS ++ [((25, 0, r, 0, Int32.ofNat plO, 0, 0) : Ins)]).getD code.length dI = (23, codeC.length, r, 0, Int32.ofNat plO, 0, 0) := by
              rw [getD_appl (by omega), ← hD']
              exact getD_set_eq (by omega)
            have e2 : (codeS ++ [((25, 0, r, 0, Int32.ofNat plO, 0, 0) : Ins)]).getD codeC.length dI = (25, 0, r, 0, Int32.ofNat plO, 0, 0) := by
              rw [← hlS]
              exact getD_last
            unfold okJ
            rw [e1]
            refine Or.inr ⟨by show code.length ≤ codeC.length; omega, ?_, fun _ => ?_, 5 :: cu, 9 :: cu, ?_, ?_, Or.inr (Or.inr (Or.inr (Or.inl ⟨rfl, cu, rfl, rfl⟩)))⟩
            · show codeC.length ≤ _
              rw [List.length_append, hlS]
              omega
            · show ((codeS ++ [((25, 0, r, 0, Int32.ofNat plO, 0, 0) : Ins)]).getD codeC.length dI).1 = 25 ∧ ((codeS ++ [((25, 0, r, 0, Int32.ofNat plO, 0, 0) : Ins)]).getD codeC.length dI).2.2.1 = r ∧ ((codeS ++ [((25, 0, r, 0, Int32.ofNat plO, 0, 0) : Ins)]).getD codeC.length dI).2.2.2.2.1 = Int32.ofNat plO
              rw [e2]
              exact ⟨rfl, rfl, rfl⟩
            · rw [List.take_append_of_le_length (by omega), ← hD', lyo_set_take effS, take_pre hpC]
              exact hl
            · show lyo ((codeS ++ [_]).take codeC.length) = _
              rw [← hlS, List.take_left]
              exact hlyS
          · have := ((J2 k (by omega) (by omega)).lo (a' := code.length) (by omega)).app (l := [((24, unk, 0, 0, 0, 0, 0) : Ins)]) (by omega)
            rw [hC'] at this
            have := this.set (c' := (23, codeC.length, r, 0, Int32.ofNat plO, 0, 0)) (m0 := code.length) (by omega) effS (by rw [hcd]; decide)
            rw [hD'] at this
            exact this.app (by omega)
    · have b2 : mf_275 N s7 = some (s8, some (.int (Int32.ofNat 0))) := b2
      rw [b1, b2]
      obtain ⟨x, y, v1, v2, v3, v4, v5, v6, v7⟩ := b3
      have f78 : fV s6 s8 := ⟨fun q r => (b5.1 q r).trans (a5.1 q (by omega)), fun q r => (b5.2.1 q r).trans (a5.2.1 q r), fun q r => (b5.2.2.1 q r).trans (a5.2.2.1 q r), fun q r => (b5.2.2.2 q r).trans (a5.2.2.2 q (fun z => z))⟩
      obtain ⟨s9, c1, c2⟩ := r_219F (N := N) (q := rl code) (x2 := Int32.ofNat (ob0 e + rl codeB)) (y2 := Int32.ofNat 0) (fT6 s8 (Or.inr f78) ⟨x, v1, v2, v6⟩) (by omega)
      refine Or.inr ⟨t8, s9, rfl, c1, pF.tl ⟨x, y, v1, v2, v3, v4, v5, v6, v7⟩ c2, gX.pre (gM_Q G7) (b4.mono eP_Q (fun _ z => z.elim)), ((fO.Q f6).tr (fV.Q f78)).S.tr c2.2.2, (z6.kp (gX.pre a4 b4) hpp (fun _ z => z.elim))⟩
  · have a1 : cf_200 N X (zz_out + 11) t6 = some (t7, .inr ()) := a1
    rw [a1, a2]
    obtain ⟨x, y, v1, v2, v3, v4, v5, v6, v7⟩ := a3
    obtain ⟨s9, c1, c2⟩ := r_210TF (N := N) (q := rl code) (x2 := Int32.ofNat (ob0 e + rl codeB)) (fT6 s7 (Or.inl a5) ⟨x, v1, v2, v6⟩) (by omega)
    refine Or.inr ⟨t7, s9, rfl, c1, pF.tl ⟨x, y, v1, v2, v3, v4, v5, v6, v7⟩ c2, gX.pre (gM_Q G6) (a4.mono eP_Q (fun _ z => z.elim)), ((fO.Q f6).tr (fPs.Q a5)).S.tr c2.2.2, z6.kp a4 hpp (fun _ z => z.elim)⟩
end TRY
end
