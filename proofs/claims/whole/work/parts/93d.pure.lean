/-! ===== PURE: statements (3): an E between two signs; plain statements ===== -/
/-- the class passes a sign, an E, a sign -/
abbrev cH (N : Nat) (X : Nat → Option zz_C) (c1 c2 : Nat) (K : cS → kO) (t : cS) : kO := ko_call 5 (cf_201 N X (Int32.ofNat c1) t) (fun g v => co_v v (ko_call 5 (cf_S0 N X 150 186 [.int (Int32.ofNat 0)] g) (fun g v => co_v v (ko_call 5 (cf_201 N X (Int32.ofNat c2) g) (fun g v => co_v v (K g))))))
/-- and the reference -/
abbrev rH (N : Nat) (c2 : Nat) (R : mO) (K : mS → mO) : mO := mo_bv R (fun a => mo_bv (mf_285 N (Int32.ofNat 0) a) (fun b => mo_bv (mf_267 N (Int32.ofNat c2) b) K))
/-- a statement without a block -/
def SR (b : Nat → Nat) (n p e i op D : Nat) (code : List Ins) (cu : List Nat) (fs : Nat × Nat × Nat) (t : cS) (s : mS) (R : kO) (M : mO) : Prop := (∃ t' s' i' seg vs' cl' W', R = some (t', .inl none) ∧ M = some (s', none) ∧ i < i' ∧ PE b n p e i' op D (code ++ seg) (code ++ seg) vs' cl' W' cu fs t' s' ∧ FR p e t t' s s') ∨ (∃ t' s', R = some (t', .inr ()) ∧ M = some (s', none) ∧ pF t' s' ∧ FXs p e t t' s s')
section PLN
variable {N : Nat} {X : Nat → Option zz_C} {t t' t1 t2 : cS} {s s' s1 s2 : mS} {b : Nat → Nat} {n p e i op D D' : Nat} {code code1 : List Ins} {vs : List (List Nat)} {cl : List Cn} {W : List Wt} {cu : List Nat} {fs : Nat × Nat × Nat} {Bs : List (Int32 × Int32 × Int32)}
theorem oB.e44 {x : Int32} (h : oB s) : oB (mI s 44 x) := h
theorem fQ_44 : fQ e s (mI s 44 0) := ⟨fun q r => if_neg (by omega), fun _ _ => rfl, fun _ _ => rfl, fun _ _ => rfl, fun _ _ _ _ => rfl, fun _ => Kd_0⟩
theorem FX.e44 (h : FX p e t t' s s1) : FX p e t t' s (mI s1 44 0) := h.post fQ_44 h.2.2.1
theorem pF.e44 {x : Int32} (h : pF t s) : pF t (mI s 44 x) := h
/-- E and a sign behind it -/
theorem p_esg {c2 : Nat} (hN : 170000 ≤ N) (hX : oX N X) (hY : oY X) (hc2 : c2 = 41 ∨ c2 = 93 ∨ c2 = 59) (ho : c2 = 41 ∨ c2 = 93 → 1 ≤ op) (h : PE b n p e i op D code code vs cl W cu fs t s) (hwn : rWn s) (hD : 1 ≤ D) : (∃ t' s' i' seg vs' cl', (∀ K : cS → kO, ko_call 5 (cf_S0 N X 150 186 [.int (Int32.ofNat 0)] t) (fun g v => co_v v (ko_call 5 (cf_201 N X (Int32.ofNat c2) g) (fun g v => co_v v (K g)))) = K t') ∧ (∀ K : mS → mO, mo_bv (mf_285 N (Int32.ofNat 0) s) (fun b => mo_bv (mf_267 N (Int32.ofNat c2) b) K) = K s') ∧ i + 1 < i' ∧ vs.length ≤ vs'.length ∧ PE b n p e i' (if c2 = 41 ∨ c2 = 93 ∨ c2 = 125 then op - 1 else op) (D + 1) (code ++ seg) (code ++ seg) vs' cl' [] (0 :: cu) fs t' s' ∧ FR p e t t' s s') ∨ (∃ t' s', (∀ K : cS → kO, ko_call 5 (cf_S0 N X 150 186 [.int (Int32.ofNat 0)] t) (fun g v => co_v v (ko_call 5 (cf_201 N X (Int32.ofNat c2) g) (fun g v => co_v v (K g)))) = some (t', .inr ())) ∧ (∀ K : mS → mO, mo_bv (mf_285 N (Int32.ofNat 0) s) (fun b => mo_bv (mf_267 N (Int32.ofNat c2) b) K) = K s') ∧ pF t' s' ∧ FX p e t t' s s') := by
  rcases p_exp hN hX hY h hwn hD with ⟨t1, s1, i1, seg, vs1, cl1, a1, a2, a3, av, a4, a5⟩ | ⟨t1, s1, a1, a2, a3, a4⟩
  · rcases a4.sgn (N := N) (X := X) (c := c2) hN (by omega) (fun z => ho (by omega)) with ⟨t2, s2, b1, b2, b3, b4, b5, b6⟩ | ⟨t2, s2, b1, b2, b3, b4, b5⟩
    · refine Or.inl ⟨t2, s2, i1 + 1, seg, vs1, cl1, fun K => ?_, fun K => ?_, by omega, av, b4, a5.tr b5⟩
      · rw [a1]
        show ko_call 5 (cf_201 N X (Int32.ofNat c2) t1) _ = _
        rw [b1]
        rfl
      · rw [a2]
        show mo_bv (mf_267 N (Int32.ofNat c2) s1) K = _
        rw [b2]
        rfl
    · refine Or.inr ⟨t2, s2, fun K => ?_, fun K => ?_, b3, a5.pre b4⟩
      · rw [a1]
        show ko_call 5 (cf_201 N X (Int32.ofNat c2) t1) _ = _
        rw [b1]
        rfl
      · rw [a2]
        show mo_bv (mf_267 N (Int32.ofNat c2) s1) K = _
        rw [b2]
        rfl
  · obtain ⟨x, y, v1, v2, v3, v4, v5, v6, v7⟩ := a3
    refine Or.inr ⟨t1, s1, fun K => ?_, fun K => ?_, ⟨x, y, v1, v2, v3, v4, v5, v6, v7⟩, a4⟩
    · rw [a1]
      rfl
    · rw [a2]
      show mo_bv (mf_267 N (Int32.ofNat c2) s1) K = _
      rw [r_signF v6 ⟨v1, v2⟩]
      rfl
/-- a bracket, an E, a bracket -/
theorem p_brk {c1 c2 : Nat} (hN : 170000 ≤ N) (hX : oX N X) (hY : oY X) (hc : (c1 = 40 ∧ c2 = 41) ∨ (c1 = 91 ∧ c2 = 93)) (h : PE b n p e i op D code code vs cl W cu fs t s) (hwn : rWn s) : (∃ t' s' i' seg vs' cl', (∀ K, cH N X c1 c2 K t = K t') ∧ (∀ K, rH N c2 (mf_268 N (Int32.ofNat c1) s) K = K s') ∧ i + 2 < i' ∧ vs.length ≤ vs'.length ∧ PE b n p e i' op (D + 2) (code ++ seg) (code ++ seg) vs' cl' [] (0 :: cu) fs t' s' ∧ FR p e t t' s s') ∨ (∃ t' s', (∀ K, cH N X c1 c2 K t = some (t', .inr ())) ∧ (∀ K, rH N c2 (mf_268 N (Int32.ofNat c1) s) K = K s') ∧ pF t' s' ∧ FX p e t t' s s') := by
  rcases h.opn (N := N) (X := X) (c := c1) hN (by omega) with ⟨t1, s1, a1, a2, a3, a4, a5, a6⟩ | ⟨t1, s1, a1, a2, a3, a4, a5⟩
  · rcases p_esg (c2 := c2) hN hX hY (by omega) (fun _ => by omega) a5 (hwn.kp a6.2) (by omega) with ⟨t2, s2, i2, seg, vs2, cl2, b1, b2, b3, bv, b4, b5⟩ | ⟨t2, s2, b1, b2, b3, b4⟩
    · rw [if_pos (by omega), Nat.add_sub_cancel] at b4
      refine Or.inl ⟨t2, s2, i2, seg, vs2, cl2, fun K => ?_, fun K => ?_, by omega, bv, b4, a6.tr b5⟩
      · show ko_call 5 (cf_201 N X (Int32.ofNat c1) t) _ = _
        rw [a1]
        exact b1 K
      · rw [a2]
        exact b2 K
    · refine Or.inr ⟨t2, s2, fun K => ?_, fun K => ?_, b3, a6.pre b4⟩
      · show ko_call 5 (cf_201 N X (Int32.ofNat c1) t) _ = _
        rw [a1]
        exact b1 K
      · rw [a2]
        exact b2 K
  · obtain ⟨x, y, v1, v2, v3, v4, v5, v6, v7⟩ := a3
    refine Or.inr ⟨t1, mI s1 44 0, fun K => ?_, fun K => ?_, ⟨x, y, v1, v2, v3, v4, v5, v6, v7⟩, a4.e44⟩
    · show ko_call 5 (cf_201 N X (Int32.ofNat c1) t) _ = _
      rw [a1]
      rfl
    · rw [a2]
      show mo_bv (mf_285 N (Int32.ofNat 0) s1) _ = _
      rw [r_exprF hN v6 ⟨v1, v2⟩]
      show mo_bv (mf_267 N (Int32.ofNat c2) (mI s1 44 0)) K = _
      rw [r_signF (s := mI s1 44 0) v6 ⟨v1, v2⟩]
      rfl
/-- =, an E, ; -/
theorem p_eqs (hN : 170000 ≤ N) (hX : oX N X) (hY : oY X) (h : PE b n p e i op D code code vs cl W cu fs t s) (hwn : rWn s) : (∃ t' s' i' seg vs' cl', (∀ K, cH N X 61 59 K t = K t') ∧ (∀ K, rH N 59 (mf_267 N (Int32.ofNat 61) s) K = K s') ∧ i + 2 < i' ∧ vs.length ≤ vs'.length ∧ PE b n p e i' op (D + 2) (code ++ seg) (code ++ seg) vs' cl' [] (0 :: cu) fs t' s' ∧ FR p e t t' s s') ∨ (∃ t' s', (∀ K, cH N X 61 59 K t = some (t', .inr ())) ∧ (∀ K, rH N 59 (mf_267 N (Int32.ofNat 61) s) K = K s') ∧ pF t' s' ∧ FX p e t t' s s') := by
  rcases h.sgn (N := N) (X := X) (c := 61) hN (by omega) (fun z => by omega) with ⟨t1, s1, a1, a2, a3, a5, a6, a7⟩ | ⟨t1, s1, a1, a2, a3, a4, a5⟩
  · rw [if_neg (by omega)] at a5
    rcases p_esg (c2 := 59) hN hX hY (by omega) (fun z => by omega) a5 (hwn.kp a6.2) (by omega) with ⟨t2, s2, i2, seg, vs2, cl2, b1, b2, b3, bv, b4, b5⟩ | ⟨t2, s2, b1, b2, b3, b4⟩
    · rw [if_neg (by omega)] at b4
      refine Or.inl ⟨t2, s2, i2, seg, vs2, cl2, fun K => ?_, fun K => ?_, by omega, bv, b4, a6.tr b5⟩
      · show ko_call 5 (cf_201 N X (Int32.ofNat 61) t) _ = _
        rw [a1]
        exact b1 K
      · rw [a2]
        exact b2 K
    · refine Or.inr ⟨t2, s2, fun K => ?_, fun K => ?_, b3, a6.pre b4⟩
      · show ko_call 5 (cf_201 N X (Int32.ofNat 61) t) _ = _
        rw [a1]
        exact b1 K
      · rw [a2]
        exact b2 K
  · obtain ⟨x, y, v1, v2, v3, v4, v5, v6, v7⟩ := a3
    refine Or.inr ⟨t1, mI s1 44 0, fun K => ?_, fun K => ?_, ⟨x, y, v1, v2, v3, v4, v5, v6, v7⟩, a4.e44⟩
    · show ko_call 5 (cf_201 N X (Int32.ofNat 61) t) _ = _
      rw [a1]
      rfl
    · rw [a2]
      show mo_bv (mf_285 N (Int32.ofNat 0) s1) _ = _
      rw [r_exprF hN v6 ⟨v1, v2⟩]
      show mo_bv (mf_267 N (Int32.ofNat 59) (mI s1 44 0)) K = _
      rw [r_signF (s := mI s1 44 0) v6 ⟨v1, v2⟩]
      rfl
/-- the class's act and the reference's order at a statement's end -/
theorem eff_p1 {c : Ins} (h : c.1 = 11 ∨ c.1 = 19 ∨ c.1 = 20 ∨ c.1 = 21 ∨ c.1 = 22) : eff c (0 :: 5 :: cu) = some cu := by
  obtain ⟨o, j, r, a, q, x, y⟩ := c
  have h : o = 11 ∨ o = 19 ∨ o = 20 ∨ o = 21 ∨ o = 22 := h
  rcases h with h | h | h | h | h <;> subst h <;> rfl
theorem eff_id {c : Ins} (h : c.1 = 25) : eff c (9 :: cu) = some cu := by
  obtain ⟨o, j, r, a, q, x, y⟩ := c
  have h : o = 25 := h
  subst h
  rfl
theorem eff_15 {c : Ins} (h : c.1 = 15) : eff c (5 :: cu) = some (5 :: 5 :: cu) := by
  obtain ⟨o, j, r, a, q, x, y⟩ := c
  have h : o = 15 := h
  subst h
  rfl
/-- no expression is under way -/
def noX (L : List Nat) : Prop := ∀ M, ¬ L = 0 :: M ∧ ¬ L = 1 :: M
theorem noX_2 {x : Nat} {L : List Nat} : noX ((x + 2) :: L) := fun M => ⟨fun q => (by cases q), fun q => (by cases q)⟩
theorem noX_0 : noX [] := fun M => ⟨fun q => (by cases q), fun q => (by cases q)⟩
theorem eff_16 {c : Ins} (h : c.1 = 16) (hs : noX cu) : eff c cu = some (5 :: cu) := by
  obtain ⟨o, j, r, a, q, x, y⟩ := c
  have h : o = 16 := h
  subst h
  cases cu with
  | nil => rfl
  | cons z M =>
    match z, hs with
    | 0, hs => exact absurd rfl (hs M).1
    | 1, hs => exact absurd rfl (hs M).2
    | z + 2, _ => rfl
/-- say, return, raise -/
theorem p_plain {w pl : Nat} (hN : 170000 ≤ N) (hX : oX N X) (hY : oY X) (hw : w = 6 ∨ w = 7 ∨ w = 8) (h : PE b n p e i op D code code vs cl W (5 :: cu) fs t s) (hwn : rWn s) (hb : rB s Bs) (hk : ∀ hi : i < (TL b n).length, (TL b n)[i].1 = 3) : SR b n p e i op (D + 1) code cu fs t s (cf_179 N X (Int32.ofNat (w + 1)) (Int32.ofNat pl) t) (mf_279_271 N (Int32.ofNat pl) (Int32.ofNat w) s) := by
  obtain ⟨hi, -⟩ := h.1.now
  obtain ⟨t1, s1, a1, a2, a3, a4, a5⟩ := h.adv (N := N) (X := X) hN (fun _ => by have := hk hi; omega)
  have hR : cf_179 N X (Int32.ofNat (w + 1)) (Int32.ofNat pl) t = ko_call 5 (cf_S0 N X 150 186 [.int (Int32.ofNat 0)] t1) (fun g v => co_v v (ko_call 5 (cf_201 N X (Int32.ofNat 59) g) (fun g v => co_v v (cf_179_18 N X (Int32.ofNat (w + 1)) (Int32.ofNat pl) g)))) := by
    unfold cf_179 cf_179_0
    simp (disch := omega) only [ev_S, ev_C, ↓reduceIte, Nat.reduceEqDiff, Nat.reduceLeDiff, Nat.reduceAdd, Nat.reduceMul, Nat.reduceSub, reduceCtorEq, l32_0, l32_1, l32_2, l32_3, l32_4, l32_5, l32_6, l32_7, l32_8, l32_9, l32_10, l32_11, l32_12, l32_13, l32_14, l32_15, l32_16, l32_17, l32_18, l32_19, l32_20, l32_21, l32_22, l32_23, l32_24, l32_25, l32_26, l32_27, l32_28, l32_29, l32_33, l32_40, l32_41, l32_44, l32_45, l32_59, l32_61, l32_91, l32_93, l32_123, l32_125, a1]
    rfl
  have hM : mf_279_271 N (Int32.ofNat pl) (Int32.ofNat w) s = mo_bv (mf_285 N (Int32.ofNat 0) s1) (fun b => mo_bv (mf_267 N (Int32.ofNat 59) b) (fun s => mo_bi (mf_271 N (Int32.ofNat (w + 13)) (Int32.ofNat 0) (Int32.ofNat 0) (Int32.ofNat pl) s) (fun s y => some (s, none)))) := by
    have e1 : mf_279_271 N (Int32.ofNat pl) (Int32.ofNat w) s = mo_bv (mf_285 N (Int32.ofNat 0) s1) (fun b => mo_bv (mf_267 N (Int32.ofNat 59) b) (fun s => mf_279_286 N (Int32.ofNat pl) (Int32.ofNat w) s)) := by
      unfold mf_279_271
      simp (disch := omega) only [ev_S, ev_P, ↓reduceIte, Nat.reduceEqDiff, Nat.reduceLeDiff, Nat.reduceAdd, Nat.reduceMul, Nat.reduceSub, reduceCtorEq, l32_0, l32_1, l32_2, l32_3, l32_4, l32_5, l32_6, l32_7, l32_8, l32_9, l32_10, l32_11, l32_12, l32_13, l32_14, l32_15, l32_16, l32_17, l32_18, l32_19, l32_20, l32_21, l32_22, l32_23, l32_24, l32_25, l32_26, l32_27, l32_28, l32_29, l32_33, l32_40, l32_41, l32_44, l32_45, l32_59, l32_61, l32_91, l32_93, l32_123, l32_125, a2]
      rfl
    rw [e1]
    have e2 : (fun s => mf_279_286 N (Int32.ofNat pl) (Int32.ofNat w) s) = (fun s => mo_bi (mf_271 N (Int32.ofNat (w + 13)) (Int32.ofNat 0) (Int32.ofNat 0) (Int32.ofNat pl) s) (fun s y => some (s, none))) := by
      funext s
      rcases hw with z | z | z <;> subst z
      · unfold mf_279_286 mf_279_293 mf_279_311
        simp (disch := omega) only [ev_S, ev_P, ↓reduceIte, Nat.reduceEqDiff, Nat.reduceLeDiff, Nat.reduceAdd, Nat.reduceMul, Nat.reduceSub, reduceCtorEq, l32_0, l32_1, l32_2, l32_3, l32_4, l32_5, l32_6, l32_7, l32_8, l32_9, l32_10, l32_11, l32_12, l32_13, l32_14, l32_15, l32_16, l32_17, l32_18, l32_19, l32_20, l32_21, l32_22, l32_23, l32_24, l32_25, l32_26, l32_27, l32_28, l32_29, l32_33, l32_40, l32_41, l32_44, l32_45, l32_59, l32_61, l32_91, l32_93, l32_123, l32_125]
        rfl
      · unfold mf_279_286 mf_279_298 mf_279_304 mf_279_311
        simp (disch := omega) only [ev_S, ev_P, ↓reduceIte, Nat.reduceEqDiff, Nat.reduceLeDiff, Nat.reduceAdd, Nat.reduceMul, Nat.reduceSub, reduceCtorEq, l32_0, l32_1, l32_2, l32_3, l32_4, l32_5, l32_6, l32_7, l32_8, l32_9, l32_10, l32_11, l32_12, l32_13, l32_14, l32_15, l32_16, l32_17, l32_18, l32_19, l32_20, l32_21, l32_22, l32_23, l32_24, l32_25, l32_26, l32_27, l32_28, l32_29, l32_33, l32_40, l32_41, l32_44, l32_45, l32_59, l32_61, l32_91, l32_93, l32_123, l32_125]
        rfl
      · unfold mf_279_286 mf_279_298 mf_279_309 mf_279_311
        simp (disch := omega) only [ev_S, ev_P, ↓reduceIte, Nat.reduceEqDiff, Nat.reduceLeDiff, Nat.reduceAdd, Nat.reduceMul, Nat.reduceSub, reduceCtorEq, l32_0, l32_1, l32_2, l32_3, l32_4, l32_5, l32_6, l32_7, l32_8, l32_9, l32_10, l32_11, l32_12, l32_13, l32_14, l32_15, l32_16, l32_17, l32_18, l32_19, l32_20, l32_21, l32_22, l32_23, l32_24, l32_25, l32_26, l32_27, l32_28, l32_29, l32_33, l32_40, l32_41, l32_44, l32_45, l32_59, l32_61, l32_91, l32_93, l32_123, l32_125]
        rfl
    rw [e2]
  rw [hR, hM]
  have f1 : FR p e t t1 s s1 := ⟨a4, a5⟩
  rcases p_esg (c2 := 59) hN hX hY (by omega) (fun z => by omega) a3 (hwn.kp a5) (by omega) with ⟨t2, s2, i2, seg, vs2, cl2, b1, b2, b3, bv, b4, b5⟩ | ⟨t2, s2, b1, b2, b3, b4⟩
  · rw [if_neg (by omega)] at b4
    have hP : kP t2 2 1 = some p := b4.2.1.1
    have hp : (p = 12 ∨ p = 21) = True := eq_true b4.2.1.2.1
    have hI : cI (code ++ seg) (posC (code ++ seg) (code ++ seg).length) (w + 13, 0, 0, 0, Int32.ofNat pl, 0, 0) = [(Int32.ofNat (w + 1), Int32.ofNat 0, Int32.ofNat pl)] := by
      rcases hw with z | z | z <;> subst z <;> rfl
    have hRI : rI e (code ++ seg) (w + 13, 0, 0, 0, Int32.ofNat pl, 0, 0) = [(Int32.ofNat (w + 13), Int32.ofNat 0, Int32.ofNat 0, 0, Int32.ofNat pl)] := by
      rcases hw with z | z | z <;> subst z <;> rfl
    obtain ⟨t3, s3, c1, c2, c3, c4, c5⟩ := b4.bo (N := N) (X := X) (D' := D + 1) (cu' := cu) hI hRI (Or.inr (Or.inl (Nat.zero_le _))) (eff_p1 (by show w + 13 = 11 ∨ w + 13 = 19 ∨ w + 13 = 20 ∨ w + 13 = 21 ∨ w + 13 = 22; omega)) (by unfold okI; rcases hw with z | z | z <;> subst z <;> simp) (by omega) (Or.inl (by rcases hw with z | z | z <;> subst z <;> exact Nat.le_refl 1)) (by unfold xp noJ; rcases hw with z | z | z <;> subst z <;> simp)
    refine Or.inl ⟨t3, s3, i2, seg ++ [_], vs2, cl2, [], ?_, ?_, by omega, by rw [← List.append_assoc]; exact c3, f1.tr (b5.tr c4)⟩
    · rw [b1]
      unfold cf_179_18 cf_179_28
      simp (disch := omega) only [ev_S, ev_C, ↓reduceIte, Nat.reduceEqDiff, Nat.reduceLeDiff, Nat.reduceAdd, Nat.reduceMul, Nat.reduceSub, reduceCtorEq, l32_0, l32_1, l32_2, l32_3, l32_4, l32_5, l32_6, l32_7, l32_8, l32_9, l32_10, l32_11, l32_12, l32_13, l32_14, l32_15, l32_16, l32_17, l32_18, l32_19, l32_20, l32_21, l32_22, l32_23, l32_24, l32_25, l32_26, l32_27, l32_28, l32_29, l32_33, l32_40, l32_41, l32_44, l32_45, l32_59, l32_61, l32_91, l32_93, l32_123, l32_125, hP, hp, c1]
    · rw [b2, c2]
      rfl
  · obtain ⟨m, m1, m2⟩ := h.fU hb b3 (f1.pre b4)
    obtain ⟨s3, c1, c2, c3⟩ := r_orderF (N := N) (x1 := Int32.ofNat (w + 13)) (x2 := Int32.ofNat 0) (x3 := Int32.ofNat 0) (x4 := Int32.ofNat pl) m2
    refine Or.inr ⟨t2, s3, b1 _, ?_, b3.tl c2, (f1.pre b4).S.tl c2⟩
    rw [b2, c1]
    rfl
/-- a call's end -/
theorem p_drop {pl : Nat} {R : kO} (hN : 170000 ≤ N) (h : PE b n p e i op D code code vs cl W (5 :: cu) fs t s) (hb : rB s Bs) (hA : (∃ t' s' i' seg vs' cl', R = some (t', .inl none) ∧ mf_285 N (Int32.ofNat 1) s = some (s', none) ∧ i < i' ∧ PE b n p e i' op (D + 1) (code ++ seg) (code ++ seg) vs' cl' [] (0 :: 5 :: cu) fs t' s' ∧ FR p e t t' s s') ∨ (∃ t' s', R = some (t', .inr ()) ∧ mf_285 N (Int32.ofNat 1) s = some (s', none) ∧ pF t' s' ∧ FX p e t t' s s')) : SR b n p e i op (D + 1) code cu fs t s (ko_call 5 R (fun g v => co_v v (ko_call 5 (cf_178 N X g) (fun g v => co_v v (some (g, .inl none)))))) (mf_279_69 N (Int32.ofNat pl) s) := by
  have hM : ∀ s1, mf_285 N (Int32.ofNat 1) s = some (s1, none) → mf_279_69 N (Int32.ofNat pl) s = mo_bv (mf_267 N (Int32.ofNat 59) s1) (fun s => mo_bi (mf_271 N (Int32.ofNat 22) (Int32.ofNat 0) (Int32.ofNat 0) (Int32.ofNat pl) s) (fun s y => some (s, none))) := fun s1 e1 => by
    unfold mf_279_69
    simp (disch := omega) only [ev_S, ev_P, ↓reduceIte, Nat.reduceEqDiff, Nat.reduceLeDiff, Nat.reduceAdd, Nat.reduceMul, Nat.reduceSub, reduceCtorEq, l32_0, l32_1, l32_2, l32_3, l32_4, l32_5, l32_6, l32_7, l32_8, l32_9, l32_10, l32_11, l32_12, l32_13, l32_14, l32_15, l32_16, l32_17, l32_18, l32_19, l32_20, l32_21, l32_22, l32_23, l32_24, l32_25, l32_26, l32_27, l32_28, l32_29, l32_33, l32_40, l32_41, l32_44, l32_45, l32_59, l32_61, l32_91, l32_93, l32_123, l32_125, e1]
    rfl
  rcases hA with ⟨t1, s1, i1, seg, vs1, cl1, a1, a2, a3, a4, a5⟩ | ⟨t1, s1, a1, a2, a3, a4⟩
  · rw [a1, hM s1 a2]
    rcases a4.sgn (N := N) (X := X) (c := 59) hN (by omega) (fun z => by omega) with ⟨t2, s2, b1, b2, b3, b4, b5, b6⟩ | ⟨t2, s2, b1, b2, b3, b4, b5⟩
    · rw [if_neg (by omega)] at b4
      have hP : kP t2 2 1 = some p := b4.2.1.1
      have hp : (p = 12 ∨ p = 21) = True := eq_true b4.2.1.2.1
      obtain ⟨t3, s3, c1, c2, c3, c4, c5⟩ := b4.bo (N := N) (X := X) (D' := D + 1) (cu' := cu) (c := (22, 0, 0, 0, 0, Int32.ofNat pl, 0)) (k := Int32.ofNat 3) (a := Int32.ofNat 0) (v := Int32.ofNat 0) (x1 := Int32.ofNat 22) (x2 := Int32.ofNat 0) (x3 := Int32.ofNat 0) (x4 := Int32.ofNat pl) rfl rfl (Or.inr (Or.inl (Nat.zero_le _))) (eff_p1 (by simp)) (by unfold okI; simp) (by omega) (Or.inl (Nat.le_refl 1))
      refine Or.inl ⟨t3, s3, i1 + 1, seg ++ [_], vs1, cl1, [], ?_, ?_, by omega, by rw [← List.append_assoc]; exact c3, a5.tr (b5.tr c4)⟩
      · show ko_call 5 (cf_178 N X t1) _ = _
        unfold cf_178 cf_178_0 cf_178_6 cf_178_16
        simp (disch := omega) only [ev_S, ev_C, ↓reduceIte, Nat.reduceEqDiff, Nat.reduceLeDiff, Nat.reduceAdd, Nat.reduceMul, Nat.reduceSub, reduceCtorEq, l32_0, l32_1, l32_2, l32_3, l32_4, l32_5, l32_6, l32_7, l32_8, l32_9, l32_10, l32_11, l32_12, l32_13, l32_14, l32_15, l32_16, l32_17, l32_18, l32_19, l32_20, l32_21, l32_22, l32_23, l32_24, l32_25, l32_26, l32_27, l32_28, l32_29, l32_33, l32_40, l32_41, l32_44, l32_45, l32_59, l32_61, l32_91, l32_93, l32_123, l32_125, b1, hP, hp, c1]
      · rw [b2]
        show mo_bi (mf_271 N (Int32.ofNat 22) (Int32.ofNat 0) (Int32.ofNat 0) (Int32.ofNat pl) s2) _ = _
        rw [c2]
        rfl
    · obtain ⟨m, m1, m2⟩ := h.fU hb b3 (a5.pre b4)
      obtain ⟨s3, c1, c2, c3⟩ := r_orderF (N := N) (x1 := Int32.ofNat 22) (x2 := Int32.ofNat 0) (x3 := Int32.ofNat 0) (x4 := Int32.ofNat pl) m2
      refine Or.inr ⟨t2, s3, ?_, ?_, b3.tl c2, (a5.pre b4).S.tl c2⟩
      · show ko_call 5 (cf_178 N X t1) _ = _
        unfold cf_178 cf_178_0
        simp (disch := omega) only [ev_S, ev_C, ↓reduceIte, Nat.reduceEqDiff, Nat.reduceLeDiff, Nat.reduceAdd, Nat.reduceMul, Nat.reduceSub, reduceCtorEq, l32_0, l32_1, l32_2, l32_3, l32_4, l32_5, l32_6, l32_7, l32_8, l32_9, l32_10, l32_11, l32_12, l32_13, l32_14, l32_15, l32_16, l32_17, l32_18, l32_19, l32_20, l32_21, l32_22, l32_23, l32_24, l32_25, l32_26, l32_27, l32_28, l32_29, l32_33, l32_40, l32_41, l32_44, l32_45, l32_59, l32_61, l32_91, l32_93, l32_123, l32_125, b1]
        rfl
      · rw [b2]
        show mo_bi (mf_271 N (Int32.ofNat 22) (Int32.ofNat 0) (Int32.ofNat 0) (Int32.ofNat pl) s2) _ = _
        rw [c1]
        rfl
  · rw [a1, hM s1 a2]
    obtain ⟨m, m1, m2⟩ := h.fU hb a3 a4
    obtain ⟨s3, c1, c2, c3⟩ := r_orderF (N := N) (x1 := Int32.ofNat 22) (x2 := Int32.ofNat 0) (x3 := Int32.ofNat 0) (x4 := Int32.ofNat pl) m2
    obtain ⟨x, y, v1, v2, v3, v4, v5, v6, v7⟩ := a3
    refine Or.inr ⟨t1, s3, rfl, ?_, pF.tl ⟨x, y, v1, v2, v3, v4, v5, v6, v7⟩ c2, a4.S.tl c2⟩
    rw [r_signF v6 ⟨v1, v2⟩]
    show mo_bi (mf_271 N (Int32.ofNat 22) (Int32.ofNat 0) (Int32.ofNat 0) (Int32.ofNat pl) s1) _ = _
    rw [c1]
    rfl
end PLN
