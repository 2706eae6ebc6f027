/-! ===== PURE: run (156): a run ends (the reference) ===== -/
/-- numbers of what may be bare -/
def serNo : Option Nod → List Int32
  | none => []
  | some x => serN x
/-- y is o, of depth 4 -/
def lfR : Option Nod → Option (Th 4) → Prop
  | none, none => True
  | some x, some z => intT 4 z = intT x.1 x.2 ∧ ∀ (h : Nat → Int32) (R : Nat → Prop) (a : Nat), LayN h R a x → Lay 4 h R a z
  | _, _ => False
section ENR2
variable {N : Nat} {s s1 s2 s' : mS} {f i j : Nat} {kk vv x2 : Int32} {o : Option Nod} {y : Option (Th 4)} {g g' : Nat → Int32} {S' : Nat → Option (Th 4)} {sh : Nat → Option Nod}
theorem lfO (h : ∀ x, o = some x → wfN x ∧ x.1 ≤ 4) : ∃ y : Option (Th 4), (∀ z, y = some z → wfT 4 z) ∧ serO y = serNo o ∧ lfR o y := by
  cases o with
  | none => exact ⟨none, fun z q => (by cases q), rfl, trivial⟩
  | some x =>
    obtain ⟨h1, h2⟩ := h x rfl
    obtain ⟨z, e1, e2, e3, e4⟩ := lf4 (4 - x.1) x.1 x.2 (by omega) h1
    exact ⟨some z, fun z' q => (by cases q; exact e2), e1, e3, e4⟩
theorem rvo.cg (H : rvo g f kk vv o) (hh : ∀ y, Rf f y → g' y = g y) : rvo g' f kk vv o := by
  cases o with
  | none => exact H
  | some x =>
    rcases H with H | ⟨h1, h2, a, h3, h4⟩
    · exact Or.inl H
    · exact Or.inr ⟨h1, h2, a, h3, LayN.congr (fun _ z => z) hh h4⟩
/-- a shelf is laid aside -/
theorem r_lay1 (hN : 170000 ≤ N) (hv : rvo (s.2.2.1 47) f kk vv o) (hf : f ≤ 160000) (hi : i < 8) (hw : ∀ x, o = some x → wfN x ∧ x.1 ≤ 4) (hy : lfR o y) : ∃ s', mf_75 N kk vv (Int32.ofNat (2410 * (56 + i))) s = some (s', none) ∧ rSl (s'.2.2.1 47) (56 + i) y ∧ lyF (2410 * (56 + i)) s s' := by
  have hb : 2410 * (56 + i) + 2410 ≤ 154240 := by omega
  have e2 : Int32.ofNat (2410 * (56 + i)) + 1 = Int32.ofNat (2410 * (56 + i) + 1) := i32al
  cases o with
  | none =>
    cases y with
    | some z => exact hy.elim
    | none =>
      have hv : kk = Int32.ofNat 2 := hv
      subst hv
      unfold mf_75 mf_75_0
      rw [if_neg (fun q => q rfl)]
      unfold mf_75_5
      rw [if_pos (gd rfl (by omega) (by decide)), i32c (m := 2410 * (56 + i)) (by omega)]
      refine ⟨_, rfl, if_pos rfl, ⟨fun _ _ => rfl, fun _ _ => rfl, fun q r => if_neg (fun z => r (Or.inl z)), fun _ _ => rfl⟩, fun y hy => ?_⟩
      show upd _ (2410 * (56 + i)) (-1) y = _
      unfold upd
      rw [if_neg (by omega)]
  | some x =>
    cases y with
    | none => exact hy.elim
    | some z =>
      obtain ⟨hz, hl⟩ := hy
      have hvi := vw_int x
      rcases hv with ⟨h1, h2⟩ | ⟨h1, h2, a, h3, h4⟩
      · subst h1
        have hzi : intT 4 z = some vv := by rw [hz, hvi]; exact h2
        unfold mf_75 mf_75_0
        rw [if_pos (by decide)]
        unfold mf_75_13
        rw [if_neg (by decide)]
        unfold mf_75_17
        rw [if_pos (gd rfl (by omega) (by decide)), if_pos (gd e2 (by omega) (by decide)), cl e2 (by omega), i32c (m := 2410 * (56 + i)) (by omega)]
        refine ⟨_, rfl, ?_, ⟨fun _ _ => rfl, fun _ _ => rfl, fun q r => (if_neg (fun z => r (Or.inl z))).trans (if_neg (fun z => r (Or.inl z))), fun _ _ => rfl⟩, fun y hy => ?_⟩
        · unfold rSl
          dsimp only
          rw [hzi]
          refine ⟨?_, ?_⟩
          · show upd (upd _ (2410 * (56 + i)) 0) (2410 * (56 + i) + 1) vv (2410 * (56 + i)) = 0
            unfold upd
            rw [if_neg (by omega), if_pos rfl]
          · show upd (upd _ (2410 * (56 + i)) 0) (2410 * (56 + i) + 1) vv (2410 * (56 + i) + 1) = vv
            unfold upd
            rw [if_pos rfl]
        · show upd (upd _ (2410 * (56 + i)) 0) (2410 * (56 + i) + 1) vv y = _
          unfold upd
          rw [if_neg (by omega), if_neg (by omega)]
      · subst h1 h3
        have hzn : intT 4 z = none := by rw [hz, hvi]; exact h2
        obtain ⟨s', a1, a2, a3⟩ := r_lay (N := N) (R := Rf f) (b0 := 2410 * (56 + i)) (by omega) (fun y hy => by have := hy.1; have := hy.2; omega) (by omega) (bulk_wf x.1 x.2 (hw x rfl).1) h4
        refine ⟨s', a1, ?_, a3⟩
        unfold rSl
        dsimp only
        rw [hzn]
        exact Lay.congr (fun y hy => hy) (fun _ _ => rfl) 4 (hl _ _ _ a2)
theorem ml56 (hi : i < 8) : Int32.ofNat 2410 * (Int32.ofNat 56 + Int32.ofNat i) = Int32.ofNat (2410 * (56 + i)) := by rw [i32add, i32mul]
/-- all shelves are laid aside -/
theorem r_endL4 (hN : 170000 ≤ N) (hf : f ≤ 160000) (hw : ∀ j, j < 8 → ∀ x, sh j = some x → wfN x ∧ x.1 ≤ 4) (hy : ∀ j, j < 8 → lfR (sh j) (S' j)) : ∀ (d i Q : Nat) (s : mS), i + d = 8 → (∀ j, j < 8 → rvo (s.2.2.1 47) f (s.2.2.1 71 j) (s.2.2.1 72 j) (sh j)) → (∀ j, j < i → rSl (s.2.2.1 47) (56 + j) (S' j)) → ∃ s2, mf_68_L4 N (Q + (d + 1)) 0 (Int32.ofNat i) s = mf_68_403 N s2 ∧ (∀ j, j < 8 → rSl (s2.2.2.1 47) (56 + j) (S' j)) ∧ mfr (fun _ => False) (fun _ => False) (fun q => q = 47 ∨ q = 58 ∨ q = 59) (fun _ => False) s s2 ∧ ∀ y, y < 134960 → s2.2.2.1 47 y = s.2.2.1 47 y := by
  intro d
  induction d with
  | zero =>
    intro i Q s hi h1 h2
    have hi : i = 8 := hi
    subst hi
    exact ⟨s, rfl, h2, ⟨fun _ _ => rfl, fun _ _ => rfl, fun _ _ => rfl, fun _ _ => rfl⟩, fun _ _ => rfl⟩
  | succ d ih =>
    intro i Q s hi h1 h2
    have hi8 : i < 8 := by omega
    obtain ⟨s1, a1, a2, a3, a4⟩ := r_lay1 (N := N) hN (h1 i hi8) hf hi8 (hw i hi8) (hy i hi8)
    have e71 : s1.2.2.1 71 = s.2.2.1 71 := a3.2.2.1 71 (by decide)
    have e72 : s1.2.2.1 72 = s.2.2.1 72 := a3.2.2.1 72 (by decide)
    obtain ⟨s2, b1, b2, b3, b4⟩ := ih (i + 1) Q s1 (by omega) (fun j hj => by
      rw [e71, e72]
      exact (h1 j hj).cg (fun y z => a4 y (by have := z.1; have := z.2; omega))) (fun j hj => by
      by_cases c : j = i
      · rw [c]; exact a2
      · exact rSl.congr (fun y z => a4 y (by have := z.1; have := z.2; omega)) (h2 j (by omega)))
    refine ⟨s2, ?_, b2, mfr.tr a3 b3, fun y z => (b4 y z).trans (a4 y (by omega))⟩
    rw [← b1]
    show mf_68_363 N (mf_68_L4 N (Q + (d + 1))) (Int32.ofNat i) s = _
    have n8 : ¬ 8 ≤ i := by omega
    have ml := ml56 hi8
    unfold mf_68_363 mf_68_370 mf_68_397
    simp (disch := omega) only [ev_S, ev_P, ↓reduceIte, Nat.reduceEqDiff, Nat.reduceLeDiff, Nat.reduceAdd, Nat.reduceMul, Nat.reduceSub, reduceCtorEq, l32_0, l32_1, l32_2, l32_3, l32_4, l32_5, l32_6, l32_7, l32_8, l32_9, l32_10, l32_11, l32_12, l32_13, l32_14, l32_15, l32_16, l32_17, l32_18, l32_19, l32_20, l32_21, l32_22, l32_23, l32_24, l32_25, l32_26, l32_27, l32_28, l32_29, l32_33, l32_40, l32_41, l32_44, l32_45, l32_59, l32_61, l32_91, l32_93, l32_123, l32_125, n8, l32_2410, l32_56, ml, a1]
/-- and from there to where they are -/
theorem r_endL2 (hN : 170000 ≤ N) (hw : ∀ j, j < 8 → ∀ z, S' j = some z → wfT 4 z) : ∀ (d i Q : Nat) (s : mS), i + d = 8 → (∀ j, j < 8 → rSl (s.2.2.1 47) (56 + j) (S' j)) → (∀ j, j < i → rSl (s.2.2.1 47) j (S' j)) → ∃ s2, mf_68_L2 N (Q + (d + 1)) 0 (Int32.ofNat i) s = some (s2, some (.int 0)) ∧ (∀ j, j < 8 → rSl (s2.2.2.1 47) j (S' j)) ∧ mfr (fun _ => False) (fun _ => False) (fun q => q = 47 ∨ q = 58 ∨ q = 59) (fun _ => False) s s2 ∧ ∀ y, 19280 ≤ y → s2.2.2.1 47 y = s.2.2.1 47 y := by
  intro d
  induction d with
  | zero =>
    intro i Q s hi h1 h2
    have hi : i = 8 := hi
    subst hi
    exact ⟨s, rfl, h2, ⟨fun _ _ => rfl, fun _ _ => rfl, fun _ _ => rfl, fun _ _ => rfl⟩, fun _ _ => rfl⟩
  | succ d ih =>
    intro i Q s hi h1 h2
    have hi8 : i < 8 := by omega
    obtain ⟨s1, a1, a2, a3, a4⟩ := r_copy (N := N) (k := 56 + i) (k' := i) (by omega) (by omega) (by omega) (by omega) (hw i hi8) (h1 i hi8)
    obtain ⟨s2, b1, b2, b3, b4⟩ := ih (i + 1) Q s1 (by omega) (fun j hj => rSl.congr (fun y z => a4 y (by have := z.1; have := z.2; omega)) (h1 j hj)) (fun j hj => by
      by_cases c : j = i
      · rw [c]; exact a2
      · exact rSl.congr (fun y z => a4 y (by have := z.1; have := z.2; omega)) (h2 j (by omega)))
    refine ⟨s2, ?_, b2, mfr.tr a3 b3, fun y z => (b4 y z).trans (a4 y (by omega))⟩
    rw [← b1]
    show mf_68_406 N (mf_68_L2 N (Q + (d + 1))) (Int32.ofNat i) s = _
    have n8 : ¬ 8 ≤ i := by omega
    have ml := ml56 hi8
    have ml2 : Int32.ofNat 2410 * Int32.ofNat i = Int32.ofNat (2410 * i) := i32mul
    unfold mf_68_406 mf_68_413 mf_68_432
    simp (disch := omega) only [ev_S, ev_P, ↓reduceIte, Nat.reduceEqDiff, Nat.reduceLeDiff, Nat.reduceAdd, Nat.reduceMul, Nat.reduceSub, reduceCtorEq, l32_0, l32_1, l32_2, l32_3, l32_4, l32_5, l32_6, l32_7, l32_8, l32_9, l32_10, l32_11, l32_12, l32_13, l32_14, l32_15, l32_16, l32_17, l32_18, l32_19, l32_20, l32_21, l32_22, l32_23, l32_24, l32_25, l32_26, l32_27, l32_28, l32_29, l32_33, l32_40, l32_41, l32_44, l32_45, l32_59, l32_61, l32_91, l32_93, l32_123, l32_125, n8, l32_2410, l32_56, ml, ml2, a1]
theorem r_end (hN : 170000 ≤ N) (hf : f ≤ 160000) (hw : ∀ j, j < 8 → ∀ x, sh j = some x → wfN x ∧ x.1 ≤ 4) (hy : ∀ j, j < 8 → lfR (sh j) (S' j)) (hz : ∀ j, j < 8 → ∀ z, S' j = some z → wfT 4 z) (hv : ∀ j, j < 8 → rvo (s.2.2.1 47) f (s.2.2.1 71 j) (s.2.2.1 72 j) (sh j)) : ∃ s2, mf_68_360 N s = some (s2, some (.int 0)) ∧ (∀ j, j < 8 → rSl (s2.2.2.1 47) j (S' j)) ∧ mfr (fun _ => False) (fun _ => False) (fun q => q = 47 ∨ q = 58 ∨ q = 59) (fun _ => False) s s2 ∧ ∀ y, 19280 ≤ y → y < 134960 → s2.2.2.1 47 y = s.2.2.1 47 y := by
  obtain ⟨s1, a1, a2, a3, a4⟩ := r_endL4 (N := N) hN hf hw hy 8 0 (N - 9) s (Nat.zero_add _) hv (fun j hj => absurd hj (Nat.not_lt_zero _))
  obtain ⟨s2, b1, b2, b3, b4⟩ := r_endL2 (N := N) hN hz 8 0 (N - 9) s1 (Nat.zero_add _) a2 (fun j hj => absurd hj (Nat.not_lt_zero _))
  rw [show N - 9 + (8 + 1) = N by omega] at a1 b1
  refine ⟨s2, ?_, b2, mfr.tr a3 b3, fun y z1 z2 => (b4 y z1).trans (a4 y z2)⟩
  show mf_68_L4 N N 0 (Int32.ofNat 0) s = _
  rw [a1]
  exact b1
/-- the value given, too -/
theorem r_fin (hN : 170000 ≤ N) (hf : f ≤ 160000) (h66 : s.1 66 = Int32.ofNat 0) {x : Nod} {sh' : Nat → Option Nod} (hx2 : x2 = -1 ∨ ∃ j, j < 8 ∧ x2 = Int32.ofNat j) (hsh : ∀ j, j < 8 → sh' j = if x2 = Int32.ofNat j then some x else sh j) (hw : ∀ j, j < 8 → ∀ x, sh' j = some x → wfN x ∧ x.1 ≤ 4) (hy : ∀ j, j < 8 → lfR (sh' j) (S' j)) (hz : ∀ j, j < 8 → ∀ z, S' j = some z → wfT 4 z) (hv : ∀ j, j < 8 → rvo (s.2.2.1 47) f (s.2.2.1 71 j) (s.2.2.1 72 j) (sh j)) (hx : rvl (s.2.2.1 47) f (s.2.2.1 49 0) (s.2.2.1 50 0) x) : ∃ s2, mf_68_320 N x2 s = some (s2, some (.int 0)) ∧ (∀ j, j < 8 → rSl (s2.2.2.1 47) j (S' j)) ∧ mfr (fun _ => False) (fun _ => False) (fun q => q = 47 ∨ q = 58 ∨ q = 59 ∨ q = 71 ∨ q = 72) (fun _ => False) s s2 ∧ ∀ y, 19280 ≤ y → y < 134960 → s2.2.2.1 47 y = s.2.2.1 47 y := by
  have mo : ∀ {s1 s2 : mS}, mfr (fun _ => False) (fun _ => False) (fun q => q = 47 ∨ q = 58 ∨ q = 59) (fun _ => False) s1 s2 → mfr (fun _ => False) (fun _ => False) (fun q => q = 47 ∨ q = 58 ∨ q = 59 ∨ q = 71 ∨ q = 72) (fun _ => False) s1 s2 := fun m => ⟨m.1, m.2.1, fun q r => m.2.2.1 q (by omega), m.2.2.2⟩
  rcases hx2 with e | ⟨xj, hxj, e⟩
  · subst e
    have hsh' : ∀ j, j < 8 → sh' j = sh j := fun j hj => by
      rw [hsh j hj, if_neg (by
        intro q
        have : (Int32.ofNat j = -Int32.ofNat 1) = False := ev_n5 (by omega)
        rw [← this]
        exact q.symm)]
    obtain ⟨s2, a1, a2, a3, a4⟩ := r_end (N := N) (s := s) (sh := sh') (S' := S') hN hf hw hy hz (fun j hj => by rw [hsh' j hj]; exact hv j hj)
    refine ⟨s2, ?_, a2, mo a3, a4⟩
    have n1 : (-Int32.ofNat 1 < Int32.ofNat 0) = True := eq_true (by decide)
    show mf_68_320 N (-Int32.ofNat 1) s = _
    unfold mf_68_320 mf_68_332
    simp (disch := omega) only [ev_S, ev_P, ↓reduceIte, Nat.reduceEqDiff, Nat.reduceLeDiff, Nat.reduceAdd, Nat.reduceMul, Nat.reduceSub, reduceCtorEq, l32_0, l32_1, l32_2, l32_3, l32_4, l32_5, l32_6, l32_7, l32_8, l32_9, l32_10, l32_11, l32_12, l32_13, l32_14, l32_15, l32_16, l32_17, l32_18, l32_19, l32_20, l32_21, l32_22, l32_23, l32_24, l32_25, l32_26, l32_27, l32_28, l32_29, l32_33, l32_40, l32_41, l32_44, l32_45, l32_59, l32_61, l32_91, l32_93, l32_123, l32_125, h66, n1, a1]
  · subst e
    obtain ⟨s1, hs1⟩ : ∃ s1, s1 = mA (mA s 71 (upd (s.2.2.1 71) xj (s.2.2.1 49 0))) 72 (upd (s.2.2.1 72) xj (s.2.2.1 50 0)) := ⟨_, rfl⟩
    obtain ⟨s2, a1, a2, a3, a4⟩ := r_end (N := N) (s := s1) (sh := sh') (S' := S') hN hf hw hy hz (fun j hj => by
      rw [hs1]
      show rvo (s.2.2.1 47) f (if j = xj then _ else s.2.2.1 71 j) (if j = xj then _ else s.2.2.1 72 j) _
      rw [hsh j hj]
      by_cases c : j = xj
      · rw [if_pos c, if_pos c, if_pos (by rw [c])]
        exact hx
      · rw [if_neg c, if_neg c, if_neg (fun q => c ((ofNat_inj (by omega) (by omega) q).symm))]
        exact hv j hj)
    have e47 : s1.2.2.1 47 = s.2.2.1 47 := by rw [hs1]; rfl
    refine ⟨s2, ?_, a2, ⟨fun q r => ?_, fun q r => ?_, fun q r => ?_, fun q r => ?_⟩, fun y z1 z2 => by rw [a4 y z1 z2, e47]⟩
    · have n0 : ¬ ((0 : Int32) < 0 ∨ 9000 ≤ Int32.toNatClampNeg (0 : Int32)) := by decide
      have c0 : Int32.toNatClampNeg (0 : Int32) = 0 := by decide
      have n1 : ¬ (Int32.ofNat xj < 0 ∨ 8 ≤ Int32.toNatClampNeg (Int32.ofNat xj)) := gd rfl hxj (by decide)
      have c1 : Int32.toNatClampNeg (Int32.ofNat xj) = xj := i32c (by omega)
      have n2 : ¬ Int32.ofNat xj < 0 := i32n (by omega)
      have n3 : s.1 66 ≤ 0 := by rw [h66]; decide
      unfold mf_68_320
      rw [if_pos n3]
      unfold mf_68_332
      rw [if_neg n2]
      unfold mf_68_336
      rw [if_pos n0, if_pos n1, if_pos n0, if_pos n1, c0, c1, ← hs1]
      exact a1
    · rw [a3.1 q r, hs1]; rfl
    · rw [a3.2.1 q r, hs1]; rfl
    · rw [a3.2.2.1 q (by omega), hs1]
      show (if q = 72 then _ else if q = 71 then _ else s.2.2.1 q) = _
      rw [if_neg (by omega), if_neg (by omega)]
    · rw [a3.2.2.2 q r, hs1]; rfl
end ENR2
