/-! ===== PURE: run (157): a run ends (the class) ===== -/
/-- nothing but the shelves σ has changed -/
def shF (σ : Nat) (t t' : cS) : Prop := kfr (fun _ _ => False) (fun k => 2000000 + 20 * σ + 2 ≤ k ∧ k ≤ 2000000 + 20 * σ + 10) (fun k => 2000000 + 20 * σ + 2 ≤ k ∧ k ≤ 2000000 + 20 * σ + 10) t t' ∧ (kN t' + gS t σ ≤ kN t + gS t' σ ∧ kQ t' + 2 * gS t σ ≤ kQ t + 2 * gS t' σ ∧ gS t σ ≤ gS t' σ)
section ENC
variable {N : Nat} {X : Nat → Option zz_C} {t t1 t2 tb t' : cS} {s s' : mS} {S S1 S' : Nat → Option (Th 4)} {sh : Nat → Option Nod} {σ σ' σ0 k u w i j : Nat} {μ : Nat → Nat} {x1 : Int32} {ξ : List Int32} {v : Int64}
theorem shF.rf : shF σ t t := ⟨kfr.rf, Nat.le_refl _, Nat.le_refl _, Nat.le_refl _⟩
theorem shF.tr (h : shF σ t t1) (g : shF σ t1 t2) : shF σ t t2 := by
  obtain ⟨h0, h1, h2, h3⟩ := h
  obtain ⟨g0, g1, g2, g3⟩ := g
  exact ⟨h0.tr g0, by omega, by omega, by omega⟩
theorem sm_one {f g : Nat → Nat} {j : Nat} : ∀ {c : Nat}, j < c → (∀ i, i < c → i ≠ j → g i = f i) → sm g 0 c + f j = sm f 0 c + g j
  | 0, h, _ => by omega
  | c + 1, h, hh => by
    show sm g 0 c + g (0 + c) + f j = sm f 0 c + f (0 + c) + g j
    by_cases e : j = c
    · subst e
      have : sm g 0 j = sm f 0 j := sm_congr (fun i _ h2 => hh i (by omega) (by omega))
      rw [this, Nat.zero_add]
      omega
    · have ih := sm_one (f := f) (g := g) (j := j) (c := c) (by omega) (fun i h1 h2 => hh i (by omega) h2)
      have e2 := hh (0 + c) (by omega) (by omega)
      omega
theorem wfr.F (h : wfr σ j t t') (hj : j < 8) : shF σ t t' := by
  obtain ⟨⟨⟨k1, k2, k3, k4, k5, k6, k7, k8⟩, -, -⟩, r1, r2, r3⟩ := h
  have e : gS t' σ + rwK t σ j = gS t σ + rwK t' σ j := by
    unfold gS
    exact sm_one (f := fun j => (kA t (2000000 + 20 * σ + 1 + 1 + j)).1) (g := fun j => (kA t' (2000000 + 20 * σ + 1 + 1 + j)).1) hj (fun i h8 hi => by
      show (kA t' (2000000 + 20 * σ + 1 + 1 + i)).1 = (kA t (2000000 + 20 * σ + 1 + 1 + i)).1
      rw [k4 _ (by omega) (by omega)])
  refine ⟨⟨k1, k2, k3, fun k q r => k4 k (by omega) r, fun k q r => k5 k (by omega) r, k6, k7, k8⟩, by omega, by omega, by omega⟩
/-- other shelves stand -/
theorem shF.o0 (f : shF σ t t') (hn : σ' ≠ σ) (q : cS0 t σ') : cS0 t' σ' := by
  obtain ⟨⟨k1, k2, k3, k4, k5, k6, k7, k8⟩, -⟩ := f
  obtain ⟨g1, g2, g3⟩ := q
  exact ⟨by rw [k7]; exact g1, by rw [k4 _ (by omega) (by omega)]; exact g2, fun i hi => by rw [k4 _ (by omega) (by omega)]; exact g3 i hi⟩
theorem shF.o1 (f : shF σ t t') (hn : σ' ≠ σ) (hi : i < 8) (q : cS1 t σ' i ξ) : cS1 t' σ' i ξ := by
  obtain ⟨⟨k1, k2, k3, k4, k5, k6, k7, k8⟩, -⟩ := f
  unfold cS1 at q ⊢
  rw [k4 (2000000 + 20 * σ' + 10) (by omega) (by omega), k4 (2000000 + 20 * σ' + 1 + 1 + i) (by omega) (by omega)]
  exact q
/-- all shelves have changed, on both sides -/
theorem iS.all (h : iS S σ0 k μ t s) (g0 : cS0 t' σ0) (g1 : ∀ j, j < 8 → cS1 t' σ0 j (serO (S' j))) (g2 : shF σ0 t t') (r1 : s'.1 88 = s.1 88) (r2 : ∀ y, 19280 ≤ y → y < 134960 → s'.2.2.1 47 y = s.2.2.1 47 y) (r3 : ∀ j, j < 8 → rSl (s'.2.2.1 47) j (S' j)) (hw : ∀ j, j < 8 → ∀ z, S' j = some z → wfT 4 z) : iS (fun i => if i < 8 then S' i else S i) σ0 k μ t' s' := by
  obtain ⟨h1, h2, h3, h4, ⟨h5, h50⟩, h6, h7, h8, h9⟩ := h
  have g2' := g2
  obtain ⟨⟨k1, k2, k3, k4, k5, k6, k7, k8⟩, -⟩ := g2'
  refine ⟨h1, by rw [k3]; exact h2, by rw [k1 0 9 (fun q => q)]; exact h3, by rw [r1]; exact h4, ⟨g0, by omega⟩, fun j hj => ?_, fun j x e => ?_, fun m hm σ e => ?_, fun m hm => ?_⟩
  · show cS1 t' σ0 j (serO (if j < 8 then S' j else S j)) ∧ rSl _ j (if j < 8 then S' j else S j)
    rw [if_pos hj]
    exact ⟨g1 j hj, r3 j hj⟩
  · have e : (if j < 8 then S' j else S j) = some x := e
    by_cases c : j < 8
    · rw [if_pos c] at e
      exact hw j c x e
    · rw [if_neg c] at e
      exact h7 j x e
  · rw [k6] at e
    obtain ⟨⟨a1, a2⟩, a3, a4⟩ := h8 m hm σ e
    exact ⟨⟨g2.o0 a3 a1, by omega⟩, a3, fun m' σ' hm' e' => by rw [k6] at e'; exact a4 m' σ' hm' e'⟩
  · obtain ⟨a1, a2⟩ := h9 m hm
    have hne := (h8 m (by omega) _ a1).2.1
    refine ⟨by rw [k6]; exact a1, fun j hj => ?_⟩
    show cS1 t' (μ m) j (serO (if 8 + 8 * m + j < 8 then _ else S (8 + 8 * m + j))) ∧ rSl _ _ (if 8 + 8 * m + j < 8 then _ else S (8 + 8 * m + j))
    rw [if_neg (by omega)]
    refine ⟨g2.o1 hne hj (a2 j hj).1, rSl.congr (fun y z => r2 y ?_ ?_) (a2 j hj).2⟩
    · have := z.1
      omega
    · have := z.2
      omega
theorem shF.i1 (f : wfr σ j t t') (hj : j < 8) (hn : i ≠ j) (hi : i < 8) (q : cS1 t σ i ξ) : cS1 t' σ i ξ := fSh.i1 f.1 hj hn hi q
/-- what the heap and the machine have stands -/
theorem shF.kB50 (f : shF σ t t') {q : Nat} (hq : q < 2000000) (h1 : q ≠ 111) : kB t' q = kB t q ∧ kA t' q = kA t q := by
  obtain ⟨⟨k1, k2, k3, k4, k5, k6, k7, k8⟩, -⟩ := f
  exact ⟨k5 q (by omega) h1, k4 q (by omega) h1⟩
/-- shelves below i are written -/
def KL (σ0 : Nat) (S S1 : Nat → Option (Th 4)) (u w : Nat) (tb : cS) (i : Nat) (t : cS) : Prop := cHp t u w ∧ cS0 t σ0 ∧ (∀ j, j < 8 → cS1 t σ0 j (serO (if j < i then S1 j else S j))) ∧ shF σ0 tb t
theorem gS_le (h : cS0 t σ) : gS t σ ≤ 24000 := by
  have : ∀ c, c ≤ 8 → sm (fun j => (kA t (2000000 + 20 * σ + 1 + 1 + j)).1) 0 c ≤ 3000 * c := by
    intro c
    induction c with
    | zero => intro _; exact Nat.le_refl _
    | succ c ih =>
      intro hc
      have h1 := ih (by omega)
      have h2 := h.2.2 (0 + c) (by omega)
      show sm _ 0 c + (kA t (2000000 + 20 * σ + 1 + 1 + (0 + c))).1 ≤ _
      omega
  exact this 8 (Nat.le_refl _)
/-- one shelf is written -/
theorem KL.put (hN : 170000 ≤ N) (H : KL σ0 S S1 u w tb i t) (hi : i < 8) {o : Option Nod} (hv : cC (cel t) u v o) (hw : ∀ x, o = some x → wfN x ∧ x.1 ≤ 4) (hB : kN tb + 28000 < zz_out) : ∃ t', cf_216 N X σ0 (Int32.ofNat i) v t = some (t', .inl none) ∧ cHp t' u w ∧ cS0 t' σ0 ∧ cS1 t' σ0 i (serNo o) ∧ (∀ j, j < 8 → j ≠ i → cS1 t' σ0 j (serO (if j < i then S1 j else S j))) ∧ shF σ0 tb t' := by
  obtain ⟨H1, H2, H3, H4⟩ := H
  have hk : kN t + 3300 < zz_out := by
    have h1 := H4.2.1
    have h2 := gS_le H2
    omega
  cases o with
  | none =>
    have hv : v = bare := hv
    subst hv
    obtain ⟨t', a1, a2, a3, a4, a5⟩ := c_layB (N := N) (X := X) H2 hi H1 hk
    exact ⟨t', a1, a5, a2, a3, fun j hj hne => shF.i1 a4 hi hne hj (H3 j hj), H4.tr (a4.F hi)⟩
  | some x =>
    obtain ⟨w1, w2⟩ := hw x rfl
    obtain ⟨t', a1, a2, a3, a4, a5⟩ := c_layT (N := N) (X := X) hN H2 hi H1 hv w1 w2 hk
    exact ⟨t', a1, a5, a2, a3, fun j hj hne => shF.i1 a4 hi hne hj (H3 j hj), H4.tr (a4.F hi)⟩
theorem serO_sh : serNo (shO S j) = serO (S j) := by
  unfold shO
  cases S j with
  | none => rfl
  | some x => rfl
/-- what keep does for each shelf -/
theorem c_keepL (hN : 170000 ≤ N) (hP : kP tb 0 7 = some σ0) (l50 : (kB tb 50).1 = 8) (l51 : (kA tb 51).1 = 8) (hS1 : ∀ j, j < 8 → serO (S1 j) = serNo (sh j)) (hsh : ∀ j, j < 8 → cC (cel tb) u ((kB tb 50).2 j) (sh j) ∧ ((kA tb 51).2 j = 0 ∨ (kA tb 51).2 j = 1) ∧ ((kA tb 51).2 j = 0 → sh j = shO S j) ∧ ∀ x, sh j = some x → wfN x ∧ x.1 ≤ 4) (hB : kN tb + 28000 < zz_out) : ∀ (d i Q : Nat) (t : cS), i + d = 8 → KL σ0 S S1 u w tb i t → ∃ t', cf_250_L4 N X (Q + (d + 1)) 0 x1 (Int32.ofNat i) t = cf_250_45 N X x1 t' ∧ KL σ0 S S1 u w tb 8 t' := by
  intro d
  induction d with
  | zero =>
    intro i Q t hi H
    have hi : i = 8 := hi
    subst hi
    exact ⟨t, rfl, H⟩
  | succ d ih =>
    intro i Q t hi H
    have hi8 : i < 8 := by omega
    have H4 := H.2.2.2
    have e50 := (H4.kB50 (q := 50) (by omega) (by omega)).1
    have e51 := (H4.kB50 (q := 51) (by omega) (by omega)).2
    have e43 := (H4.kB50 (q := 43) (by omega) (by omega)).1
    obtain ⟨p1, p2, p3, p4⟩ := hsh i hi8
    have hP1 : kP t 0 7 = some σ0 := by rw [H4.1.2.2.1]; exact hP
    have kh : kH t σ0 = true := H.2.1.1
    have l50' : (kB t 50).1 = 8 := by rw [e50]; exact l50
    have l51' : (kA t 51).1 = 8 := by rw [e51]; exact l51
    have n8 : ¬ 8 ≤ i := by omega
    have hcl : Int32.toNatClampNeg (Int32.ofNat i) = i := i32c (by omega)
    have hg : ¬ (Int32.ofNat i < 0 ∨ 8 ≤ i) := fun q => q.elim (i32n (by omega)) (by omega)
    have e139 : cf_139 N X (Int32.ofNat i) t = some (t, .inl (some (.long ((kB tb 50).2 i)))) := by
      unfold cf_139 cf_139_0
      rw [l50', hcl, if_pos hg, e50]
    rcases p2 with c | c
    · have e138 : cf_138 N X (Int32.ofNat i) t = some (t, .inl (some (.int (Int32.ofNat 0)))) := by
        unfold cf_138 cf_138_0
        rw [l51', hcl, if_pos hg, e51, c]
        rfl
      have H' : KL σ0 S S1 u w tb (i + 1) t := by
        obtain ⟨q1, q2, q3, q4⟩ := H
        refine ⟨q1, q2, fun j hj => ?_, q4⟩
        have q := q3 j hj
        by_cases cj : j = i
        · subst cj
          rw [if_neg (by omega)] at q
          rw [if_pos (by omega), hS1 j hj, p3 c, serO_sh]
          exact q
        · by_cases c2 : j < i
          · rw [if_pos c2] at q
            rw [if_pos (by omega)]
            exact q
          · rw [if_neg c2] at q
            rw [if_neg (by omega)]
            exact q
      obtain ⟨t2, b1, b2⟩ := ih (i + 1) Q t (by omega) H'
      refine ⟨t2, ?_, b2⟩
      rw [← b1]
      show cf_250_2 N X (cf_250_L4 N X (Q + (d + 1))) x1 (Int32.ofNat i) t = _
      unfold cf_250_2 cf_250_8 cf_250_16 cf_250_39
      simp (disch := omega) only [ev_S, ev_C, ↓reduceIte, Nat.reduceEqDiff, Nat.reduceLeDiff, Nat.reduceAdd, Nat.reduceMul, Nat.reduceSub, reduceCtorEq, l32_0, l32_1, l32_2, l32_3, l32_4, l32_5, l32_6, l32_7, l32_8, l32_9, l32_10, l32_11, l32_12, l32_13, l32_14, l32_15, l32_16, l32_17, l32_18, l32_19, l32_20, l32_21, l32_22, l32_23, l32_24, l32_25, l32_26, l32_27, l32_28, l32_29, l32_33, l32_40, l32_41, l32_44, l32_45, l32_59, l32_61, l32_91, l32_93, l32_123, l32_125, n8, e138]
    · have e138 : cf_138 N X (Int32.ofNat i) t = some (t, .inl (some (.int (Int32.ofNat 1)))) := by
        unfold cf_138 cf_138_0
        rw [l51', hcl, if_pos hg, e51, c]
        rfl
      have hv : cC (cel t) u ((kB tb 50).2 i) (sh i) := by
        unfold cel
        rw [e43]
        exact p1
      obtain ⟨t1, a1, a2, a3, a4, a5, a6⟩ := H.put (N := N) (X := X) hN hi8 hv p4 hB
      have H' : KL σ0 S S1 u w tb (i + 1) t1 := by
        refine ⟨a2, a3, fun j hj => ?_, a6⟩
        by_cases cj : j = i
        · subst cj
          rw [if_pos (by omega), hS1 j hj]
          exact a4
        · have q := a5 j hj cj
          by_cases c2 : j < i
          · rw [if_pos c2] at q
            rw [if_pos (by omega)]
            exact q
          · rw [if_neg c2] at q
            rw [if_neg (by omega)]
            exact q
      obtain ⟨t2, b1, b2⟩ := ih (i + 1) Q t1 (by omega) H'
      refine ⟨t2, ?_, b2⟩
      rw [← b1]
      show cf_250_2 N X (cf_250_L4 N X (Q + (d + 1))) x1 (Int32.ofNat i) t = _
      unfold cf_250_2 cf_250_8 cf_250_16 cf_250_19 cf_250_36 cf_250_39
      simp (disch := omega) only [ev_S, ev_C, ↓reduceIte, Nat.reduceEqDiff, Nat.reduceLeDiff, Nat.reduceAdd, Nat.reduceMul, Nat.reduceSub, reduceCtorEq, l32_0, l32_1, l32_2, l32_3, l32_4, l32_5, l32_6, l32_7, l32_8, l32_9, l32_10, l32_11, l32_12, l32_13, l32_14, l32_15, l32_16, l32_17, l32_18, l32_19, l32_20, l32_21, l32_22, l32_23, l32_24, l32_25, l32_26, l32_27, l32_28, l32_29, l32_33, l32_40, l32_41, l32_44, l32_45, l32_59, l32_61, l32_91, l32_93, l32_123, l32_125, n8, e138, hP1, e139, kh, a1]
/-- keep -/
theorem c_keep {x : Nod} {sh' : Nat → Option Nod} (hN : 170000 ≤ N) (hI : iS S σ0 k μ tb s) (hh : cHp tb u w) (l50 : (kB tb 50).1 = 8) (l51 : (kA tb 51).1 = 8) (l52 : 1 ≤ (kB tb 52).1) (h8 : kI tb 49 8 = Int32.ofNat 1) (hx : cN (cel tb) u ((kB tb 52).2 0) x) (wx : wfN x ∧ x.1 ≤ 4) (hx1 : x1 = -1 ∨ ∃ j, j < 8 ∧ x1 = Int32.ofNat j) (hsh' : ∀ j, j < 8 → sh' j = if x1 = Int32.ofNat j then some x else sh j) (hS' : ∀ j, j < 8 → serO (S' j) = serNo (sh' j)) (hsh : ∀ j, j < 8 → cC (cel tb) u ((kB tb 50).2 j) (sh j) ∧ ((kA tb 51).2 j = 0 ∨ (kA tb 51).2 j = 1) ∧ ((kA tb 51).2 j = 0 → sh j = shO S j) ∧ ∀ x, sh j = some x → wfN x ∧ x.1 ≤ 4) (hB : kN tb + 28000 < zz_out) : ∃ t', cf_250 N X x1 tb = some (t', .inl none) ∧ (∃ u w, cHp t' u w) ∧ cS0 t' σ0 ∧ (∀ j, j < 8 → cS1 t' σ0 j (serO (S' j))) ∧ shF σ0 tb t' := by
  have key : ∃ S1 : Nat → Option (Th 4), ∀ j, j < 8 → serO (S1 j) = serNo (sh j) := by
    refine ⟨fun j => if h : j < 8 then Classical.choose (lfO (hsh j h).2.2.2) else none, fun j hj => ?_⟩
    show serO (if h : j < 8 then _ else _) = _
    rw [dif_pos hj]
    exact (Classical.choose_spec (lfO (hsh j hj).2.2.2)).2.1
  obtain ⟨S1, hS1⟩ := key
  have K0 : KL σ0 S S1 u w tb 0 tb := ⟨hh, hI.2.2.2.2.1.1, fun j hj => by rw [if_neg (Nat.not_lt_zero _)]; exact (hI.2.2.2.2.2.1 j hj).1, shF.rf⟩
  obtain ⟨t1, a1, K1⟩ := c_keepL (N := N) (X := X) (x1 := x1) hN hI.2.1 l50 l51 hS1 hsh hB 8 0 (N - 9) tb (Nat.zero_add _) K0
  rw [show N - 9 + (8 + 1) = N by omega] at a1
  have E : cf_250 N X x1 tb = cf_250_45 N X x1 t1 := a1
  rw [E]
  rcases hx1 with e | ⟨xj, hxj, e⟩
  · subst e
    refine ⟨t1, ?_, ⟨u, w, K1.1⟩, K1.2.1, fun j hj => ?_, K1.2.2.2⟩
    · unfold cf_250_45 cf_250_69
      rw [if_pos rfl]
    · have q := K1.2.2.1 j hj
      rw [if_pos hj] at q
      rw [hS' j hj, hsh' j hj, if_neg (by
        intro q
        have : (Int32.ofNat j = -Int32.ofNat 1) = False := ev_n5 (by omega)
        rw [← this]
        exact q.symm), ← hS1 j hj]
      exact q
  · subst e
    have H4 := K1.2.2.2
    have e52 := (H4.kB50 (q := 52) (by omega) (by omega)).1
    have e43 := (H4.kB50 (q := 43) (by omega) (by omega)).1
    have h8' : kI t1 49 8 = Int32.ofNat 1 := by rw [H4.1.1 49 8 (fun q => q)]; exact h8
    have e167 : cf_167 N X (Int32.ofNat 1) t1 = some (t1, .inl (some (.long ((kB tb 52).2 0)))) := by
      have l52' : ¬ (kB t1 52).1 ≤ 0 := by rw [e52]; omega
      have sb : Int32.ofNat 1 - Int32.ofNat 1 = Int32.ofNat 0 := rfl
      rw [← e52]
      unfold cf_167 cf_167_0 cf_167_4 cf_167_12 cf_167_31
      simp (disch := omega) only [ev_S, ev_C, ↓reduceIte, Nat.reduceEqDiff, Nat.reduceLeDiff, Nat.reduceAdd, Nat.reduceMul, Nat.reduceSub, reduceCtorEq, l32_0, l32_1, l32_2, l32_3, l32_4, l32_5, l32_6, l32_7, l32_8, l32_9, l32_10, l32_11, l32_12, l32_13, l32_14, l32_15, l32_16, l32_17, l32_18, l32_19, l32_20, l32_21, l32_22, l32_23, l32_24, l32_25, l32_26, l32_27, l32_28, l32_29, l32_33, l32_40, l32_41, l32_44, l32_45, l32_59, l32_61, l32_91, l32_93, l32_123, l32_125, h8', sb, l52']
    have hP1 : kP t1 0 7 = some σ0 := by rw [H4.1.2.2.1]; exact hI.2.1
    have kh : kH t1 σ0 = true := K1.2.1.1
    have hv : cC (cel t1) u ((kB tb 52).2 0) (some x) := by
      unfold cel
      rw [e43]
      exact hx
    have K1' : KL σ0 S1 S1 u w tb xj t1 := ⟨K1.1, K1.2.1, fun j hj => by
      have q := K1.2.2.1 j hj
      rw [if_pos hj] at q
      rw [ite_self]
      exact q, K1.2.2.2⟩
    obtain ⟨t2, b1, b2, b3, b4, b5, b6⟩ := K1'.put (N := N) (X := X) hN hxj hv (fun y q => by cases q; exact wx) hB
    refine ⟨t2, ?_, ⟨u, w, b2⟩, b3, fun j hj => ?_, b6⟩
    · have nn : ¬ (Int32.ofNat xj = -1) := by
        have : (Int32.ofNat xj = -Int32.ofNat 1) = False := ev_n5 (by omega)
        intro q
        rw [← this]
        exact q
      unfold cf_250_45
      rw [if_neg nn]
      unfold cf_250_50 cf_140 cf_140_0 cf_140_5 cf_250_66 cf_250_69
      simp (disch := omega) only [ev_S, ev_C, ↓reduceIte, Nat.reduceEqDiff, Nat.reduceLeDiff, Nat.reduceAdd, Nat.reduceMul, Nat.reduceSub, reduceCtorEq, l32_0, l32_1, l32_2, l32_3, l32_4, l32_5, l32_6, l32_7, l32_8, l32_9, l32_10, l32_11, l32_12, l32_13, l32_14, l32_15, l32_16, l32_17, l32_18, l32_19, l32_20, l32_21, l32_22, l32_23, l32_24, l32_25, l32_26, l32_27, l32_28, l32_29, l32_33, l32_40, l32_41, l32_44, l32_45, l32_59, l32_61, l32_91, l32_93, l32_123, l32_125, hP1, e167, kh, b1]
    · rw [hS' j hj, hsh' j hj]
      by_cases c : j = xj
      · subst c
        rw [if_pos rfl]
        exact b4
      · rw [if_neg (fun q => c ((ofNat_inj (by omega) (by omega) q).symm))]
        have q := b5 j hj c
        rw [ite_self] at q
        rw [← hS1 j hj]
        exact q
end ENC
