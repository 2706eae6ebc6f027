/-! ===== PURE: run (2): the reference's values ===== -/
abbrev Rf (f : Nat) : Nat → Prop := fun y => y < f ∧ (y < 19280 ∨ 154240 ≤ y)
/-- a value, as the reference has it on its stack, in a variable, on a shelf: all of it below f -/
def rvl (h : Nat → Int32) (f : Nat) (k v : Int32) (x : Nod) : Prop := (k = Int32.ofNat 0 ∧ intV (vw x) = some v) ∨ (k = Int32.ofNat 1 ∧ intV (vw x) = none ∧ ∃ a : Nat, v = Int32.ofNat a ∧ LayN h (Rf f) a x)
abbrev pus (s : mS) (n : Nat) (k v : Int32) : mS := mI (mA (mA s 49 (upd (s.2.2.1 49) n k)) 50 (upd (s.2.2.1 50) n v)) 51 (Int32.ofNat (n + 1))
section RVL
variable {N : Nat} {s s' : mS} {f f' a i n : Nat} {k v : Int32} {x : Nod} {h h' : Nat → Int32}
theorem rvl.up (H : rvl h f k v x) (hf : f ≤ f') (hh : ∀ y, y < f → h' y = h y) : rvl h' f' k v x := by
  rcases H with H | ⟨h1, h2, a, h3, h4⟩
  · exact Or.inl H
  · exact Or.inr ⟨h1, h2, a, h3, LayN.congr (fun y z => ⟨Nat.lt_of_lt_of_le z.1 hf, z.2⟩) (fun y z => hh y z.1) h4⟩
theorem LayN.lt (H : LayN h (Rf f) a x) : a + wV wn (vw x) ≤ f ∧ 2 ≤ wV wn (vw x) := by
  obtain ⟨L1, L2⟩ := LayN_iff.mp H
  obtain ⟨-, -, h2⟩ := L2.kd
  have := L1 (a + wV wn (vw x) - 1) (by omega) (by omega)
  have this : a + wV wn (vw x) - 1 < f := this.1
  exact ⟨by omega, h2⟩
theorem r_psh (h51 : s.1 51 = Int32.ofNat n) (hn : n < 9000) : mf_291 N k v s = some (pus s n k v, none) := by
  unfold mf_291 mf_291_0
  simp (disch := omega) only [ev_S, ev_P, ↓reduceIte, Nat.reduceEqDiff, Nat.reduceLeDiff, Nat.reduceAdd, Nat.reduceMul, Nat.reduceSub, reduceCtorEq, l32_0, l32_1, l32_2, l32_3, l32_4, l32_5, l32_6, l32_7, l32_8, l32_9, l32_10, l32_11, l32_12, l32_13, l32_14, l32_15, l32_16, l32_17, l32_18, l32_19, l32_20, l32_21, l32_22, l32_23, l32_24, l32_25, l32_26, l32_27, l32_28, l32_29, l32_33, l32_40, l32_41, l32_44, l32_45, l32_59, l32_61, l32_91, l32_93, l32_123, l32_125, h51]
/-- a part of a THING is laid on the stack -/
theorem r_elemV {w : Vw} (H : Wy (s.2.2.1 47) a (LayN (s.2.2.1 47) (Rf f)) w) (ha : a + wV wn w ≤ 166300) (hi : i < (ptsV w).length) (h51 : s.1 51 = Int32.ofNat n) (hn : n < 9000) : ∃ k v, mf_295 N (Int32.ofNat a) (Int32.ofNat i) s = some (pus s n k v, none) ∧ rvl (s.2.2.1 47) f k v (ptsV w)[i] := by
  obtain z | r | q | ⟨m, l⟩ := w
  · exact H.elim
  · obtain ⟨h1, h2, h3⟩ := H
    have hi : i < (r.map nZ).length := hi
    have hi' : i < r.length := by rw [List.length_map] at hi; exact hi
    have ha : a + (2 + r.length) ≤ 166300 := ha
    have g1 : (s.2.2.1 47) a = Int32.ofNat 1 := h1
    have g3 := h3 i hi'
    have p1 := r_psh (N := N) (k := Int32.ofNat 0) (v := r[i]) h51 hn
    refine ⟨Int32.ofNat 0, r[i], ?_, Or.inl ⟨rfl, ?_⟩⟩
    · unfold mf_295 mf_295_0 mf_295_10 mf_295_25 mf_295_78
      simp (disch := omega) only [ev_S, ev_P, ↓reduceIte, Nat.reduceEqDiff, Nat.reduceLeDiff, Nat.reduceAdd, Nat.reduceMul, Nat.reduceSub, reduceCtorEq, l32_0, l32_1, l32_2, l32_3, l32_4, l32_5, l32_6, l32_7, l32_8, l32_9, l32_10, l32_11, l32_12, l32_13, l32_14, l32_15, l32_16, l32_17, l32_18, l32_19, l32_20, l32_21, l32_22, l32_23, l32_24, l32_25, l32_26, l32_27, l32_28, l32_29, l32_33, l32_40, l32_41, l32_44, l32_45, l32_59, l32_61, l32_91, l32_93, l32_123, l32_125, g1, g3, p1]
    · show intV (vw ((r.map nZ)[i])) = _
      rw [List.getElem_map]
      rfl
  · have H' := H
    obtain ⟨h1, h2, h3⟩ := H'
    have hi : i < (q.map nR).length := hi
    have hi' : i < q.length := by rw [List.length_map] at hi; exact hi
    obtain ⟨c, c1, c2⟩ := r_partT (N := N) H ha hi'
    have ha : a + (2 + q.length) ≤ 166300 := ha
    have g1 : (s.2.2.1 47) a = Int32.ofNat 2 := h1
    have p1 := r_psh (N := N) (k := Int32.ofNat 1) (v := Int32.ofNat c) h51 hn
    refine ⟨Int32.ofNat 1, Int32.ofNat c, ?_, Or.inr ⟨rfl, ?_, c, rfl, ?_⟩⟩
    · unfold mf_295 mf_295_0 mf_295_28 mf_295_67 mf_295_75 mf_295_78
      simp (disch := omega) only [ev_S, ev_P, ↓reduceIte, Nat.reduceEqDiff, Nat.reduceLeDiff, Nat.reduceAdd, Nat.reduceMul, Nat.reduceSub, reduceCtorEq, l32_0, l32_1, l32_2, l32_3, l32_4, l32_5, l32_6, l32_7, l32_8, l32_9, l32_10, l32_11, l32_12, l32_13, l32_14, l32_15, l32_16, l32_17, l32_18, l32_19, l32_20, l32_21, l32_22, l32_23, l32_24, l32_25, l32_26, l32_27, l32_28, l32_29, l32_33, l32_40, l32_41, l32_44, l32_45, l32_59, l32_61, l32_91, l32_93, l32_123, l32_125, g1, c1, p1]
    · show intV (vw ((q.map nR)[i])) = _
      rw [List.getElem_map]
      rfl
    · show LayN _ _ _ ((q.map nR)[i])
      rw [List.getElem_map]
      exact c2
  · have H' := H
    obtain ⟨h1, h2, h3⟩ := H'
    have hi : i < (l.map fun y => (⟨m, y⟩ : Nod)).length := hi
    have hi' : i < l.length := by rw [List.length_map] at hi; exact hi
    have b1 := r_isInt (N := N) H ha hi'
    have hw : a + (2 + 2 * l.length) ≤ 166300 := ha
    have g1 : (s.2.2.1 47) a = Int32.ofNat 3 := h1
    have ei : ∀ y : Th m, intV (vw ⟨m, y⟩) = intT m y := fun y => (vw_int ⟨m, y⟩).symm
    cases hz : intT m l[i] with
    | none =>
      obtain ⟨c, c1, c2⟩ := r_partP (N := N) H ha hi' hz
      rw [hz] at b1
      have b1 : mf_293 N (Int32.ofNat a) (Int32.ofNat i) s = some (s, some (.int (Int32.ofNat 0))) := b1
      have p1 := r_psh (N := N) (k := Int32.ofNat 1) (v := Int32.ofNat c) h51 hn
      refine ⟨Int32.ofNat 1, Int32.ofNat c, ?_, Or.inr ⟨rfl, ?_, c, rfl, ?_⟩⟩
      · unfold mf_295 mf_295_0 mf_295_28 mf_295_38 mf_295_44 mf_295_67 mf_295_75 mf_295_78
        simp (disch := omega) only [ev_S, ev_P, ↓reduceIte, Nat.reduceEqDiff, Nat.reduceLeDiff, Nat.reduceAdd, Nat.reduceMul, Nat.reduceSub, reduceCtorEq, l32_0, l32_1, l32_2, l32_3, l32_4, l32_5, l32_6, l32_7, l32_8, l32_9, l32_10, l32_11, l32_12, l32_13, l32_14, l32_15, l32_16, l32_17, l32_18, l32_19, l32_20, l32_21, l32_22, l32_23, l32_24, l32_25, l32_26, l32_27, l32_28, l32_29, l32_33, l32_40, l32_41, l32_44, l32_45, l32_59, l32_61, l32_91, l32_93, l32_123, l32_125, g1, b1, c1, p1]
      · show intV (vw ((l.map fun y => (⟨m, y⟩ : Nod))[i])) = _
        rw [List.getElem_map, ei]
        exact hz
      · show LayN _ _ _ ((l.map fun y => (⟨m, y⟩ : Nod))[i])
        rw [List.getElem_map]
        exact c2
    | some z =>
      rw [hz] at b1
      have b1 : mf_293 N (Int32.ofNat a) (Int32.ofNat i) s = some (s, some (.int (Int32.ofNat 1))) := b1
      have g3 := ((h3 i hi').1 z hz).2
      have p1 := r_psh (N := N) (k := Int32.ofNat 0) (v := z) h51 hn
      refine ⟨Int32.ofNat 0, z, ?_, Or.inl ⟨rfl, ?_⟩⟩
      · unfold mf_295 mf_295_0 mf_295_28 mf_295_38 mf_295_44 mf_295_47 mf_295_64 mf_295_78
        simp (disch := omega) only [ev_S, ev_P, ↓reduceIte, Nat.reduceEqDiff, Nat.reduceLeDiff, Nat.reduceAdd, Nat.reduceMul, Nat.reduceSub, reduceCtorEq, l32_0, l32_1, l32_2, l32_3, l32_4, l32_5, l32_6, l32_7, l32_8, l32_9, l32_10, l32_11, l32_12, l32_13, l32_14, l32_15, l32_16, l32_17, l32_18, l32_19, l32_20, l32_21, l32_22, l32_23, l32_24, l32_25, l32_26, l32_27, l32_28, l32_29, l32_33, l32_40, l32_41, l32_44, l32_45, l32_59, l32_61, l32_91, l32_93, l32_123, l32_125, g1, b1, g3, p1]
      · show intV (vw ((l.map fun y => (⟨m, y⟩ : Nod))[i])) = _
        rw [List.getElem_map, ei]
        exact hz
theorem r_elem (H : LayN (s.2.2.1 47) (Rf f) a x) (hf : f ≤ 166300) (hi : i < (pts x).length) (h51 : s.1 51 = Int32.ofNat n) (hn : n < 9000) : ∃ k v, mf_295 N (Int32.ofNat a) (Int32.ofNat i) s = some (pus s n k v, none) ∧ rvl (s.2.2.1 47) f k v (pts x)[i] := by
  obtain ⟨L1, L2⟩ := LayN_iff.mp H
  have := (LayN.lt H).1
  exact r_elemV L2 (by omega) hi h51 hn
end RVL
