/-! ===== PURE: run (74): a part in another's stead (the reference) ===== -/
section PTR
variable {N : Nat} {s : mS} {n f m k : Nat} {x y y2 z : Nod} {kx vx tg pl : Int32}
theorem lay_kn {h : Nat → Int32} {R : Nat → Prop} {a : Nat} (H : LayN h R a x) (h0 : ¬ kn x = 0) : h a = Int32.ofNat (kn x) := by
  have z := (LayN_iff.mp H).2
  have h0 : ¬ knV (vw x) = 0 := h0
  show h a = Int32.ofNat (knV (vw x))
  revert z h0
  generalize vw x = V
  intro z h0
  obtain q | r | q | l := V
  · exact absurd rfl h0
  · exact z.1
  · exact z.1
  · exact z.1
/-- how a put ends: with a trouble, or with a THING that is laid by -/
def rPt (N : Nat) (s : mS) (n f m : Nat) (tg : Int32) (r : Ans) (R : mO) : Prop := (∃ q s', r = .inl q ∧ R = some (s', none) ∧ rE s s' n f m (.inl q)) ∨ (∃ w s', r = .inr w ∧ rE s s' n f m (.inr w) ∧ R = if m + ctV (vw w) ≤ 3000 then mf_318_497 N tg (Int32.ofNat n) (mI s' 51 (Int32.ofNat n)) else some (mI s' 51 (Int32.ofNat n), none))
theorem rE.i51 {q : Nat} {s' : mS} {y : Int32} (h : rE s s' n f m (.inl q)) : rE s (mI s' 51 y) n f m (.inl q) := by
  obtain ⟨f', h1, h2, h3, h4⟩ := h
  refine ⟨f', h1, h2, h3.tr ⟨⟨fun q r => ?_, fun _ _ => rfl, fun _ _ => rfl, fun _ _ => rfl⟩, fun _ _ => ⟨rfl, rfl⟩, fun _ _ => rfl⟩ h1, h4⟩
  refine if_neg ?_
  unfold vfI at r
  omega
/-- behind the parts -/
theorem r_put9 {s2 : mS} {xs ys : List Nod} {f' kk : Nat} (hN : 170000 ≤ N) (H : rA s n f m xs) (G : rG s s2 n f f' ys) (hok : mkOk kk ys) (hw : ∀ x ∈ ys, wfN x) (hd : ∀ x ∈ ys, x.1 ≤ 4) (hg : f' ≤ f + grw kk ys) (h300 : f' ≤ f + 300) (hl : ys.length ≤ 3000) (hn : n + ys.length < 9000) : rPt N s n f m tg (ansM kk ys) (mf_318_476 N tg (Int32.ofNat n) (Int32.ofNat kk) s2) := by
  obtain ⟨s3, b1, b2⟩ := rA.builds (N := N) hN H G hok hw hd hg h300 hl hn
  have E : mf_318_476 N tg (Int32.ofNat n) (Int32.ofNat kk) s2 = mf_318_484 N tg (Int32.ofNat n) s3 := by
    unfold mf_318_476
    rw [b1]
    rfl
  rw [E]
  have h66 : s.1 66 = Int32.ofNat 0 := H.2.2.1
  cases hA : ansM kk ys with
  | inl q =>
    rw [hA] at b2
    have b2' := b2
    obtain ⟨f', h1, h2, h3, h4, h5, h6, h7⟩ := b2'
    have q2 : q = 2 := by
      unfold ansM at hA
      split at hA
      · cases hA
      · exact (Sum.inl.inj hA).symm
    refine Or.inl ⟨q, mI s3 51 (Int32.ofNat n), rfl, ?_, b2.i51⟩
    rw [q2] at h6
    unfold mf_318_484 mf_318_510
    simp (disch := omega) only [ev_S, ev_P, ↓reduceIte, Nat.reduceEqDiff, Nat.reduceLeDiff, Nat.reduceAdd, Nat.reduceMul, Nat.reduceSub, reduceCtorEq, l32_0, l32_1, l32_2, l32_3, l32_4, l32_5, l32_6, l32_7, l32_8, l32_9, l32_10, l32_11, l32_12, l32_13, l32_14, l32_15, l32_16, l32_17, l32_18, l32_19, l32_20, l32_21, l32_22, l32_23, l32_24, l32_25, l32_26, l32_27, l32_28, l32_29, l32_33, l32_40, l32_41, l32_44, l32_45, l32_59, l32_61, l32_91, l32_93, l32_123, l32_125, h6]
  | inr w =>
    rw [hA] at b2
    have b2' := b2
    obtain ⟨f', h1, h2, h3, h4, h5, h6, h7, h8⟩ := b2'
    refine Or.inr ⟨w, s3, rfl, b2, ?_⟩
    by_cases c : m + ctV (vw w) ≤ 3000
    · rw [if_pos c] at h8 ⊢
      have h8 := h8.1.trans h66
      unfold mf_318_484
      simp (disch := omega) only [ev_S, ev_P, ↓reduceIte, Nat.reduceEqDiff, Nat.reduceLeDiff, Nat.reduceAdd, Nat.reduceMul, Nat.reduceSub, reduceCtorEq, l32_0, l32_1, l32_2, l32_3, l32_4, l32_5, l32_6, l32_7, l32_8, l32_9, l32_10, l32_11, l32_12, l32_13, l32_14, l32_15, l32_16, l32_17, l32_18, l32_19, l32_20, l32_21, l32_22, l32_23, l32_24, l32_25, l32_26, l32_27, l32_28, l32_29, l32_33, l32_40, l32_41, l32_44, l32_45, l32_59, l32_61, l32_91, l32_93, l32_123, l32_125, h8]
    · rw [if_neg c] at h8 ⊢
      have h8 := h8.1
      unfold mf_318_484 mf_318_510
      simp (disch := omega) only [ev_S, ev_P, ↓reduceIte, Nat.reduceEqDiff, Nat.reduceLeDiff, Nat.reduceAdd, Nat.reduceMul, Nat.reduceSub, reduceCtorEq, l32_0, l32_1, l32_2, l32_3, l32_4, l32_5, l32_6, l32_7, l32_8, l32_9, l32_10, l32_11, l32_12, l32_13, l32_14, l32_15, l32_16, l32_17, l32_18, l32_19, l32_20, l32_21, l32_22, l32_23, l32_24, l32_25, l32_26, l32_27, l32_28, l32_29, l32_33, l32_40, l32_41, l32_44, l32_45, l32_59, l32_61, l32_91, l32_93, l32_123, l32_125, h8]
end PTR
