/-! ===== PURE: run (14): builds ===== -/
/-- what an operation answers: a trouble's kind, or a value -/
abbrev Ans : Type := Nat ⊕ Nod
/-- the end of an operation in the reference: n its first place on the stack, f where free was, m what was made -/
def rE (s s' : mS) (n f m : Nat) (r : Ans) : Prop := ∃ f', f ≤ f' ∧ s'.1 48 = Int32.ofNat f' ∧ vfr n f s s' ∧ match r with
  | .inl k => f' ≤ f + 300 ∧ s'.1 62 = Int32.ofNat m ∧ s'.1 66 = Int32.ofNat k ∧ s'.1 67 = s.1 70
  | .inr x => f' ≤ f + ctV (vw x) ∧ s'.1 51 = Int32.ofNat (n + 1) ∧ rvl (s'.2.2.1 47) f' (s'.2.2.1 49 n) (s'.2.2.1 50 n) x ∧ s'.1 62 = Int32.ofNat (m + ctV (vw x)) ∧ (if m + ctV (vw x) ≤ 3000 then s'.1 66 = s.1 66 ∧ s'.1 67 = s.1 67 else s'.1 66 = Int32.ofNat 11 ∧ s'.1 67 = s.1 70)
def ansM (k : Nat) (xs : List Nod) : Ans := match mk k xs with
  | some y => .inr y
  | none => .inl 2
/-- by how much free may have grown before a THING of kind k is built -/
def grw (k : Nat) (xs : List Nod) : Nat := if k = 2 then (xs.map fun x => 2 + szN x).sum else 0
section RBW
variable {N k : Nat} {s s' : mS} {f f' n m : Nat} {xs : List Nod}
def cvl (s : mS) (n a j : Nat) : Int32 := if s.2.2.1 49 (n + j) = Int32.ofNat 1 then s.2.2.1 50 (n + j) - Int32.ofNat a else s.2.2.1 50 (n + j)
abbrev wk (k : Nat) : Nat := if k = 3 then 2 else 1
theorem r_bw (hk : k = 1 ∨ k = 2 ∨ k = 3) {z : Nat} (hn : n + z < 9000) (hf : f + 2 + wk k * z ≤ 166300) : ∀ (d i q : Nat) (s : mS), i + d = z → s.1 48 = Int32.ofNat (f + 2 + wk k * i) → s.1 51 = Int32.ofNat (n + z) → ∃ s2, mf_305_L2 N (q + (d + 1)) 0 (Int32.ofNat k) (Int32.ofNat n) (Int32.ofNat f) (Int32.ofNat (n + i)) s = mf_305_335 N (Int32.ofNat n) (Int32.ofNat f) s2 ∧ s2.1 48 = Int32.ofNat (f + 2 + wk k * z) ∧ (∀ j, i ≤ j → j < z → s2.2.2.1 47 (f + 1 + wk k * (j + 1)) = cvl s n f j ∧ (k = 3 → s2.2.2.1 47 (f + 2 + 2 * j) = s.2.2.1 49 (n + j))) ∧ (∀ y, y < f + 2 + wk k * i → s2.2.2.1 47 y = s.2.2.1 47 y) ∧ mfr (fun q => q = 48) (fun _ => False) (fun q => q = 47) (fun _ => False) s s2 := by
  intro d
  induction d with
  | zero =>
    intro i q s hi h48 h51
    have hi : i = z := hi
    subst hi
    refine ⟨s, ?_, h48, fun j hj z => by omega, fun _ _ => rfl, mfr.rf⟩
    show mf_305_239 N (mf_305_L2 N q) (Int32.ofNat k) (Int32.ofNat n) (Int32.ofNat f) (Int32.ofNat (n + i)) s = _
    unfold mf_305_239
    simp (disch := omega) only [ev_S, ev_P, ↓reduceIte, Nat.reduceEqDiff, Nat.reduceLeDiff, Nat.reduceAdd, Nat.reduceMul, Nat.reduceSub, reduceCtorEq, l32_0, l32_1, l32_2, l32_3, l32_4, l32_5, l32_6, l32_7, l32_8, l32_9, l32_10, l32_11, l32_12, l32_13, l32_14, l32_15, l32_16, l32_17, l32_18, l32_19, l32_20, l32_21, l32_22, l32_23, l32_24, l32_25, l32_26, l32_27, l32_28, l32_29, l32_33, l32_40, l32_41, l32_44, l32_45, l32_59, l32_61, l32_91, l32_93, l32_123, l32_125, h51]
  | succ d ih =>
    intro i q s hi h48 h51
    have hi1 : i < z := by omega
    have n1 : ¬ n + z ≤ n + i := by omega
    have hwi : wk k * i + wk k ≤ wk k * z := by
      have := Nat.mul_le_mul_left (wk k) (show i + 1 ≤ z by omega)
      rw [Nat.mul_succ] at this
      exact this
    by_cases k3 : k = 3
    · subst k3
      have hw3 : wk 3 = 2 := rfl
      rw [hw3] at hwi h48 hf
      obtain ⟨s0, hs0⟩ : ∃ s0, s0 = mI (mA s 47 (upd (s.2.2.1 47) (f + 2 + 2 * i) (s.2.2.1 49 (n + i)))) 48 (Int32.ofNat (f + 2 + 2 * i + 1)) := ⟨_, rfl⟩
      obtain ⟨s1, hs1⟩ : ∃ s1, s1 = mI (mA s0 47 (upd (s0.2.2.1 47) (f + 2 + 2 * i + 1) (cvl s n f i))) 48 (Int32.ofNat (f + 2 + 2 * i + 1 + 1)) := ⟨_, rfl⟩
      have e47 : s1.2.2.1 47 = upd (upd (s.2.2.1 47) (f + 2 + 2 * i) (s.2.2.1 49 (n + i))) (f + 2 + 2 * i + 1) (cvl s n f i) := by rw [hs1, hs0]; rfl
      have e49 : s1.2.2.1 49 = s.2.2.1 49 := by rw [hs1, hs0]; rfl
      have e50 : s1.2.2.1 50 = s.2.2.1 50 := by rw [hs1, hs0]; rfl
      have ec : ∀ j, cvl s1 n f j = cvl s n f j := fun j => by unfold cvl; rw [e49, e50]
      have h480 : s0.1 48 = Int32.ofNat (f + 2 + 2 * i + 1) := by rw [hs0]; rfl
      have e490 : s0.2.2.1 49 = s.2.2.1 49 := by rw [hs0]; rfl
      have e500 : s0.2.2.1 50 = s.2.2.1 50 := by rw [hs0]; rfl
      obtain ⟨s2, a1, a2, a3, a4, a5⟩ := ih (i + 1) q s1 (by omega) (by rw [hs1]; show Int32.ofNat _ = Int32.ofNat _; congr 1) (by rw [hs1, hs0]; exact h51)
      rw [hw3] at a2 a3 a4
      rw [hw3]
      refine ⟨s2, ?_, a2, fun j hj z => ?_, fun y hy => ?_, ?_⟩
      · rw [← a1]
        show mf_305_239 N (mf_305_L2 N (q + (d + 1))) (Int32.ofNat 3) (Int32.ofNat n) (Int32.ofNat f) (Int32.ofNat (n + i)) s = _
        have st1 : mf_305_239 N (mf_305_L2 N (q + (d + 1))) (Int32.ofNat 3) (Int32.ofNat n) (Int32.ofNat f) (Int32.ofNat (n + i)) s = mf_305_279 N (mf_305_L2 N (q + (d + 1))) (Int32.ofNat 3) (Int32.ofNat n) (Int32.ofNat f) (Int32.ofNat (n + i)) s0 := by
          unfold mf_305_239 mf_305_248 mf_305_253
          simp (disch := omega) only [ev_S, ev_P, ↓reduceIte, Nat.reduceEqDiff, Nat.reduceLeDiff, Nat.reduceAdd, Nat.reduceMul, Nat.reduceSub, reduceCtorEq, l32_0, l32_1, l32_2, l32_3, l32_4, l32_5, l32_6, l32_7, l32_8, l32_9, l32_10, l32_11, l32_12, l32_13, l32_14, l32_15, l32_16, l32_17, l32_18, l32_19, l32_20, l32_21, l32_22, l32_23, l32_24, l32_25, l32_26, l32_27, l32_28, l32_29, l32_33, l32_40, l32_41, l32_44, l32_45, l32_59, l32_61, l32_91, l32_93, l32_123, l32_125, h51, h48, n1]
          rw [hs0]
        rw [st1, hs1]
        unfold mf_305_279
        rw [if_pos (gd (K := 9000) (m := n + i) rfl (by omega) (by omega)), ev_S.1 (by omega), e490]
        unfold cvl
        by_cases c : s.2.2.1 49 (n + i) = Int32.ofNat 1
        · rw [if_neg (fun z => z c), if_pos c]
          unfold mf_305_298 mf_305_318
          simp (disch := omega) only [ev_S, ev_P, ↓reduceIte, Nat.reduceEqDiff, Nat.reduceLeDiff, Nat.reduceAdd, Nat.reduceMul, Nat.reduceSub, reduceCtorEq, l32_0, l32_1, l32_2, l32_3, l32_4, l32_5, l32_6, l32_7, l32_8, l32_9, l32_10, l32_11, l32_12, l32_13, l32_14, l32_15, l32_16, l32_17, l32_18, l32_19, l32_20, l32_21, l32_22, l32_23, l32_24, l32_25, l32_26, l32_27, l32_28, l32_29, l32_33, l32_40, l32_41, l32_44, l32_45, l32_59, l32_61, l32_91, l32_93, l32_123, l32_125, h480, e500]
          rfl
        · rw [if_pos (show ¬ s.2.2.1 49 (n + i) = 1 from c), if_neg c]
          unfold mf_305_311 mf_305_318
          simp (disch := omega) only [ev_S, ev_P, ↓reduceIte, Nat.reduceEqDiff, Nat.reduceLeDiff, Nat.reduceAdd, Nat.reduceMul, Nat.reduceSub, reduceCtorEq, l32_0, l32_1, l32_2, l32_3, l32_4, l32_5, l32_6, l32_7, l32_8, l32_9, l32_10, l32_11, l32_12, l32_13, l32_14, l32_15, l32_16, l32_17, l32_18, l32_19, l32_20, l32_21, l32_22, l32_23, l32_24, l32_25, l32_26, l32_27, l32_28, l32_29, l32_33, l32_40, l32_41, l32_44, l32_45, l32_59, l32_61, l32_91, l32_93, l32_123, l32_125, h480, e500]
          rfl
      · by_cases y : i + 1 ≤ j
        · obtain ⟨b1, b2⟩ := a3 j y z
          rw [ec] at b1
          rw [e49] at b2
          exact ⟨b1, b2⟩
        · have y : j = i := by omega
          subst y
          rw [a4 _ (by omega), a4 _ (by omega), e47]
          refine ⟨?_, fun _ => ?_⟩
          · show (if f + 1 + 2 * (j + 1) = f + 2 + 2 * j + 1 then _ else _) = _
            exact if_pos (by omega)
          · show (if f + 2 + 2 * j = f + 2 + 2 * j + 1 then _ else if f + 2 + 2 * j = f + 2 + 2 * j then _ else _) = _
            rw [if_neg (by omega), if_pos rfl]
      · rw [a4 y (by omega), e47]
        show (if y = f + 2 + 2 * i + 1 then _ else if y = f + 2 + 2 * i then _ else _) = _
        rw [if_neg (by omega), if_neg (by omega)]
      · refine mfr.tr ⟨fun q r => ?_, fun q r => ?_, fun q r => ?_, fun q r => ?_⟩ a5
        · rw [hs1, hs0]
          show (if q = 48 then _ else if q = 48 then _ else s.1 q) = _
          rw [if_neg r, if_neg r]
        · rw [hs1, hs0]
          rfl
        · rw [hs1, hs0]
          show (if q = 47 then _ else if q = 47 then _ else s.2.2.1 q) = _
          rw [if_neg r, if_neg r]
        · rw [hs1, hs0]
          rfl
    · have hw1 : wk k = 1 := if_neg k3
      have k3' : ¬ Int32.ofNat k = 3 := fun y => k3 (ofNat_inj (by omega) (by omega) y)
      rw [hw1] at hwi h48 hf
      obtain ⟨s1, hs1⟩ : ∃ s1, s1 = mI (mA s 47 (upd (s.2.2.1 47) (f + 2 + 1 * i) (cvl s n f i))) 48 (Int32.ofNat (f + 2 + 1 * i + 1)) := ⟨_, rfl⟩
      have e47 : s1.2.2.1 47 = upd (s.2.2.1 47) (f + 2 + 1 * i) (cvl s n f i) := by rw [hs1]; rfl
      have e49 : s1.2.2.1 49 = s.2.2.1 49 := by rw [hs1]; rfl
      have e50 : s1.2.2.1 50 = s.2.2.1 50 := by rw [hs1]; rfl
      have ec : ∀ j, cvl s1 n f j = cvl s n f j := fun j => by unfold cvl; rw [e49, e50]
      obtain ⟨s2, a1, a2, a3, a4, a5⟩ := ih (i + 1) q s1 (by omega) (by rw [hs1, hw1]; show Int32.ofNat _ = Int32.ofNat _; congr 1) (by rw [hs1]; exact h51)
      rw [hw1] at a2 a3 a4
      rw [hw1]
      refine ⟨s2, ?_, a2, fun j hj z => ?_, fun y hy => ?_, ?_⟩
      · rw [← a1]
        show mf_305_239 N (mf_305_L2 N (q + (d + 1))) (Int32.ofNat k) (Int32.ofNat n) (Int32.ofNat f) (Int32.ofNat (n + i)) s = _
        have st1 : mf_305_239 N (mf_305_L2 N (q + (d + 1))) (Int32.ofNat k) (Int32.ofNat n) (Int32.ofNat f) (Int32.ofNat (n + i)) s = mf_305_279 N (mf_305_L2 N (q + (d + 1))) (Int32.ofNat k) (Int32.ofNat n) (Int32.ofNat f) (Int32.ofNat (n + i)) s := by
          unfold mf_305_239 mf_305_248
          rw [if_pos k3']
          simp (disch := omega) only [ev_S, ev_P, ↓reduceIte, Nat.reduceEqDiff, Nat.reduceLeDiff, Nat.reduceAdd, Nat.reduceMul, Nat.reduceSub, reduceCtorEq, l32_0, l32_1, l32_2, l32_3, l32_4, l32_5, l32_6, l32_7, l32_8, l32_9, l32_10, l32_11, l32_12, l32_13, l32_14, l32_15, l32_16, l32_17, l32_18, l32_19, l32_20, l32_21, l32_22, l32_23, l32_24, l32_25, l32_26, l32_27, l32_28, l32_29, l32_33, l32_40, l32_41, l32_44, l32_45, l32_59, l32_61, l32_91, l32_93, l32_123, l32_125, h51, n1]
        rw [st1, hs1]
        unfold mf_305_279
        rw [if_pos (gd (K := 9000) (m := n + i) rfl (by omega) (by omega)), ev_S.1 (by omega)]
        unfold cvl
        by_cases c : s.2.2.1 49 (n + i) = Int32.ofNat 1
        · rw [if_neg (fun z => z c), if_pos c]
          unfold mf_305_298 mf_305_318
          simp (disch := omega) only [ev_S, ev_P, ↓reduceIte, Nat.reduceEqDiff, Nat.reduceLeDiff, Nat.reduceAdd, Nat.reduceMul, Nat.reduceSub, reduceCtorEq, l32_0, l32_1, l32_2, l32_3, l32_4, l32_5, l32_6, l32_7, l32_8, l32_9, l32_10, l32_11, l32_12, l32_13, l32_14, l32_15, l32_16, l32_17, l32_18, l32_19, l32_20, l32_21, l32_22, l32_23, l32_24, l32_25, l32_26, l32_27, l32_28, l32_29, l32_33, l32_40, l32_41, l32_44, l32_45, l32_59, l32_61, l32_91, l32_93, l32_123, l32_125, h48]
          rfl
        · rw [if_pos (show ¬ s.2.2.1 49 (n + i) = 1 from c), if_neg c]
          unfold mf_305_311 mf_305_318
          simp (disch := omega) only [ev_S, ev_P, ↓reduceIte, Nat.reduceEqDiff, Nat.reduceLeDiff, Nat.reduceAdd, Nat.reduceMul, Nat.reduceSub, reduceCtorEq, l32_0, l32_1, l32_2, l32_3, l32_4, l32_5, l32_6, l32_7, l32_8, l32_9, l32_10, l32_11, l32_12, l32_13, l32_14, l32_15, l32_16, l32_17, l32_18, l32_19, l32_20, l32_21, l32_22, l32_23, l32_24, l32_25, l32_26, l32_27, l32_28, l32_29, l32_33, l32_40, l32_41, l32_44, l32_45, l32_59, l32_61, l32_91, l32_93, l32_123, l32_125, h48]
          rfl
      · by_cases y : i + 1 ≤ j
        · obtain ⟨b1, b2⟩ := a3 j y z
          rw [ec] at b1
          exact ⟨b1, fun z => absurd z k3⟩
        · have y : j = i := by omega
          subst y
          rw [a4 _ (by omega), e47]
          refine ⟨?_, fun z => absurd z k3⟩
          show (if f + 1 + 1 * (j + 1) = f + 2 + 1 * j then _ else _) = _
          exact if_pos (by omega)
      · rw [a4 y (by omega), e47]
        exact if_neg (by omega)
      · refine mfr.tr ⟨fun q r => ?_, fun q r => ?_, fun q r => ?_, fun q r => ?_⟩ a5
        · rw [hs1]
          exact if_neg r
        · rw [hs1]
          rfl
        · rw [hs1]
          exact if_neg r
        · rw [hs1]
          rfl
end RBW
