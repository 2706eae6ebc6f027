/-! ===== PURE: run (17): literals ===== -/
def knV : Vw → Nat
  | .inl _ => 0
  | .inr (.inl _) => 1
  | .inr (.inr (.inl _)) => 2
  | .inr (.inr (.inr _)) => 3
abbrev kn (x : Nod) : Nat := knV (vw x)
theorem kd_kn {x : Nod} : kdN x = Int32.ofNat (kn x) := by
  show kdV (vw x) = Int32.ofNat (knV (vw x))
  generalize vw x = V
  obtain z | r | q | l := V <;> rfl
theorem kn_le {x : Nod} : kn x ≤ 3 := by
  show knV (vw x) ≤ 3
  generalize vw x = V
  obtain z | r | q | l := V
  · exact (by omega : 0 ≤ 3)
  · exact (by omega : 1 ≤ 3)
  · exact (by omega : 2 ≤ 3)
  · exact (by omega : 3 ≤ 3)
theorem kd_iff {x : Nod} {k : Nat} (hk : k ≤ 3) : kdN x = Int32.ofNat k ↔ kn x = k := by
  rw [kd_kn]
  exact ⟨fun h => ofNat_inj (Nat.lt_of_le_of_lt kn_le (by omega)) (by omega) h, fun h => by rw [h]⟩
def aK (k : Nat) (xs : List Nod) : Bool := xs.all (fun x => kn x == k)
abbrev bI (b : Bool) : Int32 := if b = true then Int32.ofNat 1 else Int32.ofNat 0
theorem aK_s {k : Nat} {xs : List Nod} {i : Nat} (hi : i < xs.length) : aK k (xs.take (i + 1)) = (aK k (xs.take i) && (kn xs[i] == k)) := by
  unfold aK
  rw [List.take_succ_eq_append_getElem hi, List.all_append, List.all_cons, List.all_nil, Bool.and_true]
theorem aK_i {k : Nat} {xs : List Nod} : aK k xs = true ↔ ∀ x ∈ xs, kn x = k := by
  unfold aK
  rw [List.all_eq_true]
  exact ⟨fun h x hx => beq_iff_eq.mp (h x hx), fun h x hx => beq_iff_eq.mpr (h x hx)⟩
def ansL (xs : List Nod) : Ans := if aK 0 xs = true then ansM 1 xs else if aK 1 xs = true then ansM 2 xs else .inl 3
section LIT
variable {N k : Nat} {X : Nat → Option zz_C} {t t' : cS} {u u' w i : Nat} {v : Int64} {x : Nod} {xs : List Nod} {s s' : mS} {n f f' m : Nat}
theorem rvl.kz {h : Nat → Int32} {k v : Int32} (H : rvl h f k v x) : (k = Int32.ofNat 0 ∧ kn x = 0) ∨ (k = Int32.ofNat 1 ∧ ¬ kn x = 0 ∧ ∃ a : Nat, v = Int32.ofNat a ∧ LayN h (Rf f) a x) := by
  rcases H with ⟨h1, h2⟩ | ⟨h1, h2, h3⟩
  · refine Or.inl ⟨h1, ?_⟩
    show knV (vw x) = 0
    revert h2
    cases vw x with
    | inl z => intro _; rfl
    | inr w => intro h2; cases h2
  · refine Or.inr ⟨h1, ?_, h3⟩
    show ¬ knV (vw x) = 0
    revert h2
    generalize vw x = V
    obtain z | r | q | l := V
    · intro h2; cases h2
    · intro _; exact (by omega : ¬ 1 = 0)
    · intro _; exact (by omega : ¬ 2 = 0)
    · intro _; exact (by omega : ¬ 3 = 0)
theorem r_lit (hN : 170000 ≤ N) (H : rA s n f m xs) (hl : xs.length ≤ 3000) : ∃ s', mf_324 N (Int32.ofNat n) s = some (s', none) ∧ rE s s' n f m (ansL xs) := by
  have H' := H
  obtain ⟨⟨h51, hv⟩, H2, H3, H4, H5, H6, H7, H8, H9, H10⟩ := H'
  have key : mf_324 N (Int32.ofNat n) s = mf_324_62 N (Int32.ofNat n) (bI (aK 0 xs)) (bI (aK 1 xs)) s := by
    have L := lp (fun f i (a : Int32 × Int32) => mf_324_L8 N f 0 (Int32.ofNat n) a.1 a.2 (Int32.ofNat (n + i)) s) xs.length (fun i a => a.1 = bI (aK 0 (xs.take i)) ∧ a.2 = bI (aK 1 (xs.take i))) (fun r => r = mf_324_62 N (Int32.ofNat n) (bI (aK 0 xs)) (bI (aK 1 xs)) s) (by
      intro f1 i a hi hP _
      left
      obtain ⟨a1, a2⟩ := a
      obtain ⟨e1, e2⟩ := hP
      have e1 : a1 = _ := e1
      have e2 : a2 = _ := e2
      subst e1
      subst e2
      have hx := hv i hi
      have hka := r_kindAt (N := N) hx (by omega) (by omega)
      rw [kd_kn] at hka
      have n1 : ¬ n + xs.length ≤ n + i := by omega
      have kl := kn_le (x := xs[i])
      refine ⟨(_, _), ⟨rfl, rfl⟩, ?_⟩
      show mf_324_7 N (mf_324_L8 N f1) (Int32.ofNat n) (bI (aK 0 (xs.take i))) (bI (aK 1 (xs.take i))) (Int32.ofNat (n + i)) s = mf_324_L8 N f1 0 (Int32.ofNat n) (bI (aK 0 (xs.take (i + 1)))) (bI (aK 1 (xs.take (i + 1)))) (Int32.ofNat (n + (i + 1))) s
      rw [aK_s hi, aK_s hi]
      have hkz := rvl.kz hx
      generalize kn xs[i] = kk at *
      generalize aK 0 (xs.take i) = A
      generalize aK 1 (xs.take i) = B
      have e0 : (kk == 0) = decide (kk = 0) := rfl
      have e1 : (kk == 1) = decide (kk = 1) := rfl
      rw [e0, e1]
      rcases hkz with ⟨k1, k2⟩ | ⟨k1, k2, -⟩
      · rw [decide_eq_true k2, decide_eq_false (show ¬ kk = 1 by omega)]
        cases A <;> cases B <;> simp only [bI, Bool.true_and, Bool.false_and, Bool.and_false, Bool.and_true, if_true, reduceCtorEq, if_false] <;> (repeat ((first | unfold mf_324 | unfold mf_324_0 | unfold mf_324_7 | unfold mf_324_16 | unfold mf_324_20 | unfold mf_324_30 | unfold mf_324_34 | unfold mf_324_35 | unfold mf_324_40 | unfold mf_324_46 | unfold mf_324_50 | unfold mf_324_54 | unfold mf_324_55 | unfold mf_324_62 | unfold mf_324_66 | unfold mf_324_72 | unfold mf_324_75 | unfold mf_324_79 | unfold mf_324_85 | unfold mf_324_88 | unfold mf_324_97); try simp (disch := omega) only [ev_S, ev_P, ↓reduceIte, Nat.reduceEqDiff, Nat.reduceLeDiff, Nat.reduceAdd, Nat.reduceMul, Nat.reduceSub, reduceCtorEq, l32_0, l32_1, l32_2, l32_3, l32_4, l32_49, l32_51, l32_9000, h51, n1, k1, hka, k2])) <;> (try rfl)
      · rw [decide_eq_false k2]
        by_cases k3 : kk = 1
        · rw [decide_eq_true k3]
          cases A <;> cases B <;> simp only [bI, Bool.true_and, Bool.false_and, Bool.and_false, Bool.and_true, if_true, reduceCtorEq, if_false] <;> (repeat ((first | unfold mf_324 | unfold mf_324_0 | unfold mf_324_7 | unfold mf_324_16 | unfold mf_324_20 | unfold mf_324_30 | unfold mf_324_34 | unfold mf_324_35 | unfold mf_324_40 | unfold mf_324_46 | unfold mf_324_50 | unfold mf_324_54 | unfold mf_324_55 | unfold mf_324_62 | unfold mf_324_66 | unfold mf_324_72 | unfold mf_324_75 | unfold mf_324_79 | unfold mf_324_85 | unfold mf_324_88 | unfold mf_324_97); try simp (disch := omega) only [ev_S, ev_P, ↓reduceIte, Nat.reduceEqDiff, Nat.reduceLeDiff, Nat.reduceAdd, Nat.reduceMul, Nat.reduceSub, reduceCtorEq, l32_0, l32_1, l32_2, l32_3, l32_4, l32_49, l32_51, l32_9000, h51, n1, k1, hka, k3])) <;> (try rfl)
        · rw [decide_eq_false k3]
          cases A <;> cases B <;> simp only [bI, Bool.true_and, Bool.false_and, Bool.and_false, Bool.and_true, if_true, reduceCtorEq, if_false] <;> (repeat ((first | unfold mf_324 | unfold mf_324_0 | unfold mf_324_7 | unfold mf_324_16 | unfold mf_324_20 | unfold mf_324_30 | unfold mf_324_34 | unfold mf_324_35 | unfold mf_324_40 | unfold mf_324_46 | unfold mf_324_50 | unfold mf_324_54 | unfold mf_324_55 | unfold mf_324_62 | unfold mf_324_66 | unfold mf_324_72 | unfold mf_324_75 | unfold mf_324_79 | unfold mf_324_85 | unfold mf_324_88 | unfold mf_324_97); try simp (disch := omega) only [ev_S, ev_P, ↓reduceIte, Nat.reduceEqDiff, Nat.reduceLeDiff, Nat.reduceAdd, Nat.reduceMul, Nat.reduceSub, reduceCtorEq, l32_0, l32_1, l32_2, l32_3, l32_4, l32_49, l32_51, l32_9000, h51, n1, k1, hka, k3])) <;> (try rfl)) (by
      intro f1 a hP
      obtain ⟨a1, a2⟩ := a
      obtain ⟨e1, e2⟩ := hP
      rw [List.take_length] at e1 e2
      have e1 : a1 = _ := e1
      have e2 : a2 = _ := e2
      subst e1
      subst e2
      show mf_324_7 N (mf_324_L8 N f1) (Int32.ofNat n) _ _ (Int32.ofNat (n + xs.length)) s = _
      unfold mf_324_7
      simp (disch := omega) only [ev_S, ev_P, ↓reduceIte, Nat.reduceEqDiff, Nat.reduceLeDiff, Nat.reduceAdd, Nat.reduceMul, Nat.reduceSub, reduceCtorEq, l32_0, l32_1, l32_2, l32_3, l32_4, l32_5, l32_6, l32_7, l32_8, l32_9, l32_10, l32_11, l32_12, l32_13, l32_14, l32_15, l32_16, l32_17, l32_18, l32_19, l32_20, l32_21, l32_22, l32_23, l32_24, l32_25, l32_26, l32_27, l32_28, l32_29, l32_33, l32_40, l32_41, l32_44, l32_45, l32_59, l32_61, l32_91, l32_93, l32_123, l32_125, h51]) xs.length 0 N (1, 1) (Nat.zero_add _) (by omega) ⟨rfl, rfl⟩
    exact L
  rw [key]
  unfold ansL bI
  by_cases A : aK 0 xs = true
  · rw [if_pos A, if_pos A]
    obtain ⟨s1, b1, b2⟩ := rA.builds (N := N) (k := 1) hN H H.g (Or.inl ⟨rfl, fun x hx => (kd_iff (k := 0) (by omega)).mpr (aK_i.mp A x hx)⟩) H9 H10 (by omega) (by omega) hl H7
    refine ⟨s1, ?_, b2⟩
    repeat ((first | unfold mf_324 | unfold mf_324_0 | unfold mf_324_7 | unfold mf_324_16 | unfold mf_324_20 | unfold mf_324_30 | unfold mf_324_34 | unfold mf_324_35 | unfold mf_324_40 | unfold mf_324_46 | unfold mf_324_50 | unfold mf_324_54 | unfold mf_324_55 | unfold mf_324_62 | unfold mf_324_66 | unfold mf_324_72 | unfold mf_324_75 | unfold mf_324_79 | unfold mf_324_85 | unfold mf_324_88 | unfold mf_324_97); try simp (disch := omega) only [ev_S, ev_P, ↓reduceIte, Nat.reduceEqDiff, Nat.reduceLeDiff, Nat.reduceAdd, Nat.reduceMul, Nat.reduceSub, reduceCtorEq, l32_0, l32_1, l32_2, l32_3, l32_4, l32_49, l32_51, l32_9000, b1])
  · rw [if_neg A, if_neg A]
    by_cases B : aK 1 xs = true
    · rw [if_pos B, if_pos B]
      obtain ⟨s1, b1, b2⟩ := rA.builds (N := N) (k := 2) hN H H.g (Or.inr (Or.inl ⟨rfl, fun x hx => (kd_iff (k := 1) (by omega)).mpr (aK_i.mp B x hx)⟩)) H9 H10 (by omega) (by omega) hl H7
      refine ⟨s1, ?_, b2⟩
      repeat ((first | unfold mf_324 | unfold mf_324_0 | unfold mf_324_7 | unfold mf_324_16 | unfold mf_324_20 | unfold mf_324_30 | unfold mf_324_34 | unfold mf_324_35 | unfold mf_324_40 | unfold mf_324_46 | unfold mf_324_50 | unfold mf_324_54 | unfold mf_324_55 | unfold mf_324_62 | unfold mf_324_66 | unfold mf_324_72 | unfold mf_324_75 | unfold mf_324_79 | unfold mf_324_85 | unfold mf_324_88 | unfold mf_324_97); try simp (disch := omega) only [ev_S, ev_P, ↓reduceIte, Nat.reduceEqDiff, Nat.reduceLeDiff, Nat.reduceAdd, Nat.reduceMul, Nat.reduceSub, reduceCtorEq, l32_0, l32_1, l32_2, l32_3, l32_4, l32_49, l32_51, l32_9000, b1])
    · rw [if_neg B, if_neg B]
      obtain ⟨b1, b2⟩ := rG.trb (N := N) H H.g (by omega) 3
      refine ⟨_, ?_, b2⟩
      repeat ((first | unfold mf_324 | unfold mf_324_0 | unfold mf_324_7 | unfold mf_324_16 | unfold mf_324_20 | unfold mf_324_30 | unfold mf_324_34 | unfold mf_324_35 | unfold mf_324_40 | unfold mf_324_46 | unfold mf_324_50 | unfold mf_324_54 | unfold mf_324_55 | unfold mf_324_62 | unfold mf_324_66 | unfold mf_324_72 | unfold mf_324_75 | unfold mf_324_79 | unfold mf_324_85 | unfold mf_324_88 | unfold mf_324_97); try simp (disch := omega) only [ev_S, ev_P, ↓reduceIte, Nat.reduceEqDiff, Nat.reduceLeDiff, Nat.reduceAdd, Nat.reduceMul, Nat.reduceSub, reduceCtorEq, l32_0, l32_1, l32_2, l32_3, l32_4, l32_49, l32_51, l32_9000, b1])
end LIT
