/-! ===== PURE: run (52): flat ===== -/
def ansFl (x : Nod) : Ans := if ((pts x).any fun p => decide (1 < kn p)) = true then .inl 3 else ansM 1 ((pts x).flatMap (jnN 1))
section FLT
variable {N : Nat} {X : Nat → Option zz_C} {s s' : mS} {t t' : cS} {n f f' m a i u u' w : Nat} {x y : Nod} {xs ys : List Nod} {vx v : Int64}
theorem kn3 (h : kn x = 3) : ∃ k l, vw x = vP k l := by
  have h : knV (vw x) = 3 := h
  revert h
  generalize vw x = V
  intro h
  obtain z | r | q | ⟨k, l⟩ := V
  · cases h
  · cases h
  · cases h
  · exact ⟨k, l, rfl⟩
/-- part i of a TABLE or PACK, as the reference finds it -/
theorem rG.part (G : rG s s' n f f' xs) (h : LayN (s.2.2.1 47) (Rf f) a x) (hf : f ≤ 166300) (h2 : 2 ≤ kn x) (hi : i < (pts x).length) : (kn x = 3 → mf_293 N (Int32.ofNat a) (Int32.ofNat i) s' = some (s', some (.int (if kn (pts x)[i] = 0 then Int32.ofNat 1 else Int32.ofNat 0)))) ∧ (kn x = 2 → kn (pts x)[i] = 1) ∧ (¬ kn (pts x)[i] = 0 → ∃ c, mf_294 N (Int32.ofNat a) (Int32.ofNat i) s' = some (s', some (.int (Int32.ofNat c))) ∧ LayN (s.2.2.1 47) (Rf f) c (pts x)[i]) := by
  have lx := kn_le (x := x)
  have back : ∀ {c : Nat} {y : Nod}, LayN (s'.2.2.1 47) (Rf f) c y → LayN (s.2.2.1 47) (Rf f) c y := fun h => LayN.congr (fun _ z => z) (fun y hy => (G.2.2.1.2.2 y hy.1).symm) h
  by_cases c2 : kn x = 2
  · have ht : i < (tvN x).length := by rw [← kn2_sz c2, ← pts_len]; exact hi
    obtain ⟨c, c1, c3⟩ := G.partT (N := N) h hf c2 ht
    have e : (pts x)[i] = nR (tvN x)[i] := by
      have e1 : pts x = (tvN x).map nR := by
        show ptsV (vw x) = _
        rw [kn2' c2]
        rfl
      have e2 : (pts x)[i]? = some (nR (tvN x)[i]) := by
        rw [e1, List.getElem?_map, List.getElem?_eq_getElem ht]
        rfl
      rw [List.getElem?_eq_getElem hi] at e2
      exact Option.some.inj e2
    rw [e]
    exact ⟨fun z => by omega, fun _ => rfl, fun _ => ⟨c, c1, c3⟩⟩
  · have c3 : kn x = 3 := by omega
    obtain ⟨k, l, e0⟩ := kn3 c3
    have L := LayN_iff.mp (G.lay h)
    have hlt := (LayN.lt h).1
    rw [e0] at L hlt
    have e1 : pts x = l.map fun y => (⟨k, y⟩ : Nod) := by
      show ptsV (vw x) = _
      rw [e0]
      rfl
    have hl : i < l.length := by rw [e1, List.length_map] at hi; exact hi
    have e : (pts x)[i] = ⟨k, l[i]⟩ := by
      have e2 : (pts x)[i]? = some ⟨k, l[i]⟩ := by
        rw [e1, List.getElem?_map, List.getElem?_eq_getElem hl]
        rfl
      rw [List.getElem?_eq_getElem hi] at e2
      exact Option.some.inj e2
    rw [e]
    have b1 := r_isInt (N := N) L.2 (Nat.le_trans hlt hf) hl
    have ei : intV (vw ⟨k, l[i]⟩) = intT k l[i] := (vw_int ⟨k, l[i]⟩).symm
    refine ⟨fun _ => ?_, fun z => by omega, fun h0 => ?_⟩
    · rw [b1]
      cases hz : intT k l[i] with
      | none =>
        rw [if_neg (show ¬ kn (⟨k, l[i]⟩ : Nod) = 0 from fun q => by rw [kn0 q, hz] at ei; cases ei)]
        rfl
      | some z =>
        have hk : kn (⟨k, l[i]⟩ : Nod) = 0 := by
          show knV (vw (⟨k, l[i]⟩ : Nod)) = 0
          rw [hz] at ei
          revert ei
          cases vw (⟨k, l[i]⟩ : Nod) with
          | inl z => intro _; rfl
          | inr w => intro q; cases q
        rw [if_pos hk]
        rfl
    · have hz : intT k l[i] = none := by
        rw [← ei]
        have h0 : ¬ knV (vw (⟨k, l[i]⟩ : Nod)) = 0 := h0
        revert h0
        cases vw (⟨k, l[i]⟩ : Nod) with
        | inl z => intro q; exact absurd rfl q
        | inr w => intro _; rfl
      obtain ⟨c, c1, c2'⟩ := r_partP (N := N) L.2 (Nat.le_trans hlt hf) hl hz
      exact ⟨c, c1, back c2'⟩
theorem jn1_len (h : ¬ 1 < kn y) : (jnN 1 y).length = if kn y = 0 then 1 else szN y := by
  unfold jnN
  by_cases c : kn y = 1
  · rw [if_pos c, if_neg (by omega), pts_len]
  · rw [if_neg c, if_pos (by omega)]
    rfl
theorem fl_take {g : Nod → List Nod} {l : List Nod} (hi : i < l.length) : (l.take (i + 1)).flatMap g = (l.take i).flatMap g ++ g l[i] := by
  rw [List.take_succ_eq_append_getElem hi, List.flatMap_append, List.flatMap_cons, List.flatMap_nil, List.append_nil]
theorem jn1_mem (h : ¬ 1 < kn y) {z : Nod} (hz : z ∈ jnN 1 y) : kdN z = 0 := by
  unfold jnN at hz
  by_cases c : kn y = 1
  · rw [if_pos c] at hz
    exact (pts_kd hz).1 c
  · rw [if_neg c] at hz
    rw [List.mem_singleton.mp hz]
    exact (kd_iff (k := 0) (by omega)).mpr (by omega)
theorem ansM1_no {xs : List Nod} (h : ¬ xs.length ≤ 64) : ansM 1 xs = .inl 2 := by
  unfold ansM
  rw [show mk 1 xs = none from if_neg h]
theorem fl_ok (h : ((pts x).any fun p => decide (1 < kn p)) = false) (wx : wfN x) (dx : x.1 ≤ 4) : (∀ z ∈ (pts x).flatMap (jnN 1), kdN z = 0) ∧ (∀ z ∈ (pts x).flatMap (jnN 1), wfN z) ∧ ∀ z ∈ (pts x).flatMap (jnN 1), z.1 ≤ 4 := by
  have hh : ∀ p ∈ pts x, ¬ 1 < kn p := fun p hp q => by
    rw [List.any_eq_true.mpr ⟨p, hp, decide_eq_true q⟩] at h
    cases h
  have key : ∀ z ∈ (pts x).flatMap (jnN 1), ∃ p ∈ pts x, z ∈ jnN 1 p := fun z hz => List.mem_flatMap.mp hz
  refine ⟨fun z hz => ?_, fun z hz => ?_, fun z hz => ?_⟩
  · obtain ⟨p, hp, h1⟩ := key z hz
    exact jn1_mem (hh p hp) h1
  · obtain ⟨p, hp, h1⟩ := key z hz
    exact (jnN_wf (wf_pts wx p hp) (Nat.le_trans (pts_lv p hp) dx) z h1).1
  · obtain ⟨p, hp, h1⟩ := key z hz
    exact (jnN_wf (wf_pts wx p hp) (Nat.le_trans (pts_lv p hp) dx) z h1).2
theorem r_flat (hN : 170000 ≤ N) (H : rA s n f m ys) (La : LayN (s.2.2.1 47) (Rf f) a x) (h2 : 2 ≤ kn x) (wx : wfN x) (dx : x.1 ≤ 4) : ∃ s', mf_335 N (Int32.ofNat 16) (Int32.ofNat a) (Int32.ofNat n) s = some (s', none) ∧ rE s s' n f m (ansFl x) := by
  have H' := H
  obtain ⟨-, H2, H3, H4, H5, H6, H7, H8, H9, H10⟩ := H'
  have G0 : rG s (mI s 51 (Int32.ofNat n)) n f f [] := rG.nil H2
  obtain ⟨s1, hs1⟩ : ∃ s1, s1 = mI s 51 (Int32.ofNat n) := ⟨_, rfl⟩
  rw [← hs1] at G0
  have T := fun k => rG.trb (N := N) H G0 (by omega) k
  have lx := kn_le (x := x)
  have kd : s.2.2.1 47 a = Int32.ofNat (kn x) := by rw [(LayN_iff.mp La).2.kd.1]; exact kd_kn
  have hla := (LayN.lt La)
  have hpl : (pts x).length = szN x := pts_len
  have s64 := wf64 wx
  have hwp : ∀ i (hi : i < (pts x).length), wfN (pts x)[i] := fun i hi => wf_pts wx _ (List.getElem_mem hi)
  have E1 : mf_335 N (Int32.ofNat 16) (Int32.ofNat a) (Int32.ofNat n) s = mf_335_L26 N N 0 (Int32.ofNat a) (Int32.ofNat n) (Int32.ofNat (kn x)) (Int32.ofNat 0) (Int32.ofNat 0) s1 := by
    rw [hs1]
    generalize kn x = kx at *
    unfold mf_335 mf_335_0 mf_335_22
    simp (disch := omega) only [ev_S, ev_P, ↓reduceIte, Nat.reduceEqDiff, Nat.reduceLeDiff, Nat.reduceAdd, Nat.reduceMul, Nat.reduceSub, reduceCtorEq, l32_0, l32_1, l32_2, l32_3, l32_4, l32_5, l32_6, l32_7, l32_8, l32_9, l32_10, l32_11, l32_12, l32_13, l32_14, l32_15, l32_16, l32_17, l32_18, l32_19, l32_20, l32_21, l32_22, l32_23, l32_24, l32_25, l32_26, l32_27, l32_28, l32_29, l32_33, l32_40, l32_41, l32_44, l32_45, l32_59, l32_61, l32_91, l32_93, l32_123, l32_125, kd]
  have hsb : ∀ i, i ≤ (pts x).length → (∀ p ∈ (pts x).take i, ¬ 1 < kn p) → ((pts x).take i).flatMap (jnN 1) = ((pts x).take i).flatMap (jnN 1) ∧ (((pts x).take i).flatMap (jnN 1)).length ≤ 64 * i := fun i => by
    induction i with
    | zero => intro _ _; exact ⟨rfl, Nat.le_refl _⟩
    | succ i ih =>
      intro hi hp
      have hi' : i < (pts x).length := by omega
      have h1 := (ih (by omega) (fun p hp' => hp p (by rw [List.take_succ_eq_append_getElem hi']; exact List.mem_append_left _ hp'))).2
      have h2 := jnN_len (k := 1) (hwp i hi')
      rw [fl_take hi', List.length_append]
      exact ⟨rfl, by omega⟩
  have E2 : mf_335_L26 N N 0 (Int32.ofNat a) (Int32.ofNat n) (Int32.ofNat (kn x)) (Int32.ofNat 0) (Int32.ofNat 0) s1 = if ((pts x).any fun p => decide (1 < kn p)) = true then mf_335_82 N s1 else mf_335_123 N (Int32.ofNat a) (Int32.ofNat n) (Int32.ofNat (kn x)) (Int32.ofNat ((pts x).flatMap (jnN 1)).length) s1 := by
    refine lp (fun F i (c : Nat) => mf_335_L26 N F 0 (Int32.ofNat a) (Int32.ofNat n) (Int32.ofNat (kn x)) (Int32.ofNat c) (Int32.ofNat i) s1) (pts x).length (fun i c => c = (((pts x).take i).flatMap (jnN 1)).length ∧ ∀ p ∈ (pts x).take i, ¬ 1 < kn p) (fun R => R = if ((pts x).any fun p => decide (1 < kn p)) = true then mf_335_82 N s1 else mf_335_123 N (Int32.ofNat a) (Int32.ofNat n) (Int32.ofNat (kn x)) (Int32.ofNat ((pts x).flatMap (jnN 1)).length) s1) ?_ ?_ (pts x).length 0 N 0 (Nat.zero_add _) (by omega) ⟨rfl, fun p hp => absurd hp List.not_mem_nil⟩
    · intro F i c hi hP _
      obtain ⟨P1, P2⟩ := hP
      have zz := G0.size (N := N) La (by omega)
      rw [← hpl] at zz
      have n1 : ¬ (pts x).length ≤ i := by omega
      obtain ⟨q1, q2, q3⟩ := G0.part (N := N) La (by omega) h2 hi
      have hwi := hwp i hi
      have hcb := (hsb i (by omega) P2).2
      rw [← P1] at hcb
      have lp' := kn_le (x := (pts x)[i])
      have hst : (¬ 1 < kn (pts x)[i]) → ∀ p ∈ (pts x).take (i + 1), ¬ 1 < kn p := fun hk p hp => by
        rw [List.take_succ_eq_append_getElem hi] at hp
        rcases List.mem_append.mp hp with hp | hp
        · exact P2 p hp
        · rw [List.mem_singleton.mp hp]
          exact hk
      show (∃ a' : Nat, _ ∧ mf_335_L26 N (F + 1) 0 _ _ _ _ _ s1 = _) ∨ mf_335_L26 N (F + 1) 0 _ _ _ _ _ s1 = _
      have E3 : mf_335_L26 N (F + 1) 0 (Int32.ofNat a) (Int32.ofNat n) (Int32.ofNat (kn x)) (Int32.ofNat c) (Int32.ofNat i) s1 = mf_335_38 N (mf_335_L26 N F) (Int32.ofNat a) (Int32.ofNat n) (Int32.ofNat (kn x)) (Int32.ofNat c) (Int32.ofNat i) s1 := by
        show mf_335_28 N (mf_335_L26 N F) (Int32.ofNat a) (Int32.ofNat n) (Int32.ofNat (kn x)) (Int32.ofNat c) (Int32.ofNat i) s1 = _
        unfold mf_335_28 mf_335_35
        simp (disch := omega) only [ev_S, ev_P, ↓reduceIte, Nat.reduceEqDiff, Nat.reduceLeDiff, Nat.reduceAdd, Nat.reduceMul, Nat.reduceSub, reduceCtorEq, l32_0, l32_1, l32_2, l32_3, l32_4, l32_5, l32_6, l32_7, l32_8, l32_9, l32_10, l32_11, l32_12, l32_13, l32_14, l32_15, l32_16, l32_17, l32_18, l32_19, l32_20, l32_21, l32_22, l32_23, l32_24, l32_25, l32_26, l32_27, l32_28, l32_29, l32_33, l32_40, l32_41, l32_44, l32_45, l32_59, l32_61, l32_91, l32_93, l32_123, l32_125, zz, n1]
      rw [E3]
      by_cases k0 : kn (pts x)[i] = 0
      · left
        have c3 : kn x = 3 := Classical.byContradiction (fun z => by have := q2 (by omega); omega)
        have q1 := q1 c3
        rw [if_pos k0] at q1
        refine ⟨c + 1, ⟨?_, hst (by omega)⟩, ?_⟩
        · rw [fl_take hi, List.length_append, jn1_len (by omega), if_pos k0, P1]
        · rw [c3]
          unfold mf_335_38 mf_335_44 mf_335_51 mf_335_54 mf_335_59 mf_335_92 mf_335_99 mf_335_114
          simp (disch := omega) only [ev_S, ev_P, ↓reduceIte, Nat.reduceEqDiff, Nat.reduceLeDiff, Nat.reduceAdd, Nat.reduceMul, Nat.reduceSub, reduceCtorEq, l32_0, l32_1, l32_2, l32_3, l32_4, l32_5, l32_6, l32_7, l32_8, l32_9, l32_10, l32_11, l32_12, l32_13, l32_14, l32_15, l32_16, l32_17, l32_18, l32_19, l32_20, l32_21, l32_22, l32_23, l32_24, l32_25, l32_26, l32_27, l32_28, l32_29, l32_33, l32_40, l32_41, l32_44, l32_45, l32_59, l32_61, l32_91, l32_93, l32_123, l32_125, q1]
      · obtain ⟨c', d1, d2⟩ := q3 k0
        have hlc := (LayN.lt d2)
        have kc : s1.2.2.1 47 c' = Int32.ofNat (kn (pts x)[i]) := by rw [(LayN_iff.mp (G0.lay d2)).2.kd.1]; exact kd_kn
        have zc := G0.size (N := N) d2 (by omega)
        have E4 : mf_335_38 N (mf_335_L26 N F) (Int32.ofNat a) (Int32.ofNat n) (Int32.ofNat (kn x)) (Int32.ofNat c) (Int32.ofNat i) s1 = mf_335_66 N (mf_335_L26 N F) (Int32.ofNat a) (Int32.ofNat n) (Int32.ofNat (kn x)) (Int32.ofNat c) (Int32.ofNat i) (Int32.ofNat 0) s1 := by
          by_cases c3 : kn x = 3
          · have q1 := q1 c3
            rw [if_neg k0] at q1
            rw [c3]
            unfold mf_335_38 mf_335_44 mf_335_51 mf_335_58 mf_335_59
            simp (disch := omega) only [ev_S, ev_P, ↓reduceIte, Nat.reduceEqDiff, Nat.reduceLeDiff, Nat.reduceAdd, Nat.reduceMul, Nat.reduceSub, reduceCtorEq, l32_0, l32_1, l32_2, l32_3, l32_4, l32_5, l32_6, l32_7, l32_8, l32_9, l32_10, l32_11, l32_12, l32_13, l32_14, l32_15, l32_16, l32_17, l32_18, l32_19, l32_20, l32_21, l32_22, l32_23, l32_24, l32_25, l32_26, l32_27, l32_28, l32_29, l32_33, l32_40, l32_41, l32_44, l32_45, l32_59, l32_61, l32_91, l32_93, l32_123, l32_125, q1]
          · generalize kn x = kx at *
            unfold mf_335_38 mf_335_58 mf_335_59
            simp (disch := omega) only [ev_S, ev_P, ↓reduceIte, Nat.reduceEqDiff, Nat.reduceLeDiff, Nat.reduceAdd, Nat.reduceMul, Nat.reduceSub, reduceCtorEq, l32_0, l32_1, l32_2, l32_3, l32_4, l32_5, l32_6, l32_7, l32_8, l32_9, l32_10, l32_11, l32_12, l32_13, l32_14, l32_15, l32_16, l32_17, l32_18, l32_19, l32_20, l32_21, l32_22, l32_23, l32_24, l32_25, l32_26, l32_27, l32_28, l32_29, l32_33, l32_40, l32_41, l32_44, l32_45, l32_59, l32_61, l32_91, l32_93, l32_123, l32_125, c3]
        rw [E4]
        by_cases k1 : 1 < kn (pts x)[i]
        · right
          rw [if_pos (any_mem hi (decide_eq_true k1))]
          have k1' : ¬ kn (pts x)[i] ≤ 1 := by omega
          generalize kn (pts x)[i] = kk at *
          unfold mf_335_66 mf_335_77
          simp (disch := omega) only [ev_S, ev_P, ↓reduceIte, Nat.reduceEqDiff, Nat.reduceLeDiff, Nat.reduceAdd, Nat.reduceMul, Nat.reduceSub, reduceCtorEq, l32_0, l32_1, l32_2, l32_3, l32_4, l32_5, l32_6, l32_7, l32_8, l32_9, l32_10, l32_11, l32_12, l32_13, l32_14, l32_15, l32_16, l32_17, l32_18, l32_19, l32_20, l32_21, l32_22, l32_23, l32_24, l32_25, l32_26, l32_27, l32_28, l32_29, l32_33, l32_40, l32_41, l32_44, l32_45, l32_59, l32_61, l32_91, l32_93, l32_123, l32_125, d1, kc, k1']
        · left
          refine ⟨c + szN (pts x)[i], ⟨?_, hst k1⟩, ?_⟩
          · rw [fl_take hi, List.length_append, jn1_len k1, if_neg k0, P1]
          · have k1' : kn (pts x)[i] ≤ 1 := by omega
            have sz6 := wf64 hwi
            generalize kn (pts x)[i] = kk at *
            generalize szN (pts x)[i] = zz' at *
            unfold mf_335_66 mf_335_77 mf_335_92 mf_335_103 mf_335_111 mf_335_114
            simp (disch := omega) only [ev_S, ev_P, ↓reduceIte, Nat.reduceEqDiff, Nat.reduceLeDiff, Nat.reduceAdd, Nat.reduceMul, Nat.reduceSub, reduceCtorEq, l32_0, l32_1, l32_2, l32_3, l32_4, l32_5, l32_6, l32_7, l32_8, l32_9, l32_10, l32_11, l32_12, l32_13, l32_14, l32_15, l32_16, l32_17, l32_18, l32_19, l32_20, l32_21, l32_22, l32_23, l32_24, l32_25, l32_26, l32_27, l32_28, l32_29, l32_33, l32_40, l32_41, l32_44, l32_45, l32_59, l32_61, l32_91, l32_93, l32_123, l32_125, d1, kc, k1', zc]
    · intro F c hP
      obtain ⟨P1, P2⟩ := hP
      rw [List.take_length] at P1 P2
      have hno : ¬ ((pts x).any fun p => decide (1 < kn p)) = true := fun z => by
        obtain ⟨p, hp, h1⟩ := List.any_eq_true.mp z
        exact P2 p hp (decide_eq_true_iff.mp h1)
      rw [if_neg hno, ← P1]
      have zz := G0.size (N := N) La (by omega)
      rw [← hpl] at zz
      show mf_335_28 N (mf_335_L26 N F) (Int32.ofNat a) (Int32.ofNat n) (Int32.ofNat (kn x)) (Int32.ofNat c) (Int32.ofNat (pts x).length) s1 = _
      unfold mf_335_28 mf_335_35
      simp (disch := omega) only [ev_S, ev_P, ↓reduceIte, Nat.reduceEqDiff, Nat.reduceLeDiff, Nat.reduceAdd, Nat.reduceMul, Nat.reduceSub, reduceCtorEq, l32_0, l32_1, l32_2, l32_3, l32_4, l32_5, l32_6, l32_7, l32_8, l32_9, l32_10, l32_11, l32_12, l32_13, l32_14, l32_15, l32_16, l32_17, l32_18, l32_19, l32_20, l32_21, l32_22, l32_23, l32_24, l32_25, l32_26, l32_27, l32_28, l32_29, l32_33, l32_40, l32_41, l32_44, l32_45, l32_59, l32_61, l32_91, l32_93, l32_123, l32_125, zz]
  rw [E1, E2]
  unfold ansFl
  cases hany : (pts x).any fun p => decide (1 < kn p) with
  | true =>
    rw [if_pos rfl, if_pos rfl]
    obtain ⟨b1, b2⟩ := T 3
    refine ⟨_, ?_, b2⟩
    unfold mf_335_82 mf_335_91
    simp (disch := omega) only [ev_S, ev_P, ↓reduceIte, Nat.reduceEqDiff, Nat.reduceLeDiff, Nat.reduceAdd, Nat.reduceMul, Nat.reduceSub, reduceCtorEq, l32_0, l32_1, l32_2, l32_3, l32_4, l32_5, l32_6, l32_7, l32_8, l32_9, l32_10, l32_11, l32_12, l32_13, l32_14, l32_15, l32_16, l32_17, l32_18, l32_19, l32_20, l32_21, l32_22, l32_23, l32_24, l32_25, l32_26, l32_27, l32_28, l32_29, l32_33, l32_40, l32_41, l32_44, l32_45, l32_59, l32_61, l32_91, l32_93, l32_123, l32_125, b1]
  | false =>
    rw [if_neg (by intro h; cases h), if_neg (by intro h; cases h)]
    have hh : ∀ p ∈ pts x, ¬ 1 < kn p := fun p hp q => by
      rw [List.any_eq_true.mpr ⟨p, hp, decide_eq_true q⟩] at hany
      cases hany
    have hlen := (hsb (pts x).length (Nat.le_refl _) (fun p hp => hh p (List.mem_of_mem_take hp))).2
    rw [List.take_length] at hlen
    have ok := fl_ok hany wx dx
    by_cases c : ((pts x).flatMap (jnN 1)).length ≤ 64
    · have E5 : mf_335_123 N (Int32.ofNat a) (Int32.ofNat n) (Int32.ofNat (kn x)) (Int32.ofNat ((pts x).flatMap (jnN 1)).length) s1 = mf_335_L19 N N 0 (Int32.ofNat a) (Int32.ofNat n) (Int32.ofNat (kn x)) (Int32.ofNat 0) (Int32.ofNat 0) s1 := by
        generalize ((pts x).flatMap (jnN 1)).length = ll at *
        unfold mf_335_123 mf_335_140
        simp (disch := omega) only [ev_S, ev_P, ↓reduceIte, Nat.reduceEqDiff, Nat.reduceLeDiff, Nat.reduceAdd, Nat.reduceMul, Nat.reduceSub, reduceCtorEq, l32_0, l32_1, l32_2, l32_3, l32_4, l32_5, l32_6, l32_7, l32_8, l32_9, l32_10, l32_11, l32_12, l32_13, l32_14, l32_15, l32_16, l32_17, l32_18, l32_19, l32_20, l32_21, l32_22, l32_23, l32_24, l32_25, l32_26, l32_27, l32_28, l32_29, l32_33, l32_40, l32_41, l32_44, l32_45, l32_59, l32_61, l32_91, l32_93, l32_123, l32_125, c, l32_64]
      rw [E5]
      have hpre : ∀ i, (((pts x).take i).flatMap (jnN 1)).length ≤ 64 := fun i => by
        have e : (pts x).flatMap (jnN 1) = ((pts x).take i).flatMap (jnN 1) ++ ((pts x).drop i).flatMap (jnN 1) := by
          rw [← List.flatMap_append, List.take_append_drop]
        rw [e, List.length_append] at c
        omega
      refine lpo (fun F i (s' : mS) => mf_335_L19 N F 0 (Int32.ofNat a) (Int32.ofNat n) (Int32.ofNat (kn x)) (Int32.ofNat i) (Int32.ofNat 0) s') (pts x).length 67 (fun i s' => rG s s' n f f (((pts x).take i).flatMap (jnN 1))) (fun R => ∃ s', R = some (s', none) ∧ rE s s' n f m (ansM 1 ((pts x).flatMap (jnN 1)))) ?_ ?_ (pts x).length 0 N s1 (Nat.zero_add _) (by omega) G0
      · intro F i s2 hi G
        left
        have zz := G.size (N := N) La (by omega)
        rw [← hpl] at zz
        have n1 : ¬ (pts x).length ≤ i := by omega
        obtain ⟨q1, q2, q3⟩ := G.part (N := N) La (by omega) h2 hi
        have hk := hh _ (List.getElem_mem hi)
        have hp0 := hpre i
        have E6 : mf_335_L19 N (F + 67) 0 (Int32.ofNat a) (Int32.ofNat n) (Int32.ofNat (kn x)) (Int32.ofNat i) (Int32.ofNat 0) s2 = mf_335_153 N (mf_335_L19 N (F + 66)) (Int32.ofNat a) (Int32.ofNat n) (Int32.ofNat (kn x)) (Int32.ofNat i) s2 := by
          show mf_335_143 N (mf_335_L19 N (F + 66)) (Int32.ofNat a) (Int32.ofNat n) (Int32.ofNat (kn x)) (Int32.ofNat i) s2 = _
          unfold mf_335_143 mf_335_150
          simp (disch := omega) only [ev_S, ev_P, ↓reduceIte, Nat.reduceEqDiff, Nat.reduceLeDiff, Nat.reduceAdd, Nat.reduceMul, Nat.reduceSub, reduceCtorEq, l32_0, l32_1, l32_2, l32_3, l32_4, l32_5, l32_6, l32_7, l32_8, l32_9, l32_10, l32_11, l32_12, l32_13, l32_14, l32_15, l32_16, l32_17, l32_18, l32_19, l32_20, l32_21, l32_22, l32_23, l32_24, l32_25, l32_26, l32_27, l32_28, l32_29, l32_33, l32_40, l32_41, l32_44, l32_45, l32_59, l32_61, l32_91, l32_93, l32_123, l32_125, zz, n1]
        rw [E6]
        by_cases k0 : kn (pts x)[i] = 0
        · have c3 : kn x = 3 := Classical.byContradiction (fun z => by have := q2 (by omega); omega)
          have q1 := q1 c3
          rw [if_pos k0] at q1
          obtain ⟨s3, d1, d2⟩ := rG.elem (N := N) (i := i) G (by omega) (by omega) La hi
          refine ⟨s3, F + 66, ?_, by omega, ?_⟩
          · rw [fl_take hi]
            have e : jnN 1 (pts x)[i] = [(pts x)[i]] := if_neg (by omega)
            rw [e]
            exact d2
          · rw [c3]
            unfold mf_335_153 mf_335_159 mf_335_166 mf_335_169 mf_335_176 mf_335_217
            simp (disch := omega) only [ev_S, ev_P, ↓reduceIte, Nat.reduceEqDiff, Nat.reduceLeDiff, Nat.reduceAdd, Nat.reduceMul, Nat.reduceSub, reduceCtorEq, l32_0, l32_1, l32_2, l32_3, l32_4, l32_5, l32_6, l32_7, l32_8, l32_9, l32_10, l32_11, l32_12, l32_13, l32_14, l32_15, l32_16, l32_17, l32_18, l32_19, l32_20, l32_21, l32_22, l32_23, l32_24, l32_25, l32_26, l32_27, l32_28, l32_29, l32_33, l32_40, l32_41, l32_44, l32_45, l32_59, l32_61, l32_91, l32_93, l32_123, l32_125, q1, d1]
        · have k1 : kn (pts x)[i] = 1 := by omega
          obtain ⟨c', d1, d2⟩ := q3 k0
          have hp1 := hpre (i + 1)
          have e : jnN 1 (pts x)[i] = pts (pts x)[i] := if_pos k1
          rw [fl_take hi, e, List.length_append] at hp1
          have hpz : (pts (pts x)[i]).length = szN (pts x)[i] := pts_len
          generalize hpp : (pts x)[i] = pp at *
          have E7 : mf_335_153 N (mf_335_L19 N (F + 66)) (Int32.ofNat a) (Int32.ofNat n) (Int32.ofNat (kn x)) (Int32.ofNat i) s2 = mf_335_L19 N (F + 66) 1 (Int32.ofNat a) (Int32.ofNat n) (Int32.ofNat (kn x)) (Int32.ofNat i) (Int32.ofNat 0) s2 := by
            by_cases c3 : kn x = 3
            · have q1 := q1 c3
              rw [if_neg k0] at q1
              rw [c3]
              unfold mf_335_153 mf_335_159 mf_335_166 mf_335_179
              simp (disch := omega) only [ev_S, ev_P, ↓reduceIte, Nat.reduceEqDiff, Nat.reduceLeDiff, Nat.reduceAdd, Nat.reduceMul, Nat.reduceSub, reduceCtorEq, l32_0, l32_1, l32_2, l32_3, l32_4, l32_5, l32_6, l32_7, l32_8, l32_9, l32_10, l32_11, l32_12, l32_13, l32_14, l32_15, l32_16, l32_17, l32_18, l32_19, l32_20, l32_21, l32_22, l32_23, l32_24, l32_25, l32_26, l32_27, l32_28, l32_29, l32_33, l32_40, l32_41, l32_44, l32_45, l32_59, l32_61, l32_91, l32_93, l32_123, l32_125, q1]
            · generalize kn x = kx at *
              unfold mf_335_153 mf_335_179
              simp (disch := omega) only [ev_S, ev_P, ↓reduceIte, Nat.reduceEqDiff, Nat.reduceLeDiff, Nat.reduceAdd, Nat.reduceMul, Nat.reduceSub, reduceCtorEq, l32_0, l32_1, l32_2, l32_3, l32_4, l32_5, l32_6, l32_7, l32_8, l32_9, l32_10, l32_11, l32_12, l32_13, l32_14, l32_15, l32_16, l32_17, l32_18, l32_19, l32_20, l32_21, l32_22, l32_23, l32_24, l32_25, l32_26, l32_27, l32_28, l32_29, l32_33, l32_40, l32_41, l32_44, l32_45, l32_59, l32_61, l32_91, l32_93, l32_123, l32_125, c3]
          rw [E7]
          rcases lpi (fun F j (s' : mS) => mf_335_L19 N F 1 (Int32.ofNat a) (Int32.ofNat n) (Int32.ofNat (kn x)) (Int32.ofNat i) (Int32.ofNat j) s') (pts pp).length (fun j s' => rG s s' n f f (((pts x).take i).flatMap (jnN 1) ++ (pts pp).take j)) (fun _ => False) (by
            intro F j s3 hj G3
            left
            have z3 := G3.size (N := N) d2 (by omega)
            rw [← hpz] at z3
            obtain ⟨-, -, r3⟩ := G3.part (N := N) La (by omega) h2 hi
            rw [hpp] at r3
            obtain ⟨c'', g1, g2⟩ := r3 k0
            have z4 := G3.size (N := N) g2 (by omega)
            rw [← hpz] at z4
            have n2 : ¬ (pts pp).length ≤ j := by omega
            obtain ⟨s4, p1, p2⟩ := rG.elem (N := N) (i := j) G3 (by rw [List.length_append, List.length_take]; omega) (by omega) g2 hj
            refine ⟨s4, ?_, ?_⟩
            · rw [List.take_succ_eq_append_getElem hj, ← List.append_assoc]
              exact p2
            · show mf_335_182 N (mf_335_L19 N F) (Int32.ofNat a) (Int32.ofNat n) (Int32.ofNat (kn x)) (Int32.ofNat i) (Int32.ofNat j) s3 = _
              generalize kn x = kx at *
              unfold mf_335_182 mf_335_192 mf_335_195 mf_335_198 mf_335_206 mf_335_211
              simp (disch := omega) only [ev_S, ev_P, ↓reduceIte, Nat.reduceEqDiff, Nat.reduceLeDiff, Nat.reduceAdd, Nat.reduceMul, Nat.reduceSub, reduceCtorEq, l32_0, l32_1, l32_2, l32_3, l32_4, l32_5, l32_6, l32_7, l32_8, l32_9, l32_10, l32_11, l32_12, l32_13, l32_14, l32_15, l32_16, l32_17, l32_18, l32_19, l32_20, l32_21, l32_22, l32_23, l32_24, l32_25, l32_26, l32_27, l32_28, l32_29, l32_33, l32_40, l32_41, l32_44, l32_45, l32_59, l32_61, l32_91, l32_93, l32_123, l32_125, g1, z4, n2, p1]) (pts pp).length 0 (F + 66 - (pts pp).length) s2 (Nat.zero_add _) (by rw [List.take_zero, List.append_nil]; exact G) with ⟨s3, G3, e3⟩ | h
          · rw [List.take_length] at G3
            rw [show F + 66 - (pts pp).length + (pts pp).length = F + 66 by omega] at e3
            obtain ⟨-, -, r3⟩ := G3.part (N := N) La (by omega) h2 hi
            rw [hpp] at r3
            obtain ⟨c'', g1, g2⟩ := r3 k0
            have z4 := G3.size (N := N) g2 (by omega)
            rw [← hpz] at z4
            refine ⟨s3, F + 65 - (pts pp).length, ?_, by omega, ?_⟩
            · rw [fl_take hi, hpp, e]
              exact G3
            · show mf_335_L19 N (F + 66) 1 _ _ _ _ _ s2 = _
              rw [e3, show F + 66 - (pts pp).length = F + 65 - (pts pp).length + 1 by omega]
              show mf_335_182 N (mf_335_L19 N (F + 65 - (pts pp).length)) (Int32.ofNat a) (Int32.ofNat n) (Int32.ofNat (kn x)) (Int32.ofNat i) (Int32.ofNat (pts pp).length) s3 = _
              generalize kn x = kx at *
              unfold mf_335_182 mf_335_192 mf_335_195 mf_335_217
              simp (disch := omega) only [ev_S, ev_P, ↓reduceIte, Nat.reduceEqDiff, Nat.reduceLeDiff, Nat.reduceAdd, Nat.reduceMul, Nat.reduceSub, reduceCtorEq, l32_0, l32_1, l32_2, l32_3, l32_4, l32_5, l32_6, l32_7, l32_8, l32_9, l32_10, l32_11, l32_12, l32_13, l32_14, l32_15, l32_16, l32_17, l32_18, l32_19, l32_20, l32_21, l32_22, l32_23, l32_24, l32_25, l32_26, l32_27, l32_28, l32_29, l32_33, l32_40, l32_41, l32_44, l32_45, l32_59, l32_61, l32_91, l32_93, l32_123, l32_125, g1, z4]
          · exact h.elim
      · intro F s2 G
        rw [List.take_length] at G
        have zz := G.size (N := N) La (by omega)
        rw [← hpl] at zz
        obtain ⟨s3, b1, b2⟩ := rA.builds (N := N) (k := 1) hN H G (Or.inl ⟨rfl, ok.1⟩) ok.2.1 ok.2.2 (by omega) (by omega) (by omega) (by omega)
        refine ⟨s3, ?_, b2⟩
        show mf_335_143 N (mf_335_L19 N F) (Int32.ofNat a) (Int32.ofNat n) (Int32.ofNat (kn x)) (Int32.ofNat (pts x).length) s2 = _
        generalize kn x = kx at *
        unfold mf_335_143 mf_335_150 mf_335_223 mf_335_229
        simp (disch := omega) only [ev_S, ev_P, ↓reduceIte, Nat.reduceEqDiff, Nat.reduceLeDiff, Nat.reduceAdd, Nat.reduceMul, Nat.reduceSub, reduceCtorEq, l32_0, l32_1, l32_2, l32_3, l32_4, l32_5, l32_6, l32_7, l32_8, l32_9, l32_10, l32_11, l32_12, l32_13, l32_14, l32_15, l32_16, l32_17, l32_18, l32_19, l32_20, l32_21, l32_22, l32_23, l32_24, l32_25, l32_26, l32_27, l32_28, l32_29, l32_33, l32_40, l32_41, l32_44, l32_45, l32_59, l32_61, l32_91, l32_93, l32_123, l32_125, zz, b1]
    · rw [ansM1_no c]
      obtain ⟨b1, b2⟩ := T 2
      refine ⟨_, ?_, b2⟩
      generalize ((pts x).flatMap (jnN 1)).length = ll at *
      unfold mf_335_123 mf_335_130 mf_335_139
      simp (disch := omega) only [ev_S, ev_P, ↓reduceIte, Nat.reduceEqDiff, Nat.reduceLeDiff, Nat.reduceAdd, Nat.reduceMul, Nat.reduceSub, reduceCtorEq, l32_0, l32_1, l32_2, l32_3, l32_4, l32_5, l32_6, l32_7, l32_8, l32_9, l32_10, l32_11, l32_12, l32_13, l32_14, l32_15, l32_16, l32_17, l32_18, l32_19, l32_20, l32_21, l32_22, l32_23, l32_24, l32_25, l32_26, l32_27, l32_28, l32_29, l32_33, l32_40, l32_41, l32_44, l32_45, l32_59, l32_61, l32_91, l32_93, l32_123, l32_125, c, b1, l32_64]
end FLT
