/-! ===== PURE: run (50): cut: the reference ===== -/
abbrev offs (c : List Int32) (i : Nat) : Nat := ((c.take i).map pz).sum
def pce (r c : List Int32) (i : Nat) : List Int32 := (r.drop (offs c i)).take (pz (c.getD i 0))
def ansX (r c : List Int32) : Ans := if 20 < c.length then .inl 2 else if (c.any fun z => decide (z < 0)) = true then .inl 1 else if ¬ (c.map pz).sum = r.length then .inl 4 else ansM 2 (((List.range c.length).map (pce r c)).map nR)
section CUT
variable {N : Nat} {s s' : mS} {n f f' m a b i : Nat} {xs ys : List Nod} {r c : List Int32}
theorem offs_s (hi : i < c.length) : offs c (i + 1) = offs c i + pz c[i] := take_sum_s hi
theorem offs_le (h : (c.map pz).sum = r.length) (hi : i < c.length) : offs c i + pz c[i] ≤ r.length := by
  rw [← offs_s hi, ← h]
  show ((c.take (i + 1)).map pz).sum ≤ _
  conv => rhs; rw [← List.take_append_drop (i + 1) c, List.map_append, List.sum_append]
  omega
theorem getD_e {α : Type} {l : List α} {d : α} (hi : i < l.length) : l.getD i d = l[i] := by
  rw [List.getD_eq_getElem?_getD, List.getElem?_eq_getElem hi]
  rfl
theorem pce_len (h : (c.map pz).sum = r.length) (hi : i < c.length) : (pce r c i).length = pz c[i] := by
  unfold pce
  rw [getD_e hi, List.length_take, List.length_drop]
  have := offs_le h hi
  omega
theorem pce_sum (h : (c.map pz).sum = r.length) : ∀ i, i ≤ c.length → (((List.range i).map (pce r c)).map List.length).sum = offs c i
  | 0, _ => rfl
  | i + 1, hi => by
    rw [range_map_s, List.map_append, List.sum_append, pce_sum h i (by omega), offs_s (by omega)]
    show _ + ((pce r c i).length + 0) = _
    rw [pce_len h (by omega)]
    omega
theorem r_cut (hN : 170000 ≤ N) (H : rA s n f m ys) (La : LayN (s.2.2.1 47) (Rf f) a (nR r)) (Lb : LayN (s.2.2.1 47) (Rf f) b (nR c)) (hr : r.length ≤ 64) (hc : c.length ≤ 64) : ∃ s', mf_339 N (Int32.ofNat a) (Int32.ofNat b) (Int32.ofNat n) s = some (s', none) ∧ rE s s' n f m (ansX r c) := by
  have H' := H
  obtain ⟨-, H2, H3, H4, H5, H6, H7, H8, H9, H10⟩ := H'
  have G0 : rG s (mI s 51 (Int32.ofNat n)) n f f [] := rG.nil H2
  have T := fun k => rA.trb (N := N) H s vfr.rf rfl rfl rfl k
  have za := H.g.size (N := N) La (by omega)
  have za : mf_77 N (Int32.ofNat a) s = some (s, some (.int (Int32.ofNat r.length))) := za
  have zb := H.g.size (N := N) Lb (by omega)
  have zb : mf_77 N (Int32.ofNat b) s = some (s, some (.int (Int32.ofNat c.length))) := zb
  have hla := rowlt La
  have hlb := rowlt Lb
  have E1 : mf_339 N (Int32.ofNat a) (Int32.ofNat b) (Int32.ofNat n) s = mf_339_L15 N N 0 (Int32.ofNat a) (Int32.ofNat b) (Int32.ofNat n) (Int32.ofNat c.length) (Int64.ofNat 0) (Int32.ofNat 0) (Int32.ofNat 0) s := by
    unfold mf_339 mf_339_0 mf_339_5
    simp (disch := omega) only [ev_S, ev_P, ↓reduceIte, Nat.reduceEqDiff, Nat.reduceLeDiff, Nat.reduceAdd, Nat.reduceMul, Nat.reduceSub, reduceCtorEq, l32_0, l32_1, l32_2, l32_3, l32_4, l32_5, l32_6, l32_7, l32_8, l32_9, l32_10, l32_11, l32_12, l32_13, l32_14, l32_15, l32_16, l32_17, l32_18, l32_19, l32_20, l32_21, l32_22, l32_23, l32_24, l32_25, l32_26, l32_27, l32_28, l32_29, l32_33, l32_40, l32_41, l32_44, l32_45, l32_59, l32_61, l32_91, l32_93, l32_123, l32_125, zb]
    rfl
  have hsb : ∀ i, offs c i ≤ 2147483648 * i := fun i => by
    have : ∀ l : List Int32, (l.map pz).sum ≤ 2147483648 * l.length := fun l => by
      induction l with
      | nil => exact Nat.le_refl _
      | cons z l ih =>
        have h1 := pz_lt (z := z)
        rw [List.map_cons, List.sum_cons, List.length_cons]
        omega
    have h3 := this (c.take i)
    rw [List.length_take] at h3
    show ((c.take i).map pz).sum ≤ _
    omega
  have E2 : ∃ S, ((c.any fun z => decide (z < 0)) = false → S = Int64.ofNat (c.map pz).sum) ∧ mf_339_L15 N N 0 (Int32.ofNat a) (Int32.ofNat b) (Int32.ofNat n) (Int32.ofNat c.length) (Int64.ofNat 0) (Int32.ofNat 0) (Int32.ofNat 0) s = mf_339_72 N (Int32.ofNat a) (Int32.ofNat b) (Int32.ofNat n) (Int32.ofNat c.length) S (bI (c.any fun z => decide (z < 0))) s := by
    refine lp (fun F i (k : Int64 × Bool) => mf_339_L15 N F 0 (Int32.ofNat a) (Int32.ofNat b) (Int32.ofNat n) (Int32.ofNat c.length) k.1 (bI k.2) (Int32.ofNat i) s) c.length (fun i k => k.2 = ((c.take i).any fun z => decide (z < 0)) ∧ (k.2 = false → k.1 = Int64.ofNat (offs c i))) (fun R => ∃ S, ((c.any fun z => decide (z < 0)) = false → S = Int64.ofNat (c.map pz).sum) ∧ R = mf_339_72 N (Int32.ofNat a) (Int32.ofNat b) (Int32.ofNat n) (Int32.ofNat c.length) S (bI (c.any fun z => decide (z < 0))) s) ?_ ?_ c.length 0 N (Int64.ofNat 0, false) (Nat.zero_add _) (by omega) ⟨rfl, fun _ => rfl⟩
    · intro F i k hi hP _
      left
      obtain ⟨S0, b0⟩ := k
      obtain ⟨P1, P2⟩ := hP
      have P1 : b0 = _ := P1
      have n1 : ¬ c.length ≤ i := by omega
      have cc := H.g.cell Lb hi
      refine ⟨(S0 + Int32.toInt64 c[i], b0 || decide (c[i] < 0)), ⟨?_, fun h => ?_⟩, ?_⟩
      · show (b0 || decide (c[i] < 0)) = _
        rw [take_any hi, P1]
      · have h : (b0 || decide (c[i] < 0)) = false := h
        rw [Bool.or_eq_false_iff] at h
        have P2 : S0 = _ := P2 h.1
        show S0 + Int32.toInt64 c[i] = _
        rw [offs_s hi, P2]
        have hnn := decide_eq_false_iff_not.mp h.2
        obtain ⟨p, hp, ep⟩ := i32nn hnn
        rw [ep, pz_o hp, i64of32 hp, ← Int64.ofNat_add]
      · show mf_339_16 N (mf_339_L15 N F) (Int32.ofNat a) (Int32.ofNat b) (Int32.ofNat n) (Int32.ofNat c.length) S0 (bI b0) (Int32.ofNat i) s = mf_339_L15 N F 0 (Int32.ofNat a) (Int32.ofNat b) (Int32.ofNat n) (Int32.ofNat c.length) (S0 + Int32.toInt64 c[i]) (bI (b0 || decide (c[i] < 0))) (Int32.ofNat (i + 1)) s
        cases b0 with
        | true =>
          rw [Bool.true_or]
          simp only [bI]
          unfold mf_339_16 mf_339_23 mf_339_59 mf_339_64
          simp (disch := omega) only [ev_S, ev_P, ↓reduceIte, Nat.reduceEqDiff, Nat.reduceLeDiff, Nat.reduceAdd, Nat.reduceMul, Nat.reduceSub, reduceCtorEq, l32_0, l32_1, l32_2, l32_3, l32_4, l32_5, l32_6, l32_7, l32_8, l32_9, l32_10, l32_11, l32_12, l32_13, l32_14, l32_15, l32_16, l32_17, l32_18, l32_19, l32_20, l32_21, l32_22, l32_23, l32_24, l32_25, l32_26, l32_27, l32_28, l32_29, l32_33, l32_40, l32_41, l32_44, l32_45, l32_59, l32_61, l32_91, l32_93, l32_123, l32_125, n1, cc]
        | false =>
          rw [Bool.false_or]
          by_cases d : c[i] < 0
          · rw [decide_eq_true d]
            simp only [bI]
            have d' := (i32neg d (k := 0) (by omega)).2.2.1
            unfold mf_339_16 mf_339_23 mf_339_45 mf_339_59 mf_339_64
            simp (disch := omega) only [ev_S, ev_P, ↓reduceIte, Nat.reduceEqDiff, Nat.reduceLeDiff, Nat.reduceAdd, Nat.reduceMul, Nat.reduceSub, reduceCtorEq, l32_0, l32_1, l32_2, l32_3, l32_4, l32_5, l32_6, l32_7, l32_8, l32_9, l32_10, l32_11, l32_12, l32_13, l32_14, l32_15, l32_16, l32_17, l32_18, l32_19, l32_20, l32_21, l32_22, l32_23, l32_24, l32_25, l32_26, l32_27, l32_28, l32_29, l32_33, l32_40, l32_41, l32_44, l32_45, l32_59, l32_61, l32_91, l32_93, l32_123, l32_125, n1, cc, d']
          · rw [decide_eq_false d]
            simp only [bI]
            have d' : Int32.ofNat 0 ≤ c[i] := Int32.not_lt.mp d
            unfold mf_339_16 mf_339_23 mf_339_45 mf_339_63 mf_339_64
            simp (disch := omega) only [ev_S, ev_P, ↓reduceIte, Nat.reduceEqDiff, Nat.reduceLeDiff, Nat.reduceAdd, Nat.reduceMul, Nat.reduceSub, reduceCtorEq, l32_0, l32_1, l32_2, l32_3, l32_4, l32_5, l32_6, l32_7, l32_8, l32_9, l32_10, l32_11, l32_12, l32_13, l32_14, l32_15, l32_16, l32_17, l32_18, l32_19, l32_20, l32_21, l32_22, l32_23, l32_24, l32_25, l32_26, l32_27, l32_28, l32_29, l32_33, l32_40, l32_41, l32_44, l32_45, l32_59, l32_61, l32_91, l32_93, l32_123, l32_125, n1, cc, d']
    · intro F k hP
      obtain ⟨S0, b0⟩ := k
      obtain ⟨P1, P2⟩ := hP
      have P1 : b0 = _ := P1
      rw [List.take_length] at P1
      refine ⟨S0, fun h => ?_, ?_⟩
      · have := P2 (by show b0 = false; rw [P1]; exact h)
        have this : S0 = Int64.ofNat (offs c c.length) := this
        rw [this]
        show Int64.ofNat ((c.take c.length).map pz).sum = _
        rw [List.take_length]
      · rw [← P1]
        show mf_339_16 N (mf_339_L15 N F) (Int32.ofNat a) (Int32.ofNat b) (Int32.ofNat n) (Int32.ofNat c.length) S0 (bI b0) (Int32.ofNat c.length) s = _
        unfold mf_339_16
        simp (disch := omega) only [ev_S, ev_P, ↓reduceIte, Nat.reduceEqDiff, Nat.reduceLeDiff, Nat.reduceAdd, Nat.reduceMul, Nat.reduceSub, reduceCtorEq, l32_0, l32_1, l32_2, l32_3, l32_4, l32_5, l32_6, l32_7, l32_8, l32_9, l32_10, l32_11, l32_12, l32_13, l32_14, l32_15, l32_16, l32_17, l32_18, l32_19, l32_20, l32_21, l32_22, l32_23, l32_24, l32_25, l32_26, l32_27, l32_28, l32_29, l32_33, l32_40, l32_41, l32_44, l32_45, l32_59, l32_61, l32_91, l32_93, l32_123, l32_125]
  obtain ⟨S, hS, E2⟩ := E2
  rw [E1, E2]
  unfold ansX
  by_cases d : 20 < c.length
  · rw [if_pos d]
    obtain ⟨b1, b2⟩ := T 2
    refine ⟨_, ?_, b2⟩
    have d' : ¬ c.length ≤ 20 := by omega
    generalize bI (c.any fun z => decide (z < 0)) = B
    unfold mf_339_72 mf_339_96 mf_339_104 mf_339_118 mf_339_125
    simp (disch := omega) only [ev_S, ev_P, ↓reduceIte, Nat.reduceEqDiff, Nat.reduceLeDiff, Nat.reduceAdd, Nat.reduceMul, Nat.reduceSub, reduceCtorEq, l32_0, l32_1, l32_2, l32_3, l32_4, l32_5, l32_6, l32_7, l32_8, l32_9, l32_10, l32_11, l32_12, l32_13, l32_14, l32_15, l32_16, l32_17, l32_18, l32_19, l32_20, l32_21, l32_22, l32_23, l32_24, l32_25, l32_26, l32_27, l32_28, l32_29, l32_33, l32_40, l32_41, l32_44, l32_45, l32_59, l32_61, l32_91, l32_93, l32_123, l32_125, d, d', b1]
  · rw [if_neg d]
    have d' : c.length ≤ 20 := by omega
    cases hn : c.any fun z => decide (z < 0) with
    | true =>
      rw [if_pos rfl]
      obtain ⟨b1, b2⟩ := T 1
      refine ⟨_, ?_, b2⟩
      simp only [bI]
      unfold mf_339_72 mf_339_79 mf_339_96 mf_339_108 mf_339_113 mf_339_118 mf_339_125
      simp (disch := omega) only [ev_S, ev_P, ↓reduceIte, Nat.reduceEqDiff, Nat.reduceLeDiff, Nat.reduceAdd, Nat.reduceMul, Nat.reduceSub, reduceCtorEq, l32_0, l32_1, l32_2, l32_3, l32_4, l32_5, l32_6, l32_7, l32_8, l32_9, l32_10, l32_11, l32_12, l32_13, l32_14, l32_15, l32_16, l32_17, l32_18, l32_19, l32_20, l32_21, l32_22, l32_23, l32_24, l32_25, l32_26, l32_27, l32_28, l32_29, l32_33, l32_40, l32_41, l32_44, l32_45, l32_59, l32_61, l32_91, l32_93, l32_123, l32_125, d, d', b1]
    | false =>
      rw [if_neg (by intro h; cases h)]
      have hS := hS hn
      have hsl := hsb c.length
      have hsl : ((c.take c.length).map pz).sum ≤ 2147483648 * c.length := hsl
      rw [List.take_length] at hsl
      have E3 : mf_339_72 N (Int32.ofNat a) (Int32.ofNat b) (Int32.ofNat n) (Int32.ofNat c.length) S (bI false) s = mf_339_91 N (Int32.ofNat a) (Int32.ofNat b) (Int32.ofNat n) (Int32.ofNat c.length) (Int32.ofNat 0) S (Int32.ofNat r.length) s := by
        simp only [bI]
        unfold mf_339_72 mf_339_79 mf_339_84
        simp (disch := omega) only [ev_S, ev_P, ↓reduceIte, Nat.reduceEqDiff, Nat.reduceLeDiff, Nat.reduceAdd, Nat.reduceMul, Nat.reduceSub, reduceCtorEq, l32_0, l32_1, l32_2, l32_3, l32_4, l32_5, l32_6, l32_7, l32_8, l32_9, l32_10, l32_11, l32_12, l32_13, l32_14, l32_15, l32_16, l32_17, l32_18, l32_19, l32_20, l32_21, l32_22, l32_23, l32_24, l32_25, l32_26, l32_27, l32_28, l32_29, l32_33, l32_40, l32_41, l32_44, l32_45, l32_59, l32_61, l32_91, l32_93, l32_123, l32_125, d, za]
      rw [E3]
      have hlg : lg_cmp S (Int32.toInt64 (Int32.ofNat r.length)) = 0 ↔ (c.map pz).sum = r.length := by
        rw [lgI_eq, hS, i64of32 (by omega)]
        constructor
        · intro h
          have h2 := congrArg Int64.toInt h
          rw [i64t (by omega), i64t (by omega)] at h2
          omega
        · intro h
          rw [h]
      unfold mf_339_91
      by_cases e : (c.map pz).sum = r.length
      · rw [if_pos (hlg.mpr e), if_neg (show ¬ ¬ (c.map pz).sum = r.length from fun z => z e)]
        have hnn : ∀ i (hi : i < c.length), ∃ p, p < 2147483648 ∧ c[i] = Int32.ofNat p := fun i hi => by
          refine i32nn (fun y => ?_)
          rw [any_mem hi (decide_eq_true y)] at hn
          cases hn
        refine lpo (fun F i (s' : mS) => mf_339_L9 N F 0 (Int32.ofNat a) (Int32.ofNat 0) (Int32.ofNat 0) (Int32.ofNat b) (Int32.ofNat n) (Int32.ofNat c.length) (Int32.ofNat (offs c i)) (Int32.ofNat i) s') c.length 67 (fun i s' => rG s s' n f (f + (2 * ((List.range i).map (pce r c)).length + (((List.range i).map (pce r c)).map List.length).sum)) (((List.range i).map (pce r c)).map nR)) (fun R => ∃ s', R = some (s', none) ∧ rE s s' n f m (ansM 2 (((List.range c.length).map (pce r c)).map nR))) ?_ ?_ c.length 0 N _ (Nat.zero_add _) (by omega) G0
        · intro F i s2 hi G
          left
          have hl0 : ((List.range i).map (pce r c)).length = i := by rw [List.length_map, List.length_range]
          have hll : (((List.range i).map (pce r c)).map nR).length = i := by rw [List.length_map, hl0]
          have hsum := pce_sum (r := r) e i (by omega)
          obtain ⟨p, hp, ep⟩ := hnn i hi
          have hoff := offs_le e hi
          rw [ep, pz_o hp] at hoff
          have cc := G.cell Lb hi
          rw [ep] at cc
          have n1 : ¬ c.length ≤ i := by omega
          have sp := G.1.1
          rw [hll] at sp
          have E4 : mf_339_L9 N (F + 67) 0 (Int32.ofNat a) (Int32.ofNat 0) (Int32.ofNat 0) (Int32.ofNat b) (Int32.ofNat n) (Int32.ofNat c.length) (Int32.ofNat (offs c i)) (Int32.ofNat i) s2 = mf_339_L9 N (F + 66) 1 (Int32.ofNat a) (Int32.ofNat (n + i)) (Int32.ofNat (offs c i + p)) (Int32.ofNat b) (Int32.ofNat n) (Int32.ofNat c.length) (Int32.ofNat (offs c i + 0)) (Int32.ofNat i) s2 := by
            show mf_339_137 N (mf_339_L9 N (F + 66)) (Int32.ofNat a) (Int32.ofNat b) (Int32.ofNat n) (Int32.ofNat c.length) (Int32.ofNat (offs c i)) (Int32.ofNat i) s2 = _
            generalize offs c i = o at *
            unfold mf_339_137 mf_339_144
            simp (disch := omega) only [ev_S, ev_P, ↓reduceIte, Nat.reduceEqDiff, Nat.reduceLeDiff, Nat.reduceAdd, Nat.reduceMul, Nat.reduceSub, reduceCtorEq, l32_0, l32_1, l32_2, l32_3, l32_4, l32_5, l32_6, l32_7, l32_8, l32_9, l32_10, l32_11, l32_12, l32_13, l32_14, l32_15, l32_16, l32_17, l32_18, l32_19, l32_20, l32_21, l32_22, l32_23, l32_24, l32_25, l32_26, l32_27, l32_28, l32_29, l32_33, l32_40, l32_41, l32_44, l32_45, l32_59, l32_61, l32_91, l32_93, l32_123, l32_125, n1, cc, sp]
            rfl
          rw [E4]
          have hpc : ∀ j, j ≤ p → ((r.drop (offs c i)).take j).length = j := fun j hj => by
            rw [List.length_take, List.length_drop]
            omega
          rcases lpi (fun F j (s' : mS) => mf_339_L9 N F 1 (Int32.ofNat a) (Int32.ofNat (n + i)) (Int32.ofNat (offs c i + p)) (Int32.ofNat b) (Int32.ofNat n) (Int32.ofNat c.length) (Int32.ofNat (offs c i + j)) (Int32.ofNat i) s') p (fun j s' => rG s s' n f (f + (2 * ((List.range i).map (pce r c)).length + (((List.range i).map (pce r c)).map List.length).sum)) (((List.range i).map (pce r c)).map nR ++ ((r.drop (offs c i)).take j).map nZ)) (fun _ => False) (by
            intro F j s3 hj G3
            left
            have hoj : offs c i + j < r.length := by omega
            have n2 : ¬ offs c i + p ≤ offs c i + j := by omega
            obtain ⟨s4, p1, p2⟩ := rG.elem (N := N) (i := offs c i + j) (x := nR r) G3 (by rw [List.length_append, hll, List.length_map, hpc j (by omega)]; omega) (by omega) La (by show _ < (r.map nZ).length; rw [List.length_map]; exact hoj)
            refine ⟨s4, ?_, ?_⟩
            · have hjd : j < (r.drop (offs c i)).length := by rw [List.length_drop]; omega
              rw [List.take_succ_eq_append_getElem hjd, List.map_append, ← List.append_assoc]
              have eg : (pts (nR r))[offs c i + j]'(by show _ < (r.map nZ).length; rw [List.length_map]; exact hoj) = nZ ((r.drop (offs c i))[j]) := by
                show (r.map nZ)[offs c i + j]'_ = _
                rw [List.getElem_map, List.getElem_drop]
              rw [eg] at p2
              exact p2
            · show mf_339_166 N (mf_339_L9 N F) (Int32.ofNat a) (Int32.ofNat b) (Int32.ofNat n) (Int32.ofNat c.length) (Int32.ofNat (offs c i + j)) (Int32.ofNat i) (Int32.ofNat (n + i)) (Int32.ofNat (offs c i + p)) s3 = _
              generalize offs c i = o at *
              unfold mf_339_166 mf_339_173 mf_339_180
              simp (disch := omega) only [ev_S, ev_P, ↓reduceIte, Nat.reduceEqDiff, Nat.reduceLeDiff, Nat.reduceAdd, Nat.reduceMul, Nat.reduceSub, reduceCtorEq, l32_0, l32_1, l32_2, l32_3, l32_4, l32_5, l32_6, l32_7, l32_8, l32_9, l32_10, l32_11, l32_12, l32_13, l32_14, l32_15, l32_16, l32_17, l32_18, l32_19, l32_20, l32_21, l32_22, l32_23, l32_24, l32_25, l32_26, l32_27, l32_28, l32_29, l32_33, l32_40, l32_41, l32_44, l32_45, l32_59, l32_61, l32_91, l32_93, l32_123, l32_125, n2, p1]
              rfl) p 0 (F + 66 - p) s2 (Nat.zero_add _) (by rw [List.take_zero, List.map_nil, List.append_nil]; exact G) with ⟨s3, G3, e3⟩ | h
          · rw [show F + 66 - p + p = F + 66 by omega] at e3
            have hpe : pce r c i = (r.drop (offs c i)).take p := by
              unfold pce
              rw [getD_e hi, ep, pz_o hp]
            have hpl : ((r.drop (offs c i)).take p).length = p := hpc p (Nat.le_refl _)
            obtain ⟨s4, w1, w2⟩ := rG.row (N := N) hN G3 (by rw [hll, hpl]; omega) (by rw [hpl]; omega)
            rw [hll] at w1
            rw [hpl] at w2
            refine ⟨s4, F + 65 - p, ?_, by omega, ?_⟩
            · rw [range_map_s, List.map_append, List.map_append, List.length_append, List.sum_append, hpe]
              have e : f + (2 * (((List.range i).map (pce r c)).length + [(r.drop (offs c i)).take p].length) + ((((List.range i).map (pce r c)).map List.length).sum + ([(r.drop (offs c i)).take p].map List.length).sum)) = f + (2 * ((List.range i).map (pce r c)).length + (((List.range i).map (pce r c)).map List.length).sum) + 2 + p := by
                show f + (2 * (_ + 1) + (_ + (((r.drop (offs c i)).take p).length + 0))) = _
                rw [hpl]
                omega
              rw [e]
              exact w2
            · show mf_339_L9 N (F + 66) 1 _ _ _ _ _ _ _ _ s2 = _
              rw [e3, show F + 66 - p = F + 65 - p + 1 by omega, offs_s hi, ep, pz_o hp]
              show mf_339_166 N (mf_339_L9 N (F + 65 - p)) (Int32.ofNat a) (Int32.ofNat b) (Int32.ofNat n) (Int32.ofNat c.length) (Int32.ofNat (offs c i + p)) (Int32.ofNat i) (Int32.ofNat (n + i)) (Int32.ofNat (offs c i + p)) s3 = _
              generalize offs c i = o at *
              unfold mf_339_166 mf_339_186 mf_339_192
              simp (disch := omega) only [ev_S, ev_P, ↓reduceIte, Nat.reduceEqDiff, Nat.reduceLeDiff, Nat.reduceAdd, Nat.reduceMul, Nat.reduceSub, reduceCtorEq, l32_0, l32_1, l32_2, l32_3, l32_4, l32_5, l32_6, l32_7, l32_8, l32_9, l32_10, l32_11, l32_12, l32_13, l32_14, l32_15, l32_16, l32_17, l32_18, l32_19, l32_20, l32_21, l32_22, l32_23, l32_24, l32_25, l32_26, l32_27, l32_28, l32_29, l32_33, l32_40, l32_41, l32_44, l32_45, l32_59, l32_61, l32_91, l32_93, l32_123, l32_125, w1]
          · exact h.elim
        · intro F s2 G
          have hs := pce_sum (r := r) e c.length (Nat.le_refl _)
          have hlp : ((List.range c.length).map (pce r c)).length = c.length := by rw [List.length_map, List.length_range]
          have ho : offs c c.length = r.length := by
            show ((c.take c.length).map pz).sum = _
            rw [List.take_length]
            exact e
          obtain ⟨s3, b1, b2⟩ := rA.bTab (N := N) hN H G (fun r' hr' => by
            obtain ⟨j, hj, rfl⟩ := List.mem_map.mp hr'
            rw [pce_len e (List.mem_range.mp hj)]
            have := offs_le e (List.mem_range.mp hj)
            omega) (by rw [hlp, hs, ho]; omega) (by rw [hlp]; omega)
          refine ⟨s3, ?_, b2⟩
          show mf_339_137 N (mf_339_L9 N F) (Int32.ofNat a) (Int32.ofNat b) (Int32.ofNat n) (Int32.ofNat c.length) (Int32.ofNat (offs c c.length)) (Int32.ofNat c.length) s2 = _
          generalize offs c c.length = o at *
          unfold mf_339_137 mf_339_198 mf_339_204
          simp (disch := omega) only [ev_S, ev_P, ↓reduceIte, Nat.reduceEqDiff, Nat.reduceLeDiff, Nat.reduceAdd, Nat.reduceMul, Nat.reduceSub, reduceCtorEq, l32_0, l32_1, l32_2, l32_3, l32_4, l32_5, l32_6, l32_7, l32_8, l32_9, l32_10, l32_11, l32_12, l32_13, l32_14, l32_15, l32_16, l32_17, l32_18, l32_19, l32_20, l32_21, l32_22, l32_23, l32_24, l32_25, l32_26, l32_27, l32_28, l32_29, l32_33, l32_40, l32_41, l32_44, l32_45, l32_59, l32_61, l32_91, l32_93, l32_123, l32_125, b1]
      · rw [if_neg (fun z => e (hlg.mp z)), if_pos (show ¬ (c.map pz).sum = r.length from e)]
        obtain ⟨b1, b2⟩ := T 4
        refine ⟨_, ?_, b2⟩
        unfold mf_339_96 mf_339_108 mf_339_117 mf_339_118 mf_339_125
        simp (disch := omega) only [ev_S, ev_P, ↓reduceIte, Nat.reduceEqDiff, Nat.reduceLeDiff, Nat.reduceAdd, Nat.reduceMul, Nat.reduceSub, reduceCtorEq, l32_0, l32_1, l32_2, l32_3, l32_4, l32_5, l32_6, l32_7, l32_8, l32_9, l32_10, l32_11, l32_12, l32_13, l32_14, l32_15, l32_16, l32_17, l32_18, l32_19, l32_20, l32_21, l32_22, l32_23, l32_24, l32_25, l32_26, l32_27, l32_28, l32_29, l32_33, l32_40, l32_41, l32_44, l32_45, l32_59, l32_61, l32_91, l32_93, l32_123, l32_125, d', b1]
end CUT
