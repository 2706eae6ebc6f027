/-! ===== PURE: run (57): take, drop: the reference ===== -/
def filN (x : Nod) : Nod := if kn x = 2 then nR [] else nZ 0
def tkI (neg : Bool) (S W j : Nat) : Option Nat := if neg = true then (if W ≤ S + j then some (S + j - W) else none) else (if j < S then some j else none)
def tkP (x : Nod) (neg : Bool) (W j : Nat) : Nod := match tkI neg (szN x) W j with
  | some k => (pts x).getD k (filN x)
  | none => filN x
def ansTk (x : Nod) (z : Int32) : Ans := if (if kn x = 1 then 64 else 20) < wN z then .inl 2 else ansM (kn x) ((List.range (wN z)).map (tkP x (decide (z < 0)) (wN z)))
def ansDr (x : Nod) (z : Int32) : Ans := ansM (kn x) (if z < 0 then (pts x).take (szN x - Nat.min (wN z) (szN x)) else (pts x).drop (Nat.min (wN z) (szN x)))
/-- where taking begins -/
def tkF (neg : Bool) (S W : Nat) : Int32 := if neg = true then Int32.ofNat S - Int32.ofNat W else Int32.ofNat 0
theorem t32 {n : Nat} (h : n < 2147483648) : Int64.toInt32 (Int64.ofNat n) = Int32.ofNat n := by rw [← i64of32 h, i64_32]
theorem sub_t {S W j : Nat} (hS : S ≤ 64) (hW : W ≤ 64) (hj : j ≤ 64) : (Int32.ofNat S - Int32.ofNat W + Int32.ofNat j).toInt = (S : Int) - W + j := by
  rw [Int32.toInt_add, Int32.toInt_sub, i32t (by omega), i32t (by omega), i32t (by omega)]
  have e6 : (2 : Nat) ^ 32 = 4294967296 := by decide
  rw [e6, Int.bmod_eq_of_le (n := (S : Int) - W) (by omega) (by omega), Int.bmod_eq_of_le (by omega) (by omega)]
section TKI
variable {S W j k : Nat} {neg : Bool}
theorem tkF_s : tkF neg S W + Int32.ofNat (j + 1) = tkF neg S W + Int32.ofNat j + Int32.ofNat 1 := by
  rw [Int32.ofNat_add, Int32.add_assoc]
theorem tkF_z {j : Nat} : tkF false S W + Int32.ofNat j = Int32.ofNat j := by
  show Int32.ofNat 0 + Int32.ofNat j = _
  rw [← Int32.ofNat_add, Nat.zero_add]
theorem tkI_some (hS : S ≤ 64) (hW : W ≤ 64) (hj : j < W) (h : tkI neg S W j = some k) : k < S ∧ tkF neg S W + Int32.ofNat j = Int32.ofNat k := by
  unfold tkI at h
  cases neg with
  | false =>
    rw [if_neg (by intro q; cases q)] at h
    by_cases c : j < S
    · rw [if_pos c] at h
      cases h
      exact ⟨c, tkF_z⟩
    · rw [if_neg c] at h
      cases h
  | true =>
    rw [if_pos rfl] at h
    by_cases c : W ≤ S + j
    · rw [if_pos c] at h
      cases h
      refine ⟨by omega, Int32.toInt.inj ?_⟩
      show (Int32.ofNat S - Int32.ofNat W + Int32.ofNat j).toInt = _
      rw [sub_t hS hW (by omega), i32t (by omega)]
      omega
    · rw [if_neg c] at h
      cases h
theorem tkI_none (hS : S ≤ 64) (hW : W ≤ 64) (hj : j < W) (h : tkI neg S W j = none) : tkF neg S W + Int32.ofNat j < 0 ∨ Int32.ofNat S ≤ tkF neg S W + Int32.ofNat j := by
  unfold tkI at h
  cases neg with
  | false =>
    rw [if_neg (by intro q; cases q)] at h
    by_cases c : j < S
    · rw [if_pos c] at h
      cases h
    · right
      rw [tkF_z]
      exact (i32le (by omega) (by omega)).mpr (by omega)
  | true =>
    rw [if_pos rfl] at h
    by_cases c : W ≤ S + j
    · rw [if_pos c] at h
      cases h
    · left
      show Int32.ofNat S - Int32.ofNat W + Int32.ofNat j < 0
      rw [Int32.lt_iff_toInt_lt, sub_t hS hW (by omega)]
      show (S : Int) - W + j < 0
      omega
theorem tkF_end (hS : S ≤ 64) (hW : W ≤ 64) (hj : j ≤ W) : (tkF neg S W + Int32.ofNat W ≤ tkF neg S W + Int32.ofNat j) ↔ W ≤ j := by
  cases neg with
  | false =>
    rw [tkF_z, tkF_z, i32le (by omega) (by omega)]
  | true =>
    show (Int32.ofNat S - Int32.ofNat W + Int32.ofNat W ≤ Int32.ofNat S - Int32.ofNat W + Int32.ofNat j) ↔ _
    rw [Int32.le_iff_toInt_le, sub_t hS hW (by omega), sub_t hS hW (by omega)]
    omega
end TKI
section TDR
variable {N : Nat} {s s' : mS} {n f f' m a : Nat} {x : Nod} {xs ys : List Nod} {z : Int32}
theorem tkP_ok (h0 : ¬ kn x = 0) (wx : wfN x) (dx : x.1 ≤ 4) {W : Nat} {neg : Bool} : mkOk (kn x) ((List.range W).map (tkP x neg W)) ∧ (∀ y ∈ (List.range W).map (tkP x neg W), wfN y) ∧ ∀ y ∈ (List.range W).map (tkP x neg W), y.1 ≤ 4 := by
  have lx := kn_le (x := x)
  have key : ∀ j, (tkP x neg W j ∈ pts x) ∨ tkP x neg W j = filN x := fun j => by
    unfold tkP
    cases tkI neg (szN x) W j with
    | none => exact Or.inr rfl
    | some k =>
      show (pts x).getD k (filN x) ∈ pts x ∨ (pts x).getD k (filN x) = filN x
      by_cases c : k < (pts x).length
      · left
        rw [getD_e c]
        exact List.getElem_mem c
      · right
        rw [List.getD_eq_getElem?_getD, List.getElem?_eq_none (by omega)]
        rfl
  have fw : wfN (filN x) ∧ (filN x).1 ≤ 4 := by
    unfold filN
    split
    · exact ⟨nR_wf (by show 0 ≤ 64; omega), Nat.zero_le _⟩
    · exact ⟨trivial, Nat.zero_le _⟩
  refine ⟨?_, fun y hy => ?_, fun y hy => ?_⟩
  · have kd : ∀ y ∈ (List.range W).map (tkP x neg W), (kn x = 1 → kdN y = 0) ∧ (kn x = 2 → kdN y = 1) := fun y hy => by
      obtain ⟨j, -, rfl⟩ := List.mem_map.mp hy
      rcases key j with h | h
      · exact pts_kd h
      · rw [h]
        unfold filN
        refine ⟨fun q => ?_, fun q => ?_⟩
        · rw [if_neg (by omega)]
          rfl
        · rw [if_pos q]
          rfl
    rcases (show kn x = 1 ∨ kn x = 2 ∨ kn x = 3 by omega) with h | h | h
    · rw [h]
      exact Or.inl ⟨rfl, fun y hy => (kd y hy).1 h⟩
    · rw [h]
      exact Or.inr (Or.inl ⟨rfl, fun y hy => (kd y hy).2 h⟩)
    · rw [h]
      exact Or.inr (Or.inr rfl)
  · obtain ⟨j, -, rfl⟩ := List.mem_map.mp hy
    rcases key j with h | h
    · exact wf_pts wx _ h
    · rw [h]
      exact fw.1
  · obtain ⟨j, -, rfl⟩ := List.mem_map.mp hy
    rcases key j with h | h
    · exact Nat.le_trans (pts_lv _ h) dx
    · rw [h]
      exact fw.2
theorem mny (N : Nat) {b x3 x4 x5 x6 : Int32} : mf_338_13 N b z x3 x4 x5 x6 s = mf_338_27 N b z x3 x4 x5 x6 (Int64.ofNat (wN z)) s := by
  unfold mf_338_13
  by_cases c : z < 0
  · rw [if_neg (Int32.not_le.mpr c)]
    unfold mf_338_19
    rw [neg64 c]
  · rw [if_pos (Int32.not_lt.mp c)]
    unfold mf_338_25
    rw [pos64 c]
theorem r_drop (hN : 170000 ≤ N) (H : rA s n f m ys) (La : LayN (s.2.2.1 47) (Rf f) a x) (h0 : ¬ kn x = 0) (wx : wfN x) (dx : x.1 ≤ 4) : ∃ s', mf_338 N (Int32.ofNat 21) z (Int32.ofNat a) (Int32.ofNat n) s = some (s', none) ∧ rE s s' n f m (ansDr x z) := by
  have H' := H
  obtain ⟨-, H2, H3, H4, H5, H6, H7, H8, H9, H10⟩ := H'
  have G0 : rG s (mI s 51 (Int32.ofNat n)) n f f [] := rG.nil H2
  obtain ⟨s1, hs1⟩ : ∃ s1, s1 = mI s 51 (Int32.ofNat n) := ⟨_, rfl⟩
  rw [← hs1] at G0
  have lx := kn_le (x := x)
  have kd : s.2.2.1 47 a = Int32.ofNat (kn x) := by rw [(LayN_iff.mp La).2.kd.1]; exact kd_kn
  have hla := (LayN.lt La)
  have za := H.g.size (N := N) La (by omega)
  have hpl : (pts x).length = szN x := pts_len
  have s64 := wf64 wx
  have hW := wN_le z
  have E1 : mf_338 N (Int32.ofNat 21) z (Int32.ofNat a) (Int32.ofNat n) s = mf_338_78 N z (Int32.ofNat a) (Int32.ofNat n) (Int32.ofNat (kn x)) (Int32.ofNat (szN x)) (Int64.ofNat (wN z)) s1 := by
    have E : mf_338 N (Int32.ofNat 21) z (Int32.ofNat a) (Int32.ofNat n) s = mf_338_13 N (Int32.ofNat 21) z (Int32.ofNat a) (Int32.ofNat n) (Int32.ofNat (kn x)) (Int32.ofNat (szN x)) s := by
      generalize kn x = kx at *
      generalize szN x = sx at *
      unfold mf_338 mf_338_0
      simp (disch := omega) only [ev_S, ev_P, ↓reduceIte, Nat.reduceEqDiff, Nat.reduceLeDiff, Nat.reduceAdd, Nat.reduceMul, Nat.reduceSub, reduceCtorEq, l32_0, l32_1, l32_2, l32_3, l32_4, l32_5, l32_6, l32_7, l32_8, l32_9, l32_10, l32_11, l32_12, l32_13, l32_14, l32_15, l32_16, l32_17, l32_18, l32_19, l32_20, l32_21, l32_22, l32_23, l32_24, l32_25, l32_26, l32_27, l32_28, l32_29, l32_33, l32_40, l32_41, l32_44, l32_45, l32_59, l32_61, l32_91, l32_93, l32_123, l32_125, za, kd]
    rw [E, mny, hs1]
    generalize kn x = kx at *
    generalize szN x = sx at *
    generalize Int64.ofNat (wN z) = WW
    unfold mf_338_27 mf_338_66
    simp (disch := omega) only [ev_S, ev_P, ↓reduceIte, Nat.reduceEqDiff, Nat.reduceLeDiff, Nat.reduceAdd, Nat.reduceMul, Nat.reduceSub, reduceCtorEq, l32_0, l32_1, l32_2, l32_3, l32_4, l32_5, l32_6, l32_7, l32_8, l32_9, l32_10, l32_11, l32_12, l32_13, l32_14, l32_15, l32_16, l32_17, l32_18, l32_19, l32_20, l32_21, l32_22, l32_23, l32_24, l32_25, l32_26, l32_27, l32_28, l32_29, l32_33, l32_40, l32_41, l32_44, l32_45, l32_59, l32_61, l32_91, l32_93, l32_123, l32_125]
  rw [E1]
  obtain ⟨g, hg⟩ : ∃ g, g = Nat.min (wN z) (szN x) := ⟨_, rfl⟩
  have hgs : g ≤ szN x := by rw [hg]; exact Nat.min_le_right _ _
  obtain ⟨o, ho⟩ : ∃ o, o = if z < 0 then 0 else g := ⟨_, rfl⟩
  have hog : o ≤ g := by
    rw [ho]
    split
    · exact Nat.zero_le _
    · exact Nat.le_refl _
  have E2 : mf_338_78 N z (Int32.ofNat a) (Int32.ofNat n) (Int32.ofNat (kn x)) (Int32.ofNat (szN x)) (Int64.ofNat (wN z)) s1 = mf_338_L9 N N 0 (Int32.ofNat o) (Int32.ofNat o) (Int32.ofNat a) (Int32.ofNat n) (Int32.ofNat (kn x)) (Int32.ofNat (szN x)) (Int32.ofNat g) s1 := by
    have E : mf_338_78 N z (Int32.ofNat a) (Int32.ofNat n) (Int32.ofNat (kn x)) (Int32.ofNat (szN x)) (Int64.ofNat (wN z)) s1 = mf_338_95 N z (Int32.ofNat a) (Int32.ofNat n) (Int32.ofNat (kn x)) (Int32.ofNat (szN x)) (Int32.ofNat g) s1 := by
      unfold mf_338_78
      rw [i64of32 (show szN x < 2147483648 by omega)]
      have hl := lg_le (a := wN z) (b := szN x) (by omega) (by omega)
      by_cases c : wN z ≤ szN x
      · rw [if_pos (show lg_cmp (Int64.ofNat (wN z)) (Int64.ofNat (szN x)) ≤ 0 from hl.mpr c)]
        unfold mf_338_92
        rw [hg, show Nat.min (wN z) (szN x) = wN z from Nat.min_eq_left c, t32 (by omega)]
      · rw [if_neg (show ¬ lg_cmp (Int64.ofNat (wN z)) (Int64.ofNat (szN x)) ≤ 0 from fun q => c (hl.mp q))]
        unfold mf_338_87
        rw [hg, show Nat.min (wN z) (szN x) = szN x from Nat.min_eq_right (by omega)]
    rw [E]
    unfold mf_338_95
    by_cases c : z < 0
    · rw [if_neg (Int32.not_le.mpr c), ho, if_pos c]
      rfl
    · rw [if_pos (Int32.not_lt.mp c), ho, if_neg c]
      rfl
  rw [E2]
  have hend : ∀ j, (Int32.ofNat o + Int32.ofNat (szN x) - Int32.ofNat g ≤ Int32.ofNat j) = (Int32.ofNat (o + szN x - g) ≤ Int32.ofNat j) := fun j => by
    rw [← Int32.ofNat_add, ev_S.2.2.2.2.1 (by omega)]
  have eL : (if z < 0 then (pts x).take (szN x - Nat.min (wN z) (szN x)) else (pts x).drop (Nat.min (wN z) (szN x))) = ((pts x).drop o).take (szN x - g) := by
    rw [← hg, ho]
    by_cases c : z < 0
    · rw [if_pos c, if_pos c, List.drop_zero]
    · rw [if_neg c, if_neg c, List.take_of_length_le (by rw [List.length_drop]; omega)]
  unfold ansDr
  rw [eL]
  have hlk : ∀ j, j ≤ szN x - g → (((pts x).drop o).take j).length = j := fun j hj => by
    rw [List.length_take, List.length_drop]
    omega
  refine lp (fun F j (s' : mS) => mf_338_L9 N F 0 (Int32.ofNat o) (Int32.ofNat (o + j)) (Int32.ofNat a) (Int32.ofNat n) (Int32.ofNat (kn x)) (Int32.ofNat (szN x)) (Int32.ofNat g) s') (szN x - g) (fun j s' => rG s s' n f f (((pts x).drop o).take j)) (fun R => ∃ s', R = some (s', none) ∧ rE s s' n f m (ansM (kn x) (((pts x).drop o).take (szN x - g)))) ?_ ?_ (szN x - g) 0 N s1 (Nat.zero_add _) (by omega) G0
  · intro F j s2 hj G _
    left
    have hoj : o + j < (pts x).length := by omega
    obtain ⟨s3, d1, d2⟩ := rG.elem (N := N) (i := o + j) G (by rw [hlk j (by omega)]; omega) (by omega) La hoj
    refine ⟨s3, ?_, ?_⟩
    · have hjd : j < ((pts x).drop o).length := by rw [List.length_drop]; omega
      rw [List.take_succ_eq_append_getElem hjd, List.getElem_drop]
      exact d2
    · show mf_338_113 N (mf_338_L9 N F) (Int32.ofNat a) (Int32.ofNat n) (Int32.ofNat (kn x)) (Int32.ofNat (szN x)) (Int32.ofNat g) (Int32.ofNat o) (Int32.ofNat (o + j)) s2 = _
      have n1 : ¬ o + szN x - g ≤ o + j := by omega
      unfold mf_338_113
      rw [if_neg (fun q => n1 ((i32le (by omega) (by omega)).mp ((hend (o + j)).mp q)))]
      generalize kn x = kx at *
      generalize szN x = sx at *
      unfold mf_338_126 mf_338_133
      simp (disch := omega) only [ev_S, ev_P, ↓reduceIte, Nat.reduceEqDiff, Nat.reduceLeDiff, Nat.reduceAdd, Nat.reduceMul, Nat.reduceSub, reduceCtorEq, l32_0, l32_1, l32_2, l32_3, l32_4, l32_5, l32_6, l32_7, l32_8, l32_9, l32_10, l32_11, l32_12, l32_13, l32_14, l32_15, l32_16, l32_17, l32_18, l32_19, l32_20, l32_21, l32_22, l32_23, l32_24, l32_25, l32_26, l32_27, l32_28, l32_29, l32_33, l32_40, l32_41, l32_44, l32_45, l32_59, l32_61, l32_91, l32_93, l32_123, l32_125, d1]
      rfl
  · intro F s2 G
    have hmem : ∀ y ∈ ((pts x).drop o).take (szN x - g), y ∈ pts x := fun y hy => List.mem_of_mem_drop (List.mem_of_mem_take hy)
    have hl := hlk (szN x - g) (Nat.le_refl _)
    obtain ⟨s3, b1, b2⟩ := rA.builds (N := N) (k := kn x) hN H G (pts_ok h0 hmem) (fun y hy => wf_pts wx y (hmem y hy)) (fun y hy => Nat.le_trans (pts_lv y (hmem y hy)) dx) (by omega) (by omega) (by rw [hl]; omega) (by rw [hl]; omega)
    refine ⟨s3, ?_, b2⟩
    show mf_338_113 N (mf_338_L9 N F) (Int32.ofNat a) (Int32.ofNat n) (Int32.ofNat (kn x)) (Int32.ofNat (szN x)) (Int32.ofNat g) (Int32.ofNat o) (Int32.ofNat (o + (szN x - g))) s2 = _
    unfold mf_338_113
    rw [if_pos ((hend (o + (szN x - g))).mpr ((i32le (by omega) (by omega)).mpr (by omega)))]
    generalize kn x = kx at *
    unfold mf_338_139 mf_338_147
    simp (disch := omega) only [ev_S, ev_P, ↓reduceIte, Nat.reduceEqDiff, Nat.reduceLeDiff, Nat.reduceAdd, Nat.reduceMul, Nat.reduceSub, reduceCtorEq, l32_0, l32_1, l32_2, l32_3, l32_4, l32_5, l32_6, l32_7, l32_8, l32_9, l32_10, l32_11, l32_12, l32_13, l32_14, l32_15, l32_16, l32_17, l32_18, l32_19, l32_20, l32_21, l32_22, l32_23, l32_24, l32_25, l32_26, l32_27, l32_28, l32_29, l32_33, l32_40, l32_41, l32_44, l32_45, l32_59, l32_61, l32_91, l32_93, l32_123, l32_125, b1]
theorem r_tke (hN : 170000 ≤ N) (H : rA s n f m ys) (La : LayN (s.2.2.1 47) (Rf f) a x) (hE : LayN (s.2.2.1 47) (Rf f) 154240 (nR [])) (h0 : ¬ kn x = 0) (wx : wfN x) (dx : x.1 ≤ 4) : ∃ s', mf_338 N (Int32.ofNat 20) z (Int32.ofNat a) (Int32.ofNat n) s = some (s', none) ∧ rE s s' n f m (ansTk x z) := by
  have H' := H
  obtain ⟨-, H2, H3, H4, H5, H6, H7, H8, H9, H10⟩ := H'
  have G0 : rG s (mI s 51 (Int32.ofNat n)) n f f [] := rG.nil H2
  obtain ⟨s1, hs1⟩ : ∃ s1, s1 = mI s 51 (Int32.ofNat n) := ⟨_, rfl⟩
  rw [← hs1] at G0
  have T := fun k => rA.trb (N := N) H s vfr.rf rfl rfl rfl k
  have lx := kn_le (x := x)
  have kd : s.2.2.1 47 a = Int32.ofNat (kn x) := by rw [(LayN_iff.mp La).2.kd.1]; exact kd_kn
  have hla := (LayN.lt La)
  have za := H.g.size (N := N) La (by omega)
  have hpl : (pts x).length = szN x := pts_len
  have s64 := wf64 wx
  have hW := wN_le z
  have E1 : mf_338 N (Int32.ofNat 20) z (Int32.ofNat a) (Int32.ofNat n) s = mf_338_52 N (Int32.ofNat 20) z (Int32.ofNat a) (Int32.ofNat n) (Int32.ofNat (kn x)) (Int32.ofNat (szN x)) (Int64.ofNat (wN z)) (Int64.ofNat (wN z)) (Int64.ofNat (if kn x = 1 then 64 else 20)) s := by
    have E : mf_338 N (Int32.ofNat 20) z (Int32.ofNat a) (Int32.ofNat n) s = mf_338_13 N (Int32.ofNat 20) z (Int32.ofNat a) (Int32.ofNat n) (Int32.ofNat (kn x)) (Int32.ofNat (szN x)) s := by
      generalize kn x = kx at *
      generalize szN x = sx at *
      unfold mf_338 mf_338_0
      simp (disch := omega) only [ev_S, ev_P, ↓reduceIte, Nat.reduceEqDiff, Nat.reduceLeDiff, Nat.reduceAdd, Nat.reduceMul, Nat.reduceSub, reduceCtorEq, l32_0, l32_1, l32_2, l32_3, l32_4, l32_5, l32_6, l32_7, l32_8, l32_9, l32_10, l32_11, l32_12, l32_13, l32_14, l32_15, l32_16, l32_17, l32_18, l32_19, l32_20, l32_21, l32_22, l32_23, l32_24, l32_25, l32_26, l32_27, l32_28, l32_29, l32_33, l32_40, l32_41, l32_44, l32_45, l32_59, l32_61, l32_91, l32_93, l32_123, l32_125, za, kd]
    rw [E, mny]
    unfold mf_338_27
    rw [if_neg (fun q => q rfl)]
    unfold mf_338_35
    by_cases c : kn x = 1
    · rw [if_neg (show ¬ ¬ Int32.ofNat (kn x) = 1 from fun q => q (by rw [c]; rfl)), if_pos c]
      rfl
    · rw [if_pos (show ¬ Int32.ofNat (kn x) = 1 from fun q => c (ofNat_inj (by omega) (by omega) q)), if_neg c]
      rfl
  rw [E1]
  have hl := lg_le (a := wN z) (b := if kn x = 1 then 64 else 20) (by omega) (by split <;> omega)
  have hlim : (if kn x = 1 then 64 else 20) ≤ 64 := by split <;> omega
  unfold ansTk
  unfold mf_338_52
  by_cases c : (if kn x = 1 then 64 else 20) < wN z
  · rw [if_pos c, if_neg (show ¬ lg_cmp (Int64.ofNat (wN z)) (Int64.ofNat (if kn x = 1 then 64 else 20)) ≤ 0 from fun q => absurd (hl.mp q) (by omega))]
    obtain ⟨b1, b2⟩ := T 2
    refine ⟨_, ?_, b2⟩
    unfold mf_338_56 mf_338_65
    simp (disch := omega) only [ev_S, ev_P, ↓reduceIte, Nat.reduceEqDiff, Nat.reduceLeDiff, Nat.reduceAdd, Nat.reduceMul, Nat.reduceSub, reduceCtorEq, l32_0, l32_1, l32_2, l32_3, l32_4, l32_5, l32_6, l32_7, l32_8, l32_9, l32_10, l32_11, l32_12, l32_13, l32_14, l32_15, l32_16, l32_17, l32_18, l32_19, l32_20, l32_21, l32_22, l32_23, l32_24, l32_25, l32_26, l32_27, l32_28, l32_29, l32_33, l32_40, l32_41, l32_44, l32_45, l32_59, l32_61, l32_91, l32_93, l32_123, l32_125, b1]
  · rw [if_neg c, if_pos (show lg_cmp (Int64.ofNat (wN z)) (Int64.ofNat (if kn x = 1 then 64 else 20)) ≤ 0 from hl.mpr (by omega))]
    have hW6 : wN z ≤ 64 := by omega
    obtain ⟨F0, hF0⟩ : ∃ F0, F0 = tkF (decide (z < 0)) (szN x) (wN z) := ⟨_, rfl⟩
    have E2 : mf_338_66 N (Int32.ofNat 20) z (Int32.ofNat a) (Int32.ofNat n) (Int32.ofNat (kn x)) (Int32.ofNat (szN x)) (Int64.ofNat (wN z)) s = mf_338_L2 N N 0 F0 (Int32.ofNat a) (Int32.ofNat n) (Int32.ofNat (kn x)) (Int32.ofNat (szN x)) (Int64.ofNat (wN z)) F0 s1 := by
      unfold mf_338_66
      rw [if_pos (by decide), ← hs1]
      unfold mf_338_148
      by_cases d : z < 0
      · rw [if_neg (Int32.not_le.mpr d), hF0, decide_eq_true d]
        unfold mf_338_152 mf_338_162
        rw [t32 (by omega)]
        rfl
      · rw [if_pos (Int32.not_lt.mp d), hF0, decide_eq_false d]
        rfl
    rw [E2]
    generalize hneg : decide (z < 0) = neg at *
    generalize wN z = W at *
    have st0 : F0 = F0 + Int32.ofNat 0 := (Int32.add_zero F0).symm
    have goal : ∃ s', mf_338_L2 N N 0 (F0 + Int32.ofNat 0) (Int32.ofNat a) (Int32.ofNat n) (Int32.ofNat (kn x)) (Int32.ofNat (szN x)) (Int64.ofNat W) F0 s1 = some (s', none) ∧ rE s s' n f m (ansM (kn x) ((List.range W).map (tkP x neg W))) := by
      refine lp (fun F j (s' : mS) => mf_338_L2 N F 0 (F0 + Int32.ofNat j) (Int32.ofNat a) (Int32.ofNat n) (Int32.ofNat (kn x)) (Int32.ofNat (szN x)) (Int64.ofNat W) F0 s') W (fun j s' => rG s s' n f f ((List.range j).map (tkP x neg W))) (fun R => ∃ s', R = some (s', none) ∧ rE s s' n f m (ansM (kn x) ((List.range W).map (tkP x neg W)))) ?_ ?_ W 0 N s1 (Nat.zero_add _) (by omega) G0
      · intro F j s2 hj G _
        left
        have hll : ((List.range j).map (tkP x neg W)).length = j := by rw [List.length_map, List.length_range]
        have nend : ¬ F0 + Int32.ofNat W ≤ F0 + Int32.ofNat j := by
          rw [hF0]
          exact fun q => absurd ((tkF_end s64 hW6 (by omega)).mp q) (by omega)
        have es : F0 + Int32.ofNat (j + 1) = F0 + Int32.ofNat j + 1 := by
          rw [hF0]
          exact tkF_s
        have E3 : mf_338_L2 N (F + 1) 0 (F0 + Int32.ofNat j) (Int32.ofNat a) (Int32.ofNat n) (Int32.ofNat (kn x)) (Int32.ofNat (szN x)) (Int64.ofNat W) F0 s2 = mf_338_179 N (mf_338_L2 N F) (Int32.ofNat a) (Int32.ofNat n) (Int32.ofNat (kn x)) (Int32.ofNat (szN x)) (Int64.ofNat W) F0 (F0 + Int32.ofNat j) s2 := by
          show mf_338_168 N (mf_338_L2 N F) (Int32.ofNat a) (Int32.ofNat n) (Int32.ofNat (kn x)) (Int32.ofNat (szN x)) (Int64.ofNat W) F0 (F0 + Int32.ofNat j) s2 = _
          unfold mf_338_168
          rw [t32 (by omega), if_neg nend]
        show ∃ a' : mS, _ ∧ mf_338_L2 N (F + 1) 0 _ _ _ _ _ _ _ s2 = _
        rw [E3, es]
        rw [range_map_s]
        cases ht : tkI neg (szN x) W j with
        | some k =>
          obtain ⟨k1, k2⟩ := tkI_some s64 hW6 hj ht
          rw [← hF0] at k2
          have ep : tkP x neg W j = (pts x)[k]'(by omega) := by
            unfold tkP
            rw [ht]
            exact getD_e (by omega)
          obtain ⟨s3, d1, d2⟩ := rG.elem (N := N) (i := k) G (by rw [hll]; omega) (by omega) La (by omega)
          refine ⟨s3, by rw [ep]; exact d2, ?_⟩
          rw [k2]
          have n1 : ¬ szN x ≤ k := by omega
          unfold mf_338_179
          rw [if_neg (i32n (by omega))]
          unfold mf_338_184
          rw [if_neg (fun q => n1 ((i32le (by omega) (by omega)).mp q))]
          unfold mf_338_191
          rw [d1]
          rfl
        | none =>
          have hno := tkI_none s64 hW6 hj ht
          rw [← hF0] at hno
          have ep : tkP x neg W j = filN x := by
            unfold tkP
            rw [ht]
          have E4 : mf_338_179 N (mf_338_L2 N F) (Int32.ofNat a) (Int32.ofNat n) (Int32.ofNat (kn x)) (Int32.ofNat (szN x)) (Int64.ofNat W) F0 (F0 + Int32.ofNat j) s2 = mf_338_201 N (mf_338_L2 N F) (Int32.ofNat a) (Int32.ofNat n) (Int32.ofNat (kn x)) (Int32.ofNat (szN x)) (Int64.ofNat W) F0 (F0 + Int32.ofNat j) s2 := by
            unfold mf_338_179
            by_cases c1 : F0 + Int32.ofNat j < 0
            · rw [if_pos c1]
            · rw [if_neg c1]
              unfold mf_338_184
              rw [if_pos (hno.resolve_left c1)]
          rw [E4, ep]
          unfold filN
          by_cases c2 : kn x = 2
          · rw [if_pos c2]
            have pu := rG.push (N := N) (k := Int32.ofNat 1) (v := Int32.ofNat 154240) (x := nR []) G (by rw [hll]; omega) (Or.inr ⟨rfl, rfl, 154240, rfl, LayN.congr (fun y z => ⟨Nat.lt_of_lt_of_le z.1 G.1.2.2, z.2⟩) (fun y z => G.2.2.1.2.2 y z.1) hE⟩)
            refine ⟨_, pu.2, ?_⟩
            have p1 := pu.1
            rw [c2]
            generalize F0 + Int32.ofNat j = e at *
            generalize szN x = sx at *
            unfold mf_338_201 mf_338_208 mf_338_213 mf_338_219 mf_338_226 mf_338_229
            simp (disch := omega) only [ev_S, ev_P, ↓reduceIte, Nat.reduceEqDiff, Nat.reduceLeDiff, Nat.reduceAdd, Nat.reduceMul, Nat.reduceSub, reduceCtorEq, l32_0, l32_1, l32_2, l32_3, l32_4, l32_5, l32_6, l32_7, l32_8, l32_9, l32_10, l32_11, l32_12, l32_13, l32_14, l32_15, l32_16, l32_17, l32_18, l32_19, l32_20, l32_21, l32_22, l32_23, l32_24, l32_25, l32_26, l32_27, l32_28, l32_29, l32_33, l32_40, l32_41, l32_44, l32_45, l32_59, l32_61, l32_91, l32_93, l32_123, l32_125, p1, l32_154240]
          · rw [if_neg c2]
            obtain ⟨s3, p1, p2⟩ := rG.pushZ (N := N) G (by rw [hll]; omega) 0
            have p1 : mf_291 N (Int32.ofNat 0) (Int32.ofNat 0) s2 = _ := p1
            refine ⟨s3, p2, ?_⟩
            generalize F0 + Int32.ofNat j = e at *
            generalize szN x = sx at *
            generalize kn x = kx at *
            unfold mf_338_201 mf_338_212 mf_338_213 mf_338_225 mf_338_226 mf_338_229
            simp (disch := omega) only [ev_S, ev_P, ↓reduceIte, Nat.reduceEqDiff, Nat.reduceLeDiff, Nat.reduceAdd, Nat.reduceMul, Nat.reduceSub, reduceCtorEq, l32_0, l32_1, l32_2, l32_3, l32_4, l32_5, l32_6, l32_7, l32_8, l32_9, l32_10, l32_11, l32_12, l32_13, l32_14, l32_15, l32_16, l32_17, l32_18, l32_19, l32_20, l32_21, l32_22, l32_23, l32_24, l32_25, l32_26, l32_27, l32_28, l32_29, l32_33, l32_40, l32_41, l32_44, l32_45, l32_59, l32_61, l32_91, l32_93, l32_123, l32_125, c2, p1]
      · intro F s2 G
        have hll : ((List.range W).map (tkP x neg W)).length = W := by rw [List.length_map, List.length_range]
        have ok := tkP_ok (x := x) h0 wx dx (W := W) (neg := neg)
        obtain ⟨s3, b1, b2⟩ := rA.builds (N := N) (k := kn x) hN H G ok.1 ok.2.1 ok.2.2 (by omega) (by omega) (by rw [hll]; omega) (by rw [hll]; omega)
        refine ⟨s3, ?_, b2⟩
        show mf_338_168 N (mf_338_L2 N F) (Int32.ofNat a) (Int32.ofNat n) (Int32.ofNat (kn x)) (Int32.ofNat (szN x)) (Int64.ofNat W) F0 (F0 + Int32.ofNat W) s2 = _
        unfold mf_338_168
        rw [t32 (by omega), if_pos (Int32.le_refl _)]
        generalize kn x = kx at *
        unfold mf_338_235 mf_338_243
        simp (disch := omega) only [ev_S, ev_P, ↓reduceIte, Nat.reduceEqDiff, Nat.reduceLeDiff, Nat.reduceAdd, Nat.reduceMul, Nat.reduceSub, reduceCtorEq, l32_0, l32_1, l32_2, l32_3, l32_4, l32_5, l32_6, l32_7, l32_8, l32_9, l32_10, l32_11, l32_12, l32_13, l32_14, l32_15, l32_16, l32_17, l32_18, l32_19, l32_20, l32_21, l32_22, l32_23, l32_24, l32_25, l32_26, l32_27, l32_28, l32_29, l32_33, l32_40, l32_41, l32_44, l32_45, l32_59, l32_61, l32_91, l32_93, l32_123, l32_125, b1]
    rw [← st0] at goal
    exact goal
end TDR
