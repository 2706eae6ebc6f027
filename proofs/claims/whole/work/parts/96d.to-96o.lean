-- ### 96d.pure.lean.txt
section
/-! ===== PURE: run (31): a THING read while another is gathered; one ===== -/
def tvV : Vw → List (List Int32)
  | .inr (.inr (.inl q)) => q
  | _ => []
abbrev tvN (x : Nod) : List (List Int32) := tvV (vw x)
theorem kn2' {x : Nod} (h : kn x = 2) : vw x = vT (tvN x) := by
  obtain ⟨q, e⟩ := kn2 h
  show vw x = vT (tvV (vw x))
  rw [e]
  rfl
theorem kn2_sz {x : Nod} (h : kn x = 2) : szN x = (tvN x).length := by
  show szV (vw x) = _
  rw [kn2' h]
  show _ = (tvV (vw x)).length
  rw [kn2' h]
  rfl
theorem tv_wf {x : Nod} (h : kn x = 2) (w : wfN x) : (tvN x).length ≤ 20 ∧ ((tvN x).map List.length).sum ≤ 200 ∧ ∀ r ∈ tvN x, r.length ≤ 64 := by
  have wv := vw_wf x w
  rw [kn2' h] at wv
  exact wv
theorem rv_wf {x : Nod} (h : kn x = 1) (w : wfN x) : (rvN x).length ≤ 64 := by
  have wv := vw_wf x w
  rw [kn1 h] at wv
  exact wv
section RDG
variable {N : Nat} {s s' : mS} {n f f' m a i : Nat} {x : Nod} {xs ys : List Nod}
theorem rG.lay (G : rG s s' n f f' xs) (h : LayN (s.2.2.1 47) (Rf f) a x) : LayN (s'.2.2.1 47) (Rf f) a x := LayN.congr (fun _ z => z) (fun y z => G.2.2.1.2.2 y z.1) h
theorem rG.size (G : rG s s' n f f' xs) (h : LayN (s.2.2.1 47) (Rf f) a x) (hf : f ≤ 166300) : mf_77 N (Int32.ofNat a) s' = some (s', some (.int (Int32.ofNat (szN x)))) := r_size (N := N) (s := s') (LayN_iff.mp (G.lay h)).2 (Nat.le_trans (LayN.lt h).1 hf)
theorem rG.partT (G : rG s s' n f f' xs) (h : LayN (s.2.2.1 47) (Rf f) a x) (hf : f ≤ 166300) (h2 : kn x = 2) (hi : i < (tvN x).length) : ∃ c, mf_294 N (Int32.ofNat a) (Int32.ofNat i) s' = some (s', some (.int (Int32.ofNat c))) ∧ LayN (s.2.2.1 47) (Rf f) c (nR (tvN x)[i]) := by
  have L := LayN_iff.mp (G.lay h)
  have hlt := (LayN.lt h).1
  rw [kn2' h2] at L hlt
  obtain ⟨c, c1, c2⟩ := r_partT (N := N) L.2 (Nat.le_trans hlt hf) hi
  exact ⟨c, c1, LayN.congr (fun _ z => z) (fun y hy => (G.2.2.1.2.2 y hy.1).symm) c2⟩
theorem rG.cell (G : rG s s' n f f' xs) {r : List Int32} (h : LayN (s.2.2.1 47) (Rf f) a (nR r)) (hi : i < r.length) : s'.2.2.1 47 (a + 2 + i) = r[i] := ((LayN_iff.mp (G.lay h)).2).2.2 i hi
theorem rowlt {h : Nat → Int32} {r : List Int32} (H : LayN h (Rf f) a (nR r)) : a + 2 + r.length ≤ f := by
  have hlt := (LayN.lt H).1
  rw [show wV wn (vw (nR r)) = 2 + r.length from rfl] at hlt
  omega
theorem lay1 {h : Nat → Int32} (H : LayN h (Rf f) a x) (h1 : kn x = 1) : LayN h (Rf f) a (nR (rvN x)) := LayN_vw (kn1 h1).symm H
theorem rvl.th {h : Nat → Int32} {k v : Int32} (H : rvl h f k v x) (h0 : ¬ kn x = 0) : k = Int32.ofNat 1 ∧ ∃ a : Nat, v = Int32.ofNat a ∧ LayN h (Rf f) a x := by
  rcases rvl.kz H with ⟨-, z⟩ | ⟨k1, -, k3⟩
  · exact absurd z h0
  · exact ⟨k1, k3⟩
theorem rvl.iv {h : Nat → Int32} {k v : Int32} (H : rvl h f k v x) (h0 : kn x = 0) : k = Int32.ofNat 0 ∧ v = ivN x := by
  rcases H with ⟨h1, q⟩ | ⟨-, q, -⟩
  · rw [kn0 h0] at q
    exact ⟨h1, (Option.some.inj q).symm⟩
  · rw [kn0 h0] at q
    cases q
theorem take_map_s {α β : Type} {r : List α} {g : α → β} (hi : i < r.length) : (r.take (i + 1)).map g = (r.take i).map g ++ [g r[i]] := by
  rw [List.take_succ_eq_append_getElem hi, List.map_append, List.map_cons, List.map_nil]
theorem len_take_map {α β : Type} {r : List α} {g : α → β} (hi : i ≤ r.length) : ((r.take i).map g).length = i := by
  rw [List.length_map, List.length_take]
  omega
/-- by how much free grows, row by row -/
theorem grT2 (q : List (List Int32)) : grw 2 (q.map nR) = 2 * q.length + (q.map List.length).sum := by
  show ((q.map nR).map fun x => 2 + szN x).sum = _
  induction q with
  | nil => rfl
  | cons r q ih =>
    rw [List.map_cons, List.map_cons, List.sum_cons, ih, List.map_cons, List.sum_cons, List.length_cons]
    show 2 + r.length + _ = _
    omega
theorem take_sum (q : List (List Int32)) (i : Nat) : ((q.take i).map List.length).sum ≤ (q.map List.length).sum := by
  conv => rhs; rw [← List.take_append_drop i q, List.map_append, List.sum_append]
  omega
theorem nZs_ok {zs : List Int32} : (∀ z ∈ zs.map nZ, kdN z = 0) ∧ (∀ z ∈ zs.map nZ, wfN z) ∧ ∀ z ∈ zs.map nZ, z.1 ≤ 4 := ⟨fun z hz => (by obtain ⟨j, -, rfl⟩ := List.mem_map.mp hz; rfl), fun z hz => (by obtain ⟨j, -, rfl⟩ := List.mem_map.mp hz; exact trivial), fun z hz => (by obtain ⟨j, -, rfl⟩ := List.mem_map.mp hz; exact Nat.zero_le _)⟩
theorem nRs_ok {q : List (List Int32)} (h : ∀ r ∈ q, r.length ≤ 64) : (∀ z ∈ q.map nR, kdN z = 1) ∧ (∀ z ∈ q.map nR, wfN z) ∧ ∀ z ∈ q.map nR, z.1 ≤ 4 := ⟨fun z hz => (by obtain ⟨j, -, rfl⟩ := List.mem_map.mp hz; rfl), fun z hz => (by obtain ⟨j, hj, rfl⟩ := List.mem_map.mp hz; exact nR_wf (h j hj)), fun z hz => (by obtain ⟨j, -, rfl⟩ := List.mem_map.mp hz; exact Nat.zero_le _)⟩
/-- INTS become a ROW -/
theorem rA.bRow {zs : List Int32} (hN : 170000 ≤ N) (H : rA s n f m ys) (G : rG s s' n f f (zs.map nZ)) (hl : zs.length ≤ 200) (hn : n + zs.length < 9000) : ∃ s'', mf_305 N (Int32.ofNat 1) (Int32.ofNat n) s' = some (s'', none) ∧ rE s s'' n f m (ansM 1 (zs.map nZ)) := rA.builds (k := 1) hN H G (Or.inl ⟨rfl, nZs_ok.1⟩) nZs_ok.2.1 nZs_ok.2.2 (by omega) (by omega) (by rw [List.length_map]; omega) (by rw [List.length_map]; omega)
/-- ROWS become a TABLE -/
theorem rA.bTab {q : List (List Int32)} (hN : 170000 ≤ N) (H : rA s n f m ys) (G : rG s s' n f (f + (2 * q.length + (q.map List.length).sum)) (q.map nR)) (hq : ∀ r ∈ q, r.length ≤ 64) (h300 : 2 * q.length + (q.map List.length).sum ≤ 300) (hn : n + q.length < 9000) : ∃ s'', mf_305 N (Int32.ofNat 2) (Int32.ofNat n) s' = some (s'', none) ∧ rE s s'' n f m (ansM 2 (q.map nR)) := rA.builds (k := 2) hN H G (Or.inr (Or.inl ⟨rfl, (nRs_ok hq).1⟩)) (nRs_ok hq).2.1 (nRs_ok hq).2.2 (by rw [grT2]; exact Nat.le_refl _) (by omega) (by rw [List.length_map]; omega) (by rw [List.length_map]; omega)
end RDG
def ans1 (g : Int32 → Int32) (x : Nod) : Ans := if kn x = 3 then .inl 3 else if kn x = 0 then .inr (nZ (g (ivN x))) else if kn x = 1 then ansM 1 (((rvN x).map g).map nZ) else ansM 2 (((tvN x).map fun r => r.map g).map nR)
section ONE
variable {N sg : Nat} {s s' : mS} {n f f' m i : Nat} {x : Nod} {g : Int32 → Int32}
theorem r_one (hN : 170000 ≤ N) (hg : ∀ N a s, mf_322 N (Int32.ofNat sg) a s = some (s, some (.int (g a)))) (H : rA s n f m [x]) : ∃ s', mf_323 N (Int32.ofNat sg) s = some (s', none) ∧ rE s s' n f m (ans1 g x) := by
  have H' := H
  obtain ⟨⟨h51, hv⟩, H2, H3, H4, H5, H6, H7, H8, H9, H10⟩ := H'
  have h51 : s.1 51 = Int32.ofNat (n + 1) := h51
  have hx : rvl (s.2.2.1 47) f (s.2.2.1 49 n) (s.2.2.1 50 n) x := hv 0 (by show 0 < 1; omega)
  have kx := r_kindAt (N := N) hx (by omega) (by omega)
  rw [kd_kn] at kx
  have lx := kn_le (x := x)
  have wx : wfN x := H9 x List.mem_cons_self
  have G0 : rG s (mI s 51 (Int32.ofNat n)) n f f [] := rG.nil H2
  obtain ⟨s1, hs1⟩ : ∃ s1, s1 = mI s 51 (Int32.ofNat n) := ⟨_, rfl⟩
  rw [← hs1] at G0
  generalize hxk : s.2.2.1 49 n = xk at *
  generalize hxv : s.2.2.1 50 n = xv at *
  unfold ans1
  by_cases c3 : kn x = 3
  · rw [if_pos c3]
    obtain ⟨b1, b2⟩ := rG.trb (N := N) H G0 (by omega) 3
    refine ⟨_, ?_, b2⟩
    rw [hs1] at b1 ⊢
    have b1 : mf_301 N (Int32.ofNat 3) (s.1 70) (mI s 51 (Int32.ofNat n)) = some (trb (mI s 51 (Int32.ofNat n)) (Int32.ofNat 3) (s.1 70), none) := b1
    rw [c3] at kx
    unfold mf_323 mf_323_0 mf_323_10 mf_323_42 mf_323_51 mf_323_213
    simp (disch := omega) only [ev_S, ev_P, ↓reduceIte, Nat.reduceEqDiff, Nat.reduceLeDiff, Nat.reduceAdd, Nat.reduceMul, Nat.reduceSub, reduceCtorEq, l32_0, l32_1, l32_2, l32_3, l32_4, l32_5, l32_6, l32_7, l32_8, l32_9, l32_10, l32_11, l32_12, l32_13, l32_14, l32_15, l32_16, l32_17, l32_18, l32_19, l32_20, l32_21, l32_22, l32_23, l32_24, l32_25, l32_26, l32_27, l32_28, l32_29, l32_33, l32_40, l32_41, l32_44, l32_45, l32_59, l32_61, l32_91, l32_93, l32_123, l32_125, h51, kx, b1]
  · rw [if_neg c3]
    have E1 : mf_323 N (Int32.ofNat sg) s = mf_323_54 N (Int32.ofNat sg) (Int32.ofNat (kn x)) xv (Int32.ofNat n) s1 := by
      rw [hs1]
      generalize kn x = kx' at *
      unfold mf_323 mf_323_0 mf_323_10
      simp (disch := omega) only [ev_S, ev_P, ↓reduceIte, Nat.reduceEqDiff, Nat.reduceLeDiff, Nat.reduceAdd, Nat.reduceMul, Nat.reduceSub, reduceCtorEq, l32_0, l32_1, l32_2, l32_3, l32_4, l32_5, l32_6, l32_7, l32_8, l32_9, l32_10, l32_11, l32_12, l32_13, l32_14, l32_15, l32_16, l32_17, l32_18, l32_19, l32_20, l32_21, l32_22, l32_23, l32_24, l32_25, l32_26, l32_27, l32_28, l32_29, l32_33, l32_40, l32_41, l32_44, l32_45, l32_59, l32_61, l32_91, l32_93, l32_123, l32_125, h51, kx, c3, hxv]
    rw [E1]
    by_cases c0 : kn x = 0
    · rw [if_pos c0, c0, (hx.iv c0).2]
      obtain ⟨s2, p1, p2⟩ := rG.pushZ (N := N) G0 (by show n + 0 < 9000; omega) (g (ivN x))
      refine ⟨s2, ?_, rG.int H p2 rfl⟩
      have hg1 := hg N (ivN x) s1
      unfold mf_323_54 mf_323_58 mf_323_65 mf_323_68 mf_323_213
      simp (disch := omega) only [ev_S, ev_P, ↓reduceIte, Nat.reduceEqDiff, Nat.reduceLeDiff, Nat.reduceAdd, Nat.reduceMul, Nat.reduceSub, reduceCtorEq, l32_0, l32_1, l32_2, l32_3, l32_4, l32_5, l32_6, l32_7, l32_8, l32_9, l32_10, l32_11, l32_12, l32_13, l32_14, l32_15, l32_16, l32_17, l32_18, l32_19, l32_20, l32_21, l32_22, l32_23, l32_24, l32_25, l32_26, l32_27, l32_28, l32_29, l32_33, l32_40, l32_41, l32_44, l32_45, l32_59, l32_61, l32_91, l32_93, l32_123, l32_125, hg1, p1]
    · rw [if_neg c0]
      obtain ⟨-, a, ea, La⟩ := hx.th c0
      rw [ea]
      by_cases c1 : kn x = 1
      · rw [if_pos c1, c1]
        have Lr := lay1 La c1
        have hr := rv_wf c1 wx
        have hlt := rowlt Lr
        have esz := kn1_sz c1
        generalize hrr : rvN x = r at *
        have E2 : mf_323_54 N (Int32.ofNat sg) (Int32.ofNat 1) (Int32.ofNat a) (Int32.ofNat n) s1 = mf_323_L6 N N 0 (Int32.ofNat sg) (Int32.ofNat a) (Int32.ofNat n) (Int32.ofNat 0) s1 := by
          unfold mf_323_54 mf_323_71 mf_323_76
          simp (disch := omega) only [ev_S, ev_P, ↓reduceIte, Nat.reduceEqDiff, Nat.reduceLeDiff, Nat.reduceAdd, Nat.reduceMul, Nat.reduceSub, reduceCtorEq, l32_0, l32_1, l32_2, l32_3, l32_4, l32_5, l32_6, l32_7, l32_8, l32_9, l32_10, l32_11, l32_12, l32_13, l32_14, l32_15, l32_16, l32_17, l32_18, l32_19, l32_20, l32_21, l32_22, l32_23, l32_24, l32_25, l32_26, l32_27, l32_28, l32_29, l32_33, l32_40, l32_41, l32_44, l32_45, l32_59, l32_61, l32_91, l32_93, l32_123, l32_125]
        rw [E2]
        refine lp (fun F i (s' : mS) => mf_323_L6 N F 0 (Int32.ofNat sg) (Int32.ofNat a) (Int32.ofNat n) (Int32.ofNat i) s') r.length (fun i s' => rG s s' n f f (((r.take i).map g).map nZ)) (fun R => ∃ s', R = some (s', none) ∧ rE s s' n f m (ansM 1 ((r.map g).map nZ))) ?_ ?_ r.length 0 N s1 (Nat.zero_add _) (by omega) G0
        · intro F i s2 hi G _
          left
          have zz := G.size (N := N) La (by omega)
          rw [esz] at zz
          have cc := G.cell Lr hi
          have hll : (((r.take i).map g).map nZ).length = i := by rw [List.length_map, len_take_map (by omega)]
          have n1 : ¬ r.length ≤ i := by omega
          have hg1 := hg N r[i] s2
          obtain ⟨s3, p1, p2⟩ := rG.pushZ (N := N) G (by rw [hll]; omega) (g r[i])
          refine ⟨s3, ?_, ?_⟩
          · rw [take_map_s hi, List.map_append]
            exact p2
          · show mf_323_79 N (mf_323_L6 N F) (Int32.ofNat sg) (Int32.ofNat a) (Int32.ofNat n) (Int32.ofNat i) s2 = _
            unfold mf_323_79 mf_323_86 mf_323_89 mf_323_106 mf_323_109
            simp (disch := omega) only [ev_S, ev_P, ↓reduceIte, Nat.reduceEqDiff, Nat.reduceLeDiff, Nat.reduceAdd, Nat.reduceMul, Nat.reduceSub, reduceCtorEq, l32_0, l32_1, l32_2, l32_3, l32_4, l32_5, l32_6, l32_7, l32_8, l32_9, l32_10, l32_11, l32_12, l32_13, l32_14, l32_15, l32_16, l32_17, l32_18, l32_19, l32_20, l32_21, l32_22, l32_23, l32_24, l32_25, l32_26, l32_27, l32_28, l32_29, l32_33, l32_40, l32_41, l32_44, l32_45, l32_59, l32_61, l32_91, l32_93, l32_123, l32_125, zz, n1, cc, hg1, p1]
        · intro F s2 G
          rw [List.take_length] at G
          have zz := G.size (N := N) La (by omega)
          rw [esz] at zz
          obtain ⟨s3, b1, b2⟩ := rA.bRow (N := N) hN H G (by rw [List.length_map]; omega) (by rw [List.length_map]; omega)
          refine ⟨s3, ?_, b2⟩
          show mf_323_79 N (mf_323_L6 N F) (Int32.ofNat sg) (Int32.ofNat a) (Int32.ofNat n) (Int32.ofNat r.length) s2 = _
          unfold mf_323_79 mf_323_86 mf_323_115 mf_323_122 mf_323_213
          simp (disch := omega) only [ev_S, ev_P, ↓reduceIte, Nat.reduceEqDiff, Nat.reduceLeDiff, Nat.reduceAdd, Nat.reduceMul, Nat.reduceSub, reduceCtorEq, l32_0, l32_1, l32_2, l32_3, l32_4, l32_5, l32_6, l32_7, l32_8, l32_9, l32_10, l32_11, l32_12, l32_13, l32_14, l32_15, l32_16, l32_17, l32_18, l32_19, l32_20, l32_21, l32_22, l32_23, l32_24, l32_25, l32_26, l32_27, l32_28, l32_29, l32_33, l32_40, l32_41, l32_44, l32_45, l32_59, l32_61, l32_91, l32_93, l32_123, l32_125, zz, b1]
      · rw [if_neg c1]
        have c2 : kn x = 2 := by omega
        rw [c2]
        have tw := tv_wf c2 wx
        have esz := kn2_sz c2
        have PT := fun i (hi : i < (tvN x).length) s2 fx xs (G : rG s s2 n f fx xs) => rG.partT (N := N) G La (by omega) c2 hi
        generalize tvN x = q at *
        have E2 : mf_323_54 N (Int32.ofNat sg) (Int32.ofNat 2) (Int32.ofNat a) (Int32.ofNat n) s1 = mf_323_L2 N N 0 (Int32.ofNat sg) (Int32.ofNat a) (Int32.ofNat n) (Int32.ofNat 0) (Int32.ofNat 0) (Int32.ofNat 0) (Int32.ofNat 0) s1 := by
          unfold mf_323_54 mf_323_71 mf_323_125
          simp (disch := omega) only [ev_S, ev_P, ↓reduceIte, Nat.reduceEqDiff, Nat.reduceLeDiff, Nat.reduceAdd, Nat.reduceMul, Nat.reduceSub, reduceCtorEq, l32_0, l32_1, l32_2, l32_3, l32_4, l32_5, l32_6, l32_7, l32_8, l32_9, l32_10, l32_11, l32_12, l32_13, l32_14, l32_15, l32_16, l32_17, l32_18, l32_19, l32_20, l32_21, l32_22, l32_23, l32_24, l32_25, l32_26, l32_27, l32_28, l32_29, l32_33, l32_40, l32_41, l32_44, l32_45, l32_59, l32_61, l32_91, l32_93, l32_123, l32_125]
        rw [E2]
        have hsums : ∀ i, ((((q.take i).map fun r => r.map g)).map List.length).sum ≤ 200 := fun i => by
          rw [List.map_map]
          have : ((q.take i).map (List.length ∘ fun r => r.map g)) = (q.take i).map List.length := by
            congr 1
            funext r
            exact List.length_map _
          rw [this]
          exact Nat.le_trans (take_sum q i) tw.2.1
        refine lpo (fun F i (s' : mS) => mf_323_L2 N F 0 (Int32.ofNat sg) (Int32.ofNat a) (Int32.ofNat n) (Int32.ofNat i) (Int32.ofNat 0) (Int32.ofNat 0) (Int32.ofNat 0) s') q.length 67 (fun i s' => rG s s' n f (f + (2 * ((q.take i).map fun r => r.map g).length + ((((q.take i).map fun r => r.map g)).map List.length).sum)) (((q.take i).map fun r => r.map g).map nR)) (fun R => ∃ s', R = some (s', none) ∧ rE s s' n f m (ansM 2 ((q.map fun r => r.map g).map nR))) ?_ ?_ q.length 0 N s1 (Nat.zero_add _) (by omega) G0
        · intro F i s2 hi G
          left
          have hsi := hsums i
          have hl0 : ((q.take i).map fun r => r.map g).length = i := len_take_map (by omega)
          have hll : (((q.take i).map fun r => r.map g).map nR).length = i := by rw [List.length_map, hl0]
          have zz := G.size (N := N) La (by omega)
          rw [esz] at zz
          have n1 : ¬ q.length ≤ i := by omega
          obtain ⟨c, d1, d2⟩ := PT i hi s2 _ _ G
          have hq64 := tw.2.2 _ (List.getElem_mem hi)
          have hlt := rowlt d2
          have sp := G.1.1
          rw [hll] at sp
          have E3 : mf_323_L2 N (F + 67) 0 (Int32.ofNat sg) (Int32.ofNat a) (Int32.ofNat n) (Int32.ofNat i) (Int32.ofNat 0) (Int32.ofNat 0) (Int32.ofNat 0) s2 = mf_323_L2 N (F + 66) 1 (Int32.ofNat sg) (Int32.ofNat a) (Int32.ofNat n) (Int32.ofNat i) (Int32.ofNat c) (Int32.ofNat (n + i)) (Int32.ofNat 0) s2 := by
            show mf_323_128 N (mf_323_L2 N (F + 66)) (Int32.ofNat sg) (Int32.ofNat a) (Int32.ofNat n) (Int32.ofNat i) s2 = _
            unfold mf_323_128 mf_323_135 mf_323_138 mf_323_145
            simp (disch := omega) only [ev_S, ev_P, ↓reduceIte, Nat.reduceEqDiff, Nat.reduceLeDiff, Nat.reduceAdd, Nat.reduceMul, Nat.reduceSub, reduceCtorEq, l32_0, l32_1, l32_2, l32_3, l32_4, l32_5, l32_6, l32_7, l32_8, l32_9, l32_10, l32_11, l32_12, l32_13, l32_14, l32_15, l32_16, l32_17, l32_18, l32_19, l32_20, l32_21, l32_22, l32_23, l32_24, l32_25, l32_26, l32_27, l32_28, l32_29, l32_33, l32_40, l32_41, l32_44, l32_45, l32_59, l32_61, l32_91, l32_93, l32_123, l32_125, zz, n1, d1, sp]
          rw [E3]
          rcases lpi (fun F j (s' : mS) => mf_323_L2 N F 1 (Int32.ofNat sg) (Int32.ofNat a) (Int32.ofNat n) (Int32.ofNat i) (Int32.ofNat c) (Int32.ofNat (n + i)) (Int32.ofNat j) s') q[i].length (fun j s' => rG s s' n f (f + (2 * ((q.take i).map fun r => r.map g).length + ((((q.take i).map fun r => r.map g)).map List.length).sum)) (((q.take i).map fun r => r.map g).map nR ++ ((q[i].take j).map g).map nZ)) (fun _ => False) (by
            intro F j s3 hj G3
            left
            have z3 := G3.size (N := N) d2 (by omega)
            have z3 : mf_77 N (Int32.ofNat c) s3 = some (s3, some (.int (Int32.ofNat q[i].length))) := z3
            have cc := G3.cell d2 hj
            have n2 : ¬ q[i].length ≤ j := by omega
            have hg1 := hg N q[i][j] s3
            obtain ⟨s4, p1, p2⟩ := rG.pushZ (N := N) G3 (by rw [List.length_append, hll, List.length_map, len_take_map (by omega)]; omega) (g q[i][j])
            refine ⟨s4, ?_, ?_⟩
            · rw [take_map_s hj, List.map_append, ← List.append_assoc]
              exact p2
            · show mf_323_156 N (mf_323_L2 N F) (Int32.ofNat sg) (Int32.ofNat a) (Int32.ofNat n) (Int32.ofNat i) (Int32.ofNat c) (Int32.ofNat (n + i)) (Int32.ofNat j) s3 = _
              unfold mf_323_156 mf_323_164 mf_323_167 mf_323_185 mf_323_188
              simp (disch := omega) only [ev_S, ev_P, ↓reduceIte, Nat.reduceEqDiff, Nat.reduceLeDiff, Nat.reduceAdd, Nat.reduceMul, Nat.reduceSub, reduceCtorEq, l32_0, l32_1, l32_2, l32_3, l32_4, l32_5, l32_6, l32_7, l32_8, l32_9, l32_10, l32_11, l32_12, l32_13, l32_14, l32_15, l32_16, l32_17, l32_18, l32_19, l32_20, l32_21, l32_22, l32_23, l32_24, l32_25, l32_26, l32_27, l32_28, l32_29, l32_33, l32_40, l32_41, l32_44, l32_45, l32_59, l32_61, l32_91, l32_93, l32_123, l32_125, z3, n2, cc, hg1, p1]) q[i].length 0 (F + 66 - q[i].length) s2 (Nat.zero_add _) (by rw [List.take_zero, List.map_nil, List.map_nil, List.append_nil]; exact G) with ⟨s3, G3, e3⟩ | h
          · rw [List.take_length] at G3
            rw [show F + 66 - q[i].length + q[i].length = F + 66 by omega] at e3
            have z3 := G3.size (N := N) d2 (by omega)
            have z3 : mf_77 N (Int32.ofNat c) s3 = some (s3, some (.int (Int32.ofNat q[i].length))) := z3
            have hgl : (q[i].map g).length = q[i].length := List.length_map _
            obtain ⟨s4, w1, w2⟩ := rG.row (N := N) hN G3 (by rw [hll, hgl]; omega) (by rw [hgl]; omega)
            rw [hll] at w1
            rw [hgl] at w2
            refine ⟨s4, F + 65 - q[i].length, ?_, by omega, ?_⟩
            · rw [take_map_s hi, List.map_append, List.map_append, List.length_append, List.sum_append]
              have e : f + (2 * (((q.take i).map fun r => r.map g).length + [q[i].map g].length) + ((((q.take i).map fun r => r.map g).map List.length).sum + ([q[i].map g].map List.length).sum)) = f + (2 * ((q.take i).map fun r => r.map g).length + ((((q.take i).map fun r => r.map g)).map List.length).sum) + 2 + q[i].length := by
                show f + (2 * (_ + 1) + (_ + ((q[i].map g).length + 0))) = _
                rw [hgl]
                omega
              rw [e]
              exact w2
            · show mf_323_L2 N (F + 66) 1 _ _ _ _ _ _ _ s2 = _
              rw [e3, show F + 66 - q[i].length = F + 65 - q[i].length + 1 by omega]
              show mf_323_156 N (mf_323_L2 N (F + 65 - q[i].length)) (Int32.ofNat sg) (Int32.ofNat a) (Int32.ofNat n) (Int32.ofNat i) (Int32.ofNat c) (Int32.ofNat (n + i)) (Int32.ofNat q[i].length) s3 = _
              unfold mf_323_156 mf_323_164 mf_323_194 mf_323_200
              simp (disch := omega) only [ev_S, ev_P, ↓reduceIte, Nat.reduceEqDiff, Nat.reduceLeDiff, Nat.reduceAdd, Nat.reduceMul, Nat.reduceSub, reduceCtorEq, l32_0, l32_1, l32_2, l32_3, l32_4, l32_5, l32_6, l32_7, l32_8, l32_9, l32_10, l32_11, l32_12, l32_13, l32_14, l32_15, l32_16, l32_17, l32_18, l32_19, l32_20, l32_21, l32_22, l32_23, l32_24, l32_25, l32_26, l32_27, l32_28, l32_29, l32_33, l32_40, l32_41, l32_44, l32_45, l32_59, l32_61, l32_91, l32_93, l32_123, l32_125, z3, w1]
          · exact h.elim
        · intro F s2 G
          rw [List.take_length] at G
          have hsi := hsums q.length
          rw [List.take_length] at hsi
          have zz := G.size (N := N) La (by omega)
          rw [esz] at zz
          obtain ⟨s3, b1, b2⟩ := rA.bTab (N := N) hN H G (fun r hr => by
            obtain ⟨r', hr', rfl⟩ := List.mem_map.mp hr
            rw [List.length_map]
            exact tw.2.2 _ hr') (by rw [List.length_map]; omega) (by rw [List.length_map]; omega)
          refine ⟨s3, ?_, b2⟩
          show mf_323_128 N (mf_323_L2 N F) (Int32.ofNat sg) (Int32.ofNat a) (Int32.ofNat n) (Int32.ofNat q.length) s2 = _
          unfold mf_323_128 mf_323_135 mf_323_206 mf_323_213
          simp (disch := omega) only [ev_S, ev_P, ↓reduceIte, Nat.reduceEqDiff, Nat.reduceLeDiff, Nat.reduceAdd, Nat.reduceMul, Nat.reduceSub, reduceCtorEq, l32_0, l32_1, l32_2, l32_3, l32_4, l32_5, l32_6, l32_7, l32_8, l32_9, l32_10, l32_11, l32_12, l32_13, l32_14, l32_15, l32_16, l32_17, l32_18, l32_19, l32_20, l32_21, l32_22, l32_23, l32_24, l32_25, l32_26, l32_27, l32_28, l32_29, l32_33, l32_40, l32_41, l32_44, l32_45, l32_59, l32_61, l32_91, l32_93, l32_123, l32_125, zz, b1]
end ONE
end
-- ### 96e.pure.lean.txt
section
/-! ===== PURE: run (32): one value's signs are two values' with 0 ===== -/
section BRI
variable {x : Nod}
theorem range_getD {α β : Type} {r : List α} {d : α} {h : α → β} : (List.range r.length).map (fun j => h (r.getD j d)) = r.map h := by
  apply List.ext_getElem
  · rw [List.length_map, List.length_map, List.length_range]
  · intro i h1 h2
    rw [List.length_map] at h2
    rw [List.getElem_map, List.getElem_map, List.getElem_range, List.getD_eq_getElem?_getD, List.getElem?_eq_getElem h2]
    rfl
theorem any_none {n : Nat} {p : Nat → Bool} (h : ∀ i, p i = false) : (List.range n).any p = false := by
  rw [List.any_eq_false]
  intro i _
  rw [h i]
  intro z
  cases z
theorem ans_neg : ansT 45 (nZ 0) x = ans1 (fun a => -a) x := by
  have eg : ∀ a : Int32, ac 45 0 a = -a := fun a => by
    show (0 : Int32) - a = -a
    exact Int32.zero_sub a
  have lx := kn_le (x := x)
  have hb : bdk 45 (nZ 0) x = false := any_none (fun i => any_none (fun j => rfl))
  unfold ansT ans1
  rw [unk_0 (Or.inl rfl), hb]
  have e0 : kn (nZ 0) = 0 := rfl
  rw [e0]
  by_cases c3 : kn x = 3
  · rw [if_pos (Or.inr c3), if_pos c3]
  · rw [if_neg (show ¬ (0 = 3 ∨ kn x = 3) by omega), if_neg c3]
    by_cases c0 : kn x = 0
    · rw [if_pos ⟨rfl, c0⟩, if_pos c0]
      show Sum.inr (nZ (ac 45 0 (ivN x))) = _
      rw [eg]
    · rw [if_neg (show ¬ (0 = 0 ∧ kn x = 0) from fun z => c0 z.2), if_neg c0, if_neg (by intro h; cases h), if_neg (by intro h; cases h)]
      by_cases c1 : kn x = 1
      · rw [if_neg (show ¬ (0 = 2 ∨ kn x = 2) by omega), if_pos c1]
        have e : row2 45 (bsd (nZ 0) 0) (bsd x 0) = (rvN x).map fun a => -a := by
          show row2 45 (.inl 0) (bsdV (vw x) 0) = _
          rw [kn1 c1]
          show (List.range (rvN x).length).map (fun j => ac 45 0 ((rvN x).getD j 0)) = _
          rw [range_getD (h := fun a => ac 45 0 a)]
          congr 1
        rw [e]
      · have c2 : kn x = 2 := by omega
        rw [if_pos (Or.inr c2), if_neg c1]
        have hr : rws (nZ 0) x = (tvN x).length := by
          unfold rws
          rw [e0, if_neg (by omega), if_pos c2, kn2_sz c2]
        rw [hr]
        have e : (List.range (tvN x).length).map (fun i => nR (row2 45 (bsd (nZ 0) i) (bsd x i))) = ((tvN x).map fun r => r.map fun a => -a).map nR := by
          rw [List.map_map]
          rw [← range_getD (d := []) (h := nR ∘ fun r : List Int32 => r.map fun a => -a)]
          congr 1
          funext i
          show nR (row2 45 (.inl 0) (bsdV (vw x) i)) = nR (((tvN x).getD i []).map fun a => -a)
          rw [kn2' c2]
          show nR ((List.range ((tvN x).getD i []).length).map (fun j => ac 45 0 (((tvN x).getD i []).getD j 0))) = _
          rw [range_getD (h := fun a => ac 45 0 a)]
          congr 3
        rw [e]
theorem ans_not : ansT 256 x (nZ 0) = ans1 (fun a => if a = 0 then 1 else 0) x := by
  have eg : ∀ a : Int32, ac 256 a 0 = if a = 0 then 1 else 0 := fun a => by
    show bI (decide (a = 0)) = _
    by_cases c : a = 0
    · rw [decide_eq_true c, if_pos c]
      rfl
    · rw [decide_eq_false c, if_neg c]
      rfl
  have lx := kn_le (x := x)
  have hb : bdk 256 x (nZ 0) = false := any_none (fun i => any_none (fun j => rfl))
  unfold ansT ans1
  rw [unk_0 (Or.inr rfl), hb]
  have e0 : kn (nZ 0) = 0 := rfl
  rw [e0]
  by_cases c3 : kn x = 3
  · rw [if_pos (Or.inl c3), if_pos c3]
  · rw [if_neg (show ¬ (kn x = 3 ∨ 0 = 3) by omega), if_neg c3]
    by_cases c0 : kn x = 0
    · rw [if_pos ⟨c0, rfl⟩, if_pos c0]
      show Sum.inr (nZ (ac 256 (ivN x) 0)) = _
      rw [eg]
    · rw [if_neg (show ¬ (kn x = 0 ∧ 0 = 0) from fun z => c0 z.1), if_neg c0, if_neg (by intro h; cases h), if_neg (by intro h; cases h)]
      by_cases c1 : kn x = 1
      · rw [if_neg (show ¬ (kn x = 2 ∨ 0 = 2) by omega), if_pos c1]
        have e : row2 256 (bsd x 0) (bsd (nZ 0) 0) = (rvN x).map fun a => if a = 0 then 1 else 0 := by
          show row2 256 (bsdV (vw x) 0) (.inl 0) = _
          rw [kn1 c1]
          show (List.range (rvN x).length).map (fun j => ac 256 ((rvN x).getD j 0) 0) = _
          rw [range_getD (h := fun a => ac 256 a 0)]
          congr 1
          funext a
          exact eg a
        rw [e]
      · have c2 : kn x = 2 := by omega
        rw [if_pos (Or.inl c2), if_neg c1]
        have hr : rws x (nZ 0) = (tvN x).length := by
          unfold rws
          rw [if_pos c2, kn2_sz c2]
        rw [hr]
        have e : (List.range (tvN x).length).map (fun i => nR (row2 256 (bsd x i) (bsd (nZ 0) i))) = ((tvN x).map fun r => r.map fun a => if a = 0 then 1 else 0).map nR := by
          rw [List.map_map]
          rw [← range_getD (d := []) (h := nR ∘ fun r : List Int32 => r.map fun a => if a = 0 then 1 else 0)]
          congr 1
          funext i
          show nR (row2 256 (bsdV (vw x) i) (.inl 0)) = nR (((tvN x).getD i []).map fun a => if a = 0 then 1 else 0)
          rw [kn2' c2]
          show nR ((List.range ((tvN x).getD i []).length).map (fun j => ac 256 (((tvN x).getD i []).getD j 0) 0)) = _
          rw [range_getD (h := fun a => ac 256 a 0)]
          congr 3
          funext a
          exact eg a
        rw [e]
theorem r_neg {N : Nat} {s : mS} {n f m : Nat} (hN : 170000 ≤ N) (H : rA s n f m [x]) : ∃ s', mf_323 N (Int32.ofNat 45) s = some (s', none) ∧ rE s s' n f m (ansT 45 (nZ 0) x) := by
  rw [ans_neg]
  exact r_one hN (fun N a s => rfl) H
theorem r_not {N : Nat} {s : mS} {n f m : Nat} (hN : 170000 ≤ N) (H : rA s n f m [x]) : ∃ s', mf_323 N (Int32.ofNat 33) s = some (s', none) ∧ rE s s' n f m (ansT 256 x (nZ 0)) := by
  rw [ans_not]
  refine r_one hN (fun N a s => ?_) H
  by_cases c : a = 0
  · rw [if_pos c, c]
    rfl
  · rw [if_neg c]
    show (if ¬ a = 0 then some (s, some (Value.int 0)) else some (s, some (Value.int 1))) = _
    rw [if_pos c]
end BRI
end
-- ### 96f.pure.lean.txt
section
/-! ===== PURE: run (33): row, iota, pack ===== -/
theorem i32neg {z : Int32} (h : z < 0) {k : Nat} (hk : k < 2147483648) : z < Int32.ofNat k ∧ z ≤ Int32.ofNat k ∧ ¬ Int32.ofNat k ≤ z ∧ ¬ Int32.ofNat k < z := by
  have h0 : (0 : Int32) ≤ Int32.ofNat k := Int32.not_lt.mp (i32n hk)
  have h1 : z < Int32.ofNat k := Int32.lt_of_lt_of_le h h0
  exact ⟨h1, Int32.le_of_lt h1, Int32.not_le.mpr h1, fun q => Int32.not_le.mpr h1 (Int32.le_of_lt q)⟩
/-- a count of INTS 0, st, 2 st ..: the THING of kind k -/
def ansC (st k most : Nat) (z : Int32) : Ans := if z < 0 then .inl 1 else if most < z.toNatClampNeg then .inl 2 else ansM k (((List.range z.toNatClampNeg).map fun i => Int32.ofNat (i * st)).map nZ)
theorem nZs_mk {zs : List Int32} {k : Nat} (hk : k = 1 ∨ k = 3) : mkOk k (zs.map nZ) := by
  rcases hk with rfl | rfl
  · exact Or.inl ⟨rfl, nZs_ok.1⟩
  · exact Or.inr (Or.inr rfl)
section MK0
variable {N : Nat} {X : Nat → Option zz_C} {t t' : cS} {u w : Nat} {s : mS} {n f m b : Nat} {x : Nod} {ys : List Nod} {xv yv : Int32} {vx : Int64}
theorem r_mk0 (hN : 170000 ≤ N) (hb : b ≤ 2) (H : rA s n f m ys) : ∃ s', mf_330 N (Int32.ofNat b) xv yv (Int32.ofNat n) s = some (s', none) ∧ rE s s' n f m (ansC (if b = 1 then 1 else 0) (if b = 2 then 3 else 1) (if b < 2 then 64 else 20) xv) := by
  have H' := H
  obtain ⟨-, H2, H3, H4, H5, H6, H7, H8, H9, H10⟩ := H'
  have G0 : rG s (mI s 51 (Int32.ofNat n)) n f f [] := rG.nil H2
  have T := fun k => rA.trb (N := N) H s vfr.rf rfl rfl rfl k
  have hmost : (if b < 2 then 64 else 20) ≤ 64 := by split <;> omega
  unfold ansC
  by_cases z0 : xv < 0
  · rw [if_pos z0]
    obtain ⟨b1, b2⟩ := T 1
    refine ⟨_, ?_, b2⟩
    have q1 := (i32neg z0 (k := 64) (by omega)).2.1
    have q2 := (i32neg z0 (k := 20) (by omega)).2.1
    have q3 := (i32neg z0 (k := 0) (by omega)).2.2.1
    rcases (show b = 0 ∨ b = 1 ∨ b = 2 by omega) with rfl | rfl | rfl
    · repeat ((first | unfold mf_330 | unfold mf_330_0 | unfold mf_330_9 | unfold mf_330_14 | unfold mf_330_16 | unfold mf_330_19 | unfold mf_330_23 | unfold mf_330_24 | unfold mf_330_31 | unfold mf_330_36 | unfold mf_330_42 | unfold mf_330_46 | unfold mf_330_50 | unfold mf_330_62 | unfold mf_330_66 | unfold mf_330_67 | unfold mf_330_74 | unfold mf_330_78 | unfold mf_330_79 | unfold mf_330_81 | unfold mf_330_86 | unfold mf_330_94 | unfold mf_330_99 | unfold mf_330_103 | unfold mf_330_104 | unfold mf_330_112 | unfold mf_330_119 | unfold mf_330_122 | unfold mf_330_127 | unfold mf_330_147 | unfold mf_330_151 | unfold mf_330_152 | unfold mf_330_161 | unfold mf_330_168 | unfold mf_330_173 | unfold mf_330_174 | unfold mf_330_184 | unfold mf_330_189 | unfold mf_330_191 | unfold mf_330_199 | unfold mf_330_204 | unfold mf_330_212 | unfold mf_330_216 | unfold mf_330_217 | unfold mf_330_219 | unfold mf_330_224 | unfold mf_330_229 | unfold mf_330_235 | unfold mf_330_239 | unfold mf_330_240 | unfold mf_330_247 | unfold mf_330_248 | unfold mf_330_259 | unfold mf_330_262 | unfold mf_330_268 | unfold mf_330_275 | unfold mf_330_280 | unfold mf_330_281 | unfold mf_330_284 | unfold mf_330_290 | unfold mf_330_296 | unfold mf_330_300 | unfold mf_330_301 | unfold mf_330_306 | unfold mf_330_307 | unfold mf_330_312 | unfold mf_330_316 | unfold mf_330_321 | unfold mf_330_326 | unfold mf_330_333 | unfold mf_330_345 | unfold mf_330_349 | unfold mf_330_360 | unfold mf_330_363 | unfold mf_330_369 | unfold mf_330_375 | unfold mf_330_382); try simp (disch := omega) only [ev_S, ev_P, ↓reduceIte, Nat.reduceEqDiff, Nat.reduceLeDiff, Nat.reduceAdd, Nat.reduceMul, Nat.reduceSub, reduceCtorEq, l32_0, l32_1, l32_2, l32_3, l32_4, l32_20, l32_47, l32_51, l32_64, l32_200, l32_166300, q1, q2, q3, b1])
    · repeat ((first | unfold mf_330 | unfold mf_330_0 | unfold mf_330_9 | unfold mf_330_14 | unfold mf_330_16 | unfold mf_330_19 | unfold mf_330_23 | unfold mf_330_24 | unfold mf_330_31 | unfold mf_330_36 | unfold mf_330_42 | unfold mf_330_46 | unfold mf_330_50 | unfold mf_330_62 | unfold mf_330_66 | unfold mf_330_67 | unfold mf_330_74 | unfold mf_330_78 | unfold mf_330_79 | unfold mf_330_81 | unfold mf_330_86 | unfold mf_330_94 | unfold mf_330_99 | unfold mf_330_103 | unfold mf_330_104 | unfold mf_330_112 | unfold mf_330_119 | unfold mf_330_122 | unfold mf_330_127 | unfold mf_330_147 | unfold mf_330_151 | unfold mf_330_152 | unfold mf_330_161 | unfold mf_330_168 | unfold mf_330_173 | unfold mf_330_174 | unfold mf_330_184 | unfold mf_330_189 | unfold mf_330_191 | unfold mf_330_199 | unfold mf_330_204 | unfold mf_330_212 | unfold mf_330_216 | unfold mf_330_217 | unfold mf_330_219 | unfold mf_330_224 | unfold mf_330_229 | unfold mf_330_235 | unfold mf_330_239 | unfold mf_330_240 | unfold mf_330_247 | unfold mf_330_248 | unfold mf_330_259 | unfold mf_330_262 | unfold mf_330_268 | unfold mf_330_275 | unfold mf_330_280 | unfold mf_330_281 | unfold mf_330_284 | unfold mf_330_290 | unfold mf_330_296 | unfold mf_330_300 | unfold mf_330_301 | unfold mf_330_306 | unfold mf_330_307 | unfold mf_330_312 | unfold mf_330_316 | unfold mf_330_321 | unfold mf_330_326 | unfold mf_330_333 | unfold mf_330_345 | unfold mf_330_349 | unfold mf_330_360 | unfold mf_330_363 | unfold mf_330_369 | unfold mf_330_375 | unfold mf_330_382); try simp (disch := omega) only [ev_S, ev_P, ↓reduceIte, Nat.reduceEqDiff, Nat.reduceLeDiff, Nat.reduceAdd, Nat.reduceMul, Nat.reduceSub, reduceCtorEq, l32_0, l32_1, l32_2, l32_3, l32_4, l32_20, l32_47, l32_51, l32_64, l32_200, l32_166300, q1, q2, q3, b1])
    · repeat ((first | unfold mf_330 | unfold mf_330_0 | unfold mf_330_9 | unfold mf_330_14 | unfold mf_330_16 | unfold mf_330_19 | unfold mf_330_23 | unfold mf_330_24 | unfold mf_330_31 | unfold mf_330_36 | unfold mf_330_42 | unfold mf_330_46 | unfold mf_330_50 | unfold mf_330_62 | unfold mf_330_66 | unfold mf_330_67 | unfold mf_330_74 | unfold mf_330_78 | unfold mf_330_79 | unfold mf_330_81 | unfold mf_330_86 | unfold mf_330_94 | unfold mf_330_99 | unfold mf_330_103 | unfold mf_330_104 | unfold mf_330_112 | unfold mf_330_119 | unfold mf_330_122 | unfold mf_330_127 | unfold mf_330_147 | unfold mf_330_151 | unfold mf_330_152 | unfold mf_330_161 | unfold mf_330_168 | unfold mf_330_173 | unfold mf_330_174 | unfold mf_330_184 | unfold mf_330_189 | unfold mf_330_191 | unfold mf_330_199 | unfold mf_330_204 | unfold mf_330_212 | unfold mf_330_216 | unfold mf_330_217 | unfold mf_330_219 | unfold mf_330_224 | unfold mf_330_229 | unfold mf_330_235 | unfold mf_330_239 | unfold mf_330_240 | unfold mf_330_247 | unfold mf_330_248 | unfold mf_330_259 | unfold mf_330_262 | unfold mf_330_268 | unfold mf_330_275 | unfold mf_330_280 | unfold mf_330_281 | unfold mf_330_284 | unfold mf_330_290 | unfold mf_330_296 | unfold mf_330_300 | unfold mf_330_301 | unfold mf_330_306 | unfold mf_330_307 | unfold mf_330_312 | unfold mf_330_316 | unfold mf_330_321 | unfold mf_330_326 | unfold mf_330_333 | unfold mf_330_345 | unfold mf_330_349 | unfold mf_330_360 | unfold mf_330_363 | unfold mf_330_369 | unfold mf_330_375 | unfold mf_330_382); try simp (disch := omega) only [ev_S, ev_P, ↓reduceIte, Nat.reduceEqDiff, Nat.reduceLeDiff, Nat.reduceAdd, Nat.reduceMul, Nat.reduceSub, reduceCtorEq, l32_0, l32_1, l32_2, l32_3, l32_4, l32_20, l32_47, l32_51, l32_64, l32_200, l32_166300, q1, q2, q3, b1])
  · obtain ⟨p, hp, ep⟩ := i32nn z0
    subst ep
    rw [if_neg z0, ev_S.1 hp]
    by_cases zm : (if b < 2 then 64 else 20) < p
    · rw [if_pos zm]
      obtain ⟨b1, b2⟩ := T 2
      refine ⟨_, ?_, b2⟩
      rcases (show b = 0 ∨ b = 1 ∨ b = 2 by omega) with rfl | rfl | rfl
      · have zm : ¬ p ≤ 64 := Nat.not_le.mpr zm
        repeat ((first | unfold mf_330 | unfold mf_330_0 | unfold mf_330_9 | unfold mf_330_14 | unfold mf_330_16 | unfold mf_330_19 | unfold mf_330_23 | unfold mf_330_24 | unfold mf_330_31 | unfold mf_330_36 | unfold mf_330_42 | unfold mf_330_46 | unfold mf_330_50 | unfold mf_330_62 | unfold mf_330_66 | unfold mf_330_67 | unfold mf_330_74 | unfold mf_330_78 | unfold mf_330_79 | unfold mf_330_81 | unfold mf_330_86 | unfold mf_330_94 | unfold mf_330_99 | unfold mf_330_103 | unfold mf_330_104 | unfold mf_330_112 | unfold mf_330_119 | unfold mf_330_122 | unfold mf_330_127 | unfold mf_330_147 | unfold mf_330_151 | unfold mf_330_152 | unfold mf_330_161 | unfold mf_330_168 | unfold mf_330_173 | unfold mf_330_174 | unfold mf_330_184 | unfold mf_330_189 | unfold mf_330_191 | unfold mf_330_199 | unfold mf_330_204 | unfold mf_330_212 | unfold mf_330_216 | unfold mf_330_217 | unfold mf_330_219 | unfold mf_330_224 | unfold mf_330_229 | unfold mf_330_235 | unfold mf_330_239 | unfold mf_330_240 | unfold mf_330_247 | unfold mf_330_248 | unfold mf_330_259 | unfold mf_330_262 | unfold mf_330_268 | unfold mf_330_275 | unfold mf_330_280 | unfold mf_330_281 | unfold mf_330_284 | unfold mf_330_290 | unfold mf_330_296 | unfold mf_330_300 | unfold mf_330_301 | unfold mf_330_306 | unfold mf_330_307 | unfold mf_330_312 | unfold mf_330_316 | unfold mf_330_321 | unfold mf_330_326 | unfold mf_330_333 | unfold mf_330_345 | unfold mf_330_349 | unfold mf_330_360 | unfold mf_330_363 | unfold mf_330_369 | unfold mf_330_375 | unfold mf_330_382); try simp (disch := omega) only [ev_S, ev_P, ↓reduceIte, Nat.reduceEqDiff, Nat.reduceLeDiff, Nat.reduceAdd, Nat.reduceMul, Nat.reduceSub, reduceCtorEq, l32_0, l32_1, l32_2, l32_3, l32_4, l32_20, l32_47, l32_51, l32_64, l32_200, l32_166300, zm, b1])
      · have zm : ¬ p ≤ 64 := Nat.not_le.mpr zm
        repeat ((first | unfold mf_330 | unfold mf_330_0 | unfold mf_330_9 | unfold mf_330_14 | unfold mf_330_16 | unfold mf_330_19 | unfold mf_330_23 | unfold mf_330_24 | unfold mf_330_31 | unfold mf_330_36 | unfold mf_330_42 | unfold mf_330_46 | unfold mf_330_50 | unfold mf_330_62 | unfold mf_330_66 | unfold mf_330_67 | unfold mf_330_74 | unfold mf_330_78 | unfold mf_330_79 | unfold mf_330_81 | unfold mf_330_86 | unfold mf_330_94 | unfold mf_330_99 | unfold mf_330_103 | unfold mf_330_104 | unfold mf_330_112 | unfold mf_330_119 | unfold mf_330_122 | unfold mf_330_127 | unfold mf_330_147 | unfold mf_330_151 | unfold mf_330_152 | unfold mf_330_161 | unfold mf_330_168 | unfold mf_330_173 | unfold mf_330_174 | unfold mf_330_184 | unfold mf_330_189 | unfold mf_330_191 | unfold mf_330_199 | unfold mf_330_204 | unfold mf_330_212 | unfold mf_330_216 | unfold mf_330_217 | unfold mf_330_219 | unfold mf_330_224 | unfold mf_330_229 | unfold mf_330_235 | unfold mf_330_239 | unfold mf_330_240 | unfold mf_330_247 | unfold mf_330_248 | unfold mf_330_259 | unfold mf_330_262 | unfold mf_330_268 | unfold mf_330_275 | unfold mf_330_280 | unfold mf_330_281 | unfold mf_330_284 | unfold mf_330_290 | unfold mf_330_296 | unfold mf_330_300 | unfold mf_330_301 | unfold mf_330_306 | unfold mf_330_307 | unfold mf_330_312 | unfold mf_330_316 | unfold mf_330_321 | unfold mf_330_326 | unfold mf_330_333 | unfold mf_330_345 | unfold mf_330_349 | unfold mf_330_360 | unfold mf_330_363 | unfold mf_330_369 | unfold mf_330_375 | unfold mf_330_382); try simp (disch := omega) only [ev_S, ev_P, ↓reduceIte, Nat.reduceEqDiff, Nat.reduceLeDiff, Nat.reduceAdd, Nat.reduceMul, Nat.reduceSub, reduceCtorEq, l32_0, l32_1, l32_2, l32_3, l32_4, l32_20, l32_47, l32_51, l32_64, l32_200, l32_166300, zm, b1])
      · have zm : ¬ p ≤ 20 := Nat.not_le.mpr zm
        repeat ((first | unfold mf_330 | unfold mf_330_0 | unfold mf_330_9 | unfold mf_330_14 | unfold mf_330_16 | unfold mf_330_19 | unfold mf_330_23 | unfold mf_330_24 | unfold mf_330_31 | unfold mf_330_36 | unfold mf_330_42 | unfold mf_330_46 | unfold mf_330_50 | unfold mf_330_62 | unfold mf_330_66 | unfold mf_330_67 | unfold mf_330_74 | unfold mf_330_78 | unfold mf_330_79 | unfold mf_330_81 | unfold mf_330_86 | unfold mf_330_94 | unfold mf_330_99 | unfold mf_330_103 | unfold mf_330_104 | unfold mf_330_112 | unfold mf_330_119 | unfold mf_330_122 | unfold mf_330_127 | unfold mf_330_147 | unfold mf_330_151 | unfold mf_330_152 | unfold mf_330_161 | unfold mf_330_168 | unfold mf_330_173 | unfold mf_330_174 | unfold mf_330_184 | unfold mf_330_189 | unfold mf_330_191 | unfold mf_330_199 | unfold mf_330_204 | unfold mf_330_212 | unfold mf_330_216 | unfold mf_330_217 | unfold mf_330_219 | unfold mf_330_224 | unfold mf_330_229 | unfold mf_330_235 | unfold mf_330_239 | unfold mf_330_240 | unfold mf_330_247 | unfold mf_330_248 | unfold mf_330_259 | unfold mf_330_262 | unfold mf_330_268 | unfold mf_330_275 | unfold mf_330_280 | unfold mf_330_281 | unfold mf_330_284 | unfold mf_330_290 | unfold mf_330_296 | unfold mf_330_300 | unfold mf_330_301 | unfold mf_330_306 | unfold mf_330_307 | unfold mf_330_312 | unfold mf_330_316 | unfold mf_330_321 | unfold mf_330_326 | unfold mf_330_333 | unfold mf_330_345 | unfold mf_330_349 | unfold mf_330_360 | unfold mf_330_363 | unfold mf_330_369 | unfold mf_330_375 | unfold mf_330_382); try simp (disch := omega) only [ev_S, ev_P, ↓reduceIte, Nat.reduceEqDiff, Nat.reduceLeDiff, Nat.reduceAdd, Nat.reduceMul, Nat.reduceSub, reduceCtorEq, l32_0, l32_1, l32_2, l32_3, l32_4, l32_20, l32_47, l32_51, l32_64, l32_200, l32_166300, zm, b1])
    · rw [if_neg zm]
      have hp64 : p ≤ 64 := by omega
      have E1 : mf_330 N (Int32.ofNat b) (Int32.ofNat p) yv (Int32.ofNat n) s = mf_330_L17 N N 0 (Int32.ofNat b) (Int32.ofNat p) (Int32.ofNat n) (Int32.ofNat 0) (mI s 51 (Int32.ofNat n)) := by
        rcases (show b = 0 ∨ b = 1 ∨ b = 2 by omega) with rfl | rfl | rfl
        · repeat ((first | unfold mf_330 | unfold mf_330_0 | unfold mf_330_9 | unfold mf_330_14 | unfold mf_330_16 | unfold mf_330_19 | unfold mf_330_23 | unfold mf_330_24 | unfold mf_330_31 | unfold mf_330_36 | unfold mf_330_42 | unfold mf_330_46 | unfold mf_330_50 | unfold mf_330_62 | unfold mf_330_66 | unfold mf_330_67 | unfold mf_330_74 | unfold mf_330_78 | unfold mf_330_79 | unfold mf_330_81 | unfold mf_330_86 | unfold mf_330_94 | unfold mf_330_99 | unfold mf_330_103 | unfold mf_330_104 | unfold mf_330_112 | unfold mf_330_119 | unfold mf_330_122 | unfold mf_330_127 | unfold mf_330_147 | unfold mf_330_151 | unfold mf_330_152 | unfold mf_330_161 | unfold mf_330_168 | unfold mf_330_173 | unfold mf_330_174 | unfold mf_330_184 | unfold mf_330_189 | unfold mf_330_191 | unfold mf_330_199 | unfold mf_330_204 | unfold mf_330_212 | unfold mf_330_216 | unfold mf_330_217 | unfold mf_330_219 | unfold mf_330_224 | unfold mf_330_229 | unfold mf_330_235 | unfold mf_330_239 | unfold mf_330_240 | unfold mf_330_247 | unfold mf_330_248 | unfold mf_330_259 | unfold mf_330_262 | unfold mf_330_268 | unfold mf_330_275 | unfold mf_330_280 | unfold mf_330_281 | unfold mf_330_284 | unfold mf_330_290 | unfold mf_330_296 | unfold mf_330_300 | unfold mf_330_301 | unfold mf_330_306 | unfold mf_330_307 | unfold mf_330_312 | unfold mf_330_316 | unfold mf_330_321 | unfold mf_330_326 | unfold mf_330_333 | unfold mf_330_345 | unfold mf_330_349 | unfold mf_330_360 | unfold mf_330_363 | unfold mf_330_369 | unfold mf_330_375 | unfold mf_330_382); try simp (disch := omega) only [ev_S, ev_P, ↓reduceIte, Nat.reduceEqDiff, Nat.reduceLeDiff, Nat.reduceAdd, Nat.reduceMul, Nat.reduceSub, reduceCtorEq, l32_0, l32_1, l32_2, l32_3, l32_4, l32_20, l32_47, l32_51, l32_64, l32_200, l32_166300, hp64])
        · repeat ((first | unfold mf_330 | unfold mf_330_0 | unfold mf_330_9 | unfold mf_330_14 | unfold mf_330_16 | unfold mf_330_19 | unfold mf_330_23 | unfold mf_330_24 | unfold mf_330_31 | unfold mf_330_36 | unfold mf_330_42 | unfold mf_330_46 | unfold mf_330_50 | unfold mf_330_62 | unfold mf_330_66 | unfold mf_330_67 | unfold mf_330_74 | unfold mf_330_78 | unfold mf_330_79 | unfold mf_330_81 | unfold mf_330_86 | unfold mf_330_94 | unfold mf_330_99 | unfold mf_330_103 | unfold mf_330_104 | unfold mf_330_112 | unfold mf_330_119 | unfold mf_330_122 | unfold mf_330_127 | unfold mf_330_147 | unfold mf_330_151 | unfold mf_330_152 | unfold mf_330_161 | unfold mf_330_168 | unfold mf_330_173 | unfold mf_330_174 | unfold mf_330_184 | unfold mf_330_189 | unfold mf_330_191 | unfold mf_330_199 | unfold mf_330_204 | unfold mf_330_212 | unfold mf_330_216 | unfold mf_330_217 | unfold mf_330_219 | unfold mf_330_224 | unfold mf_330_229 | unfold mf_330_235 | unfold mf_330_239 | unfold mf_330_240 | unfold mf_330_247 | unfold mf_330_248 | unfold mf_330_259 | unfold mf_330_262 | unfold mf_330_268 | unfold mf_330_275 | unfold mf_330_280 | unfold mf_330_281 | unfold mf_330_284 | unfold mf_330_290 | unfold mf_330_296 | unfold mf_330_300 | unfold mf_330_301 | unfold mf_330_306 | unfold mf_330_307 | unfold mf_330_312 | unfold mf_330_316 | unfold mf_330_321 | unfold mf_330_326 | unfold mf_330_333 | unfold mf_330_345 | unfold mf_330_349 | unfold mf_330_360 | unfold mf_330_363 | unfold mf_330_369 | unfold mf_330_375 | unfold mf_330_382); try simp (disch := omega) only [ev_S, ev_P, ↓reduceIte, Nat.reduceEqDiff, Nat.reduceLeDiff, Nat.reduceAdd, Nat.reduceMul, Nat.reduceSub, reduceCtorEq, l32_0, l32_1, l32_2, l32_3, l32_4, l32_20, l32_47, l32_51, l32_64, l32_200, l32_166300, hp64])
        · have zm : p ≤ 20 := Nat.not_lt.mp zm
          repeat ((first | unfold mf_330 | unfold mf_330_0 | unfold mf_330_9 | unfold mf_330_14 | unfold mf_330_16 | unfold mf_330_19 | unfold mf_330_23 | unfold mf_330_24 | unfold mf_330_31 | unfold mf_330_36 | unfold mf_330_42 | unfold mf_330_46 | unfold mf_330_50 | unfold mf_330_62 | unfold mf_330_66 | unfold mf_330_67 | unfold mf_330_74 | unfold mf_330_78 | unfold mf_330_79 | unfold mf_330_81 | unfold mf_330_86 | unfold mf_330_94 | unfold mf_330_99 | unfold mf_330_103 | unfold mf_330_104 | unfold mf_330_112 | unfold mf_330_119 | unfold mf_330_122 | unfold mf_330_127 | unfold mf_330_147 | unfold mf_330_151 | unfold mf_330_152 | unfold mf_330_161 | unfold mf_330_168 | unfold mf_330_173 | unfold mf_330_174 | unfold mf_330_184 | unfold mf_330_189 | unfold mf_330_191 | unfold mf_330_199 | unfold mf_330_204 | unfold mf_330_212 | unfold mf_330_216 | unfold mf_330_217 | unfold mf_330_219 | unfold mf_330_224 | unfold mf_330_229 | unfold mf_330_235 | unfold mf_330_239 | unfold mf_330_240 | unfold mf_330_247 | unfold mf_330_248 | unfold mf_330_259 | unfold mf_330_262 | unfold mf_330_268 | unfold mf_330_275 | unfold mf_330_280 | unfold mf_330_281 | unfold mf_330_284 | unfold mf_330_290 | unfold mf_330_296 | unfold mf_330_300 | unfold mf_330_301 | unfold mf_330_306 | unfold mf_330_307 | unfold mf_330_312 | unfold mf_330_316 | unfold mf_330_321 | unfold mf_330_326 | unfold mf_330_333 | unfold mf_330_345 | unfold mf_330_349 | unfold mf_330_360 | unfold mf_330_363 | unfold mf_330_369 | unfold mf_330_375 | unfold mf_330_382); try simp (disch := omega) only [ev_S, ev_P, ↓reduceIte, Nat.reduceEqDiff, Nat.reduceLeDiff, Nat.reduceAdd, Nat.reduceMul, Nat.reduceSub, reduceCtorEq, l32_0, l32_1, l32_2, l32_3, l32_4, l32_20, l32_47, l32_51, l32_64, l32_200, l32_166300, zm])
      rw [E1]
      refine lp (fun F i (s' : mS) => mf_330_L17 N F 0 (Int32.ofNat b) (Int32.ofNat p) (Int32.ofNat n) (Int32.ofNat i) s') p (fun i s' => rG s s' n f f (((List.range i).map fun i => Int32.ofNat (i * (if b = 1 then 1 else 0))).map nZ)) (fun R => ∃ s', R = some (s', none) ∧ rE s s' n f m (ansM (if b = 2 then 3 else 1) (((List.range p).map fun i => Int32.ofNat (i * (if b = 1 then 1 else 0))).map nZ))) ?_ ?_ p 0 N _ (Nat.zero_add _) (by omega) G0
      · intro F i s2 hi G _
        left
        have hll : (((List.range i).map fun i => Int32.ofNat (i * (if b = 1 then 1 else 0))).map nZ).length = i := by rw [List.length_map, List.length_map, List.length_range]
        have n1 : ¬ p ≤ i := by omega
        obtain ⟨s3, p1, p2⟩ := rG.pushZ (N := N) G (by rw [hll]; omega) (Int32.ofNat (i * (if b = 1 then 1 else 0)))
        refine ⟨s3, ?_, ?_⟩
        · rw [range_map_s, List.map_append]
          exact p2
        · show mf_330_262 N (mf_330_L17 N F) (Int32.ofNat b) (Int32.ofNat p) (Int32.ofNat n) (Int32.ofNat i) s2 = _
          rcases (show b = 0 ∨ b = 1 ∨ b = 2 by omega) with rfl | rfl | rfl
          · have p1 : mf_291 N (Int32.ofNat 0) (Int32.ofNat (i * 0)) s2 = _ := p1
            rw [Nat.mul_zero] at p1
            unfold mf_330_262 mf_330_268 mf_330_280 mf_330_281 mf_330_284
            simp (disch := omega) only [ev_S, ev_P, ↓reduceIte, Nat.reduceEqDiff, Nat.reduceLeDiff, Nat.reduceAdd, Nat.reduceMul, Nat.reduceSub, reduceCtorEq, l32_0, l32_1, l32_2, l32_3, l32_4, l32_5, l32_6, l32_7, l32_8, l32_9, l32_10, l32_11, l32_12, l32_13, l32_14, l32_15, l32_16, l32_17, l32_18, l32_19, l32_20, l32_21, l32_22, l32_23, l32_24, l32_25, l32_26, l32_27, l32_28, l32_29, l32_33, l32_40, l32_41, l32_44, l32_45, l32_59, l32_61, l32_91, l32_93, l32_123, l32_125, n1, p1]
          · have p1 : mf_291 N (Int32.ofNat 0) (Int32.ofNat (i * 1)) s2 = _ := p1
            rw [Nat.mul_one] at p1
            unfold mf_330_262 mf_330_268 mf_330_275 mf_330_281 mf_330_284
            simp (disch := omega) only [ev_S, ev_P, ↓reduceIte, Nat.reduceEqDiff, Nat.reduceLeDiff, Nat.reduceAdd, Nat.reduceMul, Nat.reduceSub, reduceCtorEq, l32_0, l32_1, l32_2, l32_3, l32_4, l32_5, l32_6, l32_7, l32_8, l32_9, l32_10, l32_11, l32_12, l32_13, l32_14, l32_15, l32_16, l32_17, l32_18, l32_19, l32_20, l32_21, l32_22, l32_23, l32_24, l32_25, l32_26, l32_27, l32_28, l32_29, l32_33, l32_40, l32_41, l32_44, l32_45, l32_59, l32_61, l32_91, l32_93, l32_123, l32_125, n1, p1]
          · have p1 : mf_291 N (Int32.ofNat 0) (Int32.ofNat (i * 0)) s2 = _ := p1
            rw [Nat.mul_zero] at p1
            unfold mf_330_262 mf_330_268 mf_330_280 mf_330_281 mf_330_284
            simp (disch := omega) only [ev_S, ev_P, ↓reduceIte, Nat.reduceEqDiff, Nat.reduceLeDiff, Nat.reduceAdd, Nat.reduceMul, Nat.reduceSub, reduceCtorEq, l32_0, l32_1, l32_2, l32_3, l32_4, l32_5, l32_6, l32_7, l32_8, l32_9, l32_10, l32_11, l32_12, l32_13, l32_14, l32_15, l32_16, l32_17, l32_18, l32_19, l32_20, l32_21, l32_22, l32_23, l32_24, l32_25, l32_26, l32_27, l32_28, l32_29, l32_33, l32_40, l32_41, l32_44, l32_45, l32_59, l32_61, l32_91, l32_93, l32_123, l32_125, n1, p1]
      · intro F s2 G
        obtain ⟨s3, b1, b2⟩ := rA.builds (N := N) (k := if b = 2 then 3 else 1) hN H G (nZs_mk (by split; exact Or.inr rfl; exact Or.inl rfl)) nZs_ok.2.1 nZs_ok.2.2 (by omega) (by omega) (by rw [List.length_map, List.length_map, List.length_range]; omega) (by rw [List.length_map, List.length_map, List.length_range]; omega)
        refine ⟨s3, ?_, b2⟩
        show mf_330_262 N (mf_330_L17 N F) (Int32.ofNat b) (Int32.ofNat p) (Int32.ofNat n) (Int32.ofNat p) s2 = _
        rcases (show b = 0 ∨ b = 1 ∨ b = 2 by omega) with rfl | rfl | rfl
        · have b1 : mf_305 N (Int32.ofNat 1) (Int32.ofNat n) s2 = _ := b1
          unfold mf_330_262 mf_330_290 mf_330_300 mf_330_301 mf_330_306
          simp (disch := omega) only [ev_S, ev_P, ↓reduceIte, Nat.reduceEqDiff, Nat.reduceLeDiff, Nat.reduceAdd, Nat.reduceMul, Nat.reduceSub, reduceCtorEq, l32_0, l32_1, l32_2, l32_3, l32_4, l32_5, l32_6, l32_7, l32_8, l32_9, l32_10, l32_11, l32_12, l32_13, l32_14, l32_15, l32_16, l32_17, l32_18, l32_19, l32_20, l32_21, l32_22, l32_23, l32_24, l32_25, l32_26, l32_27, l32_28, l32_29, l32_33, l32_40, l32_41, l32_44, l32_45, l32_59, l32_61, l32_91, l32_93, l32_123, l32_125, b1]
        · have b1 : mf_305 N (Int32.ofNat 1) (Int32.ofNat n) s2 = _ := b1
          unfold mf_330_262 mf_330_290 mf_330_300 mf_330_301 mf_330_306
          simp (disch := omega) only [ev_S, ev_P, ↓reduceIte, Nat.reduceEqDiff, Nat.reduceLeDiff, Nat.reduceAdd, Nat.reduceMul, Nat.reduceSub, reduceCtorEq, l32_0, l32_1, l32_2, l32_3, l32_4, l32_5, l32_6, l32_7, l32_8, l32_9, l32_10, l32_11, l32_12, l32_13, l32_14, l32_15, l32_16, l32_17, l32_18, l32_19, l32_20, l32_21, l32_22, l32_23, l32_24, l32_25, l32_26, l32_27, l32_28, l32_29, l32_33, l32_40, l32_41, l32_44, l32_45, l32_59, l32_61, l32_91, l32_93, l32_123, l32_125, b1]
        · have b1 : mf_305 N (Int32.ofNat 3) (Int32.ofNat n) s2 = _ := b1
          unfold mf_330_262 mf_330_290 mf_330_296 mf_330_301 mf_330_306
          simp (disch := omega) only [ev_S, ev_P, ↓reduceIte, Nat.reduceEqDiff, Nat.reduceLeDiff, Nat.reduceAdd, Nat.reduceMul, Nat.reduceSub, reduceCtorEq, l32_0, l32_1, l32_2, l32_3, l32_4, l32_5, l32_6, l32_7, l32_8, l32_9, l32_10, l32_11, l32_12, l32_13, l32_14, l32_15, l32_16, l32_17, l32_18, l32_19, l32_20, l32_21, l32_22, l32_23, l32_24, l32_25, l32_26, l32_27, l32_28, l32_29, l32_33, l32_40, l32_41, l32_44, l32_45, l32_59, l32_61, l32_91, l32_93, l32_123, l32_125, b1]
/-- INTS become a THING of kind 1 or 3, in the class -/
theorem cG.bZ {k : Nat} {zs : List Int32} (hN : 170000 ≤ N) (G : cG t t' u u w (zs.map nZ)) (hk : k = 1 ∨ k = 3) (hl : zs.length ≤ 3000) (hw : w ≤ 100000) (hu : u ≤ 166000) : ∃ t'' v, cf_126 N X (Int32.ofNat k) (Int32.ofNat w) t' = some (t'', .inl (some (.long v))) ∧ cE t t'' u v (ansM k (zs.map nZ)) := cG.build (N := N) (X := X) hN G (nZs_mk hk) nZs_ok.2.1 nZs_ok.2.2 (by rw [List.length_map]; omega) hw hu (by omega) (by omega)
theorem c_cnt {st k most : Nat} (hN : 170000 ≤ N) (hh : cHp t u w) (hx : cN (cel t) u vx x) (hk : k = 1 ∨ k = 3) (hm : most ≤ 64) (hu : u ≤ 162000) (hw : w ≤ 1000) : ∃ t' v, cf_90 N X vx (Int32.ofNat st) (Int32.ofNat k) (Int32.ofNat most) t = some (t', .inl (some (.long v))) ∧ cE t t' u v (if kn x = 0 then ansC st k most (ivN x) else .inl 3) := by
  have kx := c_kn (N := N) (X := X) hx
  have lx := kn_le (x := x)
  have T := fun k => c_rf (N := N) (X := X) (t := t) (k := k)
  by_cases c0 : kn x = 0
  · rw [if_pos c0]
    have ex := hx.z c0
    have lo := c_lowOf (N := N) (X := X) (t := t) (k := 0) (a := ivN x)
    rw [← ex] at lo
    rw [c0] at kx
    unfold ansC
    generalize ivN x = z at *
    by_cases z0 : z < 0
    · rw [if_pos z0]
      refine ⟨t, _, ?_, cE.tr hh⟩
      have q1 := (i32neg z0 (k := most) (by omega)).2.1
      have q3 := (i32neg z0 (k := 0) (by omega)).2.2.1
      have b1 := T (Int32.ofNat 1)
      repeat ((first | unfold cf_90 | unfold cf_90_0 | unfold cf_90_4 | unfold cf_90_7 | unfold cf_90_11 | unfold cf_90_12 | unfold cf_90_16 | unfold cf_90_25 | unfold cf_90_29 | unfold cf_90_30 | unfold cf_90_35 | unfold cf_90_39 | unfold cf_90_40 | unfold cf_90_47 | unfold cf_90_52 | unfold cf_90_59 | unfold cf_90_71 | unfold cf_90_74 | unfold cf_90_80 | unfold cf_90_91); try simp (disch := omega) only [ev_S, ev_C, ↓reduceIte, Nat.reduceEqDiff, Nat.reduceLeDiff, Nat.reduceAdd, Nat.reduceMul, Nat.reduceSub, reduceCtorEq, l32_0, l32_1, l32_2, l32_3, l32_4, kx, lo, q1, q3, b1])
    · obtain ⟨p, hp, ep⟩ := i32nn z0
      subst ep
      rw [if_neg z0, ev_S.1 hp]
      by_cases zm : most < p
      · rw [if_pos zm]
        refine ⟨t, _, ?_, cE.tr hh⟩
        have b1 := T (Int32.ofNat 2)
        have zm : ¬ p ≤ most := by omega
        repeat ((first | unfold cf_90 | unfold cf_90_0 | unfold cf_90_4 | unfold cf_90_7 | unfold cf_90_11 | unfold cf_90_12 | unfold cf_90_16 | unfold cf_90_25 | unfold cf_90_29 | unfold cf_90_30 | unfold cf_90_35 | unfold cf_90_39 | unfold cf_90_40 | unfold cf_90_47 | unfold cf_90_52 | unfold cf_90_59 | unfold cf_90_71 | unfold cf_90_74 | unfold cf_90_80 | unfold cf_90_91); try simp (disch := omega) only [ev_S, ev_C, ↓reduceIte, Nat.reduceEqDiff, Nat.reduceLeDiff, Nat.reduceAdd, Nat.reduceMul, Nat.reduceSub, reduceCtorEq, l32_0, l32_1, l32_2, l32_3, l32_4, kx, lo, zm, b1])
      · rw [if_neg zm]
        have ga := c_gathered (N := N) (X := X) hh
        have hpm : p ≤ most := by omega
        have E1 : cf_90 N X vx (Int32.ofNat st) (Int32.ofNat k) (Int32.ofNat most) t = cf_90_L2 N X N 0 (Int32.ofNat st) (Int32.ofNat k) (Int32.ofNat p) (Int32.ofNat w) (Int32.ofNat 0) t := by
          repeat ((first | unfold cf_90 | unfold cf_90_0 | unfold cf_90_4 | unfold cf_90_7 | unfold cf_90_11 | unfold cf_90_12 | unfold cf_90_16 | unfold cf_90_25 | unfold cf_90_29 | unfold cf_90_30 | unfold cf_90_35 | unfold cf_90_39 | unfold cf_90_40 | unfold cf_90_47 | unfold cf_90_52 | unfold cf_90_59 | unfold cf_90_71 | unfold cf_90_74 | unfold cf_90_80 | unfold cf_90_91); try simp (disch := omega) only [ev_S, ev_C, ↓reduceIte, Nat.reduceEqDiff, Nat.reduceLeDiff, Nat.reduceAdd, Nat.reduceMul, Nat.reduceSub, reduceCtorEq, l32_0, l32_1, l32_2, l32_3, l32_4, kx, lo, hpm, ga])
        rw [E1]
        refine lp (fun F i (t' : cS) => cf_90_L2 N X F 0 (Int32.ofNat st) (Int32.ofNat k) (Int32.ofNat p) (Int32.ofNat w) (Int32.ofNat i) t') p (fun i t' => cG t t' u u w (((List.range i).map fun i => Int32.ofNat (i * st)).map nZ)) (fun R => ∃ t' v, R = some (t', .inl (some (.long v))) ∧ cE t t' u v (ansM k (((List.range p).map fun i => Int32.ofNat (i * st)).map nZ))) ?_ ?_ p 0 N t (Nat.zero_add _) (by omega) (cG.nil hh)
        · intro F i t1 hi G _
          left
          have hll : (((List.range i).map fun i => Int32.ofNat (i * st)).map nZ).length = i := by rw [List.length_map, List.length_map, List.length_range]
          have n1 : ¬ p ≤ i := by omega
          obtain ⟨t2, p1, p2⟩ := cG.put (N := N) (X := X) G (by rw [hll]; omega) (cN_Z (z := Int32.ofNat (i * st)))
          have th := c_thing (N := N) (X := X) (t := t1) (k := Int32.ofNat 0) (a := Int32.ofNat (i * st))
          have p1 : cf_123 N X (tg (Int32.ofNat 0) (Int32.ofNat (i * st))) t1 = _ := p1
          refine ⟨t2, ?_, ?_⟩
          · rw [range_map_s, List.map_append]
            exact p2
          · show cf_90_52 N X (cf_90_L2 N X F) (Int32.ofNat st) (Int32.ofNat k) (Int32.ofNat p) (Int32.ofNat w) (Int32.ofNat i) t1 = _
            unfold cf_90_52 cf_90_59 cf_90_71 cf_90_74
            simp (disch := omega) only [ev_S, ev_C, ↓reduceIte, Nat.reduceEqDiff, Nat.reduceLeDiff, Nat.reduceAdd, Nat.reduceMul, Nat.reduceSub, reduceCtorEq, l32_0, l32_1, l32_2, l32_3, l32_4, l32_5, l32_6, l32_7, l32_8, l32_9, l32_10, l32_11, l32_12, l32_13, l32_14, l32_15, l32_16, l32_17, l32_18, l32_19, l32_20, l32_21, l32_22, l32_23, l32_24, l32_25, l32_26, l32_27, l32_28, l32_29, l32_33, l32_40, l32_41, l32_44, l32_45, l32_59, l32_61, l32_91, l32_93, l32_123, l32_125, n1, th, p1]
        · intro F t1 G
          obtain ⟨t2, v, b1, b2⟩ := cG.bZ (N := N) (X := X) hN G hk (by rw [List.length_map, List.length_range]; omega) (by omega) (by omega)
          refine ⟨t2, v, ?_, b2⟩
          show cf_90_52 N X (cf_90_L2 N X F) (Int32.ofNat st) (Int32.ofNat k) (Int32.ofNat p) (Int32.ofNat w) (Int32.ofNat p) t1 = _
          unfold cf_90_52 cf_90_80 cf_90_91
          simp (disch := omega) only [ev_S, ev_C, ↓reduceIte, Nat.reduceEqDiff, Nat.reduceLeDiff, Nat.reduceAdd, Nat.reduceMul, Nat.reduceSub, reduceCtorEq, l32_0, l32_1, l32_2, l32_3, l32_4, l32_5, l32_6, l32_7, l32_8, l32_9, l32_10, l32_11, l32_12, l32_13, l32_14, l32_15, l32_16, l32_17, l32_18, l32_19, l32_20, l32_21, l32_22, l32_23, l32_24, l32_25, l32_26, l32_27, l32_28, l32_29, l32_33, l32_40, l32_41, l32_44, l32_45, l32_59, l32_61, l32_91, l32_93, l32_123, l32_125, b1]
  · rw [if_neg c0]
    refine ⟨t, _, ?_, cE.tr hh⟩
    have b1 := T (Int32.ofNat 3)
    generalize kn x = kx' at *
    repeat ((first | unfold cf_90 | unfold cf_90_0 | unfold cf_90_4 | unfold cf_90_7 | unfold cf_90_11 | unfold cf_90_12 | unfold cf_90_16 | unfold cf_90_25 | unfold cf_90_29 | unfold cf_90_30 | unfold cf_90_35 | unfold cf_90_39 | unfold cf_90_40 | unfold cf_90_47 | unfold cf_90_52 | unfold cf_90_59 | unfold cf_90_71 | unfold cf_90_74 | unfold cf_90_80 | unfold cf_90_91); try simp (disch := omega) only [ev_S, ev_C, ↓reduceIte, Nat.reduceEqDiff, Nat.reduceLeDiff, Nat.reduceAdd, Nat.reduceMul, Nat.reduceSub, reduceCtorEq, l32_0, l32_1, l32_2, l32_3, l32_4, kx, c0, b1])
end MK0
end
-- ### 96g.pure.lean.txt
section
/-! ===== PURE: run (34): grid, rows: the reference ===== -/
theorem i32m {z : Int32} (h : z < 0) : z.toInt < 0 := by
  rw [Int32.lt_iff_toInt_lt] at h
  exact h
theorem lgI_le {a b : Int64} : (lg_cmp a b ≤ 0) ↔ a.toInt ≤ b.toInt := by
  unfold lg_cmp
  by_cases c : a > b
  · rw [if_pos c]
    have c : b < a := c
    rw [Int64.lt_iff_toInt_lt] at c
    exact ⟨fun q => absurd q (by decide), fun q => absurd q (Int.not_le.mpr c)⟩
  · rw [if_neg c]
    have c' : a.toInt ≤ b.toInt := by
      have : ¬ b < a := c
      rw [Int64.lt_iff_toInt_lt] at this
      exact Int.not_lt.mp this
    refine ⟨fun _ => c', fun _ => ?_⟩
    split
    · decide
    · decide
def pz (z : Int32) : Nat := if z < 0 then 0 else z.toNatClampNeg
theorem pz_o {p : Nat} (h : p < 2147483648) : pz (Int32.ofNat p) = p := by
  unfold pz
  rw [if_neg (i32n h), ev_S.1 h]
theorem pz_n {z : Int32} (h : z < 0) : pz z = 0 := if_pos h
def zer (n : Nat) : List Int32 := List.replicate n 0
theorem zer_s {n : Nat} : zer (n + 1) = zer n ++ [0] := by
  unfold zer
  rw [List.replicate_succ']
def ansG (z z' : Int32) : Ans := if 20 < pz z ∨ 64 < pz z' ∨ 200 < pz z * pz z' then .inl 2 else if z < 0 ∨ z' < 0 then .inl 1 else ansM 2 ((List.replicate (pz z) (zer (pz z'))).map nR)
def ansW (r : List Int32) : Ans := if 20 < r.length ∨ (r.any fun z => decide (64 < pz z)) = true ∨ 200 < (r.map pz).sum then .inl 2 else if (r.any fun z => decide (z < 0)) = true then .inl 1 else ansM 2 ((r.map fun z => zer (pz z)).map nR)
section MK3
variable {N : Nat} {s s' : mS} {n f f' m q : Nat} {x : Nod} {ys xs : List Nod} {xv yv : Int32}
theorem r_zeros (hN : 170000 ≤ N) (G : rG s s' n f f' xs) (hn : n + xs.length + q < 9000) (hq : q < 2147483648) : ∃ s'', mf_329 N (Int32.ofNat q) s' = some (s'', none) ∧ rG s s'' n f f' (xs ++ (zer q).map nZ) := by
  have hl : ∀ i, ((zer i).map nZ).length = i := fun i => by rw [List.length_map]; exact List.length_replicate
  have E1 : mf_329 N (Int32.ofNat q) s' = mf_329_L1 N N 0 (Int32.ofNat q) (Int32.ofNat 0) s' := rfl
  rw [E1]
  refine lp (fun F i (s1 : mS) => mf_329_L1 N F 0 (Int32.ofNat q) (Int32.ofNat i) s1) q (fun i s1 => rG s s1 n f f' (xs ++ (zer i).map nZ)) (fun R => ∃ s'', R = some (s'', none) ∧ rG s s'' n f f' (xs ++ (zer q).map nZ)) ?_ ?_ q 0 N s' (Nat.zero_add _) (by omega) (by rw [show (zer 0).map nZ = [] from rfl, List.append_nil]; exact G)
  · intro F i s1 hi G _
    left
    have n1 : ¬ q ≤ i := by omega
    obtain ⟨s2, p1, p2⟩ := rG.pushZ (N := N) G (by rw [List.length_append, hl]; omega) 0
    have p1 : mf_291 N (Int32.ofNat 0) (Int32.ofNat 0) s1 = _ := p1
    refine ⟨s2, ?_, ?_⟩
    · rw [zer_s, List.map_append, ← List.append_assoc]
      exact p2
    · show mf_329_2 N (mf_329_L1 N F) (Int32.ofNat q) (Int32.ofNat i) s1 = _
      unfold mf_329_2 mf_329_7 mf_329_13
      simp (disch := omega) only [ev_S, ev_P, ↓reduceIte, Nat.reduceEqDiff, Nat.reduceLeDiff, Nat.reduceAdd, Nat.reduceMul, Nat.reduceSub, reduceCtorEq, l32_0, l32_1, l32_2, l32_3, l32_4, l32_5, l32_6, l32_7, l32_8, l32_9, l32_10, l32_11, l32_12, l32_13, l32_14, l32_15, l32_16, l32_17, l32_18, l32_19, l32_20, l32_21, l32_22, l32_23, l32_24, l32_25, l32_26, l32_27, l32_28, l32_29, l32_33, l32_40, l32_41, l32_44, l32_45, l32_59, l32_61, l32_91, l32_93, l32_123, l32_125, n1, p1]
  · intro F s1 G
    refine ⟨s1, ?_, G⟩
    show mf_329_2 N (mf_329_L1 N F) (Int32.ofNat q) (Int32.ofNat q) s1 = _
    unfold mf_329_2 mf_329_19
    simp (disch := omega) only [ev_S, ev_P, ↓reduceIte, Nat.reduceEqDiff, Nat.reduceLeDiff, Nat.reduceAdd, Nat.reduceMul, Nat.reduceSub, reduceCtorEq, l32_0, l32_1, l32_2, l32_3, l32_4, l32_5, l32_6, l32_7, l32_8, l32_9, l32_10, l32_11, l32_12, l32_13, l32_14, l32_15, l32_16, l32_17, l32_18, l32_19, l32_20, l32_21, l32_22, l32_23, l32_24, l32_25, l32_26, l32_27, l32_28, l32_29, l32_33, l32_40, l32_41, l32_44, l32_45, l32_59, l32_61, l32_91, l32_93, l32_123, l32_125]
theorem rep_s {α : Type} {a : α} {n : Nat} : List.replicate (n + 1) a = List.replicate n a ++ [a] := List.replicate_succ'
theorem rep_sum {q k : Nat} : ((List.replicate q (zer k)).map List.length).sum = q * k := by
  induction q with
  | zero => rw [Nat.zero_mul]; rfl
  | succ q ih =>
    rw [rep_s, List.map_append, List.sum_append, ih, Nat.succ_mul]
    show _ + ((zer k).length + 0) = _
    rw [show (zer k).length = k from List.length_replicate]
    omega
theorem r_mk3 (hN : 170000 ≤ N) (H : rA s n f m ys) : ∃ s', mf_330 N (Int32.ofNat 3) xv yv (Int32.ofNat n) s = some (s', none) ∧ rE s s' n f m (ansG xv yv) := by
  have H' := H
  obtain ⟨-, H2, H3, H4, H5, H6, H7, H8, H9, H10⟩ := H'
  have G0 : rG s (mI s 51 (Int32.ofNat n)) n f f [] := rG.nil H2
  have T := fun k => rA.trb (N := N) H s vfr.rf rfl rfl rfl k
  unfold ansG
  by_cases z0 : xv < 0
  · have x1 := (i32neg z0 (k := 20) (by omega)).2.1
    have x2 := (i32neg z0 (k := 0) (by omega)).2.2.1
    have x3 : xv < Int32.ofNat 0 := z0
    rw [pz_n z0, Nat.zero_mul]
    by_cases y0 : yv < 0
    · rw [pz_n y0, if_neg (by omega), if_pos (Or.inl z0)]
      obtain ⟨b1, b2⟩ := T 1
      refine ⟨_, ?_, b2⟩
      have y1 := (i32neg y0 (k := 64) (by omega)).2.2.2
      have y2 := (i32neg y0 (k := 0) (by omega)).2.2.1
      have y3 : yv < Int32.ofNat 0 := y0
      by_cases c : yv ≤ xv
      · repeat ((first | unfold mf_330 | unfold mf_330_0 | unfold mf_330_9 | unfold mf_330_14 | unfold mf_330_16 | unfold mf_330_19 | unfold mf_330_23 | unfold mf_330_24 | unfold mf_330_31 | unfold mf_330_36 | unfold mf_330_42 | unfold mf_330_46 | unfold mf_330_50 | unfold mf_330_62 | unfold mf_330_66 | unfold mf_330_67 | unfold mf_330_74 | unfold mf_330_78 | unfold mf_330_79 | unfold mf_330_81 | unfold mf_330_86 | unfold mf_330_94 | unfold mf_330_99 | unfold mf_330_103 | unfold mf_330_104 | unfold mf_330_112 | unfold mf_330_119 | unfold mf_330_122 | unfold mf_330_127 | unfold mf_330_147 | unfold mf_330_151 | unfold mf_330_152 | unfold mf_330_161 | unfold mf_330_168 | unfold mf_330_173 | unfold mf_330_174 | unfold mf_330_184 | unfold mf_330_189 | unfold mf_330_191 | unfold mf_330_199 | unfold mf_330_204 | unfold mf_330_212 | unfold mf_330_216 | unfold mf_330_217 | unfold mf_330_219 | unfold mf_330_224 | unfold mf_330_229 | unfold mf_330_235 | unfold mf_330_239 | unfold mf_330_240 | unfold mf_330_247 | unfold mf_330_248 | unfold mf_330_259 | unfold mf_330_262 | unfold mf_330_268 | unfold mf_330_275 | unfold mf_330_280 | unfold mf_330_281 | unfold mf_330_284 | unfold mf_330_290 | unfold mf_330_296 | unfold mf_330_300 | unfold mf_330_301 | unfold mf_330_306 | unfold mf_330_307 | unfold mf_330_312 | unfold mf_330_316 | unfold mf_330_321 | unfold mf_330_326 | unfold mf_330_333 | unfold mf_330_345 | unfold mf_330_349 | unfold mf_330_360 | unfold mf_330_363 | unfold mf_330_369 | unfold mf_330_375 | unfold mf_330_382); try simp (disch := omega) only [ev_S, ev_P, ↓reduceIte, Nat.reduceEqDiff, Nat.reduceLeDiff, Nat.reduceAdd, Nat.reduceMul, Nat.reduceSub, reduceCtorEq, l32_0, l32_1, l32_2, l32_3, l32_4, l32_20, l32_47, l32_51, l32_64, l32_200, l32_166300, x1, x2, x3, y1, y2, y3, c, b1])
      · repeat ((first | unfold mf_330 | unfold mf_330_0 | unfold mf_330_9 | unfold mf_330_14 | unfold mf_330_16 | unfold mf_330_19 | unfold mf_330_23 | unfold mf_330_24 | unfold mf_330_31 | unfold mf_330_36 | unfold mf_330_42 | unfold mf_330_46 | unfold mf_330_50 | unfold mf_330_62 | unfold mf_330_66 | unfold mf_330_67 | unfold mf_330_74 | unfold mf_330_78 | unfold mf_330_79 | unfold mf_330_81 | unfold mf_330_86 | unfold mf_330_94 | unfold mf_330_99 | unfold mf_330_103 | unfold mf_330_104 | unfold mf_330_112 | unfold mf_330_119 | unfold mf_330_122 | unfold mf_330_127 | unfold mf_330_147 | unfold mf_330_151 | unfold mf_330_152 | unfold mf_330_161 | unfold mf_330_168 | unfold mf_330_173 | unfold mf_330_174 | unfold mf_330_184 | unfold mf_330_189 | unfold mf_330_191 | unfold mf_330_199 | unfold mf_330_204 | unfold mf_330_212 | unfold mf_330_216 | unfold mf_330_217 | unfold mf_330_219 | unfold mf_330_224 | unfold mf_330_229 | unfold mf_330_235 | unfold mf_330_239 | unfold mf_330_240 | unfold mf_330_247 | unfold mf_330_248 | unfold mf_330_259 | unfold mf_330_262 | unfold mf_330_268 | unfold mf_330_275 | unfold mf_330_280 | unfold mf_330_281 | unfold mf_330_284 | unfold mf_330_290 | unfold mf_330_296 | unfold mf_330_300 | unfold mf_330_301 | unfold mf_330_306 | unfold mf_330_307 | unfold mf_330_312 | unfold mf_330_316 | unfold mf_330_321 | unfold mf_330_326 | unfold mf_330_333 | unfold mf_330_345 | unfold mf_330_349 | unfold mf_330_360 | unfold mf_330_363 | unfold mf_330_369 | unfold mf_330_375 | unfold mf_330_382); try simp (disch := omega) only [ev_S, ev_P, ↓reduceIte, Nat.reduceEqDiff, Nat.reduceLeDiff, Nat.reduceAdd, Nat.reduceMul, Nat.reduceSub, reduceCtorEq, l32_0, l32_1, l32_2, l32_3, l32_4, l32_20, l32_47, l32_51, l32_64, l32_200, l32_166300, x1, x2, x3, y1, y2, y3, c, b1])
    · obtain ⟨q, hq, eq⟩ := i32nn y0
      subst eq
      rw [pz_o hq]
      by_cases c : 64 < q
      · rw [if_pos (Or.inr (Or.inl c))]
        obtain ⟨b1, b2⟩ := T 2
        refine ⟨_, ?_, b2⟩
        by_cases c' : Int32.ofNat q ≤ xv
        · repeat ((first | unfold mf_330 | unfold mf_330_0 | unfold mf_330_9 | unfold mf_330_14 | unfold mf_330_16 | unfold mf_330_19 | unfold mf_330_23 | unfold mf_330_24 | unfold mf_330_31 | unfold mf_330_36 | unfold mf_330_42 | unfold mf_330_46 | unfold mf_330_50 | unfold mf_330_62 | unfold mf_330_66 | unfold mf_330_67 | unfold mf_330_74 | unfold mf_330_78 | unfold mf_330_79 | unfold mf_330_81 | unfold mf_330_86 | unfold mf_330_94 | unfold mf_330_99 | unfold mf_330_103 | unfold mf_330_104 | unfold mf_330_112 | unfold mf_330_119 | unfold mf_330_122 | unfold mf_330_127 | unfold mf_330_147 | unfold mf_330_151 | unfold mf_330_152 | unfold mf_330_161 | unfold mf_330_168 | unfold mf_330_173 | unfold mf_330_174 | unfold mf_330_184 | unfold mf_330_189 | unfold mf_330_191 | unfold mf_330_199 | unfold mf_330_204 | unfold mf_330_212 | unfold mf_330_216 | unfold mf_330_217 | unfold mf_330_219 | unfold mf_330_224 | unfold mf_330_229 | unfold mf_330_235 | unfold mf_330_239 | unfold mf_330_240 | unfold mf_330_247 | unfold mf_330_248 | unfold mf_330_259 | unfold mf_330_262 | unfold mf_330_268 | unfold mf_330_275 | unfold mf_330_280 | unfold mf_330_281 | unfold mf_330_284 | unfold mf_330_290 | unfold mf_330_296 | unfold mf_330_300 | unfold mf_330_301 | unfold mf_330_306 | unfold mf_330_307 | unfold mf_330_312 | unfold mf_330_316 | unfold mf_330_321 | unfold mf_330_326 | unfold mf_330_333 | unfold mf_330_345 | unfold mf_330_349 | unfold mf_330_360 | unfold mf_330_363 | unfold mf_330_369 | unfold mf_330_375 | unfold mf_330_382); try simp (disch := omega) only [ev_S, ev_P, ↓reduceIte, Nat.reduceEqDiff, Nat.reduceLeDiff, Nat.reduceAdd, Nat.reduceMul, Nat.reduceSub, reduceCtorEq, l32_0, l32_1, l32_2, l32_3, l32_4, l32_20, l32_47, l32_51, l32_64, l32_200, l32_166300, x1, x2, x3, c, c', b1])
        · repeat ((first | unfold mf_330 | unfold mf_330_0 | unfold mf_330_9 | unfold mf_330_14 | unfold mf_330_16 | unfold mf_330_19 | unfold mf_330_23 | unfold mf_330_24 | unfold mf_330_31 | unfold mf_330_36 | unfold mf_330_42 | unfold mf_330_46 | unfold mf_330_50 | unfold mf_330_62 | unfold mf_330_66 | unfold mf_330_67 | unfold mf_330_74 | unfold mf_330_78 | unfold mf_330_79 | unfold mf_330_81 | unfold mf_330_86 | unfold mf_330_94 | unfold mf_330_99 | unfold mf_330_103 | unfold mf_330_104 | unfold mf_330_112 | unfold mf_330_119 | unfold mf_330_122 | unfold mf_330_127 | unfold mf_330_147 | unfold mf_330_151 | unfold mf_330_152 | unfold mf_330_161 | unfold mf_330_168 | unfold mf_330_173 | unfold mf_330_174 | unfold mf_330_184 | unfold mf_330_189 | unfold mf_330_191 | unfold mf_330_199 | unfold mf_330_204 | unfold mf_330_212 | unfold mf_330_216 | unfold mf_330_217 | unfold mf_330_219 | unfold mf_330_224 | unfold mf_330_229 | unfold mf_330_235 | unfold mf_330_239 | unfold mf_330_240 | unfold mf_330_247 | unfold mf_330_248 | unfold mf_330_259 | unfold mf_330_262 | unfold mf_330_268 | unfold mf_330_275 | unfold mf_330_280 | unfold mf_330_281 | unfold mf_330_284 | unfold mf_330_290 | unfold mf_330_296 | unfold mf_330_300 | unfold mf_330_301 | unfold mf_330_306 | unfold mf_330_307 | unfold mf_330_312 | unfold mf_330_316 | unfold mf_330_321 | unfold mf_330_326 | unfold mf_330_333 | unfold mf_330_345 | unfold mf_330_349 | unfold mf_330_360 | unfold mf_330_363 | unfold mf_330_369 | unfold mf_330_375 | unfold mf_330_382); try simp (disch := omega) only [ev_S, ev_P, ↓reduceIte, Nat.reduceEqDiff, Nat.reduceLeDiff, Nat.reduceAdd, Nat.reduceMul, Nat.reduceSub, reduceCtorEq, l32_0, l32_1, l32_2, l32_3, l32_4, l32_20, l32_47, l32_51, l32_64, l32_200, l32_166300, x1, x2, x3, c, c', b1])
      · rw [if_neg (by omega), if_pos (Or.inl z0)]
        obtain ⟨b1, b2⟩ := T 1
        refine ⟨_, ?_, b2⟩
        have c' := (i32neg z0 (k := q) hq).2.2.1
        repeat ((first | unfold mf_330 | unfold mf_330_0 | unfold mf_330_9 | unfold mf_330_14 | unfold mf_330_16 | unfold mf_330_19 | unfold mf_330_23 | unfold mf_330_24 | unfold mf_330_31 | unfold mf_330_36 | unfold mf_330_42 | unfold mf_330_46 | unfold mf_330_50 | unfold mf_330_62 | unfold mf_330_66 | unfold mf_330_67 | unfold mf_330_74 | unfold mf_330_78 | unfold mf_330_79 | unfold mf_330_81 | unfold mf_330_86 | unfold mf_330_94 | unfold mf_330_99 | unfold mf_330_103 | unfold mf_330_104 | unfold mf_330_112 | unfold mf_330_119 | unfold mf_330_122 | unfold mf_330_127 | unfold mf_330_147 | unfold mf_330_151 | unfold mf_330_152 | unfold mf_330_161 | unfold mf_330_168 | unfold mf_330_173 | unfold mf_330_174 | unfold mf_330_184 | unfold mf_330_189 | unfold mf_330_191 | unfold mf_330_199 | unfold mf_330_204 | unfold mf_330_212 | unfold mf_330_216 | unfold mf_330_217 | unfold mf_330_219 | unfold mf_330_224 | unfold mf_330_229 | unfold mf_330_235 | unfold mf_330_239 | unfold mf_330_240 | unfold mf_330_247 | unfold mf_330_248 | unfold mf_330_259 | unfold mf_330_262 | unfold mf_330_268 | unfold mf_330_275 | unfold mf_330_280 | unfold mf_330_281 | unfold mf_330_284 | unfold mf_330_290 | unfold mf_330_296 | unfold mf_330_300 | unfold mf_330_301 | unfold mf_330_306 | unfold mf_330_307 | unfold mf_330_312 | unfold mf_330_316 | unfold mf_330_321 | unfold mf_330_326 | unfold mf_330_333 | unfold mf_330_345 | unfold mf_330_349 | unfold mf_330_360 | unfold mf_330_363 | unfold mf_330_369 | unfold mf_330_375 | unfold mf_330_382); try simp (disch := omega) only [ev_S, ev_P, ↓reduceIte, Nat.reduceEqDiff, Nat.reduceLeDiff, Nat.reduceAdd, Nat.reduceMul, Nat.reduceSub, reduceCtorEq, l32_0, l32_1, l32_2, l32_3, l32_4, l32_20, l32_47, l32_51, l32_64, l32_200, l32_166300, x1, x2, x3, c, c', b1])
  · obtain ⟨p, hp, ep⟩ := i32nn z0
    subst ep
    rw [pz_o hp]
    by_cases d : 20 < p
    · rw [if_pos (Or.inl d)]
      obtain ⟨b1, b2⟩ := T 2
      refine ⟨_, ?_, b2⟩
      have d' : ¬ p ≤ 20 := by omega
      by_cases c' : yv ≤ Int32.ofNat p
      · repeat ((first | unfold mf_330 | unfold mf_330_0 | unfold mf_330_9 | unfold mf_330_14 | unfold mf_330_16 | unfold mf_330_19 | unfold mf_330_23 | unfold mf_330_24 | unfold mf_330_31 | unfold mf_330_36 | unfold mf_330_42 | unfold mf_330_46 | unfold mf_330_50 | unfold mf_330_62 | unfold mf_330_66 | unfold mf_330_67 | unfold mf_330_74 | unfold mf_330_78 | unfold mf_330_79 | unfold mf_330_81 | unfold mf_330_86 | unfold mf_330_94 | unfold mf_330_99 | unfold mf_330_103 | unfold mf_330_104 | unfold mf_330_112 | unfold mf_330_119 | unfold mf_330_122 | unfold mf_330_127 | unfold mf_330_147 | unfold mf_330_151 | unfold mf_330_152 | unfold mf_330_161 | unfold mf_330_168 | unfold mf_330_173 | unfold mf_330_174 | unfold mf_330_184 | unfold mf_330_189 | unfold mf_330_191 | unfold mf_330_199 | unfold mf_330_204 | unfold mf_330_212 | unfold mf_330_216 | unfold mf_330_217 | unfold mf_330_219 | unfold mf_330_224 | unfold mf_330_229 | unfold mf_330_235 | unfold mf_330_239 | unfold mf_330_240 | unfold mf_330_247 | unfold mf_330_248 | unfold mf_330_259 | unfold mf_330_262 | unfold mf_330_268 | unfold mf_330_275 | unfold mf_330_280 | unfold mf_330_281 | unfold mf_330_284 | unfold mf_330_290 | unfold mf_330_296 | unfold mf_330_300 | unfold mf_330_301 | unfold mf_330_306 | unfold mf_330_307 | unfold mf_330_312 | unfold mf_330_316 | unfold mf_330_321 | unfold mf_330_326 | unfold mf_330_333 | unfold mf_330_345 | unfold mf_330_349 | unfold mf_330_360 | unfold mf_330_363 | unfold mf_330_369 | unfold mf_330_375 | unfold mf_330_382); try simp (disch := omega) only [ev_S, ev_P, ↓reduceIte, Nat.reduceEqDiff, Nat.reduceLeDiff, Nat.reduceAdd, Nat.reduceMul, Nat.reduceSub, reduceCtorEq, l32_0, l32_1, l32_2, l32_3, l32_4, l32_20, l32_47, l32_51, l32_64, l32_200, l32_166300, d', c', b1])
      · repeat ((first | unfold mf_330 | unfold mf_330_0 | unfold mf_330_9 | unfold mf_330_14 | unfold mf_330_16 | unfold mf_330_19 | unfold mf_330_23 | unfold mf_330_24 | unfold mf_330_31 | unfold mf_330_36 | unfold mf_330_42 | unfold mf_330_46 | unfold mf_330_50 | unfold mf_330_62 | unfold mf_330_66 | unfold mf_330_67 | unfold mf_330_74 | unfold mf_330_78 | unfold mf_330_79 | unfold mf_330_81 | unfold mf_330_86 | unfold mf_330_94 | unfold mf_330_99 | unfold mf_330_103 | unfold mf_330_104 | unfold mf_330_112 | unfold mf_330_119 | unfold mf_330_122 | unfold mf_330_127 | unfold mf_330_147 | unfold mf_330_151 | unfold mf_330_152 | unfold mf_330_161 | unfold mf_330_168 | unfold mf_330_173 | unfold mf_330_174 | unfold mf_330_184 | unfold mf_330_189 | unfold mf_330_191 | unfold mf_330_199 | unfold mf_330_204 | unfold mf_330_212 | unfold mf_330_216 | unfold mf_330_217 | unfold mf_330_219 | unfold mf_330_224 | unfold mf_330_229 | unfold mf_330_235 | unfold mf_330_239 | unfold mf_330_240 | unfold mf_330_247 | unfold mf_330_248 | unfold mf_330_259 | unfold mf_330_262 | unfold mf_330_268 | unfold mf_330_275 | unfold mf_330_280 | unfold mf_330_281 | unfold mf_330_284 | unfold mf_330_290 | unfold mf_330_296 | unfold mf_330_300 | unfold mf_330_301 | unfold mf_330_306 | unfold mf_330_307 | unfold mf_330_312 | unfold mf_330_316 | unfold mf_330_321 | unfold mf_330_326 | unfold mf_330_333 | unfold mf_330_345 | unfold mf_330_349 | unfold mf_330_360 | unfold mf_330_363 | unfold mf_330_369 | unfold mf_330_375 | unfold mf_330_382); try simp (disch := omega) only [ev_S, ev_P, ↓reduceIte, Nat.reduceEqDiff, Nat.reduceLeDiff, Nat.reduceAdd, Nat.reduceMul, Nat.reduceSub, reduceCtorEq, l32_0, l32_1, l32_2, l32_3, l32_4, l32_20, l32_47, l32_51, l32_64, l32_200, l32_166300, d', c', b1])
    · have d' : p ≤ 20 := by omega
      by_cases y0 : yv < 0
      · rw [pz_n y0, if_neg (by omega), if_pos (Or.inr y0)]
        obtain ⟨b1, b2⟩ := T 1
        refine ⟨_, ?_, b2⟩
        have y1 := (i32neg y0 (k := 64) (by omega)).2.2.2
        have y2 := (i32neg y0 (k := 0) (by omega)).2.2.1
        have y3 : yv < Int32.ofNat 0 := y0
        have y4 := (i32neg y0 (k := p) hp).2.1
        repeat ((first | unfold mf_330 | unfold mf_330_0 | unfold mf_330_9 | unfold mf_330_14 | unfold mf_330_16 | unfold mf_330_19 | unfold mf_330_23 | unfold mf_330_24 | unfold mf_330_31 | unfold mf_330_36 | unfold mf_330_42 | unfold mf_330_46 | unfold mf_330_50 | unfold mf_330_62 | unfold mf_330_66 | unfold mf_330_67 | unfold mf_330_74 | unfold mf_330_78 | unfold mf_330_79 | unfold mf_330_81 | unfold mf_330_86 | unfold mf_330_94 | unfold mf_330_99 | unfold mf_330_103 | unfold mf_330_104 | unfold mf_330_112 | unfold mf_330_119 | unfold mf_330_122 | unfold mf_330_127 | unfold mf_330_147 | unfold mf_330_151 | unfold mf_330_152 | unfold mf_330_161 | unfold mf_330_168 | unfold mf_330_173 | unfold mf_330_174 | unfold mf_330_184 | unfold mf_330_189 | unfold mf_330_191 | unfold mf_330_199 | unfold mf_330_204 | unfold mf_330_212 | unfold mf_330_216 | unfold mf_330_217 | unfold mf_330_219 | unfold mf_330_224 | unfold mf_330_229 | unfold mf_330_235 | unfold mf_330_239 | unfold mf_330_240 | unfold mf_330_247 | unfold mf_330_248 | unfold mf_330_259 | unfold mf_330_262 | unfold mf_330_268 | unfold mf_330_275 | unfold mf_330_280 | unfold mf_330_281 | unfold mf_330_284 | unfold mf_330_290 | unfold mf_330_296 | unfold mf_330_300 | unfold mf_330_301 | unfold mf_330_306 | unfold mf_330_307 | unfold mf_330_312 | unfold mf_330_316 | unfold mf_330_321 | unfold mf_330_326 | unfold mf_330_333 | unfold mf_330_345 | unfold mf_330_349 | unfold mf_330_360 | unfold mf_330_363 | unfold mf_330_369 | unfold mf_330_375 | unfold mf_330_382); try simp (disch := omega) only [ev_S, ev_P, ↓reduceIte, Nat.reduceEqDiff, Nat.reduceLeDiff, Nat.reduceAdd, Nat.reduceMul, Nat.reduceSub, reduceCtorEq, l32_0, l32_1, l32_2, l32_3, l32_4, l32_20, l32_47, l32_51, l32_64, l32_200, l32_166300, d', y1, y2, y3, y4, b1])
      · obtain ⟨q, hq, eq⟩ := i32nn y0
        subst eq
        rw [pz_o hq]
        have hpq : Int32.toInt64 (Int32.ofNat p) * Int32.toInt64 (Int32.ofNat q) = Int64.ofNat (p * q) := by
          rw [i64of32 hp, i64of32 hq, Int64.ofNat_mul]
        by_cases c : 64 < q
        · rw [if_pos (Or.inr (Or.inl c))]
          obtain ⟨b1, b2⟩ := T 2
          refine ⟨_, ?_, b2⟩
          have c' : ¬ q ≤ p := by omega
          repeat ((first | unfold mf_330 | unfold mf_330_0 | unfold mf_330_9 | unfold mf_330_14 | unfold mf_330_16 | unfold mf_330_19 | unfold mf_330_23 | unfold mf_330_24 | unfold mf_330_31 | unfold mf_330_36 | unfold mf_330_42 | unfold mf_330_46 | unfold mf_330_50 | unfold mf_330_62 | unfold mf_330_66 | unfold mf_330_67 | unfold mf_330_74 | unfold mf_330_78 | unfold mf_330_79 | unfold mf_330_81 | unfold mf_330_86 | unfold mf_330_94 | unfold mf_330_99 | unfold mf_330_103 | unfold mf_330_104 | unfold mf_330_112 | unfold mf_330_119 | unfold mf_330_122 | unfold mf_330_127 | unfold mf_330_147 | unfold mf_330_151 | unfold mf_330_152 | unfold mf_330_161 | unfold mf_330_168 | unfold mf_330_173 | unfold mf_330_174 | unfold mf_330_184 | unfold mf_330_189 | unfold mf_330_191 | unfold mf_330_199 | unfold mf_330_204 | unfold mf_330_212 | unfold mf_330_216 | unfold mf_330_217 | unfold mf_330_219 | unfold mf_330_224 | unfold mf_330_229 | unfold mf_330_235 | unfold mf_330_239 | unfold mf_330_240 | unfold mf_330_247 | unfold mf_330_248 | unfold mf_330_259 | unfold mf_330_262 | unfold mf_330_268 | unfold mf_330_275 | unfold mf_330_280 | unfold mf_330_281 | unfold mf_330_284 | unfold mf_330_290 | unfold mf_330_296 | unfold mf_330_300 | unfold mf_330_301 | unfold mf_330_306 | unfold mf_330_307 | unfold mf_330_312 | unfold mf_330_316 | unfold mf_330_321 | unfold mf_330_326 | unfold mf_330_333 | unfold mf_330_345 | unfold mf_330_349 | unfold mf_330_360 | unfold mf_330_363 | unfold mf_330_369 | unfold mf_330_375 | unfold mf_330_382); try simp (disch := omega) only [ev_S, ev_P, ↓reduceIte, Nat.reduceEqDiff, Nat.reduceLeDiff, Nat.reduceAdd, Nat.reduceMul, Nat.reduceSub, reduceCtorEq, l32_0, l32_1, l32_2, l32_3, l32_4, l32_20, l32_47, l32_51, l32_64, l32_200, l32_166300, d', c, c', b1])
        · have hmul : p * q ≤ 20 * 64 := Nat.mul_le_mul (by omega) (by omega)
          have hlg : (lg_cmp (Int64.ofNat (p * q)) 200 ≤ Int32.ofNat 0) = (p * q ≤ 200) := lg_le (b := 200) (by omega) (by omega)
          by_cases e : 200 < p * q
          · rw [if_pos (Or.inr (Or.inr e))]
            obtain ⟨b1, b2⟩ := T 2
            refine ⟨_, ?_, b2⟩
            have e' : ¬ p * q ≤ 200 := by omega
            by_cases c' : q ≤ p
            · repeat ((first | unfold mf_330 | unfold mf_330_0 | unfold mf_330_9 | unfold mf_330_14 | unfold mf_330_16 | unfold mf_330_19 | unfold mf_330_23 | unfold mf_330_24 | unfold mf_330_31 | unfold mf_330_36 | unfold mf_330_42 | unfold mf_330_46 | unfold mf_330_50 | unfold mf_330_62 | unfold mf_330_66 | unfold mf_330_67 | unfold mf_330_74 | unfold mf_330_78 | unfold mf_330_79 | unfold mf_330_81 | unfold mf_330_86 | unfold mf_330_94 | unfold mf_330_99 | unfold mf_330_103 | unfold mf_330_104 | unfold mf_330_112 | unfold mf_330_119 | unfold mf_330_122 | unfold mf_330_127 | unfold mf_330_147 | unfold mf_330_151 | unfold mf_330_152 | unfold mf_330_161 | unfold mf_330_168 | unfold mf_330_173 | unfold mf_330_174 | unfold mf_330_184 | unfold mf_330_189 | unfold mf_330_191 | unfold mf_330_199 | unfold mf_330_204 | unfold mf_330_212 | unfold mf_330_216 | unfold mf_330_217 | unfold mf_330_219 | unfold mf_330_224 | unfold mf_330_229 | unfold mf_330_235 | unfold mf_330_239 | unfold mf_330_240 | unfold mf_330_247 | unfold mf_330_248 | unfold mf_330_259 | unfold mf_330_262 | unfold mf_330_268 | unfold mf_330_275 | unfold mf_330_280 | unfold mf_330_281 | unfold mf_330_284 | unfold mf_330_290 | unfold mf_330_296 | unfold mf_330_300 | unfold mf_330_301 | unfold mf_330_306 | unfold mf_330_307 | unfold mf_330_312 | unfold mf_330_316 | unfold mf_330_321 | unfold mf_330_326 | unfold mf_330_333 | unfold mf_330_345 | unfold mf_330_349 | unfold mf_330_360 | unfold mf_330_363 | unfold mf_330_369 | unfold mf_330_375 | unfold mf_330_382); try simp (disch := omega) only [ev_S, ev_P, ↓reduceIte, Nat.reduceEqDiff, Nat.reduceLeDiff, Nat.reduceAdd, Nat.reduceMul, Nat.reduceSub, reduceCtorEq, l32_0, l32_1, l32_2, l32_3, l32_4, l32_20, l32_47, l32_51, l32_64, l32_200, l32_166300, d', c, hpq, hlg, e', c', b1])
            · repeat ((first | unfold mf_330 | unfold mf_330_0 | unfold mf_330_9 | unfold mf_330_14 | unfold mf_330_16 | unfold mf_330_19 | unfold mf_330_23 | unfold mf_330_24 | unfold mf_330_31 | unfold mf_330_36 | unfold mf_330_42 | unfold mf_330_46 | unfold mf_330_50 | unfold mf_330_62 | unfold mf_330_66 | unfold mf_330_67 | unfold mf_330_74 | unfold mf_330_78 | unfold mf_330_79 | unfold mf_330_81 | unfold mf_330_86 | unfold mf_330_94 | unfold mf_330_99 | unfold mf_330_103 | unfold mf_330_104 | unfold mf_330_112 | unfold mf_330_119 | unfold mf_330_122 | unfold mf_330_127 | unfold mf_330_147 | unfold mf_330_151 | unfold mf_330_152 | unfold mf_330_161 | unfold mf_330_168 | unfold mf_330_173 | unfold mf_330_174 | unfold mf_330_184 | unfold mf_330_189 | unfold mf_330_191 | unfold mf_330_199 | unfold mf_330_204 | unfold mf_330_212 | unfold mf_330_216 | unfold mf_330_217 | unfold mf_330_219 | unfold mf_330_224 | unfold mf_330_229 | unfold mf_330_235 | unfold mf_330_239 | unfold mf_330_240 | unfold mf_330_247 | unfold mf_330_248 | unfold mf_330_259 | unfold mf_330_262 | unfold mf_330_268 | unfold mf_330_275 | unfold mf_330_280 | unfold mf_330_281 | unfold mf_330_284 | unfold mf_330_290 | unfold mf_330_296 | unfold mf_330_300 | unfold mf_330_301 | unfold mf_330_306 | unfold mf_330_307 | unfold mf_330_312 | unfold mf_330_316 | unfold mf_330_321 | unfold mf_330_326 | unfold mf_330_333 | unfold mf_330_345 | unfold mf_330_349 | unfold mf_330_360 | unfold mf_330_363 | unfold mf_330_369 | unfold mf_330_375 | unfold mf_330_382); try simp (disch := omega) only [ev_S, ev_P, ↓reduceIte, Nat.reduceEqDiff, Nat.reduceLeDiff, Nat.reduceAdd, Nat.reduceMul, Nat.reduceSub, reduceCtorEq, l32_0, l32_1, l32_2, l32_3, l32_4, l32_20, l32_47, l32_51, l32_64, l32_200, l32_166300, d', c, hpq, hlg, e', c', b1])
          · have e' : p * q ≤ 200 := by omega
            rw [if_neg (by omega), if_neg (fun z => z.elim z0 y0)]
            have E1 : mf_330 N (Int32.ofNat 3) (Int32.ofNat p) (Int32.ofNat q) (Int32.ofNat n) s = mf_330_L7 N N 0 (Int32.ofNat 3) (Int32.ofNat p) (Int32.ofNat q) (Int32.ofNat n) (Int32.ofNat p) (Int32.ofNat 0) (mI s 51 (Int32.ofNat n)) := by
              by_cases c' : q ≤ p
              · repeat ((first | unfold mf_330 | unfold mf_330_0 | unfold mf_330_9 | unfold mf_330_14 | unfold mf_330_16 | unfold mf_330_19 | unfold mf_330_23 | unfold mf_330_24 | unfold mf_330_31 | unfold mf_330_36 | unfold mf_330_42 | unfold mf_330_46 | unfold mf_330_50 | unfold mf_330_62 | unfold mf_330_66 | unfold mf_330_67 | unfold mf_330_74 | unfold mf_330_78 | unfold mf_330_79 | unfold mf_330_81 | unfold mf_330_86 | unfold mf_330_94 | unfold mf_330_99 | unfold mf_330_103 | unfold mf_330_104 | unfold mf_330_112 | unfold mf_330_119 | unfold mf_330_122 | unfold mf_330_127 | unfold mf_330_147 | unfold mf_330_151 | unfold mf_330_152 | unfold mf_330_161 | unfold mf_330_168 | unfold mf_330_173 | unfold mf_330_174 | unfold mf_330_184 | unfold mf_330_189 | unfold mf_330_191 | unfold mf_330_199 | unfold mf_330_204 | unfold mf_330_212 | unfold mf_330_216 | unfold mf_330_217 | unfold mf_330_219 | unfold mf_330_224 | unfold mf_330_229 | unfold mf_330_235 | unfold mf_330_239 | unfold mf_330_240 | unfold mf_330_247 | unfold mf_330_248 | unfold mf_330_259 | unfold mf_330_262 | unfold mf_330_268 | unfold mf_330_275 | unfold mf_330_280 | unfold mf_330_281 | unfold mf_330_284 | unfold mf_330_290 | unfold mf_330_296 | unfold mf_330_300 | unfold mf_330_301 | unfold mf_330_306 | unfold mf_330_307 | unfold mf_330_312 | unfold mf_330_316 | unfold mf_330_321 | unfold mf_330_326 | unfold mf_330_333 | unfold mf_330_345 | unfold mf_330_349 | unfold mf_330_360 | unfold mf_330_363 | unfold mf_330_369 | unfold mf_330_375 | unfold mf_330_382); try simp (disch := omega) only [ev_S, ev_P, ↓reduceIte, Nat.reduceEqDiff, Nat.reduceLeDiff, Nat.reduceAdd, Nat.reduceMul, Nat.reduceSub, reduceCtorEq, l32_0, l32_1, l32_2, l32_3, l32_4, l32_20, l32_47, l32_51, l32_64, l32_200, l32_166300, d', c, hpq, hlg, e', c'])
              · repeat ((first | unfold mf_330 | unfold mf_330_0 | unfold mf_330_9 | unfold mf_330_14 | unfold mf_330_16 | unfold mf_330_19 | unfold mf_330_23 | unfold mf_330_24 | unfold mf_330_31 | unfold mf_330_36 | unfold mf_330_42 | unfold mf_330_46 | unfold mf_330_50 | unfold mf_330_62 | unfold mf_330_66 | unfold mf_330_67 | unfold mf_330_74 | unfold mf_330_78 | unfold mf_330_79 | unfold mf_330_81 | unfold mf_330_86 | unfold mf_330_94 | unfold mf_330_99 | unfold mf_330_103 | unfold mf_330_104 | unfold mf_330_112 | unfold mf_330_119 | unfold mf_330_122 | unfold mf_330_127 | unfold mf_330_147 | unfold mf_330_151 | unfold mf_330_152 | unfold mf_330_161 | unfold mf_330_168 | unfold mf_330_173 | unfold mf_330_174 | unfold mf_330_184 | unfold mf_330_189 | unfold mf_330_191 | unfold mf_330_199 | unfold mf_330_204 | unfold mf_330_212 | unfold mf_330_216 | unfold mf_330_217 | unfold mf_330_219 | unfold mf_330_224 | unfold mf_330_229 | unfold mf_330_235 | unfold mf_330_239 | unfold mf_330_240 | unfold mf_330_247 | unfold mf_330_248 | unfold mf_330_259 | unfold mf_330_262 | unfold mf_330_268 | unfold mf_330_275 | unfold mf_330_280 | unfold mf_330_281 | unfold mf_330_284 | unfold mf_330_290 | unfold mf_330_296 | unfold mf_330_300 | unfold mf_330_301 | unfold mf_330_306 | unfold mf_330_307 | unfold mf_330_312 | unfold mf_330_316 | unfold mf_330_321 | unfold mf_330_326 | unfold mf_330_333 | unfold mf_330_345 | unfold mf_330_349 | unfold mf_330_360 | unfold mf_330_363 | unfold mf_330_369 | unfold mf_330_375 | unfold mf_330_382); try simp (disch := omega) only [ev_S, ev_P, ↓reduceIte, Nat.reduceEqDiff, Nat.reduceLeDiff, Nat.reduceAdd, Nat.reduceMul, Nat.reduceSub, reduceCtorEq, l32_0, l32_1, l32_2, l32_3, l32_4, l32_20, l32_47, l32_51, l32_64, l32_200, l32_166300, d', c, hpq, hlg, e', c'])
            rw [E1]
            have hle : ∀ i, i ≤ p → i * q ≤ 200 := fun i hi => Nat.le_trans (Nat.mul_le_mul_right q hi) e'
            refine lp (fun F i (s' : mS) => mf_330_L7 N F 0 (Int32.ofNat 3) (Int32.ofNat p) (Int32.ofNat q) (Int32.ofNat n) (Int32.ofNat p) (Int32.ofNat i) s') p (fun i s' => rG s s' n f (f + (2 * (List.replicate i (zer q)).length + ((List.replicate i (zer q)).map List.length).sum)) ((List.replicate i (zer q)).map nR)) (fun R => ∃ s', R = some (s', none) ∧ rE s s' n f m (ansM 2 ((List.replicate p (zer q)).map nR))) ?_ ?_ p 0 N _ (Nat.zero_add _) (by omega) G0
            · intro F i s2 hi G _
              left
              have hli : (List.replicate i (zer q)).length = i := List.length_replicate
              have hll : ((List.replicate i (zer q)).map nR).length = i := by rw [List.length_map, hli]
              have hzl : (zer q).length = q := List.length_replicate
              have hsi := hle i (by omega)
              have hs2 := rep_sum (q := i) (k := q)
              have n1 : ¬ p ≤ i := by omega
              have sp := G.1.1
              rw [hll] at sp
              obtain ⟨s3, z1, z2⟩ := r_zeros (N := N) (q := q) hN G (by rw [hll]; omega) hq
              obtain ⟨s4, w1, w2⟩ := rG.row (N := N) hN z2 (by rw [hll, hzl]; omega) (by rw [hzl]; omega)
              rw [hll] at w1
              rw [hzl] at w2
              refine ⟨s4, ?_, ?_⟩
              · rw [rep_s, List.map_append, List.map_append, List.length_append, List.sum_append]
                have e : f + (2 * ((List.replicate i (zer q)).length + [zer q].length) + (((List.replicate i (zer q)).map List.length).sum + ([zer q].map List.length).sum)) = f + (2 * (List.replicate i (zer q)).length + ((List.replicate i (zer q)).map List.length).sum) + 2 + q := by
                  show f + (2 * (_ + 1) + (_ + ((zer q).length + 0))) = _
                  rw [hzl]
                  omega
                rw [e]
                exact w2
              · show mf_330_326 N (mf_330_L7 N F) (Int32.ofNat 3) (Int32.ofNat p) (Int32.ofNat q) (Int32.ofNat n) (Int32.ofNat p) (Int32.ofNat i) s2 = _
                unfold mf_330_326 mf_330_333 mf_330_345 mf_330_360 mf_330_363 mf_330_369
                simp (disch := omega) only [ev_S, ev_P, ↓reduceIte, Nat.reduceEqDiff, Nat.reduceLeDiff, Nat.reduceAdd, Nat.reduceMul, Nat.reduceSub, reduceCtorEq, l32_0, l32_1, l32_2, l32_3, l32_4, l32_5, l32_6, l32_7, l32_8, l32_9, l32_10, l32_11, l32_12, l32_13, l32_14, l32_15, l32_16, l32_17, l32_18, l32_19, l32_20, l32_21, l32_22, l32_23, l32_24, l32_25, l32_26, l32_27, l32_28, l32_29, l32_33, l32_40, l32_41, l32_44, l32_45, l32_59, l32_61, l32_91, l32_93, l32_123, l32_125, n1, sp, z1, w1]
            · intro F s2 G
              have hs2 := rep_sum (q := p) (k := q)
              have hlp : (List.replicate p (zer q)).length = p := List.length_replicate
              obtain ⟨s3, b1, b2⟩ := rA.bTab (N := N) hN H G (fun r hr => by
                rw [(List.mem_replicate.mp hr).2]
                show (zer q).length ≤ 64
                rw [show (zer q).length = q from List.length_replicate]
                omega) (by rw [hlp]; omega) (by rw [hlp]; omega)
              refine ⟨s3, ?_, b2⟩
              show mf_330_326 N (mf_330_L7 N F) (Int32.ofNat 3) (Int32.ofNat p) (Int32.ofNat q) (Int32.ofNat n) (Int32.ofNat p) (Int32.ofNat p) s2 = _
              unfold mf_330_326 mf_330_375 mf_330_382
              simp (disch := omega) only [ev_S, ev_P, ↓reduceIte, Nat.reduceEqDiff, Nat.reduceLeDiff, Nat.reduceAdd, Nat.reduceMul, Nat.reduceSub, reduceCtorEq, l32_0, l32_1, l32_2, l32_3, l32_4, l32_5, l32_6, l32_7, l32_8, l32_9, l32_10, l32_11, l32_12, l32_13, l32_14, l32_15, l32_16, l32_17, l32_18, l32_19, l32_20, l32_21, l32_22, l32_23, l32_24, l32_25, l32_26, l32_27, l32_28, l32_29, l32_33, l32_40, l32_41, l32_44, l32_45, l32_59, l32_61, l32_91, l32_93, l32_123, l32_125, b1]
end MK3
end
-- ### 96h.pure.lean.txt
section
/-! ===== PURE: run (35): grid: the class ===== -/
section GRC
variable {N k : Nat} {X : Nat → Option zz_C} {t t' t2 : cS} {u u' u2 w q : Nat} {x y : Nod} {xs : List Nod} {zs : List Int32} {v vx vy : Int64}
theorem cG.addRow (G : cG t t' u u' w xs) (R : cG t' t2 u' u2 (w + xs.length) []) (hx : cN (cel t2) u2 v x) (hw : w + xs.length < 61000) : ∃ t3, cf_123 N X v t2 = some (t3, .inl none) ∧ cG t t3 u u2 w (xs ++ [x]) := cG.put (N := N) (X := X) (cG.comp G R) hw hx
theorem cG.bT {q : List (List Int32)} (hN : 170000 ≤ N) (G : cG t t' u u' w (q.map nR)) (hq : ∀ r ∈ q, r.length ≤ 64) (hu' : u' ≤ u + (2 * q.length + (q.map List.length).sum) + 1) (hs : 2 * q.length + (q.map List.length).sum ≤ 1900) (hw : w ≤ 100000) (hu : u ≤ 164000) : ∃ t'' v, cf_126 N X (Int32.ofNat 2) (Int32.ofNat w) t' = some (t'', .inl (some (.long v))) ∧ cE t t'' u v (ansM 2 (q.map nR)) := cG.build (N := N) (X := X) (k := 2) hN G (Or.inr (Or.inl ⟨rfl, (nRs_ok hq).1⟩)) (nRs_ok hq).2.1 (nRs_ok hq).2.2 (by rw [List.length_map]; omega) hw (by omega) (by rw [grT2]; exact hu') (by omega)
/-- a ROW of what was gathered since -/
theorem cG.mkRow (hN : 170000 ≤ N) (G : cG t t' u u w (zs.map nZ)) (hz : zs.length ≤ 64) (hw : w ≤ 60000) (hu : u ≤ 166000) : ∃ t2 v, cf_126 N X (Int32.ofNat 1) (Int32.ofNat w) t' = some (t2, .inl (some (.long v))) ∧ cG t t2 u (u + 1 + zs.length) w [] ∧ cN (cel t2) (u + 1 + zs.length) v (nR zs) := by
  obtain ⟨t2, v, b1, b2, b3, -⟩ := cG.rowV (N := N) (X := X) (xs := []) (t := t) (t' := t') hN (by rw [List.nil_append]; exact G) hz (by show w + 0 ≤ 60000; omega) hu
  exact ⟨t2, v, b1, b2, b3⟩
theorem c_zeros (hN : 170000 ≤ N) (hh : cHp t u w) (hq : q ≤ 64) (hw : w ≤ 2000) (hu : u ≤ 164000) : ∃ t2 v, cf_91 N X (Int32.ofNat q) t = some (t2, .inl (some (.long v))) ∧ cG t t2 u (u + 1 + q) w [] ∧ cN (cel t2) (u + 1 + q) v (nR (zer q)) := by
  have hl : ∀ i, ((zer i).map nZ).length = i := fun i => by rw [List.length_map]; exact List.length_replicate
  have ga := c_gathered (N := N) (X := X) hh
  have E1 : cf_91 N X (Int32.ofNat q) t = cf_91_L2 N X N 0 (Int32.ofNat q) (Int32.ofNat w) (Int32.ofNat 0) t := by
    repeat ((first | unfold cf_91 | unfold cf_91_0 | unfold cf_91_7 | unfold cf_91_10 | unfold cf_91_15 | unfold cf_91_24 | unfold cf_91_27 | unfold cf_91_33 | unfold cf_91_42); try simp (disch := omega) only [ev_S, ev_C, ↓reduceIte, Nat.reduceEqDiff, Nat.reduceLeDiff, Nat.reduceAdd, Nat.reduceMul, Nat.reduceSub, reduceCtorEq, l32_0, l32_1, l32_2, l32_3, l32_4, ga])
  rw [E1]
  refine lp (fun F i (t' : cS) => cf_91_L2 N X F 0 (Int32.ofNat q) (Int32.ofNat w) (Int32.ofNat i) t') q (fun i t' => cG t t' u u w ((zer i).map nZ)) (fun R => ∃ t2 v, R = some (t2, .inl (some (.long v))) ∧ cG t t2 u (u + 1 + q) w [] ∧ cN (cel t2) (u + 1 + q) v (nR (zer q))) ?_ ?_ q 0 N t (Nat.zero_add _) (by omega) (cG.nil hh)
  · intro F i t1 hi G _
    left
    have n1 : ¬ q ≤ i := by omega
    obtain ⟨t2, p1, p2⟩ := cG.put (N := N) (X := X) G (by rw [hl]; omega) (cN_Z (z := 0))
    have th := c_thing (N := N) (X := X) (t := t1) (k := Int32.ofNat 0) (a := Int32.ofNat 0)
    have p1 : cf_123 N X (tg (Int32.ofNat 0) (Int32.ofNat 0)) t1 = _ := p1
    refine ⟨t2, ?_, ?_⟩
    · rw [zer_s, List.map_append]
      exact p2
    · show cf_91_10 N X (cf_91_L2 N X F) (Int32.ofNat q) (Int32.ofNat w) (Int32.ofNat i) t1 = _
      unfold cf_91_10 cf_91_15 cf_91_24 cf_91_27
      simp (disch := omega) only [ev_S, ev_C, ↓reduceIte, Nat.reduceEqDiff, Nat.reduceLeDiff, Nat.reduceAdd, Nat.reduceMul, Nat.reduceSub, reduceCtorEq, l32_0, l32_1, l32_2, l32_3, l32_4, l32_5, l32_6, l32_7, l32_8, l32_9, l32_10, l32_11, l32_12, l32_13, l32_14, l32_15, l32_16, l32_17, l32_18, l32_19, l32_20, l32_21, l32_22, l32_23, l32_24, l32_25, l32_26, l32_27, l32_28, l32_29, l32_33, l32_40, l32_41, l32_44, l32_45, l32_59, l32_61, l32_91, l32_93, l32_123, l32_125, n1, th, p1]
  · intro F t1 G
    have hzl : (zer q).length = q := List.length_replicate
    obtain ⟨t2, v, b1, b2, b3⟩ := cG.mkRow (N := N) (X := X) hN G (by rw [hzl]; exact hq) (by omega) (by omega)
    rw [hzl] at b2 b3
    refine ⟨t2, v, ?_, b2, b3⟩
    show cf_91_10 N X (cf_91_L2 N X F) (Int32.ofNat q) (Int32.ofNat w) (Int32.ofNat q) t1 = _
    unfold cf_91_10 cf_91_33 cf_91_42
    simp (disch := omega) only [ev_S, ev_C, ↓reduceIte, Nat.reduceEqDiff, Nat.reduceLeDiff, Nat.reduceAdd, Nat.reduceMul, Nat.reduceSub, reduceCtorEq, l32_0, l32_1, l32_2, l32_3, l32_4, l32_5, l32_6, l32_7, l32_8, l32_9, l32_10, l32_11, l32_12, l32_13, l32_14, l32_15, l32_16, l32_17, l32_18, l32_19, l32_20, l32_21, l32_22, l32_23, l32_24, l32_25, l32_26, l32_27, l32_28, l32_29, l32_33, l32_40, l32_41, l32_44, l32_45, l32_59, l32_61, l32_91, l32_93, l32_123, l32_125, b1]
theorem c_grid (hN : 170000 ≤ N) (hh : cHp t u w) (hx : cN (cel t) u vx x) (hy : cN (cel t) u vy y) (hu : u ≤ 162000) (hw : w ≤ 1000) : ∃ t' v, cf_92 N X vx vy t = some (t', .inl (some (.long v))) ∧ cE t t' u v (if kn x = 0 ∧ kn y = 0 then ansG (ivN x) (ivN y) else .inl 3) := by
  have kx := c_kn (N := N) (X := X) hx
  have ky := c_kn (N := N) (X := X) hy
  have lx := kn_le (x := x)
  have ly := kn_le (x := y)
  have T := fun k => c_rf (N := N) (X := X) (t := t) (k := k)
  by_cases c0 : kn x = 0 ∧ kn y = 0
  · rw [if_pos c0]
    have ex := hx.z c0.1
    have lo := c_lowOf (N := N) (X := X) (t := t) (k := 0) (a := ivN x)
    rw [← ex] at lo
    have ey := hy.z c0.2
    have lo' := c_lowOf (N := N) (X := X) (t := t) (k := 0) (a := ivN y)
    rw [← ey] at lo'
    rw [c0.1] at kx
    rw [c0.2] at ky
    generalize ivN x = z at *
    generalize ivN y = z' at *
    have E0 : cf_92 N X vx vy t = cf_92_29 N X z z' t := by
      unfold cf_92 cf_92_0 cf_92_4 cf_92_7 cf_92_11 cf_92_19 cf_92_23
      simp (disch := omega) only [ev_S, ev_C, ↓reduceIte, Nat.reduceEqDiff, Nat.reduceLeDiff, Nat.reduceAdd, Nat.reduceMul, Nat.reduceSub, reduceCtorEq, l32_0, l32_1, l32_2, l32_3, l32_4, l32_5, l32_6, l32_7, l32_8, l32_9, l32_10, l32_11, l32_12, l32_13, l32_14, l32_15, l32_16, l32_17, l32_18, l32_19, l32_20, l32_21, l32_22, l32_23, l32_24, l32_25, l32_26, l32_27, l32_28, l32_29, l32_33, l32_40, l32_41, l32_44, l32_45, l32_59, l32_61, l32_91, l32_93, l32_123, l32_125, kx, ky, lo, lo']
    rw [E0]
    clear E0 lo lo' kx ky
    have b2 := T (Int32.ofNat 2)
    have b1 := T (Int32.ofNat 1)
    unfold ansG
    by_cases z0 : z < 0
    · have x1 := (i32neg z0 (k := 20) (by omega)).2.2.2
      have x2 := (i32neg z0 (k := 0) (by omega)).2.1
      have x3 : z < Int32.ofNat 0 := z0
      rw [pz_n z0, Nat.zero_mul]
      by_cases y0 : z' < 0
      · rw [pz_n y0, if_neg (by omega), if_pos (Or.inl z0)]
        refine ⟨t, _, ?_, cE.tr hh⟩
        have y1 := (i32neg y0 (k := 64) (by omega)).2.2.2
        unfold cf_92_29 cf_92_38 cf_92_45 cf_92_71 cf_92_81 cf_92_85
        simp (disch := omega) only [ev_S, ev_C, ↓reduceIte, Nat.reduceEqDiff, Nat.reduceLeDiff, Nat.reduceAdd, Nat.reduceMul, Nat.reduceSub, reduceCtorEq, l32_0, l32_1, l32_2, l32_3, l32_4, l32_5, l32_6, l32_7, l32_8, l32_9, l32_10, l32_11, l32_12, l32_13, l32_14, l32_15, l32_16, l32_17, l32_18, l32_19, l32_20, l32_21, l32_22, l32_23, l32_24, l32_25, l32_26, l32_27, l32_28, l32_29, l32_33, l32_40, l32_41, l32_44, l32_45, l32_59, l32_61, l32_91, l32_93, l32_123, l32_125, x1, x2, x3, y1, b1, l32_64]
      · obtain ⟨q, hq, eq⟩ := i32nn y0
        subst eq
        rw [pz_o hq]
        by_cases c : 64 < q
        · rw [if_pos (Or.inr (Or.inl c))]
          refine ⟨t, _, ?_, cE.tr hh⟩
          unfold cf_92_29 cf_92_38 cf_92_66 cf_92_70
          simp (disch := omega) only [ev_S, ev_C, ↓reduceIte, Nat.reduceEqDiff, Nat.reduceLeDiff, Nat.reduceAdd, Nat.reduceMul, Nat.reduceSub, reduceCtorEq, l32_0, l32_1, l32_2, l32_3, l32_4, l32_5, l32_6, l32_7, l32_8, l32_9, l32_10, l32_11, l32_12, l32_13, l32_14, l32_15, l32_16, l32_17, l32_18, l32_19, l32_20, l32_21, l32_22, l32_23, l32_24, l32_25, l32_26, l32_27, l32_28, l32_29, l32_33, l32_40, l32_41, l32_44, l32_45, l32_59, l32_61, l32_91, l32_93, l32_123, l32_125, x1, c, b2, l32_64]
        · rw [if_neg (by omega), if_pos (Or.inl z0)]
          refine ⟨t, _, ?_, cE.tr hh⟩
          unfold cf_92_29 cf_92_38 cf_92_45 cf_92_71 cf_92_81 cf_92_85
          simp (disch := omega) only [ev_S, ev_C, ↓reduceIte, Nat.reduceEqDiff, Nat.reduceLeDiff, Nat.reduceAdd, Nat.reduceMul, Nat.reduceSub, reduceCtorEq, l32_0, l32_1, l32_2, l32_3, l32_4, l32_5, l32_6, l32_7, l32_8, l32_9, l32_10, l32_11, l32_12, l32_13, l32_14, l32_15, l32_16, l32_17, l32_18, l32_19, l32_20, l32_21, l32_22, l32_23, l32_24, l32_25, l32_26, l32_27, l32_28, l32_29, l32_33, l32_40, l32_41, l32_44, l32_45, l32_59, l32_61, l32_91, l32_93, l32_123, l32_125, x1, x2, x3, c, b1, l32_64]
    · obtain ⟨p, hp, ep⟩ := i32nn z0
      subst ep
      rw [pz_o hp]
      by_cases d : 20 < p
      · rw [if_pos (Or.inl d)]
        refine ⟨t, _, ?_, cE.tr hh⟩
        unfold cf_92_29 cf_92_66 cf_92_70
        simp (disch := omega) only [ev_S, ev_C, ↓reduceIte, Nat.reduceEqDiff, Nat.reduceLeDiff, Nat.reduceAdd, Nat.reduceMul, Nat.reduceSub, reduceCtorEq, l32_0, l32_1, l32_2, l32_3, l32_4, l32_5, l32_6, l32_7, l32_8, l32_9, l32_10, l32_11, l32_12, l32_13, l32_14, l32_15, l32_16, l32_17, l32_18, l32_19, l32_20, l32_21, l32_22, l32_23, l32_24, l32_25, l32_26, l32_27, l32_28, l32_29, l32_33, l32_40, l32_41, l32_44, l32_45, l32_59, l32_61, l32_91, l32_93, l32_123, l32_125, d, b2]
      · by_cases y0 : z' < 0
        · rw [pz_n y0, if_neg (by omega), if_pos (Or.inr y0)]
          refine ⟨t, _, ?_, cE.tr hh⟩
          have y1 := (i32neg y0 (k := 64) (by omega)).2.2.2
          have y2 := (i32neg y0 (k := 0) (by omega)).2.1
          have y3 := (i32neg y0 (k := 0) (by omega)).2.2.1
          have E1 : cf_92_29 N X (Int32.ofNat p) z' t = cf_92_71 N X (Int32.ofNat p) z' t := by
            by_cases p0 : p ≤ 0
            · unfold cf_92_29 cf_92_38 cf_92_45
              simp (disch := omega) only [ev_S, ev_C, ↓reduceIte, Nat.reduceEqDiff, Nat.reduceLeDiff, Nat.reduceAdd, Nat.reduceMul, Nat.reduceSub, reduceCtorEq, l32_0, l32_1, l32_2, l32_3, l32_4, l32_5, l32_6, l32_7, l32_8, l32_9, l32_10, l32_11, l32_12, l32_13, l32_14, l32_15, l32_16, l32_17, l32_18, l32_19, l32_20, l32_21, l32_22, l32_23, l32_24, l32_25, l32_26, l32_27, l32_28, l32_29, l32_33, l32_40, l32_41, l32_44, l32_45, l32_59, l32_61, l32_91, l32_93, l32_123, l32_125, d, y1, p0, l32_64]
            · unfold cf_92_29 cf_92_38 cf_92_45 cf_92_50
              simp (disch := omega) only [ev_S, ev_C, ↓reduceIte, Nat.reduceEqDiff, Nat.reduceLeDiff, Nat.reduceAdd, Nat.reduceMul, Nat.reduceSub, reduceCtorEq, l32_0, l32_1, l32_2, l32_3, l32_4, l32_5, l32_6, l32_7, l32_8, l32_9, l32_10, l32_11, l32_12, l32_13, l32_14, l32_15, l32_16, l32_17, l32_18, l32_19, l32_20, l32_21, l32_22, l32_23, l32_24, l32_25, l32_26, l32_27, l32_28, l32_29, l32_33, l32_40, l32_41, l32_44, l32_45, l32_59, l32_61, l32_91, l32_93, l32_123, l32_125, d, y1, p0, y2, l32_64]
          rw [E1]
          unfold cf_92_71 cf_92_76 cf_92_81 cf_92_85
          simp (disch := omega) only [ev_S, ev_C, ↓reduceIte, Nat.reduceEqDiff, Nat.reduceLeDiff, Nat.reduceAdd, Nat.reduceMul, Nat.reduceSub, reduceCtorEq, l32_0, l32_1, l32_2, l32_3, l32_4, l32_5, l32_6, l32_7, l32_8, l32_9, l32_10, l32_11, l32_12, l32_13, l32_14, l32_15, l32_16, l32_17, l32_18, l32_19, l32_20, l32_21, l32_22, l32_23, l32_24, l32_25, l32_26, l32_27, l32_28, l32_29, l32_33, l32_40, l32_41, l32_44, l32_45, l32_59, l32_61, l32_91, l32_93, l32_123, l32_125, y3, b1]
        · obtain ⟨q, hq, eq⟩ := i32nn y0
          subst eq
          rw [pz_o hq]
          by_cases c : 64 < q
          · rw [if_pos (Or.inr (Or.inl c))]
            refine ⟨t, _, ?_, cE.tr hh⟩
            unfold cf_92_29 cf_92_38 cf_92_66 cf_92_70
            simp (disch := omega) only [ev_S, ev_C, ↓reduceIte, Nat.reduceEqDiff, Nat.reduceLeDiff, Nat.reduceAdd, Nat.reduceMul, Nat.reduceSub, reduceCtorEq, l32_0, l32_1, l32_2, l32_3, l32_4, l32_5, l32_6, l32_7, l32_8, l32_9, l32_10, l32_11, l32_12, l32_13, l32_14, l32_15, l32_16, l32_17, l32_18, l32_19, l32_20, l32_21, l32_22, l32_23, l32_24, l32_25, l32_26, l32_27, l32_28, l32_29, l32_33, l32_40, l32_41, l32_44, l32_45, l32_59, l32_61, l32_91, l32_93, l32_123, l32_125, d, c, b2, l32_64]
          · have hmul : p * q ≤ 20 * 64 := Nat.mul_le_mul (by omega) (by omega)
            by_cases e : 200 < p * q
            · rw [if_pos (Or.inr (Or.inr e))]
              refine ⟨t, _, ?_, cE.tr hh⟩
              have e' : ¬ p * q ≤ 200 := by omega
              have p0 : ¬ p ≤ 0 := fun z => by rw [Nat.le_zero.mp z, Nat.zero_mul] at e; omega
              have q0 : ¬ q ≤ 0 := fun z => by rw [Nat.le_zero.mp z, Nat.mul_zero] at e; omega
              unfold cf_92_29 cf_92_38 cf_92_45 cf_92_50 cf_92_55 cf_92_66 cf_92_70
              simp (disch := omega) only [ev_S, ev_C, ↓reduceIte, Nat.reduceEqDiff, Nat.reduceLeDiff, Nat.reduceAdd, Nat.reduceMul, Nat.reduceSub, reduceCtorEq, l32_0, l32_1, l32_2, l32_3, l32_4, l32_5, l32_6, l32_7, l32_8, l32_9, l32_10, l32_11, l32_12, l32_13, l32_14, l32_15, l32_16, l32_17, l32_18, l32_19, l32_20, l32_21, l32_22, l32_23, l32_24, l32_25, l32_26, l32_27, l32_28, l32_29, l32_33, l32_40, l32_41, l32_44, l32_45, l32_59, l32_61, l32_91, l32_93, l32_123, l32_125, d, c, p0, q0, e', b2, l32_64, l32_200]
            · have e' : p * q ≤ 200 := by omega
              rw [if_neg (by omega), if_neg (fun z => z.elim z0 y0)]
              have ga := c_gathered (N := N) (X := X) hh
              have E1 : cf_92_29 N X (Int32.ofNat p) (Int32.ofNat q) t = cf_92_71 N X (Int32.ofNat p) (Int32.ofNat q) t := by
                by_cases p0 : p ≤ 0
                · unfold cf_92_29 cf_92_38 cf_92_45
                  simp (disch := omega) only [ev_S, ev_C, ↓reduceIte, Nat.reduceEqDiff, Nat.reduceLeDiff, Nat.reduceAdd, Nat.reduceMul, Nat.reduceSub, reduceCtorEq, l32_0, l32_1, l32_2, l32_3, l32_4, l32_5, l32_6, l32_7, l32_8, l32_9, l32_10, l32_11, l32_12, l32_13, l32_14, l32_15, l32_16, l32_17, l32_18, l32_19, l32_20, l32_21, l32_22, l32_23, l32_24, l32_25, l32_26, l32_27, l32_28, l32_29, l32_33, l32_40, l32_41, l32_44, l32_45, l32_59, l32_61, l32_91, l32_93, l32_123, l32_125, d, c, p0, l32_64]
                · by_cases q0 : q ≤ 0
                  · unfold cf_92_29 cf_92_38 cf_92_45 cf_92_50
                    simp (disch := omega) only [ev_S, ev_C, ↓reduceIte, Nat.reduceEqDiff, Nat.reduceLeDiff, Nat.reduceAdd, Nat.reduceMul, Nat.reduceSub, reduceCtorEq, l32_0, l32_1, l32_2, l32_3, l32_4, l32_5, l32_6, l32_7, l32_8, l32_9, l32_10, l32_11, l32_12, l32_13, l32_14, l32_15, l32_16, l32_17, l32_18, l32_19, l32_20, l32_21, l32_22, l32_23, l32_24, l32_25, l32_26, l32_27, l32_28, l32_29, l32_33, l32_40, l32_41, l32_44, l32_45, l32_59, l32_61, l32_91, l32_93, l32_123, l32_125, d, c, p0, q0, l32_64]
                  · unfold cf_92_29 cf_92_38 cf_92_45 cf_92_50 cf_92_55
                    simp (disch := omega) only [ev_S, ev_C, ↓reduceIte, Nat.reduceEqDiff, Nat.reduceLeDiff, Nat.reduceAdd, Nat.reduceMul, Nat.reduceSub, reduceCtorEq, l32_0, l32_1, l32_2, l32_3, l32_4, l32_5, l32_6, l32_7, l32_8, l32_9, l32_10, l32_11, l32_12, l32_13, l32_14, l32_15, l32_16, l32_17, l32_18, l32_19, l32_20, l32_21, l32_22, l32_23, l32_24, l32_25, l32_26, l32_27, l32_28, l32_29, l32_33, l32_40, l32_41, l32_44, l32_45, l32_59, l32_61, l32_91, l32_93, l32_123, l32_125, d, c, p0, q0, e', l32_64, l32_200]
              have E2 : cf_92_71 N X (Int32.ofNat p) (Int32.ofNat q) t = cf_92_L8 N X N 0 (Int32.ofNat p) (Int32.ofNat q) (Int32.ofNat w) (Int32.ofNat 0) t := by
                unfold cf_92_71 cf_92_76 cf_92_86 cf_92_93
                simp (disch := omega) only [ev_S, ev_C, ↓reduceIte, Nat.reduceEqDiff, Nat.reduceLeDiff, Nat.reduceAdd, Nat.reduceMul, Nat.reduceSub, reduceCtorEq, l32_0, l32_1, l32_2, l32_3, l32_4, l32_5, l32_6, l32_7, l32_8, l32_9, l32_10, l32_11, l32_12, l32_13, l32_14, l32_15, l32_16, l32_17, l32_18, l32_19, l32_20, l32_21, l32_22, l32_23, l32_24, l32_25, l32_26, l32_27, l32_28, l32_29, l32_33, l32_40, l32_41, l32_44, l32_45, l32_59, l32_61, l32_91, l32_93, l32_123, l32_125, ga]
              rw [E1, E2]
              have hle : ∀ i, i ≤ p → i * q ≤ 200 := fun i hi => Nat.le_trans (Nat.mul_le_mul_right q hi) e'
              refine lp (fun F i (t' : cS) => cf_92_L8 N X F 0 (Int32.ofNat p) (Int32.ofNat q) (Int32.ofNat w) (Int32.ofNat i) t') p (fun i t' => cG t t' u (u + (i + i * q)) w ((List.replicate i (zer q)).map nR)) (fun R => ∃ t' v, R = some (t', .inl (some (.long v))) ∧ cE t t' u v (ansM 2 ((List.replicate p (zer q)).map nR))) ?_ ?_ p 0 N t (Nat.zero_add _) (by omega) (by rw [Nat.zero_mul]; exact cG.nil hh)
              · intro F i t1 hi G _
                left
                have hli : (List.replicate i (zer q)).length = i := List.length_replicate
                have hll : ((List.replicate i (zer q)).map nR).length = i := by rw [List.length_map, hli]
                have hsi := hle i (by omega)
                have n1 : ¬ p ≤ i := by omega
                obtain ⟨t2, v, r1, r2, r3⟩ := c_zeros (N := N) (X := X) (q := q) hN G.c (by omega) (by rw [hll]; omega) (by omega)
                obtain ⟨t3, p1, p2⟩ := cG.addRow (N := N) (X := X) G r2 r3 (by rw [hll]; omega)
                refine ⟨t3, ?_, ?_⟩
                · rw [rep_s, List.map_append]
                  have e : u + (i + 1 + (i + 1) * q) = u + (i + i * q) + 1 + q := by rw [Nat.succ_mul]; omega
                  rw [e]
                  exact p2
                · show cf_92_98 N X (cf_92_L8 N X F) (Int32.ofNat p) (Int32.ofNat q) (Int32.ofNat w) (Int32.ofNat i) t1 = _
                  unfold cf_92_98 cf_92_105 cf_92_115 cf_92_118
                  simp (disch := omega) only [ev_S, ev_C, ↓reduceIte, Nat.reduceEqDiff, Nat.reduceLeDiff, Nat.reduceAdd, Nat.reduceMul, Nat.reduceSub, reduceCtorEq, l32_0, l32_1, l32_2, l32_3, l32_4, l32_5, l32_6, l32_7, l32_8, l32_9, l32_10, l32_11, l32_12, l32_13, l32_14, l32_15, l32_16, l32_17, l32_18, l32_19, l32_20, l32_21, l32_22, l32_23, l32_24, l32_25, l32_26, l32_27, l32_28, l32_29, l32_33, l32_40, l32_41, l32_44, l32_45, l32_59, l32_61, l32_91, l32_93, l32_123, l32_125, n1, r1, p1]
              · intro F t1 G
                have hs2 := rep_sum (q := p) (k := q)
                have hlp : (List.replicate p (zer q)).length = p := List.length_replicate
                obtain ⟨t2, v, b1, b2⟩ := cG.bT (N := N) (X := X) hN G (fun r hr => by
                  rw [(List.mem_replicate.mp hr).2]
                  show (zer q).length ≤ 64
                  rw [show (zer q).length = q from List.length_replicate]
                  omega) (by rw [hlp, hs2]; omega) (by rw [hlp, hs2]; omega) (by omega) (by omega)
                refine ⟨t2, v, ?_, b2⟩
                show cf_92_98 N X (cf_92_L8 N X F) (Int32.ofNat p) (Int32.ofNat q) (Int32.ofNat w) (Int32.ofNat p) t1 = _
                unfold cf_92_98 cf_92_124 cf_92_134
                simp (disch := omega) only [ev_S, ev_C, ↓reduceIte, Nat.reduceEqDiff, Nat.reduceLeDiff, Nat.reduceAdd, Nat.reduceMul, Nat.reduceSub, reduceCtorEq, l32_0, l32_1, l32_2, l32_3, l32_4, l32_5, l32_6, l32_7, l32_8, l32_9, l32_10, l32_11, l32_12, l32_13, l32_14, l32_15, l32_16, l32_17, l32_18, l32_19, l32_20, l32_21, l32_22, l32_23, l32_24, l32_25, l32_26, l32_27, l32_28, l32_29, l32_33, l32_40, l32_41, l32_44, l32_45, l32_59, l32_61, l32_91, l32_93, l32_123, l32_125, b1]
  · rw [if_neg c0]
    refine ⟨t, _, ?_, cE.tr hh⟩
    have b1 := T (Int32.ofNat 3)
    generalize kn x = kx' at *
    generalize kn y = ky' at *
    by_cases c : kx' = 0
    · have d : ¬ ky' = 0 := fun z => c0 ⟨c, z⟩
      repeat ((first | unfold cf_92 | unfold cf_92_0 | unfold cf_92_4 | unfold cf_92_7 | unfold cf_92_11 | unfold cf_92_14 | unfold cf_92_18 | unfold cf_92_19 | unfold cf_92_23 | unfold cf_92_29 | unfold cf_92_38 | unfold cf_92_45 | unfold cf_92_50 | unfold cf_92_55 | unfold cf_92_66 | unfold cf_92_70 | unfold cf_92_71 | unfold cf_92_76 | unfold cf_92_81 | unfold cf_92_85 | unfold cf_92_86 | unfold cf_92_93 | unfold cf_92_98 | unfold cf_92_105 | unfold cf_92_115 | unfold cf_92_118 | unfold cf_92_124 | unfold cf_92_134); try simp (disch := omega) only [ev_S, ev_C, ↓reduceIte, Nat.reduceEqDiff, Nat.reduceLeDiff, Nat.reduceAdd, Nat.reduceMul, Nat.reduceSub, reduceCtorEq, l32_0, l32_1, l32_2, l32_3, l32_4, l32_20, l32_64, l32_200, kx, ky, c, d, b1])
    · repeat ((first | unfold cf_92 | unfold cf_92_0 | unfold cf_92_4 | unfold cf_92_7 | unfold cf_92_11 | unfold cf_92_14 | unfold cf_92_18 | unfold cf_92_19 | unfold cf_92_23 | unfold cf_92_29 | unfold cf_92_38 | unfold cf_92_45 | unfold cf_92_50 | unfold cf_92_55 | unfold cf_92_66 | unfold cf_92_70 | unfold cf_92_71 | unfold cf_92_76 | unfold cf_92_81 | unfold cf_92_85 | unfold cf_92_86 | unfold cf_92_93 | unfold cf_92_98 | unfold cf_92_105 | unfold cf_92_115 | unfold cf_92_118 | unfold cf_92_124 | unfold cf_92_134); try simp (disch := omega) only [ev_S, ev_C, ↓reduceIte, Nat.reduceEqDiff, Nat.reduceLeDiff, Nat.reduceAdd, Nat.reduceMul, Nat.reduceSub, reduceCtorEq, l32_0, l32_1, l32_2, l32_3, l32_4, l32_20, l32_64, l32_200, kx, ky, c, b1])
end GRC
end
-- ### 96i.pure.lean.txt
section
/-! ===== PURE: run (36): rows ===== -/
theorem pz_lt {z : Int32} : pz z < 2147483648 := by
  unfold pz
  by_cases h : z < 0
  · rw [if_pos h]
    omega
  · obtain ⟨p, hp, rfl⟩ := i32nn h
    rw [if_neg h, ev_S.1 hp]
    exact hp
theorem take_any {α : Type} {r : List α} {p : α → Bool} {i : Nat} (hi : i < r.length) : (r.take (i + 1)).any p = ((r.take i).any p || p r[i]) := by
  rw [List.take_succ_eq_append_getElem hi, List.any_append, List.any_cons, List.any_nil, Bool.or_false]
theorem any_mem {α : Type} {r : List α} {p : α → Bool} {i : Nat} (hi : i < r.length) (h : p r[i] = true) : r.any p = true := List.any_eq_true.mpr ⟨_, List.getElem_mem hi, h⟩
theorem take_sum_s {α : Type} {r : List α} {g : α → Nat} {i : Nat} (hi : i < r.length) : ((r.take (i + 1)).map g).sum = ((r.take i).map g).sum + g r[i] := by
  rw [take_map_s hi, List.sum_append]
  show _ + (g r[i] + 0) = _
  omega
theorem zer_len {n : Nat} : (zer n).length = n := List.length_replicate
/-- a least of some INTS and 0 -/
def lst0 (z : Int32) (b : Bool) : Prop := (z < 0 ↔ b = true) ∧ (¬ z < 0 → z = Int32.ofNat 0)
theorem lst0_s {z y : Int32} {b : Bool} (h : lst0 z b) : lst0 (if y < z then y else z) (b || decide (y < 0)) := by
  obtain ⟨h1, h2⟩ := h
  by_cases c : y < z
  · rw [if_pos c]
    by_cases d : z < 0
    · rw [h1.mp d, Bool.true_or]
      exact ⟨⟨fun _ => rfl, fun _ => Int32.lt_trans c d⟩, fun q => absurd (Int32.lt_trans c d) q⟩
    · have e := h2 d
      have hb : b = false := by
        cases hb : b with
        | false => rfl
        | true => exact absurd (h1.mpr hb) d
      rw [e] at c
      have c : y < 0 := c
      rw [hb, Bool.false_or, decide_eq_true c]
      exact ⟨⟨fun _ => rfl, fun _ => c⟩, fun q => absurd c q⟩
  · rw [if_neg c]
    by_cases d : z < 0
    · rw [h1.mp d, Bool.true_or]
      exact ⟨⟨fun _ => rfl, fun _ => d⟩, fun q => absurd d q⟩
    · have e := h2 d
      have hb : b = false := by
        cases hb : b with
        | false => rfl
        | true => exact absurd (h1.mpr hb) d
      rw [e] at c
      have c : ¬ y < 0 := c
      rw [hb, Bool.false_or, decide_eq_false c]
      exact ⟨⟨fun q => absurd q d, fun q => by cases q⟩, fun _ => e⟩
section RWS
variable {N : Nat} {X : Nat → Option zz_C} {s s' : mS} {t t' : cS} {n f f' m q a u w : Nat} {x : Nod} {ys xs : List Nod} {xv yv : Int32} {vx : Int64}
theorem r_mk4 (hN : 170000 ≤ N) (H : rA s n f m ys) (La : LayN (s.2.2.1 47) (Rf f) a x) (h1 : kn x = 1) (wx : wfN x) : ∃ s', mf_330 N (Int32.ofNat 4) (Int32.ofNat a) yv (Int32.ofNat n) s = some (s', none) ∧ rE s s' n f m (ansW (rvN x)) := by
  have H' := H
  obtain ⟨-, H2, H3, H4, H5, H6, H7, H8, H9, H10⟩ := H'
  have G0 : rG s (mI s 51 (Int32.ofNat n)) n f f [] := rG.nil H2
  have Gs : rG s s n f f ys := H.g
  have T := fun k => rA.trb (N := N) H s vfr.rf rfl rfl rfl k
  have Lr := lay1 La h1
  have hr := rv_wf h1 wx
  have hlt := rowlt Lr
  have esz := kn1_sz h1
  have zz := Gs.size (N := N) La (by omega)
  rw [esz] at zz
  have SZ := fun s2 fx xs (G : rG s s2 n f fx xs) => rG.size (N := N) G La (by omega)
  rw [esz] at SZ
  generalize rvN x = r at *
  have E1 : mf_330 N (Int32.ofNat 4) (Int32.ofNat a) yv (Int32.ofNat n) s = mf_330_L27 N N 0 (Int32.ofNat 4) (Int32.ofNat a) yv (Int32.ofNat n) (Int32.ofNat 0) (bI (decide (20 < r.length))) (Int32.ofNat 0) (Int32.ofNat 0) s := by
    by_cases c : 20 < r.length
    · rw [decide_eq_true c]
      simp only [bI]
      have c' : ¬ r.length ≤ 20 := by omega
      by_cases d : a ≤ 20
      · repeat ((first | unfold mf_330 | unfold mf_330_0 | unfold mf_330_9 | unfold mf_330_14 | unfold mf_330_16 | unfold mf_330_19 | unfold mf_330_23 | unfold mf_330_24 | unfold mf_330_31 | unfold mf_330_36 | unfold mf_330_42 | unfold mf_330_46 | unfold mf_330_50 | unfold mf_330_62 | unfold mf_330_66 | unfold mf_330_67 | unfold mf_330_74 | unfold mf_330_78 | unfold mf_330_79 | unfold mf_330_81 | unfold mf_330_86 | unfold mf_330_94 | unfold mf_330_99 | unfold mf_330_103 | unfold mf_330_104 | unfold mf_330_112 | unfold mf_330_119 | unfold mf_330_122 | unfold mf_330_127 | unfold mf_330_147 | unfold mf_330_151 | unfold mf_330_152 | unfold mf_330_161 | unfold mf_330_168 | unfold mf_330_173 | unfold mf_330_174 | unfold mf_330_184 | unfold mf_330_189 | unfold mf_330_191 | unfold mf_330_199 | unfold mf_330_204 | unfold mf_330_212 | unfold mf_330_216 | unfold mf_330_217 | unfold mf_330_219 | unfold mf_330_224 | unfold mf_330_229 | unfold mf_330_235 | unfold mf_330_239 | unfold mf_330_240 | unfold mf_330_247 | unfold mf_330_248 | unfold mf_330_259 | unfold mf_330_262 | unfold mf_330_268 | unfold mf_330_275 | unfold mf_330_280 | unfold mf_330_281 | unfold mf_330_284 | unfold mf_330_290 | unfold mf_330_296 | unfold mf_330_300 | unfold mf_330_301 | unfold mf_330_306 | unfold mf_330_307 | unfold mf_330_312 | unfold mf_330_316 | unfold mf_330_321 | unfold mf_330_326 | unfold mf_330_333 | unfold mf_330_345 | unfold mf_330_349 | unfold mf_330_360 | unfold mf_330_363 | unfold mf_330_369 | unfold mf_330_375 | unfold mf_330_382); try simp (disch := omega) only [ev_S, ev_P, ↓reduceIte, Nat.reduceEqDiff, Nat.reduceLeDiff, Nat.reduceAdd, Nat.reduceMul, Nat.reduceSub, reduceCtorEq, l32_0, l32_1, l32_2, l32_3, l32_4, l32_20, l32_47, l32_51, l32_64, l32_200, l32_166300, zz, c', d])
      · repeat ((first | unfold mf_330 | unfold mf_330_0 | unfold mf_330_9 | unfold mf_330_14 | unfold mf_330_16 | unfold mf_330_19 | unfold mf_330_23 | unfold mf_330_24 | unfold mf_330_31 | unfold mf_330_36 | unfold mf_330_42 | unfold mf_330_46 | unfold mf_330_50 | unfold mf_330_62 | unfold mf_330_66 | unfold mf_330_67 | unfold mf_330_74 | unfold mf_330_78 | unfold mf_330_79 | unfold mf_330_81 | unfold mf_330_86 | unfold mf_330_94 | unfold mf_330_99 | unfold mf_330_103 | unfold mf_330_104 | unfold mf_330_112 | unfold mf_330_119 | unfold mf_330_122 | unfold mf_330_127 | unfold mf_330_147 | unfold mf_330_151 | unfold mf_330_152 | unfold mf_330_161 | unfold mf_330_168 | unfold mf_330_173 | unfold mf_330_174 | unfold mf_330_184 | unfold mf_330_189 | unfold mf_330_191 | unfold mf_330_199 | unfold mf_330_204 | unfold mf_330_212 | unfold mf_330_216 | unfold mf_330_217 | unfold mf_330_219 | unfold mf_330_224 | unfold mf_330_229 | unfold mf_330_235 | unfold mf_330_239 | unfold mf_330_240 | unfold mf_330_247 | unfold mf_330_248 | unfold mf_330_259 | unfold mf_330_262 | unfold mf_330_268 | unfold mf_330_275 | unfold mf_330_280 | unfold mf_330_281 | unfold mf_330_284 | unfold mf_330_290 | unfold mf_330_296 | unfold mf_330_300 | unfold mf_330_301 | unfold mf_330_306 | unfold mf_330_307 | unfold mf_330_312 | unfold mf_330_316 | unfold mf_330_321 | unfold mf_330_326 | unfold mf_330_333 | unfold mf_330_345 | unfold mf_330_349 | unfold mf_330_360 | unfold mf_330_363 | unfold mf_330_369 | unfold mf_330_375 | unfold mf_330_382); try simp (disch := omega) only [ev_S, ev_P, ↓reduceIte, Nat.reduceEqDiff, Nat.reduceLeDiff, Nat.reduceAdd, Nat.reduceMul, Nat.reduceSub, reduceCtorEq, l32_0, l32_1, l32_2, l32_3, l32_4, l32_20, l32_47, l32_51, l32_64, l32_200, l32_166300, zz, c', d])
    · rw [decide_eq_false c]
      simp only [bI]
      have c' : r.length ≤ 20 := by omega
      by_cases d : a ≤ 20
      · repeat ((first | unfold mf_330 | unfold mf_330_0 | unfold mf_330_9 | unfold mf_330_14 | unfold mf_330_16 | unfold mf_330_19 | unfold mf_330_23 | unfold mf_330_24 | unfold mf_330_31 | unfold mf_330_36 | unfold mf_330_42 | unfold mf_330_46 | unfold mf_330_50 | unfold mf_330_62 | unfold mf_330_66 | unfold mf_330_67 | unfold mf_330_74 | unfold mf_330_78 | unfold mf_330_79 | unfold mf_330_81 | unfold mf_330_86 | unfold mf_330_94 | unfold mf_330_99 | unfold mf_330_103 | unfold mf_330_104 | unfold mf_330_112 | unfold mf_330_119 | unfold mf_330_122 | unfold mf_330_127 | unfold mf_330_147 | unfold mf_330_151 | unfold mf_330_152 | unfold mf_330_161 | unfold mf_330_168 | unfold mf_330_173 | unfold mf_330_174 | unfold mf_330_184 | unfold mf_330_189 | unfold mf_330_191 | unfold mf_330_199 | unfold mf_330_204 | unfold mf_330_212 | unfold mf_330_216 | unfold mf_330_217 | unfold mf_330_219 | unfold mf_330_224 | unfold mf_330_229 | unfold mf_330_235 | unfold mf_330_239 | unfold mf_330_240 | unfold mf_330_247 | unfold mf_330_248 | unfold mf_330_259 | unfold mf_330_262 | unfold mf_330_268 | unfold mf_330_275 | unfold mf_330_280 | unfold mf_330_281 | unfold mf_330_284 | unfold mf_330_290 | unfold mf_330_296 | unfold mf_330_300 | unfold mf_330_301 | unfold mf_330_306 | unfold mf_330_307 | unfold mf_330_312 | unfold mf_330_316 | unfold mf_330_321 | unfold mf_330_326 | unfold mf_330_333 | unfold mf_330_345 | unfold mf_330_349 | unfold mf_330_360 | unfold mf_330_363 | unfold mf_330_369 | unfold mf_330_375 | unfold mf_330_382); try simp (disch := omega) only [ev_S, ev_P, ↓reduceIte, Nat.reduceEqDiff, Nat.reduceLeDiff, Nat.reduceAdd, Nat.reduceMul, Nat.reduceSub, reduceCtorEq, l32_0, l32_1, l32_2, l32_3, l32_4, l32_20, l32_47, l32_51, l32_64, l32_200, l32_166300, zz, c', d])
      · repeat ((first | unfold mf_330 | unfold mf_330_0 | unfold mf_330_9 | unfold mf_330_14 | unfold mf_330_16 | unfold mf_330_19 | unfold mf_330_23 | unfold mf_330_24 | unfold mf_330_31 | unfold mf_330_36 | unfold mf_330_42 | unfold mf_330_46 | unfold mf_330_50 | unfold mf_330_62 | unfold mf_330_66 | unfold mf_330_67 | unfold mf_330_74 | unfold mf_330_78 | unfold mf_330_79 | unfold mf_330_81 | unfold mf_330_86 | unfold mf_330_94 | unfold mf_330_99 | unfold mf_330_103 | unfold mf_330_104 | unfold mf_330_112 | unfold mf_330_119 | unfold mf_330_122 | unfold mf_330_127 | unfold mf_330_147 | unfold mf_330_151 | unfold mf_330_152 | unfold mf_330_161 | unfold mf_330_168 | unfold mf_330_173 | unfold mf_330_174 | unfold mf_330_184 | unfold mf_330_189 | unfold mf_330_191 | unfold mf_330_199 | unfold mf_330_204 | unfold mf_330_212 | unfold mf_330_216 | unfold mf_330_217 | unfold mf_330_219 | unfold mf_330_224 | unfold mf_330_229 | unfold mf_330_235 | unfold mf_330_239 | unfold mf_330_240 | unfold mf_330_247 | unfold mf_330_248 | unfold mf_330_259 | unfold mf_330_262 | unfold mf_330_268 | unfold mf_330_275 | unfold mf_330_280 | unfold mf_330_281 | unfold mf_330_284 | unfold mf_330_290 | unfold mf_330_296 | unfold mf_330_300 | unfold mf_330_301 | unfold mf_330_306 | unfold mf_330_307 | unfold mf_330_312 | unfold mf_330_316 | unfold mf_330_321 | unfold mf_330_326 | unfold mf_330_333 | unfold mf_330_345 | unfold mf_330_349 | unfold mf_330_360 | unfold mf_330_363 | unfold mf_330_369 | unfold mf_330_375 | unfold mf_330_382); try simp (disch := omega) only [ev_S, ev_P, ↓reduceIte, Nat.reduceEqDiff, Nat.reduceLeDiff, Nat.reduceAdd, Nat.reduceMul, Nat.reduceSub, reduceCtorEq, l32_0, l32_1, l32_2, l32_3, l32_4, l32_20, l32_47, l32_51, l32_64, l32_200, l32_166300, zz, c', d])
  have hsum : ∀ i, (∀ z ∈ r.take i, pz z ≤ 64) → ((r.take i).map pz).sum ≤ 64 * i := fun i h => by
    have : ∀ l : List Int32, (∀ z ∈ l, pz z ≤ 64) → (l.map pz).sum ≤ 64 * l.length := fun l => by
      induction l with
      | nil => intro _; exact Nat.le_refl _
      | cons z l ih =>
        intro hl
        have h1 := hl z List.mem_cons_self
        have h2 := ih (fun y hy => hl y (List.mem_cons_of_mem _ hy))
        rw [List.map_cons, List.sum_cons, List.length_cons]
        omega
    have h3 := this (r.take i) h
    rw [List.length_take] at h3
    omega
  have E2 : mf_330_L27 N N 0 (Int32.ofNat 4) (Int32.ofNat a) yv (Int32.ofNat n) (Int32.ofNat 0) (bI (decide (20 < r.length))) (Int32.ofNat 0) (Int32.ofNat 0) s = if 20 < r.length ∨ (r.any fun z => decide (64 < pz z)) = true ∨ 200 < (r.map pz).sum then mf_330_229 N (Int32.ofNat 1) s else if (r.any fun z => decide (z < 0)) = true then mf_330_229 N (Int32.ofNat 0) s else mf_330_248 N (Int32.ofNat 4) (Int32.ofNat a) yv (Int32.ofNat n) s := by
    have EX : ∀ x5 x7, mf_330_199 N (Int32.ofNat 4) (Int32.ofNat a) yv (Int32.ofNat n) x5 (Int32.ofNat 1) x7 s = mf_330_229 N (Int32.ofNat 1) s := fun x5 x7 => by
      unfold mf_330_199 mf_330_212 mf_330_217 mf_330_219
      simp (disch := omega) only [ev_S, ev_P, ↓reduceIte, Nat.reduceEqDiff, Nat.reduceLeDiff, Nat.reduceAdd, Nat.reduceMul, Nat.reduceSub, reduceCtorEq, l32_0, l32_1, l32_2, l32_3, l32_4, l32_5, l32_6, l32_7, l32_8, l32_9, l32_10, l32_11, l32_12, l32_13, l32_14, l32_15, l32_16, l32_17, l32_18, l32_19, l32_20, l32_21, l32_22, l32_23, l32_24, l32_25, l32_26, l32_27, l32_28, l32_29, l32_33, l32_40, l32_41, l32_44, l32_45, l32_59, l32_61, l32_91, l32_93, l32_123, l32_125]
    refine lp (fun F i (c : Int32 × Bool × Nat) => mf_330_L27 N F 0 (Int32.ofNat 4) (Int32.ofNat a) yv (Int32.ofNat n) c.1 (bI c.2.1) (Int32.ofNat c.2.2) (Int32.ofNat i) s) r.length (fun i c => (c.2.1 = true → 20 < r.length ∨ (r.any fun z => decide (64 < pz z)) = true) ∧ (c.2.1 = false → r.length ≤ 20 ∧ (∀ z ∈ r.take i, pz z ≤ 64) ∧ c.2.2 = ((r.take i).map pz).sum ∧ lst0 c.1 ((r.take i).any fun z => decide (z < 0)))) (fun R => R = if 20 < r.length ∨ (r.any fun z => decide (64 < pz z)) = true ∨ 200 < (r.map pz).sum then mf_330_229 N (Int32.ofNat 1) s else if (r.any fun z => decide (z < 0)) = true then mf_330_229 N (Int32.ofNat 0) s else mf_330_248 N (Int32.ofNat 4) (Int32.ofNat a) yv (Int32.ofNat n) s) ?_ ?_ r.length 0 N (Int32.ofNat 0, decide (20 < r.length), 0) (Nat.zero_add _) (by omega) ⟨fun h => Or.inl (decide_eq_true_iff.mp h), fun h => ⟨Nat.not_lt.mp (decide_eq_false_iff_not.mp h), fun z hz => absurd hz List.not_mem_nil, rfl, ⟨fun q => absurd q (show ¬ Int32.ofNat 0 < 0 by decide), fun q => (by cases q)⟩, fun _ => rfl⟩⟩
    · intro F i c hi hP _
      obtain ⟨l0, g0, a0⟩ := c
      obtain ⟨P1, P2⟩ := hP
      have n1 : ¬ r.length ≤ i := by omega
      cases hg : g0 with
      | true =>
        right
        have P1 := P1 hg
        rw [if_pos (P1.elim Or.inl (fun z => Or.inr (Or.inl z)))]
        show mf_330_112 N (mf_330_L27 N F) (Int32.ofNat 4) (Int32.ofNat a) yv (Int32.ofNat n) l0 (bI true) (Int32.ofNat a0) (Int32.ofNat i) s = _
        have EX := EX l0 (Int32.ofNat a0)
        simp only [bI]
        unfold mf_330_112 mf_330_119 mf_330_122
        simp (disch := omega) only [ev_S, ev_P, ↓reduceIte, Nat.reduceEqDiff, Nat.reduceLeDiff, Nat.reduceAdd, Nat.reduceMul, Nat.reduceSub, reduceCtorEq, l32_0, l32_1, l32_2, l32_3, l32_4, l32_5, l32_6, l32_7, l32_8, l32_9, l32_10, l32_11, l32_12, l32_13, l32_14, l32_15, l32_16, l32_17, l32_18, l32_19, l32_20, l32_21, l32_22, l32_23, l32_24, l32_25, l32_26, l32_27, l32_28, l32_29, l32_33, l32_40, l32_41, l32_44, l32_45, l32_59, l32_61, l32_91, l32_93, l32_123, l32_125, zz, n1, EX]
      | false =>
        left
        obtain ⟨Q1, Q2, Q3, Q4⟩ := P2 hg
        have Q3 : a0 = _ := Q3
        have cc := Gs.cell Lr hi
        have hs := hsum i Q2
        rw [← Q3] at hs
        -- one number
        have st : mf_330_112 N (mf_330_L27 N F) (Int32.ofNat 4) (Int32.ofNat a) yv (Int32.ofNat n) l0 (bI false) (Int32.ofNat a0) (Int32.ofNat i) s = mf_330_L27 N F 0 (Int32.ofNat 4) (Int32.ofNat a) yv (Int32.ofNat n) (if r[i] < l0 then r[i] else l0) (bI (decide (64 < pz r[i]))) (Int32.ofNat (a0 + if 64 < pz r[i] then 0 else pz r[i])) (Int32.ofNat (i + 1)) s := by
          simp only [bI]
          have tail : ∀ g y1, mf_330_174 N (mf_330_L27 N F) (Int32.ofNat 4) (Int32.ofNat a) yv (Int32.ofNat n) l0 g (Int32.ofNat i) r[i] (Int32.ofNat a0) (Int32.ofNat y1) s = mf_330_L27 N F 0 (Int32.ofNat 4) (Int32.ofNat a) yv (Int32.ofNat n) (if r[i] < l0 then r[i] else l0) g (Int32.ofNat (a0 + y1)) (Int32.ofNat (i + 1)) s := fun g y1 => by
            unfold mf_330_174
            by_cases c : r[i] < l0
            · rw [if_pos c, if_neg (Int32.not_le.mpr c)]
              unfold mf_330_184 mf_330_191
              simp (disch := omega) only [ev_S, ev_P, ↓reduceIte, Nat.reduceEqDiff, Nat.reduceLeDiff, Nat.reduceAdd, Nat.reduceMul, Nat.reduceSub, reduceCtorEq, l32_0, l32_1, l32_2, l32_3, l32_4, l32_5, l32_6, l32_7, l32_8, l32_9, l32_10, l32_11, l32_12, l32_13, l32_14, l32_15, l32_16, l32_17, l32_18, l32_19, l32_20, l32_21, l32_22, l32_23, l32_24, l32_25, l32_26, l32_27, l32_28, l32_29, l32_33, l32_40, l32_41, l32_44, l32_45, l32_59, l32_61, l32_91, l32_93, l32_123, l32_125]
            · rw [if_neg c, if_pos (Int32.not_lt.mp c)]
              unfold mf_330_189 mf_330_191
              simp (disch := omega) only [ev_S, ev_P, ↓reduceIte, Nat.reduceEqDiff, Nat.reduceLeDiff, Nat.reduceAdd, Nat.reduceMul, Nat.reduceSub, reduceCtorEq, l32_0, l32_1, l32_2, l32_3, l32_4, l32_5, l32_6, l32_7, l32_8, l32_9, l32_10, l32_11, l32_12, l32_13, l32_14, l32_15, l32_16, l32_17, l32_18, l32_19, l32_20, l32_21, l32_22, l32_23, l32_24, l32_25, l32_26, l32_27, l32_28, l32_29, l32_33, l32_40, l32_41, l32_44, l32_45, l32_59, l32_61, l32_91, l32_93, l32_123, l32_125]
          by_cases z0 : r[i] < 0
          · rw [pz_n z0, decide_eq_false (show ¬ 64 < 0 by omega), if_neg (show ¬ 64 < 0 by omega)]
            have q1 := (i32neg z0 (k := 64) (by omega)).2.1
            have q2 := (i32neg z0 (k := 0) (by omega)).2.1
            have tl := tail (Int32.ofNat 0) 0
            unfold mf_330_112 mf_330_119 mf_330_122 mf_330_127 mf_330_151 mf_330_152 mf_330_173
            simp (disch := omega) only [ev_S, ev_P, ↓reduceIte, Nat.reduceEqDiff, Nat.reduceLeDiff, Nat.reduceAdd, Nat.reduceMul, Nat.reduceSub, reduceCtorEq, l32_0, l32_1, l32_2, l32_3, l32_4, l32_5, l32_6, l32_7, l32_8, l32_9, l32_10, l32_11, l32_12, l32_13, l32_14, l32_15, l32_16, l32_17, l32_18, l32_19, l32_20, l32_21, l32_22, l32_23, l32_24, l32_25, l32_26, l32_27, l32_28, l32_29, l32_33, l32_40, l32_41, l32_44, l32_45, l32_59, l32_61, l32_91, l32_93, l32_123, l32_125, zz, n1, cc, q1, q2, tl, l32_64]
          · obtain ⟨p, hp, ep⟩ := i32nn z0
            rw [ep] at cc tail ⊢
            rw [pz_o hp]
            by_cases c : 64 < p
            · rw [decide_eq_true c, if_pos c]
              have tl := tail (Int32.ofNat 1) 0
              have c' : ¬ p ≤ 64 := by omega
              have c0 : ¬ p ≤ 0 := by omega
              unfold mf_330_112 mf_330_119 mf_330_122 mf_330_127 mf_330_147 mf_330_152 mf_330_161 mf_330_173
              simp (disch := omega) only [ev_S, ev_P, ↓reduceIte, Nat.reduceEqDiff, Nat.reduceLeDiff, Nat.reduceAdd, Nat.reduceMul, Nat.reduceSub, reduceCtorEq, l32_0, l32_1, l32_2, l32_3, l32_4, l32_5, l32_6, l32_7, l32_8, l32_9, l32_10, l32_11, l32_12, l32_13, l32_14, l32_15, l32_16, l32_17, l32_18, l32_19, l32_20, l32_21, l32_22, l32_23, l32_24, l32_25, l32_26, l32_27, l32_28, l32_29, l32_33, l32_40, l32_41, l32_44, l32_45, l32_59, l32_61, l32_91, l32_93, l32_123, l32_125, zz, n1, cc, c, c', c0, tl, l32_64]
            · rw [decide_eq_false c, if_neg c]
              have c' : p ≤ 64 := by omega
              by_cases c0 : p ≤ 0
              · have p0 : p = 0 := by omega
                have tl := tail (Int32.ofNat 0) 0
                subst p0
                unfold mf_330_112 mf_330_119 mf_330_122 mf_330_127 mf_330_151 mf_330_152 mf_330_173
                simp (disch := omega) only [ev_S, ev_P, ↓reduceIte, Nat.reduceEqDiff, Nat.reduceLeDiff, Nat.reduceAdd, Nat.reduceMul, Nat.reduceSub, reduceCtorEq, l32_0, l32_1, l32_2, l32_3, l32_4, l32_5, l32_6, l32_7, l32_8, l32_9, l32_10, l32_11, l32_12, l32_13, l32_14, l32_15, l32_16, l32_17, l32_18, l32_19, l32_20, l32_21, l32_22, l32_23, l32_24, l32_25, l32_26, l32_27, l32_28, l32_29, l32_33, l32_40, l32_41, l32_44, l32_45, l32_59, l32_61, l32_91, l32_93, l32_123, l32_125, zz, n1, cc, c', c0, tl, l32_64]
              · have tl := tail (Int32.ofNat 0) p
                unfold mf_330_112 mf_330_119 mf_330_122 mf_330_127 mf_330_151 mf_330_152 mf_330_161 mf_330_168
                simp (disch := omega) only [ev_S, ev_P, ↓reduceIte, Nat.reduceEqDiff, Nat.reduceLeDiff, Nat.reduceAdd, Nat.reduceMul, Nat.reduceSub, reduceCtorEq, l32_0, l32_1, l32_2, l32_3, l32_4, l32_5, l32_6, l32_7, l32_8, l32_9, l32_10, l32_11, l32_12, l32_13, l32_14, l32_15, l32_16, l32_17, l32_18, l32_19, l32_20, l32_21, l32_22, l32_23, l32_24, l32_25, l32_26, l32_27, l32_28, l32_29, l32_33, l32_40, l32_41, l32_44, l32_45, l32_59, l32_61, l32_91, l32_93, l32_123, l32_125, zz, n1, cc, c', c0, c, tl, l32_64]
        refine ⟨(if r[i] < l0 then r[i] else l0, decide (64 < pz r[i]), a0 + if 64 < pz r[i] then 0 else pz r[i]), ⟨fun h => Or.inr (any_mem hi h), fun h => ?_⟩, st⟩
        have h : ¬ 64 < pz r[i] := decide_eq_false_iff_not.mp h
        refine ⟨Q1, fun z hz => ?_, ?_, ?_⟩
        · rw [List.take_succ_eq_append_getElem hi] at hz
          rcases List.mem_append.mp hz with hz | hz
          · exact Q2 z hz
          · rw [List.mem_singleton.mp hz]
            omega
        · show a0 + (if 64 < pz r[i] then 0 else pz r[i]) = _
          rw [if_neg h, take_sum_s hi, Q3]
        · rw [take_any hi]
          exact lst0_s Q4
    · intro F c hP
      obtain ⟨l0, g0, a0⟩ := c
      obtain ⟨P1, P2⟩ := hP
      show mf_330_112 N (mf_330_L27 N F) (Int32.ofNat 4) (Int32.ofNat a) yv (Int32.ofNat n) l0 (bI g0) (Int32.ofNat a0) (Int32.ofNat r.length) s = _
      cases hg : g0 with
      | true =>
        have P1 := P1 hg
        rw [if_pos (P1.elim Or.inl (fun z => Or.inr (Or.inl z)))]
        have EX := EX l0 (Int32.ofNat a0)
        simp only [bI]
        unfold mf_330_112 mf_330_119
        simp (disch := omega) only [ev_S, ev_P, ↓reduceIte, Nat.reduceEqDiff, Nat.reduceLeDiff, Nat.reduceAdd, Nat.reduceMul, Nat.reduceSub, reduceCtorEq, l32_0, l32_1, l32_2, l32_3, l32_4, l32_5, l32_6, l32_7, l32_8, l32_9, l32_10, l32_11, l32_12, l32_13, l32_14, l32_15, l32_16, l32_17, l32_18, l32_19, l32_20, l32_21, l32_22, l32_23, l32_24, l32_25, l32_26, l32_27, l32_28, l32_29, l32_33, l32_40, l32_41, l32_44, l32_45, l32_59, l32_61, l32_91, l32_93, l32_123, l32_125, zz, EX]
      | false =>
        obtain ⟨Q1, Q2, Q3, Q4⟩ := P2 hg
        have hs := hsum r.length Q2
        rw [List.take_length] at Q2 Q3 Q4 hs
        have Q3 : a0 = _ := Q3
        rw [← Q3] at hs
        have hna : ¬ (r.any fun z => decide (64 < pz z)) = true := fun h => by
          obtain ⟨z, z1, z2⟩ := List.any_eq_true.mp h
          have := Q2 z z1
          have := decide_eq_true_iff.mp z2
          omega
        rw [← Q3]
        by_cases c : 200 < a0
        · rw [if_pos (Or.inr (Or.inr c))]
          have c' : ¬ a0 ≤ 200 := by omega
          simp only [bI]
          unfold mf_330_112 mf_330_119 mf_330_199 mf_330_204 mf_330_212 mf_330_217 mf_330_219
          simp (disch := omega) only [ev_S, ev_P, ↓reduceIte, Nat.reduceEqDiff, Nat.reduceLeDiff, Nat.reduceAdd, Nat.reduceMul, Nat.reduceSub, reduceCtorEq, l32_0, l32_1, l32_2, l32_3, l32_4, l32_5, l32_6, l32_7, l32_8, l32_9, l32_10, l32_11, l32_12, l32_13, l32_14, l32_15, l32_16, l32_17, l32_18, l32_19, l32_20, l32_21, l32_22, l32_23, l32_24, l32_25, l32_26, l32_27, l32_28, l32_29, l32_33, l32_40, l32_41, l32_44, l32_45, l32_59, l32_61, l32_91, l32_93, l32_123, l32_125, zz, c', l32_200]
        · rw [if_neg (show ¬ (20 < r.length ∨ (r.any fun z => decide (64 < pz z)) = true ∨ 200 < a0) from fun z => z.elim (fun z => by omega) (fun z => z.elim hna c))]
          have c' : a0 ≤ 200 := by omega
          have E3 : mf_330_112 N (mf_330_L27 N F) (Int32.ofNat 4) (Int32.ofNat a) yv (Int32.ofNat n) l0 (bI false) (Int32.ofNat a0) (Int32.ofNat r.length) s = mf_330_224 N (Int32.ofNat 4) (Int32.ofNat a) yv (Int32.ofNat n) l0 (Int32.ofNat 0) s := by
            simp only [bI]
            unfold mf_330_112 mf_330_119 mf_330_199 mf_330_204 mf_330_216 mf_330_217 mf_330_219
            simp (disch := omega) only [ev_S, ev_P, ↓reduceIte, Nat.reduceEqDiff, Nat.reduceLeDiff, Nat.reduceAdd, Nat.reduceMul, Nat.reduceSub, reduceCtorEq, l32_0, l32_1, l32_2, l32_3, l32_4, l32_5, l32_6, l32_7, l32_8, l32_9, l32_10, l32_11, l32_12, l32_13, l32_14, l32_15, l32_16, l32_17, l32_18, l32_19, l32_20, l32_21, l32_22, l32_23, l32_24, l32_25, l32_26, l32_27, l32_28, l32_29, l32_33, l32_40, l32_41, l32_44, l32_45, l32_59, l32_61, l32_91, l32_93, l32_123, l32_125, zz, c', l32_200]
          rw [E3]
          unfold mf_330_224
          by_cases d : l0 < 0
          · rw [if_pos (Q4.1.mp d), if_neg (Int32.not_le.mpr d)]
          · rw [if_neg (fun z => d (Q4.1.mpr z)), if_pos (Int32.not_lt.mp d)]
  rw [E1, E2]
  unfold ansW
  by_cases c : 20 < r.length ∨ (r.any fun z => decide (64 < pz z)) = true ∨ 200 < (r.map pz).sum
  · rw [if_pos c, if_pos c]
    obtain ⟨b1, b2⟩ := T 2
    refine ⟨_, ?_, b2⟩
    unfold mf_330_229 mf_330_235 mf_330_240 mf_330_247
    simp (disch := omega) only [ev_S, ev_P, ↓reduceIte, Nat.reduceEqDiff, Nat.reduceLeDiff, Nat.reduceAdd, Nat.reduceMul, Nat.reduceSub, reduceCtorEq, l32_0, l32_1, l32_2, l32_3, l32_4, l32_5, l32_6, l32_7, l32_8, l32_9, l32_10, l32_11, l32_12, l32_13, l32_14, l32_15, l32_16, l32_17, l32_18, l32_19, l32_20, l32_21, l32_22, l32_23, l32_24, l32_25, l32_26, l32_27, l32_28, l32_29, l32_33, l32_40, l32_41, l32_44, l32_45, l32_59, l32_61, l32_91, l32_93, l32_123, l32_125, b1]
  · rw [if_neg c, if_neg c]
    by_cases d : (r.any fun z => decide (z < 0)) = true
    · rw [if_pos d, if_pos d]
      obtain ⟨b1, b2⟩ := T 1
      refine ⟨_, ?_, b2⟩
      unfold mf_330_229 mf_330_239 mf_330_240 mf_330_247
      simp (disch := omega) only [ev_S, ev_P, ↓reduceIte, Nat.reduceEqDiff, Nat.reduceLeDiff, Nat.reduceAdd, Nat.reduceMul, Nat.reduceSub, reduceCtorEq, l32_0, l32_1, l32_2, l32_3, l32_4, l32_5, l32_6, l32_7, l32_8, l32_9, l32_10, l32_11, l32_12, l32_13, l32_14, l32_15, l32_16, l32_17, l32_18, l32_19, l32_20, l32_21, l32_22, l32_23, l32_24, l32_25, l32_26, l32_27, l32_28, l32_29, l32_33, l32_40, l32_41, l32_44, l32_45, l32_59, l32_61, l32_91, l32_93, l32_123, l32_125, b1]
    · rw [if_neg d, if_neg d]
      have hr20 : r.length ≤ 20 := Nat.not_lt.mp (fun z => c (Or.inl z))
      have hs200 : (r.map pz).sum ≤ 200 := Nat.not_lt.mp (fun z => c (Or.inr (Or.inr z)))
      have hp64 : ∀ z ∈ r, pz z ≤ 64 := fun z hz => Nat.not_lt.mp (fun y => c (Or.inr (Or.inl (List.any_eq_true.mpr ⟨z, hz, decide_eq_true y⟩))))
      have hnn : ∀ z ∈ r, ¬ z < 0 := fun z hz y => d (List.any_eq_true.mpr ⟨z, hz, decide_eq_true y⟩)
      have zz1 := SZ _ _ _ G0
      have E3 : mf_330_248 N (Int32.ofNat 4) (Int32.ofNat a) yv (Int32.ofNat n) s = mf_330_L7 N N 0 (Int32.ofNat 4) (Int32.ofNat a) yv (Int32.ofNat n) (Int32.ofNat r.length) (Int32.ofNat 0) (mI s 51 (Int32.ofNat n)) := by
        unfold mf_330_248 mf_330_307 mf_330_316 mf_330_321
        simp (disch := omega) only [ev_S, ev_P, ↓reduceIte, Nat.reduceEqDiff, Nat.reduceLeDiff, Nat.reduceAdd, Nat.reduceMul, Nat.reduceSub, reduceCtorEq, l32_0, l32_1, l32_2, l32_3, l32_4, l32_5, l32_6, l32_7, l32_8, l32_9, l32_10, l32_11, l32_12, l32_13, l32_14, l32_15, l32_16, l32_17, l32_18, l32_19, l32_20, l32_21, l32_22, l32_23, l32_24, l32_25, l32_26, l32_27, l32_28, l32_29, l32_33, l32_40, l32_41, l32_44, l32_45, l32_59, l32_61, l32_91, l32_93, l32_123, l32_125, zz1]
      rw [E3]
      have sml : ∀ i, (((r.take i).map fun z => zer (pz z)).map List.length).sum ≤ 200 := fun i => by
        rw [List.map_map, show (List.length ∘ fun z => zer (pz z)) = pz from funext (fun z => zer_len)]
        have : ((r.take i).map pz).sum ≤ (r.map pz).sum := by
          conv => rhs; rw [← List.take_append_drop i r, List.map_append, List.sum_append]
          omega
        omega
      refine lp (fun F i (s' : mS) => mf_330_L7 N F 0 (Int32.ofNat 4) (Int32.ofNat a) yv (Int32.ofNat n) (Int32.ofNat r.length) (Int32.ofNat i) s') r.length (fun i s' => rG s s' n f (f + (2 * ((r.take i).map fun z => zer (pz z)).length + (((r.take i).map fun z => zer (pz z)).map List.length).sum)) (((r.take i).map fun z => zer (pz z)).map nR)) (fun R => ∃ s', R = some (s', none) ∧ rE s s' n f m (ansM 2 ((r.map fun z => zer (pz z)).map nR))) ?_ ?_ r.length 0 N _ (Nat.zero_add _) (by omega) G0
      · intro F i s2 hi G _
        left
        have hli : ((r.take i).map fun z => zer (pz z)).length = i := len_take_map (by omega)
        have hll : (((r.take i).map fun z => zer (pz z)).map nR).length = i := by rw [List.length_map, hli]
        have hsi := sml i
        have n1 : ¬ r.length ≤ i := by omega
        have sp := G.1.1
        rw [hll] at sp
        have cc := G.cell Lr hi
        have hmem := List.getElem_mem hi
        obtain ⟨p, hp, ep⟩ := i32nn (hnn _ hmem)
        have hp6 := hp64 _ hmem
        rw [ep, pz_o hp] at hp6
        rw [ep] at cc
        obtain ⟨s3, z1, z2⟩ := r_zeros (N := N) (q := p) hN G (by rw [hll]; omega) hp
        obtain ⟨s4, w1, w2⟩ := rG.row (N := N) hN z2 (by rw [hll, zer_len]; omega) (by rw [zer_len]; omega)
        rw [hll] at w1
        rw [zer_len] at w2
        refine ⟨s4, ?_, ?_⟩
        · rw [take_map_s hi, List.map_append, List.map_append, List.length_append, List.sum_append, ep, pz_o hp]
          have e : f + (2 * (((r.take i).map fun z => zer (pz z)).length + [zer p].length) + ((((r.take i).map fun z => zer (pz z)).map List.length).sum + ([zer p].map List.length).sum)) = f + (2 * ((r.take i).map fun z => zer (pz z)).length + (((r.take i).map fun z => zer (pz z)).map List.length).sum) + 2 + p := by
            show f + (2 * (_ + 1) + (_ + ((zer p).length + 0))) = _
            rw [zer_len]
            omega
          rw [e]
          exact w2
        · show mf_330_326 N (mf_330_L7 N F) (Int32.ofNat 4) (Int32.ofNat a) yv (Int32.ofNat n) (Int32.ofNat r.length) (Int32.ofNat i) s2 = _
          unfold mf_330_326 mf_330_333 mf_330_349 mf_330_360 mf_330_363 mf_330_369
          simp (disch := omega) only [ev_S, ev_P, ↓reduceIte, Nat.reduceEqDiff, Nat.reduceLeDiff, Nat.reduceAdd, Nat.reduceMul, Nat.reduceSub, reduceCtorEq, l32_0, l32_1, l32_2, l32_3, l32_4, l32_5, l32_6, l32_7, l32_8, l32_9, l32_10, l32_11, l32_12, l32_13, l32_14, l32_15, l32_16, l32_17, l32_18, l32_19, l32_20, l32_21, l32_22, l32_23, l32_24, l32_25, l32_26, l32_27, l32_28, l32_29, l32_33, l32_40, l32_41, l32_44, l32_45, l32_59, l32_61, l32_91, l32_93, l32_123, l32_125, n1, sp, cc, z1, w1]
      · intro F s2 G
        rw [List.take_length] at G
        have hs2 := sml r.length
        rw [List.take_length] at hs2
        have hlp : (r.map fun z => zer (pz z)).length = r.length := List.length_map _
        obtain ⟨s3, b1, b2⟩ := rA.bTab (N := N) hN H G (fun r' hr' => by
          obtain ⟨z, hz, rfl⟩ := List.mem_map.mp hr'
          rw [zer_len]
          exact hp64 z hz) (by rw [hlp]; omega) (by rw [hlp]; omega)
        refine ⟨s3, ?_, b2⟩
        show mf_330_326 N (mf_330_L7 N F) (Int32.ofNat 4) (Int32.ofNat a) yv (Int32.ofNat n) (Int32.ofNat r.length) (Int32.ofNat r.length) s2 = _
        unfold mf_330_326 mf_330_375 mf_330_382
        simp (disch := omega) only [ev_S, ev_P, ↓reduceIte, Nat.reduceEqDiff, Nat.reduceLeDiff, Nat.reduceAdd, Nat.reduceMul, Nat.reduceSub, reduceCtorEq, l32_0, l32_1, l32_2, l32_3, l32_4, l32_5, l32_6, l32_7, l32_8, l32_9, l32_10, l32_11, l32_12, l32_13, l32_14, l32_15, l32_16, l32_17, l32_18, l32_19, l32_20, l32_21, l32_22, l32_23, l32_24, l32_25, l32_26, l32_27, l32_28, l32_29, l32_33, l32_40, l32_41, l32_44, l32_45, l32_59, l32_61, l32_91, l32_93, l32_123, l32_125, b1]
end RWS
end
-- ### 96j.pure.lean.txt
section
/-! ===== PURE: run (37): rows, the class ===== -/
section RWC
variable {N : Nat} {X : Nat → Option zz_C} {t t' : cS} {u w : Nat} {x : Nod} {vx : Int64}
theorem i64o (n : Nat) : Int64.ofNat n + Int64.ofNat 0 = Int64.ofNat n := by rw [← Int64.ofNat_add, Nat.add_zero]
theorem pz_64 {z : Int32} : Int32.toInt64 (if z < 0 then 0 else z) = Int64.ofNat (pz z) := by
  by_cases h : z < 0
  · rw [if_pos h, pz_n h]
    rfl
  · obtain ⟨p, hp, rfl⟩ := i32nn h
    rw [if_neg h, pz_o hp, i64of32 hp]
theorem mx_s {g : Nat} {z : Int32} (hg : g < 2147483648) : (if Int32.ofNat g < z then z else Int32.ofNat g) = Int32.ofNat (Nat.max g (pz z)) := by
  by_cases h : z < 0
  · rw [if_neg (i32neg h hg).2.2.2, pz_n h]
    congr 1
    exact (Nat.max_eq_left (Nat.zero_le _)).symm
  · obtain ⟨p, hp, rfl⟩ := i32nn h
    rw [pz_o hp]
    by_cases c : g < p
    · rw [if_pos ((i32lt hg hp).mpr c)]
      congr 1
      exact (Nat.max_eq_right (Nat.le_of_lt c)).symm
    · rw [if_neg (fun q => c ((i32lt hg hp).mp q))]
      congr 1
      exact (Nat.max_eq_left (Nat.not_lt.mp c)).symm
theorem c_rws (hN : 170000 ≤ N) (hh : cHp t u w) (hx : cN (cel t) u vx x) (wx : wfN x) (hu : u ≤ 162000) (hw : w ≤ 1000) : ∃ t' v, cf_93 N X vx t = some (t', .inl (some (.long v))) ∧ cE t t' u v (if kn x = 1 then ansW (rvN x) else .inl 3) := by
  have kx := c_kn (N := N) (X := X) hx
  have lx := kn_le (x := x)
  have T := fun k => c_rf (N := N) (X := X) (t := t) (k := k)
  by_cases c1 : kn x = 1
  · rw [if_pos c1]
    have hrv := hx.r c1
    have zx := c_size (N := N) (X := X) hh hx
    have zx : cf_128 N X vx t = some (t, .inl (some (.int (Int32.ofNat (szN x))))) := zx
    rw [kn1_sz c1] at zx
    have hr := rv_wf c1 wx
    have ga := c_gathered (N := N) (X := X) hh
    rw [c1] at kx
    have UP : ∀ {t' u' ys}, cG t t' u u' w ys → cV (cel t') u' vx (vR (rvN x)) := fun {t' u' ys} G => (G.up hx).r c1
    generalize rvN x = r at *
    have E1 : cf_93 N X vx t = cf_93_L13 N X N 0 vx (Int32.ofNat r.length) (Int32.ofNat 0) (Int32.ofNat 0) (Int64.ofNat 0) (Int32.ofNat 0) t := by
      unfold cf_93 cf_93_0 cf_93_4 cf_93_13 cf_93_21
      simp (disch := omega) only [ev_S, ev_C, ↓reduceIte, Nat.reduceEqDiff, Nat.reduceLeDiff, Nat.reduceAdd, Nat.reduceMul, Nat.reduceSub, reduceCtorEq, l32_0, l32_1, l32_2, l32_3, l32_4, l32_5, l32_6, l32_7, l32_8, l32_9, l32_10, l32_11, l32_12, l32_13, l32_14, l32_15, l32_16, l32_17, l32_18, l32_19, l32_20, l32_21, l32_22, l32_23, l32_24, l32_25, l32_26, l32_27, l32_28, l32_29, l32_33, l32_40, l32_41, l32_44, l32_45, l32_59, l32_61, l32_91, l32_93, l32_123, l32_125, kx, zx]
      rfl
    have hsb : ∀ i, ((r.take i).map pz).sum ≤ 2147483648 * i ∧ mxL ((r.take i).map pz) < 2147483648 := fun i => by
      have : ∀ l : List Int32, (l.map pz).sum ≤ 2147483648 * l.length ∧ mxL (l.map pz) < 2147483648 := fun l => by
        induction l with
        | nil => exact ⟨Nat.le_refl _, by show (0 : Nat) < _; omega⟩
        | cons z l ih =>
          have h1 := pz_lt (z := z)
          refine ⟨?_, ?_⟩
          · rw [List.map_cons, List.sum_cons, List.length_cons]
            omega
          · rw [List.map_cons]
            show Nat.max (pz z) (mxL (l.map pz)) < _
            exact Nat.max_lt.mpr ⟨h1, ih.2⟩
      have h3 := this (r.take i)
      rw [List.length_take] at h3
      exact ⟨by omega, h3.2⟩
    have mxa : ∀ l : List Nat, ∀ y, mxL (l ++ [y]) = Nat.max (mxL l) y := fun l y => by
      induction l with
      | nil =>
        show Nat.max y 0 = Nat.max 0 y
        rw [show Nat.max y 0 = y from Nat.max_eq_left (Nat.zero_le _), show Nat.max 0 y = y from Nat.max_eq_right (Nat.zero_le _)]
      | cons z l ih =>
        show Nat.max z (mxL (l ++ [y])) = Nat.max (Nat.max z (mxL l)) y
        rw [ih]
        exact (Nat.max_assoc _ _ _).symm
    have E2 : ∃ l0, lst0 l0 (r.any fun z => decide (z < 0)) ∧ cf_93_L13 N X N 0 vx (Int32.ofNat r.length) (Int32.ofNat 0) (Int32.ofNat 0) (Int64.ofNat 0) (Int32.ofNat 0) t = cf_93_88 N X vx (Int32.ofNat r.length) (Int32.ofNat (mxL (r.map pz))) l0 (Int64.ofNat (r.map pz).sum) t := by
      refine lp (fun F i (c : Nat × Int32 × Nat) => cf_93_L13 N X F 0 vx (Int32.ofNat r.length) (Int32.ofNat c.1) c.2.1 (Int64.ofNat c.2.2) (Int32.ofNat i) t) r.length (fun i c => c.1 = mxL ((r.take i).map pz) ∧ lst0 c.2.1 ((r.take i).any fun z => decide (z < 0)) ∧ c.2.2 = ((r.take i).map pz).sum) (fun R => ∃ l0, lst0 l0 (r.any fun z => decide (z < 0)) ∧ R = cf_93_88 N X vx (Int32.ofNat r.length) (Int32.ofNat (mxL (r.map pz))) l0 (Int64.ofNat (r.map pz).sum) t) ?_ ?_ r.length 0 N (0, Int32.ofNat 0, 0) (Nat.zero_add _) (by omega) ⟨rfl, ⟨⟨fun q => absurd q (show ¬ Int32.ofNat 0 < 0 by decide), fun q => (by cases q)⟩, fun _ => rfl⟩, rfl⟩
      · intro F i c hi hP _
        left
        obtain ⟨g0, l0, a0⟩ := c
        obtain ⟨P1, P2, P3⟩ := hP
        have P1 : g0 = _ := P1
        have P3 : a0 = _ := P3
        have n1 : ¬ r.length ≤ i := by omega
        have ia := c_intAt (N := N) (X := X) hh hrv hi
        have hb := hsb i
        rw [← P1, ← P3] at hb
        have e1 := mx_s (g := g0) (z := r[i]) hb.2
        have e2 := pz_64 (z := r[i])
        refine ⟨(Nat.max g0 (pz r[i]), if r[i] < l0 then r[i] else l0, a0 + pz r[i]), ⟨?_, ?_, ?_⟩, ?_⟩
        · show Nat.max g0 (pz r[i]) = _
          rw [take_map_s hi, mxa, P1]
        · rw [take_any hi]
          exact lst0_s P2
        · show a0 + pz r[i] = _
          rw [take_sum_s hi, P3]
        · show cf_93_34 N X (cf_93_L13 N X F) vx (Int32.ofNat r.length) (Int32.ofNat g0) l0 (Int64.ofNat a0) (Int32.ofNat i) t = cf_93_L13 N X F 0 vx (Int32.ofNat r.length) (Int32.ofNat (Nat.max g0 (pz r[i]))) (if r[i] < l0 then r[i] else l0) (Int64.ofNat (a0 + pz r[i])) (Int32.ofNat (i + 1)) t
          have E : cf_93_34 N X (cf_93_L13 N X F) vx (Int32.ofNat r.length) (Int32.ofNat g0) l0 (Int64.ofNat a0) (Int32.ofNat i) t = cf_93_50 N X (cf_93_L13 N X F) vx (Int32.ofNat r.length) (Int32.ofNat g0) l0 (Int64.ofNat a0) (Int32.ofNat i) r[i] t := by
            unfold cf_93_34 cf_93_40
            simp (disch := omega) only [ev_S, ev_C, ↓reduceIte, Nat.reduceEqDiff, Nat.reduceLeDiff, Nat.reduceAdd, Nat.reduceMul, Nat.reduceSub, reduceCtorEq, l32_0, l32_1, l32_2, l32_3, l32_4, l32_5, l32_6, l32_7, l32_8, l32_9, l32_10, l32_11, l32_12, l32_13, l32_14, l32_15, l32_16, l32_17, l32_18, l32_19, l32_20, l32_21, l32_22, l32_23, l32_24, l32_25, l32_26, l32_27, l32_28, l32_29, l32_33, l32_40, l32_41, l32_44, l32_45, l32_59, l32_61, l32_91, l32_93, l32_123, l32_125, n1, ia]
          rw [E]
          unfold cf_93_50
          rw [e1, e2, ← Int64.ofNat_add, show Int32.ofNat i + 1 = Int32.ofNat (i + 1) from i32al]
      · intro F c hP
        obtain ⟨g0, l0, a0⟩ := c
        obtain ⟨P1, P2, P3⟩ := hP
        rw [List.take_length] at P1 P2 P3
        have P1 : g0 = _ := P1
        have P3 : a0 = _ := P3
        refine ⟨l0, P2, ?_⟩
        rw [← P1, ← P3]
        show cf_93_34 N X (cf_93_L13 N X F) vx (Int32.ofNat r.length) (Int32.ofNat g0) l0 (Int64.ofNat a0) (Int32.ofNat r.length) t = _
        unfold cf_93_34
        simp (disch := omega) only [ev_S, ev_C, ↓reduceIte, Nat.reduceEqDiff, Nat.reduceLeDiff, Nat.reduceAdd, Nat.reduceMul, Nat.reduceSub, reduceCtorEq, l32_0, l32_1, l32_2, l32_3, l32_4, l32_5, l32_6, l32_7, l32_8, l32_9, l32_10, l32_11, l32_12, l32_13, l32_14, l32_15, l32_16, l32_17, l32_18, l32_19, l32_20, l32_21, l32_22, l32_23, l32_24, l32_25, l32_26, l32_27, l32_28, l32_29, l32_33, l32_40, l32_41, l32_44, l32_45, l32_59, l32_61, l32_91, l32_93, l32_123, l32_125]
    obtain ⟨l0, hl0, E2⟩ := E2
    rw [E1, E2]
    have hb := hsb r.length
    rw [List.take_length] at hb
    have hlg : (lg_cmp (Int64.ofNat (r.map pz).sum) 200 ≤ Int32.ofNat 0) = ((r.map pz).sum ≤ 200) := lg_le (b := 200) (by omega) (by omega)
    have hmx : 64 < mxL (r.map pz) ↔ (r.any fun z => decide (64 < pz z)) = true := by
      rw [← Nat.not_le, mxL_le, List.any_eq_true]
      constructor
      · intro h
        refine Classical.byContradiction (fun hc => h (fun y hy => ?_))
        obtain ⟨z, hz, rfl⟩ := List.mem_map.mp hy
        exact Nat.not_lt.mp (fun q => hc ⟨z, hz, decide_eq_true q⟩)
      · rintro ⟨z, hz, h⟩ hc
        have := hc (pz z) (List.mem_map.mpr ⟨z, hz, rfl⟩)
        have := decide_eq_true_iff.mp h
        omega
    unfold ansW
    have b2 := T (Int32.ofNat 2)
    by_cases c : 20 < r.length ∨ (r.any fun z => decide (64 < pz z)) = true ∨ 200 < (r.map pz).sum
    · rw [if_pos c]
      refine ⟨t, _, ?_, cE.tr hh⟩
      rw [← hmx] at c
      have hb2 := hb.2
      generalize mxL (r.map pz) = M at *
      generalize (r.map pz).sum = S at *
      by_cases d : 20 < r.length
      · unfold cf_93_88 cf_93_110 cf_93_114
        simp (disch := omega) only [ev_S, ev_C, ↓reduceIte, Nat.reduceEqDiff, Nat.reduceLeDiff, Nat.reduceAdd, Nat.reduceMul, Nat.reduceSub, reduceCtorEq, l32_0, l32_1, l32_2, l32_3, l32_4, l32_5, l32_6, l32_7, l32_8, l32_9, l32_10, l32_11, l32_12, l32_13, l32_14, l32_15, l32_16, l32_17, l32_18, l32_19, l32_20, l32_21, l32_22, l32_23, l32_24, l32_25, l32_26, l32_27, l32_28, l32_29, l32_33, l32_40, l32_41, l32_44, l32_45, l32_59, l32_61, l32_91, l32_93, l32_123, l32_125, d, b2]
      · by_cases e : 64 < M
        · unfold cf_93_88 cf_93_94 cf_93_110 cf_93_114
          simp (disch := omega) only [ev_S, ev_C, ↓reduceIte, Nat.reduceEqDiff, Nat.reduceLeDiff, Nat.reduceAdd, Nat.reduceMul, Nat.reduceSub, reduceCtorEq, l32_0, l32_1, l32_2, l32_3, l32_4, l32_5, l32_6, l32_7, l32_8, l32_9, l32_10, l32_11, l32_12, l32_13, l32_14, l32_15, l32_16, l32_17, l32_18, l32_19, l32_20, l32_21, l32_22, l32_23, l32_24, l32_25, l32_26, l32_27, l32_28, l32_29, l32_33, l32_40, l32_41, l32_44, l32_45, l32_59, l32_61, l32_91, l32_93, l32_123, l32_125, d, e, b2, l32_64]
        · have g : ¬ S ≤ 200 := by omega
          unfold cf_93_88 cf_93_94 cf_93_101 cf_93_110 cf_93_114
          simp (disch := omega) only [ev_S, ev_C, ↓reduceIte, Nat.reduceEqDiff, Nat.reduceLeDiff, Nat.reduceAdd, Nat.reduceMul, Nat.reduceSub, reduceCtorEq, l32_0, l32_1, l32_2, l32_3, l32_4, l32_5, l32_6, l32_7, l32_8, l32_9, l32_10, l32_11, l32_12, l32_13, l32_14, l32_15, l32_16, l32_17, l32_18, l32_19, l32_20, l32_21, l32_22, l32_23, l32_24, l32_25, l32_26, l32_27, l32_28, l32_29, l32_33, l32_40, l32_41, l32_44, l32_45, l32_59, l32_61, l32_91, l32_93, l32_123, l32_125, d, e, hlg, g, b2, l32_64]
    · rw [if_neg c]
      have hr20 : r.length ≤ 20 := Nat.not_lt.mp (fun z => c (Or.inl z))
      have hs200 : (r.map pz).sum ≤ 200 := Nat.not_lt.mp (fun z => c (Or.inr (Or.inr z)))
      have hM : ¬ 64 < mxL (r.map pz) := fun z => c (Or.inr (Or.inl (hmx.mp z)))
      have hp64 : ∀ z ∈ r, pz z ≤ 64 := fun z hz => Nat.not_lt.mp (fun y => c (Or.inr (Or.inl (List.any_eq_true.mpr ⟨z, hz, decide_eq_true y⟩))))
      have E3 : cf_93_88 N X vx (Int32.ofNat r.length) (Int32.ofNat (mxL (r.map pz))) l0 (Int64.ofNat (r.map pz).sum) t = cf_93_115 N X vx (Int32.ofNat r.length) l0 t := by
        have hb2 := hb.2
        have d : ¬ 20 < r.length := by omega
        generalize mxL (r.map pz) = M at *
        generalize (r.map pz).sum = S at *
        unfold cf_93_88 cf_93_94 cf_93_101
        simp (disch := omega) only [ev_S, ev_C, ↓reduceIte, Nat.reduceEqDiff, Nat.reduceLeDiff, Nat.reduceAdd, Nat.reduceMul, Nat.reduceSub, reduceCtorEq, l32_0, l32_1, l32_2, l32_3, l32_4, l32_5, l32_6, l32_7, l32_8, l32_9, l32_10, l32_11, l32_12, l32_13, l32_14, l32_15, l32_16, l32_17, l32_18, l32_19, l32_20, l32_21, l32_22, l32_23, l32_24, l32_25, l32_26, l32_27, l32_28, l32_29, l32_33, l32_40, l32_41, l32_44, l32_45, l32_59, l32_61, l32_91, l32_93, l32_123, l32_125, d, hM, hlg, hs200, l32_64]
      rw [E3]
      unfold cf_93_115
      by_cases d : l0 < 0
      · rw [if_pos (hl0.1.mp d), if_neg (Int32.not_le.mpr d)]
        refine ⟨t, _, ?_, cE.tr hh⟩
        have b1 := T (Int32.ofNat 1)
        unfold cf_93_120 cf_93_124
        simp (disch := omega) only [ev_S, ev_C, ↓reduceIte, Nat.reduceEqDiff, Nat.reduceLeDiff, Nat.reduceAdd, Nat.reduceMul, Nat.reduceSub, reduceCtorEq, l32_0, l32_1, l32_2, l32_3, l32_4, l32_5, l32_6, l32_7, l32_8, l32_9, l32_10, l32_11, l32_12, l32_13, l32_14, l32_15, l32_16, l32_17, l32_18, l32_19, l32_20, l32_21, l32_22, l32_23, l32_24, l32_25, l32_26, l32_27, l32_28, l32_29, l32_33, l32_40, l32_41, l32_44, l32_45, l32_59, l32_61, l32_91, l32_93, l32_123, l32_125, b1]
      · have hany : ¬ (r.any fun z => decide (z < 0)) = true := fun z => d (hl0.1.mpr z)
        rw [if_neg hany, if_pos (Int32.not_lt.mp d)]
        have hnn : ∀ z ∈ r, ¬ z < 0 := fun z hz y => hany (List.any_eq_true.mpr ⟨z, hz, decide_eq_true y⟩)
        have E4 : cf_93_125 N X vx (Int32.ofNat r.length) t = cf_93_L4 N X N 0 vx (Int32.ofNat r.length) (Int32.ofNat w) (Int32.ofNat 0) t := by
          unfold cf_93_125 cf_93_132
          simp (disch := omega) only [ev_S, ev_C, ↓reduceIte, Nat.reduceEqDiff, Nat.reduceLeDiff, Nat.reduceAdd, Nat.reduceMul, Nat.reduceSub, reduceCtorEq, l32_0, l32_1, l32_2, l32_3, l32_4, l32_5, l32_6, l32_7, l32_8, l32_9, l32_10, l32_11, l32_12, l32_13, l32_14, l32_15, l32_16, l32_17, l32_18, l32_19, l32_20, l32_21, l32_22, l32_23, l32_24, l32_25, l32_26, l32_27, l32_28, l32_29, l32_33, l32_40, l32_41, l32_44, l32_45, l32_59, l32_61, l32_91, l32_93, l32_123, l32_125, ga]
        rw [E4]
        have sml : ∀ i, ((r.take i).map pz).sum ≤ 200 := fun i => by
          have : ((r.take i).map pz).sum ≤ (r.map pz).sum := by
            conv => rhs; rw [← List.take_append_drop i r, List.map_append, List.sum_append]
            omega
          omega
        refine lp (fun F i (t' : cS) => cf_93_L4 N X F 0 vx (Int32.ofNat r.length) (Int32.ofNat w) (Int32.ofNat i) t') r.length (fun i t' => cG t t' u (u + (i + ((r.take i).map pz).sum)) w (((r.take i).map fun z => zer (pz z)).map nR)) (fun R => ∃ t' v, R = some (t', .inl (some (.long v))) ∧ cE t t' u v (ansM 2 ((r.map fun z => zer (pz z)).map nR))) ?_ ?_ r.length 0 N t (Nat.zero_add _) (by omega) (cG.nil hh)
        · intro F i t1 hi G _
          left
          have hli : ((r.take i).map fun z => zer (pz z)).length = i := len_take_map (by omega)
          have hll : (((r.take i).map fun z => zer (pz z)).map nR).length = i := by rw [List.length_map, hli]
          have hsi := sml i
          have n1 : ¬ r.length ≤ i := by omega
          have ia := c_intAt (N := N) (X := X) G.c (UP G) hi
          have hmem := List.getElem_mem hi
          obtain ⟨p, hp, ep⟩ := i32nn (hnn _ hmem)
          have hp6 := hp64 _ hmem
          rw [ep, pz_o hp] at hp6
          rw [ep] at ia
          obtain ⟨t2, v, r1, r2, r3⟩ := c_zeros (N := N) (X := X) (q := p) hN G.c hp6 (by rw [hll]; omega) (by omega)
          obtain ⟨t3, p1, p2⟩ := cG.addRow (N := N) (X := X) G r2 r3 (by rw [hll]; omega)
          refine ⟨t3, ?_, ?_⟩
          · rw [take_sum_s hi, take_map_s hi, List.map_append, ep, pz_o hp]
            have e : u + (i + 1 + (((r.take i).map pz).sum + p)) = u + (i + ((r.take i).map pz).sum) + 1 + p := by omega
            rw [e]
            exact p2
          · show cf_93_137 N X (cf_93_L4 N X F) vx (Int32.ofNat r.length) (Int32.ofNat w) (Int32.ofNat i) t1 = _
            unfold cf_93_137 cf_93_143 cf_93_158 cf_93_161 cf_93_164
            simp (disch := omega) only [ev_S, ev_C, ↓reduceIte, Nat.reduceEqDiff, Nat.reduceLeDiff, Nat.reduceAdd, Nat.reduceMul, Nat.reduceSub, reduceCtorEq, l32_0, l32_1, l32_2, l32_3, l32_4, l32_5, l32_6, l32_7, l32_8, l32_9, l32_10, l32_11, l32_12, l32_13, l32_14, l32_15, l32_16, l32_17, l32_18, l32_19, l32_20, l32_21, l32_22, l32_23, l32_24, l32_25, l32_26, l32_27, l32_28, l32_29, l32_33, l32_40, l32_41, l32_44, l32_45, l32_59, l32_61, l32_91, l32_93, l32_123, l32_125, n1, ia, r1, p1]
        · intro F t1 G
          rw [List.take_length] at G
          have hlp : (r.map fun z => zer (pz z)).length = r.length := List.length_map _
          have hsl : ((r.map fun z => zer (pz z)).map List.length).sum = (r.map pz).sum := by
            rw [List.map_map, show (List.length ∘ fun z => zer (pz z)) = pz from funext (fun z => zer_len)]
          obtain ⟨t2, v, b1, b2⟩ := cG.bT (N := N) (X := X) hN G (fun r' hr' => by
            obtain ⟨z, hz, rfl⟩ := List.mem_map.mp hr'
            rw [zer_len]
            exact hp64 z hz) (by rw [hlp, hsl]; omega) (by rw [hlp, hsl]; omega) (by omega) (by omega)
          refine ⟨t2, v, ?_, b2⟩
          show cf_93_137 N X (cf_93_L4 N X F) vx (Int32.ofNat r.length) (Int32.ofNat w) (Int32.ofNat r.length) t1 = _
          unfold cf_93_137 cf_93_170 cf_93_180
          simp (disch := omega) only [ev_S, ev_C, ↓reduceIte, Nat.reduceEqDiff, Nat.reduceLeDiff, Nat.reduceAdd, Nat.reduceMul, Nat.reduceSub, reduceCtorEq, l32_0, l32_1, l32_2, l32_3, l32_4, l32_5, l32_6, l32_7, l32_8, l32_9, l32_10, l32_11, l32_12, l32_13, l32_14, l32_15, l32_16, l32_17, l32_18, l32_19, l32_20, l32_21, l32_22, l32_23, l32_24, l32_25, l32_26, l32_27, l32_28, l32_29, l32_33, l32_40, l32_41, l32_44, l32_45, l32_59, l32_61, l32_91, l32_93, l32_123, l32_125, b1]
  · rw [if_neg c1]
    refine ⟨t, _, ?_, cE.tr hh⟩
    have b1 := T (Int32.ofNat 3)
    generalize kn x = kx' at *
    repeat ((first | unfold cf_93 | unfold cf_93_0 | unfold cf_93_4 | unfold cf_93_8 | unfold cf_93_12 | unfold cf_93_13 | unfold cf_93_21 | unfold cf_93_34 | unfold cf_93_40 | unfold cf_93_50 | unfold cf_93_88 | unfold cf_93_94 | unfold cf_93_101 | unfold cf_93_110 | unfold cf_93_114 | unfold cf_93_115 | unfold cf_93_120 | unfold cf_93_124 | unfold cf_93_125 | unfold cf_93_132 | unfold cf_93_137 | unfold cf_93_143 | unfold cf_93_158 | unfold cf_93_161 | unfold cf_93_164 | unfold cf_93_170 | unfold cf_93_180); try simp (disch := omega) only [ev_S, ev_C, ↓reduceIte, Nat.reduceEqDiff, Nat.reduceLeDiff, Nat.reduceAdd, Nat.reduceMul, Nat.reduceSub, reduceCtorEq, l32_0, l32_1, l32_2, l32_3, l32_4, l32_20, l32_64, l32_200, kx, c1, b1])
end RWC
end
-- ### 96k.pure.lean.txt
section
/-! ===== PURE: run (38): size, widths, kind, back, sum, max, min: the reference ===== -/
def dgS (b : Nat) (v w : Int32) : Int32 := if b = 9 then v + w else if b = 10 then (if v < w then w else v) else (if w < v then w else v)
def dgR (b : Nat) (r : List Int32) : Int32 := r.foldl (dgS b) (if b = 9 then 0 else r.headD 0)
def ansD (b : Nat) (x : Nod) : Ans := if kn x = 0 then .inr (nZ (ivN x)) else if kn x = 1 then (if b > 9 ∧ rvN x = [] then .inl 5 else .inr (nZ (dgR b (rvN x)))) else if b > 9 ∧ ((tvN x).any fun r => r.isEmpty) = true then .inl 5 else ansM 1 (((tvN x).map (dgR b)).map nZ)
section OOT
variable {N : Nat} {s s' : mS} {n f f' m a b : Nat} {x : Nod} {ys xs : List Nod} {xv : Int32} {r : List Int32}
theorem foldl_take {α β : Type} {l : List α} {g : β → α → β} {c : β} {i : Nat} (hi : i < l.length) : (l.take (i + 1)).foldl g c = g ((l.take i).foldl g c) l[i] := by
  rw [List.take_succ_eq_append_getElem hi, List.foldl_append]
  rfl
theorem r_red (hN : 170000 ≤ N) (hb : b = 9 ∨ b = 10 ∨ b = 11) (L : LayN (s.2.2.1 47) (Rf f) a (nR r)) (hf : f ≤ 166000) (h0 : b = 9 ∨ ¬ r = []) (hr : r.length ≤ 64) : mf_331 N (Int32.ofNat b) (Int32.ofNat a) s = some (s, some (.int (dgR b r))) := by
  have hlt := rowlt L
  have cell : ∀ i (hi : i < r.length), s.2.2.1 47 (a + 2 + i) = r[i] := ((LayN_iff.mp L).2).2.2
  have zz := r_size (N := N) (s := s) (LayN_iff.mp L).2 (Nat.le_trans (LayN.lt L).1 (by omega))
  have zz : mf_77 N (Int32.ofNat a) s = some (s, some (.int (Int32.ofNat r.length))) := zz
  have E1 : mf_331 N (Int32.ofNat b) (Int32.ofNat a) s = mf_331_L1 N N 0 (Int32.ofNat b) (Int32.ofNat a) (if b = 9 then 0 else r.headD 0) (Int32.ofNat 0) s := by
    by_cases c : b = 9
    · rw [if_pos c, c]
      repeat ((first | unfold mf_331 | unfold mf_331_0 | unfold mf_331_6 | unfold mf_331_10 | unfold mf_331_18 | unfold mf_331_22 | unfold mf_331_29 | unfold mf_331_32 | unfold mf_331_51 | unfold mf_331_59 | unfold mf_331_65 | unfold mf_331_71 | unfold mf_331_74 | unfold mf_331_80 | unfold mf_331_83 | unfold mf_331_89); try simp (disch := omega) only [ev_S, ev_P, ↓reduceIte, Nat.reduceEqDiff, Nat.reduceLeDiff, Nat.reduceAdd, Nat.reduceMul, Nat.reduceSub, reduceCtorEq, l32_0, l32_1, l32_2, l32_3, l32_4, l32_9, l32_10, l32_47, l32_166300])
    · rw [if_neg c]
      have hr0 : 0 < r.length := List.length_pos_iff.mpr (h0.resolve_left c)
      have c0 := cell 0 hr0
      have c0 : s.2.2.1 47 (a + 2) = r[0] := c0
      have eh : r.headD 0 = r[0] := by
        cases r with
        | nil => exact absurd hr0 (Nat.not_lt_zero _)
        | cons z r => rfl
      rw [eh]
      have c9 : ¬ b = 9 := c
      unfold mf_331 mf_331_0 mf_331_10 mf_331_18
      simp (disch := omega) only [ev_S, ev_P, ↓reduceIte, Nat.reduceEqDiff, Nat.reduceLeDiff, Nat.reduceAdd, Nat.reduceMul, Nat.reduceSub, reduceCtorEq, l32_0, l32_1, l32_2, l32_3, l32_4, l32_5, l32_6, l32_7, l32_8, l32_9, l32_10, l32_11, l32_12, l32_13, l32_14, l32_15, l32_16, l32_17, l32_18, l32_19, l32_20, l32_21, l32_22, l32_23, l32_24, l32_25, l32_26, l32_27, l32_28, l32_29, l32_33, l32_40, l32_41, l32_44, l32_45, l32_59, l32_61, l32_91, l32_93, l32_123, l32_125, c9, c0]
  rw [E1]
  refine lp (fun F i (v : Int32) => mf_331_L1 N F 0 (Int32.ofNat b) (Int32.ofNat a) v (Int32.ofNat i) s) r.length (fun i v => v = (r.take i).foldl (dgS b) (if b = 9 then 0 else r.headD 0)) (fun R => R = some (s, some (.int (dgR b r)))) ?_ ?_ r.length 0 N _ (Nat.zero_add _) (by omega) rfl
  · intro F i v hi hP _
    left
    have n1 : ¬ r.length ≤ i := by omega
    have cc := cell i hi
    refine ⟨dgS b v r[i], by rw [foldl_take hi, hP], ?_⟩
    show mf_331_22 N (mf_331_L1 N F) (Int32.ofNat b) (Int32.ofNat a) v (Int32.ofNat i) s = _
    unfold dgS
    rcases hb with rfl | rfl | rfl
    · rw [if_pos rfl]
      unfold mf_331_22 mf_331_29 mf_331_32 mf_331_51 mf_331_83
      simp (disch := omega) only [ev_S, ev_P, ↓reduceIte, Nat.reduceEqDiff, Nat.reduceLeDiff, Nat.reduceAdd, Nat.reduceMul, Nat.reduceSub, reduceCtorEq, l32_0, l32_1, l32_2, l32_3, l32_4, l32_5, l32_6, l32_7, l32_8, l32_9, l32_10, l32_11, l32_12, l32_13, l32_14, l32_15, l32_16, l32_17, l32_18, l32_19, l32_20, l32_21, l32_22, l32_23, l32_24, l32_25, l32_26, l32_27, l32_28, l32_29, l32_33, l32_40, l32_41, l32_44, l32_45, l32_59, l32_61, l32_91, l32_93, l32_123, l32_125, zz, n1, cc]
    · rw [if_neg (by omega), if_pos rfl]
      by_cases c : v < r[i]
      · rw [if_pos c]
        have c' : ¬ r[i] ≤ v := Int32.not_le.mpr c
        unfold mf_331_22 mf_331_29 mf_331_32 mf_331_59 mf_331_65 mf_331_71 mf_331_80 mf_331_83
        simp (disch := omega) only [ev_S, ev_P, ↓reduceIte, Nat.reduceEqDiff, Nat.reduceLeDiff, Nat.reduceAdd, Nat.reduceMul, Nat.reduceSub, reduceCtorEq, l32_0, l32_1, l32_2, l32_3, l32_4, l32_5, l32_6, l32_7, l32_8, l32_9, l32_10, l32_11, l32_12, l32_13, l32_14, l32_15, l32_16, l32_17, l32_18, l32_19, l32_20, l32_21, l32_22, l32_23, l32_24, l32_25, l32_26, l32_27, l32_28, l32_29, l32_33, l32_40, l32_41, l32_44, l32_45, l32_59, l32_61, l32_91, l32_93, l32_123, l32_125, zz, n1, cc, c']
      · rw [if_neg c]
        have c' : r[i] ≤ v := Int32.not_lt.mp c
        unfold mf_331_22 mf_331_29 mf_331_32 mf_331_59 mf_331_65 mf_331_83
        simp (disch := omega) only [ev_S, ev_P, ↓reduceIte, Nat.reduceEqDiff, Nat.reduceLeDiff, Nat.reduceAdd, Nat.reduceMul, Nat.reduceSub, reduceCtorEq, l32_0, l32_1, l32_2, l32_3, l32_4, l32_5, l32_6, l32_7, l32_8, l32_9, l32_10, l32_11, l32_12, l32_13, l32_14, l32_15, l32_16, l32_17, l32_18, l32_19, l32_20, l32_21, l32_22, l32_23, l32_24, l32_25, l32_26, l32_27, l32_28, l32_29, l32_33, l32_40, l32_41, l32_44, l32_45, l32_59, l32_61, l32_91, l32_93, l32_123, l32_125, zz, n1, cc, c']
    · rw [if_neg (by omega), if_neg (by omega)]
      by_cases c : r[i] < v
      · rw [if_pos c]
        have c' : ¬ v ≤ r[i] := Int32.not_le.mpr c
        unfold mf_331_22 mf_331_29 mf_331_32 mf_331_59 mf_331_74 mf_331_80 mf_331_83
        simp (disch := omega) only [ev_S, ev_P, ↓reduceIte, Nat.reduceEqDiff, Nat.reduceLeDiff, Nat.reduceAdd, Nat.reduceMul, Nat.reduceSub, reduceCtorEq, l32_0, l32_1, l32_2, l32_3, l32_4, l32_5, l32_6, l32_7, l32_8, l32_9, l32_10, l32_11, l32_12, l32_13, l32_14, l32_15, l32_16, l32_17, l32_18, l32_19, l32_20, l32_21, l32_22, l32_23, l32_24, l32_25, l32_26, l32_27, l32_28, l32_29, l32_33, l32_40, l32_41, l32_44, l32_45, l32_59, l32_61, l32_91, l32_93, l32_123, l32_125, zz, n1, cc, c']
      · rw [if_neg c]
        have c' : v ≤ r[i] := Int32.not_lt.mp c
        unfold mf_331_22 mf_331_29 mf_331_32 mf_331_59 mf_331_74 mf_331_83
        simp (disch := omega) only [ev_S, ev_P, ↓reduceIte, Nat.reduceEqDiff, Nat.reduceLeDiff, Nat.reduceAdd, Nat.reduceMul, Nat.reduceSub, reduceCtorEq, l32_0, l32_1, l32_2, l32_3, l32_4, l32_5, l32_6, l32_7, l32_8, l32_9, l32_10, l32_11, l32_12, l32_13, l32_14, l32_15, l32_16, l32_17, l32_18, l32_19, l32_20, l32_21, l32_22, l32_23, l32_24, l32_25, l32_26, l32_27, l32_28, l32_29, l32_33, l32_40, l32_41, l32_44, l32_45, l32_59, l32_61, l32_91, l32_93, l32_123, l32_125, zz, n1, cc, c']
  · intro F v hP
    rw [List.take_length] at hP
    rw [hP]
    show mf_331_22 N (mf_331_L1 N F) (Int32.ofNat b) (Int32.ofNat a) _ (Int32.ofNat r.length) s = _
    unfold mf_331_22 mf_331_29 mf_331_89
    simp (disch := omega) only [ev_S, ev_P, ↓reduceIte, Nat.reduceEqDiff, Nat.reduceLeDiff, Nat.reduceAdd, Nat.reduceMul, Nat.reduceSub, reduceCtorEq, l32_0, l32_1, l32_2, l32_3, l32_4, l32_5, l32_6, l32_7, l32_8, l32_9, l32_10, l32_11, l32_12, l32_13, l32_14, l32_15, l32_16, l32_17, l32_18, l32_19, l32_20, l32_21, l32_22, l32_23, l32_24, l32_25, l32_26, l32_27, l32_28, l32_29, l32_33, l32_40, l32_41, l32_44, l32_45, l32_59, l32_61, l32_91, l32_93, l32_123, l32_125, zz]
    rfl
theorem r_oneA (hN : 170000 ≤ N) (H : rA s n f m ys) (hx : rvl (s.2.2.1 47) f (s.2.2.1 49 n) xv x) (hxv : s.2.2.1 50 n = xv) (wx : wfN x) (dx : x.1 ≤ 4) : (¬ kn x = 0 → ∃ s', mf_333 N (Int32.ofNat 6) xv (Int32.ofNat n) s = some (s', none) ∧ rE s s' n f m (.inr (nZ (Int32.ofNat (szN x))))) ∧ (∃ s', mf_333 N (Int32.ofNat 8) xv (Int32.ofNat n) s = some (s', none) ∧ rE s s' n f m (.inr (nZ (Int32.ofNat (kn x))))) ∧ (kn x = 2 → ∃ s', mf_333 N (Int32.ofNat 7) xv (Int32.ofNat n) s = some (s', none) ∧ rE s s' n f m (ansM 1 (((tvN x).map fun r => Int32.ofNat r.length).map nZ))) ∧ (¬ kn x = 0 → ∃ s', mf_333 N (Int32.ofNat 15) xv (Int32.ofNat n) s = some (s', none) ∧ rE s s' n f m (ansM (kn x) (pts x).reverse)) := by
  have H' := H
  obtain ⟨-, H2, H3, H4, H5, H6, H7, H8, H9, H10⟩ := H'
  have hx' : rvl (s.2.2.1 47) f (s.2.2.1 49 n) (s.2.2.1 50 n) x := by rw [hxv]; exact hx
  have kx := r_kindAt (N := N) hx' (by omega) (by omega)
  rw [kd_kn] at kx
  have lx := kn_le (x := x)
  have G0 : rG s (mI s 51 (Int32.ofNat n)) n f f [] := rG.nil H2
  obtain ⟨s1, hs1⟩ : ∃ s1, s1 = mI s 51 (Int32.ofNat n) := ⟨_, rfl⟩
  rw [← hs1] at G0
  refine ⟨fun c0 => ?_, ?_, fun c2 => ?_, fun c0 => ?_⟩
  · obtain ⟨-, a, ea, La⟩ := hx.th c0
    have zz := G0.size (N := N) La (by omega)
    obtain ⟨s2, p1, p2⟩ := rG.pushZ (N := N) G0 (by show n + 0 < 9000; omega) (Int32.ofNat (szN x))
    refine ⟨s2, ?_, rG.int H p2 rfl⟩
    rw [hs1] at zz p1
    rw [ea]
    unfold mf_333 mf_333_0 mf_333_5 mf_333_18 mf_333_25 mf_333_28 mf_333_289
    simp (disch := omega) only [ev_S, ev_P, ↓reduceIte, Nat.reduceEqDiff, Nat.reduceLeDiff, Nat.reduceAdd, Nat.reduceMul, Nat.reduceSub, reduceCtorEq, l32_0, l32_1, l32_2, l32_3, l32_4, l32_5, l32_6, l32_7, l32_8, l32_9, l32_10, l32_11, l32_12, l32_13, l32_14, l32_15, l32_16, l32_17, l32_18, l32_19, l32_20, l32_21, l32_22, l32_23, l32_24, l32_25, l32_26, l32_27, l32_28, l32_29, l32_33, l32_40, l32_41, l32_44, l32_45, l32_59, l32_61, l32_91, l32_93, l32_123, l32_125, kx, zz, p1]
  · obtain ⟨s2, p1, p2⟩ := rG.pushZ (N := N) G0 (by show n + 0 < 9000; omega) (Int32.ofNat (kn x))
    refine ⟨s2, ?_, rG.int H p2 rfl⟩
    rw [hs1] at p1
    unfold mf_333 mf_333_0 mf_333_5 mf_333_31 mf_333_37 mf_333_44 mf_333_289
    simp (disch := omega) only [ev_S, ev_P, ↓reduceIte, Nat.reduceEqDiff, Nat.reduceLeDiff, Nat.reduceAdd, Nat.reduceMul, Nat.reduceSub, reduceCtorEq, l32_0, l32_1, l32_2, l32_3, l32_4, l32_5, l32_6, l32_7, l32_8, l32_9, l32_10, l32_11, l32_12, l32_13, l32_14, l32_15, l32_16, l32_17, l32_18, l32_19, l32_20, l32_21, l32_22, l32_23, l32_24, l32_25, l32_26, l32_27, l32_28, l32_29, l32_33, l32_40, l32_41, l32_44, l32_45, l32_59, l32_61, l32_91, l32_93, l32_123, l32_125, kx, p1]
  · obtain ⟨-, a, ea, La⟩ := hx.th (by omega)
    have tw := tv_wf c2 wx
    have esz := kn2_sz c2
    have PT := fun i (hi : i < (tvN x).length) s2 fx xs (G : rG s s2 n f fx xs) => rG.partT (N := N) G La (by omega) c2 hi
    rw [ea]
    generalize tvN x = q at *
    have E1 : mf_333 N (Int32.ofNat 7) (Int32.ofNat a) (Int32.ofNat n) s = mf_333_L29 N N 0 (Int32.ofNat a) (Int32.ofNat n) (Int32.ofNat 0) s1 := by
      rw [hs1]
      unfold mf_333 mf_333_0 mf_333_5 mf_333_31 mf_333_47 mf_333_53
      simp (disch := omega) only [ev_S, ev_P, ↓reduceIte, Nat.reduceEqDiff, Nat.reduceLeDiff, Nat.reduceAdd, Nat.reduceMul, Nat.reduceSub, reduceCtorEq, l32_0, l32_1, l32_2, l32_3, l32_4, l32_5, l32_6, l32_7, l32_8, l32_9, l32_10, l32_11, l32_12, l32_13, l32_14, l32_15, l32_16, l32_17, l32_18, l32_19, l32_20, l32_21, l32_22, l32_23, l32_24, l32_25, l32_26, l32_27, l32_28, l32_29, l32_33, l32_40, l32_41, l32_44, l32_45, l32_59, l32_61, l32_91, l32_93, l32_123, l32_125, kx]
    rw [E1]
    refine lp (fun F i (s' : mS) => mf_333_L29 N F 0 (Int32.ofNat a) (Int32.ofNat n) (Int32.ofNat i) s') q.length (fun i s' => rG s s' n f f (((q.take i).map fun r => Int32.ofNat r.length).map nZ)) (fun R => ∃ s', R = some (s', none) ∧ rE s s' n f m (ansM 1 ((q.map fun r => Int32.ofNat r.length).map nZ))) ?_ ?_ q.length 0 N s1 (Nat.zero_add _) (by omega) G0
    · intro F i s2 hi G _
      left
      have zz := G.size (N := N) La (by omega)
      rw [esz] at zz
      have n1 : ¬ q.length ≤ i := by omega
      obtain ⟨c, d1, d2⟩ := PT i hi s2 _ _ G
      have z3 := G.size (N := N) d2 (by omega)
      have z3 : mf_77 N (Int32.ofNat c) s2 = some (s2, some (.int (Int32.ofNat q[i].length))) := z3
      have hll : (((q.take i).map fun r => Int32.ofNat r.length).map nZ).length = i := by rw [List.length_map, len_take_map (by omega)]
      obtain ⟨s3, p1, p2⟩ := rG.pushZ (N := N) G (by rw [hll]; omega) (Int32.ofNat q[i].length)
      refine ⟨s3, ?_, ?_⟩
      · rw [take_map_s hi, List.map_append]
        exact p2
      · show mf_333_56 N (mf_333_L29 N F) (Int32.ofNat a) (Int32.ofNat n) (Int32.ofNat i) s2 = _
        unfold mf_333_56 mf_333_63 mf_333_66 mf_333_76 mf_333_79 mf_333_82
        simp (disch := omega) only [ev_S, ev_P, ↓reduceIte, Nat.reduceEqDiff, Nat.reduceLeDiff, Nat.reduceAdd, Nat.reduceMul, Nat.reduceSub, reduceCtorEq, l32_0, l32_1, l32_2, l32_3, l32_4, l32_5, l32_6, l32_7, l32_8, l32_9, l32_10, l32_11, l32_12, l32_13, l32_14, l32_15, l32_16, l32_17, l32_18, l32_19, l32_20, l32_21, l32_22, l32_23, l32_24, l32_25, l32_26, l32_27, l32_28, l32_29, l32_33, l32_40, l32_41, l32_44, l32_45, l32_59, l32_61, l32_91, l32_93, l32_123, l32_125, zz, n1, d1, z3, p1]
    · intro F s2 G
      rw [List.take_length] at G
      have zz := G.size (N := N) La (by omega)
      rw [esz] at zz
      obtain ⟨s3, b1, b2⟩ := rA.bRow (N := N) hN H G (by rw [List.length_map]; omega) (by rw [List.length_map]; omega)
      refine ⟨s3, ?_, b2⟩
      show mf_333_56 N (mf_333_L29 N F) (Int32.ofNat a) (Int32.ofNat n) (Int32.ofNat q.length) s2 = _
      unfold mf_333_56 mf_333_63 mf_333_88 mf_333_94 mf_333_289
      simp (disch := omega) only [ev_S, ev_P, ↓reduceIte, Nat.reduceEqDiff, Nat.reduceLeDiff, Nat.reduceAdd, Nat.reduceMul, Nat.reduceSub, reduceCtorEq, l32_0, l32_1, l32_2, l32_3, l32_4, l32_5, l32_6, l32_7, l32_8, l32_9, l32_10, l32_11, l32_12, l32_13, l32_14, l32_15, l32_16, l32_17, l32_18, l32_19, l32_20, l32_21, l32_22, l32_23, l32_24, l32_25, l32_26, l32_27, l32_28, l32_29, l32_33, l32_40, l32_41, l32_44, l32_45, l32_59, l32_61, l32_91, l32_93, l32_123, l32_125, zz, b1]
  · obtain ⟨-, a, ea, La⟩ := hx.th c0
    have zz := G0.size (N := N) La (by omega)
    have hpl : (pts x).length = szN x := pts_len
    have s64 := wf64 wx
    rw [ea]
    -- the place stands one behind the part that is next
    have hlast : ∀ F (s2 : mS), rG s s2 n f f (pts x).reverse → ∃ s', mf_333_L23 N (F + 1) 0 (Int32.ofNat a) (Int32.ofNat n) (Int32.ofNat (kn x)) (-Int32.ofNat 1) s2 = some (s', none) ∧ rE s s' n f m (ansM (kn x) (pts x).reverse) := fun F s2 G => by
      have hmem : ∀ y ∈ (pts x).reverse, y ∈ pts x := fun y hy => List.mem_reverse.mp hy
      obtain ⟨s3, b1, b2⟩ := rA.builds (N := N) (k := kn x) hN H G (pts_ok c0 hmem) (fun y hy => wf_pts wx y (hmem y hy)) (fun y hy => Nat.le_trans (pts_lv y (hmem y hy)) dx) (by omega) (by omega) (by rw [List.length_reverse]; omega) (by rw [List.length_reverse]; omega)
      refine ⟨s3, ?_, b2⟩
      show mf_333_112 N (mf_333_L23 N F) (Int32.ofNat a) (Int32.ofNat n) (Int32.ofNat (kn x)) (-Int32.ofNat 1) s2 = _
      generalize kn x = kx' at *
      unfold mf_333_112
      rw [if_pos (by decide)]
      unfold mf_333_130 mf_333_137 mf_333_289
      simp (disch := omega) only [ev_S, ev_P, ↓reduceIte, Nat.reduceEqDiff, Nat.reduceLeDiff, Nat.reduceAdd, Nat.reduceMul, Nat.reduceSub, reduceCtorEq, l32_0, l32_1, l32_2, l32_3, l32_4, l32_5, l32_6, l32_7, l32_8, l32_9, l32_10, l32_11, l32_12, l32_13, l32_14, l32_15, l32_16, l32_17, l32_18, l32_19, l32_20, l32_21, l32_22, l32_23, l32_24, l32_25, l32_26, l32_27, l32_28, l32_29, l32_33, l32_40, l32_41, l32_44, l32_45, l32_59, l32_61, l32_91, l32_93, l32_123, l32_125, b1]
    have hpre : ∀ i, i ≤ (pts x).length → ((pts x).drop i).reverse.length = (pts x).length - i := fun i hi => by rw [List.length_reverse, List.length_drop]
    have st : ∀ F i (s2 : mS), i < (pts x).length → rG s s2 n f f ((pts x).drop (i + 1)).reverse → ∃ s3, mf_333_L23 N (F + 1) 0 (Int32.ofNat a) (Int32.ofNat n) (Int32.ofNat (kn x)) (Int32.ofNat i) s2 = mf_333_L23 N F 0 (Int32.ofNat a) (Int32.ofNat n) (Int32.ofNat (kn x)) (Int32.ofNat i - Int32.ofNat 1) s3 ∧ rG s s3 n f f ((pts x).drop i).reverse := fun F i s2 hi G => by
      obtain ⟨s3, d1, d2⟩ := rG.elem (N := N) (i := i) G (by rw [hpre _ (by omega)]; omega) (by omega) La hi
      refine ⟨s3, ?_, ?_⟩
      · show mf_333_112 N (mf_333_L23 N F) (Int32.ofNat a) (Int32.ofNat n) (Int32.ofNat (kn x)) (Int32.ofNat i) s2 = _
        have e : Int32.ofNat i + (-1) = Int32.ofNat i - Int32.ofNat 1 := (Int32.sub_eq_add_neg _ _).symm
        unfold mf_333_112
        rw [if_neg (i32n (by omega))]
        unfold mf_333_117 mf_333_124
        rw [d1, e]
        rfl
      · rw [List.drop_eq_getElem_cons hi, List.reverse_cons]
        exact d2
    have E1 : mf_333 N (Int32.ofNat 15) (Int32.ofNat a) (Int32.ofNat n) s = mf_333_L23 N N 0 (Int32.ofNat a) (Int32.ofNat n) (Int32.ofNat (kn x)) (Int32.ofNat (szN x) - Int32.ofNat 1) s1 := by
      rw [hs1] at zz ⊢
      unfold mf_333 mf_333_0 mf_333_5 mf_333_31 mf_333_47 mf_333_97 mf_333_103 mf_333_108
      generalize kn x = kx' at *
      have kx : mf_292 N (Int32.ofNat n) s = some (s, some (.int (Int32.ofNat kx'))) := kx
      simp only [kx, ev_S, ev_P, l32_6, l32_7, l32_8, l32_15, l32_1, zz, Nat.reduceEqDiff, if_true, if_false]
      rfl
    rw [E1, ← hpl]
    have all : ∀ i F (s2 : mS), i ≤ (pts x).length → i < F → rG s s2 n f f ((pts x).drop i).reverse → ∃ s', mf_333_L23 N F 0 (Int32.ofNat a) (Int32.ofNat n) (Int32.ofNat (kn x)) (Int32.ofNat i - Int32.ofNat 1) s2 = some (s', none) ∧ rE s s' n f m (ansM (kn x) (pts x).reverse) := fun i => by
      induction i with
      | zero =>
        intro F s2 hi hF G
        obtain ⟨F1, rfl⟩ : ∃ F1, F = F1 + 1 := ⟨F - 1, by omega⟩
        exact hlast F1 s2 G
      | succ i ih =>
        intro F s2 hi hF G
        obtain ⟨F1, rfl⟩ : ∃ F1, F = F1 + 1 := ⟨F - 1, by omega⟩
        have e : Int32.ofNat (i + 1) - Int32.ofNat 1 = Int32.ofNat i := by
          rw [Int32.ofNat_add]
          exact Int32.add_sub_cancel _ _
        obtain ⟨s3, c1, c2⟩ := st F1 i s2 (by omega) G
        rw [e, c1]
        exact ih F1 s3 (by omega) (by omega) c2
    exact all (pts x).length N s1 (Nat.le_refl _) (by omega) (by rw [List.drop_length]; exact G0)
end OOT
end
-- ### 96l.pure.lean.txt
section
/-! ===== PURE: run (39): sum, max, min: the reference; widths, back: the class ===== -/
section DIG
variable {N : Nat} {s s' : mS} {n f f' m a b : Nat} {x : Nod} {ys xs : List Nod} {xv : Int32} {r : List Int32}
theorem r_dgs (hN : 170000 ≤ N) (hb : b = 9 ∨ b = 10 ∨ b = 11) (H : rA s n f m ys) (hx : rvl (s.2.2.1 47) f (s.2.2.1 49 n) xv x) (hxv : s.2.2.1 50 n = xv) (wx : wfN x) (h3 : kn x ≤ 2) (h0 : b = 9 ∨ ¬ kn x = 0) : ∃ s', mf_333 N (Int32.ofNat b) xv (Int32.ofNat n) s = some (s', none) ∧ rE s s' n f m (ansD b x) := by
  have H' := H
  obtain ⟨-, H2, H3, H4, H5, H6, H7, H8, H9, H10⟩ := H'
  have hx' : rvl (s.2.2.1 47) f (s.2.2.1 49 n) (s.2.2.1 50 n) x := by rw [hxv]; exact hx
  have kx := r_kindAt (N := N) hx' (by omega) (by omega)
  rw [kd_kn] at kx
  have G0 : rG s (mI s 51 (Int32.ofNat n)) n f f [] := rG.nil H2
  obtain ⟨s1, hs1⟩ : ∃ s1, s1 = mI s 51 (Int32.ofNat n) := ⟨_, rfl⟩
  rw [← hs1] at G0
  have b6 : ¬ b = 6 := by omega
  have b7 : ¬ b = 7 := by omega
  have b8 : ¬ b = 8 := by omega
  have b15 : ¬ b = 15 := by omega
  have b11 : b ≤ 11 := by omega
  have E1 : mf_333 N (Int32.ofNat b) xv (Int32.ofNat n) s = mf_333_158 N (Int32.ofNat b) xv (Int32.ofNat n) (Int32.ofNat (kn x)) s1 := by
    rw [hs1]
    generalize kn x = kx' at *
    unfold mf_333 mf_333_0 mf_333_5 mf_333_31 mf_333_47 mf_333_97 mf_333_140
    simp (disch := omega) only [ev_S, ev_P, ↓reduceIte, Nat.reduceEqDiff, Nat.reduceLeDiff, Nat.reduceAdd, Nat.reduceMul, Nat.reduceSub, reduceCtorEq, l32_0, l32_1, l32_2, l32_3, l32_4, l32_5, l32_6, l32_7, l32_8, l32_9, l32_10, l32_11, l32_12, l32_13, l32_14, l32_15, l32_16, l32_17, l32_18, l32_19, l32_20, l32_21, l32_22, l32_23, l32_24, l32_25, l32_26, l32_27, l32_28, l32_29, l32_33, l32_40, l32_41, l32_44, l32_45, l32_59, l32_61, l32_91, l32_93, l32_123, l32_125, kx, b6, b7, b8, b15, b11]
  rw [E1]
  unfold ansD
  by_cases c0 : kn x = 0
  · rw [if_pos c0, c0, (hx.iv c0).2]
    obtain ⟨s2, p1, p2⟩ := rG.pushZ (N := N) G0 (by show n + 0 < 9000; omega) (ivN x)
    refine ⟨s2, ?_, rG.int H p2 rfl⟩
    unfold mf_333_158 mf_333_163 mf_333_169 mf_333_289
    simp (disch := omega) only [ev_S, ev_P, ↓reduceIte, Nat.reduceEqDiff, Nat.reduceLeDiff, Nat.reduceAdd, Nat.reduceMul, Nat.reduceSub, reduceCtorEq, l32_0, l32_1, l32_2, l32_3, l32_4, l32_5, l32_6, l32_7, l32_8, l32_9, l32_10, l32_11, l32_12, l32_13, l32_14, l32_15, l32_16, l32_17, l32_18, l32_19, l32_20, l32_21, l32_22, l32_23, l32_24, l32_25, l32_26, l32_27, l32_28, l32_29, l32_33, l32_40, l32_41, l32_44, l32_45, l32_59, l32_61, l32_91, l32_93, l32_123, l32_125, p1]
  · rw [if_neg c0]
    obtain ⟨-, a, ea, La⟩ := hx.th c0
    rw [ea]
    by_cases c1 : kn x = 1
    · rw [if_pos c1, c1]
      have Lr := lay1 La c1
      have hr := rv_wf c1 wx
      have zz := G0.size (N := N) Lr (by omega)
      have zz : mf_77 N (Int32.ofNat a) s1 = some (s1, some (.int (Int32.ofNat (rvN x).length))) := zz
      generalize rvN x = r at *
      have E2 : mf_333_158 N (Int32.ofNat b) (Int32.ofNat a) (Int32.ofNat n) (Int32.ofNat 1) s1 = mf_333_178 N (Int32.ofNat b) (Int32.ofNat a) s1 := by
        unfold mf_333_158 mf_333_172
        simp (disch := omega) only [ev_S, ev_P, ↓reduceIte, Nat.reduceEqDiff, Nat.reduceLeDiff, Nat.reduceAdd, Nat.reduceMul, Nat.reduceSub, reduceCtorEq, l32_0, l32_1, l32_2, l32_3, l32_4, l32_5, l32_6, l32_7, l32_8, l32_9, l32_10, l32_11, l32_12, l32_13, l32_14, l32_15, l32_16, l32_17, l32_18, l32_19, l32_20, l32_21, l32_22, l32_23, l32_24, l32_25, l32_26, l32_27, l32_28, l32_29, l32_33, l32_40, l32_41, l32_44, l32_45, l32_59, l32_61, l32_91, l32_93, l32_123, l32_125]
      rw [E2]
      by_cases ce : b > 9 ∧ r = []
      · rw [if_pos ce]
        obtain ⟨b1, b2⟩ := rG.trb (N := N) H G0 (by omega) 5
        refine ⟨_, ?_, b2⟩
        have c9 : ¬ b ≤ 9 := by omega
        rw [ce.2] at zz
        have zz : mf_77 N (Int32.ofNat a) s1 = some (s1, some (.int (Int32.ofNat 0))) := zz
        unfold mf_333_178 mf_333_184 mf_333_189 mf_333_192 mf_333_201 mf_333_289
        simp (disch := omega) only [ev_S, ev_P, ↓reduceIte, Nat.reduceEqDiff, Nat.reduceLeDiff, Nat.reduceAdd, Nat.reduceMul, Nat.reduceSub, reduceCtorEq, l32_0, l32_1, l32_2, l32_3, l32_4, l32_5, l32_6, l32_7, l32_8, l32_9, l32_10, l32_11, l32_12, l32_13, l32_14, l32_15, l32_16, l32_17, l32_18, l32_19, l32_20, l32_21, l32_22, l32_23, l32_24, l32_25, l32_26, l32_27, l32_28, l32_29, l32_33, l32_40, l32_41, l32_44, l32_45, l32_59, l32_61, l32_91, l32_93, l32_123, l32_125, c9, zz, b1]
      · rw [if_neg ce]
        have hne : b = 9 ∨ ¬ r = [] := by
          by_cases c : b = 9
          · exact Or.inl c
          · exact Or.inr (fun z => ce ⟨by omega, z⟩)
        have rd := r_red (N := N) (s := s1) hN hb (G0.lay Lr) (by omega) hne hr
        obtain ⟨s2, p1, p2⟩ := rG.pushZ (N := N) G0 (by show n + 0 < 9000; omega) (dgR b r)
        refine ⟨s2, ?_, rG.int H p2 rfl⟩
        have E3 : mf_333_204 N (Int32.ofNat b) (Int32.ofNat a) s1 = some (s2, none) := by
          unfold mf_333_204 mf_333_212 mf_333_215 mf_333_289
          simp (disch := omega) only [ev_S, ev_P, ↓reduceIte, Nat.reduceEqDiff, Nat.reduceLeDiff, Nat.reduceAdd, Nat.reduceMul, Nat.reduceSub, reduceCtorEq, l32_0, l32_1, l32_2, l32_3, l32_4, l32_5, l32_6, l32_7, l32_8, l32_9, l32_10, l32_11, l32_12, l32_13, l32_14, l32_15, l32_16, l32_17, l32_18, l32_19, l32_20, l32_21, l32_22, l32_23, l32_24, l32_25, l32_26, l32_27, l32_28, l32_29, l32_33, l32_40, l32_41, l32_44, l32_45, l32_59, l32_61, l32_91, l32_93, l32_123, l32_125, rd, p1]
        by_cases c9 : b ≤ 9
        · unfold mf_333_178
          simp (disch := omega) only [ev_S, ev_P, ↓reduceIte, Nat.reduceEqDiff, Nat.reduceLeDiff, Nat.reduceAdd, Nat.reduceMul, Nat.reduceSub, reduceCtorEq, l32_0, l32_1, l32_2, l32_3, l32_4, l32_5, l32_6, l32_7, l32_8, l32_9, l32_10, l32_11, l32_12, l32_13, l32_14, l32_15, l32_16, l32_17, l32_18, l32_19, l32_20, l32_21, l32_22, l32_23, l32_24, l32_25, l32_26, l32_27, l32_28, l32_29, l32_33, l32_40, l32_41, l32_44, l32_45, l32_59, l32_61, l32_91, l32_93, l32_123, l32_125, c9, E3]
        · have hl : ¬ r.length = 0 := fun z => ce ⟨by omega, List.length_eq_zero_iff.mp z⟩
          unfold mf_333_178 mf_333_184 mf_333_189
          simp (disch := omega) only [ev_S, ev_P, ↓reduceIte, Nat.reduceEqDiff, Nat.reduceLeDiff, Nat.reduceAdd, Nat.reduceMul, Nat.reduceSub, reduceCtorEq, l32_0, l32_1, l32_2, l32_3, l32_4, l32_5, l32_6, l32_7, l32_8, l32_9, l32_10, l32_11, l32_12, l32_13, l32_14, l32_15, l32_16, l32_17, l32_18, l32_19, l32_20, l32_21, l32_22, l32_23, l32_24, l32_25, l32_26, l32_27, l32_28, l32_29, l32_33, l32_40, l32_41, l32_44, l32_45, l32_59, l32_61, l32_91, l32_93, l32_123, l32_125, c9, zz, hl, E3]
    · have c2 : kn x = 2 := by omega
      rw [if_neg c1, c2]
      have tw := tv_wf c2 wx
      have esz := kn2_sz c2
      have PT := fun i (hi : i < (tvN x).length) s2 fx xs (G : rG s s2 n f fx xs) => rG.partT (N := N) G La (by omega) c2 hi
      generalize tvN x = q at *
      have E2 : mf_333_158 N (Int32.ofNat b) (Int32.ofNat a) (Int32.ofNat n) (Int32.ofNat 2) s1 = mf_333_L4 N N 0 (Int32.ofNat b) (Int32.ofNat a) (Int32.ofNat n) (Int32.ofNat 0) s1 := by
        unfold mf_333_158 mf_333_172 mf_333_218
        simp (disch := omega) only [ev_S, ev_P, ↓reduceIte, Nat.reduceEqDiff, Nat.reduceLeDiff, Nat.reduceAdd, Nat.reduceMul, Nat.reduceSub, reduceCtorEq, l32_0, l32_1, l32_2, l32_3, l32_4, l32_5, l32_6, l32_7, l32_8, l32_9, l32_10, l32_11, l32_12, l32_13, l32_14, l32_15, l32_16, l32_17, l32_18, l32_19, l32_20, l32_21, l32_22, l32_23, l32_24, l32_25, l32_26, l32_27, l32_28, l32_29, l32_33, l32_40, l32_41, l32_44, l32_45, l32_59, l32_61, l32_91, l32_93, l32_123, l32_125]
      rw [E2]
      refine lp (fun F i (s' : mS) => mf_333_L4 N F 0 (Int32.ofNat b) (Int32.ofNat a) (Int32.ofNat n) (Int32.ofNat i) s') q.length (fun i s' => rG s s' n f f (((q.take i).map (dgR b)).map nZ) ∧ (b > 9 → ∀ r ∈ q.take i, ¬ r = [])) (fun R => ∃ s', R = some (s', none) ∧ rE s s' n f m (if b > 9 ∧ (q.any fun r => r.isEmpty) = true then .inl 5 else ansM 1 ((q.map (dgR b)).map nZ))) ?_ ?_ q.length 0 N s1 (Nat.zero_add _) (by omega) ⟨G0, fun _ r hr => absurd hr List.not_mem_nil⟩
      · intro F i s2 hi hP _
        obtain ⟨G, hne⟩ := hP
        have zz := G.size (N := N) La (by omega)
        rw [esz] at zz
        have n1 : ¬ q.length ≤ i := by omega
        obtain ⟨c, d1, d2⟩ := PT i hi s2 _ _ G
        have z3 := G.size (N := N) d2 (by omega)
        have z3 : mf_77 N (Int32.ofNat c) s2 = some (s2, some (.int (Int32.ofNat q[i].length))) := z3
        have hll : (((q.take i).map (dgR b)).map nZ).length = i := by rw [List.length_map, len_take_map (by omega)]
        have E3 : mf_333_L4 N (F + 1) 0 (Int32.ofNat b) (Int32.ofNat a) (Int32.ofNat n) (Int32.ofNat i) s2 = mf_333_238 N (mf_333_L4 N F) (Int32.ofNat b) (Int32.ofNat a) (Int32.ofNat n) (Int32.ofNat i) (Int32.ofNat c) s2 := by
          show mf_333_221 N (mf_333_L4 N F) (Int32.ofNat b) (Int32.ofNat a) (Int32.ofNat n) (Int32.ofNat i) s2 = _
          unfold mf_333_221 mf_333_228 mf_333_231
          simp (disch := omega) only [ev_S, ev_P, ↓reduceIte, Nat.reduceEqDiff, Nat.reduceLeDiff, Nat.reduceAdd, Nat.reduceMul, Nat.reduceSub, reduceCtorEq, l32_0, l32_1, l32_2, l32_3, l32_4, l32_5, l32_6, l32_7, l32_8, l32_9, l32_10, l32_11, l32_12, l32_13, l32_14, l32_15, l32_16, l32_17, l32_18, l32_19, l32_20, l32_21, l32_22, l32_23, l32_24, l32_25, l32_26, l32_27, l32_28, l32_29, l32_33, l32_40, l32_41, l32_44, l32_45, l32_59, l32_61, l32_91, l32_93, l32_123, l32_125, zz, n1, d1]
        show (∃ a' : mS, _ ∧ mf_333_L4 N (F + 1) 0 _ _ _ _ s2 = _) ∨ ∃ s', mf_333_L4 N (F + 1) 0 _ _ _ _ s2 = _ ∧ _
        rw [E3]
        by_cases ce : b > 9 ∧ q[i] = []
        · right
          rw [if_pos (show b > 9 ∧ (q.any fun r => r.isEmpty) = true from ⟨ce.1, any_mem hi (by rw [ce.2]; rfl)⟩)]
          obtain ⟨b1, b2⟩ := rG.trb (N := N) H G (by omega) 5
          refine ⟨_, ?_, b2⟩
          have c9 : ¬ b ≤ 9 := by omega
          rw [ce.2] at z3
          have z3 : mf_77 N (Int32.ofNat c) s2 = some (s2, some (.int (Int32.ofNat 0))) := z3
          unfold mf_333_238 mf_333_246 mf_333_252 mf_333_255 mf_333_264
          simp (disch := omega) only [ev_S, ev_P, ↓reduceIte, Nat.reduceEqDiff, Nat.reduceLeDiff, Nat.reduceAdd, Nat.reduceMul, Nat.reduceSub, reduceCtorEq, l32_0, l32_1, l32_2, l32_3, l32_4, l32_5, l32_6, l32_7, l32_8, l32_9, l32_10, l32_11, l32_12, l32_13, l32_14, l32_15, l32_16, l32_17, l32_18, l32_19, l32_20, l32_21, l32_22, l32_23, l32_24, l32_25, l32_26, l32_27, l32_28, l32_29, l32_33, l32_40, l32_41, l32_44, l32_45, l32_59, l32_61, l32_91, l32_93, l32_123, l32_125, c9, z3, b1]
        · left
          have hne1 : b = 9 ∨ ¬ q[i] = [] := by
            by_cases c : b = 9
            · exact Or.inl c
            · exact Or.inr (fun z => ce ⟨by omega, z⟩)
          have rd := r_red (N := N) (s := s2) hN hb (G.lay d2) (by omega) hne1 (tw.2.2 _ (List.getElem_mem hi))
          obtain ⟨s3, p1, p2⟩ := rG.pushZ (N := N) G (by rw [hll]; omega) (dgR b q[i])
          have E4 : mf_333_265 N (mf_333_L4 N F) (Int32.ofNat b) (Int32.ofNat a) (Int32.ofNat n) (Int32.ofNat i) (Int32.ofNat c) s2 = mf_333_L4 N F 0 (Int32.ofNat b) (Int32.ofNat a) (Int32.ofNat n) (Int32.ofNat (i + 1)) s3 := by
            unfold mf_333_265 mf_333_274 mf_333_277
            simp (disch := omega) only [ev_S, ev_P, ↓reduceIte, Nat.reduceEqDiff, Nat.reduceLeDiff, Nat.reduceAdd, Nat.reduceMul, Nat.reduceSub, reduceCtorEq, l32_0, l32_1, l32_2, l32_3, l32_4, l32_5, l32_6, l32_7, l32_8, l32_9, l32_10, l32_11, l32_12, l32_13, l32_14, l32_15, l32_16, l32_17, l32_18, l32_19, l32_20, l32_21, l32_22, l32_23, l32_24, l32_25, l32_26, l32_27, l32_28, l32_29, l32_33, l32_40, l32_41, l32_44, l32_45, l32_59, l32_61, l32_91, l32_93, l32_123, l32_125, rd, p1]
          refine ⟨s3, ⟨?_, fun hb9 r hr => ?_⟩, ?_⟩
          · rw [take_map_s hi, List.map_append]
            exact p2
          · rw [List.take_succ_eq_append_getElem hi] at hr
            rcases List.mem_append.mp hr with hr | hr
            · exact hne hb9 r hr
            · rw [List.mem_singleton.mp hr]
              exact fun z => ce ⟨hb9, z⟩
          · by_cases c9 : b ≤ 9
            · unfold mf_333_238
              simp (disch := omega) only [ev_S, ev_P, ↓reduceIte, Nat.reduceEqDiff, Nat.reduceLeDiff, Nat.reduceAdd, Nat.reduceMul, Nat.reduceSub, reduceCtorEq, l32_0, l32_1, l32_2, l32_3, l32_4, l32_5, l32_6, l32_7, l32_8, l32_9, l32_10, l32_11, l32_12, l32_13, l32_14, l32_15, l32_16, l32_17, l32_18, l32_19, l32_20, l32_21, l32_22, l32_23, l32_24, l32_25, l32_26, l32_27, l32_28, l32_29, l32_33, l32_40, l32_41, l32_44, l32_45, l32_59, l32_61, l32_91, l32_93, l32_123, l32_125, c9, E4]
            · have hq64 := tw.2.2 _ (List.getElem_mem hi)
              have hl : ¬ q[i].length = 0 := fun z => ce ⟨by omega, List.length_eq_zero_iff.mp z⟩
              unfold mf_333_238 mf_333_246 mf_333_252
              simp (disch := omega) only [ev_S, ev_P, ↓reduceIte, Nat.reduceEqDiff, Nat.reduceLeDiff, Nat.reduceAdd, Nat.reduceMul, Nat.reduceSub, reduceCtorEq, l32_0, l32_1, l32_2, l32_3, l32_4, l32_5, l32_6, l32_7, l32_8, l32_9, l32_10, l32_11, l32_12, l32_13, l32_14, l32_15, l32_16, l32_17, l32_18, l32_19, l32_20, l32_21, l32_22, l32_23, l32_24, l32_25, l32_26, l32_27, l32_28, l32_29, l32_33, l32_40, l32_41, l32_44, l32_45, l32_59, l32_61, l32_91, l32_93, l32_123, l32_125, c9, z3, hl, E4]
      · intro F s2 hP
        obtain ⟨G, hne⟩ := hP
        rw [List.take_length] at G hne
        have hno : ¬ (b > 9 ∧ (q.any fun r => r.isEmpty) = true) := fun z => by
          obtain ⟨r, r1, r2⟩ := List.any_eq_true.mp z.2
          exact hne z.1 r r1 (List.isEmpty_iff.mp r2)
        rw [if_neg hno]
        have zz := G.size (N := N) La (by omega)
        rw [esz] at zz
        obtain ⟨s3, b1, b2⟩ := rA.bRow (N := N) hN H G (by rw [List.length_map]; omega) (by rw [List.length_map]; omega)
        refine ⟨s3, ?_, b2⟩
        show mf_333_221 N (mf_333_L4 N F) (Int32.ofNat b) (Int32.ofNat a) (Int32.ofNat n) (Int32.ofNat q.length) s2 = _
        unfold mf_333_221 mf_333_228 mf_333_283 mf_333_289
        simp (disch := omega) only [ev_S, ev_P, ↓reduceIte, Nat.reduceEqDiff, Nat.reduceLeDiff, Nat.reduceAdd, Nat.reduceMul, Nat.reduceSub, reduceCtorEq, l32_0, l32_1, l32_2, l32_3, l32_4, l32_5, l32_6, l32_7, l32_8, l32_9, l32_10, l32_11, l32_12, l32_13, l32_14, l32_15, l32_16, l32_17, l32_18, l32_19, l32_20, l32_21, l32_22, l32_23, l32_24, l32_25, l32_26, l32_27, l32_28, l32_29, l32_33, l32_40, l32_41, l32_44, l32_45, l32_59, l32_61, l32_91, l32_93, l32_123, l32_125, zz, b1]
end DIG
section WBC
variable {N : Nat} {X : Nat → Option zz_C} {t t' : cS} {u u' w i : Nat} {x : Nod} {vx v : Int64} {xs : List Nod}
theorem c_sizeN (hh : cHp t u w) (h : cN (cel t) u v x) : cf_128 N X v t = some (t, .inl (some (.int (Int32.ofNat (szN x))))) := c_size hh h
theorem c_rowT (hh : cHp t u w) (h : cN (cel t) u v x) (h2 : kn x = 2) (hi : i < (tvN x).length) : ∃ v', cf_129 N X v (Int32.ofNat i) t = some (t, .inl (some (.long v'))) ∧ cN (cel t) u v' (nR (tvN x)[i]) := by
  have V := cN_iff.mp h
  rw [kn2' h2] at V
  exact c_partT hh V hi
theorem c_wid (hN : 170000 ≤ N) (hh : cHp t u w) (hx : cN (cel t) u vx x) (wx : wfN x) (hu : u ≤ 162000) (hw : w ≤ 1000) : ∃ t' v, cf_94 N X vx t = some (t', .inl (some (.long v))) ∧ cE t t' u v (if kn x = 2 then ansM 1 (((tvN x).map fun r => Int32.ofNat r.length).map nZ) else .inl 3) := by
  have kx := c_kn (N := N) (X := X) hx
  have lx := kn_le (x := x)
  by_cases c2 : kn x = 2
  · rw [if_pos c2]
    have zx := c_sizeN (N := N) (X := X) hh hx
    rw [kn2_sz c2] at zx
    have tw := tv_wf c2 wx
    have ga := c_gathered (N := N) (X := X) hh
    rw [c2] at kx
    have PT := fun i (hi : i < (tvN x).length) t' u' ys (G : cG t t' u u' w ys) => c_rowT (N := N) (X := X) G.c (G.up hx) c2 hi
    generalize tvN x = q at *
    have E1 : cf_94 N X vx t = cf_94_L2 N X N 0 vx (Int32.ofNat q.length) (Int32.ofNat w) (Int32.ofNat 0) t := by
      repeat ((first | unfold cf_94 | unfold cf_94_0 | unfold cf_94_4 | unfold cf_94_8 | unfold cf_94_12 | unfold cf_94_13 | unfold cf_94_21 | unfold cf_94_29 | unfold cf_94_34 | unfold cf_94_40 | unfold cf_94_59 | unfold cf_94_62 | unfold cf_94_65 | unfold cf_94_68 | unfold cf_94_74 | unfold cf_94_84); try simp (disch := omega) only [ev_S, ev_C, ↓reduceIte, Nat.reduceEqDiff, Nat.reduceLeDiff, Nat.reduceAdd, Nat.reduceMul, Nat.reduceSub, reduceCtorEq, l32_0, l32_1, l32_2, l32_3, l32_4, kx, zx, ga])
    rw [E1]
    refine lp (fun F i (t' : cS) => cf_94_L2 N X F 0 vx (Int32.ofNat q.length) (Int32.ofNat w) (Int32.ofNat i) t') q.length (fun i t' => cG t t' u u w (((q.take i).map fun r => Int32.ofNat r.length).map nZ)) (fun R => ∃ t' v, R = some (t', .inl (some (.long v))) ∧ cE t t' u v (ansM 1 ((q.map fun r => Int32.ofNat r.length).map nZ))) ?_ ?_ q.length 0 N t (Nat.zero_add _) (by omega) (cG.nil hh)
    · intro F i t1 hi G _
      left
      have n1 : ¬ q.length ≤ i := by omega
      have hll : (((q.take i).map fun r => Int32.ofNat r.length).map nZ).length = i := by rw [List.length_map, len_take_map (by omega)]
      obtain ⟨v1, d1, d2⟩ := PT i hi t1 _ _ G
      have z1 := c_sizeN (N := N) (X := X) G.c d2
      have z1 : cf_128 N X v1 t1 = some (t1, .inl (some (.int (Int32.ofNat q[i].length)))) := z1
      obtain ⟨t2, p1, p2⟩ := cG.put (N := N) (X := X) G (by rw [hll]; omega) (cN_Z (z := Int32.ofNat q[i].length))
      have th := c_thing (N := N) (X := X) (t := t1) (k := Int32.ofNat 0) (a := Int32.ofNat q[i].length)
      have p1 : cf_123 N X (tg (Int32.ofNat 0) (Int32.ofNat q[i].length)) t1 = _ := p1
      refine ⟨t2, ?_, ?_⟩
      · rw [take_map_s hi, List.map_append]
        exact p2
      · show cf_94_34 N X (cf_94_L2 N X F) vx (Int32.ofNat q.length) (Int32.ofNat w) (Int32.ofNat i) t1 = _
        unfold cf_94_34 cf_94_40 cf_94_59 cf_94_62 cf_94_65 cf_94_68
        simp (disch := omega) only [ev_S, ev_C, ↓reduceIte, Nat.reduceEqDiff, Nat.reduceLeDiff, Nat.reduceAdd, Nat.reduceMul, Nat.reduceSub, reduceCtorEq, l32_0, l32_1, l32_2, l32_3, l32_4, l32_5, l32_6, l32_7, l32_8, l32_9, l32_10, l32_11, l32_12, l32_13, l32_14, l32_15, l32_16, l32_17, l32_18, l32_19, l32_20, l32_21, l32_22, l32_23, l32_24, l32_25, l32_26, l32_27, l32_28, l32_29, l32_33, l32_40, l32_41, l32_44, l32_45, l32_59, l32_61, l32_91, l32_93, l32_123, l32_125, n1, d1, z1, th, p1]
    · intro F t1 G
      rw [List.take_length] at G
      obtain ⟨t2, v, b1, b2⟩ := cG.bZ (N := N) (X := X) hN G (Or.inl rfl) (by rw [List.length_map]; omega) (by omega) (by omega)
      refine ⟨t2, v, ?_, b2⟩
      show cf_94_34 N X (cf_94_L2 N X F) vx (Int32.ofNat q.length) (Int32.ofNat w) (Int32.ofNat q.length) t1 = _
      unfold cf_94_34 cf_94_74 cf_94_84
      simp (disch := omega) only [ev_S, ev_C, ↓reduceIte, Nat.reduceEqDiff, Nat.reduceLeDiff, Nat.reduceAdd, Nat.reduceMul, Nat.reduceSub, reduceCtorEq, l32_0, l32_1, l32_2, l32_3, l32_4, l32_5, l32_6, l32_7, l32_8, l32_9, l32_10, l32_11, l32_12, l32_13, l32_14, l32_15, l32_16, l32_17, l32_18, l32_19, l32_20, l32_21, l32_22, l32_23, l32_24, l32_25, l32_26, l32_27, l32_28, l32_29, l32_33, l32_40, l32_41, l32_44, l32_45, l32_59, l32_61, l32_91, l32_93, l32_123, l32_125, b1]
  · rw [if_neg c2]
    refine ⟨t, _, ?_, cE.tr hh⟩
    have b1 := c_rf (N := N) (X := X) (t := t) (k := Int32.ofNat 3)
    generalize kn x = kx' at *
    repeat ((first | unfold cf_94 | unfold cf_94_0 | unfold cf_94_4 | unfold cf_94_8 | unfold cf_94_12 | unfold cf_94_13 | unfold cf_94_21 | unfold cf_94_29 | unfold cf_94_34 | unfold cf_94_40 | unfold cf_94_59 | unfold cf_94_62 | unfold cf_94_65 | unfold cf_94_68 | unfold cf_94_74 | unfold cf_94_84); try simp (disch := omega) only [ev_S, ev_C, ↓reduceIte, Nat.reduceEqDiff, Nat.reduceLeDiff, Nat.reduceAdd, Nat.reduceMul, Nat.reduceSub, reduceCtorEq, l32_0, l32_1, l32_2, l32_3, l32_4, kx, c2, b1])
theorem c_bck (hN : 170000 ≤ N) (hh : cHp t u w) (hx : cN (cel t) u vx x) (wx : wfN x) (dx : x.1 ≤ 4) (hu : u ≤ 162000) (hw : w ≤ 1000) : ∃ t' v, cf_102 N X vx t = some (t', .inl (some (.long v))) ∧ cE t t' u v (if kn x = 0 then .inl 3 else ansM (kn x) (pts x).reverse) := by
  have kx := c_kn (N := N) (X := X) hx
  have lx := kn_le (x := x)
  by_cases c0 : kn x = 0
  · rw [if_pos c0]
    refine ⟨t, _, ?_, cE.tr hh⟩
    have b1 := c_rf (N := N) (X := X) (t := t) (k := Int32.ofNat 3)
    rw [c0] at kx
    repeat ((first | unfold cf_102 | unfold cf_102_0 | unfold cf_102_4 | unfold cf_102_7 | unfold cf_102_11 | unfold cf_102_12 | unfold cf_102_19 | unfold cf_102_28 | unfold cf_102_32 | unfold cf_102_37 | unfold cf_102_51 | unfold cf_102_54 | unfold cf_102_60 | unfold cf_102_68 | unfold cf_102_72); try simp (disch := omega) only [ev_S, ev_C, ↓reduceIte, Nat.reduceEqDiff, Nat.reduceLeDiff, Nat.reduceAdd, Nat.reduceMul, Nat.reduceSub, reduceCtorEq, l32_0, l32_1, l32_2, l32_3, l32_4, kx, b1])
  · rw [if_neg c0]
    have zx := c_sizeN (N := N) (X := X) hh hx
    have ga := c_gathered (N := N) (X := X) hh
    have hpl : (pts x).length = szN x := pts_len
    have s64 := wf64 wx
    rw [← hpl] at zx
    have hpre : ∀ i, ((pts x).drop i).reverse.length = (pts x).length - i := fun i => by rw [List.length_reverse, List.length_drop]
    have E1 : cf_102 N X vx t = cf_102_L3 N X N 0 vx (Int32.ofNat w) (Int32.ofNat (pts x).length - Int32.ofNat 1) t := by
      unfold cf_102 cf_102_0 cf_102_4 cf_102_12 cf_102_19 cf_102_28
      generalize kn x = kx' at *
      have q0 : ¬ Int32.ofNat kx' = Int32.ofNat 0 := fun z => c0 (ofNat_inj (by omega) (by omega) z)
      simp only [kx, ev_S, l32_0, q0, ga, zx, l32_1, if_true, if_false]
    rw [E1]
    have all : ∀ i F (t1 : cS), i ≤ (pts x).length → i < F → cG t t1 u u w ((pts x).drop i).reverse → ∃ t' v, cf_102_L3 N X F 0 vx (Int32.ofNat w) (Int32.ofNat i - Int32.ofNat 1) t1 = some (t', .inl (some (.long v))) ∧ cE t t' u v (ansM (kn x) (pts x).reverse) := fun i => by
      induction i with
      | zero =>
        intro F t1 hi hF G
        obtain ⟨F1, rfl⟩ : ∃ F1, F = F1 + 1 := ⟨F - 1, by omega⟩
        rw [List.drop_zero] at G
        have hmem : ∀ y ∈ (pts x).reverse, y ∈ pts x := fun y hy => List.mem_reverse.mp hy
        have kx' := c_kn (N := N) (X := X) (G.up hx)
        obtain ⟨t2, v, b1, b2⟩ := cG.build (N := N) (X := X) (k := kn x) hN G (pts_ok c0 hmem) (fun y hy => wf_pts wx y (hmem y hy)) (fun y hy => Nat.le_trans (pts_lv y (hmem y hy)) dx) (by rw [List.length_reverse]; omega) (by omega) (by omega) (by omega) (by omega)
        refine ⟨t2, v, ?_, b2⟩
        show cf_102_32 N X (cf_102_L3 N X F1) vx (Int32.ofNat w) (-Int32.ofNat 1) t1 = _
        unfold cf_102_32
        rw [if_pos (by decide)]
        generalize kn x = kk at *
        unfold cf_102_60 cf_102_68 cf_102_72
        simp (disch := omega) only [ev_S, ev_C, ↓reduceIte, Nat.reduceEqDiff, Nat.reduceLeDiff, Nat.reduceAdd, Nat.reduceMul, Nat.reduceSub, reduceCtorEq, l32_0, l32_1, l32_2, l32_3, l32_4, l32_5, l32_6, l32_7, l32_8, l32_9, l32_10, l32_11, l32_12, l32_13, l32_14, l32_15, l32_16, l32_17, l32_18, l32_19, l32_20, l32_21, l32_22, l32_23, l32_24, l32_25, l32_26, l32_27, l32_28, l32_29, l32_33, l32_40, l32_41, l32_44, l32_45, l32_59, l32_61, l32_91, l32_93, l32_123, l32_125, kx', b1]
      | succ i ih =>
        intro F t1 hi hF G
        obtain ⟨F1, rfl⟩ : ∃ F1, F = F1 + 1 := ⟨F - 1, by omega⟩
        have e : Int32.ofNat (i + 1) - Int32.ofNat 1 = Int32.ofNat i := by
          rw [Int32.ofNat_add]
          exact Int32.add_sub_cancel _ _
        obtain ⟨v', d1, d2⟩ := c_part (N := N) (X := X) G.c (G.up hx) (i := i) (by omega)
        obtain ⟨t2, p1, p2⟩ := cG.put (N := N) (X := X) G (by rw [hpre]; omega) d2
        have st : cf_102_L3 N X (F1 + 1) 0 vx (Int32.ofNat w) (Int32.ofNat i) t1 = cf_102_L3 N X F1 0 vx (Int32.ofNat w) (Int32.ofNat i - Int32.ofNat 1) t2 := by
          show cf_102_32 N X (cf_102_L3 N X F1) vx (Int32.ofNat w) (Int32.ofNat i) t1 = _
          have e : Int32.ofNat i + (-1) = Int32.ofNat i - Int32.ofNat 1 := (Int32.sub_eq_add_neg _ _).symm
          unfold cf_102_32
          rw [if_neg (i32n (by omega))]
          unfold cf_102_37
          rw [d1]
          show cf_102_51 N X (cf_102_L3 N X F1) vx (Int32.ofNat w) (Int32.ofNat i) v' t1 = _
          unfold cf_102_51 cf_102_54
          rw [p1, e]
          rfl
        rw [e, st]
        refine ih F1 t2 (by omega) (by omega) ?_
        rw [List.drop_eq_getElem_cons (show i < (pts x).length by omega), List.reverse_cons]
        exact p2
    exact all (pts x).length N t (Nat.le_refl _) (by omega) (by rw [List.drop_length]; exact cG.nil hh)
end WBC
end
-- ### 96m.pure.lean.txt
section
/-! ===== PURE: run (40): sum, max, min: the class ===== -/
/-- the word of a built-in, where the class's constants lie -/
abbrev wrdV (b : Nat) : Nat := zz_out + (12 + b)
theorem wrd_ne {a b : Nat} : zz_ac .ne (zz_out + a) (zz_out + b) = !decide (a = b) := by
  show (!decide (zz_out + a = zz_out + b)) = _
  by_cases c : a = b
  · rw [decide_eq_true c, decide_eq_true (by rw [c])]
  · rw [decide_eq_false c, decide_eq_false (fun z => c (Nat.add_left_cancel z))]
section DGC
variable {N : Nat} {X : Nat → Option zz_C} {t t' : cS} {u u' w i b : Nat} {x : Nod} {vx v : Int64} {xs : List Nod} {r : List Int32}
theorem wgd {a c : Nat} (ha : 1 ≤ a ∧ a ≤ 41) (hc : 1 ≤ c ∧ c ≤ 41) : (zz_out < zz_out + a ∧ zz_out + a ≤ zz_out + 41) ∧ zz_out < zz_out + c ∧ zz_out + c ≤ zz_out + 41 := ⟨⟨by omega, by omega⟩, by omega, by omega⟩
theorem c_dgR (hN : 170000 ≤ N) (hb : b = 9 ∨ b = 10 ∨ b = 11) (hh : cHp t u w) (h : cN (cel t) u v (nR r)) (hr : r.length ≤ 64) : cf_96 N X (wrdV b) v t = some (t, .inl (some (.long (if b > 9 ∧ r = [] then rf (Int32.ofNat 5) else tg (Int32.ofNat 0) (dgR b r))))) := by
  have zz := c_sizeN (N := N) (X := X) hh h
  have zz : cf_128 N X v t = some (t, .inl (some (.int (Int32.ofNat r.length)))) := zz
  cases r with
  | nil =>
    have zz : cf_128 N X v t = some (t, .inl (some (.int (Int32.ofNat 0)))) := zz
    have E1 : cf_96 N X (wrdV b) v t = cf_96_15 N X (wrdV b) t := by
      generalize wrdV b = W
      unfold cf_96 cf_96_0 cf_96_8
      simp (disch := omega) only [ev_S, ev_C, ↓reduceIte, Nat.reduceEqDiff, Nat.reduceLeDiff, Nat.reduceAdd, Nat.reduceMul, Nat.reduceSub, reduceCtorEq, l32_0, l32_1, l32_2, l32_3, l32_4, l32_5, l32_6, l32_7, l32_8, l32_9, l32_10, l32_11, l32_12, l32_13, l32_14, l32_15, l32_16, l32_17, l32_18, l32_19, l32_20, l32_21, l32_22, l32_23, l32_24, l32_25, l32_26, l32_27, l32_28, l32_29, l32_33, l32_40, l32_41, l32_44, l32_45, l32_59, l32_61, l32_91, l32_93, l32_123, l32_125, zz]
    rw [E1]
    unfold cf_96_15
    rw [if_pos (wgd (a := 12 + b) (c := 21) (by omega) (by omega)), wrd_ne]
    rcases hb with rfl | rfl | rfl
    · rw [if_neg (show ¬ (9 > 9 ∧ ([] : List Int32) = []) from fun q => absurd q.1 (by decide))]
      rfl
    · rw [if_pos (show 10 > 9 ∧ ([] : List Int32) = [] from ⟨by decide, rfl⟩)]
      rfl
    · rw [if_pos (show 11 > 9 ∧ ([] : List Int32) = [] from ⟨by decide, rfl⟩)]
      rfl
  | cons z r' =>
    have hcv := cN_iff.mp h
    have i0 := c_intAt (N := N) (X := X) (r := z :: r') (i := 0) hh hcv (by show 0 < r'.length + 1; omega)
    have i0 : cf_130 N X v (Int32.ofNat 0) t = some (t, .inl (some (.int z))) := i0
    have hlc : (z :: r').length = r'.length + 1 := rfl
    have hl0 : ¬ (z :: r').length = 0 := by rw [hlc]; omega
    rw [if_neg (fun q => by cases q.2)]
    have ed : dgR b (z :: r') = r'.foldl (dgS b) z := by
      show r'.foldl (dgS b) (dgS b (if b = 9 then 0 else z) z) = _
      congr 1
      rcases hb with rfl | rfl | rfl
      · show (0 : Int32) + z = z
        exact Int32.zero_add z
      · show (if z < z then z else z) = z
        split <;> rfl
      · show (if z < z then z else z) = z
        split <;> rfl
    rw [ed]
    have E1 : cf_96 N X (wrdV b) v t = cf_96_L2 N X N 0 (wrdV b) v (Int32.ofNat (r'.length + 1)) z (Int32.ofNat 1) t := by
      rw [hlc] at zz hl0
      generalize wrdV b = W
      unfold cf_96 cf_96_0 cf_96_8 cf_96_35 cf_96_44
      simp (disch := omega) only [ev_S, ev_C, ↓reduceIte, Nat.reduceEqDiff, Nat.reduceLeDiff, Nat.reduceAdd, Nat.reduceMul, Nat.reduceSub, reduceCtorEq, l32_0, l32_1, l32_2, l32_3, l32_4, l32_5, l32_6, l32_7, l32_8, l32_9, l32_10, l32_11, l32_12, l32_13, l32_14, l32_15, l32_16, l32_17, l32_18, l32_19, l32_20, l32_21, l32_22, l32_23, l32_24, l32_25, l32_26, l32_27, l32_28, l32_29, l32_33, l32_40, l32_41, l32_44, l32_45, l32_59, l32_61, l32_91, l32_93, l32_123, l32_125, zz, hl0, i0]
    rw [E1]
    refine lp (fun F i (c : Int32) => cf_96_L2 N X F 0 (wrdV b) v (Int32.ofNat (r'.length + 1)) c (Int32.ofNat (i + 1)) t) r'.length (fun i c => c = (r'.take i).foldl (dgS b) z) (fun R => R = some (t, .inl (some (.long (tg (Int32.ofNat 0) (r'.foldl (dgS b) z)))))) ?_ ?_ r'.length 0 N z (Nat.zero_add _) (by omega) rfl
    · intro F i c hi hP _
      left
      have n1 : ¬ r'.length + 1 ≤ i + 1 := by omega
      have ii := c_intAt (N := N) (X := X) (r := z :: r') (i := i + 1) hh hcv (by rw [hlc]; omega)
      have ii : cf_130 N X v (Int32.ofNat (i + 1)) t = some (t, .inl (some (.int r'[i]))) := ii
      refine ⟨dgS b c r'[i], by rw [foldl_take hi, hP], ?_⟩
      show cf_96_49 N X (cf_96_L2 N X F) (wrdV b) v (Int32.ofNat (r'.length + 1)) c (Int32.ofNat (i + 1)) t = _
      have E2 : cf_96_49 N X (cf_96_L2 N X F) (wrdV b) v (Int32.ofNat (r'.length + 1)) c (Int32.ofNat (i + 1)) t = cf_96_66 N X (cf_96_L2 N X F) (wrdV b) v (Int32.ofNat (r'.length + 1)) c (Int32.ofNat (i + 1)) r'[i] t := by
        generalize wrdV b = W
        rw [hlc] at hr
        unfold cf_96_49 cf_96_56
        simp (disch := omega) only [ev_S, ev_C, ↓reduceIte, Nat.reduceEqDiff, Nat.reduceLeDiff, Nat.reduceAdd, Nat.reduceMul, Nat.reduceSub, reduceCtorEq, l32_0, l32_1, l32_2, l32_3, l32_4, l32_5, l32_6, l32_7, l32_8, l32_9, l32_10, l32_11, l32_12, l32_13, l32_14, l32_15, l32_16, l32_17, l32_18, l32_19, l32_20, l32_21, l32_22, l32_23, l32_24, l32_25, l32_26, l32_27, l32_28, l32_29, l32_33, l32_40, l32_41, l32_44, l32_45, l32_59, l32_61, l32_91, l32_93, l32_123, l32_125, n1, ii]
      rw [E2]
      have ei : Int32.ofNat (i + 1) + 1 = Int32.ofNat (i + 1 + 1) := i32al
      unfold dgS
      rcases hb with rfl | rfl | rfl
      · rw [if_pos rfl]
        unfold cf_96_66
        rw [if_pos (wgd (a := 12 + 9) (c := 21) (by omega) (by omega)), wrd_ne, if_neg (by decide)]
        unfold cf_96_75 cf_96_107
        rw [ei]
      · rw [if_neg (by omega), if_pos rfl]
        unfold cf_96_66
        rw [if_pos (wgd (a := 12 + 10) (c := 21) (by omega) (by omega)), wrd_ne, if_pos (by decide)]
        unfold cf_96_83
        rw [if_pos (wgd (a := 12 + 10) (c := 22) (by omega) (by omega)), wrd_ne, if_neg (by decide)]
        unfold cf_96_90 cf_96_107
        rw [ei]
      · rw [if_neg (by omega), if_neg (by omega)]
        unfold cf_96_66
        rw [if_pos (wgd (a := 12 + 11) (c := 21) (by omega) (by omega)), wrd_ne, if_pos (by decide)]
        unfold cf_96_83
        rw [if_pos (wgd (a := 12 + 11) (c := 22) (by omega) (by omega)), wrd_ne, if_pos (by decide)]
        unfold cf_96_100 cf_96_107
        rw [ei]
    · intro F c hP
      rw [List.take_length] at hP
      rw [hP]
      have th := c_thing (N := N) (X := X) (t := t) (k := Int32.ofNat 0) (a := r'.foldl (dgS b) z)
      show cf_96_49 N X (cf_96_L2 N X F) (wrdV b) v (Int32.ofNat (r'.length + 1)) _ (Int32.ofNat (r'.length + 1)) t = _
      generalize r'.foldl (dgS b) z = D at *
      rw [hlc] at hr
      unfold cf_96_49 cf_96_115 cf_96_121
      simp (disch := omega) only [ev_S, ev_C, ↓reduceIte, Nat.reduceEqDiff, Nat.reduceLeDiff, Nat.reduceAdd, Nat.reduceMul, Nat.reduceSub, reduceCtorEq, l32_0, l32_1, l32_2, l32_3, l32_4, l32_5, l32_6, l32_7, l32_8, l32_9, l32_10, l32_11, l32_12, l32_13, l32_14, l32_15, l32_16, l32_17, l32_18, l32_19, l32_20, l32_21, l32_22, l32_23, l32_24, l32_25, l32_26, l32_27, l32_28, l32_29, l32_33, l32_40, l32_41, l32_44, l32_45, l32_59, l32_61, l32_91, l32_93, l32_123, l32_125, th]
theorem c_dgs (hN : 170000 ≤ N) (hb : b = 9 ∨ b = 10 ∨ b = 11) (hh : cHp t u w) (hx : cN (cel t) u vx x) (wx : wfN x) (dx : x.1 ≤ 4) (hu : u ≤ 162000) (hw : w ≤ 1000) : ∃ t' v, cf_95 N X (wrdV b) vx t = some (t', .inl (some (.long v))) ∧ cE t t' u v (if kn x = 3 ∨ (kn x = 0 ∧ b > 9) then .inl 3 else ansD b x) := by
  have kx := c_kn (N := N) (X := X) hx
  have lx := kn_le (x := x)
  have b3 := c_rf (N := N) (X := X) (t := t) (k := Int32.ofNat 3)
  by_cases c0 : kn x = 0
  · rw [c0] at kx
    have E1 : cf_95 N X (wrdV b) vx t = cf_95_7 N X (wrdV b) vx t := by
      generalize wrdV b = W
      unfold cf_95 cf_95_0 cf_95_4
      simp (disch := omega) only [ev_S, ev_C, ↓reduceIte, Nat.reduceEqDiff, Nat.reduceLeDiff, Nat.reduceAdd, Nat.reduceMul, Nat.reduceSub, reduceCtorEq, l32_0, l32_1, l32_2, l32_3, l32_4, l32_5, l32_6, l32_7, l32_8, l32_9, l32_10, l32_11, l32_12, l32_13, l32_14, l32_15, l32_16, l32_17, l32_18, l32_19, l32_20, l32_21, l32_22, l32_23, l32_24, l32_25, l32_26, l32_27, l32_28, l32_29, l32_33, l32_40, l32_41, l32_44, l32_45, l32_59, l32_61, l32_91, l32_93, l32_123, l32_125, kx]
    rw [E1]
    unfold cf_95_7
    rw [if_pos (wgd (a := 12 + b) (c := 21) (by omega) (by omega)), wrd_ne]
    by_cases c : b = 9
    · rw [if_neg (show ¬ (kn x = 3 ∨ (kn x = 0 ∧ b > 9)) by omega), if_neg (by rw [decide_eq_true (by omega)]; decide)]
      have e : ansD b x = .inr (nZ (ivN x)) := if_pos c0
      rw [e]
      refine ⟨t, vx, rfl, u, w, hh, hfw.rf, Nat.le_refl _, fun _ _ => rfl, ?_, Nat.le_add_right _ _, trivial, Nat.zero_le _⟩
      rw [hx.z c0]
      exact cN_Z
    · rw [if_pos (show kn x = 3 ∨ (kn x = 0 ∧ b > 9) by omega), if_pos (by rw [decide_eq_false (by omega)]; rfl)]
      refine ⟨t, _, ?_, cE.tr hh⟩
      generalize wrdV b = W
      unfold cf_95_16 cf_95_20 cf_95_31 cf_95_35 cf_95_39 cf_95_43
      simp (disch := omega) only [ev_S, ev_C, ↓reduceIte, Nat.reduceEqDiff, Nat.reduceLeDiff, Nat.reduceAdd, Nat.reduceMul, Nat.reduceSub, reduceCtorEq, l32_0, l32_1, l32_2, l32_3, l32_4, l32_5, l32_6, l32_7, l32_8, l32_9, l32_10, l32_11, l32_12, l32_13, l32_14, l32_15, l32_16, l32_17, l32_18, l32_19, l32_20, l32_21, l32_22, l32_23, l32_24, l32_25, l32_26, l32_27, l32_28, l32_29, l32_33, l32_40, l32_41, l32_44, l32_45, l32_59, l32_61, l32_91, l32_93, l32_123, l32_125, kx, b3]
  · have E1 : cf_95 N X (wrdV b) vx t = cf_95_20 N X (wrdV b) vx (Int32.ofNat (kn x)) t := by
      generalize wrdV b = W
      generalize kn x = kx' at *
      unfold cf_95 cf_95_0 cf_95_4 cf_95_16
      simp (disch := omega) only [ev_S, ev_C, ↓reduceIte, Nat.reduceEqDiff, Nat.reduceLeDiff, Nat.reduceAdd, Nat.reduceMul, Nat.reduceSub, reduceCtorEq, l32_0, l32_1, l32_2, l32_3, l32_4, l32_5, l32_6, l32_7, l32_8, l32_9, l32_10, l32_11, l32_12, l32_13, l32_14, l32_15, l32_16, l32_17, l32_18, l32_19, l32_20, l32_21, l32_22, l32_23, l32_24, l32_25, l32_26, l32_27, l32_28, l32_29, l32_33, l32_40, l32_41, l32_44, l32_45, l32_59, l32_61, l32_91, l32_93, l32_123, l32_125, kx, c0]
    rw [E1]
    by_cases c1 : kn x = 1
    · rw [if_neg (show ¬ (kn x = 3 ∨ (kn x = 0 ∧ b > 9)) by omega), c1]
      have e : ansD b x = if b > 9 ∧ rvN x = [] then .inl 5 else .inr (nZ (dgR b (rvN x))) := by
        unfold ansD
        rw [if_neg c0, if_pos c1]
      rw [e]
      have hr := rv_wf c1 wx
      have hxr : cN (cel t) u vx (nR (rvN x)) := cN_iff.mpr (hx.r c1)
      have d1 := c_dgR (N := N) (X := X) hN hb hh hxr hr
      have E2 : cf_95_20 N X (wrdV b) vx (Int32.ofNat 1) t = some (t, .inl (some (.long (if b > 9 ∧ rvN x = [] then rf (Int32.ofNat 5) else tg (Int32.ofNat 0) (dgR b (rvN x)))))) := by
        generalize wrdV b = W at *
        unfold cf_95_20 cf_95_24 cf_95_30
        simp (disch := omega) only [ev_S, ev_C, ↓reduceIte, Nat.reduceEqDiff, Nat.reduceLeDiff, Nat.reduceAdd, Nat.reduceMul, Nat.reduceSub, reduceCtorEq, l32_0, l32_1, l32_2, l32_3, l32_4, l32_5, l32_6, l32_7, l32_8, l32_9, l32_10, l32_11, l32_12, l32_13, l32_14, l32_15, l32_16, l32_17, l32_18, l32_19, l32_20, l32_21, l32_22, l32_23, l32_24, l32_25, l32_26, l32_27, l32_28, l32_29, l32_33, l32_40, l32_41, l32_44, l32_45, l32_59, l32_61, l32_91, l32_93, l32_123, l32_125, d1]
      rw [E2]
      by_cases c : b > 9 ∧ rvN x = []
      · rw [if_pos c, if_pos c]
        exact ⟨t, _, rfl, cE.tr hh⟩
      · rw [if_neg c, if_neg c]
        exact ⟨t, _, rfl, u, w, hh, hfw.rf, Nat.le_refl _, fun _ _ => rfl, cN_Z, Nat.le_add_right _ _, trivial, Nat.zero_le _⟩
    · by_cases c2 : kn x = 2
      · rw [if_neg (show ¬ (kn x = 3 ∨ (kn x = 0 ∧ b > 9)) by omega), c2]
        have e : ansD b x = if b > 9 ∧ ((tvN x).any fun r => r.isEmpty) = true then .inl 5 else ansM 1 (((tvN x).map (dgR b)).map nZ) := by
          unfold ansD
          rw [if_neg c0, if_neg c1]
        rw [e]
        have zx := c_sizeN (N := N) (X := X) hh hx
        rw [kn2_sz c2] at zx
        have tw := tv_wf c2 wx
        have ga := c_gathered (N := N) (X := X) hh
        rw [c2] at kx
        have PT := fun i (hi : i < (tvN x).length) t' u' ys (G : cG t t' u u' w ys) => c_rowT (N := N) (X := X) G.c (G.up hx) c2 hi
        generalize tvN x = q at *
        have E2 : cf_95_20 N X (wrdV b) vx (Int32.ofNat 2) t = cf_95_L3 N X N 0 (wrdV b) vx (Int32.ofNat q.length) (Int32.ofNat w) (Int32.ofNat 0) t := by
          generalize wrdV b = W
          unfold cf_95_20 cf_95_31 cf_95_35 cf_95_44 cf_95_52 cf_95_61
          simp (disch := omega) only [ev_S, ev_C, ↓reduceIte, Nat.reduceEqDiff, Nat.reduceLeDiff, Nat.reduceAdd, Nat.reduceMul, Nat.reduceSub, reduceCtorEq, l32_0, l32_1, l32_2, l32_3, l32_4, l32_5, l32_6, l32_7, l32_8, l32_9, l32_10, l32_11, l32_12, l32_13, l32_14, l32_15, l32_16, l32_17, l32_18, l32_19, l32_20, l32_21, l32_22, l32_23, l32_24, l32_25, l32_26, l32_27, l32_28, l32_29, l32_33, l32_40, l32_41, l32_44, l32_45, l32_59, l32_61, l32_91, l32_93, l32_123, l32_125, kx, zx, ga]
        rw [E2]
        refine lp (fun F i (t' : cS) => cf_95_L3 N X F 0 (wrdV b) vx (Int32.ofNat q.length) (Int32.ofNat w) (Int32.ofNat i) t') q.length (fun i t' => cG t t' u u w (((q.take i).map (dgR b)).map nZ) ∧ (b > 9 → ∀ r ∈ q.take i, ¬ r = [])) (fun R => ∃ t' v, R = some (t', .inl (some (.long v))) ∧ cE t t' u v (if b > 9 ∧ (q.any fun r => r.isEmpty) = true then .inl 5 else ansM 1 ((q.map (dgR b)).map nZ))) ?_ ?_ q.length 0 N t (Nat.zero_add _) (by omega) ⟨cG.nil hh, fun _ r hr => absurd hr List.not_mem_nil⟩
        · intro F i t1 hi hP _
          obtain ⟨G, hne⟩ := hP
          have n1 : ¬ q.length ≤ i := by omega
          have hll : (((q.take i).map (dgR b)).map nZ).length = i := by rw [List.length_map, len_take_map (by omega)]
          obtain ⟨v1, d1, d2⟩ := PT i hi t1 _ _ G
          have d3 := c_dgR (N := N) (X := X) hN hb G.c d2 (tw.2.2 _ (List.getElem_mem hi))
          by_cases ce : b > 9 ∧ q[i] = []
          · right
            rw [if_pos ce] at d3
            rw [if_pos (show b > 9 ∧ (q.any fun r => r.isEmpty) = true from ⟨ce.1, any_mem hi (by rw [ce.2]; rfl)⟩)]
            refine ⟨t1, _, ?_, cG.tr G (by omega)⟩
            have k4 : cf_255 N X (rf (Int32.ofNat 5)) t1 = some (t1, .inl (some (.int (Int32.ofNat 4)))) := rfl
            show cf_95_66 N X (cf_95_L3 N X F) (wrdV b) vx (Int32.ofNat q.length) (Int32.ofNat w) (Int32.ofNat i) t1 = _
            generalize wrdV b = W at *
            unfold cf_95_66 cf_95_73 cf_95_85 cf_95_88 cf_95_95 cf_95_99
            simp (disch := omega) only [ev_S, ev_C, ↓reduceIte, Nat.reduceEqDiff, Nat.reduceLeDiff, Nat.reduceAdd, Nat.reduceMul, Nat.reduceSub, reduceCtorEq, l32_0, l32_1, l32_2, l32_3, l32_4, l32_5, l32_6, l32_7, l32_8, l32_9, l32_10, l32_11, l32_12, l32_13, l32_14, l32_15, l32_16, l32_17, l32_18, l32_19, l32_20, l32_21, l32_22, l32_23, l32_24, l32_25, l32_26, l32_27, l32_28, l32_29, l32_33, l32_40, l32_41, l32_44, l32_45, l32_59, l32_61, l32_91, l32_93, l32_123, l32_125, n1, d1, d3, k4]
          · left
            rw [if_neg ce] at d3
            obtain ⟨t2, p1, p2⟩ := cG.put (N := N) (X := X) G (by rw [hll]; omega) (cN_Z (z := dgR b q[i]))
            have p1 : cf_123 N X (tg (Int32.ofNat 0) (dgR b q[i])) t1 = _ := p1
            have k0 := c_kindOf (N := N) (X := X) (t := t1) (k := Int32.ofNat 0) (a := dgR b q[i])
            refine ⟨t2, ⟨?_, fun hb9 r hr => ?_⟩, ?_⟩
            · rw [take_map_s hi, List.map_append]
              exact p2
            · rw [List.take_succ_eq_append_getElem hi] at hr
              rcases List.mem_append.mp hr with hr | hr
              · exact hne hb9 r hr
              · rw [List.mem_singleton.mp hr]
                exact fun z => ce ⟨hb9, z⟩
            · show cf_95_66 N X (cf_95_L3 N X F) (wrdV b) vx (Int32.ofNat q.length) (Int32.ofNat w) (Int32.ofNat i) t1 = _
              generalize wrdV b = W at *
              unfold cf_95_66 cf_95_73 cf_95_85 cf_95_88 cf_95_95 cf_95_102 cf_95_111
              simp (disch := omega) only [ev_S, ev_C, ↓reduceIte, Nat.reduceEqDiff, Nat.reduceLeDiff, Nat.reduceAdd, Nat.reduceMul, Nat.reduceSub, reduceCtorEq, l32_0, l32_1, l32_2, l32_3, l32_4, l32_5, l32_6, l32_7, l32_8, l32_9, l32_10, l32_11, l32_12, l32_13, l32_14, l32_15, l32_16, l32_17, l32_18, l32_19, l32_20, l32_21, l32_22, l32_23, l32_24, l32_25, l32_26, l32_27, l32_28, l32_29, l32_33, l32_40, l32_41, l32_44, l32_45, l32_59, l32_61, l32_91, l32_93, l32_123, l32_125, n1, d1, d3, k0, p1]
        · intro F t1 hP
          obtain ⟨G, hne⟩ := hP
          rw [List.take_length] at G hne
          have hno : ¬ (b > 9 ∧ (q.any fun r => r.isEmpty) = true) := fun z => by
            obtain ⟨r, r1, r2⟩ := List.any_eq_true.mp z.2
            exact hne z.1 r r1 (List.isEmpty_iff.mp r2)
          rw [if_neg hno]
          obtain ⟨t2, v, b1, b2⟩ := cG.bZ (N := N) (X := X) hN G (Or.inl rfl) (by rw [List.length_map]; omega) (by omega) (by omega)
          refine ⟨t2, v, ?_, b2⟩
          show cf_95_66 N X (cf_95_L3 N X F) (wrdV b) vx (Int32.ofNat q.length) (Int32.ofNat w) (Int32.ofNat q.length) t1 = _
          generalize wrdV b = W at *
          unfold cf_95_66 cf_95_117 cf_95_127
          simp (disch := omega) only [ev_S, ev_C, ↓reduceIte, Nat.reduceEqDiff, Nat.reduceLeDiff, Nat.reduceAdd, Nat.reduceMul, Nat.reduceSub, reduceCtorEq, l32_0, l32_1, l32_2, l32_3, l32_4, l32_5, l32_6, l32_7, l32_8, l32_9, l32_10, l32_11, l32_12, l32_13, l32_14, l32_15, l32_16, l32_17, l32_18, l32_19, l32_20, l32_21, l32_22, l32_23, l32_24, l32_25, l32_26, l32_27, l32_28, l32_29, l32_33, l32_40, l32_41, l32_44, l32_45, l32_59, l32_61, l32_91, l32_93, l32_123, l32_125, b1]
      · have c3 : kn x = 3 := by omega
        rw [if_pos (Or.inl c3), c3]
        rw [c3] at kx
        refine ⟨t, _, ?_, cE.tr hh⟩
        generalize wrdV b = W
        unfold cf_95_20 cf_95_31 cf_95_35 cf_95_39 cf_95_43
        simp (disch := omega) only [ev_S, ev_C, ↓reduceIte, Nat.reduceEqDiff, Nat.reduceLeDiff, Nat.reduceAdd, Nat.reduceMul, Nat.reduceSub, reduceCtorEq, l32_0, l32_1, l32_2, l32_3, l32_4, l32_5, l32_6, l32_7, l32_8, l32_9, l32_10, l32_11, l32_12, l32_13, l32_14, l32_15, l32_16, l32_17, l32_18, l32_19, l32_20, l32_21, l32_22, l32_23, l32_24, l32_25, l32_26, l32_27, l32_28, l32_29, l32_33, l32_40, l32_41, l32_44, l32_45, l32_59, l32_61, l32_91, l32_93, l32_123, l32_125, kx, b3]
end DGC
end
-- ### 96n.pure.lean.txt
section
/-! ===== PURE: run (41): to put in order ===== -/
def ipos (kf : Int32 → Int32) (m : Int32) (p : List Int32) : Nat → Nat
  | 0 => 0
  | j + 1 => if kf m < kf (p.getD j 0) then ipos kf m p j else j + 1
def ins (kf : Int32 → Int32) (p : List Int32) (m : Int32) : List Int32 := p.take (ipos kf m p p.length) ++ m :: p.drop (ipos kf m p p.length)
def srt (kf : Int32 → Int32) (l : List Int32) : List Int32 := l.foldl (ins kf) []
section SRT
variable {kf : Int32 → Int32} {m : Int32} {p l : List Int32} {G : Nat → Int32} {base j : Nat}
theorem ipos_le : ∀ j, ipos kf m p j ≤ j
  | 0 => Nat.le_refl _
  | j + 1 => by
    show (if kf m < kf (p.getD j 0) then ipos kf m p j else j + 1) ≤ j + 1
    split
    · exact Nat.le_succ_of_le (ipos_le j)
    · exact Nat.le_refl _
theorem ins_len : (ins kf p m).length = p.length + 1 := by
  unfold ins
  rw [List.length_append, List.length_cons, List.length_take, List.length_drop]
  have := ipos_le (kf := kf) (m := m) (p := p) p.length
  omega
theorem srt_len : ∀ l : List Int32, (srt kf l).length = l.length := fun l => by
  have : ∀ (l q : List Int32), (l.foldl (ins kf) q).length = q.length + l.length := fun l => by
    induction l with
    | nil => intro q; rfl
    | cons z l ih =>
      intro q
      show ((l.foldl (ins kf) (ins kf q z))).length = _
      rw [ih, ins_len, List.length_cons]
      omega
  have h := this l []
  rw [List.length_nil, Nat.zero_add] at h
  exact h
theorem srt_s {i : Nat} (hi : i < l.length) : srt kf (l.take (i + 1)) = ins kf (srt kf (l.take i)) l[i] := by
  unfold srt
  rw [foldl_take hi]
theorem ins_mem {z : Int32} (h : z ∈ ins kf p m) : z = m ∨ z ∈ p := by
  unfold ins at h
  rcases List.mem_append.mp h with h | h
  · exact Or.inr (List.mem_of_mem_take h)
  · rcases List.mem_cons.mp h with h | h
    · exact Or.inl h
    · exact Or.inr (List.mem_of_mem_drop h)
theorem srt_mem : ∀ (l : List Int32) {z : Int32}, z ∈ srt kf l → z ∈ l := fun l {z} h => by
  have : ∀ (l q : List Int32), z ∈ l.foldl (ins kf) q → z ∈ q ∨ z ∈ l := fun l => by
    induction l with
    | nil => intro q h; exact Or.inl h
    | cons y l ih =>
      intro q h
      rcases ih (ins kf q y) h with h | h
      · rcases ins_mem h with h | h
        · exact Or.inr (by rw [h]; exact List.mem_cons_self)
        · exact Or.inl h
      · exact Or.inr (List.mem_cons_of_mem _ h)
  rcases this l [] h with h | h
  · cases h
  · exact h
theorem ipos_map {j : Nat} (hj : j ≤ p.length) : ipos id (kf m) (p.map kf) j = ipos kf m p j := by
  induction j with
  | zero => rfl
  | succ j ih =>
    show (if kf m < (p.map kf).getD j 0 then ipos id (kf m) (p.map kf) j else j + 1) = if kf m < kf (p.getD j 0) then ipos kf m p j else j + 1
    rw [ih (by omega), List.getD_eq_getElem?_getD, List.getD_eq_getElem?_getD, List.getElem?_eq_getElem (by rw [List.length_map]; omega), List.getElem?_eq_getElem (by omega)]
    show (if kf m < (p.map kf)[j]'(by rw [List.length_map]; omega) then _ else _) = _
    rw [List.getElem_map]
    rfl
theorem ins_map : (ins kf p m).map kf = ins id (p.map kf) (kf m) := by
  unfold ins
  rw [List.length_map, ipos_map (Nat.le_refl _), List.map_append, List.map_cons, List.map_take, List.map_drop]
theorem srt_map : ∀ l : List Int32, (srt kf l).map kf = srt id (l.map kf) := fun l => by
  have : ∀ (l q : List Int32), (l.foldl (ins kf) q).map kf = (l.map kf).foldl (ins id) (q.map kf) := fun l => by
    induction l with
    | nil => intro q; rfl
    | cons y l ih =>
      intro q
      show ((l.foldl (ins kf) (ins kf q y))).map kf = (l.map kf).foldl (ins id) (ins id (q.map kf) (kf y))
      rw [ih, ins_map]
  exact this l []
/-- p lies from base on, but for a gap at j -/
def invA (G : Nat → Int32) (base : Nat) (p : List Int32) (j : Nat) : Prop := (∀ i (hi : i < p.length), i < j → G (base + i) = p[i]) ∧ ∀ i (hi : i < p.length), j ≤ i → G (base + i + 1) = p[i]
theorem invA.step (h : invA G base p (j + 1)) (hj : j < p.length) : invA (upd G (base + (j + 1)) (G (base + j))) base p j := by
  refine ⟨fun i hi h1 => ?_, fun i hi h1 => ?_⟩
  · show (if base + i = base + (j + 1) then _ else G (base + i)) = _
    rw [if_neg (by omega)]
    exact h.1 i hi (by omega)
  · show (if base + i + 1 = base + (j + 1) then G (base + j) else G (base + i + 1)) = _
    by_cases c : i = j
    · subst c
      rw [if_pos (by omega)]
      exact h.1 i hi (by omega)
    · rw [if_neg (by omega)]
      exact h.2 i hi (by omega)
theorem invA.fin (h : invA G base p j) (hj : j ≤ p.length) : ∀ i (hi : i < (p.take j ++ m :: p.drop j).length), upd G (base + j) m (base + i) = (p.take j ++ m :: p.drop j)[i] := fun i hi => by
  have hl : (p.take j).length = j := by rw [List.length_take]; omega
  rw [List.length_append, List.length_cons, hl, List.length_drop] at hi
  show (if base + i = base + j then m else G (base + i)) = _
  by_cases c : i < j
  · rw [if_neg (by omega), List.getElem_append_left (by omega), List.getElem_take]
    exact h.1 i (by omega) c
  · rw [List.getElem_append_right (by omega)]
    by_cases d : i = j
    · rw [if_pos (by omega)]
      simp only [hl, d, Nat.sub_self, List.getElem_cons_zero]
    · rw [if_neg (by omega)]
      obtain ⟨i', rfl⟩ : ∃ i', i = i' + 1 := ⟨i - 1, by omega⟩
      have h2 := h.2 i' (by omega) (by omega)
      rw [show base + (i' + 1) = base + i' + 1 by omega, h2]
      have e : i' + 1 - (p.take j).length = (i' - j) + 1 := by rw [hl]; omega
      simp only [e, List.getElem_cons_succ, List.getElem_drop]
      congr 1
      omega
theorem scn_s {r : List Int32} {i : Nat} (hi : i < r.length) : (r.take (i + 1)).foldl (· + ·) (0 : Int32) = (r.take i).foldl (· + ·) 0 + r[i] := foldl_take hi
/-- running sums -/
def scn (r : List Int32) : List Int32 := (List.range r.length).map fun i => (r.take (i + 1)).foldl (· + ·) 0
/-- the places of a ROW, in the order of what stands there -/
def grd (r : List Int32) : List Int32 := srt (fun z => r.getD z.toNatClampNeg 0) ((List.range r.length).map Int32.ofNat)
theorem grd_map {r : List Int32} (hr : r.length ≤ 64) : (grd r).map (fun z => r.getD z.toNatClampNeg 0) = srt id r := by
  unfold grd
  rw [srt_map, List.map_map]
  congr 1
  conv => rhs; rw [← List.map_id r, ← range_getD (d := 0) (h := id)]
  apply List.map_congr_left
  intro i hi
  have hi := List.mem_range.mp hi
  show r.getD (Int32.ofNat i).toNatClampNeg 0 = r.getD i 0
  rw [ev_S.1 (by omega)]
def wrk (b : Nat) (r : List Int32) : List Int32 := if b = 12 then scn r else if b = 13 then srt id r else grd r
theorem wrk_len {b : Nat} {r : List Int32} : (wrk b r).length = r.length := by
  unfold wrk
  split
  · unfold scn
    rw [List.length_map, List.length_range]
  · split
    · exact srt_len r
    · unfold grd
      rw [srt_len, List.length_map, List.length_range]
def ansK (b : Nat) (x : Nod) : Ans := if kn x = 1 then ansM 1 ((wrk b (rvN x)).map nZ) else ansM 2 (((tvN x).map (wrk b)).map nR)
end SRT
end
-- ### 96o.pure.lean.txt
section
/-! ===== PURE: run (42): scan, sort, grade: the reference ===== -/
/-- the stack's numbers from base on were put in another order -/
def srtF (s s' : mS) (base : Nat) : Prop := s'.1 = s.1 ∧ s'.2.1 = s.2.1 ∧ (∀ q, ¬ q = 50 → s'.2.2.1 q = s.2.2.1 q) ∧ s'.2.2.2 = s.2.2.2 ∧ ∀ y, y < base → s'.2.2.1 50 y = s.2.2.1 50 y
section SRR
variable {N b a base n f f' : Nat} {s s' : mS} {l r zs zs' : List Int32} {xs : List Nod} {kf : Int32 → Int32}
theorem srtF.rf : srtF s s base := ⟨rfl, rfl, fun _ _ => rfl, rfl, fun _ _ => rfl⟩
theorem srtF.tr {s2 : mS} (h : srtF s s' base) (g : srtF s' s2 base) : srtF s s2 base := ⟨g.1.trans h.1, g.2.1.trans h.2.1, fun q hq => (g.2.2.1 q hq).trans (h.2.2.1 q hq), g.2.2.2.1.trans h.2.2.2.1, fun y hy => (g.2.2.2.2 y hy).trans (h.2.2.2.2 y hy)⟩
theorem srtF.up {k : Nat} {v : Int32} (hk : base ≤ k) : srtF s (mA s 50 (upd (s.2.2.1 50) k v)) base := ⟨rfl, rfl, fun q hq => if_neg hq, rfl, fun y hy => if_neg (by omega)⟩
theorem rG.re (G : rG s s' n f f' (xs ++ zs.map nZ)) {s2 : mS} (h : srtF s' s2 (n + xs.length)) (hl : zs'.length = zs.length) (hv : ∀ i (hi : i < zs'.length), s2.2.2.1 50 (n + xs.length + i) = zs'[i]) : rG s s2 n f f' (xs ++ zs'.map nZ) := by
  obtain ⟨⟨g1, g2, g3⟩, g4, ⟨g5, g6, g7⟩, g8, g9, g10⟩ := G
  obtain ⟨h1, h2, h3, h4, h5⟩ := h
  have hll : (xs ++ zs'.map nZ).length = (xs ++ zs.map nZ).length := by rw [List.length_append, List.length_append, List.length_map, List.length_map, hl]
  refine ⟨⟨by rw [h1, hll]; exact g1, by rw [h1]; exact g2, g3⟩, fun i hi => ?_, ⟨⟨fun q hq => by rw [h1]; exact g5.1 q hq, fun q hq => by rw [h2]; exact g5.2.1 q hq, fun q hq => by rw [h3 q (fun z => hq (by unfold vfA; omega))]; exact g5.2.2.1 q hq, fun q hq => by rw [h4]; exact g5.2.2.2 q hq⟩, fun y hy => ⟨by rw [h3 49 (by omega)]; exact (g6 y hy).1, by rw [h5 y (by omega)]; exact (g6 y hy).2⟩, fun y hy => by rw [h3 47 (by omega)]; exact g7 y hy⟩, by rw [h1]; exact g8, by rw [h1]; exact g9, by rw [h1]; exact g10⟩
  have gi := g4 i (by rw [← hll]; exact hi)
  rw [h3 47 (by omega), h3 49 (by omega)]
  by_cases c : i < xs.length
  · rw [List.getElem_append_left c] at gi ⊢
    rw [h5 _ (by omega)]
    exact gi
  · rw [List.getElem_append_right (by omega)] at gi ⊢
    rw [List.length_append, List.length_map] at hi
    rw [List.getElem_map] at gi ⊢
    have hz := rvl.z gi
    rw [hz.1]
    have e := hv (i - xs.length) (by omega)
    rw [show n + xs.length + (i - xs.length) = n + i by omega] at e
    rw [e]
    exact rvl_Z
/-- insertion, number by number -/
theorem r_srt (hN : 170000 ≤ N) (hb : b = 13 ∨ b = 14) (hl : l.length ≤ 64) (hbase : base + 70 < 9000) (h51 : s.1 51 = Int32.ofNat (base + l.length)) (hv : ∀ i (hi : i < l.length), s.2.2.1 50 (base + i) = l[i]) (hkey : ∀ (s2 : mS) (rc : Nat → Int32 → Int32 → Int32 → Int32 → Int32 → Int32 → Int32 → mS → mO) (x5 : Int32) (z : Int32), srtF s s2 base → z ∈ l → (if ¬ Int32.ofNat b = 13 then mf_332_117 N rc (Int32.ofNat b) (Int32.ofNat a) (Int32.ofNat base) x5 z s2 else mf_332_112 N rc (Int32.ofNat b) (Int32.ofNat a) (Int32.ofNat base) x5 z s2) = mf_332_128 N rc (Int32.ofNat b) (Int32.ofNat a) (Int32.ofNat base) x5 z (kf z) s2) (hkey2 : ∀ (s2 : mS) (rc : Nat → Int32 → Int32 → Int32 → Int32 → Int32 → Int32 → Int32 → mS → mO) (x5 x6 x7 : Int32) (j : Nat) (z : Int32), srtF s s2 base → z ∈ l → base + j < 9000 → s2.2.2.1 50 (base + j) = z → mf_332_140 N rc (Int32.ofNat b) (Int32.ofNat a) (Int32.ofNat base) x5 x6 x7 (Int32.ofNat (base + (j + 1))) s2 = mf_332_176 N rc (Int32.ofNat b) (Int32.ofNat a) (Int32.ofNat base) x5 x6 x7 (Int32.ofNat (base + (j + 1))) (kf z) s2) : ∃ s', mf_332_83 N (Int32.ofNat b) (Int32.ofNat a) (Int32.ofNat base) s = some (s', none) ∧ srtF s s' base ∧ ∀ i (hi : i < (srt kf l).length), s'.2.2.1 50 (base + i) = (srt kf l)[i] := by
  have E0 : mf_332_83 N (Int32.ofNat b) (Int32.ofNat a) (Int32.ofNat base) s = mf_332_L1 N N 0 (Int32.ofNat b) (Int32.ofNat a) (Int32.ofNat base) (Int32.ofNat (base + 1)) (Int32.ofNat 0) (Int32.ofNat 0) (Int32.ofNat 0) s := by
    unfold mf_332_83
    rw [show Int32.ofNat base + 1 = Int32.ofNat (base + 1) from i32al]
    rfl
  rw [E0]
  by_cases hl0 : l.length = 0
  · refine ⟨s, ?_, srtF.rf, fun i hi => by rw [srt_len] at hi; omega⟩
    obtain ⟨N1, hN1⟩ : ∃ N1, N = N1 + 1 := ⟨N - 1, by omega⟩
    rw [hl0] at h51
    have : ∀ q, mf_332_L1 N (q + 1) 0 (Int32.ofNat b) (Int32.ofNat a) (Int32.ofNat base) (Int32.ofNat (base + 1)) (Int32.ofNat 0) (Int32.ofNat 0) (Int32.ofNat 0) s = some (s, none) := fun q => by
      show mf_332_88 N (mf_332_L1 N q) (Int32.ofNat b) (Int32.ofNat a) (Int32.ofNat base) (Int32.ofNat (base + 1)) s = _
      have c : base + 0 ≤ base + 1 := by omega
      unfold mf_332_88 mf_332_218
      simp (disch := omega) only [ev_S, ev_P, ↓reduceIte, Nat.reduceEqDiff, Nat.reduceLeDiff, Nat.reduceAdd, Nat.reduceMul, Nat.reduceSub, reduceCtorEq, l32_0, l32_1, l32_2, l32_3, l32_4, l32_5, l32_6, l32_7, l32_8, l32_9, l32_10, l32_11, l32_12, l32_13, l32_14, l32_15, l32_16, l32_17, l32_18, l32_19, l32_20, l32_21, l32_22, l32_23, l32_24, l32_25, l32_26, l32_27, l32_28, l32_29, l32_33, l32_40, l32_41, l32_44, l32_45, l32_59, l32_61, l32_91, l32_93, l32_123, l32_125, h51, c]
    have := this N1
    rw [← hN1] at this
    exact this
  · refine lpo (fun F i (s' : mS) => mf_332_L1 N F 0 (Int32.ofNat b) (Int32.ofNat a) (Int32.ofNat base) (Int32.ofNat (base + (i + 1))) (Int32.ofNat 0) (Int32.ofNat 0) (Int32.ofNat 0) s') (l.length - 1) 70 (fun i s' => srtF s s' base ∧ (∀ j (hj : j < (srt kf (l.take (i + 1))).length), s'.2.2.1 50 (base + j) = (srt kf (l.take (i + 1)))[j]) ∧ ∀ j (hj : j < l.length), i + 1 ≤ j → s'.2.2.1 50 (base + j) = l[j]) (fun R => ∃ s', R = some (s', none) ∧ srtF s s' base ∧ ∀ i (hi : i < (srt kf l).length), s'.2.2.1 50 (base + i) = (srt kf l)[i]) ?_ ?_ (l.length - 1) 0 N s (Nat.zero_add _) (by omega) ⟨srtF.rf, fun j hj => ?_, fun j hj _ => hv j hj⟩
    · intro F i s1 hi hP
      left
      obtain ⟨P1, P2, P3⟩ := hP
      have hi1 : i + 1 < l.length := by omega
      have hpl : (srt kf (l.take (i + 1))).length = i + 1 := by rw [srt_len, List.length_take]; omega
      have h51' : s1.1 51 = Int32.ofNat (base + l.length) := by rw [P1.1]; exact h51
      have hm := P3 (i + 1) hi1 (Nat.le_refl _)
      have n1 : ¬ base + l.length ≤ base + (i + 1) := by omega
      have hpm : ∀ z ∈ srt kf (l.take (i + 1)), z ∈ l := fun z hz => List.mem_of_mem_take (srt_mem _ hz)
      have hss := srt_s (kf := kf) (l := l) hi1
      generalize hp : srt kf (l.take (i + 1)) = p at *
      -- to the inner head
      have E1 : mf_332_L1 N (F + 70) 0 (Int32.ofNat b) (Int32.ofNat a) (Int32.ofNat base) (Int32.ofNat (base + (i + 1))) (Int32.ofNat 0) (Int32.ofNat 0) (Int32.ofNat 0) s1 = mf_332_L1 N (F + 69) 1 (Int32.ofNat b) (Int32.ofNat a) (Int32.ofNat base) (Int32.ofNat (base + (i + 1))) l[i + 1] (kf l[i + 1]) (Int32.ofNat (base + p.length)) s1 := by
        show mf_332_88 N (mf_332_L1 N (F + 69)) (Int32.ofNat b) (Int32.ofNat a) (Int32.ofNat base) (Int32.ofNat (base + (i + 1))) s1 = _
        have k1 := hkey s1 (mf_332_L1 N (F + 69)) (Int32.ofNat (base + (i + 1))) l[i + 1] P1 (List.getElem_mem hi1)
        unfold mf_332_88
        rw [h51', if_neg (fun q => n1 ((i32le (by omega) (by omega)).mp q))]
        unfold mf_332_97
        rw [if_pos (gd (m := base + (i + 1)) rfl (by omega) (by omega)), ev_S.1 (by omega), hm, k1, hpl]
        rfl
      -- the inner rounds
      have inner : ∀ j F (s2 : mS), j ≤ p.length → j < F → srtF s s2 base → invA (s2.2.2.1 50) base p j → ipos kf l[i + 1] p p.length = ipos kf l[i + 1] p j → (∀ y, base + (i + 1) < y → s2.2.2.1 50 y = s1.2.2.1 50 y) → ∃ s3 F', F ≤ F' + j + 1 ∧ mf_332_L1 N F 1 (Int32.ofNat b) (Int32.ofNat a) (Int32.ofNat base) (Int32.ofNat (base + (i + 1))) l[i + 1] (kf l[i + 1]) (Int32.ofNat (base + j)) s2 = mf_332_L1 N F' 0 (Int32.ofNat b) (Int32.ofNat a) (Int32.ofNat base) (Int32.ofNat (base + (i + 1 + 1))) (Int32.ofNat 0) (Int32.ofNat 0) (Int32.ofNat 0) s3 ∧ srtF s s3 base ∧ (∀ q (hq : q < (ins kf p l[i + 1]).length), s3.2.2.1 50 (base + q) = (ins kf p l[i + 1])[q]) ∧ ∀ y, base + (i + 1) < y → s3.2.2.1 50 y = s1.2.2.1 50 y := fun j => by
        have FIN : ∀ j F (s2 : mS), j ≤ p.length → srtF s s2 base → invA (s2.2.2.1 50) base p j → ipos kf l[i + 1] p p.length = j → (∀ y, base + (i + 1) < y → s2.2.2.1 50 y = s1.2.2.1 50 y) → ∃ s3, mf_332_203 N (mf_332_L1 N F) (Int32.ofNat b) (Int32.ofNat a) (Int32.ofNat base) (Int32.ofNat (base + (i + 1))) l[i + 1] (Int32.ofNat (base + j)) s2 = mf_332_L1 N F 0 (Int32.ofNat b) (Int32.ofNat a) (Int32.ofNat base) (Int32.ofNat (base + (i + 1 + 1))) (Int32.ofNat 0) (Int32.ofNat 0) (Int32.ofNat 0) s3 ∧ srtF s s3 base ∧ (∀ q (hq : q < (ins kf p l[i + 1]).length), s3.2.2.1 50 (base + q) = (ins kf p l[i + 1])[q]) ∧ ∀ y, base + (i + 1) < y → s3.2.2.1 50 y = s1.2.2.1 50 y := fun j F s2 hj S2 I2 hpos hrest => by
          refine ⟨mA s2 50 (upd (s2.2.2.1 50) (base + j) l[i + 1]), ?_, S2.tr (srtF.up (by omega)), fun q hq => ?_, fun y hy => ?_⟩
          · unfold mf_332_203
            rw [if_pos (gd (m := base + j) rfl (by omega) (by omega)), ev_S.1 (by omega), show Int32.ofNat (base + (i + 1)) + 1 = Int32.ofNat (base + (i + 1 + 1)) from i32al]
            rfl
          · have e := I2.fin (m := l[i + 1]) hj
            unfold ins at hq ⊢
            simp only [hpos] at hq ⊢
            exact e q hq
          · show (if y = base + j then _ else s2.2.2.1 50 y) = _
            rw [if_neg (by omega)]
            exact hrest y hy
        induction j with
        | zero =>
          intro F s2 hj hF S2 I2 hpos hrest
          obtain ⟨F1, rfl⟩ : ∃ F1, F = F1 + 1 := ⟨F - 1, by omega⟩
          obtain ⟨s3, e1, e2, e3, e4⟩ := FIN 0 F1 s2 hj S2 I2 hpos hrest
          refine ⟨s3, F1, by omega, ?_, e2, e3, e4⟩
          show mf_332_134 N (mf_332_L1 N F1) (Int32.ofNat b) (Int32.ofNat a) (Int32.ofNat base) (Int32.ofNat (base + (i + 1))) l[i + 1] (kf l[i + 1]) (Int32.ofNat (base + 0)) s2 = _
          unfold mf_332_134
          rw [if_pos ((i32le (by omega) (by omega)).mpr (by omega)), e1]
        | succ j ih =>
          intro F s2 hj hF S2 I2 hpos hrest
          obtain ⟨F1, rfl⟩ : ∃ F1, F = F1 + 1 := ⟨F - 1, by omega⟩
          have hjp : j < p.length := by omega
          have hcell := I2.1 j hjp (by omega)
          have hgd : p.getD j 0 = p[j] := by
            rw [List.getD_eq_getElem?_getD, List.getElem?_eq_getElem hjp]
            rfl
          have k2 := hkey2 s2 (mf_332_L1 N F1) (Int32.ofNat (base + (i + 1))) l[i + 1] (kf l[i + 1]) j p[j] S2 (hpm _ (List.getElem_mem hjp)) (by omega) hcell
          have E2 : mf_332_L1 N (F1 + 1) 1 (Int32.ofNat b) (Int32.ofNat a) (Int32.ofNat base) (Int32.ofNat (base + (i + 1))) l[i + 1] (kf l[i + 1]) (Int32.ofNat (base + (j + 1))) s2 = mf_332_176 N (mf_332_L1 N F1) (Int32.ofNat b) (Int32.ofNat a) (Int32.ofNat base) (Int32.ofNat (base + (i + 1))) l[i + 1] (kf l[i + 1]) (Int32.ofNat (base + (j + 1))) (kf p[j]) s2 := by
            show mf_332_134 N (mf_332_L1 N F1) (Int32.ofNat b) (Int32.ofNat a) (Int32.ofNat base) (Int32.ofNat (base + (i + 1))) l[i + 1] (kf l[i + 1]) (Int32.ofNat (base + (j + 1))) s2 = _
            unfold mf_332_134
            rw [if_neg (fun q => absurd ((i32le (by omega) (by omega)).mp q) (by omega)), k2]
          have hip : ipos kf l[i + 1] p (j + 1) = if kf l[i + 1] < kf p[j] then ipos kf l[i + 1] p j else j + 1 := by
            show (if kf l[i + 1] < kf (p.getD j 0) then ipos kf l[i + 1] p j else j + 1) = _
            rw [hgd]
          rw [E2]
          unfold mf_332_176
          by_cases c : kf l[i + 1] < kf p[j]
          · rw [if_neg (Int32.not_le.mpr c)]
            rw [if_pos c] at hip
            obtain ⟨s3, F', e1, e2, e3, e4, e5⟩ := ih F1 (mA s2 50 (upd (s2.2.2.1 50) (base + (j + 1)) (s2.2.2.1 50 (base + j)))) (by omega) (by omega) (S2.tr (srtF.up (by omega))) (I2.step hjp) (by rw [hpos, hip]) (fun y hy => by
              show (if y = base + (j + 1) then _ else s2.2.2.1 50 y) = _
              rw [if_neg (by omega)]
              exact hrest y hy)
            refine ⟨s3, F', by omega, ?_, e3, e4, e5⟩
            rw [← e2]
            unfold mf_332_181
            have es : Int32.ofNat (base + (j + 1)) - 1 = Int32.ofNat (base + j) := by
              rw [show base + (j + 1) = base + j + 1 by omega, Int32.ofNat_add]
              exact Int32.add_sub_cancel _ _
            have ea : Int32.ofNat (base + (j + 1)) + (-1) = Int32.ofNat (base + j) := by
              rw [← es]
              exact (Int32.sub_eq_add_neg _ _).symm
            rw [es, if_pos (gd (m := base + j) rfl (by omega) (by omega)), if_pos (gd (m := base + (j + 1)) rfl (by omega) (by omega)), ea, ev_S.1 (by omega), ev_S.1 (by omega)]
          · rw [if_pos (Int32.not_lt.mp c)]
            rw [if_neg c] at hip
            obtain ⟨s3, e1, e2, e3, e4⟩ := FIN (j + 1) F1 s2 hj S2 I2 (by rw [hpos, hip]) hrest
            exact ⟨s3, F1, by omega, e1, e2, e3, e4⟩
      obtain ⟨s3, F', e1, e2, e3, e4, e5⟩ := inner p.length (F + 69) s1 (Nat.le_refl _) (by omega) P1 ⟨fun q hq _ => P2 q hq, fun q hq h => by omega⟩ rfl (fun y _ => rfl)
      refine ⟨s3, F', ⟨e3, ?_, fun j hj h => ?_⟩, by omega, ?_⟩
      · rw [hss]
        exact e4
      · rw [e5 _ (by omega)]
        exact P3 j hj (by omega)
      · rw [E1, e2]
    · intro F s1 hP
      obtain ⟨P1, P2, P3⟩ := hP
      have e : l.take (l.length - 1 + 1) = l := by rw [show l.length - 1 + 1 = l.length by omega, List.take_length]
      rw [e] at P2
      refine ⟨s1, ?_, P1, P2⟩
      have h51' : s1.1 51 = Int32.ofNat (base + l.length) := by rw [P1.1]; exact h51
      show mf_332_88 N (mf_332_L1 N F) (Int32.ofNat b) (Int32.ofNat a) (Int32.ofNat base) (Int32.ofNat (base + (l.length - 1 + 1))) s1 = _
      have c : base + l.length ≤ base + (l.length - 1 + 1) := by omega
      unfold mf_332_88 mf_332_218
      simp (disch := omega) only [ev_S, ev_P, ↓reduceIte, Nat.reduceEqDiff, Nat.reduceLeDiff, Nat.reduceAdd, Nat.reduceMul, Nat.reduceSub, reduceCtorEq, l32_0, l32_1, l32_2, l32_3, l32_4, l32_5, l32_6, l32_7, l32_8, l32_9, l32_10, l32_11, l32_12, l32_13, l32_14, l32_15, l32_16, l32_17, l32_18, l32_19, l32_20, l32_21, l32_22, l32_23, l32_24, l32_25, l32_26, l32_27, l32_28, l32_29, l32_33, l32_40, l32_41, l32_44, l32_45, l32_59, l32_61, l32_91, l32_93, l32_123, l32_125, h51', c]
    · have e : srt kf (l.take (0 + 1)) = [l[0]'(by omega)] := by
        rw [srt_s (show 0 < l.length by omega), List.take_zero]
        rfl
      rw [e] at hj
      have hj0 : j = 0 := by
        rw [List.length_singleton] at hj
        omega
      subst hj0
      simp only [e, List.getElem_cons_zero]
      exact hv 0 (by omega)
end SRR
end
