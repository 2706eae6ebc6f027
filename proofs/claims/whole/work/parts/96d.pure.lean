/-! ===== PURE: run (31): a THING read while another is gathered; one ===== -/
def tvV : Vw → List (List Int32)
  | .inr (.inr (.inl q)) => q
  | _ => []
abbrev tvN (x : Nod) : List (List Int32) := tvV (vw x)
theorem kn2' {x : Nod} (h : kn x = 2) : vw x = vT (tvN x) := by
  obtain ⟨q, e⟩ := kn2 h
  show vw x = vT (tvV (vw x))
  rw [e]
  rfl
theorem kn2_sz {x : Nod} (h : kn x = 2) : szN x = (tvN x).length := by
  show szV (vw x) = _
  rw [kn2' h]
  show _ = (tvV (vw x)).length
  rw [kn2' h]
  rfl
theorem tv_wf {x : Nod} (h : kn x = 2) (w : wfN x) : (tvN x).length ≤ 20 ∧ ((tvN x).map List.length).sum ≤ 200 ∧ ∀ r ∈ tvN x, r.length ≤ 64 := by
  have wv := vw_wf x w
  rw [kn2' h] at wv
  exact wv
theorem rv_wf {x : Nod} (h : kn x = 1) (w : wfN x) : (rvN x).length ≤ 64 := by
  have wv := vw_wf x w
  rw [kn1 h] at wv
  exact wv
section RDG
variable {N : Nat} {s s' : mS} {n f f' m a i : Nat} {x : Nod} {xs ys : List Nod}
theorem rG.lay (G : rG s s' n f f' xs) (h : LayN (s.2.2.1 47) (Rf f) a x) : LayN (s'.2.2.1 47) (Rf f) a x := LayN.congr (fun _ z => z) (fun y z => G.2.2.1.2.2 y z.1) h
theorem rG.size (G : rG s s' n f f' xs) (h : LayN (s.2.2.1 47) (Rf f) a x) (hf : f ≤ 166300) : mf_77 N (Int32.ofNat a) s' = some (s', some (.int (Int32.ofNat (szN x)))) := r_size (N := N) (s := s') (LayN_iff.mp (G.lay h)).2 (Nat.le_trans (LayN.lt h).1 hf)
theorem rG.partT (G : rG s s' n f f' xs) (h : LayN (s.2.2.1 47) (Rf f) a x) (hf : f ≤ 166300) (h2 : kn x = 2) (hi : i < (tvN x).length) : ∃ c, mf_294 N (Int32.ofNat a) (Int32.ofNat i) s' = some (s', some (.int (Int32.ofNat c))) ∧ LayN (s.2.2.1 47) (Rf f) c (nR (tvN x)[i]) := by
  have L := LayN_iff.mp (G.lay h)
  have hlt := (LayN.lt h).1
  rw [kn2' h2] at L hlt
  obtain ⟨c, c1, c2⟩ := r_partT (N := N) L.2 (Nat.le_trans hlt hf) hi
  exact ⟨c, c1, LayN.congr (fun _ z => z) (fun y hy => (G.2.2.1.2.2 y hy.1).symm) c2⟩
theorem rG.cell (G : rG s s' n f f' xs) {r : List Int32} (h : LayN (s.2.2.1 47) (Rf f) a (nR r)) (hi : i < r.length) : s'.2.2.1 47 (a + 2 + i) = r[i] := ((LayN_iff.mp (G.lay h)).2).2.2 i hi
theorem rowlt {h : Nat → Int32} {r : List Int32} (H : LayN h (Rf f) a (nR r)) : a + 2 + r.length ≤ f := by
  have hlt := (LayN.lt H).1
  rw [show wV wn (vw (nR r)) = 2 + r.length from rfl] at hlt
  omega
theorem lay1 {h : Nat → Int32} (H : LayN h (Rf f) a x) (h1 : kn x = 1) : LayN h (Rf f) a (nR (rvN x)) := LayN_vw (kn1 h1).symm H
theorem rvl.th {h : Nat → Int32} {k v : Int32} (H : rvl h f k v x) (h0 : ¬ kn x = 0) : k = Int32.ofNat 1 ∧ ∃ a : Nat, v = Int32.ofNat a ∧ LayN h (Rf f) a x := by
  rcases rvl.kz H with ⟨-, z⟩ | ⟨k1, -, k3⟩
  · exact absurd z h0
  · exact ⟨k1, k3⟩
theorem rvl.iv {h : Nat → Int32} {k v : Int32} (H : rvl h f k v x) (h0 : kn x = 0) : k = Int32.ofNat 0 ∧ v = ivN x := by
  rcases H with ⟨h1, q⟩ | ⟨-, q, -⟩
  · rw [kn0 h0] at q
    exact ⟨h1, (Option.some.inj q).symm⟩
  · rw [kn0 h0] at q
    cases q
theorem take_map_s {α β : Type} {r : List α} {g : α → β} (hi : i < r.length) : (r.take (i + 1)).map g = (r.take i).map g ++ [g r[i]] := by
  rw [List.take_succ_eq_append_getElem hi, List.map_append, List.map_cons, List.map_nil]
theorem len_take_map {α β : Type} {r : List α} {g : α → β} (hi : i ≤ r.length) : ((r.take i).map g).length = i := by
  rw [List.length_map, List.length_take]
  omega
/-- by how much free grows, row by row -/
theorem grT2 (q : List (List Int32)) : grw 2 (q.map nR) = 2 * q.length + (q.map List.length).sum := by
  show ((q.map nR).map fun x => 2 + szN x).sum = _
  induction q with
  | nil => rfl
  | cons r q ih =>
    rw [List.map_cons, List.map_cons, List.sum_cons, ih, List.map_cons, List.sum_cons, List.length_cons]
    show 2 + r.length + _ = _
    omega
theorem take_sum (q : List (List Int32)) (i : Nat) : ((q.take i).map List.length).sum ≤ (q.map List.length).sum := by
  conv => rhs; rw [← List.take_append_drop i q, List.map_append, List.sum_append]
  omega
theorem nZs_ok {zs : List Int32} : (∀ z ∈ zs.map nZ, kdN z = 0) ∧ (∀ z ∈ zs.map nZ, wfN z) ∧ ∀ z ∈ zs.map nZ, z.1 ≤ 4 := ⟨fun z hz => (by obtain ⟨j, -, rfl⟩ := List.mem_map.mp hz; rfl), fun z hz => (by obtain ⟨j, -, rfl⟩ := List.mem_map.mp hz; exact trivial), fun z hz => (by obtain ⟨j, -, rfl⟩ := List.mem_map.mp hz; exact Nat.zero_le _)⟩
theorem nRs_ok {q : List (List Int32)} (h : ∀ r ∈ q, r.length ≤ 64) : (∀ z ∈ q.map nR, kdN z = 1) ∧ (∀ z ∈ q.map nR, wfN z) ∧ ∀ z ∈ q.map nR, z.1 ≤ 4 := ⟨fun z hz => (by obtain ⟨j, -, rfl⟩ := List.mem_map.mp hz; rfl), fun z hz => (by obtain ⟨j, hj, rfl⟩ := List.mem_map.mp hz; exact nR_wf (h j hj)), fun z hz => (by obtain ⟨j, -, rfl⟩ := List.mem_map.mp hz; exact Nat.zero_le _)⟩
/-- INTS become a ROW -/
theorem rA.bRow {zs : List Int32} (hN : 170000 ≤ N) (H : rA s n f m ys) (G : rG s s' n f f (zs.map nZ)) (hl : zs.length ≤ 200) (hn : n + zs.length < 9000) : ∃ s'', mf_305 N (Int32.ofNat 1) (Int32.ofNat n) s' = some (s'', none) ∧ rE s s'' n f m (ansM 1 (zs.map nZ)) := rA.builds (k := 1) hN H G (Or.inl ⟨rfl, nZs_ok.1⟩) nZs_ok.2.1 nZs_ok.2.2 (by omega) (by omega) (by rw [List.length_map]; omega) (by rw [List.length_map]; omega)
/-- ROWS become a TABLE -/
theorem rA.bTab {q : List (List Int32)} (hN : 170000 ≤ N) (H : rA s n f m ys) (G : rG s s' n f (f + (2 * q.length + (q.map List.length).sum)) (q.map nR)) (hq : ∀ r ∈ q, r.length ≤ 64) (h300 : 2 * q.length + (q.map List.length).sum ≤ 300) (hn : n + q.length < 9000) : ∃ s'', mf_305 N (Int32.ofNat 2) (Int32.ofNat n) s' = some (s'', none) ∧ rE s s'' n f m (ansM 2 (q.map nR)) := rA.builds (k := 2) hN H G (Or.inr (Or.inl ⟨rfl, (nRs_ok hq).1⟩)) (nRs_ok hq).2.1 (nRs_ok hq).2.2 (by rw [grT2]; exact Nat.le_refl _) (by omega) (by rw [List.length_map]; omega) (by rw [List.length_map]; omega)
end RDG
def ans1 (g : Int32 → Int32) (x : Nod) : Ans := if kn x = 3 then .inl 3 else if kn x = 0 then .inr (nZ (g (ivN x))) else if kn x = 1 then ansM 1 (((rvN x).map g).map nZ) else ansM 2 (((tvN x).map fun r => r.map g).map nR)
section ONE
variable {N sg : Nat} {s s' : mS} {n f f' m i : Nat} {x : Nod} {g : Int32 → Int32}
theorem r_one (hN : 170000 ≤ N) (hg : ∀ N a s, mf_322 N (Int32.ofNat sg) a s = some (s, some (.int (g a)))) (H : rA s n f m [x]) : ∃ s', mf_323 N (Int32.ofNat sg) s = some (s', none) ∧ rE s s' n f m (ans1 g x) := by
  have H' := H
  obtain ⟨⟨h51, hv⟩, H2, H3, H4, H5, H6, H7, H8, H9, H10⟩ := H'
  have h51 : s.1 51 = Int32.ofNat (n + 1) := h51
  have hx : rvl (s.2.2.1 47) f (s.2.2.1 49 n) (s.2.2.1 50 n) x := hv 0 (by show 0 < 1; omega)
  have kx := r_kindAt (N := N) hx (by omega) (by omega)
  rw [kd_kn] at kx
  have lx := kn_le (x := x)
  have wx : wfN x := H9 x List.mem_cons_self
  have G0 : rG s (mI s 51 (Int32.ofNat n)) n f f [] := rG.nil H2
  obtain ⟨s1, hs1⟩ : ∃ s1, s1 = mI s 51 (Int32.ofNat n) := ⟨_, rfl⟩
  rw [← hs1] at G0
  generalize hxk : s.2.2.1 49 n = xk at *
  generalize hxv : s.2.2.1 50 n = xv at *
  unfold ans1
  by_cases c3 : kn x = 3
  · rw [if_pos c3]
    obtain ⟨b1, b2⟩ := rG.trb (N := N) H G0 (by omega) 3
    refine ⟨_, ?_, b2⟩
    rw [hs1] at b1 ⊢
    have b1 : mf_301 N (Int32.ofNat 3) (s.1 70) (mI s 51 (Int32.ofNat n)) = some (trb (mI s 51 (Int32.ofNat n)) (Int32.ofNat 3) (s.1 70), none) := b1
    rw [c3] at kx
    unfold mf_323 mf_323_0 mf_323_10 mf_323_42 mf_323_51 mf_323_213
    simp (disch := omega) only [ev_S, ev_P, ↓reduceIte, Nat.reduceEqDiff, Nat.reduceLeDiff, Nat.reduceAdd, Nat.reduceMul, Nat.reduceSub, reduceCtorEq, l32_0, l32_1, l32_2, l32_3, l32_4, l32_5, l32_6, l32_7, l32_8, l32_9, l32_10, l32_11, l32_12, l32_13, l32_14, l32_15, l32_16, l32_17, l32_18, l32_19, l32_20, l32_21, l32_22, l32_23, l32_24, l32_25, l32_26, l32_27, l32_28, l32_29, l32_33, l32_40, l32_41, l32_44, l32_45, l32_59, l32_61, l32_91, l32_93, l32_123, l32_125, h51, kx, b1]
  · rw [if_neg c3]
    have E1 : mf_323 N (Int32.ofNat sg) s = mf_323_54 N (Int32.ofNat sg) (Int32.ofNat (kn x)) xv (Int32.ofNat n) s1 := by
      rw [hs1]
      generalize kn x = kx' at *
      unfold mf_323 mf_323_0 mf_323_10
      simp (disch := omega) only [ev_S, ev_P, ↓reduceIte, Nat.reduceEqDiff, Nat.reduceLeDiff, Nat.reduceAdd, Nat.reduceMul, Nat.reduceSub, reduceCtorEq, l32_0, l32_1, l32_2, l32_3, l32_4, l32_5, l32_6, l32_7, l32_8, l32_9, l32_10, l32_11, l32_12, l32_13, l32_14, l32_15, l32_16, l32_17, l32_18, l32_19, l32_20, l32_21, l32_22, l32_23, l32_24, l32_25, l32_26, l32_27, l32_28, l32_29, l32_33, l32_40, l32_41, l32_44, l32_45, l32_59, l32_61, l32_91, l32_93, l32_123, l32_125, h51, kx, c3, hxv]
    rw [E1]
    by_cases c0 : kn x = 0
    · rw [if_pos c0, c0, (hx.iv c0).2]
      obtain ⟨s2, p1, p2⟩ := rG.pushZ (N := N) G0 (by show n + 0 < 9000; omega) (g (ivN x))
      refine ⟨s2, ?_, rG.int H p2 rfl⟩
      have hg1 := hg N (ivN x) s1
      unfold mf_323_54 mf_323_58 mf_323_65 mf_323_68 mf_323_213
      simp (disch := omega) only [ev_S, ev_P, ↓reduceIte, Nat.reduceEqDiff, Nat.reduceLeDiff, Nat.reduceAdd, Nat.reduceMul, Nat.reduceSub, reduceCtorEq, l32_0, l32_1, l32_2, l32_3, l32_4, l32_5, l32_6, l32_7, l32_8, l32_9, l32_10, l32_11, l32_12, l32_13, l32_14, l32_15, l32_16, l32_17, l32_18, l32_19, l32_20, l32_21, l32_22, l32_23, l32_24, l32_25, l32_26, l32_27, l32_28, l32_29, l32_33, l32_40, l32_41, l32_44, l32_45, l32_59, l32_61, l32_91, l32_93, l32_123, l32_125, hg1, p1]
    · rw [if_neg c0]
      obtain ⟨-, a, ea, La⟩ := hx.th c0
      rw [ea]
      by_cases c1 : kn x = 1
      · rw [if_pos c1, c1]
        have Lr := lay1 La c1
        have hr := rv_wf c1 wx
        have hlt := rowlt Lr
        have esz := kn1_sz c1
        generalize hrr : rvN x = r at *
        have E2 : mf_323_54 N (Int32.ofNat sg) (Int32.ofNat 1) (Int32.ofNat a) (Int32.ofNat n) s1 = mf_323_L6 N N 0 (Int32.ofNat sg) (Int32.ofNat a) (Int32.ofNat n) (Int32.ofNat 0) s1 := by
          unfold mf_323_54 mf_323_71 mf_323_76
          simp (disch := omega) only [ev_S, ev_P, ↓reduceIte, Nat.reduceEqDiff, Nat.reduceLeDiff, Nat.reduceAdd, Nat.reduceMul, Nat.reduceSub, reduceCtorEq, l32_0, l32_1, l32_2, l32_3, l32_4, l32_5, l32_6, l32_7, l32_8, l32_9, l32_10, l32_11, l32_12, l32_13, l32_14, l32_15, l32_16, l32_17, l32_18, l32_19, l32_20, l32_21, l32_22, l32_23, l32_24, l32_25, l32_26, l32_27, l32_28, l32_29, l32_33, l32_40, l32_41, l32_44, l32_45, l32_59, l32_61, l32_91, l32_93, l32_123, l32_125]
        rw [E2]
        refine lp (fun F i (s' : mS) => mf_323_L6 N F 0 (Int32.ofNat sg) (Int32.ofNat a) (Int32.ofNat n) (Int32.ofNat i) s') r.length (fun i s' => rG s s' n f f (((r.take i).map g).map nZ)) (fun R => ∃ s', R = some (s', none) ∧ rE s s' n f m (ansM 1 ((r.map g).map nZ))) ?_ ?_ r.length 0 N s1 (Nat.zero_add _) (by omega) G0
        · intro F i s2 hi G _
          left
          have zz := G.size (N := N) La (by omega)
          rw [esz] at zz
          have cc := G.cell Lr hi
          have hll : (((r.take i).map g).map nZ).length = i := by rw [List.length_map, len_take_map (by omega)]
          have n1 : ¬ r.length ≤ i := by omega
          have hg1 := hg N r[i] s2
          obtain ⟨s3, p1, p2⟩ := rG.pushZ (N := N) G (by rw [hll]; omega) (g r[i])
          refine ⟨s3, ?_, ?_⟩
          · rw [take_map_s hi, List.map_append]
            exact p2
          · show mf_323_79 N (mf_323_L6 N F) (Int32.ofNat sg) (Int32.ofNat a) (Int32.ofNat n) (Int32.ofNat i) s2 = _
            unfold mf_323_79 mf_323_86 mf_323_89 mf_323_106 mf_323_109
            simp (disch := omega) only [ev_S, ev_P, ↓reduceIte, Nat.reduceEqDiff, Nat.reduceLeDiff, Nat.reduceAdd, Nat.reduceMul, Nat.reduceSub, reduceCtorEq, l32_0, l32_1, l32_2, l32_3, l32_4, l32_5, l32_6, l32_7, l32_8, l32_9, l32_10, l32_11, l32_12, l32_13, l32_14, l32_15, l32_16, l32_17, l32_18, l32_19, l32_20, l32_21, l32_22, l32_23, l32_24, l32_25, l32_26, l32_27, l32_28, l32_29, l32_33, l32_40, l32_41, l32_44, l32_45, l32_59, l32_61, l32_91, l32_93, l32_123, l32_125, zz, n1, cc, hg1, p1]
        · intro F s2 G
          rw [List.take_length] at G
          have zz := G.size (N := N) La (by omega)
          rw [esz] at zz
          obtain ⟨s3, b1, b2⟩ := rA.bRow (N := N) hN H G (by rw [List.length_map]; omega) (by rw [List.length_map]; omega)
          refine ⟨s3, ?_, b2⟩
          show mf_323_79 N (mf_323_L6 N F) (Int32.ofNat sg) (Int32.ofNat a) (Int32.ofNat n) (Int32.ofNat r.length) s2 = _
          unfold mf_323_79 mf_323_86 mf_323_115 mf_323_122 mf_323_213
          simp (disch := omega) only [ev_S, ev_P, ↓reduceIte, Nat.reduceEqDiff, Nat.reduceLeDiff, Nat.reduceAdd, Nat.reduceMul, Nat.reduceSub, reduceCtorEq, l32_0, l32_1, l32_2, l32_3, l32_4, l32_5, l32_6, l32_7, l32_8, l32_9, l32_10, l32_11, l32_12, l32_13, l32_14, l32_15, l32_16, l32_17, l32_18, l32_19, l32_20, l32_21, l32_22, l32_23, l32_24, l32_25, l32_26, l32_27, l32_28, l32_29, l32_33, l32_40, l32_41, l32_44, l32_45, l32_59, l32_61, l32_91, l32_93, l32_123, l32_125, zz, b1]
      · rw [if_neg c1]
        have c2 : kn x = 2 := by omega
        rw [c2]
        have tw := tv_wf c2 wx
        have esz := kn2_sz c2
        have PT := fun i (hi : i < (tvN x).length) s2 fx xs (G : rG s s2 n f fx xs) => rG.partT (N := N) G La (by omega) c2 hi
        generalize tvN x = q at *
        have E2 : mf_323_54 N (Int32.ofNat sg) (Int32.ofNat 2) (Int32.ofNat a) (Int32.ofNat n) s1 = mf_323_L2 N N 0 (Int32.ofNat sg) (Int32.ofNat a) (Int32.ofNat n) (Int32.ofNat 0) (Int32.ofNat 0) (Int32.ofNat 0) (Int32.ofNat 0) s1 := by
          unfold mf_323_54 mf_323_71 mf_323_125
          simp (disch := omega) only [ev_S, ev_P, ↓reduceIte, Nat.reduceEqDiff, Nat.reduceLeDiff, Nat.reduceAdd, Nat.reduceMul, Nat.reduceSub, reduceCtorEq, l32_0, l32_1, l32_2, l32_3, l32_4, l32_5, l32_6, l32_7, l32_8, l32_9, l32_10, l32_11, l32_12, l32_13, l32_14, l32_15, l32_16, l32_17, l32_18, l32_19, l32_20, l32_21, l32_22, l32_23, l32_24, l32_25, l32_26, l32_27, l32_28, l32_29, l32_33, l32_40, l32_41, l32_44, l32_45, l32_59, l32_61, l32_91, l32_93, l32_123, l32_125]
        rw [E2]
        have hsums : ∀ i, ((((q.take i).map fun r => r.map g)).map List.length).sum ≤ 200 := fun i => by
          rw [List.map_map]
          have : ((q.take i).map (List.length ∘ fun r => r.map g)) = (q.take i).map List.length := by
            congr 1
            funext r
            exact List.length_map _
          rw [this]
          exact Nat.le_trans (take_sum q i) tw.2.1
        refine lpo (fun F i (s' : mS) => mf_323_L2 N F 0 (Int32.ofNat sg) (Int32.ofNat a) (Int32.ofNat n) (Int32.ofNat i) (Int32.ofNat 0) (Int32.ofNat 0) (Int32.ofNat 0) s') q.length 67 (fun i s' => rG s s' n f (f + (2 * ((q.take i).map fun r => r.map g).length + ((((q.take i).map fun r => r.map g)).map List.length).sum)) (((q.take i).map fun r => r.map g).map nR)) (fun R => ∃ s', R = some (s', none) ∧ rE s s' n f m (ansM 2 ((q.map fun r => r.map g).map nR))) ?_ ?_ q.length 0 N s1 (Nat.zero_add _) (by omega) G0
        · intro F i s2 hi G
          left
          have hsi := hsums i
          have hl0 : ((q.take i).map fun r => r.map g).length = i := len_take_map (by omega)
          have hll : (((q.take i).map fun r => r.map g).map nR).length = i := by rw [List.length_map, hl0]
          have zz := G.size (N := N) La (by omega)
          rw [esz] at zz
          have n1 : ¬ q.length ≤ i := by omega
          obtain ⟨c, d1, d2⟩ := PT i hi s2 _ _ G
          have hq64 := tw.2.2 _ (List.getElem_mem hi)
          have hlt := rowlt d2
          have sp := G.1.1
          rw [hll] at sp
          have E3 : mf_323_L2 N (F + 67) 0 (Int32.ofNat sg) (Int32.ofNat a) (Int32.ofNat n) (Int32.ofNat i) (Int32.ofNat 0) (Int32.ofNat 0) (Int32.ofNat 0) s2 = mf_323_L2 N (F + 66) 1 (Int32.ofNat sg) (Int32.ofNat a) (Int32.ofNat n) (Int32.ofNat i) (Int32.ofNat c) (Int32.ofNat (n + i)) (Int32.ofNat 0) s2 := by
            show mf_323_128 N (mf_323_L2 N (F + 66)) (Int32.ofNat sg) (Int32.ofNat a) (Int32.ofNat n) (Int32.ofNat i) s2 = _
            unfold mf_323_128 mf_323_135 mf_323_138 mf_323_145
            simp (disch := omega) only [ev_S, ev_P, ↓reduceIte, Nat.reduceEqDiff, Nat.reduceLeDiff, Nat.reduceAdd, Nat.reduceMul, Nat.reduceSub, reduceCtorEq, l32_0, l32_1, l32_2, l32_3, l32_4, l32_5, l32_6, l32_7, l32_8, l32_9, l32_10, l32_11, l32_12, l32_13, l32_14, l32_15, l32_16, l32_17, l32_18, l32_19, l32_20, l32_21, l32_22, l32_23, l32_24, l32_25, l32_26, l32_27, l32_28, l32_29, l32_33, l32_40, l32_41, l32_44, l32_45, l32_59, l32_61, l32_91, l32_93, l32_123, l32_125, zz, n1, d1, sp]
          rw [E3]
          rcases lpi (fun F j (s' : mS) => mf_323_L2 N F 1 (Int32.ofNat sg) (Int32.ofNat a) (Int32.ofNat n) (Int32.ofNat i) (Int32.ofNat c) (Int32.ofNat (n + i)) (Int32.ofNat j) s') q[i].length (fun j s' => rG s s' n f (f + (2 * ((q.take i).map fun r => r.map g).length + ((((q.take i).map fun r => r.map g)).map List.length).sum)) (((q.take i).map fun r => r.map g).map nR ++ ((q[i].take j).map g).map nZ)) (fun _ => False) (by
            intro F j s3 hj G3
            left
            have z3 := G3.size (N := N) d2 (by omega)
            have z3 : mf_77 N (Int32.ofNat c) s3 = some (s3, some (.int (Int32.ofNat q[i].length))) := z3
            have cc := G3.cell d2 hj
            have n2 : ¬ q[i].length ≤ j := by omega
            have hg1 := hg N q[i][j] s3
            obtain ⟨s4, p1, p2⟩ := rG.pushZ (N := N) G3 (by rw [List.length_append, hll, List.length_map, len_take_map (by omega)]; omega) (g q[i][j])
            refine ⟨s4, ?_, ?_⟩
            · rw [take_map_s hj, List.map_append, ← List.append_assoc]
              exact p2
            · show mf_323_156 N (mf_323_L2 N F) (Int32.ofNat sg) (Int32.ofNat a) (Int32.ofNat n) (Int32.ofNat i) (Int32.ofNat c) (Int32.ofNat (n + i)) (Int32.ofNat j) s3 = _
              unfold mf_323_156 mf_323_164 mf_323_167 mf_323_185 mf_323_188
              simp (disch := omega) only [ev_S, ev_P, ↓reduceIte, Nat.reduceEqDiff, Nat.reduceLeDiff, Nat.reduceAdd, Nat.reduceMul, Nat.reduceSub, reduceCtorEq, l32_0, l32_1, l32_2, l32_3, l32_4, l32_5, l32_6, l32_7, l32_8, l32_9, l32_10, l32_11, l32_12, l32_13, l32_14, l32_15, l32_16, l32_17, l32_18, l32_19, l32_20, l32_21, l32_22, l32_23, l32_24, l32_25, l32_26, l32_27, l32_28, l32_29, l32_33, l32_40, l32_41, l32_44, l32_45, l32_59, l32_61, l32_91, l32_93, l32_123, l32_125, z3, n2, cc, hg1, p1]) q[i].length 0 (F + 66 - q[i].length) s2 (Nat.zero_add _) (by rw [List.take_zero, List.map_nil, List.map_nil, List.append_nil]; exact G) with ⟨s3, G3, e3⟩ | h
          · rw [List.take_length] at G3
            rw [show F + 66 - q[i].length + q[i].length = F + 66 by omega] at e3
            have z3 := G3.size (N := N) d2 (by omega)
            have z3 : mf_77 N (Int32.ofNat c) s3 = some (s3, some (.int (Int32.ofNat q[i].length))) := z3
            have hgl : (q[i].map g).length = q[i].length := List.length_map _
            obtain ⟨s4, w1, w2⟩ := rG.row (N := N) hN G3 (by rw [hll, hgl]; omega) (by rw [hgl]; omega)
            rw [hll] at w1
            rw [hgl] at w2
            refine ⟨s4, F + 65 - q[i].length, ?_, by omega, ?_⟩
            · rw [take_map_s hi, List.map_append, List.map_append, List.length_append, List.sum_append]
              have e : f + (2 * (((q.take i).map fun r => r.map g).length + [q[i].map g].length) + ((((q.take i).map fun r => r.map g).map List.length).sum + ([q[i].map g].map List.length).sum)) = f + (2 * ((q.take i).map fun r => r.map g).length + ((((q.take i).map fun r => r.map g)).map List.length).sum) + 2 + q[i].length := by
                show f + (2 * (_ + 1) + (_ + ((q[i].map g).length + 0))) = _
                rw [hgl]
                omega
              rw [e]
              exact w2
            · show mf_323_L2 N (F + 66) 1 _ _ _ _ _ _ _ s2 = _
              rw [e3, show F + 66 - q[i].length = F + 65 - q[i].length + 1 by omega]
              show mf_323_156 N (mf_323_L2 N (F + 65 - q[i].length)) (Int32.ofNat sg) (Int32.ofNat a) (Int32.ofNat n) (Int32.ofNat i) (Int32.ofNat c) (Int32.ofNat (n + i)) (Int32.ofNat q[i].length) s3 = _
              unfold mf_323_156 mf_323_164 mf_323_194 mf_323_200
              simp (disch := omega) only [ev_S, ev_P, ↓reduceIte, Nat.reduceEqDiff, Nat.reduceLeDiff, Nat.reduceAdd, Nat.reduceMul, Nat.reduceSub, reduceCtorEq, l32_0, l32_1, l32_2, l32_3, l32_4, l32_5, l32_6, l32_7, l32_8, l32_9, l32_10, l32_11, l32_12, l32_13, l32_14, l32_15, l32_16, l32_17, l32_18, l32_19, l32_20, l32_21, l32_22, l32_23, l32_24, l32_25, l32_26, l32_27, l32_28, l32_29, l32_33, l32_40, l32_41, l32_44, l32_45, l32_59, l32_61, l32_91, l32_93, l32_123, l32_125, z3, w1]
          · exact h.elim
        · intro F s2 G
          rw [List.take_length] at G
          have hsi := hsums q.length
          rw [List.take_length] at hsi
          have zz := G.size (N := N) La (by omega)
          rw [esz] at zz
          obtain ⟨s3, b1, b2⟩ := rA.bTab (N := N) hN H G (fun r hr => by
            obtain ⟨r', hr', rfl⟩ := List.mem_map.mp hr
            rw [List.length_map]
            exact tw.2.2 _ hr') (by rw [List.length_map]; omega) (by rw [List.length_map]; omega)
          refine ⟨s3, ?_, b2⟩
          show mf_323_128 N (mf_323_L2 N F) (Int32.ofNat sg) (Int32.ofNat a) (Int32.ofNat n) (Int32.ofNat q.length) s2 = _
          unfold mf_323_128 mf_323_135 mf_323_206 mf_323_213
          simp (disch := omega) only [ev_S, ev_P, ↓reduceIte, Nat.reduceEqDiff, Nat.reduceLeDiff, Nat.reduceAdd, Nat.reduceMul, Nat.reduceSub, reduceCtorEq, l32_0, l32_1, l32_2, l32_3, l32_4, l32_5, l32_6, l32_7, l32_8, l32_9, l32_10, l32_11, l32_12, l32_13, l32_14, l32_15, l32_16, l32_17, l32_18, l32_19, l32_20, l32_21, l32_22, l32_23, l32_24, l32_25, l32_26, l32_27, l32_28, l32_29, l32_33, l32_40, l32_41, l32_44, l32_45, l32_59, l32_61, l32_91, l32_93, l32_123, l32_125, zz, b1]
end ONE
