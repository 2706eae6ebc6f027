/-! ===== PURE: a PACK is told (the reference's stack) ===== -/
/-- what is still to tell of a PACK's parts -/
def rmL (n : Nat) : Bool → List (Th n) → List Int32
  | _, [] => [41]
  | b, y :: l => (if b then [] else [59]) ++ fm n y ++ rmL n false l
theorem rmL_jn {n : Nat} : ∀ l : List (Th n), rmL n true l = jn [59] (l.map (fm n)) ++ [41] := by
  have h0 : ∀ l : List (Th n), rmL n false l = (l.map (fm n)).flatMap (fun b => [59] ++ b) ++ [41] := by
    intro l
    induction l with
    | nil => rfl
    | cons y l ih =>
      show [59] ++ fm n y ++ rmL n false l = _
      rw [ih, List.map_cons, List.flatMap_cons, List.append_assoc, List.append_assoc, List.append_assoc]
  intro l
  cases l with
  | nil => rfl
  | cons y l =>
    show [] ++ fm n y ++ rmL n false l = _
    rw [h0, List.map_cons]
    show [] ++ fm n y ++ _ = fm n y ++ _ ++ [41]
    rw [List.nil_append, List.append_assoc]
abbrev fF (s s' : mS) : Prop := mfr (fun q => q = 55 ∨ q = 87) (fun _ => False) (fun q => q = 52 ∨ q = 53 ∨ q = 54 ∨ q = 86) (fun _ => False) s s'
theorem oM.fF {s s' : mS} (o : oM s s') : fF s s' := ⟨fun q r => o.1 q (fun z => r (Or.inr z)), o.2.1, fun q r => o.2.2.1 q (fun z => r (Or.inr (Or.inr (Or.inr z)))), o.2.2.2⟩
theorem rOut.ch {s s' : mS} {l : List Int32} (h : rOut s l) (h1 : s'.1 87 = s.1 87) (h2 : s'.2.2.1 86 = s.2.2.1 86) : rOut s' l := by
  unfold rOut at h ⊢
  rw [h1, h2]
  exact h
section TES
variable {N : Nat} {R : Nat → Prop}
theorem fo_end {d a n : Nat} {s : mS} {l : List (Th n)} {L : List Int32} {P : Nat → Nod → Prop} (hd : d < 8) (h55 : s.1 55 = Int32.ofNat (d + 1)) (h52 : s.2.2.1 52 d = Int32.ofNat a) (h54 : s.2.2.1 54 d = Int32.ofNat l.length) (H : Wy (s.2.2.1 47) a P (vP n l)) (ha : a + wV wn (vP n l) ≤ 166300) (hO : rOut s L) (hL : L.length < 1600000000) : ∃ s1, (∀ f, mf_352_L1 N (f + 1) 0 s = mf_352_L1 N f 0 s1) ∧ rOut s1 (L ++ [nb 41]) ∧ s1.1 55 = Int32.ofNat d ∧ (∀ j, s1.2.2.1 52 j = s.2.2.1 52 j ∧ s1.2.2.1 54 j = s.2.2.1 54 j) ∧ fF s s1 := by
  have hwa : a + (2 + 2 * l.length) ≤ 166300 := ha
  have hz := r_size (N := N) H ha
  obtain ⟨s0, a1, a2, a3⟩ := r_says (N := N) (c := Int32.ofNat 41) hO (by omega)
  have e55 : s0.1 55 = Int32.ofNat (d + 1) := (a3.1 55 (by omega)).trans h55
  refine ⟨mI s0 55 (Int32.ofNat d), fun f => ?_, rOut.ch (s := s0) a2 rfl rfl, rfl, fun j => ⟨congrFun (a3.2.2.1 52 (by omega)) j, congrFun (a3.2.2.1 54 (by omega)) j⟩, mfr.tr (s1 := s0) a3.fF ⟨fun q r => if_neg (fun z => r (Or.inl z)), fun _ _ => rfl, fun _ _ => rfl, fun _ _ => rfl⟩⟩
  show mf_352_33 N (mf_352_L1 N f) s = _
  repeat ((first | unfold mf_352 | unfold mf_352_0 | unfold mf_352_10 | unfold mf_352_15 | unfold mf_352_16 | unfold mf_352_22 | unfold mf_352_33 | unfold mf_352_40 | unfold mf_352_70 | unfold mf_352_73 | unfold mf_352_79 | unfold mf_352_92 | unfold mf_352_111 | unfold mf_352_117 | unfold mf_352_123 | unfold mf_352_126 | unfold mf_352_142 | unfold mf_352_145 | unfold mf_352_155 | unfold mf_352_160 | unfold mf_352_166 | unfold mf_352_173 | unfold mf_352_177 | unfold mf_352_180 | unfold mf_352_187 | unfold mf_352_190 | unfold mf_352_193); try simp (disch := omega) only [ev_S, ev_P, ↓reduceIte, Nat.reduceEqDiff, Nat.reduceLeDiff, Nat.reduceAdd, Nat.reduceMul, Nat.reduceSub, reduceCtorEq, l32_0, l32_1, l32_2, l32_3, l32_4, l32_8, l32_40, l32_41, l32_47, l32_52, l32_54, l32_55, l32_59, l32_166300, h55, h52, h54, hz, szV, a1, e55, l32_41])
/-- up to part i itself: what stands between is told, the place is counted -/
theorem fo_sep {d a i n : Nat} {s : mS} {l : List (Th n)} {L : List Int32} {P : Nat → Nod → Prop} (hd : d < 8) (h55 : s.1 55 = Int32.ofNat (d + 1)) (h52 : s.2.2.1 52 d = Int32.ofNat a) (h54 : s.2.2.1 54 d = Int32.ofNat i) (H : Wy (s.2.2.1 47) a P (vP n l)) (ha : a + wV wn (vP n l) ≤ 166300) (hi : i < l.length) (hO : rOut s L) (hL : L.length < 1600000000) : ∃ s1, (∀ f, mf_352_L1 N (f + 1) 0 s = mf_352_117 N (mf_352_L1 N f) (Int32.ofNat a) (Int32.ofNat i) s1) ∧ rOut s1 (L ++ (if i = 0 then [] else [59]).map nb) ∧ s1.1 55 = Int32.ofNat (d + 1) ∧ s1.2.2.1 54 d = Int32.ofNat (i + 1) ∧ (∀ j, s1.2.2.1 52 j = s.2.2.1 52 j) ∧ (∀ j, j < d → s1.2.2.1 54 j = s.2.2.1 54 j) ∧ fF s s1 ∧ s1.2.2.1 47 = s.2.2.1 47 := by
  have hwa : a + (2 + 2 * l.length) ≤ 166300 := ha
  have hz := r_size (N := N) H ha
  have fn : fF s (nxt s d i) := ⟨fun _ _ => rfl, fun _ _ => rfl, fun q r => if_neg (fun z => r (Or.inr (Or.inr (Or.inl z)))), fun _ _ => rfl⟩
  by_cases c0 : i = 0
  · refine ⟨nxt s d i, fun f => ?_, ?_, h55, if_pos rfl, fun _ => rfl, fun j hj => if_neg (by omega), fn, rfl⟩
    · show mf_352_33 N (mf_352_L1 N f) s = _
      unfold mf_352_33
      simp (disch := omega) only [ev_S, ev_P, ↓reduceIte, Nat.reduceEqDiff, Nat.reduceLeDiff, Nat.reduceAdd, Nat.reduceMul, Nat.reduceSub, reduceCtorEq, l32_0, l32_1, l32_2, l32_3, l32_4, l32_5, l32_6, l32_7, l32_8, l32_9, l32_10, h55]
      unfold mf_352_40
      simp (disch := omega) only [ev_S, ev_P, ↓reduceIte, Nat.reduceEqDiff, Nat.reduceLeDiff, Nat.reduceAdd, Nat.reduceMul, Nat.reduceSub, reduceCtorEq, l32_0, l32_1, l32_2, l32_3, l32_4, l32_5, l32_6, l32_7, l32_8, l32_9, l32_10, h55, h52, h54, hz, szV]
      unfold mf_352_70 mf_352_92
      have : 0 < l.length := by omega
      simp (disch := omega) only [ev_S, ev_P, ↓reduceIte, Nat.reduceEqDiff, Nat.reduceAdd, l32_0, l32_1, l32_8, h55, h54, c0, nxt]
    · rw [if_pos c0]
      show rOut _ (L ++ [])
      rw [List.append_nil]
      exact rOut.ch (s := s) hO rfl rfl
  · obtain ⟨s1, a1, a2, a3⟩ := r_says (N := N) (s := nxt s d i) (c := Int32.ofNat 59) (rOut.ch (s := s) hO rfl rfl) (by omega)
    refine ⟨s1, fun f => ?_, ?_, (a3.1 55 (by omega)).trans h55, ?_, fun j => congrFun (a3.2.2.1 52 (by omega)) j, fun j hj => ?_, mfr.tr (s1 := nxt s d i) fn a3.fF, a3.h47⟩
    · show mf_352_33 N (mf_352_L1 N f) s = _
      unfold mf_352_33
      simp (disch := omega) only [ev_S, ev_P, ↓reduceIte, Nat.reduceEqDiff, Nat.reduceLeDiff, Nat.reduceAdd, Nat.reduceMul, Nat.reduceSub, reduceCtorEq, l32_0, l32_1, l32_2, l32_3, l32_4, l32_5, l32_6, l32_7, l32_8, l32_9, l32_10, h55]
      unfold mf_352_40
      simp (disch := omega) only [ev_S, ev_P, ↓reduceIte, Nat.reduceEqDiff, Nat.reduceLeDiff, Nat.reduceAdd, Nat.reduceMul, Nat.reduceSub, reduceCtorEq, l32_0, l32_1, l32_2, l32_3, l32_4, l32_5, l32_6, l32_7, l32_8, l32_9, l32_10, h55, h52, h54, hz, szV]
      unfold mf_352_70 mf_352_92 mf_352_111
      simp (disch := omega) only [ev_S, ev_P, ↓reduceIte, Nat.reduceEqDiff, Nat.reduceAdd, l32_0, l32_1, l32_8, l32_59, h55, h54, a1]
    · rw [if_neg c0]
      exact a2
    · refine (congrFun (a3.2.2.1 54 (by omega)) d).trans ?_
      exact if_pos rfl
    · refine (congrFun (a3.2.2.1 54 (by omega)) j).trans ?_
      exact if_neg (by omega)
/-- part i, if it is no PACK -/
theorem fo_flat {d a i n : Nat} {s : mS} {l : List (Th n)} {L : List Int32} (hN : 170000 ≤ N) (hR : ∀ y, R y → y < 166300) (hd : d < 8) (h55 : s.1 55 = Int32.ofNat (d + 1)) (h52 : s.2.2.1 52 d = Int32.ofNat a) (h54 : s.2.2.1 54 d = Int32.ofNat i) (H : Wy (s.2.2.1 47) a (LayN (s.2.2.1 47) R) (vP n l)) (ha : a + wV wn (vP n l) ≤ 166300) (hi : i < l.length) (hk : ¬ kdV (vw ⟨n, l[i]⟩) = 3) (hO : rOut s L) (hL : L.length + 15 * bulk n l[i] + 2 < 1600000000) : ∃ s1, (∀ f, mf_352_L1 N (f + 1) 0 s = mf_352_L1 N f 0 s1) ∧ rOut s1 (L ++ ((if i = 0 then [] else [59]) ++ fm n l[i]).map nb) ∧ s1.1 55 = Int32.ofNat (d + 1) ∧ s1.2.2.1 54 d = Int32.ofNat (i + 1) ∧ (∀ j, s1.2.2.1 52 j = s.2.2.1 52 j) ∧ (∀ j, j < d → s1.2.2.1 54 j = s.2.2.1 54 j) ∧ fF s s1 ∧ s1.2.2.1 47 = s.2.2.1 47 := by
  have hwa : a + (2 + 2 * l.length) ≤ 166300 := ha
  obtain ⟨s1, a1, a2, a3, a4, a5, a6, a7, a8⟩ := fo_sep (N := N) hd h55 h52 h54 H ha hi hO (by omega)
  have hsl : ((if i = 0 then [] else [(59 : Int32)]).map nb).length ≤ 1 := by
    rw [List.length_map]
    split <;> decide
  have H1 : Wy (s1.2.2.1 47) a (LayN (s1.2.2.1 47) R) (vP n l) := by rw [a8]; exact H
  have hf : fm n l[i] = fmV (vw ⟨n, l[i]⟩) := vw_fm ⟨n, l[i]⟩
  have hb : bulk n l[i] = bulkV (vw ⟨n, l[i]⟩) := vw_bulk ⟨n, l[i]⟩
  have iv : intT n l[i] = intV (vw ⟨n, l[i]⟩) := vw_int ⟨n, l[i]⟩
  have ii := r_isInt (N := N) H1 ha hi
  have fin : ∀ s2, rOut s2 (L ++ (if i = 0 then [] else [59]).map nb ++ (fm n l[i]).map nb) → oM s1 s2 → (∀ f, mf_352_117 N (mf_352_L1 N f) (Int32.ofNat a) (Int32.ofNat i) s1 = mf_352_L1 N f 0 s2) → ∃ s1, (∀ f, mf_352_L1 N (f + 1) 0 s = mf_352_L1 N f 0 s1) ∧ rOut s1 (L ++ ((if i = 0 then [] else [59]) ++ fm n l[i]).map nb) ∧ s1.1 55 = Int32.ofNat (d + 1) ∧ s1.2.2.1 54 d = Int32.ofNat (i + 1) ∧ (∀ j, s1.2.2.1 52 j = s.2.2.1 52 j) ∧ (∀ j, j < d → s1.2.2.1 54 j = s.2.2.1 54 j) ∧ fF s s1 ∧ s1.2.2.1 47 = s.2.2.1 47 := fun s2 o1 o2 o3 =>
    ⟨s2, fun f => (a1 f).trans (o3 f), by rw [List.map_append, ← List.append_assoc]; exact o1, (o2.1 55 (by omega)).trans a3, (congrFun (o2.2.2.1 54 (by omega)) d).trans a4, fun j => (congrFun (o2.2.2.1 52 (by omega)) j).trans (a5 j), fun j hj => (congrFun (o2.2.2.1 54 (by omega)) j).trans (a6 j hj), mfr.tr (s1 := s1) a7 o2.fF, o2.h47.trans a8⟩
  cases hA : intT n l[i] with
  | some z =>
    rw [hA] at ii
    have ii : mf_293 N (Int32.ofNat a) (Int32.ofNat i) s1 = some (s1, some (.int 1)) := ii
    have ev := intV_s (iv.symm.trans hA)
    have ez : s1.2.2.1 47 (a + 3 + 2 * i) = z := ((H1.2.2 i hi).1 z hA).2
    obtain ⟨s2, b1, b2, b3⟩ := r_number (N := N) (z := z) hN a2 (by rw [List.length_append]; omega)
    refine fin s2 ?_ b3 (fun f => ?_)
    · rw [hf, ev]
      exact b2
    · repeat ((first | unfold mf_352_117 | unfold mf_352_123 | unfold mf_352_126 | unfold mf_352_142 | unfold mf_352_190); try simp (disch := omega) only [ev_S, ev_P, ↓reduceIte, Nat.reduceEqDiff, Nat.reduceLeDiff, Nat.reduceAdd, Nat.reduceMul, Nat.reduceSub, reduceCtorEq, l32_0, l32_1, l32_2, l32_3, l32_4, l32_47, l32_166300, ii, ez, b1, l32_166300])
  | none =>
    rw [hA] at ii
    have ii : mf_293 N (Int32.ofNat a) (Int32.ofNat i) s1 = some (s1, some (.int 0)) := ii
    obtain ⟨c, g1, g2⟩ := r_partP (N := N) H1 ha hi hA
    obtain ⟨L1, L2⟩ := LayN_iff.mp g2
    have kd2 := L2.kd
    have hc2 : c + wV wn (vw ⟨n, l[i]⟩) ≤ 166300 := by
      have := hR _ (L1 (c + wV wn (vw ⟨n, l[i]⟩) - 1) (by omega) (by omega))
      omega
    have kd3 := kd2.1
    have hk' : ¬ kdV (vw ⟨n, l[i]⟩) = Int32.ofNat 3 := hk
    obtain ⟨s2, b1, b2, b3⟩ := r_fPlain (N := N) hN hR hk L2 hc2 a2 (by rw [List.length_append, ← hb]; omega)
    refine fin s2 ?_ b3 (fun f => ?_)
    · rw [hf]
      exact b2
    · repeat ((first | unfold mf_352_117 | unfold mf_352_123 | unfold mf_352_145 | unfold mf_352_155 | unfold mf_352_180 | unfold mf_352_187 | unfold mf_352_190); try simp (disch := omega) only [ev_S, ev_P, ↓reduceIte, Nat.reduceEqDiff, Nat.reduceLeDiff, Nat.reduceAdd, Nat.reduceMul, Nat.reduceSub, reduceCtorEq, l32_0, l32_1, l32_2, l32_3, l32_4, l32_47, l32_166300, ii, g1, kd3, hk', b1, l32_166300])
/-- part i, if it is a PACK -/
theorem fo_pack {d a i n : Nat} {s : mS} {l : List (Th (n + 1))} {l' : List (Th n)} {L : List Int32} (hR : ∀ y, R y → y < 166300) (hd : d + 1 < 8) (h55 : s.1 55 = Int32.ofNat (d + 1)) (h52 : s.2.2.1 52 d = Int32.ofNat a) (h54 : s.2.2.1 54 d = Int32.ofNat i) (H : Wy (s.2.2.1 47) a (LayN (s.2.2.1 47) R) (vP (n + 1) l)) (ha : a + wV wn (vP (n + 1) l) ≤ 166300) (hi : i < l.length) (hv : vw ⟨n + 1, l[i]⟩ = vP n l') (hO : rOut s L) (hL : L.length + 10 < 1600000000) : ∃ c s1, (∀ f, mf_352_L1 N (f + 1) 0 s = mf_352_L1 N f 0 s1) ∧ rOut s1 (L ++ ((if i = 0 then [] else [59]) ++ [(40 : Int32)]).map nb) ∧ s1.1 55 = Int32.ofNat (d + 1 + 1) ∧ s1.2.2.1 52 (d + 1) = Int32.ofNat c ∧ s1.2.2.1 54 (d + 1) = Int32.ofNat 0 ∧ s1.2.2.1 54 d = Int32.ofNat (i + 1) ∧ (∀ j, j < d + 1 → s1.2.2.1 52 j = s.2.2.1 52 j) ∧ (∀ j, j < d → s1.2.2.1 54 j = s.2.2.1 54 j) ∧ fF s s1 ∧ s1.2.2.1 47 = s.2.2.1 47 ∧ Wy (s.2.2.1 47) c (LayN (s.2.2.1 47) R) (vP n l') ∧ c + wV wn (vP n l') ≤ 166300 := by
  have hwa : a + (2 + 2 * l.length) ≤ 166300 := ha
  obtain ⟨s1, a1, a2, a3, a4, a5, a6, a7, a8⟩ := fo_sep (N := N) (by omega) h55 h52 h54 H ha hi hO (by omega)
  have hsl : ((if i = 0 then [] else [(59 : Int32)]).map nb).length ≤ 1 := by
    rw [List.length_map]
    split <;> decide
  have H1 : Wy (s1.2.2.1 47) a (LayN (s1.2.2.1 47) R) (vP (n + 1) l) := by rw [a8]; exact H
  have iv : intT (n + 1) l[i] = intV (vw ⟨n + 1, l[i]⟩) := vw_int ⟨n + 1, l[i]⟩
  rw [hv] at iv
  have hA : intT (n + 1) l[i] = none := iv
  have ii := r_isInt (N := N) H1 ha hi
  rw [hA] at ii
  have ii : mf_293 N (Int32.ofNat a) (Int32.ofNat i) s1 = some (s1, some (.int 0)) := ii
  obtain ⟨s2, b1, b2, b3⟩ := r_says (N := N) (c := Int32.ofNat 40) a2 (by rw [List.length_append]; omega)
  obtain ⟨c, g1, g2⟩ := r_partP (N := N) H1 ha hi hA
  have H2 : Wy (s2.2.2.1 47) a (LayN (s1.2.2.1 47) R) (vP (n + 1) l) := by rw [b3.h47]; exact H1
  obtain ⟨L1, L2⟩ := LayN_iff.mp g2
  rw [hv] at L1 L2
  have kd2 := L2.kd
  have hc2 : c + wV wn (vP n l') ≤ 166300 := by
    have := hR _ (L1 (c + wV wn (vP n l') - 1) (by omega) (by omega))
    omega
  have kd3 : s1.2.2.1 47 c = 3 := kd2.1
  have g1' : mf_294 N (Int32.ofNat a) (Int32.ofNat i) s2 = some (s2, some (.int (Int32.ofNat c))) := by
    obtain ⟨-, c', y1, y2⟩ := (H1.2.2 i hi).2 hA
    have z1 := r_partE (N := N) (s := s1) (a := a) (i := i) (c := c') (by omega) H1.1 y1
    have z2 := r_partE (N := N) (s := s2) (a := a) (i := i) (c := c') (by omega) H2.1 (by rw [b3.h47]; exact y1)
    rw [z1] at g1
    rw [z2]
    injection g1 with g1
    injection g1 with g0 g1
    rw [g1]
  have e55 : s2.1 55 = Int32.ofNat (d + 1) := (b3.1 55 (by omega)).trans a3
  have gg := r_goesIn (N := N) (s := s2) (d := d + 1) (a := c) (b := 0) hd e55
  rw [a8] at L2
  refine ⟨c, gin s2 (d + 1) c 0, fun f => (a1 f).trans ?_, ?_, rfl, if_pos rfl, if_pos rfl, ?_, fun j hj => ?_, fun j hj => ?_, ?_, ?_, L2, hc2⟩
  · repeat ((first | unfold mf_352_117 | unfold mf_352_123 | unfold mf_352_145 | unfold mf_352_155 | unfold mf_352_160 | unfold mf_352_166 | unfold mf_352_173 | unfold mf_352_177 | unfold mf_352_190); try simp (disch := omega) only [ev_S, ev_P, ↓reduceIte, Nat.reduceEqDiff, Nat.reduceLeDiff, Nat.reduceAdd, Nat.reduceMul, Nat.reduceSub, reduceCtorEq, l32_0, l32_1, l32_2, l32_3, l32_4, l32_40, l32_47, l32_166300, ii, g1, g1', kd3, b1, gg, l32_166300, l32_40])
  · rw [List.map_append, ← List.append_assoc]
    exact rOut.ch (s := s2) b2 rfl rfl
  · show upd (s2.2.2.1 54) (d + 1) _ d = _
    rw [upd_n (by omega)]
    exact (congrFun (b3.2.2.1 54 (by omega)) d).trans a4
  · show upd (s2.2.2.1 52) (d + 1) _ j = _
    rw [upd_n (by omega)]
    exact (congrFun (b3.2.2.1 52 (by omega)) j).trans (a5 j)
  · show upd (s2.2.2.1 54) (d + 1) _ j = _
    rw [upd_n (by omega)]
    exact (congrFun (b3.2.2.1 54 (by omega)) j).trans (a6 j hj)
  · refine mfr.tr (s1 := s2) (mfr.tr (s1 := s1) a7 b3.fF) ⟨fun q r => if_neg (fun z => r (Or.inl z)), fun _ _ => rfl, fun q r => ?_, fun _ _ => rfl⟩
    show (if q = 54 then _ else if q = 53 then _ else if q = 52 then _ else s2.2.2.1 q) = _
    rw [if_neg (fun z => r (Or.inr (Or.inr (Or.inl z)))), if_neg (fun z => r (Or.inr (Or.inl z))), if_neg (fun z => r (Or.inl z))]
  · exact b3.h47.trans a8
/-- what is told of going over the parts from i on -/
def foR (N n : Nat) (l : List (Th n)) (i d : Nat) (s : mS) (L : List Int32) : Prop := ∃ k s', k ≤ 2 * ((l.drop i).map (bulk n)).sum + 1 ∧ (∀ f, mf_352_L1 N (f + k) 0 s = mf_352_L1 N f 0 s') ∧ s'.1 55 = Int32.ofNat d ∧ rOut s' (L ++ (rmL n (i == 0) (l.drop i)).map nb) ∧ (∀ j, j < d → s'.2.2.1 52 j = s.2.2.1 52 j ∧ s'.2.2.1 54 j = s.2.2.1 54 j) ∧ fF s s'
theorem rmL_i {n i : Nat} {l : List (Th n)} (hi : i < l.length) : rmL n (i == 0) (l.drop i) = (if i = 0 then [] else [59]) ++ fm n l[i] ++ rmL n (i + 1 == 0) (l.drop (i + 1)) := by
  rw [List.drop_eq_getElem_cons hi]
  show (if (i == 0) = true then [] else [59]) ++ fm n l[i] ++ rmL n false _ = _
  by_cases c : i = 0
  · rw [if_pos c, if_pos (by rw [c]; rfl)]
    rfl
  · rw [if_neg c, if_neg (by simp [c])]
    rfl
theorem fo_tail {n i d k1 : Nat} {l : List (Th n)} {s s1 : mS} {L L1 : List Int32} (hi : i < l.length) (hst : ∀ f, mf_352_L1 N (f + k1) 0 s = mf_352_L1 N f 0 s1) (hk1 : k1 ≤ 2 * bulk n l[i]) (hL : L1 = L ++ ((if i = 0 then [] else [59]) ++ fm n l[i]).map nb) (hj : ∀ j, j < d → s1.2.2.1 52 j = s.2.2.1 52 j ∧ s1.2.2.1 54 j = s.2.2.1 54 j) (hf : fF s s1) (q : foR N n l (i + 1) d s1 L1) : foR N n l i d s L := by
  obtain ⟨k, s', q1, q2, q3, q4, q5, q6⟩ := q
  refine ⟨k + k1, s', ?_, fun f => ?_, q3, ?_, fun j h => ⟨(q5 j h).1.trans (hj j h).1, (q5 j h).2.trans (hj j h).2⟩, hf.tr q6⟩
  · rw [List.drop_eq_getElem_cons hi, List.map_cons, List.sum_cons]
    omega
  · rw [← Nat.add_assoc, hst, q2]
  · rw [rmL_i hi, List.map_append, ← List.append_assoc, ← hL]
    exact q4
theorem fo_all (hN : 170000 ≤ N) (hR : ∀ y, R y → y < 166300) : ∀ (n e i d a : Nat) (l : List (Th n)) (s : mS) (L : List Int32), i + e = l.length → d + n < 7 → s.1 55 = Int32.ofNat (d + 1) → s.2.2.1 52 d = Int32.ofNat a → s.2.2.1 54 d = Int32.ofNat i → Wy (s.2.2.1 47) a (LayN (s.2.2.1 47) R) (vP n l) → a + wV wn (vP n l) ≤ 166300 → rOut s L → L.length + 15 * ((l.drop i).map (bulk n)).sum + 20 < 1600000000 → foR N n l i d s L := by
  intro n
  induction n with
  | zero =>
    intro e
    induction e with
    | zero =>
      intro i d a l s L hi hd h55 h52 h54 H ha hO hL
      have hi : i = l.length := hi
      subst hi
      obtain ⟨s1, a1, a2, a3, a4, a5⟩ := fo_end (N := N) (by omega) h55 h52 h54 H ha hO (by omega)
      refine ⟨1, s1, by omega, a1, a3, ?_, fun j _ => a4 j, a5⟩
      rw [List.drop_length]
      exact a2
    | succ e ih =>
      intro i d a l s L hi hd h55 h52 h54 H ha hO hL
      have hi1 : i < l.length := by omega
      have hbp := bulk_pos 0 l[i]
      rw [List.drop_eq_getElem_cons hi1, List.map_cons, List.sum_cons] at hL
      have hfl := fm_len 0 l[i]
      have hk : ¬ kdV (vw ⟨0, l[i]⟩) = 3 := by
        generalize l[i] = x
        obtain z | r | q := x
        · exact (show ¬ (0 : Int32) = 3 by decide)
        · exact (show ¬ (1 : Int32) = 3 by decide)
        · exact (show ¬ (2 : Int32) = 3 by decide)
      obtain ⟨s1, a1, a2, a3, a4, a5, a6, a7, a8⟩ := fo_flat (N := N) hN hR (by omega) h55 h52 h54 H ha hi1 hk hO (by omega)
      refine fo_tail hi1 a1 (by omega) rfl (fun j hj => ⟨a5 j, a6 j hj⟩) a7 (ih (i + 1) d a l s1 _ (by omega) hd a3 ((a5 d).trans h52) a4 (by rw [a8]; exact H) ha a2 ?_)
      rw [List.length_append, List.length_map, List.length_append]
      have : (if i = 0 then [] else [(59 : Int32)]).length ≤ 1 := by split <;> decide
      omega
  | succ n ihn =>
    intro e
    induction e with
    | zero =>
      intro i d a l s L hi hd h55 h52 h54 H ha hO hL
      have hi : i = l.length := hi
      subst hi
      obtain ⟨s1, a1, a2, a3, a4, a5⟩ := fo_end (N := N) (by omega) h55 h52 h54 H ha hO (by omega)
      refine ⟨1, s1, by omega, a1, a3, ?_, fun j _ => a4 j, a5⟩
      rw [List.drop_length]
      exact a2
    | succ e ih =>
      intro i d a l s L hi hd h55 h52 h54 H ha hO hL
      have hi1 : i < l.length := by omega
      have hbp := bulk_pos (n + 1) l[i]
      rw [List.drop_eq_getElem_cons hi1, List.map_cons, List.sum_cons] at hL
      have hfl := fm_len (n + 1) l[i]
      have hs1 : (if i = 0 then [] else [(59 : Int32)]).length ≤ 1 := by split <;> decide
      by_cases hk : kdV (vw ⟨n + 1, l[i]⟩) = 3
      · obtain ⟨m, l', hv⟩ := kdV_3 hk
        have em : n = m := by
          have key : ∀ (x : Th (n + 1)), vw ⟨n + 1, x⟩ = vP m l' → n = m := fun x h => by
            obtain p | l := x
            · obtain z | r | q := p <;> cases h
            · cases h
              rfl
          exact key _ hv
        subst em
        have hb1 : bulk (n + 1) l[i] = 1 + (l'.map (bulk n)).sum := by
          have : bulk (n + 1) l[i] = bulkV (vw ⟨n + 1, l[i]⟩) := vw_bulk ⟨n + 1, l[i]⟩
          rw [hv] at this
          exact this
        have hf1 : fm (n + 1) l[i] = [40] ++ rmL n true l' := by
          have key : ∀ (x : Th (n + 1)), vw ⟨n + 1, x⟩ = vP n l' → fm (n + 1) x = [40] ++ rmL n true l' := fun x h => by
            obtain p | l := x
            · obtain z | r | q := p <;> cases h
            · cases h
              rw [rmL_jn]
              show [40] ++ jn [59] (l'.map (fm n)) ++ [41] = _
              rw [List.append_assoc]
          exact key _ hv
        obtain ⟨c, s1, a1, a2, a3, a4, a5, a6, a7, a8, a9, a10, a11, a12⟩ := fo_pack (N := N) hR (by omega) h55 h52 h54 H ha hi1 hv hO (by omega)
        have hll : (L ++ ((if i = 0 then [] else [59]) ++ [(40 : Int32)]).map nb).length ≤ L.length + 2 := by
          rw [List.length_append, List.length_map, List.length_append]
          show L.length + (_ + 1) ≤ _
          omega
        obtain ⟨k2, s2, b1, b2, b3, b4, b5, b6⟩ := ihn l'.length 0 (d + 1) c l' s1 _ (Nat.zero_add _) (by omega) a3 a4 a5 (by rw [a10]; exact a11) a12 a2 (by rw [List.drop_zero]; omega)
        rw [List.drop_zero] at b1 b4
        have b4 : rOut s2 (L ++ ((if i = 0 then [] else [59]) ++ [(40 : Int32)]).map nb ++ (rmL n true l').map nb) := b4
        have e47 : s2.2.2.1 47 = s.2.2.1 47 := (b6.2.2.1 47 (by omega)).trans a10
        have eL : L ++ ((if i = 0 then [] else [59]) ++ [(40 : Int32)]).map nb ++ (rmL n true l').map nb = L ++ ((if i = 0 then [] else [59]) ++ fm (n + 1) l[i]).map nb := by
          rw [hf1, List.append_assoc, ← List.map_append, List.append_assoc]
        refine fo_tail (k1 := k2 + 1) (s1 := s2) hi1 (fun f => by rw [← Nat.add_assoc, a1, b2]) (by omega) eL (fun j hj => ⟨(b5 j (by omega)).1.trans (a7 j (by omega)), (b5 j (by omega)).2.trans (a8 j hj)⟩) (mfr.tr (s1 := s1) a9 b6) (ih (i + 1) d a l s2 _ (by omega) hd b3 ((b5 d (by omega)).1.trans ((a7 d (by omega)).trans h52)) ((b5 d (by omega)).2.trans a6) (by rw [e47]; exact H) ha b4 ?_)
        rw [eL, List.length_append, List.length_map, List.length_append]
        omega
      · obtain ⟨s1, a1, a2, a3, a4, a5, a6, a7, a8⟩ := fo_flat (N := N) hN hR (by omega) h55 h52 h54 H ha hi1 hk hO (by omega)
        refine fo_tail hi1 a1 (by omega) rfl (fun j hj => ⟨a5 j, a6 j hj⟩) a7 (ih (i + 1) d a l s1 _ (by omega) hd a3 ((a5 d).trans h52) a4 (by rw [a8]; exact H) ha a2 ?_)
        rw [List.length_append, List.length_map, List.length_append]
        omega
/-- a THING that is no INT is told -/
theorem r_form {a : Nat} {x : Nod} {s : mS} {L : List Int32} (hN : 170000 ≤ N) (hR : ∀ y, R y → y < 166300) (hw : wfN x) (hx : x.1 ≤ 4) (H : LayN (s.2.2.1 47) R a x) (hO : rOut s L) (hL : L.length < 1500000000) : ∃ s', mf_352 N (Int32.ofNat a) s = some (s', none) ∧ rOut s' (L ++ (fmN x).map nb) ∧ fF s s' := by
  obtain ⟨L1, L2⟩ := LayN_iff.mp H
  have kd := L2.kd
  have hc : a + wV wn (vw x) ≤ 166300 := by
    have := hR _ (L1 (a + wV wn (vw x) - 1) (by omega) (by omega))
    omega
  have hb := bulk_wf x.1 x.2 hw
  have hb : bulkN x ≤ 600 := hb
  have c1 : a < 166300 := by omega
  have kd1 : s.2.2.1 47 a = kdV (vw x) := kd.1
  rw [show fmN x = fmV (vw x) from vw_fm x]
  by_cases hk : kdV (vw x) = 3
  · obtain ⟨n, l, hv⟩ := kdV_3 hk
    have hn : n + 1 = x.1 := by
      match x, hv with
      | ⟨0, p⟩, hv => obtain z | r | q := p <;> cases hv
      | ⟨m + 1, y⟩, hv =>
        obtain p | l' := y
        · obtain z | r | q := p <;> cases hv
        · cases hv
          rfl
    rw [vw_bulk x, hv] at hb
    have hb : 1 + (l.map (bulk n)).sum ≤ 600 := hb
    rw [hv] at L2 hc ⊢
    rw [hk] at kd1
    have hl20 : l.length ≤ 20 := by
      have := vw_wf x hw
      rw [hv] at this
      exact this.1
    obtain ⟨s1, a1, a2, a3⟩ := r_says (N := N) (c := Int32.ofNat 40) hO (by omega)
    have gg := r_goesIn (N := N) (s := mI s1 55 (Int32.ofNat 0)) (d := 0) (a := a) (b := 0) (by omega) rfl
    have e47 : (gin (mI s1 55 (Int32.ofNat 0)) 0 a 0).2.2.1 47 = s.2.2.1 47 := a3.h47
    obtain ⟨k2, s', b1, b2, b3, b4, b5, b6⟩ := fo_all (N := N) hN hR n l.length 0 0 a l (gin (mI s1 55 (Int32.ofNat 0)) 0 a 0) (L ++ [nb (Int32.ofNat 40)]) (Nat.zero_add _) (by omega) rfl rfl rfl (by rw [e47]; exact L2) hc (rOut.ch (s := s1) a2 rfl rfl) (by
      rw [List.drop_zero, List.length_append]
      show L.length + 1 + _ + 20 < _
      omega)
    rw [List.drop_zero] at b1 b4
    have b4 : rOut s' (L ++ [nb (Int32.ofNat 40)] ++ (rmL n true l).map nb) := b4
    have hf0 : fF s (gin (mI s1 55 (Int32.ofNat 0)) 0 a 0) := mfr.tr (s1 := s1) a3.fF ⟨fun q r => by
      show (if q = 55 then _ else if q = 55 then _ else s1.1 q) = _
      rw [if_neg (fun z => r (Or.inl z)), if_neg (fun z => r (Or.inl z))], fun _ _ => rfl, fun q r => by
      show (if q = 54 then _ else if q = 53 then _ else if q = 52 then _ else s1.2.2.1 q) = _
      rw [if_neg (fun z => r (Or.inr (Or.inr (Or.inl z)))), if_neg (fun z => r (Or.inr (Or.inl z))), if_neg (fun z => r (Or.inl z))], fun _ _ => rfl⟩
    refine ⟨s', ?_, ?_, mfr.tr (s1 := gin (mI s1 55 (Int32.ofNat 0)) 0 a 0) hf0 b6⟩
    · have hst : mf_352 N (Int32.ofNat a) s = mf_352_L1 N N 0 (gin (mI s1 55 (Int32.ofNat 0)) 0 a 0) := by
        have gg : mf_296 N (Int32.ofNat a) (Int32.ofNat 0) (mI s1 55 (Int32.ofNat 0)) = _ := gg
        repeat ((first | unfold mf_352 | unfold mf_352_0 | unfold mf_352_10 | unfold mf_352_15 | unfold mf_352_16 | unfold mf_352_22 | unfold mf_352_33 | unfold mf_352_40 | unfold mf_352_70 | unfold mf_352_73 | unfold mf_352_79 | unfold mf_352_92 | unfold mf_352_111 | unfold mf_352_117 | unfold mf_352_123 | unfold mf_352_126 | unfold mf_352_142 | unfold mf_352_145 | unfold mf_352_155 | unfold mf_352_160 | unfold mf_352_166 | unfold mf_352_173 | unfold mf_352_177 | unfold mf_352_180 | unfold mf_352_187 | unfold mf_352_190 | unfold mf_352_193); try simp (disch := omega) only [ev_S, ev_P, ↓reduceIte, Nat.reduceEqDiff, Nat.reduceLeDiff, Nat.reduceAdd, Nat.reduceMul, Nat.reduceSub, reduceCtorEq, l32_0, l32_1, l32_2, l32_3, l32_4, l32_8, l32_40, l32_41, l32_47, l32_52, l32_54, l32_55, l32_59, l32_166300, kd1, a1, gg, l32_40])
      have b2 := b2 (N - k2)
      rw [show N - k2 + k2 = N by omega] at b2
      rw [hst, b2]
      have e2 : N - k2 = (N - k2 - 1) + 1 := by omega
      rw [e2]
      show mf_352_33 N (mf_352_L1 N (N - k2 - 1)) s' = _
      unfold mf_352_33 mf_352_193
      simp (disch := omega) only [ev_S, ev_P, ↓reduceIte, Nat.reduceEqDiff, Nat.reduceLeDiff, Nat.reduceAdd, Nat.reduceMul, Nat.reduceSub, reduceCtorEq, l32_0, l32_1, l32_2, l32_3, l32_4, l32_5, l32_6, l32_7, l32_8, l32_9, l32_10, b3]
    · have e : fmV (vP n l) = [40] ++ rmL n true l := by
        rw [rmL_jn]
        have : fmV (vP n l) = fm (n + 1) (.inr l) := (vw_fm ⟨n + 1, .inr l⟩).symm
        rw [this]
        show [40] ++ jn [59] (l.map (fm n)) ++ [41] = _
        rw [List.append_assoc]
      rw [e, List.map_append, ← List.append_assoc]
      exact b4
  · obtain ⟨s', b1, b2, b3⟩ := r_fPlain (N := N) hN hR hk L2 hc hO (by rw [← vw_bulk x]; omega)
    have hk' : ¬ kdV (vw x) = Int32.ofNat 3 := hk
    refine ⟨s', ?_, b2, b3.fF⟩
    repeat ((first | unfold mf_352 | unfold mf_352_0 | unfold mf_352_10 | unfold mf_352_15 | unfold mf_352_16 | unfold mf_352_22 | unfold mf_352_33 | unfold mf_352_40 | unfold mf_352_70 | unfold mf_352_73 | unfold mf_352_79 | unfold mf_352_92 | unfold mf_352_111 | unfold mf_352_117 | unfold mf_352_123 | unfold mf_352_126 | unfold mf_352_142 | unfold mf_352_145 | unfold mf_352_155 | unfold mf_352_160 | unfold mf_352_166 | unfold mf_352_173 | unfold mf_352_177 | unfold mf_352_180 | unfold mf_352_187 | unfold mf_352_190 | unfold mf_352_193); try simp (disch := omega) only [ev_S, ev_P, ↓reduceIte, Nat.reduceEqDiff, Nat.reduceLeDiff, Nat.reduceAdd, Nat.reduceMul, Nat.reduceSub, reduceCtorEq, l32_0, l32_1, l32_2, l32_3, l32_4, l32_8, l32_40, l32_41, l32_47, l32_52, l32_54, l32_55, l32_59, l32_166300, kd1, hk', b1])
end TES
