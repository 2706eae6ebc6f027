/-! ===== PURE: run (44): scan, sort, grade: the class ===== -/
theorem jAid {t : cS} {k : Nat} : jA t k (kA t k).2 = t := by
  obtain ⟨a, b, c, d, e⟩ := t
  show (_, _, _, (fun x => if x = k then ((d k).1, (d k).2) else d x), _) = (_, _, _, d, _)
  congr 4
  funext x
  by_cases h : x = k
  · rw [if_pos h, h]
  · rw [if_neg h]
theorem kAj {t : cS} {k : Nat} {g : Nat → Int32} : kA (jA t k g) k = ((kA t k).1, g) := if_pos rfl
section SRC
variable {N : Nat} {X : Nat → Option zz_C} {t t' : cS} {u u' w i b : Nat} {x : Nod} {vx v : Int64} {xs : List Nod} {r : List Int32} {g : Nat → Int32}
theorem cHp_60 (h : cHp t u w) : cHp (jA t 60 g) u w := h
theorem hfw_60 : hfw t (jA t 60 g) := ⟨fun _ _ _ _ => rfl, rfl, rfl, fun k _ _ _ => ⟨fun h => if_neg h, rfl, rfl⟩, rfl, rfl, Nat.le_refl _, Nat.le_refl _, Nat.le_refl _, rfl⟩
theorem c_srt (hN : 170000 ≤ N) (hh : cHp t u w) (h : cN (cel t) u v (nR r)) (hr : r.length ≤ 64) (h60 : (kA t 60).1 = 64) : ∃ g, cf_100 N X v (Int32.ofNat r.length) t = some (jA t 60 g, .inl none) ∧ ∀ i (hi : i < (grd r).length), g i = (grd r)[i] := by
  have hcv : ∀ g, cV (cel (jA t 60 g)) u v (vR r) := fun g => cN_iff.mp h
  have IA : ∀ g i (hi : i < r.length), cf_130 N X v (Int32.ofNat i) (jA t 60 g) = some (jA t 60 g, .inl (some (.int r[i]))) := fun g i hi => c_intAt (N := N) (X := X) (cHp_60 hh) (hcv g) hi
  have e60 : ∀ g, kA (jA t 60 g) 60 = (64, g) := fun g => by rw [kAj, h60]
  have hkf : ∀ i (hi : i < r.length), r.getD (Int32.ofNat i).toNatClampNeg 0 = r[i] := fun i hi => by
    rw [ev_S.1 (by omega), List.getD_eq_getElem?_getD, List.getElem?_eq_getElem hi]
    rfl
  have E0 : cf_100 N X v (Int32.ofNat r.length) t = cf_100_L1 N X N 0 v (Int32.ofNat r.length) (Int32.ofNat 0) (Int32.ofNat 0) (Int32.ofNat 0) (jA t 60 (kA t 60).2) := by
    rw [jAid]
    rfl
  rw [E0]
  have hL : ((List.range r.length).map Int32.ofNat).length = r.length := by rw [List.length_map, List.length_range]
  refine lpo (fun F i (g : Nat → Int32) => cf_100_L1 N X F 0 v (Int32.ofNat r.length) (Int32.ofNat i) (Int32.ofNat 0) (Int32.ofNat 0) (jA t 60 g)) r.length 70 (fun i g => ∀ j (hj : j < (srt (fun z => r.getD z.toNatClampNeg 0) (((List.range r.length).map Int32.ofNat).take i)).length), g j = (srt (fun z => r.getD z.toNatClampNeg 0) (((List.range r.length).map Int32.ofNat).take i))[j]) (fun R => ∃ g, R = some (jA t 60 g, .inl none) ∧ ∀ i (hi : i < (grd r).length), g i = (grd r)[i]) ?_ ?_ r.length 0 N (kA t 60).2 (Nat.zero_add _) (by omega) (fun j hj => absurd hj (by rw [List.take_zero]; exact Nat.not_lt_zero _))
  · intro F i g1 hi hP
    left
    have hi' : i < ((List.range r.length).map Int32.ofNat).length := by rw [hL]; exact hi
    have hgi : ((List.range r.length).map Int32.ofNat)[i] = Int32.ofNat i := by rw [List.getElem_map, List.getElem_range]
    have hpl : (srt (fun z => r.getD z.toNatClampNeg 0) (((List.range r.length).map Int32.ofNat).take i)).length = i := by rw [srt_len, List.length_take, hL]; omega
    have hpm : ∀ z ∈ srt (fun z => r.getD z.toNatClampNeg 0) (((List.range r.length).map Int32.ofNat).take i), ∃ q, q < r.length ∧ z = Int32.ofNat q := fun z hz => by
      have h1 := List.mem_of_mem_take (srt_mem _ hz)
      obtain ⟨q, hq, rfl⟩ := List.mem_map.mp h1
      exact ⟨q, List.mem_range.mp hq, rfl⟩
    have hss := srt_s (kf := fun z => r.getD z.toNatClampNeg 0) hi'
    rw [hgi] at hss
    rw [hss]
    generalize srt (fun z => r.getD z.toNatClampNeg 0) (((List.range r.length).map Int32.ofNat).take i) = p at *
    have n1 : ¬ r.length ≤ i := by omega
    have n2 : ¬ 64 ≤ i := by omega
    have E1 : cf_100_L1 N X (F + 70) 0 v (Int32.ofNat r.length) (Int32.ofNat i) (Int32.ofNat 0) (Int32.ofNat 0) (jA t 60 g1) = cf_100_L1 N X (F + 69) 1 v (Int32.ofNat r.length) (Int32.ofNat i) r[i] (Int32.ofNat i) (jA t 60 g1) := by
      show cf_100_3 N X (cf_100_L1 N X (F + 69)) v (Int32.ofNat r.length) (Int32.ofNat i) (jA t 60 g1) = _
      have ia := IA g1 i hi
      unfold cf_100_3
      rw [if_neg (fun q => n1 ((i32le (by omega) (by omega)).mp q))]
      unfold cf_100_9
      rw [e60, if_neg (show ¬ Int32.ofNat 64 ≤ Int32.ofNat i from fun q => n2 ((i32le (by omega) (by omega)).mp q))]
      unfold cf_100_19
      rw [ia]
      rfl
    have inner : ∀ j F (g2 : Nat → Int32), j ≤ p.length → j < F → invA g2 0 p j → ipos (fun z => r.getD z.toNatClampNeg 0) (Int32.ofNat i) p p.length = ipos (fun z => r.getD z.toNatClampNeg 0) (Int32.ofNat i) p j → ∃ g3 F', F ≤ F' + j + 1 ∧ cf_100_L1 N X F 1 v (Int32.ofNat r.length) (Int32.ofNat i) r[i] (Int32.ofNat j) (jA t 60 g2) = cf_100_L1 N X F' 0 v (Int32.ofNat r.length) (Int32.ofNat (i + 1)) (Int32.ofNat 0) (Int32.ofNat 0) (jA t 60 g3) ∧ ∀ q (hq : q < (ins (fun z => r.getD z.toNatClampNeg 0) p (Int32.ofNat i)).length), g3 q = (ins (fun z => r.getD z.toNatClampNeg 0) p (Int32.ofNat i))[q] := fun j => by
      have FIN : ∀ j F (g2 : Nat → Int32), j ≤ p.length → invA g2 0 p j → ipos (fun z => r.getD z.toNatClampNeg 0) (Int32.ofNat i) p p.length = j → ∃ g3, cf_100_84 N X (cf_100_L1 N X F) v (Int32.ofNat r.length) (Int32.ofNat i) (Int32.ofNat j) (jA t 60 g2) = cf_100_L1 N X F 0 v (Int32.ofNat r.length) (Int32.ofNat (i + 1)) (Int32.ofNat 0) (Int32.ofNat 0) (jA t 60 g3) ∧ ∀ q (hq : q < (ins (fun z => r.getD z.toNatClampNeg 0) p (Int32.ofNat i)).length), g3 q = (ins (fun z => r.getD z.toNatClampNeg 0) p (Int32.ofNat i))[q] := fun j F g2 hj I2 hpos => by
        refine ⟨upd g2 j (Int32.ofNat i), ?_, fun q hq => ?_⟩
        · unfold cf_100_84
          rw [e60, if_pos (gd (K := 64) (m := j) rfl (by omega) (by omega)), ev_S.1 (by omega), jA_jA, show Int32.ofNat i + 1 = Int32.ofNat (i + 1) from i32al]
          rfl
        · have e := I2.fin (m := Int32.ofNat i) hj
          unfold ins at hq ⊢
          simp only [hpos] at hq ⊢
          have e := e q hq
          rw [Nat.zero_add, Nat.zero_add] at e
          exact e
      induction j with
      | zero =>
        intro F g2 hj hF I2 hpos
        obtain ⟨F1, rfl⟩ : ∃ F1, F = F1 + 1 := ⟨F - 1, by omega⟩
        obtain ⟨g3, e1, e2⟩ := FIN 0 F1 g2 hj I2 hpos
        refine ⟨g3, F1, by omega, ?_, e2⟩
        show cf_100_35 N X (cf_100_L1 N X F1) v (Int32.ofNat r.length) (Int32.ofNat i) r[i] (Int32.ofNat 0) (jA t 60 g2) = _
        unfold cf_100_35
        rw [if_pos (by decide), e1]
      | succ j ih =>
        intro F g2 hj hF I2 hpos
        obtain ⟨F1, rfl⟩ : ∃ F1, F = F1 + 1 := ⟨F - 1, by omega⟩
        have hjp : j < p.length := by omega
        have hcell := I2.1 j hjp (by omega)
        rw [Nat.zero_add] at hcell
        obtain ⟨q, hq, eq⟩ := hpm _ (List.getElem_mem hjp)
        have hgd : p.getD j 0 = Int32.ofNat q := by
          rw [List.getD_eq_getElem?_getD, List.getElem?_eq_getElem hjp, ← eq]
          rfl
        have es : Int32.ofNat (j + 1) - 1 = Int32.ofNat j := by
          rw [Int32.ofNat_add]
          exact Int32.add_sub_cancel _ _
        have ea : Int32.ofNat (j + 1) + (-1) = Int32.ofNat j := by
          rw [← es]
          exact (Int32.sub_eq_add_neg _ _).symm
        have ia := IA g2 q hq
        have E2 : cf_100_L1 N X (F1 + 1) 1 v (Int32.ofNat r.length) (Int32.ofNat i) r[i] (Int32.ofNat (j + 1)) (jA t 60 g2) = cf_100_57 N X (cf_100_L1 N X F1) v (Int32.ofNat r.length) (Int32.ofNat i) r[i] (Int32.ofNat (j + 1)) r[q] (jA t 60 g2) := by
          show cf_100_35 N X (cf_100_L1 N X F1) v (Int32.ofNat r.length) (Int32.ofNat i) r[i] (Int32.ofNat (j + 1)) (jA t 60 g2) = _
          unfold cf_100_35
          rw [if_neg (show ¬ Int32.ofNat (j + 1) ≤ 0 from fun z => absurd ((i32le (b := 0) (by omega) (by omega)).mp z) (by omega))]
          unfold cf_100_40
          rw [es, e60, if_pos (gd (K := 64) (m := j) rfl (by omega) (by omega)), ev_S.1 (by omega)]
          show ko_call 2 (cf_130 N X v (g2 j) (jA t 60 g2)) _ = _
          rw [hcell, eq, ia]
          rfl
        have hip : ipos (fun z => r.getD z.toNatClampNeg 0) (Int32.ofNat i) p (j + 1) = if r[i] < r[q] then ipos (fun z => r.getD z.toNatClampNeg 0) (Int32.ofNat i) p j else j + 1 := by
          show (if r.getD (Int32.ofNat i).toNatClampNeg 0 < r.getD (p.getD j 0).toNatClampNeg 0 then _ else _) = _
          rw [hgd, hkf i hi, hkf q hq]
        rw [E2]
        unfold cf_100_57
        by_cases c : r[i] < r[q]
        · rw [if_neg (Int32.not_le.mpr c)]
          rw [if_pos c] at hip
          have I3 := I2.step hjp
          rw [Nat.zero_add, Nat.zero_add] at I3
          obtain ⟨g3, F', e1, e2, e3⟩ := ih F1 (upd g2 (j + 1) (g2 j)) (by omega) (by omega) I3 (by rw [hpos, hip])
          refine ⟨g3, F', by omega, ?_, e3⟩
          rw [← e2]
          unfold cf_100_62
          rw [es, e60, if_pos (gd (K := 64) (m := j) rfl (by omega) (by omega)), if_pos (gd (K := 64) (m := j + 1) rfl (by omega) (by omega)), ea, ev_S.1 (by omega), ev_S.1 (by omega), jA_jA]
        · rw [if_pos (Int32.not_lt.mp c)]
          rw [if_neg c] at hip
          obtain ⟨g3, e1, e2⟩ := FIN (j + 1) F1 g2 hj I2 (by rw [hpos, hip])
          exact ⟨g3, F1, by omega, e1, e2⟩
    obtain ⟨g3, F', e1, e2, e3⟩ := inner p.length (F + 69) g1 (Nat.le_refl _) (by omega) ⟨fun q hq _ => by rw [Nat.zero_add]; exact hP q hq, fun q hq h => by omega⟩ rfl
    rw [hpl] at e1 e2
    exact ⟨g3, F', e3, by omega, by rw [E1]; exact e2⟩
  · intro F g1 hP
    rw [List.take_of_length_le (by rw [hL]; exact Nat.le_refl _)] at hP
    refine ⟨g1, ?_, hP⟩
    show cf_100_3 N X (cf_100_L1 N X F) v (Int32.ofNat r.length) (Int32.ofNat r.length) (jA t 60 g1) = _
    unfold cf_100_3 cf_100_99
    simp (disch := omega) only [ev_S, ev_C, ↓reduceIte, Nat.reduceEqDiff, Nat.reduceLeDiff, Nat.reduceAdd, Nat.reduceMul, Nat.reduceSub, reduceCtorEq, l32_0, l32_1, l32_2, l32_3, l32_4, l32_5, l32_6, l32_7, l32_8, l32_9, l32_10, l32_11, l32_12, l32_13, l32_14, l32_15, l32_16, l32_17, l32_18, l32_19, l32_20, l32_21, l32_22, l32_23, l32_24, l32_25, l32_26, l32_27, l32_28, l32_29, l32_33, l32_40, l32_41, l32_44, l32_45, l32_59, l32_61, l32_91, l32_93, l32_123, l32_125]
theorem c_pio {q : Nat} (h60 : (kA t 60).1 = 64) (hq : q < 64) : cf_101 N X (Int32.ofNat q) t = some (t, .inl (some (.int ((kA t 60).2 q)))) := by
  have n2 : ¬ 64 ≤ q := by omega
  unfold cf_101 cf_101_0
  rw [if_neg (i32n (by omega))]
  unfold cf_101_4
  rw [h60, if_neg (show ¬ Int32.ofNat 64 ≤ Int32.ofNat q from fun z => n2 ((i32le (by omega) (by omega)).mp z))]
  unfold cf_101_13
  rw [h60, if_pos (gd (K := 64) (m := q) rfl (by omega) (by omega)), ev_S.1 (by omega)]
  rfl
end SRC
