/-! ===== PURE: run (42): scan, sort, grade: the reference ===== -/
/-- the stack's numbers from base on were put in another order -/
def srtF (s s' : mS) (base : Nat) : Prop := s'.1 = s.1 ∧ s'.2.1 = s.2.1 ∧ (∀ q, ¬ q = 50 → s'.2.2.1 q = s.2.2.1 q) ∧ s'.2.2.2 = s.2.2.2 ∧ ∀ y, y < base → s'.2.2.1 50 y = s.2.2.1 50 y
section SRR
variable {N b a base n f f' : Nat} {s s' : mS} {l r zs zs' : List Int32} {xs : List Nod} {kf : Int32 → Int32}
theorem srtF.rf : srtF s s base := ⟨rfl, rfl, fun _ _ => rfl, rfl, fun _ _ => rfl⟩
theorem srtF.tr {s2 : mS} (h : srtF s s' base) (g : srtF s' s2 base) : srtF s s2 base := ⟨g.1.trans h.1, g.2.1.trans h.2.1, fun q hq => (g.2.2.1 q hq).trans (h.2.2.1 q hq), g.2.2.2.1.trans h.2.2.2.1, fun y hy => (g.2.2.2.2 y hy).trans (h.2.2.2.2 y hy)⟩
theorem srtF.up {k : Nat} {v : Int32} (hk : base ≤ k) : srtF s (mA s 50 (upd (s.2.2.1 50) k v)) base := ⟨rfl, rfl, fun q hq => if_neg hq, rfl, fun y hy => if_neg (by omega)⟩
theorem rG.re (G : rG s s' n f f' (xs ++ zs.map nZ)) {s2 : mS} (h : srtF s' s2 (n + xs.length)) (hl : zs'.length = zs.length) (hv : ∀ i (hi : i < zs'.length), s2.2.2.1 50 (n + xs.length + i) = zs'[i]) : rG s s2 n f f' (xs ++ zs'.map nZ) := by
  obtain ⟨⟨g1, g2, g3⟩, g4, ⟨g5, g6, g7⟩, g8, g9, g10⟩ := G
  obtain ⟨h1, h2, h3, h4, h5⟩ := h
  have hll : (xs ++ zs'.map nZ).length = (xs ++ zs.map nZ).length := by rw [List.length_append, List.length_append, List.length_map, List.length_map, hl]
  refine ⟨⟨by rw [h1, hll]; exact g1, by rw [h1]; exact g2, g3⟩, fun i hi => ?_, ⟨⟨fun q hq => by rw [h1]; exact g5.1 q hq, fun q hq => by rw [h2]; exact g5.2.1 q hq, fun q hq => by rw [h3 q (fun z => hq (by unfold vfA; omega))]; exact g5.2.2.1 q hq, fun q hq => by rw [h4]; exact g5.2.2.2 q hq⟩, fun y hy => ⟨by rw [h3 49 (by omega)]; exact (g6 y hy).1, by rw [h5 y (by omega)]; exact (g6 y hy).2⟩, fun y hy => by rw [h3 47 (by omega)]; exact g7 y hy⟩, by rw [h1]; exact g8, by rw [h1]; exact g9, by rw [h1]; exact g10⟩
  have gi := g4 i (by rw [← hll]; exact hi)
  rw [h3 47 (by omega), h3 49 (by omega)]
  by_cases c : i < xs.length
  · rw [List.getElem_append_left c] at gi ⊢
    rw [h5 _ (by omega)]
    exact gi
  · rw [List.getElem_append_right (by omega)] at gi ⊢
    rw [List.length_append, List.length_map] at hi
    rw [List.getElem_map] at gi ⊢
    have hz := rvl.z gi
    rw [hz.1]
    have e := hv (i - xs.length) (by omega)
    rw [show n + xs.length + (i - xs.length) = n + i by omega] at e
    rw [e]
    exact rvl_Z
/-- insertion, number by number -/
theorem r_srt (hN : 170000 ≤ N) (hb : b = 13 ∨ b = 14) (hl : l.length ≤ 64) (hbase : base + 70 < 9000) (h51 : s.1 51 = Int32.ofNat (base + l.length)) (hv : ∀ i (hi : i < l.length), s.2.2.1 50 (base + i) = l[i]) (hkey : ∀ (s2 : mS) (rc : Nat → Int32 → Int32 → Int32 → Int32 → Int32 → Int32 → Int32 → mS → mO) (x5 : Int32) (z : Int32), srtF s s2 base → z ∈ l → (if ¬ Int32.ofNat b = 13 then mf_332_117 N rc (Int32.ofNat b) (Int32.ofNat a) (Int32.ofNat base) x5 z s2 else mf_332_112 N rc (Int32.ofNat b) (Int32.ofNat a) (Int32.ofNat base) x5 z s2) = mf_332_128 N rc (Int32.ofNat b) (Int32.ofNat a) (Int32.ofNat base) x5 z (kf z) s2) (hkey2 : ∀ (s2 : mS) (rc : Nat → Int32 → Int32 → Int32 → Int32 → Int32 → Int32 → Int32 → mS → mO) (x5 x6 x7 : Int32) (j : Nat) (z : Int32), srtF s s2 base → z ∈ l → base + j < 9000 → s2.2.2.1 50 (base + j) = z → mf_332_140 N rc (Int32.ofNat b) (Int32.ofNat a) (Int32.ofNat base) x5 x6 x7 (Int32.ofNat (base + (j + 1))) s2 = mf_332_176 N rc (Int32.ofNat b) (Int32.ofNat a) (Int32.ofNat base) x5 x6 x7 (Int32.ofNat (base + (j + 1))) (kf z) s2) : ∃ s', mf_332_83 N (Int32.ofNat b) (Int32.ofNat a) (Int32.ofNat base) s = some (s', none) ∧ srtF s s' base ∧ ∀ i (hi : i < (srt kf l).length), s'.2.2.1 50 (base + i) = (srt kf l)[i] := by
  have E0 : mf_332_83 N (Int32.ofNat b) (Int32.ofNat a) (Int32.ofNat base) s = mf_332_L1 N N 0 (Int32.ofNat b) (Int32.ofNat a) (Int32.ofNat base) (Int32.ofNat (base + 1)) (Int32.ofNat 0) (Int32.ofNat 0) (Int32.ofNat 0) s := by
    unfold mf_332_83
    rw [show Int32.ofNat base + 1 = Int32.ofNat (base + 1) from i32al]
    rfl
  rw [E0]
  by_cases hl0 : l.length = 0
  · refine ⟨s, ?_, srtF.rf, fun i hi => by rw [srt_len] at hi; omega⟩
    obtain ⟨N1, hN1⟩ : ∃ N1, N = N1 + 1 := ⟨N - 1, by omega⟩
    rw [hl0] at h51
    have : ∀ q, mf_332_L1 N (q + 1) 0 (Int32.ofNat b) (Int32.ofNat a) (Int32.ofNat base) (Int32.ofNat (base + 1)) (Int32.ofNat 0) (Int32.ofNat 0) (Int32.ofNat 0) s = some (s, none) := fun q => by
      show mf_332_88 N (mf_332_L1 N q) (Int32.ofNat b) (Int32.ofNat a) (Int32.ofNat base) (Int32.ofNat (base + 1)) s = _
      have c : base + 0 ≤ base + 1 := by omega
      unfold mf_332_88 mf_332_218
      simp (disch := omega) only [ev_S, ev_P, ↓reduceIte, Nat.reduceEqDiff, Nat.reduceLeDiff, Nat.reduceAdd, Nat.reduceMul, Nat.reduceSub, reduceCtorEq, l32_0, l32_1, l32_2, l32_3, l32_4, l32_5, l32_6, l32_7, l32_8, l32_9, l32_10, l32_11, l32_12, l32_13, l32_14, l32_15, l32_16, l32_17, l32_18, l32_19, l32_20, l32_21, l32_22, l32_23, l32_24, l32_25, l32_26, l32_27, l32_28, l32_29, l32_33, l32_40, l32_41, l32_44, l32_45, l32_59, l32_61, l32_91, l32_93, l32_123, l32_125, h51, c]
    have := this N1
    rw [← hN1] at this
    exact this
  · refine lpo (fun F i (s' : mS) => mf_332_L1 N F 0 (Int32.ofNat b) (Int32.ofNat a) (Int32.ofNat base) (Int32.ofNat (base + (i + 1))) (Int32.ofNat 0) (Int32.ofNat 0) (Int32.ofNat 0) s') (l.length - 1) 70 (fun i s' => srtF s s' base ∧ (∀ j (hj : j < (srt kf (l.take (i + 1))).length), s'.2.2.1 50 (base + j) = (srt kf (l.take (i + 1)))[j]) ∧ ∀ j (hj : j < l.length), i + 1 ≤ j → s'.2.2.1 50 (base + j) = l[j]) (fun R => ∃ s', R = some (s', none) ∧ srtF s s' base ∧ ∀ i (hi : i < (srt kf l).length), s'.2.2.1 50 (base + i) = (srt kf l)[i]) ?_ ?_ (l.length - 1) 0 N s (Nat.zero_add _) (by omega) ⟨srtF.rf, fun j hj => ?_, fun j hj _ => hv j hj⟩
    · intro F i s1 hi hP
      left
      obtain ⟨P1, P2, P3⟩ := hP
      have hi1 : i + 1 < l.length := by omega
      have hpl : (srt kf (l.take (i + 1))).length = i + 1 := by rw [srt_len, List.length_take]; omega
      have h51' : s1.1 51 = Int32.ofNat (base + l.length) := by rw [P1.1]; exact h51
      have hm := P3 (i + 1) hi1 (Nat.le_refl _)
      have n1 : ¬ base + l.length ≤ base + (i + 1) := by omega
      have hpm : ∀ z ∈ srt kf (l.take (i + 1)), z ∈ l := fun z hz => List.mem_of_mem_take (srt_mem _ hz)
      have hss := srt_s (kf := kf) (l := l) hi1
      generalize hp : srt kf (l.take (i + 1)) = p at *
      -- to the inner head
      have E1 : mf_332_L1 N (F + 70) 0 (Int32.ofNat b) (Int32.ofNat a) (Int32.ofNat base) (Int32.ofNat (base + (i + 1))) (Int32.ofNat 0) (Int32.ofNat 0) (Int32.ofNat 0) s1 = mf_332_L1 N (F + 69) 1 (Int32.ofNat b) (Int32.ofNat a) (Int32.ofNat base) (Int32.ofNat (base + (i + 1))) l[i + 1] (kf l[i + 1]) (Int32.ofNat (base + p.length)) s1 := by
        show mf_332_88 N (mf_332_L1 N (F + 69)) (Int32.ofNat b) (Int32.ofNat a) (Int32.ofNat base) (Int32.ofNat (base + (i + 1))) s1 = _
        have k1 := hkey s1 (mf_332_L1 N (F + 69)) (Int32.ofNat (base + (i + 1))) l[i + 1] P1 (List.getElem_mem hi1)
        unfold mf_332_88
        rw [h51', if_neg (fun q => n1 ((i32le (by omega) (by omega)).mp q))]
        unfold mf_332_97
        rw [if_pos (gd (m := base + (i + 1)) rfl (by omega) (by omega)), ev_S.1 (by omega), hm, k1, hpl]
        rfl
      -- the inner rounds
      have inner : ∀ j F (s2 : mS), j ≤ p.length → j < F → srtF s s2 base → invA (s2.2.2.1 50) base p j → ipos kf l[i + 1] p p.length = ipos kf l[i + 1] p j → (∀ y, base + (i + 1) < y → s2.2.2.1 50 y = s1.2.2.1 50 y) → ∃ s3 F', F ≤ F' + j + 1 ∧ mf_332_L1 N F 1 (Int32.ofNat b) (Int32.ofNat a) (Int32.ofNat base) (Int32.ofNat (base + (i + 1))) l[i + 1] (kf l[i + 1]) (Int32.ofNat (base + j)) s2 = mf_332_L1 N F' 0 (Int32.ofNat b) (Int32.ofNat a) (Int32.ofNat base) (Int32.ofNat (base + (i + 1 + 1))) (Int32.ofNat 0) (Int32.ofNat 0) (Int32.ofNat 0) s3 ∧ srtF s s3 base ∧ (∀ q (hq : q < (ins kf p l[i + 1]).length), s3.2.2.1 50 (base + q) = (ins kf p l[i + 1])[q]) ∧ ∀ y, base + (i + 1) < y → s3.2.2.1 50 y = s1.2.2.1 50 y := fun j => by
        have FIN : ∀ j F (s2 : mS), j ≤ p.length → srtF s s2 base → invA (s2.2.2.1 50) base p j → ipos kf l[i + 1] p p.length = j → (∀ y, base + (i + 1) < y → s2.2.2.1 50 y = s1.2.2.1 50 y) → ∃ s3, mf_332_203 N (mf_332_L1 N F) (Int32.ofNat b) (Int32.ofNat a) (Int32.ofNat base) (Int32.ofNat (base + (i + 1))) l[i + 1] (Int32.ofNat (base + j)) s2 = mf_332_L1 N F 0 (Int32.ofNat b) (Int32.ofNat a) (Int32.ofNat base) (Int32.ofNat (base + (i + 1 + 1))) (Int32.ofNat 0) (Int32.ofNat 0) (Int32.ofNat 0) s3 ∧ srtF s s3 base ∧ (∀ q (hq : q < (ins kf p l[i + 1]).length), s3.2.2.1 50 (base + q) = (ins kf p l[i + 1])[q]) ∧ ∀ y, base + (i + 1) < y → s3.2.2.1 50 y = s1.2.2.1 50 y := fun j F s2 hj S2 I2 hpos hrest => by
          refine ⟨mA s2 50 (upd (s2.2.2.1 50) (base + j) l[i + 1]), ?_, S2.tr (srtF.up (by omega)), fun q hq => ?_, fun y hy => ?_⟩
          · unfold mf_332_203
            rw [if_pos (gd (m := base + j) rfl (by omega) (by omega)), ev_S.1 (by omega), show Int32.ofNat (base + (i + 1)) + 1 = Int32.ofNat (base + (i + 1 + 1)) from i32al]
            rfl
          · have e := I2.fin (m := l[i + 1]) hj
            unfold ins at hq ⊢
            simp only [hpos] at hq ⊢
            exact e q hq
          · show (if y = base + j then _ else s2.2.2.1 50 y) = _
            rw [if_neg (by omega)]
            exact hrest y hy
        induction j with
        | zero =>
          intro F s2 hj hF S2 I2 hpos hrest
          obtain ⟨F1, rfl⟩ : ∃ F1, F = F1 + 1 := ⟨F - 1, by omega⟩
          obtain ⟨s3, e1, e2, e3, e4⟩ := FIN 0 F1 s2 hj S2 I2 hpos hrest
          refine ⟨s3, F1, by omega, ?_, e2, e3, e4⟩
          show mf_332_134 N (mf_332_L1 N F1) (Int32.ofNat b) (Int32.ofNat a) (Int32.ofNat base) (Int32.ofNat (base + (i + 1))) l[i + 1] (kf l[i + 1]) (Int32.ofNat (base + 0)) s2 = _
          unfold mf_332_134
          rw [if_pos ((i32le (by omega) (by omega)).mpr (by omega)), e1]
        | succ j ih =>
          intro F s2 hj hF S2 I2 hpos hrest
          obtain ⟨F1, rfl⟩ : ∃ F1, F = F1 + 1 := ⟨F - 1, by omega⟩
          have hjp : j < p.length := by omega
          have hcell := I2.1 j hjp (by omega)
          have hgd : p.getD j 0 = p[j] := by
            rw [List.getD_eq_getElem?_getD, List.getElem?_eq_getElem hjp]
            rfl
          have k2 := hkey2 s2 (mf_332_L1 N F1) (Int32.ofNat (base + (i + 1))) l[i + 1] (kf l[i + 1]) j p[j] S2 (hpm _ (List.getElem_mem hjp)) (by omega) hcell
          have E2 : mf_332_L1 N (F1 + 1) 1 (Int32.ofNat b) (Int32.ofNat a) (Int32.ofNat base) (Int32.ofNat (base + (i + 1))) l[i + 1] (kf l[i + 1]) (Int32.ofNat (base + (j + 1))) s2 = mf_332_176 N (mf_332_L1 N F1) (Int32.ofNat b) (Int32.ofNat a) (Int32.ofNat base) (Int32.ofNat (base + (i + 1))) l[i + 1] (kf l[i + 1]) (Int32.ofNat (base + (j + 1))) (kf p[j]) s2 := by
            show mf_332_134 N (mf_332_L1 N F1) (Int32.ofNat b) (Int32.ofNat a) (Int32.ofNat base) (Int32.ofNat (base + (i + 1))) l[i + 1] (kf l[i + 1]) (Int32.ofNat (base + (j + 1))) s2 = _
            unfold mf_332_134
            rw [if_neg (fun q => absurd ((i32le (by omega) (by omega)).mp q) (by omega)), k2]
          have hip : ipos kf l[i + 1] p (j + 1) = if kf l[i + 1] < kf p[j] then ipos kf l[i + 1] p j else j + 1 := by
            show (if kf l[i + 1] < kf (p.getD j 0) then ipos kf l[i + 1] p j else j + 1) = _
            rw [hgd]
          rw [E2]
          unfold mf_332_176
          by_cases c : kf l[i + 1] < kf p[j]
          · rw [if_neg (Int32.not_le.mpr c)]
            rw [if_pos c] at hip
            obtain ⟨s3, F', e1, e2, e3, e4, e5⟩ := ih F1 (mA s2 50 (upd (s2.2.2.1 50) (base + (j + 1)) (s2.2.2.1 50 (base + j)))) (by omega) (by omega) (S2.tr (srtF.up (by omega))) (I2.step hjp) (by rw [hpos, hip]) (fun y hy => by
              show (if y = base + (j + 1) then _ else s2.2.2.1 50 y) = _
              rw [if_neg (by omega)]
              exact hrest y hy)
            refine ⟨s3, F', by omega, ?_, e3, e4, e5⟩
            rw [← e2]
            unfold mf_332_181
            have es : Int32.ofNat (base + (j + 1)) - 1 = Int32.ofNat (base + j) := by
              rw [show base + (j + 1) = base + j + 1 by omega, Int32.ofNat_add]
              exact Int32.add_sub_cancel _ _
            have ea : Int32.ofNat (base + (j + 1)) + (-1) = Int32.ofNat (base + j) := by
              rw [← es]
              exact (Int32.sub_eq_add_neg _ _).symm
            rw [es, if_pos (gd (m := base + j) rfl (by omega) (by omega)), if_pos (gd (m := base + (j + 1)) rfl (by omega) (by omega)), ea, ev_S.1 (by omega), ev_S.1 (by omega)]
          · rw [if_pos (Int32.not_lt.mp c)]
            rw [if_neg c] at hip
            obtain ⟨s3, e1, e2, e3, e4⟩ := FIN (j + 1) F1 s2 hj S2 I2 (by rw [hpos, hip]) hrest
            exact ⟨s3, F1, by omega, e1, e2, e3, e4⟩
      obtain ⟨s3, F', e1, e2, e3, e4, e5⟩ := inner p.length (F + 69) s1 (Nat.le_refl _) (by omega) P1 ⟨fun q hq _ => P2 q hq, fun q hq h => by omega⟩ rfl (fun y _ => rfl)
      refine ⟨s3, F', ⟨e3, ?_, fun j hj h => ?_⟩, by omega, ?_⟩
      · rw [hss]
        exact e4
      · rw [e5 _ (by omega)]
        exact P3 j hj (by omega)
      · rw [E1, e2]
    · intro F s1 hP
      obtain ⟨P1, P2, P3⟩ := hP
      have e : l.take (l.length - 1 + 1) = l := by rw [show l.length - 1 + 1 = l.length by omega, List.take_length]
      rw [e] at P2
      refine ⟨s1, ?_, P1, P2⟩
      have h51' : s1.1 51 = Int32.ofNat (base + l.length) := by rw [P1.1]; exact h51
      show mf_332_88 N (mf_332_L1 N F) (Int32.ofNat b) (Int32.ofNat a) (Int32.ofNat base) (Int32.ofNat (base + (l.length - 1 + 1))) s1 = _
      have c : base + l.length ≤ base + (l.length - 1 + 1) := by omega
      unfold mf_332_88 mf_332_218
      simp (disch := omega) only [ev_S, ev_P, ↓reduceIte, Nat.reduceEqDiff, Nat.reduceLeDiff, Nat.reduceAdd, Nat.reduceMul, Nat.reduceSub, reduceCtorEq, l32_0, l32_1, l32_2, l32_3, l32_4, l32_5, l32_6, l32_7, l32_8, l32_9, l32_10, l32_11, l32_12, l32_13, l32_14, l32_15, l32_16, l32_17, l32_18, l32_19, l32_20, l32_21, l32_22, l32_23, l32_24, l32_25, l32_26, l32_27, l32_28, l32_29, l32_33, l32_40, l32_41, l32_44, l32_45, l32_59, l32_61, l32_91, l32_93, l32_123, l32_125, h51', c]
    · have e : srt kf (l.take (0 + 1)) = [l[0]'(by omega)] := by
        rw [srt_s (show 0 < l.length by omega), List.take_zero]
        rfl
      rw [e] at hj
      have hj0 : j = 0 := by
        rw [List.length_singleton] at hj
        omega
      subst hj0
      simp only [e, List.getElem_cons_zero]
      exact hv 0 (by omega)
end SRR
