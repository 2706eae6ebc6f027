/-! ===== PURE: what is asked of the outside holds ===== -/
section OUT
variable {N : Nat} {L : Nat} {xs : Nat → Int32} {t : cS}
theorem rd_X {j : Nat} : zz_rd (zt_X L xs) [] (zz_out + j) = zt_X L xs j := by
  unfold zz_rd
  rw [if_neg (by omega), Nat.add_sub_cancel_left]
theorem xw {w : Nat} (hw : w < 41) : zt_X L xs (w + 1) = some (.inr (20, [.long (zy_code.getD w 0), .int (zy_least.getD w 0), .int (zy_most.getD w 0), .int (Int32.ofNat w)])) := by
  unfold zt_X
  rw [if_neg (by omega), if_pos (by omega)]
  rfl
theorem gv_X {j k : Nat} {cj : Nat} {fs : List Value} (h : zt_X L xs j = some (.inr (cj, fs))) (hc : ¬ cj < 20) : hgv (zt_X L xs) [] (zz_out + j) cj k = fs[k]? := by
  unfold hgv
  rw [if_neg hc, if_neg (by omega), Nat.add_sub_cancel_left, h]
  exact if_pos rfl
theorem cl_X {j : Nat} {cj : Nat} {fs : List Value} (h : zt_X L xs j = some (.inr (cj, fs))) (hc : ¬ cj < 20) : hcl (zt_X L xs) [] (zz_out + j) cj = true := by
  unfold hcl
  rw [rd_X, h]
  exact decide_eq_true ⟨⟨fun q => by omega, fun q => absurd q hc⟩, Or.inl rfl⟩
theorem cd_X : ∀ w : Fin 41, zy_code.getD w.1 0 = Int64.ofNat (evB 32 (wd w.1)) := by decide
theorem le_X : ∀ w : Fin 41, zy_least.getD w.1 0 = Int32.ofNat (wlo w.1) := by decide
theorem mo_X : ∀ w : Fin 41, zy_most.getD w.1 0 = Int32.ofNat (whi w.1) := by decide
theorem mp_X : ∀ w : Fin 41, zy_map.getD w.1 0 = Int32.ofNat (swm w.1) := by decide
theorem oY_X : oY (zt_X L xs) := fun w hw => by
  have h := xw (L := L) (xs := xs) hw
  refine ⟨cl_X h (by decide), ?_, ?_⟩
  · unfold hgi
    rw [gv_X h (by decide)]
    show some (zy_least.getD w 0) = _
    rw [le_X ⟨w, hw⟩]
  · unfold hgi
    rw [gv_X h (by decide)]
    show some (zy_most.getD w 0) = _
    rw [mo_X ⟨w, hw⟩]
theorem oZ_X : oZ (zt_X L xs) := fun w hw => by
  have h := xw (L := L) (xs := xs) hw
  refine ⟨?_, ?_⟩
  · unfold hgi
    rw [gv_X h (by decide)]
    rfl
  · have h43 : zt_X L xs 43 = some (.inl (0, 41, .inl fun i => zy_map.getD i 0)) := rfl
    unfold hai
    rw [rd_X, h43]
    show (if 0 = 0 ∧ ¬ (Int32.ofNat w < 0 ∨ 41 ≤ (Int32.ofNat w).toNatClampNeg) then some (zy_map.getD (Int32.ofNat w).toNatClampNeg 0) else none) = _
    rw [ev_S.1 (by omega), if_pos ⟨rfl, fun q => q.elim (fun q => i32n (by omega) q) (fun q => by omega)⟩, mp_X ⟨w, hw⟩]
/-- indexOf goes over the bytes -/
theorem ix_L {X : Nat → Option zz_C} {x0 : Nat} {v : Int32} {l : List Int32} (hx : ¬ x0 < zz_out) (hl : l.length < 1000) (hb : ∀ i, i < l.length → hab X [] x0 (Int32.ofNat i) = some (l.getD i 0)) : ∀ d j q, j + d = l.length → ∃ r : Int32, cf_364_L2 N X (q + (d + 1)) 0 x0 (Int32.ofNat l.length) v (Int32.ofNat j) t = some (t, .inl (some (.int r))) ∧ (((∃ k, j ≤ k ∧ k < l.length ∧ l.getD k 0 = v) ∧ ∃ m : Nat, m < l.length ∧ r = Int32.ofNat m) ∨ ((∀ k, j ≤ k → k < l.length → ¬ l.getD k 0 = v) ∧ r = -Int32.ofNat 1)) := by
  intro d
  induction d with
  | zero =>
    intro j q hj
    refine ⟨-Int32.ofNat 1, ?_, Or.inr ⟨fun k k1 k2 => by omega, rfl⟩⟩
    have hj : j = l.length := hj
    subst hj
    show cf_364_7 N X (cf_364_L2 N X q) x0 (Int32.ofNat l.length) v (Int32.ofNat l.length) t = _
    unfold cf_364_7 cf_364_31
    simp (disch := omega) only [ev_S, ev_C, ↓reduceIte, Nat.reduceEqDiff, Nat.reduceLeDiff, Nat.reduceAdd, Nat.reduceMul, Nat.reduceSub, reduceCtorEq, l32_0, l32_1, l32_2, l32_3, l32_4, l32_5, l32_6, l32_7, l32_8, l32_9, l32_10, l32_11, l32_12, l32_13, l32_14, l32_15, l32_16, l32_17, l32_18, l32_19, l32_20, l32_21, l32_22, l32_23, l32_24, l32_25, l32_26, l32_27, l32_28, l32_29, l32_33, l32_40, l32_41, l32_44, l32_45, l32_59, l32_61, l32_91, l32_93, l32_123, l32_125]
  | succ d ih =>
    intro j q hj
    have hj1 : j < l.length := by omega
    have n1 : ¬ l.length ≤ j := by omega
    have hx' : (x0 < zz_out) = False := eq_false hx
    have h1 := hb j hj1
    by_cases z : l.getD j 0 = v
    · refine ⟨Int32.ofNat j, ?_, Or.inl ⟨⟨j, Nat.le_refl _, hj1, z⟩, j, hj1, rfl⟩⟩
      show cf_364_7 N X (cf_364_L2 N X (q + (d + 1))) x0 (Int32.ofNat l.length) v (Int32.ofNat j) t = _
      rw [z] at h1
      unfold cf_364_7 cf_364_13 cf_364_22
      simp (disch := omega) only [ev_S, ev_C, ↓reduceIte, Nat.reduceEqDiff, Nat.reduceLeDiff, Nat.reduceAdd, Nat.reduceMul, Nat.reduceSub, reduceCtorEq, l32_0, l32_1, l32_2, l32_3, l32_4, l32_5, l32_6, l32_7, l32_8, l32_9, l32_10, l32_11, l32_12, l32_13, l32_14, l32_15, l32_16, l32_17, l32_18, l32_19, l32_20, l32_21, l32_22, l32_23, l32_24, l32_25, l32_26, l32_27, l32_28, l32_29, l32_33, l32_40, l32_41, l32_44, l32_45, l32_59, l32_61, l32_91, l32_93, l32_123, l32_125, n1, hx', h1, ev_b32]
    · obtain ⟨r, r1, r2⟩ := ih (j + 1) q (by omega)
      refine ⟨r, ?_, ?_⟩
      · rw [← r1]
        show cf_364_7 N X (cf_364_L2 N X (q + (d + 1))) x0 (Int32.ofNat l.length) v (Int32.ofNat j) t = _
        unfold cf_364_7 cf_364_13 cf_364_25
        have z' : ¬ l.getD j (Int32.ofNat 0) = v := z
        simp (disch := omega) only [ev_S, ev_C, ↓reduceIte, Nat.reduceEqDiff, Nat.reduceLeDiff, Nat.reduceAdd, Nat.reduceMul, Nat.reduceSub, reduceCtorEq, l32_0, l32_1, l32_2, l32_3, l32_4, l32_5, l32_6, l32_7, l32_8, l32_9, l32_10, l32_11, l32_12, l32_13, l32_14, l32_15, l32_16, l32_17, l32_18, l32_19, l32_20, l32_21, l32_22, l32_23, l32_24, l32_25, l32_26, l32_27, l32_28, l32_29, l32_33, l32_40, l32_41, l32_44, l32_45, l32_59, l32_61, l32_91, l32_93, l32_123, l32_125, n1, hx', h1, ev_b32]
        first | rfl | exact if_pos z'
      · rcases r2 with ⟨⟨k, k1, k2, k3⟩, r2⟩ | ⟨r2, r3⟩
        · exact Or.inl ⟨⟨k, by omega, k2, k3⟩, r2⟩
        · refine Or.inr ⟨fun k k1 k2 => ?_, r3⟩
          by_cases y : k = j
          · subst y
            exact z
          · exact r2 k (by omega) k2
theorem ch_X : ∀ c : Fin 128, Int8.toInt32 (Int32.toInt8 (UInt32.toInt32 (Int32.toUInt32 (Int32.ofNat c.1) % 65536))) = Int32.ofNat c.1 ∧ UInt32.toInt32 (Int32.toUInt32 (Int32.ofNat c.1) % 65536) = Int32.ofNat c.1 := by decide
theorem b0_X : ∀ c : Fin 128, (sgB c.1 = true → ∃ k : Fin 19, (zy_byt 0).getD k.1 0 = Int32.ofNat c.1) ∧ (¬ sgB c.1 = true → ∀ k : Fin 19, ¬ (zy_byt 0).getD k.1 0 = Int32.ofNat c.1) := by decide
theorem b1_X : ∀ c : Fin 128, (eqB c.1 = true → ∃ k : Fin 4, (zy_byt 1).getD k.1 0 = Int32.ofNat c.1) ∧ (¬ eqB c.1 = true → ∀ k : Fin 4, ¬ (zy_byt 1).getD k.1 0 = Int32.ofNat c.1) := by decide
/-- indexOf of a string outside -/
theorem ix_X {u c n : Nat} (hN : 170000 ≤ N) (hu : u = 0 ∨ u = 1) (hn : n = (zy_byt u).length) (hc : c < 128) : ∃ r : Int32, cf_359 N (zt_X L xs) (zz_out + (44 + u)) (UInt32.toInt32 (Int32.toUInt32 (Int32.ofNat c) % 65536)) t = some (t, .inl (some (.int r))) ∧ (((∃ k, k < n ∧ (zy_byt u).getD k 0 = Int32.ofNat c) ∧ ∃ m : Nat, m < 100 ∧ r = Int32.ofNat m) ∨ ((∀ k, k < n → ¬ (zy_byt u).getD k 0 = Int32.ofNat c) ∧ r = -Int32.ofNat 1)) := by
  have hn20 : 1 ≤ n ∧ n < 20 := by rcases hu with z | z <;> subst z <;> rw [hn] <;> decide
  have h44 : zt_X L xs (44 + u) = some (.inr (21, [.ref (zz_out + (47 + u)), .int 0])) := by rcases hu with z | z <;> subst z <;> rfl
  have h47 : zt_X L xs (47 + u) = some (.inl (2, (zy_byt u).length, .inl fun i => (zy_byt u).getD i 0)) := by rcases hu with z | z <;> subst z <;> rfl
  have hcl' : (hcl (zt_X L xs) [] (zz_out + (44 + u)) 21 = true) = True := eq_true (cl_X h44 (by decide))
  have o1 : (zz_out + (44 + u) < zz_out) = False := eq_false (by omega)
  have o2 : (zz_out + (47 + u) < zz_out) = False := eq_false (by omega)
  have hg0 : hgr (zt_X L xs) [] (zz_out + (44 + u)) 21 0 = some (zz_out + (47 + u)) := by
    unfold hgr
    rw [gv_X h44 (by decide)]
    rfl
  have hg1 : hgi (zt_X L xs) [] (zz_out + (44 + u)) 21 1 = some (Int32.ofNat 0) := by
    unfold hgi
    rw [gv_X h44 (by decide)]
    rfl
  have hle : hlen (zt_X L xs) [] (zz_out + (47 + u)) = some (Int32.ofNat n) := by
    unfold hlen
    rw [rd_X, h47, hn]
    exact if_pos (Or.inl (by decide))
  have hb : ∀ i, i < (zy_byt u).length → hab (zt_X L xs) [] (zz_out + (47 + u)) (Int32.ofNat i) = some ((zy_byt u).getD i 0) := fun i hi => by
    unfold hab
    rw [rd_X, h47]
    show (if (2 = 2 ∨ 2 = 3) ∧ ¬ (Int32.ofNat i < 0 ∨ (zy_byt u).length ≤ (Int32.ofNat i).toNatClampNeg) then some ((zy_byt u).getD (Int32.ofNat i).toNatClampNeg 0) else none) = _
    rw [ev_S.1 (by omega), if_pos ⟨Or.inl rfl, fun q => q.elim (fun q => i32n (by omega) q) (fun q => by omega)⟩]
  obtain ⟨r, r1, r2⟩ := ix_L (N := N) (t := t) (X := zt_X L xs) (x0 := zz_out + (47 + u)) (v := Int32.ofNat c) (l := zy_byt u) (by omega) (by omega) hb (zy_byt u).length 0 (N - ((zy_byt u).length + 1)) (Nat.zero_add _)
  rw [show N - ((zy_byt u).length + 1) + ((zy_byt u).length + 1) = N by omega, ← hn] at r1
  have hch := ch_X ⟨c, hc⟩
  refine ⟨r, ?_, ?_⟩
  · have e2 := hch.1
    have e3 := hch.2
    rw [e3]
    rw [e3] at e2
    have e61 : cf_361 N (zt_X L xs) (zz_out + (44 + u)) t = some (t, .inl (some (.int (Int32.ofNat 1)))) := by
      unfold cf_361 cf_361_0 cf_361_6 cf_361_13 cf_361_18
      rw [hg1]
      rfl
    have e62 : cf_362 N (zt_X L xs) (Int32.ofNat c) t = some (t, .inl (some (.int (Int32.ofNat 1)))) := by
      have n255 : ¬ 255 < c := by omega
      unfold cf_362 cf_362_0 cf_362_4 cf_362_11 cf_362_16
      simp (disch := omega) only [ev_S, ev_C, ↓reduceIte, Nat.reduceEqDiff, Nat.reduceLeDiff, Nat.reduceAdd, Nat.reduceMul, Nat.reduceSub, reduceCtorEq, l32_0, l32_1, l32_2, l32_3, l32_4, l32_5, l32_6, l32_7, l32_8, l32_9, l32_10, l32_11, l32_12, l32_13, l32_14, l32_15, l32_16, l32_17, l32_18, l32_19, l32_20, l32_21, l32_22, l32_23, l32_24, l32_25, l32_26, l32_27, l32_28, l32_29, l32_33, l32_40, l32_41, l32_44, l32_45, l32_59, l32_61, l32_91, l32_93, l32_123, l32_125, l32_255, n255]
    have e58 : cf_358 N (zt_X L xs) (zz_out + (44 + u)) t = some (t, .inl (some (.int (Int32.ofNat 0)))) := by
      unfold cf_358 cf_358_0 cf_358_6 cf_358_14
      rw [hg1]
      rfl
    have e57 : cf_357 N (zt_X L xs) (zz_out + (44 + u)) t = some (t, .inl (some (.int (Int32.ofNat n)))) := by
      have sh : Int32.ofNat n >>> (Int32.ofNat 0 &&& 31) = Int32.ofNat n := by
        rcases hu with z | z <;> subst z <;> subst hn <;> decide
      unfold cf_357 cf_357_0 cf_357_9
      simp (disch := omega) only [ev_S, ev_C, ↓reduceIte, Nat.reduceEqDiff, Nat.reduceLeDiff, Nat.reduceAdd, Nat.reduceMul, Nat.reduceSub, reduceCtorEq, l32_0, l32_1, l32_2, l32_3, l32_4, l32_5, l32_6, l32_7, l32_8, l32_9, l32_10, l32_11, l32_12, l32_13, l32_14, l32_15, l32_16, l32_17, l32_18, l32_19, l32_20, l32_21, l32_22, l32_23, l32_24, l32_25, l32_26, l32_27, l32_28, l32_29, l32_33, l32_40, l32_41, l32_44, l32_45, l32_59, l32_61, l32_91, l32_93, l32_123, l32_125, hg0, o2, hle, ev_b32, o1, hcl', e58, sh]
    have e64 : cf_364 N (zt_X L xs) (zz_out + (47 + u)) (Int32.ofNat c) (Int32.ofNat 0) (Int32.ofNat n) t = some (t, .inl (some (.int r))) := by
      unfold cf_364 cf_364_0
      rw [e2]
      exact r1
    unfold cf_359 cf_359_0 cf_359_6 cf_360 cf_360_0 cf_360_4 cf_360_7 cf_360_17 cf_360_20 cf_360_36 cf_363 cf_363_0 cf_363_4 cf_363_9 cf_363_29 cf_363_36
    simp (disch := omega) only [ev_S, ev_C, ↓reduceIte, Nat.reduceEqDiff, Nat.reduceLeDiff, Nat.reduceAdd, Nat.reduceMul, Nat.reduceSub, reduceCtorEq, l32_0, l32_1, l32_2, l32_3, l32_4, l32_5, l32_6, l32_7, l32_8, l32_9, l32_10, l32_11, l32_12, l32_13, l32_14, l32_15, l32_16, l32_17, l32_18, l32_19, l32_20, l32_21, l32_22, l32_23, l32_24, l32_25, l32_26, l32_27, l32_28, l32_29, l32_33, l32_40, l32_41, l32_44, l32_45, l32_59, l32_61, l32_91, l32_93, l32_123, l32_125, o1, hcl', e61, hg0, e57, e62, o2, hle, ev_b32, e64]
  · rcases r2 with ⟨⟨k, k1, k2, k3⟩, m, m1, m2⟩ | ⟨k1, k2⟩
    · exact Or.inl ⟨⟨k, by omega, k3⟩, m, by omega, m2⟩
    · exact Or.inr ⟨fun k hk => k1 k (Nat.zero_le _) (by omega), k2⟩
theorem oX_X (hN : 170000 ≤ N) : oX N (zt_X L xs) := by
  have h44 : zt_X L xs 44 = some (.inr (21, [.ref (zz_out + 47), .int 0])) := rfl
  have h45 : zt_X L xs 45 = some (.inr (21, [.ref (zz_out + 48), .int 0])) := rfl
  have h42 : zt_X L xs 42 = some (.inl (6, 41, .inr (.inr (.inr (.inr fun i => some (zz_out + (i + 1))))))) := rfl
  refine ⟨?_, fun i hi => ⟨?_, ?_⟩, cl_X h44 (by decide), cl_X h45 (by decide), fun t c hc => ?_, fun t c hc => ?_⟩
  · unfold hlen
    rw [rd_X, h42]
    exact if_pos (Or.inr (by omega))
  · unfold har haq
    rw [rd_X, h42]
    show (match (if (4 ≤ 6 ∧ (6 < 6 ∨ ¬ zz_out + 42 < zz_out)) ∧ ¬ (Int32.ofNat i < 0 ∨ 41 ≤ (Int32.ofNat i).toNatClampNeg) then some (some (zz_out + ((Int32.ofNat i).toNatClampNeg + 1))) else none : Option (Option Nat)) with
      | some (some x) => some x
      | _ => none) = _
    rw [ev_S.1 (by omega), if_pos ⟨⟨by decide, Or.inr (by omega)⟩, fun q => q.elim (fun q => i32n (by omega) q) (fun q => by omega)⟩]
  · unfold hgl
    rw [gv_X (xw hi) (by decide)]
    show some (zy_code.getD i 0) = _
    rw [cd_X ⟨i, hi⟩]
  · obtain ⟨r, r1, r2⟩ := ix_X (N := N) (L := L) (xs := xs) (t := t) (u := 0) (c := c) (n := 19) hN (Or.inl rfl) rfl hc
    refine ⟨r, r1, fun q => ?_, fun q => ?_⟩
    · obtain ⟨k, hk⟩ := (b0_X ⟨c, hc⟩).1 (sgB_iff.mpr q)
      rcases r2 with ⟨-, r2⟩ | ⟨r2, -⟩
      · exact r2
      · exact absurd hk (r2 k.1 k.2)
    · rcases r2 with ⟨⟨k, k1, k2⟩, -⟩ | ⟨-, r2⟩
      · exact absurd k2 ((b0_X ⟨c, hc⟩).2 (fun z => q (sgB_iff.mp z)) ⟨k, k1⟩)
      · exact r2
  · obtain ⟨r, r1, r2⟩ := ix_X (N := N) (L := L) (xs := xs) (t := t) (u := 1) (c := c) (n := 4) hN (Or.inr rfl) rfl hc
    refine ⟨r, r1, fun q => ?_, fun q => ?_⟩
    · obtain ⟨k, hk⟩ := (b1_X ⟨c, hc⟩).1 (eqB_iff.mpr q)
      rcases r2 with ⟨-, r2⟩ | ⟨r2, -⟩
      · exact r2
      · exact absurd hk (r2 k.1 k.2)
    · rcases r2 with ⟨⟨k, k1, k2⟩, -⟩ | ⟨-, r2⟩
      · exact absurd k2 ((b1_X ⟨c, hc⟩).2 (fun z => q (eqB_iff.mp z)) ⟨k, k1⟩)
      · exact r2
end OUT
