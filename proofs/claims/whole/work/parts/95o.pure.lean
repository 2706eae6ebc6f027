/-! ===== PURE: run (16): what the class gathers; ends of operations ===== -/
/-- what an operation of the class leaves alone: as hfr, but for the note of a division by 0 and the places in order -/
def hfw (t t' : cS) : Prop := (∀ k f, ¬ (k = 42 ∧ (f = 1 ∨ f = 3)) → ¬ (k = 58 ∧ f = 1) → kI t' k f = kI t k f) ∧ kL t' = kL t ∧ kP t' = kP t ∧ (∀ k, k ≠ 43 → k ≠ 44 → k ≠ 111 → (k ≠ 60 → kA t' k = kA t k) ∧ kB t' k = kB t k ∧ kD t' k = kD t k) ∧ kM t' = kM t ∧ kH t' = kH t ∧ kN t ≤ kN t' ∧ kN t' + pot t ≤ kN t + pot t' ∧ kQ t' + poq t ≤ kQ t + poq t' ∧ (kA t' 60).1 = (kA t 60).1
theorem hfw.rf {t : cS} : hfw t t := ⟨fun _ _ _ _ => rfl, rfl, rfl, fun _ _ _ _ => ⟨fun _ => rfl, rfl, rfl⟩, rfl, rfl, Nat.le_refl _, Nat.le_refl _, Nat.le_refl _, rfl⟩
theorem hfw.tr {t t1 t2 : cS} (h : hfw t t1) (g : hfw t1 t2) : hfw t t2 := by
  obtain ⟨h1, h2, h3, h4, h5, h6, h7, h8, h9, h10⟩ := h
  obtain ⟨g1, g2, g3, g4, g5, g6, g7, g8, g9, g10⟩ := g
  exact ⟨fun k f r r' => (g1 k f r r').trans (h1 k f r r'), g2.trans h2, g3.trans h3, fun k r1 r2 r3 => ⟨fun r4 => ((g4 k r1 r2 r3).1 r4).trans ((h4 k r1 r2 r3).1 r4), (g4 k r1 r2 r3).2.1.trans (h4 k r1 r2 r3).2.1, (g4 k r1 r2 r3).2.2.trans (h4 k r1 r2 r3).2.2⟩, g5.trans h5, g6.trans h6, Nat.le_trans h7 g7, by omega, by omega, g10.trans h10⟩
theorem hfr.w {t t' : cS} (h : hfr t t') : hfw t t' := by
  obtain ⟨h1, h2, h3, h4, h5, h6, h7, h8, h9⟩ := h
  exact ⟨fun k f r _ => h1 k f r, h2, h3, fun k r1 r2 r3 => ⟨fun _ => (h4 k r1 r2 r3).1, (h4 k r1 r2 r3).2.1, (h4 k r1 r2 r3).2.2⟩, h5, h6, h7, h8, h9, by rw [(h4 60 (by omega) (by omega) (by omega)).1]⟩
/-- from t on, xs was gathered from w on; used is now u' -/
def cG (t t' : cS) (u u' w : Nat) (xs : List Nod) : Prop := cHp t' u' (w + xs.length) ∧ hfw t t' ∧ u ≤ u' ∧ (∀ y, y < u → cel t' y = cel t y) ∧ (∀ y, y < w → prt t' y = prt t y) ∧ reps (cel t') u' (prt t') w xs
/-- the end of an operation in the class -/
def cE (t t' : cS) (u : Nat) (v : Int64) (r : Ans) : Prop := ∃ u' w', cHp t' u' w' ∧ hfw t t' ∧ u ≤ u' ∧ (∀ y, y < u → cel t' y = cel t y) ∧ match r with
  | .inl k => v = rf (Int32.ofNat k) ∧ u' ≤ u + 2000
  | .inr x => cN (cel t') u' v x ∧ u' ≤ u + ctV (vw x) ∧ wfN x ∧ x.1 ≤ 4
section CGS
variable {N k : Nat} {X : Nat → Option zz_C} {t t' t'' : cS} {u u' w i : Nat} {v : Int64} {x : Nod} {xs : List Nod} {zs : List Int32}
theorem cG.nil (h : cHp t u w) : cG t t u u w [] := ⟨h, hfw.rf, Nat.le_refl _, fun _ _ => rfl, fun _ _ => rfl, fun i hi => absurd hi (Nat.not_lt_zero _)⟩
theorem cG.up (H : cG t t' u u' w xs) (h : cN (cel t) u v x) : cN (cel t') u' v x := cN.mono H.2.2.2.1 H.2.2.1 h
theorem cG.put (H : cG t t' u u' w xs) (hw : w + xs.length < 61000) (hx : cN (cel t') u' v x) : ∃ t'', cf_123 N X v t' = some (t'', .inl none) ∧ cG t t'' u u' w (xs ++ [x]) := by
  obtain ⟨h1, h2, h3, h4, h5, h6⟩ := H
  obtain ⟨t2, e1, e2, e3, e4, e5, e6⟩ := c_put1 (N := N) (X := X) (v := v) h1 hw
  have ec : cel t2 = cel t' := by show (kB t2 43).2 = _; rw [e4]
  refine ⟨t2, e1, ?_, hfw.tr h2 e3.w, h3, fun y hy => ?_, fun y hy => ?_, fun i hi => ?_⟩
  · rw [List.length_append]
    exact e2
  · rw [ec]
    exact h4 y hy
  · rw [e6 y (by omega)]
    exact h5 y hy
  · rw [List.length_append] at hi
    have hi : i < xs.length + 1 := hi
    rw [ec]
    by_cases z : i < xs.length
    · rw [List.getElem_append_left z, e6 _ (by omega)]
      exact h6 i z
    · have z : i = xs.length := by omega
      subst z
      rw [List.getElem_append_right (Nat.le_refl _), e5]
      simp only [Nat.sub_self, List.getElem_cons_zero]
      exact hx
theorem cN_Z {g : Nat → Int64} {z : Int32} : cN g u (tg 0 z) (nZ z) := cN_iff.mpr rfl
theorem cG.build (hN : 170000 ≤ N) (H : cG t t' u u' w xs) (hok : mkOk k xs) (hw : ∀ x ∈ xs, wfN x) (hd : ∀ x ∈ xs, x.1 ≤ 4) (hl : xs.length ≤ 3000) (hw1 : w ≤ 100000) (hu : u' ≤ 166000) (hg : u' ≤ u + grw k xs + 1) (h2 : u' ≤ u + 2000) : ∃ t'' v, cf_126 N X (Int32.ofNat k) (Int32.ofNat w) t' = some (t'', .inl (some (.long v))) ∧ cE t t'' u v (ansM k xs) := by
  obtain ⟨h1, h3, h4, h5, h6, h7⟩ := H
  unfold ansM
  rcases c_build (N := N) (X := X) hN hok h1 h7 hw (fun x hx => Nat.le_trans (dT_le _ _) (hd x hx)) hl hw1 hu with ⟨y, e1, t2, v, e2, ⟨b1, b2, b3, b4, b5⟩, e4⟩ | ⟨e1, t2, e2, ⟨b1, b2, b3, b4, b5⟩⟩
  · rw [e1]
    have hgr := (mk_grw hok e1).1
    have hwf := mk_wf hok hw e1
    have hkk := mkOk.kk hok
    have hwk : k + xs.length + 1 ≤ 4 + wk k * xs.length := by
      rcases hkk with rfl | rfl | rfl
      · show 1 + xs.length + 1 ≤ 4 + 1 * xs.length
        omega
      · show 2 + xs.length + 1 ≤ 4 + 1 * xs.length
        omega
      · show 3 + xs.length + 1 ≤ 4 + 2 * xs.length
        omega
    refine ⟨t2, v, e2, u' + k + xs.length, w, b1, hfw.tr h3 b2.w, by omega, fun y hy => (b4 y (by omega)).trans (h5 y hy), e4, ?_, hwf.1, by rw [hwf.2]; exact Nat.le_refl _⟩
    omega
  · rw [e1]
    exact ⟨t2, _, e2, u', w, b1, hfw.tr h3 b2.w, h4, fun y hy => (b4 y (by omega)).trans (h5 y hy), rfl, h2⟩
theorem mkR_Z : vw (mkR (zs.map nZ)) = vw (nR zs) := by
  show vR ((zs.map nZ).map ivN) = vR zs
  rw [List.map_map]
  congr 2
  conv => rhs; rw [← List.map_id zs]
  rfl
theorem cG.row (hN : 170000 ≤ N) (H : cG t t' u u' w (xs ++ zs.map nZ)) (hz : zs.length ≤ 64) (hw : w + xs.length ≤ 60000) (hu : u' ≤ 166000) : ∃ t2 t3 v, cf_126 N X (Int32.ofNat 1) (Int32.ofNat (w + xs.length)) t' = some (t2, .inl (some (.long v))) ∧ cf_123 N X v t2 = some (t3, .inl none) ∧ cG t t3 u (u' + 1 + zs.length) w (xs ++ [nR zs]) := by
  obtain ⟨h1, h3, h4, h5, h6, h7⟩ := H
  have hl : (zs.map nZ).length = zs.length := List.length_map ..
  have h1' : cHp t' u' (w + xs.length + (zs.map nZ).length) := by rw [List.length_append, ← Nat.add_assoc] at h1; exact h1
  have hr : reps (cel t') u' (prt t') (w + xs.length) (zs.map nZ) := fun i hi => by
    have z := h7 (xs.length + i) (by rw [List.length_append]; omega)
    rw [List.getElem_append_right (by omega)] at z
    simp only [Nat.add_sub_cancel_left] at z
    rw [Nat.add_assoc]
    exact z
  have hm : mk 1 (zs.map nZ) = some (mkR (zs.map nZ)) := by
    show (if (zs.map nZ).length ≤ 64 then some (mkR (zs.map nZ)) else none) = _
    rw [hl, if_pos hz]
  rcases c_build (N := N) (X := X) (k := 1) hN (Or.inl ⟨rfl, fun x hx => by obtain ⟨z, -, rfl⟩ := List.mem_map.mp hx; rfl⟩) h1' hr (fun x hx => by obtain ⟨z, -, rfl⟩ := List.mem_map.mp hx; exact trivial) (fun x hx => by obtain ⟨z, -, rfl⟩ := List.mem_map.mp hx; exact Nat.zero_le _) (by omega) (by omega) hu with ⟨y, e1, t2, v, e2, ⟨b1, b2, b3, b4, b5⟩, e4⟩ | ⟨e1, -⟩
  · rw [hm] at e1
    cases e1
    rw [hl] at b1 e4
    have e4' : cN (cel t2) (u' + 1 + zs.length) v (nR zs) := by
      refine cN_iff.mpr ?_
      rw [← mkR_Z]
      exact cN_iff.mp e4
    have H2 : cG t t2 u (u' + 1 + zs.length) w xs := ⟨b1, hfw.tr h3 b2.w, by omega, fun y hy => (b4 y (by omega)).trans (h5 y hy), fun y hy => (b5 y (by omega)).trans (h6 y hy), fun i hi => by
      rw [b5 _ (by omega)]
      have z := h7 i (by rw [List.length_append]; omega)
      rw [List.getElem_append_left hi] at z
      exact cN.mono b4 (by omega) z⟩
    obtain ⟨t3, p1, p2⟩ := cG.put (N := N) (X := X) H2 (by omega) e4'
    exact ⟨t2, t3, v, e2, p1, p2⟩
  · rw [hm] at e1
    cases e1
theorem c_rf {k : Int32} : cf_254 N X k t = some (t, .inl (some (.long (rf k)))) := rfl
theorem cE.tr (hh : cHp t u w) {k : Nat} : cE t t u (rf (Int32.ofNat k)) (.inl k) := ⟨u, w, hh, hfw.rf, Nat.le_refl _, fun _ _ => rfl, rfl, by omega⟩
theorem cG.tr (H : cG t t' u u' w xs) (hu : u' ≤ u + 2000) {k : Nat} : cE t t' u (rf (Int32.ofNat k)) (.inl k) := ⟨u', _, H.1, H.2.1, H.2.2.1, H.2.2.2.1, rfl, hu⟩
end CGS
section RKA
variable {N : Nat} {s s' : mS} {f f' n i m : Nat} {x : Nod} {xs : List Nod}
theorem r_kindAt (H : rvl (s.2.2.1 47) f (s.2.2.1 49 i) (s.2.2.1 50 i) x) (hf : f ≤ 166300) (hi : i < 9000) : mf_292 N (Int32.ofNat i) s = some (s, some (.int (kdN x))) := by
  rcases H with ⟨h1, h2⟩ | ⟨h1, h2, a, h3, h4⟩
  · have e : kdN x = Int32.ofNat 0 := by
      show kdV (vw x) = _
      revert h2
      cases vw x with
      | inl z => intro _; rfl
      | inr w => intro h2; cases h2
    rw [e]
    unfold mf_292 mf_292_0 mf_292_9 mf_292_24
    simp (disch := omega) only [ev_S, ev_P, ↓reduceIte, Nat.reduceEqDiff, Nat.reduceLeDiff, Nat.reduceAdd, Nat.reduceMul, Nat.reduceSub, reduceCtorEq, l32_0, l32_1, l32_2, l32_3, l32_4, l32_5, l32_6, l32_7, l32_8, l32_9, l32_10, l32_11, l32_12, l32_13, l32_14, l32_15, l32_16, l32_17, l32_18, l32_19, l32_20, l32_21, l32_22, l32_23, l32_24, l32_25, l32_26, l32_27, l32_28, l32_29, l32_33, l32_40, l32_41, l32_44, l32_45, l32_59, l32_61, l32_91, l32_93, l32_123, l32_125, h1]
  · have k1 := (LayN_iff.mp h4).2.kd.1
    have hlt := LayN.lt h4
    unfold mf_292 mf_292_0 mf_292_13 mf_292_24
    simp (disch := omega) only [ev_S, ev_P, ↓reduceIte, Nat.reduceEqDiff, Nat.reduceLeDiff, Nat.reduceAdd, Nat.reduceMul, Nat.reduceSub, reduceCtorEq, l32_0, l32_1, l32_2, l32_3, l32_4, l32_5, l32_6, l32_7, l32_8, l32_9, l32_10, l32_11, l32_12, l32_13, l32_14, l32_15, l32_16, l32_17, l32_18, l32_19, l32_20, l32_21, l32_22, l32_23, l32_24, l32_25, l32_26, l32_27, l32_28, l32_29, l32_33, l32_40, l32_41, l32_44, l32_45, l32_59, l32_61, l32_91, l32_93, l32_123, l32_125, h1, h3, k1]
/-- an operation begins: its values xs lie on the stack from n on -/
def rA (s : mS) (n f m : Nat) (xs : List Nod) : Prop := rX s n f xs ∧ s.1 48 = Int32.ofNat f ∧ s.1 66 = Int32.ofNat 0 ∧ s.1 62 = Int32.ofNat m ∧ m ≤ 3000 ∧ (154240 ≤ f ∧ f + 1000 ≤ 166300) ∧ n + xs.length < 9000 ∧ n + 200 < 9000 ∧ (∀ x ∈ xs, wfN x) ∧ (∀ x ∈ xs, x.1 ≤ 4)
theorem rA.g (H : rA s n f m xs) : rG s s n f f xs := ⟨⟨H.1.1, H.2.1, Nat.le_refl _⟩, H.1.2, vfr.rf, rfl, rfl, rfl⟩
theorem rA.trb (H : rA s n f m xs) (s1 : mS) (h1 : vfr n f s s1) (h48 : s1.1 48 = s.1 48) (h62 : s1.1 62 = s.1 62) (h66 : s1.1 66 = s.1 66) (k : Nat) : mf_301 N (Int32.ofNat k) (s1.1 70) s1 = some (trb s1 (Int32.ofNat k) (s1.1 70), none) ∧ rE s (trb s1 (Int32.ofNat k) (s1.1 70)) n f m (.inl k) := by
  obtain ⟨H1, H2, H3, H4, H5⟩ := H
  exact ⟨r_trb (by rw [h66, H3]), f, Nat.le_refl _, h48.trans H2, h1.tr trb_v (Nat.le_refl _), by omega, h62.trans H4, rfl, h1.i70⟩
theorem rG.trb (H : rA s n f m xs) {ys : List Nod} (G : rG s s' n f f' ys) (hf : f' ≤ f + 300) (k : Nat) : mf_301 N (Int32.ofNat k) (s'.1 70) s' = some (trb s' (Int32.ofNat k) (s'.1 70), none) ∧ rE s (trb s' (Int32.ofNat k) (s'.1 70)) n f m (.inl k) := by
  obtain ⟨H1, H2, H3, H4, H5⟩ := H
  obtain ⟨⟨g1, g2, g3⟩, g4, g5, g6, g7, g8⟩ := G
  exact ⟨r_trb (by rw [g7, H3]), f', g3, g2, g5.tr trb_v (Nat.le_refl _), hf, g6.trans H4, rfl, g5.i70⟩
theorem rA.builds {k : Nat} {ys : List Nod} (hN : 170000 ≤ N) (H : rA s n f m xs) (G : rG s s' n f f' ys) (hok : mkOk k ys) (hw : ∀ x ∈ ys, wfN x) (hd : ∀ x ∈ ys, x.1 ≤ 4) (hg : f' ≤ f + grw k ys) (h300 : f' ≤ f + 300) (hl : ys.length ≤ 3000) (hn : n + ys.length < 9000) : ∃ s'', mf_305 N (Int32.ofNat k) (Int32.ofNat n) s' = some (s'', none) ∧ rE s s'' n f m (ansM k ys) := by
  obtain ⟨H1, H2, H3, H4, H5, H6, H7, H8, H9, H10⟩ := H
  exact r_builds hN G hok H3 H4 H5 hw hd hg h300 (by have := G.1.2.2; omega) hl hn
end RKA
