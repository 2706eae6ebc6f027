/-! ===== PURE: run (15): builds, all of it ===== -/
section RBB
variable {N k : Nat} {s s' : mS} {f f' n m : Nat} {xs : List Nod}
theorem szR {x : Nod} (h : kdN x = 1) : szN x = (rvN x).length := by
  show szV (vw x) = _
  rw [kd1 h]
  rfl
theorem grT : ∀ {xs : List Nod}, (∀ x ∈ xs, kdN x = 1) → ((xs.map rvN).map fun r => 4 + r.length).sum = (xs.map fun x => 2 + szN x).sum + 2 * xs.length
  | [], _ => rfl
  | x :: xs, h => by
    have ih := grT (xs := xs) (fun y hy => h y (List.mem_cons_of_mem _ hy))
    have hz := szR (h x List.mem_cons_self)
    rw [List.map_cons, List.map_cons, List.sum_cons, ih, List.map_cons, List.sum_cons, hz, List.length_cons]
    omega
theorem LayN_vw {h : Nat → Int32} {R : Nat → Prop} {a : Nat} {x y : Nod} (e : vw y = vw x) (H : LayN h R a x) : LayN h R a y := by
  refine LayN_iff.mpr ?_
  rw [e]
  exact LayN_iff.mp H
/-- what the cells of a THING just built say -/
theorem bld_lay {h0 h : Nat → Int32} {sk sv : Nat → Int32} {y : Nod} (hfl : 154240 ≤ f) (hok : mkOk k xs) (hm : mk k xs = some y) (hv : ∀ i (hi : i < xs.length), rvl h0 f (sk (n + i)) (sv (n + i)) xs[i]) (h0f : ∀ z, z < f → h z = h0 z) (e0 : h f = Int32.ofNat k) (e1 : h (f + 1) = Int32.ofNat xs.length) (ec : ∀ j, j < xs.length → h (f + 1 + wk k * (j + 1)) = (if sk (n + j) = Int32.ofNat 1 then sv (n + j) - Int32.ofNat f else sv (n + j)) ∧ (k = 3 → h (f + 2 + 2 * j) = sk (n + j))) : LayN h (Rf (f + 2 + wk k * xs.length)) f y := by
  have hsub : ∀ a : Nat, Int32.ofNat f + (Int32.ofNat a - Int32.ofNat f) = Int32.ofNat a := fun a => by
    rw [Int32.add_comm]
    exact Int32.sub_add_cancel _ _
  have up : ∀ {a : Nat} {x : Nod}, LayN h0 (Rf f) a x → LayN h (Rf (f + 2 + wk k * xs.length)) a x := fun H => LayN.congr (fun y z => ⟨Nat.lt_of_lt_of_le z.1 (by omega), z.2⟩) (fun y z => h0f y z.1) H
  rcases hok with ⟨rfl, hk⟩ | ⟨rfl, hk⟩ | rfl
  · have em : mk 1 xs = if xs.length ≤ 64 then some (mkR xs) else none := rfl
    rw [em] at hm
    split at hm
    · cases hm
      have hl : (xs.map ivN).length = xs.length := List.length_map ..
      refine LayN_iff.mpr ⟨fun y y1 y2 => ?_, e0, ?_, fun i hi => ?_⟩
      · have y2 : y < f + (2 + (xs.map ivN).length) := y2
        rw [hl] at y2
        show y < f + 2 + 1 * xs.length ∧ (y < 19280 ∨ 154240 ≤ y)
        omega
      · rw [e1, hl]
      · have hi' : i < xs.length := by omega
        have c1 := (ec i hi').1
        have h0 := kd0 (hk _ (List.getElem_mem hi'))
        rw [show f + 2 + i = f + 1 + wk 1 * (i + 1) by show _ = f + 1 + 1 * (i + 1); omega, c1]
        rcases hv i hi' with ⟨b1, b2⟩ | ⟨-, b2, -⟩
        · rw [b1, if_neg (by decide), List.getElem_map]
          rw [h0] at b2
          exact (Option.some.inj b2).symm
        · rw [h0] at b2
          cases b2
    · cases hm
  · have em : mk 2 xs = if xs.length ≤ 20 ∧ (xs.map szN).sum ≤ 200 then some (mkT xs) else none := rfl
    rw [em] at hm
    split at hm
    · cases hm
      have hl : (xs.map rvN).length = xs.length := List.length_map ..
      refine LayN_iff.mpr ⟨fun y y1 y2 => ?_, e0, ?_, fun i hi => ?_⟩
      · have y2 : y < f + (2 + (xs.map rvN).length) := y2
        rw [hl] at y2
        show y < f + 2 + 1 * xs.length ∧ (y < 19280 ∨ 154240 ≤ y)
        omega
      · rw [e1, hl]
      · have hi' : i < xs.length := by omega
        have c1 := (ec i hi').1
        have h0 := kd1 (hk _ (List.getElem_mem hi'))
        rw [show f + 2 + i = f + 1 + wk 2 * (i + 1) by show _ = f + 1 + 1 * (i + 1); omega, c1]
        rcases hv i hi' with ⟨b1, b2⟩ | ⟨b1, b2, a, b3, b4⟩
        · rw [h0] at b2
          cases b2
        · rw [b1, if_pos rfl, b3, List.getElem_map]
          exact ⟨a, hsub a, up (LayN_vw (x := xs[i]) h0.symm b4)⟩
    · cases hm
  · have em : mk 3 xs = if xs.length ≤ 20 ∧ 1 + (xs.map bulkN).sum ≤ 600 ∧ 1 + mxL (xs.map dN) ≤ 4 then some (mkP xs) else none := rfl
    rw [em] at hm
    split at hm
    · rename_i hq
      cases hm
      have hl : (xs.map (cs 3)).length = xs.length := List.length_map ..
      refine LayN_iff.mpr ⟨fun y y1 y2 => ?_, e0, ?_, fun i hi => ?_⟩
      · have y2 : y < f + (2 + 2 * (xs.map (cs 3)).length) := y2
        rw [hl] at y2
        show y < f + 2 + 2 * xs.length ∧ (y < 19280 ∨ 154240 ≤ y)
        omega
      · rw [e1, hl]
      · have hi' : i < xs.length := by omega
        obtain ⟨c1, c2⟩ := ec i hi'
        have c2 := c2 rfl
        have hd3 : dN xs[i] ≤ 3 := mxL_le.mp (show mxL (xs.map dN) ≤ 3 by omega) _ (List.mem_map.mpr ⟨_, List.getElem_mem hi', rfl⟩)
        rw [List.getElem_map]
        have ei := cs_int hd3
        rw [show f + 1 + wk 3 * (i + 1) = f + 3 + 2 * i by show f + 1 + 2 * (i + 1) = _; omega] at c1
        rcases hv i hi' with ⟨b1, b2⟩ | ⟨b1, b2, a, b3, b4⟩
        · rw [b1, if_neg (by decide)] at c1
          rw [b1] at c2
          refine ⟨fun z hz => ?_, fun hz => ?_⟩
          · rw [ei, b2] at hz
            cases hz
            exact ⟨c2, c1⟩
          · rw [ei, b2] at hz
            cases hz
        · rw [b1, if_pos rfl, b3] at c1
          rw [b1] at c2
          refine ⟨fun z hz => ?_, fun hz => ?_⟩
          · rw [ei, b2] at hz
            cases hz
          · refine ⟨c2, a, ?_, cs_lay hd3 (up b4)⟩
            rw [c1]
            exact hsub a
    · cases hm
theorem mk_grw {y : Nod} (hok : mkOk k xs) (hm : mk k xs = some y) : 4 + wk k * xs.length + grw k xs ≤ ctV (vw y) ∧ ctV (vw y) ≤ 700 := by
  rcases hok with ⟨rfl, hk⟩ | ⟨rfl, hk⟩ | rfl
  · have em : mk 1 xs = if xs.length ≤ 64 then some (mkR xs) else none := rfl
    rw [em] at hm
    split at hm
    · cases hm
      show 4 + 1 * xs.length + 0 ≤ 4 + (xs.map ivN).length ∧ 4 + (xs.map ivN).length ≤ 700
      rw [List.length_map]
      omega
    · cases hm
  · have em : mk 2 xs = if xs.length ≤ 20 ∧ (xs.map szN).sum ≤ 200 then some (mkT xs) else none := rfl
    rw [em] at hm
    split at hm
    · cases hm
      rename_i hq
      show 4 + 1 * xs.length + (xs.map fun x => 2 + szN x).sum ≤ 4 + ((xs.map rvN).map fun r => 4 + r.length).sum ∧ 4 + ((xs.map rvN).map fun r => 4 + r.length).sum ≤ 700
      rw [grT hk]
      have : ∀ l : List Nod, (l.map fun x => 2 + szN x).sum = 2 * l.length + (l.map szN).sum := fun l => by
        induction l with
        | nil => rfl
        | cons x l ih => rw [List.map_cons, List.sum_cons, ih, List.map_cons, List.sum_cons, List.length_cons]; omega
      have := this xs
      omega
    · cases hm
  · have em : mk 3 xs = if xs.length ≤ 20 ∧ 1 + (xs.map bulkN).sum ≤ 600 ∧ 1 + mxL (xs.map dN) ≤ 4 then some (mkP xs) else none := rfl
    rw [em] at hm
    split at hm
    · cases hm
      show 4 + 2 * xs.length + 0 ≤ 4 + 2 * (xs.map (cs 3)).length ∧ 4 + 2 * (xs.map (cs 3)).length ≤ 700
      rw [List.length_map]
      omega
    · cases hm
theorem mkOk.kk (h : mkOk k xs) : k = 1 ∨ k = 2 ∨ k = 3 := by
  rcases h with ⟨h, -⟩ | ⟨h, -⟩ | h
  · exact Or.inl h
  · exact Or.inr (Or.inl h)
  · exact Or.inr (Or.inr h)
theorem fMe.v (h : fMe s s') : vfr n f s s' ∧ s'.1 62 = s.1 62 ∧ s'.1 66 = s.1 66 ∧ s'.1 67 = s.1 67 ∧ s'.1 48 = s.1 48 ∧ s'.1 51 = s.1 51 ∧ s'.1 70 = s.1 70 := by
  refine ⟨⟨⟨fun q r => h.1 q (fun z => r ?_), fun q _ => h.2.1 q (fun z => z), fun q r => h.2.2.1 q (fun z => r ?_), h.2.2.2⟩, fun y hy => ?_, fun y hy => ?_⟩, h.1 _ (by omega), h.1 _ (by omega), h.1 _ (by omega), h.1 _ (by omega), h.1 _ (by omega), h.1 _ (by omega)⟩
  · unfold vfI
    omega
  · unfold vfA
    omega
  · rw [h.2.2.1 49 (by omega), h.2.2.1 50 (by omega)]
    exact ⟨rfl, rfl⟩
  · rw [h.2.2.1 47 (by omega)]
theorem trb_v {k p : Int32} : vfr n f s (trb s k p) := by
  refine ⟨⟨fun q r => ?_, fun _ _ => rfl, fun _ _ => rfl, fun _ _ => rfl⟩, fun y hy => ⟨rfl, rfl⟩, fun y hy => rfl⟩
  show (if q = 67 then _ else if q = 66 then _ else s.1 q) = _
  unfold vfI at r
  rw [if_neg (by omega), if_neg (by omega)]
theorem vfr.i70 (h : vfr n f s s') : s'.1 70 = s.1 70 := h.1.1 70 (by unfold vfI; omega)
theorem r_builds (hN : 170000 ≤ N) (H : rG s s' n f f' xs) (hok : mkOk k xs) (h66 : s.1 66 = Int32.ofNat 0) (h62 : s.1 62 = Int32.ofNat m) (hm3 : m ≤ 3000) (hw : ∀ x ∈ xs, wfN x) (hd : ∀ x ∈ xs, x.1 ≤ 4) (hg : f' ≤ f + grw k xs) (h300 : f' ≤ f + 300) (hf : 154240 ≤ f' ∧ f' + 200 ≤ 166300) (hl : xs.length ≤ 3000) (hn : n + xs.length < 9000) : ∃ s'', mf_305 N (Int32.ofNat k) (Int32.ofNat n) s' = some (s'', none) ∧ rE s s'' n f m (ansM k xs) := by
  obtain ⟨⟨h51, h48, hff⟩, hv, hvf, g62, g66, g67⟩ := H
  obtain ⟨s2, fm, e⟩ := r_great (N := N) hN (s := s') (n := n) (f := f') (xs := xs) ⟨h51, hv⟩ hok (by omega) hn hw hd hl
  obtain ⟨v1, v2, v3, v4, v5, v6, v7⟩ := fMe.v (n := n) (f := f') fm
  rw [e]
  unfold ansM
  cases hmk : mk k xs with
  | none =>
    rw [if_pos rfl]
    have tr := r_trb (N := N) (s := s2) (k := Int32.ofNat 2) (p := s2.1 70) (by rw [v3, g66, h66])
    refine ⟨trb s2 (Int32.ofNat 2) (s2.1 70), ?_, f', hff, v5.trans h48, (vfr.tr hvf v1 hff).tr trb_v (Nat.le_refl f), h300, ?_, rfl, ?_⟩
    · unfold mf_305_218 mf_305_227
      show mo_bv (mf_301 N (Int32.ofNat 2) (s2.1 70) s2) _ = _
      rw [tr]
      rfl
    · show s2.1 62 = _
      rw [v2, g62, h62]
    · show s2.1 70 = _
      rw [v7, hvf.i70]
  | some y =>
    rw [if_neg (by intro z; cases z)]
    have hk := mkOk.kk hok
    have hgr := mk_grw hok hmk
    have hwk : wk k * xs.length + 2 ≤ 200 ∨ True := Or.inr trivial
    have hl64 : xs.length ≤ 64 := by
      rcases hok with ⟨rfl, hk⟩ | ⟨rfl, hk⟩ | rfl
      · by_cases z : xs.length ≤ 64
        · exact z
        · rw [show mk 1 xs = if xs.length ≤ 64 then some (mkR xs) else none from rfl, if_neg z] at hmk
          cases hmk
      · by_cases z : xs.length ≤ 20 ∧ (xs.map szN).sum ≤ 200
        · omega
        · rw [show mk 2 xs = if xs.length ≤ 20 ∧ (xs.map szN).sum ≤ 200 then some (mkT xs) else none from rfl, if_neg z] at hmk
          cases hmk
      · by_cases z : xs.length ≤ 20 ∧ 1 + (xs.map bulkN).sum ≤ 600 ∧ 1 + mxL (xs.map dN) ≤ 4
        · omega
        · rw [show mk 3 xs = if xs.length ≤ 20 ∧ 1 + (xs.map bulkN).sum ≤ 600 ∧ 1 + mxL (xs.map dN) ≤ 4 then some (mkP xs) else none from rfl, if_neg z] at hmk
          cases hmk
    have hwk2 : wk k ≤ 2 := by show (if k = 3 then 2 else 1) ≤ 2; split <;> omega
    have hwl : wk k * xs.length ≤ 128 := Nat.le_trans (Nat.mul_le_mul hwk2 hl64) (by omega)
    have h48' : s2.1 48 = Int32.ofNat f' := v5.trans h48
    obtain ⟨s3, hs3⟩ : ∃ s3, s3 = mI (mA (mA s2 47 (upd (s2.2.2.1 47) f' (Int32.ofNat k))) 47 (upd (upd (s2.2.2.1 47) f' (Int32.ofNat k)) (f' + 1) (Int32.ofNat xs.length))) 48 (Int32.ofNat (f' + 2)) := ⟨_, rfl⟩
    have e47 : s3.2.2.1 47 = upd (upd (s2.2.2.1 47) f' (Int32.ofNat k)) (f' + 1) (Int32.ofNat xs.length) := by rw [hs3]; rfl
    have hb : mf_304 N (Int32.ofNat k) (Int32.ofNat xs.length) s2 = some (s3, some (.int (Int32.ofNat f'))) := by
      rw [hs3]
      unfold mf_304 mf_304_0
      simp (disch := omega) only [ev_S, ev_P, ↓reduceIte, Nat.reduceEqDiff, Nat.reduceLeDiff, Nat.reduceAdd, Nat.reduceMul, Nat.reduceSub, reduceCtorEq, l32_0, l32_1, l32_2, l32_3, l32_4, l32_5, l32_6, l32_7, l32_8, l32_9, l32_10, l32_11, l32_12, l32_13, l32_14, l32_15, l32_16, l32_17, l32_18, l32_19, l32_20, l32_21, l32_22, l32_23, l32_24, l32_25, l32_26, l32_27, l32_28, l32_29, l32_33, l32_40, l32_41, l32_44, l32_45, l32_59, l32_61, l32_91, l32_93, l32_123, l32_125, h48']
    obtain ⟨s4, a1, a2, a3, a4, a5⟩ := r_bw (N := N) (f := f') (n := n) hk (z := xs.length) hn (by omega) xs.length 0 (N - (xs.length + 1)) s3 (Nat.zero_add _) (by rw [hs3]; rfl) (by rw [hs3]; show s2.1 51 = _; rw [v6, h51])
    rw [show N - (xs.length + 1) + (xs.length + 1) = N by omega] at a1
    have e49 : s3.2.2.1 49 = s'.2.2.1 49 := by rw [hs3]; show s2.2.2.1 49 = _; exact fm.2.2.1 49 (by omega)
    have e50 : s3.2.2.1 50 = s'.2.2.1 50 := by rw [hs3]; show s2.2.2.1 50 = _; exact fm.2.2.1 50 (by omega)
    have e472 : s2.2.2.1 47 = s'.2.2.1 47 := fm.2.2.1 47 (by omega)
    have h0f : ∀ z, z < f' → s4.2.2.1 47 z = s'.2.2.1 47 z := fun z hz => by
      rw [a4 z (by omega), e47, ← e472]
      show (if z = f' + 1 then _ else if z = f' then _ else _) = _
      rw [if_neg (by omega), if_neg (by omega)]
    have HL := bld_lay (h := s4.2.2.1 47) hf.1 hok hmk hv h0f (by
        rw [a4 f' (by omega), e47]
        show (if f' = f' + 1 then _ else if f' = f' then _ else _) = _
        rw [if_neg (by omega), if_pos rfl]) (by
        rw [a4 (f' + 1) (by omega), e47]
        exact if_pos rfl) (fun j hj => by
        have z := a3 j (Nat.zero_le _) hj
        unfold cvl at z
        rw [e49, e50] at z
        exact z)
    obtain ⟨s5, hs5⟩ : ∃ s5, s5 = mI s4 51 (Int32.ofNat n) := ⟨_, rfl⟩
    have i4 : ∀ q, ¬ q = 48 → s4.1 q = s2.1 q := fun q hq => by
      rw [a5.1 q hq, hs3]
      exact if_neg hq
    have HG := r_gives (N := N) (s := s5) (n := n) (m := m) hN (by rw [hs5]; exact HL) (by omega) (by rw [hs5]; show s4.1 66 = _; rw [i4 66 (by omega), v3, g66, h66]) (by rw [hs5]; show s4.1 62 = _; rw [i4 62 (by omega), v2, g62, h62]) (by omega) (by rw [hs5]; rfl) (by omega)
    have hS5 : vfr n f' s2 s5 := by
      rw [hs5]
      refine ⟨⟨fun q r => ?_, fun q r => ?_, fun q r => ?_, fun q r => ?_⟩, fun y hy => ⟨?_, ?_⟩, fun y hy => ?_⟩
      · show (if q = 51 then _ else s4.1 q) = _
        unfold vfI at r
        rw [if_neg (by omega), i4 q (by omega)]
      · show s4.2.1 q = _
        rw [a5.2.1 q (fun z => z), hs3]
        rfl
      · show s4.2.2.1 q = _
        unfold vfA at r
        rw [a5.2.2.1 q (by omega), hs3]
        show (if q = 47 then _ else if q = 47 then _ else s2.2.2.1 q) = _
        rw [if_neg (by omega), if_neg (by omega)]
      · show s4.2.2.2 q = _
        rw [a5.2.2.2 q r, hs3]
        rfl
      · show s4.2.2.1 49 y = _
        rw [a5.2.2.1 49 (by omega), e49, fm.2.2.1 49 (by omega)]
      · show s4.2.2.1 50 y = _
        rw [a5.2.2.1 50 (by omega), e50, fm.2.2.1 50 (by omega)]
      · show s4.2.2.1 47 y = _
        rw [h0f y hy, e472]
    have hT : vfr n f s s5 := (vfr.tr hvf v1 hff).tr hS5 hff
    have h70 : s5.1 70 = s.1 70 := hT.i70
    have h665 : s5.1 66 = s.1 66 := by rw [hs5]; show s4.1 66 = _; rw [i4 66 (by omega), v3, g66]
    have h675 : s5.1 67 = s.1 67 := by rw [hs5]; show s4.1 67 = _; rw [i4 67 (by omega), v4, g67]
    have h485 : s5.1 48 = Int32.ofNat (f' + 2 + wk k * xs.length) := by rw [hs5]; exact a2
    have HL5 : LayN (s5.2.2.1 47) (Rf (f' + 2 + wk k * xs.length)) f' y := by rw [hs5]; exact HL
    have hiv : intV (vw y) = none := by
      have z := (LayN_iff.mp HL5).2
      revert z
      cases vw y with
      | inl z => intro z; exact z.elim
      | inr w => intro _; rfl
    have hpu : ∀ s6 : mS, vfr n f s s6 → vfr n f s (pus s6 n (Int32.ofNat 1) (Int32.ofNat f')) := fun s6 h6 => by
      refine ⟨⟨fun q r => ?_, h6.1.2.1, fun q r => ?_, h6.1.2.2.2⟩, fun y hy => ⟨?_, ?_⟩, h6.2.2⟩
      · show (if q = 51 then _ else s6.1 q) = _
        rw [if_neg (fun z => r (by unfold vfI; omega))]
        exact h6.1.1 q r
      · show (if q = 50 then _ else if q = 49 then _ else s6.2.2.1 q) = _
        rw [if_neg (fun z => r (by unfold vfA; omega)), if_neg (fun z => r (by unfold vfA; omega))]
        exact h6.1.2.2.1 q r
      · show (if y = n then _ else s6.2.2.1 49 y) = _
        rw [if_neg (by omega)]
        exact (h6.2.1 y hy).1
      · show (if y = n then _ else s6.2.2.1 50 y) = _
        rw [if_neg (by omega)]
        exact (h6.2.1 y hy).2
    have h62v : ∀ x : Int32, vfr n f s (mI s5 62 x) := fun x => ⟨⟨fun q r => by
        show (if q = 62 then _ else s5.1 q) = _
        rw [if_neg (fun z => r (by unfold vfI; omega))]
        exact hT.1.1 q r, hT.1.2.1, hT.1.2.2.1, hT.1.2.2.2⟩, hT.2.1, hT.2.2⟩
    generalize hcv : ctV (vw y) = cv at *
    refine ⟨_, ?_, f' + 2 + wk k * xs.length, by omega, ?_, hpu (if m + cv ≤ 3000 then mI s5 62 (Int32.ofNat (m + cv)) else trb (mI s5 62 (Int32.ofNat (m + cv))) (Int32.ofNat 11) (s5.1 70)) ?_, ?_, rfl, Or.inr ⟨if_pos rfl, hiv, f', if_pos rfl, ?_⟩, ?_, ?_⟩
    · unfold mf_305_228 mf_305_234
      rw [hb]
      show mf_305_L2 N N 0 (Int32.ofNat k) (Int32.ofNat n) (Int32.ofNat f') (Int32.ofNat (n + 0)) s3 = _
      rw [a1]
      unfold mf_305_335 mf_305_346
      rw [← hs5, HG]
      rfl
    · show (if m + cv ≤ 3000 then mI s5 62 (Int32.ofNat (m + cv)) else trb (mI s5 62 (Int32.ofNat (m + cv))) (Int32.ofNat 11) (s5.1 70)).1 48 = _
      split
      · exact h485
      · exact h485
    · split
      · exact h62v _
      · exact (h62v _).tr trb_v (Nat.le_refl f)
    · rw [hcv]
      omega
    · show LayN ((if m + cv ≤ 3000 then mI s5 62 (Int32.ofNat (m + cv)) else trb (mI s5 62 (Int32.ofNat (m + cv))) (Int32.ofNat 11) (s5.1 70)).2.2.1 47) _ _ _
      split
      · exact HL5
      · exact HL5
    · rw [hcv]
      show (if m + cv ≤ 3000 then mI s5 62 (Int32.ofNat (m + cv)) else trb (mI s5 62 (Int32.ofNat (m + cv))) (Int32.ofNat 11) (s5.1 70)).1 62 = _
      split
      · rfl
      · rfl
    · rw [hcv]
      by_cases z : m + cv ≤ 3000
      · rw [if_pos z]
        show ((if m + cv ≤ 3000 then mI s5 62 (Int32.ofNat (m + cv)) else trb (mI s5 62 (Int32.ofNat (m + cv))) (Int32.ofNat 11) (s5.1 70)).1 66 = _) ∧ ((if m + cv ≤ 3000 then mI s5 62 (Int32.ofNat (m + cv)) else trb (mI s5 62 (Int32.ofNat (m + cv))) (Int32.ofNat 11) (s5.1 70)).1 67 = _)
        rw [if_pos z]
        exact ⟨h665, h675⟩
      · rw [if_neg z]
        show ((if m + cv ≤ 3000 then mI s5 62 (Int32.ofNat (m + cv)) else trb (mI s5 62 (Int32.ofNat (m + cv))) (Int32.ofNat 11) (s5.1 70)).1 66 = _) ∧ ((if m + cv ≤ 3000 then mI s5 62 (Int32.ofNat (m + cv)) else trb (mI s5 62 (Int32.ofNat (m + cv))) (Int32.ofNat 11) (s5.1 70)).1 67 = _)
        rw [if_neg z]
        exact ⟨rfl, h70⟩
end RBB
