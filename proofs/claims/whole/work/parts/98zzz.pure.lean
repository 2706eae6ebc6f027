/-! ===== PURE: run (155): a run begins (the reference) ===== -/
section BGR
variable {N : Nat} {S : Nat → Option (Th 4)} {σ0 k i fu e : Nat} {μ : Nat → Nat} {t : cS} {s s1 s2 sb : mS} {x1 x2 : Int32} {code : List Ins} {Fs : List Fn}
/-- shelves 0 .. i - 1 are there -/
def RLs (S : Nat → Option (Th 4)) (sb : mS) (i : Nat) (s : mS) : Prop := s.1 = sb.1 ∧ s.2.1 = sb.2.1 ∧ s.2.2.2 = sb.2.2.2 ∧ (∀ q, ¬ (q = 71 ∨ q = 72) → s.2.2.1 q = sb.2.2.1 q) ∧ ∀ j, j < i → rvo (sb.2.2.1 47) 154250 (s.2.2.1 71 j) (s.2.2.1 72 j) (shO S j)
theorem RLs.put {kk vv : Int32} (H : RLs S sb i s) (hv : rvo (sb.2.2.1 47) 154250 kk vv (shO S i)) : RLs S sb (i + 1) (mA (mA s 71 (upd (s.2.2.1 71) i kk)) 72 (upd (s.2.2.1 72) i vv)) := by
  obtain ⟨h1, h2, h3, h4, h5⟩ := H
  refine ⟨h1, h2, h3, fun q hq => ?_, fun j hj => ?_⟩
  · show (if q = 72 then _ else if q = 71 then _ else s.2.2.1 q) = _
    rw [if_neg (by omega), if_neg (by omega)]
    exact h4 q hq
  · show rvo _ _ (if j = i then kk else s.2.2.1 71 j) (if j = i then vv else s.2.2.1 72 j) _
    by_cases c : j = i
    · rw [if_pos c, if_pos c, c]
      exact hv
    · rw [if_neg c, if_neg c]
      exact h5 j (by omega)
theorem r_begL (hS : ∀ j, j < 8 → rSl (sb.2.2.1 47) j (S j)) : ∀ (d i Q : Nat) (s : mS), i + d = 8 → RLs S sb i s → ∃ s2, mf_68_L12 N (Q + (d + 1)) 0 x1 x2 (Int32.ofNat i) s = mf_68_243 N x1 x2 s2 ∧ RLs S sb 8 s2 := by
  intro d
  induction d with
  | zero =>
    intro i Q s hi H
    have hi : i = 8 := hi
    subst hi
    exact ⟨s, rfl, H⟩
  | succ d ih =>
    intro i Q s hi H
    have hi8 : i < 8 := by omega
    have hs := hS i hi8
    have e47 : s.2.2.1 47 = sb.2.2.1 47 := H.2.2.2.1 47 (by omega)
    have ml : Int32.ofNat 2410 * Int32.ofNat i = Int32.ofNat (2410 * i) := i32mul
    have n8 : ¬ 8 ≤ i := by omega
    have step : ∀ kk vv, mf_68_L12 N (Q + (d + 1 + 1)) 0 x1 x2 (Int32.ofNat i) s = mf_68_L12 N (Q + (d + 1)) 0 x1 x2 (Int32.ofNat (i + 1)) (mA (mA s 71 (upd (s.2.2.1 71) i kk)) 72 (upd (s.2.2.1 72) i vv)) → rvo (sb.2.2.1 47) 154250 kk vv (shO S i) → ∃ s2, mf_68_L12 N (Q + (d + 1 + 1)) 0 x1 x2 (Int32.ofNat i) s = mf_68_243 N x1 x2 s2 ∧ RLs S sb 8 s2 := fun kk vv e1 e2 => by
      obtain ⟨s2, b1, b2⟩ := ih (i + 1) Q _ (by omega) (H.put e2)
      exact ⟨s2, by rw [e1, b1], b2⟩
    cases hx : S i with
    | none =>
      rw [hx] at hs
      have h0 : s.2.2.1 47 (2410 * i) = -Int32.ofNat 1 := by rw [e47]; exact hs
      refine step (Int32.ofNat 2) (Int32.ofNat (2410 * i)) ?_ (by unfold shO; rw [hx]; rfl)
      show mf_68_154 N (mf_68_L12 N (Q + (d + 1))) x1 x2 (Int32.ofNat i) s = _
      have h0' : (mA s 71 (upd (s.2.2.1 71) i (Int32.ofNat 2))).2.2.1 47 (2410 * i) = -Int32.ofNat 1 := h0
      unfold mf_68_154 mf_68_161 mf_68_186 mf_68_205 mf_68_234 mf_68_236
      simp (disch := omega) only [ev_S, ev_P, ↓reduceIte, Nat.reduceEqDiff, Nat.reduceLeDiff, Nat.reduceAdd, Nat.reduceMul, Nat.reduceSub, reduceCtorEq, l32_0, l32_1, l32_2, l32_3, l32_4, l32_5, l32_6, l32_7, l32_8, l32_9, l32_10, l32_11, l32_12, l32_13, l32_14, l32_15, l32_16, l32_17, l32_18, l32_19, l32_20, l32_21, l32_22, l32_23, l32_24, l32_25, l32_26, l32_27, l32_28, l32_29, l32_33, l32_40, l32_41, l32_44, l32_45, l32_59, l32_61, l32_91, l32_93, l32_123, l32_125, n8, l32_2410, ml, h0, h0', l32_166300]
    | some x =>
      rw [hx] at hs
      have hs : (match intT 4 x with | some z => sb.2.2.1 47 (2410 * i) = 0 ∧ sb.2.2.1 47 (2410 * i + 1) = z | none => Lay 4 (sb.2.2.1 47) (Rk i) (2410 * i) x) := hs
      cases hz : intT 4 x with
      | some z =>
        rw [hz] at hs
        have h0 : s.2.2.1 47 (2410 * i) = Int32.ofNat 0 := by rw [e47]; exact hs.1
        have h1 : s.2.2.1 47 (2410 * i + 1) = z := by rw [e47]; exact hs.2
        refine step (Int32.ofNat 0) z ?_ (by
          unfold shO
          rw [hx]
          refine Or.inl ⟨rfl, ?_⟩
          have := vw_int (⟨4, x⟩ : Nod)
          rw [← this]
          exact hz)
        show mf_68_154 N (mf_68_L12 N (Q + (d + 1))) x1 x2 (Int32.ofNat i) s = _
        have h0' : (mA s 71 (upd (s.2.2.1 71) i (Int32.ofNat 0))).2.2.1 47 (2410 * i) = Int32.ofNat 0 := h0
        have h1' : (mA s 71 (upd (s.2.2.1 71) i (Int32.ofNat 0))).2.2.1 47 (2410 * i + 1) = z := h1
        unfold mf_68_154 mf_68_161 mf_68_190 mf_68_200 mf_68_205 mf_68_222 mf_68_236
        simp (disch := omega) only [ev_S, ev_P, ↓reduceIte, Nat.reduceEqDiff, Nat.reduceLeDiff, Nat.reduceAdd, Nat.reduceMul, Nat.reduceSub, reduceCtorEq, l32_0, l32_1, l32_2, l32_3, l32_4, l32_5, l32_6, l32_7, l32_8, l32_9, l32_10, l32_11, l32_12, l32_13, l32_14, l32_15, l32_16, l32_17, l32_18, l32_19, l32_20, l32_21, l32_22, l32_23, l32_24, l32_25, l32_26, l32_27, l32_28, l32_29, l32_33, l32_40, l32_41, l32_44, l32_45, l32_59, l32_61, l32_91, l32_93, l32_123, l32_125, n8, l32_2410, ml, h0, h0', h1', l32_166300]
      | none =>
        rw [hz] at hs
        have hs : Lay 4 (sb.2.2.1 47) (Rk i) (2410 * i) x := hs
        have hk := (Lay.kd 4 hs).1
        have hkn : ¬ kdT 4 x = Int32.ofNat 0 ∧ ¬ kdT 4 x = -Int32.ofNat 1 := by
          have h2 : kdT 4 x = kdV (vw (⟨4, x⟩ : Nod)) := vw_kd (⟨4, x⟩ : Nod)
          have h3 : intT 4 x = intV (vw (⟨4, x⟩ : Nod)) := vw_int (⟨4, x⟩ : Nod)
          rw [h2]
          rw [hz] at h3
          generalize vw (⟨4, x⟩ : Nod) = V at *
          obtain q | r | q | l := V
          · cases h3
          · exact ⟨by show ¬ (1 : Int32) = _; decide, by show ¬ (1 : Int32) = _; decide⟩
          · exact ⟨by show ¬ (2 : Int32) = _; decide, by show ¬ (2 : Int32) = _; decide⟩
          · exact ⟨by show ¬ (3 : Int32) = _; decide, by show ¬ (3 : Int32) = _; decide⟩
        obtain ⟨kd, hkd⟩ : ∃ kd, kd = kdT 4 x := ⟨_, rfl⟩
        rw [← hkd] at hk hkn
        have h0 : s.2.2.1 47 (2410 * i) = kd := by rw [e47]; exact hk
        obtain ⟨hk0, hk1⟩ := hkn
        refine step (Int32.ofNat 1) (Int32.ofNat (2410 * i)) ?_ (by
          unfold shO
          rw [hx]
          refine Or.inr ⟨rfl, ?_, 2410 * i, rfl, ?_⟩
          · have := vw_int (⟨4, x⟩ : Nod)
            rw [← this]
            exact hz
          · exact LayN.congr (x := (⟨4, x⟩ : Nod)) (fun y hy => by have := hy.2; show y < 154250 ∧ _; omega) (fun y _ => rfl) hs)
        show mf_68_154 N (mf_68_L12 N (Q + (d + 1))) x1 x2 (Int32.ofNat i) s = _
        have h0' : (mA s 71 (upd (s.2.2.1 71) i (Int32.ofNat 1))).2.2.1 47 (2410 * i) = kd := h0
        unfold mf_68_154 mf_68_161 mf_68_190 mf_68_204 mf_68_205 mf_68_234 mf_68_236
        simp (disch := omega) only [ev_S, ev_P, ↓reduceIte, Nat.reduceEqDiff, Nat.reduceLeDiff, Nat.reduceAdd, Nat.reduceMul, Nat.reduceSub, reduceCtorEq, l32_0, l32_1, l32_2, l32_3, l32_4, l32_5, l32_6, l32_7, l32_8, l32_9, l32_10, l32_11, l32_12, l32_13, l32_14, l32_15, l32_16, l32_17, l32_18, l32_19, l32_20, l32_21, l32_22, l32_23, l32_24, l32_25, l32_26, l32_27, l32_28, l32_29, l32_33, l32_40, l32_41, l32_44, l32_45, l32_59, l32_61, l32_91, l32_93, l32_123, l32_125, n8, l32_2410, ml, h0, h0', hk0, hk1, l32_166300]
theorem r_beg (hN : 170000 ≤ N) (h : iS S σ0 k μ t s) (hE : rEv s (1 - e) code Fs) : ∃ s2, mf_68_61 N x1 x2 (Int32.ofNat fu) s = mf_68_243 N x1 x2 s2 ∧ RXm s2 s2 (1 - e) code Fs fu 154250 [] (shO S) (0, 0, 0, 0) [] ∧ s2.1 68 = 1 ∧ s2.1 12 = s.1 12 ∧ mfr (fun q => iRn q ∨ q = 68) (fun q => q = 89) aRn (fun _ => False) s s2 ∧ ∀ y, y < 154240 → s2.2.2.1 47 y = s.2.2.1 47 y := by
  obtain ⟨sb, hsb⟩ : ∃ sb, sb = mA (mA (mI (mI (mI (mI (mI (mI (mI (mI (mI (mI (mI (mI (mI (mI s 68 1) 60 0) 61 (Int32.ofNat fu)) 62 0) 63 0) 64 0) 65 0) 66 0) 67 (-1)) 87 0) 51 0) 79 0) 73 0) 48 154250) 47 (upd (s.2.2.1 47) 154240 1)) 47 (upd (upd (s.2.2.1 47) 154240 1) 154241 0) := ⟨_, rfl⟩
  have E : mf_68_61 N x1 x2 (Int32.ofNat fu) s = mf_68_L12 N N 0 x1 x2 (Int32.ofNat 0) sb := by
    rw [hsb]
    have c0 : Int32.toNatClampNeg (154240 : Int32) = 154240 := by decide
    have c1 : Int32.toNatClampNeg (154241 : Int32) = 154241 := by decide
    unfold mf_68_61
    rw [if_pos (by decide), if_pos (by decide), c0, c1]
    rfl
  have e47 : ∀ y, y < 154240 → sb.2.2.1 47 y = s.2.2.1 47 y := fun y hy => by
    rw [hsb]
    show (if y = 154241 then _ else if y = 154240 then _ else s.2.2.1 47 y) = _
    rw [if_neg (by omega), if_neg (by omega)]
  have hS : ∀ j, j < 8 → rSl (sb.2.2.1 47) j (S j) := fun j hj => rSl.congr (fun y hy => e47 y (by have := hy.2; omega)) (h.2.2.2.2.2.1 j hj).2
  obtain ⟨s2, b1, q1, q2, q3, q4, q5⟩ := r_begL (N := N) (x1 := x1) (x2 := x2) hS 8 0 (N - 9) sb (Nat.zero_add _) ⟨rfl, rfl, rfl, fun _ _ => rfl, fun j hj => absurd hj (Nat.not_lt_zero _)⟩
  rw [show N - 9 + (8 + 1) = N by omega] at b1
  have aq : ∀ q, ¬ (q = 47 ∨ q = 71 ∨ q = 72) → s2.2.2.1 q = s.2.2.1 q := fun q hq => by
    rw [q4 q (by omega), hsb]
    show (if q = 47 then _ else if q = 47 then _ else s.2.2.1 q) = _
    rw [if_neg (by omega), if_neg (by omega)]
  have a47 : s2.2.2.1 47 = sb.2.2.1 47 := q4 47 (by omega)
  refine ⟨s2, by rw [E, b1], ⟨⟨hE.keep (fun q r1 r2 => aq q (by omega)), ⟨?_, ?_, ?_, ?_, ?_⟩, ⟨?_, ?_⟩, ⟨?_, fun i hi => absurd hi (Nat.not_lt_zero _)⟩, ⟨⟨fun _ _ => rfl, fun _ _ => rfl, fun _ _ => rfl, fun _ _ => rfl⟩, fun _ _ => rfl⟩⟩, ⟨trivial, trivial, trivial, fun i hi => by rw [a47]; exact q5 i hi, ?_, ?_, ?_, ?_⟩, ?_⟩, ?_, ?_, ⟨fun q r => ?_, fun q r => ?_, fun q r => aq q (by unfold aRn at r; omega), fun q r => ?_⟩, fun y hy => by rw [a47]; exact e47 y hy⟩
  · rw [q1, hsb]; rfl
  · rw [q1, hsb]; rfl
  · rw [q1, hsb]; rfl
  · rw [q1, hsb]; rfl
  · rw [q1, hsb]; rfl
  · rw [q1, hsb]; rfl
  · rw [q1, hsb]; rfl
  · rw [q1, hsb]; rfl
  · rw [a47, hsb]
    refine ⟨fun y r1 r2 => by have r2 : y < 154240 + 2 + 0 := r2; show y < 154250 ∧ _; omega, rfl, rfl, fun i hi => absurd hi (Nat.not_lt_zero _)⟩
  · rw [q1, hsb]; rfl
  · rw [q1, hsb]; rfl
  · rw [q1, hsb]; rfl
  · rw [q1, hsb]; rfl
  · rw [q1, hsb]; rfl
  · rw [q1, hsb]; rfl
  · rw [q1, hsb]
    show (if q = 48 then _ else if q = 73 then _ else if q = 79 then _ else if q = 51 then _ else if q = 87 then _ else if q = 67 then _ else if q = 66 then _ else if q = 65 then _ else if q = 64 then _ else if q = 63 then _ else if q = 62 then _ else if q = 61 then _ else if q = 60 then _ else if q = 68 then _ else s.1 q) = _
    unfold iRn at r
    repeat rw [if_neg (by omega)]
  · rw [q2, hsb]
    rfl
  · rw [q3, hsb]
    rfl
end BGR
