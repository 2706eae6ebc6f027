/-! ===== PURE: run (91): a trouble is taken (the reference) ===== -/
theorem l32_300 : (300 : Int32) = Int32.ofNat 300 := rfl
section RTK
variable {N : Nat} {s0 s s' : mS} {f f' h fu n m m' d d' r k : Nat} {code : List Ins} {Fs : List Fn} {T T' : Ty} {out : List Int32} {F F' G P : List Fm} {sh : Nat → Option Nod} {vs : List (Option Nod)} {I : List It} {a : Fm} {k0 v pl ra : Int32} {x : Nod}
theorem rFr.suf : ∀ {P : List Fm}, rFr s f h code (P ++ G) → rFr s f h code G
  | [], q => q
  | _ :: P, q => rFr.suf (P := P) q.2.2.2.2
/-- down to the innermost try -/
theorem RM0.unw (M : RM0 s f h code F sh) (hu : unF F = some (m, F')) (hA : s'.2.2.1 = s.2.2.1) (h48 : s'.1 48 = s.1 48) (h73 : s'.1 73 = Int32.ofNat F'.length) (h79 : s'.1 79 = Int32.ofNat (wStk F').length) : RM0 s' f h code F' sh := by
  obtain ⟨a1, a2, a3, a4, a5, a6, a7, a8⟩ := M
  obtain ⟨a0, I0, G0, u1, ⟨P, J, x, u2, u3, u4, u5⟩, -, ⟨W, y, u6, -, -, -⟩, -, ⟨l, u7⟩⟩ := unF_some hu
  unfold RM0
  rw [hA, h48]
  rw [u7] at a1
  rw [u6] at a3
  refine ⟨a1.app, ?_, (stk.app (l := W) a3).2, a4, a5, h73, h79, a8⟩
  rw [u2] at a2
  have := rFr.suf (P := P) a2
  rw [u1]
  exact rFr.up (s := s) (fun _ _ _ => by rw [hA]) (Nat.le_refl _) (fun _ _ => by rw [hA]) (rFr.hd (a := a0) rfl this)
/-- no try is there -/
theorem r_none (hN : 500 ≤ N) (M : RM0 s f h code F sh) (hu : unF F = none) (hl : (wStk F).length ≤ 399) (hk : 1 ≤ k ∧ k < 10) (h66 : s.1 66 = Int32.ofNat k) : mf_312 N s = some (s, some (.int (Int32.ofNat 0))) := by
  obtain ⟨a1, a2, a3, a4, a5, a6, a7, a8⟩ := M
  have u := (unF_none hu).2
  have hp := r_pass (N := N) (R := []) (W := wStk F) (by rw [List.append_nil]; exact a3) wStk_k u (by rw [List.append_nil]; omega) (N - (wStk F).length)
  rw [List.append_nil, show N - (wStk F).length + (wStk F).length = N by omega] at hp
  obtain ⟨Q, hQ⟩ : ∃ Q, N - (wStk F).length = Q + 1 := ⟨N - (wStk F).length - 1, by omega⟩
  rw [hQ] at hp
  have e2 : mf_312_L12 N (Q + 1) 0 (Int32.ofNat ([] : List (It × Nat × Nat)).length - Int32.ofNat 1) s = some (s, some (.int (Int32.ofNat 0))) := by
    show mf_312_18 N (mf_312_L12 N Q) (Int32.ofNat 0 - Int32.ofNat 1) s = _
    have e0 : Int32.ofNat 0 - Int32.ofNat 1 = -Int32.ofNat 1 := by decide
    rw [e0]
    have g1 : (-Int32.ofNat 1 < Int32.ofNat 0) = True := by decide
    have g2 : (Int32.ofNat 0 ≤ -Int32.ofNat 1) = False := by decide
    unfold mf_312_18 mf_312_38 mf_312_42
    simp (disch := omega) only [ev_S, ev_P, ↓reduceIte, Nat.reduceEqDiff, Nat.reduceLeDiff, Nat.reduceAdd, Nat.reduceMul, Nat.reduceSub, reduceCtorEq, l32_0, l32_1, l32_2, l32_3, l32_4, l32_5, l32_6, l32_7, l32_8, l32_9, l32_10, l32_11, l32_12, l32_13, l32_14, l32_15, l32_16, l32_17, l32_18, l32_19, l32_20, l32_21, l32_22, l32_23, l32_24, l32_25, l32_26, l32_27, l32_28, l32_29, l32_33, l32_40, l32_41, l32_44, l32_45, l32_59, l32_61, l32_91, l32_93, l32_123, l32_125, g1, g2]
  have n9 : k ≤ 9 := by omega
  have E1 : mf_312 N s = mf_312_L12 N N 0 (Int32.ofNat (wStk F).length - Int32.ofNat 1) s := by
    unfold mf_312 mf_312_0 mf_312_11
    rw [a7]
    simp (disch := omega) only [ev_S, ev_P, ↓reduceIte, Nat.reduceEqDiff, Nat.reduceLeDiff, Nat.reduceAdd, Nat.reduceMul, Nat.reduceSub, reduceCtorEq, l32_0, l32_1, l32_2, l32_3, l32_4, l32_5, l32_6, l32_7, l32_8, l32_9, l32_10, l32_11, l32_12, l32_13, l32_14, l32_15, l32_16, l32_17, l32_18, l32_19, l32_20, l32_21, l32_22, l32_23, l32_24, l32_25, l32_26, l32_27, l32_28, l32_29, l32_33, l32_40, l32_41, l32_44, l32_45, l32_59, l32_61, l32_91, l32_93, l32_123, l32_125, h66, n9]
  rw [E1, hp, e2]
theorem r_taken (hN : 500 ≤ N) (H : RBk s0 s h code Fs fu T out (Int32.ofNat k) pl) (M : RM0 s f h code F sh) (hk : 1 ≤ k ∧ k < 10) (hra : k = 9 → s.1 65 = ra) (hu : unF F = some (m, F')) (hF' : F' = (m', d', vs, I) :: G) (hl : (wStk F).length ≤ 399) (hr : (inA code m).2.2.1 < 8 + vs.length) (hv : vs.length ≤ 14) (hG : G.length ≤ 9) (hT : okTy fu T) : (T.2.1 + 300 ≤ 3000 → ∃ s2 y, mf_312 N s = some (s2, some (.int y)) ∧ RB s0 s2 h code Fs fu (T.1, T.2.1 + 300, T.2.2.1, T.2.2.2 + 1) out ∧ RM0 s2 f h code (((inA code m).2.1 + 1, 0, stV (inA code m).2.2.1 (nZ (tkV k ra)) vs, I) :: G) (if (inA code m).2.2.1 < 8 then stS (inA code m).2.2.1 (nZ (tkV k ra)) sh else sh) ∧ s2.1 51 = Int32.ofNat (rStk F').length ∧ s2.1 69 = Int32.ofNat (ob0 h + posR code (inA code m).2.1)) ∧ (¬ T.2.1 + 300 ≤ 3000 → ∃ s2 y, mf_312 N s = some (s2, some (.int y)) ∧ RBk s0 s2 h code Fs fu (T.1, T.2.1 + 300, T.2.2.1, T.2.2.2 + 1) out (Int32.ofNat 11) (inA code m).2.2.2.2.1) := by
  obtain ⟨a1, a2, a3, a4, a5, a6, a7, a8⟩ := M
  obtain ⟨r1, ⟨t1, t2, t3, t4, t5⟩, ⟨r3, r4⟩, r5, r6⟩ := H
  obtain ⟨f1, f2, f3, f4, f5⟩ := hT
  obtain ⟨a0, I0, G0, u1, ⟨P, J, x0, u2, u3, u4, u5⟩, -, ⟨W, y, u6, u7, u8, u9⟩, -, ⟨l, u10⟩⟩ := unF_some hu
  have hk80 := wStk_k (F := F)
  rw [u6] at a3 hl hk80
  have hp := r_pass (N := N) (R := (y, (rStk F').length, F'.length) :: wStk F') (W := W) a3 (fun w hw => hk80 w (List.mem_append_left _ hw)) u9 (by omega) (N - W.length)
  rw [List.length_append, List.length_cons] at hl
  rw [show N - W.length + W.length = N by omega] at hp
  obtain ⟨Q, hQ⟩ : ∃ Q, N - W.length = Q + 1 := ⟨N - W.length - 1, by omega⟩
  rw [hQ] at hp
  have hy := ((stk.app (l := W) a3).1).2.1 u7
  have hy : (s.2.2.1 80 (wStk F').length, s.2.2.1 81 (wStk F').length, s.2.2.1 82 (wStk F').length, s.2.2.1 83 (wStk F').length, s.2.2.1 84 (wStk F').length, s.2.2.1 85 (wStk F').length) = (Int32.ofNat 2, Int32.ofNat (ob0 h + posR code (inA code y.2.2).2.1), Int32.ofNat (inA code y.2.2).2.2.1, (inA code y.2.2).2.2.2.2.1, Int32.ofNat (rStk F').length, Int32.ofNat F'.length) := hy
  rw [u8] at hy
  simp only [Prod.mk.injEq] at hy
  obtain ⟨y0, y1, y2, y3, y4, y5⟩ := hy
  have hF'l : F'.length = G.length + 1 := by rw [hF']; rfl
  have n9 : k ≤ 9 := by omega
  have E1 : mf_312 N s = mf_312_L12 N N 0 (Int32.ofNat (wStk F).length - Int32.ofNat 1) s := by
    unfold mf_312 mf_312_0 mf_312_11
    rw [a7]
    simp (disch := omega) only [ev_S, ev_P, ↓reduceIte, Nat.reduceEqDiff, Nat.reduceLeDiff, Nat.reduceAdd, Nat.reduceMul, Nat.reduceSub, reduceCtorEq, l32_0, l32_1, l32_2, l32_3, l32_4, l32_5, l32_6, l32_7, l32_8, l32_9, l32_10, l32_11, l32_12, l32_13, l32_14, l32_15, l32_16, l32_17, l32_18, l32_19, l32_20, l32_21, l32_22, l32_23, l32_24, l32_25, l32_26, l32_27, l32_28, l32_29, l32_33, l32_40, l32_41, l32_44, l32_45, l32_59, l32_61, l32_91, l32_93, l32_123, l32_125, r3, n9]
  rw [u6] at E1
  have e1 : Int32.ofNat ((y, (rStk F').length, F'.length) :: wStk F').length - Int32.ofNat 1 = Int32.ofNat (wStk F').length := by
    show Int32.ofNat ((wStk F').length + 1) - Int32.ofNat 1 = _
    rw [← Int32.ofNat_sub _ _ (by omega)]
    rfl
  obtain ⟨sU, hsU⟩ : ∃ sU, sU = mI (mI (mI (mI (mI (mI (mI (mI s 79 (Int32.ofNat (wStk F').length)) 73 (Int32.ofNat F'.length)) 51 (Int32.ofNat (rStk F').length)) 69 (Int32.ofNat (ob0 h + posR code (inA code m).2.1))) 64 (Int32.ofNat (T.2.2.2 + 1))) 66 (Int32.ofNat 0)) 67 (-Int32.ofNat 1)) 62 (Int32.ofNat (T.2.1 + 300)) := ⟨_, rfl⟩
  have hst : mf_307 N (Int32.ofNat (inA code m).2.2.1) (Int32.ofNat 0) (tkV k ra) sU = some (stM sU (inA code m).2.2.1 G.length (Int32.ofNat 0) (tkV k ra), none) := r_store (by rw [hsU, ← hF'l]; rfl) hG (by omega)
  have E2 : mf_312 N s = mf_312_144 N (Int32.ofNat (wStk F').length) (stM sU (inA code m).2.2.1 G.length (Int32.ofNat 0) (tkV k ra)) := by
    rw [E1, hp, e1]
    show mf_312_18 N (mf_312_L12 N Q) (Int32.ofNat (wStk F').length) s = _
    have hw4 : (wStk F').length < 400 := by omega
    rw [hsU] at hst ⊢
    clear hp a3 e1 E1 hQ u6 hl hk80
    generalize (wStk F').length = n at *
    generalize (rStk F').length = n2 at *
    generalize F'.length = n3 at *
    generalize ob0 h + posR code (inA code m).2.1 = n4 at *
    unfold tkV at *
    by_cases c9 : k = 9
    · have hra := hra c9
      rw [if_pos c9] at hst ⊢
      unfold mf_312_18 mf_312_22 mf_312_38 mf_312_44 mf_312_53 mf_312_64
      simp (disch := omega) only [ev_S, ev_P, ↓reduceIte, Nat.reduceEqDiff, Nat.reduceLeDiff, Nat.reduceAdd, Nat.reduceMul, Nat.reduceSub, reduceCtorEq, l32_0, l32_1, l32_2, l32_3, l32_4, l32_5, l32_6, l32_7, l32_8, l32_9, l32_10, l32_11, l32_12, l32_13, l32_14, l32_15, l32_16, l32_17, l32_18, l32_19, l32_20, l32_21, l32_22, l32_23, l32_24, l32_25, l32_26, l32_27, l32_28, l32_29, l32_33, l32_40, l32_41, l32_44, l32_45, l32_59, l32_61, l32_91, l32_93, l32_123, l32_125, y0, y1, y2, y4, y5, r3, c9, hra, t5, t3, hst, l32_300]
    · rw [if_neg c9] at hst ⊢
      unfold mf_312_18 mf_312_22 mf_312_38 mf_312_44 mf_312_60 mf_312_64
      simp (disch := omega) only [ev_S, ev_P, ↓reduceIte, Nat.reduceEqDiff, Nat.reduceLeDiff, Nat.reduceAdd, Nat.reduceMul, Nat.reduceSub, reduceCtorEq, l32_0, l32_1, l32_2, l32_3, l32_4, l32_5, l32_6, l32_7, l32_8, l32_9, l32_10, l32_11, l32_12, l32_13, l32_14, l32_15, l32_16, l32_17, l32_18, l32_19, l32_20, l32_21, l32_22, l32_23, l32_24, l32_25, l32_26, l32_27, l32_28, l32_29, l32_33, l32_40, l32_41, l32_44, l32_45, l32_59, l32_61, l32_91, l32_93, l32_123, l32_125, y0, y1, y2, y4, y5, r3, c9, t5, t3, hst, l32_300]
  have gU : fRn s sU := by
    rw [hsU]
    exact (((((((fRn.I (by unfold iRn; omega)).tr (fRn.I (by unfold iRn; omega))).tr (fRn.I (by unfold iRn; omega))).tr (fRn.I (by unfold iRn; omega))).tr (fRn.I (by unfold iRn; omega))).tr (fRn.I (by unfold iRn; omega))).tr (fRn.I (by unfold iRn; omega))).tr (fRn.I (by unfold iRn; omega))
  obtain ⟨i1, i2, i3, i4⟩ := stM_i (s := sU) (r := (inA code m).2.2.1) (n := G.length) (k := Int32.ofNat 0) (v := tkV k ra)
  have gS := stM_f (s := sU) (r := (inA code m).2.2.1) (n := G.length) (k := Int32.ofNat 0) (v := tkV k ra)
  have MU : RM0 sU f h code F' sh := RM0.unw ⟨a1, a2, by rw [u6]; exact a3, a4, a5, a6, a7, a8⟩ hu (by rw [hsU]; rfl) (by rw [hsU]; rfl) (by rw [hsU]; rfl) (by rw [hsU]; rfl)
  have hev : rEv (stM sU (inA code m).2.2.1 G.length (Int32.ofNat 0) (tkV k ra)) h code Fs := r1.keep (fun q q1 q2 => ((gU.tr gS).1.2.2.1 q (by unfold aRn; omega)))
  have hty : rTy (stM sU (inA code m).2.2.1 G.length (Int32.ofNat 0) (tkV k ra)) fu (T.1, T.2.1 + 300, T.2.2.1, T.2.2.2 + 1) := by
    unfold rTy
    rw [i1, hsU]
    exact ⟨t1, t2, rfl, t4, rfl⟩
  have hou : rOut (stM sU (inA code m).2.2.1 G.length (Int32.ofNat 0) (tkV k ra)) out := r5.ch (by rw [i1, hsU]; rfl) (by rw [i2, hsU]; rfl)
  have h62 : (stM sU (inA code m).2.2.1 G.length (Int32.ofNat 0) (tkV k ra)).1 62 = Int32.ofNat (T.2.1 + 300) := hty.2.2.1
  have h66 : (stM sU (inA code m).2.2.1 G.length (Int32.ofNat 0) (tkV k ra)).1 66 = Int32.ofNat 0 := by rw [i1, hsU]; rfl
  have h67 : (stM sU (inA code m).2.2.1 G.length (Int32.ofNat 0) (tkV k ra)).1 67 = -Int32.ofNat 1 := by rw [i1, hsU]; rfl
  have h51 : (stM sU (inA code m).2.2.1 G.length (Int32.ofNat 0) (tkV k ra)).1 51 = Int32.ofNat (rStk F').length := by rw [i1, hsU]; rfl
  have h69 : (stM sU (inA code m).2.2.1 G.length (Int32.ofNat 0) (tkV k ra)).1 69 = Int32.ofNat (ob0 h + posR code (inA code m).2.1) := by rw [i1, hsU]; rfl
  have h83 : (stM sU (inA code m).2.2.1 G.length (Int32.ofNat 0) (tkV k ra)).2.2.1 83 (wStk F').length = (inA code m).2.2.2.2.1 := by rw [i4, hsU]; exact y3
  have hMS : RM0 (stM sU (inA code m).2.2.1 G.length (Int32.ofNat 0) (tkV k ra)) f h code (((inA code m).2.1 + 1, 0, stV (inA code m).2.2.1 (nZ (tkV k ra)) vs, I) :: G) (if (inA code m).2.2.1 < 8 then stS (inA code m).2.2.1 (nZ (tkV k ra)) sh else sh) := by
    rw [hF'] at MU
    exact MU.store rvl_Z hr hv
  have hw4 : (wStk F').length < 400 := by omega
  generalize stM sU (inA code m).2.2.1 G.length (Int32.ofNat 0) (tkV k ra) = s2 at *
  refine ⟨fun hle => ⟨s2, Int32.ofNat 1, ?_, ⟨hev, hty, ⟨h66, h67⟩, hou, r6.tr (gU.tr gS)⟩, hMS, h51, h69⟩, fun hgt => ⟨trb s2 (Int32.ofNat 11) (inA code m).2.2.2.2.1, Int32.ofNat 0, ?_, ?_⟩⟩
  · rw [E2]
    unfold mf_312_144 mf_312_166 mf_312_173 mf_312_178
    simp (disch := omega) only [ev_S, ev_P, ↓reduceIte, Nat.reduceEqDiff, Nat.reduceLeDiff, Nat.reduceAdd, Nat.reduceMul, Nat.reduceSub, reduceCtorEq, l32_0, l32_1, l32_2, l32_3, l32_4, l32_5, l32_6, l32_7, l32_8, l32_9, l32_10, l32_11, l32_12, l32_13, l32_14, l32_15, l32_16, l32_17, l32_18, l32_19, l32_20, l32_21, l32_22, l32_23, l32_24, l32_25, l32_26, l32_27, l32_28, l32_29, l32_33, l32_40, l32_41, l32_44, l32_45, l32_59, l32_61, l32_91, l32_93, l32_123, l32_125, h62, hle, h66, l32_3000]
  · rw [E2]
    have et : mf_301 N (Int32.ofNat 11) (s2.2.2.1 83 (wStk F').length) s2 = some (trb s2 (Int32.ofNat 11) (inA code m).2.2.2.2.1, none) := by
      rw [h83]
      exact r_trb h66
    have e66 : (trb s2 (Int32.ofNat 11) (inA code m).2.2.2.2.1).1 66 = Int32.ofNat 11 := rfl
    generalize trb s2 (Int32.ofNat 11) (inA code m).2.2.2.2.1 = s3 at *
    generalize (wStk F').length = n at *
    unfold mf_312_144 mf_312_154 mf_312_166 mf_312_177 mf_312_178
    simp (disch := omega) only [ev_S, ev_P, ↓reduceIte, Nat.reduceEqDiff, Nat.reduceLeDiff, Nat.reduceAdd, Nat.reduceMul, Nat.reduceSub, reduceCtorEq, l32_0, l32_1, l32_2, l32_3, l32_4, l32_5, l32_6, l32_7, l32_8, l32_9, l32_10, l32_11, l32_12, l32_13, l32_14, l32_15, l32_16, l32_17, l32_18, l32_19, l32_20, l32_21, l32_22, l32_23, l32_24, l32_25, l32_26, l32_27, l32_28, l32_29, l32_33, l32_40, l32_41, l32_44, l32_45, l32_59, l32_61, l32_91, l32_93, l32_123, l32_125, h62, hgt, et, e66, l32_3000]
  · refine ⟨hev.keep (fun _ _ _ => rfl), hty, ⟨rfl, rfl⟩, hou.ch rfl rfl, (r6.tr (gU.tr gS)).tr ⟨⟨fun q r => ?_, fun _ _ => rfl, fun _ _ => rfl, fun _ _ => rfl⟩, fun _ _ => rfl⟩⟩
    unfold iRn at r
    show (if q = 67 then _ else if q = 66 then _ else s2.1 q) = _
    rw [if_neg (by omega), if_neg (by omega)]
end RTK
