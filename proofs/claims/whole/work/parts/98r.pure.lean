/-! ===== PURE: run (95): the reference's orders upon the picture; the first instructions ===== -/
section RXP
variable {N : Nat} {X : Nat → Option zz_C} {t0 t t1 t2 : cS} {s0 s s' s1 s2 : mS} {u w f f' p h fu m m' d d' n k : Nat} {code : List Ins} {Fs : List Fn} {T T' : Ty} {out out' : List Int32} {F G : List Fm} {sh sh' S0 : Nat → Option Nod} {vs vs' : List (Option Nod)} {I I' J : List It} {a b : Fm} {q r pl kk v : Int32} {it : It} {x : Nod} {l : List Nod}
theorem wIt_cons {b d : Nat} (h : ¬ (it.1 = 2 ∨ it.1 = 3 ∨ it.1 = 6 ∨ it.1 = 8)) : wIt b d (it :: I) = wIt b d I := if_neg h
theorem wStk_cons (h : ¬ (it.1 = 2 ∨ it.1 = 3 ∨ it.1 = 6 ∨ it.1 = 8)) : wStk ((m, d, vs, it :: I) :: G) = wStk ((m', d', vs, I) :: G) := by
  show wIt _ _ (it :: I) ++ _ = _
  rw [wIt_cons h]
  rfl
theorem wIt_v {b d : Nat} : ∀ {J : List It}, (∀ y ∈ J, y.1 = 0) → wIt b d (J ++ I) = wIt b d I
  | [], _ => rfl
  | x :: J, h => by
    show wIt b d (x :: (J ++ I)) = _
    have := h x List.mem_cons_self
    rw [show wIt b d (x :: (J ++ I)) = wIt b d (J ++ I) from if_neg (by omega)]
    exact wIt_v fun y hy => h y (List.mem_cons_of_mem _ hy)
theorem wStk_v (h : ∀ y ∈ J, y.1 = 0) : wStk ((m, d, vs, J ++ I) :: G) = wStk ((m', d', vs, I) :: G) := by
  show wIt _ _ (J ++ I) ++ _ = _
  rw [wIt_v h]
  rfl
theorem rStk_app : rStk ((m, d, vs, J ++ I) :: G) = rIt J ++ rStk ((m', d', vs, I) :: G) := by
  show (J ++ I).flatMap iR ++ _ = J.flatMap iR ++ (I.flatMap iR ++ _)
  rw [List.flatMap_append, List.append_assoc]
theorem cStk_app : cStk ((m, d, vs, J ++ I) :: G) = cIt J ++ cStk ((m', d', vs, I) :: G) := by
  show (J ++ I).flatMap iC ++ _ = J.flatMap iC ++ (I.flatMap iC ++ _)
  rw [List.flatMap_append, List.append_assoc]
theorem RXm.at (R : RXm s0 s h code Fs fu f ((m, d, vs, I) :: G) sh T out) : RXm s0 s h code Fs fu f ((m', d', vs, I) :: G) sh T out := R
theorem RXm.push (R : RXm s0 s h code Fs fu f ((m, d, vs, I) :: G) sh T out) (hn : (rStk ((m, d, vs, I) :: G)).length < 9000) (hx : rvl (s.2.2.1 47) f kk v x) (hk : ¬ (it.1 = 2 ∨ it.1 = 3 ∨ it.1 = 6 ∨ it.1 = 8)) (hi : iR it = [x]) : ∃ s', mf_291 N kk v s = some (s', none) ∧ RXm s0 s' h code Fs fu f ((m', d', vs, it :: I) :: G) sh T out ∧ s'.1 69 = s.1 69 ∧ s'.1 70 = s.1 70 ∧ s'.1 66 = s.1 66 := by
  obtain ⟨R1, R2, R3⟩ := R
  have e : rStk ((m', d', vs, it :: I) :: G) = x :: rStk ((m, d, vs, I) :: G) := by
    rw [rStk_cons (m' := m) (d' := d), hi]
    rfl
  refine ⟨_, r_psh R3 hn, ⟨R1.keep ⟨⟨fun q r => ?_, fun _ _ => rfl, fun q r => ?_, fun _ _ => rfl⟩, fun _ _ => rfl⟩ (fun q r => ?_) rfl, RM0.mv R2 (fun q r => ?_) rfl rfl (Nat.le_refl _) (fun _ _ => rfl) R2.2.2.2.2.2.2.2 ?_ rfl (wStk_cons hk), by rw [e]; rfl⟩, rfl, rfl, rfl⟩
  · unfold iRn at r
    exact if_neg (by omega)
  · unfold aRn at r
    show (if q = 50 then _ else if q = 49 then _ else s.2.2.1 q) = _
    rw [if_neg (by omega), if_neg (by omega)]
  · exact if_neg (by omega)
  · show (if q = 50 then _ else if q = 49 then _ else s.2.2.1 q) = _
    rw [if_neg (by omega), if_neg (by omega)]
  · rw [e]
    refine ⟨?_, R2.1.mono (fun _ _ _ z => z) (fun i hi => ?_)⟩
    · show rvl (s.2.2.1 47) f (if (rStk ((m, d, vs, I) :: G)).length = _ then kk else _) (if (rStk ((m, d, vs, I) :: G)).length = _ then v else _) x
      rw [if_pos rfl, if_pos rfl]
      exact hx
    · show (if i = _ then _ else _, if i = _ then _ else _) = _
      rw [if_neg (by omega), if_neg (by omega)]
theorem RXm.lower (R : RXm s0 s h code Fs fu f (a :: G) sh T out) (hc : rStk (a :: G) = l ++ rStk (b :: G)) (hv : b.2.2.1 = a.2.2.1) (hw : wStk (b :: G) = wStk (a :: G)) : RXm s0 (mI s 51 (Int32.ofNat (rStk (b :: G)).length)) h code Fs fu f (b :: G) sh T out := by
  obtain ⟨R1, R2, R3⟩ := R
  refine ⟨R1.I (by omega), RM0.mv R2 (fun q r => rfl) rfl rfl (Nat.le_refl _) (fun _ _ => rfl) R2.2.2.2.2.2.2.2 ?_ hv hw, rfl⟩
  have := R2.1
  rw [hc] at this
  exact this.app
theorem RXm.pc {z : Int32} (R : RXm s0 s h code Fs fu f (a :: G) sh T out) : RXm s0 (mI s 69 z) h code Fs fu f (a :: G) sh T out := by
  obtain ⟨R1, R2, R3⟩ := R
  exact ⟨R1.I (by omega), RM0.mv R2 (fun q r => rfl) rfl rfl (Nat.le_refl _) (fun _ _ => rfl) R2.2.2.2.2.2.2.2 R2.1 rfl rfl, R3⟩
theorem RXm.st (R : RXm s0 s h code Fs fu f (a :: G) sh T out) : RXm s0 (mI s 60 (Int32.ofNat (T.1 + 1))) h code Fs fu f (a :: G) sh (T.1 + 1, T.2) out := by
  obtain ⟨R1, R2, R3⟩ := R
  exact ⟨R1.st, RM0.mv R2 (fun q r => rfl) rfl rfl (Nat.le_refl _) (fun _ _ => rfl) R2.2.2.2.2.2.2.2 R2.1 rfl rfl, R3⟩
/-- a step -/
theorem r_step (R : RXm s0 s h code Fs fu f (a :: G) sh T out) (hf : fu ≤ 20000) (hs : T.1 < fu) : mf_302 N s = some (mI s 60 (Int32.ofNat (T.1 + 1)), none) := by
  obtain ⟨h1, h2, -⟩ := R.1.2.1
  generalize T.1 = st at *
  have n1 : ¬ st = fu := by omega
  unfold mf_302 mf_302_0 mf_302_24 mf_302_34
  simp (disch := omega) only [ev_S, ev_P, ↓reduceIte, Nat.reduceEqDiff, Nat.reduceLeDiff, Nat.reduceAdd, Nat.reduceMul, Nat.reduceSub, reduceCtorEq, l32_0, l32_1, l32_2, l32_3, l32_4, l32_5, l32_6, l32_7, l32_8, l32_9, l32_10, l32_11, l32_12, l32_13, l32_14, l32_15, l32_16, l32_17, l32_18, l32_19, l32_20, l32_21, l32_22, l32_23, l32_24, l32_25, l32_26, l32_27, l32_28, l32_29, l32_33, l32_40, l32_41, l32_44, l32_45, l32_59, l32_61, l32_91, l32_93, l32_123, l32_125, h1, h2, n1]
theorem r_nost (R : RXm s0 s h code Fs fu f (a :: G) sh T out) (hf : fu ≤ 20000) (hs : ¬ T.1 < fu) (hT : T.1 ≤ fu) : mf_302 N s = some (trb s (Int32.ofNat 10) (s.1 70), none) ∧ RBk s0 (trb s (Int32.ofNat 10) (s.1 70)) h code Fs fu T out (Int32.ofNat 10) (s.1 70) ∧ RM0 (trb s (Int32.ofNat 10) (s.1 70)) f h code (a :: G) sh := by
  have hev := R.1
  obtain ⟨h1, h2, -⟩ := R.1.2.1
  have b1 : mf_301 N (Int32.ofNat 10) (s.1 70) s = some (trb s (Int32.ofNat 10) (s.1 70), none) := r_trb R.1.2.2.1.1
  refine ⟨?_, ?_, ?_⟩
  · have e : T.1 = fu := by omega
    generalize T.1 = st at *
    unfold mf_302 mf_302_0 mf_302_11 mf_302_21 mf_302_34
    simp (disch := omega) only [ev_S, ev_P, ↓reduceIte, Nat.reduceEqDiff, Nat.reduceLeDiff, Nat.reduceAdd, Nat.reduceMul, Nat.reduceSub, reduceCtorEq, l32_0, l32_1, l32_2, l32_3, l32_4, l32_5, l32_6, l32_7, l32_8, l32_9, l32_10, l32_11, l32_12, l32_13, l32_14, l32_15, l32_16, l32_17, l32_18, l32_19, l32_20, l32_21, l32_22, l32_23, l32_24, l32_25, l32_26, l32_27, l32_28, l32_29, l32_33, l32_40, l32_41, l32_44, l32_45, l32_59, l32_61, l32_91, l32_93, l32_123, l32_125, h1, h2, e, b1]
  · obtain ⟨c1, c2, c3, c4, c5⟩ := hev
    refine ⟨c1.keep (fun _ _ _ => rfl), c2, ⟨rfl, rfl⟩, c4.ch rfl rfl, c5.tr ⟨⟨fun q r => ?_, fun _ _ => rfl, fun _ _ => rfl, fun _ _ => rfl⟩, fun _ _ => rfl⟩⟩
    unfold iRn at r
    show (if q = 67 then _ else if q = 66 then _ else s.1 q) = _
    rw [if_neg (by omega), if_neg (by omega)]
  · exact RM0.mv R.2.1 (fun q r => rfl) rfl rfl (Nat.le_refl _) (fun _ _ => rfl) R.2.1.2.2.2.2.2.2.2 R.2.1.1 rfl rfl
/-- a trouble that is told, else all as it was -/
theorem RXm.trb {k : Nat} (R : RXm s0 s h code Fs fu f (a :: G) sh T out) {q : Int32} : mf_301 N (Int32.ofNat k) q s = some (trb s (Int32.ofNat k) q, none) ∧ RBk s0 (trb s (Int32.ofNat k) q) h code Fs fu T out (Int32.ofNat k) q ∧ RM0 (trb s (Int32.ofNat k) q) f h code (a :: G) sh := by
  refine ⟨r_trb R.1.2.2.1.1, ?_, RM0.mv R.2.1 (fun q r => rfl) rfl rfl (Nat.le_refl _) (fun _ _ => rfl) R.2.1.2.2.2.2.2.2.2 R.2.1.1 rfl rfl⟩
  obtain ⟨c1, c2, c3, c4, c5⟩ := R.1
  refine ⟨c1.keep (fun _ _ _ => rfl), c2, ⟨rfl, rfl⟩, c4.ch rfl rfl, c5.tr ⟨⟨fun q r => ?_, fun _ _ => rfl, fun _ _ => rfl, fun _ _ => rfl⟩, fun _ _ => rfl⟩⟩
  unfold iRn at r
  show (if q = 67 then _ else if q = 66 then _ else s.1 q) = _
  rw [if_neg (by omega), if_neg (by omega)]
/-- no fuel is left -/
theorem nofuel {sf : mS} {j0 : Nat} {ac g : Int32} {l1 : Nat} (C : CX t0 t p code Fs fu S0 u w (a :: G) sh T out) (hQ : ∀ Q, cf_141_L4 N X (Q + 1) 0 (Int32.ofNat n) t = if ac < Int32.ofNat 19 then cf_141_120 N X (cf_141_L4 N X Q) (Int32.ofNat n) ac g pl (jI t 49 17 q) else cf_141_108 N X (cf_141_L4 N X Q) (Int32.ofNat n) ac g pl (jI t 49 17 q)) (hac : ¬ ac < Int32.ofNat 19) (hT : okTy fu T) (hs : ¬ T.1 < fu) (B : RBk s0 sf h code Fs fu T out (Int32.ofNat 10) pl) (M : RM0 sf f h code (a :: G) sh) (hs2 : ∀ Q x2, mf_68_L10 N (Q + (0 + 1)) 0 x2 s = mo_bi (mf_312 N sf) (fun s3 y => mf_68_L10 N Q 0 x2 s3)) (ho : out.length ≤ 200000000) (hG : G.length ≤ 9) : GO N X t0 s0 p h code Fs fu S0 t s n := by
  obtain ⟨f1, f2, f3, f4, f5⟩ := hT
  have C1 := C.pc (z := q) (Or.inl rfl)
  refine Or.inr ⟨1, 2, _, sf, by omega, by omega, fun Q => ?_, fun Q x2 => ?_, tr_end (k := 10) (r := Int32.ofNat 0) (by omega) C1.cy B rfl ho⟩
  · rw [hQ Q]
    have h1 : kI (jI t 49 17 q) 48 1 = Int32.ofNat fu := C1.1.2.1.1
    have h2 : kI (jI t 49 17 q) 48 2 = Int32.ofNat T.1 := C1.1.2.1.2.1
    rw [show T.1 = fu by omega] at h2
    exact c_rdX hac h1 h2 f1
  · rw [show Q + 2 = Q + 1 + (0 + 1) by omega, hs2 (Q + 1) x2]
    have h66 : sf.1 66 = Int32.ofNat 10 := B.2.2.1.1
    have hd : sf.1 73 = Int32.ofNat (G.length + 1) := M.2.2.2.2.2.1
    have e1 : mf_312 N sf = some (sf, some (.int (Int32.ofNat 0))) := by
      unfold mf_312 mf_312_0 mf_312_9
      simp (disch := omega) only [ev_S, ev_P, ↓reduceIte, Nat.reduceEqDiff, Nat.reduceLeDiff, Nat.reduceAdd, Nat.reduceMul, Nat.reduceSub, reduceCtorEq, l32_0, l32_1, l32_2, l32_3, l32_4, l32_5, l32_6, l32_7, l32_8, l32_9, l32_10, l32_11, l32_12, l32_13, l32_14, l32_15, l32_16, l32_17, l32_18, l32_19, l32_20, l32_21, l32_22, l32_23, l32_24, l32_25, l32_26, l32_27, l32_28, l32_29, l32_33, l32_40, l32_41, l32_44, l32_45, l32_59, l32_61, l32_91, l32_93, l32_123, l32_125, h66]
    rw [e1, ev_bi]
    show mf_68_258 N (mf_68_L10 N Q) x2 sf = _
    generalize G.length = nf at *
    unfold mf_68_258 mf_68_265
    simp (disch := omega) only [ev_S, ev_P, ↓reduceIte, Nat.reduceEqDiff, Nat.reduceLeDiff, Nat.reduceAdd, Nat.reduceMul, Nat.reduceSub, reduceCtorEq, l32_0, l32_1, l32_2, l32_3, l32_4, l32_5, l32_6, l32_7, l32_8, l32_9, l32_10, l32_11, l32_12, l32_13, l32_14, l32_15, l32_16, l32_17, l32_18, l32_19, l32_20, l32_21, l32_22, l32_23, l32_24, l32_25, l32_26, l32_27, l32_28, l32_29, l32_33, l32_40, l32_41, l32_44, l32_45, l32_59, l32_61, l32_91, l32_93, l32_123, l32_125, hd, h66]
end RXP
