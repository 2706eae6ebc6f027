/-! ===== PURE: statements (1): a word is passed; what the reference does behind a fault ===== -/
section WRD
variable {N : Nat} {X : Nat → Option zz_C} {t t' : cS} {s s' s1 s2 : mS} {b : Nat → Nat} {n p e i op D D' : Nat} {code code1 : List Ins} {vs : List (List Nat)} {cl : List Cn} {W : List Wt} {cu : List Nat} {fs : Nat × Nat × Nat}
theorem wix_wd {w : Nat} (hw : w < 41) : wix (wd w) = some w := by
  cases h : wix (wd w) with
  | none => exact absurd rfl (wix_none h w hw)
  | some i =>
    obtain ⟨h1, h2⟩ := wix_some h
    rw [wd_inj i w h1 hw h2]
/-- both pass this word, or fault -/
theorem p_word {w : Nat} (hN : 170000 ≤ N) (hX : oX N X) (hw : w < 41) (h : pR b n i op t s) : (∃ t' s', cf_200 N X (zz_out + (w + 1)) t = some (t', .inl none) ∧ mf_269 N (Int32.ofNat w) s = some (s', none) ∧ pR b n (i + 1) op t' s' ∧ gL eP a0 t t' ∧ fPs s s') ∨ (∃ t' s', cf_200 N X (zz_out + (w + 1)) t = some (t', .inr ()) ∧ mf_269 N (Int32.ofNat w) s = some (s', none) ∧ pF t' s' ∧ gX eP a0 t t' ∧ fPs s s') := by
  obtain ⟨hi, e5, e6, e7, hkk, ho, he, hlt, hll⟩ := h.now
  have h9 : s.1 9 = Int32.ofNat 0 := h.2.2.2.2.2.2.2.2.2
  have g1 := r_isWord (N := N) h.2.2.2.2.2.2.2.1 hw hkk
  have o2 : (zz_out < zz_out + (w + 1)) = True := eq_true (by omega)
  have o3 : (zz_out + (w + 1) ≤ zz_out + 41) = True := eq_true (by omega)
  by_cases z : (TL b n)[i].1 = 3 ∧ wix (TL b n)[i].2.2.1 = some w
  · obtain ⟨w1, w2, w3, w4⟩ := c_word (N := N) (X := X) hX h (fun _ => z)
    obtain ⟨t', s', a1, a2, a3, a4, a5⟩ := p_adv (N := N) (X := X) hN h (fun _ => by omega)
    have hff : cf_202 N X (Int32.ofNat 1) (Int32.ofNat 2) t = some (t, .inl none) := c_fine
    rw [if_pos ⟨z.1, (wix_some z.2).2.symm⟩] at g1
    refine Or.inl ⟨t', s', ?_, ?_, a3, a4, a5⟩
    · unfold cf_200 cf_200_0 cf_200_8 cf_200_12 cf_200_16 cf_200_20 cf_200_25 cf_200_29 cf_200_36
      simp (disch := omega) only [ev_S, ev_C, ↓reduceIte, Nat.reduceEqDiff, Nat.reduceLeDiff, Nat.reduceAdd, Nat.reduceMul, Nat.reduceSub, reduceCtorEq, l32_0, l32_1, l32_2, l32_3, l32_4, l32_5, l32_6, l32_7, l32_8, l32_9, l32_10, l32_11, l32_12, l32_13, l32_14, l32_15, l32_16, l32_17, l32_18, l32_19, l32_20, l32_21, l32_22, l32_23, l32_24, l32_25, l32_26, l32_27, l32_28, l32_29, l32_33, l32_40, l32_41, l32_44, l32_45, l32_59, l32_61, l32_91, l32_93, l32_123, l32_125, c_kindNow, w2, w1, o2, o3, ac_ne, hff, a1]
    · unfold mf_269 mf_269_0 mf_269_8 mf_269_13 mf_269_16 mf_269_20 mf_269_27
      simp (disch := omega) only [ev_S, ev_P, ↓reduceIte, Nat.reduceEqDiff, Nat.reduceLeDiff, Nat.reduceAdd, Nat.reduceMul, Nat.reduceSub, reduceCtorEq, l32_0, l32_1, l32_2, l32_3, l32_4, l32_5, l32_6, l32_7, l32_8, l32_9, l32_10, l32_11, l32_12, l32_13, l32_14, l32_15, l32_16, l32_17, l32_18, l32_19, l32_20, l32_21, l32_22, l32_23, l32_24, l32_25, l32_26, l32_27, l32_28, l32_29, l32_33, l32_40, l32_41, l32_44, l32_45, l32_59, l32_61, l32_91, l32_93, l32_123, l32_125, h9, g1, a2]
  · obtain ⟨t', s', a1, a2, a3, a4, a5⟩ := p_wrong (N := N) (X := X) h
    have a1 : cf_202 N X (Int32.ofNat 0) (Int32.ofNat 2) t = some (t', .inr ()) := a1
    rw [if_neg (fun y => z ⟨y.1, by rw [y.2]; exact wix_wd hw⟩)] at g1
    refine Or.inr ⟨t', s', ?_, ?_, a3, a4, a5⟩
    · by_cases y : ck (TL b n)[i] = 4
      · have y0 := ck4.mp y
        rcases y0 with ⟨y1, v, y2⟩ | y1
        · obtain ⟨w1, w2, w3, w4⟩ := c_word (N := N) (X := X) hX h (fun _ => ⟨y1, y2⟩)
          have hne : ¬ v = w := fun q => z ⟨y1, by rw [y2, q]⟩
          have o4 : (zz_out < zz_out + (v + 1)) = True := eq_true (by omega)
          have o5 : (zz_out + (v + 1) ≤ zz_out + 41) = True := eq_true (by omega)
          have o6 : (zz_out + (v + 1) = zz_out + (w + 1)) = False := eq_false (by omega)
          unfold cf_200 cf_200_0 cf_200_8 cf_200_12 cf_200_16 cf_200_24 cf_200_25
          simp (disch := omega) only [ev_S, ev_C, ↓reduceIte, Nat.reduceEqDiff, Nat.reduceLeDiff, Nat.reduceAdd, Nat.reduceMul, Nat.reduceSub, reduceCtorEq, l32_0, l32_1, l32_2, l32_3, l32_4, l32_5, l32_6, l32_7, l32_8, l32_9, l32_10, l32_11, l32_12, l32_13, l32_14, l32_15, l32_16, l32_17, l32_18, l32_19, l32_20, l32_21, l32_22, l32_23, l32_24, l32_25, l32_26, l32_27, l32_28, l32_29, l32_33, l32_40, l32_41, l32_44, l32_45, l32_59, l32_61, l32_91, l32_93, l32_123, l32_125, c_kindNow, w2, w1, o2, o3, o4, o5, o6, ac_ne, a1]
          rfl
        · rcases ho with q | q | q | q | q <;> omega
      · unfold cf_200 cf_200_0 cf_200_8 cf_200_24 cf_200_25
        simp (disch := omega) only [ev_S, ev_C, ↓reduceIte, Nat.reduceEqDiff, Nat.reduceLeDiff, Nat.reduceAdd, Nat.reduceMul, Nat.reduceSub, reduceCtorEq, l32_0, l32_1, l32_2, l32_3, l32_4, l32_5, l32_6, l32_7, l32_8, l32_9, l32_10, l32_11, l32_12, l32_13, l32_14, l32_15, l32_16, l32_17, l32_18, l32_19, l32_20, l32_21, l32_22, l32_23, l32_24, l32_25, l32_26, l32_27, l32_28, l32_29, l32_33, l32_40, l32_41, l32_44, l32_45, l32_59, l32_61, l32_91, l32_93, l32_123, l32_125, c_kindNow, e5, y, a1]
        rfl
    · unfold mf_269 mf_269_0 mf_269_8 mf_269_13 mf_269_23 mf_269_27
      simp (disch := omega) only [ev_S, ev_P, ↓reduceIte, Nat.reduceEqDiff, Nat.reduceLeDiff, Nat.reduceAdd, Nat.reduceMul, Nat.reduceSub, reduceCtorEq, l32_0, l32_1, l32_2, l32_3, l32_4, l32_5, l32_6, l32_7, l32_8, l32_9, l32_10, l32_11, l32_12, l32_13, l32_14, l32_15, l32_16, l32_17, l32_18, l32_19, l32_20, l32_21, l32_22, l32_23, l32_24, l32_25, l32_26, l32_27, l32_28, l32_29, l32_33, l32_40, l32_41, l32_44, l32_45, l32_59, l32_61, l32_91, l32_93, l32_123, l32_125, h9, g1, a2]
/-- what statements may change in the reference -/
def fS (e : Nat) (s s' : mS) : Prop := (∀ q, ¬ (q = 5 ∨ q = 6 ∨ q = 8 ∨ q = 9 ∨ q = 10 ∨ q = 11 ∨ q = 22 ∨ q = 28 ∨ q = 29 ∨ q = 37 ∨ q = 44) → s'.1 q = s.1 q) ∧ (∀ q, ¬ q = 7 → s'.2.1 q = s.2.1 q) ∧ (∀ q, ¬ (q = 23 ∨ q = 24 ∨ q = 25 ∨ q = 26 ∨ q = 27 ∨ q = 30 ∨ q = 31 ∨ q = 32 ∨ q = 34 ∨ q = 35 ∨ q = 36 ∨ q = 38 ∨ q = 39 ∨ q = 40 ∨ q = 41 ∨ q = 43) → s'.2.2.1 q = s.2.2.1 q) ∧ (∀ q, ¬ (q = 21 ∨ q = 33 ∨ q = 42) → s'.2.2.2 q = s.2.2.2 q) ∧ (∀ q y, (q = 23 ∨ q = 24 ∨ q = 25 ∨ q = 26 ∨ q = 27) → (y < ob0 e ∨ ob0 e + 4000 ≤ y) → s'.2.2.1 q y = s.2.2.1 q y) ∧ (Kd s → Kd s')
theorem fS.rf : fS e s s := ⟨fun _ _ => rfl, fun _ _ => rfl, fun _ _ => rfl, fun _ _ => rfl, fun _ _ _ _ => rfl, fun z => z⟩
theorem fS.tr (h : fS e s s1) (g : fS e s1 s2) : fS e s s2 := ⟨fun q r => (g.1 q r).trans (h.1 q r), fun q r => (g.2.1 q r).trans (h.2.1 q r), fun q r => (g.2.2.1 q r).trans (h.2.2.1 q r), fun q r => (g.2.2.2.1 q r).trans (h.2.2.2.1 q r), fun q y r1 r2 => (g.2.2.2.2.1 q y r1 r2).trans (h.2.2.2.2.1 q y r1 r2), fun z => g.2.2.2.2.2 (h.2.2.2.2.2 z)⟩
theorem fQ.S (h : fQ e s s') : fS e s s' := ⟨fun q r => h.1 q (by omega), h.2.1, fun q r => h.2.2.1 q (by omega), h.2.2.2.1, h.2.2.2.2⟩
/-- what a block changes -/
abbrev fBk (s s' : mS) : Prop := mfr (fun q => q = 37) (fun _ => False) (fun q => q = 34 ∨ q = 35 ∨ q = 36) (fun _ => False) s s'
theorem fBk.S (f : fBk s s') : fS e s s' := ⟨fun q r => f.1 q (by omega), fun q _ => f.2.1 q (fun z => z), fun q r => f.2.2.1 q (by omega), fun q _ => f.2.2.2 q (fun z => z), fun q y r _ => congrFun (f.2.2.1 q (by omega)) y, Kd.kp (f.1 44 (by omega)) (fun q _ => f.2.2.1 q (by omega)) (f.2.2.2 42 (fun z => z))⟩
/-- a fault is told; not many orders, not many blocks -/
def fU (e : Nat) (m : Nat) (s : mS) : Prop := (∃ x : Nat, 1 ≤ x ∧ x ≤ 6 ∧ s.1 9 = Int32.ofNat x) ∧ m ≤ 3000 ∧ s.1 28 = Int32.ofNat m ∧ e ≤ 1 ∧ s.1 12 = Int32.ofNat e ∧ ∃ B : Nat, B ≤ 11 ∧ s.1 37 = Int32.ofNat B
/-- what the reference does behind a fault -/
def tl (e : Nat) (s s' : mS) : Prop := s'.1 9 = s.1 9 ∧ s'.1 10 = s.1 10 ∧ fS e s s'
theorem tl.rf : tl e s s := ⟨rfl, rfl, fS.rf⟩
theorem tl.tr (h : tl e s s1) (g : tl e s1 s2) : tl e s s2 := ⟨g.1.trans h.1, g.2.1.trans h.2.1, h.2.2.tr g.2.2⟩
theorem r_opensF {x : Nat} {c : Int32} (h9 : s.1 9 = Int32.ofNat x) (hx : 1 ≤ x ∧ x ≤ 6) : mf_268 N c s = some (s, none) := by
  unfold mf_268 mf_268_0 mf_268_7
  simp (disch := omega) only [ev_S, ev_P, ↓reduceIte, Nat.reduceEqDiff, Nat.reduceLeDiff, Nat.reduceAdd, Nat.reduceMul, Nat.reduceSub, reduceCtorEq, l32_0, l32_1, l32_2, l32_3, l32_4, l32_5, l32_6, l32_7, l32_8, l32_9, l32_10, l32_11, l32_12, l32_13, l32_14, l32_15, l32_16, l32_17, l32_18, l32_19, l32_20, l32_21, l32_22, l32_23, l32_24, l32_25, l32_26, l32_27, l32_28, l32_29, l32_33, l32_40, l32_41, l32_44, l32_45, l32_59, l32_61, l32_91, l32_93, l32_123, l32_125, h9]
theorem r_wordF {x : Nat} {c : Int32} (h9 : s.1 9 = Int32.ofNat x) (hx : 1 ≤ x ∧ x ≤ 6) : mf_269 N c s = some (s, none) := by
  unfold mf_269 mf_269_0 mf_269_7
  simp (disch := omega) only [ev_S, ev_P, ↓reduceIte, Nat.reduceEqDiff, Nat.reduceLeDiff, Nat.reduceAdd, Nat.reduceMul, Nat.reduceSub, reduceCtorEq, l32_0, l32_1, l32_2, l32_3, l32_4, l32_5, l32_6, l32_7, l32_8, l32_9, l32_10, l32_11, l32_12, l32_13, l32_14, l32_15, l32_16, l32_17, l32_18, l32_19, l32_20, l32_21, l32_22, l32_23, l32_24, l32_25, l32_26, l32_27, l32_28, l32_29, l32_33, l32_40, l32_41, l32_44, l32_45, l32_59, l32_61, l32_91, l32_93, l32_123, l32_125, h9]
theorem r_nameF {x : Nat} (h9 : s.1 9 = Int32.ofNat x) (hx : 1 ≤ x ∧ x ≤ 6) : mf_275 N s = some (s, some (.int (Int32.ofNat 0))) := by
  unfold mf_275 mf_275_0 mf_275_7
  simp (disch := omega) only [ev_S, ev_P, ↓reduceIte, Nat.reduceEqDiff, Nat.reduceLeDiff, Nat.reduceAdd, Nat.reduceMul, Nat.reduceSub, reduceCtorEq, l32_0, l32_1, l32_2, l32_3, l32_4, l32_5, l32_6, l32_7, l32_8, l32_9, l32_10, l32_11, l32_12, l32_13, l32_14, l32_15, l32_16, l32_17, l32_18, l32_19, l32_20, l32_21, l32_22, l32_23, l32_24, l32_25, l32_26, l32_27, l32_28, l32_29, l32_33, l32_40, l32_41, l32_44, l32_45, l32_59, l32_61, l32_91, l32_93, l32_123, l32_125, h9]
theorem r_exprF {x : Nat} {al : Int32} (hN : 170000 ≤ N) (h9 : s.1 9 = Int32.ofNat x) (hx : 1 ≤ x ∧ x ≤ 6) : mf_285 N al s = some (mI s 44 0, none) := by
  show LL N N al 0 (mI s 44 0) = _
  obtain ⟨f, rfl⟩ : ∃ f, N = f + 1 := ⟨N - 1, by omega⟩
  exact LL_f (s := mI s 44 0) (x := x) h9 hx
theorem Kd_0 : Kd (mI s 44 0) := ⟨[], rfl, Nat.zero_le _, fun i hi => absurd hi (Nat.not_lt_zero _)⟩
theorem tl_44 : tl e s (mI s 44 0) := ⟨rfl, rfl, ⟨fun q r => if_neg (by omega), fun _ _ => rfl, fun _ _ => rfl, fun _ _ => rfl, fun _ _ _ _ => rfl, fun _ => Kd_0⟩⟩
theorem fU.e44 {m : Nat} {x : Int32} (h : fU e m s) : fU e m (mI s 44 x) := h
theorem r_orderF {m : Nat} {x1 x2 x3 x4 : Int32} (h : fU e m s) : ∃ s', mf_271 N x1 x2 x3 x4 s = some (s', some (.int (Int32.ofNat (ob0 e + m)))) ∧ tl e s s' ∧ (m + 1 ≤ 3000 → fU e (m + 1) s') := by
  obtain ⟨h1, h2, h3, h4, h5, B, h6, h7⟩ := h
  have hs : (Int32.ofNat 4000 * (Int32.ofNat 1 - Int32.ofNat e)) + Int32.ofNat m = Int32.ofNat (ob0 e + m) := by
    have : e = 0 ∨ e = 1 := by omega
    rcases this with rfl | rfl
    · show Int32.ofNat 4000 + Int32.ofNat m = Int32.ofNat (4000 + m)
      rw [i32add]
    · show Int32.ofNat 0 + Int32.ofNat m = Int32.ofNat (0 + m)
      rw [i32add]
  have ho : ob0 e ≤ 4000 := by unfold ob0; omega
  have key : mf_271 N x1 x2 x3 x4 s = some (mI (mA (mA (mA (mA (mA s 23 (upd (s.2.2.1 23) (ob0 e + m) x1)) 24 (upd (s.2.2.1 24) (ob0 e + m) x2)) 25 (upd (s.2.2.1 25) (ob0 e + m) x3)) 26 (upd (s.2.2.1 26) (ob0 e + m) 0)) 27 (upd (s.2.2.1 27) (ob0 e + m) x4)) 28 (Int32.ofNat (m + 1)), some (.int (Int32.ofNat (ob0 e + m)))) := by
    repeat ((first | unfold mf_271 | unfold mf_271_0); try simp (disch := omega) only [ev_S, ev_P, ↓reduceIte, Nat.reduceEqDiff, Nat.reduceLeDiff, Nat.reduceAdd, Nat.reduceMul, Nat.reduceSub, reduceCtorEq, l32_0, l32_1, l32_2, l32_3, l32_4, l32_12, l32_23, l32_24, l32_25, l32_26, l32_27, l32_28, l32_4000, l32_8000, h3, h5, l32_4000, l32_8000])
  refine ⟨_, key, ⟨rfl, rfl, ⟨fun q r => if_neg (by omega), fun _ _ => rfl, fun q r => ?_, fun _ _ => rfl, fun q y r1 r2 => ?_, ?_⟩⟩, fun hm => ⟨h1, hm, rfl, h4, h5, B, h6, h7⟩⟩
  · show (if q = 27 then _ else if q = 26 then _ else if q = 25 then _ else if q = 24 then _ else if q = 23 then _ else s.2.2.1 q) = _
    rw [if_neg (by omega), if_neg (by omega), if_neg (by omega), if_neg (by omega), if_neg (by omega)]
  · have hy : ¬ y = ob0 e + m := by omega
    rcases r1 with r1 | r1 | r1 | r1 | r1 <;> subst r1 <;> exact upd_n hy
  · exact Kd.kp rfl (fun q z => by show (if q = 27 then _ else if q = 26 then _ else if q = 25 then _ else if q = 24 then _ else if q = 23 then _ else s.2.2.1 q) = _; rw [if_neg (by omega), if_neg (by omega), if_neg (by omega), if_neg (by omega), if_neg (by omega)]) rfl
/-- a block is put up -/
theorem r_push {x1 x2 x3 : Int32} {B : Nat} (h : s.1 37 = Int32.ofNat B) (hB : B ≤ 11) : ∃ s', mf_276_6 N x1 x2 x3 s = some (s', none) ∧ fBk s s' ∧ s'.1 37 = Int32.ofNat (B + 1) ∧ (∀ q, q = 34 ∨ q = 35 ∨ q = 36 → ∀ k, ¬ k = B → s'.2.2.1 q k = s.2.2.1 q k) ∧ s'.2.2.1 34 B = x1 ∧ s'.2.2.1 35 B = x2 ∧ s'.2.2.1 36 B = x3 := by
  have hs : mf_276_6 N x1 x2 x3 s = some (mI (mA (mA (mA s 34 (upd (s.2.2.1 34) B x1)) 35 (upd (s.2.2.1 35) B x2)) 36 (upd (s.2.2.1 36) B x3)) 37 (Int32.ofNat (B + 1)), none) := by
    unfold mf_276_6
    simp (disch := omega) only [ev_S, ev_P, ↓reduceIte, Nat.reduceEqDiff, Nat.reduceLeDiff, Nat.reduceAdd, Nat.reduceMul, Nat.reduceSub, reduceCtorEq, l32_0, l32_1, l32_2, l32_3, l32_4, l32_5, l32_6, l32_7, l32_8, l32_9, l32_10, l32_11, l32_12, l32_13, l32_14, l32_15, l32_16, l32_17, l32_18, l32_19, l32_20, l32_21, l32_22, l32_23, l32_24, l32_25, l32_26, l32_27, l32_28, l32_29, l32_33, l32_40, l32_41, l32_44, l32_45, l32_59, l32_61, l32_91, l32_93, l32_123, l32_125, h]
  refine ⟨_, hs, ⟨fun q r => if_neg r, fun _ _ => rfl, fun q r => ?_, fun _ _ => rfl⟩, rfl, fun q r k hk => ?_, upd_s, upd_s, upd_s⟩
  · show (if q = 36 then _ else if q = 35 then _ else if q = 34 then _ else s.2.2.1 q) = _
    rw [if_neg (by omega), if_neg (by omega), if_neg (by omega)]
  · rcases r with r | r | r <;> subst r <;> exact upd_n hk
theorem r_blockF {m : Nat} {x1 x2 x3 : Int32} (h : fU e m s) : ∃ s', mf_276 N x1 x2 x3 s = some (s', none) ∧ tl e s s' := by
  obtain ⟨⟨x, hx1, hx2, h9⟩, h2, h3, h4, h5, B, h6, h7⟩ := h
  obtain ⟨s', a1, a2, -⟩ := r_push (N := N) (x1 := x1) (x2 := x2) (x3 := x3) h7 h6
  refine ⟨s', ?_, a2.1 9 (by omega), a2.1 10 (by omega), fBk.S a2⟩
  unfold mf_276 mf_276_0
  rw [r_opensF h9 ⟨hx1, hx2⟩]
  exact a1
theorem pF.tl (h : pF t s) (g : tl e s s') : pF t s' := h.post g.1 g.2.1
end WRD
