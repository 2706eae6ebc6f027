/-! ===== PURE: run (90): a variable is set, a try is found (the reference) ===== -/
/-- as RB, with a trouble told -/
def RBk (s0 s : mS) (h : Nat) (code : List Ins) (Fs : List Fn) (fu : Nat) (T : Ty) (out : List Int32) (k pl : Int32) : Prop := rEv s h code Fs ∧ rTy s fu T ∧ (s.1 66 = k ∧ s.1 67 = pl) ∧ rOut s out ∧ fRn s0 s
def RXm (s0 s : mS) (h : Nat) (code : List Ins) (Fs : List Fn) (fu f : Nat) (F : List Fm) (sh : Nat → Option Nod) (T : Ty) (out : List Int32) : Prop := RB s0 s h code Fs fu T out ∧ RM0 s f h code F sh ∧ s.1 51 = Int32.ofNat (rStk F).length
section RST
variable {N : Nat} {s0 s s' : mS} {f f' h fu n m m' d d' r : Nat} {code : List Ins} {Fs : List Fn} {T : Ty} {out : List Int32} {F G : List Fm} {sh : Nat → Option Nod} {vs : List (Option Nod)} {I : List It} {a : Fm} {k v k0 pl : Int32} {x : Nod}
theorem rFr.loc : ∀ {F : List Fm}, (∀ q, 74 ≤ q → q ≤ 76 → ∀ y, y < F.length → s'.2.2.1 q y = s.2.2.1 q y) → (∀ y, y < 14 * F.length → s'.2.2.1 77 y = s.2.2.1 77 y ∧ s'.2.2.1 78 y = s.2.2.1 78 y) → (f ≤ f') → (∀ y, y < f → s'.2.2.1 47 y = s.2.2.1 47 y) → rFr s f h code F → rFr s' f' h code F
  | [], _, _, _, _, _ => trivial
  | a :: F, h1, h2, hf, hh, H => by
    obtain ⟨a1, a2, a3, a4, a5⟩ := H
    refine ⟨?_, ?_, ?_, fun i hi => ?_, rFr.loc (fun q q1 q2 y hy => h1 q q1 q2 y (Nat.lt_succ_of_lt hy)) (fun y hy => h2 y (by rw [List.length_cons]; omega)) hf hh a5⟩
    · rw [h1 74 (by omega) (by omega) _ (Nat.lt_succ_self _)]; exact a1
    · rw [h1 75 (by omega) (by omega) _ (Nat.lt_succ_self _)]; exact a2
    · rw [h1 76 (by omega) (by omega) _ (Nat.lt_succ_self _)]; exact a3
    · have := h2 (14 * F.length + i) (by rw [List.length_cons]; omega)
      rw [this.1, this.2]
      exact (a4 i hi).up hf hh
/-- where the reference has a variable -/
theorem r_var (h73 : s.1 73 = Int32.ofNat (G.length + 1)) (hG : G.length ≤ 9) (hr : 8 ≤ r) (hr2 : r < 22) : (Int32.ofNat 14 * (Int32.ofNat (G.length + 1) - Int32.ofNat 1) + Int32.ofNat r) - Int32.ofNat 8 = Int32.ofNat (14 * G.length + (r - 8)) := by
  rw [← Int32.ofNat_sub _ _ (by omega), Nat.add_sub_cancel, i32mul, i32add, ← Int32.ofNat_sub _ _ (by omega)]
  congr 1
  omega
abbrev stM (s : mS) (r n : Nat) (k v : Int32) : mS := if r < 8 then mA (mA s 71 (upd (s.2.2.1 71) r k)) 72 (upd (s.2.2.1 72) r v) else mA (mA s 77 (upd (s.2.2.1 77) (14 * n + (r - 8)) k)) 78 (upd (s.2.2.1 78) (14 * n + (r - 8)) v)
theorem r_store (h73 : s.1 73 = Int32.ofNat (G.length + 1)) (hG : G.length ≤ 9) (hr2 : r < 22) : mf_307 N (Int32.ofNat r) k v s = some (stM s r G.length k v, none) := by
  unfold stM
  by_cases c : r < 8
  · rw [if_pos c]
    have c' : ¬ 8 ≤ r := by omega
    unfold mf_307 mf_307_0 mf_307_6 mf_307_63
    simp (disch := omega) only [ev_S, ev_P, ↓reduceIte, Nat.reduceEqDiff, Nat.reduceLeDiff, Nat.reduceAdd, Nat.reduceMul, Nat.reduceSub, reduceCtorEq, l32_0, l32_1, l32_2, l32_3, l32_4, l32_5, l32_6, l32_7, l32_8, l32_9, l32_10, l32_11, l32_12, l32_13, l32_14, l32_15, l32_16, l32_17, l32_18, l32_19, l32_20, l32_21, l32_22, l32_23, l32_24, l32_25, l32_26, l32_27, l32_28, l32_29, l32_33, l32_40, l32_41, l32_44, l32_45, l32_59, l32_61, l32_91, l32_93, l32_123, l32_125, c']
  · rw [if_neg c]
    have c' : 8 ≤ r := by omega
    have e := r_var (r := r) h73 hG c' hr2
    have hb : 14 * G.length + (r - 8) < 140 := by omega
    have E1 : mf_307 N (Int32.ofNat r) k v s = mf_307_23 N (Int32.ofNat r) k v s := by
      unfold mf_307 mf_307_0
      simp (disch := omega) only [ev_S, ev_P, ↓reduceIte, Nat.reduceEqDiff, Nat.reduceLeDiff, Nat.reduceAdd, Nat.reduceMul, Nat.reduceSub, reduceCtorEq, l32_0, l32_1, l32_2, l32_3, l32_4, l32_5, l32_6, l32_7, l32_8, l32_9, l32_10, l32_11, l32_12, l32_13, l32_14, l32_15, l32_16, l32_17, l32_18, l32_19, l32_20, l32_21, l32_22, l32_23, l32_24, l32_25, l32_26, l32_27, l32_28, l32_29, l32_33, l32_40, l32_41, l32_44, l32_45, l32_59, l32_61, l32_91, l32_93, l32_123, l32_125, c']
    rw [E1]
    generalize 14 * G.length + (r - 8) = q at *
    unfold mf_307_23 mf_307_63
    rw [h73]
    have e : ((14 : Int32) * (Int32.ofNat (G.length + 1) - 1) + Int32.ofNat r) - 8 = Int32.ofNat q := e
    rw [e]
    simp (disch := omega) only [ev_S, ev_P, ↓reduceIte, Nat.reduceEqDiff, Nat.reduceLeDiff, Nat.reduceAdd, Nat.reduceMul, Nat.reduceSub, reduceCtorEq, l32_0, l32_1, l32_2, l32_3, l32_4, l32_5, l32_6, l32_7, l32_8, l32_9, l32_10, l32_11, l32_12, l32_13, l32_14, l32_15, l32_16, l32_17, l32_18, l32_19, l32_20, l32_21, l32_22, l32_23, l32_24, l32_25, l32_26, l32_27, l32_28, l32_29, l32_33, l32_40, l32_41, l32_44, l32_45, l32_59, l32_61, l32_91, l32_93, l32_123, l32_125]
theorem RM0.store (H : RM0 s f h code ((m, d, vs, I) :: G) sh) (hx : rvl (s.2.2.1 47) f k v x) (hr : r < 8 + vs.length) (hv : vs.length ≤ 14) : RM0 (stM s r G.length k v) f h code ((m', d', stV r x vs, I) :: G) (if r < 8 then stS r x sh else sh) := by
  obtain ⟨a1, ⟨b1, b2, b3, b4, b5⟩, a3, a4, a5, a6, a7, a8⟩ := H
  unfold stM stV
  by_cases c : r < 8
  · rw [if_pos c, if_pos c, if_pos c]
    refine ⟨a1, ⟨b1, b2, b3, b4, rFr.loc (s := s) (fun _ _ _ _ _ => ?_) (fun y hy => ⟨rfl, rfl⟩) (Nat.le_refl _) (fun _ _ => rfl) b5⟩, a3, fun i hi => ?_, a5, a6, a7, a8⟩
    · rename_i q q1 q2 y hy
      show (if q = 72 then _ else if q = 71 then _ else s.2.2.1 q) y = _
      rw [if_neg (by omega), if_neg (by omega)]
    · show rvo (s.2.2.1 47) f (if i = r then k else s.2.2.1 71 i) (if i = r then v else s.2.2.1 72 i) (if i = r then some x else sh i)
      by_cases e : i = r
      · rw [if_pos e, if_pos e, if_pos e]; exact hx
      · rw [if_neg e, if_neg e, if_neg e]; exact a4 i hi
  · rw [if_neg c, if_neg c, if_neg c]
    refine ⟨a1, ⟨b1, b2, b3, fun i hi => ?_, rFr.loc (s := s) (fun q q1 q2 y hy => ?_) (fun y hy => ⟨?_, ?_⟩) (Nat.le_refl _) (fun _ _ => rfl) b5⟩, a3, a4, a5, a6, a7, a8⟩
    · show rvo (s.2.2.1 47) f (if 14 * G.length + i = 14 * G.length + (r - 8) then k else s.2.2.1 77 (14 * G.length + i)) (if 14 * G.length + i = 14 * G.length + (r - 8) then v else s.2.2.1 78 (14 * G.length + i)) ((vs.set (r - 8) (some x)).getD i none)
      by_cases e : i = r - 8
      · rw [if_pos (by omega), if_pos (by omega), e, List.getD_eq_getElem?_getD, List.getElem?_set_self (by omega)]
        exact hx
      · rw [if_neg (by omega), if_neg (by omega), List.getD_eq_getElem?_getD, List.getElem?_set_ne (fun q => e q.symm), ← List.getD_eq_getElem?_getD]
        exact b4 i hi
    · show (if q = 78 then _ else if q = 77 then _ else s.2.2.1 q) y = _
      rw [if_neg (by omega), if_neg (by omega)]
    · show (if y = 14 * G.length + (r - 8) then _ else _) = _
      rw [if_neg (by omega)]
    · show (if y = 14 * G.length + (r - 8) then _ else _) = _
      rw [if_neg (by omega)]
theorem stM_f : fRn s (stM s r n k v) := by
  unfold stM
  by_cases c : r < 8
  · rw [if_pos c]
    refine ⟨⟨fun _ _ => rfl, fun _ _ => rfl, fun q r => ?_, fun _ _ => rfl⟩, fun _ _ => rfl⟩
    show (if q = 72 then _ else if q = 71 then _ else s.2.2.1 q) = _
    unfold aRn at r
    rw [if_neg (by omega), if_neg (by omega)]
  · rw [if_neg c]
    refine ⟨⟨fun _ _ => rfl, fun _ _ => rfl, fun q r => ?_, fun _ _ => rfl⟩, fun _ _ => rfl⟩
    show (if q = 78 then _ else if q = 77 then _ else s.2.2.1 q) = _
    unfold aRn at r
    rw [if_neg (by omega), if_neg (by omega)]
theorem stM_i : (stM s r n k v).1 = s.1 ∧ (stM s r n k v).2.2.1 86 = s.2.2.1 86 ∧ (stM s r n k v).2.2.1 47 = s.2.2.1 47 ∧ (stM s r n k v).2.2.1 83 = s.2.2.1 83 := by
  unfold stM
  by_cases c : r < 8
  · rw [if_pos c]; exact ⟨rfl, rfl, rfl, rfl⟩
  · rw [if_neg c]; exact ⟨rfl, rfl, rfl, rfl⟩
/-- all ways are of these kinds -/
theorem wStk_k : ∀ {F : List Fm}, ∀ w ∈ wStk F, w.1.1 = 2 ∨ w.1.1 = 3 ∨ w.1.1 = 6 ∨ w.1.1 = 8
  | [], w, hw => by cases hw
  | a :: F, w, hw => by
    rcases List.mem_append.mp (show w ∈ wIt _ _ _ ++ wStk F from hw) with r | r
    · have key : ∀ {I : List It} {b d : Nat}, w ∈ wIt b d I → w.1.1 = 2 ∨ w.1.1 = 3 ∨ w.1.1 = 6 ∨ w.1.1 = 8 := by
        intro I
        induction I with
        | nil => intro b d q; cases q
        | cons x I ih =>
          intro b d q
          unfold wIt at q
          by_cases c : x.1 = 2 ∨ x.1 = 3 ∨ x.1 = 6 ∨ x.1 = 8
          · rw [if_pos c] at q
            rcases List.mem_cons.mp q with r | r
            · rw [r]; exact c
            · exact ih r
          · rw [if_neg c] at q
            exact ih q
      exact key r
    · exact wStk_k w r
/-- those that are no try are passed by -/
theorem r_pass {R : List (It × Nat × Nat)} : ∀ {W : List (It × Nat × Nat)}, stk (wayP (s.2.2.1 47) f h code) (fun i => (s.2.2.1 80 i, s.2.2.1 81 i, s.2.2.1 82 i, s.2.2.1 83 i, s.2.2.1 84 i, s.2.2.1 85 i)) (W ++ R) → (∀ w ∈ W, w.1.1 = 2 ∨ w.1.1 = 3 ∨ w.1.1 = 6 ∨ w.1.1 = 8) → (∀ w ∈ W, ¬ w.1.1 = 3) → (W ++ R).length ≤ 400 → ∀ Q, mf_312_L12 N (Q + W.length) 0 (Int32.ofNat (W ++ R).length - Int32.ofNat 1) s = mf_312_L12 N Q 0 (Int32.ofNat R.length - Int32.ofNat 1) s
  | [], _, _, _, _, _ => rfl
  | w :: W, H, h1, h2, hl, Q => by
    have hk := h1 w List.mem_cons_self
    have hn := h2 w List.mem_cons_self
    have H1 : wayP _ _ _ _ _ w := H.1
    have ih := r_pass (R := R) (W := W) H.2 (fun y hy => h1 y (List.mem_cons_of_mem _ hy)) (fun y hy => h2 y (List.mem_cons_of_mem _ hy)) (by simp only [List.cons_append, List.length_cons] at hl; omega) Q
    have e80 : ∃ c : Nat, (c = 1 ∨ c = 3 ∨ c = 4) ∧ s.2.2.1 80 (W ++ R).length = Int32.ofNat c := by
      rcases hk with z | z | z | z
      · exact ⟨1, Or.inl rfl, (H1.1 z).1⟩
      · exact absurd z hn
      · refine ⟨3, Or.inr (Or.inl rfl), ?_⟩
        have := (H1.2.2 (Or.inl z)).1
        rw [if_pos z] at this
        exact this
      · refine ⟨4, Or.inr (Or.inr rfl), ?_⟩
        have := (H1.2.2 (Or.inr z)).1
        rw [if_neg (by omega)] at this
        exact this
    obtain ⟨c, hc, e80⟩ := e80
    have hl : (W ++ R).length + 1 ≤ 400 := hl
    have e1 : Int32.ofNat ((w :: W) ++ R).length - Int32.ofNat 1 = Int32.ofNat (W ++ R).length := by
      show Int32.ofNat ((W ++ R).length + 1) - Int32.ofNat 1 = _
      rw [← Int32.ofNat_sub _ _ (by omega)]
      rfl
    rw [e1, ← ih]
    show mf_312_18 N (mf_312_L12 N (Q + W.length)) (Int32.ofNat (W ++ R).length) s = _
    generalize (W ++ R).length = n at *
    have hc2 : ¬ c = 2 := by omega
    unfold mf_312_18 mf_312_22 mf_312_32
    simp (disch := omega) only [ev_S, ev_P, ↓reduceIte, Nat.reduceEqDiff, Nat.reduceLeDiff, Nat.reduceAdd, Nat.reduceMul, Nat.reduceSub, reduceCtorEq, l32_0, l32_1, l32_2, l32_3, l32_4, l32_5, l32_6, l32_7, l32_8, l32_9, l32_10, l32_11, l32_12, l32_13, l32_14, l32_15, l32_16, l32_17, l32_18, l32_19, l32_20, l32_21, l32_22, l32_23, l32_24, l32_25, l32_26, l32_27, l32_28, l32_29, l32_33, l32_40, l32_41, l32_44, l32_45, l32_59, l32_61, l32_91, l32_93, l32_123, l32_125, e80, hc2]
    rw [Int32.sub_eq_add_neg]
end RST
