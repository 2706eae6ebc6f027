/-! yX8_work (III)I -/
theorem cb_230_0 {X : Nat → Option zz_C} {h : zz_H} {t : cS} {s : mS} {d : Nat} {Q : zz_O → zz_H → Prop} {x1 : Int32} {x2 : Int32} {x3 : Int32} (hR : kR h t s) (c37 : x1 = 37 → (∀ {h : zz_H}, kR h t s → zz_J zp_P zt_tf zt_fd X d zm_230 80 [(0, .ref 58), (1, .int x1), (2, .int x2), (3, .int x3)] [] h Q)) (c38 : x1 = 38 → (∀ {h : zz_H}, kR h t s → zz_J zp_P zt_tf zt_fd X d zm_230 88 [(2, .int x2), (3, .int x3)] [] h Q)) (c42 : x1 = 42 → (∀ {h : zz_H}, kR h t s → zz_J zp_P zt_tf zt_fd X d zm_230 76 [(2, .int x2), (3, .int x3)] [] h Q)) (c43 : x1 = 43 → (∀ {h : zz_H}, kR h t s → zz_J zp_P zt_tf zt_fd X d zm_230 68 [(2, .int x2), (3, .int x3)] [] h Q)) (c45 : x1 = 45 → (∀ {h : zz_H}, kR h t s → zz_J zp_P zt_tf zt_fd X d zm_230 72 [(2, .int x2), (3, .int x3)] [] h Q)) (c47 : x1 = 47 → (∀ {h : zz_H}, kR h t s → zz_J zp_P zt_tf zt_fd X d zm_230 80 [(0, .ref 58), (1, .int x1), (2, .int x2), (3, .int x3)] [] h Q)) (c124 : x1 = 124 → (∀ {h : zz_H}, kR h t s → zz_J zp_P zt_tf zt_fd X d zm_230 92 [(2, .int x2), (3, .int x3)] [] h Q)) (kd : (¬ x1 = 37 ∧ ¬ x1 = 38 ∧ ¬ x1 = 42 ∧ ¬ x1 = 43 ∧ ¬ x1 = 45 ∧ ¬ x1 = 47 ∧ ¬ x1 = 124) → (∀ {h : zz_H}, kR h t s → zz_J zp_P zt_tf zt_fd X d zm_230 96 [(1, .int x1), (2, .int x2), (3, .int x3)] [] h Q)) : zz_J zp_P zt_tf zt_fd X d zm_230 0 [(0, .ref 58), (1, .int x1), (2, .int x2), (3, .int x3)] [] h Q := by
  refine zz_J.n 1 rfl rfl rfl ?_
  by_cases g37 : x1 = 37
  · exact zz_J.lk 80 79 rfl (by rw [g37]; rfl) (by decide) (by decide) rfl (zz_J.weak (c37 g37 hR) rfl ⟨rfl, rfl, rfl, rfl, trivial⟩)
  by_cases g38 : x1 = 38
  · exact zz_J.lk 88 87 rfl (by rw [g38]; rfl) (by decide) (by decide) rfl (zz_J.weak (c38 g38 hR) rfl ⟨rfl, rfl, trivial⟩)
  by_cases g42 : x1 = 42
  · exact zz_J.lk 76 75 rfl (by rw [g42]; rfl) (by decide) (by decide) rfl (zz_J.weak (c42 g42 hR) rfl ⟨rfl, rfl, trivial⟩)
  by_cases g43 : x1 = 43
  · exact zz_J.lk 68 67 rfl (by rw [g43]; rfl) (by decide) (by decide) rfl (zz_J.weak (c43 g43 hR) rfl ⟨rfl, rfl, trivial⟩)
  by_cases g45 : x1 = 45
  · exact zz_J.lk 72 71 rfl (by rw [g45]; rfl) (by decide) (by decide) rfl (zz_J.weak (c45 g45 hR) rfl ⟨rfl, rfl, trivial⟩)
  by_cases g47 : x1 = 47
  · exact zz_J.lk 80 79 rfl (by rw [g47]; rfl) (by decide) (by decide) rfl (zz_J.weak (c47 g47 hR) rfl ⟨rfl, rfl, rfl, rfl, trivial⟩)
  by_cases g124 : x1 = 124
  · exact zz_J.lk 92 91 rfl (by rw [g124]; rfl) (by decide) (by decide) rfl (zz_J.weak (c124 g124 hR) rfl ⟨rfl, rfl, trivial⟩)
  refine zz_J.lk 96 95 rfl ?_ (by decide) (by decide) rfl (zz_J.weak (kd ⟨g37, g38, g42, g43, g45, g47, g124⟩ hR) rfl ⟨rfl, rfl, rfl, trivial⟩)
  refine (if_neg (fun q => g37 (Int32.toInt_inj.mp (q.symm.trans rfl)))).trans ?_
  refine (if_neg (fun q => g38 (Int32.toInt_inj.mp (q.symm.trans rfl)))).trans ?_
  refine (if_neg (fun q => g42 (Int32.toInt_inj.mp (q.symm.trans rfl)))).trans ?_
  refine (if_neg (fun q => g43 (Int32.toInt_inj.mp (q.symm.trans rfl)))).trans ?_
  refine (if_neg (fun q => g45 (Int32.toInt_inj.mp (q.symm.trans rfl)))).trans ?_
  refine (if_neg (fun q => g47 (Int32.toInt_inj.mp (q.symm.trans rfl)))).trans ?_
  refine (if_neg (fun q => g124 (Int32.toInt_inj.mp (q.symm.trans rfl)))).trans ?_
  rfl
theorem cb_230_68 {X : Nat → Option zz_C} {h : zz_H} {t : cS} {s : mS} {d : Nat} {Q : zz_O → zz_H → Prop} {x2 : Int32} {x3 : Int32} (hR : kR h t s) (k : ∀ {h : zz_H}, kR h t s → Q (.inl (some (.int (x2 + x3)))) h) : zz_J zp_P zt_tf zt_fd X d zm_230 68 [(2, .int x2), (3, .int x3)] [] h Q := by
  refine zz_J.n 69 rfl rfl rfl ?_
  refine zz_J.n 70 rfl rfl rfl ?_
  refine zz_J.n 71 rfl rfl rfl ?_
  refine zz_J.ret rfl rfl rfl ?_
  exact k hR
theorem cb_230_72 {X : Nat → Option zz_C} {h : zz_H} {t : cS} {s : mS} {d : Nat} {Q : zz_O → zz_H → Prop} {x2 : Int32} {x3 : Int32} (hR : kR h t s) (k : ∀ {h : zz_H}, kR h t s → Q (.inl (some (.int (x2 - x3)))) h) : zz_J zp_P zt_tf zt_fd X d zm_230 72 [(2, .int x2), (3, .int x3)] [] h Q := by
  refine zz_J.n 73 rfl rfl rfl ?_
  refine zz_J.n 74 rfl rfl rfl ?_
  refine zz_J.n 75 rfl rfl rfl ?_
  refine zz_J.ret rfl rfl rfl ?_
  exact k hR
theorem cb_230_76 {X : Nat → Option zz_C} {h : zz_H} {t : cS} {s : mS} {d : Nat} {Q : zz_O → zz_H → Prop} {x2 : Int32} {x3 : Int32} (hR : kR h t s) (k : ∀ {h : zz_H}, kR h t s → Q (.inl (some (.int (x2 * x3)))) h) : zz_J zp_P zt_tf zt_fd X d zm_230 76 [(2, .int x2), (3, .int x3)] [] h Q := by
  refine zz_J.n 77 rfl rfl rfl ?_
  refine zz_J.n 78 rfl rfl rfl ?_
  refine zz_J.n 79 rfl rfl rfl ?_
  refine zz_J.ret rfl rfl rfl ?_
  exact k hR
theorem cb_230_80 {X : Nat → Option zz_C} {h : zz_H} {t : cS} {s : mS} {d : Nat} {Q : zz_O → zz_H → Prop} {x1 : Int32} {x2 : Int32} {x3 : Int32} (hR : kR h t s) (k : ∀ {h : zz_H}, kR h t s → zz_J zp_P zt_tf zt_fd X d zm_231 0 [(0, .ref 58), (1, .int x1), (2, .int x2), (3, .int x3)] [] h (zz_after 8 Q (fun v h' => zz_J zp_P zt_tf zt_fd X (d + 1) zm_230 87 [] (v.toList ++ []) h' Q))) : zz_J zp_P zt_tf zt_fd X (d + 1) zm_230 80 [(0, .ref 58), (1, .int x1), (2, .int x2), (3, .int x3)] [] h Q := by
  refine zz_J.n 81 rfl rfl rfl ?_
  refine zz_J.n 82 rfl rfl rfl ?_
  refine zz_J.n 83 rfl rfl rfl ?_
  refine zz_J.n 84 rfl rfl rfl ?_
  refine zz_J.cv 87 (as := []) rfl rfl (hR.clO ko_58 (by decide) (by decide)) (by decide) (Nat.le_of_ble_eq_true rfl) (Nat.le_of_ble_eq_true rfl) rfl (Nat.le_of_ble_eq_true rfl) rfl ?_
  refine zz_J.mono (k hR) ?_
  intro o h' hE
  cases o with
  | inl v => exact zz_J.weak hE rfl trivial
  | inr q => exact hE
theorem cb_230_87 {X : Nat → Option zz_C} {h : zz_H} {t : cS} {s : mS} {d : Nat} {Q : zz_O → zz_H → Prop} {y0 : Int32} (hR : kR h t s) (k : ∀ {h : zz_H}, kR h t s → Q (.inl (some (.int y0))) h) : zz_J zp_P zt_tf zt_fd X d zm_230 87 [] [.int y0] h Q := by
  refine zz_J.ret rfl rfl rfl ?_
  exact k hR
theorem cb_230_88 {X : Nat → Option zz_C} {h : zz_H} {t : cS} {s : mS} {d : Nat} {Q : zz_O → zz_H → Prop} {x2 : Int32} {x3 : Int32} (hR : kR h t s) (k : ∀ {h : zz_H}, kR h t s → Q (.inl (some (.int (x2 &&& x3)))) h) : zz_J zp_P zt_tf zt_fd X d zm_230 88 [(2, .int x2), (3, .int x3)] [] h Q := by
  refine zz_J.n 89 rfl rfl rfl ?_
  refine zz_J.n 90 rfl rfl rfl ?_
  refine zz_J.n 91 rfl rfl rfl ?_
  refine zz_J.ret rfl rfl rfl ?_
  exact k hR
theorem cb_230_92 {X : Nat → Option zz_C} {h : zz_H} {t : cS} {s : mS} {d : Nat} {Q : zz_O → zz_H → Prop} {x2 : Int32} {x3 : Int32} (hR : kR h t s) (k : ∀ {h : zz_H}, kR h t s → Q (.inl (some (.int (x2 ||| x3)))) h) : zz_J zp_P zt_tf zt_fd X d zm_230 92 [(2, .int x2), (3, .int x3)] [] h Q := by
  refine zz_J.n 93 rfl rfl rfl ?_
  refine zz_J.n 94 rfl rfl rfl ?_
  refine zz_J.n 95 rfl rfl rfl ?_
  refine zz_J.ret rfl rfl rfl ?_
  exact k hR
theorem cb_230_96 {X : Nat → Option zz_C} {h : zz_H} {t : cS} {s : mS} {d : Nat} {Q : zz_O → zz_H → Prop} {x1 : Int32} {x2 : Int32} {x3 : Int32} (hR : kR h t s) (k : ∀ {h : zz_H}, kR h t s → zz_J zp_P zt_tf zt_fd X d zm_232 0 [(0, .int x1), (1, .int x2), (2, .int x3)] [] h (zz_after 0 Q (fun v h' => zz_J zp_P zt_tf zt_fd X (d + 1) zm_230 102 [] (v.toList ++ []) h' Q))) : zz_J zp_P zt_tf zt_fd X (d + 1) zm_230 96 [(1, .int x1), (2, .int x2), (3, .int x3)] [] h Q := by
  refine zz_J.n 97 rfl rfl rfl ?_
  refine zz_J.n 98 rfl rfl rfl ?_
  refine zz_J.n 99 rfl rfl rfl ?_
  refine zz_J.cl (M' := zm_232) 102 rfl rfl (by decide) rfl rfl ⟨rfl, Nat.le_of_ble_eq_true rfl⟩ rfl ?_
  refine zz_J.mono (k hR) ?_
  intro o h' hE
  cases o with
  | inl v => exact zz_J.weak hE rfl trivial
  | inr q => exact hE
theorem cb_230_102 {X : Nat → Option zz_C} {h : zz_H} {t : cS} {s : mS} {d : Nat} {Q : zz_O → zz_H → Prop} {y0 : Int32} (hR : kR h t s) (k1 : y0 = 0 → (∀ {h : zz_H}, kR h t s → zz_J zp_P zt_tf zt_fd X d zm_230 109 [] [] h Q)) (k2 : ¬ y0 = 0 → (∀ {h : zz_H}, kR h t s → zz_J zp_P zt_tf zt_fd X d zm_230 105 [] [] h Q)) : zz_J zp_P zt_tf zt_fd X d zm_230 102 [] [.int y0] h Q := by
  refine zz_J.b1 109 105 (A := y0 = 0) rfl rfl (by decide) rfl rfl (fun c => ?_) (fun c => ?_)
  · exact zz_J.weak (k1 c hR) rfl trivial
  · exact zz_J.weak (k2 c hR) rfl trivial
theorem cb_230_105 {X : Nat → Option zz_C} {h : zz_H} {t : cS} {s : mS} {d : Nat} {Q : zz_O → zz_H → Prop}  (hR : kR h t s) (k : ∀ {h : zz_H}, kR h t s → zz_J zp_P zt_tf zt_fd X d zm_230 110 [] [.int 1] h Q) : zz_J zp_P zt_tf zt_fd X d zm_230 105 [] [] h Q := by
  refine zz_J.c 106 (.int 1) rfl rfl rfl rfl ?_
  refine zz_J.n 110 rfl rfl rfl ?_
  exact zz_J.weak (k hR) rfl trivial
theorem cb_230_109 {X : Nat → Option zz_C} {h : zz_H} {t : cS} {s : mS} {d : Nat} {Q : zz_O → zz_H → Prop}  (hR : kR h t s) (k : ∀ {h : zz_H}, kR h t s → zz_J zp_P zt_tf zt_fd X d zm_230 110 [] [.int 0] h Q) : zz_J zp_P zt_tf zt_fd X d zm_230 109 [] [] h Q := by
  refine zz_J.c 110 (.int 0) rfl rfl rfl rfl ?_
  exact zz_J.weak (k hR) rfl trivial
theorem cb_230_110 {X : Nat → Option zz_C} {h : zz_H} {t : cS} {s : mS} {d : Nat} {Q : zz_O → zz_H → Prop} {y0 : Int32} (hR : kR h t s) (k : ∀ {h : zz_H}, kR h t s → Q (.inl (some (.int y0))) h) : zz_J zp_P zt_tf zt_fd X d zm_230 110 [] [.int y0] h Q := by
  refine zz_J.ret rfl rfl rfl ?_
  exact k hR
def cf_230_87 (N : Nat) (X : Nat → Option zz_C) (y0 : Int32) (t : cS) : kO := some (t, .inl (some (.int y0)))
theorem cr_230_87 {X : Nat → Option zz_C} {s : mS} {N : Nat} {d : Nat} (hd : 1 ≤ d) {Q : zz_O → zz_H → Prop} {y0 : Int32} {h : zz_H} {t t' : cS} {o : kY} (hR : kR h t s) (hf : cf_230_87 N X y0 t = some (t', o)) (k : (∀ h', kR h' t' s → kE o Q h')) : zz_J zp_P zt_tf zt_fd X d zm_230 87 [] [.int y0] h Q := by
  unfold cf_230_87 at hf
  cases hf
  exact cb_230_87 hR  (fun {h} hR => k h hR)
def cf_230_80 (N : Nat) (X : Nat → Option zz_C) (x1 : Int32) (x2 : Int32) (x3 : Int32) (t : cS) : kO := ko_call 8 (cf_231 N X x1 x2 x3 t) (fun g1 v1 => co_i v1 (fun y => cf_230_87 N X y g1))
theorem cr_230_80 {X : Nat → Option zz_C} {s : mS} {N : Nat} {d : Nat} (hd : 1 ≤ d) {Q : zz_O → zz_H → Prop} {x1 : Int32} {x2 : Int32} {x3 : Int32} {h : zz_H} {t t' : cS} {o : kY} (hR : kR h t s) (hf : cf_230_80 N X x1 x2 x3 t = some (t', o)) (k : (∀ h', kR h' t' s → kE o Q h')) : zz_J zp_P zt_tf zt_fd X d zm_230 80 [(0, .ref 58), (1, .int x1), (2, .int x2), (3, .int x3)] [] h Q := by
  unfold cf_230_80 at hf
  obtain ⟨d', rfl⟩ : ∃ d', d = d' + 1 := ⟨d - 1, by omega⟩
  refine cb_230_80 hR  (fun {h} hR => ?_)
  rcases ko_call_ok hf with ⟨g1, v1, er, hf⟩ | ⟨g1, er, hq⟩
  · obtain ⟨y, hv, hf2⟩ := co_i_ok hf
    clear hf
    have hf := hf2
    clear hf2
    subst hv
    refine cr_231 (by omega) hR er (fun h hR => ?_)
    exact cr_230_87 hd hR hf k
  · refine cr_231 (by omega) hR er (fun h hR => ?_)
    exact ko_thrown hq hR k
def cf_230_88 (N : Nat) (X : Nat → Option zz_C) (x2 : Int32) (x3 : Int32) (t : cS) : kO := some (t, .inl (some (.int (x2 &&& x3))))
theorem cr_230_88 {X : Nat → Option zz_C} {s : mS} {N : Nat} {d : Nat} (hd : 1 ≤ d) {Q : zz_O → zz_H → Prop} {x2 : Int32} {x3 : Int32} {h : zz_H} {t t' : cS} {o : kY} (hR : kR h t s) (hf : cf_230_88 N X x2 x3 t = some (t', o)) (k : (∀ h', kR h' t' s → kE o Q h')) : zz_J zp_P zt_tf zt_fd X d zm_230 88 [(2, .int x2), (3, .int x3)] [] h Q := by
  unfold cf_230_88 at hf
  cases hf
  exact cb_230_88 hR  (fun {h} hR => k h hR)
def cf_230_76 (N : Nat) (X : Nat → Option zz_C) (x2 : Int32) (x3 : Int32) (t : cS) : kO := some (t, .inl (some (.int (x2 * x3))))
theorem cr_230_76 {X : Nat → Option zz_C} {s : mS} {N : Nat} {d : Nat} (hd : 1 ≤ d) {Q : zz_O → zz_H → Prop} {x2 : Int32} {x3 : Int32} {h : zz_H} {t t' : cS} {o : kY} (hR : kR h t s) (hf : cf_230_76 N X x2 x3 t = some (t', o)) (k : (∀ h', kR h' t' s → kE o Q h')) : zz_J zp_P zt_tf zt_fd X d zm_230 76 [(2, .int x2), (3, .int x3)] [] h Q := by
  unfold cf_230_76 at hf
  cases hf
  exact cb_230_76 hR  (fun {h} hR => k h hR)
def cf_230_68 (N : Nat) (X : Nat → Option zz_C) (x2 : Int32) (x3 : Int32) (t : cS) : kO := some (t, .inl (some (.int (x2 + x3))))
theorem cr_230_68 {X : Nat → Option zz_C} {s : mS} {N : Nat} {d : Nat} (hd : 1 ≤ d) {Q : zz_O → zz_H → Prop} {x2 : Int32} {x3 : Int32} {h : zz_H} {t t' : cS} {o : kY} (hR : kR h t s) (hf : cf_230_68 N X x2 x3 t = some (t', o)) (k : (∀ h', kR h' t' s → kE o Q h')) : zz_J zp_P zt_tf zt_fd X d zm_230 68 [(2, .int x2), (3, .int x3)] [] h Q := by
  unfold cf_230_68 at hf
  cases hf
  exact cb_230_68 hR  (fun {h} hR => k h hR)
def cf_230_72 (N : Nat) (X : Nat → Option zz_C) (x2 : Int32) (x3 : Int32) (t : cS) : kO := some (t, .inl (some (.int (x2 - x3))))
theorem cr_230_72 {X : Nat → Option zz_C} {s : mS} {N : Nat} {d : Nat} (hd : 1 ≤ d) {Q : zz_O → zz_H → Prop} {x2 : Int32} {x3 : Int32} {h : zz_H} {t t' : cS} {o : kY} (hR : kR h t s) (hf : cf_230_72 N X x2 x3 t = some (t', o)) (k : (∀ h', kR h' t' s → kE o Q h')) : zz_J zp_P zt_tf zt_fd X d zm_230 72 [(2, .int x2), (3, .int x3)] [] h Q := by
  unfold cf_230_72 at hf
  cases hf
  exact cb_230_72 hR  (fun {h} hR => k h hR)
def cf_230_92 (N : Nat) (X : Nat → Option zz_C) (x2 : Int32) (x3 : Int32) (t : cS) : kO := some (t, .inl (some (.int (x2 ||| x3))))
theorem cr_230_92 {X : Nat → Option zz_C} {s : mS} {N : Nat} {d : Nat} (hd : 1 ≤ d) {Q : zz_O → zz_H → Prop} {x2 : Int32} {x3 : Int32} {h : zz_H} {t t' : cS} {o : kY} (hR : kR h t s) (hf : cf_230_92 N X x2 x3 t = some (t', o)) (k : (∀ h', kR h' t' s → kE o Q h')) : zz_J zp_P zt_tf zt_fd X d zm_230 92 [(2, .int x2), (3, .int x3)] [] h Q := by
  unfold cf_230_92 at hf
  cases hf
  exact cb_230_92 hR  (fun {h} hR => k h hR)
def cf_230_110 (N : Nat) (X : Nat → Option zz_C) (y0 : Int32) (t : cS) : kO := some (t, .inl (some (.int y0)))
theorem cr_230_110 {X : Nat → Option zz_C} {s : mS} {N : Nat} {d : Nat} (hd : 1 ≤ d) {Q : zz_O → zz_H → Prop} {y0 : Int32} {h : zz_H} {t t' : cS} {o : kY} (hR : kR h t s) (hf : cf_230_110 N X y0 t = some (t', o)) (k : (∀ h', kR h' t' s → kE o Q h')) : zz_J zp_P zt_tf zt_fd X d zm_230 110 [] [.int y0] h Q := by
  unfold cf_230_110 at hf
  cases hf
  exact cb_230_110 hR  (fun {h} hR => k h hR)
def cf_230_109 (N : Nat) (X : Nat → Option zz_C)  (t : cS) : kO := cf_230_110 N X 0 t
theorem cr_230_109 {X : Nat → Option zz_C} {s : mS} {N : Nat} {d : Nat} (hd : 1 ≤ d) {Q : zz_O → zz_H → Prop}  {h : zz_H} {t t' : cS} {o : kY} (hR : kR h t s) (hf : cf_230_109 N X  t = some (t', o)) (k : (∀ h', kR h' t' s → kE o Q h')) : zz_J zp_P zt_tf zt_fd X d zm_230 109 [] [] h Q := by
  unfold cf_230_109 at hf
  exact cb_230_109 hR  (fun hR => cr_230_110 hd hR hf k)
def cf_230_105 (N : Nat) (X : Nat → Option zz_C)  (t : cS) : kO := cf_230_110 N X 1 t
theorem cr_230_105 {X : Nat → Option zz_C} {s : mS} {N : Nat} {d : Nat} (hd : 1 ≤ d) {Q : zz_O → zz_H → Prop}  {h : zz_H} {t t' : cS} {o : kY} (hR : kR h t s) (hf : cf_230_105 N X  t = some (t', o)) (k : (∀ h', kR h' t' s → kE o Q h')) : zz_J zp_P zt_tf zt_fd X d zm_230 105 [] [] h Q := by
  unfold cf_230_105 at hf
  exact cb_230_105 hR  (fun hR => cr_230_110 hd hR hf k)
def cf_230_102 (N : Nat) (X : Nat → Option zz_C) (y0 : Int32) (t : cS) : kO := if y0 = 0 then cf_230_109 N X  t else cf_230_105 N X  t
theorem cr_230_102 {X : Nat → Option zz_C} {s : mS} {N : Nat} {d : Nat} (hd : 1 ≤ d) {Q : zz_O → zz_H → Prop} {y0 : Int32} {h : zz_H} {t t' : cS} {o : kY} (hR : kR h t s) (hf : cf_230_102 N X y0 t = some (t', o)) (k : (∀ h', kR h' t' s → kE o Q h')) : zz_J zp_P zt_tf zt_fd X d zm_230 102 [] [.int y0] h Q := by
  unfold cf_230_102 at hf
  refine cb_230_102 hR  (fun c {h} hR => ?_) (fun c {h} hR => ?_)
  · rw [if_pos c] at hf
    exact cr_230_109 hd hR hf k
  · rw [if_neg c] at hf
    exact cr_230_105 hd hR hf k
def cf_230_96 (N : Nat) (X : Nat → Option zz_C) (x1 : Int32) (x2 : Int32) (x3 : Int32) (t : cS) : kO := ko_call 0 (cf_232 N X x1 x2 x3 t) (fun g1 v1 => co_i v1 (fun y => cf_230_102 N X y g1))
theorem cr_230_96 {X : Nat → Option zz_C} {s : mS} {N : Nat} {d : Nat} (hd : 1 ≤ d) {Q : zz_O → zz_H → Prop} {x1 : Int32} {x2 : Int32} {x3 : Int32} {h : zz_H} {t t' : cS} {o : kY} (hR : kR h t s) (hf : cf_230_96 N X x1 x2 x3 t = some (t', o)) (k : (∀ h', kR h' t' s → kE o Q h')) : zz_J zp_P zt_tf zt_fd X d zm_230 96 [(1, .int x1), (2, .int x2), (3, .int x3)] [] h Q := by
  unfold cf_230_96 at hf
  obtain ⟨d', rfl⟩ : ∃ d', d = d' + 1 := ⟨d - 1, by omega⟩
  refine cb_230_96 hR  (fun {h} hR => ?_)
  rcases ko_call_ok hf with ⟨g1, v1, er, hf⟩ | ⟨g1, er, hq⟩
  · obtain ⟨y, hv, hf2⟩ := co_i_ok hf
    clear hf
    have hf := hf2
    clear hf2
    subst hv
    refine cr_232 (by omega) hR er (fun h hR => ?_)
    exact cr_230_102 hd hR hf k
  · refine cr_232 (by omega) hR er (fun h hR => ?_)
    exact ko_thrown hq hR k
def cf_230_0 (N : Nat) (X : Nat → Option zz_C) (x1 : Int32) (x2 : Int32) (x3 : Int32) (t : cS) : kO := if x1 = 37 then cf_230_80 N X x1 x2 x3 t else if x1 = 38 then cf_230_88 N X x2 x3 t else if x1 = 42 then cf_230_76 N X x2 x3 t else if x1 = 43 then cf_230_68 N X x2 x3 t else if x1 = 45 then cf_230_72 N X x2 x3 t else if x1 = 47 then cf_230_80 N X x1 x2 x3 t else if x1 = 124 then cf_230_92 N X x2 x3 t else cf_230_96 N X x1 x2 x3 t
theorem cr_230_0 {X : Nat → Option zz_C} {s : mS} {N : Nat} {d : Nat} (hd : 1 ≤ d) {Q : zz_O → zz_H → Prop} {x1 : Int32} {x2 : Int32} {x3 : Int32} {h : zz_H} {t t' : cS} {o : kY} (hR : kR h t s) (hf : cf_230_0 N X x1 x2 x3 t = some (t', o)) (k : (∀ h', kR h' t' s → kE o Q h')) : zz_J zp_P zt_tf zt_fd X d zm_230 0 [(0, .ref 58), (1, .int x1), (2, .int x2), (3, .int x3)] [] h Q := by
  unfold cf_230_0 at hf
  refine cb_230_0 hR  (fun c {h} hR => ?_) (fun c {h} hR => ?_) (fun c {h} hR => ?_) (fun c {h} hR => ?_) (fun c {h} hR => ?_) (fun c {h} hR => ?_) (fun c {h} hR => ?_) (fun c {h} hR => ?_)
  · skip
    rw [if_pos c] at hf
    exact cr_230_80 hd hR hf k
  · rw [if_neg (by rw [c]; decide)] at hf
    rw [if_pos c] at hf
    exact cr_230_88 hd hR hf k
  · rw [if_neg (by rw [c]; decide)] at hf
    rw [if_neg (by rw [c]; decide)] at hf
    rw [if_pos c] at hf
    exact cr_230_76 hd hR hf k
  · rw [if_neg (by rw [c]; decide)] at hf
    rw [if_neg (by rw [c]; decide)] at hf
    rw [if_neg (by rw [c]; decide)] at hf
    rw [if_pos c] at hf
    exact cr_230_68 hd hR hf k
  · rw [if_neg (by rw [c]; decide)] at hf
    rw [if_neg (by rw [c]; decide)] at hf
    rw [if_neg (by rw [c]; decide)] at hf
    rw [if_neg (by rw [c]; decide)] at hf
    rw [if_pos c] at hf
    exact cr_230_72 hd hR hf k
  · rw [if_neg (by rw [c]; decide)] at hf
    rw [if_neg (by rw [c]; decide)] at hf
    rw [if_neg (by rw [c]; decide)] at hf
    rw [if_neg (by rw [c]; decide)] at hf
    rw [if_neg (by rw [c]; decide)] at hf
    rw [if_pos c] at hf
    exact cr_230_80 hd hR hf k
  · rw [if_neg (by rw [c]; decide)] at hf
    rw [if_neg (by rw [c]; decide)] at hf
    rw [if_neg (by rw [c]; decide)] at hf
    rw [if_neg (by rw [c]; decide)] at hf
    rw [if_neg (by rw [c]; decide)] at hf
    rw [if_neg (by rw [c]; decide)] at hf
    rw [if_pos c] at hf
    exact cr_230_92 hd hR hf k
  · skip
    rw [if_neg c.1] at hf
    rw [if_neg c.2.1] at hf
    rw [if_neg c.2.2.1] at hf
    rw [if_neg c.2.2.2.1] at hf
    rw [if_neg c.2.2.2.2.1] at hf
    rw [if_neg c.2.2.2.2.2.1] at hf
    rw [if_neg c.2.2.2.2.2.2] at hf
    exact cr_230_96 hd hR hf k
/-- work -/
def cf_230 (N : Nat) (X : Nat → Option zz_C) (x1 : Int32) (x2 : Int32) (x3 : Int32) (t : cS) : kO := cf_230_0 N X x1 x2 x3 t
theorem cr_230 {X : Nat → Option zz_C} {s : mS} {N : Nat} {d : Nat} (hd : 1 ≤ d) {Q : zz_O → zz_H → Prop} {x1 : Int32} {x2 : Int32} {x3 : Int32} {h : zz_H} {t t' : cS} {o : kY} (hR : kR h t s) (hf : cf_230 N X x1 x2 x3 t = some (t', o)) (k : ∀ h', kR h' t' s → kE o Q h') : zz_J zp_P zt_tf zt_fd X d zm_230 0 [(0, .ref 58), (1, .int x1), (2, .int x2), (3, .int x3)] [] h Q := by
  unfold cf_230 at hf
  exact zz_J.weak (cr_230_0 hd hR hf k) rfl ⟨rfl, rfl, rfl, rfl, trivial⟩
/-! yX8_rows (IJJ)J -/
theorem cb_228_0 {X : Nat → Option zz_C} {h : zz_H} {t : cS} {s : mS} {d : Nat} {Q : zz_O → zz_H → Prop} {x1 : Int32} {x2 : Int64} {x4 : Int64} (hR : kR h t s) (k : ∀ {h : zz_H}, kR h t s → zz_J zp_P zt_tf zt_fd X d zm_255 0 [(0, .long x2)] [] h (zz_after 1000 Q (fun v h' => zz_J zp_P zt_tf zt_fd X (d + 1) zm_228 8 [(0, .ref 58), (1, .int x1), (2, .long x2), (4, .long x4)] (v.toList ++ [.ref 42]) h' Q))) : zz_J zp_P zt_tf zt_fd X (d + 1) zm_228 0 [(0, .ref 58), (1, .int x1), (2, .long x2), (4, .long x4)] [] h Q := by
  refine zz_J.n 1 rfl rfl rfl ?_
  refine zz_J.g 4 rfl (hR.gv (v := .ref 42) ko_58 (by decide) rfl) rfl ?_
  refine zz_J.n 5 rfl rfl rfl ?_
  refine zz_J.cl (M' := zm_255) 8 rfl rfl (by decide) rfl rfl ⟨rfl, Nat.le_of_ble_eq_true rfl⟩ rfl ?_
  refine zz_J.mono (k hR) ?_
  intro o h' hE
  cases o with
  | inl v => exact zz_J.weak hE rfl ⟨rfl, rfl, rfl, rfl, trivial⟩
  | inr q => exact hE
theorem cb_228_8 {X : Nat → Option zz_C} {h : zz_H} {t : cS} {s : mS} {d : Nat} {Q : zz_O → zz_H → Prop} {x1 : Int32} {x2 : Int64} {x4 : Int64} {y1 : Int32} (hR : kR h t s) (k1 : ¬ y1 = 1 → (∀ {h : zz_H}, kR h t s → zz_J zp_P zt_tf zt_fd X d zm_228 16 [(0, .ref 58), (1, .int x1), (2, .long x2), (4, .long x4)] [.ref 42] h Q)) (k2 : ¬ ¬ y1 = 1 → (∀ {h : zz_H}, kR h t s → zz_J zp_P zt_tf zt_fd X d zm_228 12 [(0, .ref 58), (1, .int x1), (2, .long x2), (4, .long x4)] [.ref 42] h Q)) : zz_J zp_P zt_tf zt_fd X d zm_228 8 [(0, .ref 58), (1, .int x1), (2, .long x2), (4, .long x4)] [.int y1, .ref 42] h Q := by
  refine zz_J.c 9 (.int 1) rfl rfl rfl rfl ?_
  refine zz_J.b2 16 12 (A := ¬ y1 = 1) rfl (zz_cond_ne _ _) (by decide) rfl rfl (fun c => ?_) (fun c => ?_)
  · exact zz_J.weak (k1 c hR) rfl ⟨rfl, rfl, rfl, rfl, trivial⟩
  · exact zz_J.weak (k2 c hR) rfl ⟨rfl, rfl, rfl, rfl, trivial⟩
theorem cb_228_12 {X : Nat → Option zz_C} {h : zz_H} {t : cS} {s : mS} {d : Nat} {Q : zz_O → zz_H → Prop} {x1 : Int32} {x2 : Int64} {x4 : Int64} (hR : kR h t s) (k : ∀ {h : zz_H}, kR h t s → zz_J zp_P zt_tf zt_fd X d zm_228 18 [(0, .ref 58), (1, .int x1), (2, .long x2), (4, .long x4)] [.long x2, .ref 42] h Q) : zz_J zp_P zt_tf zt_fd X d zm_228 12 [(0, .ref 58), (1, .int x1), (2, .long x2), (4, .long x4)] [.ref 42] h Q := by
  refine zz_J.n 13 rfl rfl rfl ?_
  refine zz_J.n 18 rfl rfl rfl ?_
  exact zz_J.weak (k hR) rfl ⟨rfl, rfl, rfl, rfl, trivial⟩
theorem cb_228_16 {X : Nat → Option zz_C} {h : zz_H} {t : cS} {s : mS} {d : Nat} {Q : zz_O → zz_H → Prop} {x1 : Int32} {x2 : Int64} {x4 : Int64} (hR : kR h t s) (k : ∀ {h : zz_H}, kR h t s → zz_J zp_P zt_tf zt_fd X d zm_228 18 [(0, .ref 58), (1, .int x1), (2, .long x2), (4, .long x4)] [.long x4, .ref 42] h Q) : zz_J zp_P zt_tf zt_fd X d zm_228 16 [(0, .ref 58), (1, .int x1), (2, .long x2), (4, .long x4)] [.ref 42] h Q := by
  refine zz_J.n 18 rfl rfl rfl ?_
  exact zz_J.weak (k hR) rfl ⟨rfl, rfl, rfl, rfl, trivial⟩
theorem cb_228_18 {X : Nat → Option zz_C} {h : zz_H} {t : cS} {s : mS} {d : Nat} {Q : zz_O → zz_H → Prop} {x1 : Int32} {x2 : Int64} {x4 : Int64} {y1 : Int64} (hR : kR h t s) (k : ∀ {h : zz_H}, kR h t s → zz_J zp_P zt_tf zt_fd X d zm_128 0 [(0, .ref 42), (1, .long y1)] [] h (zz_after 2 Q (fun v h' => zz_J zp_P zt_tf zt_fd X (d + 1) zm_228 21 [(0, .ref 58), (1, .int x1), (2, .long x2), (4, .long x4)] (v.toList ++ []) h' Q))) : zz_J zp_P zt_tf zt_fd X (d + 1) zm_228 18 [(0, .ref 58), (1, .int x1), (2, .long x2), (4, .long x4)] [.long y1, .ref 42] h Q := by
  refine zz_J.cv 21 (as := []) rfl rfl (hR.clO ko_42 (by decide) (by decide)) (by decide) (Nat.le_of_ble_eq_true rfl) (Nat.le_of_ble_eq_true rfl) rfl (Nat.le_of_ble_eq_true rfl) rfl ?_
  refine zz_J.mono (k hR) ?_
  intro o h' hE
  cases o with
  | inl v => exact zz_J.weak hE rfl ⟨rfl, rfl, rfl, rfl, trivial⟩
  | inr q => exact hE
theorem cb_228_21 {X : Nat → Option zz_C} {h : zz_H} {t : cS} {s : mS} {d : Nat} {Q : zz_O → zz_H → Prop} {x1 : Int32} {x2 : Int64} {x4 : Int64} {y0 : Int32} (hR : kR h t s) (k : ∀ {h : zz_H}, kR h t s → zz_J zp_P zt_tf zt_fd X d zm_122 0 [(0, .ref 42)] [] h (zz_after 2 Q (fun v h' => zz_J zp_P zt_tf zt_fd X (d + 1) zm_228 30 [(0, .ref 58), (1, .int x1), (2, .long x2), (4, .long x4), (6, .int y0)] (v.toList ++ []) h' Q))) : zz_J zp_P zt_tf zt_fd X (d + 1) zm_228 21 [(0, .ref 58), (1, .int x1), (2, .long x2), (4, .long x4)] [.int y0] h Q := by
  refine zz_J.n 23 rfl rfl rfl ?_
  refine zz_J.n 24 rfl rfl rfl ?_
  refine zz_J.g 27 rfl (hR.gv (v := .ref 42) ko_58 (by decide) rfl) rfl ?_
  refine zz_J.cv 30 (as := []) rfl rfl (hR.clO ko_42 (by decide) (by decide)) (by decide) (Nat.le_of_ble_eq_true rfl) (Nat.le_of_ble_eq_true rfl) rfl (Nat.le_of_ble_eq_true rfl) rfl ?_
  refine zz_J.mono (k hR) ?_
  intro o h' hE
  cases o with
  | inl v => exact zz_J.weak hE rfl ⟨rfl, rfl, rfl, rfl, rfl, trivial⟩
  | inr q => exact hE
theorem cb_228_30 {X : Nat → Option zz_C} {h : zz_H} {t : cS} {s : mS} {d : Nat} {Q : zz_O → zz_H → Prop} {x1 : Int32} {x2 : Int64} {x4 : Int64} {x6 : Int32} {y0 : Int32} (hR : kR h t s) (k : ∀ {h : zz_H}, kR h t s → zz_J zp_P zt_tf zt_fd X d zm_228 35 [(0, .ref 58), (1, .int x1), (2, .long x2), (4, .long x4), (6, .int x6), (7, .int y0), (8, .int 0)] [] h Q) : zz_J zp_P zt_tf zt_fd X d zm_228 30 [(0, .ref 58), (1, .int x1), (2, .long x2), (4, .long x4), (6, .int x6)] [.int y0] h Q := by
  refine zz_J.n 32 rfl rfl rfl ?_
  refine zz_J.c 33 (.int 0) rfl rfl rfl rfl ?_
  refine zz_J.n 35 rfl rfl rfl ?_
  exact zz_J.weak (k hR) rfl ⟨rfl, rfl, rfl, rfl, rfl, rfl, rfl, trivial⟩
theorem cb_228_35 {X : Nat → Option zz_C} {h : zz_H} {t : cS} {s : mS} {d : Nat} {Q : zz_O → zz_H → Prop} {x1 : Int32} {x2 : Int64} {x4 : Int64} {x6 : Int32} {x7 : Int32} {x8 : Int32} (hR : kR h t s) (k1 : x6 ≤ x8 → (∀ {h : zz_H}, kR h t s → zz_J zp_P zt_tf zt_fd X d zm_228 85 [(0, .ref 58), (7, .int x7)] [] h Q)) (k2 : ¬ x6 ≤ x8 → (∀ {h : zz_H}, kR h t s → zz_J zp_P zt_tf zt_fd X d zm_228 42 [(0, .ref 58), (1, .int x1), (2, .long x2), (4, .long x4), (6, .int x6), (7, .int x7), (8, .int x8)] [] h Q)) : zz_J zp_P zt_tf zt_fd X d zm_228 35 [(0, .ref 58), (1, .int x1), (2, .long x2), (4, .long x4), (6, .int x6), (7, .int x7), (8, .int x8)] [] h Q := by
  refine zz_J.n 37 rfl rfl rfl ?_
  refine zz_J.n 39 rfl rfl rfl ?_
  refine zz_J.b2 85 42 (A := x6 ≤ x8) rfl rfl (by decide) rfl rfl (fun c => ?_) (fun c => ?_)
  · exact zz_J.weak (k1 c hR) rfl ⟨rfl, rfl, trivial⟩
  · exact zz_J.weak (k2 c hR) rfl ⟨rfl, rfl, rfl, rfl, rfl, rfl, rfl, trivial⟩
theorem cb_228_42 {X : Nat → Option zz_C} {h : zz_H} {t : cS} {s : mS} {d : Nat} {Q : zz_O → zz_H → Prop} {x1 : Int32} {x2 : Int64} {x4 : Int64} {x6 : Int32} {x7 : Int32} {x8 : Int32} (hR : kR h t s) (k : ∀ {h : zz_H}, kR h t s → zz_J zp_P zt_tf zt_fd X d zm_130 0 [(0, .ref 42), (1, .long x2), (3, .int x8)] [] h (zz_after 2 Q (fun v h' => zz_J zp_P zt_tf zt_fd X (d + 1) zm_228 59 [(0, .ref 58), (1, .int x1), (2, .long x2), (4, .long x4), (6, .int x6), (7, .int x7), (8, .int x8)] (v.toList ++ [.int x1, .ref 58, .int 0, .ref 42]) h' Q))) : zz_J zp_P zt_tf zt_fd X (d + 1) zm_228 42 [(0, .ref 58), (1, .int x1), (2, .long x2), (4, .long x4), (6, .int x6), (7, .int x7), (8, .int x8)] [] h Q := by
  refine zz_J.n 43 rfl rfl rfl ?_
  refine zz_J.g 46 rfl (hR.gv (v := .ref 42) ko_58 (by decide) rfl) rfl ?_
  refine zz_J.c 47 (.int 0) rfl rfl rfl rfl ?_
  refine zz_J.n 48 rfl rfl rfl ?_
  refine zz_J.n 49 rfl rfl rfl ?_
  refine zz_J.n 50 rfl rfl rfl ?_
  refine zz_J.g 53 rfl (hR.gv (v := .ref 42) ko_58 (by decide) rfl) rfl ?_
  refine zz_J.n 54 rfl rfl rfl ?_
  refine zz_J.n 56 rfl rfl rfl ?_
  refine zz_J.cv 59 (as := [.int x1, .ref 58, .int 0, .ref 42]) rfl rfl (hR.clO ko_42 (by decide) (by decide)) (by decide) (Nat.le_of_ble_eq_true rfl) (Nat.le_of_ble_eq_true rfl) rfl (Nat.le_of_ble_eq_true rfl) rfl ?_
  refine zz_J.mono (k hR) ?_
  intro o h' hE
  cases o with
  | inl v => exact zz_J.weak hE rfl ⟨rfl, rfl, rfl, rfl, rfl, rfl, rfl, trivial⟩
  | inr q => exact hE
theorem cb_228_59 {X : Nat → Option zz_C} {h : zz_H} {t : cS} {s : mS} {d : Nat} {Q : zz_O → zz_H → Prop} {x1 : Int32} {x2 : Int64} {x4 : Int64} {x6 : Int32} {x7 : Int32} {x8 : Int32} {y1 : Int32} {y3 : Int32} {y4 : Int32} (hR : kR h t s) (k : ∀ {h : zz_H}, kR h t s → zz_J zp_P zt_tf zt_fd X d zm_130 0 [(0, .ref 42), (1, .long x4), (3, .int x8)] [] h (zz_after 2 Q (fun v h' => zz_J zp_P zt_tf zt_fd X (d + 1) zm_228 70 [(0, .ref 58), (1, .int x1), (2, .long x2), (4, .long x4), (6, .int x6), (7, .int x7), (8, .int x8)] (v.toList ++ [.int y4, .int y3, .ref 58, .int y1, .ref 42]) h' Q))) : zz_J zp_P zt_tf zt_fd X (d + 1) zm_228 59 [(0, .ref 58), (1, .int x1), (2, .long x2), (4, .long x4), (6, .int x6), (7, .int x7), (8, .int x8)] [.int y4, .int y3, .ref 58, .int y1, .ref 42] h Q := by
  refine zz_J.n 60 rfl rfl rfl ?_
  refine zz_J.g 63 rfl (hR.gv (v := .ref 42) ko_58 (by decide) rfl) rfl ?_
  refine zz_J.n 65 rfl rfl rfl ?_
  refine zz_J.n 67 rfl rfl rfl ?_
  refine zz_J.cv 70 (as := [.int y4, .int y3, .ref 58, .int y1, .ref 42]) rfl rfl (hR.clO ko_42 (by decide) (by decide)) (by decide) (Nat.le_of_ble_eq_true rfl) (Nat.le_of_ble_eq_true rfl) rfl (Nat.le_of_ble_eq_true rfl) rfl ?_
  refine zz_J.mono (k hR) ?_
  intro o h' hE
  cases o with
  | inl v => exact zz_J.weak hE rfl ⟨rfl, rfl, rfl, rfl, rfl, rfl, rfl, trivial⟩
  | inr q => exact hE
theorem cb_228_70 {X : Nat → Option zz_C} {h : zz_H} {t : cS} {s : mS} {d : Nat} {Q : zz_O → zz_H → Prop} {x1 : Int32} {x2 : Int64} {x4 : Int64} {x6 : Int32} {x7 : Int32} {x8 : Int32} {y1 : Int32} {y3 : Int32} {y4 : Int32} {y5 : Int32} (hR : kR h t s) (k : ∀ {h : zz_H}, kR h t s → zz_J zp_P zt_tf zt_fd X d zm_230 0 [(0, .ref 58), (1, .int y3), (2, .int y4), (3, .int y5)] [] h (zz_after 8 Q (fun v h' => zz_J zp_P zt_tf zt_fd X (d + 1) zm_228 73 [(0, .ref 58), (1, .int x1), (2, .long x2), (4, .long x4), (6, .int x6), (7, .int x7), (8, .int x8)] (v.toList ++ [.int y1, .ref 42]) h' Q))) : zz_J zp_P zt_tf zt_fd X (d + 1) zm_228 70 [(0, .ref 58), (1, .int x1), (2, .long x2), (4, .long x4), (6, .int x6), (7, .int x7), (8, .int x8)] [.int y5, .int y4, .int y3, .ref 58, .int y1, .ref 42] h Q := by
  refine zz_J.cv 73 (as := [.int y1, .ref 42]) rfl rfl (hR.clO ko_58 (by decide) (by decide)) (by decide) (Nat.le_of_ble_eq_true rfl) (Nat.le_of_ble_eq_true rfl) rfl (Nat.le_of_ble_eq_true rfl) rfl ?_
  refine zz_J.mono (k hR) ?_
  intro o h' hE
  cases o with
  | inl v => exact zz_J.weak hE rfl ⟨rfl, rfl, rfl, rfl, rfl, rfl, rfl, trivial⟩
  | inr q => exact hE
theorem cb_228_73 {X : Nat → Option zz_C} {h : zz_H} {t : cS} {s : mS} {d : Nat} {Q : zz_O → zz_H → Prop} {x1 : Int32} {x2 : Int64} {x4 : Int64} {x6 : Int32} {x7 : Int32} {x8 : Int32} {y1 : Int32} {y2 : Int32} (hR : kR h t s) (k : ∀ {h : zz_H}, kR h t s → zz_J zp_P zt_tf zt_fd X d zm_253 0 [(0, .int y1), (1, .int y2)] [] h (zz_after 1000 Q (fun v h' => zz_J zp_P zt_tf zt_fd X (d + 1) zm_228 76 [(0, .ref 58), (1, .int x1), (2, .long x2), (4, .long x4), (6, .int x6), (7, .int x7), (8, .int x8)] (v.toList ++ [.ref 42]) h' Q))) : zz_J zp_P zt_tf zt_fd X (d + 1) zm_228 73 [(0, .ref 58), (1, .int x1), (2, .long x2), (4, .long x4), (6, .int x6), (7, .int x7), (8, .int x8)] [.int y2, .int y1, .ref 42] h Q := by
  refine zz_J.cl (M' := zm_253) 76 rfl rfl (by decide) rfl rfl ⟨rfl, Nat.le_of_ble_eq_true rfl⟩ rfl ?_
  refine zz_J.mono (k hR) ?_
  intro o h' hE
  cases o with
  | inl v => exact zz_J.weak hE rfl ⟨rfl, rfl, rfl, rfl, rfl, rfl, rfl, trivial⟩
  | inr q => exact hE
theorem cb_228_76 {X : Nat → Option zz_C} {h : zz_H} {t : cS} {s : mS} {d : Nat} {Q : zz_O → zz_H → Prop} {x1 : Int32} {x2 : Int64} {x4 : Int64} {x6 : Int32} {x7 : Int32} {x8 : Int32} {y1 : Int64} (hR : kR h t s) (k : ∀ {h : zz_H}, kR h t s → zz_J zp_P zt_tf zt_fd X d zm_123 0 [(0, .ref 42), (1, .long y1)] [] h (zz_after 2 Q (fun v h' => zz_J zp_P zt_tf zt_fd X (d + 1) zm_228 79 [(0, .ref 58), (1, .int x1), (2, .long x2), (4, .long x4), (6, .int x6), (7, .int x7), (8, .int x8)] (v.toList ++ []) h' Q))) : zz_J zp_P zt_tf zt_fd X (d + 1) zm_228 76 [(0, .ref 58), (1, .int x1), (2, .long x2), (4, .long x4), (6, .int x6), (7, .int x7), (8, .int x8)] [.long y1, .ref 42] h Q := by
  refine zz_J.cv 79 (as := []) rfl rfl (hR.clO ko_42 (by decide) (by decide)) (by decide) (Nat.le_of_ble_eq_true rfl) (Nat.le_of_ble_eq_true rfl) rfl (Nat.le_of_ble_eq_true rfl) rfl ?_
  refine zz_J.mono (k hR) ?_
  intro o h' hE
  cases o with
  | inl v => exact zz_J.weak hE rfl ⟨rfl, rfl, rfl, rfl, rfl, rfl, rfl, trivial⟩
  | inr q => exact hE
theorem cb_228_79 {X : Nat → Option zz_C} {h : zz_H} {t : cS} {s : mS} {d : Nat} {Q : zz_O → zz_H → Prop} {x1 : Int32} {x2 : Int64} {x4 : Int64} {x6 : Int32} {x7 : Int32} {x8 : Int32} (hR : kR h t s) (k : ∀ {h : zz_H}, kR h t s → zz_J zp_P zt_tf zt_fd X d zm_228 35 [(0, .ref 58), (1, .int x1), (2, .long x2), (4, .long x4), (6, .int x6), (7, .int x7), (8, .int (x8 + 1))] [] h Q) : zz_J zp_P zt_tf zt_fd X d zm_228 79 [(0, .ref 58), (1, .int x1), (2, .long x2), (4, .long x4), (6, .int x6), (7, .int x7), (8, .int x8)] [] h Q := by
  refine zz_J.n 82 rfl rfl rfl ?_
  refine zz_J.n 35 rfl rfl rfl ?_
  exact zz_J.weak (k hR) rfl ⟨rfl, rfl, rfl, rfl, rfl, rfl, rfl, trivial⟩
theorem cb_228_85 {X : Nat → Option zz_C} {h : zz_H} {t : cS} {s : mS} {d : Nat} {Q : zz_O → zz_H → Prop} {x7 : Int32} (hR : kR h t s) (k : ∀ {h : zz_H}, kR h t s → zz_J zp_P zt_tf zt_fd X d zm_126 0 [(0, .ref 42), (1, .int 1), (2, .int x7)] [] h (zz_after 2 Q (fun v h' => zz_J zp_P zt_tf zt_fd X (d + 1) zm_228 95 [] (v.toList ++ []) h' Q))) : zz_J zp_P zt_tf zt_fd X (d + 1) zm_228 85 [(0, .ref 58), (7, .int x7)] [] h Q := by
  refine zz_J.n 86 rfl rfl rfl ?_
  refine zz_J.g 89 rfl (hR.gv (v := .ref 42) ko_58 (by decide) rfl) rfl ?_
  refine zz_J.c 90 (.int 1) rfl rfl rfl rfl ?_
  refine zz_J.n 92 rfl rfl rfl ?_
  refine zz_J.cv 95 (as := []) rfl rfl (hR.clO ko_42 (by decide) (by decide)) (by decide) (Nat.le_of_ble_eq_true rfl) (Nat.le_of_ble_eq_true rfl) rfl (Nat.le_of_ble_eq_true rfl) rfl ?_
  refine zz_J.mono (k hR) ?_
  intro o h' hE
  cases o with
  | inl v => exact zz_J.weak hE rfl trivial
  | inr q => exact hE
theorem cb_228_95 {X : Nat → Option zz_C} {h : zz_H} {t : cS} {s : mS} {d : Nat} {Q : zz_O → zz_H → Prop} {y0 : Int64} (hR : kR h t s) (k : ∀ {h : zz_H}, kR h t s → Q (.inl (some (.long y0))) h) : zz_J zp_P zt_tf zt_fd X d zm_228 95 [] [.long y0] h Q := by
  refine zz_J.ret rfl rfl rfl ?_
  exact k hR
def cf_228_95 (N : Nat) (X : Nat → Option zz_C) (y0 : Int64) (t : cS) : kO := some (t, .inl (some (.long y0)))
theorem cr_228_95 {X : Nat → Option zz_C} {s : mS} {N : Nat} {d : Nat} (hd : 10 ≤ d) {Q : zz_O → zz_H → Prop} {y0 : Int64} {h : zz_H} {t t' : cS} {o : kY} (hR : kR h t s) (hf : cf_228_95 N X y0 t = some (t', o)) (k : (∀ h', kR h' t' s → kE o Q h')) : zz_J zp_P zt_tf zt_fd X d zm_228 95 [] [.long y0] h Q := by
  unfold cf_228_95 at hf
  cases hf
  exact cb_228_95 hR  (fun {h} hR => k h hR)
def cf_228_85 (N : Nat) (X : Nat → Option zz_C) (x7 : Int32) (t : cS) : kO := ko_call 2 (cf_126 N X 1 x7 t) (fun g1 v1 => co_l v1 (fun y => cf_228_95 N X y g1))
theorem cr_228_85 {X : Nat → Option zz_C} {s : mS} {N : Nat} {d : Nat} (hd : 10 ≤ d) {Q : zz_O → zz_H → Prop} {x7 : Int32} {h : zz_H} {t t' : cS} {o : kY} (hR : kR h t s) (hf : cf_228_85 N X x7 t = some (t', o)) (k : (∀ h', kR h' t' s → kE o Q h')) : zz_J zp_P zt_tf zt_fd X d zm_228 85 [(0, .ref 58), (7, .int x7)] [] h Q := by
  unfold cf_228_85 at hf
  obtain ⟨d', rfl⟩ : ∃ d', d = d' + 1 := ⟨d - 1, by omega⟩
  refine cb_228_85 hR  (fun {h} hR => ?_)
  rcases ko_call_ok hf with ⟨g1, v1, er, hf⟩ | ⟨g1, er, hq⟩
  · obtain ⟨y, hv, hf2⟩ := co_l_ok hf
    clear hf
    have hf := hf2
    clear hf2
    subst hv
    refine cr_126 (by omega) hR er (fun h hR => ?_)
    exact cr_228_95 hd hR hf k
  · refine cr_126 (by omega) hR er (fun h hR => ?_)
    exact ko_thrown hq hR k
def cf_228_79 (N : Nat) (X : Nat → Option zz_C) (rc : Nat → Int32 → Int64 → Int64 → Int32 → Int32 → Int32 → cS → kO) (x1 : Int32) (x2 : Int64) (x4 : Int64) (x6 : Int32) (x7 : Int32) (x8 : Int32) (t : cS) : kO := rc 0 x1 x2 x4 x6 x7 (x8 + 1) t
theorem cr_228_79 {X : Nat → Option zz_C} {s : mS} {N : Nat} {d : Nat} (hd : 10 ≤ d) {rc : Nat → Int32 → Int64 → Int64 → Int32 → Int32 → Int32 → cS → kO} (hrc0 : ∀ {Q : zz_O → zz_H → Prop} {x1 : Int32} {x2 : Int64} {x4 : Int64} {x6 : Int32} {x7 : Int32} {x8 : Int32} {h : zz_H} {t t' : cS} {o : kY}, kR h t s → rc 0 x1 x2 x4 x6 x7 x8 t = some (t', o) → (∀ h', kR h' t' s → kE o Q h') → zz_J zp_P zt_tf zt_fd X d zm_228 35 [(0, .ref 58), (1, .int x1), (2, .long x2), (4, .long x4), (6, .int x6), (7, .int x7), (8, .int x8)] [] h Q) {Q : zz_O → zz_H → Prop} {x1 : Int32} {x2 : Int64} {x4 : Int64} {x6 : Int32} {x7 : Int32} {x8 : Int32} {h : zz_H} {t t' : cS} {o : kY} (hR : kR h t s) (hf : cf_228_79 N X rc x1 x2 x4 x6 x7 x8 t = some (t', o)) (k : (∀ h', kR h' t' s → kE o Q h')) : zz_J zp_P zt_tf zt_fd X d zm_228 79 [(0, .ref 58), (1, .int x1), (2, .long x2), (4, .long x4), (6, .int x6), (7, .int x7), (8, .int x8)] [] h Q := by
  unfold cf_228_79 at hf
  exact cb_228_79 hR  (fun hR => hrc0 hR hf k)
def cf_228_76 (N : Nat) (X : Nat → Option zz_C) (rc : Nat → Int32 → Int64 → Int64 → Int32 → Int32 → Int32 → cS → kO) (x1 : Int32) (x2 : Int64) (x4 : Int64) (x6 : Int32) (x7 : Int32) (x8 : Int32) (y1 : Int64) (t : cS) : kO := ko_call 2 (cf_123 N X y1 t) (fun g1 v1 => co_v v1 (cf_228_79 N X rc x1 x2 x4 x6 x7 x8 g1))
theorem cr_228_76 {X : Nat → Option zz_C} {s : mS} {N : Nat} {d : Nat} (hd : 10 ≤ d) {rc : Nat → Int32 → Int64 → Int64 → Int32 → Int32 → Int32 → cS → kO} (hrc0 : ∀ {Q : zz_O → zz_H → Prop} {x1 : Int32} {x2 : Int64} {x4 : Int64} {x6 : Int32} {x7 : Int32} {x8 : Int32} {h : zz_H} {t t' : cS} {o : kY}, kR h t s → rc 0 x1 x2 x4 x6 x7 x8 t = some (t', o) → (∀ h', kR h' t' s → kE o Q h') → zz_J zp_P zt_tf zt_fd X d zm_228 35 [(0, .ref 58), (1, .int x1), (2, .long x2), (4, .long x4), (6, .int x6), (7, .int x7), (8, .int x8)] [] h Q) {Q : zz_O → zz_H → Prop} {x1 : Int32} {x2 : Int64} {x4 : Int64} {x6 : Int32} {x7 : Int32} {x8 : Int32} {y1 : Int64} {h : zz_H} {t t' : cS} {o : kY} (hR : kR h t s) (hf : cf_228_76 N X rc x1 x2 x4 x6 x7 x8 y1 t = some (t', o)) (k : (∀ h', kR h' t' s → kE o Q h')) : zz_J zp_P zt_tf zt_fd X d zm_228 76 [(0, .ref 58), (1, .int x1), (2, .long x2), (4, .long x4), (6, .int x6), (7, .int x7), (8, .int x8)] [.long y1, .ref 42] h Q := by
  unfold cf_228_76 at hf
  obtain ⟨d', rfl⟩ : ∃ d', d = d' + 1 := ⟨d - 1, by omega⟩
  refine cb_228_76 hR  (fun {h} hR => ?_)
  rcases ko_call_ok hf with ⟨g1, v1, er, hf⟩ | ⟨g1, er, hq⟩
  · obtain ⟨hv, hf2⟩ := co_v_ok hf
    clear hf
    have hf := hf2
    clear hf2
    subst hv
    refine cr_123 (by omega) hR er (fun h hR => ?_)
    exact cr_228_79 hd hrc0 hR hf k
  · refine cr_123 (by omega) hR er (fun h hR => ?_)
    exact ko_thrown hq hR k
def cf_228_73 (N : Nat) (X : Nat → Option zz_C) (rc : Nat → Int32 → Int64 → Int64 → Int32 → Int32 → Int32 → cS → kO) (x1 : Int32) (x2 : Int64) (x4 : Int64) (x6 : Int32) (x7 : Int32) (x8 : Int32) (y1 : Int32) (y2 : Int32) (t : cS) : kO := ko_call 1000 (cf_253 N X y1 y2 t) (fun g1 v1 => co_l v1 (fun y => cf_228_76 N X rc x1 x2 x4 x6 x7 x8 y g1))
theorem cr_228_73 {X : Nat → Option zz_C} {s : mS} {N : Nat} {d : Nat} (hd : 10 ≤ d) {rc : Nat → Int32 → Int64 → Int64 → Int32 → Int32 → Int32 → cS → kO} (hrc0 : ∀ {Q : zz_O → zz_H → Prop} {x1 : Int32} {x2 : Int64} {x4 : Int64} {x6 : Int32} {x7 : Int32} {x8 : Int32} {h : zz_H} {t t' : cS} {o : kY}, kR h t s → rc 0 x1 x2 x4 x6 x7 x8 t = some (t', o) → (∀ h', kR h' t' s → kE o Q h') → zz_J zp_P zt_tf zt_fd X d zm_228 35 [(0, .ref 58), (1, .int x1), (2, .long x2), (4, .long x4), (6, .int x6), (7, .int x7), (8, .int x8)] [] h Q) {Q : zz_O → zz_H → Prop} {x1 : Int32} {x2 : Int64} {x4 : Int64} {x6 : Int32} {x7 : Int32} {x8 : Int32} {y1 : Int32} {y2 : Int32} {h : zz_H} {t t' : cS} {o : kY} (hR : kR h t s) (hf : cf_228_73 N X rc x1 x2 x4 x6 x7 x8 y1 y2 t = some (t', o)) (k : (∀ h', kR h' t' s → kE o Q h')) : zz_J zp_P zt_tf zt_fd X d zm_228 73 [(0, .ref 58), (1, .int x1), (2, .long x2), (4, .long x4), (6, .int x6), (7, .int x7), (8, .int x8)] [.int y2, .int y1, .ref 42] h Q := by
  unfold cf_228_73 at hf
  obtain ⟨d', rfl⟩ : ∃ d', d = d' + 1 := ⟨d - 1, by omega⟩
  refine cb_228_73 hR  (fun {h} hR => ?_)
  rcases ko_call_ok hf with ⟨g1, v1, er, hf⟩ | ⟨g1, er, hq⟩
  · obtain ⟨y, hv, hf2⟩ := co_l_ok hf
    clear hf
    have hf := hf2
    clear hf2
    subst hv
    refine cr_253 (by omega) hR er (fun h hR => ?_)
    exact cr_228_76 hd hrc0 hR hf k
  · refine cr_253 (by omega) hR er (fun h hR => ?_)
    exact ko_thrown hq hR k
def cf_228_70 (N : Nat) (X : Nat → Option zz_C) (rc : Nat → Int32 → Int64 → Int64 → Int32 → Int32 → Int32 → cS → kO) (x1 : Int32) (x2 : Int64) (x4 : Int64) (x6 : Int32) (x7 : Int32) (x8 : Int32) (y1 : Int32) (y3 : Int32) (y4 : Int32) (y5 : Int32) (t : cS) : kO := ko_call 8 (cf_230 N X y3 y4 y5 t) (fun g1 v1 => co_i v1 (fun y => cf_228_73 N X rc x1 x2 x4 x6 x7 x8 y1 y g1))
theorem cr_228_70 {X : Nat → Option zz_C} {s : mS} {N : Nat} {d : Nat} (hd : 10 ≤ d) {rc : Nat → Int32 → Int64 → Int64 → Int32 → Int32 → Int32 → cS → kO} (hrc0 : ∀ {Q : zz_O → zz_H → Prop} {x1 : Int32} {x2 : Int64} {x4 : Int64} {x6 : Int32} {x7 : Int32} {x8 : Int32} {h : zz_H} {t t' : cS} {o : kY}, kR h t s → rc 0 x1 x2 x4 x6 x7 x8 t = some (t', o) → (∀ h', kR h' t' s → kE o Q h') → zz_J zp_P zt_tf zt_fd X d zm_228 35 [(0, .ref 58), (1, .int x1), (2, .long x2), (4, .long x4), (6, .int x6), (7, .int x7), (8, .int x8)] [] h Q) {Q : zz_O → zz_H → Prop} {x1 : Int32} {x2 : Int64} {x4 : Int64} {x6 : Int32} {x7 : Int32} {x8 : Int32} {y1 : Int32} {y3 : Int32} {y4 : Int32} {y5 : Int32} {h : zz_H} {t t' : cS} {o : kY} (hR : kR h t s) (hf : cf_228_70 N X rc x1 x2 x4 x6 x7 x8 y1 y3 y4 y5 t = some (t', o)) (k : (∀ h', kR h' t' s → kE o Q h')) : zz_J zp_P zt_tf zt_fd X d zm_228 70 [(0, .ref 58), (1, .int x1), (2, .long x2), (4, .long x4), (6, .int x6), (7, .int x7), (8, .int x8)] [.int y5, .int y4, .int y3, .ref 58, .int y1, .ref 42] h Q := by
  unfold cf_228_70 at hf
  obtain ⟨d', rfl⟩ : ∃ d', d = d' + 1 := ⟨d - 1, by omega⟩
  refine cb_228_70 hR  (fun {h} hR => ?_)
  rcases ko_call_ok hf with ⟨g1, v1, er, hf⟩ | ⟨g1, er, hq⟩
  · obtain ⟨y, hv, hf2⟩ := co_i_ok hf
    clear hf
    have hf := hf2
    clear hf2
    subst hv
    refine cr_230 (by omega) hR er (fun h hR => ?_)
    exact cr_228_73 hd hrc0 hR hf k
  · refine cr_230 (by omega) hR er (fun h hR => ?_)
    exact ko_thrown hq hR k
def cf_228_59 (N : Nat) (X : Nat → Option zz_C) (rc : Nat → Int32 → Int64 → Int64 → Int32 → Int32 → Int32 → cS → kO) (x1 : Int32) (x2 : Int64) (x4 : Int64) (x6 : Int32) (x7 : Int32) (x8 : Int32) (y1 : Int32) (y3 : Int32) (y4 : Int32) (t : cS) : kO := ko_call 2 (cf_130 N X x4 x8 t) (fun g1 v1 => co_i v1 (fun y => cf_228_70 N X rc x1 x2 x4 x6 x7 x8 y1 y3 y4 y g1))
theorem cr_228_59 {X : Nat → Option zz_C} {s : mS} {N : Nat} {d : Nat} (hd : 10 ≤ d) {rc : Nat → Int32 → Int64 → Int64 → Int32 → Int32 → Int32 → cS → kO} (hrc0 : ∀ {Q : zz_O → zz_H → Prop} {x1 : Int32} {x2 : Int64} {x4 : Int64} {x6 : Int32} {x7 : Int32} {x8 : Int32} {h : zz_H} {t t' : cS} {o : kY}, kR h t s → rc 0 x1 x2 x4 x6 x7 x8 t = some (t', o) → (∀ h', kR h' t' s → kE o Q h') → zz_J zp_P zt_tf zt_fd X d zm_228 35 [(0, .ref 58), (1, .int x1), (2, .long x2), (4, .long x4), (6, .int x6), (7, .int x7), (8, .int x8)] [] h Q) {Q : zz_O → zz_H → Prop} {x1 : Int32} {x2 : Int64} {x4 : Int64} {x6 : Int32} {x7 : Int32} {x8 : Int32} {y1 : Int32} {y3 : Int32} {y4 : Int32} {h : zz_H} {t t' : cS} {o : kY} (hR : kR h t s) (hf : cf_228_59 N X rc x1 x2 x4 x6 x7 x8 y1 y3 y4 t = some (t', o)) (k : (∀ h', kR h' t' s → kE o Q h')) : zz_J zp_P zt_tf zt_fd X d zm_228 59 [(0, .ref 58), (1, .int x1), (2, .long x2), (4, .long x4), (6, .int x6), (7, .int x7), (8, .int x8)] [.int y4, .int y3, .ref 58, .int y1, .ref 42] h Q := by
  unfold cf_228_59 at hf
  obtain ⟨d', rfl⟩ : ∃ d', d = d' + 1 := ⟨d - 1, by omega⟩
  refine cb_228_59 hR  (fun {h} hR => ?_)
  rcases ko_call_ok hf with ⟨g1, v1, er, hf⟩ | ⟨g1, er, hq⟩
  · obtain ⟨y, hv, hf2⟩ := co_i_ok hf
    clear hf
    have hf := hf2
    clear hf2
    subst hv
    refine cr_130 (by omega) hR er (fun h hR => ?_)
    exact cr_228_70 hd hrc0 hR hf k
  · refine cr_130 (by omega) hR er (fun h hR => ?_)
    exact ko_thrown hq hR k
def cf_228_42 (N : Nat) (X : Nat → Option zz_C) (rc : Nat → Int32 → Int64 → Int64 → Int32 → Int32 → Int32 → cS → kO) (x1 : Int32) (x2 : Int64) (x4 : Int64) (x6 : Int32) (x7 : Int32) (x8 : Int32) (t : cS) : kO := ko_call 2 (cf_130 N X x2 x8 t) (fun g1 v1 => co_i v1 (fun y => cf_228_59 N X rc x1 x2 x4 x6 x7 x8 0 x1 y g1))
theorem cr_228_42 {X : Nat → Option zz_C} {s : mS} {N : Nat} {d : Nat} (hd : 10 ≤ d) {rc : Nat → Int32 → Int64 → Int64 → Int32 → Int32 → Int32 → cS → kO} (hrc0 : ∀ {Q : zz_O → zz_H → Prop} {x1 : Int32} {x2 : Int64} {x4 : Int64} {x6 : Int32} {x7 : Int32} {x8 : Int32} {h : zz_H} {t t' : cS} {o : kY}, kR h t s → rc 0 x1 x2 x4 x6 x7 x8 t = some (t', o) → (∀ h', kR h' t' s → kE o Q h') → zz_J zp_P zt_tf zt_fd X d zm_228 35 [(0, .ref 58), (1, .int x1), (2, .long x2), (4, .long x4), (6, .int x6), (7, .int x7), (8, .int x8)] [] h Q) {Q : zz_O → zz_H → Prop} {x1 : Int32} {x2 : Int64} {x4 : Int64} {x6 : Int32} {x7 : Int32} {x8 : Int32} {h : zz_H} {t t' : cS} {o : kY} (hR : kR h t s) (hf : cf_228_42 N X rc x1 x2 x4 x6 x7 x8 t = some (t', o)) (k : (∀ h', kR h' t' s → kE o Q h')) : zz_J zp_P zt_tf zt_fd X d zm_228 42 [(0, .ref 58), (1, .int x1), (2, .long x2), (4, .long x4), (6, .int x6), (7, .int x7), (8, .int x8)] [] h Q := by
  unfold cf_228_42 at hf
  obtain ⟨d', rfl⟩ : ∃ d', d = d' + 1 := ⟨d - 1, by omega⟩
  refine cb_228_42 hR  (fun {h} hR => ?_)
  rcases ko_call_ok hf with ⟨g1, v1, er, hf⟩ | ⟨g1, er, hq⟩
  · obtain ⟨y, hv, hf2⟩ := co_i_ok hf
    clear hf
    have hf := hf2
    clear hf2
    subst hv
    refine cr_130 (by omega) hR er (fun h hR => ?_)
    exact cr_228_59 hd hrc0 hR hf k
  · refine cr_130 (by omega) hR er (fun h hR => ?_)
    exact ko_thrown hq hR k
def cf_228_35 (N : Nat) (X : Nat → Option zz_C) (rc : Nat → Int32 → Int64 → Int64 → Int32 → Int32 → Int32 → cS → kO) (x1 : Int32) (x2 : Int64) (x4 : Int64) (x6 : Int32) (x7 : Int32) (x8 : Int32) (t : cS) : kO := if x6 ≤ x8 then cf_228_85 N X x7 t else cf_228_42 N X rc x1 x2 x4 x6 x7 x8 t
theorem cr_228_35 {X : Nat → Option zz_C} {s : mS} {N : Nat} {d : Nat} (hd : 10 ≤ d) {rc : Nat → Int32 → Int64 → Int64 → Int32 → Int32 → Int32 → cS → kO} (hrc0 : ∀ {Q : zz_O → zz_H → Prop} {x1 : Int32} {x2 : Int64} {x4 : Int64} {x6 : Int32} {x7 : Int32} {x8 : Int32} {h : zz_H} {t t' : cS} {o : kY}, kR h t s → rc 0 x1 x2 x4 x6 x7 x8 t = some (t', o) → (∀ h', kR h' t' s → kE o Q h') → zz_J zp_P zt_tf zt_fd X d zm_228 35 [(0, .ref 58), (1, .int x1), (2, .long x2), (4, .long x4), (6, .int x6), (7, .int x7), (8, .int x8)] [] h Q) {Q : zz_O → zz_H → Prop} {x1 : Int32} {x2 : Int64} {x4 : Int64} {x6 : Int32} {x7 : Int32} {x8 : Int32} {h : zz_H} {t t' : cS} {o : kY} (hR : kR h t s) (hf : cf_228_35 N X rc x1 x2 x4 x6 x7 x8 t = some (t', o)) (k : (∀ h', kR h' t' s → kE o Q h')) : zz_J zp_P zt_tf zt_fd X d zm_228 35 [(0, .ref 58), (1, .int x1), (2, .long x2), (4, .long x4), (6, .int x6), (7, .int x7), (8, .int x8)] [] h Q := by
  unfold cf_228_35 at hf
  refine cb_228_35 hR  (fun c {h} hR => ?_) (fun c {h} hR => ?_)
  · rw [if_pos c] at hf
    exact cr_228_85 hd hR hf k
  · rw [if_neg c] at hf
    exact cr_228_42 hd hrc0 hR hf k
def cf_228_L2 (N : Nat) (X : Nat → Option zz_C) : Nat → Nat → Int32 → Int64 → Int64 → Int32 → Int32 → Int32 → cS → kO
  | 0, _, _, _, _, _, _, _, _ => none
  | n + 1, l, x1, x2, x4, x6, x7, x8, t => if l = 0 then cf_228_35 N X (cf_228_L2 N X n) x1 x2 x4 x6 x7 x8 t else none
theorem cr_228_L2 {X : Nat → Option zz_C} {s : mS} {N : Nat} {d : Nat} (hd : 10 ≤ d) : ∀ n : Nat, (∀ {Q : zz_O → zz_H → Prop} {x1 : Int32} {x2 : Int64} {x4 : Int64} {x6 : Int32} {x7 : Int32} {x8 : Int32} {h : zz_H} {t t' : cS} {o : kY}, kR h t s → cf_228_L2 N X n 0 x1 x2 x4 x6 x7 x8 t = some (t', o) → (∀ h', kR h' t' s → kE o Q h') → zz_J zp_P zt_tf zt_fd X d zm_228 35 [(0, .ref 58), (1, .int x1), (2, .long x2), (4, .long x4), (6, .int x6), (7, .int x7), (8, .int x8)] [] h Q) := by
  intro n
  induction n with
  | zero => exact (fun _ hf _ => by cases hf)
  | succ n ih =>
    have h0 := @ih
    intro Q _ _ _ _ _ _ h t t' o hR hf k
    unfold cf_228_L2 at hf
    rw [if_pos rfl] at hf
    exact cr_228_35 hd h0 hR hf k
def cf_228_30 (N : Nat) (X : Nat → Option zz_C) (x1 : Int32) (x2 : Int64) (x4 : Int64) (x6 : Int32) (y0 : Int32) (t : cS) : kO := cf_228_L2 N X N 0 x1 x2 x4 x6 y0 0 t
theorem cr_228_30 {X : Nat → Option zz_C} {s : mS} {N : Nat} {d : Nat} (hd : 10 ≤ d) {Q : zz_O → zz_H → Prop} {x1 : Int32} {x2 : Int64} {x4 : Int64} {x6 : Int32} {y0 : Int32} {h : zz_H} {t t' : cS} {o : kY} (hR : kR h t s) (hf : cf_228_30 N X x1 x2 x4 x6 y0 t = some (t', o)) (k : (∀ h', kR h' t' s → kE o Q h')) : zz_J zp_P zt_tf zt_fd X d zm_228 30 [(0, .ref 58), (1, .int x1), (2, .long x2), (4, .long x4), (6, .int x6)] [.int y0] h Q := by
  unfold cf_228_30 at hf
  exact cb_228_30 hR  (fun hR => cr_228_L2 hd N hR hf k)
def cf_228_21 (N : Nat) (X : Nat → Option zz_C) (x1 : Int32) (x2 : Int64) (x4 : Int64) (y0 : Int32) (t : cS) : kO := ko_call 2 (cf_122 N X  t) (fun g1 v1 => co_i v1 (fun y => cf_228_30 N X x1 x2 x4 y0 y g1))
theorem cr_228_21 {X : Nat → Option zz_C} {s : mS} {N : Nat} {d : Nat} (hd : 10 ≤ d) {Q : zz_O → zz_H → Prop} {x1 : Int32} {x2 : Int64} {x4 : Int64} {y0 : Int32} {h : zz_H} {t t' : cS} {o : kY} (hR : kR h t s) (hf : cf_228_21 N X x1 x2 x4 y0 t = some (t', o)) (k : (∀ h', kR h' t' s → kE o Q h')) : zz_J zp_P zt_tf zt_fd X d zm_228 21 [(0, .ref 58), (1, .int x1), (2, .long x2), (4, .long x4)] [.int y0] h Q := by
  unfold cf_228_21 at hf
  obtain ⟨d', rfl⟩ : ∃ d', d = d' + 1 := ⟨d - 1, by omega⟩
  refine cb_228_21 hR  (fun {h} hR => ?_)
  rcases ko_call_ok hf with ⟨g1, v1, er, hf⟩ | ⟨g1, er, hq⟩
  · obtain ⟨y, hv, hf2⟩ := co_i_ok hf
    clear hf
    have hf := hf2
    clear hf2
    subst hv
    refine cr_122 (by omega) hR er (fun h hR => ?_)
    exact cr_228_30 hd hR hf k
  · refine cr_122 (by omega) hR er (fun h hR => ?_)
    exact ko_thrown hq hR k
def cf_228_18 (N : Nat) (X : Nat → Option zz_C) (x1 : Int32) (x2 : Int64) (x4 : Int64) (y1 : Int64) (t : cS) : kO := ko_call 2 (cf_128 N X y1 t) (fun g1 v1 => co_i v1 (fun y => cf_228_21 N X x1 x2 x4 y g1))
theorem cr_228_18 {X : Nat → Option zz_C} {s : mS} {N : Nat} {d : Nat} (hd : 10 ≤ d) {Q : zz_O → zz_H → Prop} {x1 : Int32} {x2 : Int64} {x4 : Int64} {y1 : Int64} {h : zz_H} {t t' : cS} {o : kY} (hR : kR h t s) (hf : cf_228_18 N X x1 x2 x4 y1 t = some (t', o)) (k : (∀ h', kR h' t' s → kE o Q h')) : zz_J zp_P zt_tf zt_fd X d zm_228 18 [(0, .ref 58), (1, .int x1), (2, .long x2), (4, .long x4)] [.long y1, .ref 42] h Q := by
  unfold cf_228_18 at hf
  obtain ⟨d', rfl⟩ : ∃ d', d = d' + 1 := ⟨d - 1, by omega⟩
  refine cb_228_18 hR  (fun {h} hR => ?_)
  rcases ko_call_ok hf with ⟨g1, v1, er, hf⟩ | ⟨g1, er, hq⟩
  · obtain ⟨y, hv, hf2⟩ := co_i_ok hf
    clear hf
    have hf := hf2
    clear hf2
    subst hv
    refine cr_128 (by omega) hR er (fun h hR => ?_)
    exact cr_228_21 hd hR hf k
  · refine cr_128 (by omega) hR er (fun h hR => ?_)
    exact ko_thrown hq hR k
def cf_228_16 (N : Nat) (X : Nat → Option zz_C) (x1 : Int32) (x2 : Int64) (x4 : Int64) (t : cS) : kO := cf_228_18 N X x1 x2 x4 x4 t
theorem cr_228_16 {X : Nat → Option zz_C} {s : mS} {N : Nat} {d : Nat} (hd : 10 ≤ d) {Q : zz_O → zz_H → Prop} {x1 : Int32} {x2 : Int64} {x4 : Int64} {h : zz_H} {t t' : cS} {o : kY} (hR : kR h t s) (hf : cf_228_16 N X x1 x2 x4 t = some (t', o)) (k : (∀ h', kR h' t' s → kE o Q h')) : zz_J zp_P zt_tf zt_fd X d zm_228 16 [(0, .ref 58), (1, .int x1), (2, .long x2), (4, .long x4)] [.ref 42] h Q := by
  unfold cf_228_16 at hf
  exact cb_228_16 hR  (fun hR => cr_228_18 hd hR hf k)
def cf_228_12 (N : Nat) (X : Nat → Option zz_C) (x1 : Int32) (x2 : Int64) (x4 : Int64) (t : cS) : kO := cf_228_18 N X x1 x2 x4 x2 t
theorem cr_228_12 {X : Nat → Option zz_C} {s : mS} {N : Nat} {d : Nat} (hd : 10 ≤ d) {Q : zz_O → zz_H → Prop} {x1 : Int32} {x2 : Int64} {x4 : Int64} {h : zz_H} {t t' : cS} {o : kY} (hR : kR h t s) (hf : cf_228_12 N X x1 x2 x4 t = some (t', o)) (k : (∀ h', kR h' t' s → kE o Q h')) : zz_J zp_P zt_tf zt_fd X d zm_228 12 [(0, .ref 58), (1, .int x1), (2, .long x2), (4, .long x4)] [.ref 42] h Q := by
  unfold cf_228_12 at hf
  exact cb_228_12 hR  (fun hR => cr_228_18 hd hR hf k)
def cf_228_8 (N : Nat) (X : Nat → Option zz_C) (x1 : Int32) (x2 : Int64) (x4 : Int64) (y1 : Int32) (t : cS) : kO := if ¬ y1 = 1 then cf_228_16 N X x1 x2 x4 t else cf_228_12 N X x1 x2 x4 t
theorem cr_228_8 {X : Nat → Option zz_C} {s : mS} {N : Nat} {d : Nat} (hd : 10 ≤ d) {Q : zz_O → zz_H → Prop} {x1 : Int32} {x2 : Int64} {x4 : Int64} {y1 : Int32} {h : zz_H} {t t' : cS} {o : kY} (hR : kR h t s) (hf : cf_228_8 N X x1 x2 x4 y1 t = some (t', o)) (k : (∀ h', kR h' t' s → kE o Q h')) : zz_J zp_P zt_tf zt_fd X d zm_228 8 [(0, .ref 58), (1, .int x1), (2, .long x2), (4, .long x4)] [.int y1, .ref 42] h Q := by
  unfold cf_228_8 at hf
  refine cb_228_8 hR  (fun c {h} hR => ?_) (fun c {h} hR => ?_)
  · rw [if_pos c] at hf
    exact cr_228_16 hd hR hf k
  · rw [if_neg c] at hf
    exact cr_228_12 hd hR hf k
def cf_228_0 (N : Nat) (X : Nat → Option zz_C) (x1 : Int32) (x2 : Int64) (x4 : Int64) (t : cS) : kO := ko_call 1000 (cf_255 N X x2 t) (fun g1 v1 => co_i v1 (fun y => cf_228_8 N X x1 x2 x4 y g1))
theorem cr_228_0 {X : Nat → Option zz_C} {s : mS} {N : Nat} {d : Nat} (hd : 10 ≤ d) {Q : zz_O → zz_H → Prop} {x1 : Int32} {x2 : Int64} {x4 : Int64} {h : zz_H} {t t' : cS} {o : kY} (hR : kR h t s) (hf : cf_228_0 N X x1 x2 x4 t = some (t', o)) (k : (∀ h', kR h' t' s → kE o Q h')) : zz_J zp_P zt_tf zt_fd X d zm_228 0 [(0, .ref 58), (1, .int x1), (2, .long x2), (4, .long x4)] [] h Q := by
  unfold cf_228_0 at hf
  obtain ⟨d', rfl⟩ : ∃ d', d = d' + 1 := ⟨d - 1, by omega⟩
  refine cb_228_0 hR  (fun {h} hR => ?_)
  rcases ko_call_ok hf with ⟨g1, v1, er, hf⟩ | ⟨g1, er, hq⟩
  · obtain ⟨y, hv, hf2⟩ := co_i_ok hf
    clear hf
    have hf := hf2
    clear hf2
    subst hv
    refine cr_255 (by omega) hR er (fun h hR => ?_)
    exact cr_228_8 hd hR hf k
  · refine cr_255 (by omega) hR er (fun h hR => ?_)
    exact ko_thrown hq hR k
/-- rows -/
def cf_228 (N : Nat) (X : Nat → Option zz_C) (x1 : Int32) (x2 : Int64) (x4 : Int64) (t : cS) : kO := cf_228_0 N X x1 x2 x4 t
theorem cr_228 {X : Nat → Option zz_C} {s : mS} {N : Nat} {d : Nat} (hd : 10 ≤ d) {Q : zz_O → zz_H → Prop} {x1 : Int32} {x2 : Int64} {x4 : Int64} {h : zz_H} {t t' : cS} {o : kY} (hR : kR h t s) (hf : cf_228 N X x1 x2 x4 t = some (t', o)) (k : ∀ h', kR h' t' s → kE o Q h') : zz_J zp_P zt_tf zt_fd X d zm_228 0 [(0, .ref 58), (1, .int x1), (2, .long x2), (4, .long x4)] [] h Q := by
  unfold cf_228 at hf
  exact zz_J.weak (cr_228_0 hd hR hf k) rfl ⟨rfl, rfl, rfl, rfl, trivial⟩
/-! yX8_tables (IJJ)J -/
theorem cb_227_0 {X : Nat → Option zz_C} {h : zz_H} {t : cS} {s : mS} {d : Nat} {Q : zz_O → zz_H → Prop} {x1 : Int32} {x2 : Int64} {x4 : Int64} (hR : kR h t s) (k : ∀ {h : zz_H}, kR h t s → zz_J zp_P zt_tf zt_fd X d zm_255 0 [(0, .long x2)] [] h (zz_after 1000 Q (fun v h' => zz_J zp_P zt_tf zt_fd X (d + 1) zm_227 8 [(0, .ref 58), (1, .int x1), (2, .long x2), (4, .long x4)] (v.toList ++ [.ref 42]) h' Q))) : zz_J zp_P zt_tf zt_fd X (d + 1) zm_227 0 [(0, .ref 58), (1, .int x1), (2, .long x2), (4, .long x4)] [] h Q := by
  refine zz_J.n 1 rfl rfl rfl ?_
  refine zz_J.g 4 rfl (hR.gv (v := .ref 42) ko_58 (by decide) rfl) rfl ?_
  refine zz_J.n 5 rfl rfl rfl ?_
  refine zz_J.cl (M' := zm_255) 8 rfl rfl (by decide) rfl rfl ⟨rfl, Nat.le_of_ble_eq_true rfl⟩ rfl ?_
  refine zz_J.mono (k hR) ?_
  intro o h' hE
  cases o with
  | inl v => exact zz_J.weak hE rfl ⟨rfl, rfl, rfl, rfl, trivial⟩
  | inr q => exact hE
theorem cb_227_8 {X : Nat → Option zz_C} {h : zz_H} {t : cS} {s : mS} {d : Nat} {Q : zz_O → zz_H → Prop} {x1 : Int32} {x2 : Int64} {x4 : Int64} {y1 : Int32} (hR : kR h t s) (k1 : ¬ y1 = 2 → (∀ {h : zz_H}, kR h t s → zz_J zp_P zt_tf zt_fd X d zm_227 16 [(0, .ref 58), (1, .int x1), (2, .long x2), (4, .long x4)] [.ref 42] h Q)) (k2 : ¬ ¬ y1 = 2 → (∀ {h : zz_H}, kR h t s → zz_J zp_P zt_tf zt_fd X d zm_227 12 [(0, .ref 58), (1, .int x1), (2, .long x2), (4, .long x4)] [.ref 42] h Q)) : zz_J zp_P zt_tf zt_fd X d zm_227 8 [(0, .ref 58), (1, .int x1), (2, .long x2), (4, .long x4)] [.int y1, .ref 42] h Q := by
  refine zz_J.c 9 (.int 2) rfl rfl rfl rfl ?_
  refine zz_J.b2 16 12 (A := ¬ y1 = 2) rfl (zz_cond_ne _ _) (by decide) rfl rfl (fun c => ?_) (fun c => ?_)
  · exact zz_J.weak (k1 c hR) rfl ⟨rfl, rfl, rfl, rfl, trivial⟩
  · exact zz_J.weak (k2 c hR) rfl ⟨rfl, rfl, rfl, rfl, trivial⟩
theorem cb_227_12 {X : Nat → Option zz_C} {h : zz_H} {t : cS} {s : mS} {d : Nat} {Q : zz_O → zz_H → Prop} {x1 : Int32} {x2 : Int64} {x4 : Int64} (hR : kR h t s) (k : ∀ {h : zz_H}, kR h t s → zz_J zp_P zt_tf zt_fd X d zm_227 18 [(0, .ref 58), (1, .int x1), (2, .long x2), (4, .long x4)] [.long x2, .ref 42] h Q) : zz_J zp_P zt_tf zt_fd X d zm_227 12 [(0, .ref 58), (1, .int x1), (2, .long x2), (4, .long x4)] [.ref 42] h Q := by
  refine zz_J.n 13 rfl rfl rfl ?_
  refine zz_J.n 18 rfl rfl rfl ?_
  exact zz_J.weak (k hR) rfl ⟨rfl, rfl, rfl, rfl, trivial⟩
theorem cb_227_16 {X : Nat → Option zz_C} {h : zz_H} {t : cS} {s : mS} {d : Nat} {Q : zz_O → zz_H → Prop} {x1 : Int32} {x2 : Int64} {x4 : Int64} (hR : kR h t s) (k : ∀ {h : zz_H}, kR h t s → zz_J zp_P zt_tf zt_fd X d zm_227 18 [(0, .ref 58), (1, .int x1), (2, .long x2), (4, .long x4)] [.long x4, .ref 42] h Q) : zz_J zp_P zt_tf zt_fd X d zm_227 16 [(0, .ref 58), (1, .int x1), (2, .long x2), (4, .long x4)] [.ref 42] h Q := by
  refine zz_J.n 18 rfl rfl rfl ?_
  exact zz_J.weak (k hR) rfl ⟨rfl, rfl, rfl, rfl, trivial⟩
theorem cb_227_18 {X : Nat → Option zz_C} {h : zz_H} {t : cS} {s : mS} {d : Nat} {Q : zz_O → zz_H → Prop} {x1 : Int32} {x2 : Int64} {x4 : Int64} {y1 : Int64} (hR : kR h t s) (k : ∀ {h : zz_H}, kR h t s → zz_J zp_P zt_tf zt_fd X d zm_128 0 [(0, .ref 42), (1, .long y1)] [] h (zz_after 2 Q (fun v h' => zz_J zp_P zt_tf zt_fd X (d + 1) zm_227 21 [(0, .ref 58), (1, .int x1), (2, .long x2), (4, .long x4)] (v.toList ++ []) h' Q))) : zz_J zp_P zt_tf zt_fd X (d + 1) zm_227 18 [(0, .ref 58), (1, .int x1), (2, .long x2), (4, .long x4)] [.long y1, .ref 42] h Q := by
  refine zz_J.cv 21 (as := []) rfl rfl (hR.clO ko_42 (by decide) (by decide)) (by decide) (Nat.le_of_ble_eq_true rfl) (Nat.le_of_ble_eq_true rfl) rfl (Nat.le_of_ble_eq_true rfl) rfl ?_
  refine zz_J.mono (k hR) ?_
  intro o h' hE
  cases o with
  | inl v => exact zz_J.weak hE rfl ⟨rfl, rfl, rfl, rfl, trivial⟩
  | inr q => exact hE
theorem cb_227_21 {X : Nat → Option zz_C} {h : zz_H} {t : cS} {s : mS} {d : Nat} {Q : zz_O → zz_H → Prop} {x1 : Int32} {x2 : Int64} {x4 : Int64} {y0 : Int32} (hR : kR h t s) (k : ∀ {h : zz_H}, kR h t s → zz_J zp_P zt_tf zt_fd X d zm_122 0 [(0, .ref 42)] [] h (zz_after 2 Q (fun v h' => zz_J zp_P zt_tf zt_fd X (d + 1) zm_227 30 [(0, .ref 58), (1, .int x1), (2, .long x2), (4, .long x4), (6, .int y0)] (v.toList ++ []) h' Q))) : zz_J zp_P zt_tf zt_fd X (d + 1) zm_227 21 [(0, .ref 58), (1, .int x1), (2, .long x2), (4, .long x4)] [.int y0] h Q := by
  refine zz_J.n 23 rfl rfl rfl ?_
  refine zz_J.n 24 rfl rfl rfl ?_
  refine zz_J.g 27 rfl (hR.gv (v := .ref 42) ko_58 (by decide) rfl) rfl ?_
  refine zz_J.cv 30 (as := []) rfl rfl (hR.clO ko_42 (by decide) (by decide)) (by decide) (Nat.le_of_ble_eq_true rfl) (Nat.le_of_ble_eq_true rfl) rfl (Nat.le_of_ble_eq_true rfl) rfl ?_
  refine zz_J.mono (k hR) ?_
  intro o h' hE
  cases o with
  | inl v => exact zz_J.weak hE rfl ⟨rfl, rfl, rfl, rfl, rfl, trivial⟩
  | inr q => exact hE
theorem cb_227_30 {X : Nat → Option zz_C} {h : zz_H} {t : cS} {s : mS} {d : Nat} {Q : zz_O → zz_H → Prop} {x1 : Int32} {x2 : Int64} {x4 : Int64} {x6 : Int32} {y0 : Int32} (hR : kR h t s) (k : ∀ {h : zz_H}, kR h t s → zz_J zp_P zt_tf zt_fd X d zm_227 35 [(0, .ref 58), (1, .int x1), (2, .long x2), (4, .long x4), (6, .int x6), (7, .int y0), (8, .int 0)] [] h Q) : zz_J zp_P zt_tf zt_fd X d zm_227 30 [(0, .ref 58), (1, .int x1), (2, .long x2), (4, .long x4), (6, .int x6)] [.int y0] h Q := by
  refine zz_J.n 32 rfl rfl rfl ?_
  refine zz_J.c 33 (.int 0) rfl rfl rfl rfl ?_
  refine zz_J.n 35 rfl rfl rfl ?_
  exact zz_J.weak (k hR) rfl ⟨rfl, rfl, rfl, rfl, rfl, rfl, rfl, trivial⟩
theorem cb_227_35 {X : Nat → Option zz_C} {h : zz_H} {t : cS} {s : mS} {d : Nat} {Q : zz_O → zz_H → Prop} {x1 : Int32} {x2 : Int64} {x4 : Int64} {x6 : Int32} {x7 : Int32} {x8 : Int32} (hR : kR h t s) (k1 : x6 ≤ x8 → (∀ {h : zz_H}, kR h t s → zz_J zp_P zt_tf zt_fd X d zm_227 75 [(0, .ref 58), (7, .int x7)] [] h Q)) (k2 : ¬ x6 ≤ x8 → (∀ {h : zz_H}, kR h t s → zz_J zp_P zt_tf zt_fd X d zm_227 42 [(0, .ref 58), (1, .int x1), (2, .long x2), (4, .long x4), (6, .int x6), (7, .int x7), (8, .int x8)] [] h Q)) : zz_J zp_P zt_tf zt_fd X d zm_227 35 [(0, .ref 58), (1, .int x1), (2, .long x2), (4, .long x4), (6, .int x6), (7, .int x7), (8, .int x8)] [] h Q := by
  refine zz_J.n 37 rfl rfl rfl ?_
  refine zz_J.n 39 rfl rfl rfl ?_
  refine zz_J.b2 75 42 (A := x6 ≤ x8) rfl rfl (by decide) rfl rfl (fun c => ?_) (fun c => ?_)
  · exact zz_J.weak (k1 c hR) rfl ⟨rfl, rfl, trivial⟩
  · exact zz_J.weak (k2 c hR) rfl ⟨rfl, rfl, rfl, rfl, rfl, rfl, rfl, trivial⟩
theorem cb_227_42 {X : Nat → Option zz_C} {h : zz_H} {t : cS} {s : mS} {d : Nat} {Q : zz_O → zz_H → Prop} {x1 : Int32} {x2 : Int64} {x4 : Int64} {x6 : Int32} {x7 : Int32} {x8 : Int32} (hR : kR h t s) (k : ∀ {h : zz_H}, kR h t s → zz_J zp_P zt_tf zt_fd X d zm_229 0 [(0, .ref 58), (1, .long x2), (3, .int x8)] [] h (zz_after 8 Q (fun v h' => zz_J zp_P zt_tf zt_fd X (d + 1) zm_227 55 [(0, .ref 58), (1, .int x1), (2, .long x2), (4, .long x4), (6, .int x6), (7, .int x7), (8, .int x8)] (v.toList ++ [.int x1, .ref 58, .ref 42]) h' Q))) : zz_J zp_P zt_tf zt_fd X (d + 1) zm_227 42 [(0, .ref 58), (1, .int x1), (2, .long x2), (4, .long x4), (6, .int x6), (7, .int x7), (8, .int x8)] [] h Q := by
  refine zz_J.n 43 rfl rfl rfl ?_
  refine zz_J.g 46 rfl (hR.gv (v := .ref 42) ko_58 (by decide) rfl) rfl ?_
  refine zz_J.n 47 rfl rfl rfl ?_
  refine zz_J.n 48 rfl rfl rfl ?_
  refine zz_J.n 49 rfl rfl rfl ?_
  refine zz_J.n 50 rfl rfl rfl ?_
  refine zz_J.n 52 rfl rfl rfl ?_
  refine zz_J.cv 55 (as := [.int x1, .ref 58, .ref 42]) rfl rfl (hR.clO ko_58 (by decide) (by decide)) (by decide) (Nat.le_of_ble_eq_true rfl) (Nat.le_of_ble_eq_true rfl) rfl (Nat.le_of_ble_eq_true rfl) rfl ?_
  refine zz_J.mono (k hR) ?_
  intro o h' hE
  cases o with
  | inl v => exact zz_J.weak hE rfl ⟨rfl, rfl, rfl, rfl, rfl, rfl, rfl, trivial⟩
  | inr q => exact hE
theorem cb_227_55 {X : Nat → Option zz_C} {h : zz_H} {t : cS} {s : mS} {d : Nat} {Q : zz_O → zz_H → Prop} {x1 : Int32} {x2 : Int64} {x4 : Int64} {x6 : Int32} {x7 : Int32} {x8 : Int32} {y2 : Int32} {y3 : Int64} (hR : kR h t s) (k : ∀ {h : zz_H}, kR h t s → zz_J zp_P zt_tf zt_fd X d zm_229 0 [(0, .ref 58), (1, .long x4), (3, .int x8)] [] h (zz_after 8 Q (fun v h' => zz_J zp_P zt_tf zt_fd X (d + 1) zm_227 63 [(0, .ref 58), (1, .int x1), (2, .long x2), (4, .long x4), (6, .int x6), (7, .int x7), (8, .int x8)] (v.toList ++ [.long y3, .int y2, .ref 58, .ref 42]) h' Q))) : zz_J zp_P zt_tf zt_fd X (d + 1) zm_227 55 [(0, .ref 58), (1, .int x1), (2, .long x2), (4, .long x4), (6, .int x6), (7, .int x7), (8, .int x8)] [.long y3, .int y2, .ref 58, .ref 42] h Q := by
  refine zz_J.n 56 rfl rfl rfl ?_
  refine zz_J.n 58 rfl rfl rfl ?_
  refine zz_J.n 60 rfl rfl rfl ?_
  refine zz_J.cv 63 (as := [.long y3, .int y2, .ref 58, .ref 42]) rfl rfl (hR.clO ko_58 (by decide) (by decide)) (by decide) (Nat.le_of_ble_eq_true rfl) (Nat.le_of_ble_eq_true rfl) rfl (Nat.le_of_ble_eq_true rfl) rfl ?_
  refine zz_J.mono (k hR) ?_
  intro o h' hE
  cases o with
  | inl v => exact zz_J.weak hE rfl ⟨rfl, rfl, rfl, rfl, rfl, rfl, rfl, trivial⟩
  | inr q => exact hE
theorem cb_227_63 {X : Nat → Option zz_C} {h : zz_H} {t : cS} {s : mS} {d : Nat} {Q : zz_O → zz_H → Prop} {x1 : Int32} {x2 : Int64} {x4 : Int64} {x6 : Int32} {x7 : Int32} {x8 : Int32} {y2 : Int32} {y3 : Int64} {y4 : Int64} (hR : kR h t s) (k : ∀ {h : zz_H}, kR h t s → zz_J zp_P zt_tf zt_fd X d zm_228 0 [(0, .ref 58), (1, .int y2), (2, .long y3), (4, .long y4)] [] h (zz_after 8 Q (fun v h' => zz_J zp_P zt_tf zt_fd X (d + 1) zm_227 66 [(0, .ref 58), (1, .int x1), (2, .long x2), (4, .long x4), (6, .int x6), (7, .int x7), (8, .int x8)] (v.toList ++ [.ref 42]) h' Q))) : zz_J zp_P zt_tf zt_fd X (d + 1) zm_227 63 [(0, .ref 58), (1, .int x1), (2, .long x2), (4, .long x4), (6, .int x6), (7, .int x7), (8, .int x8)] [.long y4, .long y3, .int y2, .ref 58, .ref 42] h Q := by
  refine zz_J.cv 66 (as := [.ref 42]) rfl rfl (hR.clO ko_58 (by decide) (by decide)) (by decide) (Nat.le_of_ble_eq_true rfl) (Nat.le_of_ble_eq_true rfl) rfl (Nat.le_of_ble_eq_true rfl) rfl ?_
  refine zz_J.mono (k hR) ?_
  intro o h' hE
  cases o with
  | inl v => exact zz_J.weak hE rfl ⟨rfl, rfl, rfl, rfl, rfl, rfl, rfl, trivial⟩
  | inr q => exact hE
theorem cb_227_66 {X : Nat → Option zz_C} {h : zz_H} {t : cS} {s : mS} {d : Nat} {Q : zz_O → zz_H → Prop} {x1 : Int32} {x2 : Int64} {x4 : Int64} {x6 : Int32} {x7 : Int32} {x8 : Int32} {y1 : Int64} (hR : kR h t s) (k : ∀ {h : zz_H}, kR h t s → zz_J zp_P zt_tf zt_fd X d zm_123 0 [(0, .ref 42), (1, .long y1)] [] h (zz_after 2 Q (fun v h' => zz_J zp_P zt_tf zt_fd X (d + 1) zm_227 69 [(0, .ref 58), (1, .int x1), (2, .long x2), (4, .long x4), (6, .int x6), (7, .int x7), (8, .int x8)] (v.toList ++ []) h' Q))) : zz_J zp_P zt_tf zt_fd X (d + 1) zm_227 66 [(0, .ref 58), (1, .int x1), (2, .long x2), (4, .long x4), (6, .int x6), (7, .int x7), (8, .int x8)] [.long y1, .ref 42] h Q := by
  refine zz_J.cv 69 (as := []) rfl rfl (hR.clO ko_42 (by decide) (by decide)) (by decide) (Nat.le_of_ble_eq_true rfl) (Nat.le_of_ble_eq_true rfl) rfl (Nat.le_of_ble_eq_true rfl) rfl ?_
  refine zz_J.mono (k hR) ?_
  intro o h' hE
  cases o with
  | inl v => exact zz_J.weak hE rfl ⟨rfl, rfl, rfl, rfl, rfl, rfl, rfl, trivial⟩
  | inr q => exact hE
theorem cb_227_69 {X : Nat → Option zz_C} {h : zz_H} {t : cS} {s : mS} {d : Nat} {Q : zz_O → zz_H → Prop} {x1 : Int32} {x2 : Int64} {x4 : Int64} {x6 : Int32} {x7 : Int32} {x8 : Int32} (hR : kR h t s) (k : ∀ {h : zz_H}, kR h t s → zz_J zp_P zt_tf zt_fd X d zm_227 35 [(0, .ref 58), (1, .int x1), (2, .long x2), (4, .long x4), (6, .int x6), (7, .int x7), (8, .int (x8 + 1))] [] h Q) : zz_J zp_P zt_tf zt_fd X d zm_227 69 [(0, .ref 58), (1, .int x1), (2, .long x2), (4, .long x4), (6, .int x6), (7, .int x7), (8, .int x8)] [] h Q := by
  refine zz_J.n 72 rfl rfl rfl ?_
  refine zz_J.n 35 rfl rfl rfl ?_
  exact zz_J.weak (k hR) rfl ⟨rfl, rfl, rfl, rfl, rfl, rfl, rfl, trivial⟩
theorem cb_227_75 {X : Nat → Option zz_C} {h : zz_H} {t : cS} {s : mS} {d : Nat} {Q : zz_O → zz_H → Prop} {x7 : Int32} (hR : kR h t s) (k : ∀ {h : zz_H}, kR h t s → zz_J zp_P zt_tf zt_fd X d zm_126 0 [(0, .ref 42), (1, .int 2), (2, .int x7)] [] h (zz_after 2 Q (fun v h' => zz_J zp_P zt_tf zt_fd X (d + 1) zm_227 85 [] (v.toList ++ []) h' Q))) : zz_J zp_P zt_tf zt_fd X (d + 1) zm_227 75 [(0, .ref 58), (7, .int x7)] [] h Q := by
  refine zz_J.n 76 rfl rfl rfl ?_
  refine zz_J.g 79 rfl (hR.gv (v := .ref 42) ko_58 (by decide) rfl) rfl ?_
  refine zz_J.c 80 (.int 2) rfl rfl rfl rfl ?_
  refine zz_J.n 82 rfl rfl rfl ?_
  refine zz_J.cv 85 (as := []) rfl rfl (hR.clO ko_42 (by decide) (by decide)) (by decide) (Nat.le_of_ble_eq_true rfl) (Nat.le_of_ble_eq_true rfl) rfl (Nat.le_of_ble_eq_true rfl) rfl ?_
  refine zz_J.mono (k hR) ?_
  intro o h' hE
  cases o with
  | inl v => exact zz_J.weak hE rfl trivial
  | inr q => exact hE
theorem cb_227_85 {X : Nat → Option zz_C} {h : zz_H} {t : cS} {s : mS} {d : Nat} {Q : zz_O → zz_H → Prop} {y0 : Int64} (hR : kR h t s) (k : ∀ {h : zz_H}, kR h t s → Q (.inl (some (.long y0))) h) : zz_J zp_P zt_tf zt_fd X d zm_227 85 [] [.long y0] h Q := by
  refine zz_J.ret rfl rfl rfl ?_
  exact k hR
def cf_227_85 (N : Nat) (X : Nat → Option zz_C) (y0 : Int64) (t : cS) : kO := some (t, .inl (some (.long y0)))
theorem cr_227_85 {X : Nat → Option zz_C} {s : mS} {N : Nat} {d : Nat} (hd : 11 ≤ d) {Q : zz_O → zz_H → Prop} {y0 : Int64} {h : zz_H} {t t' : cS} {o : kY} (hR : kR h t s) (hf : cf_227_85 N X y0 t = some (t', o)) (k : (∀ h', kR h' t' s → kE o Q h')) : zz_J zp_P zt_tf zt_fd X d zm_227 85 [] [.long y0] h Q := by
  unfold cf_227_85 at hf
  cases hf
  exact cb_227_85 hR  (fun {h} hR => k h hR)
def cf_227_75 (N : Nat) (X : Nat → Option zz_C) (x7 : Int32) (t : cS) : kO := ko_call 2 (cf_126 N X 2 x7 t) (fun g1 v1 => co_l v1 (fun y => cf_227_85 N X y g1))
theorem cr_227_75 {X : Nat → Option zz_C} {s : mS} {N : Nat} {d : Nat} (hd : 11 ≤ d) {Q : zz_O → zz_H → Prop} {x7 : Int32} {h : zz_H} {t t' : cS} {o : kY} (hR : kR h t s) (hf : cf_227_75 N X x7 t = some (t', o)) (k : (∀ h', kR h' t' s → kE o Q h')) : zz_J zp_P zt_tf zt_fd X d zm_227 75 [(0, .ref 58), (7, .int x7)] [] h Q := by
  unfold cf_227_75 at hf
  obtain ⟨d', rfl⟩ : ∃ d', d = d' + 1 := ⟨d - 1, by omega⟩
  refine cb_227_75 hR  (fun {h} hR => ?_)
  rcases ko_call_ok hf with ⟨g1, v1, er, hf⟩ | ⟨g1, er, hq⟩
  · obtain ⟨y, hv, hf2⟩ := co_l_ok hf
    clear hf
    have hf := hf2
    clear hf2
    subst hv
    refine cr_126 (by omega) hR er (fun h hR => ?_)
    exact cr_227_85 hd hR hf k
  · refine cr_126 (by omega) hR er (fun h hR => ?_)
    exact ko_thrown hq hR k
def cf_227_69 (N : Nat) (X : Nat → Option zz_C) (rc : Nat → Int32 → Int64 → Int64 → Int32 → Int32 → Int32 → cS → kO) (x1 : Int32) (x2 : Int64) (x4 : Int64) (x6 : Int32) (x7 : Int32) (x8 : Int32) (t : cS) : kO := rc 0 x1 x2 x4 x6 x7 (x8 + 1) t
theorem cr_227_69 {X : Nat → Option zz_C} {s : mS} {N : Nat} {d : Nat} (hd : 11 ≤ d) {rc : Nat → Int32 → Int64 → Int64 → Int32 → Int32 → Int32 → cS → kO} (hrc0 : ∀ {Q : zz_O → zz_H → Prop} {x1 : Int32} {x2 : Int64} {x4 : Int64} {x6 : Int32} {x7 : Int32} {x8 : Int32} {h : zz_H} {t t' : cS} {o : kY}, kR h t s → rc 0 x1 x2 x4 x6 x7 x8 t = some (t', o) → (∀ h', kR h' t' s → kE o Q h') → zz_J zp_P zt_tf zt_fd X d zm_227 35 [(0, .ref 58), (1, .int x1), (2, .long x2), (4, .long x4), (6, .int x6), (7, .int x7), (8, .int x8)] [] h Q) {Q : zz_O → zz_H → Prop} {x1 : Int32} {x2 : Int64} {x4 : Int64} {x6 : Int32} {x7 : Int32} {x8 : Int32} {h : zz_H} {t t' : cS} {o : kY} (hR : kR h t s) (hf : cf_227_69 N X rc x1 x2 x4 x6 x7 x8 t = some (t', o)) (k : (∀ h', kR h' t' s → kE o Q h')) : zz_J zp_P zt_tf zt_fd X d zm_227 69 [(0, .ref 58), (1, .int x1), (2, .long x2), (4, .long x4), (6, .int x6), (7, .int x7), (8, .int x8)] [] h Q := by
  unfold cf_227_69 at hf
  exact cb_227_69 hR  (fun hR => hrc0 hR hf k)
def cf_227_66 (N : Nat) (X : Nat → Option zz_C) (rc : Nat → Int32 → Int64 → Int64 → Int32 → Int32 → Int32 → cS → kO) (x1 : Int32) (x2 : Int64) (x4 : Int64) (x6 : Int32) (x7 : Int32) (x8 : Int32) (y1 : Int64) (t : cS) : kO := ko_call 2 (cf_123 N X y1 t) (fun g1 v1 => co_v v1 (cf_227_69 N X rc x1 x2 x4 x6 x7 x8 g1))
theorem cr_227_66 {X : Nat → Option zz_C} {s : mS} {N : Nat} {d : Nat} (hd : 11 ≤ d) {rc : Nat → Int32 → Int64 → Int64 → Int32 → Int32 → Int32 → cS → kO} (hrc0 : ∀ {Q : zz_O → zz_H → Prop} {x1 : Int32} {x2 : Int64} {x4 : Int64} {x6 : Int32} {x7 : Int32} {x8 : Int32} {h : zz_H} {t t' : cS} {o : kY}, kR h t s → rc 0 x1 x2 x4 x6 x7 x8 t = some (t', o) → (∀ h', kR h' t' s → kE o Q h') → zz_J zp_P zt_tf zt_fd X d zm_227 35 [(0, .ref 58), (1, .int x1), (2, .long x2), (4, .long x4), (6, .int x6), (7, .int x7), (8, .int x8)] [] h Q) {Q : zz_O → zz_H → Prop} {x1 : Int32} {x2 : Int64} {x4 : Int64} {x6 : Int32} {x7 : Int32} {x8 : Int32} {y1 : Int64} {h : zz_H} {t t' : cS} {o : kY} (hR : kR h t s) (hf : cf_227_66 N X rc x1 x2 x4 x6 x7 x8 y1 t = some (t', o)) (k : (∀ h', kR h' t' s → kE o Q h')) : zz_J zp_P zt_tf zt_fd X d zm_227 66 [(0, .ref 58), (1, .int x1), (2, .long x2), (4, .long x4), (6, .int x6), (7, .int x7), (8, .int x8)] [.long y1, .ref 42] h Q := by
  unfold cf_227_66 at hf
  obtain ⟨d', rfl⟩ : ∃ d', d = d' + 1 := ⟨d - 1, by omega⟩
  refine cb_227_66 hR  (fun {h} hR => ?_)
  rcases ko_call_ok hf with ⟨g1, v1, er, hf⟩ | ⟨g1, er, hq⟩
  · obtain ⟨hv, hf2⟩ := co_v_ok hf
    clear hf
    have hf := hf2
    clear hf2
    subst hv
    refine cr_123 (by omega) hR er (fun h hR => ?_)
    exact cr_227_69 hd hrc0 hR hf k
  · refine cr_123 (by omega) hR er (fun h hR => ?_)
    exact ko_thrown hq hR k
def cf_227_63 (N : Nat) (X : Nat → Option zz_C) (rc : Nat → Int32 → Int64 → Int64 → Int32 → Int32 → Int32 → cS → kO) (x1 : Int32) (x2 : Int64) (x4 : Int64) (x6 : Int32) (x7 : Int32) (x8 : Int32) (y2 : Int32) (y3 : Int64) (y4 : Int64) (t : cS) : kO := ko_call 8 (cf_228 N X y2 y3 y4 t) (fun g1 v1 => co_l v1 (fun y => cf_227_66 N X rc x1 x2 x4 x6 x7 x8 y g1))
theorem cr_227_63 {X : Nat → Option zz_C} {s : mS} {N : Nat} {d : Nat} (hd : 11 ≤ d) {rc : Nat → Int32 → Int64 → Int64 → Int32 → Int32 → Int32 → cS → kO} (hrc0 : ∀ {Q : zz_O → zz_H → Prop} {x1 : Int32} {x2 : Int64} {x4 : Int64} {x6 : Int32} {x7 : Int32} {x8 : Int32} {h : zz_H} {t t' : cS} {o : kY}, kR h t s → rc 0 x1 x2 x4 x6 x7 x8 t = some (t', o) → (∀ h', kR h' t' s → kE o Q h') → zz_J zp_P zt_tf zt_fd X d zm_227 35 [(0, .ref 58), (1, .int x1), (2, .long x2), (4, .long x4), (6, .int x6), (7, .int x7), (8, .int x8)] [] h Q) {Q : zz_O → zz_H → Prop} {x1 : Int32} {x2 : Int64} {x4 : Int64} {x6 : Int32} {x7 : Int32} {x8 : Int32} {y2 : Int32} {y3 : Int64} {y4 : Int64} {h : zz_H} {t t' : cS} {o : kY} (hR : kR h t s) (hf : cf_227_63 N X rc x1 x2 x4 x6 x7 x8 y2 y3 y4 t = some (t', o)) (k : (∀ h', kR h' t' s → kE o Q h')) : zz_J zp_P zt_tf zt_fd X d zm_227 63 [(0, .ref 58), (1, .int x1), (2, .long x2), (4, .long x4), (6, .int x6), (7, .int x7), (8, .int x8)] [.long y4, .long y3, .int y2, .ref 58, .ref 42] h Q := by
  unfold cf_227_63 at hf
  obtain ⟨d', rfl⟩ : ∃ d', d = d' + 1 := ⟨d - 1, by omega⟩
  refine cb_227_63 hR  (fun {h} hR => ?_)
  rcases ko_call_ok hf with ⟨g1, v1, er, hf⟩ | ⟨g1, er, hq⟩
  · obtain ⟨y, hv, hf2⟩ := co_l_ok hf
    clear hf
    have hf := hf2
    clear hf2
    subst hv
    refine cr_228 (by omega) hR er (fun h hR => ?_)
    exact cr_227_66 hd hrc0 hR hf k
  · refine cr_228 (by omega) hR er (fun h hR => ?_)
    exact ko_thrown hq hR k
def cf_227_55 (N : Nat) (X : Nat → Option zz_C) (rc : Nat → Int32 → Int64 → Int64 → Int32 → Int32 → Int32 → cS → kO) (x1 : Int32) (x2 : Int64) (x4 : Int64) (x6 : Int32) (x7 : Int32) (x8 : Int32) (y2 : Int32) (y3 : Int64) (t : cS) : kO := ko_call 8 (cf_229 N X x4 x8 t) (fun g1 v1 => co_l v1 (fun y => cf_227_63 N X rc x1 x2 x4 x6 x7 x8 y2 y3 y g1))
theorem cr_227_55 {X : Nat → Option zz_C} {s : mS} {N : Nat} {d : Nat} (hd : 11 ≤ d) {rc : Nat → Int32 → Int64 → Int64 → Int32 → Int32 → Int32 → cS → kO} (hrc0 : ∀ {Q : zz_O → zz_H → Prop} {x1 : Int32} {x2 : Int64} {x4 : Int64} {x6 : Int32} {x7 : Int32} {x8 : Int32} {h : zz_H} {t t' : cS} {o : kY}, kR h t s → rc 0 x1 x2 x4 x6 x7 x8 t = some (t', o) → (∀ h', kR h' t' s → kE o Q h') → zz_J zp_P zt_tf zt_fd X d zm_227 35 [(0, .ref 58), (1, .int x1), (2, .long x2), (4, .long x4), (6, .int x6), (7, .int x7), (8, .int x8)] [] h Q) {Q : zz_O → zz_H → Prop} {x1 : Int32} {x2 : Int64} {x4 : Int64} {x6 : Int32} {x7 : Int32} {x8 : Int32} {y2 : Int32} {y3 : Int64} {h : zz_H} {t t' : cS} {o : kY} (hR : kR h t s) (hf : cf_227_55 N X rc x1 x2 x4 x6 x7 x8 y2 y3 t = some (t', o)) (k : (∀ h', kR h' t' s → kE o Q h')) : zz_J zp_P zt_tf zt_fd X d zm_227 55 [(0, .ref 58), (1, .int x1), (2, .long x2), (4, .long x4), (6, .int x6), (7, .int x7), (8, .int x8)] [.long y3, .int y2, .ref 58, .ref 42] h Q := by
  unfold cf_227_55 at hf
  obtain ⟨d', rfl⟩ : ∃ d', d = d' + 1 := ⟨d - 1, by omega⟩
  refine cb_227_55 hR  (fun {h} hR => ?_)
  rcases ko_call_ok hf with ⟨g1, v1, er, hf⟩ | ⟨g1, er, hq⟩
  · obtain ⟨y, hv, hf2⟩ := co_l_ok hf
    clear hf
    have hf := hf2
    clear hf2
    subst hv
    refine cr_229 (by omega) hR er (fun h hR => ?_)
    exact cr_227_63 hd hrc0 hR hf k
  · refine cr_229 (by omega) hR er (fun h hR => ?_)
    exact ko_thrown hq hR k
def cf_227_42 (N : Nat) (X : Nat → Option zz_C) (rc : Nat → Int32 → Int64 → Int64 → Int32 → Int32 → Int32 → cS → kO) (x1 : Int32) (x2 : Int64) (x4 : Int64) (x6 : Int32) (x7 : Int32) (x8 : Int32) (t : cS) : kO := ko_call 8 (cf_229 N X x2 x8 t) (fun g1 v1 => co_l v1 (fun y => cf_227_55 N X rc x1 x2 x4 x6 x7 x8 x1 y g1))
theorem cr_227_42 {X : Nat → Option zz_C} {s : mS} {N : Nat} {d : Nat} (hd : 11 ≤ d) {rc : Nat → Int32 → Int64 → Int64 → Int32 → Int32 → Int32 → cS → kO} (hrc0 : ∀ {Q : zz_O → zz_H → Prop} {x1 : Int32} {x2 : Int64} {x4 : Int64} {x6 : Int32} {x7 : Int32} {x8 : Int32} {h : zz_H} {t t' : cS} {o : kY}, kR h t s → rc 0 x1 x2 x4 x6 x7 x8 t = some (t', o) → (∀ h', kR h' t' s → kE o Q h') → zz_J zp_P zt_tf zt_fd X d zm_227 35 [(0, .ref 58), (1, .int x1), (2, .long x2), (4, .long x4), (6, .int x6), (7, .int x7), (8, .int x8)] [] h Q) {Q : zz_O → zz_H → Prop} {x1 : Int32} {x2 : Int64} {x4 : Int64} {x6 : Int32} {x7 : Int32} {x8 : Int32} {h : zz_H} {t t' : cS} {o : kY} (hR : kR h t s) (hf : cf_227_42 N X rc x1 x2 x4 x6 x7 x8 t = some (t', o)) (k : (∀ h', kR h' t' s → kE o Q h')) : zz_J zp_P zt_tf zt_fd X d zm_227 42 [(0, .ref 58), (1, .int x1), (2, .long x2), (4, .long x4), (6, .int x6), (7, .int x7), (8, .int x8)] [] h Q := by
  unfold cf_227_42 at hf
  obtain ⟨d', rfl⟩ : ∃ d', d = d' + 1 := ⟨d - 1, by omega⟩
  refine cb_227_42 hR  (fun {h} hR => ?_)
  rcases ko_call_ok hf with ⟨g1, v1, er, hf⟩ | ⟨g1, er, hq⟩
  · obtain ⟨y, hv, hf2⟩ := co_l_ok hf
    clear hf
    have hf := hf2
    clear hf2
    subst hv
    refine cr_229 (by omega) hR er (fun h hR => ?_)
    exact cr_227_55 hd hrc0 hR hf k
  · refine cr_229 (by omega) hR er (fun h hR => ?_)
    exact ko_thrown hq hR k
def cf_227_35 (N : Nat) (X : Nat → Option zz_C) (rc : Nat → Int32 → Int64 → Int64 → Int32 → Int32 → Int32 → cS → kO) (x1 : Int32) (x2 : Int64) (x4 : Int64) (x6 : Int32) (x7 : Int32) (x8 : Int32) (t : cS) : kO := if x6 ≤ x8 then cf_227_75 N X x7 t else cf_227_42 N X rc x1 x2 x4 x6 x7 x8 t
theorem cr_227_35 {X : Nat → Option zz_C} {s : mS} {N : Nat} {d : Nat} (hd : 11 ≤ d) {rc : Nat → Int32 → Int64 → Int64 → Int32 → Int32 → Int32 → cS → kO} (hrc0 : ∀ {Q : zz_O → zz_H → Prop} {x1 : Int32} {x2 : Int64} {x4 : Int64} {x6 : Int32} {x7 : Int32} {x8 : Int32} {h : zz_H} {t t' : cS} {o : kY}, kR h t s → rc 0 x1 x2 x4 x6 x7 x8 t = some (t', o) → (∀ h', kR h' t' s → kE o Q h') → zz_J zp_P zt_tf zt_fd X d zm_227 35 [(0, .ref 58), (1, .int x1), (2, .long x2), (4, .long x4), (6, .int x6), (7, .int x7), (8, .int x8)] [] h Q) {Q : zz_O → zz_H → Prop} {x1 : Int32} {x2 : Int64} {x4 : Int64} {x6 : Int32} {x7 : Int32} {x8 : Int32} {h : zz_H} {t t' : cS} {o : kY} (hR : kR h t s) (hf : cf_227_35 N X rc x1 x2 x4 x6 x7 x8 t = some (t', o)) (k : (∀ h', kR h' t' s → kE o Q h')) : zz_J zp_P zt_tf zt_fd X d zm_227 35 [(0, .ref 58), (1, .int x1), (2, .long x2), (4, .long x4), (6, .int x6), (7, .int x7), (8, .int x8)] [] h Q := by
  unfold cf_227_35 at hf
  refine cb_227_35 hR  (fun c {h} hR => ?_) (fun c {h} hR => ?_)
  · rw [if_pos c] at hf
    exact cr_227_75 hd hR hf k
  · rw [if_neg c] at hf
    exact cr_227_42 hd hrc0 hR hf k
def cf_227_L2 (N : Nat) (X : Nat → Option zz_C) : Nat → Nat → Int32 → Int64 → Int64 → Int32 → Int32 → Int32 → cS → kO
  | 0, _, _, _, _, _, _, _, _ => none
  | n + 1, l, x1, x2, x4, x6, x7, x8, t => if l = 0 then cf_227_35 N X (cf_227_L2 N X n) x1 x2 x4 x6 x7 x8 t else none
theorem cr_227_L2 {X : Nat → Option zz_C} {s : mS} {N : Nat} {d : Nat} (hd : 11 ≤ d) : ∀ n : Nat, (∀ {Q : zz_O → zz_H → Prop} {x1 : Int32} {x2 : Int64} {x4 : Int64} {x6 : Int32} {x7 : Int32} {x8 : Int32} {h : zz_H} {t t' : cS} {o : kY}, kR h t s → cf_227_L2 N X n 0 x1 x2 x4 x6 x7 x8 t = some (t', o) → (∀ h', kR h' t' s → kE o Q h') → zz_J zp_P zt_tf zt_fd X d zm_227 35 [(0, .ref 58), (1, .int x1), (2, .long x2), (4, .long x4), (6, .int x6), (7, .int x7), (8, .int x8)] [] h Q) := by
  intro n
  induction n with
  | zero => exact (fun _ hf _ => by cases hf)
  | succ n ih =>
    have h0 := @ih
    intro Q _ _ _ _ _ _ h t t' o hR hf k
    unfold cf_227_L2 at hf
    rw [if_pos rfl] at hf
    exact cr_227_35 hd h0 hR hf k
def cf_227_30 (N : Nat) (X : Nat → Option zz_C) (x1 : Int32) (x2 : Int64) (x4 : Int64) (x6 : Int32) (y0 : Int32) (t : cS) : kO := cf_227_L2 N X N 0 x1 x2 x4 x6 y0 0 t
theorem cr_227_30 {X : Nat → Option zz_C} {s : mS} {N : Nat} {d : Nat} (hd : 11 ≤ d) {Q : zz_O → zz_H → Prop} {x1 : Int32} {x2 : Int64} {x4 : Int64} {x6 : Int32} {y0 : Int32} {h : zz_H} {t t' : cS} {o : kY} (hR : kR h t s) (hf : cf_227_30 N X x1 x2 x4 x6 y0 t = some (t', o)) (k : (∀ h', kR h' t' s → kE o Q h')) : zz_J zp_P zt_tf zt_fd X d zm_227 30 [(0, .ref 58), (1, .int x1), (2, .long x2), (4, .long x4), (6, .int x6)] [.int y0] h Q := by
  unfold cf_227_30 at hf
  exact cb_227_30 hR  (fun hR => cr_227_L2 hd N hR hf k)
def cf_227_21 (N : Nat) (X : Nat → Option zz_C) (x1 : Int32) (x2 : Int64) (x4 : Int64) (y0 : Int32) (t : cS) : kO := ko_call 2 (cf_122 N X  t) (fun g1 v1 => co_i v1 (fun y => cf_227_30 N X x1 x2 x4 y0 y g1))
theorem cr_227_21 {X : Nat → Option zz_C} {s : mS} {N : Nat} {d : Nat} (hd : 11 ≤ d) {Q : zz_O → zz_H → Prop} {x1 : Int32} {x2 : Int64} {x4 : Int64} {y0 : Int32} {h : zz_H} {t t' : cS} {o : kY} (hR : kR h t s) (hf : cf_227_21 N X x1 x2 x4 y0 t = some (t', o)) (k : (∀ h', kR h' t' s → kE o Q h')) : zz_J zp_P zt_tf zt_fd X d zm_227 21 [(0, .ref 58), (1, .int x1), (2, .long x2), (4, .long x4)] [.int y0] h Q := by
  unfold cf_227_21 at hf
  obtain ⟨d', rfl⟩ : ∃ d', d = d' + 1 := ⟨d - 1, by omega⟩
  refine cb_227_21 hR  (fun {h} hR => ?_)
  rcases ko_call_ok hf with ⟨g1, v1, er, hf⟩ | ⟨g1, er, hq⟩
  · obtain ⟨y, hv, hf2⟩ := co_i_ok hf
    clear hf
    have hf := hf2
    clear hf2
    subst hv
    refine cr_122 (by omega) hR er (fun h hR => ?_)
    exact cr_227_30 hd hR hf k
  · refine cr_122 (by omega) hR er (fun h hR => ?_)
    exact ko_thrown hq hR k
def cf_227_18 (N : Nat) (X : Nat → Option zz_C) (x1 : Int32) (x2 : Int64) (x4 : Int64) (y1 : Int64) (t : cS) : kO := ko_call 2 (cf_128 N X y1 t) (fun g1 v1 => co_i v1 (fun y => cf_227_21 N X x1 x2 x4 y g1))
theorem cr_227_18 {X : Nat → Option zz_C} {s : mS} {N : Nat} {d : Nat} (hd : 11 ≤ d) {Q : zz_O → zz_H → Prop} {x1 : Int32} {x2 : Int64} {x4 : Int64} {y1 : Int64} {h : zz_H} {t t' : cS} {o : kY} (hR : kR h t s) (hf : cf_227_18 N X x1 x2 x4 y1 t = some (t', o)) (k : (∀ h', kR h' t' s → kE o Q h')) : zz_J zp_P zt_tf zt_fd X d zm_227 18 [(0, .ref 58), (1, .int x1), (2, .long x2), (4, .long x4)] [.long y1, .ref 42] h Q := by
  unfold cf_227_18 at hf
  obtain ⟨d', rfl⟩ : ∃ d', d = d' + 1 := ⟨d - 1, by omega⟩
  refine cb_227_18 hR  (fun {h} hR => ?_)
  rcases ko_call_ok hf with ⟨g1, v1, er, hf⟩ | ⟨g1, er, hq⟩
  · obtain ⟨y, hv, hf2⟩ := co_i_ok hf
    clear hf
    have hf := hf2
    clear hf2
    subst hv
    refine cr_128 (by omega) hR er (fun h hR => ?_)
    exact cr_227_21 hd hR hf k
  · refine cr_128 (by omega) hR er (fun h hR => ?_)
    exact ko_thrown hq hR k
def cf_227_16 (N : Nat) (X : Nat → Option zz_C) (x1 : Int32) (x2 : Int64) (x4 : Int64) (t : cS) : kO := cf_227_18 N X x1 x2 x4 x4 t
theorem cr_227_16 {X : Nat → Option zz_C} {s : mS} {N : Nat} {d : Nat} (hd : 11 ≤ d) {Q : zz_O → zz_H → Prop} {x1 : Int32} {x2 : Int64} {x4 : Int64} {h : zz_H} {t t' : cS} {o : kY} (hR : kR h t s) (hf : cf_227_16 N X x1 x2 x4 t = some (t', o)) (k : (∀ h', kR h' t' s → kE o Q h')) : zz_J zp_P zt_tf zt_fd X d zm_227 16 [(0, .ref 58), (1, .int x1), (2, .long x2), (4, .long x4)] [.ref 42] h Q := by
  unfold cf_227_16 at hf
  exact cb_227_16 hR  (fun hR => cr_227_18 hd hR hf k)
def cf_227_12 (N : Nat) (X : Nat → Option zz_C) (x1 : Int32) (x2 : Int64) (x4 : Int64) (t : cS) : kO := cf_227_18 N X x1 x2 x4 x2 t
theorem cr_227_12 {X : Nat → Option zz_C} {s : mS} {N : Nat} {d : Nat} (hd : 11 ≤ d) {Q : zz_O → zz_H → Prop} {x1 : Int32} {x2 : Int64} {x4 : Int64} {h : zz_H} {t t' : cS} {o : kY} (hR : kR h t s) (hf : cf_227_12 N X x1 x2 x4 t = some (t', o)) (k : (∀ h', kR h' t' s → kE o Q h')) : zz_J zp_P zt_tf zt_fd X d zm_227 12 [(0, .ref 58), (1, .int x1), (2, .long x2), (4, .long x4)] [.ref 42] h Q := by
  unfold cf_227_12 at hf
  exact cb_227_12 hR  (fun hR => cr_227_18 hd hR hf k)
def cf_227_8 (N : Nat) (X : Nat → Option zz_C) (x1 : Int32) (x2 : Int64) (x4 : Int64) (y1 : Int32) (t : cS) : kO := if ¬ y1 = 2 then cf_227_16 N X x1 x2 x4 t else cf_227_12 N X x1 x2 x4 t
theorem cr_227_8 {X : Nat → Option zz_C} {s : mS} {N : Nat} {d : Nat} (hd : 11 ≤ d) {Q : zz_O → zz_H → Prop} {x1 : Int32} {x2 : Int64} {x4 : Int64} {y1 : Int32} {h : zz_H} {t t' : cS} {o : kY} (hR : kR h t s) (hf : cf_227_8 N X x1 x2 x4 y1 t = some (t', o)) (k : (∀ h', kR h' t' s → kE o Q h')) : zz_J zp_P zt_tf zt_fd X d zm_227 8 [(0, .ref 58), (1, .int x1), (2, .long x2), (4, .long x4)] [.int y1, .ref 42] h Q := by
  unfold cf_227_8 at hf
  refine cb_227_8 hR  (fun c {h} hR => ?_) (fun c {h} hR => ?_)
  · rw [if_pos c] at hf
    exact cr_227_16 hd hR hf k
  · rw [if_neg c] at hf
    exact cr_227_12 hd hR hf k
def cf_227_0 (N : Nat) (X : Nat → Option zz_C) (x1 : Int32) (x2 : Int64) (x4 : Int64) (t : cS) : kO := ko_call 1000 (cf_255 N X x2 t) (fun g1 v1 => co_i v1 (fun y => cf_227_8 N X x1 x2 x4 y g1))
theorem cr_227_0 {X : Nat → Option zz_C} {s : mS} {N : Nat} {d : Nat} (hd : 11 ≤ d) {Q : zz_O → zz_H → Prop} {x1 : Int32} {x2 : Int64} {x4 : Int64} {h : zz_H} {t t' : cS} {o : kY} (hR : kR h t s) (hf : cf_227_0 N X x1 x2 x4 t = some (t', o)) (k : (∀ h', kR h' t' s → kE o Q h')) : zz_J zp_P zt_tf zt_fd X d zm_227 0 [(0, .ref 58), (1, .int x1), (2, .long x2), (4, .long x4)] [] h Q := by
  unfold cf_227_0 at hf
  obtain ⟨d', rfl⟩ : ∃ d', d = d' + 1 := ⟨d - 1, by omega⟩
  refine cb_227_0 hR  (fun {h} hR => ?_)
  rcases ko_call_ok hf with ⟨g1, v1, er, hf⟩ | ⟨g1, er, hq⟩
  · obtain ⟨y, hv, hf2⟩ := co_i_ok hf
    clear hf
    have hf := hf2
    clear hf2
    subst hv
    refine cr_255 (by omega) hR er (fun h hR => ?_)
    exact cr_227_8 hd hR hf k
  · refine cr_255 (by omega) hR er (fun h hR => ?_)
    exact ko_thrown hq hR k
/-- tables -/
def cf_227 (N : Nat) (X : Nat → Option zz_C) (x1 : Int32) (x2 : Int64) (x4 : Int64) (t : cS) : kO := cf_227_0 N X x1 x2 x4 t
theorem cr_227 {X : Nat → Option zz_C} {s : mS} {N : Nat} {d : Nat} (hd : 11 ≤ d) {Q : zz_O → zz_H → Prop} {x1 : Int32} {x2 : Int64} {x4 : Int64} {h : zz_H} {t t' : cS} {o : kY} (hR : kR h t s) (hf : cf_227 N X x1 x2 x4 t = some (t', o)) (k : ∀ h', kR h' t' s → kE o Q h') : zz_J zp_P zt_tf zt_fd X d zm_227 0 [(0, .ref 58), (1, .int x1), (2, .long x2), (4, .long x4)] [] h Q := by
  unfold cf_227 at hf
  exact zz_J.weak (cr_227_0 hd hR hf k) rfl ⟨rfl, rfl, rfl, rfl, trivial⟩
/-! yX8_two (IJJ)J -/
theorem cb_222_0 {X : Nat → Option zz_C} {h : zz_H} {t : cS} {s : mS} {d : Nat} {Q : zz_O → zz_H → Prop} {x1 : Int32} {x2 : Int64} {x4 : Int64} (hR : kR h t s) (k : ∀ {h : zz_H}, kR h t s → zz_J zp_P zt_tf zt_fd X d zm_255 0 [(0, .long x2)] [] h (zz_after 1000 Q (fun v h' => zz_J zp_P zt_tf zt_fd X (d + 1) zm_222 4 [(0, .ref 58), (1, .int x1), (2, .long x2), (4, .long x4)] (v.toList ++ []) h' Q))) : zz_J zp_P zt_tf zt_fd X (d + 1) zm_222 0 [(0, .ref 58), (1, .int x1), (2, .long x2), (4, .long x4)] [] h Q := by
  refine zz_J.n 1 rfl rfl rfl ?_
  refine zz_J.cl (M' := zm_255) 4 rfl rfl (by decide) rfl rfl ⟨rfl, Nat.le_of_ble_eq_true rfl⟩ rfl ?_
  refine zz_J.mono (k hR) ?_
  intro o h' hE
  cases o with
  | inl v => exact zz_J.weak hE rfl ⟨rfl, rfl, rfl, rfl, trivial⟩
  | inr q => exact hE
theorem cb_222_4 {X : Nat → Option zz_C} {h : zz_H} {t : cS} {s : mS} {d : Nat} {Q : zz_O → zz_H → Prop} {x1 : Int32} {x2 : Int64} {x4 : Int64} {y0 : Int32} (hR : kR h t s) (k1 : y0 = 3 → (∀ {h : zz_H}, kR h t s → zz_J zp_P zt_tf zt_fd X d zm_222 17 [] [] h Q)) (k2 : ¬ y0 = 3 → (∀ {h : zz_H}, kR h t s → zz_J zp_P zt_tf zt_fd X d zm_222 8 [(0, .ref 58), (1, .int x1), (2, .long x2), (4, .long x4)] [] h Q)) : zz_J zp_P zt_tf zt_fd X d zm_222 4 [(0, .ref 58), (1, .int x1), (2, .long x2), (4, .long x4)] [.int y0] h Q := by
  refine zz_J.c 5 (.int 3) rfl rfl rfl rfl ?_
  refine zz_J.b2 17 8 (A := y0 = 3) rfl rfl (by decide) rfl rfl (fun c => ?_) (fun c => ?_)
  · exact zz_J.weak (k1 c hR) rfl trivial
  · exact zz_J.weak (k2 c hR) rfl ⟨rfl, rfl, rfl, rfl, trivial⟩
theorem cb_222_8 {X : Nat → Option zz_C} {h : zz_H} {t : cS} {s : mS} {d : Nat} {Q : zz_O → zz_H → Prop} {x1 : Int32} {x2 : Int64} {x4 : Int64} (hR : kR h t s) (k : ∀ {h : zz_H}, kR h t s → zz_J zp_P zt_tf zt_fd X d zm_255 0 [(0, .long x4)] [] h (zz_after 1000 Q (fun v h' => zz_J zp_P zt_tf zt_fd X (d + 1) zm_222 13 [(0, .ref 58), (1, .int x1), (2, .long x2), (4, .long x4)] (v.toList ++ []) h' Q))) : zz_J zp_P zt_tf zt_fd X (d + 1) zm_222 8 [(0, .ref 58), (1, .int x1), (2, .long x2), (4, .long x4)] [] h Q := by
  refine zz_J.n 10 rfl rfl rfl ?_
  refine zz_J.cl (M' := zm_255) 13 rfl rfl (by decide) rfl rfl ⟨rfl, Nat.le_of_ble_eq_true rfl⟩ rfl ?_
  refine zz_J.mono (k hR) ?_
  intro o h' hE
  cases o with
  | inl v => exact zz_J.weak hE rfl ⟨rfl, rfl, rfl, rfl, trivial⟩
  | inr q => exact hE
theorem cb_222_13 {X : Nat → Option zz_C} {h : zz_H} {t : cS} {s : mS} {d : Nat} {Q : zz_O → zz_H → Prop} {x1 : Int32} {x2 : Int64} {x4 : Int64} {y0 : Int32} (hR : kR h t s) (k1 : ¬ y0 = 3 → (∀ {h : zz_H}, kR h t s → zz_J zp_P zt_tf zt_fd X d zm_222 22 [(0, .ref 58), (1, .int x1), (2, .long x2), (4, .long x4)] [] h Q)) (k2 : ¬ ¬ y0 = 3 → (∀ {h : zz_H}, kR h t s → zz_J zp_P zt_tf zt_fd X d zm_222 17 [] [] h Q)) : zz_J zp_P zt_tf zt_fd X d zm_222 13 [(0, .ref 58), (1, .int x1), (2, .long x2), (4, .long x4)] [.int y0] h Q := by
  refine zz_J.c 14 (.int 3) rfl rfl rfl rfl ?_
  refine zz_J.b2 22 17 (A := ¬ y0 = 3) rfl (zz_cond_ne _ _) (by decide) rfl rfl (fun c => ?_) (fun c => ?_)
  · exact zz_J.weak (k1 c hR) rfl ⟨rfl, rfl, rfl, rfl, trivial⟩
  · exact zz_J.weak (k2 c hR) rfl trivial
theorem cb_222_17 {X : Nat → Option zz_C} {h : zz_H} {t : cS} {s : mS} {d : Nat} {Q : zz_O → zz_H → Prop}  (hR : kR h t s) (k : ∀ {h : zz_H}, kR h t s → zz_J zp_P zt_tf zt_fd X d zm_254 0 [(0, .int 3)] [] h (zz_after 1000 Q (fun v h' => zz_J zp_P zt_tf zt_fd X (d + 1) zm_222 21 [] (v.toList ++ []) h' Q))) : zz_J zp_P zt_tf zt_fd X (d + 1) zm_222 17 [] [] h Q := by
  refine zz_J.c 18 (.int 3) rfl rfl rfl rfl ?_
  refine zz_J.cl (M' := zm_254) 21 rfl rfl (by decide) rfl rfl ⟨rfl, Nat.le_of_ble_eq_true rfl⟩ rfl ?_
  refine zz_J.mono (k hR) ?_
  intro o h' hE
  cases o with
  | inl v => exact zz_J.weak hE rfl trivial
  | inr q => exact hE
theorem cb_222_21 {X : Nat → Option zz_C} {h : zz_H} {t : cS} {s : mS} {d : Nat} {Q : zz_O → zz_H → Prop} {y0 : Int64} (hR : kR h t s) (k : ∀ {h : zz_H}, kR h t s → Q (.inl (some (.long y0))) h) : zz_J zp_P zt_tf zt_fd X d zm_222 21 [] [.long y0] h Q := by
  refine zz_J.ret rfl rfl rfl ?_
  exact k hR
theorem cb_222_22 {X : Nat → Option zz_C} {h : zz_H} {t : cS} {s : mS} {d : Nat} {Q : zz_O → zz_H → Prop} {x1 : Int32} {x2 : Int64} {x4 : Int64} (hR : kR h t s) (k : ∀ {h : zz_H}, kR h t s → zz_J zp_P zt_tf zt_fd X d zm_226 0 [(0, .ref 58), (1, .long x2), (3, .long x4)] [] h (zz_after 8 Q (fun v h' => zz_J zp_P zt_tf zt_fd X (d + 1) zm_222 29 [(0, .ref 58), (1, .int x1), (2, .long x2), (4, .long x4)] (v.toList ++ []) h' Q))) : zz_J zp_P zt_tf zt_fd X (d + 1) zm_222 22 [(0, .ref 58), (1, .int x1), (2, .long x2), (4, .long x4)] [] h Q := by
  refine zz_J.n 23 rfl rfl rfl ?_
  refine zz_J.n 24 rfl rfl rfl ?_
  refine zz_J.n 26 rfl rfl rfl ?_
  refine zz_J.cv 29 (as := []) rfl rfl (hR.clO ko_58 (by decide) (by decide)) (by decide) (Nat.le_of_ble_eq_true rfl) (Nat.le_of_ble_eq_true rfl) rfl (Nat.le_of_ble_eq_true rfl) rfl ?_
  refine zz_J.mono (k hR) ?_
  intro o h' hE
  cases o with
  | inl v => exact zz_J.weak hE rfl ⟨rfl, rfl, rfl, rfl, trivial⟩
  | inr q => exact hE
theorem cb_222_29 {X : Nat → Option zz_C} {h : zz_H} {t : cS} {s : mS} {d : Nat} {Q : zz_O → zz_H → Prop} {x1 : Int32} {x2 : Int64} {x4 : Int64} {y0 : Int32} (hR : kR h t s) (k1 : y0 = 0 → (∀ {h : zz_H}, kR h t s → zz_J zp_P zt_tf zt_fd X d zm_222 37 [(0, .ref 58), (1, .int x1), (2, .long x2), (4, .long x4)] [] h Q)) (k2 : ¬ y0 = 0 → (∀ {h : zz_H}, kR h t s → zz_J zp_P zt_tf zt_fd X d zm_222 32 [] [] h Q)) : zz_J zp_P zt_tf zt_fd X d zm_222 29 [(0, .ref 58), (1, .int x1), (2, .long x2), (4, .long x4)] [.int y0] h Q := by
  refine zz_J.b1 37 32 (A := y0 = 0) rfl rfl (by decide) rfl rfl (fun c => ?_) (fun c => ?_)
  · exact zz_J.weak (k1 c hR) rfl ⟨rfl, rfl, rfl, rfl, trivial⟩
  · exact zz_J.weak (k2 c hR) rfl trivial
theorem cb_222_32 {X : Nat → Option zz_C} {h : zz_H} {t : cS} {s : mS} {d : Nat} {Q : zz_O → zz_H → Prop}  (hR : kR h t s) (k : ∀ {h : zz_H}, kR h t s → zz_J zp_P zt_tf zt_fd X d zm_254 0 [(0, .int 4)] [] h (zz_after 1000 Q (fun v h' => zz_J zp_P zt_tf zt_fd X (d + 1) zm_222 36 [] (v.toList ++ []) h' Q))) : zz_J zp_P zt_tf zt_fd X (d + 1) zm_222 32 [] [] h Q := by
  refine zz_J.c 33 (.int 4) rfl rfl rfl rfl ?_
  refine zz_J.cl (M' := zm_254) 36 rfl rfl (by decide) rfl rfl ⟨rfl, Nat.le_of_ble_eq_true rfl⟩ rfl ?_
  refine zz_J.mono (k hR) ?_
  intro o h' hE
  cases o with
  | inl v => exact zz_J.weak hE rfl trivial
  | inr q => exact hE
theorem cb_222_36 {X : Nat → Option zz_C} {h : zz_H} {t : cS} {s : mS} {d : Nat} {Q : zz_O → zz_H → Prop} {y0 : Int64} (hR : kR h t s) (k : ∀ {h : zz_H}, kR h t s → Q (.inl (some (.long y0))) h) : zz_J zp_P zt_tf zt_fd X d zm_222 36 [] [.long y0] h Q := by
  refine zz_J.ret rfl rfl rfl ?_
  exact k hR
theorem cb_222_37 {X : Nat → Option zz_C} {h : zz_H} {t : cS} {s : mS} {d : Nat} {Q : zz_O → zz_H → Prop} {x1 : Int32} {x2 : Int64} {x4 : Int64} (hR : kR h t s) (k : ∀ {h : zz_H}, kR h (jI t 58 1 0) s → zz_J zp_P zt_tf zt_fd X d zm_255 0 [(0, .long x2)] [] h (zz_after 1000 Q (fun v h' => zz_J zp_P zt_tf zt_fd X (d + 1) zm_222 46 [(0, .ref 58), (1, .int x1), (2, .long x2), (4, .long x4)] (v.toList ++ []) h' Q))) : zz_J zp_P zt_tf zt_fd X (d + 1) zm_222 37 [(0, .ref 58), (1, .int x1), (2, .long x2), (4, .long x4)] [] h Q := by
  refine zz_J.n 38 rfl rfl rfl ?_
  refine zz_J.c 39 (.int 0) rfl rfl rfl rfl ?_
  obtain ⟨h1, eq1, hR⟩ := hR.pI (x := (0 : Int32)) (by decide) ko_58 (kpi_58_1 _) (Nat.le_of_ble_eq_true rfl) rfl
  refine zz_J.pv 42 rfl eq1 rfl ?_
  clear eq1
  refine zz_J.n 43 rfl rfl rfl ?_
  refine zz_J.cl (M' := zm_255) 46 rfl rfl (by decide) rfl rfl ⟨rfl, Nat.le_of_ble_eq_true rfl⟩ rfl ?_
  refine zz_J.mono (k hR) ?_
  intro o h' hE
  cases o with
  | inl v => exact zz_J.weak hE rfl ⟨rfl, rfl, rfl, rfl, trivial⟩
  | inr q => exact hE
theorem cb_222_46 {X : Nat → Option zz_C} {h : zz_H} {t : cS} {s : mS} {d : Nat} {Q : zz_O → zz_H → Prop} {x1 : Int32} {x2 : Int64} {x4 : Int64} {y0 : Int32} (hR : kR h t s) (k : ∀ {h : zz_H}, kR h t s → zz_J zp_P zt_tf zt_fd X d zm_255 0 [(0, .long x4)] [] h (zz_after 1000 Q (fun v h' => zz_J zp_P zt_tf zt_fd X (d + 1) zm_222 51 [(0, .ref 58), (1, .int x1), (2, .long x2), (4, .long x4)] (v.toList ++ [.int y0]) h' Q))) : zz_J zp_P zt_tf zt_fd X (d + 1) zm_222 46 [(0, .ref 58), (1, .int x1), (2, .long x2), (4, .long x4)] [.int y0] h Q := by
  refine zz_J.n 48 rfl rfl rfl ?_
  refine zz_J.cl (M' := zm_255) 51 rfl rfl (by decide) rfl rfl ⟨rfl, Nat.le_of_ble_eq_true rfl⟩ rfl ?_
  refine zz_J.mono (k hR) ?_
  intro o h' hE
  cases o with
  | inl v => exact zz_J.weak hE rfl ⟨rfl, rfl, rfl, rfl, trivial⟩
  | inr q => exact hE
theorem cb_222_51 {X : Nat → Option zz_C} {h : zz_H} {t : cS} {s : mS} {d : Nat} {Q : zz_O → zz_H → Prop} {x1 : Int32} {x2 : Int64} {x4 : Int64} {y0 : Int32} {y1 : Int32} (hR : kR h t s) (k1 : ¬ (if (y0 : Int32) < y1 then y1 else y0) = 0 → (∀ {h : zz_H}, kR h t s → zz_J zp_P zt_tf zt_fd X (d + 1) zm_222 82 [(0, .ref 58), (1, .int x1), (2, .long x2), (4, .long x4), (6, .int (if (y0 : Int32) < y1 then y1 else y0))] [] h Q)) (k2 : ¬ ¬ (if (y0 : Int32) < y1 then y1 else y0) = 0 → (∀ {h : zz_H}, kR h t s → zz_J zp_P zt_tf zt_fd X (d + 1) zm_222 61 [(0, .ref 58), (1, .int x1), (2, .long x2), (4, .long x4)] [] h Q)) : zz_J zp_P zt_tf zt_fd X (d + 1) zm_222 51 [(0, .ref 58), (1, .int x1), (2, .long x2), (4, .long x4)] [.int y1, .int y0] h Q := by
  refine zz_J.spec 54 rfl rfl (by decide) rfl rfl rfl ?_
  refine zz_J.n 56 rfl rfl rfl ?_
  refine zz_J.n 58 rfl rfl rfl ?_
  refine zz_J.b1 82 61 (A := ¬ (if (y0 : Int32) < y1 then y1 else y0) = 0) rfl (zz_cond_ne _ _) (by decide) rfl rfl (fun c => ?_) (fun c => ?_)
  · exact zz_J.weak (k1 c hR) rfl ⟨rfl, rfl, rfl, rfl, rfl, trivial⟩
  · exact zz_J.weak (k2 c hR) rfl ⟨rfl, rfl, rfl, rfl, trivial⟩
theorem cb_222_61 {X : Nat → Option zz_C} {h : zz_H} {t : cS} {s : mS} {d : Nat} {Q : zz_O → zz_H → Prop} {x1 : Int32} {x2 : Int64} {x4 : Int64} (hR : kR h t s) (k : ∀ {h : zz_H}, kR h t s → zz_J zp_P zt_tf zt_fd X d zm_256 0 [(0, .long x2)] [] h (zz_after 1000 Q (fun v h' => zz_J zp_P zt_tf zt_fd X (d + 1) zm_222 68 [(0, .ref 58), (4, .long x4)] (v.toList ++ [.int x1, .ref 58, .int 0]) h' Q))) : zz_J zp_P zt_tf zt_fd X (d + 1) zm_222 61 [(0, .ref 58), (1, .int x1), (2, .long x2), (4, .long x4)] [] h Q := by
  refine zz_J.c 62 (.int 0) rfl rfl rfl rfl ?_
  refine zz_J.n 63 rfl rfl rfl ?_
  refine zz_J.n 64 rfl rfl rfl ?_
  refine zz_J.n 65 rfl rfl rfl ?_
  refine zz_J.cl (M' := zm_256) 68 rfl rfl (by decide) rfl rfl ⟨rfl, Nat.le_of_ble_eq_true rfl⟩ rfl ?_
  refine zz_J.mono (k hR) ?_
  intro o h' hE
  cases o with
  | inl v => exact zz_J.weak hE rfl ⟨rfl, rfl, trivial⟩
  | inr q => exact hE
theorem cb_222_68 {X : Nat → Option zz_C} {h : zz_H} {t : cS} {s : mS} {d : Nat} {Q : zz_O → zz_H → Prop} {x4 : Int64} {y0 : Int32} {y2 : Int32} {y3 : Int32} (hR : kR h t s) (k : ∀ {h : zz_H}, kR h t s → zz_J zp_P zt_tf zt_fd X d zm_256 0 [(0, .long x4)] [] h (zz_after 1000 Q (fun v h' => zz_J zp_P zt_tf zt_fd X (d + 1) zm_222 73 [(0, .ref 58)] (v.toList ++ [.int y3, .int y2, .ref 58, .int y0]) h' Q))) : zz_J zp_P zt_tf zt_fd X (d + 1) zm_222 68 [(0, .ref 58), (4, .long x4)] [.int y3, .int y2, .ref 58, .int y0] h Q := by
  refine zz_J.n 70 rfl rfl rfl ?_
  refine zz_J.cl (M' := zm_256) 73 rfl rfl (by decide) rfl rfl ⟨rfl, Nat.le_of_ble_eq_true rfl⟩ rfl ?_
  refine zz_J.mono (k hR) ?_
  intro o h' hE
  cases o with
  | inl v => exact zz_J.weak hE rfl ⟨rfl, trivial⟩
  | inr q => exact hE
theorem cb_222_73 {X : Nat → Option zz_C} {h : zz_H} {t : cS} {s : mS} {d : Nat} {Q : zz_O → zz_H → Prop} {y0 : Int32} {y2 : Int32} {y3 : Int32} {y4 : Int32} (hR : kR h t s) (k : ∀ {h : zz_H}, kR h t s → zz_J zp_P zt_tf zt_fd X d zm_230 0 [(0, .ref 58), (1, .int y2), (2, .int y3), (3, .int y4)] [] h (zz_after 8 Q (fun v h' => zz_J zp_P zt_tf zt_fd X (d + 1) zm_222 76 [(0, .ref 58)] (v.toList ++ [.int y0]) h' Q))) : zz_J zp_P zt_tf zt_fd X (d + 1) zm_222 73 [(0, .ref 58)] [.int y4, .int y3, .int y2, .ref 58, .int y0] h Q := by
  refine zz_J.cv 76 (as := [.int y0]) rfl rfl (hR.clO ko_58 (by decide) (by decide)) (by decide) (Nat.le_of_ble_eq_true rfl) (Nat.le_of_ble_eq_true rfl) rfl (Nat.le_of_ble_eq_true rfl) rfl ?_
  refine zz_J.mono (k hR) ?_
  intro o h' hE
  cases o with
  | inl v => exact zz_J.weak hE rfl ⟨rfl, trivial⟩
  | inr q => exact hE
theorem cb_222_76 {X : Nat → Option zz_C} {h : zz_H} {t : cS} {s : mS} {d : Nat} {Q : zz_O → zz_H → Prop} {y0 : Int32} {y1 : Int32} (hR : kR h t s) (k : ∀ {h : zz_H}, kR h t s → zz_J zp_P zt_tf zt_fd X d zm_253 0 [(0, .int y0), (1, .int y1)] [] h (zz_after 1000 Q (fun v h' => zz_J zp_P zt_tf zt_fd X (d + 1) zm_222 79 [(0, .ref 58)] (v.toList ++ []) h' Q))) : zz_J zp_P zt_tf zt_fd X (d + 1) zm_222 76 [(0, .ref 58)] [.int y1, .int y0] h Q := by
  refine zz_J.cl (M' := zm_253) 79 rfl rfl (by decide) rfl rfl ⟨rfl, Nat.le_of_ble_eq_true rfl⟩ rfl ?_
  refine zz_J.mono (k hR) ?_
  intro o h' hE
  cases o with
  | inl v => exact zz_J.weak hE rfl ⟨rfl, trivial⟩
  | inr q => exact hE
theorem cb_222_79 {X : Nat → Option zz_C} {h : zz_H} {t : cS} {s : mS} {d : Nat} {Q : zz_O → zz_H → Prop} {y0 : Int64} (hR : kR h t s) (k : ∀ {h : zz_H}, kR h t s → zz_J zp_P zt_tf zt_fd X d zm_222 107 [(0, .ref 58)] [.long y0] h Q) : zz_J zp_P zt_tf zt_fd X d zm_222 79 [(0, .ref 58)] [.long y0] h Q := by
  refine zz_J.n 107 rfl rfl rfl ?_
  exact zz_J.weak (k hR) rfl ⟨rfl, trivial⟩
theorem cb_222_82 {X : Nat → Option zz_C} {h : zz_H} {t : cS} {s : mS} {d : Nat} {Q : zz_O → zz_H → Prop} {x1 : Int32} {x2 : Int64} {x4 : Int64} {x6 : Int32} (hR : kR h t s) (k1 : ¬ x6 = 1 → (∀ {h : zz_H}, kR h t s → zz_J zp_P zt_tf zt_fd X d zm_222 99 [(0, .ref 58), (1, .int x1), (2, .long x2), (4, .long x4)] [] h Q)) (k2 : ¬ ¬ x6 = 1 → (∀ {h : zz_H}, kR h t s → zz_J zp_P zt_tf zt_fd X d zm_222 88 [(0, .ref 58), (1, .int x1), (2, .long x2), (4, .long x4)] [] h Q)) : zz_J zp_P zt_tf zt_fd X d zm_222 82 [(0, .ref 58), (1, .int x1), (2, .long x2), (4, .long x4), (6, .int x6)] [] h Q := by
  refine zz_J.n 84 rfl rfl rfl ?_
  refine zz_J.c 85 (.int 1) rfl rfl rfl rfl ?_
  refine zz_J.b2 99 88 (A := ¬ x6 = 1) rfl (zz_cond_ne _ _) (by decide) rfl rfl (fun c => ?_) (fun c => ?_)
  · exact zz_J.weak (k1 c hR) rfl ⟨rfl, rfl, rfl, rfl, trivial⟩
  · exact zz_J.weak (k2 c hR) rfl ⟨rfl, rfl, rfl, rfl, trivial⟩
theorem cb_222_88 {X : Nat → Option zz_C} {h : zz_H} {t : cS} {s : mS} {d : Nat} {Q : zz_O → zz_H → Prop} {x1 : Int32} {x2 : Int64} {x4 : Int64} (hR : kR h t s) (k : ∀ {h : zz_H}, kR h t s → zz_J zp_P zt_tf zt_fd X d zm_228 0 [(0, .ref 58), (1, .int x1), (2, .long x2), (4, .long x4)] [] h (zz_after 8 Q (fun v h' => zz_J zp_P zt_tf zt_fd X (d + 1) zm_222 96 [(0, .ref 58)] (v.toList ++ []) h' Q))) : zz_J zp_P zt_tf zt_fd X (d + 1) zm_222 88 [(0, .ref 58), (1, .int x1), (2, .long x2), (4, .long x4)] [] h Q := by
  refine zz_J.n 89 rfl rfl rfl ?_
  refine zz_J.n 90 rfl rfl rfl ?_
  refine zz_J.n 91 rfl rfl rfl ?_
  refine zz_J.n 93 rfl rfl rfl ?_
  refine zz_J.cv 96 (as := []) rfl rfl (hR.clO ko_58 (by decide) (by decide)) (by decide) (Nat.le_of_ble_eq_true rfl) (Nat.le_of_ble_eq_true rfl) rfl (Nat.le_of_ble_eq_true rfl) rfl ?_
  refine zz_J.mono (k hR) ?_
  intro o h' hE
  cases o with
  | inl v => exact zz_J.weak hE rfl ⟨rfl, trivial⟩
  | inr q => exact hE
theorem cb_222_96 {X : Nat → Option zz_C} {h : zz_H} {t : cS} {s : mS} {d : Nat} {Q : zz_O → zz_H → Prop} {y0 : Int64} (hR : kR h t s) (k : ∀ {h : zz_H}, kR h t s → zz_J zp_P zt_tf zt_fd X d zm_222 107 [(0, .ref 58)] [.long y0] h Q) : zz_J zp_P zt_tf zt_fd X d zm_222 96 [(0, .ref 58)] [.long y0] h Q := by
  refine zz_J.n 107 rfl rfl rfl ?_
  exact zz_J.weak (k hR) rfl ⟨rfl, trivial⟩
theorem cb_222_99 {X : Nat → Option zz_C} {h : zz_H} {t : cS} {s : mS} {d : Nat} {Q : zz_O → zz_H → Prop} {x1 : Int32} {x2 : Int64} {x4 : Int64} (hR : kR h t s) (k : ∀ {h : zz_H}, kR h t s → zz_J zp_P zt_tf zt_fd X d zm_227 0 [(0, .ref 58), (1, .int x1), (2, .long x2), (4, .long x4)] [] h (zz_after 8 Q (fun v h' => zz_J zp_P zt_tf zt_fd X (d + 1) zm_222 107 [(0, .ref 58)] (v.toList ++ []) h' Q))) : zz_J zp_P zt_tf zt_fd X (d + 1) zm_222 99 [(0, .ref 58), (1, .int x1), (2, .long x2), (4, .long x4)] [] h Q := by
  refine zz_J.n 100 rfl rfl rfl ?_
  refine zz_J.n 101 rfl rfl rfl ?_
  refine zz_J.n 102 rfl rfl rfl ?_
  refine zz_J.n 104 rfl rfl rfl ?_
  refine zz_J.cv 107 (as := []) rfl rfl (hR.clO ko_58 (by decide) (by decide)) (by decide) (Nat.le_of_ble_eq_true rfl) (Nat.le_of_ble_eq_true rfl) rfl (Nat.le_of_ble_eq_true rfl) rfl ?_
  refine zz_J.mono (k hR) ?_
  intro o h' hE
  cases o with
  | inl v => exact zz_J.weak hE rfl ⟨rfl, trivial⟩
  | inr q => exact hE
theorem cb_222_107 {X : Nat → Option zz_C} {h : zz_H} {t : cS} {s : mS} {d : Nat} {Q : zz_O → zz_H → Prop} {y0 : Int64} (hR : kR h t s) (k1 : (kI t 58 1) = 0 → (∀ {h : zz_H}, kR h t s → zz_J zp_P zt_tf zt_fd X d zm_222 124 [(7, .long y0)] [] h Q)) (k2 : ¬ (kI t 58 1) = 0 → (∀ {h : zz_H}, kR h t s → zz_J zp_P zt_tf zt_fd X d zm_222 116 [] [] h Q)) : zz_J zp_P zt_tf zt_fd X d zm_222 107 [(0, .ref 58)] [.long y0] h Q := by
  refine zz_J.n 109 rfl rfl rfl ?_
  refine zz_J.n 110 rfl rfl rfl ?_
  refine zz_J.g 113 rfl (hR.gv (v := .int (kI t 58 1)) ko_58 (by decide) rfl) rfl ?_
  refine zz_J.b1 124 116 (A := (kI t 58 1) = 0) rfl rfl (by decide) rfl rfl (fun c => ?_) (fun c => ?_)
  · exact zz_J.weak (k1 c hR) rfl ⟨rfl, trivial⟩
  · exact zz_J.weak (k2 c hR) rfl trivial
theorem cb_222_116 {X : Nat → Option zz_C} {h : zz_H} {t : cS} {s : mS} {d : Nat} {Q : zz_O → zz_H → Prop}  (hR : kR h t s) (k : ∀ {h : zz_H}, kR h t s → zz_J zp_P zt_tf zt_fd X d zm_254 0 [(0, .int 6)] [] h (zz_after 1000 Q (fun v h' => zz_J zp_P zt_tf zt_fd X (d + 1) zm_222 121 [] (v.toList ++ []) h' Q))) : zz_J zp_P zt_tf zt_fd X (d + 1) zm_222 116 [] [] h Q := by
  refine zz_J.c 118 (.int 6) rfl rfl rfl rfl ?_
  refine zz_J.cl (M' := zm_254) 121 rfl rfl (by decide) rfl rfl ⟨rfl, Nat.le_of_ble_eq_true rfl⟩ rfl ?_
  refine zz_J.mono (k hR) ?_
  intro o h' hE
  cases o with
  | inl v => exact zz_J.weak hE rfl trivial
  | inr q => exact hE
theorem cb_222_121 {X : Nat → Option zz_C} {h : zz_H} {t : cS} {s : mS} {d : Nat} {Q : zz_O → zz_H → Prop} {y0 : Int64} (hR : kR h t s) (k : ∀ {h : zz_H}, kR h t s → zz_J zp_P zt_tf zt_fd X d zm_222 126 [] [.long y0] h Q) : zz_J zp_P zt_tf zt_fd X d zm_222 121 [] [.long y0] h Q := by
  refine zz_J.n 126 rfl rfl rfl ?_
  exact zz_J.weak (k hR) rfl trivial
theorem cb_222_124 {X : Nat → Option zz_C} {h : zz_H} {t : cS} {s : mS} {d : Nat} {Q : zz_O → zz_H → Prop} {x7 : Int64} (hR : kR h t s) (k : ∀ {h : zz_H}, kR h t s → zz_J zp_P zt_tf zt_fd X d zm_222 126 [] [.long x7] h Q) : zz_J zp_P zt_tf zt_fd X d zm_222 124 [(7, .long x7)] [] h Q := by
  refine zz_J.n 126 rfl rfl rfl ?_
  exact zz_J.weak (k hR) rfl trivial
theorem cb_222_126 {X : Nat → Option zz_C} {h : zz_H} {t : cS} {s : mS} {d : Nat} {Q : zz_O → zz_H → Prop} {y0 : Int64} (hR : kR h t s) (k : ∀ {h : zz_H}, kR h t s → Q (.inl (some (.long y0))) h) : zz_J zp_P zt_tf zt_fd X d zm_222 126 [] [.long y0] h Q := by
  refine zz_J.ret rfl rfl rfl ?_
  exact k hR
def cf_222_21 (N : Nat) (X : Nat → Option zz_C) (y0 : Int64) (t : cS) : kO := some (t, .inl (some (.long y0)))
theorem cr_222_21 {X : Nat → Option zz_C} {s : mS} {N : Nat} {d : Nat} (hd : 12 ≤ d) {Q : zz_O → zz_H → Prop} {y0 : Int64} {h : zz_H} {t t' : cS} {o : kY} (hR : kR h t s) (hf : cf_222_21 N X y0 t = some (t', o)) (k : (∀ h', kR h' t' s → kE o Q h')) : zz_J zp_P zt_tf zt_fd X d zm_222 21 [] [.long y0] h Q := by
  unfold cf_222_21 at hf
  cases hf
  exact cb_222_21 hR  (fun {h} hR => k h hR)
def cf_222_17 (N : Nat) (X : Nat → Option zz_C)  (t : cS) : kO := ko_call 1000 (cf_254 N X 3 t) (fun g1 v1 => co_l v1 (fun y => cf_222_21 N X y g1))
theorem cr_222_17 {X : Nat → Option zz_C} {s : mS} {N : Nat} {d : Nat} (hd : 12 ≤ d) {Q : zz_O → zz_H → Prop}  {h : zz_H} {t t' : cS} {o : kY} (hR : kR h t s) (hf : cf_222_17 N X  t = some (t', o)) (k : (∀ h', kR h' t' s → kE o Q h')) : zz_J zp_P zt_tf zt_fd X d zm_222 17 [] [] h Q := by
  unfold cf_222_17 at hf
  obtain ⟨d', rfl⟩ : ∃ d', d = d' + 1 := ⟨d - 1, by omega⟩
  refine cb_222_17 hR  (fun {h} hR => ?_)
  rcases ko_call_ok hf with ⟨g1, v1, er, hf⟩ | ⟨g1, er, hq⟩
  · obtain ⟨y, hv, hf2⟩ := co_l_ok hf
    clear hf
    have hf := hf2
    clear hf2
    subst hv
    refine cr_254 (by omega) hR er (fun h hR => ?_)
    exact cr_222_21 hd hR hf k
  · refine cr_254 (by omega) hR er (fun h hR => ?_)
    exact ko_thrown hq hR k
def cf_222_126 (N : Nat) (X : Nat → Option zz_C) (y0 : Int64) (t : cS) : kO := some (t, .inl (some (.long y0)))
theorem cr_222_126 {X : Nat → Option zz_C} {s : mS} {N : Nat} {d : Nat} (hd : 12 ≤ d) {Q : zz_O → zz_H → Prop} {y0 : Int64} {h : zz_H} {t t' : cS} {o : kY} (hR : kR h t s) (hf : cf_222_126 N X y0 t = some (t', o)) (k : (∀ h', kR h' t' s → kE o Q h')) : zz_J zp_P zt_tf zt_fd X d zm_222 126 [] [.long y0] h Q := by
  unfold cf_222_126 at hf
  cases hf
  exact cb_222_126 hR  (fun {h} hR => k h hR)
def cf_222_124 (N : Nat) (X : Nat → Option zz_C) (x7 : Int64) (t : cS) : kO := cf_222_126 N X x7 t
theorem cr_222_124 {X : Nat → Option zz_C} {s : mS} {N : Nat} {d : Nat} (hd : 12 ≤ d) {Q : zz_O → zz_H → Prop} {x7 : Int64} {h : zz_H} {t t' : cS} {o : kY} (hR : kR h t s) (hf : cf_222_124 N X x7 t = some (t', o)) (k : (∀ h', kR h' t' s → kE o Q h')) : zz_J zp_P zt_tf zt_fd X d zm_222 124 [(7, .long x7)] [] h Q := by
  unfold cf_222_124 at hf
  exact cb_222_124 hR  (fun hR => cr_222_126 hd hR hf k)
def cf_222_121 (N : Nat) (X : Nat → Option zz_C) (y0 : Int64) (t : cS) : kO := cf_222_126 N X y0 t
theorem cr_222_121 {X : Nat → Option zz_C} {s : mS} {N : Nat} {d : Nat} (hd : 12 ≤ d) {Q : zz_O → zz_H → Prop} {y0 : Int64} {h : zz_H} {t t' : cS} {o : kY} (hR : kR h t s) (hf : cf_222_121 N X y0 t = some (t', o)) (k : (∀ h', kR h' t' s → kE o Q h')) : zz_J zp_P zt_tf zt_fd X d zm_222 121 [] [.long y0] h Q := by
  unfold cf_222_121 at hf
  exact cb_222_121 hR  (fun hR => cr_222_126 hd hR hf k)
def cf_222_116 (N : Nat) (X : Nat → Option zz_C)  (t : cS) : kO := ko_call 1000 (cf_254 N X 6 t) (fun g1 v1 => co_l v1 (fun y => cf_222_121 N X y g1))
theorem cr_222_116 {X : Nat → Option zz_C} {s : mS} {N : Nat} {d : Nat} (hd : 12 ≤ d) {Q : zz_O → zz_H → Prop}  {h : zz_H} {t t' : cS} {o : kY} (hR : kR h t s) (hf : cf_222_116 N X  t = some (t', o)) (k : (∀ h', kR h' t' s → kE o Q h')) : zz_J zp_P zt_tf zt_fd X d zm_222 116 [] [] h Q := by
  unfold cf_222_116 at hf
  obtain ⟨d', rfl⟩ : ∃ d', d = d' + 1 := ⟨d - 1, by omega⟩
  refine cb_222_116 hR  (fun {h} hR => ?_)
  rcases ko_call_ok hf with ⟨g1, v1, er, hf⟩ | ⟨g1, er, hq⟩
  · obtain ⟨y, hv, hf2⟩ := co_l_ok hf
    clear hf
    have hf := hf2
    clear hf2
    subst hv
    refine cr_254 (by omega) hR er (fun h hR => ?_)
    exact cr_222_121 hd hR hf k
  · refine cr_254 (by omega) hR er (fun h hR => ?_)
    exact ko_thrown hq hR k
def cf_222_107 (N : Nat) (X : Nat → Option zz_C) (y0 : Int64) (t : cS) : kO := if (kI t 58 1) = 0 then cf_222_124 N X y0 t else cf_222_116 N X  t
theorem cr_222_107 {X : Nat → Option zz_C} {s : mS} {N : Nat} {d : Nat} (hd : 12 ≤ d) {Q : zz_O → zz_H → Prop} {y0 : Int64} {h : zz_H} {t t' : cS} {o : kY} (hR : kR h t s) (hf : cf_222_107 N X y0 t = some (t', o)) (k : (∀ h', kR h' t' s → kE o Q h')) : zz_J zp_P zt_tf zt_fd X d zm_222 107 [(0, .ref 58)] [.long y0] h Q := by
  unfold cf_222_107 at hf
  refine cb_222_107 hR  (fun c {h} hR => ?_) (fun c {h} hR => ?_)
  · rw [if_pos c] at hf
    exact cr_222_124 hd hR hf k
  · rw [if_neg c] at hf
    exact cr_222_116 hd hR hf k
def cf_222_99 (N : Nat) (X : Nat → Option zz_C) (x1 : Int32) (x2 : Int64) (x4 : Int64) (t : cS) : kO := ko_call 8 (cf_227 N X x1 x2 x4 t) (fun g1 v1 => co_l v1 (fun y => cf_222_107 N X y g1))
theorem cr_222_99 {X : Nat → Option zz_C} {s : mS} {N : Nat} {d : Nat} (hd : 12 ≤ d) {Q : zz_O → zz_H → Prop} {x1 : Int32} {x2 : Int64} {x4 : Int64} {h : zz_H} {t t' : cS} {o : kY} (hR : kR h t s) (hf : cf_222_99 N X x1 x2 x4 t = some (t', o)) (k : (∀ h', kR h' t' s → kE o Q h')) : zz_J zp_P zt_tf zt_fd X d zm_222 99 [(0, .ref 58), (1, .int x1), (2, .long x2), (4, .long x4)] [] h Q := by
  unfold cf_222_99 at hf
  obtain ⟨d', rfl⟩ : ∃ d', d = d' + 1 := ⟨d - 1, by omega⟩
  refine cb_222_99 hR  (fun {h} hR => ?_)
  rcases ko_call_ok hf with ⟨g1, v1, er, hf⟩ | ⟨g1, er, hq⟩
  · obtain ⟨y, hv, hf2⟩ := co_l_ok hf
    clear hf
    have hf := hf2
    clear hf2
    subst hv
    refine cr_227 (by omega) hR er (fun h hR => ?_)
    exact cr_222_107 hd hR hf k
  · refine cr_227 (by omega) hR er (fun h hR => ?_)
    exact ko_thrown hq hR k
def cf_222_96 (N : Nat) (X : Nat → Option zz_C) (y0 : Int64) (t : cS) : kO := cf_222_107 N X y0 t
theorem cr_222_96 {X : Nat → Option zz_C} {s : mS} {N : Nat} {d : Nat} (hd : 12 ≤ d) {Q : zz_O → zz_H → Prop} {y0 : Int64} {h : zz_H} {t t' : cS} {o : kY} (hR : kR h t s) (hf : cf_222_96 N X y0 t = some (t', o)) (k : (∀ h', kR h' t' s → kE o Q h')) : zz_J zp_P zt_tf zt_fd X d zm_222 96 [(0, .ref 58)] [.long y0] h Q := by
  unfold cf_222_96 at hf
  exact cb_222_96 hR  (fun hR => cr_222_107 hd hR hf k)
def cf_222_88 (N : Nat) (X : Nat → Option zz_C) (x1 : Int32) (x2 : Int64) (x4 : Int64) (t : cS) : kO := ko_call 8 (cf_228 N X x1 x2 x4 t) (fun g1 v1 => co_l v1 (fun y => cf_222_96 N X y g1))
theorem cr_222_88 {X : Nat → Option zz_C} {s : mS} {N : Nat} {d : Nat} (hd : 12 ≤ d) {Q : zz_O → zz_H → Prop} {x1 : Int32} {x2 : Int64} {x4 : Int64} {h : zz_H} {t t' : cS} {o : kY} (hR : kR h t s) (hf : cf_222_88 N X x1 x2 x4 t = some (t', o)) (k : (∀ h', kR h' t' s → kE o Q h')) : zz_J zp_P zt_tf zt_fd X d zm_222 88 [(0, .ref 58), (1, .int x1), (2, .long x2), (4, .long x4)] [] h Q := by
  unfold cf_222_88 at hf
  obtain ⟨d', rfl⟩ : ∃ d', d = d' + 1 := ⟨d - 1, by omega⟩
  refine cb_222_88 hR  (fun {h} hR => ?_)
  rcases ko_call_ok hf with ⟨g1, v1, er, hf⟩ | ⟨g1, er, hq⟩
  · obtain ⟨y, hv, hf2⟩ := co_l_ok hf
    clear hf
    have hf := hf2
    clear hf2
    subst hv
    refine cr_228 (by omega) hR er (fun h hR => ?_)
    exact cr_222_96 hd hR hf k
  · refine cr_228 (by omega) hR er (fun h hR => ?_)
    exact ko_thrown hq hR k
def cf_222_82 (N : Nat) (X : Nat → Option zz_C) (x1 : Int32) (x2 : Int64) (x4 : Int64) (x6 : Int32) (t : cS) : kO := if ¬ x6 = 1 then cf_222_99 N X x1 x2 x4 t else cf_222_88 N X x1 x2 x4 t
theorem cr_222_82 {X : Nat → Option zz_C} {s : mS} {N : Nat} {d : Nat} (hd : 12 ≤ d) {Q : zz_O → zz_H → Prop} {x1 : Int32} {x2 : Int64} {x4 : Int64} {x6 : Int32} {h : zz_H} {t t' : cS} {o : kY} (hR : kR h t s) (hf : cf_222_82 N X x1 x2 x4 x6 t = some (t', o)) (k : (∀ h', kR h' t' s → kE o Q h')) : zz_J zp_P zt_tf zt_fd X d zm_222 82 [(0, .ref 58), (1, .int x1), (2, .long x2), (4, .long x4), (6, .int x6)] [] h Q := by
  unfold cf_222_82 at hf
  refine cb_222_82 hR  (fun c {h} hR => ?_) (fun c {h} hR => ?_)
  · rw [if_pos c] at hf
    exact cr_222_99 hd hR hf k
  · rw [if_neg c] at hf
    exact cr_222_88 hd hR hf k
def cf_222_79 (N : Nat) (X : Nat → Option zz_C) (y0 : Int64) (t : cS) : kO := cf_222_107 N X y0 t
theorem cr_222_79 {X : Nat → Option zz_C} {s : mS} {N : Nat} {d : Nat} (hd : 12 ≤ d) {Q : zz_O → zz_H → Prop} {y0 : Int64} {h : zz_H} {t t' : cS} {o : kY} (hR : kR h t s) (hf : cf_222_79 N X y0 t = some (t', o)) (k : (∀ h', kR h' t' s → kE o Q h')) : zz_J zp_P zt_tf zt_fd X d zm_222 79 [(0, .ref 58)] [.long y0] h Q := by
  unfold cf_222_79 at hf
  exact cb_222_79 hR  (fun hR => cr_222_107 hd hR hf k)
def cf_222_76 (N : Nat) (X : Nat → Option zz_C) (y0 : Int32) (y1 : Int32) (t : cS) : kO := ko_call 1000 (cf_253 N X y0 y1 t) (fun g1 v1 => co_l v1 (fun y => cf_222_79 N X y g1))
theorem cr_222_76 {X : Nat → Option zz_C} {s : mS} {N : Nat} {d : Nat} (hd : 12 ≤ d) {Q : zz_O → zz_H → Prop} {y0 : Int32} {y1 : Int32} {h : zz_H} {t t' : cS} {o : kY} (hR : kR h t s) (hf : cf_222_76 N X y0 y1 t = some (t', o)) (k : (∀ h', kR h' t' s → kE o Q h')) : zz_J zp_P zt_tf zt_fd X d zm_222 76 [(0, .ref 58)] [.int y1, .int y0] h Q := by
  unfold cf_222_76 at hf
  obtain ⟨d', rfl⟩ : ∃ d', d = d' + 1 := ⟨d - 1, by omega⟩
  refine cb_222_76 hR  (fun {h} hR => ?_)
  rcases ko_call_ok hf with ⟨g1, v1, er, hf⟩ | ⟨g1, er, hq⟩
  · obtain ⟨y, hv, hf2⟩ := co_l_ok hf
    clear hf
    have hf := hf2
    clear hf2
    subst hv
    refine cr_253 (by omega) hR er (fun h hR => ?_)
    exact cr_222_79 hd hR hf k
  · refine cr_253 (by omega) hR er (fun h hR => ?_)
    exact ko_thrown hq hR k
def cf_222_73 (N : Nat) (X : Nat → Option zz_C) (y0 : Int32) (y2 : Int32) (y3 : Int32) (y4 : Int32) (t : cS) : kO := ko_call 8 (cf_230 N X y2 y3 y4 t) (fun g1 v1 => co_i v1 (fun y => cf_222_76 N X y0 y g1))
theorem cr_222_73 {X : Nat → Option zz_C} {s : mS} {N : Nat} {d : Nat} (hd : 12 ≤ d) {Q : zz_O → zz_H → Prop} {y0 : Int32} {y2 : Int32} {y3 : Int32} {y4 : Int32} {h : zz_H} {t t' : cS} {o : kY} (hR : kR h t s) (hf : cf_222_73 N X y0 y2 y3 y4 t = some (t', o)) (k : (∀ h', kR h' t' s → kE o Q h')) : zz_J zp_P zt_tf zt_fd X d zm_222 73 [(0, .ref 58)] [.int y4, .int y3, .int y2, .ref 58, .int y0] h Q := by
  unfold cf_222_73 at hf
  obtain ⟨d', rfl⟩ : ∃ d', d = d' + 1 := ⟨d - 1, by omega⟩
  refine cb_222_73 hR  (fun {h} hR => ?_)
  rcases ko_call_ok hf with ⟨g1, v1, er, hf⟩ | ⟨g1, er, hq⟩
  · obtain ⟨y, hv, hf2⟩ := co_i_ok hf
    clear hf
    have hf := hf2
    clear hf2
    subst hv
    refine cr_230 (by omega) hR er (fun h hR => ?_)
    exact cr_222_76 hd hR hf k
  · refine cr_230 (by omega) hR er (fun h hR => ?_)
    exact ko_thrown hq hR k
def cf_222_68 (N : Nat) (X : Nat → Option zz_C) (x4 : Int64) (y0 : Int32) (y2 : Int32) (y3 : Int32) (t : cS) : kO := ko_call 1000 (cf_256 N X x4 t) (fun g1 v1 => co_i v1 (fun y => cf_222_73 N X y0 y2 y3 y g1))
theorem cr_222_68 {X : Nat → Option zz_C} {s : mS} {N : Nat} {d : Nat} (hd : 12 ≤ d) {Q : zz_O → zz_H → Prop} {x4 : Int64} {y0 : Int32} {y2 : Int32} {y3 : Int32} {h : zz_H} {t t' : cS} {o : kY} (hR : kR h t s) (hf : cf_222_68 N X x4 y0 y2 y3 t = some (t', o)) (k : (∀ h', kR h' t' s → kE o Q h')) : zz_J zp_P zt_tf zt_fd X d zm_222 68 [(0, .ref 58), (4, .long x4)] [.int y3, .int y2, .ref 58, .int y0] h Q := by
  unfold cf_222_68 at hf
  obtain ⟨d', rfl⟩ : ∃ d', d = d' + 1 := ⟨d - 1, by omega⟩
  refine cb_222_68 hR  (fun {h} hR => ?_)
  rcases ko_call_ok hf with ⟨g1, v1, er, hf⟩ | ⟨g1, er, hq⟩
  · obtain ⟨y, hv, hf2⟩ := co_i_ok hf
    clear hf
    have hf := hf2
    clear hf2
    subst hv
    refine cr_256 (by omega) hR er (fun h hR => ?_)
    exact cr_222_73 hd hR hf k
  · refine cr_256 (by omega) hR er (fun h hR => ?_)
    exact ko_thrown hq hR k
def cf_222_61 (N : Nat) (X : Nat → Option zz_C) (x1 : Int32) (x2 : Int64) (x4 : Int64) (t : cS) : kO := ko_call 1000 (cf_256 N X x2 t) (fun g1 v1 => co_i v1 (fun y => cf_222_68 N X x4 0 x1 y g1))
theorem cr_222_61 {X : Nat → Option zz_C} {s : mS} {N : Nat} {d : Nat} (hd : 12 ≤ d) {Q : zz_O → zz_H → Prop} {x1 : Int32} {x2 : Int64} {x4 : Int64} {h : zz_H} {t t' : cS} {o : kY} (hR : kR h t s) (hf : cf_222_61 N X x1 x2 x4 t = some (t', o)) (k : (∀ h', kR h' t' s → kE o Q h')) : zz_J zp_P zt_tf zt_fd X d zm_222 61 [(0, .ref 58), (1, .int x1), (2, .long x2), (4, .long x4)] [] h Q := by
  unfold cf_222_61 at hf
  obtain ⟨d', rfl⟩ : ∃ d', d = d' + 1 := ⟨d - 1, by omega⟩
  refine cb_222_61 hR  (fun {h} hR => ?_)
  rcases ko_call_ok hf with ⟨g1, v1, er, hf⟩ | ⟨g1, er, hq⟩
  · obtain ⟨y, hv, hf2⟩ := co_i_ok hf
    clear hf
    have hf := hf2
    clear hf2
    subst hv
    refine cr_256 (by omega) hR er (fun h hR => ?_)
    exact cr_222_68 hd hR hf k
  · refine cr_256 (by omega) hR er (fun h hR => ?_)
    exact ko_thrown hq hR k
def cf_222_51 (N : Nat) (X : Nat → Option zz_C) (x1 : Int32) (x2 : Int64) (x4 : Int64) (y0 : Int32) (y1 : Int32) (t : cS) : kO := if ¬ (if (y0 : Int32) < y1 then y1 else y0) = 0 then cf_222_82 N X x1 x2 x4 (if (y0 : Int32) < y1 then y1 else y0) t else cf_222_61 N X x1 x2 x4 t
theorem cr_222_51 {X : Nat → Option zz_C} {s : mS} {N : Nat} {d : Nat} (hd : 12 ≤ d) {Q : zz_O → zz_H → Prop} {x1 : Int32} {x2 : Int64} {x4 : Int64} {y0 : Int32} {y1 : Int32} {h : zz_H} {t t' : cS} {o : kY} (hR : kR h t s) (hf : cf_222_51 N X x1 x2 x4 y0 y1 t = some (t', o)) (k : (∀ h', kR h' t' s → kE o Q h')) : zz_J zp_P zt_tf zt_fd X d zm_222 51 [(0, .ref 58), (1, .int x1), (2, .long x2), (4, .long x4)] [.int y1, .int y0] h Q := by
  unfold cf_222_51 at hf
  obtain ⟨d', rfl⟩ : ∃ d', d = d' + 1 := ⟨d - 1, by omega⟩
  refine cb_222_51 hR  (fun c {h} hR => ?_) (fun c {h} hR => ?_)
  · rw [if_pos c] at hf
    exact cr_222_82 hd hR hf k
  · rw [if_neg c] at hf
    exact cr_222_61 hd hR hf k
def cf_222_46 (N : Nat) (X : Nat → Option zz_C) (x1 : Int32) (x2 : Int64) (x4 : Int64) (y0 : Int32) (t : cS) : kO := ko_call 1000 (cf_255 N X x4 t) (fun g1 v1 => co_i v1 (fun y => cf_222_51 N X x1 x2 x4 y0 y g1))
theorem cr_222_46 {X : Nat → Option zz_C} {s : mS} {N : Nat} {d : Nat} (hd : 12 ≤ d) {Q : zz_O → zz_H → Prop} {x1 : Int32} {x2 : Int64} {x4 : Int64} {y0 : Int32} {h : zz_H} {t t' : cS} {o : kY} (hR : kR h t s) (hf : cf_222_46 N X x1 x2 x4 y0 t = some (t', o)) (k : (∀ h', kR h' t' s → kE o Q h')) : zz_J zp_P zt_tf zt_fd X d zm_222 46 [(0, .ref 58), (1, .int x1), (2, .long x2), (4, .long x4)] [.int y0] h Q := by
  unfold cf_222_46 at hf
  obtain ⟨d', rfl⟩ : ∃ d', d = d' + 1 := ⟨d - 1, by omega⟩
  refine cb_222_46 hR  (fun {h} hR => ?_)
  rcases ko_call_ok hf with ⟨g1, v1, er, hf⟩ | ⟨g1, er, hq⟩
  · obtain ⟨y, hv, hf2⟩ := co_i_ok hf
    clear hf
    have hf := hf2
    clear hf2
    subst hv
    refine cr_255 (by omega) hR er (fun h hR => ?_)
    exact cr_222_51 hd hR hf k
  · refine cr_255 (by omega) hR er (fun h hR => ?_)
    exact ko_thrown hq hR k
def cf_222_37 (N : Nat) (X : Nat → Option zz_C) (x1 : Int32) (x2 : Int64) (x4 : Int64) (t : cS) : kO := ko_call 1000 (cf_255 N X x2 (jI t 58 1 0)) (fun g1 v1 => co_i v1 (fun y => cf_222_46 N X x1 x2 x4 y g1))
theorem cr_222_37 {X : Nat → Option zz_C} {s : mS} {N : Nat} {d : Nat} (hd : 12 ≤ d) {Q : zz_O → zz_H → Prop} {x1 : Int32} {x2 : Int64} {x4 : Int64} {h : zz_H} {t t' : cS} {o : kY} (hR : kR h t s) (hf : cf_222_37 N X x1 x2 x4 t = some (t', o)) (k : (∀ h', kR h' t' s → kE o Q h')) : zz_J zp_P zt_tf zt_fd X d zm_222 37 [(0, .ref 58), (1, .int x1), (2, .long x2), (4, .long x4)] [] h Q := by
  unfold cf_222_37 at hf
  obtain ⟨d', rfl⟩ : ∃ d', d = d' + 1 := ⟨d - 1, by omega⟩
  refine cb_222_37 hR  (fun {h} hR => ?_)
  rcases ko_call_ok hf with ⟨g1, v1, er, hf⟩ | ⟨g1, er, hq⟩
  · obtain ⟨y, hv, hf2⟩ := co_i_ok hf
    clear hf
    have hf := hf2
    clear hf2
    subst hv
    refine cr_255 (by omega) hR er (fun h hR => ?_)
    exact cr_222_46 hd hR hf k
  · refine cr_255 (by omega) hR er (fun h hR => ?_)
    exact ko_thrown hq hR k
def cf_222_36 (N : Nat) (X : Nat → Option zz_C) (y0 : Int64) (t : cS) : kO := some (t, .inl (some (.long y0)))
theorem cr_222_36 {X : Nat → Option zz_C} {s : mS} {N : Nat} {d : Nat} (hd : 12 ≤ d) {Q : zz_O → zz_H → Prop} {y0 : Int64} {h : zz_H} {t t' : cS} {o : kY} (hR : kR h t s) (hf : cf_222_36 N X y0 t = some (t', o)) (k : (∀ h', kR h' t' s → kE o Q h')) : zz_J zp_P zt_tf zt_fd X d zm_222 36 [] [.long y0] h Q := by
  unfold cf_222_36 at hf
  cases hf
  exact cb_222_36 hR  (fun {h} hR => k h hR)
def cf_222_32 (N : Nat) (X : Nat → Option zz_C)  (t : cS) : kO := ko_call 1000 (cf_254 N X 4 t) (fun g1 v1 => co_l v1 (fun y => cf_222_36 N X y g1))
theorem cr_222_32 {X : Nat → Option zz_C} {s : mS} {N : Nat} {d : Nat} (hd : 12 ≤ d) {Q : zz_O → zz_H → Prop}  {h : zz_H} {t t' : cS} {o : kY} (hR : kR h t s) (hf : cf_222_32 N X  t = some (t', o)) (k : (∀ h', kR h' t' s → kE o Q h')) : zz_J zp_P zt_tf zt_fd X d zm_222 32 [] [] h Q := by
  unfold cf_222_32 at hf
  obtain ⟨d', rfl⟩ : ∃ d', d = d' + 1 := ⟨d - 1, by omega⟩
  refine cb_222_32 hR  (fun {h} hR => ?_)
  rcases ko_call_ok hf with ⟨g1, v1, er, hf⟩ | ⟨g1, er, hq⟩
  · obtain ⟨y, hv, hf2⟩ := co_l_ok hf
    clear hf
    have hf := hf2
    clear hf2
    subst hv
    refine cr_254 (by omega) hR er (fun h hR => ?_)
    exact cr_222_36 hd hR hf k
  · refine cr_254 (by omega) hR er (fun h hR => ?_)
    exact ko_thrown hq hR k
def cf_222_29 (N : Nat) (X : Nat → Option zz_C) (x1 : Int32) (x2 : Int64) (x4 : Int64) (y0 : Int32) (t : cS) : kO := if y0 = 0 then cf_222_37 N X x1 x2 x4 t else cf_222_32 N X  t
theorem cr_222_29 {X : Nat → Option zz_C} {s : mS} {N : Nat} {d : Nat} (hd : 12 ≤ d) {Q : zz_O → zz_H → Prop} {x1 : Int32} {x2 : Int64} {x4 : Int64} {y0 : Int32} {h : zz_H} {t t' : cS} {o : kY} (hR : kR h t s) (hf : cf_222_29 N X x1 x2 x4 y0 t = some (t', o)) (k : (∀ h', kR h' t' s → kE o Q h')) : zz_J zp_P zt_tf zt_fd X d zm_222 29 [(0, .ref 58), (1, .int x1), (2, .long x2), (4, .long x4)] [.int y0] h Q := by
  unfold cf_222_29 at hf
  refine cb_222_29 hR  (fun c {h} hR => ?_) (fun c {h} hR => ?_)
  · rw [if_pos c] at hf
    exact cr_222_37 hd hR hf k
  · rw [if_neg c] at hf
    exact cr_222_32 hd hR hf k
def cf_222_22 (N : Nat) (X : Nat → Option zz_C) (x1 : Int32) (x2 : Int64) (x4 : Int64) (t : cS) : kO := ko_call 8 (cf_226 N X x2 x4 t) (fun g1 v1 => co_i v1 (fun y => cf_222_29 N X x1 x2 x4 y g1))
theorem cr_222_22 {X : Nat → Option zz_C} {s : mS} {N : Nat} {d : Nat} (hd : 12 ≤ d) {Q : zz_O → zz_H → Prop} {x1 : Int32} {x2 : Int64} {x4 : Int64} {h : zz_H} {t t' : cS} {o : kY} (hR : kR h t s) (hf : cf_222_22 N X x1 x2 x4 t = some (t', o)) (k : (∀ h', kR h' t' s → kE o Q h')) : zz_J zp_P zt_tf zt_fd X d zm_222 22 [(0, .ref 58), (1, .int x1), (2, .long x2), (4, .long x4)] [] h Q := by
  unfold cf_222_22 at hf
  obtain ⟨d', rfl⟩ : ∃ d', d = d' + 1 := ⟨d - 1, by omega⟩
  refine cb_222_22 hR  (fun {h} hR => ?_)
  rcases ko_call_ok hf with ⟨g1, v1, er, hf⟩ | ⟨g1, er, hq⟩
  · obtain ⟨y, hv, hf2⟩ := co_i_ok hf
    clear hf
    have hf := hf2
    clear hf2
    subst hv
    refine cr_226 (by omega) hR er (fun h hR => ?_)
    exact cr_222_29 hd hR hf k
  · refine cr_226 (by omega) hR er (fun h hR => ?_)
    exact ko_thrown hq hR k
def cf_222_13 (N : Nat) (X : Nat → Option zz_C) (x1 : Int32) (x2 : Int64) (x4 : Int64) (y0 : Int32) (t : cS) : kO := if ¬ y0 = 3 then cf_222_22 N X x1 x2 x4 t else cf_222_17 N X  t
theorem cr_222_13 {X : Nat → Option zz_C} {s : mS} {N : Nat} {d : Nat} (hd : 12 ≤ d) {Q : zz_O → zz_H → Prop} {x1 : Int32} {x2 : Int64} {x4 : Int64} {y0 : Int32} {h : zz_H} {t t' : cS} {o : kY} (hR : kR h t s) (hf : cf_222_13 N X x1 x2 x4 y0 t = some (t', o)) (k : (∀ h', kR h' t' s → kE o Q h')) : zz_J zp_P zt_tf zt_fd X d zm_222 13 [(0, .ref 58), (1, .int x1), (2, .long x2), (4, .long x4)] [.int y0] h Q := by
  unfold cf_222_13 at hf
  refine cb_222_13 hR  (fun c {h} hR => ?_) (fun c {h} hR => ?_)
  · rw [if_pos c] at hf
    exact cr_222_22 hd hR hf k
  · rw [if_neg c] at hf
    exact cr_222_17 hd hR hf k
def cf_222_8 (N : Nat) (X : Nat → Option zz_C) (x1 : Int32) (x2 : Int64) (x4 : Int64) (t : cS) : kO := ko_call 1000 (cf_255 N X x4 t) (fun g1 v1 => co_i v1 (fun y => cf_222_13 N X x1 x2 x4 y g1))
theorem cr_222_8 {X : Nat → Option zz_C} {s : mS} {N : Nat} {d : Nat} (hd : 12 ≤ d) {Q : zz_O → zz_H → Prop} {x1 : Int32} {x2 : Int64} {x4 : Int64} {h : zz_H} {t t' : cS} {o : kY} (hR : kR h t s) (hf : cf_222_8 N X x1 x2 x4 t = some (t', o)) (k : (∀ h', kR h' t' s → kE o Q h')) : zz_J zp_P zt_tf zt_fd X d zm_222 8 [(0, .ref 58), (1, .int x1), (2, .long x2), (4, .long x4)] [] h Q := by
  unfold cf_222_8 at hf
  obtain ⟨d', rfl⟩ : ∃ d', d = d' + 1 := ⟨d - 1, by omega⟩
  refine cb_222_8 hR  (fun {h} hR => ?_)
  rcases ko_call_ok hf with ⟨g1, v1, er, hf⟩ | ⟨g1, er, hq⟩
  · obtain ⟨y, hv, hf2⟩ := co_i_ok hf
    clear hf
    have hf := hf2
    clear hf2
    subst hv
    refine cr_255 (by omega) hR er (fun h hR => ?_)
    exact cr_222_13 hd hR hf k
  · refine cr_255 (by omega) hR er (fun h hR => ?_)
    exact ko_thrown hq hR k
def cf_222_4 (N : Nat) (X : Nat → Option zz_C) (x1 : Int32) (x2 : Int64) (x4 : Int64) (y0 : Int32) (t : cS) : kO := if y0 = 3 then cf_222_17 N X  t else cf_222_8 N X x1 x2 x4 t
theorem cr_222_4 {X : Nat → Option zz_C} {s : mS} {N : Nat} {d : Nat} (hd : 12 ≤ d) {Q : zz_O → zz_H → Prop} {x1 : Int32} {x2 : Int64} {x4 : Int64} {y0 : Int32} {h : zz_H} {t t' : cS} {o : kY} (hR : kR h t s) (hf : cf_222_4 N X x1 x2 x4 y0 t = some (t', o)) (k : (∀ h', kR h' t' s → kE o Q h')) : zz_J zp_P zt_tf zt_fd X d zm_222 4 [(0, .ref 58), (1, .int x1), (2, .long x2), (4, .long x4)] [.int y0] h Q := by
  unfold cf_222_4 at hf
  refine cb_222_4 hR  (fun c {h} hR => ?_) (fun c {h} hR => ?_)
  · rw [if_pos c] at hf
    exact cr_222_17 hd hR hf k
  · rw [if_neg c] at hf
    exact cr_222_8 hd hR hf k
def cf_222_0 (N : Nat) (X : Nat → Option zz_C) (x1 : Int32) (x2 : Int64) (x4 : Int64) (t : cS) : kO := ko_call 1000 (cf_255 N X x2 t) (fun g1 v1 => co_i v1 (fun y => cf_222_4 N X x1 x2 x4 y g1))
theorem cr_222_0 {X : Nat → Option zz_C} {s : mS} {N : Nat} {d : Nat} (hd : 12 ≤ d) {Q : zz_O → zz_H → Prop} {x1 : Int32} {x2 : Int64} {x4 : Int64} {h : zz_H} {t t' : cS} {o : kY} (hR : kR h t s) (hf : cf_222_0 N X x1 x2 x4 t = some (t', o)) (k : (∀ h', kR h' t' s → kE o Q h')) : zz_J zp_P zt_tf zt_fd X d zm_222 0 [(0, .ref 58), (1, .int x1), (2, .long x2), (4, .long x4)] [] h Q := by
  unfold cf_222_0 at hf
  obtain ⟨d', rfl⟩ : ∃ d', d = d' + 1 := ⟨d - 1, by omega⟩
  refine cb_222_0 hR  (fun {h} hR => ?_)
  rcases ko_call_ok hf with ⟨g1, v1, er, hf⟩ | ⟨g1, er, hq⟩
  · obtain ⟨y, hv, hf2⟩ := co_i_ok hf
    clear hf
    have hf := hf2
    clear hf2
    subst hv
    refine cr_255 (by omega) hR er (fun h hR => ?_)
    exact cr_222_4 hd hR hf k
  · refine cr_255 (by omega) hR er (fun h hR => ?_)
    exact ko_thrown hq hR k
/-- two -/
def cf_222 (N : Nat) (X : Nat → Option zz_C) (x1 : Int32) (x2 : Int64) (x4 : Int64) (t : cS) : kO := cf_222_0 N X x1 x2 x4 t
theorem cr_222 {X : Nat → Option zz_C} {s : mS} {N : Nat} {d : Nat} (hd : 12 ≤ d) {Q : zz_O → zz_H → Prop} {x1 : Int32} {x2 : Int64} {x4 : Int64} {h : zz_H} {t t' : cS} {o : kY} (hR : kR h t s) (hf : cf_222 N X x1 x2 x4 t = some (t', o)) (k : ∀ h', kR h' t' s → kE o Q h') : zz_J zp_P zt_tf zt_fd X d zm_222 0 [(0, .ref 58), (1, .int x1), (2, .long x2), (4, .long x4)] [] h Q := by
  unfold cf_222 at hf
  exact zz_J.weak (cr_222_0 hd hR hf k) rfl ⟨rfl, rfl, rfl, rfl, trivial⟩
