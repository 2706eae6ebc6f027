/-! a group that calls itself: expression, unary, indexed, atom, call, builtIn, walk, list -/
def cK0 (X : Nat → Option zz_C) (s : mS) (D : Nat) (rk : Nat → List Value → cS → kO) : Prop := (∀ {d : Nat} (_ : D ≤ d) {Q : zz_O → zz_H → Prop} {x1 : Int32} {h : zz_H} {t t' : cS} {o : kY} (_ : kR h t s) (_ : rk 186 [.int x1] t = some (t', o)) (_ : ∀ h', kR h' t' s → kE o Q h'), zz_J zp_P zt_tf zt_fd X d zm_186 0 [(0, .ref 2), (1, .int x1)] [] h Q) ∧ (∀ {d : Nat} (_ : D ≤ d) {Q : zz_O → zz_H → Prop}  {h : zz_H} {t t' : cS} {o : kY} (_ : kR h t s) (_ : rk 188 [] t = some (t', o)) (_ : ∀ h', kR h' t' s → kE o Q h'), zz_J zp_P zt_tf zt_fd X d zm_188 0 [(0, .ref 2)] [] h Q) ∧ (∀ {d : Nat} (_ : D ≤ d) {Q : zz_O → zz_H → Prop}  {h : zz_H} {t t' : cS} {o : kY} (_ : kR h t s) (_ : rk 189 [] t = some (t', o)) (_ : ∀ h', kR h' t' s → kE o Q h'), zz_J zp_P zt_tf zt_fd X d zm_189 0 [(0, .ref 2)] [] h Q) ∧ (∀ {d : Nat} (_ : D ≤ d) {Q : zz_O → zz_H → Prop}  {h : zz_H} {t t' : cS} {o : kY} (_ : kR h t s) (_ : rk 190 [] t = some (t', o)) (_ : ∀ h', kR h' t' s → kE o Q h'), zz_J zp_P zt_tf zt_fd X d zm_190 0 [(0, .ref 2)] [] h Q) ∧ (∀ {d : Nat} (_ : D ≤ d) {Q : zz_O → zz_H → Prop}  {h : zz_H} {t t' : cS} {o : kY} (_ : kR h t s) (_ : rk 191 [] t = some (t', o)) (_ : ∀ h', kR h' t' s → kE o Q h'), zz_J zp_P zt_tf zt_fd X d zm_191 0 [(0, .ref 2)] [] h Q) ∧ (∀ {d : Nat} (_ : D ≤ d) {Q : zz_O → zz_H → Prop} {x1 : Nat} {h : zz_H} {t t' : cS} {o : kY} (_ : kR h t s) (_ : rk 192 [.ref x1] t = some (t', o)) (_ : ∀ h', kR h' t' s → kE o Q h'), zz_J zp_P zt_tf zt_fd X d zm_192 0 [(0, .ref 2), (1, .ref x1)] [] h Q) ∧ (∀ {d : Nat} (_ : D ≤ d) {Q : zz_O → zz_H → Prop} {x1 : Int32} {x2 : Int32} {h : zz_H} {t t' : cS} {o : kY} (_ : kR h t s) (_ : rk 193 [.int x1, .int x2] t = some (t', o)) (_ : ∀ h', kR h' t' s → kE o Q h'), zz_J zp_P zt_tf zt_fd X d zm_193 0 [(0, .ref 2), (1, .int x1), (2, .int x2)] [] h Q) ∧ (∀ {d : Nat} (_ : D ≤ d) {Q : zz_O → zz_H → Prop} {x1 : Int32} {x2 : Int32} {x3 : Int32} {x4 : Int32} {h : zz_H} {t t' : cS} {o : kY} (_ : kR h t s) (_ : rk 194 [.int x1, .int x2, .int x3, .int x4] t = some (t', o)) (_ : ∀ h', kR h' t' s → kE o Q h'), zz_J zp_P zt_tf zt_fd X d zm_194 0 [(0, .ref 2), (1, .int x1), (2, .int x2), (3, .int x3), (4, .int x4)] [] h Q)
/-! yX5_expression -/
theorem cb_186_0 {X : Nat → Option zz_C} {h : zz_H} {t : cS} {s : mS} {d : Nat} {Q : zz_O → zz_H → Prop} {x1 : Int32} (hR : kR h t s) (k1 : x1 < 4 → (∀ {h : zz_H}, kR h t s → zz_J zp_P zt_tf zt_fd X d zm_186 10 [(0, .ref 2), (1, .int x1)] [] h Q)) (k2 : ¬ x1 < 4 → (∀ {h : zz_H}, kR h t s → zz_J zp_P zt_tf zt_fd X d zm_186 5 [(0, .ref 2)] [] h Q)) : zz_J zp_P zt_tf zt_fd X d zm_186 0 [(0, .ref 2), (1, .int x1)] [] h Q := by
  refine zz_J.n 1 rfl rfl rfl ?_
  refine zz_J.c 2 (.int 4) rfl rfl rfl rfl ?_
  refine zz_J.b2 10 5 (A := x1 < 4) rfl rfl (by decide) rfl rfl (fun c => ?_) (fun c => ?_)
  · exact zz_J.weak (k1 c hR) rfl ⟨rfl, rfl, trivial⟩
  · exact zz_J.weak (k2 c hR) rfl ⟨rfl, trivial⟩
theorem cb_186_5 {X : Nat → Option zz_C} {h : zz_H} {t : cS} {s : mS} {d : Nat} {Q : zz_O → zz_H → Prop}  (hR : kR h t s) (k : ∀ {h : zz_H}, kR h t s → zz_J zp_P zt_tf zt_fd X d zm_188 0 [(0, .ref 2)] [] h (zz_after 5 Q (fun v h' => zz_J zp_P zt_tf zt_fd X (d + 1) zm_186 9 [] (v.toList ++ []) h' Q))) : zz_J zp_P zt_tf zt_fd X (d + 1) zm_186 5 [(0, .ref 2)] [] h Q := by
  refine zz_J.n 6 rfl rfl rfl ?_
  refine zz_J.cv 9 (as := []) rfl rfl (hR.clO ko_2 (by decide) (by decide)) (by decide) (Nat.le_of_ble_eq_true rfl) (Nat.le_of_ble_eq_true rfl) rfl (Nat.le_of_ble_eq_true rfl) rfl ?_
  refine zz_J.mono (k hR) ?_
  intro o h' hE
  cases o with
  | inl v => exact zz_J.weak hE rfl trivial
  | inr q => exact hE
theorem cb_186_9 {X : Nat → Option zz_C} {h : zz_H} {t : cS} {s : mS} {d : Nat} {Q : zz_O → zz_H → Prop}  (hR : kR h t s) (k : ∀ {h : zz_H}, kR h t s → Q (.inl none) h) : zz_J zp_P zt_tf zt_fd X d zm_186 9 [] [] h Q := by
  refine zz_J.ret rfl rfl rfl ?_
  exact k hR
theorem cb_186_10 {X : Nat → Option zz_C} {h : zz_H} {t : cS} {s : mS} {d : Nat} {Q : zz_O → zz_H → Prop} {x1 : Int32} (hR : kR h t s) (k : ∀ {h : zz_H}, kR h t s → zz_J zp_P zt_tf zt_fd X d zm_186 0 [(0, .ref 2), (1, .int (x1 + 1))] [] h (zz_after 5 Q (fun v h' => zz_J zp_P zt_tf zt_fd X (d + 1) zm_186 17 [(0, .ref 2), (1, .int x1)] (v.toList ++ []) h' Q))) : zz_J zp_P zt_tf zt_fd X (d + 1) zm_186 10 [(0, .ref 2), (1, .int x1)] [] h Q := by
  refine zz_J.n 11 rfl rfl rfl ?_
  refine zz_J.n 12 rfl rfl rfl ?_
  refine zz_J.c 13 (.int 1) rfl rfl rfl rfl ?_
  refine zz_J.n 14 rfl rfl rfl ?_
  refine zz_J.cv 17 (as := []) rfl rfl (hR.clO ko_2 (by decide) (by decide)) (by decide) (Nat.le_of_ble_eq_true rfl) (Nat.le_of_ble_eq_true rfl) rfl (Nat.le_of_ble_eq_true rfl) rfl ?_
  refine zz_J.mono (k hR) ?_
  intro o h' hE
  cases o with
  | inl v => exact zz_J.weak hE rfl ⟨rfl, rfl, trivial⟩
  | inr q => exact hE
theorem cb_186_17 {X : Nat → Option zz_C} {h : zz_H} {t : cS} {s : mS} {d : Nat} {Q : zz_O → zz_H → Prop} {x1 : Int32} (hR : kR h t s) (k1 : ¬ x1 = 1 → (∀ {h : zz_H}, kR h t s → zz_J zp_P zt_tf zt_fd X d zm_186 26 [(0, .ref 2), (1, .int x1)] [] h Q)) (k2 : ¬ ¬ x1 = 1 → (∀ {h : zz_H}, kR h t s → zz_J zp_P zt_tf zt_fd X d zm_186 22 [(0, .ref 2), (1, .int x1)] [] h Q)) : zz_J zp_P zt_tf zt_fd X d zm_186 17 [(0, .ref 2), (1, .int x1)] [] h Q := by
  refine zz_J.n 18 rfl rfl rfl ?_
  refine zz_J.c 19 (.int 1) rfl rfl rfl rfl ?_
  refine zz_J.b2 26 22 (A := ¬ x1 = 1) rfl (zz_cond_ne _ _) (by decide) rfl rfl (fun c => ?_) (fun c => ?_)
  · exact zz_J.weak (k1 c hR) rfl ⟨rfl, rfl, trivial⟩
  · exact zz_J.weak (k2 c hR) rfl ⟨rfl, rfl, trivial⟩
theorem cb_186_22 {X : Nat → Option zz_C} {h : zz_H} {t : cS} {s : mS} {d : Nat} {Q : zz_O → zz_H → Prop} {x1 : Int32} (hR : kR h t s) (k : ∀ {h : zz_H}, kR h t s → zz_J zp_P zt_tf zt_fd X d zm_186 33 [(0, .ref 2), (1, .int x1)] [.int 1] h Q) : zz_J zp_P zt_tf zt_fd X d zm_186 22 [(0, .ref 2), (1, .int x1)] [] h Q := by
  refine zz_J.c 23 (.int 1) rfl rfl rfl rfl ?_
  refine zz_J.n 33 rfl rfl rfl ?_
  exact zz_J.weak (k hR) rfl ⟨rfl, rfl, trivial⟩
theorem cb_186_26 {X : Nat → Option zz_C} {h : zz_H} {t : cS} {s : mS} {d : Nat} {Q : zz_O → zz_H → Prop} {x1 : Int32} (hR : kR h t s) (k : ∀ {h : zz_H}, kR h t s → zz_J zp_P zt_tf zt_fd X d zm_41 0 [(0, .ref 3)] [] h (zz_after 10 Q (fun v h' => zz_J zp_P zt_tf zt_fd X (d + 1) zm_186 33 [(0, .ref 2), (1, .int x1)] (v.toList ++ []) h' Q))) : zz_J zp_P zt_tf zt_fd X (d + 1) zm_186 26 [(0, .ref 2), (1, .int x1)] [] h Q := by
  refine zz_J.n 27 rfl rfl rfl ?_
  refine zz_J.g 30 rfl (hR.gv (v := .ref 3) ko_2 (by decide) rfl) rfl ?_
  refine zz_J.cv 33 (as := []) rfl rfl (hR.clO ko_3 (by decide) (by decide)) (by decide) (Nat.le_of_ble_eq_true rfl) (Nat.le_of_ble_eq_true rfl) rfl (Nat.le_of_ble_eq_true rfl) rfl ?_
  refine zz_J.mono (k hR) ?_
  intro o h' hE
  cases o with
  | inl v => exact zz_J.weak hE rfl ⟨rfl, rfl, trivial⟩
  | inr q => exact hE
theorem cb_186_33 {X : Nat → Option zz_C} {h : zz_H} {t : cS} {s : mS} {d : Nat} {Q : zz_O → zz_H → Prop} {x1 : Int32} {y0 : Int32} (hR : kR h t s) (k : ∀ {h : zz_H}, kR h t s → zz_J zp_P zt_tf zt_fd X d zm_186 36 [(0, .ref 2), (1, .int x1), (2, .int y0), (3, .int 0)] [] h Q) : zz_J zp_P zt_tf zt_fd X d zm_186 33 [(0, .ref 2), (1, .int x1)] [.int y0] h Q := by
  refine zz_J.n 34 rfl rfl rfl ?_
  refine zz_J.c 35 (.int 0) rfl rfl rfl rfl ?_
  refine zz_J.n 36 rfl rfl rfl ?_
  exact zz_J.weak (k hR) rfl ⟨rfl, rfl, rfl, rfl, trivial⟩
theorem cb_186_36 {X : Nat → Option zz_C} {h : zz_H} {t : cS} {s : mS} {d : Nat} {Q : zz_O → zz_H → Prop} {x1 : Int32} {x2 : Int32} {x3 : Int32} (hR : kR h t s) (k1 : x2 ≤ x3 → (∀ {h : zz_H}, kR h t s → zz_J zp_P zt_tf zt_fd X d zm_186 107 [] [] h Q)) (k2 : ¬ x2 ≤ x3 → (∀ {h : zz_H}, kR h t s → zz_J zp_P zt_tf zt_fd X d zm_186 41 [(0, .ref 2), (1, .int x1), (2, .int x2), (3, .int x3)] [] h Q)) : zz_J zp_P zt_tf zt_fd X d zm_186 36 [(0, .ref 2), (1, .int x1), (2, .int x2), (3, .int x3)] [] h Q := by
  refine zz_J.n 37 rfl rfl rfl ?_
  refine zz_J.n 38 rfl rfl rfl ?_
  refine zz_J.b2 107 41 (A := x2 ≤ x3) rfl rfl (by decide) rfl rfl (fun c => ?_) (fun c => ?_)
  · exact zz_J.weak (k1 c hR) rfl trivial
  · exact zz_J.weak (k2 c hR) rfl ⟨rfl, rfl, rfl, rfl, trivial⟩
theorem cb_186_41 {X : Nat → Option zz_C} {h : zz_H} {t : cS} {s : mS} {d : Nat} {Q : zz_O → zz_H → Prop} {x1 : Int32} {x2 : Int32} {x3 : Int32} (hR : kR h t s) (k : ∀ {h : zz_H}, kR h t s → zz_J zp_P zt_tf zt_fd X d zm_42 0 [(0, .ref 3)] [] h (zz_after 10 Q (fun v h' => zz_J zp_P zt_tf zt_fd X (d + 1) zm_186 48 [(0, .ref 2), (1, .int x1), (2, .int x2), (3, .int x3)] (v.toList ++ []) h' Q))) : zz_J zp_P zt_tf zt_fd X (d + 1) zm_186 41 [(0, .ref 2), (1, .int x1), (2, .int x2), (3, .int x3)] [] h Q := by
  refine zz_J.n 42 rfl rfl rfl ?_
  refine zz_J.g 45 rfl (hR.gv (v := .ref 3) ko_2 (by decide) rfl) rfl ?_
  refine zz_J.cv 48 (as := []) rfl rfl (hR.clO ko_3 (by decide) (by decide)) (by decide) (Nat.le_of_ble_eq_true rfl) (Nat.le_of_ble_eq_true rfl) rfl (Nat.le_of_ble_eq_true rfl) rfl ?_
  refine zz_J.mono (k hR) ?_
  intro o h' hE
  cases o with
  | inl v => exact zz_J.weak hE rfl ⟨rfl, rfl, rfl, rfl, trivial⟩
  | inr q => exact hE
theorem cb_186_48 {X : Nat → Option zz_C} {h : zz_H} {t : cS} {s : mS} {d : Nat} {Q : zz_O → zz_H → Prop} {x1 : Int32} {x2 : Int32} {x3 : Int32} {y0 : Int32} (hR : kR h t s) (k : ∀ {h : zz_H}, kR h t s → zz_J zp_P zt_tf zt_fd X d zm_187 0 [(0, .int y0)] [] h (zz_after 0 Q (fun v h' => zz_J zp_P zt_tf zt_fd X (d + 1) zm_186 51 [(0, .ref 2), (1, .int x1), (2, .int x2), (3, .int x3)] (v.toList ++ []) h' Q))) : zz_J zp_P zt_tf zt_fd X (d + 1) zm_186 48 [(0, .ref 2), (1, .int x1), (2, .int x2), (3, .int x3)] [.int y0] h Q := by
  refine zz_J.cl (M' := zm_187) 51 rfl rfl (by decide) rfl rfl ⟨rfl, Nat.le_of_ble_eq_true rfl⟩ rfl ?_
  refine zz_J.mono (k hR) ?_
  intro o h' hE
  cases o with
  | inl v => exact zz_J.weak hE rfl ⟨rfl, rfl, rfl, rfl, trivial⟩
  | inr q => exact hE
theorem cb_186_51 {X : Nat → Option zz_C} {h : zz_H} {t : cS} {s : mS} {d : Nat} {Q : zz_O → zz_H → Prop} {x1 : Int32} {x2 : Int32} {x3 : Int32} {y0 : Int32} (hR : kR h t s) (k1 : ¬ y0 = x1 → (∀ {h : zz_H}, kR h t s → zz_J zp_P zt_tf zt_fd X d zm_186 107 [] [] h Q)) (k2 : ¬ ¬ y0 = x1 → (∀ {h : zz_H}, kR h t s → zz_J zp_P zt_tf zt_fd X d zm_186 55 [(0, .ref 2), (1, .int x1), (2, .int x2), (3, .int x3)] [] h Q)) : zz_J zp_P zt_tf zt_fd X d zm_186 51 [(0, .ref 2), (1, .int x1), (2, .int x2), (3, .int x3)] [.int y0] h Q := by
  refine zz_J.n 52 rfl rfl rfl ?_
  refine zz_J.b2 107 55 (A := ¬ y0 = x1) rfl (zz_cond_ne _ _) (by decide) rfl rfl (fun c => ?_) (fun c => ?_)
  · exact zz_J.weak (k1 c hR) rfl trivial
  · exact zz_J.weak (k2 c hR) rfl ⟨rfl, rfl, rfl, rfl, trivial⟩
theorem cb_186_55 {X : Nat → Option zz_C} {h : zz_H} {t : cS} {s : mS} {d : Nat} {Q : zz_O → zz_H → Prop} {x1 : Int32} {x2 : Int32} {x3 : Int32} (hR : kR h t s) (k : ∀ {h : zz_H}, kR h t s → zz_J zp_P zt_tf zt_fd X d zm_42 0 [(0, .ref 3)] [] h (zz_after 10 Q (fun v h' => zz_J zp_P zt_tf zt_fd X (d + 1) zm_186 62 [(0, .ref 2), (1, .int x1), (2, .int x2), (3, .int x3)] (v.toList ++ []) h' Q))) : zz_J zp_P zt_tf zt_fd X (d + 1) zm_186 55 [(0, .ref 2), (1, .int x1), (2, .int x2), (3, .int x3)] [] h Q := by
  refine zz_J.n 56 rfl rfl rfl ?_
  refine zz_J.g 59 rfl (hR.gv (v := .ref 3) ko_2 (by decide) rfl) rfl ?_
  refine zz_J.cv 62 (as := []) rfl rfl (hR.clO ko_3 (by decide) (by decide)) (by decide) (Nat.le_of_ble_eq_true rfl) (Nat.le_of_ble_eq_true rfl) rfl (Nat.le_of_ble_eq_true rfl) rfl ?_
  refine zz_J.mono (k hR) ?_
  intro o h' hE
  cases o with
  | inl v => exact zz_J.weak hE rfl ⟨rfl, rfl, rfl, rfl, trivial⟩
  | inr q => exact hE
theorem cb_186_62 {X : Nat → Option zz_C} {h : zz_H} {t : cS} {s : mS} {d : Nat} {Q : zz_O → zz_H → Prop} {x1 : Int32} {x2 : Int32} {x3 : Int32} {y0 : Int32} (hR : kR h t s) (k : ∀ {h : zz_H}, kR h t s → zz_J zp_P zt_tf zt_fd X d zm_243 0 [(0, .ref 3)] [] h (zz_after 10 Q (fun v h' => zz_J zp_P zt_tf zt_fd X (d + 1) zm_186 71 [(0, .ref 2), (1, .int x1), (2, .int x2), (3, .int x3), (4, .int y0)] (v.toList ++ []) h' Q))) : zz_J zp_P zt_tf zt_fd X (d + 1) zm_186 62 [(0, .ref 2), (1, .int x1), (2, .int x2), (3, .int x3)] [.int y0] h Q := by
  refine zz_J.n 64 rfl rfl rfl ?_
  refine zz_J.n 65 rfl rfl rfl ?_
  refine zz_J.g 68 rfl (hR.gv (v := .ref 3) ko_2 (by decide) rfl) rfl ?_
  refine zz_J.cv 71 (as := []) rfl rfl (hR.clO ko_3 (by decide) (by decide)) (by decide) (Nat.le_of_ble_eq_true rfl) (Nat.le_of_ble_eq_true rfl) rfl (Nat.le_of_ble_eq_true rfl) rfl ?_
  refine zz_J.mono (k hR) ?_
  intro o h' hE
  cases o with
  | inl v => exact zz_J.weak hE rfl ⟨rfl, rfl, rfl, rfl, rfl, trivial⟩
  | inr q => exact hE
theorem cb_186_71 {X : Nat → Option zz_C} {h : zz_H} {t : cS} {s : mS} {d : Nat} {Q : zz_O → zz_H → Prop} {x1 : Int32} {x2 : Int32} {x3 : Int32} {x4 : Int32} {y0 : Int32} (hR : kR h t s) (k : ∀ {h : zz_H}, kR h t s → zz_J zp_P zt_tf zt_fd X d zm_46 0 [(0, .ref 3)] [] h (zz_after 10 Q (fun v h' => zz_J zp_P zt_tf zt_fd X (d + 1) zm_186 80 [(0, .ref 2), (1, .int x1), (2, .int x2), (3, .int x3), (4, .int x4), (5, .int y0)] (v.toList ++ []) h' Q))) : zz_J zp_P zt_tf zt_fd X (d + 1) zm_186 71 [(0, .ref 2), (1, .int x1), (2, .int x2), (3, .int x3), (4, .int x4)] [.int y0] h Q := by
  refine zz_J.n 73 rfl rfl rfl ?_
  refine zz_J.n 74 rfl rfl rfl ?_
  refine zz_J.g 77 rfl (hR.gv (v := .ref 3) ko_2 (by decide) rfl) rfl ?_
  refine zz_J.cv 80 (as := []) rfl rfl (hR.clO ko_3 (by decide) (by decide)) (by decide) (Nat.le_of_ble_eq_true rfl) (Nat.le_of_ble_eq_true rfl) rfl (Nat.le_of_ble_eq_true rfl) rfl ?_
  refine zz_J.mono (k hR) ?_
  intro o h' hE
  cases o with
  | inl v => exact zz_J.weak hE rfl ⟨rfl, rfl, rfl, rfl, rfl, rfl, trivial⟩
  | inr q => exact hE
theorem cb_186_80 {X : Nat → Option zz_C} {h : zz_H} {t : cS} {s : mS} {d : Nat} {Q : zz_O → zz_H → Prop} {x1 : Int32} {x2 : Int32} {x3 : Int32} {x4 : Int32} {x5 : Int32} (hR : kR h t s) (k : ∀ {h : zz_H}, kR h t s → zz_J zp_P zt_tf zt_fd X d zm_186 0 [(0, .ref 2), (1, .int (x1 + 1))] [] h (zz_after 5 Q (fun v h' => zz_J zp_P zt_tf zt_fd X (d + 1) zm_186 87 [(0, .ref 2), (1, .int x1), (2, .int x2), (3, .int x3), (4, .int x4), (5, .int x5)] (v.toList ++ []) h' Q))) : zz_J zp_P zt_tf zt_fd X (d + 1) zm_186 80 [(0, .ref 2), (1, .int x1), (2, .int x2), (3, .int x3), (4, .int x4), (5, .int x5)] [] h Q := by
  refine zz_J.n 81 rfl rfl rfl ?_
  refine zz_J.n 82 rfl rfl rfl ?_
  refine zz_J.c 83 (.int 1) rfl rfl rfl rfl ?_
  refine zz_J.n 84 rfl rfl rfl ?_
  refine zz_J.cv 87 (as := []) rfl rfl (hR.clO ko_2 (by decide) (by decide)) (by decide) (Nat.le_of_ble_eq_true rfl) (Nat.le_of_ble_eq_true rfl) rfl (Nat.le_of_ble_eq_true rfl) rfl ?_
  refine zz_J.mono (k hR) ?_
  intro o h' hE
  cases o with
  | inl v => exact zz_J.weak hE rfl ⟨rfl, rfl, rfl, rfl, rfl, rfl, trivial⟩
  | inr q => exact hE
theorem cb_186_87 {X : Nat → Option zz_C} {h : zz_H} {t : cS} {s : mS} {d : Nat} {Q : zz_O → zz_H → Prop} {x1 : Int32} {x2 : Int32} {x3 : Int32} {x4 : Int32} {x5 : Int32} (hR : kR h t s) {w0 : Nat} (e0 : (kP t 2 1) = some w0) (e1 : w0 = 12 ∨ w0 = 21) (k : ∀ {h : zz_H}, kR h t s → zz_J zp_P zt_tf zt_fd X d zm_209 0 [(0, .ref w0), (1, .int 19), (2, .int x4), (3, .int x5)] [] h (zz_after 6 Q (fun v h' => zz_J zp_P zt_tf zt_fd X (d + 1) zm_186 100 [(0, .ref 2), (1, .int x1), (2, .int x2), (3, .int x3)] (v.toList ++ []) h' Q))) : zz_J zp_P zt_tf zt_fd X (d + 1) zm_186 87 [(0, .ref 2), (1, .int x1), (2, .int x2), (3, .int x3), (4, .int x4), (5, .int x5)] [] h Q := by
  refine zz_J.n 88 rfl rfl rfl ?_
  refine zz_J.g 91 rfl (hR.gv (v := .ref w0) ko_2 (by decide) ((congrArg (fun q => some (zz_rv q)) e0).trans rfl)) rfl ?_
  refine zz_J.c 93 (.int 19) rfl rfl rfl rfl ?_
  refine zz_J.n 95 rfl rfl rfl ?_
  refine zz_J.n 97 rfl rfl rfl ?_
  refine zz_J.cv 100 (as := []) rfl rfl (hR.clO (ko_P e1) (by decide) (by decide)) (by decide) (Nat.le_of_ble_eq_true rfl) (Nat.le_of_ble_eq_true rfl) rfl (Nat.le_of_ble_eq_true rfl) rfl ?_
  refine zz_J.mono (k hR) ?_
  intro o h' hE
  cases o with
  | inl v => exact zz_J.weak hE rfl ⟨rfl, rfl, rfl, rfl, trivial⟩
  | inr q => exact hE
theorem cb_186_100 {X : Nat → Option zz_C} {h : zz_H} {t : cS} {s : mS} {d : Nat} {Q : zz_O → zz_H → Prop} {x1 : Int32} {x2 : Int32} {x3 : Int32} {y0 : Int32} (hR : kR h t s) (k : ∀ {h : zz_H}, kR h t s → zz_J zp_P zt_tf zt_fd X d zm_186 36 [(0, .ref 2), (1, .int x1), (2, .int x2), (3, .int (x3 + 1))] [] h Q) : zz_J zp_P zt_tf zt_fd X d zm_186 100 [(0, .ref 2), (1, .int x1), (2, .int x2), (3, .int x3)] [.int y0] h Q := by
  refine zz_J.n 101 rfl rfl rfl ?_
  refine zz_J.n 104 rfl rfl rfl ?_
  refine zz_J.n 36 rfl rfl rfl ?_
  exact zz_J.weak (k hR) rfl ⟨rfl, rfl, rfl, rfl, trivial⟩
theorem cb_186_107 {X : Nat → Option zz_C} {h : zz_H} {t : cS} {s : mS} {d : Nat} {Q : zz_O → zz_H → Prop}  (hR : kR h t s) (k : ∀ {h : zz_H}, kR h t s → Q (.inl none) h) : zz_J zp_P zt_tf zt_fd X d zm_186 107 [] [] h Q := by
  refine zz_J.ret rfl rfl rfl ?_
  exact k hR
def cf_186_107 (N : Nat) (X : Nat → Option zz_C) (rk : Nat → List Value → cS → kO)  (t : cS) : kO := some (t, .inl none)
theorem cr_186_107 {X : Nat → Option zz_C} {s : mS} {N : Nat} {rk : Nat → List Value → cS → kO} {D : Nat} (hrk : cK0 X s D rk) (hB : 10 ≤ D) {d : Nat} (hd : D + 1 ≤ d) {Q : zz_O → zz_H → Prop}  {h : zz_H} {t t' : cS} {o : kY} (hR : kR h t s) (hf : cf_186_107 N X rk  t = some (t', o)) (k : (∀ h', kR h' t' s → kE o Q h')) : zz_J zp_P zt_tf zt_fd X d zm_186 107 [] [] h Q := by
  unfold cf_186_107 at hf
  cases hf
  exact cb_186_107 hR  (fun {h} hR => k h hR)
def cf_186_100 (N : Nat) (X : Nat → Option zz_C) (rk : Nat → List Value → cS → kO) (rc : Nat → Int32 → Int32 → Int32 → cS → kO) (x1 : Int32) (x2 : Int32) (x3 : Int32) (y0 : Int32) (t : cS) : kO := rc 0 x1 x2 (x3 + 1) t
theorem cr_186_100 {X : Nat → Option zz_C} {s : mS} {N : Nat} {rk : Nat → List Value → cS → kO} {D : Nat} (hrk : cK0 X s D rk) (hB : 10 ≤ D) {d : Nat} (hd : D + 1 ≤ d) {rc : Nat → Int32 → Int32 → Int32 → cS → kO} (hrc0 : ∀ {Q : zz_O → zz_H → Prop} {x1 : Int32} {x2 : Int32} {x3 : Int32} {h : zz_H} {t t' : cS} {o : kY}, kR h t s → rc 0 x1 x2 x3 t = some (t', o) → (∀ h', kR h' t' s → kE o Q h') → zz_J zp_P zt_tf zt_fd X d zm_186 36 [(0, .ref 2), (1, .int x1), (2, .int x2), (3, .int x3)] [] h Q) {Q : zz_O → zz_H → Prop} {x1 : Int32} {x2 : Int32} {x3 : Int32} {y0 : Int32} {h : zz_H} {t t' : cS} {o : kY} (hR : kR h t s) (hf : cf_186_100 N X rk rc x1 x2 x3 y0 t = some (t', o)) (k : (∀ h', kR h' t' s → kE o Q h')) : zz_J zp_P zt_tf zt_fd X d zm_186 100 [(0, .ref 2), (1, .int x1), (2, .int x2), (3, .int x3)] [.int y0] h Q := by
  unfold cf_186_100 at hf
  exact cb_186_100 hR  (fun hR => hrc0 hR hf k)
def cf_186_87 (N : Nat) (X : Nat → Option zz_C) (rk : Nat → List Value → cS → kO) (rc : Nat → Int32 → Int32 → Int32 → cS → kO) (x1 : Int32) (x2 : Int32) (x3 : Int32) (x4 : Int32) (x5 : Int32) (t : cS) : kO := co_b ((kP t 2 1)) (fun w0 => if w0 = 12 ∨ w0 = 21 then (ko_call 6 (cf_209 N X w0 19 x4 x5 t) (fun g1 v1 => co_i v1 (fun y => cf_186_100 N X rk rc x1 x2 x3 y g1))) else none)
theorem cr_186_87 {X : Nat → Option zz_C} {s : mS} {N : Nat} {rk : Nat → List Value → cS → kO} {D : Nat} (hrk : cK0 X s D rk) (hB : 10 ≤ D) {d : Nat} (hd : D + 1 ≤ d) {rc : Nat → Int32 → Int32 → Int32 → cS → kO} (hrc0 : ∀ {Q : zz_O → zz_H → Prop} {x1 : Int32} {x2 : Int32} {x3 : Int32} {h : zz_H} {t t' : cS} {o : kY}, kR h t s → rc 0 x1 x2 x3 t = some (t', o) → (∀ h', kR h' t' s → kE o Q h') → zz_J zp_P zt_tf zt_fd X d zm_186 36 [(0, .ref 2), (1, .int x1), (2, .int x2), (3, .int x3)] [] h Q) {Q : zz_O → zz_H → Prop} {x1 : Int32} {x2 : Int32} {x3 : Int32} {x4 : Int32} {x5 : Int32} {h : zz_H} {t t' : cS} {o : kY} (hR : kR h t s) (hf : cf_186_87 N X rk rc x1 x2 x3 x4 x5 t = some (t', o)) (k : (∀ h', kR h' t' s → kE o Q h')) : zz_J zp_P zt_tf zt_fd X d zm_186 87 [(0, .ref 2), (1, .int x1), (2, .int x2), (3, .int x3), (4, .int x4), (5, .int x5)] [] h Q := by
  unfold cf_186_87 at hf
  obtain ⟨w0, e0, hf⟩ := co_b_ok hf
  obtain ⟨e1, hf⟩ := ko_if hf
  obtain ⟨d', rfl⟩ : ∃ d', d = d' + 1 := ⟨d - 1, by omega⟩
  refine cb_186_87 hR e0 e1 (fun {h} hR => ?_)
  rcases ko_call_ok hf with ⟨g1, v1, er, hf⟩ | ⟨g1, er, hq⟩
  · obtain ⟨y, hv, hf2⟩ := co_i_ok hf
    clear hf
    have hf := hf2
    clear hf2
    subst hv
    refine cr_209 (by omega) hR er (fun h hR => ?_)
    exact cr_186_100 hrk hB hd hrc0 hR hf k
  · refine cr_209 (by omega) hR er (fun h hR => ?_)
    exact ko_thrown hq hR k
def cf_186_80 (N : Nat) (X : Nat → Option zz_C) (rk : Nat → List Value → cS → kO) (rc : Nat → Int32 → Int32 → Int32 → cS → kO) (x1 : Int32) (x2 : Int32) (x3 : Int32) (x4 : Int32) (x5 : Int32) (t : cS) : kO := ko_call 5 (rk 186 [.int (x1 + 1)] t) (fun g1 v1 => co_v v1 (cf_186_87 N X rk rc x1 x2 x3 x4 x5 g1))
theorem cr_186_80 {X : Nat → Option zz_C} {s : mS} {N : Nat} {rk : Nat → List Value → cS → kO} {D : Nat} (hrk : cK0 X s D rk) (hB : 10 ≤ D) {d : Nat} (hd : D + 1 ≤ d) {rc : Nat → Int32 → Int32 → Int32 → cS → kO} (hrc0 : ∀ {Q : zz_O → zz_H → Prop} {x1 : Int32} {x2 : Int32} {x3 : Int32} {h : zz_H} {t t' : cS} {o : kY}, kR h t s → rc 0 x1 x2 x3 t = some (t', o) → (∀ h', kR h' t' s → kE o Q h') → zz_J zp_P zt_tf zt_fd X d zm_186 36 [(0, .ref 2), (1, .int x1), (2, .int x2), (3, .int x3)] [] h Q) {Q : zz_O → zz_H → Prop} {x1 : Int32} {x2 : Int32} {x3 : Int32} {x4 : Int32} {x5 : Int32} {h : zz_H} {t t' : cS} {o : kY} (hR : kR h t s) (hf : cf_186_80 N X rk rc x1 x2 x3 x4 x5 t = some (t', o)) (k : (∀ h', kR h' t' s → kE o Q h')) : zz_J zp_P zt_tf zt_fd X d zm_186 80 [(0, .ref 2), (1, .int x1), (2, .int x2), (3, .int x3), (4, .int x4), (5, .int x5)] [] h Q := by
  unfold cf_186_80 at hf
  obtain ⟨d', rfl⟩ : ∃ d', d = d' + 1 := ⟨d - 1, by omega⟩
  refine cb_186_80 hR  (fun {h} hR => ?_)
  rcases ko_call_ok hf with ⟨g1, v1, er, hf⟩ | ⟨g1, er, hq⟩
  · obtain ⟨hv, hf2⟩ := co_v_ok hf
    clear hf
    have hf := hf2
    clear hf2
    subst hv
    refine hrk.1 (by omega) hR er (fun h hR => ?_)
    exact cr_186_87 hrk hB hd hrc0 hR hf k
  · refine hrk.1 (by omega) hR er (fun h hR => ?_)
    exact ko_thrown hq hR k
def cf_186_71 (N : Nat) (X : Nat → Option zz_C) (rk : Nat → List Value → cS → kO) (rc : Nat → Int32 → Int32 → Int32 → cS → kO) (x1 : Int32) (x2 : Int32) (x3 : Int32) (x4 : Int32) (y0 : Int32) (t : cS) : kO := ko_call 10 (cf_46 N X  t) (fun g1 v1 => co_v v1 (cf_186_80 N X rk rc x1 x2 x3 x4 y0 g1))
theorem cr_186_71 {X : Nat → Option zz_C} {s : mS} {N : Nat} {rk : Nat → List Value → cS → kO} {D : Nat} (hrk : cK0 X s D rk) (hB : 10 ≤ D) {d : Nat} (hd : D + 1 ≤ d) {rc : Nat → Int32 → Int32 → Int32 → cS → kO} (hrc0 : ∀ {Q : zz_O → zz_H → Prop} {x1 : Int32} {x2 : Int32} {x3 : Int32} {h : zz_H} {t t' : cS} {o : kY}, kR h t s → rc 0 x1 x2 x3 t = some (t', o) → (∀ h', kR h' t' s → kE o Q h') → zz_J zp_P zt_tf zt_fd X d zm_186 36 [(0, .ref 2), (1, .int x1), (2, .int x2), (3, .int x3)] [] h Q) {Q : zz_O → zz_H → Prop} {x1 : Int32} {x2 : Int32} {x3 : Int32} {x4 : Int32} {y0 : Int32} {h : zz_H} {t t' : cS} {o : kY} (hR : kR h t s) (hf : cf_186_71 N X rk rc x1 x2 x3 x4 y0 t = some (t', o)) (k : (∀ h', kR h' t' s → kE o Q h')) : zz_J zp_P zt_tf zt_fd X d zm_186 71 [(0, .ref 2), (1, .int x1), (2, .int x2), (3, .int x3), (4, .int x4)] [.int y0] h Q := by
  unfold cf_186_71 at hf
  obtain ⟨d', rfl⟩ : ∃ d', d = d' + 1 := ⟨d - 1, by omega⟩
  refine cb_186_71 hR  (fun {h} hR => ?_)
  rcases ko_call_ok hf with ⟨g1, v1, er, hf⟩ | ⟨g1, er, hq⟩
  · obtain ⟨hv, hf2⟩ := co_v_ok hf
    clear hf
    have hf := hf2
    clear hf2
    subst hv
    refine cr_46 (by omega) hR er (fun h hR => ?_)
    exact cr_186_80 hrk hB hd hrc0 hR hf k
  · refine cr_46 (by omega) hR er (fun h hR => ?_)
    exact ko_thrown hq hR k
def cf_186_62 (N : Nat) (X : Nat → Option zz_C) (rk : Nat → List Value → cS → kO) (rc : Nat → Int32 → Int32 → Int32 → cS → kO) (x1 : Int32) (x2 : Int32) (x3 : Int32) (y0 : Int32) (t : cS) : kO := ko_call 10 (cf_243 N X  t) (fun g1 v1 => co_i v1 (fun y => cf_186_71 N X rk rc x1 x2 x3 y0 y g1))
theorem cr_186_62 {X : Nat → Option zz_C} {s : mS} {N : Nat} {rk : Nat → List Value → cS → kO} {D : Nat} (hrk : cK0 X s D rk) (hB : 10 ≤ D) {d : Nat} (hd : D + 1 ≤ d) {rc : Nat → Int32 → Int32 → Int32 → cS → kO} (hrc0 : ∀ {Q : zz_O → zz_H → Prop} {x1 : Int32} {x2 : Int32} {x3 : Int32} {h : zz_H} {t t' : cS} {o : kY}, kR h t s → rc 0 x1 x2 x3 t = some (t', o) → (∀ h', kR h' t' s → kE o Q h') → zz_J zp_P zt_tf zt_fd X d zm_186 36 [(0, .ref 2), (1, .int x1), (2, .int x2), (3, .int x3)] [] h Q) {Q : zz_O → zz_H → Prop} {x1 : Int32} {x2 : Int32} {x3 : Int32} {y0 : Int32} {h : zz_H} {t t' : cS} {o : kY} (hR : kR h t s) (hf : cf_186_62 N X rk rc x1 x2 x3 y0 t = some (t', o)) (k : (∀ h', kR h' t' s → kE o Q h')) : zz_J zp_P zt_tf zt_fd X d zm_186 62 [(0, .ref 2), (1, .int x1), (2, .int x2), (3, .int x3)] [.int y0] h Q := by
  unfold cf_186_62 at hf
  obtain ⟨d', rfl⟩ : ∃ d', d = d' + 1 := ⟨d - 1, by omega⟩
  refine cb_186_62 hR  (fun {h} hR => ?_)
  rcases ko_call_ok hf with ⟨g1, v1, er, hf⟩ | ⟨g1, er, hq⟩
  · obtain ⟨y, hv, hf2⟩ := co_i_ok hf
    clear hf
    have hf := hf2
    clear hf2
    subst hv
    refine cr_243 (by omega) hR er (fun h hR => ?_)
    exact cr_186_71 hrk hB hd hrc0 hR hf k
  · refine cr_243 (by omega) hR er (fun h hR => ?_)
    exact ko_thrown hq hR k
def cf_186_55 (N : Nat) (X : Nat → Option zz_C) (rk : Nat → List Value → cS → kO) (rc : Nat → Int32 → Int32 → Int32 → cS → kO) (x1 : Int32) (x2 : Int32) (x3 : Int32) (t : cS) : kO := ko_call 10 (cf_42 N X  t) (fun g1 v1 => co_i v1 (fun y => cf_186_62 N X rk rc x1 x2 x3 y g1))
theorem cr_186_55 {X : Nat → Option zz_C} {s : mS} {N : Nat} {rk : Nat → List Value → cS → kO} {D : Nat} (hrk : cK0 X s D rk) (hB : 10 ≤ D) {d : Nat} (hd : D + 1 ≤ d) {rc : Nat → Int32 → Int32 → Int32 → cS → kO} (hrc0 : ∀ {Q : zz_O → zz_H → Prop} {x1 : Int32} {x2 : Int32} {x3 : Int32} {h : zz_H} {t t' : cS} {o : kY}, kR h t s → rc 0 x1 x2 x3 t = some (t', o) → (∀ h', kR h' t' s → kE o Q h') → zz_J zp_P zt_tf zt_fd X d zm_186 36 [(0, .ref 2), (1, .int x1), (2, .int x2), (3, .int x3)] [] h Q) {Q : zz_O → zz_H → Prop} {x1 : Int32} {x2 : Int32} {x3 : Int32} {h : zz_H} {t t' : cS} {o : kY} (hR : kR h t s) (hf : cf_186_55 N X rk rc x1 x2 x3 t = some (t', o)) (k : (∀ h', kR h' t' s → kE o Q h')) : zz_J zp_P zt_tf zt_fd X d zm_186 55 [(0, .ref 2), (1, .int x1), (2, .int x2), (3, .int x3)] [] h Q := by
  unfold cf_186_55 at hf
  obtain ⟨d', rfl⟩ : ∃ d', d = d' + 1 := ⟨d - 1, by omega⟩
  refine cb_186_55 hR  (fun {h} hR => ?_)
  rcases ko_call_ok hf with ⟨g1, v1, er, hf⟩ | ⟨g1, er, hq⟩
  · obtain ⟨y, hv, hf2⟩ := co_i_ok hf
    clear hf
    have hf := hf2
    clear hf2
    subst hv
    refine cr_42 (by omega) hR er (fun h hR => ?_)
    exact cr_186_62 hrk hB hd hrc0 hR hf k
  · refine cr_42 (by omega) hR er (fun h hR => ?_)
    exact ko_thrown hq hR k
def cf_186_51 (N : Nat) (X : Nat → Option zz_C) (rk : Nat → List Value → cS → kO) (rc : Nat → Int32 → Int32 → Int32 → cS → kO) (x1 : Int32) (x2 : Int32) (x3 : Int32) (y0 : Int32) (t : cS) : kO := if ¬ y0 = x1 then cf_186_107 N X rk  t else cf_186_55 N X rk rc x1 x2 x3 t
theorem cr_186_51 {X : Nat → Option zz_C} {s : mS} {N : Nat} {rk : Nat → List Value → cS → kO} {D : Nat} (hrk : cK0 X s D rk) (hB : 10 ≤ D) {d : Nat} (hd : D + 1 ≤ d) {rc : Nat → Int32 → Int32 → Int32 → cS → kO} (hrc0 : ∀ {Q : zz_O → zz_H → Prop} {x1 : Int32} {x2 : Int32} {x3 : Int32} {h : zz_H} {t t' : cS} {o : kY}, kR h t s → rc 0 x1 x2 x3 t = some (t', o) → (∀ h', kR h' t' s → kE o Q h') → zz_J zp_P zt_tf zt_fd X d zm_186 36 [(0, .ref 2), (1, .int x1), (2, .int x2), (3, .int x3)] [] h Q) {Q : zz_O → zz_H → Prop} {x1 : Int32} {x2 : Int32} {x3 : Int32} {y0 : Int32} {h : zz_H} {t t' : cS} {o : kY} (hR : kR h t s) (hf : cf_186_51 N X rk rc x1 x2 x3 y0 t = some (t', o)) (k : (∀ h', kR h' t' s → kE o Q h')) : zz_J zp_P zt_tf zt_fd X d zm_186 51 [(0, .ref 2), (1, .int x1), (2, .int x2), (3, .int x3)] [.int y0] h Q := by
  unfold cf_186_51 at hf
  refine cb_186_51 hR  (fun c {h} hR => ?_) (fun c {h} hR => ?_)
  · rw [if_pos c] at hf
    exact cr_186_107 hrk hB hd hR hf k
  · rw [if_neg c] at hf
    exact cr_186_55 hrk hB hd hrc0 hR hf k
def cf_186_48 (N : Nat) (X : Nat → Option zz_C) (rk : Nat → List Value → cS → kO) (rc : Nat → Int32 → Int32 → Int32 → cS → kO) (x1 : Int32) (x2 : Int32) (x3 : Int32) (y0 : Int32) (t : cS) : kO := ko_call 0 (cf_187 N X y0 t) (fun g1 v1 => co_i v1 (fun y => cf_186_51 N X rk rc x1 x2 x3 y g1))
theorem cr_186_48 {X : Nat → Option zz_C} {s : mS} {N : Nat} {rk : Nat → List Value → cS → kO} {D : Nat} (hrk : cK0 X s D rk) (hB : 10 ≤ D) {d : Nat} (hd : D + 1 ≤ d) {rc : Nat → Int32 → Int32 → Int32 → cS → kO} (hrc0 : ∀ {Q : zz_O → zz_H → Prop} {x1 : Int32} {x2 : Int32} {x3 : Int32} {h : zz_H} {t t' : cS} {o : kY}, kR h t s → rc 0 x1 x2 x3 t = some (t', o) → (∀ h', kR h' t' s → kE o Q h') → zz_J zp_P zt_tf zt_fd X d zm_186 36 [(0, .ref 2), (1, .int x1), (2, .int x2), (3, .int x3)] [] h Q) {Q : zz_O → zz_H → Prop} {x1 : Int32} {x2 : Int32} {x3 : Int32} {y0 : Int32} {h : zz_H} {t t' : cS} {o : kY} (hR : kR h t s) (hf : cf_186_48 N X rk rc x1 x2 x3 y0 t = some (t', o)) (k : (∀ h', kR h' t' s → kE o Q h')) : zz_J zp_P zt_tf zt_fd X d zm_186 48 [(0, .ref 2), (1, .int x1), (2, .int x2), (3, .int x3)] [.int y0] h Q := by
  unfold cf_186_48 at hf
  obtain ⟨d', rfl⟩ : ∃ d', d = d' + 1 := ⟨d - 1, by omega⟩
  refine cb_186_48 hR  (fun {h} hR => ?_)
  rcases ko_call_ok hf with ⟨g1, v1, er, hf⟩ | ⟨g1, er, hq⟩
  · obtain ⟨y, hv, hf2⟩ := co_i_ok hf
    clear hf
    have hf := hf2
    clear hf2
    subst hv
    refine cr_187 (by omega) hR er (fun h hR => ?_)
    exact cr_186_51 hrk hB hd hrc0 hR hf k
  · refine cr_187 (by omega) hR er (fun h hR => ?_)
    exact ko_thrown hq hR k
def cf_186_41 (N : Nat) (X : Nat → Option zz_C) (rk : Nat → List Value → cS → kO) (rc : Nat → Int32 → Int32 → Int32 → cS → kO) (x1 : Int32) (x2 : Int32) (x3 : Int32) (t : cS) : kO := ko_call 10 (cf_42 N X  t) (fun g1 v1 => co_i v1 (fun y => cf_186_48 N X rk rc x1 x2 x3 y g1))
theorem cr_186_41 {X : Nat → Option zz_C} {s : mS} {N : Nat} {rk : Nat → List Value → cS → kO} {D : Nat} (hrk : cK0 X s D rk) (hB : 10 ≤ D) {d : Nat} (hd : D + 1 ≤ d) {rc : Nat → Int32 → Int32 → Int32 → cS → kO} (hrc0 : ∀ {Q : zz_O → zz_H → Prop} {x1 : Int32} {x2 : Int32} {x3 : Int32} {h : zz_H} {t t' : cS} {o : kY}, kR h t s → rc 0 x1 x2 x3 t = some (t', o) → (∀ h', kR h' t' s → kE o Q h') → zz_J zp_P zt_tf zt_fd X d zm_186 36 [(0, .ref 2), (1, .int x1), (2, .int x2), (3, .int x3)] [] h Q) {Q : zz_O → zz_H → Prop} {x1 : Int32} {x2 : Int32} {x3 : Int32} {h : zz_H} {t t' : cS} {o : kY} (hR : kR h t s) (hf : cf_186_41 N X rk rc x1 x2 x3 t = some (t', o)) (k : (∀ h', kR h' t' s → kE o Q h')) : zz_J zp_P zt_tf zt_fd X d zm_186 41 [(0, .ref 2), (1, .int x1), (2, .int x2), (3, .int x3)] [] h Q := by
  unfold cf_186_41 at hf
  obtain ⟨d', rfl⟩ : ∃ d', d = d' + 1 := ⟨d - 1, by omega⟩
  refine cb_186_41 hR  (fun {h} hR => ?_)
  rcases ko_call_ok hf with ⟨g1, v1, er, hf⟩ | ⟨g1, er, hq⟩
  · obtain ⟨y, hv, hf2⟩ := co_i_ok hf
    clear hf
    have hf := hf2
    clear hf2
    subst hv
    refine cr_42 (by omega) hR er (fun h hR => ?_)
    exact cr_186_48 hrk hB hd hrc0 hR hf k
  · refine cr_42 (by omega) hR er (fun h hR => ?_)
    exact ko_thrown hq hR k
def cf_186_36 (N : Nat) (X : Nat → Option zz_C) (rk : Nat → List Value → cS → kO) (rc : Nat → Int32 → Int32 → Int32 → cS → kO) (x1 : Int32) (x2 : Int32) (x3 : Int32) (t : cS) : kO := if x2 ≤ x3 then cf_186_107 N X rk  t else cf_186_41 N X rk rc x1 x2 x3 t
theorem cr_186_36 {X : Nat → Option zz_C} {s : mS} {N : Nat} {rk : Nat → List Value → cS → kO} {D : Nat} (hrk : cK0 X s D rk) (hB : 10 ≤ D) {d : Nat} (hd : D + 1 ≤ d) {rc : Nat → Int32 → Int32 → Int32 → cS → kO} (hrc0 : ∀ {Q : zz_O → zz_H → Prop} {x1 : Int32} {x2 : Int32} {x3 : Int32} {h : zz_H} {t t' : cS} {o : kY}, kR h t s → rc 0 x1 x2 x3 t = some (t', o) → (∀ h', kR h' t' s → kE o Q h') → zz_J zp_P zt_tf zt_fd X d zm_186 36 [(0, .ref 2), (1, .int x1), (2, .int x2), (3, .int x3)] [] h Q) {Q : zz_O → zz_H → Prop} {x1 : Int32} {x2 : Int32} {x3 : Int32} {h : zz_H} {t t' : cS} {o : kY} (hR : kR h t s) (hf : cf_186_36 N X rk rc x1 x2 x3 t = some (t', o)) (k : (∀ h', kR h' t' s → kE o Q h')) : zz_J zp_P zt_tf zt_fd X d zm_186 36 [(0, .ref 2), (1, .int x1), (2, .int x2), (3, .int x3)] [] h Q := by
  unfold cf_186_36 at hf
  refine cb_186_36 hR  (fun c {h} hR => ?_) (fun c {h} hR => ?_)
  · rw [if_pos c] at hf
    exact cr_186_107 hrk hB hd hR hf k
  · rw [if_neg c] at hf
    exact cr_186_41 hrk hB hd hrc0 hR hf k
def cf_186_L1 (N : Nat) (X : Nat → Option zz_C) (rk : Nat → List Value → cS → kO) : Nat → Nat → Int32 → Int32 → Int32 → cS → kO
  | 0, _, _, _, _, _ => none
  | n + 1, l, x1, x2, x3, t => if l = 0 then cf_186_36 N X rk (cf_186_L1 N X rk n) x1 x2 x3 t else none
theorem cr_186_L1 {X : Nat → Option zz_C} {s : mS} {N : Nat} {rk : Nat → List Value → cS → kO} {D : Nat} (hrk : cK0 X s D rk) (hB : 10 ≤ D) {d : Nat} (hd : D + 1 ≤ d) : ∀ n : Nat, (∀ {Q : zz_O → zz_H → Prop} {x1 : Int32} {x2 : Int32} {x3 : Int32} {h : zz_H} {t t' : cS} {o : kY}, kR h t s → cf_186_L1 N X rk n 0 x1 x2 x3 t = some (t', o) → (∀ h', kR h' t' s → kE o Q h') → zz_J zp_P zt_tf zt_fd X d zm_186 36 [(0, .ref 2), (1, .int x1), (2, .int x2), (3, .int x3)] [] h Q) := by
  intro n
  induction n with
  | zero => exact (fun _ hf _ => by cases hf)
  | succ n ih =>
    have h0 := @ih
    intro Q _ _ _ h t t' o hR hf k
    unfold cf_186_L1 at hf
    rw [if_pos rfl] at hf
    exact cr_186_36 hrk hB hd h0 hR hf k
def cf_186_33 (N : Nat) (X : Nat → Option zz_C) (rk : Nat → List Value → cS → kO) (x1 : Int32) (y0 : Int32) (t : cS) : kO := cf_186_L1 N X rk N 0 x1 y0 0 t
theorem cr_186_33 {X : Nat → Option zz_C} {s : mS} {N : Nat} {rk : Nat → List Value → cS → kO} {D : Nat} (hrk : cK0 X s D rk) (hB : 10 ≤ D) {d : Nat} (hd : D + 1 ≤ d) {Q : zz_O → zz_H → Prop} {x1 : Int32} {y0 : Int32} {h : zz_H} {t t' : cS} {o : kY} (hR : kR h t s) (hf : cf_186_33 N X rk x1 y0 t = some (t', o)) (k : (∀ h', kR h' t' s → kE o Q h')) : zz_J zp_P zt_tf zt_fd X d zm_186 33 [(0, .ref 2), (1, .int x1)] [.int y0] h Q := by
  unfold cf_186_33 at hf
  exact cb_186_33 hR  (fun hR => cr_186_L1 hrk hB hd N hR hf k)
def cf_186_26 (N : Nat) (X : Nat → Option zz_C) (rk : Nat → List Value → cS → kO) (x1 : Int32) (t : cS) : kO := ko_call 10 (cf_41 N X  t) (fun g1 v1 => co_i v1 (fun y => cf_186_33 N X rk x1 y g1))
theorem cr_186_26 {X : Nat → Option zz_C} {s : mS} {N : Nat} {rk : Nat → List Value → cS → kO} {D : Nat} (hrk : cK0 X s D rk) (hB : 10 ≤ D) {d : Nat} (hd : D + 1 ≤ d) {Q : zz_O → zz_H → Prop} {x1 : Int32} {h : zz_H} {t t' : cS} {o : kY} (hR : kR h t s) (hf : cf_186_26 N X rk x1 t = some (t', o)) (k : (∀ h', kR h' t' s → kE o Q h')) : zz_J zp_P zt_tf zt_fd X d zm_186 26 [(0, .ref 2), (1, .int x1)] [] h Q := by
  unfold cf_186_26 at hf
  obtain ⟨d', rfl⟩ : ∃ d', d = d' + 1 := ⟨d - 1, by omega⟩
  refine cb_186_26 hR  (fun {h} hR => ?_)
  rcases ko_call_ok hf with ⟨g1, v1, er, hf⟩ | ⟨g1, er, hq⟩
  · obtain ⟨y, hv, hf2⟩ := co_i_ok hf
    clear hf
    have hf := hf2
    clear hf2
    subst hv
    refine cr_41 (by omega) hR er (fun h hR => ?_)
    exact cr_186_33 hrk hB hd hR hf k
  · refine cr_41 (by omega) hR er (fun h hR => ?_)
    exact ko_thrown hq hR k
def cf_186_22 (N : Nat) (X : Nat → Option zz_C) (rk : Nat → List Value → cS → kO) (x1 : Int32) (t : cS) : kO := cf_186_33 N X rk x1 1 t
theorem cr_186_22 {X : Nat → Option zz_C} {s : mS} {N : Nat} {rk : Nat → List Value → cS → kO} {D : Nat} (hrk : cK0 X s D rk) (hB : 10 ≤ D) {d : Nat} (hd : D + 1 ≤ d) {Q : zz_O → zz_H → Prop} {x1 : Int32} {h : zz_H} {t t' : cS} {o : kY} (hR : kR h t s) (hf : cf_186_22 N X rk x1 t = some (t', o)) (k : (∀ h', kR h' t' s → kE o Q h')) : zz_J zp_P zt_tf zt_fd X d zm_186 22 [(0, .ref 2), (1, .int x1)] [] h Q := by
  unfold cf_186_22 at hf
  exact cb_186_22 hR  (fun hR => cr_186_33 hrk hB hd hR hf k)
def cf_186_17 (N : Nat) (X : Nat → Option zz_C) (rk : Nat → List Value → cS → kO) (x1 : Int32) (t : cS) : kO := if ¬ x1 = 1 then cf_186_26 N X rk x1 t else cf_186_22 N X rk x1 t
theorem cr_186_17 {X : Nat → Option zz_C} {s : mS} {N : Nat} {rk : Nat → List Value → cS → kO} {D : Nat} (hrk : cK0 X s D rk) (hB : 10 ≤ D) {d : Nat} (hd : D + 1 ≤ d) {Q : zz_O → zz_H → Prop} {x1 : Int32} {h : zz_H} {t t' : cS} {o : kY} (hR : kR h t s) (hf : cf_186_17 N X rk x1 t = some (t', o)) (k : (∀ h', kR h' t' s → kE o Q h')) : zz_J zp_P zt_tf zt_fd X d zm_186 17 [(0, .ref 2), (1, .int x1)] [] h Q := by
  unfold cf_186_17 at hf
  refine cb_186_17 hR  (fun c {h} hR => ?_) (fun c {h} hR => ?_)
  · rw [if_pos c] at hf
    exact cr_186_26 hrk hB hd hR hf k
  · rw [if_neg c] at hf
    exact cr_186_22 hrk hB hd hR hf k
def cf_186_10 (N : Nat) (X : Nat → Option zz_C) (rk : Nat → List Value → cS → kO) (x1 : Int32) (t : cS) : kO := ko_call 5 (rk 186 [.int (x1 + 1)] t) (fun g1 v1 => co_v v1 (cf_186_17 N X rk x1 g1))
theorem cr_186_10 {X : Nat → Option zz_C} {s : mS} {N : Nat} {rk : Nat → List Value → cS → kO} {D : Nat} (hrk : cK0 X s D rk) (hB : 10 ≤ D) {d : Nat} (hd : D + 1 ≤ d) {Q : zz_O → zz_H → Prop} {x1 : Int32} {h : zz_H} {t t' : cS} {o : kY} (hR : kR h t s) (hf : cf_186_10 N X rk x1 t = some (t', o)) (k : (∀ h', kR h' t' s → kE o Q h')) : zz_J zp_P zt_tf zt_fd X d zm_186 10 [(0, .ref 2), (1, .int x1)] [] h Q := by
  unfold cf_186_10 at hf
  obtain ⟨d', rfl⟩ : ∃ d', d = d' + 1 := ⟨d - 1, by omega⟩
  refine cb_186_10 hR  (fun {h} hR => ?_)
  rcases ko_call_ok hf with ⟨g1, v1, er, hf⟩ | ⟨g1, er, hq⟩
  · obtain ⟨hv, hf2⟩ := co_v_ok hf
    clear hf
    have hf := hf2
    clear hf2
    subst hv
    refine hrk.1 (by omega) hR er (fun h hR => ?_)
    exact cr_186_17 hrk hB hd hR hf k
  · refine hrk.1 (by omega) hR er (fun h hR => ?_)
    exact ko_thrown hq hR k
def cf_186_9 (N : Nat) (X : Nat → Option zz_C) (rk : Nat → List Value → cS → kO)  (t : cS) : kO := some (t, .inl none)
theorem cr_186_9 {X : Nat → Option zz_C} {s : mS} {N : Nat} {rk : Nat → List Value → cS → kO} {D : Nat} (hrk : cK0 X s D rk) (hB : 10 ≤ D) {d : Nat} (hd : D + 1 ≤ d) {Q : zz_O → zz_H → Prop}  {h : zz_H} {t t' : cS} {o : kY} (hR : kR h t s) (hf : cf_186_9 N X rk  t = some (t', o)) (k : (∀ h', kR h' t' s → kE o Q h')) : zz_J zp_P zt_tf zt_fd X d zm_186 9 [] [] h Q := by
  unfold cf_186_9 at hf
  cases hf
  exact cb_186_9 hR  (fun {h} hR => k h hR)
def cf_186_5 (N : Nat) (X : Nat → Option zz_C) (rk : Nat → List Value → cS → kO)  (t : cS) : kO := ko_call 5 (rk 188 [] t) (fun g1 v1 => co_v v1 (cf_186_9 N X rk  g1))
theorem cr_186_5 {X : Nat → Option zz_C} {s : mS} {N : Nat} {rk : Nat → List Value → cS → kO} {D : Nat} (hrk : cK0 X s D rk) (hB : 10 ≤ D) {d : Nat} (hd : D + 1 ≤ d) {Q : zz_O → zz_H → Prop}  {h : zz_H} {t t' : cS} {o : kY} (hR : kR h t s) (hf : cf_186_5 N X rk  t = some (t', o)) (k : (∀ h', kR h' t' s → kE o Q h')) : zz_J zp_P zt_tf zt_fd X d zm_186 5 [(0, .ref 2)] [] h Q := by
  unfold cf_186_5 at hf
  obtain ⟨d', rfl⟩ : ∃ d', d = d' + 1 := ⟨d - 1, by omega⟩
  refine cb_186_5 hR  (fun {h} hR => ?_)
  rcases ko_call_ok hf with ⟨g1, v1, er, hf⟩ | ⟨g1, er, hq⟩
  · obtain ⟨hv, hf2⟩ := co_v_ok hf
    clear hf
    have hf := hf2
    clear hf2
    subst hv
    refine hrk.2.1 (by omega) hR er (fun h hR => ?_)
    exact cr_186_9 hrk hB hd hR hf k
  · refine hrk.2.1 (by omega) hR er (fun h hR => ?_)
    exact ko_thrown hq hR k
def cf_186_0 (N : Nat) (X : Nat → Option zz_C) (rk : Nat → List Value → cS → kO) (x1 : Int32) (t : cS) : kO := if x1 < 4 then cf_186_10 N X rk x1 t else cf_186_5 N X rk  t
theorem cr_186_0 {X : Nat → Option zz_C} {s : mS} {N : Nat} {rk : Nat → List Value → cS → kO} {D : Nat} (hrk : cK0 X s D rk) (hB : 10 ≤ D) {d : Nat} (hd : D + 1 ≤ d) {Q : zz_O → zz_H → Prop} {x1 : Int32} {h : zz_H} {t t' : cS} {o : kY} (hR : kR h t s) (hf : cf_186_0 N X rk x1 t = some (t', o)) (k : (∀ h', kR h' t' s → kE o Q h')) : zz_J zp_P zt_tf zt_fd X d zm_186 0 [(0, .ref 2), (1, .int x1)] [] h Q := by
  unfold cf_186_0 at hf
  refine cb_186_0 hR  (fun c {h} hR => ?_) (fun c {h} hR => ?_)
  · rw [if_pos c] at hf
    exact cr_186_10 hrk hB hd hR hf k
  · rw [if_neg c] at hf
    exact cr_186_5 hrk hB hd hR hf k
/-- expression -/
def cf_186 (N : Nat) (X : Nat → Option zz_C) (rk : Nat → List Value → cS → kO) (x1 : Int32) (t : cS) : kO := cf_186_0 N X rk x1 t
theorem cr_186 {X : Nat → Option zz_C} {s : mS} {N : Nat} {rk : Nat → List Value → cS → kO} {D : Nat} (hrk : cK0 X s D rk) (hB : 10 ≤ D) {d : Nat} (hd : D + 1 ≤ d) {Q : zz_O → zz_H → Prop} {x1 : Int32} {h : zz_H} {t t' : cS} {o : kY} (hR : kR h t s) (hf : cf_186 N X rk x1 t = some (t', o)) (k : ∀ h', kR h' t' s → kE o Q h') : zz_J zp_P zt_tf zt_fd X d zm_186 0 [(0, .ref 2), (1, .int x1)] [] h Q := by
  unfold cf_186 at hf
  exact zz_J.weak (cr_186_0 hrk hB hd hR hf k) rfl ⟨rfl, rfl, trivial⟩
/-! yX5_unary -/
theorem cb_188_0 {X : Nat → Option zz_C} {h : zz_H} {t : cS} {s : mS} {d : Nat} {Q : zz_O → zz_H → Prop}  (hR : kR h t s) (k : ∀ {h : zz_H}, kR h t s → zz_J zp_P zt_tf zt_fd X d zm_42 0 [(0, .ref 3)] [] h (zz_after 10 Q (fun v h' => zz_J zp_P zt_tf zt_fd X (d + 1) zm_188 7 [(0, .ref 2)] (v.toList ++ []) h' Q))) : zz_J zp_P zt_tf zt_fd X (d + 1) zm_188 0 [(0, .ref 2)] [] h Q := by
  refine zz_J.n 1 rfl rfl rfl ?_
  refine zz_J.g 4 rfl (hR.gv (v := .ref 3) ko_2 (by decide) rfl) rfl ?_
  refine zz_J.cv 7 (as := []) rfl rfl (hR.clO ko_3 (by decide) (by decide)) (by decide) (Nat.le_of_ble_eq_true rfl) (Nat.le_of_ble_eq_true rfl) rfl (Nat.le_of_ble_eq_true rfl) rfl ?_
  refine zz_J.mono (k hR) ?_
  intro o h' hE
  cases o with
  | inl v => exact zz_J.weak hE rfl ⟨rfl, trivial⟩
  | inr q => exact hE
theorem cb_188_7 {X : Nat → Option zz_C} {h : zz_H} {t : cS} {s : mS} {d : Nat} {Q : zz_O → zz_H → Prop} {y0 : Int32} (hR : kR h t s) (k : ∀ {h : zz_H}, kR h t s → zz_J zp_P zt_tf zt_fd X d zm_243 0 [(0, .ref 3)] [] h (zz_after 10 Q (fun v h' => zz_J zp_P zt_tf zt_fd X (d + 1) zm_188 15 [(0, .ref 2), (1, .int y0)] (v.toList ++ []) h' Q))) : zz_J zp_P zt_tf zt_fd X (d + 1) zm_188 7 [(0, .ref 2)] [.int y0] h Q := by
  refine zz_J.n 8 rfl rfl rfl ?_
  refine zz_J.n 9 rfl rfl rfl ?_
  refine zz_J.g 12 rfl (hR.gv (v := .ref 3) ko_2 (by decide) rfl) rfl ?_
  refine zz_J.cv 15 (as := []) rfl rfl (hR.clO ko_3 (by decide) (by decide)) (by decide) (Nat.le_of_ble_eq_true rfl) (Nat.le_of_ble_eq_true rfl) rfl (Nat.le_of_ble_eq_true rfl) rfl ?_
  refine zz_J.mono (k hR) ?_
  intro o h' hE
  cases o with
  | inl v => exact zz_J.weak hE rfl ⟨rfl, rfl, trivial⟩
  | inr q => exact hE
theorem cb_188_15 {X : Nat → Option zz_C} {h : zz_H} {t : cS} {s : mS} {d : Nat} {Q : zz_O → zz_H → Prop} {x1 : Int32} {y0 : Int32} (hR : kR h t s) (k1 : ¬ x1 = 45 → (∀ {h : zz_H}, kR h t s → zz_J zp_P zt_tf zt_fd X d zm_188 60 [(0, .ref 2), (1, .int x1), (2, .int y0)] [] h Q)) (k2 : ¬ ¬ x1 = 45 → (∀ {h : zz_H}, kR h t s → zz_J zp_P zt_tf zt_fd X d zm_188 22 [(0, .ref 2), (2, .int y0)] [] h Q)) : zz_J zp_P zt_tf zt_fd X d zm_188 15 [(0, .ref 2), (1, .int x1)] [.int y0] h Q := by
  refine zz_J.n 16 rfl rfl rfl ?_
  refine zz_J.n 17 rfl rfl rfl ?_
  refine zz_J.c 19 (.int 45) rfl rfl rfl rfl ?_
  refine zz_J.b2 60 22 (A := ¬ x1 = 45) rfl (zz_cond_ne _ _) (by decide) rfl rfl (fun c => ?_) (fun c => ?_)
  · exact zz_J.weak (k1 c hR) rfl ⟨rfl, rfl, rfl, trivial⟩
  · exact zz_J.weak (k2 c hR) rfl ⟨rfl, rfl, trivial⟩
theorem cb_188_22 {X : Nat → Option zz_C} {h : zz_H} {t : cS} {s : mS} {d : Nat} {Q : zz_O → zz_H → Prop} {x2 : Int32} (hR : kR h t s) (k : ∀ {h : zz_H}, kR h t s → zz_J zp_P zt_tf zt_fd X d zm_46 0 [(0, .ref 3)] [] h (zz_after 10 Q (fun v h' => zz_J zp_P zt_tf zt_fd X (d + 1) zm_188 29 [(0, .ref 2), (2, .int x2)] (v.toList ++ []) h' Q))) : zz_J zp_P zt_tf zt_fd X (d + 1) zm_188 22 [(0, .ref 2), (2, .int x2)] [] h Q := by
  refine zz_J.n 23 rfl rfl rfl ?_
  refine zz_J.g 26 rfl (hR.gv (v := .ref 3) ko_2 (by decide) rfl) rfl ?_
  refine zz_J.cv 29 (as := []) rfl rfl (hR.clO ko_3 (by decide) (by decide)) (by decide) (Nat.le_of_ble_eq_true rfl) (Nat.le_of_ble_eq_true rfl) rfl (Nat.le_of_ble_eq_true rfl) rfl ?_
  refine zz_J.mono (k hR) ?_
  intro o h' hE
  cases o with
  | inl v => exact zz_J.weak hE rfl ⟨rfl, rfl, trivial⟩
  | inr q => exact hE
theorem cb_188_29 {X : Nat → Option zz_C} {h : zz_H} {t : cS} {s : mS} {d : Nat} {Q : zz_O → zz_H → Prop} {x2 : Int32} (hR : kR h t s) {w0 : Nat} (e0 : (kP t 2 1) = some w0) (e1 : w0 = 12 ∨ w0 = 21) (k : ∀ {h : zz_H}, kR h t s → zz_J zp_P zt_tf zt_fd X d zm_209 0 [(0, .ref w0), (1, .int 0), (2, .int 0), (3, .int x2)] [] h (zz_after 6 Q (fun v h' => zz_J zp_P zt_tf zt_fd X (d + 1) zm_188 39 [(0, .ref 2), (2, .int x2)] (v.toList ++ []) h' Q))) : zz_J zp_P zt_tf zt_fd X (d + 1) zm_188 29 [(0, .ref 2), (2, .int x2)] [] h Q := by
  refine zz_J.n 30 rfl rfl rfl ?_
  refine zz_J.g 33 rfl (hR.gv (v := .ref w0) ko_2 (by decide) ((congrArg (fun q => some (zz_rv q)) e0).trans rfl)) rfl ?_
  refine zz_J.c 34 (.int 0) rfl rfl rfl rfl ?_
  refine zz_J.c 35 (.int 0) rfl rfl rfl rfl ?_
  refine zz_J.n 36 rfl rfl rfl ?_
  refine zz_J.cv 39 (as := []) rfl rfl (hR.clO (ko_P e1) (by decide) (by decide)) (by decide) (Nat.le_of_ble_eq_true rfl) (Nat.le_of_ble_eq_true rfl) rfl (Nat.le_of_ble_eq_true rfl) rfl ?_
  refine zz_J.mono (k hR) ?_
  intro o h' hE
  cases o with
  | inl v => exact zz_J.weak hE rfl ⟨rfl, rfl, trivial⟩
  | inr q => exact hE
theorem cb_188_39 {X : Nat → Option zz_C} {h : zz_H} {t : cS} {s : mS} {d : Nat} {Q : zz_O → zz_H → Prop} {x2 : Int32} {y0 : Int32} (hR : kR h t s) (k : ∀ {h : zz_H}, kR h t s → zz_J zp_P zt_tf zt_fd X d zm_189 0 [(0, .ref 2)] [] h (zz_after 5 Q (fun v h' => zz_J zp_P zt_tf zt_fd X (d + 1) zm_188 44 [(0, .ref 2), (2, .int x2)] (v.toList ++ []) h' Q))) : zz_J zp_P zt_tf zt_fd X (d + 1) zm_188 39 [(0, .ref 2), (2, .int x2)] [.int y0] h Q := by
  refine zz_J.n 40 rfl rfl rfl ?_
  refine zz_J.n 41 rfl rfl rfl ?_
  refine zz_J.cv 44 (as := []) rfl rfl (hR.clO ko_2 (by decide) (by decide)) (by decide) (Nat.le_of_ble_eq_true rfl) (Nat.le_of_ble_eq_true rfl) rfl (Nat.le_of_ble_eq_true rfl) rfl ?_
  refine zz_J.mono (k hR) ?_
  intro o h' hE
  cases o with
  | inl v => exact zz_J.weak hE rfl ⟨rfl, rfl, trivial⟩
  | inr q => exact hE
theorem cb_188_44 {X : Nat → Option zz_C} {h : zz_H} {t : cS} {s : mS} {d : Nat} {Q : zz_O → zz_H → Prop} {x2 : Int32} (hR : kR h t s) {w0 : Nat} (e0 : (kP t 2 1) = some w0) (e1 : w0 = 12 ∨ w0 = 21) (k : ∀ {h : zz_H}, kR h t s → zz_J zp_P zt_tf zt_fd X d zm_209 0 [(0, .ref w0), (1, .int 19), (2, .int 45), (3, .int x2)] [] h (zz_after 6 Q (fun v h' => zz_J zp_P zt_tf zt_fd X (d + 1) zm_188 56 [] (v.toList ++ []) h' Q))) : zz_J zp_P zt_tf zt_fd X (d + 1) zm_188 44 [(0, .ref 2), (2, .int x2)] [] h Q := by
  refine zz_J.n 45 rfl rfl rfl ?_
  refine zz_J.g 48 rfl (hR.gv (v := .ref w0) ko_2 (by decide) ((congrArg (fun q => some (zz_rv q)) e0).trans rfl)) rfl ?_
  refine zz_J.c 50 (.int 19) rfl rfl rfl rfl ?_
  refine zz_J.c 52 (.int 45) rfl rfl rfl rfl ?_
  refine zz_J.n 53 rfl rfl rfl ?_
  refine zz_J.cv 56 (as := []) rfl rfl (hR.clO (ko_P e1) (by decide) (by decide)) (by decide) (Nat.le_of_ble_eq_true rfl) (Nat.le_of_ble_eq_true rfl) rfl (Nat.le_of_ble_eq_true rfl) rfl ?_
  refine zz_J.mono (k hR) ?_
  intro o h' hE
  cases o with
  | inl v => exact zz_J.weak hE rfl trivial
  | inr q => exact hE
theorem cb_188_56 {X : Nat → Option zz_C} {h : zz_H} {t : cS} {s : mS} {d : Nat} {Q : zz_O → zz_H → Prop} {y0 : Int32} (hR : kR h t s) (k : ∀ {h : zz_H}, kR h t s → zz_J zp_P zt_tf zt_fd X d zm_188 109 [] [] h Q) : zz_J zp_P zt_tf zt_fd X d zm_188 56 [] [.int y0] h Q := by
  refine zz_J.n 57 rfl rfl rfl ?_
  refine zz_J.n 109 rfl rfl rfl ?_
  exact zz_J.weak (k hR) rfl trivial
theorem cb_188_60 {X : Nat → Option zz_C} {h : zz_H} {t : cS} {s : mS} {d : Nat} {Q : zz_O → zz_H → Prop} {x1 : Int32} {x2 : Int32} (hR : kR h t s) (k1 : ¬ x1 = 33 → (∀ {h : zz_H}, kR h t s → zz_J zp_P zt_tf zt_fd X d zm_188 105 [(0, .ref 2)] [] h Q)) (k2 : ¬ ¬ x1 = 33 → (∀ {h : zz_H}, kR h t s → zz_J zp_P zt_tf zt_fd X d zm_188 66 [(0, .ref 2), (2, .int x2)] [] h Q)) : zz_J zp_P zt_tf zt_fd X d zm_188 60 [(0, .ref 2), (1, .int x1), (2, .int x2)] [] h Q := by
  refine zz_J.n 61 rfl rfl rfl ?_
  refine zz_J.c 63 (.int 33) rfl rfl rfl rfl ?_
  refine zz_J.b2 105 66 (A := ¬ x1 = 33) rfl (zz_cond_ne _ _) (by decide) rfl rfl (fun c => ?_) (fun c => ?_)
  · exact zz_J.weak (k1 c hR) rfl ⟨rfl, trivial⟩
  · exact zz_J.weak (k2 c hR) rfl ⟨rfl, rfl, trivial⟩
theorem cb_188_66 {X : Nat → Option zz_C} {h : zz_H} {t : cS} {s : mS} {d : Nat} {Q : zz_O → zz_H → Prop} {x2 : Int32} (hR : kR h t s) (k : ∀ {h : zz_H}, kR h t s → zz_J zp_P zt_tf zt_fd X d zm_46 0 [(0, .ref 3)] [] h (zz_after 10 Q (fun v h' => zz_J zp_P zt_tf zt_fd X (d + 1) zm_188 73 [(0, .ref 2), (2, .int x2)] (v.toList ++ []) h' Q))) : zz_J zp_P zt_tf zt_fd X (d + 1) zm_188 66 [(0, .ref 2), (2, .int x2)] [] h Q := by
  refine zz_J.n 67 rfl rfl rfl ?_
  refine zz_J.g 70 rfl (hR.gv (v := .ref 3) ko_2 (by decide) rfl) rfl ?_
  refine zz_J.cv 73 (as := []) rfl rfl (hR.clO ko_3 (by decide) (by decide)) (by decide) (Nat.le_of_ble_eq_true rfl) (Nat.le_of_ble_eq_true rfl) rfl (Nat.le_of_ble_eq_true rfl) rfl ?_
  refine zz_J.mono (k hR) ?_
  intro o h' hE
  cases o with
  | inl v => exact zz_J.weak hE rfl ⟨rfl, rfl, trivial⟩
  | inr q => exact hE
theorem cb_188_73 {X : Nat → Option zz_C} {h : zz_H} {t : cS} {s : mS} {d : Nat} {Q : zz_O → zz_H → Prop} {x2 : Int32} (hR : kR h t s) (k : ∀ {h : zz_H}, kR h t s → zz_J zp_P zt_tf zt_fd X d zm_189 0 [(0, .ref 2)] [] h (zz_after 5 Q (fun v h' => zz_J zp_P zt_tf zt_fd X (d + 1) zm_188 77 [(0, .ref 2), (2, .int x2)] (v.toList ++ []) h' Q))) : zz_J zp_P zt_tf zt_fd X (d + 1) zm_188 73 [(0, .ref 2), (2, .int x2)] [] h Q := by
  refine zz_J.n 74 rfl rfl rfl ?_
  refine zz_J.cv 77 (as := []) rfl rfl (hR.clO ko_2 (by decide) (by decide)) (by decide) (Nat.le_of_ble_eq_true rfl) (Nat.le_of_ble_eq_true rfl) rfl (Nat.le_of_ble_eq_true rfl) rfl ?_
  refine zz_J.mono (k hR) ?_
  intro o h' hE
  cases o with
  | inl v => exact zz_J.weak hE rfl ⟨rfl, rfl, trivial⟩
  | inr q => exact hE
theorem cb_188_77 {X : Nat → Option zz_C} {h : zz_H} {t : cS} {s : mS} {d : Nat} {Q : zz_O → zz_H → Prop} {x2 : Int32} (hR : kR h t s) {w0 : Nat} (e0 : (kP t 2 1) = some w0) (e1 : w0 = 12 ∨ w0 = 21) (k : ∀ {h : zz_H}, kR h t s → zz_J zp_P zt_tf zt_fd X d zm_209 0 [(0, .ref w0), (1, .int 0), (2, .int 0), (3, .int x2)] [] h (zz_after 6 Q (fun v h' => zz_J zp_P zt_tf zt_fd X (d + 1) zm_188 87 [(0, .ref 2), (2, .int x2)] (v.toList ++ []) h' Q))) : zz_J zp_P zt_tf zt_fd X (d + 1) zm_188 77 [(0, .ref 2), (2, .int x2)] [] h Q := by
  refine zz_J.n 78 rfl rfl rfl ?_
  refine zz_J.g 81 rfl (hR.gv (v := .ref w0) ko_2 (by decide) ((congrArg (fun q => some (zz_rv q)) e0).trans rfl)) rfl ?_
  refine zz_J.c 82 (.int 0) rfl rfl rfl rfl ?_
  refine zz_J.c 83 (.int 0) rfl rfl rfl rfl ?_
  refine zz_J.n 84 rfl rfl rfl ?_
  refine zz_J.cv 87 (as := []) rfl rfl (hR.clO (ko_P e1) (by decide) (by decide)) (by decide) (Nat.le_of_ble_eq_true rfl) (Nat.le_of_ble_eq_true rfl) rfl (Nat.le_of_ble_eq_true rfl) rfl ?_
  refine zz_J.mono (k hR) ?_
  intro o h' hE
  cases o with
  | inl v => exact zz_J.weak hE rfl ⟨rfl, rfl, trivial⟩
  | inr q => exact hE
theorem cb_188_87 {X : Nat → Option zz_C} {h : zz_H} {t : cS} {s : mS} {d : Nat} {Q : zz_O → zz_H → Prop} {x2 : Int32} {y0 : Int32} (hR : kR h t s) {w0 : Nat} (e0 : (kP t 2 1) = some w0) (e1 : w0 = 12 ∨ w0 = 21) (k : ∀ {h : zz_H}, kR h t s → zz_J zp_P zt_tf zt_fd X d zm_209 0 [(0, .ref w0), (1, .int 19), (2, .int 317), (3, .int x2)] [] h (zz_after 6 Q (fun v h' => zz_J zp_P zt_tf zt_fd X (d + 1) zm_188 101 [] (v.toList ++ []) h' Q))) : zz_J zp_P zt_tf zt_fd X (d + 1) zm_188 87 [(0, .ref 2), (2, .int x2)] [.int y0] h Q := by
  refine zz_J.n 88 rfl rfl rfl ?_
  refine zz_J.n 89 rfl rfl rfl ?_
  refine zz_J.g 92 rfl (hR.gv (v := .ref w0) ko_2 (by decide) ((congrArg (fun q => some (zz_rv q)) e0).trans rfl)) rfl ?_
  refine zz_J.c 94 (.int 19) rfl rfl rfl rfl ?_
  refine zz_J.c 97 (.int 317) rfl rfl rfl rfl ?_
  refine zz_J.n 98 rfl rfl rfl ?_
  refine zz_J.cv 101 (as := []) rfl rfl (hR.clO (ko_P e1) (by decide) (by decide)) (by decide) (Nat.le_of_ble_eq_true rfl) (Nat.le_of_ble_eq_true rfl) rfl (Nat.le_of_ble_eq_true rfl) rfl ?_
  refine zz_J.mono (k hR) ?_
  intro o h' hE
  cases o with
  | inl v => exact zz_J.weak hE rfl trivial
  | inr q => exact hE
theorem cb_188_101 {X : Nat → Option zz_C} {h : zz_H} {t : cS} {s : mS} {d : Nat} {Q : zz_O → zz_H → Prop} {y0 : Int32} (hR : kR h t s) (k : ∀ {h : zz_H}, kR h t s → zz_J zp_P zt_tf zt_fd X d zm_188 109 [] [] h Q) : zz_J zp_P zt_tf zt_fd X d zm_188 101 [] [.int y0] h Q := by
  refine zz_J.n 102 rfl rfl rfl ?_
  refine zz_J.n 109 rfl rfl rfl ?_
  exact zz_J.weak (k hR) rfl trivial
theorem cb_188_105 {X : Nat → Option zz_C} {h : zz_H} {t : cS} {s : mS} {d : Nat} {Q : zz_O → zz_H → Prop}  (hR : kR h t s) (k : ∀ {h : zz_H}, kR h t s → zz_J zp_P zt_tf zt_fd X d zm_189 0 [(0, .ref 2)] [] h (zz_after 5 Q (fun v h' => zz_J zp_P zt_tf zt_fd X (d + 1) zm_188 109 [] (v.toList ++ []) h' Q))) : zz_J zp_P zt_tf zt_fd X (d + 1) zm_188 105 [(0, .ref 2)] [] h Q := by
  refine zz_J.n 106 rfl rfl rfl ?_
  refine zz_J.cv 109 (as := []) rfl rfl (hR.clO ko_2 (by decide) (by decide)) (by decide) (Nat.le_of_ble_eq_true rfl) (Nat.le_of_ble_eq_true rfl) rfl (Nat.le_of_ble_eq_true rfl) rfl ?_
  refine zz_J.mono (k hR) ?_
  intro o h' hE
  cases o with
  | inl v => exact zz_J.weak hE rfl trivial
  | inr q => exact hE
theorem cb_188_109 {X : Nat → Option zz_C} {h : zz_H} {t : cS} {s : mS} {d : Nat} {Q : zz_O → zz_H → Prop}  (hR : kR h t s) (k : ∀ {h : zz_H}, kR h t s → Q (.inl none) h) : zz_J zp_P zt_tf zt_fd X d zm_188 109 [] [] h Q := by
  refine zz_J.ret rfl rfl rfl ?_
  exact k hR
def cf_188_109 (N : Nat) (X : Nat → Option zz_C) (rk : Nat → List Value → cS → kO)  (t : cS) : kO := some (t, .inl none)
theorem cr_188_109 {X : Nat → Option zz_C} {s : mS} {N : Nat} {rk : Nat → List Value → cS → kO} {D : Nat} (hrk : cK0 X s D rk) (hB : 10 ≤ D) {d : Nat} (hd : D + 1 ≤ d) {Q : zz_O → zz_H → Prop}  {h : zz_H} {t t' : cS} {o : kY} (hR : kR h t s) (hf : cf_188_109 N X rk  t = some (t', o)) (k : (∀ h', kR h' t' s → kE o Q h')) : zz_J zp_P zt_tf zt_fd X d zm_188 109 [] [] h Q := by
  unfold cf_188_109 at hf
  cases hf
  exact cb_188_109 hR  (fun {h} hR => k h hR)
def cf_188_105 (N : Nat) (X : Nat → Option zz_C) (rk : Nat → List Value → cS → kO)  (t : cS) : kO := ko_call 5 (rk 189 [] t) (fun g1 v1 => co_v v1 (cf_188_109 N X rk  g1))
theorem cr_188_105 {X : Nat → Option zz_C} {s : mS} {N : Nat} {rk : Nat → List Value → cS → kO} {D : Nat} (hrk : cK0 X s D rk) (hB : 10 ≤ D) {d : Nat} (hd : D + 1 ≤ d) {Q : zz_O → zz_H → Prop}  {h : zz_H} {t t' : cS} {o : kY} (hR : kR h t s) (hf : cf_188_105 N X rk  t = some (t', o)) (k : (∀ h', kR h' t' s → kE o Q h')) : zz_J zp_P zt_tf zt_fd X d zm_188 105 [(0, .ref 2)] [] h Q := by
  unfold cf_188_105 at hf
  obtain ⟨d', rfl⟩ : ∃ d', d = d' + 1 := ⟨d - 1, by omega⟩
  refine cb_188_105 hR  (fun {h} hR => ?_)
  rcases ko_call_ok hf with ⟨g1, v1, er, hf⟩ | ⟨g1, er, hq⟩
  · obtain ⟨hv, hf2⟩ := co_v_ok hf
    clear hf
    have hf := hf2
    clear hf2
    subst hv
    refine hrk.2.2.1 (by omega) hR er (fun h hR => ?_)
    exact cr_188_109 hrk hB hd hR hf k
  · refine hrk.2.2.1 (by omega) hR er (fun h hR => ?_)
    exact ko_thrown hq hR k
def cf_188_101 (N : Nat) (X : Nat → Option zz_C) (rk : Nat → List Value → cS → kO) (y0 : Int32) (t : cS) : kO := cf_188_109 N X rk  t
theorem cr_188_101 {X : Nat → Option zz_C} {s : mS} {N : Nat} {rk : Nat → List Value → cS → kO} {D : Nat} (hrk : cK0 X s D rk) (hB : 10 ≤ D) {d : Nat} (hd : D + 1 ≤ d) {Q : zz_O → zz_H → Prop} {y0 : Int32} {h : zz_H} {t t' : cS} {o : kY} (hR : kR h t s) (hf : cf_188_101 N X rk y0 t = some (t', o)) (k : (∀ h', kR h' t' s → kE o Q h')) : zz_J zp_P zt_tf zt_fd X d zm_188 101 [] [.int y0] h Q := by
  unfold cf_188_101 at hf
  exact cb_188_101 hR  (fun hR => cr_188_109 hrk hB hd hR hf k)
def cf_188_87 (N : Nat) (X : Nat → Option zz_C) (rk : Nat → List Value → cS → kO) (x2 : Int32) (y0 : Int32) (t : cS) : kO := co_b ((kP t 2 1)) (fun w0 => if w0 = 12 ∨ w0 = 21 then (ko_call 6 (cf_209 N X w0 19 317 x2 t) (fun g1 v1 => co_i v1 (fun y => cf_188_101 N X rk y g1))) else none)
theorem cr_188_87 {X : Nat → Option zz_C} {s : mS} {N : Nat} {rk : Nat → List Value → cS → kO} {D : Nat} (hrk : cK0 X s D rk) (hB : 10 ≤ D) {d : Nat} (hd : D + 1 ≤ d) {Q : zz_O → zz_H → Prop} {x2 : Int32} {y0 : Int32} {h : zz_H} {t t' : cS} {o : kY} (hR : kR h t s) (hf : cf_188_87 N X rk x2 y0 t = some (t', o)) (k : (∀ h', kR h' t' s → kE o Q h')) : zz_J zp_P zt_tf zt_fd X d zm_188 87 [(0, .ref 2), (2, .int x2)] [.int y0] h Q := by
  unfold cf_188_87 at hf
  obtain ⟨w0, e0, hf⟩ := co_b_ok hf
  obtain ⟨e1, hf⟩ := ko_if hf
  obtain ⟨d', rfl⟩ : ∃ d', d = d' + 1 := ⟨d - 1, by omega⟩
  refine cb_188_87 hR e0 e1 (fun {h} hR => ?_)
  rcases ko_call_ok hf with ⟨g1, v1, er, hf⟩ | ⟨g1, er, hq⟩
  · obtain ⟨y, hv, hf2⟩ := co_i_ok hf
    clear hf
    have hf := hf2
    clear hf2
    subst hv
    refine cr_209 (by omega) hR er (fun h hR => ?_)
    exact cr_188_101 hrk hB hd hR hf k
  · refine cr_209 (by omega) hR er (fun h hR => ?_)
    exact ko_thrown hq hR k
def cf_188_77 (N : Nat) (X : Nat → Option zz_C) (rk : Nat → List Value → cS → kO) (x2 : Int32) (t : cS) : kO := co_b ((kP t 2 1)) (fun w0 => if w0 = 12 ∨ w0 = 21 then (ko_call 6 (cf_209 N X w0 0 0 x2 t) (fun g1 v1 => co_i v1 (fun y => cf_188_87 N X rk x2 y g1))) else none)
theorem cr_188_77 {X : Nat → Option zz_C} {s : mS} {N : Nat} {rk : Nat → List Value → cS → kO} {D : Nat} (hrk : cK0 X s D rk) (hB : 10 ≤ D) {d : Nat} (hd : D + 1 ≤ d) {Q : zz_O → zz_H → Prop} {x2 : Int32} {h : zz_H} {t t' : cS} {o : kY} (hR : kR h t s) (hf : cf_188_77 N X rk x2 t = some (t', o)) (k : (∀ h', kR h' t' s → kE o Q h')) : zz_J zp_P zt_tf zt_fd X d zm_188 77 [(0, .ref 2), (2, .int x2)] [] h Q := by
  unfold cf_188_77 at hf
  obtain ⟨w0, e0, hf⟩ := co_b_ok hf
  obtain ⟨e1, hf⟩ := ko_if hf
  obtain ⟨d', rfl⟩ : ∃ d', d = d' + 1 := ⟨d - 1, by omega⟩
  refine cb_188_77 hR e0 e1 (fun {h} hR => ?_)
  rcases ko_call_ok hf with ⟨g1, v1, er, hf⟩ | ⟨g1, er, hq⟩
  · obtain ⟨y, hv, hf2⟩ := co_i_ok hf
    clear hf
    have hf := hf2
    clear hf2
    subst hv
    refine cr_209 (by omega) hR er (fun h hR => ?_)
    exact cr_188_87 hrk hB hd hR hf k
  · refine cr_209 (by omega) hR er (fun h hR => ?_)
    exact ko_thrown hq hR k
def cf_188_73 (N : Nat) (X : Nat → Option zz_C) (rk : Nat → List Value → cS → kO) (x2 : Int32) (t : cS) : kO := ko_call 5 (rk 189 [] t) (fun g1 v1 => co_v v1 (cf_188_77 N X rk x2 g1))
theorem cr_188_73 {X : Nat → Option zz_C} {s : mS} {N : Nat} {rk : Nat → List Value → cS → kO} {D : Nat} (hrk : cK0 X s D rk) (hB : 10 ≤ D) {d : Nat} (hd : D + 1 ≤ d) {Q : zz_O → zz_H → Prop} {x2 : Int32} {h : zz_H} {t t' : cS} {o : kY} (hR : kR h t s) (hf : cf_188_73 N X rk x2 t = some (t', o)) (k : (∀ h', kR h' t' s → kE o Q h')) : zz_J zp_P zt_tf zt_fd X d zm_188 73 [(0, .ref 2), (2, .int x2)] [] h Q := by
  unfold cf_188_73 at hf
  obtain ⟨d', rfl⟩ : ∃ d', d = d' + 1 := ⟨d - 1, by omega⟩
  refine cb_188_73 hR  (fun {h} hR => ?_)
  rcases ko_call_ok hf with ⟨g1, v1, er, hf⟩ | ⟨g1, er, hq⟩
  · obtain ⟨hv, hf2⟩ := co_v_ok hf
    clear hf
    have hf := hf2
    clear hf2
    subst hv
    refine hrk.2.2.1 (by omega) hR er (fun h hR => ?_)
    exact cr_188_77 hrk hB hd hR hf k
  · refine hrk.2.2.1 (by omega) hR er (fun h hR => ?_)
    exact ko_thrown hq hR k
def cf_188_66 (N : Nat) (X : Nat → Option zz_C) (rk : Nat → List Value → cS → kO) (x2 : Int32) (t : cS) : kO := ko_call 10 (cf_46 N X  t) (fun g1 v1 => co_v v1 (cf_188_73 N X rk x2 g1))
theorem cr_188_66 {X : Nat → Option zz_C} {s : mS} {N : Nat} {rk : Nat → List Value → cS → kO} {D : Nat} (hrk : cK0 X s D rk) (hB : 10 ≤ D) {d : Nat} (hd : D + 1 ≤ d) {Q : zz_O → zz_H → Prop} {x2 : Int32} {h : zz_H} {t t' : cS} {o : kY} (hR : kR h t s) (hf : cf_188_66 N X rk x2 t = some (t', o)) (k : (∀ h', kR h' t' s → kE o Q h')) : zz_J zp_P zt_tf zt_fd X d zm_188 66 [(0, .ref 2), (2, .int x2)] [] h Q := by
  unfold cf_188_66 at hf
  obtain ⟨d', rfl⟩ : ∃ d', d = d' + 1 := ⟨d - 1, by omega⟩
  refine cb_188_66 hR  (fun {h} hR => ?_)
  rcases ko_call_ok hf with ⟨g1, v1, er, hf⟩ | ⟨g1, er, hq⟩
  · obtain ⟨hv, hf2⟩ := co_v_ok hf
    clear hf
    have hf := hf2
    clear hf2
    subst hv
    refine cr_46 (by omega) hR er (fun h hR => ?_)
    exact cr_188_73 hrk hB hd hR hf k
  · refine cr_46 (by omega) hR er (fun h hR => ?_)
    exact ko_thrown hq hR k
def cf_188_60 (N : Nat) (X : Nat → Option zz_C) (rk : Nat → List Value → cS → kO) (x1 : Int32) (x2 : Int32) (t : cS) : kO := if ¬ x1 = 33 then cf_188_105 N X rk  t else cf_188_66 N X rk x2 t
theorem cr_188_60 {X : Nat → Option zz_C} {s : mS} {N : Nat} {rk : Nat → List Value → cS → kO} {D : Nat} (hrk : cK0 X s D rk) (hB : 10 ≤ D) {d : Nat} (hd : D + 1 ≤ d) {Q : zz_O → zz_H → Prop} {x1 : Int32} {x2 : Int32} {h : zz_H} {t t' : cS} {o : kY} (hR : kR h t s) (hf : cf_188_60 N X rk x1 x2 t = some (t', o)) (k : (∀ h', kR h' t' s → kE o Q h')) : zz_J zp_P zt_tf zt_fd X d zm_188 60 [(0, .ref 2), (1, .int x1), (2, .int x2)] [] h Q := by
  unfold cf_188_60 at hf
  refine cb_188_60 hR  (fun c {h} hR => ?_) (fun c {h} hR => ?_)
  · rw [if_pos c] at hf
    exact cr_188_105 hrk hB hd hR hf k
  · rw [if_neg c] at hf
    exact cr_188_66 hrk hB hd hR hf k
def cf_188_56 (N : Nat) (X : Nat → Option zz_C) (rk : Nat → List Value → cS → kO) (y0 : Int32) (t : cS) : kO := cf_188_109 N X rk  t
theorem cr_188_56 {X : Nat → Option zz_C} {s : mS} {N : Nat} {rk : Nat → List Value → cS → kO} {D : Nat} (hrk : cK0 X s D rk) (hB : 10 ≤ D) {d : Nat} (hd : D + 1 ≤ d) {Q : zz_O → zz_H → Prop} {y0 : Int32} {h : zz_H} {t t' : cS} {o : kY} (hR : kR h t s) (hf : cf_188_56 N X rk y0 t = some (t', o)) (k : (∀ h', kR h' t' s → kE o Q h')) : zz_J zp_P zt_tf zt_fd X d zm_188 56 [] [.int y0] h Q := by
  unfold cf_188_56 at hf
  exact cb_188_56 hR  (fun hR => cr_188_109 hrk hB hd hR hf k)
def cf_188_44 (N : Nat) (X : Nat → Option zz_C) (rk : Nat → List Value → cS → kO) (x2 : Int32) (t : cS) : kO := co_b ((kP t 2 1)) (fun w0 => if w0 = 12 ∨ w0 = 21 then (ko_call 6 (cf_209 N X w0 19 45 x2 t) (fun g1 v1 => co_i v1 (fun y => cf_188_56 N X rk y g1))) else none)
theorem cr_188_44 {X : Nat → Option zz_C} {s : mS} {N : Nat} {rk : Nat → List Value → cS → kO} {D : Nat} (hrk : cK0 X s D rk) (hB : 10 ≤ D) {d : Nat} (hd : D + 1 ≤ d) {Q : zz_O → zz_H → Prop} {x2 : Int32} {h : zz_H} {t t' : cS} {o : kY} (hR : kR h t s) (hf : cf_188_44 N X rk x2 t = some (t', o)) (k : (∀ h', kR h' t' s → kE o Q h')) : zz_J zp_P zt_tf zt_fd X d zm_188 44 [(0, .ref 2), (2, .int x2)] [] h Q := by
  unfold cf_188_44 at hf
  obtain ⟨w0, e0, hf⟩ := co_b_ok hf
  obtain ⟨e1, hf⟩ := ko_if hf
  obtain ⟨d', rfl⟩ : ∃ d', d = d' + 1 := ⟨d - 1, by omega⟩
  refine cb_188_44 hR e0 e1 (fun {h} hR => ?_)
  rcases ko_call_ok hf with ⟨g1, v1, er, hf⟩ | ⟨g1, er, hq⟩
  · obtain ⟨y, hv, hf2⟩ := co_i_ok hf
    clear hf
    have hf := hf2
    clear hf2
    subst hv
    refine cr_209 (by omega) hR er (fun h hR => ?_)
    exact cr_188_56 hrk hB hd hR hf k
  · refine cr_209 (by omega) hR er (fun h hR => ?_)
    exact ko_thrown hq hR k
def cf_188_39 (N : Nat) (X : Nat → Option zz_C) (rk : Nat → List Value → cS → kO) (x2 : Int32) (y0 : Int32) (t : cS) : kO := ko_call 5 (rk 189 [] t) (fun g1 v1 => co_v v1 (cf_188_44 N X rk x2 g1))
theorem cr_188_39 {X : Nat → Option zz_C} {s : mS} {N : Nat} {rk : Nat → List Value → cS → kO} {D : Nat} (hrk : cK0 X s D rk) (hB : 10 ≤ D) {d : Nat} (hd : D + 1 ≤ d) {Q : zz_O → zz_H → Prop} {x2 : Int32} {y0 : Int32} {h : zz_H} {t t' : cS} {o : kY} (hR : kR h t s) (hf : cf_188_39 N X rk x2 y0 t = some (t', o)) (k : (∀ h', kR h' t' s → kE o Q h')) : zz_J zp_P zt_tf zt_fd X d zm_188 39 [(0, .ref 2), (2, .int x2)] [.int y0] h Q := by
  unfold cf_188_39 at hf
  obtain ⟨d', rfl⟩ : ∃ d', d = d' + 1 := ⟨d - 1, by omega⟩
  refine cb_188_39 hR  (fun {h} hR => ?_)
  rcases ko_call_ok hf with ⟨g1, v1, er, hf⟩ | ⟨g1, er, hq⟩
  · obtain ⟨hv, hf2⟩ := co_v_ok hf
    clear hf
    have hf := hf2
    clear hf2
    subst hv
    refine hrk.2.2.1 (by omega) hR er (fun h hR => ?_)
    exact cr_188_44 hrk hB hd hR hf k
  · refine hrk.2.2.1 (by omega) hR er (fun h hR => ?_)
    exact ko_thrown hq hR k
def cf_188_29 (N : Nat) (X : Nat → Option zz_C) (rk : Nat → List Value → cS → kO) (x2 : Int32) (t : cS) : kO := co_b ((kP t 2 1)) (fun w0 => if w0 = 12 ∨ w0 = 21 then (ko_call 6 (cf_209 N X w0 0 0 x2 t) (fun g1 v1 => co_i v1 (fun y => cf_188_39 N X rk x2 y g1))) else none)
theorem cr_188_29 {X : Nat → Option zz_C} {s : mS} {N : Nat} {rk : Nat → List Value → cS → kO} {D : Nat} (hrk : cK0 X s D rk) (hB : 10 ≤ D) {d : Nat} (hd : D + 1 ≤ d) {Q : zz_O → zz_H → Prop} {x2 : Int32} {h : zz_H} {t t' : cS} {o : kY} (hR : kR h t s) (hf : cf_188_29 N X rk x2 t = some (t', o)) (k : (∀ h', kR h' t' s → kE o Q h')) : zz_J zp_P zt_tf zt_fd X d zm_188 29 [(0, .ref 2), (2, .int x2)] [] h Q := by
  unfold cf_188_29 at hf
  obtain ⟨w0, e0, hf⟩ := co_b_ok hf
  obtain ⟨e1, hf⟩ := ko_if hf
  obtain ⟨d', rfl⟩ : ∃ d', d = d' + 1 := ⟨d - 1, by omega⟩
  refine cb_188_29 hR e0 e1 (fun {h} hR => ?_)
  rcases ko_call_ok hf with ⟨g1, v1, er, hf⟩ | ⟨g1, er, hq⟩
  · obtain ⟨y, hv, hf2⟩ := co_i_ok hf
    clear hf
    have hf := hf2
    clear hf2
    subst hv
    refine cr_209 (by omega) hR er (fun h hR => ?_)
    exact cr_188_39 hrk hB hd hR hf k
  · refine cr_209 (by omega) hR er (fun h hR => ?_)
    exact ko_thrown hq hR k
def cf_188_22 (N : Nat) (X : Nat → Option zz_C) (rk : Nat → List Value → cS → kO) (x2 : Int32) (t : cS) : kO := ko_call 10 (cf_46 N X  t) (fun g1 v1 => co_v v1 (cf_188_29 N X rk x2 g1))
theorem cr_188_22 {X : Nat → Option zz_C} {s : mS} {N : Nat} {rk : Nat → List Value → cS → kO} {D : Nat} (hrk : cK0 X s D rk) (hB : 10 ≤ D) {d : Nat} (hd : D + 1 ≤ d) {Q : zz_O → zz_H → Prop} {x2 : Int32} {h : zz_H} {t t' : cS} {o : kY} (hR : kR h t s) (hf : cf_188_22 N X rk x2 t = some (t', o)) (k : (∀ h', kR h' t' s → kE o Q h')) : zz_J zp_P zt_tf zt_fd X d zm_188 22 [(0, .ref 2), (2, .int x2)] [] h Q := by
  unfold cf_188_22 at hf
  obtain ⟨d', rfl⟩ : ∃ d', d = d' + 1 := ⟨d - 1, by omega⟩
  refine cb_188_22 hR  (fun {h} hR => ?_)
  rcases ko_call_ok hf with ⟨g1, v1, er, hf⟩ | ⟨g1, er, hq⟩
  · obtain ⟨hv, hf2⟩ := co_v_ok hf
    clear hf
    have hf := hf2
    clear hf2
    subst hv
    refine cr_46 (by omega) hR er (fun h hR => ?_)
    exact cr_188_29 hrk hB hd hR hf k
  · refine cr_46 (by omega) hR er (fun h hR => ?_)
    exact ko_thrown hq hR k
def cf_188_15 (N : Nat) (X : Nat → Option zz_C) (rk : Nat → List Value → cS → kO) (x1 : Int32) (y0 : Int32) (t : cS) : kO := if ¬ x1 = 45 then cf_188_60 N X rk x1 y0 t else cf_188_22 N X rk y0 t
theorem cr_188_15 {X : Nat → Option zz_C} {s : mS} {N : Nat} {rk : Nat → List Value → cS → kO} {D : Nat} (hrk : cK0 X s D rk) (hB : 10 ≤ D) {d : Nat} (hd : D + 1 ≤ d) {Q : zz_O → zz_H → Prop} {x1 : Int32} {y0 : Int32} {h : zz_H} {t t' : cS} {o : kY} (hR : kR h t s) (hf : cf_188_15 N X rk x1 y0 t = some (t', o)) (k : (∀ h', kR h' t' s → kE o Q h')) : zz_J zp_P zt_tf zt_fd X d zm_188 15 [(0, .ref 2), (1, .int x1)] [.int y0] h Q := by
  unfold cf_188_15 at hf
  refine cb_188_15 hR  (fun c {h} hR => ?_) (fun c {h} hR => ?_)
  · rw [if_pos c] at hf
    exact cr_188_60 hrk hB hd hR hf k
  · rw [if_neg c] at hf
    exact cr_188_22 hrk hB hd hR hf k
def cf_188_7 (N : Nat) (X : Nat → Option zz_C) (rk : Nat → List Value → cS → kO) (y0 : Int32) (t : cS) : kO := ko_call 10 (cf_243 N X  t) (fun g1 v1 => co_i v1 (fun y => cf_188_15 N X rk y0 y g1))
theorem cr_188_7 {X : Nat → Option zz_C} {s : mS} {N : Nat} {rk : Nat → List Value → cS → kO} {D : Nat} (hrk : cK0 X s D rk) (hB : 10 ≤ D) {d : Nat} (hd : D + 1 ≤ d) {Q : zz_O → zz_H → Prop} {y0 : Int32} {h : zz_H} {t t' : cS} {o : kY} (hR : kR h t s) (hf : cf_188_7 N X rk y0 t = some (t', o)) (k : (∀ h', kR h' t' s → kE o Q h')) : zz_J zp_P zt_tf zt_fd X d zm_188 7 [(0, .ref 2)] [.int y0] h Q := by
  unfold cf_188_7 at hf
  obtain ⟨d', rfl⟩ : ∃ d', d = d' + 1 := ⟨d - 1, by omega⟩
  refine cb_188_7 hR  (fun {h} hR => ?_)
  rcases ko_call_ok hf with ⟨g1, v1, er, hf⟩ | ⟨g1, er, hq⟩
  · obtain ⟨y, hv, hf2⟩ := co_i_ok hf
    clear hf
    have hf := hf2
    clear hf2
    subst hv
    refine cr_243 (by omega) hR er (fun h hR => ?_)
    exact cr_188_15 hrk hB hd hR hf k
  · refine cr_243 (by omega) hR er (fun h hR => ?_)
    exact ko_thrown hq hR k
def cf_188_0 (N : Nat) (X : Nat → Option zz_C) (rk : Nat → List Value → cS → kO)  (t : cS) : kO := ko_call 10 (cf_42 N X  t) (fun g1 v1 => co_i v1 (fun y => cf_188_7 N X rk y g1))
theorem cr_188_0 {X : Nat → Option zz_C} {s : mS} {N : Nat} {rk : Nat → List Value → cS → kO} {D : Nat} (hrk : cK0 X s D rk) (hB : 10 ≤ D) {d : Nat} (hd : D + 1 ≤ d) {Q : zz_O → zz_H → Prop}  {h : zz_H} {t t' : cS} {o : kY} (hR : kR h t s) (hf : cf_188_0 N X rk  t = some (t', o)) (k : (∀ h', kR h' t' s → kE o Q h')) : zz_J zp_P zt_tf zt_fd X d zm_188 0 [(0, .ref 2)] [] h Q := by
  unfold cf_188_0 at hf
  obtain ⟨d', rfl⟩ : ∃ d', d = d' + 1 := ⟨d - 1, by omega⟩
  refine cb_188_0 hR  (fun {h} hR => ?_)
  rcases ko_call_ok hf with ⟨g1, v1, er, hf⟩ | ⟨g1, er, hq⟩
  · obtain ⟨y, hv, hf2⟩ := co_i_ok hf
    clear hf
    have hf := hf2
    clear hf2
    subst hv
    refine cr_42 (by omega) hR er (fun h hR => ?_)
    exact cr_188_7 hrk hB hd hR hf k
  · refine cr_42 (by omega) hR er (fun h hR => ?_)
    exact ko_thrown hq hR k
/-- unary -/
def cf_188 (N : Nat) (X : Nat → Option zz_C) (rk : Nat → List Value → cS → kO)  (t : cS) : kO := cf_188_0 N X rk  t
theorem cr_188 {X : Nat → Option zz_C} {s : mS} {N : Nat} {rk : Nat → List Value → cS → kO} {D : Nat} (hrk : cK0 X s D rk) (hB : 10 ≤ D) {d : Nat} (hd : D + 1 ≤ d) {Q : zz_O → zz_H → Prop}  {h : zz_H} {t t' : cS} {o : kY} (hR : kR h t s) (hf : cf_188 N X rk  t = some (t', o)) (k : ∀ h', kR h' t' s → kE o Q h') : zz_J zp_P zt_tf zt_fd X d zm_188 0 [(0, .ref 2)] [] h Q := by
  unfold cf_188 at hf
  exact zz_J.weak (cr_188_0 hrk hB hd hR hf k) rfl ⟨rfl, trivial⟩
/-! yX5_indexed -/
theorem cb_189_0 {X : Nat → Option zz_C} {h : zz_H} {t : cS} {s : mS} {d : Nat} {Q : zz_O → zz_H → Prop}  (hR : kR h t s) (k : ∀ {h : zz_H}, kR h t s → zz_J zp_P zt_tf zt_fd X d zm_190 0 [(0, .ref 2)] [] h (zz_after 5 Q (fun v h' => zz_J zp_P zt_tf zt_fd X (d + 1) zm_189 4 [(0, .ref 2)] (v.toList ++ []) h' Q))) : zz_J zp_P zt_tf zt_fd X (d + 1) zm_189 0 [(0, .ref 2)] [] h Q := by
  refine zz_J.n 1 rfl rfl rfl ?_
  refine zz_J.cv 4 (as := []) rfl rfl (hR.clO ko_2 (by decide) (by decide)) (by decide) (Nat.le_of_ble_eq_true rfl) (Nat.le_of_ble_eq_true rfl) rfl (Nat.le_of_ble_eq_true rfl) rfl ?_
  refine zz_J.mono (k hR) ?_
  intro o h' hE
  cases o with
  | inl v => exact zz_J.weak hE rfl ⟨rfl, trivial⟩
  | inr q => exact hE
theorem cb_189_4 {X : Nat → Option zz_C} {h : zz_H} {t : cS} {s : mS} {d : Nat} {Q : zz_O → zz_H → Prop}  (hR : kR h t s) (k : ∀ {h : zz_H}, kR h t s → zz_J zp_P zt_tf zt_fd X d zm_189 6 [(0, .ref 2), (1, .int 0)] [] h Q) : zz_J zp_P zt_tf zt_fd X d zm_189 4 [(0, .ref 2)] [] h Q := by
  refine zz_J.c 5 (.int 0) rfl rfl rfl rfl ?_
  refine zz_J.n 6 rfl rfl rfl ?_
  exact zz_J.weak (k hR) rfl ⟨rfl, rfl, trivial⟩
theorem cb_189_6 {X : Nat → Option zz_C} {h : zz_H} {t : cS} {s : mS} {d : Nat} {Q : zz_O → zz_H → Prop} {x1 : Int32} (hR : kR h t s) (k : ∀ {h : zz_H}, kR h t s → zz_J zp_P zt_tf zt_fd X d zm_41 0 [(0, .ref 3)] [] h (zz_after 10 Q (fun v h' => zz_J zp_P zt_tf zt_fd X (d + 1) zm_189 14 [(0, .ref 2), (1, .int x1)] (v.toList ++ [.int x1]) h' Q))) : zz_J zp_P zt_tf zt_fd X (d + 1) zm_189 6 [(0, .ref 2), (1, .int x1)] [] h Q := by
  refine zz_J.n 7 rfl rfl rfl ?_
  refine zz_J.n 8 rfl rfl rfl ?_
  refine zz_J.g 11 rfl (hR.gv (v := .ref 3) ko_2 (by decide) rfl) rfl ?_
  refine zz_J.cv 14 (as := [.int x1]) rfl rfl (hR.clO ko_3 (by decide) (by decide)) (by decide) (Nat.le_of_ble_eq_true rfl) (Nat.le_of_ble_eq_true rfl) rfl (Nat.le_of_ble_eq_true rfl) rfl ?_
  refine zz_J.mono (k hR) ?_
  intro o h' hE
  cases o with
  | inl v => exact zz_J.weak hE rfl ⟨rfl, rfl, trivial⟩
  | inr q => exact hE
theorem cb_189_14 {X : Nat → Option zz_C} {h : zz_H} {t : cS} {s : mS} {d : Nat} {Q : zz_O → zz_H → Prop} {x1 : Int32} {y0 : Int32} {y1 : Int32} (hR : kR h t s) (k1 : y1 ≤ y0 → (∀ {h : zz_H}, kR h t s → zz_J zp_P zt_tf zt_fd X d zm_189 72 [] [] h Q)) (k2 : ¬ y1 ≤ y0 → (∀ {h : zz_H}, kR h t s → zz_J zp_P zt_tf zt_fd X d zm_189 17 [(0, .ref 2), (1, .int x1)] [] h Q)) : zz_J zp_P zt_tf zt_fd X d zm_189 14 [(0, .ref 2), (1, .int x1)] [.int y1, .int y0] h Q := by
  refine zz_J.b2 72 17 (A := y1 ≤ y0) rfl rfl (by decide) rfl rfl (fun c => ?_) (fun c => ?_)
  · exact zz_J.weak (k1 c hR) rfl trivial
  · exact zz_J.weak (k2 c hR) rfl ⟨rfl, rfl, trivial⟩
theorem cb_189_17 {X : Nat → Option zz_C} {h : zz_H} {t : cS} {s : mS} {d : Nat} {Q : zz_O → zz_H → Prop} {x1 : Int32} (hR : kR h t s) (k : ∀ {h : zz_H}, kR h t s → zz_J zp_P zt_tf zt_fd X d zm_42 0 [(0, .ref 3)] [] h (zz_after 10 Q (fun v h' => zz_J zp_P zt_tf zt_fd X (d + 1) zm_189 24 [(0, .ref 2), (1, .int x1)] (v.toList ++ []) h' Q))) : zz_J zp_P zt_tf zt_fd X (d + 1) zm_189 17 [(0, .ref 2), (1, .int x1)] [] h Q := by
  refine zz_J.n 18 rfl rfl rfl ?_
  refine zz_J.g 21 rfl (hR.gv (v := .ref 3) ko_2 (by decide) rfl) rfl ?_
  refine zz_J.cv 24 (as := []) rfl rfl (hR.clO ko_3 (by decide) (by decide)) (by decide) (Nat.le_of_ble_eq_true rfl) (Nat.le_of_ble_eq_true rfl) rfl (Nat.le_of_ble_eq_true rfl) rfl ?_
  refine zz_J.mono (k hR) ?_
  intro o h' hE
  cases o with
  | inl v => exact zz_J.weak hE rfl ⟨rfl, rfl, trivial⟩
  | inr q => exact hE
theorem cb_189_24 {X : Nat → Option zz_C} {h : zz_H} {t : cS} {s : mS} {d : Nat} {Q : zz_O → zz_H → Prop} {x1 : Int32} {y0 : Int32} (hR : kR h t s) (k1 : ¬ y0 = 91 → (∀ {h : zz_H}, kR h t s → zz_J zp_P zt_tf zt_fd X d zm_189 72 [] [] h Q)) (k2 : ¬ ¬ y0 = 91 → (∀ {h : zz_H}, kR h t s → zz_J zp_P zt_tf zt_fd X d zm_189 29 [(0, .ref 2), (1, .int x1)] [] h Q)) : zz_J zp_P zt_tf zt_fd X d zm_189 24 [(0, .ref 2), (1, .int x1)] [.int y0] h Q := by
  refine zz_J.c 26 (.int 91) rfl rfl rfl rfl ?_
  refine zz_J.b2 72 29 (A := ¬ y0 = 91) rfl (zz_cond_ne _ _) (by decide) rfl rfl (fun c => ?_) (fun c => ?_)
  · exact zz_J.weak (k1 c hR) rfl trivial
  · exact zz_J.weak (k2 c hR) rfl ⟨rfl, rfl, trivial⟩
theorem cb_189_29 {X : Nat → Option zz_C} {h : zz_H} {t : cS} {s : mS} {d : Nat} {Q : zz_O → zz_H → Prop} {x1 : Int32} (hR : kR h t s) (k : ∀ {h : zz_H}, kR h t s → zz_J zp_P zt_tf zt_fd X d zm_243 0 [(0, .ref 3)] [] h (zz_after 10 Q (fun v h' => zz_J zp_P zt_tf zt_fd X (d + 1) zm_189 36 [(0, .ref 2), (1, .int x1)] (v.toList ++ []) h' Q))) : zz_J zp_P zt_tf zt_fd X (d + 1) zm_189 29 [(0, .ref 2), (1, .int x1)] [] h Q := by
  refine zz_J.n 30 rfl rfl rfl ?_
  refine zz_J.g 33 rfl (hR.gv (v := .ref 3) ko_2 (by decide) rfl) rfl ?_
  refine zz_J.cv 36 (as := []) rfl rfl (hR.clO ko_3 (by decide) (by decide)) (by decide) (Nat.le_of_ble_eq_true rfl) (Nat.le_of_ble_eq_true rfl) rfl (Nat.le_of_ble_eq_true rfl) rfl ?_
  refine zz_J.mono (k hR) ?_
  intro o h' hE
  cases o with
  | inl v => exact zz_J.weak hE rfl ⟨rfl, rfl, trivial⟩
  | inr q => exact hE
theorem cb_189_36 {X : Nat → Option zz_C} {h : zz_H} {t : cS} {s : mS} {d : Nat} {Q : zz_O → zz_H → Prop} {x1 : Int32} {y0 : Int32} (hR : kR h t s) (k : ∀ {h : zz_H}, kR h t s → zz_J zp_P zt_tf zt_fd X d zm_201 0 [(0, .ref 2), (1, .int 91)] [] h (zz_after 5 Q (fun v h' => zz_J zp_P zt_tf zt_fd X (d + 1) zm_189 43 [(0, .ref 2), (1, .int x1), (2, .int y0)] (v.toList ++ []) h' Q))) : zz_J zp_P zt_tf zt_fd X (d + 1) zm_189 36 [(0, .ref 2), (1, .int x1)] [.int y0] h Q := by
  refine zz_J.n 37 rfl rfl rfl ?_
  refine zz_J.n 38 rfl rfl rfl ?_
  refine zz_J.c 40 (.int 91) rfl rfl rfl rfl ?_
  refine zz_J.cv 43 (as := []) rfl rfl (hR.clO ko_2 (by decide) (by decide)) (by decide) (Nat.le_of_ble_eq_true rfl) (Nat.le_of_ble_eq_true rfl) rfl (Nat.le_of_ble_eq_true rfl) rfl ?_
  refine zz_J.mono (k hR) ?_
  intro o h' hE
  cases o with
  | inl v => exact zz_J.weak hE rfl ⟨rfl, rfl, rfl, trivial⟩
  | inr q => exact hE
theorem cb_189_43 {X : Nat → Option zz_C} {h : zz_H} {t : cS} {s : mS} {d : Nat} {Q : zz_O → zz_H → Prop} {x1 : Int32} {x2 : Int32} (hR : kR h t s) (k : ∀ {h : zz_H}, kR h t s → zz_J zp_P zt_tf zt_fd X d zm_186 0 [(0, .ref 2), (1, .int 0)] [] h (zz_after 5 Q (fun v h' => zz_J zp_P zt_tf zt_fd X (d + 1) zm_189 48 [(0, .ref 2), (1, .int x1), (2, .int x2)] (v.toList ++ []) h' Q))) : zz_J zp_P zt_tf zt_fd X (d + 1) zm_189 43 [(0, .ref 2), (1, .int x1), (2, .int x2)] [] h Q := by
  refine zz_J.n 44 rfl rfl rfl ?_
  refine zz_J.c 45 (.int 0) rfl rfl rfl rfl ?_
  refine zz_J.cv 48 (as := []) rfl rfl (hR.clO ko_2 (by decide) (by decide)) (by decide) (Nat.le_of_ble_eq_true rfl) (Nat.le_of_ble_eq_true rfl) rfl (Nat.le_of_ble_eq_true rfl) rfl ?_
  refine zz_J.mono (k hR) ?_
  intro o h' hE
  cases o with
  | inl v => exact zz_J.weak hE rfl ⟨rfl, rfl, rfl, trivial⟩
  | inr q => exact hE
theorem cb_189_48 {X : Nat → Option zz_C} {h : zz_H} {t : cS} {s : mS} {d : Nat} {Q : zz_O → zz_H → Prop} {x1 : Int32} {x2 : Int32} (hR : kR h t s) (k : ∀ {h : zz_H}, kR h t s → zz_J zp_P zt_tf zt_fd X d zm_201 0 [(0, .ref 2), (1, .int 93)] [] h (zz_after 5 Q (fun v h' => zz_J zp_P zt_tf zt_fd X (d + 1) zm_189 54 [(0, .ref 2), (1, .int x1), (2, .int x2)] (v.toList ++ []) h' Q))) : zz_J zp_P zt_tf zt_fd X (d + 1) zm_189 48 [(0, .ref 2), (1, .int x1), (2, .int x2)] [] h Q := by
  refine zz_J.n 49 rfl rfl rfl ?_
  refine zz_J.c 51 (.int 93) rfl rfl rfl rfl ?_
  refine zz_J.cv 54 (as := []) rfl rfl (hR.clO ko_2 (by decide) (by decide)) (by decide) (Nat.le_of_ble_eq_true rfl) (Nat.le_of_ble_eq_true rfl) rfl (Nat.le_of_ble_eq_true rfl) rfl ?_
  refine zz_J.mono (k hR) ?_
  intro o h' hE
  cases o with
  | inl v => exact zz_J.weak hE rfl ⟨rfl, rfl, rfl, trivial⟩
  | inr q => exact hE
theorem cb_189_54 {X : Nat → Option zz_C} {h : zz_H} {t : cS} {s : mS} {d : Nat} {Q : zz_O → zz_H → Prop} {x1 : Int32} {x2 : Int32} (hR : kR h t s) {w0 : Nat} (e0 : (kP t 2 1) = some w0) (e1 : w0 = 12 ∨ w0 = 21) (k : ∀ {h : zz_H}, kR h t s → zz_J zp_P zt_tf zt_fd X d zm_209 0 [(0, .ref w0), (1, .int 21), (2, .int 0), (3, .int x2)] [] h (zz_after 6 Q (fun v h' => zz_J zp_P zt_tf zt_fd X (d + 1) zm_189 65 [(0, .ref 2), (1, .int x1)] (v.toList ++ []) h' Q))) : zz_J zp_P zt_tf zt_fd X (d + 1) zm_189 54 [(0, .ref 2), (1, .int x1), (2, .int x2)] [] h Q := by
  refine zz_J.n 55 rfl rfl rfl ?_
  refine zz_J.g 58 rfl (hR.gv (v := .ref w0) ko_2 (by decide) ((congrArg (fun q => some (zz_rv q)) e0).trans rfl)) rfl ?_
  refine zz_J.c 60 (.int 21) rfl rfl rfl rfl ?_
  refine zz_J.c 61 (.int 0) rfl rfl rfl rfl ?_
  refine zz_J.n 62 rfl rfl rfl ?_
  refine zz_J.cv 65 (as := []) rfl rfl (hR.clO (ko_P e1) (by decide) (by decide)) (by decide) (Nat.le_of_ble_eq_true rfl) (Nat.le_of_ble_eq_true rfl) rfl (Nat.le_of_ble_eq_true rfl) rfl ?_
  refine zz_J.mono (k hR) ?_
  intro o h' hE
  cases o with
  | inl v => exact zz_J.weak hE rfl ⟨rfl, rfl, trivial⟩
  | inr q => exact hE
theorem cb_189_65 {X : Nat → Option zz_C} {h : zz_H} {t : cS} {s : mS} {d : Nat} {Q : zz_O → zz_H → Prop} {x1 : Int32} {y0 : Int32} (hR : kR h t s) (k : ∀ {h : zz_H}, kR h t s → zz_J zp_P zt_tf zt_fd X d zm_189 6 [(0, .ref 2), (1, .int (x1 + 1))] [] h Q) : zz_J zp_P zt_tf zt_fd X d zm_189 65 [(0, .ref 2), (1, .int x1)] [.int y0] h Q := by
  refine zz_J.n 66 rfl rfl rfl ?_
  refine zz_J.n 69 rfl rfl rfl ?_
  refine zz_J.n 6 rfl rfl rfl ?_
  exact zz_J.weak (k hR) rfl ⟨rfl, rfl, trivial⟩
theorem cb_189_72 {X : Nat → Option zz_C} {h : zz_H} {t : cS} {s : mS} {d : Nat} {Q : zz_O → zz_H → Prop}  (hR : kR h t s) (k : ∀ {h : zz_H}, kR h t s → Q (.inl none) h) : zz_J zp_P zt_tf zt_fd X d zm_189 72 [] [] h Q := by
  refine zz_J.ret rfl rfl rfl ?_
  exact k hR
def cf_189_72 (N : Nat) (X : Nat → Option zz_C) (rk : Nat → List Value → cS → kO)  (t : cS) : kO := some (t, .inl none)
theorem cr_189_72 {X : Nat → Option zz_C} {s : mS} {N : Nat} {rk : Nat → List Value → cS → kO} {D : Nat} (hrk : cK0 X s D rk) (hB : 10 ≤ D) {d : Nat} (hd : D + 1 ≤ d) {Q : zz_O → zz_H → Prop}  {h : zz_H} {t t' : cS} {o : kY} (hR : kR h t s) (hf : cf_189_72 N X rk  t = some (t', o)) (k : (∀ h', kR h' t' s → kE o Q h')) : zz_J zp_P zt_tf zt_fd X d zm_189 72 [] [] h Q := by
  unfold cf_189_72 at hf
  cases hf
  exact cb_189_72 hR  (fun {h} hR => k h hR)
def cf_189_65 (N : Nat) (X : Nat → Option zz_C) (rk : Nat → List Value → cS → kO) (rc : Nat → Int32 → cS → kO) (x1 : Int32) (y0 : Int32) (t : cS) : kO := rc 0 (x1 + 1) t
theorem cr_189_65 {X : Nat → Option zz_C} {s : mS} {N : Nat} {rk : Nat → List Value → cS → kO} {D : Nat} (hrk : cK0 X s D rk) (hB : 10 ≤ D) {d : Nat} (hd : D + 1 ≤ d) {rc : Nat → Int32 → cS → kO} (hrc0 : ∀ {Q : zz_O → zz_H → Prop} {x1 : Int32} {h : zz_H} {t t' : cS} {o : kY}, kR h t s → rc 0 x1 t = some (t', o) → (∀ h', kR h' t' s → kE o Q h') → zz_J zp_P zt_tf zt_fd X d zm_189 6 [(0, .ref 2), (1, .int x1)] [] h Q) {Q : zz_O → zz_H → Prop} {x1 : Int32} {y0 : Int32} {h : zz_H} {t t' : cS} {o : kY} (hR : kR h t s) (hf : cf_189_65 N X rk rc x1 y0 t = some (t', o)) (k : (∀ h', kR h' t' s → kE o Q h')) : zz_J zp_P zt_tf zt_fd X d zm_189 65 [(0, .ref 2), (1, .int x1)] [.int y0] h Q := by
  unfold cf_189_65 at hf
  exact cb_189_65 hR  (fun hR => hrc0 hR hf k)
def cf_189_54 (N : Nat) (X : Nat → Option zz_C) (rk : Nat → List Value → cS → kO) (rc : Nat → Int32 → cS → kO) (x1 : Int32) (x2 : Int32) (t : cS) : kO := co_b ((kP t 2 1)) (fun w0 => if w0 = 12 ∨ w0 = 21 then (ko_call 6 (cf_209 N X w0 21 0 x2 t) (fun g1 v1 => co_i v1 (fun y => cf_189_65 N X rk rc x1 y g1))) else none)
theorem cr_189_54 {X : Nat → Option zz_C} {s : mS} {N : Nat} {rk : Nat → List Value → cS → kO} {D : Nat} (hrk : cK0 X s D rk) (hB : 10 ≤ D) {d : Nat} (hd : D + 1 ≤ d) {rc : Nat → Int32 → cS → kO} (hrc0 : ∀ {Q : zz_O → zz_H → Prop} {x1 : Int32} {h : zz_H} {t t' : cS} {o : kY}, kR h t s → rc 0 x1 t = some (t', o) → (∀ h', kR h' t' s → kE o Q h') → zz_J zp_P zt_tf zt_fd X d zm_189 6 [(0, .ref 2), (1, .int x1)] [] h Q) {Q : zz_O → zz_H → Prop} {x1 : Int32} {x2 : Int32} {h : zz_H} {t t' : cS} {o : kY} (hR : kR h t s) (hf : cf_189_54 N X rk rc x1 x2 t = some (t', o)) (k : (∀ h', kR h' t' s → kE o Q h')) : zz_J zp_P zt_tf zt_fd X d zm_189 54 [(0, .ref 2), (1, .int x1), (2, .int x2)] [] h Q := by
  unfold cf_189_54 at hf
  obtain ⟨w0, e0, hf⟩ := co_b_ok hf
  obtain ⟨e1, hf⟩ := ko_if hf
  obtain ⟨d', rfl⟩ : ∃ d', d = d' + 1 := ⟨d - 1, by omega⟩
  refine cb_189_54 hR e0 e1 (fun {h} hR => ?_)
  rcases ko_call_ok hf with ⟨g1, v1, er, hf⟩ | ⟨g1, er, hq⟩
  · obtain ⟨y, hv, hf2⟩ := co_i_ok hf
    clear hf
    have hf := hf2
    clear hf2
    subst hv
    refine cr_209 (by omega) hR er (fun h hR => ?_)
    exact cr_189_65 hrk hB hd hrc0 hR hf k
  · refine cr_209 (by omega) hR er (fun h hR => ?_)
    exact ko_thrown hq hR k
def cf_189_48 (N : Nat) (X : Nat → Option zz_C) (rk : Nat → List Value → cS → kO) (rc : Nat → Int32 → cS → kO) (x1 : Int32) (x2 : Int32) (t : cS) : kO := ko_call 5 (cf_201 N X 93 t) (fun g1 v1 => co_v v1 (cf_189_54 N X rk rc x1 x2 g1))
theorem cr_189_48 {X : Nat → Option zz_C} {s : mS} {N : Nat} {rk : Nat → List Value → cS → kO} {D : Nat} (hrk : cK0 X s D rk) (hB : 10 ≤ D) {d : Nat} (hd : D + 1 ≤ d) {rc : Nat → Int32 → cS → kO} (hrc0 : ∀ {Q : zz_O → zz_H → Prop} {x1 : Int32} {h : zz_H} {t t' : cS} {o : kY}, kR h t s → rc 0 x1 t = some (t', o) → (∀ h', kR h' t' s → kE o Q h') → zz_J zp_P zt_tf zt_fd X d zm_189 6 [(0, .ref 2), (1, .int x1)] [] h Q) {Q : zz_O → zz_H → Prop} {x1 : Int32} {x2 : Int32} {h : zz_H} {t t' : cS} {o : kY} (hR : kR h t s) (hf : cf_189_48 N X rk rc x1 x2 t = some (t', o)) (k : (∀ h', kR h' t' s → kE o Q h')) : zz_J zp_P zt_tf zt_fd X d zm_189 48 [(0, .ref 2), (1, .int x1), (2, .int x2)] [] h Q := by
  unfold cf_189_48 at hf
  obtain ⟨d', rfl⟩ : ∃ d', d = d' + 1 := ⟨d - 1, by omega⟩
  refine cb_189_48 hR  (fun {h} hR => ?_)
  rcases ko_call_ok hf with ⟨g1, v1, er, hf⟩ | ⟨g1, er, hq⟩
  · obtain ⟨hv, hf2⟩ := co_v_ok hf
    clear hf
    have hf := hf2
    clear hf2
    subst hv
    refine cr_201 (by omega) hR er (fun h hR => ?_)
    exact cr_189_54 hrk hB hd hrc0 hR hf k
  · refine cr_201 (by omega) hR er (fun h hR => ?_)
    exact ko_thrown hq hR k
def cf_189_43 (N : Nat) (X : Nat → Option zz_C) (rk : Nat → List Value → cS → kO) (rc : Nat → Int32 → cS → kO) (x1 : Int32) (x2 : Int32) (t : cS) : kO := ko_call 5 (rk 186 [.int 0] t) (fun g1 v1 => co_v v1 (cf_189_48 N X rk rc x1 x2 g1))
theorem cr_189_43 {X : Nat → Option zz_C} {s : mS} {N : Nat} {rk : Nat → List Value → cS → kO} {D : Nat} (hrk : cK0 X s D rk) (hB : 10 ≤ D) {d : Nat} (hd : D + 1 ≤ d) {rc : Nat → Int32 → cS → kO} (hrc0 : ∀ {Q : zz_O → zz_H → Prop} {x1 : Int32} {h : zz_H} {t t' : cS} {o : kY}, kR h t s → rc 0 x1 t = some (t', o) → (∀ h', kR h' t' s → kE o Q h') → zz_J zp_P zt_tf zt_fd X d zm_189 6 [(0, .ref 2), (1, .int x1)] [] h Q) {Q : zz_O → zz_H → Prop} {x1 : Int32} {x2 : Int32} {h : zz_H} {t t' : cS} {o : kY} (hR : kR h t s) (hf : cf_189_43 N X rk rc x1 x2 t = some (t', o)) (k : (∀ h', kR h' t' s → kE o Q h')) : zz_J zp_P zt_tf zt_fd X d zm_189 43 [(0, .ref 2), (1, .int x1), (2, .int x2)] [] h Q := by
  unfold cf_189_43 at hf
  obtain ⟨d', rfl⟩ : ∃ d', d = d' + 1 := ⟨d - 1, by omega⟩
  refine cb_189_43 hR  (fun {h} hR => ?_)
  rcases ko_call_ok hf with ⟨g1, v1, er, hf⟩ | ⟨g1, er, hq⟩
  · obtain ⟨hv, hf2⟩ := co_v_ok hf
    clear hf
    have hf := hf2
    clear hf2
    subst hv
    refine hrk.1 (by omega) hR er (fun h hR => ?_)
    exact cr_189_48 hrk hB hd hrc0 hR hf k
  · refine hrk.1 (by omega) hR er (fun h hR => ?_)
    exact ko_thrown hq hR k
def cf_189_36 (N : Nat) (X : Nat → Option zz_C) (rk : Nat → List Value → cS → kO) (rc : Nat → Int32 → cS → kO) (x1 : Int32) (y0 : Int32) (t : cS) : kO := ko_call 5 (cf_201 N X 91 t) (fun g1 v1 => co_v v1 (cf_189_43 N X rk rc x1 y0 g1))
theorem cr_189_36 {X : Nat → Option zz_C} {s : mS} {N : Nat} {rk : Nat → List Value → cS → kO} {D : Nat} (hrk : cK0 X s D rk) (hB : 10 ≤ D) {d : Nat} (hd : D + 1 ≤ d) {rc : Nat → Int32 → cS → kO} (hrc0 : ∀ {Q : zz_O → zz_H → Prop} {x1 : Int32} {h : zz_H} {t t' : cS} {o : kY}, kR h t s → rc 0 x1 t = some (t', o) → (∀ h', kR h' t' s → kE o Q h') → zz_J zp_P zt_tf zt_fd X d zm_189 6 [(0, .ref 2), (1, .int x1)] [] h Q) {Q : zz_O → zz_H → Prop} {x1 : Int32} {y0 : Int32} {h : zz_H} {t t' : cS} {o : kY} (hR : kR h t s) (hf : cf_189_36 N X rk rc x1 y0 t = some (t', o)) (k : (∀ h', kR h' t' s → kE o Q h')) : zz_J zp_P zt_tf zt_fd X d zm_189 36 [(0, .ref 2), (1, .int x1)] [.int y0] h Q := by
  unfold cf_189_36 at hf
  obtain ⟨d', rfl⟩ : ∃ d', d = d' + 1 := ⟨d - 1, by omega⟩
  refine cb_189_36 hR  (fun {h} hR => ?_)
  rcases ko_call_ok hf with ⟨g1, v1, er, hf⟩ | ⟨g1, er, hq⟩
  · obtain ⟨hv, hf2⟩ := co_v_ok hf
    clear hf
    have hf := hf2
    clear hf2
    subst hv
    refine cr_201 (by omega) hR er (fun h hR => ?_)
    exact cr_189_43 hrk hB hd hrc0 hR hf k
  · refine cr_201 (by omega) hR er (fun h hR => ?_)
    exact ko_thrown hq hR k
def cf_189_29 (N : Nat) (X : Nat → Option zz_C) (rk : Nat → List Value → cS → kO) (rc : Nat → Int32 → cS → kO) (x1 : Int32) (t : cS) : kO := ko_call 10 (cf_243 N X  t) (fun g1 v1 => co_i v1 (fun y => cf_189_36 N X rk rc x1 y g1))
theorem cr_189_29 {X : Nat → Option zz_C} {s : mS} {N : Nat} {rk : Nat → List Value → cS → kO} {D : Nat} (hrk : cK0 X s D rk) (hB : 10 ≤ D) {d : Nat} (hd : D + 1 ≤ d) {rc : Nat → Int32 → cS → kO} (hrc0 : ∀ {Q : zz_O → zz_H → Prop} {x1 : Int32} {h : zz_H} {t t' : cS} {o : kY}, kR h t s → rc 0 x1 t = some (t', o) → (∀ h', kR h' t' s → kE o Q h') → zz_J zp_P zt_tf zt_fd X d zm_189 6 [(0, .ref 2), (1, .int x1)] [] h Q) {Q : zz_O → zz_H → Prop} {x1 : Int32} {h : zz_H} {t t' : cS} {o : kY} (hR : kR h t s) (hf : cf_189_29 N X rk rc x1 t = some (t', o)) (k : (∀ h', kR h' t' s → kE o Q h')) : zz_J zp_P zt_tf zt_fd X d zm_189 29 [(0, .ref 2), (1, .int x1)] [] h Q := by
  unfold cf_189_29 at hf
  obtain ⟨d', rfl⟩ : ∃ d', d = d' + 1 := ⟨d - 1, by omega⟩
  refine cb_189_29 hR  (fun {h} hR => ?_)
  rcases ko_call_ok hf with ⟨g1, v1, er, hf⟩ | ⟨g1, er, hq⟩
  · obtain ⟨y, hv, hf2⟩ := co_i_ok hf
    clear hf
    have hf := hf2
    clear hf2
    subst hv
    refine cr_243 (by omega) hR er (fun h hR => ?_)
    exact cr_189_36 hrk hB hd hrc0 hR hf k
  · refine cr_243 (by omega) hR er (fun h hR => ?_)
    exact ko_thrown hq hR k
def cf_189_24 (N : Nat) (X : Nat → Option zz_C) (rk : Nat → List Value → cS → kO) (rc : Nat → Int32 → cS → kO) (x1 : Int32) (y0 : Int32) (t : cS) : kO := if ¬ y0 = 91 then cf_189_72 N X rk  t else cf_189_29 N X rk rc x1 t
theorem cr_189_24 {X : Nat → Option zz_C} {s : mS} {N : Nat} {rk : Nat → List Value → cS → kO} {D : Nat} (hrk : cK0 X s D rk) (hB : 10 ≤ D) {d : Nat} (hd : D + 1 ≤ d) {rc : Nat → Int32 → cS → kO} (hrc0 : ∀ {Q : zz_O → zz_H → Prop} {x1 : Int32} {h : zz_H} {t t' : cS} {o : kY}, kR h t s → rc 0 x1 t = some (t', o) → (∀ h', kR h' t' s → kE o Q h') → zz_J zp_P zt_tf zt_fd X d zm_189 6 [(0, .ref 2), (1, .int x1)] [] h Q) {Q : zz_O → zz_H → Prop} {x1 : Int32} {y0 : Int32} {h : zz_H} {t t' : cS} {o : kY} (hR : kR h t s) (hf : cf_189_24 N X rk rc x1 y0 t = some (t', o)) (k : (∀ h', kR h' t' s → kE o Q h')) : zz_J zp_P zt_tf zt_fd X d zm_189 24 [(0, .ref 2), (1, .int x1)] [.int y0] h Q := by
  unfold cf_189_24 at hf
  refine cb_189_24 hR  (fun c {h} hR => ?_) (fun c {h} hR => ?_)
  · rw [if_pos c] at hf
    exact cr_189_72 hrk hB hd hR hf k
  · rw [if_neg c] at hf
    exact cr_189_29 hrk hB hd hrc0 hR hf k
def cf_189_17 (N : Nat) (X : Nat → Option zz_C) (rk : Nat → List Value → cS → kO) (rc : Nat → Int32 → cS → kO) (x1 : Int32) (t : cS) : kO := ko_call 10 (cf_42 N X  t) (fun g1 v1 => co_i v1 (fun y => cf_189_24 N X rk rc x1 y g1))
theorem cr_189_17 {X : Nat → Option zz_C} {s : mS} {N : Nat} {rk : Nat → List Value → cS → kO} {D : Nat} (hrk : cK0 X s D rk) (hB : 10 ≤ D) {d : Nat} (hd : D + 1 ≤ d) {rc : Nat → Int32 → cS → kO} (hrc0 : ∀ {Q : zz_O → zz_H → Prop} {x1 : Int32} {h : zz_H} {t t' : cS} {o : kY}, kR h t s → rc 0 x1 t = some (t', o) → (∀ h', kR h' t' s → kE o Q h') → zz_J zp_P zt_tf zt_fd X d zm_189 6 [(0, .ref 2), (1, .int x1)] [] h Q) {Q : zz_O → zz_H → Prop} {x1 : Int32} {h : zz_H} {t t' : cS} {o : kY} (hR : kR h t s) (hf : cf_189_17 N X rk rc x1 t = some (t', o)) (k : (∀ h', kR h' t' s → kE o Q h')) : zz_J zp_P zt_tf zt_fd X d zm_189 17 [(0, .ref 2), (1, .int x1)] [] h Q := by
  unfold cf_189_17 at hf
  obtain ⟨d', rfl⟩ : ∃ d', d = d' + 1 := ⟨d - 1, by omega⟩
  refine cb_189_17 hR  (fun {h} hR => ?_)
  rcases ko_call_ok hf with ⟨g1, v1, er, hf⟩ | ⟨g1, er, hq⟩
  · obtain ⟨y, hv, hf2⟩ := co_i_ok hf
    clear hf
    have hf := hf2
    clear hf2
    subst hv
    refine cr_42 (by omega) hR er (fun h hR => ?_)
    exact cr_189_24 hrk hB hd hrc0 hR hf k
  · refine cr_42 (by omega) hR er (fun h hR => ?_)
    exact ko_thrown hq hR k
def cf_189_14 (N : Nat) (X : Nat → Option zz_C) (rk : Nat → List Value → cS → kO) (rc : Nat → Int32 → cS → kO) (x1 : Int32) (y0 : Int32) (y1 : Int32) (t : cS) : kO := if y1 ≤ y0 then cf_189_72 N X rk  t else cf_189_17 N X rk rc x1 t
theorem cr_189_14 {X : Nat → Option zz_C} {s : mS} {N : Nat} {rk : Nat → List Value → cS → kO} {D : Nat} (hrk : cK0 X s D rk) (hB : 10 ≤ D) {d : Nat} (hd : D + 1 ≤ d) {rc : Nat → Int32 → cS → kO} (hrc0 : ∀ {Q : zz_O → zz_H → Prop} {x1 : Int32} {h : zz_H} {t t' : cS} {o : kY}, kR h t s → rc 0 x1 t = some (t', o) → (∀ h', kR h' t' s → kE o Q h') → zz_J zp_P zt_tf zt_fd X d zm_189 6 [(0, .ref 2), (1, .int x1)] [] h Q) {Q : zz_O → zz_H → Prop} {x1 : Int32} {y0 : Int32} {y1 : Int32} {h : zz_H} {t t' : cS} {o : kY} (hR : kR h t s) (hf : cf_189_14 N X rk rc x1 y0 y1 t = some (t', o)) (k : (∀ h', kR h' t' s → kE o Q h')) : zz_J zp_P zt_tf zt_fd X d zm_189 14 [(0, .ref 2), (1, .int x1)] [.int y1, .int y0] h Q := by
  unfold cf_189_14 at hf
  refine cb_189_14 hR  (fun c {h} hR => ?_) (fun c {h} hR => ?_)
  · rw [if_pos c] at hf
    exact cr_189_72 hrk hB hd hR hf k
  · rw [if_neg c] at hf
    exact cr_189_17 hrk hB hd hrc0 hR hf k
def cf_189_6 (N : Nat) (X : Nat → Option zz_C) (rk : Nat → List Value → cS → kO) (rc : Nat → Int32 → cS → kO) (x1 : Int32) (t : cS) : kO := ko_call 10 (cf_41 N X  t) (fun g1 v1 => co_i v1 (fun y => cf_189_14 N X rk rc x1 x1 y g1))
theorem cr_189_6 {X : Nat → Option zz_C} {s : mS} {N : Nat} {rk : Nat → List Value → cS → kO} {D : Nat} (hrk : cK0 X s D rk) (hB : 10 ≤ D) {d : Nat} (hd : D + 1 ≤ d) {rc : Nat → Int32 → cS → kO} (hrc0 : ∀ {Q : zz_O → zz_H → Prop} {x1 : Int32} {h : zz_H} {t t' : cS} {o : kY}, kR h t s → rc 0 x1 t = some (t', o) → (∀ h', kR h' t' s → kE o Q h') → zz_J zp_P zt_tf zt_fd X d zm_189 6 [(0, .ref 2), (1, .int x1)] [] h Q) {Q : zz_O → zz_H → Prop} {x1 : Int32} {h : zz_H} {t t' : cS} {o : kY} (hR : kR h t s) (hf : cf_189_6 N X rk rc x1 t = some (t', o)) (k : (∀ h', kR h' t' s → kE o Q h')) : zz_J zp_P zt_tf zt_fd X d zm_189 6 [(0, .ref 2), (1, .int x1)] [] h Q := by
  unfold cf_189_6 at hf
  obtain ⟨d', rfl⟩ : ∃ d', d = d' + 1 := ⟨d - 1, by omega⟩
  refine cb_189_6 hR  (fun {h} hR => ?_)
  rcases ko_call_ok hf with ⟨g1, v1, er, hf⟩ | ⟨g1, er, hq⟩
  · obtain ⟨y, hv, hf2⟩ := co_i_ok hf
    clear hf
    have hf := hf2
    clear hf2
    subst hv
    refine cr_41 (by omega) hR er (fun h hR => ?_)
    exact cr_189_14 hrk hB hd hrc0 hR hf k
  · refine cr_41 (by omega) hR er (fun h hR => ?_)
    exact ko_thrown hq hR k
def cf_189_L1 (N : Nat) (X : Nat → Option zz_C) (rk : Nat → List Value → cS → kO) : Nat → Nat → Int32 → cS → kO
  | 0, _, _, _ => none
  | n + 1, l, x1, t => if l = 0 then cf_189_6 N X rk (cf_189_L1 N X rk n) x1 t else none
theorem cr_189_L1 {X : Nat → Option zz_C} {s : mS} {N : Nat} {rk : Nat → List Value → cS → kO} {D : Nat} (hrk : cK0 X s D rk) (hB : 10 ≤ D) {d : Nat} (hd : D + 1 ≤ d) : ∀ n : Nat, (∀ {Q : zz_O → zz_H → Prop} {x1 : Int32} {h : zz_H} {t t' : cS} {o : kY}, kR h t s → cf_189_L1 N X rk n 0 x1 t = some (t', o) → (∀ h', kR h' t' s → kE o Q h') → zz_J zp_P zt_tf zt_fd X d zm_189 6 [(0, .ref 2), (1, .int x1)] [] h Q) := by
  intro n
  induction n with
  | zero => exact (fun _ hf _ => by cases hf)
  | succ n ih =>
    have h0 := @ih
    intro Q _ h t t' o hR hf k
    unfold cf_189_L1 at hf
    rw [if_pos rfl] at hf
    exact cr_189_6 hrk hB hd h0 hR hf k
def cf_189_4 (N : Nat) (X : Nat → Option zz_C) (rk : Nat → List Value → cS → kO)  (t : cS) : kO := cf_189_L1 N X rk N 0 0 t
theorem cr_189_4 {X : Nat → Option zz_C} {s : mS} {N : Nat} {rk : Nat → List Value → cS → kO} {D : Nat} (hrk : cK0 X s D rk) (hB : 10 ≤ D) {d : Nat} (hd : D + 1 ≤ d) {Q : zz_O → zz_H → Prop}  {h : zz_H} {t t' : cS} {o : kY} (hR : kR h t s) (hf : cf_189_4 N X rk  t = some (t', o)) (k : (∀ h', kR h' t' s → kE o Q h')) : zz_J zp_P zt_tf zt_fd X d zm_189 4 [(0, .ref 2)] [] h Q := by
  unfold cf_189_4 at hf
  exact cb_189_4 hR  (fun hR => cr_189_L1 hrk hB hd N hR hf k)
def cf_189_0 (N : Nat) (X : Nat → Option zz_C) (rk : Nat → List Value → cS → kO)  (t : cS) : kO := ko_call 5 (rk 190 [] t) (fun g1 v1 => co_v v1 (cf_189_4 N X rk  g1))
theorem cr_189_0 {X : Nat → Option zz_C} {s : mS} {N : Nat} {rk : Nat → List Value → cS → kO} {D : Nat} (hrk : cK0 X s D rk) (hB : 10 ≤ D) {d : Nat} (hd : D + 1 ≤ d) {Q : zz_O → zz_H → Prop}  {h : zz_H} {t t' : cS} {o : kY} (hR : kR h t s) (hf : cf_189_0 N X rk  t = some (t', o)) (k : (∀ h', kR h' t' s → kE o Q h')) : zz_J zp_P zt_tf zt_fd X d zm_189 0 [(0, .ref 2)] [] h Q := by
  unfold cf_189_0 at hf
  obtain ⟨d', rfl⟩ : ∃ d', d = d' + 1 := ⟨d - 1, by omega⟩
  refine cb_189_0 hR  (fun {h} hR => ?_)
  rcases ko_call_ok hf with ⟨g1, v1, er, hf⟩ | ⟨g1, er, hq⟩
  · obtain ⟨hv, hf2⟩ := co_v_ok hf
    clear hf
    have hf := hf2
    clear hf2
    subst hv
    refine hrk.2.2.2.1 (by omega) hR er (fun h hR => ?_)
    exact cr_189_4 hrk hB hd hR hf k
  · refine hrk.2.2.2.1 (by omega) hR er (fun h hR => ?_)
    exact ko_thrown hq hR k
/-- indexed -/
def cf_189 (N : Nat) (X : Nat → Option zz_C) (rk : Nat → List Value → cS → kO)  (t : cS) : kO := cf_189_0 N X rk  t
theorem cr_189 {X : Nat → Option zz_C} {s : mS} {N : Nat} {rk : Nat → List Value → cS → kO} {D : Nat} (hrk : cK0 X s D rk) (hB : 10 ≤ D) {d : Nat} (hd : D + 1 ≤ d) {Q : zz_O → zz_H → Prop}  {h : zz_H} {t t' : cS} {o : kY} (hR : kR h t s) (hf : cf_189 N X rk  t = some (t', o)) (k : ∀ h', kR h' t' s → kE o Q h') : zz_J zp_P zt_tf zt_fd X d zm_189 0 [(0, .ref 2)] [] h Q := by
  unfold cf_189 at hf
  exact zz_J.weak (cr_189_0 hrk hB hd hR hf k) rfl ⟨rfl, trivial⟩
/-! yX5_atom -/
theorem cb_190_0 {X : Nat → Option zz_C} {h : zz_H} {t : cS} {s : mS} {d : Nat} {Q : zz_O → zz_H → Prop}  (hR : kR h t s) (k : ∀ {h : zz_H}, kR h t s → zz_J zp_P zt_tf zt_fd X d zm_243 0 [(0, .ref 3)] [] h (zz_after 10 Q (fun v h' => zz_J zp_P zt_tf zt_fd X (d + 1) zm_190 7 [(0, .ref 2)] (v.toList ++ []) h' Q))) : zz_J zp_P zt_tf zt_fd X (d + 1) zm_190 0 [(0, .ref 2)] [] h Q := by
  refine zz_J.n 1 rfl rfl rfl ?_
  refine zz_J.g 4 rfl (hR.gv (v := .ref 3) ko_2 (by decide) rfl) rfl ?_
  refine zz_J.cv 7 (as := []) rfl rfl (hR.clO ko_3 (by decide) (by decide)) (by decide) (Nat.le_of_ble_eq_true rfl) (Nat.le_of_ble_eq_true rfl) rfl (Nat.le_of_ble_eq_true rfl) rfl ?_
  refine zz_J.mono (k hR) ?_
  intro o h' hE
  cases o with
  | inl v => exact zz_J.weak hE rfl ⟨rfl, trivial⟩
  | inr q => exact hE
theorem cb_190_7 {X : Nat → Option zz_C} {h : zz_H} {t : cS} {s : mS} {d : Nat} {Q : zz_O → zz_H → Prop} {y0 : Int32} (hR : kR h t s) (k : ∀ {h : zz_H}, kR h t s → zz_J zp_P zt_tf zt_fd X d zm_42 0 [(0, .ref 3)] [] h (zz_after 10 Q (fun v h' => zz_J zp_P zt_tf zt_fd X (d + 1) zm_190 15 [(0, .ref 2), (1, .int y0)] (v.toList ++ []) h' Q))) : zz_J zp_P zt_tf zt_fd X (d + 1) zm_190 7 [(0, .ref 2)] [.int y0] h Q := by
  refine zz_J.n 8 rfl rfl rfl ?_
  refine zz_J.n 9 rfl rfl rfl ?_
  refine zz_J.g 12 rfl (hR.gv (v := .ref 3) ko_2 (by decide) rfl) rfl ?_
  refine zz_J.cv 15 (as := []) rfl rfl (hR.clO ko_3 (by decide) (by decide)) (by decide) (Nat.le_of_ble_eq_true rfl) (Nat.le_of_ble_eq_true rfl) rfl (Nat.le_of_ble_eq_true rfl) rfl ?_
  refine zz_J.mono (k hR) ?_
  intro o h' hE
  cases o with
  | inl v => exact zz_J.weak hE rfl ⟨rfl, rfl, trivial⟩
  | inr q => exact hE
theorem cb_190_15 {X : Nat → Option zz_C} {h : zz_H} {t : cS} {s : mS} {d : Nat} {Q : zz_O → zz_H → Prop} {x1 : Int32} {y0 : Int32} (hR : kR h t s) (c2 : y0 = 2 → (∀ {h : zz_H}, kR h t s → zz_J zp_P zt_tf zt_fd X d zm_190 56 [(0, .ref 2), (1, .int x1)] [] h Q)) (c3 : y0 = 3 → (∀ {h : zz_H}, kR h t s → zz_J zp_P zt_tf zt_fd X d zm_190 84 [(0, .ref 2), (1, .int x1)] [] h Q)) (c4 : y0 = 4 → (∀ {h : zz_H}, kR h t s → zz_J zp_P zt_tf zt_fd X d zm_190 120 [(0, .ref 2)] [] h Q)) (c40 : y0 = 40 → (∀ {h : zz_H}, kR h t s → zz_J zp_P zt_tf zt_fd X d zm_190 131 [(0, .ref 2)] [] h Q)) (kd : (¬ y0 = 2 ∧ ¬ y0 = 3 ∧ ¬ y0 = 4 ∧ ¬ y0 = 40) → (∀ {h : zz_H}, kR h t s → zz_J zp_P zt_tf zt_fd X d zm_190 151 [(0, .ref 2), (1, .int x1)] [] h Q)) : zz_J zp_P zt_tf zt_fd X d zm_190 15 [(0, .ref 2), (1, .int x1)] [.int y0] h Q := by
  by_cases g2 : y0 = 2
  · exact zz_J.lk 56 41 rfl (by rw [g2]; rfl) (by decide) (by decide) rfl (zz_J.weak (c2 g2 hR) rfl ⟨rfl, rfl, trivial⟩)
  by_cases g3 : y0 = 3
  · exact zz_J.lk 84 69 rfl (by rw [g3]; rfl) (by decide) (by decide) rfl (zz_J.weak (c3 g3 hR) rfl ⟨rfl, rfl, trivial⟩)
  by_cases g4 : y0 = 4
  · exact zz_J.lk 120 105 rfl (by rw [g4]; rfl) (by decide) (by decide) rfl (zz_J.weak (c4 g4 hR) rfl ⟨rfl, trivial⟩)
  by_cases g40 : y0 = 40
  · exact zz_J.lk 131 116 rfl (by rw [g40]; rfl) (by decide) (by decide) rfl (zz_J.weak (c40 g40 hR) rfl ⟨rfl, trivial⟩)
  refine zz_J.lk 151 136 rfl ?_ (by decide) (by decide) rfl (zz_J.weak (kd ⟨g2, g3, g4, g40⟩ hR) rfl ⟨rfl, rfl, trivial⟩)
  refine (if_neg (fun q => g2 (Int32.toInt_inj.mp (q.symm.trans rfl)))).trans ?_
  refine (if_neg (fun q => g3 (Int32.toInt_inj.mp (q.symm.trans rfl)))).trans ?_
  refine (if_neg (fun q => g4 (Int32.toInt_inj.mp (q.symm.trans rfl)))).trans ?_
  refine (if_neg (fun q => g40 (Int32.toInt_inj.mp (q.symm.trans rfl)))).trans ?_
  rfl
theorem cb_190_56 {X : Nat → Option zz_C} {h : zz_H} {t : cS} {s : mS} {d : Nat} {Q : zz_O → zz_H → Prop} {x1 : Int32} (hR : kR h t s) {w0 : Nat} (e0 : (kP t 2 1) = some w0) (k : ∀ {h : zz_H}, kR h t s → zz_J zp_P zt_tf zt_fd X d zm_244 0 [(0, .ref 3)] [] h (zz_after 10 Q (fun v h' => zz_J zp_P zt_tf zt_fd X (d + 1) zm_190 68 [(0, .ref 2), (1, .int x1)] (v.toList ++ [.int 0, .ref w0]) h' Q))) : zz_J zp_P zt_tf zt_fd X (d + 1) zm_190 56 [(0, .ref 2), (1, .int x1)] [] h Q := by
  refine zz_J.n 57 rfl rfl rfl ?_
  refine zz_J.g 60 rfl (hR.gv (v := .ref w0) ko_2 (by decide) ((congrArg (fun q => some (zz_rv q)) e0).trans rfl)) rfl ?_
  refine zz_J.c 61 (.int 0) rfl rfl rfl rfl ?_
  refine zz_J.n 62 rfl rfl rfl ?_
  refine zz_J.g 65 rfl (hR.gv (v := .ref 3) ko_2 (by decide) rfl) rfl ?_
  refine zz_J.cv 68 (as := [.int 0, .ref w0]) rfl rfl (hR.clO ko_3 (by decide) (by decide)) (by decide) (Nat.le_of_ble_eq_true rfl) (Nat.le_of_ble_eq_true rfl) rfl (Nat.le_of_ble_eq_true rfl) rfl ?_
  refine zz_J.mono (k hR) ?_
  intro o h' hE
  cases o with
  | inl v => exact zz_J.weak hE rfl ⟨rfl, rfl, trivial⟩
  | inr q => exact hE
theorem cb_190_68 {X : Nat → Option zz_C} {h : zz_H} {t : cS} {s : mS} {d : Nat} {Q : zz_O → zz_H → Prop} {x1 : Int32} {y0 : Nat} {y1 : Int32} {y2 : Int64} (hR : kR h t s) (e0 : y0 = 12 ∨ y0 = 21) (k : ∀ {h : zz_H}, kR h t s → zz_J zp_P zt_tf zt_fd X d zm_209 0 [(0, .ref y0), (1, .int y1), (2, .int (Int64.toInt32 y2)), (3, .int x1)] [] h (zz_after 6 Q (fun v h' => zz_J zp_P zt_tf zt_fd X (d + 1) zm_190 73 [(0, .ref 2)] (v.toList ++ []) h' Q))) : zz_J zp_P zt_tf zt_fd X (d + 1) zm_190 68 [(0, .ref 2), (1, .int x1)] [.long y2, .int y1, .ref y0] h Q := by
  refine zz_J.n 69 rfl rfl rfl ?_
  refine zz_J.n 70 rfl rfl rfl ?_
  refine zz_J.cv 73 (as := []) rfl rfl (hR.clO (ko_P e0) (by decide) (by decide)) (by decide) (Nat.le_of_ble_eq_true rfl) (Nat.le_of_ble_eq_true rfl) rfl (Nat.le_of_ble_eq_true rfl) rfl ?_
  refine zz_J.mono (k hR) ?_
  intro o h' hE
  cases o with
  | inl v => exact zz_J.weak hE rfl ⟨rfl, trivial⟩
  | inr q => exact hE
theorem cb_190_73 {X : Nat → Option zz_C} {h : zz_H} {t : cS} {s : mS} {d : Nat} {Q : zz_O → zz_H → Prop} {y0 : Int32} (hR : kR h t s) (k : ∀ {h : zz_H}, kR h t s → zz_J zp_P zt_tf zt_fd X d zm_46 0 [(0, .ref 3)] [] h (zz_after 10 Q (fun v h' => zz_J zp_P zt_tf zt_fd X (d + 1) zm_190 81 [] (v.toList ++ []) h' Q))) : zz_J zp_P zt_tf zt_fd X (d + 1) zm_190 73 [(0, .ref 2)] [.int y0] h Q := by
  refine zz_J.n 74 rfl rfl rfl ?_
  refine zz_J.n 75 rfl rfl rfl ?_
  refine zz_J.g 78 rfl (hR.gv (v := .ref 3) ko_2 (by decide) rfl) rfl ?_
  refine zz_J.cv 81 (as := []) rfl rfl (hR.clO ko_3 (by decide) (by decide)) (by decide) (Nat.le_of_ble_eq_true rfl) (Nat.le_of_ble_eq_true rfl) rfl (Nat.le_of_ble_eq_true rfl) rfl ?_
  refine zz_J.mono (k hR) ?_
  intro o h' hE
  cases o with
  | inl v => exact zz_J.weak hE rfl trivial
  | inr q => exact hE
theorem cb_190_81 {X : Nat → Option zz_C} {h : zz_H} {t : cS} {s : mS} {d : Nat} {Q : zz_O → zz_H → Prop}  (hR : kR h t s) (k : ∀ {h : zz_H}, kR h t s → zz_J zp_P zt_tf zt_fd X d zm_190 176 [] [] h Q) : zz_J zp_P zt_tf zt_fd X d zm_190 81 [] [] h Q := by
  refine zz_J.n 176 rfl rfl rfl ?_
  exact zz_J.weak (k hR) rfl trivial
theorem cb_190_84 {X : Nat → Option zz_C} {h : zz_H} {t : cS} {s : mS} {d : Nat} {Q : zz_O → zz_H → Prop} {x1 : Int32} (hR : kR h t s) (k : ∀ {h : zz_H}, kR h t s → zz_J zp_P zt_tf zt_fd X d zm_242 0 [(0, .ref 3)] [] h (zz_after 10 Q (fun v h' => zz_J zp_P zt_tf zt_fd X (d + 1) zm_190 91 [(0, .ref 2), (1, .int x1)] (v.toList ++ []) h' Q))) : zz_J zp_P zt_tf zt_fd X (d + 1) zm_190 84 [(0, .ref 2), (1, .int x1)] [] h Q := by
  refine zz_J.n 85 rfl rfl rfl ?_
  refine zz_J.g 88 rfl (hR.gv (v := .ref 3) ko_2 (by decide) rfl) rfl ?_
  refine zz_J.cv 91 (as := []) rfl rfl (hR.clO ko_3 (by decide) (by decide)) (by decide) (Nat.le_of_ble_eq_true rfl) (Nat.le_of_ble_eq_true rfl) rfl (Nat.le_of_ble_eq_true rfl) rfl ?_
  refine zz_J.mono (k hR) ?_
  intro o h' hE
  cases o with
  | inl v => exact zz_J.weak hE rfl ⟨rfl, rfl, trivial⟩
  | inr q => exact hE
theorem cb_190_91 {X : Nat → Option zz_C} {h : zz_H} {t : cS} {s : mS} {d : Nat} {Q : zz_O → zz_H → Prop} {x1 : Int32} {y0 : Int32} (hR : kR h t s) (k1 : ¬ y0 = 40 → (∀ {h : zz_H}, kR h t s → zz_J zp_P zt_tf zt_fd X d zm_190 103 [(0, .ref 2), (1, .int x1)] [] h Q)) (k2 : ¬ ¬ y0 = 40 → (∀ {h : zz_H}, kR h t s → zz_J zp_P zt_tf zt_fd X d zm_190 96 [(0, .ref 2)] [] h Q)) : zz_J zp_P zt_tf zt_fd X d zm_190 91 [(0, .ref 2), (1, .int x1)] [.int y0] h Q := by
  refine zz_J.c 93 (.int 40) rfl rfl rfl rfl ?_
  refine zz_J.b2 103 96 (A := ¬ y0 = 40) rfl (zz_cond_ne _ _) (by decide) rfl rfl (fun c => ?_) (fun c => ?_)
  · exact zz_J.weak (k1 c hR) rfl ⟨rfl, rfl, trivial⟩
  · exact zz_J.weak (k2 c hR) rfl ⟨rfl, trivial⟩
theorem cb_190_96 {X : Nat → Option zz_C} {h : zz_H} {t : cS} {s : mS} {d : Nat} {Q : zz_O → zz_H → Prop}  (hR : kR h t s) (k : ∀ {h : zz_H}, kR h t s → zz_J zp_P zt_tf zt_fd X d zm_191 0 [(0, .ref 2)] [] h (zz_after 5 Q (fun v h' => zz_J zp_P zt_tf zt_fd X (d + 1) zm_190 100 [] (v.toList ++ []) h' Q))) : zz_J zp_P zt_tf zt_fd X (d + 1) zm_190 96 [(0, .ref 2)] [] h Q := by
  refine zz_J.n 97 rfl rfl rfl ?_
  refine zz_J.cv 100 (as := []) rfl rfl (hR.clO ko_2 (by decide) (by decide)) (by decide) (Nat.le_of_ble_eq_true rfl) (Nat.le_of_ble_eq_true rfl) rfl (Nat.le_of_ble_eq_true rfl) rfl ?_
  refine zz_J.mono (k hR) ?_
  intro o h' hE
  cases o with
  | inl v => exact zz_J.weak hE rfl trivial
  | inr q => exact hE
theorem cb_190_100 {X : Nat → Option zz_C} {h : zz_H} {t : cS} {s : mS} {d : Nat} {Q : zz_O → zz_H → Prop}  (hR : kR h t s) (k : ∀ {h : zz_H}, kR h t s → zz_J zp_P zt_tf zt_fd X d zm_190 176 [] [] h Q) : zz_J zp_P zt_tf zt_fd X d zm_190 100 [] [] h Q := by
  refine zz_J.n 176 rfl rfl rfl ?_
  exact zz_J.weak (k hR) rfl trivial
theorem cb_190_103 {X : Nat → Option zz_C} {h : zz_H} {t : cS} {s : mS} {d : Nat} {Q : zz_O → zz_H → Prop} {x1 : Int32} (hR : kR h t s) {w0 : Nat} (e0 : (kP t 2 1) = some w0) (k : ∀ {h : zz_H}, kR h t s → zz_J zp_P zt_tf zt_fd X d zm_195 0 [(0, .ref 2)] [] h (zz_after 5 Q (fun v h' => zz_J zp_P zt_tf zt_fd X (d + 1) zm_190 112 [(1, .int x1)] (v.toList ++ [.int 1, .ref w0]) h' Q))) : zz_J zp_P zt_tf zt_fd X (d + 1) zm_190 103 [(0, .ref 2), (1, .int x1)] [] h Q := by
  refine zz_J.n 104 rfl rfl rfl ?_
  refine zz_J.g 107 rfl (hR.gv (v := .ref w0) ko_2 (by decide) ((congrArg (fun q => some (zz_rv q)) e0).trans rfl)) rfl ?_
  refine zz_J.c 108 (.int 1) rfl rfl rfl rfl ?_
  refine zz_J.n 109 rfl rfl rfl ?_
  refine zz_J.cv 112 (as := [.int 1, .ref w0]) rfl rfl (hR.clO ko_2 (by decide) (by decide)) (by decide) (Nat.le_of_ble_eq_true rfl) (Nat.le_of_ble_eq_true rfl) rfl (Nat.le_of_ble_eq_true rfl) rfl ?_
  refine zz_J.mono (k hR) ?_
  intro o h' hE
  cases o with
  | inl v => exact zz_J.weak hE rfl ⟨rfl, trivial⟩
  | inr q => exact hE
theorem cb_190_112 {X : Nat → Option zz_C} {h : zz_H} {t : cS} {s : mS} {d : Nat} {Q : zz_O → zz_H → Prop} {x1 : Int32} {y0 : Nat} {y1 : Int32} {y2 : Int32} (hR : kR h t s) (e0 : y0 = 12 ∨ y0 = 21) (k : ∀ {h : zz_H}, kR h t s → zz_J zp_P zt_tf zt_fd X d zm_209 0 [(0, .ref y0), (1, .int y1), (2, .int y2), (3, .int x1)] [] h (zz_after 6 Q (fun v h' => zz_J zp_P zt_tf zt_fd X (d + 1) zm_190 116 [] (v.toList ++ []) h' Q))) : zz_J zp_P zt_tf zt_fd X (d + 1) zm_190 112 [(1, .int x1)] [.int y2, .int y1, .ref y0] h Q := by
  refine zz_J.n 113 rfl rfl rfl ?_
  refine zz_J.cv 116 (as := []) rfl rfl (hR.clO (ko_P e0) (by decide) (by decide)) (by decide) (Nat.le_of_ble_eq_true rfl) (Nat.le_of_ble_eq_true rfl) rfl (Nat.le_of_ble_eq_true rfl) rfl ?_
  refine zz_J.mono (k hR) ?_
  intro o h' hE
  cases o with
  | inl v => exact zz_J.weak hE rfl trivial
  | inr q => exact hE
theorem cb_190_116 {X : Nat → Option zz_C} {h : zz_H} {t : cS} {s : mS} {d : Nat} {Q : zz_O → zz_H → Prop} {y0 : Int32} (hR : kR h t s) (k : ∀ {h : zz_H}, kR h t s → zz_J zp_P zt_tf zt_fd X d zm_190 176 [] [] h Q) : zz_J zp_P zt_tf zt_fd X d zm_190 116 [] [.int y0] h Q := by
  refine zz_J.n 117 rfl rfl rfl ?_
  refine zz_J.n 176 rfl rfl rfl ?_
  exact zz_J.weak (k hR) rfl trivial
theorem cb_190_120 {X : Nat → Option zz_C} {h : zz_H} {t : cS} {s : mS} {d : Nat} {Q : zz_O → zz_H → Prop}  (hR : kR h t s) (k : ∀ {h : zz_H}, kR h t s → zz_J zp_P zt_tf zt_fd X d zm_199 0 [(0, .ref 2)] [] h (zz_after 5 Q (fun v h' => zz_J zp_P zt_tf zt_fd X (d + 1) zm_190 125 [] (v.toList ++ [.ref 2]) h' Q))) : zz_J zp_P zt_tf zt_fd X (d + 1) zm_190 120 [(0, .ref 2)] [] h Q := by
  refine zz_J.n 121 rfl rfl rfl ?_
  refine zz_J.n 122 rfl rfl rfl ?_
  refine zz_J.cv 125 (as := [.ref 2]) rfl rfl (hR.clO ko_2 (by decide) (by decide)) (by decide) (Nat.le_of_ble_eq_true rfl) (Nat.le_of_ble_eq_true rfl) rfl (Nat.le_of_ble_eq_true rfl) rfl ?_
  refine zz_J.mono (k hR) ?_
  intro o h' hE
  cases o with
  | inl v => exact zz_J.weak hE rfl trivial
  | inr q => exact hE
theorem cb_190_125 {X : Nat → Option zz_C} {h : zz_H} {t : cS} {s : mS} {d : Nat} {Q : zz_O → zz_H → Prop} {y1 : Nat} (hR : kR h t s) (k : ∀ {h : zz_H}, kR h t s → zz_J zp_P zt_tf zt_fd X d zm_192 0 [(0, .ref 2), (1, .ref y1)] [] h (zz_after 5 Q (fun v h' => zz_J zp_P zt_tf zt_fd X (d + 1) zm_190 128 [] (v.toList ++ []) h' Q))) : zz_J zp_P zt_tf zt_fd X (d + 1) zm_190 125 [] [.ref y1, .ref 2] h Q := by
  refine zz_J.cv 128 (as := []) rfl rfl (hR.clO ko_2 (by decide) (by decide)) (by decide) (Nat.le_of_ble_eq_true rfl) (Nat.le_of_ble_eq_true rfl) rfl (Nat.le_of_ble_eq_true rfl) rfl ?_
  refine zz_J.mono (k hR) ?_
  intro o h' hE
  cases o with
  | inl v => exact zz_J.weak hE rfl trivial
  | inr q => exact hE
theorem cb_190_128 {X : Nat → Option zz_C} {h : zz_H} {t : cS} {s : mS} {d : Nat} {Q : zz_O → zz_H → Prop}  (hR : kR h t s) (k : ∀ {h : zz_H}, kR h t s → zz_J zp_P zt_tf zt_fd X d zm_190 176 [] [] h Q) : zz_J zp_P zt_tf zt_fd X d zm_190 128 [] [] h Q := by
  refine zz_J.n 176 rfl rfl rfl ?_
  exact zz_J.weak (k hR) rfl trivial
theorem cb_190_131 {X : Nat → Option zz_C} {h : zz_H} {t : cS} {s : mS} {d : Nat} {Q : zz_O → zz_H → Prop}  (hR : kR h t s) (k : ∀ {h : zz_H}, kR h t s → zz_J zp_P zt_tf zt_fd X d zm_201 0 [(0, .ref 2), (1, .int 40)] [] h (zz_after 5 Q (fun v h' => zz_J zp_P zt_tf zt_fd X (d + 1) zm_190 137 [(0, .ref 2)] (v.toList ++ []) h' Q))) : zz_J zp_P zt_tf zt_fd X (d + 1) zm_190 131 [(0, .ref 2)] [] h Q := by
  refine zz_J.n 132 rfl rfl rfl ?_
  refine zz_J.c 134 (.int 40) rfl rfl rfl rfl ?_
  refine zz_J.cv 137 (as := []) rfl rfl (hR.clO ko_2 (by decide) (by decide)) (by decide) (Nat.le_of_ble_eq_true rfl) (Nat.le_of_ble_eq_true rfl) rfl (Nat.le_of_ble_eq_true rfl) rfl ?_
  refine zz_J.mono (k hR) ?_
  intro o h' hE
  cases o with
  | inl v => exact zz_J.weak hE rfl ⟨rfl, trivial⟩
  | inr q => exact hE
theorem cb_190_137 {X : Nat → Option zz_C} {h : zz_H} {t : cS} {s : mS} {d : Nat} {Q : zz_O → zz_H → Prop}  (hR : kR h t s) (k : ∀ {h : zz_H}, kR h t s → zz_J zp_P zt_tf zt_fd X d zm_186 0 [(0, .ref 2), (1, .int 0)] [] h (zz_after 5 Q (fun v h' => zz_J zp_P zt_tf zt_fd X (d + 1) zm_190 142 [(0, .ref 2)] (v.toList ++ []) h' Q))) : zz_J zp_P zt_tf zt_fd X (d + 1) zm_190 137 [(0, .ref 2)] [] h Q := by
  refine zz_J.n 138 rfl rfl rfl ?_
  refine zz_J.c 139 (.int 0) rfl rfl rfl rfl ?_
  refine zz_J.cv 142 (as := []) rfl rfl (hR.clO ko_2 (by decide) (by decide)) (by decide) (Nat.le_of_ble_eq_true rfl) (Nat.le_of_ble_eq_true rfl) rfl (Nat.le_of_ble_eq_true rfl) rfl ?_
  refine zz_J.mono (k hR) ?_
  intro o h' hE
  cases o with
  | inl v => exact zz_J.weak hE rfl ⟨rfl, trivial⟩
  | inr q => exact hE
theorem cb_190_142 {X : Nat → Option zz_C} {h : zz_H} {t : cS} {s : mS} {d : Nat} {Q : zz_O → zz_H → Prop}  (hR : kR h t s) (k : ∀ {h : zz_H}, kR h t s → zz_J zp_P zt_tf zt_fd X d zm_201 0 [(0, .ref 2), (1, .int 41)] [] h (zz_after 5 Q (fun v h' => zz_J zp_P zt_tf zt_fd X (d + 1) zm_190 148 [] (v.toList ++ []) h' Q))) : zz_J zp_P zt_tf zt_fd X (d + 1) zm_190 142 [(0, .ref 2)] [] h Q := by
  refine zz_J.n 143 rfl rfl rfl ?_
  refine zz_J.c 145 (.int 41) rfl rfl rfl rfl ?_
  refine zz_J.cv 148 (as := []) rfl rfl (hR.clO ko_2 (by decide) (by decide)) (by decide) (Nat.le_of_ble_eq_true rfl) (Nat.le_of_ble_eq_true rfl) rfl (Nat.le_of_ble_eq_true rfl) rfl ?_
  refine zz_J.mono (k hR) ?_
  intro o h' hE
  cases o with
  | inl v => exact zz_J.weak hE rfl trivial
  | inr q => exact hE
theorem cb_190_148 {X : Nat → Option zz_C} {h : zz_H} {t : cS} {s : mS} {d : Nat} {Q : zz_O → zz_H → Prop}  (hR : kR h t s) (k : ∀ {h : zz_H}, kR h t s → zz_J zp_P zt_tf zt_fd X d zm_190 176 [] [] h Q) : zz_J zp_P zt_tf zt_fd X d zm_190 148 [] [] h Q := by
  refine zz_J.n 176 rfl rfl rfl ?_
  exact zz_J.weak (k hR) rfl trivial
theorem cb_190_151 {X : Nat → Option zz_C} {h : zz_H} {t : cS} {s : mS} {d : Nat} {Q : zz_O → zz_H → Prop} {x1 : Int32} (hR : kR h t s) (k : ∀ {h : zz_H}, kR h t s → zz_J zp_P zt_tf zt_fd X d zm_194 0 [(0, .ref 2), (1, .int 91), (2, .int 93), (3, .int 0), (4, .int 2000)] [] h (zz_after 5 Q (fun v h' => zz_J zp_P zt_tf zt_fd X (d + 1) zm_190 163 [(0, .ref 2), (1, .int x1)] (v.toList ++ []) h' Q))) : zz_J zp_P zt_tf zt_fd X (d + 1) zm_190 151 [(0, .ref 2), (1, .int x1)] [] h Q := by
  refine zz_J.n 152 rfl rfl rfl ?_
  refine zz_J.c 154 (.int 91) rfl rfl rfl rfl ?_
  refine zz_J.c 156 (.int 93) rfl rfl rfl rfl ?_
  refine zz_J.c 157 (.int 0) rfl rfl rfl rfl ?_
  refine zz_J.c 160 (.int 2000) rfl rfl rfl rfl ?_
  refine zz_J.cv 163 (as := []) rfl rfl (hR.clO ko_2 (by decide) (by decide)) (by decide) (Nat.le_of_ble_eq_true rfl) (Nat.le_of_ble_eq_true rfl) rfl (Nat.le_of_ble_eq_true rfl) rfl ?_
  refine zz_J.mono (k hR) ?_
  intro o h' hE
  cases o with
  | inl v => exact zz_J.weak hE rfl ⟨rfl, rfl, trivial⟩
  | inr q => exact hE
theorem cb_190_163 {X : Nat → Option zz_C} {h : zz_H} {t : cS} {s : mS} {d : Nat} {Q : zz_O → zz_H → Prop} {x1 : Int32} {y0 : Int32} (hR : kR h t s) {w0 : Nat} (e0 : (kP t 2 1) = some w0) (e1 : w0 = 12 ∨ w0 = 21) (k : ∀ {h : zz_H}, kR h t s → zz_J zp_P zt_tf zt_fd X d zm_209 0 [(0, .ref w0), (1, .int 20), (2, .int y0), (3, .int x1)] [] h (zz_after 6 Q (fun v h' => zz_J zp_P zt_tf zt_fd X (d + 1) zm_190 175 [] (v.toList ++ []) h' Q))) : zz_J zp_P zt_tf zt_fd X (d + 1) zm_190 163 [(0, .ref 2), (1, .int x1)] [.int y0] h Q := by
  refine zz_J.n 164 rfl rfl rfl ?_
  refine zz_J.n 165 rfl rfl rfl ?_
  refine zz_J.g 168 rfl (hR.gv (v := .ref w0) ko_2 (by decide) ((congrArg (fun q => some (zz_rv q)) e0).trans rfl)) rfl ?_
  refine zz_J.c 170 (.int 20) rfl rfl rfl rfl ?_
  refine zz_J.n 171 rfl rfl rfl ?_
  refine zz_J.n 172 rfl rfl rfl ?_
  refine zz_J.cv 175 (as := []) rfl rfl (hR.clO (ko_P e1) (by decide) (by decide)) (by decide) (Nat.le_of_ble_eq_true rfl) (Nat.le_of_ble_eq_true rfl) rfl (Nat.le_of_ble_eq_true rfl) rfl ?_
  refine zz_J.mono (k hR) ?_
  intro o h' hE
  cases o with
  | inl v => exact zz_J.weak hE rfl trivial
  | inr q => exact hE
theorem cb_190_175 {X : Nat → Option zz_C} {h : zz_H} {t : cS} {s : mS} {d : Nat} {Q : zz_O → zz_H → Prop} {y0 : Int32} (hR : kR h t s) (k : ∀ {h : zz_H}, kR h t s → zz_J zp_P zt_tf zt_fd X d zm_190 176 [] [] h Q) : zz_J zp_P zt_tf zt_fd X d zm_190 175 [] [.int y0] h Q := by
  refine zz_J.n 176 rfl rfl rfl ?_
  exact zz_J.weak (k hR) rfl trivial
theorem cb_190_176 {X : Nat → Option zz_C} {h : zz_H} {t : cS} {s : mS} {d : Nat} {Q : zz_O → zz_H → Prop}  (hR : kR h t s) (k : ∀ {h : zz_H}, kR h t s → Q (.inl none) h) : zz_J zp_P zt_tf zt_fd X d zm_190 176 [] [] h Q := by
  refine zz_J.ret rfl rfl rfl ?_
  exact k hR
def cf_190_176 (N : Nat) (X : Nat → Option zz_C) (rk : Nat → List Value → cS → kO)  (t : cS) : kO := some (t, .inl none)
theorem cr_190_176 {X : Nat → Option zz_C} {s : mS} {N : Nat} {rk : Nat → List Value → cS → kO} {D : Nat} (hrk : cK0 X s D rk) (hB : 10 ≤ D) {d : Nat} (hd : D + 1 ≤ d) {Q : zz_O → zz_H → Prop}  {h : zz_H} {t t' : cS} {o : kY} (hR : kR h t s) (hf : cf_190_176 N X rk  t = some (t', o)) (k : (∀ h', kR h' t' s → kE o Q h')) : zz_J zp_P zt_tf zt_fd X d zm_190 176 [] [] h Q := by
  unfold cf_190_176 at hf
  cases hf
  exact cb_190_176 hR  (fun {h} hR => k h hR)
def cf_190_81 (N : Nat) (X : Nat → Option zz_C) (rk : Nat → List Value → cS → kO)  (t : cS) : kO := cf_190_176 N X rk  t
theorem cr_190_81 {X : Nat → Option zz_C} {s : mS} {N : Nat} {rk : Nat → List Value → cS → kO} {D : Nat} (hrk : cK0 X s D rk) (hB : 10 ≤ D) {d : Nat} (hd : D + 1 ≤ d) {Q : zz_O → zz_H → Prop}  {h : zz_H} {t t' : cS} {o : kY} (hR : kR h t s) (hf : cf_190_81 N X rk  t = some (t', o)) (k : (∀ h', kR h' t' s → kE o Q h')) : zz_J zp_P zt_tf zt_fd X d zm_190 81 [] [] h Q := by
  unfold cf_190_81 at hf
  exact cb_190_81 hR  (fun hR => cr_190_176 hrk hB hd hR hf k)
def cf_190_73 (N : Nat) (X : Nat → Option zz_C) (rk : Nat → List Value → cS → kO) (y0 : Int32) (t : cS) : kO := ko_call 10 (cf_46 N X  t) (fun g1 v1 => co_v v1 (cf_190_81 N X rk  g1))
theorem cr_190_73 {X : Nat → Option zz_C} {s : mS} {N : Nat} {rk : Nat → List Value → cS → kO} {D : Nat} (hrk : cK0 X s D rk) (hB : 10 ≤ D) {d : Nat} (hd : D + 1 ≤ d) {Q : zz_O → zz_H → Prop} {y0 : Int32} {h : zz_H} {t t' : cS} {o : kY} (hR : kR h t s) (hf : cf_190_73 N X rk y0 t = some (t', o)) (k : (∀ h', kR h' t' s → kE o Q h')) : zz_J zp_P zt_tf zt_fd X d zm_190 73 [(0, .ref 2)] [.int y0] h Q := by
  unfold cf_190_73 at hf
  obtain ⟨d', rfl⟩ : ∃ d', d = d' + 1 := ⟨d - 1, by omega⟩
  refine cb_190_73 hR  (fun {h} hR => ?_)
  rcases ko_call_ok hf with ⟨g1, v1, er, hf⟩ | ⟨g1, er, hq⟩
  · obtain ⟨hv, hf2⟩ := co_v_ok hf
    clear hf
    have hf := hf2
    clear hf2
    subst hv
    refine cr_46 (by omega) hR er (fun h hR => ?_)
    exact cr_190_81 hrk hB hd hR hf k
  · refine cr_46 (by omega) hR er (fun h hR => ?_)
    exact ko_thrown hq hR k
def cf_190_68 (N : Nat) (X : Nat → Option zz_C) (rk : Nat → List Value → cS → kO) (x1 : Int32) (y0 : Nat) (y1 : Int32) (y2 : Int64) (t : cS) : kO := if y0 = 12 ∨ y0 = 21 then (ko_call 6 (cf_209 N X y0 y1 (Int64.toInt32 y2) x1 t) (fun g1 v1 => co_i v1 (fun y => cf_190_73 N X rk y g1))) else none
theorem cr_190_68 {X : Nat → Option zz_C} {s : mS} {N : Nat} {rk : Nat → List Value → cS → kO} {D : Nat} (hrk : cK0 X s D rk) (hB : 10 ≤ D) {d : Nat} (hd : D + 1 ≤ d) {Q : zz_O → zz_H → Prop} {x1 : Int32} {y0 : Nat} {y1 : Int32} {y2 : Int64} {h : zz_H} {t t' : cS} {o : kY} (hR : kR h t s) (hf : cf_190_68 N X rk x1 y0 y1 y2 t = some (t', o)) (k : (∀ h', kR h' t' s → kE o Q h')) : zz_J zp_P zt_tf zt_fd X d zm_190 68 [(0, .ref 2), (1, .int x1)] [.long y2, .int y1, .ref y0] h Q := by
  unfold cf_190_68 at hf
  obtain ⟨e0, hf⟩ := ko_if hf
  obtain ⟨d', rfl⟩ : ∃ d', d = d' + 1 := ⟨d - 1, by omega⟩
  refine cb_190_68 hR e0 (fun {h} hR => ?_)
  rcases ko_call_ok hf with ⟨g1, v1, er, hf⟩ | ⟨g1, er, hq⟩
  · obtain ⟨y, hv, hf2⟩ := co_i_ok hf
    clear hf
    have hf := hf2
    clear hf2
    subst hv
    refine cr_209 (by omega) hR er (fun h hR => ?_)
    exact cr_190_73 hrk hB hd hR hf k
  · refine cr_209 (by omega) hR er (fun h hR => ?_)
    exact ko_thrown hq hR k
def cf_190_56 (N : Nat) (X : Nat → Option zz_C) (rk : Nat → List Value → cS → kO) (x1 : Int32) (t : cS) : kO := co_b ((kP t 2 1)) (fun w0 => ko_call 10 (cf_244 N X  t) (fun g1 v1 => co_l v1 (fun y => cf_190_68 N X rk x1 w0 0 y g1)))
theorem cr_190_56 {X : Nat → Option zz_C} {s : mS} {N : Nat} {rk : Nat → List Value → cS → kO} {D : Nat} (hrk : cK0 X s D rk) (hB : 10 ≤ D) {d : Nat} (hd : D + 1 ≤ d) {Q : zz_O → zz_H → Prop} {x1 : Int32} {h : zz_H} {t t' : cS} {o : kY} (hR : kR h t s) (hf : cf_190_56 N X rk x1 t = some (t', o)) (k : (∀ h', kR h' t' s → kE o Q h')) : zz_J zp_P zt_tf zt_fd X d zm_190 56 [(0, .ref 2), (1, .int x1)] [] h Q := by
  unfold cf_190_56 at hf
  obtain ⟨w0, e0, hf⟩ := co_b_ok hf
  obtain ⟨d', rfl⟩ : ∃ d', d = d' + 1 := ⟨d - 1, by omega⟩
  refine cb_190_56 hR e0 (fun {h} hR => ?_)
  rcases ko_call_ok hf with ⟨g1, v1, er, hf⟩ | ⟨g1, er, hq⟩
  · obtain ⟨y, hv, hf2⟩ := co_l_ok hf
    clear hf
    have hf := hf2
    clear hf2
    subst hv
    refine cr_244 (by omega) hR er (fun h hR => ?_)
    exact cr_190_68 hrk hB hd hR hf k
  · refine cr_244 (by omega) hR er (fun h hR => ?_)
    exact ko_thrown hq hR k
def cf_190_116 (N : Nat) (X : Nat → Option zz_C) (rk : Nat → List Value → cS → kO) (y0 : Int32) (t : cS) : kO := cf_190_176 N X rk  t
theorem cr_190_116 {X : Nat → Option zz_C} {s : mS} {N : Nat} {rk : Nat → List Value → cS → kO} {D : Nat} (hrk : cK0 X s D rk) (hB : 10 ≤ D) {d : Nat} (hd : D + 1 ≤ d) {Q : zz_O → zz_H → Prop} {y0 : Int32} {h : zz_H} {t t' : cS} {o : kY} (hR : kR h t s) (hf : cf_190_116 N X rk y0 t = some (t', o)) (k : (∀ h', kR h' t' s → kE o Q h')) : zz_J zp_P zt_tf zt_fd X d zm_190 116 [] [.int y0] h Q := by
  unfold cf_190_116 at hf
  exact cb_190_116 hR  (fun hR => cr_190_176 hrk hB hd hR hf k)
def cf_190_112 (N : Nat) (X : Nat → Option zz_C) (rk : Nat → List Value → cS → kO) (x1 : Int32) (y0 : Nat) (y1 : Int32) (y2 : Int32) (t : cS) : kO := if y0 = 12 ∨ y0 = 21 then (ko_call 6 (cf_209 N X y0 y1 y2 x1 t) (fun g1 v1 => co_i v1 (fun y => cf_190_116 N X rk y g1))) else none
theorem cr_190_112 {X : Nat → Option zz_C} {s : mS} {N : Nat} {rk : Nat → List Value → cS → kO} {D : Nat} (hrk : cK0 X s D rk) (hB : 10 ≤ D) {d : Nat} (hd : D + 1 ≤ d) {Q : zz_O → zz_H → Prop} {x1 : Int32} {y0 : Nat} {y1 : Int32} {y2 : Int32} {h : zz_H} {t t' : cS} {o : kY} (hR : kR h t s) (hf : cf_190_112 N X rk x1 y0 y1 y2 t = some (t', o)) (k : (∀ h', kR h' t' s → kE o Q h')) : zz_J zp_P zt_tf zt_fd X d zm_190 112 [(1, .int x1)] [.int y2, .int y1, .ref y0] h Q := by
  unfold cf_190_112 at hf
  obtain ⟨e0, hf⟩ := ko_if hf
  obtain ⟨d', rfl⟩ : ∃ d', d = d' + 1 := ⟨d - 1, by omega⟩
  refine cb_190_112 hR e0 (fun {h} hR => ?_)
  rcases ko_call_ok hf with ⟨g1, v1, er, hf⟩ | ⟨g1, er, hq⟩
  · obtain ⟨y, hv, hf2⟩ := co_i_ok hf
    clear hf
    have hf := hf2
    clear hf2
    subst hv
    refine cr_209 (by omega) hR er (fun h hR => ?_)
    exact cr_190_116 hrk hB hd hR hf k
  · refine cr_209 (by omega) hR er (fun h hR => ?_)
    exact ko_thrown hq hR k
def cf_190_103 (N : Nat) (X : Nat → Option zz_C) (rk : Nat → List Value → cS → kO) (x1 : Int32) (t : cS) : kO := co_b ((kP t 2 1)) (fun w0 => ko_call 5 (cf_195 N X  t) (fun g1 v1 => co_i v1 (fun y => cf_190_112 N X rk x1 w0 1 y g1)))
theorem cr_190_103 {X : Nat → Option zz_C} {s : mS} {N : Nat} {rk : Nat → List Value → cS → kO} {D : Nat} (hrk : cK0 X s D rk) (hB : 10 ≤ D) {d : Nat} (hd : D + 1 ≤ d) {Q : zz_O → zz_H → Prop} {x1 : Int32} {h : zz_H} {t t' : cS} {o : kY} (hR : kR h t s) (hf : cf_190_103 N X rk x1 t = some (t', o)) (k : (∀ h', kR h' t' s → kE o Q h')) : zz_J zp_P zt_tf zt_fd X d zm_190 103 [(0, .ref 2), (1, .int x1)] [] h Q := by
  unfold cf_190_103 at hf
  obtain ⟨w0, e0, hf⟩ := co_b_ok hf
  obtain ⟨d', rfl⟩ : ∃ d', d = d' + 1 := ⟨d - 1, by omega⟩
  refine cb_190_103 hR e0 (fun {h} hR => ?_)
  rcases ko_call_ok hf with ⟨g1, v1, er, hf⟩ | ⟨g1, er, hq⟩
  · obtain ⟨y, hv, hf2⟩ := co_i_ok hf
    clear hf
    have hf := hf2
    clear hf2
    subst hv
    refine cr_195 (by omega) hR er (fun h hR => ?_)
    exact cr_190_112 hrk hB hd hR hf k
  · refine cr_195 (by omega) hR er (fun h hR => ?_)
    exact ko_thrown hq hR k
def cf_190_100 (N : Nat) (X : Nat → Option zz_C) (rk : Nat → List Value → cS → kO)  (t : cS) : kO := cf_190_176 N X rk  t
theorem cr_190_100 {X : Nat → Option zz_C} {s : mS} {N : Nat} {rk : Nat → List Value → cS → kO} {D : Nat} (hrk : cK0 X s D rk) (hB : 10 ≤ D) {d : Nat} (hd : D + 1 ≤ d) {Q : zz_O → zz_H → Prop}  {h : zz_H} {t t' : cS} {o : kY} (hR : kR h t s) (hf : cf_190_100 N X rk  t = some (t', o)) (k : (∀ h', kR h' t' s → kE o Q h')) : zz_J zp_P zt_tf zt_fd X d zm_190 100 [] [] h Q := by
  unfold cf_190_100 at hf
  exact cb_190_100 hR  (fun hR => cr_190_176 hrk hB hd hR hf k)
def cf_190_96 (N : Nat) (X : Nat → Option zz_C) (rk : Nat → List Value → cS → kO)  (t : cS) : kO := ko_call 5 (rk 191 [] t) (fun g1 v1 => co_v v1 (cf_190_100 N X rk  g1))
theorem cr_190_96 {X : Nat → Option zz_C} {s : mS} {N : Nat} {rk : Nat → List Value → cS → kO} {D : Nat} (hrk : cK0 X s D rk) (hB : 10 ≤ D) {d : Nat} (hd : D + 1 ≤ d) {Q : zz_O → zz_H → Prop}  {h : zz_H} {t t' : cS} {o : kY} (hR : kR h t s) (hf : cf_190_96 N X rk  t = some (t', o)) (k : (∀ h', kR h' t' s → kE o Q h')) : zz_J zp_P zt_tf zt_fd X d zm_190 96 [(0, .ref 2)] [] h Q := by
  unfold cf_190_96 at hf
  obtain ⟨d', rfl⟩ : ∃ d', d = d' + 1 := ⟨d - 1, by omega⟩
  refine cb_190_96 hR  (fun {h} hR => ?_)
  rcases ko_call_ok hf with ⟨g1, v1, er, hf⟩ | ⟨g1, er, hq⟩
  · obtain ⟨hv, hf2⟩ := co_v_ok hf
    clear hf
    have hf := hf2
    clear hf2
    subst hv
    refine hrk.2.2.2.2.1 (by omega) hR er (fun h hR => ?_)
    exact cr_190_100 hrk hB hd hR hf k
  · refine hrk.2.2.2.2.1 (by omega) hR er (fun h hR => ?_)
    exact ko_thrown hq hR k
def cf_190_91 (N : Nat) (X : Nat → Option zz_C) (rk : Nat → List Value → cS → kO) (x1 : Int32) (y0 : Int32) (t : cS) : kO := if ¬ y0 = 40 then cf_190_103 N X rk x1 t else cf_190_96 N X rk  t
theorem cr_190_91 {X : Nat → Option zz_C} {s : mS} {N : Nat} {rk : Nat → List Value → cS → kO} {D : Nat} (hrk : cK0 X s D rk) (hB : 10 ≤ D) {d : Nat} (hd : D + 1 ≤ d) {Q : zz_O → zz_H → Prop} {x1 : Int32} {y0 : Int32} {h : zz_H} {t t' : cS} {o : kY} (hR : kR h t s) (hf : cf_190_91 N X rk x1 y0 t = some (t', o)) (k : (∀ h', kR h' t' s → kE o Q h')) : zz_J zp_P zt_tf zt_fd X d zm_190 91 [(0, .ref 2), (1, .int x1)] [.int y0] h Q := by
  unfold cf_190_91 at hf
  refine cb_190_91 hR  (fun c {h} hR => ?_) (fun c {h} hR => ?_)
  · rw [if_pos c] at hf
    exact cr_190_103 hrk hB hd hR hf k
  · rw [if_neg c] at hf
    exact cr_190_96 hrk hB hd hR hf k
def cf_190_84 (N : Nat) (X : Nat → Option zz_C) (rk : Nat → List Value → cS → kO) (x1 : Int32) (t : cS) : kO := ko_call 10 (cf_242 N X  t) (fun g1 v1 => co_i v1 (fun y => cf_190_91 N X rk x1 y g1))
theorem cr_190_84 {X : Nat → Option zz_C} {s : mS} {N : Nat} {rk : Nat → List Value → cS → kO} {D : Nat} (hrk : cK0 X s D rk) (hB : 10 ≤ D) {d : Nat} (hd : D + 1 ≤ d) {Q : zz_O → zz_H → Prop} {x1 : Int32} {h : zz_H} {t t' : cS} {o : kY} (hR : kR h t s) (hf : cf_190_84 N X rk x1 t = some (t', o)) (k : (∀ h', kR h' t' s → kE o Q h')) : zz_J zp_P zt_tf zt_fd X d zm_190 84 [(0, .ref 2), (1, .int x1)] [] h Q := by
  unfold cf_190_84 at hf
  obtain ⟨d', rfl⟩ : ∃ d', d = d' + 1 := ⟨d - 1, by omega⟩
  refine cb_190_84 hR  (fun {h} hR => ?_)
  rcases ko_call_ok hf with ⟨g1, v1, er, hf⟩ | ⟨g1, er, hq⟩
  · obtain ⟨y, hv, hf2⟩ := co_i_ok hf
    clear hf
    have hf := hf2
    clear hf2
    subst hv
    refine cr_242 (by omega) hR er (fun h hR => ?_)
    exact cr_190_91 hrk hB hd hR hf k
  · refine cr_242 (by omega) hR er (fun h hR => ?_)
    exact ko_thrown hq hR k
def cf_190_128 (N : Nat) (X : Nat → Option zz_C) (rk : Nat → List Value → cS → kO)  (t : cS) : kO := cf_190_176 N X rk  t
theorem cr_190_128 {X : Nat → Option zz_C} {s : mS} {N : Nat} {rk : Nat → List Value → cS → kO} {D : Nat} (hrk : cK0 X s D rk) (hB : 10 ≤ D) {d : Nat} (hd : D + 1 ≤ d) {Q : zz_O → zz_H → Prop}  {h : zz_H} {t t' : cS} {o : kY} (hR : kR h t s) (hf : cf_190_128 N X rk  t = some (t', o)) (k : (∀ h', kR h' t' s → kE o Q h')) : zz_J zp_P zt_tf zt_fd X d zm_190 128 [] [] h Q := by
  unfold cf_190_128 at hf
  exact cb_190_128 hR  (fun hR => cr_190_176 hrk hB hd hR hf k)
def cf_190_125 (N : Nat) (X : Nat → Option zz_C) (rk : Nat → List Value → cS → kO) (y1 : Nat) (t : cS) : kO := ko_call 5 (rk 192 [.ref y1] t) (fun g1 v1 => co_v v1 (cf_190_128 N X rk  g1))
theorem cr_190_125 {X : Nat → Option zz_C} {s : mS} {N : Nat} {rk : Nat → List Value → cS → kO} {D : Nat} (hrk : cK0 X s D rk) (hB : 10 ≤ D) {d : Nat} (hd : D + 1 ≤ d) {Q : zz_O → zz_H → Prop} {y1 : Nat} {h : zz_H} {t t' : cS} {o : kY} (hR : kR h t s) (hf : cf_190_125 N X rk y1 t = some (t', o)) (k : (∀ h', kR h' t' s → kE o Q h')) : zz_J zp_P zt_tf zt_fd X d zm_190 125 [] [.ref y1, .ref 2] h Q := by
  unfold cf_190_125 at hf
  obtain ⟨d', rfl⟩ : ∃ d', d = d' + 1 := ⟨d - 1, by omega⟩
  refine cb_190_125 hR  (fun {h} hR => ?_)
  rcases ko_call_ok hf with ⟨g1, v1, er, hf⟩ | ⟨g1, er, hq⟩
  · obtain ⟨hv, hf2⟩ := co_v_ok hf
    clear hf
    have hf := hf2
    clear hf2
    subst hv
    refine hrk.2.2.2.2.2.1 (by omega) hR er (fun h hR => ?_)
    exact cr_190_128 hrk hB hd hR hf k
  · refine hrk.2.2.2.2.2.1 (by omega) hR er (fun h hR => ?_)
    exact ko_thrown hq hR k
def cf_190_120 (N : Nat) (X : Nat → Option zz_C) (rk : Nat → List Value → cS → kO)  (t : cS) : kO := ko_call 5 (cf_199 N X  t) (fun g1 v1 => co_r v1 (fun y => cf_190_125 N X rk y g1))
theorem cr_190_120 {X : Nat → Option zz_C} {s : mS} {N : Nat} {rk : Nat → List Value → cS → kO} {D : Nat} (hrk : cK0 X s D rk) (hB : 10 ≤ D) {d : Nat} (hd : D + 1 ≤ d) {Q : zz_O → zz_H → Prop}  {h : zz_H} {t t' : cS} {o : kY} (hR : kR h t s) (hf : cf_190_120 N X rk  t = some (t', o)) (k : (∀ h', kR h' t' s → kE o Q h')) : zz_J zp_P zt_tf zt_fd X d zm_190 120 [(0, .ref 2)] [] h Q := by
  unfold cf_190_120 at hf
  obtain ⟨d', rfl⟩ : ∃ d', d = d' + 1 := ⟨d - 1, by omega⟩
  refine cb_190_120 hR  (fun {h} hR => ?_)
  rcases ko_call_ok hf with ⟨g1, v1, er, hf⟩ | ⟨g1, er, hq⟩
  · obtain ⟨y, hv, hf2⟩ := co_r_ok hf
    clear hf
    have hf := hf2
    clear hf2
    subst hv
    refine cr_199 (by omega) hR er (fun h hR => ?_)
    exact cr_190_125 hrk hB hd hR hf k
  · refine cr_199 (by omega) hR er (fun h hR => ?_)
    exact ko_thrown hq hR k
def cf_190_148 (N : Nat) (X : Nat → Option zz_C) (rk : Nat → List Value → cS → kO)  (t : cS) : kO := cf_190_176 N X rk  t
theorem cr_190_148 {X : Nat → Option zz_C} {s : mS} {N : Nat} {rk : Nat → List Value → cS → kO} {D : Nat} (hrk : cK0 X s D rk) (hB : 10 ≤ D) {d : Nat} (hd : D + 1 ≤ d) {Q : zz_O → zz_H → Prop}  {h : zz_H} {t t' : cS} {o : kY} (hR : kR h t s) (hf : cf_190_148 N X rk  t = some (t', o)) (k : (∀ h', kR h' t' s → kE o Q h')) : zz_J zp_P zt_tf zt_fd X d zm_190 148 [] [] h Q := by
  unfold cf_190_148 at hf
  exact cb_190_148 hR  (fun hR => cr_190_176 hrk hB hd hR hf k)
def cf_190_142 (N : Nat) (X : Nat → Option zz_C) (rk : Nat → List Value → cS → kO)  (t : cS) : kO := ko_call 5 (cf_201 N X 41 t) (fun g1 v1 => co_v v1 (cf_190_148 N X rk  g1))
theorem cr_190_142 {X : Nat → Option zz_C} {s : mS} {N : Nat} {rk : Nat → List Value → cS → kO} {D : Nat} (hrk : cK0 X s D rk) (hB : 10 ≤ D) {d : Nat} (hd : D + 1 ≤ d) {Q : zz_O → zz_H → Prop}  {h : zz_H} {t t' : cS} {o : kY} (hR : kR h t s) (hf : cf_190_142 N X rk  t = some (t', o)) (k : (∀ h', kR h' t' s → kE o Q h')) : zz_J zp_P zt_tf zt_fd X d zm_190 142 [(0, .ref 2)] [] h Q := by
  unfold cf_190_142 at hf
  obtain ⟨d', rfl⟩ : ∃ d', d = d' + 1 := ⟨d - 1, by omega⟩
  refine cb_190_142 hR  (fun {h} hR => ?_)
  rcases ko_call_ok hf with ⟨g1, v1, er, hf⟩ | ⟨g1, er, hq⟩
  · obtain ⟨hv, hf2⟩ := co_v_ok hf
    clear hf
    have hf := hf2
    clear hf2
    subst hv
    refine cr_201 (by omega) hR er (fun h hR => ?_)
    exact cr_190_148 hrk hB hd hR hf k
  · refine cr_201 (by omega) hR er (fun h hR => ?_)
    exact ko_thrown hq hR k
def cf_190_137 (N : Nat) (X : Nat → Option zz_C) (rk : Nat → List Value → cS → kO)  (t : cS) : kO := ko_call 5 (rk 186 [.int 0] t) (fun g1 v1 => co_v v1 (cf_190_142 N X rk  g1))
theorem cr_190_137 {X : Nat → Option zz_C} {s : mS} {N : Nat} {rk : Nat → List Value → cS → kO} {D : Nat} (hrk : cK0 X s D rk) (hB : 10 ≤ D) {d : Nat} (hd : D + 1 ≤ d) {Q : zz_O → zz_H → Prop}  {h : zz_H} {t t' : cS} {o : kY} (hR : kR h t s) (hf : cf_190_137 N X rk  t = some (t', o)) (k : (∀ h', kR h' t' s → kE o Q h')) : zz_J zp_P zt_tf zt_fd X d zm_190 137 [(0, .ref 2)] [] h Q := by
  unfold cf_190_137 at hf
  obtain ⟨d', rfl⟩ : ∃ d', d = d' + 1 := ⟨d - 1, by omega⟩
  refine cb_190_137 hR  (fun {h} hR => ?_)
  rcases ko_call_ok hf with ⟨g1, v1, er, hf⟩ | ⟨g1, er, hq⟩
  · obtain ⟨hv, hf2⟩ := co_v_ok hf
    clear hf
    have hf := hf2
    clear hf2
    subst hv
    refine hrk.1 (by omega) hR er (fun h hR => ?_)
    exact cr_190_142 hrk hB hd hR hf k
  · refine hrk.1 (by omega) hR er (fun h hR => ?_)
    exact ko_thrown hq hR k
def cf_190_131 (N : Nat) (X : Nat → Option zz_C) (rk : Nat → List Value → cS → kO)  (t : cS) : kO := ko_call 5 (cf_201 N X 40 t) (fun g1 v1 => co_v v1 (cf_190_137 N X rk  g1))
theorem cr_190_131 {X : Nat → Option zz_C} {s : mS} {N : Nat} {rk : Nat → List Value → cS → kO} {D : Nat} (hrk : cK0 X s D rk) (hB : 10 ≤ D) {d : Nat} (hd : D + 1 ≤ d) {Q : zz_O → zz_H → Prop}  {h : zz_H} {t t' : cS} {o : kY} (hR : kR h t s) (hf : cf_190_131 N X rk  t = some (t', o)) (k : (∀ h', kR h' t' s → kE o Q h')) : zz_J zp_P zt_tf zt_fd X d zm_190 131 [(0, .ref 2)] [] h Q := by
  unfold cf_190_131 at hf
  obtain ⟨d', rfl⟩ : ∃ d', d = d' + 1 := ⟨d - 1, by omega⟩
  refine cb_190_131 hR  (fun {h} hR => ?_)
  rcases ko_call_ok hf with ⟨g1, v1, er, hf⟩ | ⟨g1, er, hq⟩
  · obtain ⟨hv, hf2⟩ := co_v_ok hf
    clear hf
    have hf := hf2
    clear hf2
    subst hv
    refine cr_201 (by omega) hR er (fun h hR => ?_)
    exact cr_190_137 hrk hB hd hR hf k
  · refine cr_201 (by omega) hR er (fun h hR => ?_)
    exact ko_thrown hq hR k
def cf_190_175 (N : Nat) (X : Nat → Option zz_C) (rk : Nat → List Value → cS → kO) (y0 : Int32) (t : cS) : kO := cf_190_176 N X rk  t
theorem cr_190_175 {X : Nat → Option zz_C} {s : mS} {N : Nat} {rk : Nat → List Value → cS → kO} {D : Nat} (hrk : cK0 X s D rk) (hB : 10 ≤ D) {d : Nat} (hd : D + 1 ≤ d) {Q : zz_O → zz_H → Prop} {y0 : Int32} {h : zz_H} {t t' : cS} {o : kY} (hR : kR h t s) (hf : cf_190_175 N X rk y0 t = some (t', o)) (k : (∀ h', kR h' t' s → kE o Q h')) : zz_J zp_P zt_tf zt_fd X d zm_190 175 [] [.int y0] h Q := by
  unfold cf_190_175 at hf
  exact cb_190_175 hR  (fun hR => cr_190_176 hrk hB hd hR hf k)
def cf_190_163 (N : Nat) (X : Nat → Option zz_C) (rk : Nat → List Value → cS → kO) (x1 : Int32) (y0 : Int32) (t : cS) : kO := co_b ((kP t 2 1)) (fun w0 => if w0 = 12 ∨ w0 = 21 then (ko_call 6 (cf_209 N X w0 20 y0 x1 t) (fun g1 v1 => co_i v1 (fun y => cf_190_175 N X rk y g1))) else none)
theorem cr_190_163 {X : Nat → Option zz_C} {s : mS} {N : Nat} {rk : Nat → List Value → cS → kO} {D : Nat} (hrk : cK0 X s D rk) (hB : 10 ≤ D) {d : Nat} (hd : D + 1 ≤ d) {Q : zz_O → zz_H → Prop} {x1 : Int32} {y0 : Int32} {h : zz_H} {t t' : cS} {o : kY} (hR : kR h t s) (hf : cf_190_163 N X rk x1 y0 t = some (t', o)) (k : (∀ h', kR h' t' s → kE o Q h')) : zz_J zp_P zt_tf zt_fd X d zm_190 163 [(0, .ref 2), (1, .int x1)] [.int y0] h Q := by
  unfold cf_190_163 at hf
  obtain ⟨w0, e0, hf⟩ := co_b_ok hf
  obtain ⟨e1, hf⟩ := ko_if hf
  obtain ⟨d', rfl⟩ : ∃ d', d = d' + 1 := ⟨d - 1, by omega⟩
  refine cb_190_163 hR e0 e1 (fun {h} hR => ?_)
  rcases ko_call_ok hf with ⟨g1, v1, er, hf⟩ | ⟨g1, er, hq⟩
  · obtain ⟨y, hv, hf2⟩ := co_i_ok hf
    clear hf
    have hf := hf2
    clear hf2
    subst hv
    refine cr_209 (by omega) hR er (fun h hR => ?_)
    exact cr_190_175 hrk hB hd hR hf k
  · refine cr_209 (by omega) hR er (fun h hR => ?_)
    exact ko_thrown hq hR k
def cf_190_151 (N : Nat) (X : Nat → Option zz_C) (rk : Nat → List Value → cS → kO) (x1 : Int32) (t : cS) : kO := ko_call 5 (rk 194 [.int 91, .int 93, .int 0, .int 2000] t) (fun g1 v1 => co_i v1 (fun y => cf_190_163 N X rk x1 y g1))
theorem cr_190_151 {X : Nat → Option zz_C} {s : mS} {N : Nat} {rk : Nat → List Value → cS → kO} {D : Nat} (hrk : cK0 X s D rk) (hB : 10 ≤ D) {d : Nat} (hd : D + 1 ≤ d) {Q : zz_O → zz_H → Prop} {x1 : Int32} {h : zz_H} {t t' : cS} {o : kY} (hR : kR h t s) (hf : cf_190_151 N X rk x1 t = some (t', o)) (k : (∀ h', kR h' t' s → kE o Q h')) : zz_J zp_P zt_tf zt_fd X d zm_190 151 [(0, .ref 2), (1, .int x1)] [] h Q := by
  unfold cf_190_151 at hf
  obtain ⟨d', rfl⟩ : ∃ d', d = d' + 1 := ⟨d - 1, by omega⟩
  refine cb_190_151 hR  (fun {h} hR => ?_)
  rcases ko_call_ok hf with ⟨g1, v1, er, hf⟩ | ⟨g1, er, hq⟩
  · obtain ⟨y, hv, hf2⟩ := co_i_ok hf
    clear hf
    have hf := hf2
    clear hf2
    subst hv
    refine hrk.2.2.2.2.2.2.2 (by omega) hR er (fun h hR => ?_)
    exact cr_190_163 hrk hB hd hR hf k
  · refine hrk.2.2.2.2.2.2.2 (by omega) hR er (fun h hR => ?_)
    exact ko_thrown hq hR k
def cf_190_15 (N : Nat) (X : Nat → Option zz_C) (rk : Nat → List Value → cS → kO) (x1 : Int32) (y0 : Int32) (t : cS) : kO := if y0 = 2 then cf_190_56 N X rk x1 t else if y0 = 3 then cf_190_84 N X rk x1 t else if y0 = 4 then cf_190_120 N X rk  t else if y0 = 40 then cf_190_131 N X rk  t else cf_190_151 N X rk x1 t
theorem cr_190_15 {X : Nat → Option zz_C} {s : mS} {N : Nat} {rk : Nat → List Value → cS → kO} {D : Nat} (hrk : cK0 X s D rk) (hB : 10 ≤ D) {d : Nat} (hd : D + 1 ≤ d) {Q : zz_O → zz_H → Prop} {x1 : Int32} {y0 : Int32} {h : zz_H} {t t' : cS} {o : kY} (hR : kR h t s) (hf : cf_190_15 N X rk x1 y0 t = some (t', o)) (k : (∀ h', kR h' t' s → kE o Q h')) : zz_J zp_P zt_tf zt_fd X d zm_190 15 [(0, .ref 2), (1, .int x1)] [.int y0] h Q := by
  unfold cf_190_15 at hf
  refine cb_190_15 hR  (fun c {h} hR => ?_) (fun c {h} hR => ?_) (fun c {h} hR => ?_) (fun c {h} hR => ?_) (fun c {h} hR => ?_)
  · skip
    rw [if_pos c] at hf
    exact cr_190_56 hrk hB hd hR hf k
  · rw [if_neg (by rw [c]; decide)] at hf
    rw [if_pos c] at hf
    exact cr_190_84 hrk hB hd hR hf k
  · rw [if_neg (by rw [c]; decide)] at hf
    rw [if_neg (by rw [c]; decide)] at hf
    rw [if_pos c] at hf
    exact cr_190_120 hrk hB hd hR hf k
  · rw [if_neg (by rw [c]; decide)] at hf
    rw [if_neg (by rw [c]; decide)] at hf
    rw [if_neg (by rw [c]; decide)] at hf
    rw [if_pos c] at hf
    exact cr_190_131 hrk hB hd hR hf k
  · skip
    rw [if_neg c.1] at hf
    rw [if_neg c.2.1] at hf
    rw [if_neg c.2.2.1] at hf
    rw [if_neg c.2.2.2] at hf
    exact cr_190_151 hrk hB hd hR hf k
def cf_190_7 (N : Nat) (X : Nat → Option zz_C) (rk : Nat → List Value → cS → kO) (y0 : Int32) (t : cS) : kO := ko_call 10 (cf_42 N X  t) (fun g1 v1 => co_i v1 (fun y => cf_190_15 N X rk y0 y g1))
theorem cr_190_7 {X : Nat → Option zz_C} {s : mS} {N : Nat} {rk : Nat → List Value → cS → kO} {D : Nat} (hrk : cK0 X s D rk) (hB : 10 ≤ D) {d : Nat} (hd : D + 1 ≤ d) {Q : zz_O → zz_H → Prop} {y0 : Int32} {h : zz_H} {t t' : cS} {o : kY} (hR : kR h t s) (hf : cf_190_7 N X rk y0 t = some (t', o)) (k : (∀ h', kR h' t' s → kE o Q h')) : zz_J zp_P zt_tf zt_fd X d zm_190 7 [(0, .ref 2)] [.int y0] h Q := by
  unfold cf_190_7 at hf
  obtain ⟨d', rfl⟩ : ∃ d', d = d' + 1 := ⟨d - 1, by omega⟩
  refine cb_190_7 hR  (fun {h} hR => ?_)
  rcases ko_call_ok hf with ⟨g1, v1, er, hf⟩ | ⟨g1, er, hq⟩
  · obtain ⟨y, hv, hf2⟩ := co_i_ok hf
    clear hf
    have hf := hf2
    clear hf2
    subst hv
    refine cr_42 (by omega) hR er (fun h hR => ?_)
    exact cr_190_15 hrk hB hd hR hf k
  · refine cr_42 (by omega) hR er (fun h hR => ?_)
    exact ko_thrown hq hR k
def cf_190_0 (N : Nat) (X : Nat → Option zz_C) (rk : Nat → List Value → cS → kO)  (t : cS) : kO := ko_call 10 (cf_243 N X  t) (fun g1 v1 => co_i v1 (fun y => cf_190_7 N X rk y g1))
theorem cr_190_0 {X : Nat → Option zz_C} {s : mS} {N : Nat} {rk : Nat → List Value → cS → kO} {D : Nat} (hrk : cK0 X s D rk) (hB : 10 ≤ D) {d : Nat} (hd : D + 1 ≤ d) {Q : zz_O → zz_H → Prop}  {h : zz_H} {t t' : cS} {o : kY} (hR : kR h t s) (hf : cf_190_0 N X rk  t = some (t', o)) (k : (∀ h', kR h' t' s → kE o Q h')) : zz_J zp_P zt_tf zt_fd X d zm_190 0 [(0, .ref 2)] [] h Q := by
  unfold cf_190_0 at hf
  obtain ⟨d', rfl⟩ : ∃ d', d = d' + 1 := ⟨d - 1, by omega⟩
  refine cb_190_0 hR  (fun {h} hR => ?_)
  rcases ko_call_ok hf with ⟨g1, v1, er, hf⟩ | ⟨g1, er, hq⟩
  · obtain ⟨y, hv, hf2⟩ := co_i_ok hf
    clear hf
    have hf := hf2
    clear hf2
    subst hv
    refine cr_243 (by omega) hR er (fun h hR => ?_)
    exact cr_190_7 hrk hB hd hR hf k
  · refine cr_243 (by omega) hR er (fun h hR => ?_)
    exact ko_thrown hq hR k
/-- atom -/
def cf_190 (N : Nat) (X : Nat → Option zz_C) (rk : Nat → List Value → cS → kO)  (t : cS) : kO := cf_190_0 N X rk  t
theorem cr_190 {X : Nat → Option zz_C} {s : mS} {N : Nat} {rk : Nat → List Value → cS → kO} {D : Nat} (hrk : cK0 X s D rk) (hB : 10 ≤ D) {d : Nat} (hd : D + 1 ≤ d) {Q : zz_O → zz_H → Prop}  {h : zz_H} {t t' : cS} {o : kY} (hR : kR h t s) (hf : cf_190 N X rk  t = some (t', o)) (k : ∀ h', kR h' t' s → kE o Q h') : zz_J zp_P zt_tf zt_fd X d zm_190 0 [(0, .ref 2)] [] h Q := by
  unfold cf_190 at hf
  exact zz_J.weak (cr_190_0 hrk hB hd hR hf k) rfl ⟨rfl, trivial⟩
/-! yX5_call -/
theorem cb_191_0 {X : Nat → Option zz_C} {h : zz_H} {t : cS} {s : mS} {d : Nat} {Q : zz_O → zz_H → Prop}  (hR : kR h t s) (k : ∀ {h : zz_H}, kR h t s → zz_J zp_P zt_tf zt_fd X d zm_244 0 [(0, .ref 3)] [] h (zz_after 10 Q (fun v h' => zz_J zp_P zt_tf zt_fd X (d + 1) zm_191 7 [(0, .ref 2)] (v.toList ++ []) h' Q))) : zz_J zp_P zt_tf zt_fd X (d + 1) zm_191 0 [(0, .ref 2)] [] h Q := by
  refine zz_J.n 1 rfl rfl rfl ?_
  refine zz_J.g 4 rfl (hR.gv (v := .ref 3) ko_2 (by decide) rfl) rfl ?_
  refine zz_J.cv 7 (as := []) rfl rfl (hR.clO ko_3 (by decide) (by decide)) (by decide) (Nat.le_of_ble_eq_true rfl) (Nat.le_of_ble_eq_true rfl) rfl (Nat.le_of_ble_eq_true rfl) rfl ?_
  refine zz_J.mono (k hR) ?_
  intro o h' hE
  cases o with
  | inl v => exact zz_J.weak hE rfl ⟨rfl, trivial⟩
  | inr q => exact hE
theorem cb_191_7 {X : Nat → Option zz_C} {h : zz_H} {t : cS} {s : mS} {d : Nat} {Q : zz_O → zz_H → Prop} {y0 : Int64} (hR : kR h t s) (k : ∀ {h : zz_H}, kR h t s → zz_J zp_P zt_tf zt_fd X d zm_243 0 [(0, .ref 3)] [] h (zz_after 10 Q (fun v h' => zz_J zp_P zt_tf zt_fd X (d + 1) zm_191 15 [(0, .ref 2), (1, .long y0)] (v.toList ++ []) h' Q))) : zz_J zp_P zt_tf zt_fd X (d + 1) zm_191 7 [(0, .ref 2)] [.long y0] h Q := by
  refine zz_J.n 8 rfl rfl rfl ?_
  refine zz_J.n 9 rfl rfl rfl ?_
  refine zz_J.g 12 rfl (hR.gv (v := .ref 3) ko_2 (by decide) rfl) rfl ?_
  refine zz_J.cv 15 (as := []) rfl rfl (hR.clO ko_3 (by decide) (by decide)) (by decide) (Nat.le_of_ble_eq_true rfl) (Nat.le_of_ble_eq_true rfl) rfl (Nat.le_of_ble_eq_true rfl) rfl ?_
  refine zz_J.mono (k hR) ?_
  intro o h' hE
  cases o with
  | inl v => exact zz_J.weak hE rfl ⟨rfl, rfl, trivial⟩
  | inr q => exact hE
theorem cb_191_15 {X : Nat → Option zz_C} {h : zz_H} {t : cS} {s : mS} {d : Nat} {Q : zz_O → zz_H → Prop} {x1 : Int64} {y0 : Int32} (hR : kR h t s) (k : ∀ {h : zz_H}, kR h t s → zz_J zp_P zt_tf zt_fd X d zm_46 0 [(0, .ref 3)] [] h (zz_after 10 Q (fun v h' => zz_J zp_P zt_tf zt_fd X (d + 1) zm_191 23 [(0, .ref 2), (1, .long x1), (3, .int y0)] (v.toList ++ []) h' Q))) : zz_J zp_P zt_tf zt_fd X (d + 1) zm_191 15 [(0, .ref 2), (1, .long x1)] [.int y0] h Q := by
  refine zz_J.n 16 rfl rfl rfl ?_
  refine zz_J.n 17 rfl rfl rfl ?_
  refine zz_J.g 20 rfl (hR.gv (v := .ref 3) ko_2 (by decide) rfl) rfl ?_
  refine zz_J.cv 23 (as := []) rfl rfl (hR.clO ko_3 (by decide) (by decide)) (by decide) (Nat.le_of_ble_eq_true rfl) (Nat.le_of_ble_eq_true rfl) rfl (Nat.le_of_ble_eq_true rfl) rfl ?_
  refine zz_J.mono (k hR) ?_
  intro o h' hE
  cases o with
  | inl v => exact zz_J.weak hE rfl ⟨rfl, rfl, rfl, trivial⟩
  | inr q => exact hE
theorem cb_191_23 {X : Nat → Option zz_C} {h : zz_H} {t : cS} {s : mS} {d : Nat} {Q : zz_O → zz_H → Prop} {x1 : Int64} {x3 : Int32} (hR : kR h t s) (k : ∀ {h : zz_H}, kR h t s → zz_J zp_P zt_tf zt_fd X d zm_194 0 [(0, .ref 2), (1, .int 40), (2, .int 41), (3, .int 0), (4, .int 2000)] [] h (zz_after 5 Q (fun v h' => zz_J zp_P zt_tf zt_fd X (d + 1) zm_191 35 [(0, .ref 2), (1, .long x1), (3, .int x3)] (v.toList ++ []) h' Q))) : zz_J zp_P zt_tf zt_fd X (d + 1) zm_191 23 [(0, .ref 2), (1, .long x1), (3, .int x3)] [] h Q := by
  refine zz_J.n 24 rfl rfl rfl ?_
  refine zz_J.c 26 (.int 40) rfl rfl rfl rfl ?_
  refine zz_J.c 28 (.int 41) rfl rfl rfl rfl ?_
  refine zz_J.c 29 (.int 0) rfl rfl rfl rfl ?_
  refine zz_J.c 32 (.int 2000) rfl rfl rfl rfl ?_
  refine zz_J.cv 35 (as := []) rfl rfl (hR.clO ko_2 (by decide) (by decide)) (by decide) (Nat.le_of_ble_eq_true rfl) (Nat.le_of_ble_eq_true rfl) rfl (Nat.le_of_ble_eq_true rfl) rfl ?_
  refine zz_J.mono (k hR) ?_
  intro o h' hE
  cases o with
  | inl v => exact zz_J.weak hE rfl ⟨rfl, rfl, rfl, trivial⟩
  | inr q => exact hE
theorem cb_191_35 {X : Nat → Option zz_C} {h : zz_H} {t : cS} {s : mS} {d : Nat} {Q : zz_O → zz_H → Prop} {x1 : Int64} {x3 : Int32} {y0 : Int32} (hR : kR h t s) {w0 : Nat} (e0 : (kP t 2 1) = some w0) (e1 : w0 = 12 ∨ w0 = 21) (k : ∀ {h : zz_H}, kR h t s → zz_J zp_P zt_tf zt_fd X d zm_209 0 [(0, .ref w0), (1, .int 28), (2, .int 0), (3, .int x3)] [] h (zz_after 6 Q (fun v h' => zz_J zp_P zt_tf zt_fd X (d + 1) zm_191 49 [(1, .long x1), (3, .int x3), (4, .int y0)] (v.toList ++ [.ref 2]) h' Q))) : zz_J zp_P zt_tf zt_fd X (d + 1) zm_191 35 [(0, .ref 2), (1, .long x1), (3, .int x3)] [.int y0] h Q := by
  refine zz_J.n 37 rfl rfl rfl ?_
  refine zz_J.n 38 rfl rfl rfl ?_
  refine zz_J.n 39 rfl rfl rfl ?_
  refine zz_J.g 42 rfl (hR.gv (v := .ref w0) ko_2 (by decide) ((congrArg (fun q => some (zz_rv q)) e0).trans rfl)) rfl ?_
  refine zz_J.c 44 (.int 28) rfl rfl rfl rfl ?_
  refine zz_J.c 45 (.int 0) rfl rfl rfl rfl ?_
  refine zz_J.n 46 rfl rfl rfl ?_
  refine zz_J.cv 49 (as := [.ref 2]) rfl rfl (hR.clO (ko_P e1) (by decide) (by decide)) (by decide) (Nat.le_of_ble_eq_true rfl) (Nat.le_of_ble_eq_true rfl) rfl (Nat.le_of_ble_eq_true rfl) rfl ?_
  refine zz_J.mono (k hR) ?_
  intro o h' hE
  cases o with
  | inl v => exact zz_J.weak hE rfl ⟨rfl, rfl, rfl, trivial⟩
  | inr q => exact hE
theorem cb_191_49 {X : Nat → Option zz_C} {h : zz_H} {t : cS} {s : mS} {d : Nat} {Q : zz_O → zz_H → Prop} {x1 : Int64} {x3 : Int32} {x4 : Int32} {y1 : Int32} (hR : kR h t s) (k : ∀ {h : zz_H}, kR h t s → zz_J zp_P zt_tf zt_fd X d zm_198 0 [(0, .ref 2), (1, .int y1), (2, .long x1), (4, .int x3), (5, .int x4)] [] h (zz_after 5 Q (fun v h' => zz_J zp_P zt_tf zt_fd X (d + 1) zm_191 56 [] (v.toList ++ []) h' Q))) : zz_J zp_P zt_tf zt_fd X (d + 1) zm_191 49 [(1, .long x1), (3, .int x3), (4, .int x4)] [.int y1, .ref 2] h Q := by
  refine zz_J.n 50 rfl rfl rfl ?_
  refine zz_J.n 51 rfl rfl rfl ?_
  refine zz_J.n 53 rfl rfl rfl ?_
  refine zz_J.cv 56 (as := []) rfl rfl (hR.clO ko_2 (by decide) (by decide)) (by decide) (Nat.le_of_ble_eq_true rfl) (Nat.le_of_ble_eq_true rfl) rfl (Nat.le_of_ble_eq_true rfl) rfl ?_
  refine zz_J.mono (k hR) ?_
  intro o h' hE
  cases o with
  | inl v => exact zz_J.weak hE rfl trivial
  | inr q => exact hE
theorem cb_191_56 {X : Nat → Option zz_C} {h : zz_H} {t : cS} {s : mS} {d : Nat} {Q : zz_O → zz_H → Prop}  (hR : kR h t s) (k : ∀ {h : zz_H}, kR h t s → Q (.inl none) h) : zz_J zp_P zt_tf zt_fd X d zm_191 56 [] [] h Q := by
  refine zz_J.ret rfl rfl rfl ?_
  exact k hR
def cf_191_56 (N : Nat) (X : Nat → Option zz_C) (rk : Nat → List Value → cS → kO)  (t : cS) : kO := some (t, .inl none)
theorem cr_191_56 {X : Nat → Option zz_C} {s : mS} {N : Nat} {rk : Nat → List Value → cS → kO} {D : Nat} (hrk : cK0 X s D rk) (hB : 10 ≤ D) {d : Nat} (hd : D + 1 ≤ d) {Q : zz_O → zz_H → Prop}  {h : zz_H} {t t' : cS} {o : kY} (hR : kR h t s) (hf : cf_191_56 N X rk  t = some (t', o)) (k : (∀ h', kR h' t' s → kE o Q h')) : zz_J zp_P zt_tf zt_fd X d zm_191 56 [] [] h Q := by
  unfold cf_191_56 at hf
  cases hf
  exact cb_191_56 hR  (fun {h} hR => k h hR)
def cf_191_49 (N : Nat) (X : Nat → Option zz_C) (rk : Nat → List Value → cS → kO) (x1 : Int64) (x3 : Int32) (x4 : Int32) (y1 : Int32) (t : cS) : kO := ko_call 5 (cf_198 N X y1 x1 x3 x4 t) (fun g1 v1 => co_v v1 (cf_191_56 N X rk  g1))
theorem cr_191_49 {X : Nat → Option zz_C} {s : mS} {N : Nat} {rk : Nat → List Value → cS → kO} {D : Nat} (hrk : cK0 X s D rk) (hB : 10 ≤ D) {d : Nat} (hd : D + 1 ≤ d) {Q : zz_O → zz_H → Prop} {x1 : Int64} {x3 : Int32} {x4 : Int32} {y1 : Int32} {h : zz_H} {t t' : cS} {o : kY} (hR : kR h t s) (hf : cf_191_49 N X rk x1 x3 x4 y1 t = some (t', o)) (k : (∀ h', kR h' t' s → kE o Q h')) : zz_J zp_P zt_tf zt_fd X d zm_191 49 [(1, .long x1), (3, .int x3), (4, .int x4)] [.int y1, .ref 2] h Q := by
  unfold cf_191_49 at hf
  obtain ⟨d', rfl⟩ : ∃ d', d = d' + 1 := ⟨d - 1, by omega⟩
  refine cb_191_49 hR  (fun {h} hR => ?_)
  rcases ko_call_ok hf with ⟨g1, v1, er, hf⟩ | ⟨g1, er, hq⟩
  · obtain ⟨hv, hf2⟩ := co_v_ok hf
    clear hf
    have hf := hf2
    clear hf2
    subst hv
    refine cr_198 (by omega) hR er (fun h hR => ?_)
    exact cr_191_56 hrk hB hd hR hf k
  · refine cr_198 (by omega) hR er (fun h hR => ?_)
    exact ko_thrown hq hR k
def cf_191_35 (N : Nat) (X : Nat → Option zz_C) (rk : Nat → List Value → cS → kO) (x1 : Int64) (x3 : Int32) (y0 : Int32) (t : cS) : kO := co_b ((kP t 2 1)) (fun w0 => if w0 = 12 ∨ w0 = 21 then (ko_call 6 (cf_209 N X w0 28 0 x3 t) (fun g1 v1 => co_i v1 (fun y => cf_191_49 N X rk x1 x3 y0 y g1))) else none)
theorem cr_191_35 {X : Nat → Option zz_C} {s : mS} {N : Nat} {rk : Nat → List Value → cS → kO} {D : Nat} (hrk : cK0 X s D rk) (hB : 10 ≤ D) {d : Nat} (hd : D + 1 ≤ d) {Q : zz_O → zz_H → Prop} {x1 : Int64} {x3 : Int32} {y0 : Int32} {h : zz_H} {t t' : cS} {o : kY} (hR : kR h t s) (hf : cf_191_35 N X rk x1 x3 y0 t = some (t', o)) (k : (∀ h', kR h' t' s → kE o Q h')) : zz_J zp_P zt_tf zt_fd X d zm_191 35 [(0, .ref 2), (1, .long x1), (3, .int x3)] [.int y0] h Q := by
  unfold cf_191_35 at hf
  obtain ⟨w0, e0, hf⟩ := co_b_ok hf
  obtain ⟨e1, hf⟩ := ko_if hf
  obtain ⟨d', rfl⟩ : ∃ d', d = d' + 1 := ⟨d - 1, by omega⟩
  refine cb_191_35 hR e0 e1 (fun {h} hR => ?_)
  rcases ko_call_ok hf with ⟨g1, v1, er, hf⟩ | ⟨g1, er, hq⟩
  · obtain ⟨y, hv, hf2⟩ := co_i_ok hf
    clear hf
    have hf := hf2
    clear hf2
    subst hv
    refine cr_209 (by omega) hR er (fun h hR => ?_)
    exact cr_191_49 hrk hB hd hR hf k
  · refine cr_209 (by omega) hR er (fun h hR => ?_)
    exact ko_thrown hq hR k
def cf_191_23 (N : Nat) (X : Nat → Option zz_C) (rk : Nat → List Value → cS → kO) (x1 : Int64) (x3 : Int32) (t : cS) : kO := ko_call 5 (rk 194 [.int 40, .int 41, .int 0, .int 2000] t) (fun g1 v1 => co_i v1 (fun y => cf_191_35 N X rk x1 x3 y g1))
theorem cr_191_23 {X : Nat → Option zz_C} {s : mS} {N : Nat} {rk : Nat → List Value → cS → kO} {D : Nat} (hrk : cK0 X s D rk) (hB : 10 ≤ D) {d : Nat} (hd : D + 1 ≤ d) {Q : zz_O → zz_H → Prop} {x1 : Int64} {x3 : Int32} {h : zz_H} {t t' : cS} {o : kY} (hR : kR h t s) (hf : cf_191_23 N X rk x1 x3 t = some (t', o)) (k : (∀ h', kR h' t' s → kE o Q h')) : zz_J zp_P zt_tf zt_fd X d zm_191 23 [(0, .ref 2), (1, .long x1), (3, .int x3)] [] h Q := by
  unfold cf_191_23 at hf
  obtain ⟨d', rfl⟩ : ∃ d', d = d' + 1 := ⟨d - 1, by omega⟩
  refine cb_191_23 hR  (fun {h} hR => ?_)
  rcases ko_call_ok hf with ⟨g1, v1, er, hf⟩ | ⟨g1, er, hq⟩
  · obtain ⟨y, hv, hf2⟩ := co_i_ok hf
    clear hf
    have hf := hf2
    clear hf2
    subst hv
    refine hrk.2.2.2.2.2.2.2 (by omega) hR er (fun h hR => ?_)
    exact cr_191_35 hrk hB hd hR hf k
  · refine hrk.2.2.2.2.2.2.2 (by omega) hR er (fun h hR => ?_)
    exact ko_thrown hq hR k
def cf_191_15 (N : Nat) (X : Nat → Option zz_C) (rk : Nat → List Value → cS → kO) (x1 : Int64) (y0 : Int32) (t : cS) : kO := ko_call 10 (cf_46 N X  t) (fun g1 v1 => co_v v1 (cf_191_23 N X rk x1 y0 g1))
theorem cr_191_15 {X : Nat → Option zz_C} {s : mS} {N : Nat} {rk : Nat → List Value → cS → kO} {D : Nat} (hrk : cK0 X s D rk) (hB : 10 ≤ D) {d : Nat} (hd : D + 1 ≤ d) {Q : zz_O → zz_H → Prop} {x1 : Int64} {y0 : Int32} {h : zz_H} {t t' : cS} {o : kY} (hR : kR h t s) (hf : cf_191_15 N X rk x1 y0 t = some (t', o)) (k : (∀ h', kR h' t' s → kE o Q h')) : zz_J zp_P zt_tf zt_fd X d zm_191 15 [(0, .ref 2), (1, .long x1)] [.int y0] h Q := by
  unfold cf_191_15 at hf
  obtain ⟨d', rfl⟩ : ∃ d', d = d' + 1 := ⟨d - 1, by omega⟩
  refine cb_191_15 hR  (fun {h} hR => ?_)
  rcases ko_call_ok hf with ⟨g1, v1, er, hf⟩ | ⟨g1, er, hq⟩
  · obtain ⟨hv, hf2⟩ := co_v_ok hf
    clear hf
    have hf := hf2
    clear hf2
    subst hv
    refine cr_46 (by omega) hR er (fun h hR => ?_)
    exact cr_191_23 hrk hB hd hR hf k
  · refine cr_46 (by omega) hR er (fun h hR => ?_)
    exact ko_thrown hq hR k
def cf_191_7 (N : Nat) (X : Nat → Option zz_C) (rk : Nat → List Value → cS → kO) (y0 : Int64) (t : cS) : kO := ko_call 10 (cf_243 N X  t) (fun g1 v1 => co_i v1 (fun y => cf_191_15 N X rk y0 y g1))
theorem cr_191_7 {X : Nat → Option zz_C} {s : mS} {N : Nat} {rk : Nat → List Value → cS → kO} {D : Nat} (hrk : cK0 X s D rk) (hB : 10 ≤ D) {d : Nat} (hd : D + 1 ≤ d) {Q : zz_O → zz_H → Prop} {y0 : Int64} {h : zz_H} {t t' : cS} {o : kY} (hR : kR h t s) (hf : cf_191_7 N X rk y0 t = some (t', o)) (k : (∀ h', kR h' t' s → kE o Q h')) : zz_J zp_P zt_tf zt_fd X d zm_191 7 [(0, .ref 2)] [.long y0] h Q := by
  unfold cf_191_7 at hf
  obtain ⟨d', rfl⟩ : ∃ d', d = d' + 1 := ⟨d - 1, by omega⟩
  refine cb_191_7 hR  (fun {h} hR => ?_)
  rcases ko_call_ok hf with ⟨g1, v1, er, hf⟩ | ⟨g1, er, hq⟩
  · obtain ⟨y, hv, hf2⟩ := co_i_ok hf
    clear hf
    have hf := hf2
    clear hf2
    subst hv
    refine cr_243 (by omega) hR er (fun h hR => ?_)
    exact cr_191_15 hrk hB hd hR hf k
  · refine cr_243 (by omega) hR er (fun h hR => ?_)
    exact ko_thrown hq hR k
def cf_191_0 (N : Nat) (X : Nat → Option zz_C) (rk : Nat → List Value → cS → kO)  (t : cS) : kO := ko_call 10 (cf_244 N X  t) (fun g1 v1 => co_l v1 (fun y => cf_191_7 N X rk y g1))
theorem cr_191_0 {X : Nat → Option zz_C} {s : mS} {N : Nat} {rk : Nat → List Value → cS → kO} {D : Nat} (hrk : cK0 X s D rk) (hB : 10 ≤ D) {d : Nat} (hd : D + 1 ≤ d) {Q : zz_O → zz_H → Prop}  {h : zz_H} {t t' : cS} {o : kY} (hR : kR h t s) (hf : cf_191_0 N X rk  t = some (t', o)) (k : (∀ h', kR h' t' s → kE o Q h')) : zz_J zp_P zt_tf zt_fd X d zm_191 0 [(0, .ref 2)] [] h Q := by
  unfold cf_191_0 at hf
  obtain ⟨d', rfl⟩ : ∃ d', d = d' + 1 := ⟨d - 1, by omega⟩
  refine cb_191_0 hR  (fun {h} hR => ?_)
  rcases ko_call_ok hf with ⟨g1, v1, er, hf⟩ | ⟨g1, er, hq⟩
  · obtain ⟨y, hv, hf2⟩ := co_l_ok hf
    clear hf
    have hf := hf2
    clear hf2
    subst hv
    refine cr_244 (by omega) hR er (fun h hR => ?_)
    exact cr_191_7 hrk hB hd hR hf k
  · refine cr_244 (by omega) hR er (fun h hR => ?_)
    exact ko_thrown hq hR k
/-- call -/
def cf_191 (N : Nat) (X : Nat → Option zz_C) (rk : Nat → List Value → cS → kO)  (t : cS) : kO := cf_191_0 N X rk  t
theorem cr_191 {X : Nat → Option zz_C} {s : mS} {N : Nat} {rk : Nat → List Value → cS → kO} {D : Nat} (hrk : cK0 X s D rk) (hB : 10 ≤ D) {d : Nat} (hd : D + 1 ≤ d) {Q : zz_O → zz_H → Prop}  {h : zz_H} {t t' : cS} {o : kY} (hR : kR h t s) (hf : cf_191 N X rk  t = some (t', o)) (k : ∀ h', kR h' t' s → kE o Q h') : zz_J zp_P zt_tf zt_fd X d zm_191 0 [(0, .ref 2)] [] h Q := by
  unfold cf_191 at hf
  exact zz_J.weak (cr_191_0 hrk hB hd hR hf k) rfl ⟨rfl, trivial⟩
/-! yX5_builtIn -/
theorem cb_192_0 {X : Nat → Option zz_C} {h : zz_H} {t : cS} {s : mS} {d : Nat} {Q : zz_O → zz_H → Prop} {x1 : Nat} (hR : kR h t s) (e0 : ¬ x1 < zz_out) (e1 : hcl X [] x1 20 = true) (k : ∀ {h : zz_H}, kR h t s → zz_J zp_P zt_tf zt_fd X d zm_249 0 [(0, .ref x1)] [] h (zz_after 20 Q (fun v h' => zz_J zp_P zt_tf zt_fd X (d + 1) zm_192 5 [(0, .ref 2), (1, .ref x1)] (v.toList ++ [.ref 2]) h' Q))) : zz_J zp_P zt_tf zt_fd X (d + 1) zm_192 0 [(0, .ref 2), (1, .ref x1)] [] h Q := by
  refine zz_J.n 1 rfl rfl rfl ?_
  refine zz_J.n 2 rfl rfl rfl ?_
  refine zz_J.cv 5 (as := [.ref 2]) rfl rfl ((hx_cl e0).trans e1) (by decide) (Nat.le_of_ble_eq_true rfl) (Nat.le_of_ble_eq_true rfl) rfl (Nat.le_of_ble_eq_true rfl) rfl ?_
  refine zz_J.mono (k hR) ?_
  intro o h' hE
  cases o with
  | inl v => exact zz_J.weak hE rfl ⟨rfl, rfl, trivial⟩
  | inr q => exact hE
theorem cb_192_5 {X : Nat → Option zz_C} {h : zz_H} {t : cS} {s : mS} {d : Nat} {Q : zz_O → zz_H → Prop} {x1 : Nat} {y1 : Int32} (hR : kR h t s) (k : ∀ {h : zz_H}, kR h t s → zz_J zp_P zt_tf zt_fd X d zm_202 0 [(0, .ref 2), (1, .int y1), (2, .int 2)] [] h (zz_after 5 Q (fun v h' => zz_J zp_P zt_tf zt_fd X (d + 1) zm_192 9 [(0, .ref 2), (1, .ref x1)] (v.toList ++ []) h' Q))) : zz_J zp_P zt_tf zt_fd X (d + 1) zm_192 5 [(0, .ref 2), (1, .ref x1)] [.int y1, .ref 2] h Q := by
  refine zz_J.c 6 (.int 2) rfl rfl rfl rfl ?_
  refine zz_J.cv 9 (as := []) rfl rfl (hR.clO ko_2 (by decide) (by decide)) (by decide) (Nat.le_of_ble_eq_true rfl) (Nat.le_of_ble_eq_true rfl) rfl (Nat.le_of_ble_eq_true rfl) rfl ?_
  refine zz_J.mono (k hR) ?_
  intro o h' hE
  cases o with
  | inl v => exact zz_J.weak hE rfl ⟨rfl, rfl, trivial⟩
  | inr q => exact hE
theorem cb_192_9 {X : Nat → Option zz_C} {h : zz_H} {t : cS} {s : mS} {d : Nat} {Q : zz_O → zz_H → Prop} {x1 : Nat} (hR : kR h t s) (k : ∀ {h : zz_H}, kR h t s → zz_J zp_P zt_tf zt_fd X d zm_243 0 [(0, .ref 3)] [] h (zz_after 10 Q (fun v h' => zz_J zp_P zt_tf zt_fd X (d + 1) zm_192 16 [(0, .ref 2), (1, .ref x1)] (v.toList ++ []) h' Q))) : zz_J zp_P zt_tf zt_fd X (d + 1) zm_192 9 [(0, .ref 2), (1, .ref x1)] [] h Q := by
  refine zz_J.n 10 rfl rfl rfl ?_
  refine zz_J.g 13 rfl (hR.gv (v := .ref 3) ko_2 (by decide) rfl) rfl ?_
  refine zz_J.cv 16 (as := []) rfl rfl (hR.clO ko_3 (by decide) (by decide)) (by decide) (Nat.le_of_ble_eq_true rfl) (Nat.le_of_ble_eq_true rfl) rfl (Nat.le_of_ble_eq_true rfl) rfl ?_
  refine zz_J.mono (k hR) ?_
  intro o h' hE
  cases o with
  | inl v => exact zz_J.weak hE rfl ⟨rfl, rfl, trivial⟩
  | inr q => exact hE
theorem cb_192_16 {X : Nat → Option zz_C} {h : zz_H} {t : cS} {s : mS} {d : Nat} {Q : zz_O → zz_H → Prop} {x1 : Nat} {y0 : Int32} (hR : kR h t s) (k : ∀ {h : zz_H}, kR h t s → zz_J zp_P zt_tf zt_fd X d zm_244 0 [(0, .ref 3)] [] h (zz_after 10 Q (fun v h' => zz_J zp_P zt_tf zt_fd X (d + 1) zm_192 24 [(0, .ref 2), (1, .ref x1), (2, .int y0)] (v.toList ++ []) h' Q))) : zz_J zp_P zt_tf zt_fd X (d + 1) zm_192 16 [(0, .ref 2), (1, .ref x1)] [.int y0] h Q := by
  refine zz_J.n 17 rfl rfl rfl ?_
  refine zz_J.n 18 rfl rfl rfl ?_
  refine zz_J.g 21 rfl (hR.gv (v := .ref 3) ko_2 (by decide) rfl) rfl ?_
  refine zz_J.cv 24 (as := []) rfl rfl (hR.clO ko_3 (by decide) (by decide)) (by decide) (Nat.le_of_ble_eq_true rfl) (Nat.le_of_ble_eq_true rfl) rfl (Nat.le_of_ble_eq_true rfl) rfl ?_
  refine zz_J.mono (k hR) ?_
  intro o h' hE
  cases o with
  | inl v => exact zz_J.weak hE rfl ⟨rfl, rfl, rfl, trivial⟩
  | inr q => exact hE
theorem cb_192_24 {X : Nat → Option zz_C} {h : zz_H} {t : cS} {s : mS} {d : Nat} {Q : zz_O → zz_H → Prop} {x1 : Nat} {x2 : Int32} {y0 : Int64} (hR : kR h t s) (k : ∀ {h : zz_H}, kR h t s → zz_J zp_P zt_tf zt_fd X d zm_46 0 [(0, .ref 3)] [] h (zz_after 10 Q (fun v h' => zz_J zp_P zt_tf zt_fd X (d + 1) zm_192 33 [(0, .ref 2), (1, .ref x1), (2, .int x2), (3, .int (Int64.toInt32 y0))] (v.toList ++ []) h' Q))) : zz_J zp_P zt_tf zt_fd X (d + 1) zm_192 24 [(0, .ref 2), (1, .ref x1), (2, .int x2)] [.long y0] h Q := by
  refine zz_J.n 25 rfl rfl rfl ?_
  refine zz_J.n 26 rfl rfl rfl ?_
  refine zz_J.n 27 rfl rfl rfl ?_
  refine zz_J.g 30 rfl (hR.gv (v := .ref 3) ko_2 (by decide) rfl) rfl ?_
  refine zz_J.cv 33 (as := []) rfl rfl (hR.clO ko_3 (by decide) (by decide)) (by decide) (Nat.le_of_ble_eq_true rfl) (Nat.le_of_ble_eq_true rfl) rfl (Nat.le_of_ble_eq_true rfl) rfl ?_
  refine zz_J.mono (k hR) ?_
  intro o h' hE
  cases o with
  | inl v => exact zz_J.weak hE rfl ⟨rfl, rfl, rfl, rfl, trivial⟩
  | inr q => exact hE
theorem cb_192_33 {X : Nat → Option zz_C} {h : zz_H} {t : cS} {s : mS} {d : Nat} {Q : zz_O → zz_H → Prop} {x1 : Nat} {x2 : Int32} {x3 : Int32} (hR : kR h t s) (e0 : (zz_out < x1 ∧ x1 ≤ zz_out + 41) ∧ zz_out < (zz_out + 40) ∧ (zz_out + 40) ≤ zz_out + 41) (k1 : zz_ac .eq x1 (zz_out + 40) = true → (∀ {h : zz_H}, kR h t s → zz_J zp_P zt_tf zt_fd X d zm_192 47 [(0, .ref 2), (1, .ref x1), (2, .int x2)] [] h Q)) (k2 : ¬ zz_ac .eq x1 (zz_out + 40) = true → (∀ {h : zz_H}, kR h t s → zz_J zp_P zt_tf zt_fd X d zm_192 40 [(0, .ref 2), (1, .ref x1), (2, .int x2), (3, .int x3)] [] h Q)) : zz_J zp_P zt_tf zt_fd X d zm_192 33 [(0, .ref 2), (1, .ref x1), (2, .int x2), (3, .int x3)] [] h Q := by
  refine zz_J.n 34 rfl rfl rfl ?_
  refine zz_J.c 37 (.ref (zz_out + 40)) rfl rfl rfl rfl ?_
  refine zz_J.ba 47 40 rfl e0 (by decide) rfl rfl (fun c => ?_) (fun c => ?_)
  · exact zz_J.weak (k1 c hR) rfl ⟨rfl, rfl, rfl, trivial⟩
  · exact zz_J.weak (k2 c hR) rfl ⟨rfl, rfl, rfl, rfl, trivial⟩
theorem cb_192_40 {X : Nat → Option zz_C} {h : zz_H} {t : cS} {s : mS} {d : Nat} {Q : zz_O → zz_H → Prop} {x1 : Nat} {x2 : Int32} {x3 : Int32} (hR : kR h t s) (e0 : (zz_out < x1 ∧ x1 ≤ zz_out + 41) ∧ zz_out < (zz_out + 41) ∧ (zz_out + 41) ≤ zz_out + 41) (k1 : zz_ac .ne x1 (zz_out + 41) = true → (∀ {h : zz_H}, kR h t s → zz_J zp_P zt_tf zt_fd X d zm_192 65 [(0, .ref 2), (1, .ref x1), (2, .int x2), (3, .int x3)] [] h Q)) (k2 : ¬ zz_ac .ne x1 (zz_out + 41) = true → (∀ {h : zz_H}, kR h t s → zz_J zp_P zt_tf zt_fd X d zm_192 47 [(0, .ref 2), (1, .ref x1), (2, .int x2)] [] h Q)) : zz_J zp_P zt_tf zt_fd X d zm_192 40 [(0, .ref 2), (1, .ref x1), (2, .int x2), (3, .int x3)] [] h Q := by
  refine zz_J.n 41 rfl rfl rfl ?_
  refine zz_J.c 44 (.ref (zz_out + 41)) rfl rfl rfl rfl ?_
  refine zz_J.ba 65 47 rfl e0 (by decide) rfl rfl (fun c => ?_) (fun c => ?_)
  · exact zz_J.weak (k1 c hR) rfl ⟨rfl, rfl, rfl, rfl, trivial⟩
  · exact zz_J.weak (k2 c hR) rfl ⟨rfl, rfl, rfl, trivial⟩
theorem cb_192_47 {X : Nat → Option zz_C} {h : zz_H} {t : cS} {s : mS} {d : Nat} {Q : zz_O → zz_H → Prop} {x1 : Nat} {x2 : Int32} (hR : kR h t s) (e0 : (zz_out < x1 ∧ x1 ≤ zz_out + 41) ∧ zz_out < (zz_out + 40) ∧ (zz_out + 40) ≤ zz_out + 41) (k1 : zz_ac .ne x1 (zz_out + 40) = true → (∀ {h : zz_H}, kR h t s → zz_J zp_P zt_tf zt_fd X d zm_192 59 [(2, .int x2)] [.ref 2] h Q)) (k2 : ¬ zz_ac .ne x1 (zz_out + 40) = true → (∀ {h : zz_H}, kR h t s → zz_J zp_P zt_tf zt_fd X d zm_192 55 [(2, .int x2)] [.ref 2] h Q)) : zz_J zp_P zt_tf zt_fd X d zm_192 47 [(0, .ref 2), (1, .ref x1), (2, .int x2)] [] h Q := by
  refine zz_J.n 48 rfl rfl rfl ?_
  refine zz_J.n 49 rfl rfl rfl ?_
  refine zz_J.c 52 (.ref (zz_out + 40)) rfl rfl rfl rfl ?_
  refine zz_J.ba 59 55 rfl e0 (by decide) rfl rfl (fun c => ?_) (fun c => ?_)
  · exact zz_J.weak (k1 c hR) rfl ⟨rfl, trivial⟩
  · exact zz_J.weak (k2 c hR) rfl ⟨rfl, trivial⟩
theorem cb_192_55 {X : Nat → Option zz_C} {h : zz_H} {t : cS} {s : mS} {d : Nat} {Q : zz_O → zz_H → Prop} {x2 : Int32} (hR : kR h t s) (k : ∀ {h : zz_H}, kR h t s → zz_J zp_P zt_tf zt_fd X d zm_192 60 [(2, .int x2)] [.int 1, .ref 2] h Q) : zz_J zp_P zt_tf zt_fd X d zm_192 55 [(2, .int x2)] [.ref 2] h Q := by
  refine zz_J.c 56 (.int 1) rfl rfl rfl rfl ?_
  refine zz_J.n 60 rfl rfl rfl ?_
  exact zz_J.weak (k hR) rfl ⟨rfl, trivial⟩
theorem cb_192_59 {X : Nat → Option zz_C} {h : zz_H} {t : cS} {s : mS} {d : Nat} {Q : zz_O → zz_H → Prop} {x2 : Int32} (hR : kR h t s) (k : ∀ {h : zz_H}, kR h t s → zz_J zp_P zt_tf zt_fd X d zm_192 60 [(2, .int x2)] [.int 2, .ref 2] h Q) : zz_J zp_P zt_tf zt_fd X d zm_192 59 [(2, .int x2)] [.ref 2] h Q := by
  refine zz_J.c 60 (.int 2) rfl rfl rfl rfl ?_
  exact zz_J.weak (k hR) rfl ⟨rfl, trivial⟩
theorem cb_192_60 {X : Nat → Option zz_C} {h : zz_H} {t : cS} {s : mS} {d : Nat} {Q : zz_O → zz_H → Prop} {x2 : Int32} {y1 : Int32} (hR : kR h t s) (k : ∀ {h : zz_H}, kR h t s → zz_J zp_P zt_tf zt_fd X d zm_193 0 [(0, .ref 2), (1, .int y1), (2, .int x2)] [] h (zz_after 5 Q (fun v h' => zz_J zp_P zt_tf zt_fd X (d + 1) zm_192 64 [] (v.toList ++ []) h' Q))) : zz_J zp_P zt_tf zt_fd X (d + 1) zm_192 60 [(2, .int x2)] [.int y1, .ref 2] h Q := by
  refine zz_J.n 61 rfl rfl rfl ?_
  refine zz_J.cv 64 (as := []) rfl rfl (hR.clO ko_2 (by decide) (by decide)) (by decide) (Nat.le_of_ble_eq_true rfl) (Nat.le_of_ble_eq_true rfl) rfl (Nat.le_of_ble_eq_true rfl) rfl ?_
  refine zz_J.mono (k hR) ?_
  intro o h' hE
  cases o with
  | inl v => exact zz_J.weak hE rfl trivial
  | inr q => exact hE
theorem cb_192_64 {X : Nat → Option zz_C} {h : zz_H} {t : cS} {s : mS} {d : Nat} {Q : zz_O → zz_H → Prop}  (hR : kR h t s) (k : ∀ {h : zz_H}, kR h t s → Q (.inl none) h) : zz_J zp_P zt_tf zt_fd X d zm_192 64 [] [] h Q := by
  refine zz_J.ret rfl rfl rfl ?_
  exact k hR
theorem cb_192_65 {X : Nat → Option zz_C} {h : zz_H} {t : cS} {s : mS} {d : Nat} {Q : zz_O → zz_H → Prop} {x1 : Nat} {x2 : Int32} {x3 : Int32} (hR : kR h t s) {w0 : Int32} (e0 : hgi X [] x1 20 1 = some w0) {w1 : Int32} (e1 : hgi X [] x1 20 2 = some w1) (k : ∀ {h : zz_H}, kR h t s → zz_J zp_P zt_tf zt_fd X d zm_194 0 [(0, .ref 2), (1, .int 40), (2, .int 41), (3, .int w0), (4, .int w1)] [] h (zz_after 5 Q (fun v h' => zz_J zp_P zt_tf zt_fd X (d + 1) zm_192 81 [(0, .ref 2), (1, .ref x1), (2, .int x2), (3, .int x3)] (v.toList ++ []) h' Q))) : zz_J zp_P zt_tf zt_fd X (d + 1) zm_192 65 [(0, .ref 2), (1, .ref x1), (2, .int x2), (3, .int x3)] [] h Q := by
  refine zz_J.n 66 rfl rfl rfl ?_
  refine zz_J.c 68 (.int 40) rfl rfl rfl rfl ?_
  refine zz_J.c 70 (.int 41) rfl rfl rfl rfl ?_
  refine zz_J.n 71 rfl rfl rfl ?_
  refine zz_J.gi 74 rfl e0 rfl ?_
  refine zz_J.n 75 rfl rfl rfl ?_
  refine zz_J.gi 78 rfl e1 rfl ?_
  refine zz_J.cv 81 (as := []) rfl rfl (hR.clO ko_2 (by decide) (by decide)) (by decide) (Nat.le_of_ble_eq_true rfl) (Nat.le_of_ble_eq_true rfl) rfl (Nat.le_of_ble_eq_true rfl) rfl ?_
  refine zz_J.mono (k hR) ?_
  intro o h' hE
  cases o with
  | inl v => exact zz_J.weak hE rfl ⟨rfl, rfl, rfl, rfl, trivial⟩
  | inr q => exact hE
theorem cb_192_81 {X : Nat → Option zz_C} {h : zz_H} {t : cS} {s : mS} {d : Nat} {Q : zz_O → zz_H → Prop} {x1 : Nat} {x2 : Int32} {x3 : Int32} {y0 : Int32} (hR : kR h t s) (e0 : (zz_out < x1 ∧ x1 ≤ zz_out + 41) ∧ zz_out < (zz_out + 17) ∧ (zz_out + 17) ≤ zz_out + 41) (k1 : zz_ac .ne x1 (zz_out + 17) = true → (∀ {h : zz_H}, kR h t s → zz_J zp_P zt_tf zt_fd X d zm_192 106 [(0, .ref 2), (2, .int x2), (3, .int x3), (4, .int y0)] [] h Q)) (k2 : ¬ zz_ac .ne x1 (zz_out + 17) = true → (∀ {h : zz_H}, kR h t s → zz_J zp_P zt_tf zt_fd X d zm_192 90 [(0, .ref 2), (2, .int x2), (4, .int y0)] [] h Q)) : zz_J zp_P zt_tf zt_fd X d zm_192 81 [(0, .ref 2), (1, .ref x1), (2, .int x2), (3, .int x3)] [.int y0] h Q := by
  refine zz_J.n 83 rfl rfl rfl ?_
  refine zz_J.n 84 rfl rfl rfl ?_
  refine zz_J.c 87 (.ref (zz_out + 17)) rfl rfl rfl rfl ?_
  refine zz_J.ba 106 90 rfl e0 (by decide) rfl rfl (fun c => ?_) (fun c => ?_)
  · exact zz_J.weak (k1 c hR) rfl ⟨rfl, rfl, rfl, rfl, trivial⟩
  · exact zz_J.weak (k2 c hR) rfl ⟨rfl, rfl, rfl, trivial⟩
theorem cb_192_90 {X : Nat → Option zz_C} {h : zz_H} {t : cS} {s : mS} {d : Nat} {Q : zz_O → zz_H → Prop} {x2 : Int32} {x4 : Int32} (hR : kR h t s) {w0 : Nat} (e0 : (kP t 2 1) = some w0) (e1 : w0 = 12 ∨ w0 = 21) (k : ∀ {h : zz_H}, kR h t s → zz_J zp_P zt_tf zt_fd X d zm_209 0 [(0, .ref w0), (1, .int 24), (2, .int x4), (3, .int x2)] [] h (zz_after 6 Q (fun v h' => zz_J zp_P zt_tf zt_fd X (d + 1) zm_192 102 [] (v.toList ++ []) h' Q))) : zz_J zp_P zt_tf zt_fd X (d + 1) zm_192 90 [(0, .ref 2), (2, .int x2), (4, .int x4)] [] h Q := by
  refine zz_J.n 91 rfl rfl rfl ?_
  refine zz_J.g 94 rfl (hR.gv (v := .ref w0) ko_2 (by decide) ((congrArg (fun q => some (zz_rv q)) e0).trans rfl)) rfl ?_
  refine zz_J.c 96 (.int 24) rfl rfl rfl rfl ?_
  refine zz_J.n 98 rfl rfl rfl ?_
  refine zz_J.n 99 rfl rfl rfl ?_
  refine zz_J.cv 102 (as := []) rfl rfl (hR.clO (ko_P e1) (by decide) (by decide)) (by decide) (Nat.le_of_ble_eq_true rfl) (Nat.le_of_ble_eq_true rfl) rfl (Nat.le_of_ble_eq_true rfl) rfl ?_
  refine zz_J.mono (k hR) ?_
  intro o h' hE
  cases o with
  | inl v => exact zz_J.weak hE rfl trivial
  | inr q => exact hE
theorem cb_192_102 {X : Nat → Option zz_C} {h : zz_H} {t : cS} {s : mS} {d : Nat} {Q : zz_O → zz_H → Prop} {y0 : Int32} (hR : kR h t s) (k : ∀ {h : zz_H}, kR h t s → zz_J zp_P zt_tf zt_fd X d zm_192 129 [] [] h Q) : zz_J zp_P zt_tf zt_fd X d zm_192 102 [] [.int y0] h Q := by
  refine zz_J.n 103 rfl rfl rfl ?_
  refine zz_J.n 129 rfl rfl rfl ?_
  exact zz_J.weak (k hR) rfl trivial
theorem cb_192_106 {X : Nat → Option zz_C} {h : zz_H} {t : cS} {s : mS} {d : Nat} {Q : zz_O → zz_H → Prop} {x2 : Int32} {x3 : Int32} {x4 : Int32} (hR : kR h t s) {w0 : Nat} (e0 : (kP t 2 1) = some w0) (k1 : ¬ x4 = 1 → (∀ {h : zz_H}, kR h t s → zz_J zp_P zt_tf zt_fd X d zm_192 121 [(2, .int x2), (3, .int x3)] [.ref w0] h Q)) (k2 : ¬ ¬ x4 = 1 → (∀ {h : zz_H}, kR h t s → zz_J zp_P zt_tf zt_fd X d zm_192 116 [(2, .int x2), (3, .int x3)] [.ref w0] h Q)) : zz_J zp_P zt_tf zt_fd X d zm_192 106 [(0, .ref 2), (2, .int x2), (3, .int x3), (4, .int x4)] [] h Q := by
  refine zz_J.n 107 rfl rfl rfl ?_
  refine zz_J.g 110 rfl (hR.gv (v := .ref w0) ko_2 (by decide) ((congrArg (fun q => some (zz_rv q)) e0).trans rfl)) rfl ?_
  refine zz_J.n 112 rfl rfl rfl ?_
  refine zz_J.c 113 (.int 1) rfl rfl rfl rfl ?_
  refine zz_J.b2 121 116 (A := ¬ x4 = 1) rfl (zz_cond_ne _ _) (by decide) rfl rfl (fun c => ?_) (fun c => ?_)
  · exact zz_J.weak (k1 c hR) rfl ⟨rfl, rfl, trivial⟩
  · exact zz_J.weak (k2 c hR) rfl ⟨rfl, rfl, trivial⟩
theorem cb_192_116 {X : Nat → Option zz_C} {h : zz_H} {t : cS} {s : mS} {d : Nat} {Q : zz_O → zz_H → Prop} {x2 : Int32} {x3 : Int32} {y0 : Nat} (hR : kR h t s) (k : ∀ {h : zz_H}, kR h t s → zz_J zp_P zt_tf zt_fd X d zm_192 123 [(2, .int x2), (3, .int x3)] [.int 22, .ref y0] h Q) : zz_J zp_P zt_tf zt_fd X d zm_192 116 [(2, .int x2), (3, .int x3)] [.ref y0] h Q := by
  refine zz_J.c 118 (.int 22) rfl rfl rfl rfl ?_
  refine zz_J.n 123 rfl rfl rfl ?_
  exact zz_J.weak (k hR) rfl ⟨rfl, rfl, trivial⟩
theorem cb_192_121 {X : Nat → Option zz_C} {h : zz_H} {t : cS} {s : mS} {d : Nat} {Q : zz_O → zz_H → Prop} {x2 : Int32} {x3 : Int32} {y0 : Nat} (hR : kR h t s) (k : ∀ {h : zz_H}, kR h t s → zz_J zp_P zt_tf zt_fd X d zm_192 123 [(2, .int x2), (3, .int x3)] [.int 23, .ref y0] h Q) : zz_J zp_P zt_tf zt_fd X d zm_192 121 [(2, .int x2), (3, .int x3)] [.ref y0] h Q := by
  refine zz_J.c 123 (.int 23) rfl rfl rfl rfl ?_
  exact zz_J.weak (k hR) rfl ⟨rfl, rfl, trivial⟩
theorem cb_192_123 {X : Nat → Option zz_C} {h : zz_H} {t : cS} {s : mS} {d : Nat} {Q : zz_O → zz_H → Prop} {x2 : Int32} {x3 : Int32} {y0 : Nat} {y1 : Int32} (hR : kR h t s) (e0 : y0 = 12 ∨ y0 = 21) (k : ∀ {h : zz_H}, kR h t s → zz_J zp_P zt_tf zt_fd X d zm_209 0 [(0, .ref y0), (1, .int y1), (2, .int x3), (3, .int x2)] [] h (zz_after 6 Q (fun v h' => zz_J zp_P zt_tf zt_fd X (d + 1) zm_192 128 [] (v.toList ++ []) h' Q))) : zz_J zp_P zt_tf zt_fd X (d + 1) zm_192 123 [(2, .int x2), (3, .int x3)] [.int y1, .ref y0] h Q := by
  refine zz_J.n 124 rfl rfl rfl ?_
  refine zz_J.n 125 rfl rfl rfl ?_
  refine zz_J.cv 128 (as := []) rfl rfl (hR.clO (ko_P e0) (by decide) (by decide)) (by decide) (Nat.le_of_ble_eq_true rfl) (Nat.le_of_ble_eq_true rfl) rfl (Nat.le_of_ble_eq_true rfl) rfl ?_
  refine zz_J.mono (k hR) ?_
  intro o h' hE
  cases o with
  | inl v => exact zz_J.weak hE rfl trivial
  | inr q => exact hE
theorem cb_192_128 {X : Nat → Option zz_C} {h : zz_H} {t : cS} {s : mS} {d : Nat} {Q : zz_O → zz_H → Prop} {y0 : Int32} (hR : kR h t s) (k : ∀ {h : zz_H}, kR h t s → zz_J zp_P zt_tf zt_fd X d zm_192 129 [] [] h Q) : zz_J zp_P zt_tf zt_fd X d zm_192 128 [] [.int y0] h Q := by
  refine zz_J.n 129 rfl rfl rfl ?_
  exact zz_J.weak (k hR) rfl trivial
theorem cb_192_129 {X : Nat → Option zz_C} {h : zz_H} {t : cS} {s : mS} {d : Nat} {Q : zz_O → zz_H → Prop}  (hR : kR h t s) (k : ∀ {h : zz_H}, kR h t s → Q (.inl none) h) : zz_J zp_P zt_tf zt_fd X d zm_192 129 [] [] h Q := by
  refine zz_J.ret rfl rfl rfl ?_
  exact k hR
def cf_192_64 (N : Nat) (X : Nat → Option zz_C) (rk : Nat → List Value → cS → kO)  (t : cS) : kO := some (t, .inl none)
theorem cr_192_64 {X : Nat → Option zz_C} {s : mS} {N : Nat} {rk : Nat → List Value → cS → kO} {D : Nat} (hrk : cK0 X s D rk) (hB : 10 ≤ D) {d : Nat} (hd : D + 1 ≤ d) {Q : zz_O → zz_H → Prop}  {h : zz_H} {t t' : cS} {o : kY} (hR : kR h t s) (hf : cf_192_64 N X rk  t = some (t', o)) (k : (∀ h', kR h' t' s → kE o Q h')) : zz_J zp_P zt_tf zt_fd X d zm_192 64 [] [] h Q := by
  unfold cf_192_64 at hf
  cases hf
  exact cb_192_64 hR  (fun {h} hR => k h hR)
def cf_192_60 (N : Nat) (X : Nat → Option zz_C) (rk : Nat → List Value → cS → kO) (x2 : Int32) (y1 : Int32) (t : cS) : kO := ko_call 5 (rk 193 [.int y1, .int x2] t) (fun g1 v1 => co_v v1 (cf_192_64 N X rk  g1))
theorem cr_192_60 {X : Nat → Option zz_C} {s : mS} {N : Nat} {rk : Nat → List Value → cS → kO} {D : Nat} (hrk : cK0 X s D rk) (hB : 10 ≤ D) {d : Nat} (hd : D + 1 ≤ d) {Q : zz_O → zz_H → Prop} {x2 : Int32} {y1 : Int32} {h : zz_H} {t t' : cS} {o : kY} (hR : kR h t s) (hf : cf_192_60 N X rk x2 y1 t = some (t', o)) (k : (∀ h', kR h' t' s → kE o Q h')) : zz_J zp_P zt_tf zt_fd X d zm_192 60 [(2, .int x2)] [.int y1, .ref 2] h Q := by
  unfold cf_192_60 at hf
  obtain ⟨d', rfl⟩ : ∃ d', d = d' + 1 := ⟨d - 1, by omega⟩
  refine cb_192_60 hR  (fun {h} hR => ?_)
  rcases ko_call_ok hf with ⟨g1, v1, er, hf⟩ | ⟨g1, er, hq⟩
  · obtain ⟨hv, hf2⟩ := co_v_ok hf
    clear hf
    have hf := hf2
    clear hf2
    subst hv
    refine hrk.2.2.2.2.2.2.1 (by omega) hR er (fun h hR => ?_)
    exact cr_192_64 hrk hB hd hR hf k
  · refine hrk.2.2.2.2.2.2.1 (by omega) hR er (fun h hR => ?_)
    exact ko_thrown hq hR k
def cf_192_59 (N : Nat) (X : Nat → Option zz_C) (rk : Nat → List Value → cS → kO) (x2 : Int32) (t : cS) : kO := cf_192_60 N X rk x2 2 t
theorem cr_192_59 {X : Nat → Option zz_C} {s : mS} {N : Nat} {rk : Nat → List Value → cS → kO} {D : Nat} (hrk : cK0 X s D rk) (hB : 10 ≤ D) {d : Nat} (hd : D + 1 ≤ d) {Q : zz_O → zz_H → Prop} {x2 : Int32} {h : zz_H} {t t' : cS} {o : kY} (hR : kR h t s) (hf : cf_192_59 N X rk x2 t = some (t', o)) (k : (∀ h', kR h' t' s → kE o Q h')) : zz_J zp_P zt_tf zt_fd X d zm_192 59 [(2, .int x2)] [.ref 2] h Q := by
  unfold cf_192_59 at hf
  exact cb_192_59 hR  (fun hR => cr_192_60 hrk hB hd hR hf k)
def cf_192_55 (N : Nat) (X : Nat → Option zz_C) (rk : Nat → List Value → cS → kO) (x2 : Int32) (t : cS) : kO := cf_192_60 N X rk x2 1 t
theorem cr_192_55 {X : Nat → Option zz_C} {s : mS} {N : Nat} {rk : Nat → List Value → cS → kO} {D : Nat} (hrk : cK0 X s D rk) (hB : 10 ≤ D) {d : Nat} (hd : D + 1 ≤ d) {Q : zz_O → zz_H → Prop} {x2 : Int32} {h : zz_H} {t t' : cS} {o : kY} (hR : kR h t s) (hf : cf_192_55 N X rk x2 t = some (t', o)) (k : (∀ h', kR h' t' s → kE o Q h')) : zz_J zp_P zt_tf zt_fd X d zm_192 55 [(2, .int x2)] [.ref 2] h Q := by
  unfold cf_192_55 at hf
  exact cb_192_55 hR  (fun hR => cr_192_60 hrk hB hd hR hf k)
def cf_192_47 (N : Nat) (X : Nat → Option zz_C) (rk : Nat → List Value → cS → kO) (x1 : Nat) (x2 : Int32) (t : cS) : kO := if (zz_out < x1 ∧ x1 ≤ zz_out + 41) ∧ zz_out < (zz_out + 40) ∧ (zz_out + 40) ≤ zz_out + 41 then (if zz_ac .ne x1 (zz_out + 40) = true then cf_192_59 N X rk x2 t else cf_192_55 N X rk x2 t) else none
theorem cr_192_47 {X : Nat → Option zz_C} {s : mS} {N : Nat} {rk : Nat → List Value → cS → kO} {D : Nat} (hrk : cK0 X s D rk) (hB : 10 ≤ D) {d : Nat} (hd : D + 1 ≤ d) {Q : zz_O → zz_H → Prop} {x1 : Nat} {x2 : Int32} {h : zz_H} {t t' : cS} {o : kY} (hR : kR h t s) (hf : cf_192_47 N X rk x1 x2 t = some (t', o)) (k : (∀ h', kR h' t' s → kE o Q h')) : zz_J zp_P zt_tf zt_fd X d zm_192 47 [(0, .ref 2), (1, .ref x1), (2, .int x2)] [] h Q := by
  unfold cf_192_47 at hf
  obtain ⟨e0, hf⟩ := ko_if hf
  refine cb_192_47 hR e0 (fun c {h} hR => ?_) (fun c {h} hR => ?_)
  · rw [if_pos c] at hf
    exact cr_192_59 hrk hB hd hR hf k
  · rw [if_neg c] at hf
    exact cr_192_55 hrk hB hd hR hf k
def cf_192_129 (N : Nat) (X : Nat → Option zz_C) (rk : Nat → List Value → cS → kO)  (t : cS) : kO := some (t, .inl none)
theorem cr_192_129 {X : Nat → Option zz_C} {s : mS} {N : Nat} {rk : Nat → List Value → cS → kO} {D : Nat} (hrk : cK0 X s D rk) (hB : 10 ≤ D) {d : Nat} (hd : D + 1 ≤ d) {Q : zz_O → zz_H → Prop}  {h : zz_H} {t t' : cS} {o : kY} (hR : kR h t s) (hf : cf_192_129 N X rk  t = some (t', o)) (k : (∀ h', kR h' t' s → kE o Q h')) : zz_J zp_P zt_tf zt_fd X d zm_192 129 [] [] h Q := by
  unfold cf_192_129 at hf
  cases hf
  exact cb_192_129 hR  (fun {h} hR => k h hR)
def cf_192_128 (N : Nat) (X : Nat → Option zz_C) (rk : Nat → List Value → cS → kO) (y0 : Int32) (t : cS) : kO := cf_192_129 N X rk  t
theorem cr_192_128 {X : Nat → Option zz_C} {s : mS} {N : Nat} {rk : Nat → List Value → cS → kO} {D : Nat} (hrk : cK0 X s D rk) (hB : 10 ≤ D) {d : Nat} (hd : D + 1 ≤ d) {Q : zz_O → zz_H → Prop} {y0 : Int32} {h : zz_H} {t t' : cS} {o : kY} (hR : kR h t s) (hf : cf_192_128 N X rk y0 t = some (t', o)) (k : (∀ h', kR h' t' s → kE o Q h')) : zz_J zp_P zt_tf zt_fd X d zm_192 128 [] [.int y0] h Q := by
  unfold cf_192_128 at hf
  exact cb_192_128 hR  (fun hR => cr_192_129 hrk hB hd hR hf k)
def cf_192_123 (N : Nat) (X : Nat → Option zz_C) (rk : Nat → List Value → cS → kO) (x2 : Int32) (x3 : Int32) (y0 : Nat) (y1 : Int32) (t : cS) : kO := if y0 = 12 ∨ y0 = 21 then (ko_call 6 (cf_209 N X y0 y1 x3 x2 t) (fun g1 v1 => co_i v1 (fun y => cf_192_128 N X rk y g1))) else none
theorem cr_192_123 {X : Nat → Option zz_C} {s : mS} {N : Nat} {rk : Nat → List Value → cS → kO} {D : Nat} (hrk : cK0 X s D rk) (hB : 10 ≤ D) {d : Nat} (hd : D + 1 ≤ d) {Q : zz_O → zz_H → Prop} {x2 : Int32} {x3 : Int32} {y0 : Nat} {y1 : Int32} {h : zz_H} {t t' : cS} {o : kY} (hR : kR h t s) (hf : cf_192_123 N X rk x2 x3 y0 y1 t = some (t', o)) (k : (∀ h', kR h' t' s → kE o Q h')) : zz_J zp_P zt_tf zt_fd X d zm_192 123 [(2, .int x2), (3, .int x3)] [.int y1, .ref y0] h Q := by
  unfold cf_192_123 at hf
  obtain ⟨e0, hf⟩ := ko_if hf
  obtain ⟨d', rfl⟩ : ∃ d', d = d' + 1 := ⟨d - 1, by omega⟩
  refine cb_192_123 hR e0 (fun {h} hR => ?_)
  rcases ko_call_ok hf with ⟨g1, v1, er, hf⟩ | ⟨g1, er, hq⟩
  · obtain ⟨y, hv, hf2⟩ := co_i_ok hf
    clear hf
    have hf := hf2
    clear hf2
    subst hv
    refine cr_209 (by omega) hR er (fun h hR => ?_)
    exact cr_192_128 hrk hB hd hR hf k
  · refine cr_209 (by omega) hR er (fun h hR => ?_)
    exact ko_thrown hq hR k
def cf_192_121 (N : Nat) (X : Nat → Option zz_C) (rk : Nat → List Value → cS → kO) (x2 : Int32) (x3 : Int32) (y0 : Nat) (t : cS) : kO := cf_192_123 N X rk x2 x3 y0 23 t
theorem cr_192_121 {X : Nat → Option zz_C} {s : mS} {N : Nat} {rk : Nat → List Value → cS → kO} {D : Nat} (hrk : cK0 X s D rk) (hB : 10 ≤ D) {d : Nat} (hd : D + 1 ≤ d) {Q : zz_O → zz_H → Prop} {x2 : Int32} {x3 : Int32} {y0 : Nat} {h : zz_H} {t t' : cS} {o : kY} (hR : kR h t s) (hf : cf_192_121 N X rk x2 x3 y0 t = some (t', o)) (k : (∀ h', kR h' t' s → kE o Q h')) : zz_J zp_P zt_tf zt_fd X d zm_192 121 [(2, .int x2), (3, .int x3)] [.ref y0] h Q := by
  unfold cf_192_121 at hf
  exact cb_192_121 hR  (fun hR => cr_192_123 hrk hB hd hR hf k)
def cf_192_116 (N : Nat) (X : Nat → Option zz_C) (rk : Nat → List Value → cS → kO) (x2 : Int32) (x3 : Int32) (y0 : Nat) (t : cS) : kO := cf_192_123 N X rk x2 x3 y0 22 t
theorem cr_192_116 {X : Nat → Option zz_C} {s : mS} {N : Nat} {rk : Nat → List Value → cS → kO} {D : Nat} (hrk : cK0 X s D rk) (hB : 10 ≤ D) {d : Nat} (hd : D + 1 ≤ d) {Q : zz_O → zz_H → Prop} {x2 : Int32} {x3 : Int32} {y0 : Nat} {h : zz_H} {t t' : cS} {o : kY} (hR : kR h t s) (hf : cf_192_116 N X rk x2 x3 y0 t = some (t', o)) (k : (∀ h', kR h' t' s → kE o Q h')) : zz_J zp_P zt_tf zt_fd X d zm_192 116 [(2, .int x2), (3, .int x3)] [.ref y0] h Q := by
  unfold cf_192_116 at hf
  exact cb_192_116 hR  (fun hR => cr_192_123 hrk hB hd hR hf k)
def cf_192_106 (N : Nat) (X : Nat → Option zz_C) (rk : Nat → List Value → cS → kO) (x2 : Int32) (x3 : Int32) (x4 : Int32) (t : cS) : kO := co_b ((kP t 2 1)) (fun w0 => if ¬ x4 = 1 then cf_192_121 N X rk x2 x3 w0 t else cf_192_116 N X rk x2 x3 w0 t)
theorem cr_192_106 {X : Nat → Option zz_C} {s : mS} {N : Nat} {rk : Nat → List Value → cS → kO} {D : Nat} (hrk : cK0 X s D rk) (hB : 10 ≤ D) {d : Nat} (hd : D + 1 ≤ d) {Q : zz_O → zz_H → Prop} {x2 : Int32} {x3 : Int32} {x4 : Int32} {h : zz_H} {t t' : cS} {o : kY} (hR : kR h t s) (hf : cf_192_106 N X rk x2 x3 x4 t = some (t', o)) (k : (∀ h', kR h' t' s → kE o Q h')) : zz_J zp_P zt_tf zt_fd X d zm_192 106 [(0, .ref 2), (2, .int x2), (3, .int x3), (4, .int x4)] [] h Q := by
  unfold cf_192_106 at hf
  obtain ⟨w0, e0, hf⟩ := co_b_ok hf
  refine cb_192_106 hR e0 (fun c {h} hR => ?_) (fun c {h} hR => ?_)
  · rw [if_pos c] at hf
    exact cr_192_121 hrk hB hd hR hf k
  · rw [if_neg c] at hf
    exact cr_192_116 hrk hB hd hR hf k
def cf_192_102 (N : Nat) (X : Nat → Option zz_C) (rk : Nat → List Value → cS → kO) (y0 : Int32) (t : cS) : kO := cf_192_129 N X rk  t
theorem cr_192_102 {X : Nat → Option zz_C} {s : mS} {N : Nat} {rk : Nat → List Value → cS → kO} {D : Nat} (hrk : cK0 X s D rk) (hB : 10 ≤ D) {d : Nat} (hd : D + 1 ≤ d) {Q : zz_O → zz_H → Prop} {y0 : Int32} {h : zz_H} {t t' : cS} {o : kY} (hR : kR h t s) (hf : cf_192_102 N X rk y0 t = some (t', o)) (k : (∀ h', kR h' t' s → kE o Q h')) : zz_J zp_P zt_tf zt_fd X d zm_192 102 [] [.int y0] h Q := by
  unfold cf_192_102 at hf
  exact cb_192_102 hR  (fun hR => cr_192_129 hrk hB hd hR hf k)
def cf_192_90 (N : Nat) (X : Nat → Option zz_C) (rk : Nat → List Value → cS → kO) (x2 : Int32) (x4 : Int32) (t : cS) : kO := co_b ((kP t 2 1)) (fun w0 => if w0 = 12 ∨ w0 = 21 then (ko_call 6 (cf_209 N X w0 24 x4 x2 t) (fun g1 v1 => co_i v1 (fun y => cf_192_102 N X rk y g1))) else none)
theorem cr_192_90 {X : Nat → Option zz_C} {s : mS} {N : Nat} {rk : Nat → List Value → cS → kO} {D : Nat} (hrk : cK0 X s D rk) (hB : 10 ≤ D) {d : Nat} (hd : D + 1 ≤ d) {Q : zz_O → zz_H → Prop} {x2 : Int32} {x4 : Int32} {h : zz_H} {t t' : cS} {o : kY} (hR : kR h t s) (hf : cf_192_90 N X rk x2 x4 t = some (t', o)) (k : (∀ h', kR h' t' s → kE o Q h')) : zz_J zp_P zt_tf zt_fd X d zm_192 90 [(0, .ref 2), (2, .int x2), (4, .int x4)] [] h Q := by
  unfold cf_192_90 at hf
  obtain ⟨w0, e0, hf⟩ := co_b_ok hf
  obtain ⟨e1, hf⟩ := ko_if hf
  obtain ⟨d', rfl⟩ : ∃ d', d = d' + 1 := ⟨d - 1, by omega⟩
  refine cb_192_90 hR e0 e1 (fun {h} hR => ?_)
  rcases ko_call_ok hf with ⟨g1, v1, er, hf⟩ | ⟨g1, er, hq⟩
  · obtain ⟨y, hv, hf2⟩ := co_i_ok hf
    clear hf
    have hf := hf2
    clear hf2
    subst hv
    refine cr_209 (by omega) hR er (fun h hR => ?_)
    exact cr_192_102 hrk hB hd hR hf k
  · refine cr_209 (by omega) hR er (fun h hR => ?_)
    exact ko_thrown hq hR k
def cf_192_81 (N : Nat) (X : Nat → Option zz_C) (rk : Nat → List Value → cS → kO) (x1 : Nat) (x2 : Int32) (x3 : Int32) (y0 : Int32) (t : cS) : kO := if (zz_out < x1 ∧ x1 ≤ zz_out + 41) ∧ zz_out < (zz_out + 17) ∧ (zz_out + 17) ≤ zz_out + 41 then (if zz_ac .ne x1 (zz_out + 17) = true then cf_192_106 N X rk x2 x3 y0 t else cf_192_90 N X rk x2 y0 t) else none
theorem cr_192_81 {X : Nat → Option zz_C} {s : mS} {N : Nat} {rk : Nat → List Value → cS → kO} {D : Nat} (hrk : cK0 X s D rk) (hB : 10 ≤ D) {d : Nat} (hd : D + 1 ≤ d) {Q : zz_O → zz_H → Prop} {x1 : Nat} {x2 : Int32} {x3 : Int32} {y0 : Int32} {h : zz_H} {t t' : cS} {o : kY} (hR : kR h t s) (hf : cf_192_81 N X rk x1 x2 x3 y0 t = some (t', o)) (k : (∀ h', kR h' t' s → kE o Q h')) : zz_J zp_P zt_tf zt_fd X d zm_192 81 [(0, .ref 2), (1, .ref x1), (2, .int x2), (3, .int x3)] [.int y0] h Q := by
  unfold cf_192_81 at hf
  obtain ⟨e0, hf⟩ := ko_if hf
  refine cb_192_81 hR e0 (fun c {h} hR => ?_) (fun c {h} hR => ?_)
  · rw [if_pos c] at hf
    exact cr_192_106 hrk hB hd hR hf k
  · rw [if_neg c] at hf
    exact cr_192_90 hrk hB hd hR hf k
def cf_192_65 (N : Nat) (X : Nat → Option zz_C) (rk : Nat → List Value → cS → kO) (x1 : Nat) (x2 : Int32) (x3 : Int32) (t : cS) : kO := co_b (hgi X [] x1 20 1) (fun w0 => co_b (hgi X [] x1 20 2) (fun w1 => ko_call 5 (rk 194 [.int 40, .int 41, .int w0, .int w1] t) (fun g1 v1 => co_i v1 (fun y => cf_192_81 N X rk x1 x2 x3 y g1))))
theorem cr_192_65 {X : Nat → Option zz_C} {s : mS} {N : Nat} {rk : Nat → List Value → cS → kO} {D : Nat} (hrk : cK0 X s D rk) (hB : 10 ≤ D) {d : Nat} (hd : D + 1 ≤ d) {Q : zz_O → zz_H → Prop} {x1 : Nat} {x2 : Int32} {x3 : Int32} {h : zz_H} {t t' : cS} {o : kY} (hR : kR h t s) (hf : cf_192_65 N X rk x1 x2 x3 t = some (t', o)) (k : (∀ h', kR h' t' s → kE o Q h')) : zz_J zp_P zt_tf zt_fd X d zm_192 65 [(0, .ref 2), (1, .ref x1), (2, .int x2), (3, .int x3)] [] h Q := by
  unfold cf_192_65 at hf
  obtain ⟨w0, e0, hf⟩ := co_b_ok hf
  obtain ⟨w1, e1, hf⟩ := co_b_ok hf
  obtain ⟨d', rfl⟩ : ∃ d', d = d' + 1 := ⟨d - 1, by omega⟩
  refine cb_192_65 hR e0 e1 (fun {h} hR => ?_)
  rcases ko_call_ok hf with ⟨g1, v1, er, hf⟩ | ⟨g1, er, hq⟩
  · obtain ⟨y, hv, hf2⟩ := co_i_ok hf
    clear hf
    have hf := hf2
    clear hf2
    subst hv
    refine hrk.2.2.2.2.2.2.2 (by omega) hR er (fun h hR => ?_)
    exact cr_192_81 hrk hB hd hR hf k
  · refine hrk.2.2.2.2.2.2.2 (by omega) hR er (fun h hR => ?_)
    exact ko_thrown hq hR k
def cf_192_40 (N : Nat) (X : Nat → Option zz_C) (rk : Nat → List Value → cS → kO) (x1 : Nat) (x2 : Int32) (x3 : Int32) (t : cS) : kO := if (zz_out < x1 ∧ x1 ≤ zz_out + 41) ∧ zz_out < (zz_out + 41) ∧ (zz_out + 41) ≤ zz_out + 41 then (if zz_ac .ne x1 (zz_out + 41) = true then cf_192_65 N X rk x1 x2 x3 t else cf_192_47 N X rk x1 x2 t) else none
theorem cr_192_40 {X : Nat → Option zz_C} {s : mS} {N : Nat} {rk : Nat → List Value → cS → kO} {D : Nat} (hrk : cK0 X s D rk) (hB : 10 ≤ D) {d : Nat} (hd : D + 1 ≤ d) {Q : zz_O → zz_H → Prop} {x1 : Nat} {x2 : Int32} {x3 : Int32} {h : zz_H} {t t' : cS} {o : kY} (hR : kR h t s) (hf : cf_192_40 N X rk x1 x2 x3 t = some (t', o)) (k : (∀ h', kR h' t' s → kE o Q h')) : zz_J zp_P zt_tf zt_fd X d zm_192 40 [(0, .ref 2), (1, .ref x1), (2, .int x2), (3, .int x3)] [] h Q := by
  unfold cf_192_40 at hf
  obtain ⟨e0, hf⟩ := ko_if hf
  refine cb_192_40 hR e0 (fun c {h} hR => ?_) (fun c {h} hR => ?_)
  · rw [if_pos c] at hf
    exact cr_192_65 hrk hB hd hR hf k
  · rw [if_neg c] at hf
    exact cr_192_47 hrk hB hd hR hf k
def cf_192_33 (N : Nat) (X : Nat → Option zz_C) (rk : Nat → List Value → cS → kO) (x1 : Nat) (x2 : Int32) (x3 : Int32) (t : cS) : kO := if (zz_out < x1 ∧ x1 ≤ zz_out + 41) ∧ zz_out < (zz_out + 40) ∧ (zz_out + 40) ≤ zz_out + 41 then (if zz_ac .eq x1 (zz_out + 40) = true then cf_192_47 N X rk x1 x2 t else cf_192_40 N X rk x1 x2 x3 t) else none
theorem cr_192_33 {X : Nat → Option zz_C} {s : mS} {N : Nat} {rk : Nat → List Value → cS → kO} {D : Nat} (hrk : cK0 X s D rk) (hB : 10 ≤ D) {d : Nat} (hd : D + 1 ≤ d) {Q : zz_O → zz_H → Prop} {x1 : Nat} {x2 : Int32} {x3 : Int32} {h : zz_H} {t t' : cS} {o : kY} (hR : kR h t s) (hf : cf_192_33 N X rk x1 x2 x3 t = some (t', o)) (k : (∀ h', kR h' t' s → kE o Q h')) : zz_J zp_P zt_tf zt_fd X d zm_192 33 [(0, .ref 2), (1, .ref x1), (2, .int x2), (3, .int x3)] [] h Q := by
  unfold cf_192_33 at hf
  obtain ⟨e0, hf⟩ := ko_if hf
  refine cb_192_33 hR e0 (fun c {h} hR => ?_) (fun c {h} hR => ?_)
  · rw [if_pos c] at hf
    exact cr_192_47 hrk hB hd hR hf k
  · rw [if_neg c] at hf
    exact cr_192_40 hrk hB hd hR hf k
def cf_192_24 (N : Nat) (X : Nat → Option zz_C) (rk : Nat → List Value → cS → kO) (x1 : Nat) (x2 : Int32) (y0 : Int64) (t : cS) : kO := ko_call 10 (cf_46 N X  t) (fun g1 v1 => co_v v1 (cf_192_33 N X rk x1 x2 (Int64.toInt32 y0) g1))
theorem cr_192_24 {X : Nat → Option zz_C} {s : mS} {N : Nat} {rk : Nat → List Value → cS → kO} {D : Nat} (hrk : cK0 X s D rk) (hB : 10 ≤ D) {d : Nat} (hd : D + 1 ≤ d) {Q : zz_O → zz_H → Prop} {x1 : Nat} {x2 : Int32} {y0 : Int64} {h : zz_H} {t t' : cS} {o : kY} (hR : kR h t s) (hf : cf_192_24 N X rk x1 x2 y0 t = some (t', o)) (k : (∀ h', kR h' t' s → kE o Q h')) : zz_J zp_P zt_tf zt_fd X d zm_192 24 [(0, .ref 2), (1, .ref x1), (2, .int x2)] [.long y0] h Q := by
  unfold cf_192_24 at hf
  obtain ⟨d', rfl⟩ : ∃ d', d = d' + 1 := ⟨d - 1, by omega⟩
  refine cb_192_24 hR  (fun {h} hR => ?_)
  rcases ko_call_ok hf with ⟨g1, v1, er, hf⟩ | ⟨g1, er, hq⟩
  · obtain ⟨hv, hf2⟩ := co_v_ok hf
    clear hf
    have hf := hf2
    clear hf2
    subst hv
    refine cr_46 (by omega) hR er (fun h hR => ?_)
    exact cr_192_33 hrk hB hd hR hf k
  · refine cr_46 (by omega) hR er (fun h hR => ?_)
    exact ko_thrown hq hR k
def cf_192_16 (N : Nat) (X : Nat → Option zz_C) (rk : Nat → List Value → cS → kO) (x1 : Nat) (y0 : Int32) (t : cS) : kO := ko_call 10 (cf_244 N X  t) (fun g1 v1 => co_l v1 (fun y => cf_192_24 N X rk x1 y0 y g1))
theorem cr_192_16 {X : Nat → Option zz_C} {s : mS} {N : Nat} {rk : Nat → List Value → cS → kO} {D : Nat} (hrk : cK0 X s D rk) (hB : 10 ≤ D) {d : Nat} (hd : D + 1 ≤ d) {Q : zz_O → zz_H → Prop} {x1 : Nat} {y0 : Int32} {h : zz_H} {t t' : cS} {o : kY} (hR : kR h t s) (hf : cf_192_16 N X rk x1 y0 t = some (t', o)) (k : (∀ h', kR h' t' s → kE o Q h')) : zz_J zp_P zt_tf zt_fd X d zm_192 16 [(0, .ref 2), (1, .ref x1)] [.int y0] h Q := by
  unfold cf_192_16 at hf
  obtain ⟨d', rfl⟩ : ∃ d', d = d' + 1 := ⟨d - 1, by omega⟩
  refine cb_192_16 hR  (fun {h} hR => ?_)
  rcases ko_call_ok hf with ⟨g1, v1, er, hf⟩ | ⟨g1, er, hq⟩
  · obtain ⟨y, hv, hf2⟩ := co_l_ok hf
    clear hf
    have hf := hf2
    clear hf2
    subst hv
    refine cr_244 (by omega) hR er (fun h hR => ?_)
    exact cr_192_24 hrk hB hd hR hf k
  · refine cr_244 (by omega) hR er (fun h hR => ?_)
    exact ko_thrown hq hR k
def cf_192_9 (N : Nat) (X : Nat → Option zz_C) (rk : Nat → List Value → cS → kO) (x1 : Nat) (t : cS) : kO := ko_call 10 (cf_243 N X  t) (fun g1 v1 => co_i v1 (fun y => cf_192_16 N X rk x1 y g1))
theorem cr_192_9 {X : Nat → Option zz_C} {s : mS} {N : Nat} {rk : Nat → List Value → cS → kO} {D : Nat} (hrk : cK0 X s D rk) (hB : 10 ≤ D) {d : Nat} (hd : D + 1 ≤ d) {Q : zz_O → zz_H → Prop} {x1 : Nat} {h : zz_H} {t t' : cS} {o : kY} (hR : kR h t s) (hf : cf_192_9 N X rk x1 t = some (t', o)) (k : (∀ h', kR h' t' s → kE o Q h')) : zz_J zp_P zt_tf zt_fd X d zm_192 9 [(0, .ref 2), (1, .ref x1)] [] h Q := by
  unfold cf_192_9 at hf
  obtain ⟨d', rfl⟩ : ∃ d', d = d' + 1 := ⟨d - 1, by omega⟩
  refine cb_192_9 hR  (fun {h} hR => ?_)
  rcases ko_call_ok hf with ⟨g1, v1, er, hf⟩ | ⟨g1, er, hq⟩
  · obtain ⟨y, hv, hf2⟩ := co_i_ok hf
    clear hf
    have hf := hf2
    clear hf2
    subst hv
    refine cr_243 (by omega) hR er (fun h hR => ?_)
    exact cr_192_16 hrk hB hd hR hf k
  · refine cr_243 (by omega) hR er (fun h hR => ?_)
    exact ko_thrown hq hR k
def cf_192_5 (N : Nat) (X : Nat → Option zz_C) (rk : Nat → List Value → cS → kO) (x1 : Nat) (y1 : Int32) (t : cS) : kO := ko_call 5 (cf_202 N X y1 2 t) (fun g1 v1 => co_v v1 (cf_192_9 N X rk x1 g1))
theorem cr_192_5 {X : Nat → Option zz_C} {s : mS} {N : Nat} {rk : Nat → List Value → cS → kO} {D : Nat} (hrk : cK0 X s D rk) (hB : 10 ≤ D) {d : Nat} (hd : D + 1 ≤ d) {Q : zz_O → zz_H → Prop} {x1 : Nat} {y1 : Int32} {h : zz_H} {t t' : cS} {o : kY} (hR : kR h t s) (hf : cf_192_5 N X rk x1 y1 t = some (t', o)) (k : (∀ h', kR h' t' s → kE o Q h')) : zz_J zp_P zt_tf zt_fd X d zm_192 5 [(0, .ref 2), (1, .ref x1)] [.int y1, .ref 2] h Q := by
  unfold cf_192_5 at hf
  obtain ⟨d', rfl⟩ : ∃ d', d = d' + 1 := ⟨d - 1, by omega⟩
  refine cb_192_5 hR  (fun {h} hR => ?_)
  rcases ko_call_ok hf with ⟨g1, v1, er, hf⟩ | ⟨g1, er, hq⟩
  · obtain ⟨hv, hf2⟩ := co_v_ok hf
    clear hf
    have hf := hf2
    clear hf2
    subst hv
    refine cr_202 (by omega) hR er (fun h hR => ?_)
    exact cr_192_9 hrk hB hd hR hf k
  · refine cr_202 (by omega) hR er (fun h hR => ?_)
    exact ko_thrown hq hR k
def cf_192_0 (N : Nat) (X : Nat → Option zz_C) (rk : Nat → List Value → cS → kO) (x1 : Nat) (t : cS) : kO := if ¬ x1 < zz_out then (if hcl X [] x1 20 = true then (ko_call 20 (cf_249 N X x1 t) (fun g1 v1 => co_i v1 (fun y => cf_192_5 N X rk x1 y g1))) else none) else none
theorem cr_192_0 {X : Nat → Option zz_C} {s : mS} {N : Nat} {rk : Nat → List Value → cS → kO} {D : Nat} (hrk : cK0 X s D rk) (hB : 10 ≤ D) {d : Nat} (hd : D + 1 ≤ d) {Q : zz_O → zz_H → Prop} {x1 : Nat} {h : zz_H} {t t' : cS} {o : kY} (hR : kR h t s) (hf : cf_192_0 N X rk x1 t = some (t', o)) (k : (∀ h', kR h' t' s → kE o Q h')) : zz_J zp_P zt_tf zt_fd X d zm_192 0 [(0, .ref 2), (1, .ref x1)] [] h Q := by
  unfold cf_192_0 at hf
  obtain ⟨e0, hf⟩ := ko_if hf
  obtain ⟨e1, hf⟩ := ko_if hf
  obtain ⟨d', rfl⟩ : ∃ d', d = d' + 1 := ⟨d - 1, by omega⟩
  refine cb_192_0 hR e0 e1 (fun {h} hR => ?_)
  rcases ko_call_ok hf with ⟨g1, v1, er, hf⟩ | ⟨g1, er, hq⟩
  · obtain ⟨y, hv, hf2⟩ := co_i_ok hf
    clear hf
    have hf := hf2
    clear hf2
    subst hv
    refine cr_249 (by omega) hR er (fun h hR => ?_)
    exact cr_192_5 hrk hB hd hR hf k
  · refine cr_249 (by omega) hR er (fun h hR => ?_)
    exact ko_thrown hq hR k
/-- builtIn -/
def cf_192 (N : Nat) (X : Nat → Option zz_C) (rk : Nat → List Value → cS → kO) (x1 : Nat) (t : cS) : kO := cf_192_0 N X rk x1 t
theorem cr_192 {X : Nat → Option zz_C} {s : mS} {N : Nat} {rk : Nat → List Value → cS → kO} {D : Nat} (hrk : cK0 X s D rk) (hB : 10 ≤ D) {d : Nat} (hd : D + 1 ≤ d) {Q : zz_O → zz_H → Prop} {x1 : Nat} {h : zz_H} {t t' : cS} {o : kY} (hR : kR h t s) (hf : cf_192 N X rk x1 t = some (t', o)) (k : ∀ h', kR h' t' s → kE o Q h') : zz_J zp_P zt_tf zt_fd X d zm_192 0 [(0, .ref 2), (1, .ref x1)] [] h Q := by
  unfold cf_192 at hf
  exact zz_J.weak (cr_192_0 hrk hB hd hR hf k) rfl ⟨rfl, rfl, trivial⟩
/-! yX5_walk -/
theorem cb_193_0 {X : Nat → Option zz_C} {h : zz_H} {t : cS} {s : mS} {d : Nat} {Q : zz_O → zz_H → Prop} {x1 : Int32} {x2 : Int32} (hR : kR h t s) (k : ∀ {h : zz_H}, kR h t s → zz_J zp_P zt_tf zt_fd X d zm_201 0 [(0, .ref 2), (1, .int 40)] [] h (zz_after 5 Q (fun v h' => zz_J zp_P zt_tf zt_fd X (d + 1) zm_193 6 [(0, .ref 2), (1, .int x1), (2, .int x2)] (v.toList ++ []) h' Q))) : zz_J zp_P zt_tf zt_fd X (d + 1) zm_193 0 [(0, .ref 2), (1, .int x1), (2, .int x2)] [] h Q := by
  refine zz_J.n 1 rfl rfl rfl ?_
  refine zz_J.c 3 (.int 40) rfl rfl rfl rfl ?_
  refine zz_J.cv 6 (as := []) rfl rfl (hR.clO ko_2 (by decide) (by decide)) (by decide) (Nat.le_of_ble_eq_true rfl) (Nat.le_of_ble_eq_true rfl) rfl (Nat.le_of_ble_eq_true rfl) rfl ?_
  refine zz_J.mono (k hR) ?_
  intro o h' hE
  cases o with
  | inl v => exact zz_J.weak hE rfl ⟨rfl, rfl, rfl, trivial⟩
  | inr q => exact hE
theorem cb_193_6 {X : Nat → Option zz_C} {h : zz_H} {t : cS} {s : mS} {d : Nat} {Q : zz_O → zz_H → Prop} {x1 : Int32} {x2 : Int32} (hR : kR h t s) (k : ∀ {h : zz_H}, kR h t s → zz_J zp_P zt_tf zt_fd X d zm_42 0 [(0, .ref 3)] [] h (zz_after 10 Q (fun v h' => zz_J zp_P zt_tf zt_fd X (d + 1) zm_193 14 [(0, .ref 2), (1, .int x1), (2, .int x2)] (v.toList ++ [.ref 2]) h' Q))) : zz_J zp_P zt_tf zt_fd X (d + 1) zm_193 6 [(0, .ref 2), (1, .int x1), (2, .int x2)] [] h Q := by
  refine zz_J.n 7 rfl rfl rfl ?_
  refine zz_J.n 8 rfl rfl rfl ?_
  refine zz_J.g 11 rfl (hR.gv (v := .ref 3) ko_2 (by decide) rfl) rfl ?_
  refine zz_J.cv 14 (as := [.ref 2]) rfl rfl (hR.clO ko_3 (by decide) (by decide)) (by decide) (Nat.le_of_ble_eq_true rfl) (Nat.le_of_ble_eq_true rfl) rfl (Nat.le_of_ble_eq_true rfl) rfl ?_
  refine zz_J.mono (k hR) ?_
  intro o h' hE
  cases o with
  | inl v => exact zz_J.weak hE rfl ⟨rfl, rfl, rfl, trivial⟩
  | inr q => exact hE
theorem cb_193_14 {X : Nat → Option zz_C} {h : zz_H} {t : cS} {s : mS} {d : Nat} {Q : zz_O → zz_H → Prop} {x1 : Int32} {x2 : Int32} {y1 : Int32} (hR : kR h t s) (k1 : ¬ y1 = 3 → (∀ {h : zz_H}, kR h t s → zz_J zp_P zt_tf zt_fd X d zm_193 22 [(0, .ref 2), (1, .int x1), (2, .int x2)] [.ref 2] h Q)) (k2 : ¬ ¬ y1 = 3 → (∀ {h : zz_H}, kR h t s → zz_J zp_P zt_tf zt_fd X d zm_193 18 [(0, .ref 2), (1, .int x1), (2, .int x2)] [.ref 2] h Q)) : zz_J zp_P zt_tf zt_fd X d zm_193 14 [(0, .ref 2), (1, .int x1), (2, .int x2)] [.int y1, .ref 2] h Q := by
  refine zz_J.c 15 (.int 3) rfl rfl rfl rfl ?_
  refine zz_J.b2 22 18 (A := ¬ y1 = 3) rfl (zz_cond_ne _ _) (by decide) rfl rfl (fun c => ?_) (fun c => ?_)
  · exact zz_J.weak (k1 c hR) rfl ⟨rfl, rfl, rfl, trivial⟩
  · exact zz_J.weak (k2 c hR) rfl ⟨rfl, rfl, rfl, trivial⟩
theorem cb_193_18 {X : Nat → Option zz_C} {h : zz_H} {t : cS} {s : mS} {d : Nat} {Q : zz_O → zz_H → Prop} {x1 : Int32} {x2 : Int32} (hR : kR h t s) (k : ∀ {h : zz_H}, kR h t s → zz_J zp_P zt_tf zt_fd X d zm_193 23 [(0, .ref 2), (1, .int x1), (2, .int x2)] [.int 1, .ref 2] h Q) : zz_J zp_P zt_tf zt_fd X d zm_193 18 [(0, .ref 2), (1, .int x1), (2, .int x2)] [.ref 2] h Q := by
  refine zz_J.c 19 (.int 1) rfl rfl rfl rfl ?_
  refine zz_J.n 23 rfl rfl rfl ?_
  exact zz_J.weak (k hR) rfl ⟨rfl, rfl, rfl, trivial⟩
theorem cb_193_22 {X : Nat → Option zz_C} {h : zz_H} {t : cS} {s : mS} {d : Nat} {Q : zz_O → zz_H → Prop} {x1 : Int32} {x2 : Int32} (hR : kR h t s) (k : ∀ {h : zz_H}, kR h t s → zz_J zp_P zt_tf zt_fd X d zm_193 23 [(0, .ref 2), (1, .int x1), (2, .int x2)] [.int 0, .ref 2] h Q) : zz_J zp_P zt_tf zt_fd X d zm_193 22 [(0, .ref 2), (1, .int x1), (2, .int x2)] [.ref 2] h Q := by
  refine zz_J.c 23 (.int 0) rfl rfl rfl rfl ?_
  exact zz_J.weak (k hR) rfl ⟨rfl, rfl, rfl, trivial⟩
theorem cb_193_23 {X : Nat → Option zz_C} {h : zz_H} {t : cS} {s : mS} {d : Nat} {Q : zz_O → zz_H → Prop} {x1 : Int32} {x2 : Int32} {y1 : Int32} (hR : kR h t s) (k : ∀ {h : zz_H}, kR h t s → zz_J zp_P zt_tf zt_fd X d zm_202 0 [(0, .ref 2), (1, .int y1), (2, .int 2)] [] h (zz_after 5 Q (fun v h' => zz_J zp_P zt_tf zt_fd X (d + 1) zm_193 27 [(0, .ref 2), (1, .int x1), (2, .int x2)] (v.toList ++ []) h' Q))) : zz_J zp_P zt_tf zt_fd X (d + 1) zm_193 23 [(0, .ref 2), (1, .int x1), (2, .int x2)] [.int y1, .ref 2] h Q := by
  refine zz_J.c 24 (.int 2) rfl rfl rfl rfl ?_
  refine zz_J.cv 27 (as := []) rfl rfl (hR.clO ko_2 (by decide) (by decide)) (by decide) (Nat.le_of_ble_eq_true rfl) (Nat.le_of_ble_eq_true rfl) rfl (Nat.le_of_ble_eq_true rfl) rfl ?_
  refine zz_J.mono (k hR) ?_
  intro o h' hE
  cases o with
  | inl v => exact zz_J.weak hE rfl ⟨rfl, rfl, rfl, trivial⟩
  | inr q => exact hE
theorem cb_193_27 {X : Nat → Option zz_C} {h : zz_H} {t : cS} {s : mS} {d : Nat} {Q : zz_O → zz_H → Prop} {x1 : Int32} {x2 : Int32} (hR : kR h t s) (k : ∀ {h : zz_H}, kR h t s → zz_J zp_P zt_tf zt_fd X d zm_244 0 [(0, .ref 3)] [] h (zz_after 10 Q (fun v h' => zz_J zp_P zt_tf zt_fd X (d + 1) zm_193 34 [(0, .ref 2), (1, .int x1), (2, .int x2)] (v.toList ++ []) h' Q))) : zz_J zp_P zt_tf zt_fd X (d + 1) zm_193 27 [(0, .ref 2), (1, .int x1), (2, .int x2)] [] h Q := by
  refine zz_J.n 28 rfl rfl rfl ?_
  refine zz_J.g 31 rfl (hR.gv (v := .ref 3) ko_2 (by decide) rfl) rfl ?_
  refine zz_J.cv 34 (as := []) rfl rfl (hR.clO ko_3 (by decide) (by decide)) (by decide) (Nat.le_of_ble_eq_true rfl) (Nat.le_of_ble_eq_true rfl) rfl (Nat.le_of_ble_eq_true rfl) rfl ?_
  refine zz_J.mono (k hR) ?_
  intro o h' hE
  cases o with
  | inl v => exact zz_J.weak hE rfl ⟨rfl, rfl, rfl, trivial⟩
  | inr q => exact hE
theorem cb_193_34 {X : Nat → Option zz_C} {h : zz_H} {t : cS} {s : mS} {d : Nat} {Q : zz_O → zz_H → Prop} {x1 : Int32} {x2 : Int32} {y0 : Int64} (hR : kR h t s) (k : ∀ {h : zz_H}, kR h t s → zz_J zp_P zt_tf zt_fd X d zm_243 0 [(0, .ref 3)] [] h (zz_after 10 Q (fun v h' => zz_J zp_P zt_tf zt_fd X (d + 1) zm_193 42 [(0, .ref 2), (1, .int x1), (2, .int x2), (3, .long y0)] (v.toList ++ []) h' Q))) : zz_J zp_P zt_tf zt_fd X (d + 1) zm_193 34 [(0, .ref 2), (1, .int x1), (2, .int x2)] [.long y0] h Q := by
  refine zz_J.n 35 rfl rfl rfl ?_
  refine zz_J.n 36 rfl rfl rfl ?_
  refine zz_J.g 39 rfl (hR.gv (v := .ref 3) ko_2 (by decide) rfl) rfl ?_
  refine zz_J.cv 42 (as := []) rfl rfl (hR.clO ko_3 (by decide) (by decide)) (by decide) (Nat.le_of_ble_eq_true rfl) (Nat.le_of_ble_eq_true rfl) rfl (Nat.le_of_ble_eq_true rfl) rfl ?_
  refine zz_J.mono (k hR) ?_
  intro o h' hE
  cases o with
  | inl v => exact zz_J.weak hE rfl ⟨rfl, rfl, rfl, rfl, trivial⟩
  | inr q => exact hE
theorem cb_193_42 {X : Nat → Option zz_C} {h : zz_H} {t : cS} {s : mS} {d : Nat} {Q : zz_O → zz_H → Prop} {x1 : Int32} {x2 : Int32} {x3 : Int64} {y0 : Int32} (hR : kR h t s) (k : ∀ {h : zz_H}, kR h t s → zz_J zp_P zt_tf zt_fd X d zm_46 0 [(0, .ref 3)] [] h (zz_after 10 Q (fun v h' => zz_J zp_P zt_tf zt_fd X (d + 1) zm_193 51 [(0, .ref 2), (1, .int x1), (2, .int x2), (3, .long x3), (5, .int y0)] (v.toList ++ []) h' Q))) : zz_J zp_P zt_tf zt_fd X (d + 1) zm_193 42 [(0, .ref 2), (1, .int x1), (2, .int x2), (3, .long x3)] [.int y0] h Q := by
  refine zz_J.n 44 rfl rfl rfl ?_
  refine zz_J.n 45 rfl rfl rfl ?_
  refine zz_J.g 48 rfl (hR.gv (v := .ref 3) ko_2 (by decide) rfl) rfl ?_
  refine zz_J.cv 51 (as := []) rfl rfl (hR.clO ko_3 (by decide) (by decide)) (by decide) (Nat.le_of_ble_eq_true rfl) (Nat.le_of_ble_eq_true rfl) rfl (Nat.le_of_ble_eq_true rfl) rfl ?_
  refine zz_J.mono (k hR) ?_
  intro o h' hE
  cases o with
  | inl v => exact zz_J.weak hE rfl ⟨rfl, rfl, rfl, rfl, rfl, trivial⟩
  | inr q => exact hE
theorem cb_193_51 {X : Nat → Option zz_C} {h : zz_H} {t : cS} {s : mS} {d : Nat} {Q : zz_O → zz_H → Prop} {x1 : Int32} {x2 : Int32} {x3 : Int64} {x5 : Int32} (hR : kR h t s) (k : ∀ {h : zz_H}, kR h t s → zz_J zp_P zt_tf zt_fd X d zm_193 54 [(0, .ref 2), (1, .int x1), (2, .int x2), (3, .long x3), (5, .int x5), (6, .int 0)] [] h Q) : zz_J zp_P zt_tf zt_fd X d zm_193 51 [(0, .ref 2), (1, .int x1), (2, .int x2), (3, .long x3), (5, .int x5)] [] h Q := by
  refine zz_J.c 52 (.int 0) rfl rfl rfl rfl ?_
  refine zz_J.n 54 rfl rfl rfl ?_
  exact zz_J.weak (k hR) rfl ⟨rfl, rfl, rfl, rfl, rfl, rfl, trivial⟩
theorem cb_193_54 {X : Nat → Option zz_C} {h : zz_H} {t : cS} {s : mS} {d : Nat} {Q : zz_O → zz_H → Prop} {x1 : Int32} {x2 : Int32} {x3 : Int64} {x5 : Int32} {x6 : Int32} (hR : kR h t s) (k1 : x1 ≤ x6 → (∀ {h : zz_H}, kR h t s → zz_J zp_P zt_tf zt_fd X d zm_193 77 [(0, .ref 2), (1, .int x1), (2, .int x2), (3, .long x3), (5, .int x5)] [] h Q)) (k2 : ¬ x1 ≤ x6 → (∀ {h : zz_H}, kR h t s → zz_J zp_P zt_tf zt_fd X d zm_193 60 [(0, .ref 2), (1, .int x1), (2, .int x2), (3, .long x3), (5, .int x5), (6, .int x6)] [] h Q)) : zz_J zp_P zt_tf zt_fd X d zm_193 54 [(0, .ref 2), (1, .int x1), (2, .int x2), (3, .long x3), (5, .int x5), (6, .int x6)] [] h Q := by
  refine zz_J.n 56 rfl rfl rfl ?_
  refine zz_J.n 57 rfl rfl rfl ?_
  refine zz_J.b2 77 60 (A := x1 ≤ x6) rfl rfl (by decide) rfl rfl (fun c => ?_) (fun c => ?_)
  · exact zz_J.weak (k1 c hR) rfl ⟨rfl, rfl, rfl, rfl, rfl, trivial⟩
  · exact zz_J.weak (k2 c hR) rfl ⟨rfl, rfl, rfl, rfl, rfl, rfl, trivial⟩
theorem cb_193_60 {X : Nat → Option zz_C} {h : zz_H} {t : cS} {s : mS} {d : Nat} {Q : zz_O → zz_H → Prop} {x1 : Int32} {x2 : Int32} {x3 : Int64} {x5 : Int32} {x6 : Int32} (hR : kR h t s) (k : ∀ {h : zz_H}, kR h t s → zz_J zp_P zt_tf zt_fd X d zm_201 0 [(0, .ref 2), (1, .int 44)] [] h (zz_after 5 Q (fun v h' => zz_J zp_P zt_tf zt_fd X (d + 1) zm_193 66 [(0, .ref 2), (1, .int x1), (2, .int x2), (3, .long x3), (5, .int x5), (6, .int x6)] (v.toList ++ []) h' Q))) : zz_J zp_P zt_tf zt_fd X (d + 1) zm_193 60 [(0, .ref 2), (1, .int x1), (2, .int x2), (3, .long x3), (5, .int x5), (6, .int x6)] [] h Q := by
  refine zz_J.n 61 rfl rfl rfl ?_
  refine zz_J.c 63 (.int 44) rfl rfl rfl rfl ?_
  refine zz_J.cv 66 (as := []) rfl rfl (hR.clO ko_2 (by decide) (by decide)) (by decide) (Nat.le_of_ble_eq_true rfl) (Nat.le_of_ble_eq_true rfl) rfl (Nat.le_of_ble_eq_true rfl) rfl ?_
  refine zz_J.mono (k hR) ?_
  intro o h' hE
  cases o with
  | inl v => exact zz_J.weak hE rfl ⟨rfl, rfl, rfl, rfl, rfl, rfl, trivial⟩
  | inr q => exact hE
theorem cb_193_66 {X : Nat → Option zz_C} {h : zz_H} {t : cS} {s : mS} {d : Nat} {Q : zz_O → zz_H → Prop} {x1 : Int32} {x2 : Int32} {x3 : Int64} {x5 : Int32} {x6 : Int32} (hR : kR h t s) (k : ∀ {h : zz_H}, kR h t s → zz_J zp_P zt_tf zt_fd X d zm_186 0 [(0, .ref 2), (1, .int 0)] [] h (zz_after 5 Q (fun v h' => zz_J zp_P zt_tf zt_fd X (d + 1) zm_193 71 [(0, .ref 2), (1, .int x1), (2, .int x2), (3, .long x3), (5, .int x5), (6, .int x6)] (v.toList ++ []) h' Q))) : zz_J zp_P zt_tf zt_fd X (d + 1) zm_193 66 [(0, .ref 2), (1, .int x1), (2, .int x2), (3, .long x3), (5, .int x5), (6, .int x6)] [] h Q := by
  refine zz_J.n 67 rfl rfl rfl ?_
  refine zz_J.c 68 (.int 0) rfl rfl rfl rfl ?_
  refine zz_J.cv 71 (as := []) rfl rfl (hR.clO ko_2 (by decide) (by decide)) (by decide) (Nat.le_of_ble_eq_true rfl) (Nat.le_of_ble_eq_true rfl) rfl (Nat.le_of_ble_eq_true rfl) rfl ?_
  refine zz_J.mono (k hR) ?_
  intro o h' hE
  cases o with
  | inl v => exact zz_J.weak hE rfl ⟨rfl, rfl, rfl, rfl, rfl, rfl, trivial⟩
  | inr q => exact hE
theorem cb_193_71 {X : Nat → Option zz_C} {h : zz_H} {t : cS} {s : mS} {d : Nat} {Q : zz_O → zz_H → Prop} {x1 : Int32} {x2 : Int32} {x3 : Int64} {x5 : Int32} {x6 : Int32} (hR : kR h t s) (k : ∀ {h : zz_H}, kR h t s → zz_J zp_P zt_tf zt_fd X d zm_193 54 [(0, .ref 2), (1, .int x1), (2, .int x2), (3, .long x3), (5, .int x5), (6, .int (x6 + 1))] [] h Q) : zz_J zp_P zt_tf zt_fd X d zm_193 71 [(0, .ref 2), (1, .int x1), (2, .int x2), (3, .long x3), (5, .int x5), (6, .int x6)] [] h Q := by
  refine zz_J.n 74 rfl rfl rfl ?_
  refine zz_J.n 54 rfl rfl rfl ?_
  exact zz_J.weak (k hR) rfl ⟨rfl, rfl, rfl, rfl, rfl, rfl, trivial⟩
theorem cb_193_77 {X : Nat → Option zz_C} {h : zz_H} {t : cS} {s : mS} {d : Nat} {Q : zz_O → zz_H → Prop} {x1 : Int32} {x2 : Int32} {x3 : Int64} {x5 : Int32} (hR : kR h t s) (k : ∀ {h : zz_H}, kR h t s → zz_J zp_P zt_tf zt_fd X d zm_201 0 [(0, .ref 2), (1, .int 41)] [] h (zz_after 5 Q (fun v h' => zz_J zp_P zt_tf zt_fd X (d + 1) zm_193 83 [(0, .ref 2), (1, .int x1), (2, .int x2), (3, .long x3), (5, .int x5)] (v.toList ++ []) h' Q))) : zz_J zp_P zt_tf zt_fd X (d + 1) zm_193 77 [(0, .ref 2), (1, .int x1), (2, .int x2), (3, .long x3), (5, .int x5)] [] h Q := by
  refine zz_J.n 78 rfl rfl rfl ?_
  refine zz_J.c 80 (.int 41) rfl rfl rfl rfl ?_
  refine zz_J.cv 83 (as := []) rfl rfl (hR.clO ko_2 (by decide) (by decide)) (by decide) (Nat.le_of_ble_eq_true rfl) (Nat.le_of_ble_eq_true rfl) rfl (Nat.le_of_ble_eq_true rfl) rfl ?_
  refine zz_J.mono (k hR) ?_
  intro o h' hE
  cases o with
  | inl v => exact zz_J.weak hE rfl ⟨rfl, rfl, rfl, rfl, rfl, trivial⟩
  | inr q => exact hE
theorem cb_193_83 {X : Nat → Option zz_C} {h : zz_H} {t : cS} {s : mS} {d : Nat} {Q : zz_O → zz_H → Prop} {x1 : Int32} {x2 : Int32} {x3 : Int64} {x5 : Int32} (hR : kR h t s) {w0 : Nat} (e0 : (kP t 2 1) = some w0) (e1 : w0 = 12 ∨ w0 = 21) (k : ∀ {h : zz_H}, kR h t s → zz_J zp_P zt_tf zt_fd X d zm_209 0 [(0, .ref w0), (1, .int 25), (2, .int 0), (3, .int x2)] [] h (zz_after 6 Q (fun v h' => zz_J zp_P zt_tf zt_fd X (d + 1) zm_193 94 [(0, .ref 2), (1, .int x1), (2, .int x2), (3, .long x3), (5, .int x5)] (v.toList ++ []) h' Q))) : zz_J zp_P zt_tf zt_fd X (d + 1) zm_193 83 [(0, .ref 2), (1, .int x1), (2, .int x2), (3, .long x3), (5, .int x5)] [] h Q := by
  refine zz_J.n 84 rfl rfl rfl ?_
  refine zz_J.g 87 rfl (hR.gv (v := .ref w0) ko_2 (by decide) ((congrArg (fun q => some (zz_rv q)) e0).trans rfl)) rfl ?_
  refine zz_J.c 89 (.int 25) rfl rfl rfl rfl ?_
  refine zz_J.c 90 (.int 0) rfl rfl rfl rfl ?_
  refine zz_J.n 91 rfl rfl rfl ?_
  refine zz_J.cv 94 (as := []) rfl rfl (hR.clO (ko_P e1) (by decide) (by decide)) (by decide) (Nat.le_of_ble_eq_true rfl) (Nat.le_of_ble_eq_true rfl) rfl (Nat.le_of_ble_eq_true rfl) rfl ?_
  refine zz_J.mono (k hR) ?_
  intro o h' hE
  cases o with
  | inl v => exact zz_J.weak hE rfl ⟨rfl, rfl, rfl, rfl, rfl, trivial⟩
  | inr q => exact hE
theorem cb_193_94 {X : Nat → Option zz_C} {h : zz_H} {t : cS} {s : mS} {d : Nat} {Q : zz_O → zz_H → Prop} {x1 : Int32} {x2 : Int32} {x3 : Int64} {x5 : Int32} {y0 : Int32} (hR : kR h t s) {w0 : Nat} (e0 : (kP t 2 1) = some w0) (k1 : ¬ x1 = 1 → (∀ {h : zz_H}, kR h t s → zz_J zp_P zt_tf zt_fd X d zm_193 109 [(0, .ref 2), (1, .int x1), (2, .int x2), (3, .long x3), (5, .int x5)] [.ref w0] h Q)) (k2 : ¬ ¬ x1 = 1 → (∀ {h : zz_H}, kR h t s → zz_J zp_P zt_tf zt_fd X d zm_193 104 [(0, .ref 2), (1, .int x1), (2, .int x2), (3, .long x3), (5, .int x5)] [.ref w0] h Q)) : zz_J zp_P zt_tf zt_fd X d zm_193 94 [(0, .ref 2), (1, .int x1), (2, .int x2), (3, .long x3), (5, .int x5)] [.int y0] h Q := by
  refine zz_J.n 95 rfl rfl rfl ?_
  refine zz_J.n 96 rfl rfl rfl ?_
  refine zz_J.g 99 rfl (hR.gv (v := .ref w0) ko_2 (by decide) ((congrArg (fun q => some (zz_rv q)) e0).trans rfl)) rfl ?_
  refine zz_J.n 100 rfl rfl rfl ?_
  refine zz_J.c 101 (.int 1) rfl rfl rfl rfl ?_
  refine zz_J.b2 109 104 (A := ¬ x1 = 1) rfl (zz_cond_ne _ _) (by decide) rfl rfl (fun c => ?_) (fun c => ?_)
  · exact zz_J.weak (k1 c hR) rfl ⟨rfl, rfl, rfl, rfl, rfl, trivial⟩
  · exact zz_J.weak (k2 c hR) rfl ⟨rfl, rfl, rfl, rfl, rfl, trivial⟩
theorem cb_193_104 {X : Nat → Option zz_C} {h : zz_H} {t : cS} {s : mS} {d : Nat} {Q : zz_O → zz_H → Prop} {x1 : Int32} {x2 : Int32} {x3 : Int64} {x5 : Int32} {y0 : Nat} (hR : kR h t s) (k : ∀ {h : zz_H}, kR h t s → zz_J zp_P zt_tf zt_fd X d zm_193 111 [(0, .ref 2), (1, .int x1), (2, .int x2), (3, .long x3), (5, .int x5)] [.int 13, .ref y0] h Q) : zz_J zp_P zt_tf zt_fd X d zm_193 104 [(0, .ref 2), (1, .int x1), (2, .int x2), (3, .long x3), (5, .int x5)] [.ref y0] h Q := by
  refine zz_J.c 106 (.int 13) rfl rfl rfl rfl ?_
  refine zz_J.n 111 rfl rfl rfl ?_
  exact zz_J.weak (k hR) rfl ⟨rfl, rfl, rfl, rfl, rfl, trivial⟩
theorem cb_193_109 {X : Nat → Option zz_C} {h : zz_H} {t : cS} {s : mS} {d : Nat} {Q : zz_O → zz_H → Prop} {x1 : Int32} {x2 : Int32} {x3 : Int64} {x5 : Int32} {y0 : Nat} (hR : kR h t s) (k : ∀ {h : zz_H}, kR h t s → zz_J zp_P zt_tf zt_fd X d zm_193 111 [(0, .ref 2), (1, .int x1), (2, .int x2), (3, .long x3), (5, .int x5)] [.int 15, .ref y0] h Q) : zz_J zp_P zt_tf zt_fd X d zm_193 109 [(0, .ref 2), (1, .int x1), (2, .int x2), (3, .long x3), (5, .int x5)] [.ref y0] h Q := by
  refine zz_J.c 111 (.int 15) rfl rfl rfl rfl ?_
  exact zz_J.weak (k hR) rfl ⟨rfl, rfl, rfl, rfl, rfl, trivial⟩
theorem cb_193_111 {X : Nat → Option zz_C} {h : zz_H} {t : cS} {s : mS} {d : Nat} {Q : zz_O → zz_H → Prop} {x1 : Int32} {x2 : Int32} {x3 : Int64} {x5 : Int32} {y0 : Nat} {y1 : Int32} (hR : kR h t s) (e0 : y0 = 12 ∨ y0 = 21) (k : ∀ {h : zz_H}, kR h t s → zz_J zp_P zt_tf zt_fd X d zm_209 0 [(0, .ref y0), (1, .int y1), (2, .int 0), (3, .int x2)] [] h (zz_after 6 Q (fun v h' => zz_J zp_P zt_tf zt_fd X (d + 1) zm_193 116 [(0, .ref 2), (1, .int x1), (2, .int x2), (3, .long x3), (5, .int x5)] (v.toList ++ []) h' Q))) : zz_J zp_P zt_tf zt_fd X (d + 1) zm_193 111 [(0, .ref 2), (1, .int x1), (2, .int x2), (3, .long x3), (5, .int x5)] [.int y1, .ref y0] h Q := by
  refine zz_J.c 112 (.int 0) rfl rfl rfl rfl ?_
  refine zz_J.n 113 rfl rfl rfl ?_
  refine zz_J.cv 116 (as := []) rfl rfl (hR.clO (ko_P e0) (by decide) (by decide)) (by decide) (Nat.le_of_ble_eq_true rfl) (Nat.le_of_ble_eq_true rfl) rfl (Nat.le_of_ble_eq_true rfl) rfl ?_
  refine zz_J.mono (k hR) ?_
  intro o h' hE
  cases o with
  | inl v => exact zz_J.weak hE rfl ⟨rfl, rfl, rfl, rfl, rfl, trivial⟩
  | inr q => exact hE
theorem cb_193_116 {X : Nat → Option zz_C} {h : zz_H} {t : cS} {s : mS} {d : Nat} {Q : zz_O → zz_H → Prop} {x1 : Int32} {x2 : Int32} {x3 : Int64} {x5 : Int32} {y0 : Int32} (hR : kR h t s) (k : ∀ {h : zz_H}, kR h t s → zz_J zp_P zt_tf zt_fd X d zm_198 0 [(0, .ref 2), (1, .int y0), (2, .long x3), (4, .int x5), (5, .int x1)] [] h (zz_after 5 Q (fun v h' => zz_J zp_P zt_tf zt_fd X (d + 1) zm_193 128 [(0, .ref 2), (1, .int x1), (2, .int x2), (6, .int y0)] (v.toList ++ []) h' Q))) : zz_J zp_P zt_tf zt_fd X (d + 1) zm_193 116 [(0, .ref 2), (1, .int x1), (2, .int x2), (3, .long x3), (5, .int x5)] [.int y0] h Q := by
  refine zz_J.n 118 rfl rfl rfl ?_
  refine zz_J.n 119 rfl rfl rfl ?_
  refine zz_J.n 121 rfl rfl rfl ?_
  refine zz_J.n 122 rfl rfl rfl ?_
  refine zz_J.n 124 rfl rfl rfl ?_
  refine zz_J.n 125 rfl rfl rfl ?_
  refine zz_J.cv 128 (as := []) rfl rfl (hR.clO ko_2 (by decide) (by decide)) (by decide) (Nat.le_of_ble_eq_true rfl) (Nat.le_of_ble_eq_true rfl) rfl (Nat.le_of_ble_eq_true rfl) rfl ?_
  refine zz_J.mono (k hR) ?_
  intro o h' hE
  cases o with
  | inl v => exact zz_J.weak hE rfl ⟨rfl, rfl, rfl, rfl, trivial⟩
  | inr q => exact hE
theorem cb_193_128 {X : Nat → Option zz_C} {h : zz_H} {t : cS} {s : mS} {d : Nat} {Q : zz_O → zz_H → Prop} {x1 : Int32} {x2 : Int32} {x6 : Int32} (hR : kR h t s) {w0 : Nat} (e0 : (kP t 2 1) = some w0) (k1 : ¬ x1 = 1 → (∀ {h : zz_H}, kR h t s → zz_J zp_P zt_tf zt_fd X d zm_193 142 [(2, .int x2), (6, .int x6)] [.ref w0] h Q)) (k2 : ¬ ¬ x1 = 1 → (∀ {h : zz_H}, kR h t s → zz_J zp_P zt_tf zt_fd X d zm_193 137 [(2, .int x2), (6, .int x6)] [.ref w0] h Q)) : zz_J zp_P zt_tf zt_fd X d zm_193 128 [(0, .ref 2), (1, .int x1), (2, .int x2), (6, .int x6)] [] h Q := by
  refine zz_J.n 129 rfl rfl rfl ?_
  refine zz_J.g 132 rfl (hR.gv (v := .ref w0) ko_2 (by decide) ((congrArg (fun q => some (zz_rv q)) e0).trans rfl)) rfl ?_
  refine zz_J.n 133 rfl rfl rfl ?_
  refine zz_J.c 134 (.int 1) rfl rfl rfl rfl ?_
  refine zz_J.b2 142 137 (A := ¬ x1 = 1) rfl (zz_cond_ne _ _) (by decide) rfl rfl (fun c => ?_) (fun c => ?_)
  · exact zz_J.weak (k1 c hR) rfl ⟨rfl, rfl, trivial⟩
  · exact zz_J.weak (k2 c hR) rfl ⟨rfl, rfl, trivial⟩
theorem cb_193_137 {X : Nat → Option zz_C} {h : zz_H} {t : cS} {s : mS} {d : Nat} {Q : zz_O → zz_H → Prop} {x2 : Int32} {x6 : Int32} {y0 : Nat} (hR : kR h t s) (k : ∀ {h : zz_H}, kR h t s → zz_J zp_P zt_tf zt_fd X d zm_193 144 [(2, .int x2), (6, .int x6)] [.int 14, .ref y0] h Q) : zz_J zp_P zt_tf zt_fd X d zm_193 137 [(2, .int x2), (6, .int x6)] [.ref y0] h Q := by
  refine zz_J.c 139 (.int 14) rfl rfl rfl rfl ?_
  refine zz_J.n 144 rfl rfl rfl ?_
  exact zz_J.weak (k hR) rfl ⟨rfl, rfl, trivial⟩
theorem cb_193_142 {X : Nat → Option zz_C} {h : zz_H} {t : cS} {s : mS} {d : Nat} {Q : zz_O → zz_H → Prop} {x2 : Int32} {x6 : Int32} {y0 : Nat} (hR : kR h t s) (k : ∀ {h : zz_H}, kR h t s → zz_J zp_P zt_tf zt_fd X d zm_193 144 [(2, .int x2), (6, .int x6)] [.int 16, .ref y0] h Q) : zz_J zp_P zt_tf zt_fd X d zm_193 142 [(2, .int x2), (6, .int x6)] [.ref y0] h Q := by
  refine zz_J.c 144 (.int 16) rfl rfl rfl rfl ?_
  exact zz_J.weak (k hR) rfl ⟨rfl, rfl, trivial⟩
theorem cb_193_144 {X : Nat → Option zz_C} {h : zz_H} {t : cS} {s : mS} {d : Nat} {Q : zz_O → zz_H → Prop} {x2 : Int32} {x6 : Int32} {y0 : Nat} {y1 : Int32} (hR : kR h t s) (e0 : y0 = 12 ∨ y0 = 21) (k : ∀ {h : zz_H}, kR h t s → zz_J zp_P zt_tf zt_fd X d zm_209 0 [(0, .ref y0), (1, .int y1), (2, .int x6), (3, .int x2)] [] h (zz_after 6 Q (fun v h' => zz_J zp_P zt_tf zt_fd X (d + 1) zm_193 150 [] (v.toList ++ []) h' Q))) : zz_J zp_P zt_tf zt_fd X (d + 1) zm_193 144 [(2, .int x2), (6, .int x6)] [.int y1, .ref y0] h Q := by
  refine zz_J.n 146 rfl rfl rfl ?_
  refine zz_J.n 147 rfl rfl rfl ?_
  refine zz_J.cv 150 (as := []) rfl rfl (hR.clO (ko_P e0) (by decide) (by decide)) (by decide) (Nat.le_of_ble_eq_true rfl) (Nat.le_of_ble_eq_true rfl) rfl (Nat.le_of_ble_eq_true rfl) rfl ?_
  refine zz_J.mono (k hR) ?_
  intro o h' hE
  cases o with
  | inl v => exact zz_J.weak hE rfl trivial
  | inr q => exact hE
theorem cb_193_150 {X : Nat → Option zz_C} {h : zz_H} {t : cS} {s : mS} {d : Nat} {Q : zz_O → zz_H → Prop} {y0 : Int32} (hR : kR h t s) (k : ∀ {h : zz_H}, kR h t s → Q (.inl none) h) : zz_J zp_P zt_tf zt_fd X d zm_193 150 [] [.int y0] h Q := by
  refine zz_J.n 151 rfl rfl rfl ?_
  refine zz_J.ret rfl rfl rfl ?_
  exact k hR
def cf_193_150 (N : Nat) (X : Nat → Option zz_C) (rk : Nat → List Value → cS → kO) (y0 : Int32) (t : cS) : kO := some (t, .inl none)
theorem cr_193_150 {X : Nat → Option zz_C} {s : mS} {N : Nat} {rk : Nat → List Value → cS → kO} {D : Nat} (hrk : cK0 X s D rk) (hB : 10 ≤ D) {d : Nat} (hd : D + 1 ≤ d) {Q : zz_O → zz_H → Prop} {y0 : Int32} {h : zz_H} {t t' : cS} {o : kY} (hR : kR h t s) (hf : cf_193_150 N X rk y0 t = some (t', o)) (k : (∀ h', kR h' t' s → kE o Q h')) : zz_J zp_P zt_tf zt_fd X d zm_193 150 [] [.int y0] h Q := by
  unfold cf_193_150 at hf
  cases hf
  exact cb_193_150 hR  (fun {h} hR => k h hR)
def cf_193_144 (N : Nat) (X : Nat → Option zz_C) (rk : Nat → List Value → cS → kO) (x2 : Int32) (x6 : Int32) (y0 : Nat) (y1 : Int32) (t : cS) : kO := if y0 = 12 ∨ y0 = 21 then (ko_call 6 (cf_209 N X y0 y1 x6 x2 t) (fun g1 v1 => co_i v1 (fun y => cf_193_150 N X rk y g1))) else none
theorem cr_193_144 {X : Nat → Option zz_C} {s : mS} {N : Nat} {rk : Nat → List Value → cS → kO} {D : Nat} (hrk : cK0 X s D rk) (hB : 10 ≤ D) {d : Nat} (hd : D + 1 ≤ d) {Q : zz_O → zz_H → Prop} {x2 : Int32} {x6 : Int32} {y0 : Nat} {y1 : Int32} {h : zz_H} {t t' : cS} {o : kY} (hR : kR h t s) (hf : cf_193_144 N X rk x2 x6 y0 y1 t = some (t', o)) (k : (∀ h', kR h' t' s → kE o Q h')) : zz_J zp_P zt_tf zt_fd X d zm_193 144 [(2, .int x2), (6, .int x6)] [.int y1, .ref y0] h Q := by
  unfold cf_193_144 at hf
  obtain ⟨e0, hf⟩ := ko_if hf
  obtain ⟨d', rfl⟩ : ∃ d', d = d' + 1 := ⟨d - 1, by omega⟩
  refine cb_193_144 hR e0 (fun {h} hR => ?_)
  rcases ko_call_ok hf with ⟨g1, v1, er, hf⟩ | ⟨g1, er, hq⟩
  · obtain ⟨y, hv, hf2⟩ := co_i_ok hf
    clear hf
    have hf := hf2
    clear hf2
    subst hv
    refine cr_209 (by omega) hR er (fun h hR => ?_)
    exact cr_193_150 hrk hB hd hR hf k
  · refine cr_209 (by omega) hR er (fun h hR => ?_)
    exact ko_thrown hq hR k
def cf_193_142 (N : Nat) (X : Nat → Option zz_C) (rk : Nat → List Value → cS → kO) (x2 : Int32) (x6 : Int32) (y0 : Nat) (t : cS) : kO := cf_193_144 N X rk x2 x6 y0 16 t
theorem cr_193_142 {X : Nat → Option zz_C} {s : mS} {N : Nat} {rk : Nat → List Value → cS → kO} {D : Nat} (hrk : cK0 X s D rk) (hB : 10 ≤ D) {d : Nat} (hd : D + 1 ≤ d) {Q : zz_O → zz_H → Prop} {x2 : Int32} {x6 : Int32} {y0 : Nat} {h : zz_H} {t t' : cS} {o : kY} (hR : kR h t s) (hf : cf_193_142 N X rk x2 x6 y0 t = some (t', o)) (k : (∀ h', kR h' t' s → kE o Q h')) : zz_J zp_P zt_tf zt_fd X d zm_193 142 [(2, .int x2), (6, .int x6)] [.ref y0] h Q := by
  unfold cf_193_142 at hf
  exact cb_193_142 hR  (fun hR => cr_193_144 hrk hB hd hR hf k)
def cf_193_137 (N : Nat) (X : Nat → Option zz_C) (rk : Nat → List Value → cS → kO) (x2 : Int32) (x6 : Int32) (y0 : Nat) (t : cS) : kO := cf_193_144 N X rk x2 x6 y0 14 t
theorem cr_193_137 {X : Nat → Option zz_C} {s : mS} {N : Nat} {rk : Nat → List Value → cS → kO} {D : Nat} (hrk : cK0 X s D rk) (hB : 10 ≤ D) {d : Nat} (hd : D + 1 ≤ d) {Q : zz_O → zz_H → Prop} {x2 : Int32} {x6 : Int32} {y0 : Nat} {h : zz_H} {t t' : cS} {o : kY} (hR : kR h t s) (hf : cf_193_137 N X rk x2 x6 y0 t = some (t', o)) (k : (∀ h', kR h' t' s → kE o Q h')) : zz_J zp_P zt_tf zt_fd X d zm_193 137 [(2, .int x2), (6, .int x6)] [.ref y0] h Q := by
  unfold cf_193_137 at hf
  exact cb_193_137 hR  (fun hR => cr_193_144 hrk hB hd hR hf k)
def cf_193_128 (N : Nat) (X : Nat → Option zz_C) (rk : Nat → List Value → cS → kO) (x1 : Int32) (x2 : Int32) (x6 : Int32) (t : cS) : kO := co_b ((kP t 2 1)) (fun w0 => if ¬ x1 = 1 then cf_193_142 N X rk x2 x6 w0 t else cf_193_137 N X rk x2 x6 w0 t)
theorem cr_193_128 {X : Nat → Option zz_C} {s : mS} {N : Nat} {rk : Nat → List Value → cS → kO} {D : Nat} (hrk : cK0 X s D rk) (hB : 10 ≤ D) {d : Nat} (hd : D + 1 ≤ d) {Q : zz_O → zz_H → Prop} {x1 : Int32} {x2 : Int32} {x6 : Int32} {h : zz_H} {t t' : cS} {o : kY} (hR : kR h t s) (hf : cf_193_128 N X rk x1 x2 x6 t = some (t', o)) (k : (∀ h', kR h' t' s → kE o Q h')) : zz_J zp_P zt_tf zt_fd X d zm_193 128 [(0, .ref 2), (1, .int x1), (2, .int x2), (6, .int x6)] [] h Q := by
  unfold cf_193_128 at hf
  obtain ⟨w0, e0, hf⟩ := co_b_ok hf
  refine cb_193_128 hR e0 (fun c {h} hR => ?_) (fun c {h} hR => ?_)
  · rw [if_pos c] at hf
    exact cr_193_142 hrk hB hd hR hf k
  · rw [if_neg c] at hf
    exact cr_193_137 hrk hB hd hR hf k
def cf_193_116 (N : Nat) (X : Nat → Option zz_C) (rk : Nat → List Value → cS → kO) (x1 : Int32) (x2 : Int32) (x3 : Int64) (x5 : Int32) (y0 : Int32) (t : cS) : kO := ko_call 5 (cf_198 N X y0 x3 x5 x1 t) (fun g1 v1 => co_v v1 (cf_193_128 N X rk x1 x2 y0 g1))
theorem cr_193_116 {X : Nat → Option zz_C} {s : mS} {N : Nat} {rk : Nat → List Value → cS → kO} {D : Nat} (hrk : cK0 X s D rk) (hB : 10 ≤ D) {d : Nat} (hd : D + 1 ≤ d) {Q : zz_O → zz_H → Prop} {x1 : Int32} {x2 : Int32} {x3 : Int64} {x5 : Int32} {y0 : Int32} {h : zz_H} {t t' : cS} {o : kY} (hR : kR h t s) (hf : cf_193_116 N X rk x1 x2 x3 x5 y0 t = some (t', o)) (k : (∀ h', kR h' t' s → kE o Q h')) : zz_J zp_P zt_tf zt_fd X d zm_193 116 [(0, .ref 2), (1, .int x1), (2, .int x2), (3, .long x3), (5, .int x5)] [.int y0] h Q := by
  unfold cf_193_116 at hf
  obtain ⟨d', rfl⟩ : ∃ d', d = d' + 1 := ⟨d - 1, by omega⟩
  refine cb_193_116 hR  (fun {h} hR => ?_)
  rcases ko_call_ok hf with ⟨g1, v1, er, hf⟩ | ⟨g1, er, hq⟩
  · obtain ⟨hv, hf2⟩ := co_v_ok hf
    clear hf
    have hf := hf2
    clear hf2
    subst hv
    refine cr_198 (by omega) hR er (fun h hR => ?_)
    exact cr_193_128 hrk hB hd hR hf k
  · refine cr_198 (by omega) hR er (fun h hR => ?_)
    exact ko_thrown hq hR k
def cf_193_111 (N : Nat) (X : Nat → Option zz_C) (rk : Nat → List Value → cS → kO) (x1 : Int32) (x2 : Int32) (x3 : Int64) (x5 : Int32) (y0 : Nat) (y1 : Int32) (t : cS) : kO := if y0 = 12 ∨ y0 = 21 then (ko_call 6 (cf_209 N X y0 y1 0 x2 t) (fun g1 v1 => co_i v1 (fun y => cf_193_116 N X rk x1 x2 x3 x5 y g1))) else none
theorem cr_193_111 {X : Nat → Option zz_C} {s : mS} {N : Nat} {rk : Nat → List Value → cS → kO} {D : Nat} (hrk : cK0 X s D rk) (hB : 10 ≤ D) {d : Nat} (hd : D + 1 ≤ d) {Q : zz_O → zz_H → Prop} {x1 : Int32} {x2 : Int32} {x3 : Int64} {x5 : Int32} {y0 : Nat} {y1 : Int32} {h : zz_H} {t t' : cS} {o : kY} (hR : kR h t s) (hf : cf_193_111 N X rk x1 x2 x3 x5 y0 y1 t = some (t', o)) (k : (∀ h', kR h' t' s → kE o Q h')) : zz_J zp_P zt_tf zt_fd X d zm_193 111 [(0, .ref 2), (1, .int x1), (2, .int x2), (3, .long x3), (5, .int x5)] [.int y1, .ref y0] h Q := by
  unfold cf_193_111 at hf
  obtain ⟨e0, hf⟩ := ko_if hf
  obtain ⟨d', rfl⟩ : ∃ d', d = d' + 1 := ⟨d - 1, by omega⟩
  refine cb_193_111 hR e0 (fun {h} hR => ?_)
  rcases ko_call_ok hf with ⟨g1, v1, er, hf⟩ | ⟨g1, er, hq⟩
  · obtain ⟨y, hv, hf2⟩ := co_i_ok hf
    clear hf
    have hf := hf2
    clear hf2
    subst hv
    refine cr_209 (by omega) hR er (fun h hR => ?_)
    exact cr_193_116 hrk hB hd hR hf k
  · refine cr_209 (by omega) hR er (fun h hR => ?_)
    exact ko_thrown hq hR k
def cf_193_109 (N : Nat) (X : Nat → Option zz_C) (rk : Nat → List Value → cS → kO) (x1 : Int32) (x2 : Int32) (x3 : Int64) (x5 : Int32) (y0 : Nat) (t : cS) : kO := cf_193_111 N X rk x1 x2 x3 x5 y0 15 t
theorem cr_193_109 {X : Nat → Option zz_C} {s : mS} {N : Nat} {rk : Nat → List Value → cS → kO} {D : Nat} (hrk : cK0 X s D rk) (hB : 10 ≤ D) {d : Nat} (hd : D + 1 ≤ d) {Q : zz_O → zz_H → Prop} {x1 : Int32} {x2 : Int32} {x3 : Int64} {x5 : Int32} {y0 : Nat} {h : zz_H} {t t' : cS} {o : kY} (hR : kR h t s) (hf : cf_193_109 N X rk x1 x2 x3 x5 y0 t = some (t', o)) (k : (∀ h', kR h' t' s → kE o Q h')) : zz_J zp_P zt_tf zt_fd X d zm_193 109 [(0, .ref 2), (1, .int x1), (2, .int x2), (3, .long x3), (5, .int x5)] [.ref y0] h Q := by
  unfold cf_193_109 at hf
  exact cb_193_109 hR  (fun hR => cr_193_111 hrk hB hd hR hf k)
def cf_193_104 (N : Nat) (X : Nat → Option zz_C) (rk : Nat → List Value → cS → kO) (x1 : Int32) (x2 : Int32) (x3 : Int64) (x5 : Int32) (y0 : Nat) (t : cS) : kO := cf_193_111 N X rk x1 x2 x3 x5 y0 13 t
theorem cr_193_104 {X : Nat → Option zz_C} {s : mS} {N : Nat} {rk : Nat → List Value → cS → kO} {D : Nat} (hrk : cK0 X s D rk) (hB : 10 ≤ D) {d : Nat} (hd : D + 1 ≤ d) {Q : zz_O → zz_H → Prop} {x1 : Int32} {x2 : Int32} {x3 : Int64} {x5 : Int32} {y0 : Nat} {h : zz_H} {t t' : cS} {o : kY} (hR : kR h t s) (hf : cf_193_104 N X rk x1 x2 x3 x5 y0 t = some (t', o)) (k : (∀ h', kR h' t' s → kE o Q h')) : zz_J zp_P zt_tf zt_fd X d zm_193 104 [(0, .ref 2), (1, .int x1), (2, .int x2), (3, .long x3), (5, .int x5)] [.ref y0] h Q := by
  unfold cf_193_104 at hf
  exact cb_193_104 hR  (fun hR => cr_193_111 hrk hB hd hR hf k)
def cf_193_94 (N : Nat) (X : Nat → Option zz_C) (rk : Nat → List Value → cS → kO) (x1 : Int32) (x2 : Int32) (x3 : Int64) (x5 : Int32) (y0 : Int32) (t : cS) : kO := co_b ((kP t 2 1)) (fun w0 => if ¬ x1 = 1 then cf_193_109 N X rk x1 x2 x3 x5 w0 t else cf_193_104 N X rk x1 x2 x3 x5 w0 t)
theorem cr_193_94 {X : Nat → Option zz_C} {s : mS} {N : Nat} {rk : Nat → List Value → cS → kO} {D : Nat} (hrk : cK0 X s D rk) (hB : 10 ≤ D) {d : Nat} (hd : D + 1 ≤ d) {Q : zz_O → zz_H → Prop} {x1 : Int32} {x2 : Int32} {x3 : Int64} {x5 : Int32} {y0 : Int32} {h : zz_H} {t t' : cS} {o : kY} (hR : kR h t s) (hf : cf_193_94 N X rk x1 x2 x3 x5 y0 t = some (t', o)) (k : (∀ h', kR h' t' s → kE o Q h')) : zz_J zp_P zt_tf zt_fd X d zm_193 94 [(0, .ref 2), (1, .int x1), (2, .int x2), (3, .long x3), (5, .int x5)] [.int y0] h Q := by
  unfold cf_193_94 at hf
  obtain ⟨w0, e0, hf⟩ := co_b_ok hf
  refine cb_193_94 hR e0 (fun c {h} hR => ?_) (fun c {h} hR => ?_)
  · rw [if_pos c] at hf
    exact cr_193_109 hrk hB hd hR hf k
  · rw [if_neg c] at hf
    exact cr_193_104 hrk hB hd hR hf k
def cf_193_83 (N : Nat) (X : Nat → Option zz_C) (rk : Nat → List Value → cS → kO) (x1 : Int32) (x2 : Int32) (x3 : Int64) (x5 : Int32) (t : cS) : kO := co_b ((kP t 2 1)) (fun w0 => if w0 = 12 ∨ w0 = 21 then (ko_call 6 (cf_209 N X w0 25 0 x2 t) (fun g1 v1 => co_i v1 (fun y => cf_193_94 N X rk x1 x2 x3 x5 y g1))) else none)
theorem cr_193_83 {X : Nat → Option zz_C} {s : mS} {N : Nat} {rk : Nat → List Value → cS → kO} {D : Nat} (hrk : cK0 X s D rk) (hB : 10 ≤ D) {d : Nat} (hd : D + 1 ≤ d) {Q : zz_O → zz_H → Prop} {x1 : Int32} {x2 : Int32} {x3 : Int64} {x5 : Int32} {h : zz_H} {t t' : cS} {o : kY} (hR : kR h t s) (hf : cf_193_83 N X rk x1 x2 x3 x5 t = some (t', o)) (k : (∀ h', kR h' t' s → kE o Q h')) : zz_J zp_P zt_tf zt_fd X d zm_193 83 [(0, .ref 2), (1, .int x1), (2, .int x2), (3, .long x3), (5, .int x5)] [] h Q := by
  unfold cf_193_83 at hf
  obtain ⟨w0, e0, hf⟩ := co_b_ok hf
  obtain ⟨e1, hf⟩ := ko_if hf
  obtain ⟨d', rfl⟩ : ∃ d', d = d' + 1 := ⟨d - 1, by omega⟩
  refine cb_193_83 hR e0 e1 (fun {h} hR => ?_)
  rcases ko_call_ok hf with ⟨g1, v1, er, hf⟩ | ⟨g1, er, hq⟩
  · obtain ⟨y, hv, hf2⟩ := co_i_ok hf
    clear hf
    have hf := hf2
    clear hf2
    subst hv
    refine cr_209 (by omega) hR er (fun h hR => ?_)
    exact cr_193_94 hrk hB hd hR hf k
  · refine cr_209 (by omega) hR er (fun h hR => ?_)
    exact ko_thrown hq hR k
def cf_193_77 (N : Nat) (X : Nat → Option zz_C) (rk : Nat → List Value → cS → kO) (x1 : Int32) (x2 : Int32) (x3 : Int64) (x5 : Int32) (t : cS) : kO := ko_call 5 (cf_201 N X 41 t) (fun g1 v1 => co_v v1 (cf_193_83 N X rk x1 x2 x3 x5 g1))
theorem cr_193_77 {X : Nat → Option zz_C} {s : mS} {N : Nat} {rk : Nat → List Value → cS → kO} {D : Nat} (hrk : cK0 X s D rk) (hB : 10 ≤ D) {d : Nat} (hd : D + 1 ≤ d) {Q : zz_O → zz_H → Prop} {x1 : Int32} {x2 : Int32} {x3 : Int64} {x5 : Int32} {h : zz_H} {t t' : cS} {o : kY} (hR : kR h t s) (hf : cf_193_77 N X rk x1 x2 x3 x5 t = some (t', o)) (k : (∀ h', kR h' t' s → kE o Q h')) : zz_J zp_P zt_tf zt_fd X d zm_193 77 [(0, .ref 2), (1, .int x1), (2, .int x2), (3, .long x3), (5, .int x5)] [] h Q := by
  unfold cf_193_77 at hf
  obtain ⟨d', rfl⟩ : ∃ d', d = d' + 1 := ⟨d - 1, by omega⟩
  refine cb_193_77 hR  (fun {h} hR => ?_)
  rcases ko_call_ok hf with ⟨g1, v1, er, hf⟩ | ⟨g1, er, hq⟩
  · obtain ⟨hv, hf2⟩ := co_v_ok hf
    clear hf
    have hf := hf2
    clear hf2
    subst hv
    refine cr_201 (by omega) hR er (fun h hR => ?_)
    exact cr_193_83 hrk hB hd hR hf k
  · refine cr_201 (by omega) hR er (fun h hR => ?_)
    exact ko_thrown hq hR k
def cf_193_71 (N : Nat) (X : Nat → Option zz_C) (rk : Nat → List Value → cS → kO) (rc : Nat → Int32 → Int32 → Int64 → Int32 → Int32 → cS → kO) (x1 : Int32) (x2 : Int32) (x3 : Int64) (x5 : Int32) (x6 : Int32) (t : cS) : kO := rc 0 x1 x2 x3 x5 (x6 + 1) t
theorem cr_193_71 {X : Nat → Option zz_C} {s : mS} {N : Nat} {rk : Nat → List Value → cS → kO} {D : Nat} (hrk : cK0 X s D rk) (hB : 10 ≤ D) {d : Nat} (hd : D + 1 ≤ d) {rc : Nat → Int32 → Int32 → Int64 → Int32 → Int32 → cS → kO} (hrc0 : ∀ {Q : zz_O → zz_H → Prop} {x1 : Int32} {x2 : Int32} {x3 : Int64} {x5 : Int32} {x6 : Int32} {h : zz_H} {t t' : cS} {o : kY}, kR h t s → rc 0 x1 x2 x3 x5 x6 t = some (t', o) → (∀ h', kR h' t' s → kE o Q h') → zz_J zp_P zt_tf zt_fd X d zm_193 54 [(0, .ref 2), (1, .int x1), (2, .int x2), (3, .long x3), (5, .int x5), (6, .int x6)] [] h Q) {Q : zz_O → zz_H → Prop} {x1 : Int32} {x2 : Int32} {x3 : Int64} {x5 : Int32} {x6 : Int32} {h : zz_H} {t t' : cS} {o : kY} (hR : kR h t s) (hf : cf_193_71 N X rk rc x1 x2 x3 x5 x6 t = some (t', o)) (k : (∀ h', kR h' t' s → kE o Q h')) : zz_J zp_P zt_tf zt_fd X d zm_193 71 [(0, .ref 2), (1, .int x1), (2, .int x2), (3, .long x3), (5, .int x5), (6, .int x6)] [] h Q := by
  unfold cf_193_71 at hf
  exact cb_193_71 hR  (fun hR => hrc0 hR hf k)
def cf_193_66 (N : Nat) (X : Nat → Option zz_C) (rk : Nat → List Value → cS → kO) (rc : Nat → Int32 → Int32 → Int64 → Int32 → Int32 → cS → kO) (x1 : Int32) (x2 : Int32) (x3 : Int64) (x5 : Int32) (x6 : Int32) (t : cS) : kO := ko_call 5 (rk 186 [.int 0] t) (fun g1 v1 => co_v v1 (cf_193_71 N X rk rc x1 x2 x3 x5 x6 g1))
theorem cr_193_66 {X : Nat → Option zz_C} {s : mS} {N : Nat} {rk : Nat → List Value → cS → kO} {D : Nat} (hrk : cK0 X s D rk) (hB : 10 ≤ D) {d : Nat} (hd : D + 1 ≤ d) {rc : Nat → Int32 → Int32 → Int64 → Int32 → Int32 → cS → kO} (hrc0 : ∀ {Q : zz_O → zz_H → Prop} {x1 : Int32} {x2 : Int32} {x3 : Int64} {x5 : Int32} {x6 : Int32} {h : zz_H} {t t' : cS} {o : kY}, kR h t s → rc 0 x1 x2 x3 x5 x6 t = some (t', o) → (∀ h', kR h' t' s → kE o Q h') → zz_J zp_P zt_tf zt_fd X d zm_193 54 [(0, .ref 2), (1, .int x1), (2, .int x2), (3, .long x3), (5, .int x5), (6, .int x6)] [] h Q) {Q : zz_O → zz_H → Prop} {x1 : Int32} {x2 : Int32} {x3 : Int64} {x5 : Int32} {x6 : Int32} {h : zz_H} {t t' : cS} {o : kY} (hR : kR h t s) (hf : cf_193_66 N X rk rc x1 x2 x3 x5 x6 t = some (t', o)) (k : (∀ h', kR h' t' s → kE o Q h')) : zz_J zp_P zt_tf zt_fd X d zm_193 66 [(0, .ref 2), (1, .int x1), (2, .int x2), (3, .long x3), (5, .int x5), (6, .int x6)] [] h Q := by
  unfold cf_193_66 at hf
  obtain ⟨d', rfl⟩ : ∃ d', d = d' + 1 := ⟨d - 1, by omega⟩
  refine cb_193_66 hR  (fun {h} hR => ?_)
  rcases ko_call_ok hf with ⟨g1, v1, er, hf⟩ | ⟨g1, er, hq⟩
  · obtain ⟨hv, hf2⟩ := co_v_ok hf
    clear hf
    have hf := hf2
    clear hf2
    subst hv
    refine hrk.1 (by omega) hR er (fun h hR => ?_)
    exact cr_193_71 hrk hB hd hrc0 hR hf k
  · refine hrk.1 (by omega) hR er (fun h hR => ?_)
    exact ko_thrown hq hR k
def cf_193_60 (N : Nat) (X : Nat → Option zz_C) (rk : Nat → List Value → cS → kO) (rc : Nat → Int32 → Int32 → Int64 → Int32 → Int32 → cS → kO) (x1 : Int32) (x2 : Int32) (x3 : Int64) (x5 : Int32) (x6 : Int32) (t : cS) : kO := ko_call 5 (cf_201 N X 44 t) (fun g1 v1 => co_v v1 (cf_193_66 N X rk rc x1 x2 x3 x5 x6 g1))
theorem cr_193_60 {X : Nat → Option zz_C} {s : mS} {N : Nat} {rk : Nat → List Value → cS → kO} {D : Nat} (hrk : cK0 X s D rk) (hB : 10 ≤ D) {d : Nat} (hd : D + 1 ≤ d) {rc : Nat → Int32 → Int32 → Int64 → Int32 → Int32 → cS → kO} (hrc0 : ∀ {Q : zz_O → zz_H → Prop} {x1 : Int32} {x2 : Int32} {x3 : Int64} {x5 : Int32} {x6 : Int32} {h : zz_H} {t t' : cS} {o : kY}, kR h t s → rc 0 x1 x2 x3 x5 x6 t = some (t', o) → (∀ h', kR h' t' s → kE o Q h') → zz_J zp_P zt_tf zt_fd X d zm_193 54 [(0, .ref 2), (1, .int x1), (2, .int x2), (3, .long x3), (5, .int x5), (6, .int x6)] [] h Q) {Q : zz_O → zz_H → Prop} {x1 : Int32} {x2 : Int32} {x3 : Int64} {x5 : Int32} {x6 : Int32} {h : zz_H} {t t' : cS} {o : kY} (hR : kR h t s) (hf : cf_193_60 N X rk rc x1 x2 x3 x5 x6 t = some (t', o)) (k : (∀ h', kR h' t' s → kE o Q h')) : zz_J zp_P zt_tf zt_fd X d zm_193 60 [(0, .ref 2), (1, .int x1), (2, .int x2), (3, .long x3), (5, .int x5), (6, .int x6)] [] h Q := by
  unfold cf_193_60 at hf
  obtain ⟨d', rfl⟩ : ∃ d', d = d' + 1 := ⟨d - 1, by omega⟩
  refine cb_193_60 hR  (fun {h} hR => ?_)
  rcases ko_call_ok hf with ⟨g1, v1, er, hf⟩ | ⟨g1, er, hq⟩
  · obtain ⟨hv, hf2⟩ := co_v_ok hf
    clear hf
    have hf := hf2
    clear hf2
    subst hv
    refine cr_201 (by omega) hR er (fun h hR => ?_)
    exact cr_193_66 hrk hB hd hrc0 hR hf k
  · refine cr_201 (by omega) hR er (fun h hR => ?_)
    exact ko_thrown hq hR k
def cf_193_54 (N : Nat) (X : Nat → Option zz_C) (rk : Nat → List Value → cS → kO) (rc : Nat → Int32 → Int32 → Int64 → Int32 → Int32 → cS → kO) (x1 : Int32) (x2 : Int32) (x3 : Int64) (x5 : Int32) (x6 : Int32) (t : cS) : kO := if x1 ≤ x6 then cf_193_77 N X rk x1 x2 x3 x5 t else cf_193_60 N X rk rc x1 x2 x3 x5 x6 t
theorem cr_193_54 {X : Nat → Option zz_C} {s : mS} {N : Nat} {rk : Nat → List Value → cS → kO} {D : Nat} (hrk : cK0 X s D rk) (hB : 10 ≤ D) {d : Nat} (hd : D + 1 ≤ d) {rc : Nat → Int32 → Int32 → Int64 → Int32 → Int32 → cS → kO} (hrc0 : ∀ {Q : zz_O → zz_H → Prop} {x1 : Int32} {x2 : Int32} {x3 : Int64} {x5 : Int32} {x6 : Int32} {h : zz_H} {t t' : cS} {o : kY}, kR h t s → rc 0 x1 x2 x3 x5 x6 t = some (t', o) → (∀ h', kR h' t' s → kE o Q h') → zz_J zp_P zt_tf zt_fd X d zm_193 54 [(0, .ref 2), (1, .int x1), (2, .int x2), (3, .long x3), (5, .int x5), (6, .int x6)] [] h Q) {Q : zz_O → zz_H → Prop} {x1 : Int32} {x2 : Int32} {x3 : Int64} {x5 : Int32} {x6 : Int32} {h : zz_H} {t t' : cS} {o : kY} (hR : kR h t s) (hf : cf_193_54 N X rk rc x1 x2 x3 x5 x6 t = some (t', o)) (k : (∀ h', kR h' t' s → kE o Q h')) : zz_J zp_P zt_tf zt_fd X d zm_193 54 [(0, .ref 2), (1, .int x1), (2, .int x2), (3, .long x3), (5, .int x5), (6, .int x6)] [] h Q := by
  unfold cf_193_54 at hf
  refine cb_193_54 hR  (fun c {h} hR => ?_) (fun c {h} hR => ?_)
  · rw [if_pos c] at hf
    exact cr_193_77 hrk hB hd hR hf k
  · rw [if_neg c] at hf
    exact cr_193_60 hrk hB hd hrc0 hR hf k
def cf_193_L12 (N : Nat) (X : Nat → Option zz_C) (rk : Nat → List Value → cS → kO) : Nat → Nat → Int32 → Int32 → Int64 → Int32 → Int32 → cS → kO
  | 0, _, _, _, _, _, _, _ => none
  | n + 1, l, x1, x2, x3, x5, x6, t => if l = 0 then cf_193_54 N X rk (cf_193_L12 N X rk n) x1 x2 x3 x5 x6 t else none
theorem cr_193_L12 {X : Nat → Option zz_C} {s : mS} {N : Nat} {rk : Nat → List Value → cS → kO} {D : Nat} (hrk : cK0 X s D rk) (hB : 10 ≤ D) {d : Nat} (hd : D + 1 ≤ d) : ∀ n : Nat, (∀ {Q : zz_O → zz_H → Prop} {x1 : Int32} {x2 : Int32} {x3 : Int64} {x5 : Int32} {x6 : Int32} {h : zz_H} {t t' : cS} {o : kY}, kR h t s → cf_193_L12 N X rk n 0 x1 x2 x3 x5 x6 t = some (t', o) → (∀ h', kR h' t' s → kE o Q h') → zz_J zp_P zt_tf zt_fd X d zm_193 54 [(0, .ref 2), (1, .int x1), (2, .int x2), (3, .long x3), (5, .int x5), (6, .int x6)] [] h Q) := by
  intro n
  induction n with
  | zero => exact (fun _ hf _ => by cases hf)
  | succ n ih =>
    have h0 := @ih
    intro Q _ _ _ _ _ h t t' o hR hf k
    unfold cf_193_L12 at hf
    rw [if_pos rfl] at hf
    exact cr_193_54 hrk hB hd h0 hR hf k
def cf_193_51 (N : Nat) (X : Nat → Option zz_C) (rk : Nat → List Value → cS → kO) (x1 : Int32) (x2 : Int32) (x3 : Int64) (x5 : Int32) (t : cS) : kO := cf_193_L12 N X rk N 0 x1 x2 x3 x5 0 t
theorem cr_193_51 {X : Nat → Option zz_C} {s : mS} {N : Nat} {rk : Nat → List Value → cS → kO} {D : Nat} (hrk : cK0 X s D rk) (hB : 10 ≤ D) {d : Nat} (hd : D + 1 ≤ d) {Q : zz_O → zz_H → Prop} {x1 : Int32} {x2 : Int32} {x3 : Int64} {x5 : Int32} {h : zz_H} {t t' : cS} {o : kY} (hR : kR h t s) (hf : cf_193_51 N X rk x1 x2 x3 x5 t = some (t', o)) (k : (∀ h', kR h' t' s → kE o Q h')) : zz_J zp_P zt_tf zt_fd X d zm_193 51 [(0, .ref 2), (1, .int x1), (2, .int x2), (3, .long x3), (5, .int x5)] [] h Q := by
  unfold cf_193_51 at hf
  exact cb_193_51 hR  (fun hR => cr_193_L12 hrk hB hd N hR hf k)
def cf_193_42 (N : Nat) (X : Nat → Option zz_C) (rk : Nat → List Value → cS → kO) (x1 : Int32) (x2 : Int32) (x3 : Int64) (y0 : Int32) (t : cS) : kO := ko_call 10 (cf_46 N X  t) (fun g1 v1 => co_v v1 (cf_193_51 N X rk x1 x2 x3 y0 g1))
theorem cr_193_42 {X : Nat → Option zz_C} {s : mS} {N : Nat} {rk : Nat → List Value → cS → kO} {D : Nat} (hrk : cK0 X s D rk) (hB : 10 ≤ D) {d : Nat} (hd : D + 1 ≤ d) {Q : zz_O → zz_H → Prop} {x1 : Int32} {x2 : Int32} {x3 : Int64} {y0 : Int32} {h : zz_H} {t t' : cS} {o : kY} (hR : kR h t s) (hf : cf_193_42 N X rk x1 x2 x3 y0 t = some (t', o)) (k : (∀ h', kR h' t' s → kE o Q h')) : zz_J zp_P zt_tf zt_fd X d zm_193 42 [(0, .ref 2), (1, .int x1), (2, .int x2), (3, .long x3)] [.int y0] h Q := by
  unfold cf_193_42 at hf
  obtain ⟨d', rfl⟩ : ∃ d', d = d' + 1 := ⟨d - 1, by omega⟩
  refine cb_193_42 hR  (fun {h} hR => ?_)
  rcases ko_call_ok hf with ⟨g1, v1, er, hf⟩ | ⟨g1, er, hq⟩
  · obtain ⟨hv, hf2⟩ := co_v_ok hf
    clear hf
    have hf := hf2
    clear hf2
    subst hv
    refine cr_46 (by omega) hR er (fun h hR => ?_)
    exact cr_193_51 hrk hB hd hR hf k
  · refine cr_46 (by omega) hR er (fun h hR => ?_)
    exact ko_thrown hq hR k
def cf_193_34 (N : Nat) (X : Nat → Option zz_C) (rk : Nat → List Value → cS → kO) (x1 : Int32) (x2 : Int32) (y0 : Int64) (t : cS) : kO := ko_call 10 (cf_243 N X  t) (fun g1 v1 => co_i v1 (fun y => cf_193_42 N X rk x1 x2 y0 y g1))
theorem cr_193_34 {X : Nat → Option zz_C} {s : mS} {N : Nat} {rk : Nat → List Value → cS → kO} {D : Nat} (hrk : cK0 X s D rk) (hB : 10 ≤ D) {d : Nat} (hd : D + 1 ≤ d) {Q : zz_O → zz_H → Prop} {x1 : Int32} {x2 : Int32} {y0 : Int64} {h : zz_H} {t t' : cS} {o : kY} (hR : kR h t s) (hf : cf_193_34 N X rk x1 x2 y0 t = some (t', o)) (k : (∀ h', kR h' t' s → kE o Q h')) : zz_J zp_P zt_tf zt_fd X d zm_193 34 [(0, .ref 2), (1, .int x1), (2, .int x2)] [.long y0] h Q := by
  unfold cf_193_34 at hf
  obtain ⟨d', rfl⟩ : ∃ d', d = d' + 1 := ⟨d - 1, by omega⟩
  refine cb_193_34 hR  (fun {h} hR => ?_)
  rcases ko_call_ok hf with ⟨g1, v1, er, hf⟩ | ⟨g1, er, hq⟩
  · obtain ⟨y, hv, hf2⟩ := co_i_ok hf
    clear hf
    have hf := hf2
    clear hf2
    subst hv
    refine cr_243 (by omega) hR er (fun h hR => ?_)
    exact cr_193_42 hrk hB hd hR hf k
  · refine cr_243 (by omega) hR er (fun h hR => ?_)
    exact ko_thrown hq hR k
def cf_193_27 (N : Nat) (X : Nat → Option zz_C) (rk : Nat → List Value → cS → kO) (x1 : Int32) (x2 : Int32) (t : cS) : kO := ko_call 10 (cf_244 N X  t) (fun g1 v1 => co_l v1 (fun y => cf_193_34 N X rk x1 x2 y g1))
theorem cr_193_27 {X : Nat → Option zz_C} {s : mS} {N : Nat} {rk : Nat → List Value → cS → kO} {D : Nat} (hrk : cK0 X s D rk) (hB : 10 ≤ D) {d : Nat} (hd : D + 1 ≤ d) {Q : zz_O → zz_H → Prop} {x1 : Int32} {x2 : Int32} {h : zz_H} {t t' : cS} {o : kY} (hR : kR h t s) (hf : cf_193_27 N X rk x1 x2 t = some (t', o)) (k : (∀ h', kR h' t' s → kE o Q h')) : zz_J zp_P zt_tf zt_fd X d zm_193 27 [(0, .ref 2), (1, .int x1), (2, .int x2)] [] h Q := by
  unfold cf_193_27 at hf
  obtain ⟨d', rfl⟩ : ∃ d', d = d' + 1 := ⟨d - 1, by omega⟩
  refine cb_193_27 hR  (fun {h} hR => ?_)
  rcases ko_call_ok hf with ⟨g1, v1, er, hf⟩ | ⟨g1, er, hq⟩
  · obtain ⟨y, hv, hf2⟩ := co_l_ok hf
    clear hf
    have hf := hf2
    clear hf2
    subst hv
    refine cr_244 (by omega) hR er (fun h hR => ?_)
    exact cr_193_34 hrk hB hd hR hf k
  · refine cr_244 (by omega) hR er (fun h hR => ?_)
    exact ko_thrown hq hR k
def cf_193_23 (N : Nat) (X : Nat → Option zz_C) (rk : Nat → List Value → cS → kO) (x1 : Int32) (x2 : Int32) (y1 : Int32) (t : cS) : kO := ko_call 5 (cf_202 N X y1 2 t) (fun g1 v1 => co_v v1 (cf_193_27 N X rk x1 x2 g1))
theorem cr_193_23 {X : Nat → Option zz_C} {s : mS} {N : Nat} {rk : Nat → List Value → cS → kO} {D : Nat} (hrk : cK0 X s D rk) (hB : 10 ≤ D) {d : Nat} (hd : D + 1 ≤ d) {Q : zz_O → zz_H → Prop} {x1 : Int32} {x2 : Int32} {y1 : Int32} {h : zz_H} {t t' : cS} {o : kY} (hR : kR h t s) (hf : cf_193_23 N X rk x1 x2 y1 t = some (t', o)) (k : (∀ h', kR h' t' s → kE o Q h')) : zz_J zp_P zt_tf zt_fd X d zm_193 23 [(0, .ref 2), (1, .int x1), (2, .int x2)] [.int y1, .ref 2] h Q := by
  unfold cf_193_23 at hf
  obtain ⟨d', rfl⟩ : ∃ d', d = d' + 1 := ⟨d - 1, by omega⟩
  refine cb_193_23 hR  (fun {h} hR => ?_)
  rcases ko_call_ok hf with ⟨g1, v1, er, hf⟩ | ⟨g1, er, hq⟩
  · obtain ⟨hv, hf2⟩ := co_v_ok hf
    clear hf
    have hf := hf2
    clear hf2
    subst hv
    refine cr_202 (by omega) hR er (fun h hR => ?_)
    exact cr_193_27 hrk hB hd hR hf k
  · refine cr_202 (by omega) hR er (fun h hR => ?_)
    exact ko_thrown hq hR k
def cf_193_22 (N : Nat) (X : Nat → Option zz_C) (rk : Nat → List Value → cS → kO) (x1 : Int32) (x2 : Int32) (t : cS) : kO := cf_193_23 N X rk x1 x2 0 t
theorem cr_193_22 {X : Nat → Option zz_C} {s : mS} {N : Nat} {rk : Nat → List Value → cS → kO} {D : Nat} (hrk : cK0 X s D rk) (hB : 10 ≤ D) {d : Nat} (hd : D + 1 ≤ d) {Q : zz_O → zz_H → Prop} {x1 : Int32} {x2 : Int32} {h : zz_H} {t t' : cS} {o : kY} (hR : kR h t s) (hf : cf_193_22 N X rk x1 x2 t = some (t', o)) (k : (∀ h', kR h' t' s → kE o Q h')) : zz_J zp_P zt_tf zt_fd X d zm_193 22 [(0, .ref 2), (1, .int x1), (2, .int x2)] [.ref 2] h Q := by
  unfold cf_193_22 at hf
  exact cb_193_22 hR  (fun hR => cr_193_23 hrk hB hd hR hf k)
def cf_193_18 (N : Nat) (X : Nat → Option zz_C) (rk : Nat → List Value → cS → kO) (x1 : Int32) (x2 : Int32) (t : cS) : kO := cf_193_23 N X rk x1 x2 1 t
theorem cr_193_18 {X : Nat → Option zz_C} {s : mS} {N : Nat} {rk : Nat → List Value → cS → kO} {D : Nat} (hrk : cK0 X s D rk) (hB : 10 ≤ D) {d : Nat} (hd : D + 1 ≤ d) {Q : zz_O → zz_H → Prop} {x1 : Int32} {x2 : Int32} {h : zz_H} {t t' : cS} {o : kY} (hR : kR h t s) (hf : cf_193_18 N X rk x1 x2 t = some (t', o)) (k : (∀ h', kR h' t' s → kE o Q h')) : zz_J zp_P zt_tf zt_fd X d zm_193 18 [(0, .ref 2), (1, .int x1), (2, .int x2)] [.ref 2] h Q := by
  unfold cf_193_18 at hf
  exact cb_193_18 hR  (fun hR => cr_193_23 hrk hB hd hR hf k)
def cf_193_14 (N : Nat) (X : Nat → Option zz_C) (rk : Nat → List Value → cS → kO) (x1 : Int32) (x2 : Int32) (y1 : Int32) (t : cS) : kO := if ¬ y1 = 3 then cf_193_22 N X rk x1 x2 t else cf_193_18 N X rk x1 x2 t
theorem cr_193_14 {X : Nat → Option zz_C} {s : mS} {N : Nat} {rk : Nat → List Value → cS → kO} {D : Nat} (hrk : cK0 X s D rk) (hB : 10 ≤ D) {d : Nat} (hd : D + 1 ≤ d) {Q : zz_O → zz_H → Prop} {x1 : Int32} {x2 : Int32} {y1 : Int32} {h : zz_H} {t t' : cS} {o : kY} (hR : kR h t s) (hf : cf_193_14 N X rk x1 x2 y1 t = some (t', o)) (k : (∀ h', kR h' t' s → kE o Q h')) : zz_J zp_P zt_tf zt_fd X d zm_193 14 [(0, .ref 2), (1, .int x1), (2, .int x2)] [.int y1, .ref 2] h Q := by
  unfold cf_193_14 at hf
  refine cb_193_14 hR  (fun c {h} hR => ?_) (fun c {h} hR => ?_)
  · rw [if_pos c] at hf
    exact cr_193_22 hrk hB hd hR hf k
  · rw [if_neg c] at hf
    exact cr_193_18 hrk hB hd hR hf k
def cf_193_6 (N : Nat) (X : Nat → Option zz_C) (rk : Nat → List Value → cS → kO) (x1 : Int32) (x2 : Int32) (t : cS) : kO := ko_call 10 (cf_42 N X  t) (fun g1 v1 => co_i v1 (fun y => cf_193_14 N X rk x1 x2 y g1))
theorem cr_193_6 {X : Nat → Option zz_C} {s : mS} {N : Nat} {rk : Nat → List Value → cS → kO} {D : Nat} (hrk : cK0 X s D rk) (hB : 10 ≤ D) {d : Nat} (hd : D + 1 ≤ d) {Q : zz_O → zz_H → Prop} {x1 : Int32} {x2 : Int32} {h : zz_H} {t t' : cS} {o : kY} (hR : kR h t s) (hf : cf_193_6 N X rk x1 x2 t = some (t', o)) (k : (∀ h', kR h' t' s → kE o Q h')) : zz_J zp_P zt_tf zt_fd X d zm_193 6 [(0, .ref 2), (1, .int x1), (2, .int x2)] [] h Q := by
  unfold cf_193_6 at hf
  obtain ⟨d', rfl⟩ : ∃ d', d = d' + 1 := ⟨d - 1, by omega⟩
  refine cb_193_6 hR  (fun {h} hR => ?_)
  rcases ko_call_ok hf with ⟨g1, v1, er, hf⟩ | ⟨g1, er, hq⟩
  · obtain ⟨y, hv, hf2⟩ := co_i_ok hf
    clear hf
    have hf := hf2
    clear hf2
    subst hv
    refine cr_42 (by omega) hR er (fun h hR => ?_)
    exact cr_193_14 hrk hB hd hR hf k
  · refine cr_42 (by omega) hR er (fun h hR => ?_)
    exact ko_thrown hq hR k
def cf_193_0 (N : Nat) (X : Nat → Option zz_C) (rk : Nat → List Value → cS → kO) (x1 : Int32) (x2 : Int32) (t : cS) : kO := ko_call 5 (cf_201 N X 40 t) (fun g1 v1 => co_v v1 (cf_193_6 N X rk x1 x2 g1))
theorem cr_193_0 {X : Nat → Option zz_C} {s : mS} {N : Nat} {rk : Nat → List Value → cS → kO} {D : Nat} (hrk : cK0 X s D rk) (hB : 10 ≤ D) {d : Nat} (hd : D + 1 ≤ d) {Q : zz_O → zz_H → Prop} {x1 : Int32} {x2 : Int32} {h : zz_H} {t t' : cS} {o : kY} (hR : kR h t s) (hf : cf_193_0 N X rk x1 x2 t = some (t', o)) (k : (∀ h', kR h' t' s → kE o Q h')) : zz_J zp_P zt_tf zt_fd X d zm_193 0 [(0, .ref 2), (1, .int x1), (2, .int x2)] [] h Q := by
  unfold cf_193_0 at hf
  obtain ⟨d', rfl⟩ : ∃ d', d = d' + 1 := ⟨d - 1, by omega⟩
  refine cb_193_0 hR  (fun {h} hR => ?_)
  rcases ko_call_ok hf with ⟨g1, v1, er, hf⟩ | ⟨g1, er, hq⟩
  · obtain ⟨hv, hf2⟩ := co_v_ok hf
    clear hf
    have hf := hf2
    clear hf2
    subst hv
    refine cr_201 (by omega) hR er (fun h hR => ?_)
    exact cr_193_6 hrk hB hd hR hf k
  · refine cr_201 (by omega) hR er (fun h hR => ?_)
    exact ko_thrown hq hR k
/-- walk -/
def cf_193 (N : Nat) (X : Nat → Option zz_C) (rk : Nat → List Value → cS → kO) (x1 : Int32) (x2 : Int32) (t : cS) : kO := cf_193_0 N X rk x1 x2 t
theorem cr_193 {X : Nat → Option zz_C} {s : mS} {N : Nat} {rk : Nat → List Value → cS → kO} {D : Nat} (hrk : cK0 X s D rk) (hB : 10 ≤ D) {d : Nat} (hd : D + 1 ≤ d) {Q : zz_O → zz_H → Prop} {x1 : Int32} {x2 : Int32} {h : zz_H} {t t' : cS} {o : kY} (hR : kR h t s) (hf : cf_193 N X rk x1 x2 t = some (t', o)) (k : ∀ h', kR h' t' s → kE o Q h') : zz_J zp_P zt_tf zt_fd X d zm_193 0 [(0, .ref 2), (1, .int x1), (2, .int x2)] [] h Q := by
  unfold cf_193 at hf
  exact zz_J.weak (cr_193_0 hrk hB hd hR hf k) rfl ⟨rfl, rfl, rfl, trivial⟩
/-! yX5_list -/
theorem cb_194_0 {X : Nat → Option zz_C} {h : zz_H} {t : cS} {s : mS} {d : Nat} {Q : zz_O → zz_H → Prop} {x1 : Int32} {x2 : Int32} {x3 : Int32} {x4 : Int32} (hR : kR h t s) (k : ∀ {h : zz_H}, kR h t s → zz_J zp_P zt_tf zt_fd X d zm_201 0 [(0, .ref 2), (1, .int x1)] [] h (zz_after 5 Q (fun v h' => zz_J zp_P zt_tf zt_fd X (d + 1) zm_194 5 [(0, .ref 2), (2, .int x2), (3, .int x3), (4, .int x4)] (v.toList ++ []) h' Q))) : zz_J zp_P zt_tf zt_fd X (d + 1) zm_194 0 [(0, .ref 2), (1, .int x1), (2, .int x2), (3, .int x3), (4, .int x4)] [] h Q := by
  refine zz_J.n 1 rfl rfl rfl ?_
  refine zz_J.n 2 rfl rfl rfl ?_
  refine zz_J.cv 5 (as := []) rfl rfl (hR.clO ko_2 (by decide) (by decide)) (by decide) (Nat.le_of_ble_eq_true rfl) (Nat.le_of_ble_eq_true rfl) rfl (Nat.le_of_ble_eq_true rfl) rfl ?_
  refine zz_J.mono (k hR) ?_
  intro o h' hE
  cases o with
  | inl v => exact zz_J.weak hE rfl ⟨rfl, rfl, rfl, rfl, trivial⟩
  | inr q => exact hE
theorem cb_194_5 {X : Nat → Option zz_C} {h : zz_H} {t : cS} {s : mS} {d : Nat} {Q : zz_O → zz_H → Prop} {x2 : Int32} {x3 : Int32} {x4 : Int32} (hR : kR h t s) (k : ∀ {h : zz_H}, kR h t s → zz_J zp_P zt_tf zt_fd X d zm_42 0 [(0, .ref 3)] [] h (zz_after 10 Q (fun v h' => zz_J zp_P zt_tf zt_fd X (d + 1) zm_194 15 [(0, .ref 2), (2, .int x2), (3, .int x3), (4, .int x4), (5, .int 0)] (v.toList ++ []) h' Q))) : zz_J zp_P zt_tf zt_fd X (d + 1) zm_194 5 [(0, .ref 2), (2, .int x2), (3, .int x3), (4, .int x4)] [] h Q := by
  refine zz_J.c 6 (.int 0) rfl rfl rfl rfl ?_
  refine zz_J.n 8 rfl rfl rfl ?_
  refine zz_J.n 9 rfl rfl rfl ?_
  refine zz_J.g 12 rfl (hR.gv (v := .ref 3) ko_2 (by decide) rfl) rfl ?_
  refine zz_J.cv 15 (as := []) rfl rfl (hR.clO ko_3 (by decide) (by decide)) (by decide) (Nat.le_of_ble_eq_true rfl) (Nat.le_of_ble_eq_true rfl) rfl (Nat.le_of_ble_eq_true rfl) rfl ?_
  refine zz_J.mono (k hR) ?_
  intro o h' hE
  cases o with
  | inl v => exact zz_J.weak hE rfl ⟨rfl, rfl, rfl, rfl, rfl, trivial⟩
  | inr q => exact hE
theorem cb_194_15 {X : Nat → Option zz_C} {h : zz_H} {t : cS} {s : mS} {d : Nat} {Q : zz_O → zz_H → Prop} {x2 : Int32} {x3 : Int32} {x4 : Int32} {x5 : Int32} {y0 : Int32} (hR : kR h t s) (k1 : y0 = x2 → (∀ {h : zz_H}, kR h t s → zz_J zp_P zt_tf zt_fd X d zm_194 92 [(0, .ref 2), (2, .int x2), (3, .int x3), (5, .int x5)] [] h Q)) (k2 : ¬ y0 = x2 → (∀ {h : zz_H}, kR h t s → zz_J zp_P zt_tf zt_fd X d zm_194 19 [(0, .ref 2), (2, .int x2), (3, .int x3), (4, .int x4)] [] h Q)) : zz_J zp_P zt_tf zt_fd X d zm_194 15 [(0, .ref 2), (2, .int x2), (3, .int x3), (4, .int x4), (5, .int x5)] [.int y0] h Q := by
  refine zz_J.n 16 rfl rfl rfl ?_
  refine zz_J.b2 92 19 (A := y0 = x2) rfl rfl (by decide) rfl rfl (fun c => ?_) (fun c => ?_)
  · exact zz_J.weak (k1 c hR) rfl ⟨rfl, rfl, rfl, rfl, trivial⟩
  · exact zz_J.weak (k2 c hR) rfl ⟨rfl, rfl, rfl, rfl, trivial⟩
theorem cb_194_19 {X : Nat → Option zz_C} {h : zz_H} {t : cS} {s : mS} {d : Nat} {Q : zz_O → zz_H → Prop} {x2 : Int32} {x3 : Int32} {x4 : Int32} (hR : kR h t s) (k : ∀ {h : zz_H}, kR h t s → zz_J zp_P zt_tf zt_fd X d zm_186 0 [(0, .ref 2), (1, .int 0)] [] h (zz_after 5 Q (fun v h' => zz_J zp_P zt_tf zt_fd X (d + 1) zm_194 24 [(0, .ref 2), (2, .int x2), (3, .int x3), (4, .int x4)] (v.toList ++ []) h' Q))) : zz_J zp_P zt_tf zt_fd X (d + 1) zm_194 19 [(0, .ref 2), (2, .int x2), (3, .int x3), (4, .int x4)] [] h Q := by
  refine zz_J.n 20 rfl rfl rfl ?_
  refine zz_J.c 21 (.int 0) rfl rfl rfl rfl ?_
  refine zz_J.cv 24 (as := []) rfl rfl (hR.clO ko_2 (by decide) (by decide)) (by decide) (Nat.le_of_ble_eq_true rfl) (Nat.le_of_ble_eq_true rfl) rfl (Nat.le_of_ble_eq_true rfl) rfl ?_
  refine zz_J.mono (k hR) ?_
  intro o h' hE
  cases o with
  | inl v => exact zz_J.weak hE rfl ⟨rfl, rfl, rfl, rfl, trivial⟩
  | inr q => exact hE
theorem cb_194_24 {X : Nat → Option zz_C} {h : zz_H} {t : cS} {s : mS} {d : Nat} {Q : zz_O → zz_H → Prop} {x2 : Int32} {x3 : Int32} {x4 : Int32} (hR : kR h t s) (k : ∀ {h : zz_H}, kR h t s → zz_J zp_P zt_tf zt_fd X d zm_194 30 [(0, .ref 2), (2, .int x2), (3, .int x3), (4, .int x4), (5, .int 1), (6, .int 0)] [] h Q) : zz_J zp_P zt_tf zt_fd X d zm_194 24 [(0, .ref 2), (2, .int x2), (3, .int x3), (4, .int x4)] [] h Q := by
  refine zz_J.c 25 (.int 1) rfl rfl rfl rfl ?_
  refine zz_J.n 27 rfl rfl rfl ?_
  refine zz_J.c 28 (.int 0) rfl rfl rfl rfl ?_
  refine zz_J.n 30 rfl rfl rfl ?_
  exact zz_J.weak (k hR) rfl ⟨rfl, rfl, rfl, rfl, rfl, rfl, trivial⟩
theorem cb_194_30 {X : Nat → Option zz_C} {h : zz_H} {t : cS} {s : mS} {d : Nat} {Q : zz_O → zz_H → Prop} {x2 : Int32} {x3 : Int32} {x4 : Int32} {x5 : Int32} {x6 : Int32} (hR : kR h t s) (k : ∀ {h : zz_H}, kR h t s → zz_J zp_P zt_tf zt_fd X d zm_41 0 [(0, .ref 3)] [] h (zz_after 10 Q (fun v h' => zz_J zp_P zt_tf zt_fd X (d + 1) zm_194 39 [(0, .ref 2), (2, .int x2), (3, .int x3), (4, .int x4), (5, .int x5), (6, .int x6)] (v.toList ++ [.int x6]) h' Q))) : zz_J zp_P zt_tf zt_fd X (d + 1) zm_194 30 [(0, .ref 2), (2, .int x2), (3, .int x3), (4, .int x4), (5, .int x5), (6, .int x6)] [] h Q := by
  refine zz_J.n 32 rfl rfl rfl ?_
  refine zz_J.n 33 rfl rfl rfl ?_
  refine zz_J.g 36 rfl (hR.gv (v := .ref 3) ko_2 (by decide) rfl) rfl ?_
  refine zz_J.cv 39 (as := [.int x6]) rfl rfl (hR.clO ko_3 (by decide) (by decide)) (by decide) (Nat.le_of_ble_eq_true rfl) (Nat.le_of_ble_eq_true rfl) rfl (Nat.le_of_ble_eq_true rfl) rfl ?_
  refine zz_J.mono (k hR) ?_
  intro o h' hE
  cases o with
  | inl v => exact zz_J.weak hE rfl ⟨rfl, rfl, rfl, rfl, rfl, rfl, trivial⟩
  | inr q => exact hE
theorem cb_194_39 {X : Nat → Option zz_C} {h : zz_H} {t : cS} {s : mS} {d : Nat} {Q : zz_O → zz_H → Prop} {x2 : Int32} {x3 : Int32} {x4 : Int32} {x5 : Int32} {x6 : Int32} {y0 : Int32} {y1 : Int32} (hR : kR h t s) (k1 : y1 ≤ y0 → (∀ {h : zz_H}, kR h t s → zz_J zp_P zt_tf zt_fd X d zm_194 92 [(0, .ref 2), (2, .int x2), (3, .int x3), (5, .int x5)] [] h Q)) (k2 : ¬ y1 ≤ y0 → (∀ {h : zz_H}, kR h t s → zz_J zp_P zt_tf zt_fd X d zm_194 42 [(0, .ref 2), (2, .int x2), (3, .int x3), (4, .int x4), (5, .int x5), (6, .int x6)] [] h Q)) : zz_J zp_P zt_tf zt_fd X d zm_194 39 [(0, .ref 2), (2, .int x2), (3, .int x3), (4, .int x4), (5, .int x5), (6, .int x6)] [.int y1, .int y0] h Q := by
  refine zz_J.b2 92 42 (A := y1 ≤ y0) rfl rfl (by decide) rfl rfl (fun c => ?_) (fun c => ?_)
  · exact zz_J.weak (k1 c hR) rfl ⟨rfl, rfl, rfl, rfl, trivial⟩
  · exact zz_J.weak (k2 c hR) rfl ⟨rfl, rfl, rfl, rfl, rfl, rfl, trivial⟩
theorem cb_194_42 {X : Nat → Option zz_C} {h : zz_H} {t : cS} {s : mS} {d : Nat} {Q : zz_O → zz_H → Prop} {x2 : Int32} {x3 : Int32} {x4 : Int32} {x5 : Int32} {x6 : Int32} (hR : kR h t s) (k : ∀ {h : zz_H}, kR h t s → zz_J zp_P zt_tf zt_fd X d zm_42 0 [(0, .ref 3)] [] h (zz_after 10 Q (fun v h' => zz_J zp_P zt_tf zt_fd X (d + 1) zm_194 49 [(0, .ref 2), (2, .int x2), (3, .int x3), (4, .int x4), (5, .int x5), (6, .int x6)] (v.toList ++ []) h' Q))) : zz_J zp_P zt_tf zt_fd X (d + 1) zm_194 42 [(0, .ref 2), (2, .int x2), (3, .int x3), (4, .int x4), (5, .int x5), (6, .int x6)] [] h Q := by
  refine zz_J.n 43 rfl rfl rfl ?_
  refine zz_J.g 46 rfl (hR.gv (v := .ref 3) ko_2 (by decide) rfl) rfl ?_
  refine zz_J.cv 49 (as := []) rfl rfl (hR.clO ko_3 (by decide) (by decide)) (by decide) (Nat.le_of_ble_eq_true rfl) (Nat.le_of_ble_eq_true rfl) rfl (Nat.le_of_ble_eq_true rfl) rfl ?_
  refine zz_J.mono (k hR) ?_
  intro o h' hE
  cases o with
  | inl v => exact zz_J.weak hE rfl ⟨rfl, rfl, rfl, rfl, rfl, rfl, trivial⟩
  | inr q => exact hE
theorem cb_194_49 {X : Nat → Option zz_C} {h : zz_H} {t : cS} {s : mS} {d : Nat} {Q : zz_O → zz_H → Prop} {x2 : Int32} {x3 : Int32} {x4 : Int32} {x5 : Int32} {x6 : Int32} {y0 : Int32} (hR : kR h t s) (k1 : ¬ y0 = 44 → (∀ {h : zz_H}, kR h t s → zz_J zp_P zt_tf zt_fd X d zm_194 92 [(0, .ref 2), (2, .int x2), (3, .int x3), (5, .int x5)] [] h Q)) (k2 : ¬ ¬ y0 = 44 → (∀ {h : zz_H}, kR h t s → zz_J zp_P zt_tf zt_fd X d zm_194 54 [(0, .ref 2), (2, .int x2), (3, .int x3), (4, .int x4), (5, .int x5), (6, .int x6)] [] h Q)) : zz_J zp_P zt_tf zt_fd X d zm_194 49 [(0, .ref 2), (2, .int x2), (3, .int x3), (4, .int x4), (5, .int x5), (6, .int x6)] [.int y0] h Q := by
  refine zz_J.c 51 (.int 44) rfl rfl rfl rfl ?_
  refine zz_J.b2 92 54 (A := ¬ y0 = 44) rfl (zz_cond_ne _ _) (by decide) rfl rfl (fun c => ?_) (fun c => ?_)
  · exact zz_J.weak (k1 c hR) rfl ⟨rfl, rfl, rfl, rfl, trivial⟩
  · exact zz_J.weak (k2 c hR) rfl ⟨rfl, rfl, rfl, rfl, rfl, rfl, trivial⟩
theorem cb_194_54 {X : Nat → Option zz_C} {h : zz_H} {t : cS} {s : mS} {d : Nat} {Q : zz_O → zz_H → Prop} {x2 : Int32} {x3 : Int32} {x4 : Int32} {x5 : Int32} {x6 : Int32} (hR : kR h t s) (k1 : x4 ≤ x5 → (∀ {h : zz_H}, kR h t s → zz_J zp_P zt_tf zt_fd X d zm_194 66 [(0, .ref 2), (2, .int x2), (3, .int x3), (4, .int x4), (5, .int x5), (6, .int x6)] [.ref 2] h Q)) (k2 : ¬ x4 ≤ x5 → (∀ {h : zz_H}, kR h t s → zz_J zp_P zt_tf zt_fd X d zm_194 62 [(0, .ref 2), (2, .int x2), (3, .int x3), (4, .int x4), (5, .int x5), (6, .int x6)] [.ref 2] h Q)) : zz_J zp_P zt_tf zt_fd X d zm_194 54 [(0, .ref 2), (2, .int x2), (3, .int x3), (4, .int x4), (5, .int x5), (6, .int x6)] [] h Q := by
  refine zz_J.n 55 rfl rfl rfl ?_
  refine zz_J.n 57 rfl rfl rfl ?_
  refine zz_J.n 59 rfl rfl rfl ?_
  refine zz_J.b2 66 62 (A := x4 ≤ x5) rfl rfl (by decide) rfl rfl (fun c => ?_) (fun c => ?_)
  · exact zz_J.weak (k1 c hR) rfl ⟨rfl, rfl, rfl, rfl, rfl, rfl, trivial⟩
  · exact zz_J.weak (k2 c hR) rfl ⟨rfl, rfl, rfl, rfl, rfl, rfl, trivial⟩
theorem cb_194_62 {X : Nat → Option zz_C} {h : zz_H} {t : cS} {s : mS} {d : Nat} {Q : zz_O → zz_H → Prop} {x2 : Int32} {x3 : Int32} {x4 : Int32} {x5 : Int32} {x6 : Int32} (hR : kR h t s) (k : ∀ {h : zz_H}, kR h t s → zz_J zp_P zt_tf zt_fd X d zm_194 67 [(0, .ref 2), (2, .int x2), (3, .int x3), (4, .int x4), (5, .int x5), (6, .int x6)] [.int 1, .ref 2] h Q) : zz_J zp_P zt_tf zt_fd X d zm_194 62 [(0, .ref 2), (2, .int x2), (3, .int x3), (4, .int x4), (5, .int x5), (6, .int x6)] [.ref 2] h Q := by
  refine zz_J.c 63 (.int 1) rfl rfl rfl rfl ?_
  refine zz_J.n 67 rfl rfl rfl ?_
  exact zz_J.weak (k hR) rfl ⟨rfl, rfl, rfl, rfl, rfl, rfl, trivial⟩
theorem cb_194_66 {X : Nat → Option zz_C} {h : zz_H} {t : cS} {s : mS} {d : Nat} {Q : zz_O → zz_H → Prop} {x2 : Int32} {x3 : Int32} {x4 : Int32} {x5 : Int32} {x6 : Int32} (hR : kR h t s) (k : ∀ {h : zz_H}, kR h t s → zz_J zp_P zt_tf zt_fd X d zm_194 67 [(0, .ref 2), (2, .int x2), (3, .int x3), (4, .int x4), (5, .int x5), (6, .int x6)] [.int 0, .ref 2] h Q) : zz_J zp_P zt_tf zt_fd X d zm_194 66 [(0, .ref 2), (2, .int x2), (3, .int x3), (4, .int x4), (5, .int x5), (6, .int x6)] [.ref 2] h Q := by
  refine zz_J.c 67 (.int 0) rfl rfl rfl rfl ?_
  exact zz_J.weak (k hR) rfl ⟨rfl, rfl, rfl, rfl, rfl, rfl, trivial⟩
theorem cb_194_67 {X : Nat → Option zz_C} {h : zz_H} {t : cS} {s : mS} {d : Nat} {Q : zz_O → zz_H → Prop} {x2 : Int32} {x3 : Int32} {x4 : Int32} {x5 : Int32} {x6 : Int32} {y1 : Int32} (hR : kR h t s) (k : ∀ {h : zz_H}, kR h t s → zz_J zp_P zt_tf zt_fd X d zm_202 0 [(0, .ref 2), (1, .int y1), (2, .int 5)] [] h (zz_after 5 Q (fun v h' => zz_J zp_P zt_tf zt_fd X (d + 1) zm_194 71 [(0, .ref 2), (2, .int x2), (3, .int x3), (4, .int x4), (5, .int x5), (6, .int x6)] (v.toList ++ []) h' Q))) : zz_J zp_P zt_tf zt_fd X (d + 1) zm_194 67 [(0, .ref 2), (2, .int x2), (3, .int x3), (4, .int x4), (5, .int x5), (6, .int x6)] [.int y1, .ref 2] h Q := by
  refine zz_J.c 68 (.int 5) rfl rfl rfl rfl ?_
  refine zz_J.cv 71 (as := []) rfl rfl (hR.clO ko_2 (by decide) (by decide)) (by decide) (Nat.le_of_ble_eq_true rfl) (Nat.le_of_ble_eq_true rfl) rfl (Nat.le_of_ble_eq_true rfl) rfl ?_
  refine zz_J.mono (k hR) ?_
  intro o h' hE
  cases o with
  | inl v => exact zz_J.weak hE rfl ⟨rfl, rfl, rfl, rfl, rfl, rfl, trivial⟩
  | inr q => exact hE
theorem cb_194_71 {X : Nat → Option zz_C} {h : zz_H} {t : cS} {s : mS} {d : Nat} {Q : zz_O → zz_H → Prop} {x2 : Int32} {x3 : Int32} {x4 : Int32} {x5 : Int32} {x6 : Int32} (hR : kR h t s) (k : ∀ {h : zz_H}, kR h t s → zz_J zp_P zt_tf zt_fd X d zm_46 0 [(0, .ref 3)] [] h (zz_after 10 Q (fun v h' => zz_J zp_P zt_tf zt_fd X (d + 1) zm_194 78 [(0, .ref 2), (2, .int x2), (3, .int x3), (4, .int x4), (5, .int x5), (6, .int x6)] (v.toList ++ []) h' Q))) : zz_J zp_P zt_tf zt_fd X (d + 1) zm_194 71 [(0, .ref 2), (2, .int x2), (3, .int x3), (4, .int x4), (5, .int x5), (6, .int x6)] [] h Q := by
  refine zz_J.n 72 rfl rfl rfl ?_
  refine zz_J.g 75 rfl (hR.gv (v := .ref 3) ko_2 (by decide) rfl) rfl ?_
  refine zz_J.cv 78 (as := []) rfl rfl (hR.clO ko_3 (by decide) (by decide)) (by decide) (Nat.le_of_ble_eq_true rfl) (Nat.le_of_ble_eq_true rfl) rfl (Nat.le_of_ble_eq_true rfl) rfl ?_
  refine zz_J.mono (k hR) ?_
  intro o h' hE
  cases o with
  | inl v => exact zz_J.weak hE rfl ⟨rfl, rfl, rfl, rfl, rfl, rfl, trivial⟩
  | inr q => exact hE
theorem cb_194_78 {X : Nat → Option zz_C} {h : zz_H} {t : cS} {s : mS} {d : Nat} {Q : zz_O → zz_H → Prop} {x2 : Int32} {x3 : Int32} {x4 : Int32} {x5 : Int32} {x6 : Int32} (hR : kR h t s) (k : ∀ {h : zz_H}, kR h t s → zz_J zp_P zt_tf zt_fd X d zm_186 0 [(0, .ref 2), (1, .int 0)] [] h (zz_after 5 Q (fun v h' => zz_J zp_P zt_tf zt_fd X (d + 1) zm_194 83 [(0, .ref 2), (2, .int x2), (3, .int x3), (4, .int x4), (5, .int x5), (6, .int x6)] (v.toList ++ []) h' Q))) : zz_J zp_P zt_tf zt_fd X (d + 1) zm_194 78 [(0, .ref 2), (2, .int x2), (3, .int x3), (4, .int x4), (5, .int x5), (6, .int x6)] [] h Q := by
  refine zz_J.n 79 rfl rfl rfl ?_
  refine zz_J.c 80 (.int 0) rfl rfl rfl rfl ?_
  refine zz_J.cv 83 (as := []) rfl rfl (hR.clO ko_2 (by decide) (by decide)) (by decide) (Nat.le_of_ble_eq_true rfl) (Nat.le_of_ble_eq_true rfl) rfl (Nat.le_of_ble_eq_true rfl) rfl ?_
  refine zz_J.mono (k hR) ?_
  intro o h' hE
  cases o with
  | inl v => exact zz_J.weak hE rfl ⟨rfl, rfl, rfl, rfl, rfl, rfl, trivial⟩
  | inr q => exact hE
theorem cb_194_83 {X : Nat → Option zz_C} {h : zz_H} {t : cS} {s : mS} {d : Nat} {Q : zz_O → zz_H → Prop} {x2 : Int32} {x3 : Int32} {x4 : Int32} {x5 : Int32} {x6 : Int32} (hR : kR h t s) (k : ∀ {h : zz_H}, kR h t s → zz_J zp_P zt_tf zt_fd X d zm_194 30 [(0, .ref 2), (2, .int x2), (3, .int x3), (4, .int x4), (5, .int (x5 + 1)), (6, .int (x6 + 1))] [] h Q) : zz_J zp_P zt_tf zt_fd X d zm_194 83 [(0, .ref 2), (2, .int x2), (3, .int x3), (4, .int x4), (5, .int x5), (6, .int x6)] [] h Q := by
  refine zz_J.n 86 rfl rfl rfl ?_
  refine zz_J.n 89 rfl rfl rfl ?_
  refine zz_J.n 30 rfl rfl rfl ?_
  exact zz_J.weak (k hR) rfl ⟨rfl, rfl, rfl, rfl, rfl, rfl, trivial⟩
theorem cb_194_92 {X : Nat → Option zz_C} {h : zz_H} {t : cS} {s : mS} {d : Nat} {Q : zz_O → zz_H → Prop} {x2 : Int32} {x3 : Int32} {x5 : Int32} (hR : kR h t s) (k : ∀ {h : zz_H}, kR h t s → zz_J zp_P zt_tf zt_fd X d zm_42 0 [(0, .ref 3)] [] h (zz_after 10 Q (fun v h' => zz_J zp_P zt_tf zt_fd X (d + 1) zm_194 100 [(0, .ref 2), (2, .int x2), (3, .int x3), (5, .int x5)] (v.toList ++ [.ref 2]) h' Q))) : zz_J zp_P zt_tf zt_fd X (d + 1) zm_194 92 [(0, .ref 2), (2, .int x2), (3, .int x3), (5, .int x5)] [] h Q := by
  refine zz_J.n 93 rfl rfl rfl ?_
  refine zz_J.n 94 rfl rfl rfl ?_
  refine zz_J.g 97 rfl (hR.gv (v := .ref 3) ko_2 (by decide) rfl) rfl ?_
  refine zz_J.cv 100 (as := [.ref 2]) rfl rfl (hR.clO ko_3 (by decide) (by decide)) (by decide) (Nat.le_of_ble_eq_true rfl) (Nat.le_of_ble_eq_true rfl) rfl (Nat.le_of_ble_eq_true rfl) rfl ?_
  refine zz_J.mono (k hR) ?_
  intro o h' hE
  cases o with
  | inl v => exact zz_J.weak hE rfl ⟨rfl, rfl, rfl, rfl, trivial⟩
  | inr q => exact hE
theorem cb_194_100 {X : Nat → Option zz_C} {h : zz_H} {t : cS} {s : mS} {d : Nat} {Q : zz_O → zz_H → Prop} {x2 : Int32} {x3 : Int32} {x5 : Int32} {y1 : Int32} (hR : kR h t s) (k1 : ¬ y1 = x2 → (∀ {h : zz_H}, kR h t s → zz_J zp_P zt_tf zt_fd X d zm_194 110 [(0, .ref 2), (2, .int x2), (5, .int x5)] [.ref 2] h Q)) (k2 : ¬ ¬ y1 = x2 → (∀ {h : zz_H}, kR h t s → zz_J zp_P zt_tf zt_fd X d zm_194 104 [(0, .ref 2), (2, .int x2), (3, .int x3), (5, .int x5)] [.ref 2] h Q)) : zz_J zp_P zt_tf zt_fd X d zm_194 100 [(0, .ref 2), (2, .int x2), (3, .int x3), (5, .int x5)] [.int y1, .ref 2] h Q := by
  refine zz_J.n 101 rfl rfl rfl ?_
  refine zz_J.b2 110 104 (A := ¬ y1 = x2) rfl (zz_cond_ne _ _) (by decide) rfl rfl (fun c => ?_) (fun c => ?_)
  · exact zz_J.weak (k1 c hR) rfl ⟨rfl, rfl, rfl, trivial⟩
  · exact zz_J.weak (k2 c hR) rfl ⟨rfl, rfl, rfl, rfl, trivial⟩
theorem cb_194_104 {X : Nat → Option zz_C} {h : zz_H} {t : cS} {s : mS} {d : Nat} {Q : zz_O → zz_H → Prop} {x2 : Int32} {x3 : Int32} {x5 : Int32} (hR : kR h t s) (k1 : x5 < x3 → (∀ {h : zz_H}, kR h t s → zz_J zp_P zt_tf zt_fd X d zm_194 114 [(0, .ref 2), (2, .int x2), (5, .int x5)] [.ref 2] h Q)) (k2 : ¬ x5 < x3 → (∀ {h : zz_H}, kR h t s → zz_J zp_P zt_tf zt_fd X d zm_194 110 [(0, .ref 2), (2, .int x2), (5, .int x5)] [.ref 2] h Q)) : zz_J zp_P zt_tf zt_fd X d zm_194 104 [(0, .ref 2), (2, .int x2), (3, .int x3), (5, .int x5)] [.ref 2] h Q := by
  refine zz_J.n 106 rfl rfl rfl ?_
  refine zz_J.n 107 rfl rfl rfl ?_
  refine zz_J.b2 114 110 (A := x5 < x3) rfl rfl (by decide) rfl rfl (fun c => ?_) (fun c => ?_)
  · exact zz_J.weak (k1 c hR) rfl ⟨rfl, rfl, rfl, trivial⟩
  · exact zz_J.weak (k2 c hR) rfl ⟨rfl, rfl, rfl, trivial⟩
theorem cb_194_110 {X : Nat → Option zz_C} {h : zz_H} {t : cS} {s : mS} {d : Nat} {Q : zz_O → zz_H → Prop} {x2 : Int32} {x5 : Int32} (hR : kR h t s) (k : ∀ {h : zz_H}, kR h t s → zz_J zp_P zt_tf zt_fd X d zm_194 115 [(0, .ref 2), (2, .int x2), (5, .int x5)] [.int 1, .ref 2] h Q) : zz_J zp_P zt_tf zt_fd X d zm_194 110 [(0, .ref 2), (2, .int x2), (5, .int x5)] [.ref 2] h Q := by
  refine zz_J.c 111 (.int 1) rfl rfl rfl rfl ?_
  refine zz_J.n 115 rfl rfl rfl ?_
  exact zz_J.weak (k hR) rfl ⟨rfl, rfl, rfl, trivial⟩
theorem cb_194_114 {X : Nat → Option zz_C} {h : zz_H} {t : cS} {s : mS} {d : Nat} {Q : zz_O → zz_H → Prop} {x2 : Int32} {x5 : Int32} (hR : kR h t s) (k : ∀ {h : zz_H}, kR h t s → zz_J zp_P zt_tf zt_fd X d zm_194 115 [(0, .ref 2), (2, .int x2), (5, .int x5)] [.int 0, .ref 2] h Q) : zz_J zp_P zt_tf zt_fd X d zm_194 114 [(0, .ref 2), (2, .int x2), (5, .int x5)] [.ref 2] h Q := by
  refine zz_J.c 115 (.int 0) rfl rfl rfl rfl ?_
  exact zz_J.weak (k hR) rfl ⟨rfl, rfl, rfl, trivial⟩
theorem cb_194_115 {X : Nat → Option zz_C} {h : zz_H} {t : cS} {s : mS} {d : Nat} {Q : zz_O → zz_H → Prop} {x2 : Int32} {x5 : Int32} {y1 : Int32} (hR : kR h t s) (k : ∀ {h : zz_H}, kR h t s → zz_J zp_P zt_tf zt_fd X d zm_202 0 [(0, .ref 2), (1, .int y1), (2, .int 5)] [] h (zz_after 5 Q (fun v h' => zz_J zp_P zt_tf zt_fd X (d + 1) zm_194 119 [(0, .ref 2), (2, .int x2), (5, .int x5)] (v.toList ++ []) h' Q))) : zz_J zp_P zt_tf zt_fd X (d + 1) zm_194 115 [(0, .ref 2), (2, .int x2), (5, .int x5)] [.int y1, .ref 2] h Q := by
  refine zz_J.c 116 (.int 5) rfl rfl rfl rfl ?_
  refine zz_J.cv 119 (as := []) rfl rfl (hR.clO ko_2 (by decide) (by decide)) (by decide) (Nat.le_of_ble_eq_true rfl) (Nat.le_of_ble_eq_true rfl) rfl (Nat.le_of_ble_eq_true rfl) rfl ?_
  refine zz_J.mono (k hR) ?_
  intro o h' hE
  cases o with
  | inl v => exact zz_J.weak hE rfl ⟨rfl, rfl, rfl, trivial⟩
  | inr q => exact hE
theorem cb_194_119 {X : Nat → Option zz_C} {h : zz_H} {t : cS} {s : mS} {d : Nat} {Q : zz_O → zz_H → Prop} {x2 : Int32} {x5 : Int32} (hR : kR h t s) (k : ∀ {h : zz_H}, kR h t s → zz_J zp_P zt_tf zt_fd X d zm_201 0 [(0, .ref 2), (1, .int x2)] [] h (zz_after 5 Q (fun v h' => zz_J zp_P zt_tf zt_fd X (d + 1) zm_194 124 [(5, .int x5)] (v.toList ++ []) h' Q))) : zz_J zp_P zt_tf zt_fd X (d + 1) zm_194 119 [(0, .ref 2), (2, .int x2), (5, .int x5)] [] h Q := by
  refine zz_J.n 120 rfl rfl rfl ?_
  refine zz_J.n 121 rfl rfl rfl ?_
  refine zz_J.cv 124 (as := []) rfl rfl (hR.clO ko_2 (by decide) (by decide)) (by decide) (Nat.le_of_ble_eq_true rfl) (Nat.le_of_ble_eq_true rfl) rfl (Nat.le_of_ble_eq_true rfl) rfl ?_
  refine zz_J.mono (k hR) ?_
  intro o h' hE
  cases o with
  | inl v => exact zz_J.weak hE rfl ⟨rfl, trivial⟩
  | inr q => exact hE
theorem cb_194_124 {X : Nat → Option zz_C} {h : zz_H} {t : cS} {s : mS} {d : Nat} {Q : zz_O → zz_H → Prop} {x5 : Int32} (hR : kR h t s) (k : ∀ {h : zz_H}, kR h t s → Q (.inl (some (.int x5))) h) : zz_J zp_P zt_tf zt_fd X d zm_194 124 [(5, .int x5)] [] h Q := by
  refine zz_J.n 126 rfl rfl rfl ?_
  refine zz_J.ret rfl rfl rfl ?_
  exact k hR
def cf_194_124 (N : Nat) (X : Nat → Option zz_C) (rk : Nat → List Value → cS → kO) (x5 : Int32) (t : cS) : kO := some (t, .inl (some (.int x5)))
theorem cr_194_124 {X : Nat → Option zz_C} {s : mS} {N : Nat} {rk : Nat → List Value → cS → kO} {D : Nat} (hrk : cK0 X s D rk) (hB : 10 ≤ D) {d : Nat} (hd : D + 1 ≤ d) {Q : zz_O → zz_H → Prop} {x5 : Int32} {h : zz_H} {t t' : cS} {o : kY} (hR : kR h t s) (hf : cf_194_124 N X rk x5 t = some (t', o)) (k : (∀ h', kR h' t' s → kE o Q h')) : zz_J zp_P zt_tf zt_fd X d zm_194 124 [(5, .int x5)] [] h Q := by
  unfold cf_194_124 at hf
  cases hf
  exact cb_194_124 hR  (fun {h} hR => k h hR)
def cf_194_119 (N : Nat) (X : Nat → Option zz_C) (rk : Nat → List Value → cS → kO) (x2 : Int32) (x5 : Int32) (t : cS) : kO := ko_call 5 (cf_201 N X x2 t) (fun g1 v1 => co_v v1 (cf_194_124 N X rk x5 g1))
theorem cr_194_119 {X : Nat → Option zz_C} {s : mS} {N : Nat} {rk : Nat → List Value → cS → kO} {D : Nat} (hrk : cK0 X s D rk) (hB : 10 ≤ D) {d : Nat} (hd : D + 1 ≤ d) {Q : zz_O → zz_H → Prop} {x2 : Int32} {x5 : Int32} {h : zz_H} {t t' : cS} {o : kY} (hR : kR h t s) (hf : cf_194_119 N X rk x2 x5 t = some (t', o)) (k : (∀ h', kR h' t' s → kE o Q h')) : zz_J zp_P zt_tf zt_fd X d zm_194 119 [(0, .ref 2), (2, .int x2), (5, .int x5)] [] h Q := by
  unfold cf_194_119 at hf
  obtain ⟨d', rfl⟩ : ∃ d', d = d' + 1 := ⟨d - 1, by omega⟩
  refine cb_194_119 hR  (fun {h} hR => ?_)
  rcases ko_call_ok hf with ⟨g1, v1, er, hf⟩ | ⟨g1, er, hq⟩
  · obtain ⟨hv, hf2⟩ := co_v_ok hf
    clear hf
    have hf := hf2
    clear hf2
    subst hv
    refine cr_201 (by omega) hR er (fun h hR => ?_)
    exact cr_194_124 hrk hB hd hR hf k
  · refine cr_201 (by omega) hR er (fun h hR => ?_)
    exact ko_thrown hq hR k
def cf_194_115 (N : Nat) (X : Nat → Option zz_C) (rk : Nat → List Value → cS → kO) (x2 : Int32) (x5 : Int32) (y1 : Int32) (t : cS) : kO := ko_call 5 (cf_202 N X y1 5 t) (fun g1 v1 => co_v v1 (cf_194_119 N X rk x2 x5 g1))
theorem cr_194_115 {X : Nat → Option zz_C} {s : mS} {N : Nat} {rk : Nat → List Value → cS → kO} {D : Nat} (hrk : cK0 X s D rk) (hB : 10 ≤ D) {d : Nat} (hd : D + 1 ≤ d) {Q : zz_O → zz_H → Prop} {x2 : Int32} {x5 : Int32} {y1 : Int32} {h : zz_H} {t t' : cS} {o : kY} (hR : kR h t s) (hf : cf_194_115 N X rk x2 x5 y1 t = some (t', o)) (k : (∀ h', kR h' t' s → kE o Q h')) : zz_J zp_P zt_tf zt_fd X d zm_194 115 [(0, .ref 2), (2, .int x2), (5, .int x5)] [.int y1, .ref 2] h Q := by
  unfold cf_194_115 at hf
  obtain ⟨d', rfl⟩ : ∃ d', d = d' + 1 := ⟨d - 1, by omega⟩
  refine cb_194_115 hR  (fun {h} hR => ?_)
  rcases ko_call_ok hf with ⟨g1, v1, er, hf⟩ | ⟨g1, er, hq⟩
  · obtain ⟨hv, hf2⟩ := co_v_ok hf
    clear hf
    have hf := hf2
    clear hf2
    subst hv
    refine cr_202 (by omega) hR er (fun h hR => ?_)
    exact cr_194_119 hrk hB hd hR hf k
  · refine cr_202 (by omega) hR er (fun h hR => ?_)
    exact ko_thrown hq hR k
def cf_194_110 (N : Nat) (X : Nat → Option zz_C) (rk : Nat → List Value → cS → kO) (x2 : Int32) (x5 : Int32) (t : cS) : kO := cf_194_115 N X rk x2 x5 1 t
theorem cr_194_110 {X : Nat → Option zz_C} {s : mS} {N : Nat} {rk : Nat → List Value → cS → kO} {D : Nat} (hrk : cK0 X s D rk) (hB : 10 ≤ D) {d : Nat} (hd : D + 1 ≤ d) {Q : zz_O → zz_H → Prop} {x2 : Int32} {x5 : Int32} {h : zz_H} {t t' : cS} {o : kY} (hR : kR h t s) (hf : cf_194_110 N X rk x2 x5 t = some (t', o)) (k : (∀ h', kR h' t' s → kE o Q h')) : zz_J zp_P zt_tf zt_fd X d zm_194 110 [(0, .ref 2), (2, .int x2), (5, .int x5)] [.ref 2] h Q := by
  unfold cf_194_110 at hf
  exact cb_194_110 hR  (fun hR => cr_194_115 hrk hB hd hR hf k)
def cf_194_114 (N : Nat) (X : Nat → Option zz_C) (rk : Nat → List Value → cS → kO) (x2 : Int32) (x5 : Int32) (t : cS) : kO := cf_194_115 N X rk x2 x5 0 t
theorem cr_194_114 {X : Nat → Option zz_C} {s : mS} {N : Nat} {rk : Nat → List Value → cS → kO} {D : Nat} (hrk : cK0 X s D rk) (hB : 10 ≤ D) {d : Nat} (hd : D + 1 ≤ d) {Q : zz_O → zz_H → Prop} {x2 : Int32} {x5 : Int32} {h : zz_H} {t t' : cS} {o : kY} (hR : kR h t s) (hf : cf_194_114 N X rk x2 x5 t = some (t', o)) (k : (∀ h', kR h' t' s → kE o Q h')) : zz_J zp_P zt_tf zt_fd X d zm_194 114 [(0, .ref 2), (2, .int x2), (5, .int x5)] [.ref 2] h Q := by
  unfold cf_194_114 at hf
  exact cb_194_114 hR  (fun hR => cr_194_115 hrk hB hd hR hf k)
def cf_194_104 (N : Nat) (X : Nat → Option zz_C) (rk : Nat → List Value → cS → kO) (x2 : Int32) (x3 : Int32) (x5 : Int32) (t : cS) : kO := if x5 < x3 then cf_194_114 N X rk x2 x5 t else cf_194_110 N X rk x2 x5 t
theorem cr_194_104 {X : Nat → Option zz_C} {s : mS} {N : Nat} {rk : Nat → List Value → cS → kO} {D : Nat} (hrk : cK0 X s D rk) (hB : 10 ≤ D) {d : Nat} (hd : D + 1 ≤ d) {Q : zz_O → zz_H → Prop} {x2 : Int32} {x3 : Int32} {x5 : Int32} {h : zz_H} {t t' : cS} {o : kY} (hR : kR h t s) (hf : cf_194_104 N X rk x2 x3 x5 t = some (t', o)) (k : (∀ h', kR h' t' s → kE o Q h')) : zz_J zp_P zt_tf zt_fd X d zm_194 104 [(0, .ref 2), (2, .int x2), (3, .int x3), (5, .int x5)] [.ref 2] h Q := by
  unfold cf_194_104 at hf
  refine cb_194_104 hR  (fun c {h} hR => ?_) (fun c {h} hR => ?_)
  · rw [if_pos c] at hf
    exact cr_194_114 hrk hB hd hR hf k
  · rw [if_neg c] at hf
    exact cr_194_110 hrk hB hd hR hf k
def cf_194_100 (N : Nat) (X : Nat → Option zz_C) (rk : Nat → List Value → cS → kO) (x2 : Int32) (x3 : Int32) (x5 : Int32) (y1 : Int32) (t : cS) : kO := if ¬ y1 = x2 then cf_194_110 N X rk x2 x5 t else cf_194_104 N X rk x2 x3 x5 t
theorem cr_194_100 {X : Nat → Option zz_C} {s : mS} {N : Nat} {rk : Nat → List Value → cS → kO} {D : Nat} (hrk : cK0 X s D rk) (hB : 10 ≤ D) {d : Nat} (hd : D + 1 ≤ d) {Q : zz_O → zz_H → Prop} {x2 : Int32} {x3 : Int32} {x5 : Int32} {y1 : Int32} {h : zz_H} {t t' : cS} {o : kY} (hR : kR h t s) (hf : cf_194_100 N X rk x2 x3 x5 y1 t = some (t', o)) (k : (∀ h', kR h' t' s → kE o Q h')) : zz_J zp_P zt_tf zt_fd X d zm_194 100 [(0, .ref 2), (2, .int x2), (3, .int x3), (5, .int x5)] [.int y1, .ref 2] h Q := by
  unfold cf_194_100 at hf
  refine cb_194_100 hR  (fun c {h} hR => ?_) (fun c {h} hR => ?_)
  · rw [if_pos c] at hf
    exact cr_194_110 hrk hB hd hR hf k
  · rw [if_neg c] at hf
    exact cr_194_104 hrk hB hd hR hf k
def cf_194_92 (N : Nat) (X : Nat → Option zz_C) (rk : Nat → List Value → cS → kO) (x2 : Int32) (x3 : Int32) (x5 : Int32) (t : cS) : kO := ko_call 10 (cf_42 N X  t) (fun g1 v1 => co_i v1 (fun y => cf_194_100 N X rk x2 x3 x5 y g1))
theorem cr_194_92 {X : Nat → Option zz_C} {s : mS} {N : Nat} {rk : Nat → List Value → cS → kO} {D : Nat} (hrk : cK0 X s D rk) (hB : 10 ≤ D) {d : Nat} (hd : D + 1 ≤ d) {Q : zz_O → zz_H → Prop} {x2 : Int32} {x3 : Int32} {x5 : Int32} {h : zz_H} {t t' : cS} {o : kY} (hR : kR h t s) (hf : cf_194_92 N X rk x2 x3 x5 t = some (t', o)) (k : (∀ h', kR h' t' s → kE o Q h')) : zz_J zp_P zt_tf zt_fd X d zm_194 92 [(0, .ref 2), (2, .int x2), (3, .int x3), (5, .int x5)] [] h Q := by
  unfold cf_194_92 at hf
  obtain ⟨d', rfl⟩ : ∃ d', d = d' + 1 := ⟨d - 1, by omega⟩
  refine cb_194_92 hR  (fun {h} hR => ?_)
  rcases ko_call_ok hf with ⟨g1, v1, er, hf⟩ | ⟨g1, er, hq⟩
  · obtain ⟨y, hv, hf2⟩ := co_i_ok hf
    clear hf
    have hf := hf2
    clear hf2
    subst hv
    refine cr_42 (by omega) hR er (fun h hR => ?_)
    exact cr_194_100 hrk hB hd hR hf k
  · refine cr_42 (by omega) hR er (fun h hR => ?_)
    exact ko_thrown hq hR k
def cf_194_83 (N : Nat) (X : Nat → Option zz_C) (rk : Nat → List Value → cS → kO) (rc : Nat → Int32 → Int32 → Int32 → Int32 → Int32 → cS → kO) (x2 : Int32) (x3 : Int32) (x4 : Int32) (x5 : Int32) (x6 : Int32) (t : cS) : kO := rc 0 x2 x3 x4 (x5 + 1) (x6 + 1) t
theorem cr_194_83 {X : Nat → Option zz_C} {s : mS} {N : Nat} {rk : Nat → List Value → cS → kO} {D : Nat} (hrk : cK0 X s D rk) (hB : 10 ≤ D) {d : Nat} (hd : D + 1 ≤ d) {rc : Nat → Int32 → Int32 → Int32 → Int32 → Int32 → cS → kO} (hrc0 : ∀ {Q : zz_O → zz_H → Prop} {x2 : Int32} {x3 : Int32} {x4 : Int32} {x5 : Int32} {x6 : Int32} {h : zz_H} {t t' : cS} {o : kY}, kR h t s → rc 0 x2 x3 x4 x5 x6 t = some (t', o) → (∀ h', kR h' t' s → kE o Q h') → zz_J zp_P zt_tf zt_fd X d zm_194 30 [(0, .ref 2), (2, .int x2), (3, .int x3), (4, .int x4), (5, .int x5), (6, .int x6)] [] h Q) {Q : zz_O → zz_H → Prop} {x2 : Int32} {x3 : Int32} {x4 : Int32} {x5 : Int32} {x6 : Int32} {h : zz_H} {t t' : cS} {o : kY} (hR : kR h t s) (hf : cf_194_83 N X rk rc x2 x3 x4 x5 x6 t = some (t', o)) (k : (∀ h', kR h' t' s → kE o Q h')) : zz_J zp_P zt_tf zt_fd X d zm_194 83 [(0, .ref 2), (2, .int x2), (3, .int x3), (4, .int x4), (5, .int x5), (6, .int x6)] [] h Q := by
  unfold cf_194_83 at hf
  exact cb_194_83 hR  (fun hR => hrc0 hR hf k)
def cf_194_78 (N : Nat) (X : Nat → Option zz_C) (rk : Nat → List Value → cS → kO) (rc : Nat → Int32 → Int32 → Int32 → Int32 → Int32 → cS → kO) (x2 : Int32) (x3 : Int32) (x4 : Int32) (x5 : Int32) (x6 : Int32) (t : cS) : kO := ko_call 5 (rk 186 [.int 0] t) (fun g1 v1 => co_v v1 (cf_194_83 N X rk rc x2 x3 x4 x5 x6 g1))
theorem cr_194_78 {X : Nat → Option zz_C} {s : mS} {N : Nat} {rk : Nat → List Value → cS → kO} {D : Nat} (hrk : cK0 X s D rk) (hB : 10 ≤ D) {d : Nat} (hd : D + 1 ≤ d) {rc : Nat → Int32 → Int32 → Int32 → Int32 → Int32 → cS → kO} (hrc0 : ∀ {Q : zz_O → zz_H → Prop} {x2 : Int32} {x3 : Int32} {x4 : Int32} {x5 : Int32} {x6 : Int32} {h : zz_H} {t t' : cS} {o : kY}, kR h t s → rc 0 x2 x3 x4 x5 x6 t = some (t', o) → (∀ h', kR h' t' s → kE o Q h') → zz_J zp_P zt_tf zt_fd X d zm_194 30 [(0, .ref 2), (2, .int x2), (3, .int x3), (4, .int x4), (5, .int x5), (6, .int x6)] [] h Q) {Q : zz_O → zz_H → Prop} {x2 : Int32} {x3 : Int32} {x4 : Int32} {x5 : Int32} {x6 : Int32} {h : zz_H} {t t' : cS} {o : kY} (hR : kR h t s) (hf : cf_194_78 N X rk rc x2 x3 x4 x5 x6 t = some (t', o)) (k : (∀ h', kR h' t' s → kE o Q h')) : zz_J zp_P zt_tf zt_fd X d zm_194 78 [(0, .ref 2), (2, .int x2), (3, .int x3), (4, .int x4), (5, .int x5), (6, .int x6)] [] h Q := by
  unfold cf_194_78 at hf
  obtain ⟨d', rfl⟩ : ∃ d', d = d' + 1 := ⟨d - 1, by omega⟩
  refine cb_194_78 hR  (fun {h} hR => ?_)
  rcases ko_call_ok hf with ⟨g1, v1, er, hf⟩ | ⟨g1, er, hq⟩
  · obtain ⟨hv, hf2⟩ := co_v_ok hf
    clear hf
    have hf := hf2
    clear hf2
    subst hv
    refine hrk.1 (by omega) hR er (fun h hR => ?_)
    exact cr_194_83 hrk hB hd hrc0 hR hf k
  · refine hrk.1 (by omega) hR er (fun h hR => ?_)
    exact ko_thrown hq hR k
def cf_194_71 (N : Nat) (X : Nat → Option zz_C) (rk : Nat → List Value → cS → kO) (rc : Nat → Int32 → Int32 → Int32 → Int32 → Int32 → cS → kO) (x2 : Int32) (x3 : Int32) (x4 : Int32) (x5 : Int32) (x6 : Int32) (t : cS) : kO := ko_call 10 (cf_46 N X  t) (fun g1 v1 => co_v v1 (cf_194_78 N X rk rc x2 x3 x4 x5 x6 g1))
theorem cr_194_71 {X : Nat → Option zz_C} {s : mS} {N : Nat} {rk : Nat → List Value → cS → kO} {D : Nat} (hrk : cK0 X s D rk) (hB : 10 ≤ D) {d : Nat} (hd : D + 1 ≤ d) {rc : Nat → Int32 → Int32 → Int32 → Int32 → Int32 → cS → kO} (hrc0 : ∀ {Q : zz_O → zz_H → Prop} {x2 : Int32} {x3 : Int32} {x4 : Int32} {x5 : Int32} {x6 : Int32} {h : zz_H} {t t' : cS} {o : kY}, kR h t s → rc 0 x2 x3 x4 x5 x6 t = some (t', o) → (∀ h', kR h' t' s → kE o Q h') → zz_J zp_P zt_tf zt_fd X d zm_194 30 [(0, .ref 2), (2, .int x2), (3, .int x3), (4, .int x4), (5, .int x5), (6, .int x6)] [] h Q) {Q : zz_O → zz_H → Prop} {x2 : Int32} {x3 : Int32} {x4 : Int32} {x5 : Int32} {x6 : Int32} {h : zz_H} {t t' : cS} {o : kY} (hR : kR h t s) (hf : cf_194_71 N X rk rc x2 x3 x4 x5 x6 t = some (t', o)) (k : (∀ h', kR h' t' s → kE o Q h')) : zz_J zp_P zt_tf zt_fd X d zm_194 71 [(0, .ref 2), (2, .int x2), (3, .int x3), (4, .int x4), (5, .int x5), (6, .int x6)] [] h Q := by
  unfold cf_194_71 at hf
  obtain ⟨d', rfl⟩ : ∃ d', d = d' + 1 := ⟨d - 1, by omega⟩
  refine cb_194_71 hR  (fun {h} hR => ?_)
  rcases ko_call_ok hf with ⟨g1, v1, er, hf⟩ | ⟨g1, er, hq⟩
  · obtain ⟨hv, hf2⟩ := co_v_ok hf
    clear hf
    have hf := hf2
    clear hf2
    subst hv
    refine cr_46 (by omega) hR er (fun h hR => ?_)
    exact cr_194_78 hrk hB hd hrc0 hR hf k
  · refine cr_46 (by omega) hR er (fun h hR => ?_)
    exact ko_thrown hq hR k
def cf_194_67 (N : Nat) (X : Nat → Option zz_C) (rk : Nat → List Value → cS → kO) (rc : Nat → Int32 → Int32 → Int32 → Int32 → Int32 → cS → kO) (x2 : Int32) (x3 : Int32) (x4 : Int32) (x5 : Int32) (x6 : Int32) (y1 : Int32) (t : cS) : kO := ko_call 5 (cf_202 N X y1 5 t) (fun g1 v1 => co_v v1 (cf_194_71 N X rk rc x2 x3 x4 x5 x6 g1))
theorem cr_194_67 {X : Nat → Option zz_C} {s : mS} {N : Nat} {rk : Nat → List Value → cS → kO} {D : Nat} (hrk : cK0 X s D rk) (hB : 10 ≤ D) {d : Nat} (hd : D + 1 ≤ d) {rc : Nat → Int32 → Int32 → Int32 → Int32 → Int32 → cS → kO} (hrc0 : ∀ {Q : zz_O → zz_H → Prop} {x2 : Int32} {x3 : Int32} {x4 : Int32} {x5 : Int32} {x6 : Int32} {h : zz_H} {t t' : cS} {o : kY}, kR h t s → rc 0 x2 x3 x4 x5 x6 t = some (t', o) → (∀ h', kR h' t' s → kE o Q h') → zz_J zp_P zt_tf zt_fd X d zm_194 30 [(0, .ref 2), (2, .int x2), (3, .int x3), (4, .int x4), (5, .int x5), (6, .int x6)] [] h Q) {Q : zz_O → zz_H → Prop} {x2 : Int32} {x3 : Int32} {x4 : Int32} {x5 : Int32} {x6 : Int32} {y1 : Int32} {h : zz_H} {t t' : cS} {o : kY} (hR : kR h t s) (hf : cf_194_67 N X rk rc x2 x3 x4 x5 x6 y1 t = some (t', o)) (k : (∀ h', kR h' t' s → kE o Q h')) : zz_J zp_P zt_tf zt_fd X d zm_194 67 [(0, .ref 2), (2, .int x2), (3, .int x3), (4, .int x4), (5, .int x5), (6, .int x6)] [.int y1, .ref 2] h Q := by
  unfold cf_194_67 at hf
  obtain ⟨d', rfl⟩ : ∃ d', d = d' + 1 := ⟨d - 1, by omega⟩
  refine cb_194_67 hR  (fun {h} hR => ?_)
  rcases ko_call_ok hf with ⟨g1, v1, er, hf⟩ | ⟨g1, er, hq⟩
  · obtain ⟨hv, hf2⟩ := co_v_ok hf
    clear hf
    have hf := hf2
    clear hf2
    subst hv
    refine cr_202 (by omega) hR er (fun h hR => ?_)
    exact cr_194_71 hrk hB hd hrc0 hR hf k
  · refine cr_202 (by omega) hR er (fun h hR => ?_)
    exact ko_thrown hq hR k
def cf_194_62 (N : Nat) (X : Nat → Option zz_C) (rk : Nat → List Value → cS → kO) (rc : Nat → Int32 → Int32 → Int32 → Int32 → Int32 → cS → kO) (x2 : Int32) (x3 : Int32) (x4 : Int32) (x5 : Int32) (x6 : Int32) (t : cS) : kO := cf_194_67 N X rk rc x2 x3 x4 x5 x6 1 t
theorem cr_194_62 {X : Nat → Option zz_C} {s : mS} {N : Nat} {rk : Nat → List Value → cS → kO} {D : Nat} (hrk : cK0 X s D rk) (hB : 10 ≤ D) {d : Nat} (hd : D + 1 ≤ d) {rc : Nat → Int32 → Int32 → Int32 → Int32 → Int32 → cS → kO} (hrc0 : ∀ {Q : zz_O → zz_H → Prop} {x2 : Int32} {x3 : Int32} {x4 : Int32} {x5 : Int32} {x6 : Int32} {h : zz_H} {t t' : cS} {o : kY}, kR h t s → rc 0 x2 x3 x4 x5 x6 t = some (t', o) → (∀ h', kR h' t' s → kE o Q h') → zz_J zp_P zt_tf zt_fd X d zm_194 30 [(0, .ref 2), (2, .int x2), (3, .int x3), (4, .int x4), (5, .int x5), (6, .int x6)] [] h Q) {Q : zz_O → zz_H → Prop} {x2 : Int32} {x3 : Int32} {x4 : Int32} {x5 : Int32} {x6 : Int32} {h : zz_H} {t t' : cS} {o : kY} (hR : kR h t s) (hf : cf_194_62 N X rk rc x2 x3 x4 x5 x6 t = some (t', o)) (k : (∀ h', kR h' t' s → kE o Q h')) : zz_J zp_P zt_tf zt_fd X d zm_194 62 [(0, .ref 2), (2, .int x2), (3, .int x3), (4, .int x4), (5, .int x5), (6, .int x6)] [.ref 2] h Q := by
  unfold cf_194_62 at hf
  exact cb_194_62 hR  (fun hR => cr_194_67 hrk hB hd hrc0 hR hf k)
def cf_194_66 (N : Nat) (X : Nat → Option zz_C) (rk : Nat → List Value → cS → kO) (rc : Nat → Int32 → Int32 → Int32 → Int32 → Int32 → cS → kO) (x2 : Int32) (x3 : Int32) (x4 : Int32) (x5 : Int32) (x6 : Int32) (t : cS) : kO := cf_194_67 N X rk rc x2 x3 x4 x5 x6 0 t
theorem cr_194_66 {X : Nat → Option zz_C} {s : mS} {N : Nat} {rk : Nat → List Value → cS → kO} {D : Nat} (hrk : cK0 X s D rk) (hB : 10 ≤ D) {d : Nat} (hd : D + 1 ≤ d) {rc : Nat → Int32 → Int32 → Int32 → Int32 → Int32 → cS → kO} (hrc0 : ∀ {Q : zz_O → zz_H → Prop} {x2 : Int32} {x3 : Int32} {x4 : Int32} {x5 : Int32} {x6 : Int32} {h : zz_H} {t t' : cS} {o : kY}, kR h t s → rc 0 x2 x3 x4 x5 x6 t = some (t', o) → (∀ h', kR h' t' s → kE o Q h') → zz_J zp_P zt_tf zt_fd X d zm_194 30 [(0, .ref 2), (2, .int x2), (3, .int x3), (4, .int x4), (5, .int x5), (6, .int x6)] [] h Q) {Q : zz_O → zz_H → Prop} {x2 : Int32} {x3 : Int32} {x4 : Int32} {x5 : Int32} {x6 : Int32} {h : zz_H} {t t' : cS} {o : kY} (hR : kR h t s) (hf : cf_194_66 N X rk rc x2 x3 x4 x5 x6 t = some (t', o)) (k : (∀ h', kR h' t' s → kE o Q h')) : zz_J zp_P zt_tf zt_fd X d zm_194 66 [(0, .ref 2), (2, .int x2), (3, .int x3), (4, .int x4), (5, .int x5), (6, .int x6)] [.ref 2] h Q := by
  unfold cf_194_66 at hf
  exact cb_194_66 hR  (fun hR => cr_194_67 hrk hB hd hrc0 hR hf k)
def cf_194_54 (N : Nat) (X : Nat → Option zz_C) (rk : Nat → List Value → cS → kO) (rc : Nat → Int32 → Int32 → Int32 → Int32 → Int32 → cS → kO) (x2 : Int32) (x3 : Int32) (x4 : Int32) (x5 : Int32) (x6 : Int32) (t : cS) : kO := if x4 ≤ x5 then cf_194_66 N X rk rc x2 x3 x4 x5 x6 t else cf_194_62 N X rk rc x2 x3 x4 x5 x6 t
theorem cr_194_54 {X : Nat → Option zz_C} {s : mS} {N : Nat} {rk : Nat → List Value → cS → kO} {D : Nat} (hrk : cK0 X s D rk) (hB : 10 ≤ D) {d : Nat} (hd : D + 1 ≤ d) {rc : Nat → Int32 → Int32 → Int32 → Int32 → Int32 → cS → kO} (hrc0 : ∀ {Q : zz_O → zz_H → Prop} {x2 : Int32} {x3 : Int32} {x4 : Int32} {x5 : Int32} {x6 : Int32} {h : zz_H} {t t' : cS} {o : kY}, kR h t s → rc 0 x2 x3 x4 x5 x6 t = some (t', o) → (∀ h', kR h' t' s → kE o Q h') → zz_J zp_P zt_tf zt_fd X d zm_194 30 [(0, .ref 2), (2, .int x2), (3, .int x3), (4, .int x4), (5, .int x5), (6, .int x6)] [] h Q) {Q : zz_O → zz_H → Prop} {x2 : Int32} {x3 : Int32} {x4 : Int32} {x5 : Int32} {x6 : Int32} {h : zz_H} {t t' : cS} {o : kY} (hR : kR h t s) (hf : cf_194_54 N X rk rc x2 x3 x4 x5 x6 t = some (t', o)) (k : (∀ h', kR h' t' s → kE o Q h')) : zz_J zp_P zt_tf zt_fd X d zm_194 54 [(0, .ref 2), (2, .int x2), (3, .int x3), (4, .int x4), (5, .int x5), (6, .int x6)] [] h Q := by
  unfold cf_194_54 at hf
  refine cb_194_54 hR  (fun c {h} hR => ?_) (fun c {h} hR => ?_)
  · rw [if_pos c] at hf
    exact cr_194_66 hrk hB hd hrc0 hR hf k
  · rw [if_neg c] at hf
    exact cr_194_62 hrk hB hd hrc0 hR hf k
def cf_194_49 (N : Nat) (X : Nat → Option zz_C) (rk : Nat → List Value → cS → kO) (rc : Nat → Int32 → Int32 → Int32 → Int32 → Int32 → cS → kO) (x2 : Int32) (x3 : Int32) (x4 : Int32) (x5 : Int32) (x6 : Int32) (y0 : Int32) (t : cS) : kO := if ¬ y0 = 44 then cf_194_92 N X rk x2 x3 x5 t else cf_194_54 N X rk rc x2 x3 x4 x5 x6 t
theorem cr_194_49 {X : Nat → Option zz_C} {s : mS} {N : Nat} {rk : Nat → List Value → cS → kO} {D : Nat} (hrk : cK0 X s D rk) (hB : 10 ≤ D) {d : Nat} (hd : D + 1 ≤ d) {rc : Nat → Int32 → Int32 → Int32 → Int32 → Int32 → cS → kO} (hrc0 : ∀ {Q : zz_O → zz_H → Prop} {x2 : Int32} {x3 : Int32} {x4 : Int32} {x5 : Int32} {x6 : Int32} {h : zz_H} {t t' : cS} {o : kY}, kR h t s → rc 0 x2 x3 x4 x5 x6 t = some (t', o) → (∀ h', kR h' t' s → kE o Q h') → zz_J zp_P zt_tf zt_fd X d zm_194 30 [(0, .ref 2), (2, .int x2), (3, .int x3), (4, .int x4), (5, .int x5), (6, .int x6)] [] h Q) {Q : zz_O → zz_H → Prop} {x2 : Int32} {x3 : Int32} {x4 : Int32} {x5 : Int32} {x6 : Int32} {y0 : Int32} {h : zz_H} {t t' : cS} {o : kY} (hR : kR h t s) (hf : cf_194_49 N X rk rc x2 x3 x4 x5 x6 y0 t = some (t', o)) (k : (∀ h', kR h' t' s → kE o Q h')) : zz_J zp_P zt_tf zt_fd X d zm_194 49 [(0, .ref 2), (2, .int x2), (3, .int x3), (4, .int x4), (5, .int x5), (6, .int x6)] [.int y0] h Q := by
  unfold cf_194_49 at hf
  refine cb_194_49 hR  (fun c {h} hR => ?_) (fun c {h} hR => ?_)
  · rw [if_pos c] at hf
    exact cr_194_92 hrk hB hd hR hf k
  · rw [if_neg c] at hf
    exact cr_194_54 hrk hB hd hrc0 hR hf k
def cf_194_42 (N : Nat) (X : Nat → Option zz_C) (rk : Nat → List Value → cS → kO) (rc : Nat → Int32 → Int32 → Int32 → Int32 → Int32 → cS → kO) (x2 : Int32) (x3 : Int32) (x4 : Int32) (x5 : Int32) (x6 : Int32) (t : cS) : kO := ko_call 10 (cf_42 N X  t) (fun g1 v1 => co_i v1 (fun y => cf_194_49 N X rk rc x2 x3 x4 x5 x6 y g1))
theorem cr_194_42 {X : Nat → Option zz_C} {s : mS} {N : Nat} {rk : Nat → List Value → cS → kO} {D : Nat} (hrk : cK0 X s D rk) (hB : 10 ≤ D) {d : Nat} (hd : D + 1 ≤ d) {rc : Nat → Int32 → Int32 → Int32 → Int32 → Int32 → cS → kO} (hrc0 : ∀ {Q : zz_O → zz_H → Prop} {x2 : Int32} {x3 : Int32} {x4 : Int32} {x5 : Int32} {x6 : Int32} {h : zz_H} {t t' : cS} {o : kY}, kR h t s → rc 0 x2 x3 x4 x5 x6 t = some (t', o) → (∀ h', kR h' t' s → kE o Q h') → zz_J zp_P zt_tf zt_fd X d zm_194 30 [(0, .ref 2), (2, .int x2), (3, .int x3), (4, .int x4), (5, .int x5), (6, .int x6)] [] h Q) {Q : zz_O → zz_H → Prop} {x2 : Int32} {x3 : Int32} {x4 : Int32} {x5 : Int32} {x6 : Int32} {h : zz_H} {t t' : cS} {o : kY} (hR : kR h t s) (hf : cf_194_42 N X rk rc x2 x3 x4 x5 x6 t = some (t', o)) (k : (∀ h', kR h' t' s → kE o Q h')) : zz_J zp_P zt_tf zt_fd X d zm_194 42 [(0, .ref 2), (2, .int x2), (3, .int x3), (4, .int x4), (5, .int x5), (6, .int x6)] [] h Q := by
  unfold cf_194_42 at hf
  obtain ⟨d', rfl⟩ : ∃ d', d = d' + 1 := ⟨d - 1, by omega⟩
  refine cb_194_42 hR  (fun {h} hR => ?_)
  rcases ko_call_ok hf with ⟨g1, v1, er, hf⟩ | ⟨g1, er, hq⟩
  · obtain ⟨y, hv, hf2⟩ := co_i_ok hf
    clear hf
    have hf := hf2
    clear hf2
    subst hv
    refine cr_42 (by omega) hR er (fun h hR => ?_)
    exact cr_194_49 hrk hB hd hrc0 hR hf k
  · refine cr_42 (by omega) hR er (fun h hR => ?_)
    exact ko_thrown hq hR k
def cf_194_39 (N : Nat) (X : Nat → Option zz_C) (rk : Nat → List Value → cS → kO) (rc : Nat → Int32 → Int32 → Int32 → Int32 → Int32 → cS → kO) (x2 : Int32) (x3 : Int32) (x4 : Int32) (x5 : Int32) (x6 : Int32) (y0 : Int32) (y1 : Int32) (t : cS) : kO := if y1 ≤ y0 then cf_194_92 N X rk x2 x3 x5 t else cf_194_42 N X rk rc x2 x3 x4 x5 x6 t
theorem cr_194_39 {X : Nat → Option zz_C} {s : mS} {N : Nat} {rk : Nat → List Value → cS → kO} {D : Nat} (hrk : cK0 X s D rk) (hB : 10 ≤ D) {d : Nat} (hd : D + 1 ≤ d) {rc : Nat → Int32 → Int32 → Int32 → Int32 → Int32 → cS → kO} (hrc0 : ∀ {Q : zz_O → zz_H → Prop} {x2 : Int32} {x3 : Int32} {x4 : Int32} {x5 : Int32} {x6 : Int32} {h : zz_H} {t t' : cS} {o : kY}, kR h t s → rc 0 x2 x3 x4 x5 x6 t = some (t', o) → (∀ h', kR h' t' s → kE o Q h') → zz_J zp_P zt_tf zt_fd X d zm_194 30 [(0, .ref 2), (2, .int x2), (3, .int x3), (4, .int x4), (5, .int x5), (6, .int x6)] [] h Q) {Q : zz_O → zz_H → Prop} {x2 : Int32} {x3 : Int32} {x4 : Int32} {x5 : Int32} {x6 : Int32} {y0 : Int32} {y1 : Int32} {h : zz_H} {t t' : cS} {o : kY} (hR : kR h t s) (hf : cf_194_39 N X rk rc x2 x3 x4 x5 x6 y0 y1 t = some (t', o)) (k : (∀ h', kR h' t' s → kE o Q h')) : zz_J zp_P zt_tf zt_fd X d zm_194 39 [(0, .ref 2), (2, .int x2), (3, .int x3), (4, .int x4), (5, .int x5), (6, .int x6)] [.int y1, .int y0] h Q := by
  unfold cf_194_39 at hf
  refine cb_194_39 hR  (fun c {h} hR => ?_) (fun c {h} hR => ?_)
  · rw [if_pos c] at hf
    exact cr_194_92 hrk hB hd hR hf k
  · rw [if_neg c] at hf
    exact cr_194_42 hrk hB hd hrc0 hR hf k
def cf_194_30 (N : Nat) (X : Nat → Option zz_C) (rk : Nat → List Value → cS → kO) (rc : Nat → Int32 → Int32 → Int32 → Int32 → Int32 → cS → kO) (x2 : Int32) (x3 : Int32) (x4 : Int32) (x5 : Int32) (x6 : Int32) (t : cS) : kO := ko_call 10 (cf_41 N X  t) (fun g1 v1 => co_i v1 (fun y => cf_194_39 N X rk rc x2 x3 x4 x5 x6 x6 y g1))
theorem cr_194_30 {X : Nat → Option zz_C} {s : mS} {N : Nat} {rk : Nat → List Value → cS → kO} {D : Nat} (hrk : cK0 X s D rk) (hB : 10 ≤ D) {d : Nat} (hd : D + 1 ≤ d) {rc : Nat → Int32 → Int32 → Int32 → Int32 → Int32 → cS → kO} (hrc0 : ∀ {Q : zz_O → zz_H → Prop} {x2 : Int32} {x3 : Int32} {x4 : Int32} {x5 : Int32} {x6 : Int32} {h : zz_H} {t t' : cS} {o : kY}, kR h t s → rc 0 x2 x3 x4 x5 x6 t = some (t', o) → (∀ h', kR h' t' s → kE o Q h') → zz_J zp_P zt_tf zt_fd X d zm_194 30 [(0, .ref 2), (2, .int x2), (3, .int x3), (4, .int x4), (5, .int x5), (6, .int x6)] [] h Q) {Q : zz_O → zz_H → Prop} {x2 : Int32} {x3 : Int32} {x4 : Int32} {x5 : Int32} {x6 : Int32} {h : zz_H} {t t' : cS} {o : kY} (hR : kR h t s) (hf : cf_194_30 N X rk rc x2 x3 x4 x5 x6 t = some (t', o)) (k : (∀ h', kR h' t' s → kE o Q h')) : zz_J zp_P zt_tf zt_fd X d zm_194 30 [(0, .ref 2), (2, .int x2), (3, .int x3), (4, .int x4), (5, .int x5), (6, .int x6)] [] h Q := by
  unfold cf_194_30 at hf
  obtain ⟨d', rfl⟩ : ∃ d', d = d' + 1 := ⟨d - 1, by omega⟩
  refine cb_194_30 hR  (fun {h} hR => ?_)
  rcases ko_call_ok hf with ⟨g1, v1, er, hf⟩ | ⟨g1, er, hq⟩
  · obtain ⟨y, hv, hf2⟩ := co_i_ok hf
    clear hf
    have hf := hf2
    clear hf2
    subst hv
    refine cr_41 (by omega) hR er (fun h hR => ?_)
    exact cr_194_39 hrk hB hd hrc0 hR hf k
  · refine cr_41 (by omega) hR er (fun h hR => ?_)
    exact ko_thrown hq hR k
def cf_194_L8 (N : Nat) (X : Nat → Option zz_C) (rk : Nat → List Value → cS → kO) : Nat → Nat → Int32 → Int32 → Int32 → Int32 → Int32 → cS → kO
  | 0, _, _, _, _, _, _, _ => none
  | n + 1, l, x2, x3, x4, x5, x6, t => if l = 0 then cf_194_30 N X rk (cf_194_L8 N X rk n) x2 x3 x4 x5 x6 t else none
theorem cr_194_L8 {X : Nat → Option zz_C} {s : mS} {N : Nat} {rk : Nat → List Value → cS → kO} {D : Nat} (hrk : cK0 X s D rk) (hB : 10 ≤ D) {d : Nat} (hd : D + 1 ≤ d) : ∀ n : Nat, (∀ {Q : zz_O → zz_H → Prop} {x2 : Int32} {x3 : Int32} {x4 : Int32} {x5 : Int32} {x6 : Int32} {h : zz_H} {t t' : cS} {o : kY}, kR h t s → cf_194_L8 N X rk n 0 x2 x3 x4 x5 x6 t = some (t', o) → (∀ h', kR h' t' s → kE o Q h') → zz_J zp_P zt_tf zt_fd X d zm_194 30 [(0, .ref 2), (2, .int x2), (3, .int x3), (4, .int x4), (5, .int x5), (6, .int x6)] [] h Q) := by
  intro n
  induction n with
  | zero => exact (fun _ hf _ => by cases hf)
  | succ n ih =>
    have h0 := @ih
    intro Q _ _ _ _ _ h t t' o hR hf k
    unfold cf_194_L8 at hf
    rw [if_pos rfl] at hf
    exact cr_194_30 hrk hB hd h0 hR hf k
def cf_194_24 (N : Nat) (X : Nat → Option zz_C) (rk : Nat → List Value → cS → kO) (x2 : Int32) (x3 : Int32) (x4 : Int32) (t : cS) : kO := cf_194_L8 N X rk N 0 x2 x3 x4 1 0 t
theorem cr_194_24 {X : Nat → Option zz_C} {s : mS} {N : Nat} {rk : Nat → List Value → cS → kO} {D : Nat} (hrk : cK0 X s D rk) (hB : 10 ≤ D) {d : Nat} (hd : D + 1 ≤ d) {Q : zz_O → zz_H → Prop} {x2 : Int32} {x3 : Int32} {x4 : Int32} {h : zz_H} {t t' : cS} {o : kY} (hR : kR h t s) (hf : cf_194_24 N X rk x2 x3 x4 t = some (t', o)) (k : (∀ h', kR h' t' s → kE o Q h')) : zz_J zp_P zt_tf zt_fd X d zm_194 24 [(0, .ref 2), (2, .int x2), (3, .int x3), (4, .int x4)] [] h Q := by
  unfold cf_194_24 at hf
  exact cb_194_24 hR  (fun hR => cr_194_L8 hrk hB hd N hR hf k)
def cf_194_19 (N : Nat) (X : Nat → Option zz_C) (rk : Nat → List Value → cS → kO) (x2 : Int32) (x3 : Int32) (x4 : Int32) (t : cS) : kO := ko_call 5 (rk 186 [.int 0] t) (fun g1 v1 => co_v v1 (cf_194_24 N X rk x2 x3 x4 g1))
theorem cr_194_19 {X : Nat → Option zz_C} {s : mS} {N : Nat} {rk : Nat → List Value → cS → kO} {D : Nat} (hrk : cK0 X s D rk) (hB : 10 ≤ D) {d : Nat} (hd : D + 1 ≤ d) {Q : zz_O → zz_H → Prop} {x2 : Int32} {x3 : Int32} {x4 : Int32} {h : zz_H} {t t' : cS} {o : kY} (hR : kR h t s) (hf : cf_194_19 N X rk x2 x3 x4 t = some (t', o)) (k : (∀ h', kR h' t' s → kE o Q h')) : zz_J zp_P zt_tf zt_fd X d zm_194 19 [(0, .ref 2), (2, .int x2), (3, .int x3), (4, .int x4)] [] h Q := by
  unfold cf_194_19 at hf
  obtain ⟨d', rfl⟩ : ∃ d', d = d' + 1 := ⟨d - 1, by omega⟩
  refine cb_194_19 hR  (fun {h} hR => ?_)
  rcases ko_call_ok hf with ⟨g1, v1, er, hf⟩ | ⟨g1, er, hq⟩
  · obtain ⟨hv, hf2⟩ := co_v_ok hf
    clear hf
    have hf := hf2
    clear hf2
    subst hv
    refine hrk.1 (by omega) hR er (fun h hR => ?_)
    exact cr_194_24 hrk hB hd hR hf k
  · refine hrk.1 (by omega) hR er (fun h hR => ?_)
    exact ko_thrown hq hR k
def cf_194_15 (N : Nat) (X : Nat → Option zz_C) (rk : Nat → List Value → cS → kO) (x2 : Int32) (x3 : Int32) (x4 : Int32) (x5 : Int32) (y0 : Int32) (t : cS) : kO := if y0 = x2 then cf_194_92 N X rk x2 x3 x5 t else cf_194_19 N X rk x2 x3 x4 t
theorem cr_194_15 {X : Nat → Option zz_C} {s : mS} {N : Nat} {rk : Nat → List Value → cS → kO} {D : Nat} (hrk : cK0 X s D rk) (hB : 10 ≤ D) {d : Nat} (hd : D + 1 ≤ d) {Q : zz_O → zz_H → Prop} {x2 : Int32} {x3 : Int32} {x4 : Int32} {x5 : Int32} {y0 : Int32} {h : zz_H} {t t' : cS} {o : kY} (hR : kR h t s) (hf : cf_194_15 N X rk x2 x3 x4 x5 y0 t = some (t', o)) (k : (∀ h', kR h' t' s → kE o Q h')) : zz_J zp_P zt_tf zt_fd X d zm_194 15 [(0, .ref 2), (2, .int x2), (3, .int x3), (4, .int x4), (5, .int x5)] [.int y0] h Q := by
  unfold cf_194_15 at hf
  refine cb_194_15 hR  (fun c {h} hR => ?_) (fun c {h} hR => ?_)
  · rw [if_pos c] at hf
    exact cr_194_92 hrk hB hd hR hf k
  · rw [if_neg c] at hf
    exact cr_194_19 hrk hB hd hR hf k
def cf_194_5 (N : Nat) (X : Nat → Option zz_C) (rk : Nat → List Value → cS → kO) (x2 : Int32) (x3 : Int32) (x4 : Int32) (t : cS) : kO := ko_call 10 (cf_42 N X  t) (fun g1 v1 => co_i v1 (fun y => cf_194_15 N X rk x2 x3 x4 0 y g1))
theorem cr_194_5 {X : Nat → Option zz_C} {s : mS} {N : Nat} {rk : Nat → List Value → cS → kO} {D : Nat} (hrk : cK0 X s D rk) (hB : 10 ≤ D) {d : Nat} (hd : D + 1 ≤ d) {Q : zz_O → zz_H → Prop} {x2 : Int32} {x3 : Int32} {x4 : Int32} {h : zz_H} {t t' : cS} {o : kY} (hR : kR h t s) (hf : cf_194_5 N X rk x2 x3 x4 t = some (t', o)) (k : (∀ h', kR h' t' s → kE o Q h')) : zz_J zp_P zt_tf zt_fd X d zm_194 5 [(0, .ref 2), (2, .int x2), (3, .int x3), (4, .int x4)] [] h Q := by
  unfold cf_194_5 at hf
  obtain ⟨d', rfl⟩ : ∃ d', d = d' + 1 := ⟨d - 1, by omega⟩
  refine cb_194_5 hR  (fun {h} hR => ?_)
  rcases ko_call_ok hf with ⟨g1, v1, er, hf⟩ | ⟨g1, er, hq⟩
  · obtain ⟨y, hv, hf2⟩ := co_i_ok hf
    clear hf
    have hf := hf2
    clear hf2
    subst hv
    refine cr_42 (by omega) hR er (fun h hR => ?_)
    exact cr_194_15 hrk hB hd hR hf k
  · refine cr_42 (by omega) hR er (fun h hR => ?_)
    exact ko_thrown hq hR k
def cf_194_0 (N : Nat) (X : Nat → Option zz_C) (rk : Nat → List Value → cS → kO) (x1 : Int32) (x2 : Int32) (x3 : Int32) (x4 : Int32) (t : cS) : kO := ko_call 5 (cf_201 N X x1 t) (fun g1 v1 => co_v v1 (cf_194_5 N X rk x2 x3 x4 g1))
theorem cr_194_0 {X : Nat → Option zz_C} {s : mS} {N : Nat} {rk : Nat → List Value → cS → kO} {D : Nat} (hrk : cK0 X s D rk) (hB : 10 ≤ D) {d : Nat} (hd : D + 1 ≤ d) {Q : zz_O → zz_H → Prop} {x1 : Int32} {x2 : Int32} {x3 : Int32} {x4 : Int32} {h : zz_H} {t t' : cS} {o : kY} (hR : kR h t s) (hf : cf_194_0 N X rk x1 x2 x3 x4 t = some (t', o)) (k : (∀ h', kR h' t' s → kE o Q h')) : zz_J zp_P zt_tf zt_fd X d zm_194 0 [(0, .ref 2), (1, .int x1), (2, .int x2), (3, .int x3), (4, .int x4)] [] h Q := by
  unfold cf_194_0 at hf
  obtain ⟨d', rfl⟩ : ∃ d', d = d' + 1 := ⟨d - 1, by omega⟩
  refine cb_194_0 hR  (fun {h} hR => ?_)
  rcases ko_call_ok hf with ⟨g1, v1, er, hf⟩ | ⟨g1, er, hq⟩
  · obtain ⟨hv, hf2⟩ := co_v_ok hf
    clear hf
    have hf := hf2
    clear hf2
    subst hv
    refine cr_201 (by omega) hR er (fun h hR => ?_)
    exact cr_194_5 hrk hB hd hR hf k
  · refine cr_201 (by omega) hR er (fun h hR => ?_)
    exact ko_thrown hq hR k
/-- list -/
def cf_194 (N : Nat) (X : Nat → Option zz_C) (rk : Nat → List Value → cS → kO) (x1 : Int32) (x2 : Int32) (x3 : Int32) (x4 : Int32) (t : cS) : kO := cf_194_0 N X rk x1 x2 x3 x4 t
theorem cr_194 {X : Nat → Option zz_C} {s : mS} {N : Nat} {rk : Nat → List Value → cS → kO} {D : Nat} (hrk : cK0 X s D rk) (hB : 10 ≤ D) {d : Nat} (hd : D + 1 ≤ d) {Q : zz_O → zz_H → Prop} {x1 : Int32} {x2 : Int32} {x3 : Int32} {x4 : Int32} {h : zz_H} {t t' : cS} {o : kY} (hR : kR h t s) (hf : cf_194 N X rk x1 x2 x3 x4 t = some (t', o)) (k : ∀ h', kR h' t' s → kE o Q h') : zz_J zp_P zt_tf zt_fd X d zm_194 0 [(0, .ref 2), (1, .int x1), (2, .int x2), (3, .int x3), (4, .int x4)] [] h Q := by
  unfold cf_194 at hf
  exact zz_J.weak (cr_194_0 hrk hB hd hR hf k) rfl ⟨rfl, rfl, rfl, rfl, rfl, trivial⟩
def cf_S0 (N : Nat) (X : Nat → Option zz_C) : Nat → Nat → List Value → cS → kO
  | 0, _, _, _ => none
  | n + 1, id, as, t => if id = 186 then (match as with
    | [.int x1] => cf_186 N X (cf_S0 N X n) x1 t
    | _ => none) else if id = 188 then (match as with
    | [] => cf_188 N X (cf_S0 N X n)  t
    | _ => none) else if id = 189 then (match as with
    | [] => cf_189 N X (cf_S0 N X n)  t
    | _ => none) else if id = 190 then (match as with
    | [] => cf_190 N X (cf_S0 N X n)  t
    | _ => none) else if id = 191 then (match as with
    | [] => cf_191 N X (cf_S0 N X n)  t
    | _ => none) else if id = 192 then (match as with
    | [.ref x1] => cf_192 N X (cf_S0 N X n) x1 t
    | _ => none) else if id = 193 then (match as with
    | [.int x1, .int x2] => cf_193 N X (cf_S0 N X n) x1 x2 t
    | _ => none) else if id = 194 then (match as with
    | [.int x1, .int x2, .int x3, .int x4] => cf_194 N X (cf_S0 N X n) x1 x2 x3 x4 t
    | _ => none) else none
theorem cr_S0 {X : Nat → Option zz_C} {s : mS} {N : Nat} : ∀ n : Nat, cK0 X s (10 + n) (cf_S0 N X n) := by
  intro n
  induction n with
  | zero =>
    refine ⟨?_, ?_, ?_, ?_, ?_, ?_, ?_, ?_⟩
    · intro d _ Q _ h t t' o _ hf _
      cases hf
    · intro d _ Q  h t t' o _ hf _
      cases hf
    · intro d _ Q  h t t' o _ hf _
      cases hf
    · intro d _ Q  h t t' o _ hf _
      cases hf
    · intro d _ Q  h t t' o _ hf _
      cases hf
    · intro d _ Q _ h t t' o _ hf _
      cases hf
    · intro d _ Q _ _ h t t' o _ hf _
      cases hf
    · intro d _ Q _ _ _ _ h t t' o _ hf _
      cases hf
  | succ n ih =>
    refine ⟨?_, ?_, ?_, ?_, ?_, ?_, ?_, ?_⟩
    · intro d hd Q _ h t t' o hR hf k
      unfold cf_S0 at hf
      rw [if_pos rfl] at hf
      exact cr_186 (D := 10 + n) ih (Nat.le_add_right _ _) (by omega) hR hf k
    · intro d hd Q  h t t' o hR hf k
      unfold cf_S0 at hf
      rw [if_neg (by decide)] at hf
      rw [if_pos rfl] at hf
      exact cr_188 (D := 10 + n) ih (Nat.le_add_right _ _) (by omega) hR hf k
    · intro d hd Q  h t t' o hR hf k
      unfold cf_S0 at hf
      rw [if_neg (by decide)] at hf
      rw [if_neg (by decide)] at hf
      rw [if_pos rfl] at hf
      exact cr_189 (D := 10 + n) ih (Nat.le_add_right _ _) (by omega) hR hf k
    · intro d hd Q  h t t' o hR hf k
      unfold cf_S0 at hf
      rw [if_neg (by decide)] at hf
      rw [if_neg (by decide)] at hf
      rw [if_neg (by decide)] at hf
      rw [if_pos rfl] at hf
      exact cr_190 (D := 10 + n) ih (Nat.le_add_right _ _) (by omega) hR hf k
    · intro d hd Q  h t t' o hR hf k
      unfold cf_S0 at hf
      rw [if_neg (by decide)] at hf
      rw [if_neg (by decide)] at hf
      rw [if_neg (by decide)] at hf
      rw [if_neg (by decide)] at hf
      rw [if_pos rfl] at hf
      exact cr_191 (D := 10 + n) ih (Nat.le_add_right _ _) (by omega) hR hf k
    · intro d hd Q _ h t t' o hR hf k
      unfold cf_S0 at hf
      rw [if_neg (by decide)] at hf
      rw [if_neg (by decide)] at hf
      rw [if_neg (by decide)] at hf
      rw [if_neg (by decide)] at hf
      rw [if_neg (by decide)] at hf
      rw [if_pos rfl] at hf
      exact cr_192 (D := 10 + n) ih (Nat.le_add_right _ _) (by omega) hR hf k
    · intro d hd Q _ _ h t t' o hR hf k
      unfold cf_S0 at hf
      rw [if_neg (by decide)] at hf
      rw [if_neg (by decide)] at hf
      rw [if_neg (by decide)] at hf
      rw [if_neg (by decide)] at hf
      rw [if_neg (by decide)] at hf
      rw [if_neg (by decide)] at hf
      rw [if_pos rfl] at hf
      exact cr_193 (D := 10 + n) ih (Nat.le_add_right _ _) (by omega) hR hf k
    · intro d hd Q _ _ _ _ h t t' o hR hf k
      unfold cf_S0 at hf
      rw [if_neg (by decide)] at hf
      rw [if_neg (by decide)] at hf
      rw [if_neg (by decide)] at hf
      rw [if_neg (by decide)] at hf
      rw [if_neg (by decide)] at hf
      rw [if_neg (by decide)] at hf
      rw [if_neg (by decide)] at hf
      rw [if_pos rfl] at hf
      exact cr_194 (D := 10 + n) ih (Nat.le_add_right _ _) (by omega) hR hf k
