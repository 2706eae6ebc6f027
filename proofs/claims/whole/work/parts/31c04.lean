/-! yX5_plainStatement (II)V -/
theorem cb_179_0 {X : Nat → Option zz_C} {h : zz_H} {t : cS} {s : mS} {d : Nat} {Q : zz_O → zz_H → Prop} {x1 : Int32} {x2 : Int32} (hR : kR h t s) (k : ∀ {h : zz_H}, kR h t s → zz_J zp_P zt_tf zt_fd X d zm_46 0 [(0, .ref 3)] [] h (zz_after 10 Q (fun v h' => zz_J zp_P zt_tf zt_fd X (d + 1) zm_179 7 [(0, .ref 2), (1, .int x1), (2, .int x2)] (v.toList ++ []) h' Q))) : zz_J zp_P zt_tf zt_fd X (d + 1) zm_179 0 [(0, .ref 2), (1, .int x1), (2, .int x2)] [] h Q := by
  refine zz_J.n 1 rfl rfl rfl ?_
  refine zz_J.g 4 rfl (hR.gv (v := .ref 3) ko_2 (by decide) rfl) rfl ?_
  refine zz_J.cv 7 (as := []) rfl rfl (hR.clO ko_3 (by decide) (by decide)) (by decide) (Nat.le_of_ble_eq_true rfl) (Nat.le_of_ble_eq_true rfl) rfl (Nat.le_of_ble_eq_true rfl) rfl ?_
  refine zz_J.mono (k hR) ?_
  intro o h' hE
  cases o with
  | inl v => exact zz_J.weak hE rfl ⟨rfl, rfl, rfl, trivial⟩
  | inr q => exact hE
theorem cb_179_7 {X : Nat → Option zz_C} {h : zz_H} {t : cS} {s : mS} {d : Nat} {Q : zz_O → zz_H → Prop} {x1 : Int32} {x2 : Int32} (hR : kR h t s) (k : ∀ {h : zz_H}, kR h t s → zz_J zp_P zt_tf zt_fd X d zm_186 0 [(0, .ref 2), (1, .int 0)] [] h (zz_after 5 Q (fun v h' => zz_J zp_P zt_tf zt_fd X (d + 1) zm_179 12 [(0, .ref 2), (1, .int x1), (2, .int x2)] (v.toList ++ []) h' Q))) : zz_J zp_P zt_tf zt_fd X (d + 1) zm_179 7 [(0, .ref 2), (1, .int x1), (2, .int x2)] [] h Q := by
  refine zz_J.n 8 rfl rfl rfl ?_
  refine zz_J.c 9 (.int 0) rfl rfl rfl rfl ?_
  refine zz_J.cv 12 (as := []) rfl rfl (hR.clO ko_2 (by decide) (by decide)) (by decide) (Nat.le_of_ble_eq_true rfl) (Nat.le_of_ble_eq_true rfl) rfl (Nat.le_of_ble_eq_true rfl) rfl ?_
  refine zz_J.mono (k hR) ?_
  intro o h' hE
  cases o with
  | inl v => exact zz_J.weak hE rfl ⟨rfl, rfl, rfl, trivial⟩
  | inr q => exact hE
theorem cb_179_12 {X : Nat → Option zz_C} {h : zz_H} {t : cS} {s : mS} {d : Nat} {Q : zz_O → zz_H → Prop} {x1 : Int32} {x2 : Int32} (hR : kR h t s) (k : ∀ {h : zz_H}, kR h t s → zz_J zp_P zt_tf zt_fd X d zm_201 0 [(0, .ref 2), (1, .int 59)] [] h (zz_after 5 Q (fun v h' => zz_J zp_P zt_tf zt_fd X (d + 1) zm_179 18 [(0, .ref 2), (1, .int x1), (2, .int x2)] (v.toList ++ []) h' Q))) : zz_J zp_P zt_tf zt_fd X (d + 1) zm_179 12 [(0, .ref 2), (1, .int x1), (2, .int x2)] [] h Q := by
  refine zz_J.n 13 rfl rfl rfl ?_
  refine zz_J.c 15 (.int 59) rfl rfl rfl rfl ?_
  refine zz_J.cv 18 (as := []) rfl rfl (hR.clO ko_2 (by decide) (by decide)) (by decide) (Nat.le_of_ble_eq_true rfl) (Nat.le_of_ble_eq_true rfl) rfl (Nat.le_of_ble_eq_true rfl) rfl ?_
  refine zz_J.mono (k hR) ?_
  intro o h' hE
  cases o with
  | inl v => exact zz_J.weak hE rfl ⟨rfl, rfl, rfl, trivial⟩
  | inr q => exact hE
theorem cb_179_18 {X : Nat → Option zz_C} {h : zz_H} {t : cS} {s : mS} {d : Nat} {Q : zz_O → zz_H → Prop} {x1 : Int32} {x2 : Int32} (hR : kR h t s) {w0 : Nat} (e0 : (kP t 2 1) = some w0) (e1 : w0 = 12 ∨ w0 = 21) (k : ∀ {h : zz_H}, kR h t s → zz_J zp_P zt_tf zt_fd X d zm_209 0 [(0, .ref w0), (1, .int x1), (2, .int 0), (3, .int x2)] [] h (zz_after 6 Q (fun v h' => zz_J zp_P zt_tf zt_fd X (d + 1) zm_179 28 [] (v.toList ++ []) h' Q))) : zz_J zp_P zt_tf zt_fd X (d + 1) zm_179 18 [(0, .ref 2), (1, .int x1), (2, .int x2)] [] h Q := by
  refine zz_J.n 19 rfl rfl rfl ?_
  refine zz_J.g 22 rfl (hR.gv (v := .ref w0) ko_2 (by decide) ((congrArg (fun q => some (zz_rv q)) e0).trans rfl)) rfl ?_
  refine zz_J.n 23 rfl rfl rfl ?_
  refine zz_J.c 24 (.int 0) rfl rfl rfl rfl ?_
  refine zz_J.n 25 rfl rfl rfl ?_
  refine zz_J.cv 28 (as := []) rfl rfl (hR.clO (ko_P e1) (by decide) (by decide)) (by decide) (Nat.le_of_ble_eq_true rfl) (Nat.le_of_ble_eq_true rfl) rfl (Nat.le_of_ble_eq_true rfl) rfl ?_
  refine zz_J.mono (k hR) ?_
  intro o h' hE
  cases o with
  | inl v => exact zz_J.weak hE rfl trivial
  | inr q => exact hE
theorem cb_179_28 {X : Nat → Option zz_C} {h : zz_H} {t : cS} {s : mS} {d : Nat} {Q : zz_O → zz_H → Prop} {y0 : Int32} (hR : kR h t s) (k : ∀ {h : zz_H}, kR h t s → Q (.inl none) h) : zz_J zp_P zt_tf zt_fd X d zm_179 28 [] [.int y0] h Q := by
  refine zz_J.n 29 rfl rfl rfl ?_
  refine zz_J.ret rfl rfl rfl ?_
  exact k hR
def cf_179_28 (N : Nat) (X : Nat → Option zz_C) (y0 : Int32) (t : cS) : kO := some (t, .inl none)
theorem cr_179_28 {X : Nat → Option zz_C} {s : mS} {N : Nat} {d : Nat} (hd : 161 ≤ d) {Q : zz_O → zz_H → Prop} {y0 : Int32} {h : zz_H} {t t' : cS} {o : kY} (hR : kR h t s) (hf : cf_179_28 N X y0 t = some (t', o)) (k : (∀ h', kR h' t' s → kE o Q h')) : zz_J zp_P zt_tf zt_fd X d zm_179 28 [] [.int y0] h Q := by
  unfold cf_179_28 at hf
  cases hf
  exact cb_179_28 hR  (fun {h} hR => k h hR)
def cf_179_18 (N : Nat) (X : Nat → Option zz_C) (x1 : Int32) (x2 : Int32) (t : cS) : kO := co_b ((kP t 2 1)) (fun w0 => if w0 = 12 ∨ w0 = 21 then (ko_call 6 (cf_209 N X w0 x1 0 x2 t) (fun g1 v1 => co_i v1 (fun y => cf_179_28 N X y g1))) else none)
theorem cr_179_18 {X : Nat → Option zz_C} {s : mS} {N : Nat} {d : Nat} (hd : 161 ≤ d) {Q : zz_O → zz_H → Prop} {x1 : Int32} {x2 : Int32} {h : zz_H} {t t' : cS} {o : kY} (hR : kR h t s) (hf : cf_179_18 N X x1 x2 t = some (t', o)) (k : (∀ h', kR h' t' s → kE o Q h')) : zz_J zp_P zt_tf zt_fd X d zm_179 18 [(0, .ref 2), (1, .int x1), (2, .int x2)] [] h Q := by
  unfold cf_179_18 at hf
  obtain ⟨w0, e0, hf⟩ := co_b_ok hf
  obtain ⟨e1, hf⟩ := ko_if hf
  obtain ⟨d', rfl⟩ : ∃ d', d = d' + 1 := ⟨d - 1, by omega⟩
  refine cb_179_18 hR e0 e1 (fun {h} hR => ?_)
  rcases ko_call_ok hf with ⟨g1, v1, er, hf⟩ | ⟨g1, er, hq⟩
  · obtain ⟨y, hv, hf2⟩ := co_i_ok hf
    clear hf
    have hf := hf2
    clear hf2
    subst hv
    refine cr_209 (by omega) hR er (fun h hR => ?_)
    exact cr_179_28 hd hR hf k
  · refine cr_209 (by omega) hR er (fun h hR => ?_)
    exact ko_thrown hq hR k
def cf_179_12 (N : Nat) (X : Nat → Option zz_C) (x1 : Int32) (x2 : Int32) (t : cS) : kO := ko_call 5 (cf_201 N X 59 t) (fun g1 v1 => co_v v1 (cf_179_18 N X x1 x2 g1))
theorem cr_179_12 {X : Nat → Option zz_C} {s : mS} {N : Nat} {d : Nat} (hd : 161 ≤ d) {Q : zz_O → zz_H → Prop} {x1 : Int32} {x2 : Int32} {h : zz_H} {t t' : cS} {o : kY} (hR : kR h t s) (hf : cf_179_12 N X x1 x2 t = some (t', o)) (k : (∀ h', kR h' t' s → kE o Q h')) : zz_J zp_P zt_tf zt_fd X d zm_179 12 [(0, .ref 2), (1, .int x1), (2, .int x2)] [] h Q := by
  unfold cf_179_12 at hf
  obtain ⟨d', rfl⟩ : ∃ d', d = d' + 1 := ⟨d - 1, by omega⟩
  refine cb_179_12 hR  (fun {h} hR => ?_)
  rcases ko_call_ok hf with ⟨g1, v1, er, hf⟩ | ⟨g1, er, hq⟩
  · obtain ⟨hv, hf2⟩ := co_v_ok hf
    clear hf
    have hf := hf2
    clear hf2
    subst hv
    refine cr_201 (by omega) hR er (fun h hR => ?_)
    exact cr_179_18 hd hR hf k
  · refine cr_201 (by omega) hR er (fun h hR => ?_)
    exact ko_thrown hq hR k
def cf_179_7 (N : Nat) (X : Nat → Option zz_C) (x1 : Int32) (x2 : Int32) (t : cS) : kO := ko_call 5 (cf_S0 N X 150 186 [.int 0] t) (fun g1 v1 => co_v v1 (cf_179_12 N X x1 x2 g1))
theorem cr_179_7 {X : Nat → Option zz_C} {s : mS} {N : Nat} {d : Nat} (hd : 161 ≤ d) {Q : zz_O → zz_H → Prop} {x1 : Int32} {x2 : Int32} {h : zz_H} {t t' : cS} {o : kY} (hR : kR h t s) (hf : cf_179_7 N X x1 x2 t = some (t', o)) (k : (∀ h', kR h' t' s → kE o Q h')) : zz_J zp_P zt_tf zt_fd X d zm_179 7 [(0, .ref 2), (1, .int x1), (2, .int x2)] [] h Q := by
  unfold cf_179_7 at hf
  obtain ⟨d', rfl⟩ : ∃ d', d = d' + 1 := ⟨d - 1, by omega⟩
  refine cb_179_7 hR  (fun {h} hR => ?_)
  rcases ko_call_ok hf with ⟨g1, v1, er, hf⟩ | ⟨g1, er, hq⟩
  · obtain ⟨hv, hf2⟩ := co_v_ok hf
    clear hf
    have hf := hf2
    clear hf2
    subst hv
    refine (cr_S0 150).1 (by omega) hR er (fun h hR => ?_)
    exact cr_179_12 hd hR hf k
  · refine (cr_S0 150).1 (by omega) hR er (fun h hR => ?_)
    exact ko_thrown hq hR k
def cf_179_0 (N : Nat) (X : Nat → Option zz_C) (x1 : Int32) (x2 : Int32) (t : cS) : kO := ko_call 10 (cf_46 N X  t) (fun g1 v1 => co_v v1 (cf_179_7 N X x1 x2 g1))
theorem cr_179_0 {X : Nat → Option zz_C} {s : mS} {N : Nat} {d : Nat} (hd : 161 ≤ d) {Q : zz_O → zz_H → Prop} {x1 : Int32} {x2 : Int32} {h : zz_H} {t t' : cS} {o : kY} (hR : kR h t s) (hf : cf_179_0 N X x1 x2 t = some (t', o)) (k : (∀ h', kR h' t' s → kE o Q h')) : zz_J zp_P zt_tf zt_fd X d zm_179 0 [(0, .ref 2), (1, .int x1), (2, .int x2)] [] h Q := by
  unfold cf_179_0 at hf
  obtain ⟨d', rfl⟩ : ∃ d', d = d' + 1 := ⟨d - 1, by omega⟩
  refine cb_179_0 hR  (fun {h} hR => ?_)
  rcases ko_call_ok hf with ⟨g1, v1, er, hf⟩ | ⟨g1, er, hq⟩
  · obtain ⟨hv, hf2⟩ := co_v_ok hf
    clear hf
    have hf := hf2
    clear hf2
    subst hv
    refine cr_46 (by omega) hR er (fun h hR => ?_)
    exact cr_179_7 hd hR hf k
  · refine cr_46 (by omega) hR er (fun h hR => ?_)
    exact ko_thrown hq hR k
/-- plainStatement -/
def cf_179 (N : Nat) (X : Nat → Option zz_C) (x1 : Int32) (x2 : Int32) (t : cS) : kO := cf_179_0 N X x1 x2 t
theorem cr_179 {X : Nat → Option zz_C} {s : mS} {N : Nat} {d : Nat} (hd : 161 ≤ d) {Q : zz_O → zz_H → Prop} {x1 : Int32} {x2 : Int32} {h : zz_H} {t t' : cS} {o : kY} (hR : kR h t s) (hf : cf_179 N X x1 x2 t = some (t', o)) (k : ∀ h', kR h' t' s → kE o Q h') : zz_J zp_P zt_tf zt_fd X d zm_179 0 [(0, .ref 2), (1, .int x1), (2, .int x2)] [] h Q := by
  unfold cf_179 at hf
  exact zz_J.weak (cr_179_0 hd hR hf k) rfl ⟨rfl, rfl, rfl, trivial⟩
/-! yX5_assignment ()V -/
theorem cb_180_0 {X : Nat → Option zz_C} {h : zz_H} {t : cS} {s : mS} {d : Nat} {Q : zz_O → zz_H → Prop}  (hR : kR h t s) (k : ∀ {h : zz_H}, kR h t s → zz_J zp_P zt_tf zt_fd X d zm_243 0 [(0, .ref 3)] [] h (zz_after 10 Q (fun v h' => zz_J zp_P zt_tf zt_fd X (d + 1) zm_180 7 [(0, .ref 2)] (v.toList ++ []) h' Q))) : zz_J zp_P zt_tf zt_fd X (d + 1) zm_180 0 [(0, .ref 2)] [] h Q := by
  refine zz_J.n 1 rfl rfl rfl ?_
  refine zz_J.g 4 rfl (hR.gv (v := .ref 3) ko_2 (by decide) rfl) rfl ?_
  refine zz_J.cv 7 (as := []) rfl rfl (hR.clO ko_3 (by decide) (by decide)) (by decide) (Nat.le_of_ble_eq_true rfl) (Nat.le_of_ble_eq_true rfl) rfl (Nat.le_of_ble_eq_true rfl) rfl ?_
  refine zz_J.mono (k hR) ?_
  intro o h' hE
  cases o with
  | inl v => exact zz_J.weak hE rfl ⟨rfl, trivial⟩
  | inr q => exact hE
theorem cb_180_7 {X : Nat → Option zz_C} {h : zz_H} {t : cS} {s : mS} {d : Nat} {Q : zz_O → zz_H → Prop} {y0 : Int32} (hR : kR h t s) (k : ∀ {h : zz_H}, kR h t s → zz_J zp_P zt_tf zt_fd X d zm_195 0 [(0, .ref 2)] [] h (zz_after 5 Q (fun v h' => zz_J zp_P zt_tf zt_fd X (d + 1) zm_180 12 [(0, .ref 2), (1, .int y0)] (v.toList ++ []) h' Q))) : zz_J zp_P zt_tf zt_fd X (d + 1) zm_180 7 [(0, .ref 2)] [.int y0] h Q := by
  refine zz_J.n 8 rfl rfl rfl ?_
  refine zz_J.n 9 rfl rfl rfl ?_
  refine zz_J.cv 12 (as := []) rfl rfl (hR.clO ko_2 (by decide) (by decide)) (by decide) (Nat.le_of_ble_eq_true rfl) (Nat.le_of_ble_eq_true rfl) rfl (Nat.le_of_ble_eq_true rfl) rfl ?_
  refine zz_J.mono (k hR) ?_
  intro o h' hE
  cases o with
  | inl v => exact zz_J.weak hE rfl ⟨rfl, rfl, trivial⟩
  | inr q => exact hE
theorem cb_180_12 {X : Nat → Option zz_C} {h : zz_H} {t : cS} {s : mS} {d : Nat} {Q : zz_O → zz_H → Prop} {x1 : Int32} {y0 : Int32} (hR : kR h t s) (k : ∀ {h : zz_H}, kR h t s → zz_J zp_P zt_tf zt_fd X d zm_243 0 [(0, .ref 3)] [] h (zz_after 10 Q (fun v h' => zz_J zp_P zt_tf zt_fd X (d + 1) zm_180 22 [(0, .ref 2), (1, .int x1), (2, .int y0), (3, .int 0)] (v.toList ++ []) h' Q))) : zz_J zp_P zt_tf zt_fd X (d + 1) zm_180 12 [(0, .ref 2), (1, .int x1)] [.int y0] h Q := by
  refine zz_J.n 13 rfl rfl rfl ?_
  refine zz_J.c 14 (.int 0) rfl rfl rfl rfl ?_
  refine zz_J.n 15 rfl rfl rfl ?_
  refine zz_J.n 16 rfl rfl rfl ?_
  refine zz_J.g 19 rfl (hR.gv (v := .ref 3) ko_2 (by decide) rfl) rfl ?_
  refine zz_J.cv 22 (as := []) rfl rfl (hR.clO ko_3 (by decide) (by decide)) (by decide) (Nat.le_of_ble_eq_true rfl) (Nat.le_of_ble_eq_true rfl) rfl (Nat.le_of_ble_eq_true rfl) rfl ?_
  refine zz_J.mono (k hR) ?_
  intro o h' hE
  cases o with
  | inl v => exact zz_J.weak hE rfl ⟨rfl, rfl, rfl, rfl, trivial⟩
  | inr q => exact hE
theorem cb_180_22 {X : Nat → Option zz_C} {h : zz_H} {t : cS} {s : mS} {d : Nat} {Q : zz_O → zz_H → Prop} {x1 : Int32} {x2 : Int32} {x3 : Int32} {y0 : Int32} (hR : kR h t s) (k : ∀ {h : zz_H}, kR h t s → zz_J zp_P zt_tf zt_fd X d zm_180 28 [(0, .ref 2), (1, .int x1), (2, .int x2), (3, .int x3), (4, .int y0), (5, .int y0)] [] h Q) : zz_J zp_P zt_tf zt_fd X d zm_180 22 [(0, .ref 2), (1, .int x1), (2, .int x2), (3, .int x3)] [.int y0] h Q := by
  refine zz_J.n 24 rfl rfl rfl ?_
  refine zz_J.n 26 rfl rfl rfl ?_
  refine zz_J.n 28 rfl rfl rfl ?_
  exact zz_J.weak (k hR) rfl ⟨rfl, rfl, rfl, rfl, rfl, rfl, trivial⟩
theorem cb_180_28 {X : Nat → Option zz_C} {h : zz_H} {t : cS} {s : mS} {d : Nat} {Q : zz_O → zz_H → Prop} {x1 : Int32} {x2 : Int32} {x3 : Int32} {x4 : Int32} {x5 : Int32} (hR : kR h t s) (k1 : 2 ≤ x3 → (∀ {h : zz_H}, kR h t s → zz_J zp_P zt_tf zt_fd X d zm_180 77 [(0, .ref 2), (1, .int x1), (2, .int x2), (3, .int x3), (4, .int x4), (5, .int x5)] [] h Q)) (k2 : ¬ 2 ≤ x3 → (∀ {h : zz_H}, kR h t s → zz_J zp_P zt_tf zt_fd X d zm_180 33 [(0, .ref 2), (1, .int x1), (2, .int x2), (3, .int x3), (4, .int x4), (5, .int x5)] [] h Q)) : zz_J zp_P zt_tf zt_fd X d zm_180 28 [(0, .ref 2), (1, .int x1), (2, .int x2), (3, .int x3), (4, .int x4), (5, .int x5)] [] h Q := by
  refine zz_J.n 29 rfl rfl rfl ?_
  refine zz_J.c 30 (.int 2) rfl rfl rfl rfl ?_
  refine zz_J.b2 77 33 (A := 2 ≤ x3) rfl rfl (by decide) rfl rfl (fun c => ?_) (fun c => ?_)
  · exact zz_J.weak (k1 c hR) rfl ⟨rfl, rfl, rfl, rfl, rfl, rfl, trivial⟩
  · exact zz_J.weak (k2 c hR) rfl ⟨rfl, rfl, rfl, rfl, rfl, rfl, trivial⟩
theorem cb_180_33 {X : Nat → Option zz_C} {h : zz_H} {t : cS} {s : mS} {d : Nat} {Q : zz_O → zz_H → Prop} {x1 : Int32} {x2 : Int32} {x3 : Int32} {x4 : Int32} {x5 : Int32} (hR : kR h t s) (k : ∀ {h : zz_H}, kR h t s → zz_J zp_P zt_tf zt_fd X d zm_42 0 [(0, .ref 3)] [] h (zz_after 10 Q (fun v h' => zz_J zp_P zt_tf zt_fd X (d + 1) zm_180 40 [(0, .ref 2), (1, .int x1), (2, .int x2), (3, .int x3), (4, .int x4), (5, .int x5)] (v.toList ++ []) h' Q))) : zz_J zp_P zt_tf zt_fd X (d + 1) zm_180 33 [(0, .ref 2), (1, .int x1), (2, .int x2), (3, .int x3), (4, .int x4), (5, .int x5)] [] h Q := by
  refine zz_J.n 34 rfl rfl rfl ?_
  refine zz_J.g 37 rfl (hR.gv (v := .ref 3) ko_2 (by decide) rfl) rfl ?_
  refine zz_J.cv 40 (as := []) rfl rfl (hR.clO ko_3 (by decide) (by decide)) (by decide) (Nat.le_of_ble_eq_true rfl) (Nat.le_of_ble_eq_true rfl) rfl (Nat.le_of_ble_eq_true rfl) rfl ?_
  refine zz_J.mono (k hR) ?_
  intro o h' hE
  cases o with
  | inl v => exact zz_J.weak hE rfl ⟨rfl, rfl, rfl, rfl, rfl, rfl, trivial⟩
  | inr q => exact hE
theorem cb_180_40 {X : Nat → Option zz_C} {h : zz_H} {t : cS} {s : mS} {d : Nat} {Q : zz_O → zz_H → Prop} {x1 : Int32} {x2 : Int32} {x3 : Int32} {x4 : Int32} {x5 : Int32} {y0 : Int32} (hR : kR h t s) (k1 : ¬ y0 = 91 → (∀ {h : zz_H}, kR h t s → zz_J zp_P zt_tf zt_fd X d zm_180 77 [(0, .ref 2), (1, .int x1), (2, .int x2), (3, .int x3), (4, .int x4), (5, .int x5)] [] h Q)) (k2 : ¬ ¬ y0 = 91 → (∀ {h : zz_H}, kR h t s → zz_J zp_P zt_tf zt_fd X d zm_180 45 [(0, .ref 2), (1, .int x1), (2, .int x2), (3, .int x3), (4, .int x4)] [] h Q)) : zz_J zp_P zt_tf zt_fd X d zm_180 40 [(0, .ref 2), (1, .int x1), (2, .int x2), (3, .int x3), (4, .int x4), (5, .int x5)] [.int y0] h Q := by
  refine zz_J.c 42 (.int 91) rfl rfl rfl rfl ?_
  refine zz_J.b2 77 45 (A := ¬ y0 = 91) rfl (zz_cond_ne _ _) (by decide) rfl rfl (fun c => ?_) (fun c => ?_)
  · exact zz_J.weak (k1 c hR) rfl ⟨rfl, rfl, rfl, rfl, rfl, rfl, trivial⟩
  · exact zz_J.weak (k2 c hR) rfl ⟨rfl, rfl, rfl, rfl, rfl, trivial⟩
theorem cb_180_45 {X : Nat → Option zz_C} {h : zz_H} {t : cS} {s : mS} {d : Nat} {Q : zz_O → zz_H → Prop} {x1 : Int32} {x2 : Int32} {x3 : Int32} {x4 : Int32} (hR : kR h t s) (k : ∀ {h : zz_H}, kR h t s → zz_J zp_P zt_tf zt_fd X d zm_243 0 [(0, .ref 3)] [] h (zz_after 10 Q (fun v h' => zz_J zp_P zt_tf zt_fd X (d + 1) zm_180 52 [(0, .ref 2), (1, .int x1), (2, .int x2), (3, .int x3), (4, .int x4)] (v.toList ++ []) h' Q))) : zz_J zp_P zt_tf zt_fd X (d + 1) zm_180 45 [(0, .ref 2), (1, .int x1), (2, .int x2), (3, .int x3), (4, .int x4)] [] h Q := by
  refine zz_J.n 46 rfl rfl rfl ?_
  refine zz_J.g 49 rfl (hR.gv (v := .ref 3) ko_2 (by decide) rfl) rfl ?_
  refine zz_J.cv 52 (as := []) rfl rfl (hR.clO ko_3 (by decide) (by decide)) (by decide) (Nat.le_of_ble_eq_true rfl) (Nat.le_of_ble_eq_true rfl) rfl (Nat.le_of_ble_eq_true rfl) rfl ?_
  refine zz_J.mono (k hR) ?_
  intro o h' hE
  cases o with
  | inl v => exact zz_J.weak hE rfl ⟨rfl, rfl, rfl, rfl, rfl, trivial⟩
  | inr q => exact hE
theorem cb_180_52 {X : Nat → Option zz_C} {h : zz_H} {t : cS} {s : mS} {d : Nat} {Q : zz_O → zz_H → Prop} {x1 : Int32} {x2 : Int32} {x3 : Int32} {x4 : Int32} {y0 : Int32} (hR : kR h t s) (k : ∀ {h : zz_H}, kR h t s → zz_J zp_P zt_tf zt_fd X d zm_201 0 [(0, .ref 2), (1, .int 91)] [] h (zz_after 5 Q (fun v h' => zz_J zp_P zt_tf zt_fd X (d + 1) zm_180 60 [(0, .ref 2), (1, .int x1), (2, .int x2), (3, .int x3), (4, .int x4), (5, .int y0)] (v.toList ++ []) h' Q))) : zz_J zp_P zt_tf zt_fd X (d + 1) zm_180 52 [(0, .ref 2), (1, .int x1), (2, .int x2), (3, .int x3), (4, .int x4)] [.int y0] h Q := by
  refine zz_J.n 54 rfl rfl rfl ?_
  refine zz_J.n 55 rfl rfl rfl ?_
  refine zz_J.c 57 (.int 91) rfl rfl rfl rfl ?_
  refine zz_J.cv 60 (as := []) rfl rfl (hR.clO ko_2 (by decide) (by decide)) (by decide) (Nat.le_of_ble_eq_true rfl) (Nat.le_of_ble_eq_true rfl) rfl (Nat.le_of_ble_eq_true rfl) rfl ?_
  refine zz_J.mono (k hR) ?_
  intro o h' hE
  cases o with
  | inl v => exact zz_J.weak hE rfl ⟨rfl, rfl, rfl, rfl, rfl, rfl, trivial⟩
  | inr q => exact hE
theorem cb_180_60 {X : Nat → Option zz_C} {h : zz_H} {t : cS} {s : mS} {d : Nat} {Q : zz_O → zz_H → Prop} {x1 : Int32} {x2 : Int32} {x3 : Int32} {x4 : Int32} {x5 : Int32} (hR : kR h t s) (k : ∀ {h : zz_H}, kR h t s → zz_J zp_P zt_tf zt_fd X d zm_186 0 [(0, .ref 2), (1, .int 0)] [] h (zz_after 5 Q (fun v h' => zz_J zp_P zt_tf zt_fd X (d + 1) zm_180 65 [(0, .ref 2), (1, .int x1), (2, .int x2), (3, .int x3), (4, .int x4), (5, .int x5)] (v.toList ++ []) h' Q))) : zz_J zp_P zt_tf zt_fd X (d + 1) zm_180 60 [(0, .ref 2), (1, .int x1), (2, .int x2), (3, .int x3), (4, .int x4), (5, .int x5)] [] h Q := by
  refine zz_J.n 61 rfl rfl rfl ?_
  refine zz_J.c 62 (.int 0) rfl rfl rfl rfl ?_
  refine zz_J.cv 65 (as := []) rfl rfl (hR.clO ko_2 (by decide) (by decide)) (by decide) (Nat.le_of_ble_eq_true rfl) (Nat.le_of_ble_eq_true rfl) rfl (Nat.le_of_ble_eq_true rfl) rfl ?_
  refine zz_J.mono (k hR) ?_
  intro o h' hE
  cases o with
  | inl v => exact zz_J.weak hE rfl ⟨rfl, rfl, rfl, rfl, rfl, rfl, trivial⟩
  | inr q => exact hE
theorem cb_180_65 {X : Nat → Option zz_C} {h : zz_H} {t : cS} {s : mS} {d : Nat} {Q : zz_O → zz_H → Prop} {x1 : Int32} {x2 : Int32} {x3 : Int32} {x4 : Int32} {x5 : Int32} (hR : kR h t s) (k : ∀ {h : zz_H}, kR h t s → zz_J zp_P zt_tf zt_fd X d zm_201 0 [(0, .ref 2), (1, .int 93)] [] h (zz_after 5 Q (fun v h' => zz_J zp_P zt_tf zt_fd X (d + 1) zm_180 71 [(0, .ref 2), (1, .int x1), (2, .int x2), (3, .int x3), (4, .int x4), (5, .int x5)] (v.toList ++ []) h' Q))) : zz_J zp_P zt_tf zt_fd X (d + 1) zm_180 65 [(0, .ref 2), (1, .int x1), (2, .int x2), (3, .int x3), (4, .int x4), (5, .int x5)] [] h Q := by
  refine zz_J.n 66 rfl rfl rfl ?_
  refine zz_J.c 68 (.int 93) rfl rfl rfl rfl ?_
  refine zz_J.cv 71 (as := []) rfl rfl (hR.clO ko_2 (by decide) (by decide)) (by decide) (Nat.le_of_ble_eq_true rfl) (Nat.le_of_ble_eq_true rfl) rfl (Nat.le_of_ble_eq_true rfl) rfl ?_
  refine zz_J.mono (k hR) ?_
  intro o h' hE
  cases o with
  | inl v => exact zz_J.weak hE rfl ⟨rfl, rfl, rfl, rfl, rfl, rfl, trivial⟩
  | inr q => exact hE
theorem cb_180_71 {X : Nat → Option zz_C} {h : zz_H} {t : cS} {s : mS} {d : Nat} {Q : zz_O → zz_H → Prop} {x1 : Int32} {x2 : Int32} {x3 : Int32} {x4 : Int32} {x5 : Int32} (hR : kR h t s) (k : ∀ {h : zz_H}, kR h t s → zz_J zp_P zt_tf zt_fd X d zm_180 28 [(0, .ref 2), (1, .int x1), (2, .int x2), (3, .int (x3 + 1)), (4, .int x4), (5, .int x5)] [] h Q) : zz_J zp_P zt_tf zt_fd X d zm_180 71 [(0, .ref 2), (1, .int x1), (2, .int x2), (3, .int x3), (4, .int x4), (5, .int x5)] [] h Q := by
  refine zz_J.n 74 rfl rfl rfl ?_
  refine zz_J.n 28 rfl rfl rfl ?_
  exact zz_J.weak (k hR) rfl ⟨rfl, rfl, rfl, rfl, rfl, rfl, trivial⟩
theorem cb_180_77 {X : Nat → Option zz_C} {h : zz_H} {t : cS} {s : mS} {d : Nat} {Q : zz_O → zz_H → Prop} {x1 : Int32} {x2 : Int32} {x3 : Int32} {x4 : Int32} {x5 : Int32} (hR : kR h t s) (k : ∀ {h : zz_H}, kR h t s → zz_J zp_P zt_tf zt_fd X d zm_201 0 [(0, .ref 2), (1, .int 61)] [] h (zz_after 5 Q (fun v h' => zz_J zp_P zt_tf zt_fd X (d + 1) zm_180 83 [(0, .ref 2), (1, .int x1), (2, .int x2), (3, .int x3), (4, .int x4), (5, .int x5)] (v.toList ++ []) h' Q))) : zz_J zp_P zt_tf zt_fd X (d + 1) zm_180 77 [(0, .ref 2), (1, .int x1), (2, .int x2), (3, .int x3), (4, .int x4), (5, .int x5)] [] h Q := by
  refine zz_J.n 78 rfl rfl rfl ?_
  refine zz_J.c 80 (.int 61) rfl rfl rfl rfl ?_
  refine zz_J.cv 83 (as := []) rfl rfl (hR.clO ko_2 (by decide) (by decide)) (by decide) (Nat.le_of_ble_eq_true rfl) (Nat.le_of_ble_eq_true rfl) rfl (Nat.le_of_ble_eq_true rfl) rfl ?_
  refine zz_J.mono (k hR) ?_
  intro o h' hE
  cases o with
  | inl v => exact zz_J.weak hE rfl ⟨rfl, rfl, rfl, rfl, rfl, rfl, trivial⟩
  | inr q => exact hE
theorem cb_180_83 {X : Nat → Option zz_C} {h : zz_H} {t : cS} {s : mS} {d : Nat} {Q : zz_O → zz_H → Prop} {x1 : Int32} {x2 : Int32} {x3 : Int32} {x4 : Int32} {x5 : Int32} (hR : kR h t s) (k : ∀ {h : zz_H}, kR h t s → zz_J zp_P zt_tf zt_fd X d zm_186 0 [(0, .ref 2), (1, .int 0)] [] h (zz_after 5 Q (fun v h' => zz_J zp_P zt_tf zt_fd X (d + 1) zm_180 88 [(0, .ref 2), (1, .int x1), (2, .int x2), (3, .int x3), (4, .int x4), (5, .int x5)] (v.toList ++ []) h' Q))) : zz_J zp_P zt_tf zt_fd X (d + 1) zm_180 83 [(0, .ref 2), (1, .int x1), (2, .int x2), (3, .int x3), (4, .int x4), (5, .int x5)] [] h Q := by
  refine zz_J.n 84 rfl rfl rfl ?_
  refine zz_J.c 85 (.int 0) rfl rfl rfl rfl ?_
  refine zz_J.cv 88 (as := []) rfl rfl (hR.clO ko_2 (by decide) (by decide)) (by decide) (Nat.le_of_ble_eq_true rfl) (Nat.le_of_ble_eq_true rfl) rfl (Nat.le_of_ble_eq_true rfl) rfl ?_
  refine zz_J.mono (k hR) ?_
  intro o h' hE
  cases o with
  | inl v => exact zz_J.weak hE rfl ⟨rfl, rfl, rfl, rfl, rfl, rfl, trivial⟩
  | inr q => exact hE
theorem cb_180_88 {X : Nat → Option zz_C} {h : zz_H} {t : cS} {s : mS} {d : Nat} {Q : zz_O → zz_H → Prop} {x1 : Int32} {x2 : Int32} {x3 : Int32} {x4 : Int32} {x5 : Int32} (hR : kR h t s) (k : ∀ {h : zz_H}, kR h t s → zz_J zp_P zt_tf zt_fd X d zm_201 0 [(0, .ref 2), (1, .int 59)] [] h (zz_after 5 Q (fun v h' => zz_J zp_P zt_tf zt_fd X (d + 1) zm_180 94 [(0, .ref 2), (1, .int x1), (2, .int x2), (3, .int x3), (4, .int x4), (5, .int x5)] (v.toList ++ []) h' Q))) : zz_J zp_P zt_tf zt_fd X (d + 1) zm_180 88 [(0, .ref 2), (1, .int x1), (2, .int x2), (3, .int x3), (4, .int x4), (5, .int x5)] [] h Q := by
  refine zz_J.n 89 rfl rfl rfl ?_
  refine zz_J.c 91 (.int 59) rfl rfl rfl rfl ?_
  refine zz_J.cv 94 (as := []) rfl rfl (hR.clO ko_2 (by decide) (by decide)) (by decide) (Nat.le_of_ble_eq_true rfl) (Nat.le_of_ble_eq_true rfl) rfl (Nat.le_of_ble_eq_true rfl) rfl ?_
  refine zz_J.mono (k hR) ?_
  intro o h' hE
  cases o with
  | inl v => exact zz_J.weak hE rfl ⟨rfl, rfl, rfl, rfl, rfl, rfl, trivial⟩
  | inr q => exact hE
theorem cb_180_94 {X : Nat → Option zz_C} {h : zz_H} {t : cS} {s : mS} {d : Nat} {Q : zz_O → zz_H → Prop} {x1 : Int32} {x2 : Int32} {x3 : Int32} {x4 : Int32} {x5 : Int32} (hR : kR h t s) (k1 : x3 ≤ 0 → (∀ {h : zz_H}, kR h t s → zz_J zp_P zt_tf zt_fd X d zm_180 133 [(0, .ref 2), (1, .int x1), (2, .int x2)] [] h Q)) (k2 : ¬ x3 ≤ 0 → (∀ {h : zz_H}, kR h t s → zz_J zp_P zt_tf zt_fd X d zm_180 98 [(0, .ref 2), (1, .int x1), (2, .int x2), (3, .int x3), (4, .int x4), (5, .int x5)] [] h Q)) : zz_J zp_P zt_tf zt_fd X d zm_180 94 [(0, .ref 2), (1, .int x1), (2, .int x2), (3, .int x3), (4, .int x4), (5, .int x5)] [] h Q := by
  refine zz_J.n 95 rfl rfl rfl ?_
  refine zz_J.b1 133 98 (A := x3 ≤ 0) rfl rfl (by decide) rfl rfl (fun c => ?_) (fun c => ?_)
  · exact zz_J.weak (k1 c hR) rfl ⟨rfl, rfl, rfl, trivial⟩
  · exact zz_J.weak (k2 c hR) rfl ⟨rfl, rfl, rfl, rfl, rfl, rfl, trivial⟩
theorem cb_180_98 {X : Nat → Option zz_C} {h : zz_H} {t : cS} {s : mS} {d : Nat} {Q : zz_O → zz_H → Prop} {x1 : Int32} {x2 : Int32} {x3 : Int32} {x4 : Int32} {x5 : Int32} (hR : kR h t s) {w0 : Nat} (e0 : (kP t 2 1) = some w0) (e1 : w0 = 12 ∨ w0 = 21) (k : ∀ {h : zz_H}, kR h t s → zz_J zp_P zt_tf zt_fd X d zm_209 0 [(0, .ref w0), (1, .int 1), (2, .int x2), (3, .int x1)] [] h (zz_after 6 Q (fun v h' => zz_J zp_P zt_tf zt_fd X (d + 1) zm_180 108 [(0, .ref 2), (1, .int x1), (2, .int x2), (3, .int x3), (4, .int x4), (5, .int x5)] (v.toList ++ []) h' Q))) : zz_J zp_P zt_tf zt_fd X (d + 1) zm_180 98 [(0, .ref 2), (1, .int x1), (2, .int x2), (3, .int x3), (4, .int x4), (5, .int x5)] [] h Q := by
  refine zz_J.n 99 rfl rfl rfl ?_
  refine zz_J.g 102 rfl (hR.gv (v := .ref w0) ko_2 (by decide) ((congrArg (fun q => some (zz_rv q)) e0).trans rfl)) rfl ?_
  refine zz_J.c 103 (.int 1) rfl rfl rfl rfl ?_
  refine zz_J.n 104 rfl rfl rfl ?_
  refine zz_J.n 105 rfl rfl rfl ?_
  refine zz_J.cv 108 (as := []) rfl rfl (hR.clO (ko_P e1) (by decide) (by decide)) (by decide) (Nat.le_of_ble_eq_true rfl) (Nat.le_of_ble_eq_true rfl) rfl (Nat.le_of_ble_eq_true rfl) rfl ?_
  refine zz_J.mono (k hR) ?_
  intro o h' hE
  cases o with
  | inl v => exact zz_J.weak hE rfl ⟨rfl, rfl, rfl, rfl, rfl, rfl, trivial⟩
  | inr q => exact hE
theorem cb_180_108 {X : Nat → Option zz_C} {h : zz_H} {t : cS} {s : mS} {d : Nat} {Q : zz_O → zz_H → Prop} {x1 : Int32} {x2 : Int32} {x3 : Int32} {x4 : Int32} {x5 : Int32} {y0 : Int32} (hR : kR h t s) {w0 : Nat} (e0 : (kP t 2 1) = some w0) (k1 : ¬ x3 = 1 → (∀ {h : zz_H}, kR h t s → zz_J zp_P zt_tf zt_fd X d zm_180 123 [(0, .ref 2), (1, .int x1), (2, .int x2), (4, .int x4), (5, .int x5)] [.ref w0] h Q)) (k2 : ¬ ¬ x3 = 1 → (∀ {h : zz_H}, kR h t s → zz_J zp_P zt_tf zt_fd X d zm_180 118 [(0, .ref 2), (1, .int x1), (2, .int x2), (4, .int x4), (5, .int x5)] [.ref w0] h Q)) : zz_J zp_P zt_tf zt_fd X d zm_180 108 [(0, .ref 2), (1, .int x1), (2, .int x2), (3, .int x3), (4, .int x4), (5, .int x5)] [.int y0] h Q := by
  refine zz_J.n 109 rfl rfl rfl ?_
  refine zz_J.n 110 rfl rfl rfl ?_
  refine zz_J.g 113 rfl (hR.gv (v := .ref w0) ko_2 (by decide) ((congrArg (fun q => some (zz_rv q)) e0).trans rfl)) rfl ?_
  refine zz_J.n 114 rfl rfl rfl ?_
  refine zz_J.c 115 (.int 1) rfl rfl rfl rfl ?_
  refine zz_J.b2 123 118 (A := ¬ x3 = 1) rfl (zz_cond_ne _ _) (by decide) rfl rfl (fun c => ?_) (fun c => ?_)
  · exact zz_J.weak (k1 c hR) rfl ⟨rfl, rfl, rfl, rfl, rfl, trivial⟩
  · exact zz_J.weak (k2 c hR) rfl ⟨rfl, rfl, rfl, rfl, rfl, trivial⟩
theorem cb_180_118 {X : Nat → Option zz_C} {h : zz_H} {t : cS} {s : mS} {d : Nat} {Q : zz_O → zz_H → Prop} {x1 : Int32} {x2 : Int32} {x4 : Int32} {x5 : Int32} {y0 : Nat} (hR : kR h t s) (k : ∀ {h : zz_H}, kR h t s → zz_J zp_P zt_tf zt_fd X d zm_180 125 [(0, .ref 2), (1, .int x1), (2, .int x2), (4, .int x4), (5, .int x5)] [.int 17, .ref y0] h Q) : zz_J zp_P zt_tf zt_fd X d zm_180 118 [(0, .ref 2), (1, .int x1), (2, .int x2), (4, .int x4), (5, .int x5)] [.ref y0] h Q := by
  refine zz_J.c 120 (.int 17) rfl rfl rfl rfl ?_
  refine zz_J.n 125 rfl rfl rfl ?_
  exact zz_J.weak (k hR) rfl ⟨rfl, rfl, rfl, rfl, rfl, trivial⟩
theorem cb_180_123 {X : Nat → Option zz_C} {h : zz_H} {t : cS} {s : mS} {d : Nat} {Q : zz_O → zz_H → Prop} {x1 : Int32} {x2 : Int32} {x4 : Int32} {x5 : Int32} {y0 : Nat} (hR : kR h t s) (k : ∀ {h : zz_H}, kR h t s → zz_J zp_P zt_tf zt_fd X d zm_180 125 [(0, .ref 2), (1, .int x1), (2, .int x2), (4, .int x4), (5, .int x5)] [.int 18, .ref y0] h Q) : zz_J zp_P zt_tf zt_fd X d zm_180 123 [(0, .ref 2), (1, .int x1), (2, .int x2), (4, .int x4), (5, .int x5)] [.ref y0] h Q := by
  refine zz_J.c 125 (.int 18) rfl rfl rfl rfl ?_
  exact zz_J.weak (k hR) rfl ⟨rfl, rfl, rfl, rfl, rfl, trivial⟩
theorem cb_180_125 {X : Nat → Option zz_C} {h : zz_H} {t : cS} {s : mS} {d : Nat} {Q : zz_O → zz_H → Prop} {x1 : Int32} {x2 : Int32} {x4 : Int32} {x5 : Int32} {y0 : Nat} {y1 : Int32} (hR : kR h t s) (e0 : y0 = 12 ∨ y0 = 21) (k : ∀ {h : zz_H}, kR h t s → zz_J zp_P zt_tf zt_fd X d zm_209 0 [(0, .ref y0), (1, .int y1), (2, .int x5), (3, .int x4)] [] h (zz_after 6 Q (fun v h' => zz_J zp_P zt_tf zt_fd X (d + 1) zm_180 132 [(0, .ref 2), (1, .int x1), (2, .int x2)] (v.toList ++ []) h' Q))) : zz_J zp_P zt_tf zt_fd X (d + 1) zm_180 125 [(0, .ref 2), (1, .int x1), (2, .int x2), (4, .int x4), (5, .int x5)] [.int y1, .ref y0] h Q := by
  refine zz_J.n 127 rfl rfl rfl ?_
  refine zz_J.n 129 rfl rfl rfl ?_
  refine zz_J.cv 132 (as := []) rfl rfl (hR.clO (ko_P e0) (by decide) (by decide)) (by decide) (Nat.le_of_ble_eq_true rfl) (Nat.le_of_ble_eq_true rfl) rfl (Nat.le_of_ble_eq_true rfl) rfl ?_
  refine zz_J.mono (k hR) ?_
  intro o h' hE
  cases o with
  | inl v => exact zz_J.weak hE rfl ⟨rfl, rfl, rfl, trivial⟩
  | inr q => exact hE
theorem cb_180_132 {X : Nat → Option zz_C} {h : zz_H} {t : cS} {s : mS} {d : Nat} {Q : zz_O → zz_H → Prop} {x1 : Int32} {x2 : Int32} {y0 : Int32} (hR : kR h t s) (k : ∀ {h : zz_H}, kR h t s → zz_J zp_P zt_tf zt_fd X d zm_180 133 [(0, .ref 2), (1, .int x1), (2, .int x2)] [] h Q) : zz_J zp_P zt_tf zt_fd X d zm_180 132 [(0, .ref 2), (1, .int x1), (2, .int x2)] [.int y0] h Q := by
  refine zz_J.n 133 rfl rfl rfl ?_
  exact zz_J.weak (k hR) rfl ⟨rfl, rfl, rfl, trivial⟩
theorem cb_180_133 {X : Nat → Option zz_C} {h : zz_H} {t : cS} {s : mS} {d : Nat} {Q : zz_O → zz_H → Prop} {x1 : Int32} {x2 : Int32} (hR : kR h t s) {w0 : Nat} (e0 : (kP t 2 1) = some w0) (e1 : w0 = 12 ∨ w0 = 21) (k : ∀ {h : zz_H}, kR h t s → zz_J zp_P zt_tf zt_fd X d zm_209 0 [(0, .ref w0), (1, .int 2), (2, .int x2), (3, .int x1)] [] h (zz_after 6 Q (fun v h' => zz_J zp_P zt_tf zt_fd X (d + 1) zm_180 143 [] (v.toList ++ []) h' Q))) : zz_J zp_P zt_tf zt_fd X (d + 1) zm_180 133 [(0, .ref 2), (1, .int x1), (2, .int x2)] [] h Q := by
  refine zz_J.n 134 rfl rfl rfl ?_
  refine zz_J.g 137 rfl (hR.gv (v := .ref w0) ko_2 (by decide) ((congrArg (fun q => some (zz_rv q)) e0).trans rfl)) rfl ?_
  refine zz_J.c 138 (.int 2) rfl rfl rfl rfl ?_
  refine zz_J.n 139 rfl rfl rfl ?_
  refine zz_J.n 140 rfl rfl rfl ?_
  refine zz_J.cv 143 (as := []) rfl rfl (hR.clO (ko_P e1) (by decide) (by decide)) (by decide) (Nat.le_of_ble_eq_true rfl) (Nat.le_of_ble_eq_true rfl) rfl (Nat.le_of_ble_eq_true rfl) rfl ?_
  refine zz_J.mono (k hR) ?_
  intro o h' hE
  cases o with
  | inl v => exact zz_J.weak hE rfl trivial
  | inr q => exact hE
theorem cb_180_143 {X : Nat → Option zz_C} {h : zz_H} {t : cS} {s : mS} {d : Nat} {Q : zz_O → zz_H → Prop} {y0 : Int32} (hR : kR h t s) (k : ∀ {h : zz_H}, kR h t s → Q (.inl none) h) : zz_J zp_P zt_tf zt_fd X d zm_180 143 [] [.int y0] h Q := by
  refine zz_J.n 144 rfl rfl rfl ?_
  refine zz_J.ret rfl rfl rfl ?_
  exact k hR
def cf_180_143 (N : Nat) (X : Nat → Option zz_C) (y0 : Int32) (t : cS) : kO := some (t, .inl none)
theorem cr_180_143 {X : Nat → Option zz_C} {s : mS} {N : Nat} {d : Nat} (hd : 161 ≤ d) {Q : zz_O → zz_H → Prop} {y0 : Int32} {h : zz_H} {t t' : cS} {o : kY} (hR : kR h t s) (hf : cf_180_143 N X y0 t = some (t', o)) (k : (∀ h', kR h' t' s → kE o Q h')) : zz_J zp_P zt_tf zt_fd X d zm_180 143 [] [.int y0] h Q := by
  unfold cf_180_143 at hf
  cases hf
  exact cb_180_143 hR  (fun {h} hR => k h hR)
def cf_180_133 (N : Nat) (X : Nat → Option zz_C) (x1 : Int32) (x2 : Int32) (t : cS) : kO := co_b ((kP t 2 1)) (fun w0 => if w0 = 12 ∨ w0 = 21 then (ko_call 6 (cf_209 N X w0 2 x2 x1 t) (fun g1 v1 => co_i v1 (fun y => cf_180_143 N X y g1))) else none)
theorem cr_180_133 {X : Nat → Option zz_C} {s : mS} {N : Nat} {d : Nat} (hd : 161 ≤ d) {Q : zz_O → zz_H → Prop} {x1 : Int32} {x2 : Int32} {h : zz_H} {t t' : cS} {o : kY} (hR : kR h t s) (hf : cf_180_133 N X x1 x2 t = some (t', o)) (k : (∀ h', kR h' t' s → kE o Q h')) : zz_J zp_P zt_tf zt_fd X d zm_180 133 [(0, .ref 2), (1, .int x1), (2, .int x2)] [] h Q := by
  unfold cf_180_133 at hf
  obtain ⟨w0, e0, hf⟩ := co_b_ok hf
  obtain ⟨e1, hf⟩ := ko_if hf
  obtain ⟨d', rfl⟩ : ∃ d', d = d' + 1 := ⟨d - 1, by omega⟩
  refine cb_180_133 hR e0 e1 (fun {h} hR => ?_)
  rcases ko_call_ok hf with ⟨g1, v1, er, hf⟩ | ⟨g1, er, hq⟩
  · obtain ⟨y, hv, hf2⟩ := co_i_ok hf
    clear hf
    have hf := hf2
    clear hf2
    subst hv
    refine cr_209 (by omega) hR er (fun h hR => ?_)
    exact cr_180_143 hd hR hf k
  · refine cr_209 (by omega) hR er (fun h hR => ?_)
    exact ko_thrown hq hR k
def cf_180_132 (N : Nat) (X : Nat → Option zz_C) (x1 : Int32) (x2 : Int32) (y0 : Int32) (t : cS) : kO := cf_180_133 N X x1 x2 t
theorem cr_180_132 {X : Nat → Option zz_C} {s : mS} {N : Nat} {d : Nat} (hd : 161 ≤ d) {Q : zz_O → zz_H → Prop} {x1 : Int32} {x2 : Int32} {y0 : Int32} {h : zz_H} {t t' : cS} {o : kY} (hR : kR h t s) (hf : cf_180_132 N X x1 x2 y0 t = some (t', o)) (k : (∀ h', kR h' t' s → kE o Q h')) : zz_J zp_P zt_tf zt_fd X d zm_180 132 [(0, .ref 2), (1, .int x1), (2, .int x2)] [.int y0] h Q := by
  unfold cf_180_132 at hf
  exact cb_180_132 hR  (fun hR => cr_180_133 hd hR hf k)
def cf_180_125 (N : Nat) (X : Nat → Option zz_C) (x1 : Int32) (x2 : Int32) (x4 : Int32) (x5 : Int32) (y0 : Nat) (y1 : Int32) (t : cS) : kO := if y0 = 12 ∨ y0 = 21 then (ko_call 6 (cf_209 N X y0 y1 x5 x4 t) (fun g1 v1 => co_i v1 (fun y => cf_180_132 N X x1 x2 y g1))) else none
theorem cr_180_125 {X : Nat → Option zz_C} {s : mS} {N : Nat} {d : Nat} (hd : 161 ≤ d) {Q : zz_O → zz_H → Prop} {x1 : Int32} {x2 : Int32} {x4 : Int32} {x5 : Int32} {y0 : Nat} {y1 : Int32} {h : zz_H} {t t' : cS} {o : kY} (hR : kR h t s) (hf : cf_180_125 N X x1 x2 x4 x5 y0 y1 t = some (t', o)) (k : (∀ h', kR h' t' s → kE o Q h')) : zz_J zp_P zt_tf zt_fd X d zm_180 125 [(0, .ref 2), (1, .int x1), (2, .int x2), (4, .int x4), (5, .int x5)] [.int y1, .ref y0] h Q := by
  unfold cf_180_125 at hf
  obtain ⟨e0, hf⟩ := ko_if hf
  obtain ⟨d', rfl⟩ : ∃ d', d = d' + 1 := ⟨d - 1, by omega⟩
  refine cb_180_125 hR e0 (fun {h} hR => ?_)
  rcases ko_call_ok hf with ⟨g1, v1, er, hf⟩ | ⟨g1, er, hq⟩
  · obtain ⟨y, hv, hf2⟩ := co_i_ok hf
    clear hf
    have hf := hf2
    clear hf2
    subst hv
    refine cr_209 (by omega) hR er (fun h hR => ?_)
    exact cr_180_132 hd hR hf k
  · refine cr_209 (by omega) hR er (fun h hR => ?_)
    exact ko_thrown hq hR k
def cf_180_123 (N : Nat) (X : Nat → Option zz_C) (x1 : Int32) (x2 : Int32) (x4 : Int32) (x5 : Int32) (y0 : Nat) (t : cS) : kO := cf_180_125 N X x1 x2 x4 x5 y0 18 t
theorem cr_180_123 {X : Nat → Option zz_C} {s : mS} {N : Nat} {d : Nat} (hd : 161 ≤ d) {Q : zz_O → zz_H → Prop} {x1 : Int32} {x2 : Int32} {x4 : Int32} {x5 : Int32} {y0 : Nat} {h : zz_H} {t t' : cS} {o : kY} (hR : kR h t s) (hf : cf_180_123 N X x1 x2 x4 x5 y0 t = some (t', o)) (k : (∀ h', kR h' t' s → kE o Q h')) : zz_J zp_P zt_tf zt_fd X d zm_180 123 [(0, .ref 2), (1, .int x1), (2, .int x2), (4, .int x4), (5, .int x5)] [.ref y0] h Q := by
  unfold cf_180_123 at hf
  exact cb_180_123 hR  (fun hR => cr_180_125 hd hR hf k)
def cf_180_118 (N : Nat) (X : Nat → Option zz_C) (x1 : Int32) (x2 : Int32) (x4 : Int32) (x5 : Int32) (y0 : Nat) (t : cS) : kO := cf_180_125 N X x1 x2 x4 x5 y0 17 t
theorem cr_180_118 {X : Nat → Option zz_C} {s : mS} {N : Nat} {d : Nat} (hd : 161 ≤ d) {Q : zz_O → zz_H → Prop} {x1 : Int32} {x2 : Int32} {x4 : Int32} {x5 : Int32} {y0 : Nat} {h : zz_H} {t t' : cS} {o : kY} (hR : kR h t s) (hf : cf_180_118 N X x1 x2 x4 x5 y0 t = some (t', o)) (k : (∀ h', kR h' t' s → kE o Q h')) : zz_J zp_P zt_tf zt_fd X d zm_180 118 [(0, .ref 2), (1, .int x1), (2, .int x2), (4, .int x4), (5, .int x5)] [.ref y0] h Q := by
  unfold cf_180_118 at hf
  exact cb_180_118 hR  (fun hR => cr_180_125 hd hR hf k)
def cf_180_108 (N : Nat) (X : Nat → Option zz_C) (x1 : Int32) (x2 : Int32) (x3 : Int32) (x4 : Int32) (x5 : Int32) (y0 : Int32) (t : cS) : kO := co_b ((kP t 2 1)) (fun w0 => if ¬ x3 = 1 then cf_180_123 N X x1 x2 x4 x5 w0 t else cf_180_118 N X x1 x2 x4 x5 w0 t)
theorem cr_180_108 {X : Nat → Option zz_C} {s : mS} {N : Nat} {d : Nat} (hd : 161 ≤ d) {Q : zz_O → zz_H → Prop} {x1 : Int32} {x2 : Int32} {x3 : Int32} {x4 : Int32} {x5 : Int32} {y0 : Int32} {h : zz_H} {t t' : cS} {o : kY} (hR : kR h t s) (hf : cf_180_108 N X x1 x2 x3 x4 x5 y0 t = some (t', o)) (k : (∀ h', kR h' t' s → kE o Q h')) : zz_J zp_P zt_tf zt_fd X d zm_180 108 [(0, .ref 2), (1, .int x1), (2, .int x2), (3, .int x3), (4, .int x4), (5, .int x5)] [.int y0] h Q := by
  unfold cf_180_108 at hf
  obtain ⟨w0, e0, hf⟩ := co_b_ok hf
  refine cb_180_108 hR e0 (fun c {h} hR => ?_) (fun c {h} hR => ?_)
  · rw [if_pos c] at hf
    exact cr_180_123 hd hR hf k
  · rw [if_neg c] at hf
    exact cr_180_118 hd hR hf k
def cf_180_98 (N : Nat) (X : Nat → Option zz_C) (x1 : Int32) (x2 : Int32) (x3 : Int32) (x4 : Int32) (x5 : Int32) (t : cS) : kO := co_b ((kP t 2 1)) (fun w0 => if w0 = 12 ∨ w0 = 21 then (ko_call 6 (cf_209 N X w0 1 x2 x1 t) (fun g1 v1 => co_i v1 (fun y => cf_180_108 N X x1 x2 x3 x4 x5 y g1))) else none)
theorem cr_180_98 {X : Nat → Option zz_C} {s : mS} {N : Nat} {d : Nat} (hd : 161 ≤ d) {Q : zz_O → zz_H → Prop} {x1 : Int32} {x2 : Int32} {x3 : Int32} {x4 : Int32} {x5 : Int32} {h : zz_H} {t t' : cS} {o : kY} (hR : kR h t s) (hf : cf_180_98 N X x1 x2 x3 x4 x5 t = some (t', o)) (k : (∀ h', kR h' t' s → kE o Q h')) : zz_J zp_P zt_tf zt_fd X d zm_180 98 [(0, .ref 2), (1, .int x1), (2, .int x2), (3, .int x3), (4, .int x4), (5, .int x5)] [] h Q := by
  unfold cf_180_98 at hf
  obtain ⟨w0, e0, hf⟩ := co_b_ok hf
  obtain ⟨e1, hf⟩ := ko_if hf
  obtain ⟨d', rfl⟩ : ∃ d', d = d' + 1 := ⟨d - 1, by omega⟩
  refine cb_180_98 hR e0 e1 (fun {h} hR => ?_)
  rcases ko_call_ok hf with ⟨g1, v1, er, hf⟩ | ⟨g1, er, hq⟩
  · obtain ⟨y, hv, hf2⟩ := co_i_ok hf
    clear hf
    have hf := hf2
    clear hf2
    subst hv
    refine cr_209 (by omega) hR er (fun h hR => ?_)
    exact cr_180_108 hd hR hf k
  · refine cr_209 (by omega) hR er (fun h hR => ?_)
    exact ko_thrown hq hR k
def cf_180_94 (N : Nat) (X : Nat → Option zz_C) (x1 : Int32) (x2 : Int32) (x3 : Int32) (x4 : Int32) (x5 : Int32) (t : cS) : kO := if x3 ≤ 0 then cf_180_133 N X x1 x2 t else cf_180_98 N X x1 x2 x3 x4 x5 t
theorem cr_180_94 {X : Nat → Option zz_C} {s : mS} {N : Nat} {d : Nat} (hd : 161 ≤ d) {Q : zz_O → zz_H → Prop} {x1 : Int32} {x2 : Int32} {x3 : Int32} {x4 : Int32} {x5 : Int32} {h : zz_H} {t t' : cS} {o : kY} (hR : kR h t s) (hf : cf_180_94 N X x1 x2 x3 x4 x5 t = some (t', o)) (k : (∀ h', kR h' t' s → kE o Q h')) : zz_J zp_P zt_tf zt_fd X d zm_180 94 [(0, .ref 2), (1, .int x1), (2, .int x2), (3, .int x3), (4, .int x4), (5, .int x5)] [] h Q := by
  unfold cf_180_94 at hf
  refine cb_180_94 hR  (fun c {h} hR => ?_) (fun c {h} hR => ?_)
  · rw [if_pos c] at hf
    exact cr_180_133 hd hR hf k
  · rw [if_neg c] at hf
    exact cr_180_98 hd hR hf k
def cf_180_88 (N : Nat) (X : Nat → Option zz_C) (x1 : Int32) (x2 : Int32) (x3 : Int32) (x4 : Int32) (x5 : Int32) (t : cS) : kO := ko_call 5 (cf_201 N X 59 t) (fun g1 v1 => co_v v1 (cf_180_94 N X x1 x2 x3 x4 x5 g1))
theorem cr_180_88 {X : Nat → Option zz_C} {s : mS} {N : Nat} {d : Nat} (hd : 161 ≤ d) {Q : zz_O → zz_H → Prop} {x1 : Int32} {x2 : Int32} {x3 : Int32} {x4 : Int32} {x5 : Int32} {h : zz_H} {t t' : cS} {o : kY} (hR : kR h t s) (hf : cf_180_88 N X x1 x2 x3 x4 x5 t = some (t', o)) (k : (∀ h', kR h' t' s → kE o Q h')) : zz_J zp_P zt_tf zt_fd X d zm_180 88 [(0, .ref 2), (1, .int x1), (2, .int x2), (3, .int x3), (4, .int x4), (5, .int x5)] [] h Q := by
  unfold cf_180_88 at hf
  obtain ⟨d', rfl⟩ : ∃ d', d = d' + 1 := ⟨d - 1, by omega⟩
  refine cb_180_88 hR  (fun {h} hR => ?_)
  rcases ko_call_ok hf with ⟨g1, v1, er, hf⟩ | ⟨g1, er, hq⟩
  · obtain ⟨hv, hf2⟩ := co_v_ok hf
    clear hf
    have hf := hf2
    clear hf2
    subst hv
    refine cr_201 (by omega) hR er (fun h hR => ?_)
    exact cr_180_94 hd hR hf k
  · refine cr_201 (by omega) hR er (fun h hR => ?_)
    exact ko_thrown hq hR k
def cf_180_83 (N : Nat) (X : Nat → Option zz_C) (x1 : Int32) (x2 : Int32) (x3 : Int32) (x4 : Int32) (x5 : Int32) (t : cS) : kO := ko_call 5 (cf_S0 N X 150 186 [.int 0] t) (fun g1 v1 => co_v v1 (cf_180_88 N X x1 x2 x3 x4 x5 g1))
theorem cr_180_83 {X : Nat → Option zz_C} {s : mS} {N : Nat} {d : Nat} (hd : 161 ≤ d) {Q : zz_O → zz_H → Prop} {x1 : Int32} {x2 : Int32} {x3 : Int32} {x4 : Int32} {x5 : Int32} {h : zz_H} {t t' : cS} {o : kY} (hR : kR h t s) (hf : cf_180_83 N X x1 x2 x3 x4 x5 t = some (t', o)) (k : (∀ h', kR h' t' s → kE o Q h')) : zz_J zp_P zt_tf zt_fd X d zm_180 83 [(0, .ref 2), (1, .int x1), (2, .int x2), (3, .int x3), (4, .int x4), (5, .int x5)] [] h Q := by
  unfold cf_180_83 at hf
  obtain ⟨d', rfl⟩ : ∃ d', d = d' + 1 := ⟨d - 1, by omega⟩
  refine cb_180_83 hR  (fun {h} hR => ?_)
  rcases ko_call_ok hf with ⟨g1, v1, er, hf⟩ | ⟨g1, er, hq⟩
  · obtain ⟨hv, hf2⟩ := co_v_ok hf
    clear hf
    have hf := hf2
    clear hf2
    subst hv
    refine (cr_S0 150).1 (by omega) hR er (fun h hR => ?_)
    exact cr_180_88 hd hR hf k
  · refine (cr_S0 150).1 (by omega) hR er (fun h hR => ?_)
    exact ko_thrown hq hR k
def cf_180_77 (N : Nat) (X : Nat → Option zz_C) (x1 : Int32) (x2 : Int32) (x3 : Int32) (x4 : Int32) (x5 : Int32) (t : cS) : kO := ko_call 5 (cf_201 N X 61 t) (fun g1 v1 => co_v v1 (cf_180_83 N X x1 x2 x3 x4 x5 g1))
theorem cr_180_77 {X : Nat → Option zz_C} {s : mS} {N : Nat} {d : Nat} (hd : 161 ≤ d) {Q : zz_O → zz_H → Prop} {x1 : Int32} {x2 : Int32} {x3 : Int32} {x4 : Int32} {x5 : Int32} {h : zz_H} {t t' : cS} {o : kY} (hR : kR h t s) (hf : cf_180_77 N X x1 x2 x3 x4 x5 t = some (t', o)) (k : (∀ h', kR h' t' s → kE o Q h')) : zz_J zp_P zt_tf zt_fd X d zm_180 77 [(0, .ref 2), (1, .int x1), (2, .int x2), (3, .int x3), (4, .int x4), (5, .int x5)] [] h Q := by
  unfold cf_180_77 at hf
  obtain ⟨d', rfl⟩ : ∃ d', d = d' + 1 := ⟨d - 1, by omega⟩
  refine cb_180_77 hR  (fun {h} hR => ?_)
  rcases ko_call_ok hf with ⟨g1, v1, er, hf⟩ | ⟨g1, er, hq⟩
  · obtain ⟨hv, hf2⟩ := co_v_ok hf
    clear hf
    have hf := hf2
    clear hf2
    subst hv
    refine cr_201 (by omega) hR er (fun h hR => ?_)
    exact cr_180_83 hd hR hf k
  · refine cr_201 (by omega) hR er (fun h hR => ?_)
    exact ko_thrown hq hR k
def cf_180_71 (N : Nat) (X : Nat → Option zz_C) (rc : Nat → Int32 → Int32 → Int32 → Int32 → Int32 → cS → kO) (x1 : Int32) (x2 : Int32) (x3 : Int32) (x4 : Int32) (x5 : Int32) (t : cS) : kO := rc 0 x1 x2 (x3 + 1) x4 x5 t
theorem cr_180_71 {X : Nat → Option zz_C} {s : mS} {N : Nat} {d : Nat} (hd : 161 ≤ d) {rc : Nat → Int32 → Int32 → Int32 → Int32 → Int32 → cS → kO} (hrc0 : ∀ {Q : zz_O → zz_H → Prop} {x1 : Int32} {x2 : Int32} {x3 : Int32} {x4 : Int32} {x5 : Int32} {h : zz_H} {t t' : cS} {o : kY}, kR h t s → rc 0 x1 x2 x3 x4 x5 t = some (t', o) → (∀ h', kR h' t' s → kE o Q h') → zz_J zp_P zt_tf zt_fd X d zm_180 28 [(0, .ref 2), (1, .int x1), (2, .int x2), (3, .int x3), (4, .int x4), (5, .int x5)] [] h Q) {Q : zz_O → zz_H → Prop} {x1 : Int32} {x2 : Int32} {x3 : Int32} {x4 : Int32} {x5 : Int32} {h : zz_H} {t t' : cS} {o : kY} (hR : kR h t s) (hf : cf_180_71 N X rc x1 x2 x3 x4 x5 t = some (t', o)) (k : (∀ h', kR h' t' s → kE o Q h')) : zz_J zp_P zt_tf zt_fd X d zm_180 71 [(0, .ref 2), (1, .int x1), (2, .int x2), (3, .int x3), (4, .int x4), (5, .int x5)] [] h Q := by
  unfold cf_180_71 at hf
  exact cb_180_71 hR  (fun hR => hrc0 hR hf k)
def cf_180_65 (N : Nat) (X : Nat → Option zz_C) (rc : Nat → Int32 → Int32 → Int32 → Int32 → Int32 → cS → kO) (x1 : Int32) (x2 : Int32) (x3 : Int32) (x4 : Int32) (x5 : Int32) (t : cS) : kO := ko_call 5 (cf_201 N X 93 t) (fun g1 v1 => co_v v1 (cf_180_71 N X rc x1 x2 x3 x4 x5 g1))
theorem cr_180_65 {X : Nat → Option zz_C} {s : mS} {N : Nat} {d : Nat} (hd : 161 ≤ d) {rc : Nat → Int32 → Int32 → Int32 → Int32 → Int32 → cS → kO} (hrc0 : ∀ {Q : zz_O → zz_H → Prop} {x1 : Int32} {x2 : Int32} {x3 : Int32} {x4 : Int32} {x5 : Int32} {h : zz_H} {t t' : cS} {o : kY}, kR h t s → rc 0 x1 x2 x3 x4 x5 t = some (t', o) → (∀ h', kR h' t' s → kE o Q h') → zz_J zp_P zt_tf zt_fd X d zm_180 28 [(0, .ref 2), (1, .int x1), (2, .int x2), (3, .int x3), (4, .int x4), (5, .int x5)] [] h Q) {Q : zz_O → zz_H → Prop} {x1 : Int32} {x2 : Int32} {x3 : Int32} {x4 : Int32} {x5 : Int32} {h : zz_H} {t t' : cS} {o : kY} (hR : kR h t s) (hf : cf_180_65 N X rc x1 x2 x3 x4 x5 t = some (t', o)) (k : (∀ h', kR h' t' s → kE o Q h')) : zz_J zp_P zt_tf zt_fd X d zm_180 65 [(0, .ref 2), (1, .int x1), (2, .int x2), (3, .int x3), (4, .int x4), (5, .int x5)] [] h Q := by
  unfold cf_180_65 at hf
  obtain ⟨d', rfl⟩ : ∃ d', d = d' + 1 := ⟨d - 1, by omega⟩
  refine cb_180_65 hR  (fun {h} hR => ?_)
  rcases ko_call_ok hf with ⟨g1, v1, er, hf⟩ | ⟨g1, er, hq⟩
  · obtain ⟨hv, hf2⟩ := co_v_ok hf
    clear hf
    have hf := hf2
    clear hf2
    subst hv
    refine cr_201 (by omega) hR er (fun h hR => ?_)
    exact cr_180_71 hd hrc0 hR hf k
  · refine cr_201 (by omega) hR er (fun h hR => ?_)
    exact ko_thrown hq hR k
def cf_180_60 (N : Nat) (X : Nat → Option zz_C) (rc : Nat → Int32 → Int32 → Int32 → Int32 → Int32 → cS → kO) (x1 : Int32) (x2 : Int32) (x3 : Int32) (x4 : Int32) (x5 : Int32) (t : cS) : kO := ko_call 5 (cf_S0 N X 150 186 [.int 0] t) (fun g1 v1 => co_v v1 (cf_180_65 N X rc x1 x2 x3 x4 x5 g1))
theorem cr_180_60 {X : Nat → Option zz_C} {s : mS} {N : Nat} {d : Nat} (hd : 161 ≤ d) {rc : Nat → Int32 → Int32 → Int32 → Int32 → Int32 → cS → kO} (hrc0 : ∀ {Q : zz_O → zz_H → Prop} {x1 : Int32} {x2 : Int32} {x3 : Int32} {x4 : Int32} {x5 : Int32} {h : zz_H} {t t' : cS} {o : kY}, kR h t s → rc 0 x1 x2 x3 x4 x5 t = some (t', o) → (∀ h', kR h' t' s → kE o Q h') → zz_J zp_P zt_tf zt_fd X d zm_180 28 [(0, .ref 2), (1, .int x1), (2, .int x2), (3, .int x3), (4, .int x4), (5, .int x5)] [] h Q) {Q : zz_O → zz_H → Prop} {x1 : Int32} {x2 : Int32} {x3 : Int32} {x4 : Int32} {x5 : Int32} {h : zz_H} {t t' : cS} {o : kY} (hR : kR h t s) (hf : cf_180_60 N X rc x1 x2 x3 x4 x5 t = some (t', o)) (k : (∀ h', kR h' t' s → kE o Q h')) : zz_J zp_P zt_tf zt_fd X d zm_180 60 [(0, .ref 2), (1, .int x1), (2, .int x2), (3, .int x3), (4, .int x4), (5, .int x5)] [] h Q := by
  unfold cf_180_60 at hf
  obtain ⟨d', rfl⟩ : ∃ d', d = d' + 1 := ⟨d - 1, by omega⟩
  refine cb_180_60 hR  (fun {h} hR => ?_)
  rcases ko_call_ok hf with ⟨g1, v1, er, hf⟩ | ⟨g1, er, hq⟩
  · obtain ⟨hv, hf2⟩ := co_v_ok hf
    clear hf
    have hf := hf2
    clear hf2
    subst hv
    refine (cr_S0 150).1 (by omega) hR er (fun h hR => ?_)
    exact cr_180_65 hd hrc0 hR hf k
  · refine (cr_S0 150).1 (by omega) hR er (fun h hR => ?_)
    exact ko_thrown hq hR k
def cf_180_52 (N : Nat) (X : Nat → Option zz_C) (rc : Nat → Int32 → Int32 → Int32 → Int32 → Int32 → cS → kO) (x1 : Int32) (x2 : Int32) (x3 : Int32) (x4 : Int32) (y0 : Int32) (t : cS) : kO := ko_call 5 (cf_201 N X 91 t) (fun g1 v1 => co_v v1 (cf_180_60 N X rc x1 x2 x3 x4 y0 g1))
theorem cr_180_52 {X : Nat → Option zz_C} {s : mS} {N : Nat} {d : Nat} (hd : 161 ≤ d) {rc : Nat → Int32 → Int32 → Int32 → Int32 → Int32 → cS → kO} (hrc0 : ∀ {Q : zz_O → zz_H → Prop} {x1 : Int32} {x2 : Int32} {x3 : Int32} {x4 : Int32} {x5 : Int32} {h : zz_H} {t t' : cS} {o : kY}, kR h t s → rc 0 x1 x2 x3 x4 x5 t = some (t', o) → (∀ h', kR h' t' s → kE o Q h') → zz_J zp_P zt_tf zt_fd X d zm_180 28 [(0, .ref 2), (1, .int x1), (2, .int x2), (3, .int x3), (4, .int x4), (5, .int x5)] [] h Q) {Q : zz_O → zz_H → Prop} {x1 : Int32} {x2 : Int32} {x3 : Int32} {x4 : Int32} {y0 : Int32} {h : zz_H} {t t' : cS} {o : kY} (hR : kR h t s) (hf : cf_180_52 N X rc x1 x2 x3 x4 y0 t = some (t', o)) (k : (∀ h', kR h' t' s → kE o Q h')) : zz_J zp_P zt_tf zt_fd X d zm_180 52 [(0, .ref 2), (1, .int x1), (2, .int x2), (3, .int x3), (4, .int x4)] [.int y0] h Q := by
  unfold cf_180_52 at hf
  obtain ⟨d', rfl⟩ : ∃ d', d = d' + 1 := ⟨d - 1, by omega⟩
  refine cb_180_52 hR  (fun {h} hR => ?_)
  rcases ko_call_ok hf with ⟨g1, v1, er, hf⟩ | ⟨g1, er, hq⟩
  · obtain ⟨hv, hf2⟩ := co_v_ok hf
    clear hf
    have hf := hf2
    clear hf2
    subst hv
    refine cr_201 (by omega) hR er (fun h hR => ?_)
    exact cr_180_60 hd hrc0 hR hf k
  · refine cr_201 (by omega) hR er (fun h hR => ?_)
    exact ko_thrown hq hR k
def cf_180_45 (N : Nat) (X : Nat → Option zz_C) (rc : Nat → Int32 → Int32 → Int32 → Int32 → Int32 → cS → kO) (x1 : Int32) (x2 : Int32) (x3 : Int32) (x4 : Int32) (t : cS) : kO := ko_call 10 (cf_243 N X  t) (fun g1 v1 => co_i v1 (fun y => cf_180_52 N X rc x1 x2 x3 x4 y g1))
theorem cr_180_45 {X : Nat → Option zz_C} {s : mS} {N : Nat} {d : Nat} (hd : 161 ≤ d) {rc : Nat → Int32 → Int32 → Int32 → Int32 → Int32 → cS → kO} (hrc0 : ∀ {Q : zz_O → zz_H → Prop} {x1 : Int32} {x2 : Int32} {x3 : Int32} {x4 : Int32} {x5 : Int32} {h : zz_H} {t t' : cS} {o : kY}, kR h t s → rc 0 x1 x2 x3 x4 x5 t = some (t', o) → (∀ h', kR h' t' s → kE o Q h') → zz_J zp_P zt_tf zt_fd X d zm_180 28 [(0, .ref 2), (1, .int x1), (2, .int x2), (3, .int x3), (4, .int x4), (5, .int x5)] [] h Q) {Q : zz_O → zz_H → Prop} {x1 : Int32} {x2 : Int32} {x3 : Int32} {x4 : Int32} {h : zz_H} {t t' : cS} {o : kY} (hR : kR h t s) (hf : cf_180_45 N X rc x1 x2 x3 x4 t = some (t', o)) (k : (∀ h', kR h' t' s → kE o Q h')) : zz_J zp_P zt_tf zt_fd X d zm_180 45 [(0, .ref 2), (1, .int x1), (2, .int x2), (3, .int x3), (4, .int x4)] [] h Q := by
  unfold cf_180_45 at hf
  obtain ⟨d', rfl⟩ : ∃ d', d = d' + 1 := ⟨d - 1, by omega⟩
  refine cb_180_45 hR  (fun {h} hR => ?_)
  rcases ko_call_ok hf with ⟨g1, v1, er, hf⟩ | ⟨g1, er, hq⟩
  · obtain ⟨y, hv, hf2⟩ := co_i_ok hf
    clear hf
    have hf := hf2
    clear hf2
    subst hv
    refine cr_243 (by omega) hR er (fun h hR => ?_)
    exact cr_180_52 hd hrc0 hR hf k
  · refine cr_243 (by omega) hR er (fun h hR => ?_)
    exact ko_thrown hq hR k
def cf_180_40 (N : Nat) (X : Nat → Option zz_C) (rc : Nat → Int32 → Int32 → Int32 → Int32 → Int32 → cS → kO) (x1 : Int32) (x2 : Int32) (x3 : Int32) (x4 : Int32) (x5 : Int32) (y0 : Int32) (t : cS) : kO := if ¬ y0 = 91 then cf_180_77 N X x1 x2 x3 x4 x5 t else cf_180_45 N X rc x1 x2 x3 x4 t
theorem cr_180_40 {X : Nat → Option zz_C} {s : mS} {N : Nat} {d : Nat} (hd : 161 ≤ d) {rc : Nat → Int32 → Int32 → Int32 → Int32 → Int32 → cS → kO} (hrc0 : ∀ {Q : zz_O → zz_H → Prop} {x1 : Int32} {x2 : Int32} {x3 : Int32} {x4 : Int32} {x5 : Int32} {h : zz_H} {t t' : cS} {o : kY}, kR h t s → rc 0 x1 x2 x3 x4 x5 t = some (t', o) → (∀ h', kR h' t' s → kE o Q h') → zz_J zp_P zt_tf zt_fd X d zm_180 28 [(0, .ref 2), (1, .int x1), (2, .int x2), (3, .int x3), (4, .int x4), (5, .int x5)] [] h Q) {Q : zz_O → zz_H → Prop} {x1 : Int32} {x2 : Int32} {x3 : Int32} {x4 : Int32} {x5 : Int32} {y0 : Int32} {h : zz_H} {t t' : cS} {o : kY} (hR : kR h t s) (hf : cf_180_40 N X rc x1 x2 x3 x4 x5 y0 t = some (t', o)) (k : (∀ h', kR h' t' s → kE o Q h')) : zz_J zp_P zt_tf zt_fd X d zm_180 40 [(0, .ref 2), (1, .int x1), (2, .int x2), (3, .int x3), (4, .int x4), (5, .int x5)] [.int y0] h Q := by
  unfold cf_180_40 at hf
  refine cb_180_40 hR  (fun c {h} hR => ?_) (fun c {h} hR => ?_)
  · rw [if_pos c] at hf
    exact cr_180_77 hd hR hf k
  · rw [if_neg c] at hf
    exact cr_180_45 hd hrc0 hR hf k
def cf_180_33 (N : Nat) (X : Nat → Option zz_C) (rc : Nat → Int32 → Int32 → Int32 → Int32 → Int32 → cS → kO) (x1 : Int32) (x2 : Int32) (x3 : Int32) (x4 : Int32) (x5 : Int32) (t : cS) : kO := ko_call 10 (cf_42 N X  t) (fun g1 v1 => co_i v1 (fun y => cf_180_40 N X rc x1 x2 x3 x4 x5 y g1))
theorem cr_180_33 {X : Nat → Option zz_C} {s : mS} {N : Nat} {d : Nat} (hd : 161 ≤ d) {rc : Nat → Int32 → Int32 → Int32 → Int32 → Int32 → cS → kO} (hrc0 : ∀ {Q : zz_O → zz_H → Prop} {x1 : Int32} {x2 : Int32} {x3 : Int32} {x4 : Int32} {x5 : Int32} {h : zz_H} {t t' : cS} {o : kY}, kR h t s → rc 0 x1 x2 x3 x4 x5 t = some (t', o) → (∀ h', kR h' t' s → kE o Q h') → zz_J zp_P zt_tf zt_fd X d zm_180 28 [(0, .ref 2), (1, .int x1), (2, .int x2), (3, .int x3), (4, .int x4), (5, .int x5)] [] h Q) {Q : zz_O → zz_H → Prop} {x1 : Int32} {x2 : Int32} {x3 : Int32} {x4 : Int32} {x5 : Int32} {h : zz_H} {t t' : cS} {o : kY} (hR : kR h t s) (hf : cf_180_33 N X rc x1 x2 x3 x4 x5 t = some (t', o)) (k : (∀ h', kR h' t' s → kE o Q h')) : zz_J zp_P zt_tf zt_fd X d zm_180 33 [(0, .ref 2), (1, .int x1), (2, .int x2), (3, .int x3), (4, .int x4), (5, .int x5)] [] h Q := by
  unfold cf_180_33 at hf
  obtain ⟨d', rfl⟩ : ∃ d', d = d' + 1 := ⟨d - 1, by omega⟩
  refine cb_180_33 hR  (fun {h} hR => ?_)
  rcases ko_call_ok hf with ⟨g1, v1, er, hf⟩ | ⟨g1, er, hq⟩
  · obtain ⟨y, hv, hf2⟩ := co_i_ok hf
    clear hf
    have hf := hf2
    clear hf2
    subst hv
    refine cr_42 (by omega) hR er (fun h hR => ?_)
    exact cr_180_40 hd hrc0 hR hf k
  · refine cr_42 (by omega) hR er (fun h hR => ?_)
    exact ko_thrown hq hR k
def cf_180_28 (N : Nat) (X : Nat → Option zz_C) (rc : Nat → Int32 → Int32 → Int32 → Int32 → Int32 → cS → kO) (x1 : Int32) (x2 : Int32) (x3 : Int32) (x4 : Int32) (x5 : Int32) (t : cS) : kO := if 2 ≤ x3 then cf_180_77 N X x1 x2 x3 x4 x5 t else cf_180_33 N X rc x1 x2 x3 x4 x5 t
theorem cr_180_28 {X : Nat → Option zz_C} {s : mS} {N : Nat} {d : Nat} (hd : 161 ≤ d) {rc : Nat → Int32 → Int32 → Int32 → Int32 → Int32 → cS → kO} (hrc0 : ∀ {Q : zz_O → zz_H → Prop} {x1 : Int32} {x2 : Int32} {x3 : Int32} {x4 : Int32} {x5 : Int32} {h : zz_H} {t t' : cS} {o : kY}, kR h t s → rc 0 x1 x2 x3 x4 x5 t = some (t', o) → (∀ h', kR h' t' s → kE o Q h') → zz_J zp_P zt_tf zt_fd X d zm_180 28 [(0, .ref 2), (1, .int x1), (2, .int x2), (3, .int x3), (4, .int x4), (5, .int x5)] [] h Q) {Q : zz_O → zz_H → Prop} {x1 : Int32} {x2 : Int32} {x3 : Int32} {x4 : Int32} {x5 : Int32} {h : zz_H} {t t' : cS} {o : kY} (hR : kR h t s) (hf : cf_180_28 N X rc x1 x2 x3 x4 x5 t = some (t', o)) (k : (∀ h', kR h' t' s → kE o Q h')) : zz_J zp_P zt_tf zt_fd X d zm_180 28 [(0, .ref 2), (1, .int x1), (2, .int x2), (3, .int x3), (4, .int x4), (5, .int x5)] [] h Q := by
  unfold cf_180_28 at hf
  refine cb_180_28 hR  (fun c {h} hR => ?_) (fun c {h} hR => ?_)
  · rw [if_pos c] at hf
    exact cr_180_77 hd hR hf k
  · rw [if_neg c] at hf
    exact cr_180_33 hd hrc0 hR hf k
def cf_180_L12 (N : Nat) (X : Nat → Option zz_C) : Nat → Nat → Int32 → Int32 → Int32 → Int32 → Int32 → cS → kO
  | 0, _, _, _, _, _, _, _ => none
  | n + 1, l, x1, x2, x3, x4, x5, t => if l = 0 then cf_180_28 N X (cf_180_L12 N X n) x1 x2 x3 x4 x5 t else none
theorem cr_180_L12 {X : Nat → Option zz_C} {s : mS} {N : Nat} {d : Nat} (hd : 161 ≤ d) : ∀ n : Nat, (∀ {Q : zz_O → zz_H → Prop} {x1 : Int32} {x2 : Int32} {x3 : Int32} {x4 : Int32} {x5 : Int32} {h : zz_H} {t t' : cS} {o : kY}, kR h t s → cf_180_L12 N X n 0 x1 x2 x3 x4 x5 t = some (t', o) → (∀ h', kR h' t' s → kE o Q h') → zz_J zp_P zt_tf zt_fd X d zm_180 28 [(0, .ref 2), (1, .int x1), (2, .int x2), (3, .int x3), (4, .int x4), (5, .int x5)] [] h Q) := by
  intro n
  induction n with
  | zero => exact (fun _ hf _ => by cases hf)
  | succ n ih =>
    have h0 := @ih
    intro Q _ _ _ _ _ h t t' o hR hf k
    unfold cf_180_L12 at hf
    rw [if_pos rfl] at hf
    exact cr_180_28 hd h0 hR hf k
def cf_180_22 (N : Nat) (X : Nat → Option zz_C) (x1 : Int32) (x2 : Int32) (x3 : Int32) (y0 : Int32) (t : cS) : kO := cf_180_L12 N X N 0 x1 x2 x3 y0 y0 t
theorem cr_180_22 {X : Nat → Option zz_C} {s : mS} {N : Nat} {d : Nat} (hd : 161 ≤ d) {Q : zz_O → zz_H → Prop} {x1 : Int32} {x2 : Int32} {x3 : Int32} {y0 : Int32} {h : zz_H} {t t' : cS} {o : kY} (hR : kR h t s) (hf : cf_180_22 N X x1 x2 x3 y0 t = some (t', o)) (k : (∀ h', kR h' t' s → kE o Q h')) : zz_J zp_P zt_tf zt_fd X d zm_180 22 [(0, .ref 2), (1, .int x1), (2, .int x2), (3, .int x3)] [.int y0] h Q := by
  unfold cf_180_22 at hf
  exact cb_180_22 hR  (fun hR => cr_180_L12 hd N hR hf k)
def cf_180_12 (N : Nat) (X : Nat → Option zz_C) (x1 : Int32) (y0 : Int32) (t : cS) : kO := ko_call 10 (cf_243 N X  t) (fun g1 v1 => co_i v1 (fun y => cf_180_22 N X x1 y0 0 y g1))
theorem cr_180_12 {X : Nat → Option zz_C} {s : mS} {N : Nat} {d : Nat} (hd : 161 ≤ d) {Q : zz_O → zz_H → Prop} {x1 : Int32} {y0 : Int32} {h : zz_H} {t t' : cS} {o : kY} (hR : kR h t s) (hf : cf_180_12 N X x1 y0 t = some (t', o)) (k : (∀ h', kR h' t' s → kE o Q h')) : zz_J zp_P zt_tf zt_fd X d zm_180 12 [(0, .ref 2), (1, .int x1)] [.int y0] h Q := by
  unfold cf_180_12 at hf
  obtain ⟨d', rfl⟩ : ∃ d', d = d' + 1 := ⟨d - 1, by omega⟩
  refine cb_180_12 hR  (fun {h} hR => ?_)
  rcases ko_call_ok hf with ⟨g1, v1, er, hf⟩ | ⟨g1, er, hq⟩
  · obtain ⟨y, hv, hf2⟩ := co_i_ok hf
    clear hf
    have hf := hf2
    clear hf2
    subst hv
    refine cr_243 (by omega) hR er (fun h hR => ?_)
    exact cr_180_22 hd hR hf k
  · refine cr_243 (by omega) hR er (fun h hR => ?_)
    exact ko_thrown hq hR k
def cf_180_7 (N : Nat) (X : Nat → Option zz_C) (y0 : Int32) (t : cS) : kO := ko_call 5 (cf_195 N X  t) (fun g1 v1 => co_i v1 (fun y => cf_180_12 N X y0 y g1))
theorem cr_180_7 {X : Nat → Option zz_C} {s : mS} {N : Nat} {d : Nat} (hd : 161 ≤ d) {Q : zz_O → zz_H → Prop} {y0 : Int32} {h : zz_H} {t t' : cS} {o : kY} (hR : kR h t s) (hf : cf_180_7 N X y0 t = some (t', o)) (k : (∀ h', kR h' t' s → kE o Q h')) : zz_J zp_P zt_tf zt_fd X d zm_180 7 [(0, .ref 2)] [.int y0] h Q := by
  unfold cf_180_7 at hf
  obtain ⟨d', rfl⟩ : ∃ d', d = d' + 1 := ⟨d - 1, by omega⟩
  refine cb_180_7 hR  (fun {h} hR => ?_)
  rcases ko_call_ok hf with ⟨g1, v1, er, hf⟩ | ⟨g1, er, hq⟩
  · obtain ⟨y, hv, hf2⟩ := co_i_ok hf
    clear hf
    have hf := hf2
    clear hf2
    subst hv
    refine cr_195 (by omega) hR er (fun h hR => ?_)
    exact cr_180_12 hd hR hf k
  · refine cr_195 (by omega) hR er (fun h hR => ?_)
    exact ko_thrown hq hR k
def cf_180_0 (N : Nat) (X : Nat → Option zz_C)  (t : cS) : kO := ko_call 10 (cf_243 N X  t) (fun g1 v1 => co_i v1 (fun y => cf_180_7 N X y g1))
theorem cr_180_0 {X : Nat → Option zz_C} {s : mS} {N : Nat} {d : Nat} (hd : 161 ≤ d) {Q : zz_O → zz_H → Prop}  {h : zz_H} {t t' : cS} {o : kY} (hR : kR h t s) (hf : cf_180_0 N X  t = some (t', o)) (k : (∀ h', kR h' t' s → kE o Q h')) : zz_J zp_P zt_tf zt_fd X d zm_180 0 [(0, .ref 2)] [] h Q := by
  unfold cf_180_0 at hf
  obtain ⟨d', rfl⟩ : ∃ d', d = d' + 1 := ⟨d - 1, by omega⟩
  refine cb_180_0 hR  (fun {h} hR => ?_)
  rcases ko_call_ok hf with ⟨g1, v1, er, hf⟩ | ⟨g1, er, hq⟩
  · obtain ⟨y, hv, hf2⟩ := co_i_ok hf
    clear hf
    have hf := hf2
    clear hf2
    subst hv
    refine cr_243 (by omega) hR er (fun h hR => ?_)
    exact cr_180_7 hd hR hf k
  · refine cr_243 (by omega) hR er (fun h hR => ?_)
    exact ko_thrown hq hR k
/-- assignment -/
def cf_180 (N : Nat) (X : Nat → Option zz_C)  (t : cS) : kO := cf_180_0 N X  t
theorem cr_180 {X : Nat → Option zz_C} {s : mS} {N : Nat} {d : Nat} (hd : 161 ≤ d) {Q : zz_O → zz_H → Prop}  {h : zz_H} {t t' : cS} {o : kY} (hR : kR h t s) (hf : cf_180 N X  t = some (t', o)) (k : ∀ h', kR h' t' s → kE o Q h') : zz_J zp_P zt_tf zt_fd X d zm_180 0 [(0, .ref 2)] [] h Q := by
  unfold cf_180 at hf
  exact zz_J.weak (cr_180_0 hd hR hf k) rfl ⟨rfl, trivial⟩
/-! yX5_condition (I)I -/
theorem cb_183_0 {X : Nat → Option zz_C} {h : zz_H} {t : cS} {s : mS} {d : Nat} {Q : zz_O → zz_H → Prop} {x1 : Int32} (hR : kR h t s) (k : ∀ {h : zz_H}, kR h t s → zz_J zp_P zt_tf zt_fd X d zm_201 0 [(0, .ref 2), (1, .int 40)] [] h (zz_after 5 Q (fun v h' => zz_J zp_P zt_tf zt_fd X (d + 1) zm_183 6 [(0, .ref 2), (1, .int x1)] (v.toList ++ []) h' Q))) : zz_J zp_P zt_tf zt_fd X (d + 1) zm_183 0 [(0, .ref 2), (1, .int x1)] [] h Q := by
  refine zz_J.n 1 rfl rfl rfl ?_
  refine zz_J.c 3 (.int 40) rfl rfl rfl rfl ?_
  refine zz_J.cv 6 (as := []) rfl rfl (hR.clO ko_2 (by decide) (by decide)) (by decide) (Nat.le_of_ble_eq_true rfl) (Nat.le_of_ble_eq_true rfl) rfl (Nat.le_of_ble_eq_true rfl) rfl ?_
  refine zz_J.mono (k hR) ?_
  intro o h' hE
  cases o with
  | inl v => exact zz_J.weak hE rfl ⟨rfl, rfl, trivial⟩
  | inr q => exact hE
theorem cb_183_6 {X : Nat → Option zz_C} {h : zz_H} {t : cS} {s : mS} {d : Nat} {Q : zz_O → zz_H → Prop} {x1 : Int32} (hR : kR h t s) (k : ∀ {h : zz_H}, kR h t s → zz_J zp_P zt_tf zt_fd X d zm_186 0 [(0, .ref 2), (1, .int 0)] [] h (zz_after 5 Q (fun v h' => zz_J zp_P zt_tf zt_fd X (d + 1) zm_183 11 [(0, .ref 2), (1, .int x1)] (v.toList ++ []) h' Q))) : zz_J zp_P zt_tf zt_fd X (d + 1) zm_183 6 [(0, .ref 2), (1, .int x1)] [] h Q := by
  refine zz_J.n 7 rfl rfl rfl ?_
  refine zz_J.c 8 (.int 0) rfl rfl rfl rfl ?_
  refine zz_J.cv 11 (as := []) rfl rfl (hR.clO ko_2 (by decide) (by decide)) (by decide) (Nat.le_of_ble_eq_true rfl) (Nat.le_of_ble_eq_true rfl) rfl (Nat.le_of_ble_eq_true rfl) rfl ?_
  refine zz_J.mono (k hR) ?_
  intro o h' hE
  cases o with
  | inl v => exact zz_J.weak hE rfl ⟨rfl, rfl, trivial⟩
  | inr q => exact hE
theorem cb_183_11 {X : Nat → Option zz_C} {h : zz_H} {t : cS} {s : mS} {d : Nat} {Q : zz_O → zz_H → Prop} {x1 : Int32} (hR : kR h t s) (k : ∀ {h : zz_H}, kR h t s → zz_J zp_P zt_tf zt_fd X d zm_201 0 [(0, .ref 2), (1, .int 41)] [] h (zz_after 5 Q (fun v h' => zz_J zp_P zt_tf zt_fd X (d + 1) zm_183 17 [(0, .ref 2), (1, .int x1)] (v.toList ++ []) h' Q))) : zz_J zp_P zt_tf zt_fd X (d + 1) zm_183 11 [(0, .ref 2), (1, .int x1)] [] h Q := by
  refine zz_J.n 12 rfl rfl rfl ?_
  refine zz_J.c 14 (.int 41) rfl rfl rfl rfl ?_
  refine zz_J.cv 17 (as := []) rfl rfl (hR.clO ko_2 (by decide) (by decide)) (by decide) (Nat.le_of_ble_eq_true rfl) (Nat.le_of_ble_eq_true rfl) rfl (Nat.le_of_ble_eq_true rfl) rfl ?_
  refine zz_J.mono (k hR) ?_
  intro o h' hE
  cases o with
  | inl v => exact zz_J.weak hE rfl ⟨rfl, rfl, trivial⟩
  | inr q => exact hE
theorem cb_183_17 {X : Nat → Option zz_C} {h : zz_H} {t : cS} {s : mS} {d : Nat} {Q : zz_O → zz_H → Prop} {x1 : Int32} (hR : kR h t s) {w0 : Nat} (e0 : (kP t 2 1) = some w0) (e1 : w0 = 12 ∨ w0 = 21) (k : ∀ {h : zz_H}, kR h t s → zz_J zp_P zt_tf zt_fd X d zm_209 0 [(0, .ref w0), (1, .int 5), (2, .int 0), (3, .int x1)] [] h (zz_after 6 Q (fun v h' => zz_J zp_P zt_tf zt_fd X (d + 1) zm_183 27 [] (v.toList ++ []) h' Q))) : zz_J zp_P zt_tf zt_fd X (d + 1) zm_183 17 [(0, .ref 2), (1, .int x1)] [] h Q := by
  refine zz_J.n 18 rfl rfl rfl ?_
  refine zz_J.g 21 rfl (hR.gv (v := .ref w0) ko_2 (by decide) ((congrArg (fun q => some (zz_rv q)) e0).trans rfl)) rfl ?_
  refine zz_J.c 22 (.int 5) rfl rfl rfl rfl ?_
  refine zz_J.c 23 (.int 0) rfl rfl rfl rfl ?_
  refine zz_J.n 24 rfl rfl rfl ?_
  refine zz_J.cv 27 (as := []) rfl rfl (hR.clO (ko_P e1) (by decide) (by decide)) (by decide) (Nat.le_of_ble_eq_true rfl) (Nat.le_of_ble_eq_true rfl) rfl (Nat.le_of_ble_eq_true rfl) rfl ?_
  refine zz_J.mono (k hR) ?_
  intro o h' hE
  cases o with
  | inl v => exact zz_J.weak hE rfl trivial
  | inr q => exact hE
theorem cb_183_27 {X : Nat → Option zz_C} {h : zz_H} {t : cS} {s : mS} {d : Nat} {Q : zz_O → zz_H → Prop} {y0 : Int32} (hR : kR h t s) (k : ∀ {h : zz_H}, kR h t s → Q (.inl (some (.int y0))) h) : zz_J zp_P zt_tf zt_fd X d zm_183 27 [] [.int y0] h Q := by
  refine zz_J.ret rfl rfl rfl ?_
  exact k hR
def cf_183_27 (N : Nat) (X : Nat → Option zz_C) (y0 : Int32) (t : cS) : kO := some (t, .inl (some (.int y0)))
theorem cr_183_27 {X : Nat → Option zz_C} {s : mS} {N : Nat} {d : Nat} (hd : 161 ≤ d) {Q : zz_O → zz_H → Prop} {y0 : Int32} {h : zz_H} {t t' : cS} {o : kY} (hR : kR h t s) (hf : cf_183_27 N X y0 t = some (t', o)) (k : (∀ h', kR h' t' s → kE o Q h')) : zz_J zp_P zt_tf zt_fd X d zm_183 27 [] [.int y0] h Q := by
  unfold cf_183_27 at hf
  cases hf
  exact cb_183_27 hR  (fun {h} hR => k h hR)
def cf_183_17 (N : Nat) (X : Nat → Option zz_C) (x1 : Int32) (t : cS) : kO := co_b ((kP t 2 1)) (fun w0 => if w0 = 12 ∨ w0 = 21 then (ko_call 6 (cf_209 N X w0 5 0 x1 t) (fun g1 v1 => co_i v1 (fun y => cf_183_27 N X y g1))) else none)
theorem cr_183_17 {X : Nat → Option zz_C} {s : mS} {N : Nat} {d : Nat} (hd : 161 ≤ d) {Q : zz_O → zz_H → Prop} {x1 : Int32} {h : zz_H} {t t' : cS} {o : kY} (hR : kR h t s) (hf : cf_183_17 N X x1 t = some (t', o)) (k : (∀ h', kR h' t' s → kE o Q h')) : zz_J zp_P zt_tf zt_fd X d zm_183 17 [(0, .ref 2), (1, .int x1)] [] h Q := by
  unfold cf_183_17 at hf
  obtain ⟨w0, e0, hf⟩ := co_b_ok hf
  obtain ⟨e1, hf⟩ := ko_if hf
  obtain ⟨d', rfl⟩ : ∃ d', d = d' + 1 := ⟨d - 1, by omega⟩
  refine cb_183_17 hR e0 e1 (fun {h} hR => ?_)
  rcases ko_call_ok hf with ⟨g1, v1, er, hf⟩ | ⟨g1, er, hq⟩
  · obtain ⟨y, hv, hf2⟩ := co_i_ok hf
    clear hf
    have hf := hf2
    clear hf2
    subst hv
    refine cr_209 (by omega) hR er (fun h hR => ?_)
    exact cr_183_27 hd hR hf k
  · refine cr_209 (by omega) hR er (fun h hR => ?_)
    exact ko_thrown hq hR k
def cf_183_11 (N : Nat) (X : Nat → Option zz_C) (x1 : Int32) (t : cS) : kO := ko_call 5 (cf_201 N X 41 t) (fun g1 v1 => co_v v1 (cf_183_17 N X x1 g1))
theorem cr_183_11 {X : Nat → Option zz_C} {s : mS} {N : Nat} {d : Nat} (hd : 161 ≤ d) {Q : zz_O → zz_H → Prop} {x1 : Int32} {h : zz_H} {t t' : cS} {o : kY} (hR : kR h t s) (hf : cf_183_11 N X x1 t = some (t', o)) (k : (∀ h', kR h' t' s → kE o Q h')) : zz_J zp_P zt_tf zt_fd X d zm_183 11 [(0, .ref 2), (1, .int x1)] [] h Q := by
  unfold cf_183_11 at hf
  obtain ⟨d', rfl⟩ : ∃ d', d = d' + 1 := ⟨d - 1, by omega⟩
  refine cb_183_11 hR  (fun {h} hR => ?_)
  rcases ko_call_ok hf with ⟨g1, v1, er, hf⟩ | ⟨g1, er, hq⟩
  · obtain ⟨hv, hf2⟩ := co_v_ok hf
    clear hf
    have hf := hf2
    clear hf2
    subst hv
    refine cr_201 (by omega) hR er (fun h hR => ?_)
    exact cr_183_17 hd hR hf k
  · refine cr_201 (by omega) hR er (fun h hR => ?_)
    exact ko_thrown hq hR k
def cf_183_6 (N : Nat) (X : Nat → Option zz_C) (x1 : Int32) (t : cS) : kO := ko_call 5 (cf_S0 N X 150 186 [.int 0] t) (fun g1 v1 => co_v v1 (cf_183_11 N X x1 g1))
theorem cr_183_6 {X : Nat → Option zz_C} {s : mS} {N : Nat} {d : Nat} (hd : 161 ≤ d) {Q : zz_O → zz_H → Prop} {x1 : Int32} {h : zz_H} {t t' : cS} {o : kY} (hR : kR h t s) (hf : cf_183_6 N X x1 t = some (t', o)) (k : (∀ h', kR h' t' s → kE o Q h')) : zz_J zp_P zt_tf zt_fd X d zm_183 6 [(0, .ref 2), (1, .int x1)] [] h Q := by
  unfold cf_183_6 at hf
  obtain ⟨d', rfl⟩ : ∃ d', d = d' + 1 := ⟨d - 1, by omega⟩
  refine cb_183_6 hR  (fun {h} hR => ?_)
  rcases ko_call_ok hf with ⟨g1, v1, er, hf⟩ | ⟨g1, er, hq⟩
  · obtain ⟨hv, hf2⟩ := co_v_ok hf
    clear hf
    have hf := hf2
    clear hf2
    subst hv
    refine (cr_S0 150).1 (by omega) hR er (fun h hR => ?_)
    exact cr_183_11 hd hR hf k
  · refine (cr_S0 150).1 (by omega) hR er (fun h hR => ?_)
    exact ko_thrown hq hR k
def cf_183_0 (N : Nat) (X : Nat → Option zz_C) (x1 : Int32) (t : cS) : kO := ko_call 5 (cf_201 N X 40 t) (fun g1 v1 => co_v v1 (cf_183_6 N X x1 g1))
theorem cr_183_0 {X : Nat → Option zz_C} {s : mS} {N : Nat} {d : Nat} (hd : 161 ≤ d) {Q : zz_O → zz_H → Prop} {x1 : Int32} {h : zz_H} {t t' : cS} {o : kY} (hR : kR h t s) (hf : cf_183_0 N X x1 t = some (t', o)) (k : (∀ h', kR h' t' s → kE o Q h')) : zz_J zp_P zt_tf zt_fd X d zm_183 0 [(0, .ref 2), (1, .int x1)] [] h Q := by
  unfold cf_183_0 at hf
  obtain ⟨d', rfl⟩ : ∃ d', d = d' + 1 := ⟨d - 1, by omega⟩
  refine cb_183_0 hR  (fun {h} hR => ?_)
  rcases ko_call_ok hf with ⟨g1, v1, er, hf⟩ | ⟨g1, er, hq⟩
  · obtain ⟨hv, hf2⟩ := co_v_ok hf
    clear hf
    have hf := hf2
    clear hf2
    subst hv
    refine cr_201 (by omega) hR er (fun h hR => ?_)
    exact cr_183_6 hd hR hf k
  · refine cr_201 (by omega) hR er (fun h hR => ?_)
    exact ko_thrown hq hR k
/-- condition -/
def cf_183 (N : Nat) (X : Nat → Option zz_C) (x1 : Int32) (t : cS) : kO := cf_183_0 N X x1 t
theorem cr_183 {X : Nat → Option zz_C} {s : mS} {N : Nat} {d : Nat} (hd : 161 ≤ d) {Q : zz_O → zz_H → Prop} {x1 : Int32} {h : zz_H} {t t' : cS} {o : kY} (hR : kR h t s) (hf : cf_183 N X x1 t = some (t', o)) (k : ∀ h', kR h' t' s → kE o Q h') : zz_J zp_P zt_tf zt_fd X d zm_183 0 [(0, .ref 2), (1, .int x1)] [] h Q := by
  unfold cf_183 at hf
  exact zz_J.weak (cr_183_0 hd hR hf k) rfl ⟨rfl, rfl, trivial⟩
/-! yX6_length ()I -/
theorem cb_203_0 {X : Nat → Option zz_C} {h : zz_H} {t : cS} {s : mS} {d : Nat} {Q : zz_O → zz_H → Prop} {x0 : Nat} (hR : kR h t s) (e0 : x0 = 12 ∨ x0 = 21) (k : ∀ {h : zz_H}, kR h t s → Q (.inl (some (.int (kI t x0 3)))) h) : zz_J zp_P zt_tf zt_fd X d zm_203 0 [(0, .ref x0)] [] h Q := by
  refine zz_J.n 1 rfl rfl rfl ?_
  refine zz_J.g 4 rfl (hR.gv (v := .int (kI t x0 3)) (ko_P e0) (by decide) rfl) rfl ?_
  refine zz_J.ret rfl rfl rfl ?_
  exact k hR
def cf_203_0 (N : Nat) (X : Nat → Option zz_C) (x0 : Nat) (t : cS) : kO := if x0 = 12 ∨ x0 = 21 then (some (t, .inl (some (.int (kI t x0 3))))) else none
theorem cr_203_0 {X : Nat → Option zz_C} {s : mS} {N : Nat} {d : Nat} (hd : 0 ≤ d) {Q : zz_O → zz_H → Prop} {x0 : Nat} {h : zz_H} {t t' : cS} {o : kY} (hR : kR h t s) (hf : cf_203_0 N X x0 t = some (t', o)) (k : (∀ h', kR h' t' s → kE o Q h')) : zz_J zp_P zt_tf zt_fd X d zm_203 0 [(0, .ref x0)] [] h Q := by
  unfold cf_203_0 at hf
  obtain ⟨e0, hf⟩ := ko_if hf
  cases hf
  exact cb_203_0 hR e0 (fun {h} hR => k h hR)
/-- length -/
def cf_203 (N : Nat) (X : Nat → Option zz_C) (x0 : Nat) (t : cS) : kO := cf_203_0 N X x0 t
theorem cr_203 {X : Nat → Option zz_C} {s : mS} {N : Nat} {d : Nat} (hd : 0 ≤ d) {Q : zz_O → zz_H → Prop} {x0 : Nat} {h : zz_H} {t t' : cS} {o : kY} (hR : kR h t s) (hf : cf_203 N X x0 t = some (t', o)) (k : ∀ h', kR h' t' s → kE o Q h') : zz_J zp_P zt_tf zt_fd X d zm_203 0 [(0, .ref x0)] [] h Q := by
  unfold cf_203 at hf
  exact zz_J.weak (cr_203_0 hd hR hf k) rfl ⟨rfl, trivial⟩
/-! yX6_amend (II)V -/
theorem cb_210_0 {X : Nat → Option zz_C} {h : zz_H} {t : cS} {s : mS} {d : Nat} {Q : zz_O → zz_H → Prop} {x0 : Nat} {x1 : Int32} {x2 : Int32} (hR : kR h t s) (k1 : x1 < 0 → (∀ {h : zz_H}, kR h t s → zz_J zp_P zt_tf zt_fd X d zm_210 19 [] [] h Q)) (k2 : ¬ x1 < 0 → (∀ {h : zz_H}, kR h t s → zz_J zp_P zt_tf zt_fd X d zm_210 4 [(0, .ref x0), (1, .int x1), (2, .int x2)] [] h Q)) : zz_J zp_P zt_tf zt_fd X d zm_210 0 [(0, .ref x0), (1, .int x1), (2, .int x2)] [] h Q := by
  refine zz_J.n 1 rfl rfl rfl ?_
  refine zz_J.b1 19 4 (A := x1 < 0) rfl rfl (by decide) rfl rfl (fun c => ?_) (fun c => ?_)
  · exact zz_J.weak (k1 c hR) rfl trivial
  · exact zz_J.weak (k2 c hR) rfl ⟨rfl, rfl, rfl, trivial⟩
theorem cb_210_4 {X : Nat → Option zz_C} {h : zz_H} {t : cS} {s : mS} {d : Nat} {Q : zz_O → zz_H → Prop} {x0 : Nat} {x1 : Int32} {x2 : Int32} (hR : kR h t s) (e0 : x0 = 12 ∨ x0 = 21) (k1 : (kI t x0 3) ≤ x1 → (∀ {h : zz_H}, kR h t s → zz_J zp_P zt_tf zt_fd X d zm_210 19 [] [] h Q)) (k2 : ¬ (kI t x0 3) ≤ x1 → (∀ {h : zz_H}, kR h t s → zz_J zp_P zt_tf zt_fd X d zm_210 12 [(0, .ref x0), (1, .int x1), (2, .int x2)] [] h Q)) : zz_J zp_P zt_tf zt_fd X d zm_210 4 [(0, .ref x0), (1, .int x1), (2, .int x2)] [] h Q := by
  refine zz_J.n 5 rfl rfl rfl ?_
  refine zz_J.n 6 rfl rfl rfl ?_
  refine zz_J.g 9 rfl (hR.gv (v := .int (kI t x0 3)) (ko_P e0) (by decide) rfl) rfl ?_
  refine zz_J.b2 19 12 (A := (kI t x0 3) ≤ x1) rfl rfl (by decide) rfl rfl (fun c => ?_) (fun c => ?_)
  · exact zz_J.weak (k1 c hR) rfl trivial
  · exact zz_J.weak (k2 c hR) rfl ⟨rfl, rfl, rfl, trivial⟩
theorem cb_210_12 {X : Nat → Option zz_C} {h : zz_H} {t : cS} {s : mS} {d : Nat} {Q : zz_O → zz_H → Prop} {x0 : Nat} {x1 : Int32} {x2 : Int32} (hR : kR h t s) (e0 : x0 = 12 ∨ x0 = 21) (e1 : ¬ (x1 < 0 ∨ (kA t (x0 + 2)).1 ≤ (Int32.toNatClampNeg x1))) (k : ∀ {h : zz_H}, kR h (jA t (x0 + 2) (upd (kA t (x0 + 2)).2 (Int32.toNatClampNeg x1) x2)) s → zz_J zp_P zt_tf zt_fd X d zm_210 19 [] [] h Q) : zz_J zp_P zt_tf zt_fd X d zm_210 12 [(0, .ref x0), (1, .int x1), (2, .int x2)] [] h Q := by
  refine zz_J.n 13 rfl rfl rfl ?_
  refine zz_J.g 16 rfl (hR.gv (v := .ref (kD t (x0 + 2))) (ko_P e0) (by decide) rfl) rfl ?_
  refine zz_J.n 17 rfl rfl rfl ?_
  refine zz_J.n 18 rfl rfl rfl ?_
  obtain ⟨h1, eq1, hR⟩ := hR.si (x := x2) (ka_P2 e0) rfl e1
  refine zz_J.si 19 rfl eq1 rfl ?_
  clear eq1
  exact zz_J.weak (k hR) rfl trivial
theorem cb_210_19 {X : Nat → Option zz_C} {h : zz_H} {t : cS} {s : mS} {d : Nat} {Q : zz_O → zz_H → Prop}  (hR : kR h t s) (k : ∀ {h : zz_H}, kR h t s → Q (.inl none) h) : zz_J zp_P zt_tf zt_fd X d zm_210 19 [] [] h Q := by
  refine zz_J.ret rfl rfl rfl ?_
  exact k hR
def cf_210_19 (N : Nat) (X : Nat → Option zz_C)  (t : cS) : kO := some (t, .inl none)
theorem cr_210_19 {X : Nat → Option zz_C} {s : mS} {N : Nat} {d : Nat} (hd : 0 ≤ d) {Q : zz_O → zz_H → Prop}  {h : zz_H} {t t' : cS} {o : kY} (hR : kR h t s) (hf : cf_210_19 N X  t = some (t', o)) (k : (∀ h', kR h' t' s → kE o Q h')) : zz_J zp_P zt_tf zt_fd X d zm_210 19 [] [] h Q := by
  unfold cf_210_19 at hf
  cases hf
  exact cb_210_19 hR  (fun {h} hR => k h hR)
def cf_210_12 (N : Nat) (X : Nat → Option zz_C) (x0 : Nat) (x1 : Int32) (x2 : Int32) (t : cS) : kO := if x0 = 12 ∨ x0 = 21 then (if ¬ (x1 < 0 ∨ (kA t (x0 + 2)).1 ≤ (Int32.toNatClampNeg x1)) then (cf_210_19 N X  (jA t (x0 + 2) (upd (kA t (x0 + 2)).2 (Int32.toNatClampNeg x1) x2))) else none) else none
theorem cr_210_12 {X : Nat → Option zz_C} {s : mS} {N : Nat} {d : Nat} (hd : 0 ≤ d) {Q : zz_O → zz_H → Prop} {x0 : Nat} {x1 : Int32} {x2 : Int32} {h : zz_H} {t t' : cS} {o : kY} (hR : kR h t s) (hf : cf_210_12 N X x0 x1 x2 t = some (t', o)) (k : (∀ h', kR h' t' s → kE o Q h')) : zz_J zp_P zt_tf zt_fd X d zm_210 12 [(0, .ref x0), (1, .int x1), (2, .int x2)] [] h Q := by
  unfold cf_210_12 at hf
  obtain ⟨e0, hf⟩ := ko_if hf
  obtain ⟨e1, hf⟩ := ko_if hf
  exact cb_210_12 hR e0 e1 (fun hR => cr_210_19 hd hR hf k)
def cf_210_4 (N : Nat) (X : Nat → Option zz_C) (x0 : Nat) (x1 : Int32) (x2 : Int32) (t : cS) : kO := if x0 = 12 ∨ x0 = 21 then (if (kI t x0 3) ≤ x1 then cf_210_19 N X  t else cf_210_12 N X x0 x1 x2 t) else none
theorem cr_210_4 {X : Nat → Option zz_C} {s : mS} {N : Nat} {d : Nat} (hd : 0 ≤ d) {Q : zz_O → zz_H → Prop} {x0 : Nat} {x1 : Int32} {x2 : Int32} {h : zz_H} {t t' : cS} {o : kY} (hR : kR h t s) (hf : cf_210_4 N X x0 x1 x2 t = some (t', o)) (k : (∀ h', kR h' t' s → kE o Q h')) : zz_J zp_P zt_tf zt_fd X d zm_210 4 [(0, .ref x0), (1, .int x1), (2, .int x2)] [] h Q := by
  unfold cf_210_4 at hf
  obtain ⟨e0, hf⟩ := ko_if hf
  refine cb_210_4 hR e0 (fun c {h} hR => ?_) (fun c {h} hR => ?_)
  · rw [if_pos c] at hf
    exact cr_210_19 hd hR hf k
  · rw [if_neg c] at hf
    exact cr_210_12 hd hR hf k
def cf_210_0 (N : Nat) (X : Nat → Option zz_C) (x0 : Nat) (x1 : Int32) (x2 : Int32) (t : cS) : kO := if x1 < 0 then cf_210_19 N X  t else cf_210_4 N X x0 x1 x2 t
theorem cr_210_0 {X : Nat → Option zz_C} {s : mS} {N : Nat} {d : Nat} (hd : 0 ≤ d) {Q : zz_O → zz_H → Prop} {x0 : Nat} {x1 : Int32} {x2 : Int32} {h : zz_H} {t t' : cS} {o : kY} (hR : kR h t s) (hf : cf_210_0 N X x0 x1 x2 t = some (t', o)) (k : (∀ h', kR h' t' s → kE o Q h')) : zz_J zp_P zt_tf zt_fd X d zm_210 0 [(0, .ref x0), (1, .int x1), (2, .int x2)] [] h Q := by
  unfold cf_210_0 at hf
  refine cb_210_0 hR  (fun c {h} hR => ?_) (fun c {h} hR => ?_)
  · rw [if_pos c] at hf
    exact cr_210_19 hd hR hf k
  · rw [if_neg c] at hf
    exact cr_210_4 hd hR hf k
/-- amend -/
def cf_210 (N : Nat) (X : Nat → Option zz_C) (x0 : Nat) (x1 : Int32) (x2 : Int32) (t : cS) : kO := cf_210_0 N X x0 x1 x2 t
theorem cr_210 {X : Nat → Option zz_C} {s : mS} {N : Nat} {d : Nat} (hd : 0 ≤ d) {Q : zz_O → zz_H → Prop} {x0 : Nat} {x1 : Int32} {x2 : Int32} {h : zz_H} {t t' : cS} {o : kY} (hR : kR h t s) (hf : cf_210 N X x0 x1 x2 t = some (t', o)) (k : ∀ h', kR h' t' s → kE o Q h') : zz_J zp_P zt_tf zt_fd X d zm_210 0 [(0, .ref x0), (1, .int x1), (2, .int x2)] [] h Q := by
  unfold cf_210 at hf
  exact zz_J.weak (cr_210_0 hd hR hf k) rfl ⟨rfl, rfl, rfl, trivial⟩
/-! yX5_passWord (LTallySlate$Word;)V -/
theorem cb_200_0 {X : Nat → Option zz_C} {h : zz_H} {t : cS} {s : mS} {d : Nat} {Q : zz_O → zz_H → Prop} {x1 : Nat} (hR : kR h t s) (k : ∀ {h : zz_H}, kR h t s → zz_J zp_P zt_tf zt_fd X d zm_42 0 [(0, .ref 3)] [] h (zz_after 10 Q (fun v h' => zz_J zp_P zt_tf zt_fd X (d + 1) zm_200 8 [(0, .ref 2), (1, .ref x1)] (v.toList ++ [.ref 2]) h' Q))) : zz_J zp_P zt_tf zt_fd X (d + 1) zm_200 0 [(0, .ref 2), (1, .ref x1)] [] h Q := by
  refine zz_J.n 1 rfl rfl rfl ?_
  refine zz_J.n 2 rfl rfl rfl ?_
  refine zz_J.g 5 rfl (hR.gv (v := .ref 3) ko_2 (by decide) rfl) rfl ?_
  refine zz_J.cv 8 (as := [.ref 2]) rfl rfl (hR.clO ko_3 (by decide) (by decide)) (by decide) (Nat.le_of_ble_eq_true rfl) (Nat.le_of_ble_eq_true rfl) rfl (Nat.le_of_ble_eq_true rfl) rfl ?_
  refine zz_J.mono (k hR) ?_
  intro o h' hE
  cases o with
  | inl v => exact zz_J.weak hE rfl ⟨rfl, rfl, trivial⟩
  | inr q => exact hE
theorem cb_200_8 {X : Nat → Option zz_C} {h : zz_H} {t : cS} {s : mS} {d : Nat} {Q : zz_O → zz_H → Prop} {x1 : Nat} {y1 : Int32} (hR : kR h t s) (k1 : ¬ y1 = 4 → (∀ {h : zz_H}, kR h t s → zz_J zp_P zt_tf zt_fd X d zm_200 24 [(0, .ref 2)] [.ref 2] h Q)) (k2 : ¬ ¬ y1 = 4 → (∀ {h : zz_H}, kR h t s → zz_J zp_P zt_tf zt_fd X d zm_200 12 [(0, .ref 2), (1, .ref x1)] [.ref 2] h Q)) : zz_J zp_P zt_tf zt_fd X d zm_200 8 [(0, .ref 2), (1, .ref x1)] [.int y1, .ref 2] h Q := by
  refine zz_J.c 9 (.int 4) rfl rfl rfl rfl ?_
  refine zz_J.b2 24 12 (A := ¬ y1 = 4) rfl (zz_cond_ne _ _) (by decide) rfl rfl (fun c => ?_) (fun c => ?_)
  · exact zz_J.weak (k1 c hR) rfl ⟨rfl, trivial⟩
  · exact zz_J.weak (k2 c hR) rfl ⟨rfl, rfl, trivial⟩
theorem cb_200_12 {X : Nat → Option zz_C} {h : zz_H} {t : cS} {s : mS} {d : Nat} {Q : zz_O → zz_H → Prop} {x1 : Nat} (hR : kR h t s) (k : ∀ {h : zz_H}, kR h t s → zz_J zp_P zt_tf zt_fd X d zm_199 0 [(0, .ref 2)] [] h (zz_after 5 Q (fun v h' => zz_J zp_P zt_tf zt_fd X (d + 1) zm_200 16 [(0, .ref 2), (1, .ref x1)] (v.toList ++ [.ref 2]) h' Q))) : zz_J zp_P zt_tf zt_fd X (d + 1) zm_200 12 [(0, .ref 2), (1, .ref x1)] [.ref 2] h Q := by
  refine zz_J.n 13 rfl rfl rfl ?_
  refine zz_J.cv 16 (as := [.ref 2]) rfl rfl (hR.clO ko_2 (by decide) (by decide)) (by decide) (Nat.le_of_ble_eq_true rfl) (Nat.le_of_ble_eq_true rfl) rfl (Nat.le_of_ble_eq_true rfl) rfl ?_
  refine zz_J.mono (k hR) ?_
  intro o h' hE
  cases o with
  | inl v => exact zz_J.weak hE rfl ⟨rfl, rfl, trivial⟩
  | inr q => exact hE
theorem cb_200_16 {X : Nat → Option zz_C} {h : zz_H} {t : cS} {s : mS} {d : Nat} {Q : zz_O → zz_H → Prop} {x1 : Nat} {y1 : Nat} (hR : kR h t s) (e0 : (zz_out < y1 ∧ y1 ≤ zz_out + 41) ∧ zz_out < x1 ∧ x1 ≤ zz_out + 41) (k1 : zz_ac .ne y1 x1 = true → (∀ {h : zz_H}, kR h t s → zz_J zp_P zt_tf zt_fd X d zm_200 24 [(0, .ref 2)] [.ref 2] h Q)) (k2 : ¬ zz_ac .ne y1 x1 = true → (∀ {h : zz_H}, kR h t s → zz_J zp_P zt_tf zt_fd X d zm_200 20 [(0, .ref 2)] [.ref 2] h Q)) : zz_J zp_P zt_tf zt_fd X d zm_200 16 [(0, .ref 2), (1, .ref x1)] [.ref y1, .ref 2] h Q := by
  refine zz_J.n 17 rfl rfl rfl ?_
  refine zz_J.ba 24 20 rfl e0 (by decide) rfl rfl (fun c => ?_) (fun c => ?_)
  · exact zz_J.weak (k1 c hR) rfl ⟨rfl, trivial⟩
  · exact zz_J.weak (k2 c hR) rfl ⟨rfl, trivial⟩
theorem cb_200_20 {X : Nat → Option zz_C} {h : zz_H} {t : cS} {s : mS} {d : Nat} {Q : zz_O → zz_H → Prop}  (hR : kR h t s) (k : ∀ {h : zz_H}, kR h t s → zz_J zp_P zt_tf zt_fd X d zm_200 25 [(0, .ref 2)] [.int 1, .ref 2] h Q) : zz_J zp_P zt_tf zt_fd X d zm_200 20 [(0, .ref 2)] [.ref 2] h Q := by
  refine zz_J.c 21 (.int 1) rfl rfl rfl rfl ?_
  refine zz_J.n 25 rfl rfl rfl ?_
  exact zz_J.weak (k hR) rfl ⟨rfl, trivial⟩
theorem cb_200_24 {X : Nat → Option zz_C} {h : zz_H} {t : cS} {s : mS} {d : Nat} {Q : zz_O → zz_H → Prop}  (hR : kR h t s) (k : ∀ {h : zz_H}, kR h t s → zz_J zp_P zt_tf zt_fd X d zm_200 25 [(0, .ref 2)] [.int 0, .ref 2] h Q) : zz_J zp_P zt_tf zt_fd X d zm_200 24 [(0, .ref 2)] [.ref 2] h Q := by
  refine zz_J.c 25 (.int 0) rfl rfl rfl rfl ?_
  exact zz_J.weak (k hR) rfl ⟨rfl, trivial⟩
theorem cb_200_25 {X : Nat → Option zz_C} {h : zz_H} {t : cS} {s : mS} {d : Nat} {Q : zz_O → zz_H → Prop} {y1 : Int32} (hR : kR h t s) (k : ∀ {h : zz_H}, kR h t s → zz_J zp_P zt_tf zt_fd X d zm_202 0 [(0, .ref 2), (1, .int y1), (2, .int 2)] [] h (zz_after 5 Q (fun v h' => zz_J zp_P zt_tf zt_fd X (d + 1) zm_200 29 [(0, .ref 2)] (v.toList ++ []) h' Q))) : zz_J zp_P zt_tf zt_fd X (d + 1) zm_200 25 [(0, .ref 2)] [.int y1, .ref 2] h Q := by
  refine zz_J.c 26 (.int 2) rfl rfl rfl rfl ?_
  refine zz_J.cv 29 (as := []) rfl rfl (hR.clO ko_2 (by decide) (by decide)) (by decide) (Nat.le_of_ble_eq_true rfl) (Nat.le_of_ble_eq_true rfl) rfl (Nat.le_of_ble_eq_true rfl) rfl ?_
  refine zz_J.mono (k hR) ?_
  intro o h' hE
  cases o with
  | inl v => exact zz_J.weak hE rfl ⟨rfl, trivial⟩
  | inr q => exact hE
theorem cb_200_29 {X : Nat → Option zz_C} {h : zz_H} {t : cS} {s : mS} {d : Nat} {Q : zz_O → zz_H → Prop}  (hR : kR h t s) (k : ∀ {h : zz_H}, kR h t s → zz_J zp_P zt_tf zt_fd X d zm_46 0 [(0, .ref 3)] [] h (zz_after 10 Q (fun v h' => zz_J zp_P zt_tf zt_fd X (d + 1) zm_200 36 [] (v.toList ++ []) h' Q))) : zz_J zp_P zt_tf zt_fd X (d + 1) zm_200 29 [(0, .ref 2)] [] h Q := by
  refine zz_J.n 30 rfl rfl rfl ?_
  refine zz_J.g 33 rfl (hR.gv (v := .ref 3) ko_2 (by decide) rfl) rfl ?_
  refine zz_J.cv 36 (as := []) rfl rfl (hR.clO ko_3 (by decide) (by decide)) (by decide) (Nat.le_of_ble_eq_true rfl) (Nat.le_of_ble_eq_true rfl) rfl (Nat.le_of_ble_eq_true rfl) rfl ?_
  refine zz_J.mono (k hR) ?_
  intro o h' hE
  cases o with
  | inl v => exact zz_J.weak hE rfl trivial
  | inr q => exact hE
theorem cb_200_36 {X : Nat → Option zz_C} {h : zz_H} {t : cS} {s : mS} {d : Nat} {Q : zz_O → zz_H → Prop}  (hR : kR h t s) (k : ∀ {h : zz_H}, kR h t s → Q (.inl none) h) : zz_J zp_P zt_tf zt_fd X d zm_200 36 [] [] h Q := by
  refine zz_J.ret rfl rfl rfl ?_
  exact k hR
def cf_200_36 (N : Nat) (X : Nat → Option zz_C)  (t : cS) : kO := some (t, .inl none)
theorem cr_200_36 {X : Nat → Option zz_C} {s : mS} {N : Nat} {d : Nat} (hd : 9 ≤ d) {Q : zz_O → zz_H → Prop}  {h : zz_H} {t t' : cS} {o : kY} (hR : kR h t s) (hf : cf_200_36 N X  t = some (t', o)) (k : (∀ h', kR h' t' s → kE o Q h')) : zz_J zp_P zt_tf zt_fd X d zm_200 36 [] [] h Q := by
  unfold cf_200_36 at hf
  cases hf
  exact cb_200_36 hR  (fun {h} hR => k h hR)
def cf_200_29 (N : Nat) (X : Nat → Option zz_C)  (t : cS) : kO := ko_call 10 (cf_46 N X  t) (fun g1 v1 => co_v v1 (cf_200_36 N X  g1))
theorem cr_200_29 {X : Nat → Option zz_C} {s : mS} {N : Nat} {d : Nat} (hd : 9 ≤ d) {Q : zz_O → zz_H → Prop}  {h : zz_H} {t t' : cS} {o : kY} (hR : kR h t s) (hf : cf_200_29 N X  t = some (t', o)) (k : (∀ h', kR h' t' s → kE o Q h')) : zz_J zp_P zt_tf zt_fd X d zm_200 29 [(0, .ref 2)] [] h Q := by
  unfold cf_200_29 at hf
  obtain ⟨d', rfl⟩ : ∃ d', d = d' + 1 := ⟨d - 1, by omega⟩
  refine cb_200_29 hR  (fun {h} hR => ?_)
  rcases ko_call_ok hf with ⟨g1, v1, er, hf⟩ | ⟨g1, er, hq⟩
  · obtain ⟨hv, hf2⟩ := co_v_ok hf
    clear hf
    have hf := hf2
    clear hf2
    subst hv
    refine cr_46 (by omega) hR er (fun h hR => ?_)
    exact cr_200_36 hd hR hf k
  · refine cr_46 (by omega) hR er (fun h hR => ?_)
    exact ko_thrown hq hR k
def cf_200_25 (N : Nat) (X : Nat → Option zz_C) (y1 : Int32) (t : cS) : kO := ko_call 5 (cf_202 N X y1 2 t) (fun g1 v1 => co_v v1 (cf_200_29 N X  g1))
theorem cr_200_25 {X : Nat → Option zz_C} {s : mS} {N : Nat} {d : Nat} (hd : 9 ≤ d) {Q : zz_O → zz_H → Prop} {y1 : Int32} {h : zz_H} {t t' : cS} {o : kY} (hR : kR h t s) (hf : cf_200_25 N X y1 t = some (t', o)) (k : (∀ h', kR h' t' s → kE o Q h')) : zz_J zp_P zt_tf zt_fd X d zm_200 25 [(0, .ref 2)] [.int y1, .ref 2] h Q := by
  unfold cf_200_25 at hf
  obtain ⟨d', rfl⟩ : ∃ d', d = d' + 1 := ⟨d - 1, by omega⟩
  refine cb_200_25 hR  (fun {h} hR => ?_)
  rcases ko_call_ok hf with ⟨g1, v1, er, hf⟩ | ⟨g1, er, hq⟩
  · obtain ⟨hv, hf2⟩ := co_v_ok hf
    clear hf
    have hf := hf2
    clear hf2
    subst hv
    refine cr_202 (by omega) hR er (fun h hR => ?_)
    exact cr_200_29 hd hR hf k
  · refine cr_202 (by omega) hR er (fun h hR => ?_)
    exact ko_thrown hq hR k
def cf_200_24 (N : Nat) (X : Nat → Option zz_C)  (t : cS) : kO := cf_200_25 N X 0 t
theorem cr_200_24 {X : Nat → Option zz_C} {s : mS} {N : Nat} {d : Nat} (hd : 9 ≤ d) {Q : zz_O → zz_H → Prop}  {h : zz_H} {t t' : cS} {o : kY} (hR : kR h t s) (hf : cf_200_24 N X  t = some (t', o)) (k : (∀ h', kR h' t' s → kE o Q h')) : zz_J zp_P zt_tf zt_fd X d zm_200 24 [(0, .ref 2)] [.ref 2] h Q := by
  unfold cf_200_24 at hf
  exact cb_200_24 hR  (fun hR => cr_200_25 hd hR hf k)
def cf_200_20 (N : Nat) (X : Nat → Option zz_C)  (t : cS) : kO := cf_200_25 N X 1 t
theorem cr_200_20 {X : Nat → Option zz_C} {s : mS} {N : Nat} {d : Nat} (hd : 9 ≤ d) {Q : zz_O → zz_H → Prop}  {h : zz_H} {t t' : cS} {o : kY} (hR : kR h t s) (hf : cf_200_20 N X  t = some (t', o)) (k : (∀ h', kR h' t' s → kE o Q h')) : zz_J zp_P zt_tf zt_fd X d zm_200 20 [(0, .ref 2)] [.ref 2] h Q := by
  unfold cf_200_20 at hf
  exact cb_200_20 hR  (fun hR => cr_200_25 hd hR hf k)
def cf_200_16 (N : Nat) (X : Nat → Option zz_C) (x1 : Nat) (y1 : Nat) (t : cS) : kO := if (zz_out < y1 ∧ y1 ≤ zz_out + 41) ∧ zz_out < x1 ∧ x1 ≤ zz_out + 41 then (if zz_ac .ne y1 x1 = true then cf_200_24 N X  t else cf_200_20 N X  t) else none
theorem cr_200_16 {X : Nat → Option zz_C} {s : mS} {N : Nat} {d : Nat} (hd : 9 ≤ d) {Q : zz_O → zz_H → Prop} {x1 : Nat} {y1 : Nat} {h : zz_H} {t t' : cS} {o : kY} (hR : kR h t s) (hf : cf_200_16 N X x1 y1 t = some (t', o)) (k : (∀ h', kR h' t' s → kE o Q h')) : zz_J zp_P zt_tf zt_fd X d zm_200 16 [(0, .ref 2), (1, .ref x1)] [.ref y1, .ref 2] h Q := by
  unfold cf_200_16 at hf
  obtain ⟨e0, hf⟩ := ko_if hf
  refine cb_200_16 hR e0 (fun c {h} hR => ?_) (fun c {h} hR => ?_)
  · rw [if_pos c] at hf
    exact cr_200_24 hd hR hf k
  · rw [if_neg c] at hf
    exact cr_200_20 hd hR hf k
def cf_200_12 (N : Nat) (X : Nat → Option zz_C) (x1 : Nat) (t : cS) : kO := ko_call 5 (cf_199 N X  t) (fun g1 v1 => co_r v1 (fun y => cf_200_16 N X x1 y g1))
theorem cr_200_12 {X : Nat → Option zz_C} {s : mS} {N : Nat} {d : Nat} (hd : 9 ≤ d) {Q : zz_O → zz_H → Prop} {x1 : Nat} {h : zz_H} {t t' : cS} {o : kY} (hR : kR h t s) (hf : cf_200_12 N X x1 t = some (t', o)) (k : (∀ h', kR h' t' s → kE o Q h')) : zz_J zp_P zt_tf zt_fd X d zm_200 12 [(0, .ref 2), (1, .ref x1)] [.ref 2] h Q := by
  unfold cf_200_12 at hf
  obtain ⟨d', rfl⟩ : ∃ d', d = d' + 1 := ⟨d - 1, by omega⟩
  refine cb_200_12 hR  (fun {h} hR => ?_)
  rcases ko_call_ok hf with ⟨g1, v1, er, hf⟩ | ⟨g1, er, hq⟩
  · obtain ⟨y, hv, hf2⟩ := co_r_ok hf
    clear hf
    have hf := hf2
    clear hf2
    subst hv
    refine cr_199 (by omega) hR er (fun h hR => ?_)
    exact cr_200_16 hd hR hf k
  · refine cr_199 (by omega) hR er (fun h hR => ?_)
    exact ko_thrown hq hR k
def cf_200_8 (N : Nat) (X : Nat → Option zz_C) (x1 : Nat) (y1 : Int32) (t : cS) : kO := if ¬ y1 = 4 then cf_200_24 N X  t else cf_200_12 N X x1 t
theorem cr_200_8 {X : Nat → Option zz_C} {s : mS} {N : Nat} {d : Nat} (hd : 9 ≤ d) {Q : zz_O → zz_H → Prop} {x1 : Nat} {y1 : Int32} {h : zz_H} {t t' : cS} {o : kY} (hR : kR h t s) (hf : cf_200_8 N X x1 y1 t = some (t', o)) (k : (∀ h', kR h' t' s → kE o Q h')) : zz_J zp_P zt_tf zt_fd X d zm_200 8 [(0, .ref 2), (1, .ref x1)] [.int y1, .ref 2] h Q := by
  unfold cf_200_8 at hf
  refine cb_200_8 hR  (fun c {h} hR => ?_) (fun c {h} hR => ?_)
  · rw [if_pos c] at hf
    exact cr_200_24 hd hR hf k
  · rw [if_neg c] at hf
    exact cr_200_12 hd hR hf k
def cf_200_0 (N : Nat) (X : Nat → Option zz_C) (x1 : Nat) (t : cS) : kO := ko_call 10 (cf_42 N X  t) (fun g1 v1 => co_i v1 (fun y => cf_200_8 N X x1 y g1))
theorem cr_200_0 {X : Nat → Option zz_C} {s : mS} {N : Nat} {d : Nat} (hd : 9 ≤ d) {Q : zz_O → zz_H → Prop} {x1 : Nat} {h : zz_H} {t t' : cS} {o : kY} (hR : kR h t s) (hf : cf_200_0 N X x1 t = some (t', o)) (k : (∀ h', kR h' t' s → kE o Q h')) : zz_J zp_P zt_tf zt_fd X d zm_200 0 [(0, .ref 2), (1, .ref x1)] [] h Q := by
  unfold cf_200_0 at hf
  obtain ⟨d', rfl⟩ : ∃ d', d = d' + 1 := ⟨d - 1, by omega⟩
  refine cb_200_0 hR  (fun {h} hR => ?_)
  rcases ko_call_ok hf with ⟨g1, v1, er, hf⟩ | ⟨g1, er, hq⟩
  · obtain ⟨y, hv, hf2⟩ := co_i_ok hf
    clear hf
    have hf := hf2
    clear hf2
    subst hv
    refine cr_42 (by omega) hR er (fun h hR => ?_)
    exact cr_200_8 hd hR hf k
  · refine cr_42 (by omega) hR er (fun h hR => ?_)
    exact ko_thrown hq hR k
/-- passWord -/
def cf_200 (N : Nat) (X : Nat → Option zz_C) (x1 : Nat) (t : cS) : kO := cf_200_0 N X x1 t
theorem cr_200 {X : Nat → Option zz_C} {s : mS} {N : Nat} {d : Nat} (hd : 9 ≤ d) {Q : zz_O → zz_H → Prop} {x1 : Nat} {h : zz_H} {t t' : cS} {o : kY} (hR : kR h t s) (hf : cf_200 N X x1 t = some (t', o)) (k : ∀ h', kR h' t' s → kE o Q h') : zz_J zp_P zt_tf zt_fd X d zm_200 0 [(0, .ref 2), (1, .ref x1)] [] h Q := by
  unfold cf_200 at hf
  exact zz_J.weak (cr_200_0 hd hR hf k) rfl ⟨rfl, rfl, trivial⟩
/-! yJx29ce0_ordinal_8abf5 ()I -/
theorem cb_356_0 {X : Nat → Option zz_C} {h : zz_H} {t : cS} {s : mS} {d : Nat} {Q : zz_O → zz_H → Prop} {x0 : Nat} (hR : kR h t s) {w0 : Int32} (e0 : hgi X [] x0 20 3 = some w0) (k : ∀ {h : zz_H}, kR h t s → Q (.inl (some (.int w0))) h) : zz_J zp_P zt_tf zt_fd X d zm_356 0 [(0, .ref x0)] [] h Q := by
  refine zz_J.n 1 rfl rfl rfl ?_
  refine zz_J.gi 4 rfl e0 rfl ?_
  refine zz_J.ret rfl rfl rfl ?_
  exact k hR
def cf_356_0 (N : Nat) (X : Nat → Option zz_C) (x0 : Nat) (t : cS) : kO := co_b (hgi X [] x0 20 3) (fun w0 => some (t, .inl (some (.int w0))))
theorem cr_356_0 {X : Nat → Option zz_C} {s : mS} {N : Nat} {d : Nat} (hd : 0 ≤ d) {Q : zz_O → zz_H → Prop} {x0 : Nat} {h : zz_H} {t t' : cS} {o : kY} (hR : kR h t s) (hf : cf_356_0 N X x0 t = some (t', o)) (k : (∀ h', kR h' t' s → kE o Q h')) : zz_J zp_P zt_tf zt_fd X d zm_356 0 [(0, .ref x0)] [] h Q := by
  unfold cf_356_0 at hf
  obtain ⟨w0, e0, hf⟩ := co_b_ok hf
  cases hf
  exact cb_356_0 hR e0 (fun {h} hR => k h hR)
/-- ordinal -/
def cf_356 (N : Nat) (X : Nat → Option zz_C) (x0 : Nat) (t : cS) : kO := cf_356_0 N X x0 t
theorem cr_356 {X : Nat → Option zz_C} {s : mS} {N : Nat} {d : Nat} (hd : 0 ≤ d) {Q : zz_O → zz_H → Prop} {x0 : Nat} {h : zz_H} {t t' : cS} {o : kY} (hR : kR h t s) (hf : cf_356 N X x0 t = some (t', o)) (k : ∀ h', kR h' t' s → kE o Q h') : zz_J zp_P zt_tf zt_fd X d zm_356 0 [(0, .ref x0)] [] h Q := by
  unfold cf_356 at hf
  exact zz_J.weak (cr_356_0 hd hR hf k) rfl ⟨rfl, trivial⟩
