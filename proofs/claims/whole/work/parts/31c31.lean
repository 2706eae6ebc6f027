/-! yX12_run (III)I -/
theorem cb_6_0 {X : Nat → Option zz_C} {h : zz_H} {t : cS} {s : mS} {d : Nat} {Q : zz_O → zz_H → Prop} {x1 : Int32} {x2 : Int32} {x3 : Int32} (hR : kR h t s) {w0 : Nat} (e0 : (kP t 0 3) = some w0) (e1 : w0 = 12 ∨ w0 = 21) (k : ∀ {h : zz_H}, kR h t s → zz_J zp_P zt_tf zt_fd X d zm_33 0 [(0, .ref w0), (1, .int x1), (2, .int 0)] [] h (zz_after 6 Q (fun v h' => zz_J zp_P zt_tf zt_fd X (d + 1) zm_6 9 [(0, .ref 0), (1, .int x1), (2, .int x2), (3, .int x3)] (v.toList ++ []) h' Q))) : zz_J zp_P zt_tf zt_fd X (d + 1) zm_6 0 [(0, .ref 0), (1, .int x1), (2, .int x2), (3, .int x3)] [] h Q := by
  refine zz_J.n 1 rfl rfl rfl ?_
  refine zz_J.g 4 rfl (hR.gv (v := .ref w0) ko_0 (by decide) ((congrArg (fun q => some (zz_rv q)) e0).trans rfl)) rfl ?_
  refine zz_J.n 5 rfl rfl rfl ?_
  refine zz_J.c 6 (.int 0) rfl rfl rfl rfl ?_
  refine zz_J.cv 9 (as := []) rfl rfl (hR.clO (ko_P e1) (by decide) (by decide)) (by decide) (Nat.le_of_ble_eq_true rfl) (Nat.le_of_ble_eq_true rfl) rfl (Nat.le_of_ble_eq_true rfl) rfl ?_
  refine zz_J.mono (k hR) ?_
  intro o h' hE
  cases o with
  | inl v => exact zz_J.weak hE rfl ⟨rfl, rfl, rfl, rfl, trivial⟩
  | inr q => exact hE
theorem cb_6_9 {X : Nat → Option zz_C} {h : zz_H} {t : cS} {s : mS} {d : Nat} {Q : zz_O → zz_H → Prop} {x1 : Int32} {x2 : Int32} {x3 : Int32} {y0 : Int32} (hR : kR h t s) (k1 : ¬ y0 = 0 → (∀ {h : zz_H}, kR h t s → zz_J zp_P zt_tf zt_fd X d zm_6 36 [] [] h Q)) (k2 : ¬ ¬ y0 = 0 → (∀ {h : zz_H}, kR h t s → zz_J zp_P zt_tf zt_fd X d zm_6 12 [(0, .ref 0), (1, .int x1), (2, .int x2), (3, .int x3)] [] h Q)) : zz_J zp_P zt_tf zt_fd X d zm_6 9 [(0, .ref 0), (1, .int x1), (2, .int x2), (3, .int x3)] [.int y0] h Q := by
  refine zz_J.b1 36 12 (A := ¬ y0 = 0) rfl (zz_cond_ne _ _) (by decide) rfl rfl (fun c => ?_) (fun c => ?_)
  · exact zz_J.weak (k1 c hR) rfl trivial
  · exact zz_J.weak (k2 c hR) rfl ⟨rfl, rfl, rfl, rfl, trivial⟩
theorem cb_6_12 {X : Nat → Option zz_C} {h : zz_H} {t : cS} {s : mS} {d : Nat} {Q : zz_O → zz_H → Prop} {x1 : Int32} {x2 : Int32} {x3 : Int32} (hR : kR h t s) (k1 : x2 = (-1) → (∀ {h : zz_H}, kR h t s → zz_J zp_P zt_tf zt_fd X d zm_6 24 [(0, .ref 0), (1, .int x1), (2, .int x2), (3, .int x3)] [] h Q)) (k2 : ¬ x2 = (-1) → (∀ {h : zz_H}, kR h t s → zz_J zp_P zt_tf zt_fd X d zm_6 17 [(0, .ref 0), (1, .int x1), (2, .int x2), (3, .int x3)] [] h Q)) : zz_J zp_P zt_tf zt_fd X d zm_6 12 [(0, .ref 0), (1, .int x1), (2, .int x2), (3, .int x3)] [] h Q := by
  refine zz_J.n 13 rfl rfl rfl ?_
  refine zz_J.c 14 (.int (-1)) rfl rfl rfl rfl ?_
  refine zz_J.b2 24 17 (A := x2 = (-1)) rfl rfl (by decide) rfl rfl (fun c => ?_) (fun c => ?_)
  · exact zz_J.weak (k1 c hR) rfl ⟨rfl, rfl, rfl, rfl, trivial⟩
  · exact zz_J.weak (k2 c hR) rfl ⟨rfl, rfl, rfl, rfl, trivial⟩
theorem cb_6_17 {X : Nat → Option zz_C} {h : zz_H} {t : cS} {s : mS} {d : Nat} {Q : zz_O → zz_H → Prop} {x1 : Int32} {x2 : Int32} {x3 : Int32} (hR : kR h t s) (k : ∀ {h : zz_H}, kR h t s → zz_J zp_P zt_tf zt_fd X d zm_21 0 [(0, .int x2)] [] h (zz_after 0 Q (fun v h' => zz_J zp_P zt_tf zt_fd X (d + 1) zm_6 21 [(0, .ref 0), (1, .int x1), (2, .int x2), (3, .int x3)] (v.toList ++ []) h' Q))) : zz_J zp_P zt_tf zt_fd X (d + 1) zm_6 17 [(0, .ref 0), (1, .int x1), (2, .int x2), (3, .int x3)] [] h Q := by
  refine zz_J.n 18 rfl rfl rfl ?_
  refine zz_J.cl (M' := zm_21) 21 rfl rfl (by decide) rfl rfl ⟨rfl, Nat.le_of_ble_eq_true rfl⟩ rfl ?_
  refine zz_J.mono (k hR) ?_
  intro o h' hE
  cases o with
  | inl v => exact zz_J.weak hE rfl ⟨rfl, rfl, rfl, rfl, trivial⟩
  | inr q => exact hE
theorem cb_6_21 {X : Nat → Option zz_C} {h : zz_H} {t : cS} {s : mS} {d : Nat} {Q : zz_O → zz_H → Prop} {x1 : Int32} {x2 : Int32} {x3 : Int32} {y0 : Int32} (hR : kR h t s) (k1 : y0 = 0 → (∀ {h : zz_H}, kR h t s → zz_J zp_P zt_tf zt_fd X d zm_6 36 [] [] h Q)) (k2 : ¬ y0 = 0 → (∀ {h : zz_H}, kR h t s → zz_J zp_P zt_tf zt_fd X d zm_6 24 [(0, .ref 0), (1, .int x1), (2, .int x2), (3, .int x3)] [] h Q)) : zz_J zp_P zt_tf zt_fd X d zm_6 21 [(0, .ref 0), (1, .int x1), (2, .int x2), (3, .int x3)] [.int y0] h Q := by
  refine zz_J.b1 36 24 (A := y0 = 0) rfl rfl (by decide) rfl rfl (fun c => ?_) (fun c => ?_)
  · exact zz_J.weak (k1 c hR) rfl trivial
  · exact zz_J.weak (k2 c hR) rfl ⟨rfl, rfl, rfl, rfl, trivial⟩
theorem cb_6_24 {X : Nat → Option zz_C} {h : zz_H} {t : cS} {s : mS} {d : Nat} {Q : zz_O → zz_H → Prop} {x1 : Int32} {x2 : Int32} {x3 : Int32} (hR : kR h t s) (k1 : x3 < 1 → (∀ {h : zz_H}, kR h t s → zz_J zp_P zt_tf zt_fd X d zm_6 36 [] [] h Q)) (k2 : ¬ x3 < 1 → (∀ {h : zz_H}, kR h t s → zz_J zp_P zt_tf zt_fd X d zm_6 29 [(0, .ref 0), (1, .int x1), (2, .int x2), (3, .int x3)] [] h Q)) : zz_J zp_P zt_tf zt_fd X d zm_6 24 [(0, .ref 0), (1, .int x1), (2, .int x2), (3, .int x3)] [] h Q := by
  refine zz_J.n 25 rfl rfl rfl ?_
  refine zz_J.c 26 (.int 1) rfl rfl rfl rfl ?_
  refine zz_J.b2 36 29 (A := x3 < 1) rfl rfl (by decide) rfl rfl (fun c => ?_) (fun c => ?_)
  · exact zz_J.weak (k1 c hR) rfl trivial
  · exact zz_J.weak (k2 c hR) rfl ⟨rfl, rfl, rfl, rfl, trivial⟩
theorem cb_6_29 {X : Nat → Option zz_C} {h : zz_H} {t : cS} {s : mS} {d : Nat} {Q : zz_O → zz_H → Prop} {x1 : Int32} {x2 : Int32} {x3 : Int32} (hR : kR h t s) (k1 : x3 ≤ 20000 → (∀ {h : zz_H}, kR h t s → zz_J zp_P zt_tf zt_fd X d zm_6 38 [(0, .ref 0), (1, .int x1), (2, .int x2), (3, .int x3)] [] h Q)) (k2 : ¬ x3 ≤ 20000 → (∀ {h : zz_H}, kR h t s → zz_J zp_P zt_tf zt_fd X d zm_6 36 [] [] h Q)) : zz_J zp_P zt_tf zt_fd X d zm_6 29 [(0, .ref 0), (1, .int x1), (2, .int x2), (3, .int x3)] [] h Q := by
  refine zz_J.n 30 rfl rfl rfl ?_
  refine zz_J.c 33 (.int 20000) rfl rfl rfl rfl ?_
  refine zz_J.b2 38 36 (A := x3 ≤ 20000) rfl rfl (by decide) rfl rfl (fun c => ?_) (fun c => ?_)
  · exact zz_J.weak (k1 c hR) rfl ⟨rfl, rfl, rfl, rfl, trivial⟩
  · exact zz_J.weak (k2 c hR) rfl trivial
theorem cb_6_36 {X : Nat → Option zz_C} {h : zz_H} {t : cS} {s : mS} {d : Nat} {Q : zz_O → zz_H → Prop}  (hR : kR h t s) (k : ∀ {h : zz_H}, kR h t s → Q (.inl (some (.int (-1)))) h) : zz_J zp_P zt_tf zt_fd X d zm_6 36 [] [] h Q := by
  refine zz_J.c 37 (.int (-1)) rfl rfl rfl rfl ?_
  refine zz_J.ret rfl rfl rfl ?_
  exact k hR
theorem cb_6_38 {X : Nat → Option zz_C} {h : zz_H} {t : cS} {s : mS} {d : Nat} {Q : zz_O → zz_H → Prop} {x1 : Int32} {x2 : Int32} {x3 : Int32} (hR : kR h t s) (k : ∀ {h : zz_H}, kR h t s → zz_J zp_P zt_tf zt_fd X d zm_168 0 [(0, .ref 45)] [] h (zz_after 4 Q (fun v h' => zz_J zp_P zt_tf zt_fd X (d + 1) zm_6 45 [(0, .ref 0), (1, .int x1), (2, .int x2), (3, .int x3)] (v.toList ++ []) h' Q))) : zz_J zp_P zt_tf zt_fd X (d + 1) zm_6 38 [(0, .ref 0), (1, .int x1), (2, .int x2), (3, .int x3)] [] h Q := by
  refine zz_J.n 39 rfl rfl rfl ?_
  refine zz_J.g 42 rfl (hR.gv (v := .ref 45) ko_0 (by decide) rfl) rfl ?_
  refine zz_J.cv 45 (as := []) rfl rfl (hR.clO ko_45 (by decide) (by decide)) (by decide) (Nat.le_of_ble_eq_true rfl) (Nat.le_of_ble_eq_true rfl) rfl (Nat.le_of_ble_eq_true rfl) rfl ?_
  refine zz_J.mono (k hR) ?_
  intro o h' hE
  cases o with
  | inl v => exact zz_J.weak hE rfl ⟨rfl, rfl, rfl, rfl, trivial⟩
  | inr q => exact hE
theorem cb_6_45 {X : Nat → Option zz_C} {h : zz_H} {t : cS} {s : mS} {d : Nat} {Q : zz_O → zz_H → Prop} {x1 : Int32} {x2 : Int32} {x3 : Int32} (hR : kR h t s) (k : ∀ {h : zz_H}, kR h t s → zz_J zp_P zt_tf zt_fd X d zm_120 0 [(0, .ref 42)] [] h (zz_after 2 Q (fun v h' => zz_J zp_P zt_tf zt_fd X (d + 1) zm_6 52 [(0, .ref 0), (1, .int x1), (2, .int x2), (3, .int x3)] (v.toList ++ []) h' Q))) : zz_J zp_P zt_tf zt_fd X (d + 1) zm_6 45 [(0, .ref 0), (1, .int x1), (2, .int x2), (3, .int x3)] [] h Q := by
  refine zz_J.n 46 rfl rfl rfl ?_
  refine zz_J.g 49 rfl (hR.gv (v := .ref 42) ko_0 (by decide) rfl) rfl ?_
  refine zz_J.cv 52 (as := []) rfl rfl (hR.clO ko_42 (by decide) (by decide)) (by decide) (Nat.le_of_ble_eq_true rfl) (Nat.le_of_ble_eq_true rfl) rfl (Nat.le_of_ble_eq_true rfl) rfl ?_
  refine zz_J.mono (k hR) ?_
  intro o h' hE
  cases o with
  | inl v => exact zz_J.weak hE rfl ⟨rfl, rfl, rfl, rfl, trivial⟩
  | inr q => exact hE
theorem cb_6_52 {X : Nat → Option zz_C} {h : zz_H} {t : cS} {s : mS} {d : Nat} {Q : zz_O → zz_H → Prop} {x1 : Int32} {x2 : Int32} {x3 : Int32} (hR : kR h t s) (k : ∀ {h : zz_H}, kR h t s → zz_J zp_P zt_tf zt_fd X d zm_233 0 [(0, .ref 48), (1, .int x3)] [] h (zz_after 9 Q (fun v h' => zz_J zp_P zt_tf zt_fd X (d + 1) zm_6 60 [(0, .ref 0), (1, .int x1), (2, .int x2)] (v.toList ++ []) h' Q))) : zz_J zp_P zt_tf zt_fd X (d + 1) zm_6 52 [(0, .ref 0), (1, .int x1), (2, .int x2), (3, .int x3)] [] h Q := by
  refine zz_J.n 53 rfl rfl rfl ?_
  refine zz_J.g 56 rfl (hR.gv (v := .ref 48) ko_0 (by decide) rfl) rfl ?_
  refine zz_J.n 57 rfl rfl rfl ?_
  refine zz_J.cv 60 (as := []) rfl rfl (hR.clO ko_48 (by decide) (by decide)) (by decide) (Nat.le_of_ble_eq_true rfl) (Nat.le_of_ble_eq_true rfl) rfl (Nat.le_of_ble_eq_true rfl) rfl ?_
  refine zz_J.mono (k hR) ?_
  intro o h' hE
  cases o with
  | inl v => exact zz_J.weak hE rfl ⟨rfl, rfl, rfl, trivial⟩
  | inr q => exact hE
theorem cb_6_60 {X : Nat → Option zz_C} {h : zz_H} {t : cS} {s : mS} {d : Nat} {Q : zz_O → zz_H → Prop} {x1 : Int32} {x2 : Int32} (hR : kR h t s) (k : ∀ {h : zz_H}, kR h t s → zz_J zp_P zt_tf zt_fd X d zm_6 63 [(0, .ref 0), (1, .int x1), (2, .int x2), (4, .int 0)] [] h Q) : zz_J zp_P zt_tf zt_fd X d zm_6 60 [(0, .ref 0), (1, .int x1), (2, .int x2)] [] h Q := by
  refine zz_J.c 61 (.int 0) rfl rfl rfl rfl ?_
  refine zz_J.n 63 rfl rfl rfl ?_
  exact zz_J.weak (k hR) rfl ⟨rfl, rfl, rfl, rfl, trivial⟩
theorem cb_6_63 {X : Nat → Option zz_C} {h : zz_H} {t : cS} {s : mS} {d : Nat} {Q : zz_O → zz_H → Prop} {x1 : Int32} {x2 : Int32} {x4 : Int32} (hR : kR h t s) (k1 : 8 ≤ x4 → (∀ {h : zz_H}, kR h t s → zz_J zp_P zt_tf zt_fd X d zm_6 98 [(0, .ref 0), (1, .int x1), (2, .int x2)] [] h Q)) (k2 : ¬ 8 ≤ x4 → (∀ {h : zz_H}, kR h t s → zz_J zp_P zt_tf zt_fd X d zm_6 70 [(0, .ref 0), (1, .int x1), (2, .int x2), (4, .int x4)] [] h Q)) : zz_J zp_P zt_tf zt_fd X d zm_6 63 [(0, .ref 0), (1, .int x1), (2, .int x2), (4, .int x4)] [] h Q := by
  refine zz_J.n 65 rfl rfl rfl ?_
  refine zz_J.c 67 (.int 8) rfl rfl rfl rfl ?_
  refine zz_J.b2 98 70 (A := 8 ≤ x4) rfl rfl (by decide) rfl rfl (fun c => ?_) (fun c => ?_)
  · exact zz_J.weak (k1 c hR) rfl ⟨rfl, rfl, rfl, trivial⟩
  · exact zz_J.weak (k2 c hR) rfl ⟨rfl, rfl, rfl, rfl, trivial⟩
theorem cb_6_70 {X : Nat → Option zz_C} {h : zz_H} {t : cS} {s : mS} {d : Nat} {Q : zz_O → zz_H → Prop} {x1 : Int32} {x2 : Int32} {x4 : Int32} (hR : kR h t s) {w0 : Nat} (e0 : (kP t 0 7) = some w0) (e1 : kH t w0 = true) (k : ∀ {h : zz_H}, kR h t s → zz_J zp_P zt_tf zt_fd X d zm_215 0 [(0, .ref w0), (1, .int x4), (2, .ref 42)] [] h (zz_after 7 Q (fun v h' => zz_J zp_P zt_tf zt_fd X (d + 1) zm_6 89 [(0, .ref 0), (1, .int x1), (2, .int x2), (4, .int x4)] (v.toList ++ [.int x4, .ref 49]) h' Q))) : zz_J zp_P zt_tf zt_fd X (d + 1) zm_6 70 [(0, .ref 0), (1, .int x1), (2, .int x2), (4, .int x4)] [] h Q := by
  refine zz_J.n 71 rfl rfl rfl ?_
  refine zz_J.g 74 rfl (hR.gv (v := .ref 49) ko_0 (by decide) rfl) rfl ?_
  refine zz_J.n 76 rfl rfl rfl ?_
  refine zz_J.n 77 rfl rfl rfl ?_
  refine zz_J.g 80 rfl (hR.gv (v := .ref w0) ko_0 (by decide) ((congrArg (fun q => some (zz_rv q)) e0).trans rfl)) rfl ?_
  refine zz_J.n 82 rfl rfl rfl ?_
  refine zz_J.n 83 rfl rfl rfl ?_
  refine zz_J.g 86 rfl (hR.gv (v := .ref 42) ko_0 (by decide) rfl) rfl ?_
  refine zz_J.cv 89 (as := [.int x4, .ref 49]) rfl rfl (hR.clS e1 (by decide)) (by decide) (Nat.le_of_ble_eq_true rfl) (Nat.le_of_ble_eq_true rfl) rfl (Nat.le_of_ble_eq_true rfl) rfl ?_
  refine zz_J.mono (k hR) ?_
  intro o h' hE
  cases o with
  | inl v => exact zz_J.weak hE rfl ⟨rfl, rfl, rfl, rfl, trivial⟩
  | inr q => exact hE
theorem cb_6_89 {X : Nat → Option zz_C} {h : zz_H} {t : cS} {s : mS} {d : Nat} {Q : zz_O → zz_H → Prop} {x1 : Int32} {x2 : Int32} {x4 : Int32} {y1 : Int32} {y2 : Int64} (hR : kR h t s) (k : ∀ {h : zz_H}, kR h t s → zz_J zp_P zt_tf zt_fd X d zm_137 0 [(0, .ref 49), (1, .int y1), (2, .long y2)] [] h (zz_after 3 Q (fun v h' => zz_J zp_P zt_tf zt_fd X (d + 1) zm_6 92 [(0, .ref 0), (1, .int x1), (2, .int x2), (4, .int x4)] (v.toList ++ []) h' Q))) : zz_J zp_P zt_tf zt_fd X (d + 1) zm_6 89 [(0, .ref 0), (1, .int x1), (2, .int x2), (4, .int x4)] [.long y2, .int y1, .ref 49] h Q := by
  refine zz_J.cv 92 (as := []) rfl rfl (hR.clO ko_49 (by decide) (by decide)) (by decide) (Nat.le_of_ble_eq_true rfl) (Nat.le_of_ble_eq_true rfl) rfl (Nat.le_of_ble_eq_true rfl) rfl ?_
  refine zz_J.mono (k hR) ?_
  intro o h' hE
  cases o with
  | inl v => exact zz_J.weak hE rfl ⟨rfl, rfl, rfl, rfl, trivial⟩
  | inr q => exact hE
theorem cb_6_92 {X : Nat → Option zz_C} {h : zz_H} {t : cS} {s : mS} {d : Nat} {Q : zz_O → zz_H → Prop} {x1 : Int32} {x2 : Int32} {x4 : Int32} (hR : kR h t s) (k : ∀ {h : zz_H}, kR h t s → zz_J zp_P zt_tf zt_fd X d zm_6 63 [(0, .ref 0), (1, .int x1), (2, .int x2), (4, .int (x4 + 1))] [] h Q) : zz_J zp_P zt_tf zt_fd X d zm_6 92 [(0, .ref 0), (1, .int x1), (2, .int x2), (4, .int x4)] [] h Q := by
  refine zz_J.n 95 rfl rfl rfl ?_
  refine zz_J.n 63 rfl rfl rfl ?_
  exact zz_J.weak (k hR) rfl ⟨rfl, rfl, rfl, rfl, trivial⟩
theorem cb_6_98 {X : Nat → Option zz_C} {h : zz_H} {t : cS} {s : mS} {d : Nat} {Q : zz_O → zz_H → Prop} {x1 : Int32} {x2 : Int32} (hR : kR h t s) {w0 : Nat} (e0 : (kP t 0 3) = some w0) (k : ∀ {h : zz_H}, kR h t s → zz_J zp_P zt_tf zt_fd X d zm_141 0 [(0, .ref 49), (1, .ref w0), (2, .int x1)] [] h (zz_after 3 Q (fun v h' => zz_J zp_P zt_tf zt_fd X (d + 1) zm_6 110 [(0, .ref 0), (2, .int x2)] (v.toList ++ []) h' Q))) : zz_J zp_P zt_tf zt_fd X (d + 1) zm_6 98 [(0, .ref 0), (1, .int x1), (2, .int x2)] [] h Q := by
  refine zz_J.n 99 rfl rfl rfl ?_
  refine zz_J.g 102 rfl (hR.gv (v := .ref 49) ko_0 (by decide) rfl) rfl ?_
  refine zz_J.n 103 rfl rfl rfl ?_
  refine zz_J.g 106 rfl (hR.gv (v := .ref w0) ko_0 (by decide) ((congrArg (fun q => some (zz_rv q)) e0).trans rfl)) rfl ?_
  refine zz_J.n 107 rfl rfl rfl ?_
  refine zz_J.cv 110 (as := []) rfl rfl (hR.clO ko_49 (by decide) (by decide)) (by decide) (Nat.le_of_ble_eq_true rfl) (Nat.le_of_ble_eq_true rfl) rfl (Nat.le_of_ble_eq_true rfl) rfl ?_
  refine zz_J.mono (k hR) ?_
  intro o h' hE
  cases o with
  | inl v => exact zz_J.weak hE rfl ⟨rfl, rfl, trivial⟩
  | inr q => exact hE
theorem cb_6_110 {X : Nat → Option zz_C} {h : zz_H} {t : cS} {s : mS} {d : Nat} {Q : zz_O → zz_H → Prop} {x2 : Int32} (hR : kR h t s) (k : ∀ {h : zz_H}, kR h t s → zz_J zp_P zt_tf zt_fd X d zm_234 0 [(0, .ref 48)] [] h (zz_after 9 Q (fun v h' => zz_J zp_P zt_tf zt_fd X (d + 1) zm_6 117 [(0, .ref 0), (2, .int x2)] (v.toList ++ []) h' Q))) : zz_J zp_P zt_tf zt_fd X (d + 1) zm_6 110 [(0, .ref 0), (2, .int x2)] [] h Q := by
  refine zz_J.n 111 rfl rfl rfl ?_
  refine zz_J.g 114 rfl (hR.gv (v := .ref 48) ko_0 (by decide) rfl) rfl ?_
  refine zz_J.cv 117 (as := []) rfl rfl (hR.clO ko_48 (by decide) (by decide)) (by decide) (Nat.le_of_ble_eq_true rfl) (Nat.le_of_ble_eq_true rfl) rfl (Nat.le_of_ble_eq_true rfl) rfl ?_
  refine zz_J.mono (k hR) ?_
  intro o h' hE
  cases o with
  | inl v => exact zz_J.weak hE rfl ⟨rfl, rfl, trivial⟩
  | inr q => exact hE
theorem cb_6_117 {X : Nat → Option zz_C} {h : zz_H} {t : cS} {s : mS} {d : Nat} {Q : zz_O → zz_H → Prop} {x2 : Int32} {y0 : Int32} (hR : kR h t s) (k1 : ¬ y0 = 0 → (∀ {h : zz_H}, kR h t s → zz_J zp_P zt_tf zt_fd X d zm_6 125 [(0, .ref 0)] [] h Q)) (k2 : ¬ ¬ y0 = 0 → (∀ {h : zz_H}, kR h t s → zz_J zp_P zt_tf zt_fd X d zm_6 120 [(0, .ref 0), (2, .int x2)] [] h Q)) : zz_J zp_P zt_tf zt_fd X d zm_6 117 [(0, .ref 0), (2, .int x2)] [.int y0] h Q := by
  refine zz_J.b1 125 120 (A := ¬ y0 = 0) rfl (zz_cond_ne _ _) (by decide) rfl rfl (fun c => ?_) (fun c => ?_)
  · exact zz_J.weak (k1 c hR) rfl ⟨rfl, trivial⟩
  · exact zz_J.weak (k2 c hR) rfl ⟨rfl, rfl, trivial⟩
theorem cb_6_120 {X : Nat → Option zz_C} {h : zz_H} {t : cS} {s : mS} {d : Nat} {Q : zz_O → zz_H → Prop} {x2 : Int32} (hR : kR h t s) (k : ∀ {h : zz_H}, kR h t s → zz_J zp_P zt_tf zt_fd X d zm_250 0 [(0, .ref 0), (1, .int x2)] [] h (zz_after 12 Q (fun v h' => zz_J zp_P zt_tf zt_fd X (d + 1) zm_6 125 [(0, .ref 0)] (v.toList ++ []) h' Q))) : zz_J zp_P zt_tf zt_fd X (d + 1) zm_6 120 [(0, .ref 0), (2, .int x2)] [] h Q := by
  refine zz_J.n 121 rfl rfl rfl ?_
  refine zz_J.n 122 rfl rfl rfl ?_
  refine zz_J.cv 125 (as := []) rfl rfl (hR.clO ko_0 (by decide) (by decide)) (by decide) (Nat.le_of_ble_eq_true rfl) (Nat.le_of_ble_eq_true rfl) rfl (Nat.le_of_ble_eq_true rfl) rfl ?_
  refine zz_J.mono (k hR) ?_
  intro o h' hE
  cases o with
  | inl v => exact zz_J.weak hE rfl ⟨rfl, trivial⟩
  | inr q => exact hE
theorem cb_6_125 {X : Nat → Option zz_C} {h : zz_H} {t : cS} {s : mS} {d : Nat} {Q : zz_O → zz_H → Prop}  (hR : kR h t s) (k : ∀ {h : zz_H}, kR h t s → zz_J zp_P zt_tf zt_fd X d zm_234 0 [(0, .ref 48)] [] h (zz_after 9 Q (fun v h' => zz_J zp_P zt_tf zt_fd X (d + 1) zm_6 132 [] (v.toList ++ []) h' Q))) : zz_J zp_P zt_tf zt_fd X (d + 1) zm_6 125 [(0, .ref 0)] [] h Q := by
  refine zz_J.n 126 rfl rfl rfl ?_
  refine zz_J.g 129 rfl (hR.gv (v := .ref 48) ko_0 (by decide) rfl) rfl ?_
  refine zz_J.cv 132 (as := []) rfl rfl (hR.clO ko_48 (by decide) (by decide)) (by decide) (Nat.le_of_ble_eq_true rfl) (Nat.le_of_ble_eq_true rfl) rfl (Nat.le_of_ble_eq_true rfl) rfl ?_
  refine zz_J.mono (k hR) ?_
  intro o h' hE
  cases o with
  | inl v => exact zz_J.weak hE rfl trivial
  | inr q => exact hE
theorem cb_6_132 {X : Nat → Option zz_C} {h : zz_H} {t : cS} {s : mS} {d : Nat} {Q : zz_O → zz_H → Prop} {y0 : Int32} (hR : kR h t s) (k : ∀ {h : zz_H}, kR h t s → Q (.inl (some (.int y0))) h) : zz_J zp_P zt_tf zt_fd X d zm_6 132 [] [.int y0] h Q := by
  refine zz_J.ret rfl rfl rfl ?_
  exact k hR
def cf_6_36 (N : Nat) (X : Nat → Option zz_C)  (t : cS) : kO := some (t, .inl (some (.int (-1))))
theorem cr_6_36 {X : Nat → Option zz_C} {s : mS} {N : Nat} {d : Nat} (hd : 27 ≤ d) {Q : zz_O → zz_H → Prop}  {h : zz_H} {t t' : cS} {o : kY} (hR : kR h t s) (hf : cf_6_36 N X  t = some (t', o)) (k : (∀ h', kR h' t' s → kE o Q h')) : zz_J zp_P zt_tf zt_fd X d zm_6 36 [] [] h Q := by
  unfold cf_6_36 at hf
  cases hf
  exact cb_6_36 hR  (fun {h} hR => k h hR)
def cf_6_132 (N : Nat) (X : Nat → Option zz_C) (y0 : Int32) (t : cS) : kO := some (t, .inl (some (.int y0)))
theorem cr_6_132 {X : Nat → Option zz_C} {s : mS} {N : Nat} {d : Nat} (hd : 27 ≤ d) {Q : zz_O → zz_H → Prop} {y0 : Int32} {h : zz_H} {t t' : cS} {o : kY} (hR : kR h t s) (hf : cf_6_132 N X y0 t = some (t', o)) (k : (∀ h', kR h' t' s → kE o Q h')) : zz_J zp_P zt_tf zt_fd X d zm_6 132 [] [.int y0] h Q := by
  unfold cf_6_132 at hf
  cases hf
  exact cb_6_132 hR  (fun {h} hR => k h hR)
def cf_6_125 (N : Nat) (X : Nat → Option zz_C)  (t : cS) : kO := ko_call 9 (cf_234 N X  t) (fun g1 v1 => co_i v1 (fun y => cf_6_132 N X y g1))
theorem cr_6_125 {X : Nat → Option zz_C} {s : mS} {N : Nat} {d : Nat} (hd : 27 ≤ d) {Q : zz_O → zz_H → Prop}  {h : zz_H} {t t' : cS} {o : kY} (hR : kR h t s) (hf : cf_6_125 N X  t = some (t', o)) (k : (∀ h', kR h' t' s → kE o Q h')) : zz_J zp_P zt_tf zt_fd X d zm_6 125 [(0, .ref 0)] [] h Q := by
  unfold cf_6_125 at hf
  obtain ⟨d', rfl⟩ : ∃ d', d = d' + 1 := ⟨d - 1, by omega⟩
  refine cb_6_125 hR  (fun {h} hR => ?_)
  rcases ko_call_ok hf with ⟨g1, v1, er, hf⟩ | ⟨g1, er, hq⟩
  · obtain ⟨y, hv, hf2⟩ := co_i_ok hf
    clear hf
    have hf := hf2
    clear hf2
    subst hv
    refine cr_234 (by omega) hR er (fun h hR => ?_)
    exact cr_6_132 hd hR hf k
  · refine cr_234 (by omega) hR er (fun h hR => ?_)
    exact ko_thrown hq hR k
def cf_6_120 (N : Nat) (X : Nat → Option zz_C) (x2 : Int32) (t : cS) : kO := ko_call 12 (cf_250 N X x2 t) (fun g1 v1 => co_v v1 (cf_6_125 N X  g1))
theorem cr_6_120 {X : Nat → Option zz_C} {s : mS} {N : Nat} {d : Nat} (hd : 27 ≤ d) {Q : zz_O → zz_H → Prop} {x2 : Int32} {h : zz_H} {t t' : cS} {o : kY} (hR : kR h t s) (hf : cf_6_120 N X x2 t = some (t', o)) (k : (∀ h', kR h' t' s → kE o Q h')) : zz_J zp_P zt_tf zt_fd X d zm_6 120 [(0, .ref 0), (2, .int x2)] [] h Q := by
  unfold cf_6_120 at hf
  obtain ⟨d', rfl⟩ : ∃ d', d = d' + 1 := ⟨d - 1, by omega⟩
  refine cb_6_120 hR  (fun {h} hR => ?_)
  rcases ko_call_ok hf with ⟨g1, v1, er, hf⟩ | ⟨g1, er, hq⟩
  · obtain ⟨hv, hf2⟩ := co_v_ok hf
    clear hf
    have hf := hf2
    clear hf2
    subst hv
    refine cr_250 (by omega) hR er (fun h hR => ?_)
    exact cr_6_125 hd hR hf k
  · refine cr_250 (by omega) hR er (fun h hR => ?_)
    exact ko_thrown hq hR k
def cf_6_117 (N : Nat) (X : Nat → Option zz_C) (x2 : Int32) (y0 : Int32) (t : cS) : kO := if ¬ y0 = 0 then cf_6_125 N X  t else cf_6_120 N X x2 t
theorem cr_6_117 {X : Nat → Option zz_C} {s : mS} {N : Nat} {d : Nat} (hd : 27 ≤ d) {Q : zz_O → zz_H → Prop} {x2 : Int32} {y0 : Int32} {h : zz_H} {t t' : cS} {o : kY} (hR : kR h t s) (hf : cf_6_117 N X x2 y0 t = some (t', o)) (k : (∀ h', kR h' t' s → kE o Q h')) : zz_J zp_P zt_tf zt_fd X d zm_6 117 [(0, .ref 0), (2, .int x2)] [.int y0] h Q := by
  unfold cf_6_117 at hf
  refine cb_6_117 hR  (fun c {h} hR => ?_) (fun c {h} hR => ?_)
  · rw [if_pos c] at hf
    exact cr_6_125 hd hR hf k
  · rw [if_neg c] at hf
    exact cr_6_120 hd hR hf k
def cf_6_110 (N : Nat) (X : Nat → Option zz_C) (x2 : Int32) (t : cS) : kO := ko_call 9 (cf_234 N X  t) (fun g1 v1 => co_i v1 (fun y => cf_6_117 N X x2 y g1))
theorem cr_6_110 {X : Nat → Option zz_C} {s : mS} {N : Nat} {d : Nat} (hd : 27 ≤ d) {Q : zz_O → zz_H → Prop} {x2 : Int32} {h : zz_H} {t t' : cS} {o : kY} (hR : kR h t s) (hf : cf_6_110 N X x2 t = some (t', o)) (k : (∀ h', kR h' t' s → kE o Q h')) : zz_J zp_P zt_tf zt_fd X d zm_6 110 [(0, .ref 0), (2, .int x2)] [] h Q := by
  unfold cf_6_110 at hf
  obtain ⟨d', rfl⟩ : ∃ d', d = d' + 1 := ⟨d - 1, by omega⟩
  refine cb_6_110 hR  (fun {h} hR => ?_)
  rcases ko_call_ok hf with ⟨g1, v1, er, hf⟩ | ⟨g1, er, hq⟩
  · obtain ⟨y, hv, hf2⟩ := co_i_ok hf
    clear hf
    have hf := hf2
    clear hf2
    subst hv
    refine cr_234 (by omega) hR er (fun h hR => ?_)
    exact cr_6_117 hd hR hf k
  · refine cr_234 (by omega) hR er (fun h hR => ?_)
    exact ko_thrown hq hR k
def cf_6_98 (N : Nat) (X : Nat → Option zz_C) (x1 : Int32) (x2 : Int32) (t : cS) : kO := co_b ((kP t 0 3)) (fun w0 => ko_call 3 (cf_141 N X w0 x1 t) (fun g1 v1 => co_v v1 (cf_6_110 N X x2 g1)))
theorem cr_6_98 {X : Nat → Option zz_C} {s : mS} {N : Nat} {d : Nat} (hd : 27 ≤ d) {Q : zz_O → zz_H → Prop} {x1 : Int32} {x2 : Int32} {h : zz_H} {t t' : cS} {o : kY} (hR : kR h t s) (hf : cf_6_98 N X x1 x2 t = some (t', o)) (k : (∀ h', kR h' t' s → kE o Q h')) : zz_J zp_P zt_tf zt_fd X d zm_6 98 [(0, .ref 0), (1, .int x1), (2, .int x2)] [] h Q := by
  unfold cf_6_98 at hf
  obtain ⟨w0, e0, hf⟩ := co_b_ok hf
  obtain ⟨d', rfl⟩ : ∃ d', d = d' + 1 := ⟨d - 1, by omega⟩
  refine cb_6_98 hR e0 (fun {h} hR => ?_)
  rcases ko_call_ok hf with ⟨g1, v1, er, hf⟩ | ⟨g1, er, hq⟩
  · obtain ⟨hv, hf2⟩ := co_v_ok hf
    clear hf
    have hf := hf2
    clear hf2
    subst hv
    refine cr_141 (by omega) hR er (fun h hR => ?_)
    exact cr_6_110 hd hR hf k
  · refine cr_141 (by omega) hR er (fun h hR => ?_)
    exact ko_thrown hq hR k
def cf_6_92 (N : Nat) (X : Nat → Option zz_C) (rc : Nat → Int32 → Int32 → Int32 → cS → kO) (x1 : Int32) (x2 : Int32) (x4 : Int32) (t : cS) : kO := rc 0 x1 x2 (x4 + 1) t
theorem cr_6_92 {X : Nat → Option zz_C} {s : mS} {N : Nat} {d : Nat} (hd : 27 ≤ d) {rc : Nat → Int32 → Int32 → Int32 → cS → kO} (hrc0 : ∀ {Q : zz_O → zz_H → Prop} {x1 : Int32} {x2 : Int32} {x4 : Int32} {h : zz_H} {t t' : cS} {o : kY}, kR h t s → rc 0 x1 x2 x4 t = some (t', o) → (∀ h', kR h' t' s → kE o Q h') → zz_J zp_P zt_tf zt_fd X d zm_6 63 [(0, .ref 0), (1, .int x1), (2, .int x2), (4, .int x4)] [] h Q) {Q : zz_O → zz_H → Prop} {x1 : Int32} {x2 : Int32} {x4 : Int32} {h : zz_H} {t t' : cS} {o : kY} (hR : kR h t s) (hf : cf_6_92 N X rc x1 x2 x4 t = some (t', o)) (k : (∀ h', kR h' t' s → kE o Q h')) : zz_J zp_P zt_tf zt_fd X d zm_6 92 [(0, .ref 0), (1, .int x1), (2, .int x2), (4, .int x4)] [] h Q := by
  unfold cf_6_92 at hf
  exact cb_6_92 hR  (fun hR => hrc0 hR hf k)
def cf_6_89 (N : Nat) (X : Nat → Option zz_C) (rc : Nat → Int32 → Int32 → Int32 → cS → kO) (x1 : Int32) (x2 : Int32) (x4 : Int32) (y1 : Int32) (y2 : Int64) (t : cS) : kO := ko_call 3 (cf_137 N X y1 y2 t) (fun g1 v1 => co_v v1 (cf_6_92 N X rc x1 x2 x4 g1))
theorem cr_6_89 {X : Nat → Option zz_C} {s : mS} {N : Nat} {d : Nat} (hd : 27 ≤ d) {rc : Nat → Int32 → Int32 → Int32 → cS → kO} (hrc0 : ∀ {Q : zz_O → zz_H → Prop} {x1 : Int32} {x2 : Int32} {x4 : Int32} {h : zz_H} {t t' : cS} {o : kY}, kR h t s → rc 0 x1 x2 x4 t = some (t', o) → (∀ h', kR h' t' s → kE o Q h') → zz_J zp_P zt_tf zt_fd X d zm_6 63 [(0, .ref 0), (1, .int x1), (2, .int x2), (4, .int x4)] [] h Q) {Q : zz_O → zz_H → Prop} {x1 : Int32} {x2 : Int32} {x4 : Int32} {y1 : Int32} {y2 : Int64} {h : zz_H} {t t' : cS} {o : kY} (hR : kR h t s) (hf : cf_6_89 N X rc x1 x2 x4 y1 y2 t = some (t', o)) (k : (∀ h', kR h' t' s → kE o Q h')) : zz_J zp_P zt_tf zt_fd X d zm_6 89 [(0, .ref 0), (1, .int x1), (2, .int x2), (4, .int x4)] [.long y2, .int y1, .ref 49] h Q := by
  unfold cf_6_89 at hf
  obtain ⟨d', rfl⟩ : ∃ d', d = d' + 1 := ⟨d - 1, by omega⟩
  refine cb_6_89 hR  (fun {h} hR => ?_)
  rcases ko_call_ok hf with ⟨g1, v1, er, hf⟩ | ⟨g1, er, hq⟩
  · obtain ⟨hv, hf2⟩ := co_v_ok hf
    clear hf
    have hf := hf2
    clear hf2
    subst hv
    refine cr_137 (by omega) hR er (fun h hR => ?_)
    exact cr_6_92 hd hrc0 hR hf k
  · refine cr_137 (by omega) hR er (fun h hR => ?_)
    exact ko_thrown hq hR k
def cf_6_70 (N : Nat) (X : Nat → Option zz_C) (rc : Nat → Int32 → Int32 → Int32 → cS → kO) (x1 : Int32) (x2 : Int32) (x4 : Int32) (t : cS) : kO := co_b ((kP t 0 7)) (fun w0 => if kH t w0 = true then (ko_call 7 (cf_215 N X w0 x4 t) (fun g1 v1 => co_l v1 (fun y => cf_6_89 N X rc x1 x2 x4 x4 y g1))) else none)
theorem cr_6_70 {X : Nat → Option zz_C} {s : mS} {N : Nat} {d : Nat} (hd : 27 ≤ d) {rc : Nat → Int32 → Int32 → Int32 → cS → kO} (hrc0 : ∀ {Q : zz_O → zz_H → Prop} {x1 : Int32} {x2 : Int32} {x4 : Int32} {h : zz_H} {t t' : cS} {o : kY}, kR h t s → rc 0 x1 x2 x4 t = some (t', o) → (∀ h', kR h' t' s → kE o Q h') → zz_J zp_P zt_tf zt_fd X d zm_6 63 [(0, .ref 0), (1, .int x1), (2, .int x2), (4, .int x4)] [] h Q) {Q : zz_O → zz_H → Prop} {x1 : Int32} {x2 : Int32} {x4 : Int32} {h : zz_H} {t t' : cS} {o : kY} (hR : kR h t s) (hf : cf_6_70 N X rc x1 x2 x4 t = some (t', o)) (k : (∀ h', kR h' t' s → kE o Q h')) : zz_J zp_P zt_tf zt_fd X d zm_6 70 [(0, .ref 0), (1, .int x1), (2, .int x2), (4, .int x4)] [] h Q := by
  unfold cf_6_70 at hf
  obtain ⟨w0, e0, hf⟩ := co_b_ok hf
  obtain ⟨e1, hf⟩ := ko_if hf
  obtain ⟨d', rfl⟩ : ∃ d', d = d' + 1 := ⟨d - 1, by omega⟩
  refine cb_6_70 hR e0 e1 (fun {h} hR => ?_)
  rcases ko_call_ok hf with ⟨g1, v1, er, hf⟩ | ⟨g1, er, hq⟩
  · obtain ⟨y, hv, hf2⟩ := co_l_ok hf
    clear hf
    have hf := hf2
    clear hf2
    subst hv
    refine cr_215 (by omega) hR er (fun h hR => ?_)
    exact cr_6_89 hd hrc0 hR hf k
  · refine cr_215 (by omega) hR er (fun h hR => ?_)
    exact ko_thrown hq hR k
def cf_6_63 (N : Nat) (X : Nat → Option zz_C) (rc : Nat → Int32 → Int32 → Int32 → cS → kO) (x1 : Int32) (x2 : Int32) (x4 : Int32) (t : cS) : kO := if 8 ≤ x4 then cf_6_98 N X x1 x2 t else cf_6_70 N X rc x1 x2 x4 t
theorem cr_6_63 {X : Nat → Option zz_C} {s : mS} {N : Nat} {d : Nat} (hd : 27 ≤ d) {rc : Nat → Int32 → Int32 → Int32 → cS → kO} (hrc0 : ∀ {Q : zz_O → zz_H → Prop} {x1 : Int32} {x2 : Int32} {x4 : Int32} {h : zz_H} {t t' : cS} {o : kY}, kR h t s → rc 0 x1 x2 x4 t = some (t', o) → (∀ h', kR h' t' s → kE o Q h') → zz_J zp_P zt_tf zt_fd X d zm_6 63 [(0, .ref 0), (1, .int x1), (2, .int x2), (4, .int x4)] [] h Q) {Q : zz_O → zz_H → Prop} {x1 : Int32} {x2 : Int32} {x4 : Int32} {h : zz_H} {t t' : cS} {o : kY} (hR : kR h t s) (hf : cf_6_63 N X rc x1 x2 x4 t = some (t', o)) (k : (∀ h', kR h' t' s → kE o Q h')) : zz_J zp_P zt_tf zt_fd X d zm_6 63 [(0, .ref 0), (1, .int x1), (2, .int x2), (4, .int x4)] [] h Q := by
  unfold cf_6_63 at hf
  refine cb_6_63 hR  (fun c {h} hR => ?_) (fun c {h} hR => ?_)
  · rw [if_pos c] at hf
    exact cr_6_98 hd hR hf k
  · rw [if_neg c] at hf
    exact cr_6_70 hd hrc0 hR hf k
def cf_6_L7 (N : Nat) (X : Nat → Option zz_C) : Nat → Nat → Int32 → Int32 → Int32 → cS → kO
  | 0, _, _, _, _, _ => none
  | n + 1, l, x1, x2, x4, t => if l = 0 then cf_6_63 N X (cf_6_L7 N X n) x1 x2 x4 t else none
theorem cr_6_L7 {X : Nat → Option zz_C} {s : mS} {N : Nat} {d : Nat} (hd : 27 ≤ d) : ∀ n : Nat, (∀ {Q : zz_O → zz_H → Prop} {x1 : Int32} {x2 : Int32} {x4 : Int32} {h : zz_H} {t t' : cS} {o : kY}, kR h t s → cf_6_L7 N X n 0 x1 x2 x4 t = some (t', o) → (∀ h', kR h' t' s → kE o Q h') → zz_J zp_P zt_tf zt_fd X d zm_6 63 [(0, .ref 0), (1, .int x1), (2, .int x2), (4, .int x4)] [] h Q) := by
  intro n
  induction n with
  | zero => exact (fun _ hf _ => by cases hf)
  | succ n ih =>
    have h0 := @ih
    intro Q _ _ _ h t t' o hR hf k
    unfold cf_6_L7 at hf
    rw [if_pos rfl] at hf
    exact cr_6_63 hd h0 hR hf k
def cf_6_60 (N : Nat) (X : Nat → Option zz_C) (x1 : Int32) (x2 : Int32) (t : cS) : kO := cf_6_L7 N X N 0 x1 x2 0 t
theorem cr_6_60 {X : Nat → Option zz_C} {s : mS} {N : Nat} {d : Nat} (hd : 27 ≤ d) {Q : zz_O → zz_H → Prop} {x1 : Int32} {x2 : Int32} {h : zz_H} {t t' : cS} {o : kY} (hR : kR h t s) (hf : cf_6_60 N X x1 x2 t = some (t', o)) (k : (∀ h', kR h' t' s → kE o Q h')) : zz_J zp_P zt_tf zt_fd X d zm_6 60 [(0, .ref 0), (1, .int x1), (2, .int x2)] [] h Q := by
  unfold cf_6_60 at hf
  exact cb_6_60 hR  (fun hR => cr_6_L7 hd N hR hf k)
def cf_6_52 (N : Nat) (X : Nat → Option zz_C) (x1 : Int32) (x2 : Int32) (x3 : Int32) (t : cS) : kO := ko_call 9 (cf_233 N X x3 t) (fun g1 v1 => co_v v1 (cf_6_60 N X x1 x2 g1))
theorem cr_6_52 {X : Nat → Option zz_C} {s : mS} {N : Nat} {d : Nat} (hd : 27 ≤ d) {Q : zz_O → zz_H → Prop} {x1 : Int32} {x2 : Int32} {x3 : Int32} {h : zz_H} {t t' : cS} {o : kY} (hR : kR h t s) (hf : cf_6_52 N X x1 x2 x3 t = some (t', o)) (k : (∀ h', kR h' t' s → kE o Q h')) : zz_J zp_P zt_tf zt_fd X d zm_6 52 [(0, .ref 0), (1, .int x1), (2, .int x2), (3, .int x3)] [] h Q := by
  unfold cf_6_52 at hf
  obtain ⟨d', rfl⟩ : ∃ d', d = d' + 1 := ⟨d - 1, by omega⟩
  refine cb_6_52 hR  (fun {h} hR => ?_)
  rcases ko_call_ok hf with ⟨g1, v1, er, hf⟩ | ⟨g1, er, hq⟩
  · obtain ⟨hv, hf2⟩ := co_v_ok hf
    clear hf
    have hf := hf2
    clear hf2
    subst hv
    refine cr_233 (by omega) hR er (fun h hR => ?_)
    exact cr_6_60 hd hR hf k
  · refine cr_233 (by omega) hR er (fun h hR => ?_)
    exact ko_thrown hq hR k
def cf_6_45 (N : Nat) (X : Nat → Option zz_C) (x1 : Int32) (x2 : Int32) (x3 : Int32) (t : cS) : kO := ko_call 2 (cf_120 N X  t) (fun g1 v1 => co_v v1 (cf_6_52 N X x1 x2 x3 g1))
theorem cr_6_45 {X : Nat → Option zz_C} {s : mS} {N : Nat} {d : Nat} (hd : 27 ≤ d) {Q : zz_O → zz_H → Prop} {x1 : Int32} {x2 : Int32} {x3 : Int32} {h : zz_H} {t t' : cS} {o : kY} (hR : kR h t s) (hf : cf_6_45 N X x1 x2 x3 t = some (t', o)) (k : (∀ h', kR h' t' s → kE o Q h')) : zz_J zp_P zt_tf zt_fd X d zm_6 45 [(0, .ref 0), (1, .int x1), (2, .int x2), (3, .int x3)] [] h Q := by
  unfold cf_6_45 at hf
  obtain ⟨d', rfl⟩ : ∃ d', d = d' + 1 := ⟨d - 1, by omega⟩
  refine cb_6_45 hR  (fun {h} hR => ?_)
  rcases ko_call_ok hf with ⟨g1, v1, er, hf⟩ | ⟨g1, er, hq⟩
  · obtain ⟨hv, hf2⟩ := co_v_ok hf
    clear hf
    have hf := hf2
    clear hf2
    subst hv
    refine cr_120 (by omega) hR er (fun h hR => ?_)
    exact cr_6_52 hd hR hf k
  · refine cr_120 (by omega) hR er (fun h hR => ?_)
    exact ko_thrown hq hR k
def cf_6_38 (N : Nat) (X : Nat → Option zz_C) (x1 : Int32) (x2 : Int32) (x3 : Int32) (t : cS) : kO := ko_call 4 (cf_168 N X  t) (fun g1 v1 => co_v v1 (cf_6_45 N X x1 x2 x3 g1))
theorem cr_6_38 {X : Nat → Option zz_C} {s : mS} {N : Nat} {d : Nat} (hd : 27 ≤ d) {Q : zz_O → zz_H → Prop} {x1 : Int32} {x2 : Int32} {x3 : Int32} {h : zz_H} {t t' : cS} {o : kY} (hR : kR h t s) (hf : cf_6_38 N X x1 x2 x3 t = some (t', o)) (k : (∀ h', kR h' t' s → kE o Q h')) : zz_J zp_P zt_tf zt_fd X d zm_6 38 [(0, .ref 0), (1, .int x1), (2, .int x2), (3, .int x3)] [] h Q := by
  unfold cf_6_38 at hf
  obtain ⟨d', rfl⟩ : ∃ d', d = d' + 1 := ⟨d - 1, by omega⟩
  refine cb_6_38 hR  (fun {h} hR => ?_)
  rcases ko_call_ok hf with ⟨g1, v1, er, hf⟩ | ⟨g1, er, hq⟩
  · obtain ⟨hv, hf2⟩ := co_v_ok hf
    clear hf
    have hf := hf2
    clear hf2
    subst hv
    refine cr_168 (by omega) hR er (fun h hR => ?_)
    exact cr_6_45 hd hR hf k
  · refine cr_168 (by omega) hR er (fun h hR => ?_)
    exact ko_thrown hq hR k
def cf_6_29 (N : Nat) (X : Nat → Option zz_C) (x1 : Int32) (x2 : Int32) (x3 : Int32) (t : cS) : kO := if x3 ≤ 20000 then cf_6_38 N X x1 x2 x3 t else cf_6_36 N X  t
theorem cr_6_29 {X : Nat → Option zz_C} {s : mS} {N : Nat} {d : Nat} (hd : 27 ≤ d) {Q : zz_O → zz_H → Prop} {x1 : Int32} {x2 : Int32} {x3 : Int32} {h : zz_H} {t t' : cS} {o : kY} (hR : kR h t s) (hf : cf_6_29 N X x1 x2 x3 t = some (t', o)) (k : (∀ h', kR h' t' s → kE o Q h')) : zz_J zp_P zt_tf zt_fd X d zm_6 29 [(0, .ref 0), (1, .int x1), (2, .int x2), (3, .int x3)] [] h Q := by
  unfold cf_6_29 at hf
  refine cb_6_29 hR  (fun c {h} hR => ?_) (fun c {h} hR => ?_)
  · rw [if_pos c] at hf
    exact cr_6_38 hd hR hf k
  · rw [if_neg c] at hf
    exact cr_6_36 hd hR hf k
def cf_6_24 (N : Nat) (X : Nat → Option zz_C) (x1 : Int32) (x2 : Int32) (x3 : Int32) (t : cS) : kO := if x3 < 1 then cf_6_36 N X  t else cf_6_29 N X x1 x2 x3 t
theorem cr_6_24 {X : Nat → Option zz_C} {s : mS} {N : Nat} {d : Nat} (hd : 27 ≤ d) {Q : zz_O → zz_H → Prop} {x1 : Int32} {x2 : Int32} {x3 : Int32} {h : zz_H} {t t' : cS} {o : kY} (hR : kR h t s) (hf : cf_6_24 N X x1 x2 x3 t = some (t', o)) (k : (∀ h', kR h' t' s → kE o Q h')) : zz_J zp_P zt_tf zt_fd X d zm_6 24 [(0, .ref 0), (1, .int x1), (2, .int x2), (3, .int x3)] [] h Q := by
  unfold cf_6_24 at hf
  refine cb_6_24 hR  (fun c {h} hR => ?_) (fun c {h} hR => ?_)
  · rw [if_pos c] at hf
    exact cr_6_36 hd hR hf k
  · rw [if_neg c] at hf
    exact cr_6_29 hd hR hf k
def cf_6_21 (N : Nat) (X : Nat → Option zz_C) (x1 : Int32) (x2 : Int32) (x3 : Int32) (y0 : Int32) (t : cS) : kO := if y0 = 0 then cf_6_36 N X  t else cf_6_24 N X x1 x2 x3 t
theorem cr_6_21 {X : Nat → Option zz_C} {s : mS} {N : Nat} {d : Nat} (hd : 27 ≤ d) {Q : zz_O → zz_H → Prop} {x1 : Int32} {x2 : Int32} {x3 : Int32} {y0 : Int32} {h : zz_H} {t t' : cS} {o : kY} (hR : kR h t s) (hf : cf_6_21 N X x1 x2 x3 y0 t = some (t', o)) (k : (∀ h', kR h' t' s → kE o Q h')) : zz_J zp_P zt_tf zt_fd X d zm_6 21 [(0, .ref 0), (1, .int x1), (2, .int x2), (3, .int x3)] [.int y0] h Q := by
  unfold cf_6_21 at hf
  refine cb_6_21 hR  (fun c {h} hR => ?_) (fun c {h} hR => ?_)
  · rw [if_pos c] at hf
    exact cr_6_36 hd hR hf k
  · rw [if_neg c] at hf
    exact cr_6_24 hd hR hf k
def cf_6_17 (N : Nat) (X : Nat → Option zz_C) (x1 : Int32) (x2 : Int32) (x3 : Int32) (t : cS) : kO := ko_call 0 (cf_21 N X x2 t) (fun g1 v1 => co_i v1 (fun y => cf_6_21 N X x1 x2 x3 y g1))
theorem cr_6_17 {X : Nat → Option zz_C} {s : mS} {N : Nat} {d : Nat} (hd : 27 ≤ d) {Q : zz_O → zz_H → Prop} {x1 : Int32} {x2 : Int32} {x3 : Int32} {h : zz_H} {t t' : cS} {o : kY} (hR : kR h t s) (hf : cf_6_17 N X x1 x2 x3 t = some (t', o)) (k : (∀ h', kR h' t' s → kE o Q h')) : zz_J zp_P zt_tf zt_fd X d zm_6 17 [(0, .ref 0), (1, .int x1), (2, .int x2), (3, .int x3)] [] h Q := by
  unfold cf_6_17 at hf
  obtain ⟨d', rfl⟩ : ∃ d', d = d' + 1 := ⟨d - 1, by omega⟩
  refine cb_6_17 hR  (fun {h} hR => ?_)
  rcases ko_call_ok hf with ⟨g1, v1, er, hf⟩ | ⟨g1, er, hq⟩
  · obtain ⟨y, hv, hf2⟩ := co_i_ok hf
    clear hf
    have hf := hf2
    clear hf2
    subst hv
    refine cr_21 (by omega) hR er (fun h hR => ?_)
    exact cr_6_21 hd hR hf k
  · refine cr_21 (by omega) hR er (fun h hR => ?_)
    exact ko_thrown hq hR k
def cf_6_12 (N : Nat) (X : Nat → Option zz_C) (x1 : Int32) (x2 : Int32) (x3 : Int32) (t : cS) : kO := if x2 = (-1) then cf_6_24 N X x1 x2 x3 t else cf_6_17 N X x1 x2 x3 t
theorem cr_6_12 {X : Nat → Option zz_C} {s : mS} {N : Nat} {d : Nat} (hd : 27 ≤ d) {Q : zz_O → zz_H → Prop} {x1 : Int32} {x2 : Int32} {x3 : Int32} {h : zz_H} {t t' : cS} {o : kY} (hR : kR h t s) (hf : cf_6_12 N X x1 x2 x3 t = some (t', o)) (k : (∀ h', kR h' t' s → kE o Q h')) : zz_J zp_P zt_tf zt_fd X d zm_6 12 [(0, .ref 0), (1, .int x1), (2, .int x2), (3, .int x3)] [] h Q := by
  unfold cf_6_12 at hf
  refine cb_6_12 hR  (fun c {h} hR => ?_) (fun c {h} hR => ?_)
  · rw [if_pos c] at hf
    exact cr_6_24 hd hR hf k
  · rw [if_neg c] at hf
    exact cr_6_17 hd hR hf k
def cf_6_9 (N : Nat) (X : Nat → Option zz_C) (x1 : Int32) (x2 : Int32) (x3 : Int32) (y0 : Int32) (t : cS) : kO := if ¬ y0 = 0 then cf_6_36 N X  t else cf_6_12 N X x1 x2 x3 t
theorem cr_6_9 {X : Nat → Option zz_C} {s : mS} {N : Nat} {d : Nat} (hd : 27 ≤ d) {Q : zz_O → zz_H → Prop} {x1 : Int32} {x2 : Int32} {x3 : Int32} {y0 : Int32} {h : zz_H} {t t' : cS} {o : kY} (hR : kR h t s) (hf : cf_6_9 N X x1 x2 x3 y0 t = some (t', o)) (k : (∀ h', kR h' t' s → kE o Q h')) : zz_J zp_P zt_tf zt_fd X d zm_6 9 [(0, .ref 0), (1, .int x1), (2, .int x2), (3, .int x3)] [.int y0] h Q := by
  unfold cf_6_9 at hf
  refine cb_6_9 hR  (fun c {h} hR => ?_) (fun c {h} hR => ?_)
  · rw [if_pos c] at hf
    exact cr_6_36 hd hR hf k
  · rw [if_neg c] at hf
    exact cr_6_12 hd hR hf k
def cf_6_0 (N : Nat) (X : Nat → Option zz_C) (x1 : Int32) (x2 : Int32) (x3 : Int32) (t : cS) : kO := co_b ((kP t 0 3)) (fun w0 => if w0 = 12 ∨ w0 = 21 then (ko_call 6 (cf_33 N X w0 x1 0 t) (fun g1 v1 => co_i v1 (fun y => cf_6_9 N X x1 x2 x3 y g1))) else none)
theorem cr_6_0 {X : Nat → Option zz_C} {s : mS} {N : Nat} {d : Nat} (hd : 27 ≤ d) {Q : zz_O → zz_H → Prop} {x1 : Int32} {x2 : Int32} {x3 : Int32} {h : zz_H} {t t' : cS} {o : kY} (hR : kR h t s) (hf : cf_6_0 N X x1 x2 x3 t = some (t', o)) (k : (∀ h', kR h' t' s → kE o Q h')) : zz_J zp_P zt_tf zt_fd X d zm_6 0 [(0, .ref 0), (1, .int x1), (2, .int x2), (3, .int x3)] [] h Q := by
  unfold cf_6_0 at hf
  obtain ⟨w0, e0, hf⟩ := co_b_ok hf
  obtain ⟨e1, hf⟩ := ko_if hf
  obtain ⟨d', rfl⟩ : ∃ d', d = d' + 1 := ⟨d - 1, by omega⟩
  refine cb_6_0 hR e0 e1 (fun {h} hR => ?_)
  rcases ko_call_ok hf with ⟨g1, v1, er, hf⟩ | ⟨g1, er, hq⟩
  · obtain ⟨y, hv, hf2⟩ := co_i_ok hf
    clear hf
    have hf := hf2
    clear hf2
    subst hv
    refine cr_33 (by omega) hR er (fun h hR => ?_)
    exact cr_6_9 hd hR hf k
  · refine cr_33 (by omega) hR er (fun h hR => ?_)
    exact ko_thrown hq hR k
/-- run -/
def cf_6 (N : Nat) (X : Nat → Option zz_C) (x1 : Int32) (x2 : Int32) (x3 : Int32) (t : cS) : kO := cf_6_0 N X x1 x2 x3 t
theorem cr_6 {X : Nat → Option zz_C} {s : mS} {N : Nat} {d : Nat} (hd : 27 ≤ d) {Q : zz_O → zz_H → Prop} {x1 : Int32} {x2 : Int32} {x3 : Int32} {h : zz_H} {t t' : cS} {o : kY} (hR : kR h t s) (hf : cf_6 N X x1 x2 x3 t = some (t', o)) (k : ∀ h', kR h' t' s → kE o Q h') : zz_J zp_P zt_tf zt_fd X d zm_6 0 [(0, .ref 0), (1, .int x1), (2, .int x2), (3, .int x3)] [] h Q := by
  unfold cf_6 at hf
  exact zz_J.weak (cr_6_0 hd hR hf k) rfl ⟨rfl, rfl, rfl, rfl, trivial⟩
/-! yX9_told (I)I -/
theorem cb_52_0 {X : Nat → Option zz_C} {h : zz_H} {t : cS} {s : mS} {d : Nat} {Q : zz_O → zz_H → Prop} {x1 : Int32} (hR : kR h t s) (k1 : ¬ (kI t 48 0) = 0 → (∀ {h : zz_H}, kR h t s → zz_J zp_P zt_tf zt_fd X d zm_52 9 [(0, .ref 48), (1, .int x1)] [] h Q)) (k2 : ¬ ¬ (kI t 48 0) = 0 → (∀ {h : zz_H}, kR h t s → zz_J zp_P zt_tf zt_fd X d zm_52 7 [] [] h Q)) : zz_J zp_P zt_tf zt_fd X d zm_52 0 [(0, .ref 48), (1, .int x1)] [] h Q := by
  refine zz_J.n 1 rfl rfl rfl ?_
  refine zz_J.g 4 rfl (hR.gv (v := .int (kI t 48 0)) ko_48 (by decide) rfl) rfl ?_
  refine zz_J.b1 9 7 (A := ¬ (kI t 48 0) = 0) rfl (zz_cond_ne _ _) (by decide) rfl rfl (fun c => ?_) (fun c => ?_)
  · exact zz_J.weak (k1 c hR) rfl ⟨rfl, rfl, trivial⟩
  · exact zz_J.weak (k2 c hR) rfl trivial
theorem cb_52_7 {X : Nat → Option zz_C} {h : zz_H} {t : cS} {s : mS} {d : Nat} {Q : zz_O → zz_H → Prop}  (hR : kR h t s) (k : ∀ {h : zz_H}, kR h t s → Q (.inl (some (.int (-1)))) h) : zz_J zp_P zt_tf zt_fd X d zm_52 7 [] [] h Q := by
  refine zz_J.c 8 (.int (-1)) rfl rfl rfl rfl ?_
  refine zz_J.ret rfl rfl rfl ?_
  exact k hR
theorem cb_52_9 {X : Nat → Option zz_C} {h : zz_H} {t : cS} {s : mS} {d : Nat} {Q : zz_O → zz_H → Prop} {x1 : Int32} (hR : kR h t s) (c0 : x1 = 0 → (∀ {h : zz_H}, kR h t s → zz_J zp_P zt_tf zt_fd X d zm_52 52 [(0, .ref 48)] [] h Q)) (c1 : x1 = 1 → (∀ {h : zz_H}, kR h t s → zz_J zp_P zt_tf zt_fd X d zm_52 57 [(0, .ref 48)] [] h Q)) (c2 : x1 = 2 → (∀ {h : zz_H}, kR h t s → zz_J zp_P zt_tf zt_fd X d zm_52 62 [(0, .ref 48)] [] h Q)) (c3 : x1 = 3 → (∀ {h : zz_H}, kR h t s → zz_J zp_P zt_tf zt_fd X d zm_52 67 [(0, .ref 48)] [] h Q)) (c4 : x1 = 4 → (∀ {h : zz_H}, kR h t s → zz_J zp_P zt_tf zt_fd X d zm_52 72 [(0, .ref 48)] [] h Q)) (c5 : x1 = 5 → (∀ {h : zz_H}, kR h t s → zz_J zp_P zt_tf zt_fd X d zm_52 77 [(0, .ref 48)] [] h Q)) (c6 : x1 = 6 → (∀ {h : zz_H}, kR h t s → zz_J zp_P zt_tf zt_fd X d zm_52 82 [(0, .ref 48)] [] h Q)) (kd : (Int32.toInt x1 < 0 ∨ 6 < Int32.toInt x1) → (∀ {h : zz_H}, kR h t s → zz_J zp_P zt_tf zt_fd X d zm_52 87 [] [] h Q)) : zz_J zp_P zt_tf zt_fd X d zm_52 9 [(0, .ref 48), (1, .int x1)] [] h Q := by
  refine zz_J.n 10 rfl rfl rfl ?_
  by_cases hx : Int32.toInt x1 < 0 ∨ 6 < Int32.toInt x1
  · exact zz_J.td 87 rfl hx (by decide) rfl (zz_J.weak (kd hx hR) rfl trivial)
  · have hv : Int32.toInt x1 = 0 ∨ Int32.toInt x1 = 1 ∨ Int32.toInt x1 = 2 ∨ Int32.toInt x1 = 3 ∨ Int32.toInt x1 = 4 ∨ Int32.toInt x1 = 5 ∨ Int32.toInt x1 = 6 := by omega
    rcases hv with hv | hv | hv | hv | hv | hv | hv
    · have e : x1 = 0 := Int32.toInt_inj.mp (hv.trans rfl)
      exact zz_J.tv 52 rfl e rfl (zz_J.weak (c0 e hR) rfl ⟨rfl, trivial⟩)
    · have e : x1 = 1 := Int32.toInt_inj.mp (hv.trans rfl)
      exact zz_J.tv 57 rfl e rfl (zz_J.weak (c1 e hR) rfl ⟨rfl, trivial⟩)
    · have e : x1 = 2 := Int32.toInt_inj.mp (hv.trans rfl)
      exact zz_J.tv 62 rfl e rfl (zz_J.weak (c2 e hR) rfl ⟨rfl, trivial⟩)
    · have e : x1 = 3 := Int32.toInt_inj.mp (hv.trans rfl)
      exact zz_J.tv 67 rfl e rfl (zz_J.weak (c3 e hR) rfl ⟨rfl, trivial⟩)
    · have e : x1 = 4 := Int32.toInt_inj.mp (hv.trans rfl)
      exact zz_J.tv 72 rfl e rfl (zz_J.weak (c4 e hR) rfl ⟨rfl, trivial⟩)
    · have e : x1 = 5 := Int32.toInt_inj.mp (hv.trans rfl)
      exact zz_J.tv 77 rfl e rfl (zz_J.weak (c5 e hR) rfl ⟨rfl, trivial⟩)
    · have e : x1 = 6 := Int32.toInt_inj.mp (hv.trans rfl)
      exact zz_J.tv 82 rfl e rfl (zz_J.weak (c6 e hR) rfl ⟨rfl, trivial⟩)
theorem cb_52_52 {X : Nat → Option zz_C} {h : zz_H} {t : cS} {s : mS} {d : Nat} {Q : zz_O → zz_H → Prop}  (hR : kR h t s) (k : ∀ {h : zz_H}, kR h t s → Q (.inl (some (.int (kI t 48 6)))) h) : zz_J zp_P zt_tf zt_fd X d zm_52 52 [(0, .ref 48)] [] h Q := by
  refine zz_J.n 53 rfl rfl rfl ?_
  refine zz_J.g 56 rfl (hR.gv (v := .int (kI t 48 6)) ko_48 (by decide) rfl) rfl ?_
  refine zz_J.ret rfl rfl rfl ?_
  exact k hR
theorem cb_52_57 {X : Nat → Option zz_C} {h : zz_H} {t : cS} {s : mS} {d : Nat} {Q : zz_O → zz_H → Prop}  (hR : kR h t s) (k : ∀ {h : zz_H}, kR h t s → Q (.inl (some (.int (kI t 48 7)))) h) : zz_J zp_P zt_tf zt_fd X d zm_52 57 [(0, .ref 48)] [] h Q := by
  refine zz_J.n 58 rfl rfl rfl ?_
  refine zz_J.g 61 rfl (hR.gv (v := .int (kI t 48 7)) ko_48 (by decide) rfl) rfl ?_
  refine zz_J.ret rfl rfl rfl ?_
  exact k hR
theorem cb_52_62 {X : Nat → Option zz_C} {h : zz_H} {t : cS} {s : mS} {d : Nat} {Q : zz_O → zz_H → Prop}  (hR : kR h t s) (k : ∀ {h : zz_H}, kR h t s → Q (.inl (some (.int (kI t 48 8)))) h) : zz_J zp_P zt_tf zt_fd X d zm_52 62 [(0, .ref 48)] [] h Q := by
  refine zz_J.n 63 rfl rfl rfl ?_
  refine zz_J.g 66 rfl (hR.gv (v := .int (kI t 48 8)) ko_48 (by decide) rfl) rfl ?_
  refine zz_J.ret rfl rfl rfl ?_
  exact k hR
theorem cb_52_67 {X : Nat → Option zz_C} {h : zz_H} {t : cS} {s : mS} {d : Nat} {Q : zz_O → zz_H → Prop}  (hR : kR h t s) (k : ∀ {h : zz_H}, kR h t s → Q (.inl (some (.int (kI t 48 2)))) h) : zz_J zp_P zt_tf zt_fd X d zm_52 67 [(0, .ref 48)] [] h Q := by
  refine zz_J.n 68 rfl rfl rfl ?_
  refine zz_J.g 71 rfl (hR.gv (v := .int (kI t 48 2)) ko_48 (by decide) rfl) rfl ?_
  refine zz_J.ret rfl rfl rfl ?_
  exact k hR
theorem cb_52_72 {X : Nat → Option zz_C} {h : zz_H} {t : cS} {s : mS} {d : Nat} {Q : zz_O → zz_H → Prop}  (hR : kR h t s) (k : ∀ {h : zz_H}, kR h t s → Q (.inl (some (.int (kI t 48 3)))) h) : zz_J zp_P zt_tf zt_fd X d zm_52 72 [(0, .ref 48)] [] h Q := by
  refine zz_J.n 73 rfl rfl rfl ?_
  refine zz_J.g 76 rfl (hR.gv (v := .int (kI t 48 3)) ko_48 (by decide) rfl) rfl ?_
  refine zz_J.ret rfl rfl rfl ?_
  exact k hR
theorem cb_52_77 {X : Nat → Option zz_C} {h : zz_H} {t : cS} {s : mS} {d : Nat} {Q : zz_O → zz_H → Prop}  (hR : kR h t s) (k : ∀ {h : zz_H}, kR h t s → Q (.inl (some (.int (kI t 48 4)))) h) : zz_J zp_P zt_tf zt_fd X d zm_52 77 [(0, .ref 48)] [] h Q := by
  refine zz_J.n 78 rfl rfl rfl ?_
  refine zz_J.g 81 rfl (hR.gv (v := .int (kI t 48 4)) ko_48 (by decide) rfl) rfl ?_
  refine zz_J.ret rfl rfl rfl ?_
  exact k hR
theorem cb_52_82 {X : Nat → Option zz_C} {h : zz_H} {t : cS} {s : mS} {d : Nat} {Q : zz_O → zz_H → Prop}  (hR : kR h t s) (k : ∀ {h : zz_H}, kR h t s → Q (.inl (some (.int (kI t 48 5)))) h) : zz_J zp_P zt_tf zt_fd X d zm_52 82 [(0, .ref 48)] [] h Q := by
  refine zz_J.n 83 rfl rfl rfl ?_
  refine zz_J.g 86 rfl (hR.gv (v := .int (kI t 48 5)) ko_48 (by decide) rfl) rfl ?_
  refine zz_J.ret rfl rfl rfl ?_
  exact k hR
theorem cb_52_87 {X : Nat → Option zz_C} {h : zz_H} {t : cS} {s : mS} {d : Nat} {Q : zz_O → zz_H → Prop}  (hR : kR h t s) (k : ∀ {h : zz_H}, kR h t s → Q (.inl (some (.int (-1)))) h) : zz_J zp_P zt_tf zt_fd X d zm_52 87 [] [] h Q := by
  refine zz_J.c 88 (.int (-1)) rfl rfl rfl rfl ?_
  refine zz_J.ret rfl rfl rfl ?_
  exact k hR
def cf_52_52 (N : Nat) (X : Nat → Option zz_C)  (t : cS) : kO := some (t, .inl (some (.int (kI t 48 6))))
theorem cr_52_52 {X : Nat → Option zz_C} {s : mS} {N : Nat} {d : Nat} (hd : 0 ≤ d) {Q : zz_O → zz_H → Prop}  {h : zz_H} {t t' : cS} {o : kY} (hR : kR h t s) (hf : cf_52_52 N X  t = some (t', o)) (k : (∀ h', kR h' t' s → kE o Q h')) : zz_J zp_P zt_tf zt_fd X d zm_52 52 [(0, .ref 48)] [] h Q := by
  unfold cf_52_52 at hf
  cases hf
  exact cb_52_52 hR  (fun {h} hR => k h hR)
def cf_52_57 (N : Nat) (X : Nat → Option zz_C)  (t : cS) : kO := some (t, .inl (some (.int (kI t 48 7))))
theorem cr_52_57 {X : Nat → Option zz_C} {s : mS} {N : Nat} {d : Nat} (hd : 0 ≤ d) {Q : zz_O → zz_H → Prop}  {h : zz_H} {t t' : cS} {o : kY} (hR : kR h t s) (hf : cf_52_57 N X  t = some (t', o)) (k : (∀ h', kR h' t' s → kE o Q h')) : zz_J zp_P zt_tf zt_fd X d zm_52 57 [(0, .ref 48)] [] h Q := by
  unfold cf_52_57 at hf
  cases hf
  exact cb_52_57 hR  (fun {h} hR => k h hR)
def cf_52_62 (N : Nat) (X : Nat → Option zz_C)  (t : cS) : kO := some (t, .inl (some (.int (kI t 48 8))))
theorem cr_52_62 {X : Nat → Option zz_C} {s : mS} {N : Nat} {d : Nat} (hd : 0 ≤ d) {Q : zz_O → zz_H → Prop}  {h : zz_H} {t t' : cS} {o : kY} (hR : kR h t s) (hf : cf_52_62 N X  t = some (t', o)) (k : (∀ h', kR h' t' s → kE o Q h')) : zz_J zp_P zt_tf zt_fd X d zm_52 62 [(0, .ref 48)] [] h Q := by
  unfold cf_52_62 at hf
  cases hf
  exact cb_52_62 hR  (fun {h} hR => k h hR)
def cf_52_67 (N : Nat) (X : Nat → Option zz_C)  (t : cS) : kO := some (t, .inl (some (.int (kI t 48 2))))
theorem cr_52_67 {X : Nat → Option zz_C} {s : mS} {N : Nat} {d : Nat} (hd : 0 ≤ d) {Q : zz_O → zz_H → Prop}  {h : zz_H} {t t' : cS} {o : kY} (hR : kR h t s) (hf : cf_52_67 N X  t = some (t', o)) (k : (∀ h', kR h' t' s → kE o Q h')) : zz_J zp_P zt_tf zt_fd X d zm_52 67 [(0, .ref 48)] [] h Q := by
  unfold cf_52_67 at hf
  cases hf
  exact cb_52_67 hR  (fun {h} hR => k h hR)
def cf_52_72 (N : Nat) (X : Nat → Option zz_C)  (t : cS) : kO := some (t, .inl (some (.int (kI t 48 3))))
theorem cr_52_72 {X : Nat → Option zz_C} {s : mS} {N : Nat} {d : Nat} (hd : 0 ≤ d) {Q : zz_O → zz_H → Prop}  {h : zz_H} {t t' : cS} {o : kY} (hR : kR h t s) (hf : cf_52_72 N X  t = some (t', o)) (k : (∀ h', kR h' t' s → kE o Q h')) : zz_J zp_P zt_tf zt_fd X d zm_52 72 [(0, .ref 48)] [] h Q := by
  unfold cf_52_72 at hf
  cases hf
  exact cb_52_72 hR  (fun {h} hR => k h hR)
def cf_52_77 (N : Nat) (X : Nat → Option zz_C)  (t : cS) : kO := some (t, .inl (some (.int (kI t 48 4))))
theorem cr_52_77 {X : Nat → Option zz_C} {s : mS} {N : Nat} {d : Nat} (hd : 0 ≤ d) {Q : zz_O → zz_H → Prop}  {h : zz_H} {t t' : cS} {o : kY} (hR : kR h t s) (hf : cf_52_77 N X  t = some (t', o)) (k : (∀ h', kR h' t' s → kE o Q h')) : zz_J zp_P zt_tf zt_fd X d zm_52 77 [(0, .ref 48)] [] h Q := by
  unfold cf_52_77 at hf
  cases hf
  exact cb_52_77 hR  (fun {h} hR => k h hR)
def cf_52_82 (N : Nat) (X : Nat → Option zz_C)  (t : cS) : kO := some (t, .inl (some (.int (kI t 48 5))))
theorem cr_52_82 {X : Nat → Option zz_C} {s : mS} {N : Nat} {d : Nat} (hd : 0 ≤ d) {Q : zz_O → zz_H → Prop}  {h : zz_H} {t t' : cS} {o : kY} (hR : kR h t s) (hf : cf_52_82 N X  t = some (t', o)) (k : (∀ h', kR h' t' s → kE o Q h')) : zz_J zp_P zt_tf zt_fd X d zm_52 82 [(0, .ref 48)] [] h Q := by
  unfold cf_52_82 at hf
  cases hf
  exact cb_52_82 hR  (fun {h} hR => k h hR)
def cf_52_87 (N : Nat) (X : Nat → Option zz_C)  (t : cS) : kO := some (t, .inl (some (.int (-1))))
theorem cr_52_87 {X : Nat → Option zz_C} {s : mS} {N : Nat} {d : Nat} (hd : 0 ≤ d) {Q : zz_O → zz_H → Prop}  {h : zz_H} {t t' : cS} {o : kY} (hR : kR h t s) (hf : cf_52_87 N X  t = some (t', o)) (k : (∀ h', kR h' t' s → kE o Q h')) : zz_J zp_P zt_tf zt_fd X d zm_52 87 [] [] h Q := by
  unfold cf_52_87 at hf
  cases hf
  exact cb_52_87 hR  (fun {h} hR => k h hR)
def cf_52_9 (N : Nat) (X : Nat → Option zz_C) (x1 : Int32) (t : cS) : kO := if (Int32.toInt x1 < 0 ∨ 6 < Int32.toInt x1) then cf_52_87 N X  t else if x1 = 0 then cf_52_52 N X  t else if x1 = 1 then cf_52_57 N X  t else if x1 = 2 then cf_52_62 N X  t else if x1 = 3 then cf_52_67 N X  t else if x1 = 4 then cf_52_72 N X  t else if x1 = 5 then cf_52_77 N X  t else if x1 = 6 then cf_52_82 N X  t else none
theorem cr_52_9 {X : Nat → Option zz_C} {s : mS} {N : Nat} {d : Nat} (hd : 0 ≤ d) {Q : zz_O → zz_H → Prop} {x1 : Int32} {h : zz_H} {t t' : cS} {o : kY} (hR : kR h t s) (hf : cf_52_9 N X x1 t = some (t', o)) (k : (∀ h', kR h' t' s → kE o Q h')) : zz_J zp_P zt_tf zt_fd X d zm_52 9 [(0, .ref 48), (1, .int x1)] [] h Q := by
  unfold cf_52_9 at hf
  refine cb_52_9 hR  (fun c {h} hR => ?_) (fun c {h} hR => ?_) (fun c {h} hR => ?_) (fun c {h} hR => ?_) (fun c {h} hR => ?_) (fun c {h} hR => ?_) (fun c {h} hR => ?_) (fun c {h} hR => ?_)
  · rw [if_neg (by rw [c]; decide)] at hf
    rw [if_pos c] at hf
    exact cr_52_52 hd hR hf k
  · rw [if_neg (by rw [c]; decide)] at hf
    rw [if_neg (by rw [c]; decide)] at hf
    rw [if_pos c] at hf
    exact cr_52_57 hd hR hf k
  · rw [if_neg (by rw [c]; decide)] at hf
    rw [if_neg (by rw [c]; decide)] at hf
    rw [if_neg (by rw [c]; decide)] at hf
    rw [if_pos c] at hf
    exact cr_52_62 hd hR hf k
  · rw [if_neg (by rw [c]; decide)] at hf
    rw [if_neg (by rw [c]; decide)] at hf
    rw [if_neg (by rw [c]; decide)] at hf
    rw [if_neg (by rw [c]; decide)] at hf
    rw [if_pos c] at hf
    exact cr_52_67 hd hR hf k
  · rw [if_neg (by rw [c]; decide)] at hf
    rw [if_neg (by rw [c]; decide)] at hf
    rw [if_neg (by rw [c]; decide)] at hf
    rw [if_neg (by rw [c]; decide)] at hf
    rw [if_neg (by rw [c]; decide)] at hf
    rw [if_pos c] at hf
    exact cr_52_72 hd hR hf k
  · rw [if_neg (by rw [c]; decide)] at hf
    rw [if_neg (by rw [c]; decide)] at hf
    rw [if_neg (by rw [c]; decide)] at hf
    rw [if_neg (by rw [c]; decide)] at hf
    rw [if_neg (by rw [c]; decide)] at hf
    rw [if_neg (by rw [c]; decide)] at hf
    rw [if_pos c] at hf
    exact cr_52_77 hd hR hf k
  · rw [if_neg (by rw [c]; decide)] at hf
    rw [if_neg (by rw [c]; decide)] at hf
    rw [if_neg (by rw [c]; decide)] at hf
    rw [if_neg (by rw [c]; decide)] at hf
    rw [if_neg (by rw [c]; decide)] at hf
    rw [if_neg (by rw [c]; decide)] at hf
    rw [if_neg (by rw [c]; decide)] at hf
    rw [if_pos c] at hf
    exact cr_52_82 hd hR hf k
  · rw [if_pos c] at hf
    exact cr_52_87 hd hR hf k
def cf_52_7 (N : Nat) (X : Nat → Option zz_C)  (t : cS) : kO := some (t, .inl (some (.int (-1))))
theorem cr_52_7 {X : Nat → Option zz_C} {s : mS} {N : Nat} {d : Nat} (hd : 0 ≤ d) {Q : zz_O → zz_H → Prop}  {h : zz_H} {t t' : cS} {o : kY} (hR : kR h t s) (hf : cf_52_7 N X  t = some (t', o)) (k : (∀ h', kR h' t' s → kE o Q h')) : zz_J zp_P zt_tf zt_fd X d zm_52 7 [] [] h Q := by
  unfold cf_52_7 at hf
  cases hf
  exact cb_52_7 hR  (fun {h} hR => k h hR)
def cf_52_0 (N : Nat) (X : Nat → Option zz_C) (x1 : Int32) (t : cS) : kO := if ¬ (kI t 48 0) = 0 then cf_52_9 N X x1 t else cf_52_7 N X  t
theorem cr_52_0 {X : Nat → Option zz_C} {s : mS} {N : Nat} {d : Nat} (hd : 0 ≤ d) {Q : zz_O → zz_H → Prop} {x1 : Int32} {h : zz_H} {t t' : cS} {o : kY} (hR : kR h t s) (hf : cf_52_0 N X x1 t = some (t', o)) (k : (∀ h', kR h' t' s → kE o Q h')) : zz_J zp_P zt_tf zt_fd X d zm_52 0 [(0, .ref 48), (1, .int x1)] [] h Q := by
  unfold cf_52_0 at hf
  refine cb_52_0 hR  (fun c {h} hR => ?_) (fun c {h} hR => ?_)
  · rw [if_pos c] at hf
    exact cr_52_9 hd hR hf k
  · rw [if_neg c] at hf
    exact cr_52_7 hd hR hf k
/-- told -/
def cf_52 (N : Nat) (X : Nat → Option zz_C) (x1 : Int32) (t : cS) : kO := cf_52_0 N X x1 t
theorem cr_52 {X : Nat → Option zz_C} {s : mS} {N : Nat} {d : Nat} (hd : 0 ≤ d) {Q : zz_O → zz_H → Prop} {x1 : Int32} {h : zz_H} {t t' : cS} {o : kY} (hR : kR h t s) (hf : cf_52 N X x1 t = some (t', o)) (k : ∀ h', kR h' t' s → kE o Q h') : zz_J zp_P zt_tf zt_fd X d zm_52 0 [(0, .ref 48), (1, .int x1)] [] h Q := by
  unfold cf_52 at hf
  exact zz_J.weak (cr_52_0 hd hR hf k) rfl ⟨rfl, rfl, trivial⟩
/-! yX12_trouble (I)I -/
theorem cb_7_0 {X : Nat → Option zz_C} {h : zz_H} {t : cS} {s : mS} {d : Nat} {Q : zz_O → zz_H → Prop} {x1 : Int32} (hR : kR h t s) (k : ∀ {h : zz_H}, kR h t s → zz_J zp_P zt_tf zt_fd X d zm_52 0 [(0, .ref 48), (1, .int x1)] [] h (zz_after 9 Q (fun v h' => zz_J zp_P zt_tf zt_fd X (d + 1) zm_7 8 [] (v.toList ++ []) h' Q))) : zz_J zp_P zt_tf zt_fd X (d + 1) zm_7 0 [(0, .ref 0), (1, .int x1)] [] h Q := by
  refine zz_J.n 1 rfl rfl rfl ?_
  refine zz_J.g 4 rfl (hR.gv (v := .ref 48) ko_0 (by decide) rfl) rfl ?_
  refine zz_J.n 5 rfl rfl rfl ?_
  refine zz_J.cv 8 (as := []) rfl rfl (hR.clO ko_48 (by decide) (by decide)) (by decide) (Nat.le_of_ble_eq_true rfl) (Nat.le_of_ble_eq_true rfl) rfl (Nat.le_of_ble_eq_true rfl) rfl ?_
  refine zz_J.mono (k hR) ?_
  intro o h' hE
  cases o with
  | inl v => exact zz_J.weak hE rfl trivial
  | inr q => exact hE
theorem cb_7_8 {X : Nat → Option zz_C} {h : zz_H} {t : cS} {s : mS} {d : Nat} {Q : zz_O → zz_H → Prop} {y0 : Int32} (hR : kR h t s) (k : ∀ {h : zz_H}, kR h t s → Q (.inl (some (.int y0))) h) : zz_J zp_P zt_tf zt_fd X d zm_7 8 [] [.int y0] h Q := by
  refine zz_J.ret rfl rfl rfl ?_
  exact k hR
def cf_7_8 (N : Nat) (X : Nat → Option zz_C) (y0 : Int32) (t : cS) : kO := some (t, .inl (some (.int y0)))
theorem cr_7_8 {X : Nat → Option zz_C} {s : mS} {N : Nat} {d : Nat} (hd : 1 ≤ d) {Q : zz_O → zz_H → Prop} {y0 : Int32} {h : zz_H} {t t' : cS} {o : kY} (hR : kR h t s) (hf : cf_7_8 N X y0 t = some (t', o)) (k : (∀ h', kR h' t' s → kE o Q h')) : zz_J zp_P zt_tf zt_fd X d zm_7 8 [] [.int y0] h Q := by
  unfold cf_7_8 at hf
  cases hf
  exact cb_7_8 hR  (fun {h} hR => k h hR)
def cf_7_0 (N : Nat) (X : Nat → Option zz_C) (x1 : Int32) (t : cS) : kO := ko_call 9 (cf_52 N X x1 t) (fun g1 v1 => co_i v1 (fun y => cf_7_8 N X y g1))
theorem cr_7_0 {X : Nat → Option zz_C} {s : mS} {N : Nat} {d : Nat} (hd : 1 ≤ d) {Q : zz_O → zz_H → Prop} {x1 : Int32} {h : zz_H} {t t' : cS} {o : kY} (hR : kR h t s) (hf : cf_7_0 N X x1 t = some (t', o)) (k : (∀ h', kR h' t' s → kE o Q h')) : zz_J zp_P zt_tf zt_fd X d zm_7 0 [(0, .ref 0), (1, .int x1)] [] h Q := by
  unfold cf_7_0 at hf
  obtain ⟨d', rfl⟩ : ∃ d', d = d' + 1 := ⟨d - 1, by omega⟩
  refine cb_7_0 hR  (fun {h} hR => ?_)
  rcases ko_call_ok hf with ⟨g1, v1, er, hf⟩ | ⟨g1, er, hq⟩
  · obtain ⟨y, hv, hf2⟩ := co_i_ok hf
    clear hf
    have hf := hf2
    clear hf2
    subst hv
    refine cr_52 (by omega) hR er (fun h hR => ?_)
    exact cr_7_8 hd hR hf k
  · refine cr_52 (by omega) hR er (fun h hR => ?_)
    exact ko_thrown hq hR k
/-- trouble -/
def cf_7 (N : Nat) (X : Nat → Option zz_C) (x1 : Int32) (t : cS) : kO := cf_7_0 N X x1 t
theorem cr_7 {X : Nat → Option zz_C} {s : mS} {N : Nat} {d : Nat} (hd : 1 ≤ d) {Q : zz_O → zz_H → Prop} {x1 : Int32} {h : zz_H} {t t' : cS} {o : kY} (hR : kR h t s) (hf : cf_7 N X x1 t = some (t', o)) (k : ∀ h', kR h' t' s → kE o Q h') : zz_J zp_P zt_tf zt_fd X d zm_7 0 [(0, .ref 0), (1, .int x1)] [] h Q := by
  unfold cf_7 at hf
  exact zz_J.weak (cr_7_0 hd hR hf k) rfl ⟨rfl, rfl, trivial⟩
/-! yX4_byteAt (I)I -/
theorem cb_49_0 {X : Nat → Option zz_C} {h : zz_H} {t : cS} {s : mS} {d : Nat} {Q : zz_O → zz_H → Prop} {x1 : Int32} (hR : kR h t s) (k1 : x1 < 0 → (∀ {h : zz_H}, kR h t s → zz_J zp_P zt_tf zt_fd X d zm_49 30 [] [] h Q)) (k2 : ¬ x1 < 0 → (∀ {h : zz_H}, kR h t s → zz_J zp_P zt_tf zt_fd X d zm_49 4 [(0, .ref 45), (1, .int x1)] [] h Q)) : zz_J zp_P zt_tf zt_fd X d zm_49 0 [(0, .ref 45), (1, .int x1)] [] h Q := by
  refine zz_J.n 1 rfl rfl rfl ?_
  refine zz_J.b1 30 4 (A := x1 < 0) rfl rfl (by decide) rfl rfl (fun c => ?_) (fun c => ?_)
  · exact zz_J.weak (k1 c hR) rfl trivial
  · exact zz_J.weak (k2 c hR) rfl ⟨rfl, rfl, trivial⟩
theorem cb_49_4 {X : Nat → Option zz_C} {h : zz_H} {t : cS} {s : mS} {d : Nat} {Q : zz_O → zz_H → Prop} {x1 : Int32} (hR : kR h t s) (k1 : (kI t 45 1) ≤ x1 → (∀ {h : zz_H}, kR h t s → zz_J zp_P zt_tf zt_fd X d zm_49 30 [] [] h Q)) (k2 : ¬ (kI t 45 1) ≤ x1 → (∀ {h : zz_H}, kR h t s → zz_J zp_P zt_tf zt_fd X d zm_49 12 [(0, .ref 45), (1, .int x1)] [] h Q)) : zz_J zp_P zt_tf zt_fd X d zm_49 4 [(0, .ref 45), (1, .int x1)] [] h Q := by
  refine zz_J.n 5 rfl rfl rfl ?_
  refine zz_J.n 6 rfl rfl rfl ?_
  refine zz_J.g 9 rfl (hR.gv (v := .int (kI t 45 1)) ko_45 (by decide) rfl) rfl ?_
  refine zz_J.b2 30 12 (A := (kI t 45 1) ≤ x1) rfl rfl (by decide) rfl rfl (fun c => ?_) (fun c => ?_)
  · exact zz_J.weak (k1 c hR) rfl trivial
  · exact zz_J.weak (k2 c hR) rfl ⟨rfl, rfl, trivial⟩
theorem cb_49_12 {X : Nat → Option zz_C} {h : zz_H} {t : cS} {s : mS} {d : Nat} {Q : zz_O → zz_H → Prop} {x1 : Int32} (hR : kR h t s) (k1 : (Int32.ofNat (kA t 46).1) ≤ x1 → (∀ {h : zz_H}, kR h t s → zz_J zp_P zt_tf zt_fd X d zm_49 30 [] [] h Q)) (k2 : ¬ (Int32.ofNat (kA t 46).1) ≤ x1 → (∀ {h : zz_H}, kR h t s → zz_J zp_P zt_tf zt_fd X d zm_49 21 [(0, .ref 45), (1, .int x1)] [] h Q)) : zz_J zp_P zt_tf zt_fd X d zm_49 12 [(0, .ref 45), (1, .int x1)] [] h Q := by
  refine zz_J.n 13 rfl rfl rfl ?_
  refine zz_J.n 14 rfl rfl rfl ?_
  refine zz_J.g 17 rfl (hR.gv (v := .ref (kD t 46)) ko_45 (by decide) rfl) rfl ?_
  refine zz_J.ln 18 rfl (hR.ln (w := (Int32.ofNat (kA t 46).1)) ka_46 rfl (by decide) rfl) rfl ?_
  refine zz_J.b2 30 21 (A := (Int32.ofNat (kA t 46).1) ≤ x1) rfl rfl (by decide) rfl rfl (fun c => ?_) (fun c => ?_)
  · exact zz_J.weak (k1 c hR) rfl trivial
  · exact zz_J.weak (k2 c hR) rfl ⟨rfl, rfl, trivial⟩
theorem cb_49_21 {X : Nat → Option zz_C} {h : zz_H} {t : cS} {s : mS} {d : Nat} {Q : zz_O → zz_H → Prop} {x1 : Int32} (hR : kR h t s) (e0 : ¬ (x1 < 0 ∨ (kA t 46).1 ≤ (Int32.toNatClampNeg x1))) (k : ∀ {h : zz_H}, kR h t s → zz_J zp_P zt_tf zt_fd X d zm_49 31 [] [.int ((kA t 46).2 (Int32.toNatClampNeg x1))] h Q) : zz_J zp_P zt_tf zt_fd X d zm_49 21 [(0, .ref 45), (1, .int x1)] [] h Q := by
  refine zz_J.n 22 rfl rfl rfl ?_
  refine zz_J.g 25 rfl (hR.gv (v := .ref (kD t 46)) ko_45 (by decide) rfl) rfl ?_
  refine zz_J.n 26 rfl rfl rfl ?_
  refine zz_J.ab 27 rfl (hR.ab (w := ((kA t 46).2 (Int32.toNatClampNeg x1))) ka_46 rfl (by decide) e0 rfl) rfl ?_
  refine zz_J.n 31 rfl rfl rfl ?_
  exact zz_J.weak (k hR) rfl trivial
theorem cb_49_30 {X : Nat → Option zz_C} {h : zz_H} {t : cS} {s : mS} {d : Nat} {Q : zz_O → zz_H → Prop}  (hR : kR h t s) (k : ∀ {h : zz_H}, kR h t s → zz_J zp_P zt_tf zt_fd X d zm_49 31 [] [.int (-1)] h Q) : zz_J zp_P zt_tf zt_fd X d zm_49 30 [] [] h Q := by
  refine zz_J.c 31 (.int (-1)) rfl rfl rfl rfl ?_
  exact zz_J.weak (k hR) rfl trivial
theorem cb_49_31 {X : Nat → Option zz_C} {h : zz_H} {t : cS} {s : mS} {d : Nat} {Q : zz_O → zz_H → Prop} {y0 : Int32} (hR : kR h t s) (k : ∀ {h : zz_H}, kR h t s → Q (.inl (some (.int y0))) h) : zz_J zp_P zt_tf zt_fd X d zm_49 31 [] [.int y0] h Q := by
  refine zz_J.ret rfl rfl rfl ?_
  exact k hR
def cf_49_31 (N : Nat) (X : Nat → Option zz_C) (y0 : Int32) (t : cS) : kO := some (t, .inl (some (.int y0)))
theorem cr_49_31 {X : Nat → Option zz_C} {s : mS} {N : Nat} {d : Nat} (hd : 0 ≤ d) {Q : zz_O → zz_H → Prop} {y0 : Int32} {h : zz_H} {t t' : cS} {o : kY} (hR : kR h t s) (hf : cf_49_31 N X y0 t = some (t', o)) (k : (∀ h', kR h' t' s → kE o Q h')) : zz_J zp_P zt_tf zt_fd X d zm_49 31 [] [.int y0] h Q := by
  unfold cf_49_31 at hf
  cases hf
  exact cb_49_31 hR  (fun {h} hR => k h hR)
def cf_49_30 (N : Nat) (X : Nat → Option zz_C)  (t : cS) : kO := cf_49_31 N X (-1) t
theorem cr_49_30 {X : Nat → Option zz_C} {s : mS} {N : Nat} {d : Nat} (hd : 0 ≤ d) {Q : zz_O → zz_H → Prop}  {h : zz_H} {t t' : cS} {o : kY} (hR : kR h t s) (hf : cf_49_30 N X  t = some (t', o)) (k : (∀ h', kR h' t' s → kE o Q h')) : zz_J zp_P zt_tf zt_fd X d zm_49 30 [] [] h Q := by
  unfold cf_49_30 at hf
  exact cb_49_30 hR  (fun hR => cr_49_31 hd hR hf k)
def cf_49_21 (N : Nat) (X : Nat → Option zz_C) (x1 : Int32) (t : cS) : kO := if ¬ (x1 < 0 ∨ (kA t 46).1 ≤ (Int32.toNatClampNeg x1)) then (cf_49_31 N X ((kA t 46).2 (Int32.toNatClampNeg x1)) t) else none
theorem cr_49_21 {X : Nat → Option zz_C} {s : mS} {N : Nat} {d : Nat} (hd : 0 ≤ d) {Q : zz_O → zz_H → Prop} {x1 : Int32} {h : zz_H} {t t' : cS} {o : kY} (hR : kR h t s) (hf : cf_49_21 N X x1 t = some (t', o)) (k : (∀ h', kR h' t' s → kE o Q h')) : zz_J zp_P zt_tf zt_fd X d zm_49 21 [(0, .ref 45), (1, .int x1)] [] h Q := by
  unfold cf_49_21 at hf
  obtain ⟨e0, hf⟩ := ko_if hf
  exact cb_49_21 hR e0 (fun hR => cr_49_31 hd hR hf k)
def cf_49_12 (N : Nat) (X : Nat → Option zz_C) (x1 : Int32) (t : cS) : kO := if (Int32.ofNat (kA t 46).1) ≤ x1 then cf_49_30 N X  t else cf_49_21 N X x1 t
theorem cr_49_12 {X : Nat → Option zz_C} {s : mS} {N : Nat} {d : Nat} (hd : 0 ≤ d) {Q : zz_O → zz_H → Prop} {x1 : Int32} {h : zz_H} {t t' : cS} {o : kY} (hR : kR h t s) (hf : cf_49_12 N X x1 t = some (t', o)) (k : (∀ h', kR h' t' s → kE o Q h')) : zz_J zp_P zt_tf zt_fd X d zm_49 12 [(0, .ref 45), (1, .int x1)] [] h Q := by
  unfold cf_49_12 at hf
  refine cb_49_12 hR  (fun c {h} hR => ?_) (fun c {h} hR => ?_)
  · rw [if_pos c] at hf
    exact cr_49_30 hd hR hf k
  · rw [if_neg c] at hf
    exact cr_49_21 hd hR hf k
def cf_49_4 (N : Nat) (X : Nat → Option zz_C) (x1 : Int32) (t : cS) : kO := if (kI t 45 1) ≤ x1 then cf_49_30 N X  t else cf_49_12 N X x1 t
theorem cr_49_4 {X : Nat → Option zz_C} {s : mS} {N : Nat} {d : Nat} (hd : 0 ≤ d) {Q : zz_O → zz_H → Prop} {x1 : Int32} {h : zz_H} {t t' : cS} {o : kY} (hR : kR h t s) (hf : cf_49_4 N X x1 t = some (t', o)) (k : (∀ h', kR h' t' s → kE o Q h')) : zz_J zp_P zt_tf zt_fd X d zm_49 4 [(0, .ref 45), (1, .int x1)] [] h Q := by
  unfold cf_49_4 at hf
  refine cb_49_4 hR  (fun c {h} hR => ?_) (fun c {h} hR => ?_)
  · rw [if_pos c] at hf
    exact cr_49_30 hd hR hf k
  · rw [if_neg c] at hf
    exact cr_49_12 hd hR hf k
def cf_49_0 (N : Nat) (X : Nat → Option zz_C) (x1 : Int32) (t : cS) : kO := if x1 < 0 then cf_49_30 N X  t else cf_49_4 N X x1 t
theorem cr_49_0 {X : Nat → Option zz_C} {s : mS} {N : Nat} {d : Nat} (hd : 0 ≤ d) {Q : zz_O → zz_H → Prop} {x1 : Int32} {h : zz_H} {t t' : cS} {o : kY} (hR : kR h t s) (hf : cf_49_0 N X x1 t = some (t', o)) (k : (∀ h', kR h' t' s → kE o Q h')) : zz_J zp_P zt_tf zt_fd X d zm_49 0 [(0, .ref 45), (1, .int x1)] [] h Q := by
  unfold cf_49_0 at hf
  refine cb_49_0 hR  (fun c {h} hR => ?_) (fun c {h} hR => ?_)
  · rw [if_pos c] at hf
    exact cr_49_30 hd hR hf k
  · rw [if_neg c] at hf
    exact cr_49_4 hd hR hf k
/-- byteAt -/
def cf_49 (N : Nat) (X : Nat → Option zz_C) (x1 : Int32) (t : cS) : kO := cf_49_0 N X x1 t
theorem cr_49 {X : Nat → Option zz_C} {s : mS} {N : Nat} {d : Nat} (hd : 0 ≤ d) {Q : zz_O → zz_H → Prop} {x1 : Int32} {h : zz_H} {t t' : cS} {o : kY} (hR : kR h t s) (hf : cf_49 N X x1 t = some (t', o)) (k : ∀ h', kR h' t' s → kE o Q h') : zz_J zp_P zt_tf zt_fd X d zm_49 0 [(0, .ref 45), (1, .int x1)] [] h Q := by
  unfold cf_49 at hf
  exact zz_J.weak (cr_49_0 hd hR hf k) rfl ⟨rfl, rfl, trivial⟩
/-! yX12_out (I)I -/
theorem cb_8_0 {X : Nat → Option zz_C} {h : zz_H} {t : cS} {s : mS} {d : Nat} {Q : zz_O → zz_H → Prop} {x1 : Int32} (hR : kR h t s) (k : ∀ {h : zz_H}, kR h t s → zz_J zp_P zt_tf zt_fd X d zm_49 0 [(0, .ref 45), (1, .int x1)] [] h (zz_after 4 Q (fun v h' => zz_J zp_P zt_tf zt_fd X (d + 1) zm_8 8 [] (v.toList ++ []) h' Q))) : zz_J zp_P zt_tf zt_fd X (d + 1) zm_8 0 [(0, .ref 0), (1, .int x1)] [] h Q := by
  refine zz_J.n 1 rfl rfl rfl ?_
  refine zz_J.g 4 rfl (hR.gv (v := .ref 45) ko_0 (by decide) rfl) rfl ?_
  refine zz_J.n 5 rfl rfl rfl ?_
  refine zz_J.cv 8 (as := []) rfl rfl (hR.clO ko_45 (by decide) (by decide)) (by decide) (Nat.le_of_ble_eq_true rfl) (Nat.le_of_ble_eq_true rfl) rfl (Nat.le_of_ble_eq_true rfl) rfl ?_
  refine zz_J.mono (k hR) ?_
  intro o h' hE
  cases o with
  | inl v => exact zz_J.weak hE rfl trivial
  | inr q => exact hE
theorem cb_8_8 {X : Nat → Option zz_C} {h : zz_H} {t : cS} {s : mS} {d : Nat} {Q : zz_O → zz_H → Prop} {y0 : Int32} (hR : kR h t s) (k : ∀ {h : zz_H}, kR h t s → Q (.inl (some (.int y0))) h) : zz_J zp_P zt_tf zt_fd X d zm_8 8 [] [.int y0] h Q := by
  refine zz_J.ret rfl rfl rfl ?_
  exact k hR
def cf_8_8 (N : Nat) (X : Nat → Option zz_C) (y0 : Int32) (t : cS) : kO := some (t, .inl (some (.int y0)))
theorem cr_8_8 {X : Nat → Option zz_C} {s : mS} {N : Nat} {d : Nat} (hd : 1 ≤ d) {Q : zz_O → zz_H → Prop} {y0 : Int32} {h : zz_H} {t t' : cS} {o : kY} (hR : kR h t s) (hf : cf_8_8 N X y0 t = some (t', o)) (k : (∀ h', kR h' t' s → kE o Q h')) : zz_J zp_P zt_tf zt_fd X d zm_8 8 [] [.int y0] h Q := by
  unfold cf_8_8 at hf
  cases hf
  exact cb_8_8 hR  (fun {h} hR => k h hR)
def cf_8_0 (N : Nat) (X : Nat → Option zz_C) (x1 : Int32) (t : cS) : kO := ko_call 4 (cf_49 N X x1 t) (fun g1 v1 => co_i v1 (fun y => cf_8_8 N X y g1))
theorem cr_8_0 {X : Nat → Option zz_C} {s : mS} {N : Nat} {d : Nat} (hd : 1 ≤ d) {Q : zz_O → zz_H → Prop} {x1 : Int32} {h : zz_H} {t t' : cS} {o : kY} (hR : kR h t s) (hf : cf_8_0 N X x1 t = some (t', o)) (k : (∀ h', kR h' t' s → kE o Q h')) : zz_J zp_P zt_tf zt_fd X d zm_8 0 [(0, .ref 0), (1, .int x1)] [] h Q := by
  unfold cf_8_0 at hf
  obtain ⟨d', rfl⟩ : ∃ d', d = d' + 1 := ⟨d - 1, by omega⟩
  refine cb_8_0 hR  (fun {h} hR => ?_)
  rcases ko_call_ok hf with ⟨g1, v1, er, hf⟩ | ⟨g1, er, hq⟩
  · obtain ⟨y, hv, hf2⟩ := co_i_ok hf
    clear hf
    have hf := hf2
    clear hf2
    subst hv
    refine cr_49 (by omega) hR er (fun h hR => ?_)
    exact cr_8_8 hd hR hf k
  · refine cr_49 (by omega) hR er (fun h hR => ?_)
    exact ko_thrown hq hR k
/-- out -/
def cf_8 (N : Nat) (X : Nat → Option zz_C) (x1 : Int32) (t : cS) : kO := cf_8_0 N X x1 t
theorem cr_8 {X : Nat → Option zz_C} {s : mS} {N : Nat} {d : Nat} (hd : 1 ≤ d) {Q : zz_O → zz_H → Prop} {x1 : Int32} {h : zz_H} {t t' : cS} {o : kY} (hR : kR h t s) (hf : cf_8 N X x1 t = some (t', o)) (k : ∀ h', kR h' t' s → kE o Q h') : zz_J zp_P zt_tf zt_fd X d zm_8 0 [(0, .ref 0), (1, .int x1)] [] h Q := by
  unfold cf_8 at hf
  exact zz_J.weak (cr_8_0 hd hR hf k) rfl ⟨rfl, rfl, trivial⟩
/-! yX4_total ()I -/
theorem cb_50_0 {X : Nat → Option zz_C} {h : zz_H} {t : cS} {s : mS} {d : Nat} {Q : zz_O → zz_H → Prop}  (hR : kR h t s) (k : ∀ {h : zz_H}, kR h t s → Q (.inl (some (.int (kI t 45 1)))) h) : zz_J zp_P zt_tf zt_fd X d zm_50 0 [(0, .ref 45)] [] h Q := by
  refine zz_J.n 1 rfl rfl rfl ?_
  refine zz_J.g 4 rfl (hR.gv (v := .int (kI t 45 1)) ko_45 (by decide) rfl) rfl ?_
  refine zz_J.ret rfl rfl rfl ?_
  exact k hR
def cf_50_0 (N : Nat) (X : Nat → Option zz_C)  (t : cS) : kO := some (t, .inl (some (.int (kI t 45 1))))
theorem cr_50_0 {X : Nat → Option zz_C} {s : mS} {N : Nat} {d : Nat} (hd : 0 ≤ d) {Q : zz_O → zz_H → Prop}  {h : zz_H} {t t' : cS} {o : kY} (hR : kR h t s) (hf : cf_50_0 N X  t = some (t', o)) (k : (∀ h', kR h' t' s → kE o Q h')) : zz_J zp_P zt_tf zt_fd X d zm_50 0 [(0, .ref 45)] [] h Q := by
  unfold cf_50_0 at hf
  cases hf
  exact cb_50_0 hR  (fun {h} hR => k h hR)
/-- total -/
def cf_50 (N : Nat) (X : Nat → Option zz_C)  (t : cS) : kO := cf_50_0 N X  t
theorem cr_50 {X : Nat → Option zz_C} {s : mS} {N : Nat} {d : Nat} (hd : 0 ≤ d) {Q : zz_O → zz_H → Prop}  {h : zz_H} {t t' : cS} {o : kY} (hR : kR h t s) (hf : cf_50 N X  t = some (t', o)) (k : ∀ h', kR h' t' s → kE o Q h') : zz_J zp_P zt_tf zt_fd X d zm_50 0 [(0, .ref 45)] [] h Q := by
  unfold cf_50 at hf
  exact zz_J.weak (cr_50_0 hd hR hf k) rfl ⟨rfl, trivial⟩
/-! yX12_outs ()I -/
theorem cb_9_0 {X : Nat → Option zz_C} {h : zz_H} {t : cS} {s : mS} {d : Nat} {Q : zz_O → zz_H → Prop}  (hR : kR h t s) (k : ∀ {h : zz_H}, kR h t s → zz_J zp_P zt_tf zt_fd X d zm_50 0 [(0, .ref 45)] [] h (zz_after 4 Q (fun v h' => zz_J zp_P zt_tf zt_fd X (d + 1) zm_9 7 [] (v.toList ++ []) h' Q))) : zz_J zp_P zt_tf zt_fd X (d + 1) zm_9 0 [(0, .ref 0)] [] h Q := by
  refine zz_J.n 1 rfl rfl rfl ?_
  refine zz_J.g 4 rfl (hR.gv (v := .ref 45) ko_0 (by decide) rfl) rfl ?_
  refine zz_J.cv 7 (as := []) rfl rfl (hR.clO ko_45 (by decide) (by decide)) (by decide) (Nat.le_of_ble_eq_true rfl) (Nat.le_of_ble_eq_true rfl) rfl (Nat.le_of_ble_eq_true rfl) rfl ?_
  refine zz_J.mono (k hR) ?_
  intro o h' hE
  cases o with
  | inl v => exact zz_J.weak hE rfl trivial
  | inr q => exact hE
theorem cb_9_7 {X : Nat → Option zz_C} {h : zz_H} {t : cS} {s : mS} {d : Nat} {Q : zz_O → zz_H → Prop} {y0 : Int32} (hR : kR h t s) (k : ∀ {h : zz_H}, kR h t s → Q (.inl (some (.int y0))) h) : zz_J zp_P zt_tf zt_fd X d zm_9 7 [] [.int y0] h Q := by
  refine zz_J.ret rfl rfl rfl ?_
  exact k hR
def cf_9_7 (N : Nat) (X : Nat → Option zz_C) (y0 : Int32) (t : cS) : kO := some (t, .inl (some (.int y0)))
theorem cr_9_7 {X : Nat → Option zz_C} {s : mS} {N : Nat} {d : Nat} (hd : 1 ≤ d) {Q : zz_O → zz_H → Prop} {y0 : Int32} {h : zz_H} {t t' : cS} {o : kY} (hR : kR h t s) (hf : cf_9_7 N X y0 t = some (t', o)) (k : (∀ h', kR h' t' s → kE o Q h')) : zz_J zp_P zt_tf zt_fd X d zm_9 7 [] [.int y0] h Q := by
  unfold cf_9_7 at hf
  cases hf
  exact cb_9_7 hR  (fun {h} hR => k h hR)
def cf_9_0 (N : Nat) (X : Nat → Option zz_C)  (t : cS) : kO := ko_call 4 (cf_50 N X  t) (fun g1 v1 => co_i v1 (fun y => cf_9_7 N X y g1))
theorem cr_9_0 {X : Nat → Option zz_C} {s : mS} {N : Nat} {d : Nat} (hd : 1 ≤ d) {Q : zz_O → zz_H → Prop}  {h : zz_H} {t t' : cS} {o : kY} (hR : kR h t s) (hf : cf_9_0 N X  t = some (t', o)) (k : (∀ h', kR h' t' s → kE o Q h')) : zz_J zp_P zt_tf zt_fd X d zm_9 0 [(0, .ref 0)] [] h Q := by
  unfold cf_9_0 at hf
  obtain ⟨d', rfl⟩ : ∃ d', d = d' + 1 := ⟨d - 1, by omega⟩
  refine cb_9_0 hR  (fun {h} hR => ?_)
  rcases ko_call_ok hf with ⟨g1, v1, er, hf⟩ | ⟨g1, er, hq⟩
  · obtain ⟨y, hv, hf2⟩ := co_i_ok hf
    clear hf
    have hf := hf2
    clear hf2
    subst hv
    refine cr_50 (by omega) hR er (fun h hR => ?_)
    exact cr_9_7 hd hR hf k
  · refine cr_50 (by omega) hR er (fun h hR => ?_)
    exact ko_thrown hq hR k
/-- outs -/
def cf_9 (N : Nat) (X : Nat → Option zz_C)  (t : cS) : kO := cf_9_0 N X  t
theorem cr_9 {X : Nat → Option zz_C} {s : mS} {N : Nat} {d : Nat} (hd : 1 ≤ d) {Q : zz_O → zz_H → Prop}  {h : zz_H} {t t' : cS} {o : kY} (hR : kR h t s) (hf : cf_9 N X  t = some (t', o)) (k : ∀ h', kR h' t' s → kE o Q h') : zz_J zp_P zt_tf zt_fd X d zm_9 0 [(0, .ref 0)] [] h Q := by
  unfold cf_9 at hf
  exact zz_J.weak (cr_9_0 hd hR hf k) rfl ⟨rfl, trivial⟩
/-! yX7_kindOn (I)I -/
theorem cb_23_0 {X : Nat → Option zz_C} {h : zz_H} {t : cS} {s : mS} {d : Nat} {Q : zz_O → zz_H → Prop} {x0 : Nat} {x1 : Int32} (hR : kR h t s) (e0 : kH t x0 = true) (e1 : ¬ (x1 < 0 ∨ (kA t (2000000 + 20 * x0 + 10)).1 ≤ (Int32.toNatClampNeg x1))) (k1 : ¬ ((kA t (2000000 + 20 * x0 + 10)).2 (Int32.toNatClampNeg x1)) = 0 → (∀ {h : zz_H}, kR h t s → zz_J zp_P zt_tf zt_fd X d zm_23 13 [(0, .ref x0), (1, .int x1)] [] h Q)) (k2 : ¬ ¬ ((kA t (2000000 + 20 * x0 + 10)).2 (Int32.toNatClampNeg x1)) = 0 → (∀ {h : zz_H}, kR h t s → zz_J zp_P zt_tf zt_fd X d zm_23 9 [] [] h Q)) : zz_J zp_P zt_tf zt_fd X d zm_23 0 [(0, .ref x0), (1, .int x1)] [] h Q := by
  refine zz_J.n 1 rfl rfl rfl ?_
  refine zz_J.g 4 rfl (hR.gvS (v := .ref (kD t (2000000 + 20 * x0 + 10))) e0 rfl) rfl ?_
  refine zz_J.n 5 rfl rfl rfl ?_
  refine zz_J.ai 6 rfl (hR.ai (w := ((kA t (2000000 + 20 * x0 + 10)).2 (Int32.toNatClampNeg x1))) (ka_S10 e0) rfl e1 rfl) rfl ?_
  refine zz_J.b1 13 9 (A := ¬ ((kA t (2000000 + 20 * x0 + 10)).2 (Int32.toNatClampNeg x1)) = 0) rfl (zz_cond_ne _ _) (by decide) rfl rfl (fun c => ?_) (fun c => ?_)
  · exact zz_J.weak (k1 c hR) rfl ⟨rfl, rfl, trivial⟩
  · exact zz_J.weak (k2 c hR) rfl trivial
theorem cb_23_9 {X : Nat → Option zz_C} {h : zz_H} {t : cS} {s : mS} {d : Nat} {Q : zz_O → zz_H → Prop}  (hR : kR h t s) (k : ∀ {h : zz_H}, kR h t s → zz_J zp_P zt_tf zt_fd X d zm_23 21 [] [.int (-1)] h Q) : zz_J zp_P zt_tf zt_fd X d zm_23 9 [] [] h Q := by
  refine zz_J.c 10 (.int (-1)) rfl rfl rfl rfl ?_
  refine zz_J.n 21 rfl rfl rfl ?_
  exact zz_J.weak (k hR) rfl trivial
theorem cb_23_13 {X : Nat → Option zz_C} {h : zz_H} {t : cS} {s : mS} {d : Nat} {Q : zz_O → zz_H → Prop} {x0 : Nat} {x1 : Int32} (hR : kR h t s) (e0 : kH t x0 = true) (e1 : ¬ (x1 < 0 ∨ 8 ≤ (Int32.toNatClampNeg x1))) (e2 : ¬ ((0 : Int32) < 0 ∨ (kA t (2000000 + 20 * x0 + 1 + 1 + (Int32.toNatClampNeg x1))).1 ≤ (Int32.toNatClampNeg (0 : Int32)))) (k : ∀ {h : zz_H}, kR h t s → zz_J zp_P zt_tf zt_fd X d zm_23 21 [] [.int ((kA t (2000000 + 20 * x0 + 1 + 1 + (Int32.toNatClampNeg x1))).2 (Int32.toNatClampNeg (0 : Int32)))] h Q) : zz_J zp_P zt_tf zt_fd X d zm_23 13 [(0, .ref x0), (1, .int x1)] [] h Q := by
  refine zz_J.n 14 rfl rfl rfl ?_
  refine zz_J.g 17 rfl (hR.gvS (v := .ref (kD t (2000000 + 20 * x0 + 1))) e0 rfl) rfl ?_
  refine zz_J.n 18 rfl rfl rfl ?_
  refine zz_J.ar 19 rfl (hR.arS e0 e1) rfl ?_
  refine zz_J.c 20 (.int 0) rfl rfl rfl rfl ?_
  refine zz_J.ai 21 rfl (hR.ai (w := ((kA t (2000000 + 20 * x0 + 1 + 1 + (Int32.toNatClampNeg x1))).2 (Int32.toNatClampNeg (0 : Int32)))) (ka_Sr e0 e1) rfl e2 rfl) rfl ?_
  exact zz_J.weak (k hR) rfl trivial
theorem cb_23_21 {X : Nat → Option zz_C} {h : zz_H} {t : cS} {s : mS} {d : Nat} {Q : zz_O → zz_H → Prop} {y0 : Int32} (hR : kR h t s) (k : ∀ {h : zz_H}, kR h t s → Q (.inl (some (.int y0))) h) : zz_J zp_P zt_tf zt_fd X d zm_23 21 [] [.int y0] h Q := by
  refine zz_J.ret rfl rfl rfl ?_
  exact k hR
def cf_23_21 (N : Nat) (X : Nat → Option zz_C) (y0 : Int32) (t : cS) : kO := some (t, .inl (some (.int y0)))
theorem cr_23_21 {X : Nat → Option zz_C} {s : mS} {N : Nat} {d : Nat} (hd : 0 ≤ d) {Q : zz_O → zz_H → Prop} {y0 : Int32} {h : zz_H} {t t' : cS} {o : kY} (hR : kR h t s) (hf : cf_23_21 N X y0 t = some (t', o)) (k : (∀ h', kR h' t' s → kE o Q h')) : zz_J zp_P zt_tf zt_fd X d zm_23 21 [] [.int y0] h Q := by
  unfold cf_23_21 at hf
  cases hf
  exact cb_23_21 hR  (fun {h} hR => k h hR)
def cf_23_13 (N : Nat) (X : Nat → Option zz_C) (x0 : Nat) (x1 : Int32) (t : cS) : kO := if kH t x0 = true then (if ¬ (x1 < 0 ∨ 8 ≤ (Int32.toNatClampNeg x1)) then (if ¬ ((0 : Int32) < 0 ∨ (kA t (2000000 + 20 * x0 + 1 + 1 + (Int32.toNatClampNeg x1))).1 ≤ (Int32.toNatClampNeg (0 : Int32))) then (cf_23_21 N X ((kA t (2000000 + 20 * x0 + 1 + 1 + (Int32.toNatClampNeg x1))).2 (Int32.toNatClampNeg (0 : Int32))) t) else none) else none) else none
theorem cr_23_13 {X : Nat → Option zz_C} {s : mS} {N : Nat} {d : Nat} (hd : 0 ≤ d) {Q : zz_O → zz_H → Prop} {x0 : Nat} {x1 : Int32} {h : zz_H} {t t' : cS} {o : kY} (hR : kR h t s) (hf : cf_23_13 N X x0 x1 t = some (t', o)) (k : (∀ h', kR h' t' s → kE o Q h')) : zz_J zp_P zt_tf zt_fd X d zm_23 13 [(0, .ref x0), (1, .int x1)] [] h Q := by
  unfold cf_23_13 at hf
  obtain ⟨e0, hf⟩ := ko_if hf
  obtain ⟨e1, hf⟩ := ko_if hf
  obtain ⟨e2, hf⟩ := ko_if hf
  exact cb_23_13 hR e0 e1 e2 (fun hR => cr_23_21 hd hR hf k)
def cf_23_9 (N : Nat) (X : Nat → Option zz_C)  (t : cS) : kO := cf_23_21 N X (-1) t
theorem cr_23_9 {X : Nat → Option zz_C} {s : mS} {N : Nat} {d : Nat} (hd : 0 ≤ d) {Q : zz_O → zz_H → Prop}  {h : zz_H} {t t' : cS} {o : kY} (hR : kR h t s) (hf : cf_23_9 N X  t = some (t', o)) (k : (∀ h', kR h' t' s → kE o Q h')) : zz_J zp_P zt_tf zt_fd X d zm_23 9 [] [] h Q := by
  unfold cf_23_9 at hf
  exact cb_23_9 hR  (fun hR => cr_23_21 hd hR hf k)
def cf_23_0 (N : Nat) (X : Nat → Option zz_C) (x0 : Nat) (x1 : Int32) (t : cS) : kO := if kH t x0 = true then (if ¬ (x1 < 0 ∨ (kA t (2000000 + 20 * x0 + 10)).1 ≤ (Int32.toNatClampNeg x1)) then (if ¬ ((kA t (2000000 + 20 * x0 + 10)).2 (Int32.toNatClampNeg x1)) = 0 then cf_23_13 N X x0 x1 t else cf_23_9 N X  t) else none) else none
theorem cr_23_0 {X : Nat → Option zz_C} {s : mS} {N : Nat} {d : Nat} (hd : 0 ≤ d) {Q : zz_O → zz_H → Prop} {x0 : Nat} {x1 : Int32} {h : zz_H} {t t' : cS} {o : kY} (hR : kR h t s) (hf : cf_23_0 N X x0 x1 t = some (t', o)) (k : (∀ h', kR h' t' s → kE o Q h')) : zz_J zp_P zt_tf zt_fd X d zm_23 0 [(0, .ref x0), (1, .int x1)] [] h Q := by
  unfold cf_23_0 at hf
  obtain ⟨e0, hf⟩ := ko_if hf
  obtain ⟨e1, hf⟩ := ko_if hf
  refine cb_23_0 hR e0 e1 (fun c {h} hR => ?_) (fun c {h} hR => ?_)
  · rw [if_pos c] at hf
    exact cr_23_13 hd hR hf k
  · rw [if_neg c] at hf
    exact cr_23_9 hd hR hf k
/-- kindOn -/
def cf_23 (N : Nat) (X : Nat → Option zz_C) (x0 : Nat) (x1 : Int32) (t : cS) : kO := cf_23_0 N X x0 x1 t
theorem cr_23 {X : Nat → Option zz_C} {s : mS} {N : Nat} {d : Nat} (hd : 0 ≤ d) {Q : zz_O → zz_H → Prop} {x0 : Nat} {x1 : Int32} {h : zz_H} {t t' : cS} {o : kY} (hR : kR h t s) (hf : cf_23 N X x0 x1 t = some (t', o)) (k : ∀ h', kR h' t' s → kE o Q h') : zz_J zp_P zt_tf zt_fd X d zm_23 0 [(0, .ref x0), (1, .int x1)] [] h Q := by
  unfold cf_23 at hf
  exact zz_J.weak (cr_23_0 hd hR hf k) rfl ⟨rfl, rfl, trivial⟩
/-! yX12_lookAt (I)J -/
theorem cb_251_0 {X : Nat → Option zz_C} {h : zz_H} {t : cS} {s : mS} {d : Nat} {Q : zz_O → zz_H → Prop} {x1 : Int32} (hR : kR h t s) (k : ∀ {h : zz_H}, kR h t s → zz_J zp_P zt_tf zt_fd X d zm_120 0 [(0, .ref 42)] [] h (zz_after 2 Q (fun v h' => zz_J zp_P zt_tf zt_fd X (d + 1) zm_251 7 [(0, .ref 0), (1, .int x1)] (v.toList ++ []) h' Q))) : zz_J zp_P zt_tf zt_fd X (d + 1) zm_251 0 [(0, .ref 0), (1, .int x1)] [] h Q := by
  refine zz_J.n 1 rfl rfl rfl ?_
  refine zz_J.g 4 rfl (hR.gv (v := .ref 42) ko_0 (by decide) rfl) rfl ?_
  refine zz_J.cv 7 (as := []) rfl rfl (hR.clO ko_42 (by decide) (by decide)) (by decide) (Nat.le_of_ble_eq_true rfl) (Nat.le_of_ble_eq_true rfl) rfl (Nat.le_of_ble_eq_true rfl) rfl ?_
  refine zz_J.mono (k hR) ?_
  intro o h' hE
  cases o with
  | inl v => exact zz_J.weak hE rfl ⟨rfl, rfl, trivial⟩
  | inr q => exact hE
theorem cb_251_7 {X : Nat → Option zz_C} {h : zz_H} {t : cS} {s : mS} {d : Nat} {Q : zz_O → zz_H → Prop} {x1 : Int32} (hR : kR h t s) {w0 : Nat} (e0 : (kP t 0 7) = some w0) (e1 : kH t w0 = true) (k : ∀ {h : zz_H}, kR h t s → zz_J zp_P zt_tf zt_fd X d zm_215 0 [(0, .ref w0), (1, .int x1), (2, .ref 42)] [] h (zz_after 7 Q (fun v h' => zz_J zp_P zt_tf zt_fd X (d + 1) zm_251 19 [] (v.toList ++ []) h' Q))) : zz_J zp_P zt_tf zt_fd X (d + 1) zm_251 7 [(0, .ref 0), (1, .int x1)] [] h Q := by
  refine zz_J.n 8 rfl rfl rfl ?_
  refine zz_J.g 11 rfl (hR.gv (v := .ref w0) ko_0 (by decide) ((congrArg (fun q => some (zz_rv q)) e0).trans rfl)) rfl ?_
  refine zz_J.n 12 rfl rfl rfl ?_
  refine zz_J.n 13 rfl rfl rfl ?_
  refine zz_J.g 16 rfl (hR.gv (v := .ref 42) ko_0 (by decide) rfl) rfl ?_
  refine zz_J.cv 19 (as := []) rfl rfl (hR.clS e1 (by decide)) (by decide) (Nat.le_of_ble_eq_true rfl) (Nat.le_of_ble_eq_true rfl) rfl (Nat.le_of_ble_eq_true rfl) rfl ?_
  refine zz_J.mono (k hR) ?_
  intro o h' hE
  cases o with
  | inl v => exact zz_J.weak hE rfl trivial
  | inr q => exact hE
theorem cb_251_19 {X : Nat → Option zz_C} {h : zz_H} {t : cS} {s : mS} {d : Nat} {Q : zz_O → zz_H → Prop} {y0 : Int64} (hR : kR h t s) (k : ∀ {h : zz_H}, kR h t s → Q (.inl (some (.long y0))) h) : zz_J zp_P zt_tf zt_fd X d zm_251 19 [] [.long y0] h Q := by
  refine zz_J.ret rfl rfl rfl ?_
  exact k hR
def cf_251_19 (N : Nat) (X : Nat → Option zz_C) (y0 : Int64) (t : cS) : kO := some (t, .inl (some (.long y0)))
theorem cr_251_19 {X : Nat → Option zz_C} {s : mS} {N : Nat} {d : Nat} (hd : 25 ≤ d) {Q : zz_O → zz_H → Prop} {y0 : Int64} {h : zz_H} {t t' : cS} {o : kY} (hR : kR h t s) (hf : cf_251_19 N X y0 t = some (t', o)) (k : (∀ h', kR h' t' s → kE o Q h')) : zz_J zp_P zt_tf zt_fd X d zm_251 19 [] [.long y0] h Q := by
  unfold cf_251_19 at hf
  cases hf
  exact cb_251_19 hR  (fun {h} hR => k h hR)
def cf_251_7 (N : Nat) (X : Nat → Option zz_C) (x1 : Int32) (t : cS) : kO := co_b ((kP t 0 7)) (fun w0 => if kH t w0 = true then (ko_call 7 (cf_215 N X w0 x1 t) (fun g1 v1 => co_l v1 (fun y => cf_251_19 N X y g1))) else none)
theorem cr_251_7 {X : Nat → Option zz_C} {s : mS} {N : Nat} {d : Nat} (hd : 25 ≤ d) {Q : zz_O → zz_H → Prop} {x1 : Int32} {h : zz_H} {t t' : cS} {o : kY} (hR : kR h t s) (hf : cf_251_7 N X x1 t = some (t', o)) (k : (∀ h', kR h' t' s → kE o Q h')) : zz_J zp_P zt_tf zt_fd X d zm_251 7 [(0, .ref 0), (1, .int x1)] [] h Q := by
  unfold cf_251_7 at hf
  obtain ⟨w0, e0, hf⟩ := co_b_ok hf
  obtain ⟨e1, hf⟩ := ko_if hf
  obtain ⟨d', rfl⟩ : ∃ d', d = d' + 1 := ⟨d - 1, by omega⟩
  refine cb_251_7 hR e0 e1 (fun {h} hR => ?_)
  rcases ko_call_ok hf with ⟨g1, v1, er, hf⟩ | ⟨g1, er, hq⟩
  · obtain ⟨y, hv, hf2⟩ := co_l_ok hf
    clear hf
    have hf := hf2
    clear hf2
    subst hv
    refine cr_215 (by omega) hR er (fun h hR => ?_)
    exact cr_251_19 hd hR hf k
  · refine cr_215 (by omega) hR er (fun h hR => ?_)
    exact ko_thrown hq hR k
def cf_251_0 (N : Nat) (X : Nat → Option zz_C) (x1 : Int32) (t : cS) : kO := ko_call 2 (cf_120 N X  t) (fun g1 v1 => co_v v1 (cf_251_7 N X x1 g1))
theorem cr_251_0 {X : Nat → Option zz_C} {s : mS} {N : Nat} {d : Nat} (hd : 25 ≤ d) {Q : zz_O → zz_H → Prop} {x1 : Int32} {h : zz_H} {t t' : cS} {o : kY} (hR : kR h t s) (hf : cf_251_0 N X x1 t = some (t', o)) (k : (∀ h', kR h' t' s → kE o Q h')) : zz_J zp_P zt_tf zt_fd X d zm_251 0 [(0, .ref 0), (1, .int x1)] [] h Q := by
  unfold cf_251_0 at hf
  obtain ⟨d', rfl⟩ : ∃ d', d = d' + 1 := ⟨d - 1, by omega⟩
  refine cb_251_0 hR  (fun {h} hR => ?_)
  rcases ko_call_ok hf with ⟨g1, v1, er, hf⟩ | ⟨g1, er, hq⟩
  · obtain ⟨hv, hf2⟩ := co_v_ok hf
    clear hf
    have hf := hf2
    clear hf2
    subst hv
    refine cr_120 (by omega) hR er (fun h hR => ?_)
    exact cr_251_7 hd hR hf k
  · refine cr_120 (by omega) hR er (fun h hR => ?_)
    exact ko_thrown hq hR k
/-- lookAt -/
def cf_251 (N : Nat) (X : Nat → Option zz_C) (x1 : Int32) (t : cS) : kO := cf_251_0 N X x1 t
theorem cr_251 {X : Nat → Option zz_C} {s : mS} {N : Nat} {d : Nat} (hd : 25 ≤ d) {Q : zz_O → zz_H → Prop} {x1 : Int32} {h : zz_H} {t t' : cS} {o : kY} (hR : kR h t s) (hf : cf_251 N X x1 t = some (t', o)) (k : ∀ h', kR h' t' s → kE o Q h') : zz_J zp_P zt_tf zt_fd X d zm_251 0 [(0, .ref 0), (1, .int x1)] [] h Q := by
  unfold cf_251 at hf
  exact zz_J.weak (cr_251_0 hd hR hf k) rfl ⟨rfl, rfl, trivial⟩
/-! yX12_show (I)I -/
theorem cb_10_0 {X : Nat → Option zz_C} {h : zz_H} {t : cS} {s : mS} {d : Nat} {Q : zz_O → zz_H → Prop} {x1 : Int32} (hR : kR h t s) (k : ∀ {h : zz_H}, kR h t s → zz_J zp_P zt_tf zt_fd X d zm_21 0 [(0, .int x1)] [] h (zz_after 0 Q (fun v h' => zz_J zp_P zt_tf zt_fd X (d + 1) zm_10 4 [(0, .ref 0), (1, .int x1)] (v.toList ++ []) h' Q))) : zz_J zp_P zt_tf zt_fd X (d + 1) zm_10 0 [(0, .ref 0), (1, .int x1)] [] h Q := by
  refine zz_J.n 1 rfl rfl rfl ?_
  refine zz_J.cl (M' := zm_21) 4 rfl rfl (by decide) rfl rfl ⟨rfl, Nat.le_of_ble_eq_true rfl⟩ rfl ?_
  refine zz_J.mono (k hR) ?_
  intro o h' hE
  cases o with
  | inl v => exact zz_J.weak hE rfl ⟨rfl, rfl, trivial⟩
  | inr q => exact hE
theorem cb_10_4 {X : Nat → Option zz_C} {h : zz_H} {t : cS} {s : mS} {d : Nat} {Q : zz_O → zz_H → Prop} {x1 : Int32} {y0 : Int32} (hR : kR h t s) (k1 : y0 = 0 → (∀ {h : zz_H}, kR h t s → zz_J zp_P zt_tf zt_fd X d zm_10 19 [] [] h Q)) (k2 : ¬ y0 = 0 → (∀ {h : zz_H}, kR h t s → zz_J zp_P zt_tf zt_fd X d zm_10 7 [(0, .ref 0), (1, .int x1)] [] h Q)) : zz_J zp_P zt_tf zt_fd X d zm_10 4 [(0, .ref 0), (1, .int x1)] [.int y0] h Q := by
  refine zz_J.b1 19 7 (A := y0 = 0) rfl rfl (by decide) rfl rfl (fun c => ?_) (fun c => ?_)
  · exact zz_J.weak (k1 c hR) rfl trivial
  · exact zz_J.weak (k2 c hR) rfl ⟨rfl, rfl, trivial⟩
theorem cb_10_7 {X : Nat → Option zz_C} {h : zz_H} {t : cS} {s : mS} {d : Nat} {Q : zz_O → zz_H → Prop} {x1 : Int32} (hR : kR h t s) {w0 : Nat} (e0 : (kP t 0 7) = some w0) (e1 : kH t w0 = true) (k : ∀ {h : zz_H}, kR h t s → zz_J zp_P zt_tf zt_fd X d zm_23 0 [(0, .ref w0), (1, .int x1)] [] h (zz_after 7 Q (fun v h' => zz_J zp_P zt_tf zt_fd X (d + 1) zm_10 15 [(0, .ref 0), (1, .int x1)] (v.toList ++ []) h' Q))) : zz_J zp_P zt_tf zt_fd X (d + 1) zm_10 7 [(0, .ref 0), (1, .int x1)] [] h Q := by
  refine zz_J.n 8 rfl rfl rfl ?_
  refine zz_J.g 11 rfl (hR.gv (v := .ref w0) ko_0 (by decide) ((congrArg (fun q => some (zz_rv q)) e0).trans rfl)) rfl ?_
  refine zz_J.n 12 rfl rfl rfl ?_
  refine zz_J.cv 15 (as := []) rfl rfl (hR.clS e1 (by decide)) (by decide) (Nat.le_of_ble_eq_true rfl) (Nat.le_of_ble_eq_true rfl) rfl (Nat.le_of_ble_eq_true rfl) rfl ?_
  refine zz_J.mono (k hR) ?_
  intro o h' hE
  cases o with
  | inl v => exact zz_J.weak hE rfl ⟨rfl, rfl, trivial⟩
  | inr q => exact hE
theorem cb_10_15 {X : Nat → Option zz_C} {h : zz_H} {t : cS} {s : mS} {d : Nat} {Q : zz_O → zz_H → Prop} {x1 : Int32} {y0 : Int32} (hR : kR h t s) (k1 : ¬ y0 = (-1) → (∀ {h : zz_H}, kR h t s → zz_J zp_P zt_tf zt_fd X d zm_10 21 [(0, .ref 0), (1, .int x1)] [] h Q)) (k2 : ¬ ¬ y0 = (-1) → (∀ {h : zz_H}, kR h t s → zz_J zp_P zt_tf zt_fd X d zm_10 19 [] [] h Q)) : zz_J zp_P zt_tf zt_fd X d zm_10 15 [(0, .ref 0), (1, .int x1)] [.int y0] h Q := by
  refine zz_J.c 16 (.int (-1)) rfl rfl rfl rfl ?_
  refine zz_J.b2 21 19 (A := ¬ y0 = (-1)) rfl (zz_cond_ne _ _) (by decide) rfl rfl (fun c => ?_) (fun c => ?_)
  · exact zz_J.weak (k1 c hR) rfl ⟨rfl, rfl, trivial⟩
  · exact zz_J.weak (k2 c hR) rfl trivial
theorem cb_10_19 {X : Nat → Option zz_C} {h : zz_H} {t : cS} {s : mS} {d : Nat} {Q : zz_O → zz_H → Prop}  (hR : kR h t s) (k : ∀ {h : zz_H}, kR h t s → Q (.inl (some (.int (-1)))) h) : zz_J zp_P zt_tf zt_fd X d zm_10 19 [] [] h Q := by
  refine zz_J.c 20 (.int (-1)) rfl rfl rfl rfl ?_
  refine zz_J.ret rfl rfl rfl ?_
  exact k hR
theorem cb_10_21 {X : Nat → Option zz_C} {h : zz_H} {t : cS} {s : mS} {d : Nat} {Q : zz_O → zz_H → Prop} {x1 : Int32} (hR : kR h t s) (k : ∀ {h : zz_H}, kR h t s → zz_J zp_P zt_tf zt_fd X d zm_251 0 [(0, .ref 0), (1, .int x1)] [] h (zz_after 12 Q (fun v h' => zz_J zp_P zt_tf zt_fd X (d + 1) zm_10 26 [(0, .ref 0)] (v.toList ++ []) h' Q))) : zz_J zp_P zt_tf zt_fd X (d + 1) zm_10 21 [(0, .ref 0), (1, .int x1)] [] h Q := by
  refine zz_J.n 22 rfl rfl rfl ?_
  refine zz_J.n 23 rfl rfl rfl ?_
  refine zz_J.cv 26 (as := []) rfl rfl (hR.clO ko_0 (by decide) (by decide)) (by decide) (Nat.le_of_ble_eq_true rfl) (Nat.le_of_ble_eq_true rfl) rfl (Nat.le_of_ble_eq_true rfl) rfl ?_
  refine zz_J.mono (k hR) ?_
  intro o h' hE
  cases o with
  | inl v => exact zz_J.weak hE rfl ⟨rfl, trivial⟩
  | inr q => exact hE
theorem cb_10_26 {X : Nat → Option zz_C} {h : zz_H} {t : cS} {s : mS} {d : Nat} {Q : zz_O → zz_H → Prop} {y0 : Int64} (hR : kR h t s) (k : ∀ {h : zz_H}, kR h t s → zz_J zp_P zt_tf zt_fd X d zm_168 0 [(0, .ref 45)] [] h (zz_after 4 Q (fun v h' => zz_J zp_P zt_tf zt_fd X (d + 1) zm_10 34 [(0, .ref 0), (2, .long y0)] (v.toList ++ []) h' Q))) : zz_J zp_P zt_tf zt_fd X (d + 1) zm_10 26 [(0, .ref 0)] [.long y0] h Q := by
  refine zz_J.n 27 rfl rfl rfl ?_
  refine zz_J.n 28 rfl rfl rfl ?_
  refine zz_J.g 31 rfl (hR.gv (v := .ref 45) ko_0 (by decide) rfl) rfl ?_
  refine zz_J.cv 34 (as := []) rfl rfl (hR.clO ko_45 (by decide) (by decide)) (by decide) (Nat.le_of_ble_eq_true rfl) (Nat.le_of_ble_eq_true rfl) rfl (Nat.le_of_ble_eq_true rfl) rfl ?_
  refine zz_J.mono (k hR) ?_
  intro o h' hE
  cases o with
  | inl v => exact zz_J.weak hE rfl ⟨rfl, rfl, trivial⟩
  | inr q => exact hE
theorem cb_10_34 {X : Nat → Option zz_C} {h : zz_H} {t : cS} {s : mS} {d : Nat} {Q : zz_O → zz_H → Prop} {x2 : Int64} (hR : kR h t s) (k : ∀ {h : zz_H}, kR h t s → zz_J zp_P zt_tf zt_fd X d zm_169 0 [(0, .ref 45), (1, .ref 42), (2, .long x2)] [] h (zz_after 4 Q (fun v h' => zz_J zp_P zt_tf zt_fd X (d + 1) zm_10 46 [(0, .ref 0)] (v.toList ++ []) h' Q))) : zz_J zp_P zt_tf zt_fd X (d + 1) zm_10 34 [(0, .ref 0), (2, .long x2)] [] h Q := by
  refine zz_J.n 35 rfl rfl rfl ?_
  refine zz_J.g 38 rfl (hR.gv (v := .ref 45) ko_0 (by decide) rfl) rfl ?_
  refine zz_J.n 39 rfl rfl rfl ?_
  refine zz_J.g 42 rfl (hR.gv (v := .ref 42) ko_0 (by decide) rfl) rfl ?_
  refine zz_J.n 43 rfl rfl rfl ?_
  refine zz_J.cv 46 (as := []) rfl rfl (hR.clO ko_45 (by decide) (by decide)) (by decide) (Nat.le_of_ble_eq_true rfl) (Nat.le_of_ble_eq_true rfl) rfl (Nat.le_of_ble_eq_true rfl) rfl ?_
  refine zz_J.mono (k hR) ?_
  intro o h' hE
  cases o with
  | inl v => exact zz_J.weak hE rfl ⟨rfl, trivial⟩
  | inr q => exact hE
theorem cb_10_46 {X : Nat → Option zz_C} {h : zz_H} {t : cS} {s : mS} {d : Nat} {Q : zz_O → zz_H → Prop}  (hR : kR h t s) (k : ∀ {h : zz_H}, kR h t s → zz_J zp_P zt_tf zt_fd X d zm_50 0 [(0, .ref 45)] [] h (zz_after 4 Q (fun v h' => zz_J zp_P zt_tf zt_fd X (d + 1) zm_10 53 [] (v.toList ++ []) h' Q))) : zz_J zp_P zt_tf zt_fd X (d + 1) zm_10 46 [(0, .ref 0)] [] h Q := by
  refine zz_J.n 47 rfl rfl rfl ?_
  refine zz_J.g 50 rfl (hR.gv (v := .ref 45) ko_0 (by decide) rfl) rfl ?_
  refine zz_J.cv 53 (as := []) rfl rfl (hR.clO ko_45 (by decide) (by decide)) (by decide) (Nat.le_of_ble_eq_true rfl) (Nat.le_of_ble_eq_true rfl) rfl (Nat.le_of_ble_eq_true rfl) rfl ?_
  refine zz_J.mono (k hR) ?_
  intro o h' hE
  cases o with
  | inl v => exact zz_J.weak hE rfl trivial
  | inr q => exact hE
theorem cb_10_53 {X : Nat → Option zz_C} {h : zz_H} {t : cS} {s : mS} {d : Nat} {Q : zz_O → zz_H → Prop} {y0 : Int32} (hR : kR h t s) (k : ∀ {h : zz_H}, kR h t s → Q (.inl (some (.int y0))) h) : zz_J zp_P zt_tf zt_fd X d zm_10 53 [] [.int y0] h Q := by
  refine zz_J.ret rfl rfl rfl ?_
  exact k hR
def cf_10_19 (N : Nat) (X : Nat → Option zz_C)  (t : cS) : kO := some (t, .inl (some (.int (-1))))
theorem cr_10_19 {X : Nat → Option zz_C} {s : mS} {N : Nat} {d : Nat} (hd : 26 ≤ d) {Q : zz_O → zz_H → Prop}  {h : zz_H} {t t' : cS} {o : kY} (hR : kR h t s) (hf : cf_10_19 N X  t = some (t', o)) (k : (∀ h', kR h' t' s → kE o Q h')) : zz_J zp_P zt_tf zt_fd X d zm_10 19 [] [] h Q := by
  unfold cf_10_19 at hf
  cases hf
  exact cb_10_19 hR  (fun {h} hR => k h hR)
def cf_10_53 (N : Nat) (X : Nat → Option zz_C) (y0 : Int32) (t : cS) : kO := some (t, .inl (some (.int y0)))
theorem cr_10_53 {X : Nat → Option zz_C} {s : mS} {N : Nat} {d : Nat} (hd : 26 ≤ d) {Q : zz_O → zz_H → Prop} {y0 : Int32} {h : zz_H} {t t' : cS} {o : kY} (hR : kR h t s) (hf : cf_10_53 N X y0 t = some (t', o)) (k : (∀ h', kR h' t' s → kE o Q h')) : zz_J zp_P zt_tf zt_fd X d zm_10 53 [] [.int y0] h Q := by
  unfold cf_10_53 at hf
  cases hf
  exact cb_10_53 hR  (fun {h} hR => k h hR)
def cf_10_46 (N : Nat) (X : Nat → Option zz_C)  (t : cS) : kO := ko_call 4 (cf_50 N X  t) (fun g1 v1 => co_i v1 (fun y => cf_10_53 N X y g1))
theorem cr_10_46 {X : Nat → Option zz_C} {s : mS} {N : Nat} {d : Nat} (hd : 26 ≤ d) {Q : zz_O → zz_H → Prop}  {h : zz_H} {t t' : cS} {o : kY} (hR : kR h t s) (hf : cf_10_46 N X  t = some (t', o)) (k : (∀ h', kR h' t' s → kE o Q h')) : zz_J zp_P zt_tf zt_fd X d zm_10 46 [(0, .ref 0)] [] h Q := by
  unfold cf_10_46 at hf
  obtain ⟨d', rfl⟩ : ∃ d', d = d' + 1 := ⟨d - 1, by omega⟩
  refine cb_10_46 hR  (fun {h} hR => ?_)
  rcases ko_call_ok hf with ⟨g1, v1, er, hf⟩ | ⟨g1, er, hq⟩
  · obtain ⟨y, hv, hf2⟩ := co_i_ok hf
    clear hf
    have hf := hf2
    clear hf2
    subst hv
    refine cr_50 (by omega) hR er (fun h hR => ?_)
    exact cr_10_53 hd hR hf k
  · refine cr_50 (by omega) hR er (fun h hR => ?_)
    exact ko_thrown hq hR k
def cf_10_34 (N : Nat) (X : Nat → Option zz_C) (x2 : Int64) (t : cS) : kO := ko_call 4 (cf_169 N X x2 t) (fun g1 v1 => co_v v1 (cf_10_46 N X  g1))
theorem cr_10_34 {X : Nat → Option zz_C} {s : mS} {N : Nat} {d : Nat} (hd : 26 ≤ d) {Q : zz_O → zz_H → Prop} {x2 : Int64} {h : zz_H} {t t' : cS} {o : kY} (hR : kR h t s) (hf : cf_10_34 N X x2 t = some (t', o)) (k : (∀ h', kR h' t' s → kE o Q h')) : zz_J zp_P zt_tf zt_fd X d zm_10 34 [(0, .ref 0), (2, .long x2)] [] h Q := by
  unfold cf_10_34 at hf
  obtain ⟨d', rfl⟩ : ∃ d', d = d' + 1 := ⟨d - 1, by omega⟩
  refine cb_10_34 hR  (fun {h} hR => ?_)
  rcases ko_call_ok hf with ⟨g1, v1, er, hf⟩ | ⟨g1, er, hq⟩
  · obtain ⟨hv, hf2⟩ := co_v_ok hf
    clear hf
    have hf := hf2
    clear hf2
    subst hv
    refine cr_169 (by omega) hR er (fun h hR => ?_)
    exact cr_10_46 hd hR hf k
  · refine cr_169 (by omega) hR er (fun h hR => ?_)
    exact ko_thrown hq hR k
def cf_10_26 (N : Nat) (X : Nat → Option zz_C) (y0 : Int64) (t : cS) : kO := ko_call 4 (cf_168 N X  t) (fun g1 v1 => co_v v1 (cf_10_34 N X y0 g1))
theorem cr_10_26 {X : Nat → Option zz_C} {s : mS} {N : Nat} {d : Nat} (hd : 26 ≤ d) {Q : zz_O → zz_H → Prop} {y0 : Int64} {h : zz_H} {t t' : cS} {o : kY} (hR : kR h t s) (hf : cf_10_26 N X y0 t = some (t', o)) (k : (∀ h', kR h' t' s → kE o Q h')) : zz_J zp_P zt_tf zt_fd X d zm_10 26 [(0, .ref 0)] [.long y0] h Q := by
  unfold cf_10_26 at hf
  obtain ⟨d', rfl⟩ : ∃ d', d = d' + 1 := ⟨d - 1, by omega⟩
  refine cb_10_26 hR  (fun {h} hR => ?_)
  rcases ko_call_ok hf with ⟨g1, v1, er, hf⟩ | ⟨g1, er, hq⟩
  · obtain ⟨hv, hf2⟩ := co_v_ok hf
    clear hf
    have hf := hf2
    clear hf2
    subst hv
    refine cr_168 (by omega) hR er (fun h hR => ?_)
    exact cr_10_34 hd hR hf k
  · refine cr_168 (by omega) hR er (fun h hR => ?_)
    exact ko_thrown hq hR k
def cf_10_21 (N : Nat) (X : Nat → Option zz_C) (x1 : Int32) (t : cS) : kO := ko_call 12 (cf_251 N X x1 t) (fun g1 v1 => co_l v1 (fun y => cf_10_26 N X y g1))
theorem cr_10_21 {X : Nat → Option zz_C} {s : mS} {N : Nat} {d : Nat} (hd : 26 ≤ d) {Q : zz_O → zz_H → Prop} {x1 : Int32} {h : zz_H} {t t' : cS} {o : kY} (hR : kR h t s) (hf : cf_10_21 N X x1 t = some (t', o)) (k : (∀ h', kR h' t' s → kE o Q h')) : zz_J zp_P zt_tf zt_fd X d zm_10 21 [(0, .ref 0), (1, .int x1)] [] h Q := by
  unfold cf_10_21 at hf
  obtain ⟨d', rfl⟩ : ∃ d', d = d' + 1 := ⟨d - 1, by omega⟩
  refine cb_10_21 hR  (fun {h} hR => ?_)
  rcases ko_call_ok hf with ⟨g1, v1, er, hf⟩ | ⟨g1, er, hq⟩
  · obtain ⟨y, hv, hf2⟩ := co_l_ok hf
    clear hf
    have hf := hf2
    clear hf2
    subst hv
    refine cr_251 (by omega) hR er (fun h hR => ?_)
    exact cr_10_26 hd hR hf k
  · refine cr_251 (by omega) hR er (fun h hR => ?_)
    exact ko_thrown hq hR k
def cf_10_15 (N : Nat) (X : Nat → Option zz_C) (x1 : Int32) (y0 : Int32) (t : cS) : kO := if ¬ y0 = (-1) then cf_10_21 N X x1 t else cf_10_19 N X  t
theorem cr_10_15 {X : Nat → Option zz_C} {s : mS} {N : Nat} {d : Nat} (hd : 26 ≤ d) {Q : zz_O → zz_H → Prop} {x1 : Int32} {y0 : Int32} {h : zz_H} {t t' : cS} {o : kY} (hR : kR h t s) (hf : cf_10_15 N X x1 y0 t = some (t', o)) (k : (∀ h', kR h' t' s → kE o Q h')) : zz_J zp_P zt_tf zt_fd X d zm_10 15 [(0, .ref 0), (1, .int x1)] [.int y0] h Q := by
  unfold cf_10_15 at hf
  refine cb_10_15 hR  (fun c {h} hR => ?_) (fun c {h} hR => ?_)
  · rw [if_pos c] at hf
    exact cr_10_21 hd hR hf k
  · rw [if_neg c] at hf
    exact cr_10_19 hd hR hf k
def cf_10_7 (N : Nat) (X : Nat → Option zz_C) (x1 : Int32) (t : cS) : kO := co_b ((kP t 0 7)) (fun w0 => if kH t w0 = true then (ko_call 7 (cf_23 N X w0 x1 t) (fun g1 v1 => co_i v1 (fun y => cf_10_15 N X x1 y g1))) else none)
theorem cr_10_7 {X : Nat → Option zz_C} {s : mS} {N : Nat} {d : Nat} (hd : 26 ≤ d) {Q : zz_O → zz_H → Prop} {x1 : Int32} {h : zz_H} {t t' : cS} {o : kY} (hR : kR h t s) (hf : cf_10_7 N X x1 t = some (t', o)) (k : (∀ h', kR h' t' s → kE o Q h')) : zz_J zp_P zt_tf zt_fd X d zm_10 7 [(0, .ref 0), (1, .int x1)] [] h Q := by
  unfold cf_10_7 at hf
  obtain ⟨w0, e0, hf⟩ := co_b_ok hf
  obtain ⟨e1, hf⟩ := ko_if hf
  obtain ⟨d', rfl⟩ : ∃ d', d = d' + 1 := ⟨d - 1, by omega⟩
  refine cb_10_7 hR e0 e1 (fun {h} hR => ?_)
  rcases ko_call_ok hf with ⟨g1, v1, er, hf⟩ | ⟨g1, er, hq⟩
  · obtain ⟨y, hv, hf2⟩ := co_i_ok hf
    clear hf
    have hf := hf2
    clear hf2
    subst hv
    refine cr_23 (by omega) hR er (fun h hR => ?_)
    exact cr_10_15 hd hR hf k
  · refine cr_23 (by omega) hR er (fun h hR => ?_)
    exact ko_thrown hq hR k
def cf_10_4 (N : Nat) (X : Nat → Option zz_C) (x1 : Int32) (y0 : Int32) (t : cS) : kO := if y0 = 0 then cf_10_19 N X  t else cf_10_7 N X x1 t
theorem cr_10_4 {X : Nat → Option zz_C} {s : mS} {N : Nat} {d : Nat} (hd : 26 ≤ d) {Q : zz_O → zz_H → Prop} {x1 : Int32} {y0 : Int32} {h : zz_H} {t t' : cS} {o : kY} (hR : kR h t s) (hf : cf_10_4 N X x1 y0 t = some (t', o)) (k : (∀ h', kR h' t' s → kE o Q h')) : zz_J zp_P zt_tf zt_fd X d zm_10 4 [(0, .ref 0), (1, .int x1)] [.int y0] h Q := by
  unfold cf_10_4 at hf
  refine cb_10_4 hR  (fun c {h} hR => ?_) (fun c {h} hR => ?_)
  · rw [if_pos c] at hf
    exact cr_10_19 hd hR hf k
  · rw [if_neg c] at hf
    exact cr_10_7 hd hR hf k
def cf_10_0 (N : Nat) (X : Nat → Option zz_C) (x1 : Int32) (t : cS) : kO := ko_call 0 (cf_21 N X x1 t) (fun g1 v1 => co_i v1 (fun y => cf_10_4 N X x1 y g1))
theorem cr_10_0 {X : Nat → Option zz_C} {s : mS} {N : Nat} {d : Nat} (hd : 26 ≤ d) {Q : zz_O → zz_H → Prop} {x1 : Int32} {h : zz_H} {t t' : cS} {o : kY} (hR : kR h t s) (hf : cf_10_0 N X x1 t = some (t', o)) (k : (∀ h', kR h' t' s → kE o Q h')) : zz_J zp_P zt_tf zt_fd X d zm_10 0 [(0, .ref 0), (1, .int x1)] [] h Q := by
  unfold cf_10_0 at hf
  obtain ⟨d', rfl⟩ : ∃ d', d = d' + 1 := ⟨d - 1, by omega⟩
  refine cb_10_0 hR  (fun {h} hR => ?_)
  rcases ko_call_ok hf with ⟨g1, v1, er, hf⟩ | ⟨g1, er, hq⟩
  · obtain ⟨y, hv, hf2⟩ := co_i_ok hf
    clear hf
    have hf := hf2
    clear hf2
    subst hv
    refine cr_21 (by omega) hR er (fun h hR => ?_)
    exact cr_10_4 hd hR hf k
  · refine cr_21 (by omega) hR er (fun h hR => ?_)
    exact ko_thrown hq hR k
/-- show -/
def cf_10 (N : Nat) (X : Nat → Option zz_C) (x1 : Int32) (t : cS) : kO := cf_10_0 N X x1 t
theorem cr_10 {X : Nat → Option zz_C} {s : mS} {N : Nat} {d : Nat} (hd : 26 ≤ d) {Q : zz_O → zz_H → Prop} {x1 : Int32} {h : zz_H} {t t' : cS} {o : kY} (hR : kR h t s) (hf : cf_10 N X x1 t = some (t', o)) (k : ∀ h', kR h' t' s → kE o Q h') : zz_J zp_P zt_tf zt_fd X d zm_10 0 [(0, .ref 0), (1, .int x1)] [] h Q := by
  unfold cf_10 at hf
  exact zz_J.weak (cr_10_0 hd hR hf k) rfl ⟨rfl, rfl, trivial⟩
/-! yX7_layInt (II)V -/
theorem cb_24_0 {X : Nat → Option zz_C} {h : zz_H} {t : cS} {s : mS} {d : Nat} {Q : zz_O → zz_H → Prop} {x0 : Nat} {x1 : Int32} {x2 : Int32} (hR : kR h t s) (e0 : kH t x0 = true) (e1 : ¬ (x1 < 0 ∨ (kA t (2000000 + 20 * x0 + 10)).1 ≤ (Int32.toNatClampNeg x1))) (k : ∀ {h : zz_H}, kR h (jA t (2000000 + 20 * x0 + 10) (upd (kA t (2000000 + 20 * x0 + 10)).2 (Int32.toNatClampNeg x1) 0)) s → zz_J zp_P zt_tf zt_fd X d zm_25 0 [(0, .ref x0), (1, .int x1), (2, .int 0)] [] h (zz_after 7 Q (fun v h' => zz_J zp_P zt_tf zt_fd X (d + 1) zm_24 13 [(0, .ref x0), (1, .int x1), (2, .int x2)] (v.toList ++ []) h' Q))) : zz_J zp_P zt_tf zt_fd X (d + 1) zm_24 0 [(0, .ref x0), (1, .int x1), (2, .int x2)] [] h Q := by
  refine zz_J.n 1 rfl rfl rfl ?_
  refine zz_J.g 4 rfl (hR.gvS (v := .ref (kD t (2000000 + 20 * x0 + 10))) e0 rfl) rfl ?_
  refine zz_J.n 5 rfl rfl rfl ?_
  refine zz_J.c 6 (.int 0) rfl rfl rfl rfl ?_
  obtain ⟨h1, eq1, hR⟩ := hR.si (x := (0 : Int32)) (ka_S10 e0) rfl e1
  refine zz_J.si 7 rfl eq1 rfl ?_
  clear eq1
  refine zz_J.n 8 rfl rfl rfl ?_
  refine zz_J.n 9 rfl rfl rfl ?_
  refine zz_J.c 10 (.int 0) rfl rfl rfl rfl ?_
  refine zz_J.cv 13 (as := []) rfl rfl (hR.clS e0 (by decide)) (by decide) (Nat.le_of_ble_eq_true rfl) (Nat.le_of_ble_eq_true rfl) rfl (Nat.le_of_ble_eq_true rfl) rfl ?_
  refine zz_J.mono (k hR) ?_
  intro o h' hE
  cases o with
  | inl v => exact zz_J.weak hE rfl ⟨rfl, rfl, rfl, trivial⟩
  | inr q => exact hE
theorem cb_24_13 {X : Nat → Option zz_C} {h : zz_H} {t : cS} {s : mS} {d : Nat} {Q : zz_O → zz_H → Prop} {x0 : Nat} {x1 : Int32} {x2 : Int32} (hR : kR h t s) (e0 : kH t x0 = true) (k : ∀ {h : zz_H}, kR h t s → zz_J zp_P zt_tf zt_fd X d zm_25 0 [(0, .ref x0), (1, .int x1), (2, .int x2)] [] h (zz_after 7 Q (fun v h' => zz_J zp_P zt_tf zt_fd X (d + 1) zm_24 19 [] (v.toList ++ []) h' Q))) : zz_J zp_P zt_tf zt_fd X (d + 1) zm_24 13 [(0, .ref x0), (1, .int x1), (2, .int x2)] [] h Q := by
  refine zz_J.n 14 rfl rfl rfl ?_
  refine zz_J.n 15 rfl rfl rfl ?_
  refine zz_J.n 16 rfl rfl rfl ?_
  refine zz_J.cv 19 (as := []) rfl rfl (hR.clS e0 (by decide)) (by decide) (Nat.le_of_ble_eq_true rfl) (Nat.le_of_ble_eq_true rfl) rfl (Nat.le_of_ble_eq_true rfl) rfl ?_
  refine zz_J.mono (k hR) ?_
  intro o h' hE
  cases o with
  | inl v => exact zz_J.weak hE rfl trivial
  | inr q => exact hE
theorem cb_24_19 {X : Nat → Option zz_C} {h : zz_H} {t : cS} {s : mS} {d : Nat} {Q : zz_O → zz_H → Prop}  (hR : kR h t s) (k : ∀ {h : zz_H}, kR h t s → Q (.inl none) h) : zz_J zp_P zt_tf zt_fd X d zm_24 19 [] [] h Q := by
  refine zz_J.ret rfl rfl rfl ?_
  exact k hR
def cf_24_19 (N : Nat) (X : Nat → Option zz_C)  (t : cS) : kO := some (t, .inl none)
theorem cr_24_19 {X : Nat → Option zz_C} {s : mS} {N : Nat} {d : Nat} (hd : 10 ≤ d) {Q : zz_O → zz_H → Prop}  {h : zz_H} {t t' : cS} {o : kY} (hR : kR h t s) (hf : cf_24_19 N X  t = some (t', o)) (k : (∀ h', kR h' t' s → kE o Q h')) : zz_J zp_P zt_tf zt_fd X d zm_24 19 [] [] h Q := by
  unfold cf_24_19 at hf
  cases hf
  exact cb_24_19 hR  (fun {h} hR => k h hR)
def cf_24_13 (N : Nat) (X : Nat → Option zz_C) (x0 : Nat) (x1 : Int32) (x2 : Int32) (t : cS) : kO := if kH t x0 = true then (ko_call 7 (cf_25 N X x0 x1 x2 t) (fun g1 v1 => co_v v1 (cf_24_19 N X  g1))) else none
theorem cr_24_13 {X : Nat → Option zz_C} {s : mS} {N : Nat} {d : Nat} (hd : 10 ≤ d) {Q : zz_O → zz_H → Prop} {x0 : Nat} {x1 : Int32} {x2 : Int32} {h : zz_H} {t t' : cS} {o : kY} (hR : kR h t s) (hf : cf_24_13 N X x0 x1 x2 t = some (t', o)) (k : (∀ h', kR h' t' s → kE o Q h')) : zz_J zp_P zt_tf zt_fd X d zm_24 13 [(0, .ref x0), (1, .int x1), (2, .int x2)] [] h Q := by
  unfold cf_24_13 at hf
  obtain ⟨e0, hf⟩ := ko_if hf
  obtain ⟨d', rfl⟩ : ∃ d', d = d' + 1 := ⟨d - 1, by omega⟩
  refine cb_24_13 hR e0 (fun {h} hR => ?_)
  rcases ko_call_ok hf with ⟨g1, v1, er, hf⟩ | ⟨g1, er, hq⟩
  · obtain ⟨hv, hf2⟩ := co_v_ok hf
    clear hf
    have hf := hf2
    clear hf2
    subst hv
    refine cr_25 (by omega) hR er (fun h hR => ?_)
    exact cr_24_19 hd hR hf k
  · refine cr_25 (by omega) hR er (fun h hR => ?_)
    exact ko_thrown hq hR k
def cf_24_0 (N : Nat) (X : Nat → Option zz_C) (x0 : Nat) (x1 : Int32) (x2 : Int32) (t : cS) : kO := if kH t x0 = true then (if ¬ (x1 < 0 ∨ (kA t (2000000 + 20 * x0 + 10)).1 ≤ (Int32.toNatClampNeg x1)) then (ko_call 7 (cf_25 N X x0 x1 0 (jA t (2000000 + 20 * x0 + 10) (upd (kA t (2000000 + 20 * x0 + 10)).2 (Int32.toNatClampNeg x1) 0))) (fun g1 v1 => co_v v1 (cf_24_13 N X x0 x1 x2 g1))) else none) else none
theorem cr_24_0 {X : Nat → Option zz_C} {s : mS} {N : Nat} {d : Nat} (hd : 10 ≤ d) {Q : zz_O → zz_H → Prop} {x0 : Nat} {x1 : Int32} {x2 : Int32} {h : zz_H} {t t' : cS} {o : kY} (hR : kR h t s) (hf : cf_24_0 N X x0 x1 x2 t = some (t', o)) (k : (∀ h', kR h' t' s → kE o Q h')) : zz_J zp_P zt_tf zt_fd X d zm_24 0 [(0, .ref x0), (1, .int x1), (2, .int x2)] [] h Q := by
  unfold cf_24_0 at hf
  obtain ⟨e0, hf⟩ := ko_if hf
  obtain ⟨e1, hf⟩ := ko_if hf
  obtain ⟨d', rfl⟩ : ∃ d', d = d' + 1 := ⟨d - 1, by omega⟩
  refine cb_24_0 hR e0 e1 (fun {h} hR => ?_)
  rcases ko_call_ok hf with ⟨g1, v1, er, hf⟩ | ⟨g1, er, hq⟩
  · obtain ⟨hv, hf2⟩ := co_v_ok hf
    clear hf
    have hf := hf2
    clear hf2
    subst hv
    refine cr_25 (by omega) hR er (fun h hR => ?_)
    exact cr_24_13 hd hR hf k
  · refine cr_25 (by omega) hR er (fun h hR => ?_)
    exact ko_thrown hq hR k
/-- layInt -/
def cf_24 (N : Nat) (X : Nat → Option zz_C) (x0 : Nat) (x1 : Int32) (x2 : Int32) (t : cS) : kO := cf_24_0 N X x0 x1 x2 t
theorem cr_24 {X : Nat → Option zz_C} {s : mS} {N : Nat} {d : Nat} (hd : 10 ≤ d) {Q : zz_O → zz_H → Prop} {x0 : Nat} {x1 : Int32} {x2 : Int32} {h : zz_H} {t t' : cS} {o : kY} (hR : kR h t s) (hf : cf_24 N X x0 x1 x2 t = some (t', o)) (k : ∀ h', kR h' t' s → kE o Q h') : zz_J zp_P zt_tf zt_fd X d zm_24 0 [(0, .ref x0), (1, .int x1), (2, .int x2)] [] h Q := by
  unfold cf_24 at hf
  exact zz_J.weak (cr_24_0 hd hR hf k) rfl ⟨rfl, rfl, rfl, trivial⟩
/-! yX12_set (II)Z -/
theorem cb_11_0 {X : Nat → Option zz_C} {h : zz_H} {t : cS} {s : mS} {d : Nat} {Q : zz_O → zz_H → Prop} {x1 : Int32} {x2 : Int32} (hR : kR h t s) (k : ∀ {h : zz_H}, kR h t s → zz_J zp_P zt_tf zt_fd X d zm_21 0 [(0, .int x1)] [] h (zz_after 0 Q (fun v h' => zz_J zp_P zt_tf zt_fd X (d + 1) zm_11 4 [(0, .ref 0), (1, .int x1), (2, .int x2)] (v.toList ++ []) h' Q))) : zz_J zp_P zt_tf zt_fd X (d + 1) zm_11 0 [(0, .ref 0), (1, .int x1), (2, .int x2)] [] h Q := by
  refine zz_J.n 1 rfl rfl rfl ?_
  refine zz_J.cl (M' := zm_21) 4 rfl rfl (by decide) rfl rfl ⟨rfl, Nat.le_of_ble_eq_true rfl⟩ rfl ?_
  refine zz_J.mono (k hR) ?_
  intro o h' hE
  cases o with
  | inl v => exact zz_J.weak hE rfl ⟨rfl, rfl, rfl, trivial⟩
  | inr q => exact hE
theorem cb_11_4 {X : Nat → Option zz_C} {h : zz_H} {t : cS} {s : mS} {d : Nat} {Q : zz_O → zz_H → Prop} {x1 : Int32} {x2 : Int32} {y0 : Int32} (hR : kR h t s) (k1 : ¬ y0 = 0 → (∀ {h : zz_H}, kR h t s → zz_J zp_P zt_tf zt_fd X d zm_11 9 [(0, .ref 0), (1, .int x1), (2, .int x2)] [] h Q)) (k2 : ¬ ¬ y0 = 0 → (∀ {h : zz_H}, kR h t s → zz_J zp_P zt_tf zt_fd X d zm_11 7 [] [] h Q)) : zz_J zp_P zt_tf zt_fd X d zm_11 4 [(0, .ref 0), (1, .int x1), (2, .int x2)] [.int y0] h Q := by
  refine zz_J.b1 9 7 (A := ¬ y0 = 0) rfl (zz_cond_ne _ _) (by decide) rfl rfl (fun c => ?_) (fun c => ?_)
  · exact zz_J.weak (k1 c hR) rfl ⟨rfl, rfl, rfl, trivial⟩
  · exact zz_J.weak (k2 c hR) rfl trivial
theorem cb_11_7 {X : Nat → Option zz_C} {h : zz_H} {t : cS} {s : mS} {d : Nat} {Q : zz_O → zz_H → Prop}  (hR : kR h t s) (k : ∀ {h : zz_H}, kR h t s → Q (.inl (some (.int 0))) h) : zz_J zp_P zt_tf zt_fd X d zm_11 7 [] [] h Q := by
  refine zz_J.c 8 (.int 0) rfl rfl rfl rfl ?_
  refine zz_J.ret rfl rfl rfl ?_
  exact k hR
theorem cb_11_9 {X : Nat → Option zz_C} {h : zz_H} {t : cS} {s : mS} {d : Nat} {Q : zz_O → zz_H → Prop} {x1 : Int32} {x2 : Int32} (hR : kR h t s) {w0 : Nat} (e0 : (kP t 0 7) = some w0) (e1 : kH t w0 = true) (k : ∀ {h : zz_H}, kR h t s → zz_J zp_P zt_tf zt_fd X d zm_24 0 [(0, .ref w0), (1, .int x1), (2, .int x2)] [] h (zz_after 7 Q (fun v h' => zz_J zp_P zt_tf zt_fd X (d + 1) zm_11 18 [] (v.toList ++ []) h' Q))) : zz_J zp_P zt_tf zt_fd X (d + 1) zm_11 9 [(0, .ref 0), (1, .int x1), (2, .int x2)] [] h Q := by
  refine zz_J.n 10 rfl rfl rfl ?_
  refine zz_J.g 13 rfl (hR.gv (v := .ref w0) ko_0 (by decide) ((congrArg (fun q => some (zz_rv q)) e0).trans rfl)) rfl ?_
  refine zz_J.n 14 rfl rfl rfl ?_
  refine zz_J.n 15 rfl rfl rfl ?_
  refine zz_J.cv 18 (as := []) rfl rfl (hR.clS e1 (by decide)) (by decide) (Nat.le_of_ble_eq_true rfl) (Nat.le_of_ble_eq_true rfl) rfl (Nat.le_of_ble_eq_true rfl) rfl ?_
  refine zz_J.mono (k hR) ?_
  intro o h' hE
  cases o with
  | inl v => exact zz_J.weak hE rfl trivial
  | inr q => exact hE
theorem cb_11_18 {X : Nat → Option zz_C} {h : zz_H} {t : cS} {s : mS} {d : Nat} {Q : zz_O → zz_H → Prop}  (hR : kR h t s) (k : ∀ {h : zz_H}, kR h t s → Q (.inl (some (.int 1))) h) : zz_J zp_P zt_tf zt_fd X d zm_11 18 [] [] h Q := by
  refine zz_J.c 19 (.int 1) rfl rfl rfl rfl ?_
  refine zz_J.ret rfl rfl rfl ?_
  exact k hR
def cf_11_18 (N : Nat) (X : Nat → Option zz_C)  (t : cS) : kO := some (t, .inl (some (.int 1)))
theorem cr_11_18 {X : Nat → Option zz_C} {s : mS} {N : Nat} {d : Nat} (hd : 11 ≤ d) {Q : zz_O → zz_H → Prop}  {h : zz_H} {t t' : cS} {o : kY} (hR : kR h t s) (hf : cf_11_18 N X  t = some (t', o)) (k : (∀ h', kR h' t' s → kE o Q h')) : zz_J zp_P zt_tf zt_fd X d zm_11 18 [] [] h Q := by
  unfold cf_11_18 at hf
  cases hf
  exact cb_11_18 hR  (fun {h} hR => k h hR)
def cf_11_9 (N : Nat) (X : Nat → Option zz_C) (x1 : Int32) (x2 : Int32) (t : cS) : kO := co_b ((kP t 0 7)) (fun w0 => if kH t w0 = true then (ko_call 7 (cf_24 N X w0 x1 x2 t) (fun g1 v1 => co_v v1 (cf_11_18 N X  g1))) else none)
theorem cr_11_9 {X : Nat → Option zz_C} {s : mS} {N : Nat} {d : Nat} (hd : 11 ≤ d) {Q : zz_O → zz_H → Prop} {x1 : Int32} {x2 : Int32} {h : zz_H} {t t' : cS} {o : kY} (hR : kR h t s) (hf : cf_11_9 N X x1 x2 t = some (t', o)) (k : (∀ h', kR h' t' s → kE o Q h')) : zz_J zp_P zt_tf zt_fd X d zm_11 9 [(0, .ref 0), (1, .int x1), (2, .int x2)] [] h Q := by
  unfold cf_11_9 at hf
  obtain ⟨w0, e0, hf⟩ := co_b_ok hf
  obtain ⟨e1, hf⟩ := ko_if hf
  obtain ⟨d', rfl⟩ : ∃ d', d = d' + 1 := ⟨d - 1, by omega⟩
  refine cb_11_9 hR e0 e1 (fun {h} hR => ?_)
  rcases ko_call_ok hf with ⟨g1, v1, er, hf⟩ | ⟨g1, er, hq⟩
  · obtain ⟨hv, hf2⟩ := co_v_ok hf
    clear hf
    have hf := hf2
    clear hf2
    subst hv
    refine cr_24 (by omega) hR er (fun h hR => ?_)
    exact cr_11_18 hd hR hf k
  · refine cr_24 (by omega) hR er (fun h hR => ?_)
    exact ko_thrown hq hR k
def cf_11_7 (N : Nat) (X : Nat → Option zz_C)  (t : cS) : kO := some (t, .inl (some (.int 0)))
theorem cr_11_7 {X : Nat → Option zz_C} {s : mS} {N : Nat} {d : Nat} (hd : 11 ≤ d) {Q : zz_O → zz_H → Prop}  {h : zz_H} {t t' : cS} {o : kY} (hR : kR h t s) (hf : cf_11_7 N X  t = some (t', o)) (k : (∀ h', kR h' t' s → kE o Q h')) : zz_J zp_P zt_tf zt_fd X d zm_11 7 [] [] h Q := by
  unfold cf_11_7 at hf
  cases hf
  exact cb_11_7 hR  (fun {h} hR => k h hR)
def cf_11_4 (N : Nat) (X : Nat → Option zz_C) (x1 : Int32) (x2 : Int32) (y0 : Int32) (t : cS) : kO := if ¬ y0 = 0 then cf_11_9 N X x1 x2 t else cf_11_7 N X  t
theorem cr_11_4 {X : Nat → Option zz_C} {s : mS} {N : Nat} {d : Nat} (hd : 11 ≤ d) {Q : zz_O → zz_H → Prop} {x1 : Int32} {x2 : Int32} {y0 : Int32} {h : zz_H} {t t' : cS} {o : kY} (hR : kR h t s) (hf : cf_11_4 N X x1 x2 y0 t = some (t', o)) (k : (∀ h', kR h' t' s → kE o Q h')) : zz_J zp_P zt_tf zt_fd X d zm_11 4 [(0, .ref 0), (1, .int x1), (2, .int x2)] [.int y0] h Q := by
  unfold cf_11_4 at hf
  refine cb_11_4 hR  (fun c {h} hR => ?_) (fun c {h} hR => ?_)
  · rw [if_pos c] at hf
    exact cr_11_9 hd hR hf k
  · rw [if_neg c] at hf
    exact cr_11_7 hd hR hf k
def cf_11_0 (N : Nat) (X : Nat → Option zz_C) (x1 : Int32) (x2 : Int32) (t : cS) : kO := ko_call 0 (cf_21 N X x1 t) (fun g1 v1 => co_i v1 (fun y => cf_11_4 N X x1 x2 y g1))
theorem cr_11_0 {X : Nat → Option zz_C} {s : mS} {N : Nat} {d : Nat} (hd : 11 ≤ d) {Q : zz_O → zz_H → Prop} {x1 : Int32} {x2 : Int32} {h : zz_H} {t t' : cS} {o : kY} (hR : kR h t s) (hf : cf_11_0 N X x1 x2 t = some (t', o)) (k : (∀ h', kR h' t' s → kE o Q h')) : zz_J zp_P zt_tf zt_fd X d zm_11 0 [(0, .ref 0), (1, .int x1), (2, .int x2)] [] h Q := by
  unfold cf_11_0 at hf
  obtain ⟨d', rfl⟩ : ∃ d', d = d' + 1 := ⟨d - 1, by omega⟩
  refine cb_11_0 hR  (fun {h} hR => ?_)
  rcases ko_call_ok hf with ⟨g1, v1, er, hf⟩ | ⟨g1, er, hq⟩
  · obtain ⟨y, hv, hf2⟩ := co_i_ok hf
    clear hf
    have hf := hf2
    clear hf2
    subst hv
    refine cr_21 (by omega) hR er (fun h hR => ?_)
    exact cr_11_4 hd hR hf k
  · refine cr_21 (by omega) hR er (fun h hR => ?_)
    exact ko_thrown hq hR k
/-- set -/
def cf_11 (N : Nat) (X : Nat → Option zz_C) (x1 : Int32) (x2 : Int32) (t : cS) : kO := cf_11_0 N X x1 x2 t
theorem cr_11 {X : Nat → Option zz_C} {s : mS} {N : Nat} {d : Nat} (hd : 11 ≤ d) {Q : zz_O → zz_H → Prop} {x1 : Int32} {x2 : Int32} {h : zz_H} {t t' : cS} {o : kY} (hR : kR h t s) (hf : cf_11 N X x1 x2 t = some (t', o)) (k : ∀ h', kR h' t' s → kE o Q h') : zz_J zp_P zt_tf zt_fd X d zm_11 0 [(0, .ref 0), (1, .int x1), (2, .int x2)] [] h Q := by
  unfold cf_11 at hf
  exact zz_J.weak (cr_11_0 hd hR hf k) rfl ⟨rfl, rfl, rfl, trivial⟩
/-! yX7_append (II)Z -/
theorem cb_26_0 {X : Nat → Option zz_C} {h : zz_H} {t : cS} {s : mS} {d : Nat} {Q : zz_O → zz_H → Prop} {x0 : Nat} {x1 : Int32} {x2 : Int32} (hR : kR h t s) (e0 : kH t x0 = true) (k : ∀ {h : zz_H}, kR h t s → zz_J zp_P zt_tf zt_fd X d zm_23 0 [(0, .ref x0), (1, .int x1)] [] h (zz_after 7 Q (fun v h' => zz_J zp_P zt_tf zt_fd X (d + 1) zm_26 5 [(0, .ref x0), (1, .int x1), (2, .int x2)] (v.toList ++ []) h' Q))) : zz_J zp_P zt_tf zt_fd X (d + 1) zm_26 0 [(0, .ref x0), (1, .int x1), (2, .int x2)] [] h Q := by
  refine zz_J.n 1 rfl rfl rfl ?_
  refine zz_J.n 2 rfl rfl rfl ?_
  refine zz_J.cv 5 (as := []) rfl rfl (hR.clS e0 (by decide)) (by decide) (Nat.le_of_ble_eq_true rfl) (Nat.le_of_ble_eq_true rfl) rfl (Nat.le_of_ble_eq_true rfl) rfl ?_
  refine zz_J.mono (k hR) ?_
  intro o h' hE
  cases o with
  | inl v => exact zz_J.weak hE rfl ⟨rfl, rfl, rfl, trivial⟩
  | inr q => exact hE
theorem cb_26_5 {X : Nat → Option zz_C} {h : zz_H} {t : cS} {s : mS} {d : Nat} {Q : zz_O → zz_H → Prop} {x0 : Nat} {x1 : Int32} {x2 : Int32} {y0 : Int32} (hR : kR h t s) (k1 : y0 = 1 → (∀ {h : zz_H}, kR h t s → zz_J zp_P zt_tf zt_fd X d zm_26 28 [(0, .ref x0), (1, .int x1), (2, .int x2)] [] h Q)) (k2 : ¬ y0 = 1 → (∀ {h : zz_H}, kR h t s → zz_J zp_P zt_tf zt_fd X d zm_26 9 [(0, .ref x0), (1, .int x1), (2, .int x2)] [] h Q)) : zz_J zp_P zt_tf zt_fd X d zm_26 5 [(0, .ref x0), (1, .int x1), (2, .int x2)] [.int y0] h Q := by
  refine zz_J.c 6 (.int 1) rfl rfl rfl rfl ?_
  refine zz_J.b2 28 9 (A := y0 = 1) rfl rfl (by decide) rfl rfl (fun c => ?_) (fun c => ?_)
  · exact zz_J.weak (k1 c hR) rfl ⟨rfl, rfl, rfl, trivial⟩
  · exact zz_J.weak (k2 c hR) rfl ⟨rfl, rfl, rfl, trivial⟩
theorem cb_26_9 {X : Nat → Option zz_C} {h : zz_H} {t : cS} {s : mS} {d : Nat} {Q : zz_O → zz_H → Prop} {x0 : Nat} {x1 : Int32} {x2 : Int32} (hR : kR h t s) (e0 : kH t x0 = true) (e1 : ¬ (x1 < 0 ∨ (kA t (2000000 + 20 * x0 + 10)).1 ≤ (Int32.toNatClampNeg x1))) (k : ∀ {h : zz_H}, kR h (jA t (2000000 + 20 * x0 + 10) (upd (kA t (2000000 + 20 * x0 + 10)).2 (Int32.toNatClampNeg x1) 0)) s → zz_J zp_P zt_tf zt_fd X d zm_25 0 [(0, .ref x0), (1, .int x1), (2, .int 1)] [] h (zz_after 7 Q (fun v h' => zz_J zp_P zt_tf zt_fd X (d + 1) zm_26 22 [(0, .ref x0), (1, .int x1), (2, .int x2)] (v.toList ++ []) h' Q))) : zz_J zp_P zt_tf zt_fd X (d + 1) zm_26 9 [(0, .ref x0), (1, .int x1), (2, .int x2)] [] h Q := by
  refine zz_J.n 10 rfl rfl rfl ?_
  refine zz_J.g 13 rfl (hR.gvS (v := .ref (kD t (2000000 + 20 * x0 + 10))) e0 rfl) rfl ?_
  refine zz_J.n 14 rfl rfl rfl ?_
  refine zz_J.c 15 (.int 0) rfl rfl rfl rfl ?_
  obtain ⟨h1, eq1, hR⟩ := hR.si (x := (0 : Int32)) (ka_S10 e0) rfl e1
  refine zz_J.si 16 rfl eq1 rfl ?_
  clear eq1
  refine zz_J.n 17 rfl rfl rfl ?_
  refine zz_J.n 18 rfl rfl rfl ?_
  refine zz_J.c 19 (.int 1) rfl rfl rfl rfl ?_
  refine zz_J.cv 22 (as := []) rfl rfl (hR.clS e0 (by decide)) (by decide) (Nat.le_of_ble_eq_true rfl) (Nat.le_of_ble_eq_true rfl) rfl (Nat.le_of_ble_eq_true rfl) rfl ?_
  refine zz_J.mono (k hR) ?_
  intro o h' hE
  cases o with
  | inl v => exact zz_J.weak hE rfl ⟨rfl, rfl, rfl, trivial⟩
  | inr q => exact hE
theorem cb_26_22 {X : Nat → Option zz_C} {h : zz_H} {t : cS} {s : mS} {d : Nat} {Q : zz_O → zz_H → Prop} {x0 : Nat} {x1 : Int32} {x2 : Int32} (hR : kR h t s) (e0 : kH t x0 = true) (k : ∀ {h : zz_H}, kR h t s → zz_J zp_P zt_tf zt_fd X d zm_25 0 [(0, .ref x0), (1, .int x1), (2, .int 0)] [] h (zz_after 7 Q (fun v h' => zz_J zp_P zt_tf zt_fd X (d + 1) zm_26 28 [(0, .ref x0), (1, .int x1), (2, .int x2)] (v.toList ++ []) h' Q))) : zz_J zp_P zt_tf zt_fd X (d + 1) zm_26 22 [(0, .ref x0), (1, .int x1), (2, .int x2)] [] h Q := by
  refine zz_J.n 23 rfl rfl rfl ?_
  refine zz_J.n 24 rfl rfl rfl ?_
  refine zz_J.c 25 (.int 0) rfl rfl rfl rfl ?_
  refine zz_J.cv 28 (as := []) rfl rfl (hR.clS e0 (by decide)) (by decide) (Nat.le_of_ble_eq_true rfl) (Nat.le_of_ble_eq_true rfl) rfl (Nat.le_of_ble_eq_true rfl) rfl ?_
  refine zz_J.mono (k hR) ?_
  intro o h' hE
  cases o with
  | inl v => exact zz_J.weak hE rfl ⟨rfl, rfl, rfl, trivial⟩
  | inr q => exact hE
theorem cb_26_28 {X : Nat → Option zz_C} {h : zz_H} {t : cS} {s : mS} {d : Nat} {Q : zz_O → zz_H → Prop} {x0 : Nat} {x1 : Int32} {x2 : Int32} (hR : kR h t s) (e0 : kH t x0 = true) (e1 : ¬ (x1 < 0 ∨ 8 ≤ (Int32.toNatClampNeg x1))) (e2 : ¬ ((1 : Int32) < 0 ∨ (kA t (2000000 + 20 * x0 + 1 + 1 + (Int32.toNatClampNeg x1))).1 ≤ (Int32.toNatClampNeg (1 : Int32)))) (k1 : ((kA t (2000000 + 20 * x0 + 1 + 1 + (Int32.toNatClampNeg x1))).2 (Int32.toNatClampNeg (1 : Int32))) < 64 → (∀ {h : zz_H}, kR h t s → zz_J zp_P zt_tf zt_fd X d zm_26 43 [(0, .ref x0), (1, .int x1), (2, .int x2)] [] h Q)) (k2 : ¬ ((kA t (2000000 + 20 * x0 + 1 + 1 + (Int32.toNatClampNeg x1))).2 (Int32.toNatClampNeg (1 : Int32))) < 64 → (∀ {h : zz_H}, kR h t s → zz_J zp_P zt_tf zt_fd X d zm_26 41 [] [] h Q)) : zz_J zp_P zt_tf zt_fd X d zm_26 28 [(0, .ref x0), (1, .int x1), (2, .int x2)] [] h Q := by
  refine zz_J.n 29 rfl rfl rfl ?_
  refine zz_J.g 32 rfl (hR.gvS (v := .ref (kD t (2000000 + 20 * x0 + 1))) e0 rfl) rfl ?_
  refine zz_J.n 33 rfl rfl rfl ?_
  refine zz_J.ar 34 rfl (hR.arS e0 e1) rfl ?_
  refine zz_J.c 35 (.int 1) rfl rfl rfl rfl ?_
  refine zz_J.ai 36 rfl (hR.ai (w := ((kA t (2000000 + 20 * x0 + 1 + 1 + (Int32.toNatClampNeg x1))).2 (Int32.toNatClampNeg (1 : Int32)))) (ka_Sr e0 e1) rfl e2 rfl) rfl ?_
  refine zz_J.c 38 (.int 64) rfl rfl rfl rfl ?_
  refine zz_J.b2 43 41 (A := ((kA t (2000000 + 20 * x0 + 1 + 1 + (Int32.toNatClampNeg x1))).2 (Int32.toNatClampNeg (1 : Int32))) < 64) rfl rfl (by decide) rfl rfl (fun c => ?_) (fun c => ?_)
  · exact zz_J.weak (k1 c hR) rfl ⟨rfl, rfl, rfl, trivial⟩
  · exact zz_J.weak (k2 c hR) rfl trivial
theorem cb_26_41 {X : Nat → Option zz_C} {h : zz_H} {t : cS} {s : mS} {d : Nat} {Q : zz_O → zz_H → Prop}  (hR : kR h t s) (k : ∀ {h : zz_H}, kR h t s → Q (.inl (some (.int 0))) h) : zz_J zp_P zt_tf zt_fd X d zm_26 41 [] [] h Q := by
  refine zz_J.c 42 (.int 0) rfl rfl rfl rfl ?_
  refine zz_J.ret rfl rfl rfl ?_
  exact k hR
theorem cb_26_43 {X : Nat → Option zz_C} {h : zz_H} {t : cS} {s : mS} {d : Nat} {Q : zz_O → zz_H → Prop} {x0 : Nat} {x1 : Int32} {x2 : Int32} (hR : kR h t s) (e0 : kH t x0 = true) (e1 : ¬ (x1 < 0 ∨ 8 ≤ (Int32.toNatClampNeg x1))) (e2 : ¬ ((1 : Int32) < 0 ∨ (kA t (2000000 + 20 * x0 + 1 + 1 + (Int32.toNatClampNeg x1))).1 ≤ (Int32.toNatClampNeg (1 : Int32)))) (k : ∀ {h : zz_H}, kR h (jA t (2000000 + 20 * x0 + 1 + 1 + (Int32.toNatClampNeg x1)) (upd (kA t (2000000 + 20 * x0 + 1 + 1 + (Int32.toNatClampNeg x1))).2 (Int32.toNatClampNeg (1 : Int32)) (((kA t (2000000 + 20 * x0 + 1 + 1 + (Int32.toNatClampNeg x1))).2 (Int32.toNatClampNeg (1 : Int32))) + 1))) s → zz_J zp_P zt_tf zt_fd X d zm_25 0 [(0, .ref x0), (1, .int x1), (2, .int x2)] [] h (zz_after 7 Q (fun v h' => zz_J zp_P zt_tf zt_fd X (d + 1) zm_26 61 [] (v.toList ++ []) h' Q))) : zz_J zp_P zt_tf zt_fd X (d + 1) zm_26 43 [(0, .ref x0), (1, .int x1), (2, .int x2)] [] h Q := by
  refine zz_J.n 44 rfl rfl rfl ?_
  refine zz_J.g 47 rfl (hR.gvS (v := .ref (kD t (2000000 + 20 * x0 + 1))) e0 rfl) rfl ?_
  refine zz_J.n 48 rfl rfl rfl ?_
  refine zz_J.ar 49 rfl (hR.arS e0 e1) rfl ?_
  refine zz_J.c 50 (.int 1) rfl rfl rfl rfl ?_
  refine zz_J.n 51 rfl rfl rfl ?_
  refine zz_J.ai 52 rfl (hR.ai (w := ((kA t (2000000 + 20 * x0 + 1 + 1 + (Int32.toNatClampNeg x1))).2 (Int32.toNatClampNeg (1 : Int32)))) (ka_Sr e0 e1) rfl e2 rfl) rfl ?_
  refine zz_J.c 53 (.int 1) rfl rfl rfl rfl ?_
  refine zz_J.n 54 rfl rfl rfl ?_
  obtain ⟨h1, eq1, hR⟩ := hR.si (x := (((kA t (2000000 + 20 * x0 + 1 + 1 + (Int32.toNatClampNeg x1))).2 (Int32.toNatClampNeg (1 : Int32))) + 1)) (ka_Sr e0 e1) rfl e2
  refine zz_J.si 55 rfl eq1 rfl ?_
  clear eq1
  refine zz_J.n 56 rfl rfl rfl ?_
  refine zz_J.n 57 rfl rfl rfl ?_
  refine zz_J.n 58 rfl rfl rfl ?_
  refine zz_J.cv 61 (as := []) rfl rfl (hR.clS e0 (by decide)) (by decide) (Nat.le_of_ble_eq_true rfl) (Nat.le_of_ble_eq_true rfl) rfl (Nat.le_of_ble_eq_true rfl) rfl ?_
  refine zz_J.mono (k hR) ?_
  intro o h' hE
  cases o with
  | inl v => exact zz_J.weak hE rfl trivial
  | inr q => exact hE
theorem cb_26_61 {X : Nat → Option zz_C} {h : zz_H} {t : cS} {s : mS} {d : Nat} {Q : zz_O → zz_H → Prop}  (hR : kR h t s) (k : ∀ {h : zz_H}, kR h t s → Q (.inl (some (.int 1))) h) : zz_J zp_P zt_tf zt_fd X d zm_26 61 [] [] h Q := by
  refine zz_J.c 62 (.int 1) rfl rfl rfl rfl ?_
  refine zz_J.ret rfl rfl rfl ?_
  exact k hR
def cf_26_61 (N : Nat) (X : Nat → Option zz_C)  (t : cS) : kO := some (t, .inl (some (.int 1)))
theorem cr_26_61 {X : Nat → Option zz_C} {s : mS} {N : Nat} {d : Nat} (hd : 10 ≤ d) {Q : zz_O → zz_H → Prop}  {h : zz_H} {t t' : cS} {o : kY} (hR : kR h t s) (hf : cf_26_61 N X  t = some (t', o)) (k : (∀ h', kR h' t' s → kE o Q h')) : zz_J zp_P zt_tf zt_fd X d zm_26 61 [] [] h Q := by
  unfold cf_26_61 at hf
  cases hf
  exact cb_26_61 hR  (fun {h} hR => k h hR)
def cf_26_43 (N : Nat) (X : Nat → Option zz_C) (x0 : Nat) (x1 : Int32) (x2 : Int32) (t : cS) : kO := if kH t x0 = true then (if ¬ (x1 < 0 ∨ 8 ≤ (Int32.toNatClampNeg x1)) then (if ¬ ((1 : Int32) < 0 ∨ (kA t (2000000 + 20 * x0 + 1 + 1 + (Int32.toNatClampNeg x1))).1 ≤ (Int32.toNatClampNeg (1 : Int32))) then (ko_call 7 (cf_25 N X x0 x1 x2 (jA t (2000000 + 20 * x0 + 1 + 1 + (Int32.toNatClampNeg x1)) (upd (kA t (2000000 + 20 * x0 + 1 + 1 + (Int32.toNatClampNeg x1))).2 (Int32.toNatClampNeg (1 : Int32)) (((kA t (2000000 + 20 * x0 + 1 + 1 + (Int32.toNatClampNeg x1))).2 (Int32.toNatClampNeg (1 : Int32))) + 1)))) (fun g1 v1 => co_v v1 (cf_26_61 N X  g1))) else none) else none) else none
theorem cr_26_43 {X : Nat → Option zz_C} {s : mS} {N : Nat} {d : Nat} (hd : 10 ≤ d) {Q : zz_O → zz_H → Prop} {x0 : Nat} {x1 : Int32} {x2 : Int32} {h : zz_H} {t t' : cS} {o : kY} (hR : kR h t s) (hf : cf_26_43 N X x0 x1 x2 t = some (t', o)) (k : (∀ h', kR h' t' s → kE o Q h')) : zz_J zp_P zt_tf zt_fd X d zm_26 43 [(0, .ref x0), (1, .int x1), (2, .int x2)] [] h Q := by
  unfold cf_26_43 at hf
  obtain ⟨e0, hf⟩ := ko_if hf
  obtain ⟨e1, hf⟩ := ko_if hf
  obtain ⟨e2, hf⟩ := ko_if hf
  obtain ⟨d', rfl⟩ : ∃ d', d = d' + 1 := ⟨d - 1, by omega⟩
  refine cb_26_43 hR e0 e1 e2 (fun {h} hR => ?_)
  rcases ko_call_ok hf with ⟨g1, v1, er, hf⟩ | ⟨g1, er, hq⟩
  · obtain ⟨hv, hf2⟩ := co_v_ok hf
    clear hf
    have hf := hf2
    clear hf2
    subst hv
    refine cr_25 (by omega) hR er (fun h hR => ?_)
    exact cr_26_61 hd hR hf k
  · refine cr_25 (by omega) hR er (fun h hR => ?_)
    exact ko_thrown hq hR k
def cf_26_41 (N : Nat) (X : Nat → Option zz_C)  (t : cS) : kO := some (t, .inl (some (.int 0)))
theorem cr_26_41 {X : Nat → Option zz_C} {s : mS} {N : Nat} {d : Nat} (hd : 10 ≤ d) {Q : zz_O → zz_H → Prop}  {h : zz_H} {t t' : cS} {o : kY} (hR : kR h t s) (hf : cf_26_41 N X  t = some (t', o)) (k : (∀ h', kR h' t' s → kE o Q h')) : zz_J zp_P zt_tf zt_fd X d zm_26 41 [] [] h Q := by
  unfold cf_26_41 at hf
  cases hf
  exact cb_26_41 hR  (fun {h} hR => k h hR)
def cf_26_28 (N : Nat) (X : Nat → Option zz_C) (x0 : Nat) (x1 : Int32) (x2 : Int32) (t : cS) : kO := if kH t x0 = true then (if ¬ (x1 < 0 ∨ 8 ≤ (Int32.toNatClampNeg x1)) then (if ¬ ((1 : Int32) < 0 ∨ (kA t (2000000 + 20 * x0 + 1 + 1 + (Int32.toNatClampNeg x1))).1 ≤ (Int32.toNatClampNeg (1 : Int32))) then (if ((kA t (2000000 + 20 * x0 + 1 + 1 + (Int32.toNatClampNeg x1))).2 (Int32.toNatClampNeg (1 : Int32))) < 64 then cf_26_43 N X x0 x1 x2 t else cf_26_41 N X  t) else none) else none) else none
theorem cr_26_28 {X : Nat → Option zz_C} {s : mS} {N : Nat} {d : Nat} (hd : 10 ≤ d) {Q : zz_O → zz_H → Prop} {x0 : Nat} {x1 : Int32} {x2 : Int32} {h : zz_H} {t t' : cS} {o : kY} (hR : kR h t s) (hf : cf_26_28 N X x0 x1 x2 t = some (t', o)) (k : (∀ h', kR h' t' s → kE o Q h')) : zz_J zp_P zt_tf zt_fd X d zm_26 28 [(0, .ref x0), (1, .int x1), (2, .int x2)] [] h Q := by
  unfold cf_26_28 at hf
  obtain ⟨e0, hf⟩ := ko_if hf
  obtain ⟨e1, hf⟩ := ko_if hf
  obtain ⟨e2, hf⟩ := ko_if hf
  refine cb_26_28 hR e0 e1 e2 (fun c {h} hR => ?_) (fun c {h} hR => ?_)
  · rw [if_pos c] at hf
    exact cr_26_43 hd hR hf k
  · rw [if_neg c] at hf
    exact cr_26_41 hd hR hf k
def cf_26_22 (N : Nat) (X : Nat → Option zz_C) (x0 : Nat) (x1 : Int32) (x2 : Int32) (t : cS) : kO := if kH t x0 = true then (ko_call 7 (cf_25 N X x0 x1 0 t) (fun g1 v1 => co_v v1 (cf_26_28 N X x0 x1 x2 g1))) else none
theorem cr_26_22 {X : Nat → Option zz_C} {s : mS} {N : Nat} {d : Nat} (hd : 10 ≤ d) {Q : zz_O → zz_H → Prop} {x0 : Nat} {x1 : Int32} {x2 : Int32} {h : zz_H} {t t' : cS} {o : kY} (hR : kR h t s) (hf : cf_26_22 N X x0 x1 x2 t = some (t', o)) (k : (∀ h', kR h' t' s → kE o Q h')) : zz_J zp_P zt_tf zt_fd X d zm_26 22 [(0, .ref x0), (1, .int x1), (2, .int x2)] [] h Q := by
  unfold cf_26_22 at hf
  obtain ⟨e0, hf⟩ := ko_if hf
  obtain ⟨d', rfl⟩ : ∃ d', d = d' + 1 := ⟨d - 1, by omega⟩
  refine cb_26_22 hR e0 (fun {h} hR => ?_)
  rcases ko_call_ok hf with ⟨g1, v1, er, hf⟩ | ⟨g1, er, hq⟩
  · obtain ⟨hv, hf2⟩ := co_v_ok hf
    clear hf
    have hf := hf2
    clear hf2
    subst hv
    refine cr_25 (by omega) hR er (fun h hR => ?_)
    exact cr_26_28 hd hR hf k
  · refine cr_25 (by omega) hR er (fun h hR => ?_)
    exact ko_thrown hq hR k
def cf_26_9 (N : Nat) (X : Nat → Option zz_C) (x0 : Nat) (x1 : Int32) (x2 : Int32) (t : cS) : kO := if kH t x0 = true then (if ¬ (x1 < 0 ∨ (kA t (2000000 + 20 * x0 + 10)).1 ≤ (Int32.toNatClampNeg x1)) then (ko_call 7 (cf_25 N X x0 x1 1 (jA t (2000000 + 20 * x0 + 10) (upd (kA t (2000000 + 20 * x0 + 10)).2 (Int32.toNatClampNeg x1) 0))) (fun g1 v1 => co_v v1 (cf_26_22 N X x0 x1 x2 g1))) else none) else none
theorem cr_26_9 {X : Nat → Option zz_C} {s : mS} {N : Nat} {d : Nat} (hd : 10 ≤ d) {Q : zz_O → zz_H → Prop} {x0 : Nat} {x1 : Int32} {x2 : Int32} {h : zz_H} {t t' : cS} {o : kY} (hR : kR h t s) (hf : cf_26_9 N X x0 x1 x2 t = some (t', o)) (k : (∀ h', kR h' t' s → kE o Q h')) : zz_J zp_P zt_tf zt_fd X d zm_26 9 [(0, .ref x0), (1, .int x1), (2, .int x2)] [] h Q := by
  unfold cf_26_9 at hf
  obtain ⟨e0, hf⟩ := ko_if hf
  obtain ⟨e1, hf⟩ := ko_if hf
  obtain ⟨d', rfl⟩ : ∃ d', d = d' + 1 := ⟨d - 1, by omega⟩
  refine cb_26_9 hR e0 e1 (fun {h} hR => ?_)
  rcases ko_call_ok hf with ⟨g1, v1, er, hf⟩ | ⟨g1, er, hq⟩
  · obtain ⟨hv, hf2⟩ := co_v_ok hf
    clear hf
    have hf := hf2
    clear hf2
    subst hv
    refine cr_25 (by omega) hR er (fun h hR => ?_)
    exact cr_26_22 hd hR hf k
  · refine cr_25 (by omega) hR er (fun h hR => ?_)
    exact ko_thrown hq hR k
def cf_26_5 (N : Nat) (X : Nat → Option zz_C) (x0 : Nat) (x1 : Int32) (x2 : Int32) (y0 : Int32) (t : cS) : kO := if y0 = 1 then cf_26_28 N X x0 x1 x2 t else cf_26_9 N X x0 x1 x2 t
theorem cr_26_5 {X : Nat → Option zz_C} {s : mS} {N : Nat} {d : Nat} (hd : 10 ≤ d) {Q : zz_O → zz_H → Prop} {x0 : Nat} {x1 : Int32} {x2 : Int32} {y0 : Int32} {h : zz_H} {t t' : cS} {o : kY} (hR : kR h t s) (hf : cf_26_5 N X x0 x1 x2 y0 t = some (t', o)) (k : (∀ h', kR h' t' s → kE o Q h')) : zz_J zp_P zt_tf zt_fd X d zm_26 5 [(0, .ref x0), (1, .int x1), (2, .int x2)] [.int y0] h Q := by
  unfold cf_26_5 at hf
  refine cb_26_5 hR  (fun c {h} hR => ?_) (fun c {h} hR => ?_)
  · rw [if_pos c] at hf
    exact cr_26_28 hd hR hf k
  · rw [if_neg c] at hf
    exact cr_26_9 hd hR hf k
def cf_26_0 (N : Nat) (X : Nat → Option zz_C) (x0 : Nat) (x1 : Int32) (x2 : Int32) (t : cS) : kO := if kH t x0 = true then (ko_call 7 (cf_23 N X x0 x1 t) (fun g1 v1 => co_i v1 (fun y => cf_26_5 N X x0 x1 x2 y g1))) else none
theorem cr_26_0 {X : Nat → Option zz_C} {s : mS} {N : Nat} {d : Nat} (hd : 10 ≤ d) {Q : zz_O → zz_H → Prop} {x0 : Nat} {x1 : Int32} {x2 : Int32} {h : zz_H} {t t' : cS} {o : kY} (hR : kR h t s) (hf : cf_26_0 N X x0 x1 x2 t = some (t', o)) (k : (∀ h', kR h' t' s → kE o Q h')) : zz_J zp_P zt_tf zt_fd X d zm_26 0 [(0, .ref x0), (1, .int x1), (2, .int x2)] [] h Q := by
  unfold cf_26_0 at hf
  obtain ⟨e0, hf⟩ := ko_if hf
  obtain ⟨d', rfl⟩ : ∃ d', d = d' + 1 := ⟨d - 1, by omega⟩
  refine cb_26_0 hR e0 (fun {h} hR => ?_)
  rcases ko_call_ok hf with ⟨g1, v1, er, hf⟩ | ⟨g1, er, hq⟩
  · obtain ⟨y, hv, hf2⟩ := co_i_ok hf
    clear hf
    have hf := hf2
    clear hf2
    subst hv
    refine cr_23 (by omega) hR er (fun h hR => ?_)
    exact cr_26_5 hd hR hf k
  · refine cr_23 (by omega) hR er (fun h hR => ?_)
    exact ko_thrown hq hR k
/-- append -/
def cf_26 (N : Nat) (X : Nat → Option zz_C) (x0 : Nat) (x1 : Int32) (x2 : Int32) (t : cS) : kO := cf_26_0 N X x0 x1 x2 t
theorem cr_26 {X : Nat → Option zz_C} {s : mS} {N : Nat} {d : Nat} (hd : 10 ≤ d) {Q : zz_O → zz_H → Prop} {x0 : Nat} {x1 : Int32} {x2 : Int32} {h : zz_H} {t t' : cS} {o : kY} (hR : kR h t s) (hf : cf_26 N X x0 x1 x2 t = some (t', o)) (k : ∀ h', kR h' t' s → kE o Q h') : zz_J zp_P zt_tf zt_fd X d zm_26 0 [(0, .ref x0), (1, .int x1), (2, .int x2)] [] h Q := by
  unfold cf_26 at hf
  exact zz_J.weak (cr_26_0 hd hR hf k) rfl ⟨rfl, rfl, rfl, trivial⟩
/-! yX12_add (II)Z -/
theorem cb_12_0 {X : Nat → Option zz_C} {h : zz_H} {t : cS} {s : mS} {d : Nat} {Q : zz_O → zz_H → Prop} {x1 : Int32} {x2 : Int32} (hR : kR h t s) (k : ∀ {h : zz_H}, kR h t s → zz_J zp_P zt_tf zt_fd X d zm_21 0 [(0, .int x1)] [] h (zz_after 0 Q (fun v h' => zz_J zp_P zt_tf zt_fd X (d + 1) zm_12 4 [(0, .ref 0), (1, .int x1), (2, .int x2)] (v.toList ++ []) h' Q))) : zz_J zp_P zt_tf zt_fd X (d + 1) zm_12 0 [(0, .ref 0), (1, .int x1), (2, .int x2)] [] h Q := by
  refine zz_J.n 1 rfl rfl rfl ?_
  refine zz_J.cl (M' := zm_21) 4 rfl rfl (by decide) rfl rfl ⟨rfl, Nat.le_of_ble_eq_true rfl⟩ rfl ?_
  refine zz_J.mono (k hR) ?_
  intro o h' hE
  cases o with
  | inl v => exact zz_J.weak hE rfl ⟨rfl, rfl, rfl, trivial⟩
  | inr q => exact hE
theorem cb_12_4 {X : Nat → Option zz_C} {h : zz_H} {t : cS} {s : mS} {d : Nat} {Q : zz_O → zz_H → Prop} {x1 : Int32} {x2 : Int32} {y0 : Int32} (hR : kR h t s) (k1 : y0 = 0 → (∀ {h : zz_H}, kR h t s → zz_J zp_P zt_tf zt_fd X d zm_12 23 [] [] h Q)) (k2 : ¬ y0 = 0 → (∀ {h : zz_H}, kR h t s → zz_J zp_P zt_tf zt_fd X d zm_12 7 [(0, .ref 0), (1, .int x1), (2, .int x2)] [] h Q)) : zz_J zp_P zt_tf zt_fd X d zm_12 4 [(0, .ref 0), (1, .int x1), (2, .int x2)] [.int y0] h Q := by
  refine zz_J.b1 23 7 (A := y0 = 0) rfl rfl (by decide) rfl rfl (fun c => ?_) (fun c => ?_)
  · exact zz_J.weak (k1 c hR) rfl trivial
  · exact zz_J.weak (k2 c hR) rfl ⟨rfl, rfl, rfl, trivial⟩
theorem cb_12_7 {X : Nat → Option zz_C} {h : zz_H} {t : cS} {s : mS} {d : Nat} {Q : zz_O → zz_H → Prop} {x1 : Int32} {x2 : Int32} (hR : kR h t s) {w0 : Nat} (e0 : (kP t 0 7) = some w0) (e1 : kH t w0 = true) (k : ∀ {h : zz_H}, kR h t s → zz_J zp_P zt_tf zt_fd X d zm_26 0 [(0, .ref w0), (1, .int x1), (2, .int x2)] [] h (zz_after 7 Q (fun v h' => zz_J zp_P zt_tf zt_fd X (d + 1) zm_12 16 [] (v.toList ++ []) h' Q))) : zz_J zp_P zt_tf zt_fd X (d + 1) zm_12 7 [(0, .ref 0), (1, .int x1), (2, .int x2)] [] h Q := by
  refine zz_J.n 8 rfl rfl rfl ?_
  refine zz_J.g 11 rfl (hR.gv (v := .ref w0) ko_0 (by decide) ((congrArg (fun q => some (zz_rv q)) e0).trans rfl)) rfl ?_
  refine zz_J.n 12 rfl rfl rfl ?_
  refine zz_J.n 13 rfl rfl rfl ?_
  refine zz_J.cv 16 (as := []) rfl rfl (hR.clS e1 (by decide)) (by decide) (Nat.le_of_ble_eq_true rfl) (Nat.le_of_ble_eq_true rfl) rfl (Nat.le_of_ble_eq_true rfl) rfl ?_
  refine zz_J.mono (k hR) ?_
  intro o h' hE
  cases o with
  | inl v => exact zz_J.weak hE rfl trivial
  | inr q => exact hE
theorem cb_12_16 {X : Nat → Option zz_C} {h : zz_H} {t : cS} {s : mS} {d : Nat} {Q : zz_O → zz_H → Prop} {y0 : Int32} (hR : kR h t s) (k1 : y0 = 0 → (∀ {h : zz_H}, kR h t s → zz_J zp_P zt_tf zt_fd X d zm_12 23 [] [] h Q)) (k2 : ¬ y0 = 0 → (∀ {h : zz_H}, kR h t s → zz_J zp_P zt_tf zt_fd X d zm_12 19 [] [] h Q)) : zz_J zp_P zt_tf zt_fd X d zm_12 16 [] [.int y0] h Q := by
  refine zz_J.b1 23 19 (A := y0 = 0) rfl rfl (by decide) rfl rfl (fun c => ?_) (fun c => ?_)
  · exact zz_J.weak (k1 c hR) rfl trivial
  · exact zz_J.weak (k2 c hR) rfl trivial
theorem cb_12_19 {X : Nat → Option zz_C} {h : zz_H} {t : cS} {s : mS} {d : Nat} {Q : zz_O → zz_H → Prop}  (hR : kR h t s) (k : ∀ {h : zz_H}, kR h t s → zz_J zp_P zt_tf zt_fd X d zm_12 24 [] [.int 1] h Q) : zz_J zp_P zt_tf zt_fd X d zm_12 19 [] [] h Q := by
  refine zz_J.c 20 (.int 1) rfl rfl rfl rfl ?_
  refine zz_J.n 24 rfl rfl rfl ?_
  exact zz_J.weak (k hR) rfl trivial
theorem cb_12_23 {X : Nat → Option zz_C} {h : zz_H} {t : cS} {s : mS} {d : Nat} {Q : zz_O → zz_H → Prop}  (hR : kR h t s) (k : ∀ {h : zz_H}, kR h t s → zz_J zp_P zt_tf zt_fd X d zm_12 24 [] [.int 0] h Q) : zz_J zp_P zt_tf zt_fd X d zm_12 23 [] [] h Q := by
  refine zz_J.c 24 (.int 0) rfl rfl rfl rfl ?_
  exact zz_J.weak (k hR) rfl trivial
theorem cb_12_24 {X : Nat → Option zz_C} {h : zz_H} {t : cS} {s : mS} {d : Nat} {Q : zz_O → zz_H → Prop} {y0 : Int32} (hR : kR h t s) (k : ∀ {h : zz_H}, kR h t s → Q (.inl (some (.int y0))) h) (rb : zz_reti (some .boolean) y0 = true) : zz_J zp_P zt_tf zt_fd X d zm_12 24 [] [.int y0] h Q := by
  refine zz_J.ret rfl rfl (if_pos ⟨rfl, rb⟩) ?_
  exact k hR
def cf_12_24 (N : Nat) (X : Nat → Option zz_C) (y0 : Int32) (t : cS) : kO := if zz_reti (some .boolean) y0 = true then some (t, .inl (some (.int y0))) else none
theorem cr_12_24 {X : Nat → Option zz_C} {s : mS} {N : Nat} {d : Nat} (hd : 11 ≤ d) {Q : zz_O → zz_H → Prop} {y0 : Int32} {h : zz_H} {t t' : cS} {o : kY} (hR : kR h t s) (hf : cf_12_24 N X y0 t = some (t', o)) (k : (∀ h', kR h' t' s → kE o Q h')) : zz_J zp_P zt_tf zt_fd X d zm_12 24 [] [.int y0] h Q := by
  unfold cf_12_24 at hf
  obtain ⟨rb, hf⟩ := ko_if hf
  cases hf
  exact cb_12_24 hR  (fun {h} hR => k h hR) rb
def cf_12_23 (N : Nat) (X : Nat → Option zz_C)  (t : cS) : kO := cf_12_24 N X 0 t
theorem cr_12_23 {X : Nat → Option zz_C} {s : mS} {N : Nat} {d : Nat} (hd : 11 ≤ d) {Q : zz_O → zz_H → Prop}  {h : zz_H} {t t' : cS} {o : kY} (hR : kR h t s) (hf : cf_12_23 N X  t = some (t', o)) (k : (∀ h', kR h' t' s → kE o Q h')) : zz_J zp_P zt_tf zt_fd X d zm_12 23 [] [] h Q := by
  unfold cf_12_23 at hf
  exact cb_12_23 hR  (fun hR => cr_12_24 hd hR hf k)
def cf_12_19 (N : Nat) (X : Nat → Option zz_C)  (t : cS) : kO := cf_12_24 N X 1 t
theorem cr_12_19 {X : Nat → Option zz_C} {s : mS} {N : Nat} {d : Nat} (hd : 11 ≤ d) {Q : zz_O → zz_H → Prop}  {h : zz_H} {t t' : cS} {o : kY} (hR : kR h t s) (hf : cf_12_19 N X  t = some (t', o)) (k : (∀ h', kR h' t' s → kE o Q h')) : zz_J zp_P zt_tf zt_fd X d zm_12 19 [] [] h Q := by
  unfold cf_12_19 at hf
  exact cb_12_19 hR  (fun hR => cr_12_24 hd hR hf k)
def cf_12_16 (N : Nat) (X : Nat → Option zz_C) (y0 : Int32) (t : cS) : kO := if y0 = 0 then cf_12_23 N X  t else cf_12_19 N X  t
theorem cr_12_16 {X : Nat → Option zz_C} {s : mS} {N : Nat} {d : Nat} (hd : 11 ≤ d) {Q : zz_O → zz_H → Prop} {y0 : Int32} {h : zz_H} {t t' : cS} {o : kY} (hR : kR h t s) (hf : cf_12_16 N X y0 t = some (t', o)) (k : (∀ h', kR h' t' s → kE o Q h')) : zz_J zp_P zt_tf zt_fd X d zm_12 16 [] [.int y0] h Q := by
  unfold cf_12_16 at hf
  refine cb_12_16 hR  (fun c {h} hR => ?_) (fun c {h} hR => ?_)
  · rw [if_pos c] at hf
    exact cr_12_23 hd hR hf k
  · rw [if_neg c] at hf
    exact cr_12_19 hd hR hf k
def cf_12_7 (N : Nat) (X : Nat → Option zz_C) (x1 : Int32) (x2 : Int32) (t : cS) : kO := co_b ((kP t 0 7)) (fun w0 => if kH t w0 = true then (ko_call 7 (cf_26 N X w0 x1 x2 t) (fun g1 v1 => co_i v1 (fun y => cf_12_16 N X y g1))) else none)
theorem cr_12_7 {X : Nat → Option zz_C} {s : mS} {N : Nat} {d : Nat} (hd : 11 ≤ d) {Q : zz_O → zz_H → Prop} {x1 : Int32} {x2 : Int32} {h : zz_H} {t t' : cS} {o : kY} (hR : kR h t s) (hf : cf_12_7 N X x1 x2 t = some (t', o)) (k : (∀ h', kR h' t' s → kE o Q h')) : zz_J zp_P zt_tf zt_fd X d zm_12 7 [(0, .ref 0), (1, .int x1), (2, .int x2)] [] h Q := by
  unfold cf_12_7 at hf
  obtain ⟨w0, e0, hf⟩ := co_b_ok hf
  obtain ⟨e1, hf⟩ := ko_if hf
  obtain ⟨d', rfl⟩ : ∃ d', d = d' + 1 := ⟨d - 1, by omega⟩
  refine cb_12_7 hR e0 e1 (fun {h} hR => ?_)
  rcases ko_call_ok hf with ⟨g1, v1, er, hf⟩ | ⟨g1, er, hq⟩
  · obtain ⟨y, hv, hf2⟩ := co_i_ok hf
    clear hf
    have hf := hf2
    clear hf2
    subst hv
    refine cr_26 (by omega) hR er (fun h hR => ?_)
    exact cr_12_16 hd hR hf k
  · refine cr_26 (by omega) hR er (fun h hR => ?_)
    exact ko_thrown hq hR k
def cf_12_4 (N : Nat) (X : Nat → Option zz_C) (x1 : Int32) (x2 : Int32) (y0 : Int32) (t : cS) : kO := if y0 = 0 then cf_12_23 N X  t else cf_12_7 N X x1 x2 t
theorem cr_12_4 {X : Nat → Option zz_C} {s : mS} {N : Nat} {d : Nat} (hd : 11 ≤ d) {Q : zz_O → zz_H → Prop} {x1 : Int32} {x2 : Int32} {y0 : Int32} {h : zz_H} {t t' : cS} {o : kY} (hR : kR h t s) (hf : cf_12_4 N X x1 x2 y0 t = some (t', o)) (k : (∀ h', kR h' t' s → kE o Q h')) : zz_J zp_P zt_tf zt_fd X d zm_12 4 [(0, .ref 0), (1, .int x1), (2, .int x2)] [.int y0] h Q := by
  unfold cf_12_4 at hf
  refine cb_12_4 hR  (fun c {h} hR => ?_) (fun c {h} hR => ?_)
  · rw [if_pos c] at hf
    exact cr_12_23 hd hR hf k
  · rw [if_neg c] at hf
    exact cr_12_7 hd hR hf k
def cf_12_0 (N : Nat) (X : Nat → Option zz_C) (x1 : Int32) (x2 : Int32) (t : cS) : kO := ko_call 0 (cf_21 N X x1 t) (fun g1 v1 => co_i v1 (fun y => cf_12_4 N X x1 x2 y g1))
theorem cr_12_0 {X : Nat → Option zz_C} {s : mS} {N : Nat} {d : Nat} (hd : 11 ≤ d) {Q : zz_O → zz_H → Prop} {x1 : Int32} {x2 : Int32} {h : zz_H} {t t' : cS} {o : kY} (hR : kR h t s) (hf : cf_12_0 N X x1 x2 t = some (t', o)) (k : (∀ h', kR h' t' s → kE o Q h')) : zz_J zp_P zt_tf zt_fd X d zm_12 0 [(0, .ref 0), (1, .int x1), (2, .int x2)] [] h Q := by
  unfold cf_12_0 at hf
  obtain ⟨d', rfl⟩ : ∃ d', d = d' + 1 := ⟨d - 1, by omega⟩
  refine cb_12_0 hR  (fun {h} hR => ?_)
  rcases ko_call_ok hf with ⟨g1, v1, er, hf⟩ | ⟨g1, er, hq⟩
  · obtain ⟨y, hv, hf2⟩ := co_i_ok hf
    clear hf
    have hf := hf2
    clear hf2
    subst hv
    refine cr_21 (by omega) hR er (fun h hR => ?_)
    exact cr_12_4 hd hR hf k
  · refine cr_21 (by omega) hR er (fun h hR => ?_)
    exact ko_thrown hq hR k
/-- add -/
def cf_12 (N : Nat) (X : Nat → Option zz_C) (x1 : Int32) (x2 : Int32) (t : cS) : kO := cf_12_0 N X x1 x2 t
theorem cr_12 {X : Nat → Option zz_C} {s : mS} {N : Nat} {d : Nat} (hd : 11 ≤ d) {Q : zz_O → zz_H → Prop} {x1 : Int32} {x2 : Int32} {h : zz_H} {t t' : cS} {o : kY} (hR : kR h t s) (hf : cf_12 N X x1 x2 t = some (t', o)) (k : ∀ h', kR h' t' s → kE o Q h') : zz_J zp_P zt_tf zt_fd X d zm_12 0 [(0, .ref 0), (1, .int x1), (2, .int x2)] [] h Q := by
  unfold cf_12 at hf
  exact zz_J.weak (cr_12_0 hd hR hf k) rfl ⟨rfl, rfl, rfl, trivial⟩
