/-! yX3_putCell (II)V -/
theorem cb_159_0 {X : Nat → Option zz_C} {h : zz_H} {t : cS} {s : mS} {d : Nat} {Q : zz_O → zz_H → Prop} {x1 : Int32} {x2 : Int32} (hR : kR h t s) (k : ∀ {h : zz_H}, kR h t s → zz_J zp_P zt_tf zt_fd X d zm_167 0 [(0, .ref 49), (1, .int 1)] [] h (zz_after 3 Q (fun v h' => zz_J zp_P zt_tf zt_fd X (d + 1) zm_159 5 [(0, .ref 49), (1, .int x1), (2, .int x2)] (v.toList ++ []) h' Q))) : zz_J zp_P zt_tf zt_fd X (d + 1) zm_159 0 [(0, .ref 49), (1, .int x1), (2, .int x2)] [] h Q := by
  refine zz_J.n 1 rfl rfl rfl ?_
  refine zz_J.c 2 (.int 1) rfl rfl rfl rfl ?_
  refine zz_J.cv 5 (as := []) rfl rfl (hR.clO ko_49 (by decide) (by decide)) (by decide) (Nat.le_of_ble_eq_true rfl) (Nat.le_of_ble_eq_true rfl) rfl (Nat.le_of_ble_eq_true rfl) rfl ?_
  refine zz_J.mono (k hR) ?_
  intro o h' hE
  cases o with
  | inl v => exact zz_J.weak hE rfl ⟨rfl, rfl, rfl, trivial⟩
  | inr q => exact hE
theorem cb_159_5 {X : Nat → Option zz_C} {h : zz_H} {t : cS} {s : mS} {d : Nat} {Q : zz_O → zz_H → Prop} {x1 : Int32} {x2 : Int32} {y0 : Int64} (hR : kR h t s) (k : ∀ {h : zz_H}, kR h t s → zz_J zp_P zt_tf zt_fd X d zm_167 0 [(0, .ref 49), (1, .int 2)] [] h (zz_after 3 Q (fun v h' => zz_J zp_P zt_tf zt_fd X (d + 1) zm_159 11 [(0, .ref 49), (1, .int x1), (2, .int x2), (3, .long y0)] (v.toList ++ []) h' Q))) : zz_J zp_P zt_tf zt_fd X (d + 1) zm_159 5 [(0, .ref 49), (1, .int x1), (2, .int x2)] [.long y0] h Q := by
  refine zz_J.n 6 rfl rfl rfl ?_
  refine zz_J.n 7 rfl rfl rfl ?_
  refine zz_J.c 8 (.int 2) rfl rfl rfl rfl ?_
  refine zz_J.cv 11 (as := []) rfl rfl (hR.clO ko_49 (by decide) (by decide)) (by decide) (Nat.le_of_ble_eq_true rfl) (Nat.le_of_ble_eq_true rfl) rfl (Nat.le_of_ble_eq_true rfl) rfl ?_
  refine zz_J.mono (k hR) ?_
  intro o h' hE
  cases o with
  | inl v => exact zz_J.weak hE rfl ⟨rfl, rfl, rfl, rfl, trivial⟩
  | inr q => exact hE
theorem cb_159_11 {X : Nat → Option zz_C} {h : zz_H} {t : cS} {s : mS} {d : Nat} {Q : zz_O → zz_H → Prop} {x1 : Int32} {x2 : Int32} {x3 : Int64} {y0 : Int64} (hR : kR h t s) (k : ∀ {h : zz_H}, kR h t s → zz_J zp_P zt_tf zt_fd X d zm_167 0 [(0, .ref 49), (1, .int 3)] [] h (zz_after 3 Q (fun v h' => zz_J zp_P zt_tf zt_fd X (d + 1) zm_159 18 [(0, .ref 49), (1, .int x1), (2, .int x2), (3, .long x3), (5, .long y0)] (v.toList ++ []) h' Q))) : zz_J zp_P zt_tf zt_fd X (d + 1) zm_159 11 [(0, .ref 49), (1, .int x1), (2, .int x2), (3, .long x3)] [.long y0] h Q := by
  refine zz_J.n 13 rfl rfl rfl ?_
  refine zz_J.n 14 rfl rfl rfl ?_
  refine zz_J.c 15 (.int 3) rfl rfl rfl rfl ?_
  refine zz_J.cv 18 (as := []) rfl rfl (hR.clO ko_49 (by decide) (by decide)) (by decide) (Nat.le_of_ble_eq_true rfl) (Nat.le_of_ble_eq_true rfl) rfl (Nat.le_of_ble_eq_true rfl) rfl ?_
  refine zz_J.mono (k hR) ?_
  intro o h' hE
  cases o with
  | inl v => exact zz_J.weak hE rfl ⟨rfl, rfl, rfl, rfl, rfl, trivial⟩
  | inr q => exact hE
theorem cb_159_18 {X : Nat → Option zz_C} {h : zz_H} {t : cS} {s : mS} {d : Nat} {Q : zz_O → zz_H → Prop} {x1 : Int32} {x2 : Int32} {x3 : Int64} {x5 : Int64} {y0 : Int64} (hR : kR h t s) (k : ∀ {h : zz_H}, kR h t s → zz_J zp_P zt_tf zt_fd X d zm_167 0 [(0, .ref 49), (1, .int 4)] [] h (zz_after 3 Q (fun v h' => zz_J zp_P zt_tf zt_fd X (d + 1) zm_159 25 [(0, .ref 49), (1, .int x1), (2, .int x2), (3, .long x3), (5, .long x5), (7, .long y0)] (v.toList ++ []) h' Q))) : zz_J zp_P zt_tf zt_fd X (d + 1) zm_159 18 [(0, .ref 49), (1, .int x1), (2, .int x2), (3, .long x3), (5, .long x5)] [.long y0] h Q := by
  refine zz_J.n 20 rfl rfl rfl ?_
  refine zz_J.n 21 rfl rfl rfl ?_
  refine zz_J.c 22 (.int 4) rfl rfl rfl rfl ?_
  refine zz_J.cv 25 (as := []) rfl rfl (hR.clO ko_49 (by decide) (by decide)) (by decide) (Nat.le_of_ble_eq_true rfl) (Nat.le_of_ble_eq_true rfl) rfl (Nat.le_of_ble_eq_true rfl) rfl ?_
  refine zz_J.mono (k hR) ?_
  intro o h' hE
  cases o with
  | inl v => exact zz_J.weak hE rfl ⟨rfl, rfl, rfl, rfl, rfl, rfl, trivial⟩
  | inr q => exact hE
theorem cb_159_25 {X : Nat → Option zz_C} {h : zz_H} {t : cS} {s : mS} {d : Nat} {Q : zz_O → zz_H → Prop} {x1 : Int32} {x2 : Int32} {x3 : Int64} {x5 : Int64} {x7 : Int64} {y0 : Int64} (hR : kR h t s) (k : ∀ {h : zz_H}, kR h t s → zz_J zp_P zt_tf zt_fd X d zm_225 0 [(0, .ref 58), (1, .long x3), (3, .long y0), (5, .long x7), (7, .long x5)] [] h (zz_after 8 Q (fun v h' => zz_J zp_P zt_tf zt_fd X (d + 1) zm_159 41 [(0, .ref 49), (1, .int x1), (2, .int x2), (3, .long x3), (5, .long x5), (7, .long x7), (9, .long y0)] (v.toList ++ []) h' Q))) : zz_J zp_P zt_tf zt_fd X (d + 1) zm_159 25 [(0, .ref 49), (1, .int x1), (2, .int x2), (3, .long x3), (5, .long x5), (7, .long x7)] [.long y0] h Q := by
  refine zz_J.n 27 rfl rfl rfl ?_
  refine zz_J.n 28 rfl rfl rfl ?_
  refine zz_J.g 31 rfl (hR.gv (v := .ref 58) ko_49 (by decide) rfl) rfl ?_
  refine zz_J.n 32 rfl rfl rfl ?_
  refine zz_J.n 34 rfl rfl rfl ?_
  refine zz_J.n 36 rfl rfl rfl ?_
  refine zz_J.n 38 rfl rfl rfl ?_
  refine zz_J.cv 41 (as := []) rfl rfl (hR.clO ko_58 (by decide) (by decide)) (by decide) (Nat.le_of_ble_eq_true rfl) (Nat.le_of_ble_eq_true rfl) rfl (Nat.le_of_ble_eq_true rfl) rfl ?_
  refine zz_J.mono (k hR) ?_
  intro o h' hE
  cases o with
  | inl v => exact zz_J.weak hE rfl ⟨rfl, rfl, rfl, rfl, rfl, rfl, rfl, trivial⟩
  | inr q => exact hE
theorem cb_159_41 {X : Nat → Option zz_C} {h : zz_H} {t : cS} {s : mS} {d : Nat} {Q : zz_O → zz_H → Prop} {x1 : Int32} {x2 : Int32} {x3 : Int64} {x5 : Int64} {x7 : Int64} {x9 : Int64} {y0 : Int32} (hR : kR h t s) (k1 : y0 = 0 → (∀ {h : zz_H}, kR h t s → zz_J zp_P zt_tf zt_fd X d zm_159 57 [(0, .ref 49), (1, .int x1), (2, .int x2), (3, .long x3), (5, .long x5), (7, .long x7), (9, .long x9)] [] h Q)) (k2 : ¬ y0 = 0 → (∀ {h : zz_H}, kR h t s → zz_J zp_P zt_tf zt_fd X d zm_159 48 [(0, .ref 49), (1, .int x1), (11, .int y0)] [] h Q)) : zz_J zp_P zt_tf zt_fd X d zm_159 41 [(0, .ref 49), (1, .int x1), (2, .int x2), (3, .long x3), (5, .long x5), (7, .long x7), (9, .long x9)] [.int y0] h Q := by
  refine zz_J.n 43 rfl rfl rfl ?_
  refine zz_J.n 45 rfl rfl rfl ?_
  refine zz_J.b1 57 48 (A := y0 = 0) rfl rfl (by decide) rfl rfl (fun c => ?_) (fun c => ?_)
  · exact zz_J.weak (k1 c hR) rfl ⟨rfl, rfl, rfl, rfl, rfl, rfl, rfl, trivial⟩
  · exact zz_J.weak (k2 c hR) rfl ⟨rfl, rfl, rfl, trivial⟩
theorem cb_159_48 {X : Nat → Option zz_C} {h : zz_H} {t : cS} {s : mS} {d : Nat} {Q : zz_O → zz_H → Prop} {x1 : Int32} {x11 : Int32} (hR : kR h t s) (k : ∀ {h : zz_H}, kR h t s → zz_J zp_P zt_tf zt_fd X d zm_156 0 [(0, .ref 49), (1, .int x11), (2, .int x1), (3, .int 0)] [] h (zz_after 3 Q (fun v h' => zz_J zp_P zt_tf zt_fd X (d + 1) zm_159 56 [] (v.toList ++ []) h' Q))) : zz_J zp_P zt_tf zt_fd X (d + 1) zm_159 48 [(0, .ref 49), (1, .int x1), (11, .int x11)] [] h Q := by
  refine zz_J.n 49 rfl rfl rfl ?_
  refine zz_J.n 51 rfl rfl rfl ?_
  refine zz_J.n 52 rfl rfl rfl ?_
  refine zz_J.c 53 (.int 0) rfl rfl rfl rfl ?_
  refine zz_J.cv 56 (as := []) rfl rfl (hR.clO ko_49 (by decide) (by decide)) (by decide) (Nat.le_of_ble_eq_true rfl) (Nat.le_of_ble_eq_true rfl) rfl (Nat.le_of_ble_eq_true rfl) rfl ?_
  refine zz_J.mono (k hR) ?_
  intro o h' hE
  cases o with
  | inl v => exact zz_J.weak hE rfl trivial
  | inr q => exact hE
theorem cb_159_56 {X : Nat → Option zz_C} {h : zz_H} {t : cS} {s : mS} {d : Nat} {Q : zz_O → zz_H → Prop}  (hR : kR h t s) (k : ∀ {h : zz_H}, kR h t s → Q (.inl none) h) : zz_J zp_P zt_tf zt_fd X d zm_159 56 [] [] h Q := by
  refine zz_J.ret rfl rfl rfl ?_
  exact k hR
theorem cb_159_57 {X : Nat → Option zz_C} {h : zz_H} {t : cS} {s : mS} {d : Nat} {Q : zz_O → zz_H → Prop} {x1 : Int32} {x2 : Int32} {x3 : Int64} {x5 : Int64} {x7 : Int64} {x9 : Int64} (hR : kR h t s) (k : ∀ {h : zz_H}, kR h t s → zz_J zp_P zt_tf zt_fd X d zm_256 0 [(0, .long x9)] [] h (zz_after 1000 Q (fun v h' => zz_J zp_P zt_tf zt_fd X (d + 1) zm_159 71 [(0, .ref 49), (1, .int x1), (2, .int x2), (3, .long x3), (5, .long x5), (7, .long x7), (9, .long x9)] (v.toList ++ [.long x3, .ref 42, .ref 58]) h' Q))) : zz_J zp_P zt_tf zt_fd X (d + 1) zm_159 57 [(0, .ref 49), (1, .int x1), (2, .int x2), (3, .long x3), (5, .long x5), (7, .long x7), (9, .long x9)] [] h Q := by
  refine zz_J.n 58 rfl rfl rfl ?_
  refine zz_J.g 61 rfl (hR.gv (v := .ref 58) ko_49 (by decide) rfl) rfl ?_
  refine zz_J.n 62 rfl rfl rfl ?_
  refine zz_J.g 65 rfl (hR.gv (v := .ref 42) ko_49 (by decide) rfl) rfl ?_
  refine zz_J.n 66 rfl rfl rfl ?_
  refine zz_J.n 68 rfl rfl rfl ?_
  refine zz_J.cl (M' := zm_256) 71 rfl rfl (by decide) rfl rfl ⟨rfl, Nat.le_of_ble_eq_true rfl⟩ rfl ?_
  refine zz_J.mono (k hR) ?_
  intro o h' hE
  cases o with
  | inl v => exact zz_J.weak hE rfl ⟨rfl, rfl, rfl, rfl, rfl, rfl, rfl, trivial⟩
  | inr q => exact hE
theorem cb_159_71 {X : Nat → Option zz_C} {h : zz_H} {t : cS} {s : mS} {d : Nat} {Q : zz_O → zz_H → Prop} {x1 : Int32} {x2 : Int32} {x3 : Int64} {x5 : Int64} {x7 : Int64} {x9 : Int64} {y2 : Int64} {y3 : Int32} (hR : kR h t s) (k : ∀ {h : zz_H}, kR h t s → zz_J zp_P zt_tf zt_fd X d zm_129 0 [(0, .ref 42), (1, .long y2), (3, .int y3)] [] h (zz_after 2 Q (fun v h' => zz_J zp_P zt_tf zt_fd X (d + 1) zm_159 74 [(0, .ref 49), (1, .int x1), (2, .int x2), (3, .long x3), (5, .long x5), (7, .long x7), (9, .long x9)] (v.toList ++ [.ref 58]) h' Q))) : zz_J zp_P zt_tf zt_fd X (d + 1) zm_159 71 [(0, .ref 49), (1, .int x1), (2, .int x2), (3, .long x3), (5, .long x5), (7, .long x7), (9, .long x9)] [.int y3, .long y2, .ref 42, .ref 58] h Q := by
  refine zz_J.cv 74 (as := [.ref 58]) rfl rfl (hR.clO ko_42 (by decide) (by decide)) (by decide) (Nat.le_of_ble_eq_true rfl) (Nat.le_of_ble_eq_true rfl) rfl (Nat.le_of_ble_eq_true rfl) rfl ?_
  refine zz_J.mono (k hR) ?_
  intro o h' hE
  cases o with
  | inl v => exact zz_J.weak hE rfl ⟨rfl, rfl, rfl, rfl, rfl, rfl, rfl, trivial⟩
  | inr q => exact hE
theorem cb_159_74 {X : Nat → Option zz_C} {h : zz_H} {t : cS} {s : mS} {d : Nat} {Q : zz_O → zz_H → Prop} {x1 : Int32} {x2 : Int32} {x3 : Int64} {x5 : Int64} {x7 : Int64} {x9 : Int64} {y1 : Int64} (hR : kR h t s) (k : ∀ {h : zz_H}, kR h t s → zz_J zp_P zt_tf zt_fd X d zm_224 0 [(0, .ref 58), (1, .long y1), (3, .long x7), (5, .long x5)] [] h (zz_after 8 Q (fun v h' => zz_J zp_P zt_tf zt_fd X (d + 1) zm_159 81 [(0, .ref 49), (1, .int x1), (2, .int x2), (3, .long x3), (9, .long x9)] (v.toList ++ []) h' Q))) : zz_J zp_P zt_tf zt_fd X (d + 1) zm_159 74 [(0, .ref 49), (1, .int x1), (2, .int x2), (3, .long x3), (5, .long x5), (7, .long x7), (9, .long x9)] [.long y1, .ref 58] h Q := by
  refine zz_J.n 76 rfl rfl rfl ?_
  refine zz_J.n 78 rfl rfl rfl ?_
  refine zz_J.cv 81 (as := []) rfl rfl (hR.clO ko_58 (by decide) (by decide)) (by decide) (Nat.le_of_ble_eq_true rfl) (Nat.le_of_ble_eq_true rfl) rfl (Nat.le_of_ble_eq_true rfl) rfl ?_
  refine zz_J.mono (k hR) ?_
  intro o h' hE
  cases o with
  | inl v => exact zz_J.weak hE rfl ⟨rfl, rfl, rfl, rfl, rfl, trivial⟩
  | inr q => exact hE
theorem cb_159_81 {X : Nat → Option zz_C} {h : zz_H} {t : cS} {s : mS} {d : Nat} {Q : zz_O → zz_H → Prop} {x1 : Int32} {x2 : Int32} {x3 : Int64} {x9 : Int64} {y0 : Int64} (hR : kR h t s) (k : ∀ {h : zz_H}, kR h t s → zz_J zp_P zt_tf zt_fd X d zm_255 0 [(0, .long y0)] [] h (zz_after 1000 Q (fun v h' => zz_J zp_P zt_tf zt_fd X (d + 1) zm_159 88 [(0, .ref 49), (1, .int x1), (2, .int x2), (3, .long x3), (9, .long x9), (12, .long y0)] (v.toList ++ []) h' Q))) : zz_J zp_P zt_tf zt_fd X (d + 1) zm_159 81 [(0, .ref 49), (1, .int x1), (2, .int x2), (3, .long x3), (9, .long x9)] [.long y0] h Q := by
  refine zz_J.n 83 rfl rfl rfl ?_
  refine zz_J.n 85 rfl rfl rfl ?_
  refine zz_J.cl (M' := zm_255) 88 rfl rfl (by decide) rfl rfl ⟨rfl, Nat.le_of_ble_eq_true rfl⟩ rfl ?_
  refine zz_J.mono (k hR) ?_
  intro o h' hE
  cases o with
  | inl v => exact zz_J.weak hE rfl ⟨rfl, rfl, rfl, rfl, rfl, rfl, trivial⟩
  | inr q => exact hE
theorem cb_159_88 {X : Nat → Option zz_C} {h : zz_H} {t : cS} {s : mS} {d : Nat} {Q : zz_O → zz_H → Prop} {x1 : Int32} {x2 : Int32} {x3 : Int64} {x9 : Int64} {x12 : Int64} {y0 : Int32} (hR : kR h t s) (k1 : ¬ y0 = 4 → (∀ {h : zz_H}, kR h t s → zz_J zp_P zt_tf zt_fd X d zm_159 106 [(0, .ref 49), (1, .int x1), (3, .long x3), (9, .long x9), (12, .long x12)] [] h Q)) (k2 : ¬ ¬ y0 = 4 → (∀ {h : zz_H}, kR h t s → zz_J zp_P zt_tf zt_fd X d zm_159 92 [(0, .ref 49), (2, .int x2), (12, .long x12)] [] h Q)) : zz_J zp_P zt_tf zt_fd X d zm_159 88 [(0, .ref 49), (1, .int x1), (2, .int x2), (3, .long x3), (9, .long x9), (12, .long x12)] [.int y0] h Q := by
  refine zz_J.c 89 (.int 4) rfl rfl rfl rfl ?_
  refine zz_J.b2 106 92 (A := ¬ y0 = 4) rfl (zz_cond_ne _ _) (by decide) rfl rfl (fun c => ?_) (fun c => ?_)
  · exact zz_J.weak (k1 c hR) rfl ⟨rfl, rfl, rfl, rfl, rfl, trivial⟩
  · exact zz_J.weak (k2 c hR) rfl ⟨rfl, rfl, rfl, trivial⟩
theorem cb_159_92 {X : Nat → Option zz_C} {h : zz_H} {t : cS} {s : mS} {d : Nat} {Q : zz_O → zz_H → Prop} {x2 : Int32} {x12 : Int64} (hR : kR h t s) (k : ∀ {h : zz_H}, kR h t s → zz_J zp_P zt_tf zt_fd X d zm_256 0 [(0, .long x12)] [] h (zz_after 1000 Q (fun v h' => zz_J zp_P zt_tf zt_fd X (d + 1) zm_159 98 [(2, .int x2)] (v.toList ++ [.ref 49]) h' Q))) : zz_J zp_P zt_tf zt_fd X (d + 1) zm_159 92 [(0, .ref 49), (2, .int x2), (12, .long x12)] [] h Q := by
  refine zz_J.n 93 rfl rfl rfl ?_
  refine zz_J.n 95 rfl rfl rfl ?_
  refine zz_J.cl (M' := zm_256) 98 rfl rfl (by decide) rfl rfl ⟨rfl, Nat.le_of_ble_eq_true rfl⟩ rfl ?_
  refine zz_J.mono (k hR) ?_
  intro o h' hE
  cases o with
  | inl v => exact zz_J.weak hE rfl ⟨rfl, trivial⟩
  | inr q => exact hE
theorem cb_159_98 {X : Nat → Option zz_C} {h : zz_H} {t : cS} {s : mS} {d : Nat} {Q : zz_O → zz_H → Prop} {x2 : Int32} {y1 : Int32} (hR : kR h t s) (k : ∀ {h : zz_H}, kR h t s → zz_J zp_P zt_tf zt_fd X d zm_156 0 [(0, .ref 49), (1, .int y1), (2, .int x2), (3, .int 0)] [] h (zz_after 3 Q (fun v h' => zz_J zp_P zt_tf zt_fd X (d + 1) zm_159 103 [] (v.toList ++ []) h' Q))) : zz_J zp_P zt_tf zt_fd X (d + 1) zm_159 98 [(2, .int x2)] [.int y1, .ref 49] h Q := by
  refine zz_J.n 99 rfl rfl rfl ?_
  refine zz_J.c 100 (.int 0) rfl rfl rfl rfl ?_
  refine zz_J.cv 103 (as := []) rfl rfl (hR.clO ko_49 (by decide) (by decide)) (by decide) (Nat.le_of_ble_eq_true rfl) (Nat.le_of_ble_eq_true rfl) rfl (Nat.le_of_ble_eq_true rfl) rfl ?_
  refine zz_J.mono (k hR) ?_
  intro o h' hE
  cases o with
  | inl v => exact zz_J.weak hE rfl trivial
  | inr q => exact hE
theorem cb_159_103 {X : Nat → Option zz_C} {h : zz_H} {t : cS} {s : mS} {d : Nat} {Q : zz_O → zz_H → Prop}  (hR : kR h t s) (k : ∀ {h : zz_H}, kR h t s → zz_J zp_P zt_tf zt_fd X d zm_159 124 [] [] h Q) : zz_J zp_P zt_tf zt_fd X d zm_159 103 [] [] h Q := by
  refine zz_J.n 124 rfl rfl rfl ?_
  exact zz_J.weak (k hR) rfl trivial
theorem cb_159_106 {X : Nat → Option zz_C} {h : zz_H} {t : cS} {s : mS} {d : Nat} {Q : zz_O → zz_H → Prop} {x1 : Int32} {x3 : Int64} {x9 : Int64} {x12 : Int64} (hR : kR h t s) (k : ∀ {h : zz_H}, kR h t s → zz_J zp_P zt_tf zt_fd X d zm_224 0 [(0, .ref 58), (1, .long x3), (3, .long x9), (5, .long x12)] [] h (zz_after 8 Q (fun v h' => zz_J zp_P zt_tf zt_fd X (d + 1) zm_159 119 [(1, .int x1)] (v.toList ++ [.ref 49]) h' Q))) : zz_J zp_P zt_tf zt_fd X (d + 1) zm_159 106 [(0, .ref 49), (1, .int x1), (3, .long x3), (9, .long x9), (12, .long x12)] [] h Q := by
  refine zz_J.n 107 rfl rfl rfl ?_
  refine zz_J.n 108 rfl rfl rfl ?_
  refine zz_J.g 111 rfl (hR.gv (v := .ref 58) ko_49 (by decide) rfl) rfl ?_
  refine zz_J.n 112 rfl rfl rfl ?_
  refine zz_J.n 114 rfl rfl rfl ?_
  refine zz_J.n 116 rfl rfl rfl ?_
  refine zz_J.cv 119 (as := [.ref 49]) rfl rfl (hR.clO ko_58 (by decide) (by decide)) (by decide) (Nat.le_of_ble_eq_true rfl) (Nat.le_of_ble_eq_true rfl) rfl (Nat.le_of_ble_eq_true rfl) rfl ?_
  refine zz_J.mono (k hR) ?_
  intro o h' hE
  cases o with
  | inl v => exact zz_J.weak hE rfl ⟨rfl, trivial⟩
  | inr q => exact hE
theorem cb_159_119 {X : Nat → Option zz_C} {h : zz_H} {t : cS} {s : mS} {d : Nat} {Q : zz_O → zz_H → Prop} {x1 : Int32} {y1 : Int64} (hR : kR h t s) (k : ∀ {h : zz_H}, kR h t s → zz_J zp_P zt_tf zt_fd X d zm_144 0 [(0, .ref 49), (1, .long y1), (3, .int 4), (4, .int x1)] [] h (zz_after 3 Q (fun v h' => zz_J zp_P zt_tf zt_fd X (d + 1) zm_159 124 [] (v.toList ++ []) h' Q))) : zz_J zp_P zt_tf zt_fd X (d + 1) zm_159 119 [(1, .int x1)] [.long y1, .ref 49] h Q := by
  refine zz_J.c 120 (.int 4) rfl rfl rfl rfl ?_
  refine zz_J.n 121 rfl rfl rfl ?_
  refine zz_J.cv 124 (as := []) rfl rfl (hR.clO ko_49 (by decide) (by decide)) (by decide) (Nat.le_of_ble_eq_true rfl) (Nat.le_of_ble_eq_true rfl) rfl (Nat.le_of_ble_eq_true rfl) rfl ?_
  refine zz_J.mono (k hR) ?_
  intro o h' hE
  cases o with
  | inl v => exact zz_J.weak hE rfl trivial
  | inr q => exact hE
theorem cb_159_124 {X : Nat → Option zz_C} {h : zz_H} {t : cS} {s : mS} {d : Nat} {Q : zz_O → zz_H → Prop}  (hR : kR h t s) (k : ∀ {h : zz_H}, kR h t s → Q (.inl none) h) : zz_J zp_P zt_tf zt_fd X d zm_159 124 [] [] h Q := by
  refine zz_J.ret rfl rfl rfl ?_
  exact k hR
def cf_159_124 (N : Nat) (X : Nat → Option zz_C)  (t : cS) : kO := some (t, .inl none)
theorem cr_159_124 {X : Nat → Option zz_C} {s : mS} {N : Nat} {d : Nat} (hd : 12 ≤ d) {Q : zz_O → zz_H → Prop}  {h : zz_H} {t t' : cS} {o : kY} (hR : kR h t s) (hf : cf_159_124 N X  t = some (t', o)) (k : (∀ h', kR h' t' s → kE o Q h')) : zz_J zp_P zt_tf zt_fd X d zm_159 124 [] [] h Q := by
  unfold cf_159_124 at hf
  cases hf
  exact cb_159_124 hR  (fun {h} hR => k h hR)
def cf_159_119 (N : Nat) (X : Nat → Option zz_C) (x1 : Int32) (y1 : Int64) (t : cS) : kO := ko_call 3 (cf_144 N X y1 4 x1 t) (fun g1 v1 => co_v v1 (cf_159_124 N X  g1))
theorem cr_159_119 {X : Nat → Option zz_C} {s : mS} {N : Nat} {d : Nat} (hd : 12 ≤ d) {Q : zz_O → zz_H → Prop} {x1 : Int32} {y1 : Int64} {h : zz_H} {t t' : cS} {o : kY} (hR : kR h t s) (hf : cf_159_119 N X x1 y1 t = some (t', o)) (k : (∀ h', kR h' t' s → kE o Q h')) : zz_J zp_P zt_tf zt_fd X d zm_159 119 [(1, .int x1)] [.long y1, .ref 49] h Q := by
  unfold cf_159_119 at hf
  obtain ⟨d', rfl⟩ : ∃ d', d = d' + 1 := ⟨d - 1, by omega⟩
  refine cb_159_119 hR  (fun {h} hR => ?_)
  rcases ko_call_ok hf with ⟨g1, v1, er, hf⟩ | ⟨g1, er, hq⟩
  · obtain ⟨hv, hf2⟩ := co_v_ok hf
    clear hf
    have hf := hf2
    clear hf2
    subst hv
    refine cr_144 (by omega) hR er (fun h hR => ?_)
    exact cr_159_124 hd hR hf k
  · refine cr_144 (by omega) hR er (fun h hR => ?_)
    exact ko_thrown hq hR k
def cf_159_106 (N : Nat) (X : Nat → Option zz_C) (x1 : Int32) (x3 : Int64) (x9 : Int64) (x12 : Int64) (t : cS) : kO := ko_call 8 (cf_224 N X x3 x9 x12 t) (fun g1 v1 => co_l v1 (fun y => cf_159_119 N X x1 y g1))
theorem cr_159_106 {X : Nat → Option zz_C} {s : mS} {N : Nat} {d : Nat} (hd : 12 ≤ d) {Q : zz_O → zz_H → Prop} {x1 : Int32} {x3 : Int64} {x9 : Int64} {x12 : Int64} {h : zz_H} {t t' : cS} {o : kY} (hR : kR h t s) (hf : cf_159_106 N X x1 x3 x9 x12 t = some (t', o)) (k : (∀ h', kR h' t' s → kE o Q h')) : zz_J zp_P zt_tf zt_fd X d zm_159 106 [(0, .ref 49), (1, .int x1), (3, .long x3), (9, .long x9), (12, .long x12)] [] h Q := by
  unfold cf_159_106 at hf
  obtain ⟨d', rfl⟩ : ∃ d', d = d' + 1 := ⟨d - 1, by omega⟩
  refine cb_159_106 hR  (fun {h} hR => ?_)
  rcases ko_call_ok hf with ⟨g1, v1, er, hf⟩ | ⟨g1, er, hq⟩
  · obtain ⟨y, hv, hf2⟩ := co_l_ok hf
    clear hf
    have hf := hf2
    clear hf2
    subst hv
    refine cr_224 (by omega) hR er (fun h hR => ?_)
    exact cr_159_119 hd hR hf k
  · refine cr_224 (by omega) hR er (fun h hR => ?_)
    exact ko_thrown hq hR k
def cf_159_103 (N : Nat) (X : Nat → Option zz_C)  (t : cS) : kO := cf_159_124 N X  t
theorem cr_159_103 {X : Nat → Option zz_C} {s : mS} {N : Nat} {d : Nat} (hd : 12 ≤ d) {Q : zz_O → zz_H → Prop}  {h : zz_H} {t t' : cS} {o : kY} (hR : kR h t s) (hf : cf_159_103 N X  t = some (t', o)) (k : (∀ h', kR h' t' s → kE o Q h')) : zz_J zp_P zt_tf zt_fd X d zm_159 103 [] [] h Q := by
  unfold cf_159_103 at hf
  exact cb_159_103 hR  (fun hR => cr_159_124 hd hR hf k)
def cf_159_98 (N : Nat) (X : Nat → Option zz_C) (x2 : Int32) (y1 : Int32) (t : cS) : kO := ko_call 3 (cf_156 N X y1 x2 0 t) (fun g1 v1 => co_v v1 (cf_159_103 N X  g1))
theorem cr_159_98 {X : Nat → Option zz_C} {s : mS} {N : Nat} {d : Nat} (hd : 12 ≤ d) {Q : zz_O → zz_H → Prop} {x2 : Int32} {y1 : Int32} {h : zz_H} {t t' : cS} {o : kY} (hR : kR h t s) (hf : cf_159_98 N X x2 y1 t = some (t', o)) (k : (∀ h', kR h' t' s → kE o Q h')) : zz_J zp_P zt_tf zt_fd X d zm_159 98 [(2, .int x2)] [.int y1, .ref 49] h Q := by
  unfold cf_159_98 at hf
  obtain ⟨d', rfl⟩ : ∃ d', d = d' + 1 := ⟨d - 1, by omega⟩
  refine cb_159_98 hR  (fun {h} hR => ?_)
  rcases ko_call_ok hf with ⟨g1, v1, er, hf⟩ | ⟨g1, er, hq⟩
  · obtain ⟨hv, hf2⟩ := co_v_ok hf
    clear hf
    have hf := hf2
    clear hf2
    subst hv
    refine cr_156 (by omega) hR er (fun h hR => ?_)
    exact cr_159_103 hd hR hf k
  · refine cr_156 (by omega) hR er (fun h hR => ?_)
    exact ko_thrown hq hR k
def cf_159_92 (N : Nat) (X : Nat → Option zz_C) (x2 : Int32) (x12 : Int64) (t : cS) : kO := ko_call 1000 (cf_256 N X x12 t) (fun g1 v1 => co_i v1 (fun y => cf_159_98 N X x2 y g1))
theorem cr_159_92 {X : Nat → Option zz_C} {s : mS} {N : Nat} {d : Nat} (hd : 12 ≤ d) {Q : zz_O → zz_H → Prop} {x2 : Int32} {x12 : Int64} {h : zz_H} {t t' : cS} {o : kY} (hR : kR h t s) (hf : cf_159_92 N X x2 x12 t = some (t', o)) (k : (∀ h', kR h' t' s → kE o Q h')) : zz_J zp_P zt_tf zt_fd X d zm_159 92 [(0, .ref 49), (2, .int x2), (12, .long x12)] [] h Q := by
  unfold cf_159_92 at hf
  obtain ⟨d', rfl⟩ : ∃ d', d = d' + 1 := ⟨d - 1, by omega⟩
  refine cb_159_92 hR  (fun {h} hR => ?_)
  rcases ko_call_ok hf with ⟨g1, v1, er, hf⟩ | ⟨g1, er, hq⟩
  · obtain ⟨y, hv, hf2⟩ := co_i_ok hf
    clear hf
    have hf := hf2
    clear hf2
    subst hv
    refine cr_256 (by omega) hR er (fun h hR => ?_)
    exact cr_159_98 hd hR hf k
  · refine cr_256 (by omega) hR er (fun h hR => ?_)
    exact ko_thrown hq hR k
def cf_159_88 (N : Nat) (X : Nat → Option zz_C) (x1 : Int32) (x2 : Int32) (x3 : Int64) (x9 : Int64) (x12 : Int64) (y0 : Int32) (t : cS) : kO := if ¬ y0 = 4 then cf_159_106 N X x1 x3 x9 x12 t else cf_159_92 N X x2 x12 t
theorem cr_159_88 {X : Nat → Option zz_C} {s : mS} {N : Nat} {d : Nat} (hd : 12 ≤ d) {Q : zz_O → zz_H → Prop} {x1 : Int32} {x2 : Int32} {x3 : Int64} {x9 : Int64} {x12 : Int64} {y0 : Int32} {h : zz_H} {t t' : cS} {o : kY} (hR : kR h t s) (hf : cf_159_88 N X x1 x2 x3 x9 x12 y0 t = some (t', o)) (k : (∀ h', kR h' t' s → kE o Q h')) : zz_J zp_P zt_tf zt_fd X d zm_159 88 [(0, .ref 49), (1, .int x1), (2, .int x2), (3, .long x3), (9, .long x9), (12, .long x12)] [.int y0] h Q := by
  unfold cf_159_88 at hf
  refine cb_159_88 hR  (fun c {h} hR => ?_) (fun c {h} hR => ?_)
  · rw [if_pos c] at hf
    exact cr_159_106 hd hR hf k
  · rw [if_neg c] at hf
    exact cr_159_92 hd hR hf k
def cf_159_81 (N : Nat) (X : Nat → Option zz_C) (x1 : Int32) (x2 : Int32) (x3 : Int64) (x9 : Int64) (y0 : Int64) (t : cS) : kO := ko_call 1000 (cf_255 N X y0 t) (fun g1 v1 => co_i v1 (fun y => cf_159_88 N X x1 x2 x3 x9 y0 y g1))
theorem cr_159_81 {X : Nat → Option zz_C} {s : mS} {N : Nat} {d : Nat} (hd : 12 ≤ d) {Q : zz_O → zz_H → Prop} {x1 : Int32} {x2 : Int32} {x3 : Int64} {x9 : Int64} {y0 : Int64} {h : zz_H} {t t' : cS} {o : kY} (hR : kR h t s) (hf : cf_159_81 N X x1 x2 x3 x9 y0 t = some (t', o)) (k : (∀ h', kR h' t' s → kE o Q h')) : zz_J zp_P zt_tf zt_fd X d zm_159 81 [(0, .ref 49), (1, .int x1), (2, .int x2), (3, .long x3), (9, .long x9)] [.long y0] h Q := by
  unfold cf_159_81 at hf
  obtain ⟨d', rfl⟩ : ∃ d', d = d' + 1 := ⟨d - 1, by omega⟩
  refine cb_159_81 hR  (fun {h} hR => ?_)
  rcases ko_call_ok hf with ⟨g1, v1, er, hf⟩ | ⟨g1, er, hq⟩
  · obtain ⟨y, hv, hf2⟩ := co_i_ok hf
    clear hf
    have hf := hf2
    clear hf2
    subst hv
    refine cr_255 (by omega) hR er (fun h hR => ?_)
    exact cr_159_88 hd hR hf k
  · refine cr_255 (by omega) hR er (fun h hR => ?_)
    exact ko_thrown hq hR k
def cf_159_74 (N : Nat) (X : Nat → Option zz_C) (x1 : Int32) (x2 : Int32) (x3 : Int64) (x5 : Int64) (x7 : Int64) (x9 : Int64) (y1 : Int64) (t : cS) : kO := ko_call 8 (cf_224 N X y1 x7 x5 t) (fun g1 v1 => co_l v1 (fun y => cf_159_81 N X x1 x2 x3 x9 y g1))
theorem cr_159_74 {X : Nat → Option zz_C} {s : mS} {N : Nat} {d : Nat} (hd : 12 ≤ d) {Q : zz_O → zz_H → Prop} {x1 : Int32} {x2 : Int32} {x3 : Int64} {x5 : Int64} {x7 : Int64} {x9 : Int64} {y1 : Int64} {h : zz_H} {t t' : cS} {o : kY} (hR : kR h t s) (hf : cf_159_74 N X x1 x2 x3 x5 x7 x9 y1 t = some (t', o)) (k : (∀ h', kR h' t' s → kE o Q h')) : zz_J zp_P zt_tf zt_fd X d zm_159 74 [(0, .ref 49), (1, .int x1), (2, .int x2), (3, .long x3), (5, .long x5), (7, .long x7), (9, .long x9)] [.long y1, .ref 58] h Q := by
  unfold cf_159_74 at hf
  obtain ⟨d', rfl⟩ : ∃ d', d = d' + 1 := ⟨d - 1, by omega⟩
  refine cb_159_74 hR  (fun {h} hR => ?_)
  rcases ko_call_ok hf with ⟨g1, v1, er, hf⟩ | ⟨g1, er, hq⟩
  · obtain ⟨y, hv, hf2⟩ := co_l_ok hf
    clear hf
    have hf := hf2
    clear hf2
    subst hv
    refine cr_224 (by omega) hR er (fun h hR => ?_)
    exact cr_159_81 hd hR hf k
  · refine cr_224 (by omega) hR er (fun h hR => ?_)
    exact ko_thrown hq hR k
def cf_159_71 (N : Nat) (X : Nat → Option zz_C) (x1 : Int32) (x2 : Int32) (x3 : Int64) (x5 : Int64) (x7 : Int64) (x9 : Int64) (y2 : Int64) (y3 : Int32) (t : cS) : kO := ko_call 2 (cf_129 N X y2 y3 t) (fun g1 v1 => co_l v1 (fun y => cf_159_74 N X x1 x2 x3 x5 x7 x9 y g1))
theorem cr_159_71 {X : Nat → Option zz_C} {s : mS} {N : Nat} {d : Nat} (hd : 12 ≤ d) {Q : zz_O → zz_H → Prop} {x1 : Int32} {x2 : Int32} {x3 : Int64} {x5 : Int64} {x7 : Int64} {x9 : Int64} {y2 : Int64} {y3 : Int32} {h : zz_H} {t t' : cS} {o : kY} (hR : kR h t s) (hf : cf_159_71 N X x1 x2 x3 x5 x7 x9 y2 y3 t = some (t', o)) (k : (∀ h', kR h' t' s → kE o Q h')) : zz_J zp_P zt_tf zt_fd X d zm_159 71 [(0, .ref 49), (1, .int x1), (2, .int x2), (3, .long x3), (5, .long x5), (7, .long x7), (9, .long x9)] [.int y3, .long y2, .ref 42, .ref 58] h Q := by
  unfold cf_159_71 at hf
  obtain ⟨d', rfl⟩ : ∃ d', d = d' + 1 := ⟨d - 1, by omega⟩
  refine cb_159_71 hR  (fun {h} hR => ?_)
  rcases ko_call_ok hf with ⟨g1, v1, er, hf⟩ | ⟨g1, er, hq⟩
  · obtain ⟨y, hv, hf2⟩ := co_l_ok hf
    clear hf
    have hf := hf2
    clear hf2
    subst hv
    refine cr_129 (by omega) hR er (fun h hR => ?_)
    exact cr_159_74 hd hR hf k
  · refine cr_129 (by omega) hR er (fun h hR => ?_)
    exact ko_thrown hq hR k
def cf_159_57 (N : Nat) (X : Nat → Option zz_C) (x1 : Int32) (x2 : Int32) (x3 : Int64) (x5 : Int64) (x7 : Int64) (x9 : Int64) (t : cS) : kO := ko_call 1000 (cf_256 N X x9 t) (fun g1 v1 => co_i v1 (fun y => cf_159_71 N X x1 x2 x3 x5 x7 x9 x3 y g1))
theorem cr_159_57 {X : Nat → Option zz_C} {s : mS} {N : Nat} {d : Nat} (hd : 12 ≤ d) {Q : zz_O → zz_H → Prop} {x1 : Int32} {x2 : Int32} {x3 : Int64} {x5 : Int64} {x7 : Int64} {x9 : Int64} {h : zz_H} {t t' : cS} {o : kY} (hR : kR h t s) (hf : cf_159_57 N X x1 x2 x3 x5 x7 x9 t = some (t', o)) (k : (∀ h', kR h' t' s → kE o Q h')) : zz_J zp_P zt_tf zt_fd X d zm_159 57 [(0, .ref 49), (1, .int x1), (2, .int x2), (3, .long x3), (5, .long x5), (7, .long x7), (9, .long x9)] [] h Q := by
  unfold cf_159_57 at hf
  obtain ⟨d', rfl⟩ : ∃ d', d = d' + 1 := ⟨d - 1, by omega⟩
  refine cb_159_57 hR  (fun {h} hR => ?_)
  rcases ko_call_ok hf with ⟨g1, v1, er, hf⟩ | ⟨g1, er, hq⟩
  · obtain ⟨y, hv, hf2⟩ := co_i_ok hf
    clear hf
    have hf := hf2
    clear hf2
    subst hv
    refine cr_256 (by omega) hR er (fun h hR => ?_)
    exact cr_159_71 hd hR hf k
  · refine cr_256 (by omega) hR er (fun h hR => ?_)
    exact ko_thrown hq hR k
def cf_159_56 (N : Nat) (X : Nat → Option zz_C)  (t : cS) : kO := some (t, .inl none)
theorem cr_159_56 {X : Nat → Option zz_C} {s : mS} {N : Nat} {d : Nat} (hd : 12 ≤ d) {Q : zz_O → zz_H → Prop}  {h : zz_H} {t t' : cS} {o : kY} (hR : kR h t s) (hf : cf_159_56 N X  t = some (t', o)) (k : (∀ h', kR h' t' s → kE o Q h')) : zz_J zp_P zt_tf zt_fd X d zm_159 56 [] [] h Q := by
  unfold cf_159_56 at hf
  cases hf
  exact cb_159_56 hR  (fun {h} hR => k h hR)
def cf_159_48 (N : Nat) (X : Nat → Option zz_C) (x1 : Int32) (x11 : Int32) (t : cS) : kO := ko_call 3 (cf_156 N X x11 x1 0 t) (fun g1 v1 => co_v v1 (cf_159_56 N X  g1))
theorem cr_159_48 {X : Nat → Option zz_C} {s : mS} {N : Nat} {d : Nat} (hd : 12 ≤ d) {Q : zz_O → zz_H → Prop} {x1 : Int32} {x11 : Int32} {h : zz_H} {t t' : cS} {o : kY} (hR : kR h t s) (hf : cf_159_48 N X x1 x11 t = some (t', o)) (k : (∀ h', kR h' t' s → kE o Q h')) : zz_J zp_P zt_tf zt_fd X d zm_159 48 [(0, .ref 49), (1, .int x1), (11, .int x11)] [] h Q := by
  unfold cf_159_48 at hf
  obtain ⟨d', rfl⟩ : ∃ d', d = d' + 1 := ⟨d - 1, by omega⟩
  refine cb_159_48 hR  (fun {h} hR => ?_)
  rcases ko_call_ok hf with ⟨g1, v1, er, hf⟩ | ⟨g1, er, hq⟩
  · obtain ⟨hv, hf2⟩ := co_v_ok hf
    clear hf
    have hf := hf2
    clear hf2
    subst hv
    refine cr_156 (by omega) hR er (fun h hR => ?_)
    exact cr_159_56 hd hR hf k
  · refine cr_156 (by omega) hR er (fun h hR => ?_)
    exact ko_thrown hq hR k
def cf_159_41 (N : Nat) (X : Nat → Option zz_C) (x1 : Int32) (x2 : Int32) (x3 : Int64) (x5 : Int64) (x7 : Int64) (x9 : Int64) (y0 : Int32) (t : cS) : kO := if y0 = 0 then cf_159_57 N X x1 x2 x3 x5 x7 x9 t else cf_159_48 N X x1 y0 t
theorem cr_159_41 {X : Nat → Option zz_C} {s : mS} {N : Nat} {d : Nat} (hd : 12 ≤ d) {Q : zz_O → zz_H → Prop} {x1 : Int32} {x2 : Int32} {x3 : Int64} {x5 : Int64} {x7 : Int64} {x9 : Int64} {y0 : Int32} {h : zz_H} {t t' : cS} {o : kY} (hR : kR h t s) (hf : cf_159_41 N X x1 x2 x3 x5 x7 x9 y0 t = some (t', o)) (k : (∀ h', kR h' t' s → kE o Q h')) : zz_J zp_P zt_tf zt_fd X d zm_159 41 [(0, .ref 49), (1, .int x1), (2, .int x2), (3, .long x3), (5, .long x5), (7, .long x7), (9, .long x9)] [.int y0] h Q := by
  unfold cf_159_41 at hf
  refine cb_159_41 hR  (fun c {h} hR => ?_) (fun c {h} hR => ?_)
  · rw [if_pos c] at hf
    exact cr_159_57 hd hR hf k
  · rw [if_neg c] at hf
    exact cr_159_48 hd hR hf k
def cf_159_25 (N : Nat) (X : Nat → Option zz_C) (x1 : Int32) (x2 : Int32) (x3 : Int64) (x5 : Int64) (x7 : Int64) (y0 : Int64) (t : cS) : kO := ko_call 8 (cf_225 N X x3 y0 x7 x5 t) (fun g1 v1 => co_i v1 (fun y => cf_159_41 N X x1 x2 x3 x5 x7 y0 y g1))
theorem cr_159_25 {X : Nat → Option zz_C} {s : mS} {N : Nat} {d : Nat} (hd : 12 ≤ d) {Q : zz_O → zz_H → Prop} {x1 : Int32} {x2 : Int32} {x3 : Int64} {x5 : Int64} {x7 : Int64} {y0 : Int64} {h : zz_H} {t t' : cS} {o : kY} (hR : kR h t s) (hf : cf_159_25 N X x1 x2 x3 x5 x7 y0 t = some (t', o)) (k : (∀ h', kR h' t' s → kE o Q h')) : zz_J zp_P zt_tf zt_fd X d zm_159 25 [(0, .ref 49), (1, .int x1), (2, .int x2), (3, .long x3), (5, .long x5), (7, .long x7)] [.long y0] h Q := by
  unfold cf_159_25 at hf
  obtain ⟨d', rfl⟩ : ∃ d', d = d' + 1 := ⟨d - 1, by omega⟩
  refine cb_159_25 hR  (fun {h} hR => ?_)
  rcases ko_call_ok hf with ⟨g1, v1, er, hf⟩ | ⟨g1, er, hq⟩
  · obtain ⟨y, hv, hf2⟩ := co_i_ok hf
    clear hf
    have hf := hf2
    clear hf2
    subst hv
    refine cr_225 (by omega) hR er (fun h hR => ?_)
    exact cr_159_41 hd hR hf k
  · refine cr_225 (by omega) hR er (fun h hR => ?_)
    exact ko_thrown hq hR k
def cf_159_18 (N : Nat) (X : Nat → Option zz_C) (x1 : Int32) (x2 : Int32) (x3 : Int64) (x5 : Int64) (y0 : Int64) (t : cS) : kO := ko_call 3 (cf_167 N X 4 t) (fun g1 v1 => co_l v1 (fun y => cf_159_25 N X x1 x2 x3 x5 y0 y g1))
theorem cr_159_18 {X : Nat → Option zz_C} {s : mS} {N : Nat} {d : Nat} (hd : 12 ≤ d) {Q : zz_O → zz_H → Prop} {x1 : Int32} {x2 : Int32} {x3 : Int64} {x5 : Int64} {y0 : Int64} {h : zz_H} {t t' : cS} {o : kY} (hR : kR h t s) (hf : cf_159_18 N X x1 x2 x3 x5 y0 t = some (t', o)) (k : (∀ h', kR h' t' s → kE o Q h')) : zz_J zp_P zt_tf zt_fd X d zm_159 18 [(0, .ref 49), (1, .int x1), (2, .int x2), (3, .long x3), (5, .long x5)] [.long y0] h Q := by
  unfold cf_159_18 at hf
  obtain ⟨d', rfl⟩ : ∃ d', d = d' + 1 := ⟨d - 1, by omega⟩
  refine cb_159_18 hR  (fun {h} hR => ?_)
  rcases ko_call_ok hf with ⟨g1, v1, er, hf⟩ | ⟨g1, er, hq⟩
  · obtain ⟨y, hv, hf2⟩ := co_l_ok hf
    clear hf
    have hf := hf2
    clear hf2
    subst hv
    refine cr_167 (by omega) hR er (fun h hR => ?_)
    exact cr_159_25 hd hR hf k
  · refine cr_167 (by omega) hR er (fun h hR => ?_)
    exact ko_thrown hq hR k
def cf_159_11 (N : Nat) (X : Nat → Option zz_C) (x1 : Int32) (x2 : Int32) (x3 : Int64) (y0 : Int64) (t : cS) : kO := ko_call 3 (cf_167 N X 3 t) (fun g1 v1 => co_l v1 (fun y => cf_159_18 N X x1 x2 x3 y0 y g1))
theorem cr_159_11 {X : Nat → Option zz_C} {s : mS} {N : Nat} {d : Nat} (hd : 12 ≤ d) {Q : zz_O → zz_H → Prop} {x1 : Int32} {x2 : Int32} {x3 : Int64} {y0 : Int64} {h : zz_H} {t t' : cS} {o : kY} (hR : kR h t s) (hf : cf_159_11 N X x1 x2 x3 y0 t = some (t', o)) (k : (∀ h', kR h' t' s → kE o Q h')) : zz_J zp_P zt_tf zt_fd X d zm_159 11 [(0, .ref 49), (1, .int x1), (2, .int x2), (3, .long x3)] [.long y0] h Q := by
  unfold cf_159_11 at hf
  obtain ⟨d', rfl⟩ : ∃ d', d = d' + 1 := ⟨d - 1, by omega⟩
  refine cb_159_11 hR  (fun {h} hR => ?_)
  rcases ko_call_ok hf with ⟨g1, v1, er, hf⟩ | ⟨g1, er, hq⟩
  · obtain ⟨y, hv, hf2⟩ := co_l_ok hf
    clear hf
    have hf := hf2
    clear hf2
    subst hv
    refine cr_167 (by omega) hR er (fun h hR => ?_)
    exact cr_159_18 hd hR hf k
  · refine cr_167 (by omega) hR er (fun h hR => ?_)
    exact ko_thrown hq hR k
def cf_159_5 (N : Nat) (X : Nat → Option zz_C) (x1 : Int32) (x2 : Int32) (y0 : Int64) (t : cS) : kO := ko_call 3 (cf_167 N X 2 t) (fun g1 v1 => co_l v1 (fun y => cf_159_11 N X x1 x2 y0 y g1))
theorem cr_159_5 {X : Nat → Option zz_C} {s : mS} {N : Nat} {d : Nat} (hd : 12 ≤ d) {Q : zz_O → zz_H → Prop} {x1 : Int32} {x2 : Int32} {y0 : Int64} {h : zz_H} {t t' : cS} {o : kY} (hR : kR h t s) (hf : cf_159_5 N X x1 x2 y0 t = some (t', o)) (k : (∀ h', kR h' t' s → kE o Q h')) : zz_J zp_P zt_tf zt_fd X d zm_159 5 [(0, .ref 49), (1, .int x1), (2, .int x2)] [.long y0] h Q := by
  unfold cf_159_5 at hf
  obtain ⟨d', rfl⟩ : ∃ d', d = d' + 1 := ⟨d - 1, by omega⟩
  refine cb_159_5 hR  (fun {h} hR => ?_)
  rcases ko_call_ok hf with ⟨g1, v1, er, hf⟩ | ⟨g1, er, hq⟩
  · obtain ⟨y, hv, hf2⟩ := co_l_ok hf
    clear hf
    have hf := hf2
    clear hf2
    subst hv
    refine cr_167 (by omega) hR er (fun h hR => ?_)
    exact cr_159_11 hd hR hf k
  · refine cr_167 (by omega) hR er (fun h hR => ?_)
    exact ko_thrown hq hR k
def cf_159_0 (N : Nat) (X : Nat → Option zz_C) (x1 : Int32) (x2 : Int32) (t : cS) : kO := ko_call 3 (cf_167 N X 1 t) (fun g1 v1 => co_l v1 (fun y => cf_159_5 N X x1 x2 y g1))
theorem cr_159_0 {X : Nat → Option zz_C} {s : mS} {N : Nat} {d : Nat} (hd : 12 ≤ d) {Q : zz_O → zz_H → Prop} {x1 : Int32} {x2 : Int32} {h : zz_H} {t t' : cS} {o : kY} (hR : kR h t s) (hf : cf_159_0 N X x1 x2 t = some (t', o)) (k : (∀ h', kR h' t' s → kE o Q h')) : zz_J zp_P zt_tf zt_fd X d zm_159 0 [(0, .ref 49), (1, .int x1), (2, .int x2)] [] h Q := by
  unfold cf_159_0 at hf
  obtain ⟨d', rfl⟩ : ∃ d', d = d' + 1 := ⟨d - 1, by omega⟩
  refine cb_159_0 hR  (fun {h} hR => ?_)
  rcases ko_call_ok hf with ⟨g1, v1, er, hf⟩ | ⟨g1, er, hq⟩
  · obtain ⟨y, hv, hf2⟩ := co_l_ok hf
    clear hf
    have hf := hf2
    clear hf2
    subst hv
    refine cr_167 (by omega) hR er (fun h hR => ?_)
    exact cr_159_5 hd hR hf k
  · refine cr_167 (by omega) hR er (fun h hR => ?_)
    exact ko_thrown hq hR k
/-- putCell -/
def cf_159 (N : Nat) (X : Nat → Option zz_C) (x1 : Int32) (x2 : Int32) (t : cS) : kO := cf_159_0 N X x1 x2 t
theorem cr_159 {X : Nat → Option zz_C} {s : mS} {N : Nat} {d : Nat} (hd : 12 ≤ d) {Q : zz_O → zz_H → Prop} {x1 : Int32} {x2 : Int32} {h : zz_H} {t t' : cS} {o : kY} (hR : kR h t s) (hf : cf_159 N X x1 x2 t = some (t', o)) (k : ∀ h', kR h' t' s → kE o Q h') : zz_J zp_P zt_tf zt_fd X d zm_159 0 [(0, .ref 49), (1, .int x1), (2, .int x2)] [] h Q := by
  unfold cf_159 at hf
  exact zz_J.weak (cr_159_0 hd hR hf k) rfl ⟨rfl, rfl, rfl, trivial⟩
/-! yX3_beginWalk (I)V -/
theorem cb_160_0 {X : Nat → Option zz_C} {h : zz_H} {t : cS} {s : mS} {d : Nat} {Q : zz_O → zz_H → Prop} {x1 : Int32} (hR : kR h t s) (k : ∀ {h : zz_H}, kR h t s → zz_J zp_P zt_tf zt_fd X d zm_167 0 [(0, .ref 49), (1, .int 1)] [] h (zz_after 3 Q (fun v h' => zz_J zp_P zt_tf zt_fd X (d + 1) zm_160 5 [(0, .ref 49), (1, .int x1)] (v.toList ++ []) h' Q))) : zz_J zp_P zt_tf zt_fd X (d + 1) zm_160 0 [(0, .ref 49), (1, .int x1)] [] h Q := by
  refine zz_J.n 1 rfl rfl rfl ?_
  refine zz_J.c 2 (.int 1) rfl rfl rfl rfl ?_
  refine zz_J.cv 5 (as := []) rfl rfl (hR.clO ko_49 (by decide) (by decide)) (by decide) (Nat.le_of_ble_eq_true rfl) (Nat.le_of_ble_eq_true rfl) rfl (Nat.le_of_ble_eq_true rfl) rfl ?_
  refine zz_J.mono (k hR) ?_
  intro o h' hE
  cases o with
  | inl v => exact zz_J.weak hE rfl ⟨rfl, rfl, trivial⟩
  | inr q => exact hE
theorem cb_160_5 {X : Nat → Option zz_C} {h : zz_H} {t : cS} {s : mS} {d : Nat} {Q : zz_O → zz_H → Prop} {x1 : Int32} {y0 : Int64} (hR : kR h t s) (k : ∀ {h : zz_H}, kR h t s → zz_J zp_P zt_tf zt_fd X d zm_255 0 [(0, .long y0)] [] h (zz_after 1000 Q (fun v h' => zz_J zp_P zt_tf zt_fd X (d + 1) zm_160 8 [(0, .ref 49), (1, .int x1)] (v.toList ++ []) h' Q))) : zz_J zp_P zt_tf zt_fd X (d + 1) zm_160 5 [(0, .ref 49), (1, .int x1)] [.long y0] h Q := by
  refine zz_J.cl (M' := zm_255) 8 rfl rfl (by decide) rfl rfl ⟨rfl, Nat.le_of_ble_eq_true rfl⟩ rfl ?_
  refine zz_J.mono (k hR) ?_
  intro o h' hE
  cases o with
  | inl v => exact zz_J.weak hE rfl ⟨rfl, rfl, trivial⟩
  | inr q => exact hE
theorem cb_160_8 {X : Nat → Option zz_C} {h : zz_H} {t : cS} {s : mS} {d : Nat} {Q : zz_O → zz_H → Prop} {x1 : Int32} {y0 : Int32} (hR : kR h t s) (k1 : ¬ y0 = 0 → (∀ {h : zz_H}, kR h t s → zz_J zp_P zt_tf zt_fd X d zm_160 21 [(0, .ref 49)] [] h Q)) (k2 : ¬ ¬ y0 = 0 → (∀ {h : zz_H}, kR h t s → zz_J zp_P zt_tf zt_fd X d zm_160 11 [(0, .ref 49), (1, .int x1)] [] h Q)) : zz_J zp_P zt_tf zt_fd X d zm_160 8 [(0, .ref 49), (1, .int x1)] [.int y0] h Q := by
  refine zz_J.b1 21 11 (A := ¬ y0 = 0) rfl (zz_cond_ne _ _) (by decide) rfl rfl (fun c => ?_) (fun c => ?_)
  · exact zz_J.weak (k1 c hR) rfl ⟨rfl, trivial⟩
  · exact zz_J.weak (k2 c hR) rfl ⟨rfl, rfl, trivial⟩
theorem cb_160_11 {X : Nat → Option zz_C} {h : zz_H} {t : cS} {s : mS} {d : Nat} {Q : zz_O → zz_H → Prop} {x1 : Int32} (hR : kR h t s) (k : ∀ {h : zz_H}, kR h t s → zz_J zp_P zt_tf zt_fd X d zm_156 0 [(0, .ref 49), (1, .int 3), (2, .int x1), (3, .int 0)] [] h (zz_after 3 Q (fun v h' => zz_J zp_P zt_tf zt_fd X (d + 1) zm_160 18 [] (v.toList ++ []) h' Q))) : zz_J zp_P zt_tf zt_fd X (d + 1) zm_160 11 [(0, .ref 49), (1, .int x1)] [] h Q := by
  refine zz_J.n 12 rfl rfl rfl ?_
  refine zz_J.c 13 (.int 3) rfl rfl rfl rfl ?_
  refine zz_J.n 14 rfl rfl rfl ?_
  refine zz_J.c 15 (.int 0) rfl rfl rfl rfl ?_
  refine zz_J.cv 18 (as := []) rfl rfl (hR.clO ko_49 (by decide) (by decide)) (by decide) (Nat.le_of_ble_eq_true rfl) (Nat.le_of_ble_eq_true rfl) rfl (Nat.le_of_ble_eq_true rfl) rfl ?_
  refine zz_J.mono (k hR) ?_
  intro o h' hE
  cases o with
  | inl v => exact zz_J.weak hE rfl trivial
  | inr q => exact hE
theorem cb_160_18 {X : Nat → Option zz_C} {h : zz_H} {t : cS} {s : mS} {d : Nat} {Q : zz_O → zz_H → Prop}  (hR : kR h t s) (k : ∀ {h : zz_H}, kR h t s → zz_J zp_P zt_tf zt_fd X d zm_160 30 [] [] h Q) : zz_J zp_P zt_tf zt_fd X d zm_160 18 [] [] h Q := by
  refine zz_J.n 30 rfl rfl rfl ?_
  exact zz_J.weak (k hR) rfl trivial
theorem cb_160_21 {X : Nat → Option zz_C} {h : zz_H} {t : cS} {s : mS} {d : Nat} {Q : zz_O → zz_H → Prop}  (hR : kR h t s) (k : ∀ {h : zz_H}, kR h t s → zz_J zp_P zt_tf zt_fd X d zm_253 0 [(0, .int 0), (1, .int 0)] [] h (zz_after 1000 Q (fun v h' => zz_J zp_P zt_tf zt_fd X (d + 1) zm_160 27 [] (v.toList ++ [.ref 49]) h' Q))) : zz_J zp_P zt_tf zt_fd X (d + 1) zm_160 21 [(0, .ref 49)] [] h Q := by
  refine zz_J.n 22 rfl rfl rfl ?_
  refine zz_J.c 23 (.int 0) rfl rfl rfl rfl ?_
  refine zz_J.c 24 (.int 0) rfl rfl rfl rfl ?_
  refine zz_J.cl (M' := zm_253) 27 rfl rfl (by decide) rfl rfl ⟨rfl, Nat.le_of_ble_eq_true rfl⟩ rfl ?_
  refine zz_J.mono (k hR) ?_
  intro o h' hE
  cases o with
  | inl v => exact zz_J.weak hE rfl trivial
  | inr q => exact hE
theorem cb_160_27 {X : Nat → Option zz_C} {h : zz_H} {t : cS} {s : mS} {d : Nat} {Q : zz_O → zz_H → Prop} {y1 : Int64} (hR : kR h t s) (k : ∀ {h : zz_H}, kR h t s → zz_J zp_P zt_tf zt_fd X d zm_165 0 [(0, .ref 49), (1, .long y1)] [] h (zz_after 3 Q (fun v h' => zz_J zp_P zt_tf zt_fd X (d + 1) zm_160 30 [] (v.toList ++ []) h' Q))) : zz_J zp_P zt_tf zt_fd X (d + 1) zm_160 27 [] [.long y1, .ref 49] h Q := by
  refine zz_J.cv 30 (as := []) rfl rfl (hR.clO ko_49 (by decide) (by decide)) (by decide) (Nat.le_of_ble_eq_true rfl) (Nat.le_of_ble_eq_true rfl) rfl (Nat.le_of_ble_eq_true rfl) rfl ?_
  refine zz_J.mono (k hR) ?_
  intro o h' hE
  cases o with
  | inl v => exact zz_J.weak hE rfl trivial
  | inr q => exact hE
theorem cb_160_30 {X : Nat → Option zz_C} {h : zz_H} {t : cS} {s : mS} {d : Nat} {Q : zz_O → zz_H → Prop}  (hR : kR h t s) (k : ∀ {h : zz_H}, kR h t s → Q (.inl none) h) : zz_J zp_P zt_tf zt_fd X d zm_160 30 [] [] h Q := by
  refine zz_J.ret rfl rfl rfl ?_
  exact k hR
def cf_160_30 (N : Nat) (X : Nat → Option zz_C)  (t : cS) : kO := some (t, .inl none)
theorem cr_160_30 {X : Nat → Option zz_C} {s : mS} {N : Nat} {d : Nat} (hd : 10 ≤ d) {Q : zz_O → zz_H → Prop}  {h : zz_H} {t t' : cS} {o : kY} (hR : kR h t s) (hf : cf_160_30 N X  t = some (t', o)) (k : (∀ h', kR h' t' s → kE o Q h')) : zz_J zp_P zt_tf zt_fd X d zm_160 30 [] [] h Q := by
  unfold cf_160_30 at hf
  cases hf
  exact cb_160_30 hR  (fun {h} hR => k h hR)
def cf_160_27 (N : Nat) (X : Nat → Option zz_C) (y1 : Int64) (t : cS) : kO := ko_call 3 (cf_165 N X y1 t) (fun g1 v1 => co_v v1 (cf_160_30 N X  g1))
theorem cr_160_27 {X : Nat → Option zz_C} {s : mS} {N : Nat} {d : Nat} (hd : 10 ≤ d) {Q : zz_O → zz_H → Prop} {y1 : Int64} {h : zz_H} {t t' : cS} {o : kY} (hR : kR h t s) (hf : cf_160_27 N X y1 t = some (t', o)) (k : (∀ h', kR h' t' s → kE o Q h')) : zz_J zp_P zt_tf zt_fd X d zm_160 27 [] [.long y1, .ref 49] h Q := by
  unfold cf_160_27 at hf
  obtain ⟨d', rfl⟩ : ∃ d', d = d' + 1 := ⟨d - 1, by omega⟩
  refine cb_160_27 hR  (fun {h} hR => ?_)
  rcases ko_call_ok hf with ⟨g1, v1, er, hf⟩ | ⟨g1, er, hq⟩
  · obtain ⟨hv, hf2⟩ := co_v_ok hf
    clear hf
    have hf := hf2
    clear hf2
    subst hv
    refine cr_165 (by omega) hR er (fun h hR => ?_)
    exact cr_160_30 hd hR hf k
  · refine cr_165 (by omega) hR er (fun h hR => ?_)
    exact ko_thrown hq hR k
def cf_160_21 (N : Nat) (X : Nat → Option zz_C)  (t : cS) : kO := ko_call 1000 (cf_253 N X 0 0 t) (fun g1 v1 => co_l v1 (fun y => cf_160_27 N X y g1))
theorem cr_160_21 {X : Nat → Option zz_C} {s : mS} {N : Nat} {d : Nat} (hd : 10 ≤ d) {Q : zz_O → zz_H → Prop}  {h : zz_H} {t t' : cS} {o : kY} (hR : kR h t s) (hf : cf_160_21 N X  t = some (t', o)) (k : (∀ h', kR h' t' s → kE o Q h')) : zz_J zp_P zt_tf zt_fd X d zm_160 21 [(0, .ref 49)] [] h Q := by
  unfold cf_160_21 at hf
  obtain ⟨d', rfl⟩ : ∃ d', d = d' + 1 := ⟨d - 1, by omega⟩
  refine cb_160_21 hR  (fun {h} hR => ?_)
  rcases ko_call_ok hf with ⟨g1, v1, er, hf⟩ | ⟨g1, er, hq⟩
  · obtain ⟨y, hv, hf2⟩ := co_l_ok hf
    clear hf
    have hf := hf2
    clear hf2
    subst hv
    refine cr_253 (by omega) hR er (fun h hR => ?_)
    exact cr_160_27 hd hR hf k
  · refine cr_253 (by omega) hR er (fun h hR => ?_)
    exact ko_thrown hq hR k
def cf_160_18 (N : Nat) (X : Nat → Option zz_C)  (t : cS) : kO := cf_160_30 N X  t
theorem cr_160_18 {X : Nat → Option zz_C} {s : mS} {N : Nat} {d : Nat} (hd : 10 ≤ d) {Q : zz_O → zz_H → Prop}  {h : zz_H} {t t' : cS} {o : kY} (hR : kR h t s) (hf : cf_160_18 N X  t = some (t', o)) (k : (∀ h', kR h' t' s → kE o Q h')) : zz_J zp_P zt_tf zt_fd X d zm_160 18 [] [] h Q := by
  unfold cf_160_18 at hf
  exact cb_160_18 hR  (fun hR => cr_160_30 hd hR hf k)
def cf_160_11 (N : Nat) (X : Nat → Option zz_C) (x1 : Int32) (t : cS) : kO := ko_call 3 (cf_156 N X 3 x1 0 t) (fun g1 v1 => co_v v1 (cf_160_18 N X  g1))
theorem cr_160_11 {X : Nat → Option zz_C} {s : mS} {N : Nat} {d : Nat} (hd : 10 ≤ d) {Q : zz_O → zz_H → Prop} {x1 : Int32} {h : zz_H} {t t' : cS} {o : kY} (hR : kR h t s) (hf : cf_160_11 N X x1 t = some (t', o)) (k : (∀ h', kR h' t' s → kE o Q h')) : zz_J zp_P zt_tf zt_fd X d zm_160 11 [(0, .ref 49), (1, .int x1)] [] h Q := by
  unfold cf_160_11 at hf
  obtain ⟨d', rfl⟩ : ∃ d', d = d' + 1 := ⟨d - 1, by omega⟩
  refine cb_160_11 hR  (fun {h} hR => ?_)
  rcases ko_call_ok hf with ⟨g1, v1, er, hf⟩ | ⟨g1, er, hq⟩
  · obtain ⟨hv, hf2⟩ := co_v_ok hf
    clear hf
    have hf := hf2
    clear hf2
    subst hv
    refine cr_156 (by omega) hR er (fun h hR => ?_)
    exact cr_160_18 hd hR hf k
  · refine cr_156 (by omega) hR er (fun h hR => ?_)
    exact ko_thrown hq hR k
def cf_160_8 (N : Nat) (X : Nat → Option zz_C) (x1 : Int32) (y0 : Int32) (t : cS) : kO := if ¬ y0 = 0 then cf_160_21 N X  t else cf_160_11 N X x1 t
theorem cr_160_8 {X : Nat → Option zz_C} {s : mS} {N : Nat} {d : Nat} (hd : 10 ≤ d) {Q : zz_O → zz_H → Prop} {x1 : Int32} {y0 : Int32} {h : zz_H} {t t' : cS} {o : kY} (hR : kR h t s) (hf : cf_160_8 N X x1 y0 t = some (t', o)) (k : (∀ h', kR h' t' s → kE o Q h')) : zz_J zp_P zt_tf zt_fd X d zm_160 8 [(0, .ref 49), (1, .int x1)] [.int y0] h Q := by
  unfold cf_160_8 at hf
  refine cb_160_8 hR  (fun c {h} hR => ?_) (fun c {h} hR => ?_)
  · rw [if_pos c] at hf
    exact cr_160_21 hd hR hf k
  · rw [if_neg c] at hf
    exact cr_160_11 hd hR hf k
def cf_160_5 (N : Nat) (X : Nat → Option zz_C) (x1 : Int32) (y0 : Int64) (t : cS) : kO := ko_call 1000 (cf_255 N X y0 t) (fun g1 v1 => co_i v1 (fun y => cf_160_8 N X x1 y g1))
theorem cr_160_5 {X : Nat → Option zz_C} {s : mS} {N : Nat} {d : Nat} (hd : 10 ≤ d) {Q : zz_O → zz_H → Prop} {x1 : Int32} {y0 : Int64} {h : zz_H} {t t' : cS} {o : kY} (hR : kR h t s) (hf : cf_160_5 N X x1 y0 t = some (t', o)) (k : (∀ h', kR h' t' s → kE o Q h')) : zz_J zp_P zt_tf zt_fd X d zm_160 5 [(0, .ref 49), (1, .int x1)] [.long y0] h Q := by
  unfold cf_160_5 at hf
  obtain ⟨d', rfl⟩ : ∃ d', d = d' + 1 := ⟨d - 1, by omega⟩
  refine cb_160_5 hR  (fun {h} hR => ?_)
  rcases ko_call_ok hf with ⟨g1, v1, er, hf⟩ | ⟨g1, er, hq⟩
  · obtain ⟨y, hv, hf2⟩ := co_i_ok hf
    clear hf
    have hf := hf2
    clear hf2
    subst hv
    refine cr_255 (by omega) hR er (fun h hR => ?_)
    exact cr_160_8 hd hR hf k
  · refine cr_255 (by omega) hR er (fun h hR => ?_)
    exact ko_thrown hq hR k
def cf_160_0 (N : Nat) (X : Nat → Option zz_C) (x1 : Int32) (t : cS) : kO := ko_call 3 (cf_167 N X 1 t) (fun g1 v1 => co_l v1 (fun y => cf_160_5 N X x1 y g1))
theorem cr_160_0 {X : Nat → Option zz_C} {s : mS} {N : Nat} {d : Nat} (hd : 10 ≤ d) {Q : zz_O → zz_H → Prop} {x1 : Int32} {h : zz_H} {t t' : cS} {o : kY} (hR : kR h t s) (hf : cf_160_0 N X x1 t = some (t', o)) (k : (∀ h', kR h' t' s → kE o Q h')) : zz_J zp_P zt_tf zt_fd X d zm_160 0 [(0, .ref 49), (1, .int x1)] [] h Q := by
  unfold cf_160_0 at hf
  obtain ⟨d', rfl⟩ : ∃ d', d = d' + 1 := ⟨d - 1, by omega⟩
  refine cb_160_0 hR  (fun {h} hR => ?_)
  rcases ko_call_ok hf with ⟨g1, v1, er, hf⟩ | ⟨g1, er, hq⟩
  · obtain ⟨y, hv, hf2⟩ := co_l_ok hf
    clear hf
    have hf := hf2
    clear hf2
    subst hv
    refine cr_167 (by omega) hR er (fun h hR => ?_)
    exact cr_160_5 hd hR hf k
  · refine cr_167 (by omega) hR er (fun h hR => ?_)
    exact ko_thrown hq hR k
/-- beginWalk -/
def cf_160 (N : Nat) (X : Nat → Option zz_C) (x1 : Int32) (t : cS) : kO := cf_160_0 N X x1 t
theorem cr_160 {X : Nat → Option zz_C} {s : mS} {N : Nat} {d : Nat} (hd : 10 ≤ d) {Q : zz_O → zz_H → Prop} {x1 : Int32} {h : zz_H} {t t' : cS} {o : kY} (hR : kR h t s) (hf : cf_160 N X x1 t = some (t', o)) (k : ∀ h', kR h' t' s → kE o Q h') : zz_J zp_P zt_tf zt_fd X d zm_160 0 [(0, .ref 49), (1, .int x1)] [] h Q := by
  unfold cf_160 at hf
  exact zz_J.weak (cr_160_0 hd hR hf k) rfl ⟨rfl, rfl, trivial⟩
/-! yX9_step ()Z -/
theorem cb_235_0 {X : Nat → Option zz_C} {h : zz_H} {t : cS} {s : mS} {d : Nat} {Q : zz_O → zz_H → Prop}  (hR : kR h t s) (k1 : (kI t 48 2) < (kI t 48 1) → (∀ {h : zz_H}, kR h t s → zz_J zp_P zt_tf zt_fd X d zm_235 13 [(0, .ref 48)] [] h Q)) (k2 : ¬ (kI t 48 2) < (kI t 48 1) → (∀ {h : zz_H}, kR h t s → zz_J zp_P zt_tf zt_fd X d zm_235 11 [] [] h Q)) : zz_J zp_P zt_tf zt_fd X d zm_235 0 [(0, .ref 48)] [] h Q := by
  refine zz_J.n 1 rfl rfl rfl ?_
  refine zz_J.g 4 rfl (hR.gv (v := .int (kI t 48 2)) ko_48 (by decide) rfl) rfl ?_
  refine zz_J.n 5 rfl rfl rfl ?_
  refine zz_J.g 8 rfl (hR.gv (v := .int (kI t 48 1)) ko_48 (by decide) rfl) rfl ?_
  refine zz_J.b2 13 11 (A := (kI t 48 2) < (kI t 48 1)) rfl rfl (by decide) rfl rfl (fun c => ?_) (fun c => ?_)
  · exact zz_J.weak (k1 c hR) rfl ⟨rfl, trivial⟩
  · exact zz_J.weak (k2 c hR) rfl trivial
theorem cb_235_11 {X : Nat → Option zz_C} {h : zz_H} {t : cS} {s : mS} {d : Nat} {Q : zz_O → zz_H → Prop}  (hR : kR h t s) (k : ∀ {h : zz_H}, kR h t s → Q (.inl (some (.int 0))) h) : zz_J zp_P zt_tf zt_fd X d zm_235 11 [] [] h Q := by
  refine zz_J.c 12 (.int 0) rfl rfl rfl rfl ?_
  refine zz_J.ret rfl rfl rfl ?_
  exact k hR
theorem cb_235_13 {X : Nat → Option zz_C} {h : zz_H} {t : cS} {s : mS} {d : Nat} {Q : zz_O → zz_H → Prop}  (hR : kR h t s) (k : ∀ {h : zz_H}, kR h (jI t 48 2 ((kI t 48 2) + 1)) s → Q (.inl (some (.int 1))) h) : zz_J zp_P zt_tf zt_fd X d zm_235 13 [(0, .ref 48)] [] h Q := by
  refine zz_J.n 14 rfl rfl rfl ?_
  refine zz_J.n 15 rfl rfl rfl ?_
  refine zz_J.g 18 rfl (hR.gv (v := .int (kI t 48 2)) ko_48 (by decide) rfl) rfl ?_
  refine zz_J.c 19 (.int 1) rfl rfl rfl rfl ?_
  refine zz_J.n 20 rfl rfl rfl ?_
  obtain ⟨h1, eq1, hR⟩ := hR.pI (x := ((kI t 48 2) + 1)) (by decide) ko_48 (kpi_48_2 _) (Nat.le_of_ble_eq_true rfl) rfl
  refine zz_J.pv 23 rfl eq1 rfl ?_
  clear eq1
  refine zz_J.c 24 (.int 1) rfl rfl rfl rfl ?_
  refine zz_J.ret rfl rfl rfl ?_
  exact k hR
def cf_235_13 (N : Nat) (X : Nat → Option zz_C)  (t : cS) : kO := some ((jI t 48 2 ((kI t 48 2) + 1)), .inl (some (.int 1)))
theorem cr_235_13 {X : Nat → Option zz_C} {s : mS} {N : Nat} {d : Nat} (hd : 0 ≤ d) {Q : zz_O → zz_H → Prop}  {h : zz_H} {t t' : cS} {o : kY} (hR : kR h t s) (hf : cf_235_13 N X  t = some (t', o)) (k : (∀ h', kR h' t' s → kE o Q h')) : zz_J zp_P zt_tf zt_fd X d zm_235 13 [(0, .ref 48)] [] h Q := by
  unfold cf_235_13 at hf
  cases hf
  exact cb_235_13 hR  (fun {h} hR => k h hR)
def cf_235_11 (N : Nat) (X : Nat → Option zz_C)  (t : cS) : kO := some (t, .inl (some (.int 0)))
theorem cr_235_11 {X : Nat → Option zz_C} {s : mS} {N : Nat} {d : Nat} (hd : 0 ≤ d) {Q : zz_O → zz_H → Prop}  {h : zz_H} {t t' : cS} {o : kY} (hR : kR h t s) (hf : cf_235_11 N X  t = some (t', o)) (k : (∀ h', kR h' t' s → kE o Q h')) : zz_J zp_P zt_tf zt_fd X d zm_235 11 [] [] h Q := by
  unfold cf_235_11 at hf
  cases hf
  exact cb_235_11 hR  (fun {h} hR => k h hR)
def cf_235_0 (N : Nat) (X : Nat → Option zz_C)  (t : cS) : kO := if (kI t 48 2) < (kI t 48 1) then cf_235_13 N X  t else cf_235_11 N X  t
theorem cr_235_0 {X : Nat → Option zz_C} {s : mS} {N : Nat} {d : Nat} (hd : 0 ≤ d) {Q : zz_O → zz_H → Prop}  {h : zz_H} {t t' : cS} {o : kY} (hR : kR h t s) (hf : cf_235_0 N X  t = some (t', o)) (k : (∀ h', kR h' t' s → kE o Q h')) : zz_J zp_P zt_tf zt_fd X d zm_235 0 [(0, .ref 48)] [] h Q := by
  unfold cf_235_0 at hf
  refine cb_235_0 hR  (fun c {h} hR => ?_) (fun c {h} hR => ?_)
  · rw [if_pos c] at hf
    exact cr_235_13 hd hR hf k
  · rw [if_neg c] at hf
    exact cr_235_11 hd hR hf k
/-- step -/
def cf_235 (N : Nat) (X : Nat → Option zz_C)  (t : cS) : kO := cf_235_0 N X  t
theorem cr_235 {X : Nat → Option zz_C} {s : mS} {N : Nat} {d : Nat} (hd : 0 ≤ d) {Q : zz_O → zz_H → Prop}  {h : zz_H} {t t' : cS} {o : kY} (hR : kR h t s) (hf : cf_235 N X  t = some (t', o)) (k : ∀ h', kR h' t' s → kE o Q h') : zz_J zp_P zt_tf zt_fd X d zm_235 0 [(0, .ref 48)] [] h Q := by
  unfold cf_235 at hf
  exact zz_J.weak (cr_235_0 hd hR hf k) rfl ⟨rfl, trivial⟩
/-! yX3_step (I)Z -/
theorem cb_146_0 {X : Nat → Option zz_C} {h : zz_H} {t : cS} {s : mS} {d : Nat} {Q : zz_O → zz_H → Prop} {x1 : Int32} (hR : kR h t s) (k : ∀ {h : zz_H}, kR h t s → zz_J zp_P zt_tf zt_fd X d zm_235 0 [(0, .ref 48)] [] h (zz_after 9 Q (fun v h' => zz_J zp_P zt_tf zt_fd X (d + 1) zm_146 7 [(0, .ref 49), (1, .int x1)] (v.toList ++ []) h' Q))) : zz_J zp_P zt_tf zt_fd X (d + 1) zm_146 0 [(0, .ref 49), (1, .int x1)] [] h Q := by
  refine zz_J.n 1 rfl rfl rfl ?_
  refine zz_J.g 4 rfl (hR.gv (v := .ref 48) ko_49 (by decide) rfl) rfl ?_
  refine zz_J.cv 7 (as := []) rfl rfl (hR.clO ko_48 (by decide) (by decide)) (by decide) (Nat.le_of_ble_eq_true rfl) (Nat.le_of_ble_eq_true rfl) rfl (Nat.le_of_ble_eq_true rfl) rfl ?_
  refine zz_J.mono (k hR) ?_
  intro o h' hE
  cases o with
  | inl v => exact zz_J.weak hE rfl ⟨rfl, rfl, trivial⟩
  | inr q => exact hE
theorem cb_146_7 {X : Nat → Option zz_C} {h : zz_H} {t : cS} {s : mS} {d : Nat} {Q : zz_O → zz_H → Prop} {x1 : Int32} {y0 : Int32} (hR : kR h t s) (k1 : ¬ y0 = 0 → (∀ {h : zz_H}, kR h t s → zz_J zp_P zt_tf zt_fd X d zm_146 20 [(2, .int y0)] [] h Q)) (k2 : ¬ ¬ y0 = 0 → (∀ {h : zz_H}, kR h t s → zz_J zp_P zt_tf zt_fd X d zm_146 12 [(0, .ref 49), (1, .int x1), (2, .int y0)] [] h Q)) : zz_J zp_P zt_tf zt_fd X d zm_146 7 [(0, .ref 49), (1, .int x1)] [.int y0] h Q := by
  refine zz_J.n 8 rfl rfl rfl ?_
  refine zz_J.n 9 rfl rfl rfl ?_
  refine zz_J.b1 20 12 (A := ¬ y0 = 0) rfl (zz_cond_ne _ _) (by decide) rfl rfl (fun c => ?_) (fun c => ?_)
  · exact zz_J.weak (k1 c hR) rfl ⟨rfl, trivial⟩
  · exact zz_J.weak (k2 c hR) rfl ⟨rfl, rfl, rfl, trivial⟩
theorem cb_146_12 {X : Nat → Option zz_C} {h : zz_H} {t : cS} {s : mS} {d : Nat} {Q : zz_O → zz_H → Prop} {x1 : Int32} {x2 : Int32} (hR : kR h t s) (k : ∀ {h : zz_H}, kR h t s → zz_J zp_P zt_tf zt_fd X d zm_156 0 [(0, .ref 49), (1, .int 10), (2, .int x1), (3, .int 0)] [] h (zz_after 3 Q (fun v h' => zz_J zp_P zt_tf zt_fd X (d + 1) zm_146 20 [(2, .int x2)] (v.toList ++ []) h' Q))) : zz_J zp_P zt_tf zt_fd X (d + 1) zm_146 12 [(0, .ref 49), (1, .int x1), (2, .int x2)] [] h Q := by
  refine zz_J.n 13 rfl rfl rfl ?_
  refine zz_J.c 15 (.int 10) rfl rfl rfl rfl ?_
  refine zz_J.n 16 rfl rfl rfl ?_
  refine zz_J.c 17 (.int 0) rfl rfl rfl rfl ?_
  refine zz_J.cv 20 (as := []) rfl rfl (hR.clO ko_49 (by decide) (by decide)) (by decide) (Nat.le_of_ble_eq_true rfl) (Nat.le_of_ble_eq_true rfl) rfl (Nat.le_of_ble_eq_true rfl) rfl ?_
  refine zz_J.mono (k hR) ?_
  intro o h' hE
  cases o with
  | inl v => exact zz_J.weak hE rfl ⟨rfl, trivial⟩
  | inr q => exact hE
theorem cb_146_20 {X : Nat → Option zz_C} {h : zz_H} {t : cS} {s : mS} {d : Nat} {Q : zz_O → zz_H → Prop} {x2 : Int32} (hR : kR h t s) (k : ∀ {h : zz_H}, kR h t s → Q (.inl (some (.int x2))) h) (rb : zz_reti (some .boolean) x2 = true) : zz_J zp_P zt_tf zt_fd X d zm_146 20 [(2, .int x2)] [] h Q := by
  refine zz_J.n 21 rfl rfl rfl ?_
  refine zz_J.ret rfl rfl (if_pos ⟨rfl, rb⟩) ?_
  exact k hR
def cf_146_20 (N : Nat) (X : Nat → Option zz_C) (x2 : Int32) (t : cS) : kO := if zz_reti (some .boolean) x2 = true then some (t, .inl (some (.int x2))) else none
theorem cr_146_20 {X : Nat → Option zz_C} {s : mS} {N : Nat} {d : Nat} (hd : 2 ≤ d) {Q : zz_O → zz_H → Prop} {x2 : Int32} {h : zz_H} {t t' : cS} {o : kY} (hR : kR h t s) (hf : cf_146_20 N X x2 t = some (t', o)) (k : (∀ h', kR h' t' s → kE o Q h')) : zz_J zp_P zt_tf zt_fd X d zm_146 20 [(2, .int x2)] [] h Q := by
  unfold cf_146_20 at hf
  obtain ⟨rb, hf⟩ := ko_if hf
  cases hf
  exact cb_146_20 hR  (fun {h} hR => k h hR) rb
def cf_146_12 (N : Nat) (X : Nat → Option zz_C) (x1 : Int32) (x2 : Int32) (t : cS) : kO := ko_call 3 (cf_156 N X 10 x1 0 t) (fun g1 v1 => co_v v1 (cf_146_20 N X x2 g1))
theorem cr_146_12 {X : Nat → Option zz_C} {s : mS} {N : Nat} {d : Nat} (hd : 2 ≤ d) {Q : zz_O → zz_H → Prop} {x1 : Int32} {x2 : Int32} {h : zz_H} {t t' : cS} {o : kY} (hR : kR h t s) (hf : cf_146_12 N X x1 x2 t = some (t', o)) (k : (∀ h', kR h' t' s → kE o Q h')) : zz_J zp_P zt_tf zt_fd X d zm_146 12 [(0, .ref 49), (1, .int x1), (2, .int x2)] [] h Q := by
  unfold cf_146_12 at hf
  obtain ⟨d', rfl⟩ : ∃ d', d = d' + 1 := ⟨d - 1, by omega⟩
  refine cb_146_12 hR  (fun {h} hR => ?_)
  rcases ko_call_ok hf with ⟨g1, v1, er, hf⟩ | ⟨g1, er, hq⟩
  · obtain ⟨hv, hf2⟩ := co_v_ok hf
    clear hf
    have hf := hf2
    clear hf2
    subst hv
    refine cr_156 (by omega) hR er (fun h hR => ?_)
    exact cr_146_20 hd hR hf k
  · refine cr_156 (by omega) hR er (fun h hR => ?_)
    exact ko_thrown hq hR k
def cf_146_7 (N : Nat) (X : Nat → Option zz_C) (x1 : Int32) (y0 : Int32) (t : cS) : kO := if ¬ y0 = 0 then cf_146_20 N X y0 t else cf_146_12 N X x1 y0 t
theorem cr_146_7 {X : Nat → Option zz_C} {s : mS} {N : Nat} {d : Nat} (hd : 2 ≤ d) {Q : zz_O → zz_H → Prop} {x1 : Int32} {y0 : Int32} {h : zz_H} {t t' : cS} {o : kY} (hR : kR h t s) (hf : cf_146_7 N X x1 y0 t = some (t', o)) (k : (∀ h', kR h' t' s → kE o Q h')) : zz_J zp_P zt_tf zt_fd X d zm_146 7 [(0, .ref 49), (1, .int x1)] [.int y0] h Q := by
  unfold cf_146_7 at hf
  refine cb_146_7 hR  (fun c {h} hR => ?_) (fun c {h} hR => ?_)
  · rw [if_pos c] at hf
    exact cr_146_20 hd hR hf k
  · rw [if_neg c] at hf
    exact cr_146_12 hd hR hf k
def cf_146_0 (N : Nat) (X : Nat → Option zz_C) (x1 : Int32) (t : cS) : kO := ko_call 9 (cf_235 N X  t) (fun g1 v1 => co_i v1 (fun y => cf_146_7 N X x1 y g1))
theorem cr_146_0 {X : Nat → Option zz_C} {s : mS} {N : Nat} {d : Nat} (hd : 2 ≤ d) {Q : zz_O → zz_H → Prop} {x1 : Int32} {h : zz_H} {t t' : cS} {o : kY} (hR : kR h t s) (hf : cf_146_0 N X x1 t = some (t', o)) (k : (∀ h', kR h' t' s → kE o Q h')) : zz_J zp_P zt_tf zt_fd X d zm_146 0 [(0, .ref 49), (1, .int x1)] [] h Q := by
  unfold cf_146_0 at hf
  obtain ⟨d', rfl⟩ : ∃ d', d = d' + 1 := ⟨d - 1, by omega⟩
  refine cb_146_0 hR  (fun {h} hR => ?_)
  rcases ko_call_ok hf with ⟨g1, v1, er, hf⟩ | ⟨g1, er, hq⟩
  · obtain ⟨y, hv, hf2⟩ := co_i_ok hf
    clear hf
    have hf := hf2
    clear hf2
    subst hv
    refine cr_235 (by omega) hR er (fun h hR => ?_)
    exact cr_146_7 hd hR hf k
  · refine cr_235 (by omega) hR er (fun h hR => ?_)
    exact ko_thrown hq hR k
/-- step -/
def cf_146 (N : Nat) (X : Nat → Option zz_C) (x1 : Int32) (t : cS) : kO := cf_146_0 N X x1 t
theorem cr_146 {X : Nat → Option zz_C} {s : mS} {N : Nat} {d : Nat} (hd : 2 ≤ d) {Q : zz_O → zz_H → Prop} {x1 : Int32} {h : zz_H} {t t' : cS} {o : kY} (hR : kR h t s) (hf : cf_146 N X x1 t = some (t', o)) (k : ∀ h', kR h' t' s → kE o Q h') : zz_J zp_P zt_tf zt_fd X d zm_146 0 [(0, .ref 49), (1, .int x1)] [] h Q := by
  unfold cf_146 at hf
  exact zz_J.weak (cr_146_0 hd hR hf k) rfl ⟨rfl, rfl, trivial⟩
/-! yX3_nextOfEach (II)V -/
theorem cb_161_0 {X : Nat → Option zz_C} {h : zz_H} {t : cS} {s : mS} {d : Nat} {Q : zz_O → zz_H → Prop} {x1 : Int32} {x2 : Int32} (hR : kR h t s) (k : ∀ {h : zz_H}, kR h t s → zz_J zp_P zt_tf zt_fd X d zm_167 0 [(0, .ref 49), (1, .int 1)] [] h (zz_after 3 Q (fun v h' => zz_J zp_P zt_tf zt_fd X (d + 1) zm_161 5 [(0, .ref 49), (1, .int x1), (2, .int x2)] (v.toList ++ []) h' Q))) : zz_J zp_P zt_tf zt_fd X (d + 1) zm_161 0 [(0, .ref 49), (1, .int x1), (2, .int x2)] [] h Q := by
  refine zz_J.n 1 rfl rfl rfl ?_
  refine zz_J.c 2 (.int 1) rfl rfl rfl rfl ?_
  refine zz_J.cv 5 (as := []) rfl rfl (hR.clO ko_49 (by decide) (by decide)) (by decide) (Nat.le_of_ble_eq_true rfl) (Nat.le_of_ble_eq_true rfl) rfl (Nat.le_of_ble_eq_true rfl) rfl ?_
  refine zz_J.mono (k hR) ?_
  intro o h' hE
  cases o with
  | inl v => exact zz_J.weak hE rfl ⟨rfl, rfl, rfl, trivial⟩
  | inr q => exact hE
theorem cb_161_5 {X : Nat → Option zz_C} {h : zz_H} {t : cS} {s : mS} {d : Nat} {Q : zz_O → zz_H → Prop} {x1 : Int32} {x2 : Int32} {y0 : Int64} (hR : kR h t s) (k : ∀ {h : zz_H}, kR h t s → zz_J zp_P zt_tf zt_fd X d zm_256 0 [(0, .long y0)] [] h (zz_after 1000 Q (fun v h' => zz_J zp_P zt_tf zt_fd X (d + 1) zm_161 8 [(0, .ref 49), (1, .int x1), (2, .int x2)] (v.toList ++ []) h' Q))) : zz_J zp_P zt_tf zt_fd X (d + 1) zm_161 5 [(0, .ref 49), (1, .int x1), (2, .int x2)] [.long y0] h Q := by
  refine zz_J.cl (M' := zm_256) 8 rfl rfl (by decide) rfl rfl ⟨rfl, Nat.le_of_ble_eq_true rfl⟩ rfl ?_
  refine zz_J.mono (k hR) ?_
  intro o h' hE
  cases o with
  | inl v => exact zz_J.weak hE rfl ⟨rfl, rfl, rfl, trivial⟩
  | inr q => exact hE
theorem cb_161_8 {X : Nat → Option zz_C} {h : zz_H} {t : cS} {s : mS} {d : Nat} {Q : zz_O → zz_H → Prop} {x1 : Int32} {x2 : Int32} {y0 : Int32} (hR : kR h t s) (k : ∀ {h : zz_H}, kR h t s → zz_J zp_P zt_tf zt_fd X d zm_167 0 [(0, .ref 49), (1, .int (y0 + 2))] [] h (zz_after 3 Q (fun v h' => zz_J zp_P zt_tf zt_fd X (d + 1) zm_161 16 [(0, .ref 49), (1, .int x1), (2, .int x2), (3, .int y0)] (v.toList ++ []) h' Q))) : zz_J zp_P zt_tf zt_fd X (d + 1) zm_161 8 [(0, .ref 49), (1, .int x1), (2, .int x2)] [.int y0] h Q := by
  refine zz_J.n 9 rfl rfl rfl ?_
  refine zz_J.n 10 rfl rfl rfl ?_
  refine zz_J.n 11 rfl rfl rfl ?_
  refine zz_J.c 12 (.int 2) rfl rfl rfl rfl ?_
  refine zz_J.n 13 rfl rfl rfl ?_
  refine zz_J.cv 16 (as := []) rfl rfl (hR.clO ko_49 (by decide) (by decide)) (by decide) (Nat.le_of_ble_eq_true rfl) (Nat.le_of_ble_eq_true rfl) rfl (Nat.le_of_ble_eq_true rfl) rfl ?_
  refine zz_J.mono (k hR) ?_
  intro o h' hE
  cases o with
  | inl v => exact zz_J.weak hE rfl ⟨rfl, rfl, rfl, rfl, trivial⟩
  | inr q => exact hE
theorem cb_161_16 {X : Nat → Option zz_C} {h : zz_H} {t : cS} {s : mS} {d : Nat} {Q : zz_O → zz_H → Prop} {x1 : Int32} {x2 : Int32} {x3 : Int32} {y0 : Int64} (hR : kR h t s) (k : ∀ {h : zz_H}, kR h t s → zz_J zp_P zt_tf zt_fd X d zm_128 0 [(0, .ref 42), (1, .long y0)] [] h (zz_after 2 Q (fun v h' => zz_J zp_P zt_tf zt_fd X (d + 1) zm_161 28 [(0, .ref 49), (1, .int x1), (2, .int x2), (3, .int x3), (4, .long y0)] (v.toList ++ [.int x3]) h' Q))) : zz_J zp_P zt_tf zt_fd X (d + 1) zm_161 16 [(0, .ref 49), (1, .int x1), (2, .int x2), (3, .int x3)] [.long y0] h Q := by
  refine zz_J.n 18 rfl rfl rfl ?_
  refine zz_J.n 19 rfl rfl rfl ?_
  refine zz_J.n 20 rfl rfl rfl ?_
  refine zz_J.g 23 rfl (hR.gv (v := .ref 42) ko_49 (by decide) rfl) rfl ?_
  refine zz_J.n 25 rfl rfl rfl ?_
  refine zz_J.cv 28 (as := [.int x3]) rfl rfl (hR.clO ko_42 (by decide) (by decide)) (by decide) (Nat.le_of_ble_eq_true rfl) (Nat.le_of_ble_eq_true rfl) rfl (Nat.le_of_ble_eq_true rfl) rfl ?_
  refine zz_J.mono (k hR) ?_
  intro o h' hE
  cases o with
  | inl v => exact zz_J.weak hE rfl ⟨rfl, rfl, rfl, rfl, rfl, trivial⟩
  | inr q => exact hE
theorem cb_161_28 {X : Nat → Option zz_C} {h : zz_H} {t : cS} {s : mS} {d : Nat} {Q : zz_O → zz_H → Prop} {x1 : Int32} {x2 : Int32} {x3 : Int32} {x4 : Int64} {y0 : Int32} {y1 : Int32} (hR : kR h t s) (k1 : y1 ≤ y0 → (∀ {h : zz_H}, kR h t s → zz_J zp_P zt_tf zt_fd X d zm_161 61 [(0, .ref 49), (2, .int x2), (3, .int x3), (4, .long x4)] [] h Q)) (k2 : ¬ y1 ≤ y0 → (∀ {h : zz_H}, kR h t s → zz_J zp_P zt_tf zt_fd X d zm_161 31 [(0, .ref 49), (1, .int x1), (2, .int x2), (3, .int x3), (4, .long x4)] [] h Q)) : zz_J zp_P zt_tf zt_fd X d zm_161 28 [(0, .ref 49), (1, .int x1), (2, .int x2), (3, .int x3), (4, .long x4)] [.int y1, .int y0] h Q := by
  refine zz_J.b2 61 31 (A := y1 ≤ y0) rfl rfl (by decide) rfl rfl (fun c => ?_) (fun c => ?_)
  · exact zz_J.weak (k1 c hR) rfl ⟨rfl, rfl, rfl, rfl, trivial⟩
  · exact zz_J.weak (k2 c hR) rfl ⟨rfl, rfl, rfl, rfl, rfl, trivial⟩
theorem cb_161_31 {X : Nat → Option zz_C} {h : zz_H} {t : cS} {s : mS} {d : Nat} {Q : zz_O → zz_H → Prop} {x1 : Int32} {x2 : Int32} {x3 : Int32} {x4 : Int64} (hR : kR h t s) (k : ∀ {h : zz_H}, kR h t s → zz_J zp_P zt_tf zt_fd X d zm_146 0 [(0, .ref 49), (1, .int x2)] [] h (zz_after 3 Q (fun v h' => zz_J zp_P zt_tf zt_fd X (d + 1) zm_161 36 [(0, .ref 49), (1, .int x1), (2, .int x2), (3, .int x3), (4, .long x4)] (v.toList ++ []) h' Q))) : zz_J zp_P zt_tf zt_fd X (d + 1) zm_161 31 [(0, .ref 49), (1, .int x1), (2, .int x2), (3, .int x3), (4, .long x4)] [] h Q := by
  refine zz_J.n 32 rfl rfl rfl ?_
  refine zz_J.n 33 rfl rfl rfl ?_
  refine zz_J.cv 36 (as := []) rfl rfl (hR.clO ko_49 (by decide) (by decide)) (by decide) (Nat.le_of_ble_eq_true rfl) (Nat.le_of_ble_eq_true rfl) rfl (Nat.le_of_ble_eq_true rfl) rfl ?_
  refine zz_J.mono (k hR) ?_
  intro o h' hE
  cases o with
  | inl v => exact zz_J.weak hE rfl ⟨rfl, rfl, rfl, rfl, rfl, trivial⟩
  | inr q => exact hE
theorem cb_161_36 {X : Nat → Option zz_C} {h : zz_H} {t : cS} {s : mS} {d : Nat} {Q : zz_O → zz_H → Prop} {x1 : Int32} {x2 : Int32} {x3 : Int32} {x4 : Int64} {y0 : Int32} (hR : kR h t s) (k1 : y0 = 0 → (∀ {h : zz_H}, kR h t s → zz_J zp_P zt_tf zt_fd X d zm_161 60 [] [] h Q)) (k2 : ¬ y0 = 0 → (∀ {h : zz_H}, kR h t s → zz_J zp_P zt_tf zt_fd X d zm_161 39 [(0, .ref 49), (1, .int x1), (2, .int x2), (3, .int x3), (4, .long x4)] [] h Q)) : zz_J zp_P zt_tf zt_fd X d zm_161 36 [(0, .ref 49), (1, .int x1), (2, .int x2), (3, .int x3), (4, .long x4)] [.int y0] h Q := by
  refine zz_J.b1 60 39 (A := y0 = 0) rfl rfl (by decide) rfl rfl (fun c => ?_) (fun c => ?_)
  · exact zz_J.weak (k1 c hR) rfl trivial
  · exact zz_J.weak (k2 c hR) rfl ⟨rfl, rfl, rfl, rfl, rfl, trivial⟩
theorem cb_161_39 {X : Nat → Option zz_C} {h : zz_H} {t : cS} {s : mS} {d : Nat} {Q : zz_O → zz_H → Prop} {x1 : Int32} {x2 : Int32} {x3 : Int32} {x4 : Int64} (hR : kR h t s) (k : ∀ {h : zz_H}, kR h t s → zz_J zp_P zt_tf zt_fd X d zm_129 0 [(0, .ref 42), (1, .long x4), (3, .int x3)] [] h (zz_after 2 Q (fun v h' => zz_J zp_P zt_tf zt_fd X (d + 1) zm_161 50 [(0, .ref 49), (1, .int x1), (2, .int x2)] (v.toList ++ [.ref 49]) h' Q))) : zz_J zp_P zt_tf zt_fd X (d + 1) zm_161 39 [(0, .ref 49), (1, .int x1), (2, .int x2), (3, .int x3), (4, .long x4)] [] h Q := by
  refine zz_J.n 40 rfl rfl rfl ?_
  refine zz_J.n 41 rfl rfl rfl ?_
  refine zz_J.g 44 rfl (hR.gv (v := .ref 42) ko_49 (by decide) rfl) rfl ?_
  refine zz_J.n 46 rfl rfl rfl ?_
  refine zz_J.n 47 rfl rfl rfl ?_
  refine zz_J.cv 50 (as := [.ref 49]) rfl rfl (hR.clO ko_42 (by decide) (by decide)) (by decide) (Nat.le_of_ble_eq_true rfl) (Nat.le_of_ble_eq_true rfl) rfl (Nat.le_of_ble_eq_true rfl) rfl ?_
  refine zz_J.mono (k hR) ?_
  intro o h' hE
  cases o with
  | inl v => exact zz_J.weak hE rfl ⟨rfl, rfl, rfl, trivial⟩
  | inr q => exact hE
theorem cb_161_50 {X : Nat → Option zz_C} {h : zz_H} {t : cS} {s : mS} {d : Nat} {Q : zz_O → zz_H → Prop} {x1 : Int32} {x2 : Int32} {y1 : Int64} (hR : kR h t s) (k : ∀ {h : zz_H}, kR h t s → zz_J zp_P zt_tf zt_fd X d zm_165 0 [(0, .ref 49), (1, .long y1)] [] h (zz_after 3 Q (fun v h' => zz_J zp_P zt_tf zt_fd X (d + 1) zm_161 53 [(0, .ref 49), (1, .int x1), (2, .int x2)] (v.toList ++ []) h' Q))) : zz_J zp_P zt_tf zt_fd X (d + 1) zm_161 50 [(0, .ref 49), (1, .int x1), (2, .int x2)] [.long y1, .ref 49] h Q := by
  refine zz_J.cv 53 (as := []) rfl rfl (hR.clO ko_49 (by decide) (by decide)) (by decide) (Nat.le_of_ble_eq_true rfl) (Nat.le_of_ble_eq_true rfl) rfl (Nat.le_of_ble_eq_true rfl) rfl ?_
  refine zz_J.mono (k hR) ?_
  intro o h' hE
  cases o with
  | inl v => exact zz_J.weak hE rfl ⟨rfl, rfl, rfl, trivial⟩
  | inr q => exact hE
theorem cb_161_53 {X : Nat → Option zz_C} {h : zz_H} {t : cS} {s : mS} {d : Nat} {Q : zz_O → zz_H → Prop} {x1 : Int32} {x2 : Int32} (hR : kR h t s) (k : ∀ {h : zz_H}, kR h t s → zz_J zp_P zt_tf zt_fd X d zm_157 0 [(0, .ref 49), (1, .int x1), (2, .int 1), (3, .int x2)] [] h (zz_after 3 Q (fun v h' => zz_J zp_P zt_tf zt_fd X (d + 1) zm_161 60 [] (v.toList ++ []) h' Q))) : zz_J zp_P zt_tf zt_fd X (d + 1) zm_161 53 [(0, .ref 49), (1, .int x1), (2, .int x2)] [] h Q := by
  refine zz_J.n 54 rfl rfl rfl ?_
  refine zz_J.n 55 rfl rfl rfl ?_
  refine zz_J.c 56 (.int 1) rfl rfl rfl rfl ?_
  refine zz_J.n 57 rfl rfl rfl ?_
  refine zz_J.cv 60 (as := []) rfl rfl (hR.clO ko_49 (by decide) (by decide)) (by decide) (Nat.le_of_ble_eq_true rfl) (Nat.le_of_ble_eq_true rfl) rfl (Nat.le_of_ble_eq_true rfl) rfl ?_
  refine zz_J.mono (k hR) ?_
  intro o h' hE
  cases o with
  | inl v => exact zz_J.weak hE rfl trivial
  | inr q => exact hE
theorem cb_161_60 {X : Nat → Option zz_C} {h : zz_H} {t : cS} {s : mS} {d : Nat} {Q : zz_O → zz_H → Prop}  (hR : kR h t s) (k : ∀ {h : zz_H}, kR h t s → Q (.inl none) h) : zz_J zp_P zt_tf zt_fd X d zm_161 60 [] [] h Q := by
  refine zz_J.ret rfl rfl rfl ?_
  exact k hR
theorem cb_161_61 {X : Nat → Option zz_C} {h : zz_H} {t : cS} {s : mS} {d : Nat} {Q : zz_O → zz_H → Prop} {x2 : Int32} {x3 : Int32} {x4 : Int64} (hR : kR h t s) (k : ∀ {h : zz_H}, kR h t s → zz_J zp_P zt_tf zt_fd X d zm_166 0 [(0, .ref 49)] [] h (zz_after 3 Q (fun v h' => zz_J zp_P zt_tf zt_fd X (d + 1) zm_161 65 [(0, .ref 49), (2, .int x2), (3, .int x3), (4, .long x4)] (v.toList ++ []) h' Q))) : zz_J zp_P zt_tf zt_fd X (d + 1) zm_161 61 [(0, .ref 49), (2, .int x2), (3, .int x3), (4, .long x4)] [] h Q := by
  refine zz_J.n 62 rfl rfl rfl ?_
  refine zz_J.cv 65 (as := []) rfl rfl (hR.clO ko_49 (by decide) (by decide)) (by decide) (Nat.le_of_ble_eq_true rfl) (Nat.le_of_ble_eq_true rfl) rfl (Nat.le_of_ble_eq_true rfl) rfl ?_
  refine zz_J.mono (k hR) ?_
  intro o h' hE
  cases o with
  | inl v => exact zz_J.weak hE rfl ⟨rfl, rfl, rfl, rfl, trivial⟩
  | inr q => exact hE
theorem cb_161_65 {X : Nat → Option zz_C} {h : zz_H} {t : cS} {s : mS} {d : Nat} {Q : zz_O → zz_H → Prop} {x2 : Int32} {x3 : Int32} {x4 : Int64} {y0 : Int64} (hR : kR h t s) (k : ∀ {h : zz_H}, kR h t s → zz_J zp_P zt_tf zt_fd X d zm_145 0 [(0, .ref 49), (1, .int x3)] [] h (zz_after 3 Q (fun v h' => zz_J zp_P zt_tf zt_fd X (d + 1) zm_161 71 [(0, .ref 49), (2, .int x2), (3, .int x3), (4, .long x4)] (v.toList ++ []) h' Q))) : zz_J zp_P zt_tf zt_fd X (d + 1) zm_161 65 [(0, .ref 49), (2, .int x2), (3, .int x3), (4, .long x4)] [.long y0] h Q := by
  refine zz_J.n 66 rfl rfl rfl ?_
  refine zz_J.n 67 rfl rfl rfl ?_
  refine zz_J.n 68 rfl rfl rfl ?_
  refine zz_J.cv 71 (as := []) rfl rfl (hR.clO ko_49 (by decide) (by decide)) (by decide) (Nat.le_of_ble_eq_true rfl) (Nat.le_of_ble_eq_true rfl) rfl (Nat.le_of_ble_eq_true rfl) rfl ?_
  refine zz_J.mono (k hR) ?_
  intro o h' hE
  cases o with
  | inl v => exact zz_J.weak hE rfl ⟨rfl, rfl, rfl, rfl, trivial⟩
  | inr q => exact hE
theorem cb_161_71 {X : Nat → Option zz_C} {h : zz_H} {t : cS} {s : mS} {d : Nat} {Q : zz_O → zz_H → Prop} {x2 : Int32} {x3 : Int32} {x4 : Int64} (hR : kR h t s) (k : ∀ {h : zz_H}, kR h t s → zz_J zp_P zt_tf zt_fd X d zm_255 0 [(0, .long x4)] [] h (zz_after 1000 Q (fun v h' => zz_J zp_P zt_tf zt_fd X (d + 1) zm_161 76 [(0, .ref 49), (2, .int x2), (3, .int x3), (4, .long x4)] (v.toList ++ []) h' Q))) : zz_J zp_P zt_tf zt_fd X (d + 1) zm_161 71 [(0, .ref 49), (2, .int x2), (3, .int x3), (4, .long x4)] [] h Q := by
  refine zz_J.n 73 rfl rfl rfl ?_
  refine zz_J.cl (M' := zm_255) 76 rfl rfl (by decide) rfl rfl ⟨rfl, Nat.le_of_ble_eq_true rfl⟩ rfl ?_
  refine zz_J.mono (k hR) ?_
  intro o h' hE
  cases o with
  | inl v => exact zz_J.weak hE rfl ⟨rfl, rfl, rfl, rfl, trivial⟩
  | inr q => exact hE
theorem cb_161_76 {X : Nat → Option zz_C} {h : zz_H} {t : cS} {s : mS} {d : Nat} {Q : zz_O → zz_H → Prop} {x2 : Int32} {x3 : Int32} {x4 : Int64} {y0 : Int32} (hR : kR h t s) (k1 : ¬ y0 = 3 → (∀ {h : zz_H}, kR h t s → zz_J zp_P zt_tf zt_fd X d zm_161 92 [(0, .ref 49), (2, .int x2), (3, .int x3), (4, .long x4)] [] h Q)) (k2 : ¬ ¬ y0 = 3 → (∀ {h : zz_H}, kR h t s → zz_J zp_P zt_tf zt_fd X d zm_161 80 [(0, .ref 49), (2, .int x2), (3, .int x3)] [] h Q)) : zz_J zp_P zt_tf zt_fd X d zm_161 76 [(0, .ref 49), (2, .int x2), (3, .int x3), (4, .long x4)] [.int y0] h Q := by
  refine zz_J.c 77 (.int 3) rfl rfl rfl rfl ?_
  refine zz_J.b2 92 80 (A := ¬ y0 = 3) rfl (zz_cond_ne _ _) (by decide) rfl rfl (fun c => ?_) (fun c => ?_)
  · exact zz_J.weak (k1 c hR) rfl ⟨rfl, rfl, rfl, rfl, trivial⟩
  · exact zz_J.weak (k2 c hR) rfl ⟨rfl, rfl, rfl, trivial⟩
theorem cb_161_80 {X : Nat → Option zz_C} {h : zz_H} {t : cS} {s : mS} {d : Nat} {Q : zz_O → zz_H → Prop} {x2 : Int32} {x3 : Int32} (hR : kR h t s) (k : ∀ {h : zz_H}, kR h t s → zz_J zp_P zt_tf zt_fd X d zm_126 0 [(0, .ref 42), (1, .int 3), (2, .int 0)] [] h (zz_after 2 Q (fun v h' => zz_J zp_P zt_tf zt_fd X (d + 1) zm_161 89 [(0, .ref 49), (2, .int x2), (3, .int x3)] (v.toList ++ []) h' Q))) : zz_J zp_P zt_tf zt_fd X (d + 1) zm_161 80 [(0, .ref 49), (2, .int x2), (3, .int x3)] [] h Q := by
  refine zz_J.n 81 rfl rfl rfl ?_
  refine zz_J.g 84 rfl (hR.gv (v := .ref 42) ko_49 (by decide) rfl) rfl ?_
  refine zz_J.c 85 (.int 3) rfl rfl rfl rfl ?_
  refine zz_J.c 86 (.int 0) rfl rfl rfl rfl ?_
  refine zz_J.cv 89 (as := []) rfl rfl (hR.clO ko_42 (by decide) (by decide)) (by decide) (Nat.le_of_ble_eq_true rfl) (Nat.le_of_ble_eq_true rfl) rfl (Nat.le_of_ble_eq_true rfl) rfl ?_
  refine zz_J.mono (k hR) ?_
  intro o h' hE
  cases o with
  | inl v => exact zz_J.weak hE rfl ⟨rfl, rfl, rfl, trivial⟩
  | inr q => exact hE
theorem cb_161_89 {X : Nat → Option zz_C} {h : zz_H} {t : cS} {s : mS} {d : Nat} {Q : zz_O → zz_H → Prop} {x2 : Int32} {x3 : Int32} {y0 : Int64} (hR : kR h t s) (k : ∀ {h : zz_H}, kR h t s → zz_J zp_P zt_tf zt_fd X d zm_161 105 [(0, .ref 49), (2, .int x2), (3, .int x3)] [.long y0] h Q) : zz_J zp_P zt_tf zt_fd X d zm_161 89 [(0, .ref 49), (2, .int x2), (3, .int x3)] [.long y0] h Q := by
  refine zz_J.n 105 rfl rfl rfl ?_
  exact zz_J.weak (k hR) rfl ⟨rfl, rfl, rfl, trivial⟩
theorem cb_161_92 {X : Nat → Option zz_C} {h : zz_H} {t : cS} {s : mS} {d : Nat} {Q : zz_O → zz_H → Prop} {x2 : Int32} {x3 : Int32} {x4 : Int64} (hR : kR h t s) (k : ∀ {h : zz_H}, kR h t s → zz_J zp_P zt_tf zt_fd X d zm_255 0 [(0, .long x4)] [] h (zz_after 1000 Q (fun v h' => zz_J zp_P zt_tf zt_fd X (d + 1) zm_161 101 [(0, .ref 49), (2, .int x2), (3, .int x3)] (v.toList ++ [.ref 42]) h' Q))) : zz_J zp_P zt_tf zt_fd X (d + 1) zm_161 92 [(0, .ref 49), (2, .int x2), (3, .int x3), (4, .long x4)] [] h Q := by
  refine zz_J.n 93 rfl rfl rfl ?_
  refine zz_J.g 96 rfl (hR.gv (v := .ref 42) ko_49 (by decide) rfl) rfl ?_
  refine zz_J.n 98 rfl rfl rfl ?_
  refine zz_J.cl (M' := zm_255) 101 rfl rfl (by decide) rfl rfl ⟨rfl, Nat.le_of_ble_eq_true rfl⟩ rfl ?_
  refine zz_J.mono (k hR) ?_
  intro o h' hE
  cases o with
  | inl v => exact zz_J.weak hE rfl ⟨rfl, rfl, rfl, trivial⟩
  | inr q => exact hE
theorem cb_161_101 {X : Nat → Option zz_C} {h : zz_H} {t : cS} {s : mS} {d : Nat} {Q : zz_O → zz_H → Prop} {x2 : Int32} {x3 : Int32} {y1 : Int32} (hR : kR h t s) (k : ∀ {h : zz_H}, kR h t s → zz_J zp_P zt_tf zt_fd X d zm_127 0 [(0, .ref 42), (1, .int y1), (2, .int 0)] [] h (zz_after 2 Q (fun v h' => zz_J zp_P zt_tf zt_fd X (d + 1) zm_161 105 [(0, .ref 49), (2, .int x2), (3, .int x3)] (v.toList ++ []) h' Q))) : zz_J zp_P zt_tf zt_fd X (d + 1) zm_161 101 [(0, .ref 49), (2, .int x2), (3, .int x3)] [.int y1, .ref 42] h Q := by
  refine zz_J.c 102 (.int 0) rfl rfl rfl rfl ?_
  refine zz_J.cv 105 (as := []) rfl rfl (hR.clO ko_42 (by decide) (by decide)) (by decide) (Nat.le_of_ble_eq_true rfl) (Nat.le_of_ble_eq_true rfl) rfl (Nat.le_of_ble_eq_true rfl) rfl ?_
  refine zz_J.mono (k hR) ?_
  intro o h' hE
  cases o with
  | inl v => exact zz_J.weak hE rfl ⟨rfl, rfl, rfl, trivial⟩
  | inr q => exact hE
theorem cb_161_105 {X : Nat → Option zz_C} {h : zz_H} {t : cS} {s : mS} {d : Nat} {Q : zz_O → zz_H → Prop} {x2 : Int32} {x3 : Int32} {y0 : Int64} (hR : kR h t s) (k : ∀ {h : zz_H}, kR h (jI t 49 17 ((kI t 49 17) + 1)) s → zz_J zp_P zt_tf zt_fd X d zm_144 0 [(0, .ref 49), (1, .long y0), (3, .int (x3 + 1)), (4, .int x2)] [] h (zz_after 3 Q (fun v h' => zz_J zp_P zt_tf zt_fd X (d + 1) zm_161 127 [] (v.toList ++ []) h' Q))) : zz_J zp_P zt_tf zt_fd X (d + 1) zm_161 105 [(0, .ref 49), (2, .int x2), (3, .int x3)] [.long y0] h Q := by
  refine zz_J.n 107 rfl rfl rfl ?_
  refine zz_J.n 108 rfl rfl rfl ?_
  refine zz_J.n 109 rfl rfl rfl ?_
  refine zz_J.g 112 rfl (hR.gv (v := .int (kI t 49 17)) ko_49 (by decide) rfl) rfl ?_
  refine zz_J.c 113 (.int 1) rfl rfl rfl rfl ?_
  refine zz_J.n 114 rfl rfl rfl ?_
  obtain ⟨h1, eq1, hR⟩ := hR.pI (x := ((kI t 49 17) + 1)) (by decide) ko_49 (kpi_49_17 _) (Nat.le_of_ble_eq_true rfl) rfl
  refine zz_J.pv 117 rfl eq1 rfl ?_
  clear eq1
  refine zz_J.n 118 rfl rfl rfl ?_
  refine zz_J.n 120 rfl rfl rfl ?_
  refine zz_J.n 121 rfl rfl rfl ?_
  refine zz_J.c 122 (.int 1) rfl rfl rfl rfl ?_
  refine zz_J.n 123 rfl rfl rfl ?_
  refine zz_J.n 124 rfl rfl rfl ?_
  refine zz_J.cv 127 (as := []) rfl rfl (hR.clO ko_49 (by decide) (by decide)) (by decide) (Nat.le_of_ble_eq_true rfl) (Nat.le_of_ble_eq_true rfl) rfl (Nat.le_of_ble_eq_true rfl) rfl ?_
  refine zz_J.mono (k hR) ?_
  intro o h' hE
  cases o with
  | inl v => exact zz_J.weak hE rfl trivial
  | inr q => exact hE
theorem cb_161_127 {X : Nat → Option zz_C} {h : zz_H} {t : cS} {s : mS} {d : Nat} {Q : zz_O → zz_H → Prop}  (hR : kR h t s) (k : ∀ {h : zz_H}, kR h t s → Q (.inl none) h) : zz_J zp_P zt_tf zt_fd X d zm_161 127 [] [] h Q := by
  refine zz_J.ret rfl rfl rfl ?_
  exact k hR
def cf_161_127 (N : Nat) (X : Nat → Option zz_C)  (t : cS) : kO := some (t, .inl none)
theorem cr_161_127 {X : Nat → Option zz_C} {s : mS} {N : Nat} {d : Nat} (hd : 11 ≤ d) {Q : zz_O → zz_H → Prop}  {h : zz_H} {t t' : cS} {o : kY} (hR : kR h t s) (hf : cf_161_127 N X  t = some (t', o)) (k : (∀ h', kR h' t' s → kE o Q h')) : zz_J zp_P zt_tf zt_fd X d zm_161 127 [] [] h Q := by
  unfold cf_161_127 at hf
  cases hf
  exact cb_161_127 hR  (fun {h} hR => k h hR)
def cf_161_105 (N : Nat) (X : Nat → Option zz_C) (x2 : Int32) (x3 : Int32) (y0 : Int64) (t : cS) : kO := ko_call 3 (cf_144 N X y0 (x3 + 1) x2 (jI t 49 17 ((kI t 49 17) + 1))) (fun g1 v1 => co_v v1 (cf_161_127 N X  g1))
theorem cr_161_105 {X : Nat → Option zz_C} {s : mS} {N : Nat} {d : Nat} (hd : 11 ≤ d) {Q : zz_O → zz_H → Prop} {x2 : Int32} {x3 : Int32} {y0 : Int64} {h : zz_H} {t t' : cS} {o : kY} (hR : kR h t s) (hf : cf_161_105 N X x2 x3 y0 t = some (t', o)) (k : (∀ h', kR h' t' s → kE o Q h')) : zz_J zp_P zt_tf zt_fd X d zm_161 105 [(0, .ref 49), (2, .int x2), (3, .int x3)] [.long y0] h Q := by
  unfold cf_161_105 at hf
  obtain ⟨d', rfl⟩ : ∃ d', d = d' + 1 := ⟨d - 1, by omega⟩
  refine cb_161_105 hR  (fun {h} hR => ?_)
  rcases ko_call_ok hf with ⟨g1, v1, er, hf⟩ | ⟨g1, er, hq⟩
  · obtain ⟨hv, hf2⟩ := co_v_ok hf
    clear hf
    have hf := hf2
    clear hf2
    subst hv
    refine cr_144 (by omega) hR er (fun h hR => ?_)
    exact cr_161_127 hd hR hf k
  · refine cr_144 (by omega) hR er (fun h hR => ?_)
    exact ko_thrown hq hR k
def cf_161_101 (N : Nat) (X : Nat → Option zz_C) (x2 : Int32) (x3 : Int32) (y1 : Int32) (t : cS) : kO := ko_call 2 (cf_127 N X y1 0 t) (fun g1 v1 => co_l v1 (fun y => cf_161_105 N X x2 x3 y g1))
theorem cr_161_101 {X : Nat → Option zz_C} {s : mS} {N : Nat} {d : Nat} (hd : 11 ≤ d) {Q : zz_O → zz_H → Prop} {x2 : Int32} {x3 : Int32} {y1 : Int32} {h : zz_H} {t t' : cS} {o : kY} (hR : kR h t s) (hf : cf_161_101 N X x2 x3 y1 t = some (t', o)) (k : (∀ h', kR h' t' s → kE o Q h')) : zz_J zp_P zt_tf zt_fd X d zm_161 101 [(0, .ref 49), (2, .int x2), (3, .int x3)] [.int y1, .ref 42] h Q := by
  unfold cf_161_101 at hf
  obtain ⟨d', rfl⟩ : ∃ d', d = d' + 1 := ⟨d - 1, by omega⟩
  refine cb_161_101 hR  (fun {h} hR => ?_)
  rcases ko_call_ok hf with ⟨g1, v1, er, hf⟩ | ⟨g1, er, hq⟩
  · obtain ⟨y, hv, hf2⟩ := co_l_ok hf
    clear hf
    have hf := hf2
    clear hf2
    subst hv
    refine cr_127 (by omega) hR er (fun h hR => ?_)
    exact cr_161_105 hd hR hf k
  · refine cr_127 (by omega) hR er (fun h hR => ?_)
    exact ko_thrown hq hR k
def cf_161_92 (N : Nat) (X : Nat → Option zz_C) (x2 : Int32) (x3 : Int32) (x4 : Int64) (t : cS) : kO := ko_call 1000 (cf_255 N X x4 t) (fun g1 v1 => co_i v1 (fun y => cf_161_101 N X x2 x3 y g1))
theorem cr_161_92 {X : Nat → Option zz_C} {s : mS} {N : Nat} {d : Nat} (hd : 11 ≤ d) {Q : zz_O → zz_H → Prop} {x2 : Int32} {x3 : Int32} {x4 : Int64} {h : zz_H} {t t' : cS} {o : kY} (hR : kR h t s) (hf : cf_161_92 N X x2 x3 x4 t = some (t', o)) (k : (∀ h', kR h' t' s → kE o Q h')) : zz_J zp_P zt_tf zt_fd X d zm_161 92 [(0, .ref 49), (2, .int x2), (3, .int x3), (4, .long x4)] [] h Q := by
  unfold cf_161_92 at hf
  obtain ⟨d', rfl⟩ : ∃ d', d = d' + 1 := ⟨d - 1, by omega⟩
  refine cb_161_92 hR  (fun {h} hR => ?_)
  rcases ko_call_ok hf with ⟨g1, v1, er, hf⟩ | ⟨g1, er, hq⟩
  · obtain ⟨y, hv, hf2⟩ := co_i_ok hf
    clear hf
    have hf := hf2
    clear hf2
    subst hv
    refine cr_255 (by omega) hR er (fun h hR => ?_)
    exact cr_161_101 hd hR hf k
  · refine cr_255 (by omega) hR er (fun h hR => ?_)
    exact ko_thrown hq hR k
def cf_161_89 (N : Nat) (X : Nat → Option zz_C) (x2 : Int32) (x3 : Int32) (y0 : Int64) (t : cS) : kO := cf_161_105 N X x2 x3 y0 t
theorem cr_161_89 {X : Nat → Option zz_C} {s : mS} {N : Nat} {d : Nat} (hd : 11 ≤ d) {Q : zz_O → zz_H → Prop} {x2 : Int32} {x3 : Int32} {y0 : Int64} {h : zz_H} {t t' : cS} {o : kY} (hR : kR h t s) (hf : cf_161_89 N X x2 x3 y0 t = some (t', o)) (k : (∀ h', kR h' t' s → kE o Q h')) : zz_J zp_P zt_tf zt_fd X d zm_161 89 [(0, .ref 49), (2, .int x2), (3, .int x3)] [.long y0] h Q := by
  unfold cf_161_89 at hf
  exact cb_161_89 hR  (fun hR => cr_161_105 hd hR hf k)
def cf_161_80 (N : Nat) (X : Nat → Option zz_C) (x2 : Int32) (x3 : Int32) (t : cS) : kO := ko_call 2 (cf_126 N X 3 0 t) (fun g1 v1 => co_l v1 (fun y => cf_161_89 N X x2 x3 y g1))
theorem cr_161_80 {X : Nat → Option zz_C} {s : mS} {N : Nat} {d : Nat} (hd : 11 ≤ d) {Q : zz_O → zz_H → Prop} {x2 : Int32} {x3 : Int32} {h : zz_H} {t t' : cS} {o : kY} (hR : kR h t s) (hf : cf_161_80 N X x2 x3 t = some (t', o)) (k : (∀ h', kR h' t' s → kE o Q h')) : zz_J zp_P zt_tf zt_fd X d zm_161 80 [(0, .ref 49), (2, .int x2), (3, .int x3)] [] h Q := by
  unfold cf_161_80 at hf
  obtain ⟨d', rfl⟩ : ∃ d', d = d' + 1 := ⟨d - 1, by omega⟩
  refine cb_161_80 hR  (fun {h} hR => ?_)
  rcases ko_call_ok hf with ⟨g1, v1, er, hf⟩ | ⟨g1, er, hq⟩
  · obtain ⟨y, hv, hf2⟩ := co_l_ok hf
    clear hf
    have hf := hf2
    clear hf2
    subst hv
    refine cr_126 (by omega) hR er (fun h hR => ?_)
    exact cr_161_89 hd hR hf k
  · refine cr_126 (by omega) hR er (fun h hR => ?_)
    exact ko_thrown hq hR k
def cf_161_76 (N : Nat) (X : Nat → Option zz_C) (x2 : Int32) (x3 : Int32) (x4 : Int64) (y0 : Int32) (t : cS) : kO := if ¬ y0 = 3 then cf_161_92 N X x2 x3 x4 t else cf_161_80 N X x2 x3 t
theorem cr_161_76 {X : Nat → Option zz_C} {s : mS} {N : Nat} {d : Nat} (hd : 11 ≤ d) {Q : zz_O → zz_H → Prop} {x2 : Int32} {x3 : Int32} {x4 : Int64} {y0 : Int32} {h : zz_H} {t t' : cS} {o : kY} (hR : kR h t s) (hf : cf_161_76 N X x2 x3 x4 y0 t = some (t', o)) (k : (∀ h', kR h' t' s → kE o Q h')) : zz_J zp_P zt_tf zt_fd X d zm_161 76 [(0, .ref 49), (2, .int x2), (3, .int x3), (4, .long x4)] [.int y0] h Q := by
  unfold cf_161_76 at hf
  refine cb_161_76 hR  (fun c {h} hR => ?_) (fun c {h} hR => ?_)
  · rw [if_pos c] at hf
    exact cr_161_92 hd hR hf k
  · rw [if_neg c] at hf
    exact cr_161_80 hd hR hf k
def cf_161_71 (N : Nat) (X : Nat → Option zz_C) (x2 : Int32) (x3 : Int32) (x4 : Int64) (t : cS) : kO := ko_call 1000 (cf_255 N X x4 t) (fun g1 v1 => co_i v1 (fun y => cf_161_76 N X x2 x3 x4 y g1))
theorem cr_161_71 {X : Nat → Option zz_C} {s : mS} {N : Nat} {d : Nat} (hd : 11 ≤ d) {Q : zz_O → zz_H → Prop} {x2 : Int32} {x3 : Int32} {x4 : Int64} {h : zz_H} {t t' : cS} {o : kY} (hR : kR h t s) (hf : cf_161_71 N X x2 x3 x4 t = some (t', o)) (k : (∀ h', kR h' t' s → kE o Q h')) : zz_J zp_P zt_tf zt_fd X d zm_161 71 [(0, .ref 49), (2, .int x2), (3, .int x3), (4, .long x4)] [] h Q := by
  unfold cf_161_71 at hf
  obtain ⟨d', rfl⟩ : ∃ d', d = d' + 1 := ⟨d - 1, by omega⟩
  refine cb_161_71 hR  (fun {h} hR => ?_)
  rcases ko_call_ok hf with ⟨g1, v1, er, hf⟩ | ⟨g1, er, hq⟩
  · obtain ⟨y, hv, hf2⟩ := co_i_ok hf
    clear hf
    have hf := hf2
    clear hf2
    subst hv
    refine cr_255 (by omega) hR er (fun h hR => ?_)
    exact cr_161_76 hd hR hf k
  · refine cr_255 (by omega) hR er (fun h hR => ?_)
    exact ko_thrown hq hR k
def cf_161_65 (N : Nat) (X : Nat → Option zz_C) (x2 : Int32) (x3 : Int32) (x4 : Int64) (y0 : Int64) (t : cS) : kO := ko_call 3 (cf_145 N X x3 t) (fun g1 v1 => co_v v1 (cf_161_71 N X x2 x3 x4 g1))
theorem cr_161_65 {X : Nat → Option zz_C} {s : mS} {N : Nat} {d : Nat} (hd : 11 ≤ d) {Q : zz_O → zz_H → Prop} {x2 : Int32} {x3 : Int32} {x4 : Int64} {y0 : Int64} {h : zz_H} {t t' : cS} {o : kY} (hR : kR h t s) (hf : cf_161_65 N X x2 x3 x4 y0 t = some (t', o)) (k : (∀ h', kR h' t' s → kE o Q h')) : zz_J zp_P zt_tf zt_fd X d zm_161 65 [(0, .ref 49), (2, .int x2), (3, .int x3), (4, .long x4)] [.long y0] h Q := by
  unfold cf_161_65 at hf
  obtain ⟨d', rfl⟩ : ∃ d', d = d' + 1 := ⟨d - 1, by omega⟩
  refine cb_161_65 hR  (fun {h} hR => ?_)
  rcases ko_call_ok hf with ⟨g1, v1, er, hf⟩ | ⟨g1, er, hq⟩
  · obtain ⟨hv, hf2⟩ := co_v_ok hf
    clear hf
    have hf := hf2
    clear hf2
    subst hv
    refine cr_145 (by omega) hR er (fun h hR => ?_)
    exact cr_161_71 hd hR hf k
  · refine cr_145 (by omega) hR er (fun h hR => ?_)
    exact ko_thrown hq hR k
def cf_161_61 (N : Nat) (X : Nat → Option zz_C) (x2 : Int32) (x3 : Int32) (x4 : Int64) (t : cS) : kO := ko_call 3 (cf_166 N X  t) (fun g1 v1 => co_l v1 (fun y => cf_161_65 N X x2 x3 x4 y g1))
theorem cr_161_61 {X : Nat → Option zz_C} {s : mS} {N : Nat} {d : Nat} (hd : 11 ≤ d) {Q : zz_O → zz_H → Prop} {x2 : Int32} {x3 : Int32} {x4 : Int64} {h : zz_H} {t t' : cS} {o : kY} (hR : kR h t s) (hf : cf_161_61 N X x2 x3 x4 t = some (t', o)) (k : (∀ h', kR h' t' s → kE o Q h')) : zz_J zp_P zt_tf zt_fd X d zm_161 61 [(0, .ref 49), (2, .int x2), (3, .int x3), (4, .long x4)] [] h Q := by
  unfold cf_161_61 at hf
  obtain ⟨d', rfl⟩ : ∃ d', d = d' + 1 := ⟨d - 1, by omega⟩
  refine cb_161_61 hR  (fun {h} hR => ?_)
  rcases ko_call_ok hf with ⟨g1, v1, er, hf⟩ | ⟨g1, er, hq⟩
  · obtain ⟨y, hv, hf2⟩ := co_l_ok hf
    clear hf
    have hf := hf2
    clear hf2
    subst hv
    refine cr_166 (by omega) hR er (fun h hR => ?_)
    exact cr_161_65 hd hR hf k
  · refine cr_166 (by omega) hR er (fun h hR => ?_)
    exact ko_thrown hq hR k
def cf_161_60 (N : Nat) (X : Nat → Option zz_C)  (t : cS) : kO := some (t, .inl none)
theorem cr_161_60 {X : Nat → Option zz_C} {s : mS} {N : Nat} {d : Nat} (hd : 11 ≤ d) {Q : zz_O → zz_H → Prop}  {h : zz_H} {t t' : cS} {o : kY} (hR : kR h t s) (hf : cf_161_60 N X  t = some (t', o)) (k : (∀ h', kR h' t' s → kE o Q h')) : zz_J zp_P zt_tf zt_fd X d zm_161 60 [] [] h Q := by
  unfold cf_161_60 at hf
  cases hf
  exact cb_161_60 hR  (fun {h} hR => k h hR)
def cf_161_53 (N : Nat) (X : Nat → Option zz_C) (x1 : Int32) (x2 : Int32) (t : cS) : kO := ko_call 3 (cf_157 N X x1 1 x2 t) (fun g1 v1 => co_v v1 (cf_161_60 N X  g1))
theorem cr_161_53 {X : Nat → Option zz_C} {s : mS} {N : Nat} {d : Nat} (hd : 11 ≤ d) {Q : zz_O → zz_H → Prop} {x1 : Int32} {x2 : Int32} {h : zz_H} {t t' : cS} {o : kY} (hR : kR h t s) (hf : cf_161_53 N X x1 x2 t = some (t', o)) (k : (∀ h', kR h' t' s → kE o Q h')) : zz_J zp_P zt_tf zt_fd X d zm_161 53 [(0, .ref 49), (1, .int x1), (2, .int x2)] [] h Q := by
  unfold cf_161_53 at hf
  obtain ⟨d', rfl⟩ : ∃ d', d = d' + 1 := ⟨d - 1, by omega⟩
  refine cb_161_53 hR  (fun {h} hR => ?_)
  rcases ko_call_ok hf with ⟨g1, v1, er, hf⟩ | ⟨g1, er, hq⟩
  · obtain ⟨hv, hf2⟩ := co_v_ok hf
    clear hf
    have hf := hf2
    clear hf2
    subst hv
    refine cr_157 (by omega) hR er (fun h hR => ?_)
    exact cr_161_60 hd hR hf k
  · refine cr_157 (by omega) hR er (fun h hR => ?_)
    exact ko_thrown hq hR k
def cf_161_50 (N : Nat) (X : Nat → Option zz_C) (x1 : Int32) (x2 : Int32) (y1 : Int64) (t : cS) : kO := ko_call 3 (cf_165 N X y1 t) (fun g1 v1 => co_v v1 (cf_161_53 N X x1 x2 g1))
theorem cr_161_50 {X : Nat → Option zz_C} {s : mS} {N : Nat} {d : Nat} (hd : 11 ≤ d) {Q : zz_O → zz_H → Prop} {x1 : Int32} {x2 : Int32} {y1 : Int64} {h : zz_H} {t t' : cS} {o : kY} (hR : kR h t s) (hf : cf_161_50 N X x1 x2 y1 t = some (t', o)) (k : (∀ h', kR h' t' s → kE o Q h')) : zz_J zp_P zt_tf zt_fd X d zm_161 50 [(0, .ref 49), (1, .int x1), (2, .int x2)] [.long y1, .ref 49] h Q := by
  unfold cf_161_50 at hf
  obtain ⟨d', rfl⟩ : ∃ d', d = d' + 1 := ⟨d - 1, by omega⟩
  refine cb_161_50 hR  (fun {h} hR => ?_)
  rcases ko_call_ok hf with ⟨g1, v1, er, hf⟩ | ⟨g1, er, hq⟩
  · obtain ⟨hv, hf2⟩ := co_v_ok hf
    clear hf
    have hf := hf2
    clear hf2
    subst hv
    refine cr_165 (by omega) hR er (fun h hR => ?_)
    exact cr_161_53 hd hR hf k
  · refine cr_165 (by omega) hR er (fun h hR => ?_)
    exact ko_thrown hq hR k
def cf_161_39 (N : Nat) (X : Nat → Option zz_C) (x1 : Int32) (x2 : Int32) (x3 : Int32) (x4 : Int64) (t : cS) : kO := ko_call 2 (cf_129 N X x4 x3 t) (fun g1 v1 => co_l v1 (fun y => cf_161_50 N X x1 x2 y g1))
theorem cr_161_39 {X : Nat → Option zz_C} {s : mS} {N : Nat} {d : Nat} (hd : 11 ≤ d) {Q : zz_O → zz_H → Prop} {x1 : Int32} {x2 : Int32} {x3 : Int32} {x4 : Int64} {h : zz_H} {t t' : cS} {o : kY} (hR : kR h t s) (hf : cf_161_39 N X x1 x2 x3 x4 t = some (t', o)) (k : (∀ h', kR h' t' s → kE o Q h')) : zz_J zp_P zt_tf zt_fd X d zm_161 39 [(0, .ref 49), (1, .int x1), (2, .int x2), (3, .int x3), (4, .long x4)] [] h Q := by
  unfold cf_161_39 at hf
  obtain ⟨d', rfl⟩ : ∃ d', d = d' + 1 := ⟨d - 1, by omega⟩
  refine cb_161_39 hR  (fun {h} hR => ?_)
  rcases ko_call_ok hf with ⟨g1, v1, er, hf⟩ | ⟨g1, er, hq⟩
  · obtain ⟨y, hv, hf2⟩ := co_l_ok hf
    clear hf
    have hf := hf2
    clear hf2
    subst hv
    refine cr_129 (by omega) hR er (fun h hR => ?_)
    exact cr_161_50 hd hR hf k
  · refine cr_129 (by omega) hR er (fun h hR => ?_)
    exact ko_thrown hq hR k
def cf_161_36 (N : Nat) (X : Nat → Option zz_C) (x1 : Int32) (x2 : Int32) (x3 : Int32) (x4 : Int64) (y0 : Int32) (t : cS) : kO := if y0 = 0 then cf_161_60 N X  t else cf_161_39 N X x1 x2 x3 x4 t
theorem cr_161_36 {X : Nat → Option zz_C} {s : mS} {N : Nat} {d : Nat} (hd : 11 ≤ d) {Q : zz_O → zz_H → Prop} {x1 : Int32} {x2 : Int32} {x3 : Int32} {x4 : Int64} {y0 : Int32} {h : zz_H} {t t' : cS} {o : kY} (hR : kR h t s) (hf : cf_161_36 N X x1 x2 x3 x4 y0 t = some (t', o)) (k : (∀ h', kR h' t' s → kE o Q h')) : zz_J zp_P zt_tf zt_fd X d zm_161 36 [(0, .ref 49), (1, .int x1), (2, .int x2), (3, .int x3), (4, .long x4)] [.int y0] h Q := by
  unfold cf_161_36 at hf
  refine cb_161_36 hR  (fun c {h} hR => ?_) (fun c {h} hR => ?_)
  · rw [if_pos c] at hf
    exact cr_161_60 hd hR hf k
  · rw [if_neg c] at hf
    exact cr_161_39 hd hR hf k
def cf_161_31 (N : Nat) (X : Nat → Option zz_C) (x1 : Int32) (x2 : Int32) (x3 : Int32) (x4 : Int64) (t : cS) : kO := ko_call 3 (cf_146 N X x2 t) (fun g1 v1 => co_i v1 (fun y => cf_161_36 N X x1 x2 x3 x4 y g1))
theorem cr_161_31 {X : Nat → Option zz_C} {s : mS} {N : Nat} {d : Nat} (hd : 11 ≤ d) {Q : zz_O → zz_H → Prop} {x1 : Int32} {x2 : Int32} {x3 : Int32} {x4 : Int64} {h : zz_H} {t t' : cS} {o : kY} (hR : kR h t s) (hf : cf_161_31 N X x1 x2 x3 x4 t = some (t', o)) (k : (∀ h', kR h' t' s → kE o Q h')) : zz_J zp_P zt_tf zt_fd X d zm_161 31 [(0, .ref 49), (1, .int x1), (2, .int x2), (3, .int x3), (4, .long x4)] [] h Q := by
  unfold cf_161_31 at hf
  obtain ⟨d', rfl⟩ : ∃ d', d = d' + 1 := ⟨d - 1, by omega⟩
  refine cb_161_31 hR  (fun {h} hR => ?_)
  rcases ko_call_ok hf with ⟨g1, v1, er, hf⟩ | ⟨g1, er, hq⟩
  · obtain ⟨y, hv, hf2⟩ := co_i_ok hf
    clear hf
    have hf := hf2
    clear hf2
    subst hv
    refine cr_146 (by omega) hR er (fun h hR => ?_)
    exact cr_161_36 hd hR hf k
  · refine cr_146 (by omega) hR er (fun h hR => ?_)
    exact ko_thrown hq hR k
def cf_161_28 (N : Nat) (X : Nat → Option zz_C) (x1 : Int32) (x2 : Int32) (x3 : Int32) (x4 : Int64) (y0 : Int32) (y1 : Int32) (t : cS) : kO := if y1 ≤ y0 then cf_161_61 N X x2 x3 x4 t else cf_161_31 N X x1 x2 x3 x4 t
theorem cr_161_28 {X : Nat → Option zz_C} {s : mS} {N : Nat} {d : Nat} (hd : 11 ≤ d) {Q : zz_O → zz_H → Prop} {x1 : Int32} {x2 : Int32} {x3 : Int32} {x4 : Int64} {y0 : Int32} {y1 : Int32} {h : zz_H} {t t' : cS} {o : kY} (hR : kR h t s) (hf : cf_161_28 N X x1 x2 x3 x4 y0 y1 t = some (t', o)) (k : (∀ h', kR h' t' s → kE o Q h')) : zz_J zp_P zt_tf zt_fd X d zm_161 28 [(0, .ref 49), (1, .int x1), (2, .int x2), (3, .int x3), (4, .long x4)] [.int y1, .int y0] h Q := by
  unfold cf_161_28 at hf
  refine cb_161_28 hR  (fun c {h} hR => ?_) (fun c {h} hR => ?_)
  · rw [if_pos c] at hf
    exact cr_161_61 hd hR hf k
  · rw [if_neg c] at hf
    exact cr_161_31 hd hR hf k
def cf_161_16 (N : Nat) (X : Nat → Option zz_C) (x1 : Int32) (x2 : Int32) (x3 : Int32) (y0 : Int64) (t : cS) : kO := ko_call 2 (cf_128 N X y0 t) (fun g1 v1 => co_i v1 (fun y => cf_161_28 N X x1 x2 x3 y0 x3 y g1))
theorem cr_161_16 {X : Nat → Option zz_C} {s : mS} {N : Nat} {d : Nat} (hd : 11 ≤ d) {Q : zz_O → zz_H → Prop} {x1 : Int32} {x2 : Int32} {x3 : Int32} {y0 : Int64} {h : zz_H} {t t' : cS} {o : kY} (hR : kR h t s) (hf : cf_161_16 N X x1 x2 x3 y0 t = some (t', o)) (k : (∀ h', kR h' t' s → kE o Q h')) : zz_J zp_P zt_tf zt_fd X d zm_161 16 [(0, .ref 49), (1, .int x1), (2, .int x2), (3, .int x3)] [.long y0] h Q := by
  unfold cf_161_16 at hf
  obtain ⟨d', rfl⟩ : ∃ d', d = d' + 1 := ⟨d - 1, by omega⟩
  refine cb_161_16 hR  (fun {h} hR => ?_)
  rcases ko_call_ok hf with ⟨g1, v1, er, hf⟩ | ⟨g1, er, hq⟩
  · obtain ⟨y, hv, hf2⟩ := co_i_ok hf
    clear hf
    have hf := hf2
    clear hf2
    subst hv
    refine cr_128 (by omega) hR er (fun h hR => ?_)
    exact cr_161_28 hd hR hf k
  · refine cr_128 (by omega) hR er (fun h hR => ?_)
    exact ko_thrown hq hR k
def cf_161_8 (N : Nat) (X : Nat → Option zz_C) (x1 : Int32) (x2 : Int32) (y0 : Int32) (t : cS) : kO := ko_call 3 (cf_167 N X (y0 + 2) t) (fun g1 v1 => co_l v1 (fun y => cf_161_16 N X x1 x2 y0 y g1))
theorem cr_161_8 {X : Nat → Option zz_C} {s : mS} {N : Nat} {d : Nat} (hd : 11 ≤ d) {Q : zz_O → zz_H → Prop} {x1 : Int32} {x2 : Int32} {y0 : Int32} {h : zz_H} {t t' : cS} {o : kY} (hR : kR h t s) (hf : cf_161_8 N X x1 x2 y0 t = some (t', o)) (k : (∀ h', kR h' t' s → kE o Q h')) : zz_J zp_P zt_tf zt_fd X d zm_161 8 [(0, .ref 49), (1, .int x1), (2, .int x2)] [.int y0] h Q := by
  unfold cf_161_8 at hf
  obtain ⟨d', rfl⟩ : ∃ d', d = d' + 1 := ⟨d - 1, by omega⟩
  refine cb_161_8 hR  (fun {h} hR => ?_)
  rcases ko_call_ok hf with ⟨g1, v1, er, hf⟩ | ⟨g1, er, hq⟩
  · obtain ⟨y, hv, hf2⟩ := co_l_ok hf
    clear hf
    have hf := hf2
    clear hf2
    subst hv
    refine cr_167 (by omega) hR er (fun h hR => ?_)
    exact cr_161_16 hd hR hf k
  · refine cr_167 (by omega) hR er (fun h hR => ?_)
    exact ko_thrown hq hR k
def cf_161_5 (N : Nat) (X : Nat → Option zz_C) (x1 : Int32) (x2 : Int32) (y0 : Int64) (t : cS) : kO := ko_call 1000 (cf_256 N X y0 t) (fun g1 v1 => co_i v1 (fun y => cf_161_8 N X x1 x2 y g1))
theorem cr_161_5 {X : Nat → Option zz_C} {s : mS} {N : Nat} {d : Nat} (hd : 11 ≤ d) {Q : zz_O → zz_H → Prop} {x1 : Int32} {x2 : Int32} {y0 : Int64} {h : zz_H} {t t' : cS} {o : kY} (hR : kR h t s) (hf : cf_161_5 N X x1 x2 y0 t = some (t', o)) (k : (∀ h', kR h' t' s → kE o Q h')) : zz_J zp_P zt_tf zt_fd X d zm_161 5 [(0, .ref 49), (1, .int x1), (2, .int x2)] [.long y0] h Q := by
  unfold cf_161_5 at hf
  obtain ⟨d', rfl⟩ : ∃ d', d = d' + 1 := ⟨d - 1, by omega⟩
  refine cb_161_5 hR  (fun {h} hR => ?_)
  rcases ko_call_ok hf with ⟨g1, v1, er, hf⟩ | ⟨g1, er, hq⟩
  · obtain ⟨y, hv, hf2⟩ := co_i_ok hf
    clear hf
    have hf := hf2
    clear hf2
    subst hv
    refine cr_256 (by omega) hR er (fun h hR => ?_)
    exact cr_161_8 hd hR hf k
  · refine cr_256 (by omega) hR er (fun h hR => ?_)
    exact ko_thrown hq hR k
def cf_161_0 (N : Nat) (X : Nat → Option zz_C) (x1 : Int32) (x2 : Int32) (t : cS) : kO := ko_call 3 (cf_167 N X 1 t) (fun g1 v1 => co_l v1 (fun y => cf_161_5 N X x1 x2 y g1))
theorem cr_161_0 {X : Nat → Option zz_C} {s : mS} {N : Nat} {d : Nat} (hd : 11 ≤ d) {Q : zz_O → zz_H → Prop} {x1 : Int32} {x2 : Int32} {h : zz_H} {t t' : cS} {o : kY} (hR : kR h t s) (hf : cf_161_0 N X x1 x2 t = some (t', o)) (k : (∀ h', kR h' t' s → kE o Q h')) : zz_J zp_P zt_tf zt_fd X d zm_161 0 [(0, .ref 49), (1, .int x1), (2, .int x2)] [] h Q := by
  unfold cf_161_0 at hf
  obtain ⟨d', rfl⟩ : ∃ d', d = d' + 1 := ⟨d - 1, by omega⟩
  refine cb_161_0 hR  (fun {h} hR => ?_)
  rcases ko_call_ok hf with ⟨g1, v1, er, hf⟩ | ⟨g1, er, hq⟩
  · obtain ⟨y, hv, hf2⟩ := co_l_ok hf
    clear hf
    have hf := hf2
    clear hf2
    subst hv
    refine cr_167 (by omega) hR er (fun h hR => ?_)
    exact cr_161_5 hd hR hf k
  · refine cr_167 (by omega) hR er (fun h hR => ?_)
    exact ko_thrown hq hR k
/-- nextOfEach -/
def cf_161 (N : Nat) (X : Nat → Option zz_C) (x1 : Int32) (x2 : Int32) (t : cS) : kO := cf_161_0 N X x1 x2 t
theorem cr_161 {X : Nat → Option zz_C} {s : mS} {N : Nat} {d : Nat} (hd : 11 ≤ d) {Q : zz_O → zz_H → Prop} {x1 : Int32} {x2 : Int32} {h : zz_H} {t t' : cS} {o : kY} (hR : kR h t s) (hf : cf_161 N X x1 x2 t = some (t', o)) (k : ∀ h', kR h' t' s → kE o Q h') : zz_J zp_P zt_tf zt_fd X d zm_161 0 [(0, .ref 49), (1, .int x1), (2, .int x2)] [] h Q := by
  unfold cf_161 at hf
  exact zz_J.weak (cr_161_0 hd hR hf k) rfl ⟨rfl, rfl, rfl, trivial⟩
/-! yX3_gotOfEach (I)V -/
theorem cb_162_0 {X : Nat → Option zz_C} {h : zz_H} {t : cS} {s : mS} {d : Nat} {Q : zz_O → zz_H → Prop} {x1 : Int32} (hR : kR h t s) (k : ∀ {h : zz_H}, kR h t s → zz_J zp_P zt_tf zt_fd X d zm_166 0 [(0, .ref 49)] [] h (zz_after 3 Q (fun v h' => zz_J zp_P zt_tf zt_fd X (d + 1) zm_162 4 [(0, .ref 49), (1, .int x1)] (v.toList ++ []) h' Q))) : zz_J zp_P zt_tf zt_fd X (d + 1) zm_162 0 [(0, .ref 49), (1, .int x1)] [] h Q := by
  refine zz_J.n 1 rfl rfl rfl ?_
  refine zz_J.cv 4 (as := []) rfl rfl (hR.clO ko_49 (by decide) (by decide)) (by decide) (Nat.le_of_ble_eq_true rfl) (Nat.le_of_ble_eq_true rfl) rfl (Nat.le_of_ble_eq_true rfl) rfl ?_
  refine zz_J.mono (k hR) ?_
  intro o h' hE
  cases o with
  | inl v => exact zz_J.weak hE rfl ⟨rfl, rfl, trivial⟩
  | inr q => exact hE
theorem cb_162_4 {X : Nat → Option zz_C} {h : zz_H} {t : cS} {s : mS} {d : Nat} {Q : zz_O → zz_H → Prop} {x1 : Int32} {y0 : Int64} (hR : kR h t s) (k : ∀ {h : zz_H}, kR h t s → zz_J zp_P zt_tf zt_fd X d zm_166 0 [(0, .ref 49)] [] h (zz_after 3 Q (fun v h' => zz_J zp_P zt_tf zt_fd X (d + 1) zm_162 9 [(0, .ref 49), (1, .int x1), (2, .long y0)] (v.toList ++ []) h' Q))) : zz_J zp_P zt_tf zt_fd X (d + 1) zm_162 4 [(0, .ref 49), (1, .int x1)] [.long y0] h Q := by
  refine zz_J.n 5 rfl rfl rfl ?_
  refine zz_J.n 6 rfl rfl rfl ?_
  refine zz_J.cv 9 (as := []) rfl rfl (hR.clO ko_49 (by decide) (by decide)) (by decide) (Nat.le_of_ble_eq_true rfl) (Nat.le_of_ble_eq_true rfl) rfl (Nat.le_of_ble_eq_true rfl) rfl ?_
  refine zz_J.mono (k hR) ?_
  intro o h' hE
  cases o with
  | inl v => exact zz_J.weak hE rfl ⟨rfl, rfl, rfl, trivial⟩
  | inr q => exact hE
theorem cb_162_9 {X : Nat → Option zz_C} {h : zz_H} {t : cS} {s : mS} {d : Nat} {Q : zz_O → zz_H → Prop} {x1 : Int32} {x2 : Int64} {y0 : Int64} (hR : kR h t s) (k : ∀ {h : zz_H}, kR h t s → zz_J zp_P zt_tf zt_fd X d zm_165 0 [(0, .ref 49), (1, .long x2)] [] h (zz_after 3 Q (fun v h' => zz_J zp_P zt_tf zt_fd X (d + 1) zm_162 16 [(0, .ref 49), (1, .int x1), (4, .long y0)] (v.toList ++ []) h' Q))) : zz_J zp_P zt_tf zt_fd X (d + 1) zm_162 9 [(0, .ref 49), (1, .int x1), (2, .long x2)] [.long y0] h Q := by
  refine zz_J.n 11 rfl rfl rfl ?_
  refine zz_J.n 12 rfl rfl rfl ?_
  refine zz_J.n 13 rfl rfl rfl ?_
  refine zz_J.cv 16 (as := []) rfl rfl (hR.clO ko_49 (by decide) (by decide)) (by decide) (Nat.le_of_ble_eq_true rfl) (Nat.le_of_ble_eq_true rfl) rfl (Nat.le_of_ble_eq_true rfl) rfl ?_
  refine zz_J.mono (k hR) ?_
  intro o h' hE
  cases o with
  | inl v => exact zz_J.weak hE rfl ⟨rfl, rfl, rfl, trivial⟩
  | inr q => exact hE
theorem cb_162_16 {X : Nat → Option zz_C} {h : zz_H} {t : cS} {s : mS} {d : Nat} {Q : zz_O → zz_H → Prop} {x1 : Int32} {x4 : Int64} (hR : kR h t s) (k : ∀ {h : zz_H}, kR h t s → zz_J zp_P zt_tf zt_fd X d zm_256 0 [(0, .long x4)] [] h (zz_after 1000 Q (fun v h' => zz_J zp_P zt_tf zt_fd X (d + 1) zm_162 23 [(0, .ref 49), (1, .int x1)] (v.toList ++ [.int 0, .ref 49]) h' Q))) : zz_J zp_P zt_tf zt_fd X (d + 1) zm_162 16 [(0, .ref 49), (1, .int x1), (4, .long x4)] [] h Q := by
  refine zz_J.n 17 rfl rfl rfl ?_
  refine zz_J.c 18 (.int 0) rfl rfl rfl rfl ?_
  refine zz_J.n 20 rfl rfl rfl ?_
  refine zz_J.cl (M' := zm_256) 23 rfl rfl (by decide) rfl rfl ⟨rfl, Nat.le_of_ble_eq_true rfl⟩ rfl ?_
  refine zz_J.mono (k hR) ?_
  intro o h' hE
  cases o with
  | inl v => exact zz_J.weak hE rfl ⟨rfl, rfl, trivial⟩
  | inr q => exact hE
theorem cb_162_23 {X : Nat → Option zz_C} {h : zz_H} {t : cS} {s : mS} {d : Nat} {Q : zz_O → zz_H → Prop} {x1 : Int32} {y1 : Int32} {y2 : Int32} (hR : kR h t s) (k : ∀ {h : zz_H}, kR h t s → zz_J zp_P zt_tf zt_fd X d zm_253 0 [(0, .int y1), (1, .int (y2 + 1))] [] h (zz_after 1000 Q (fun v h' => zz_J zp_P zt_tf zt_fd X (d + 1) zm_162 28 [(0, .ref 49), (1, .int x1)] (v.toList ++ [.ref 49]) h' Q))) : zz_J zp_P zt_tf zt_fd X (d + 1) zm_162 23 [(0, .ref 49), (1, .int x1)] [.int y2, .int y1, .ref 49] h Q := by
  refine zz_J.c 24 (.int 1) rfl rfl rfl rfl ?_
  refine zz_J.n 25 rfl rfl rfl ?_
  refine zz_J.cl (M' := zm_253) 28 rfl rfl (by decide) rfl rfl ⟨rfl, Nat.le_of_ble_eq_true rfl⟩ rfl ?_
  refine zz_J.mono (k hR) ?_
  intro o h' hE
  cases o with
  | inl v => exact zz_J.weak hE rfl ⟨rfl, rfl, trivial⟩
  | inr q => exact hE
theorem cb_162_28 {X : Nat → Option zz_C} {h : zz_H} {t : cS} {s : mS} {d : Nat} {Q : zz_O → zz_H → Prop} {x1 : Int32} {y1 : Int64} (hR : kR h t s) (k : ∀ {h : zz_H}, kR h t s → zz_J zp_P zt_tf zt_fd X d zm_165 0 [(0, .ref 49), (1, .long y1)] [] h (zz_after 3 Q (fun v h' => zz_J zp_P zt_tf zt_fd X (d + 1) zm_162 31 [(0, .ref 49), (1, .int x1)] (v.toList ++ []) h' Q))) : zz_J zp_P zt_tf zt_fd X (d + 1) zm_162 28 [(0, .ref 49), (1, .int x1)] [.long y1, .ref 49] h Q := by
  refine zz_J.cv 31 (as := []) rfl rfl (hR.clO ko_49 (by decide) (by decide)) (by decide) (Nat.le_of_ble_eq_true rfl) (Nat.le_of_ble_eq_true rfl) rfl (Nat.le_of_ble_eq_true rfl) rfl ?_
  refine zz_J.mono (k hR) ?_
  intro o h' hE
  cases o with
  | inl v => exact zz_J.weak hE rfl ⟨rfl, rfl, trivial⟩
  | inr q => exact hE
theorem cb_162_31 {X : Nat → Option zz_C} {h : zz_H} {t : cS} {s : mS} {d : Nat} {Q : zz_O → zz_H → Prop} {x1 : Int32} (hR : kR h t s) (k : ∀ {h : zz_H}, kR h (jI t 49 17 x1) s → Q (.inl none) h) : zz_J zp_P zt_tf zt_fd X d zm_162 31 [(0, .ref 49), (1, .int x1)] [] h Q := by
  refine zz_J.n 32 rfl rfl rfl ?_
  refine zz_J.n 33 rfl rfl rfl ?_
  obtain ⟨h1, eq1, hR⟩ := hR.pI (x := x1) (by decide) ko_49 (kpi_49_17 _) (Nat.le_of_ble_eq_true rfl) rfl
  refine zz_J.pv 36 rfl eq1 rfl ?_
  clear eq1
  refine zz_J.ret rfl rfl rfl ?_
  exact k hR
def cf_162_31 (N : Nat) (X : Nat → Option zz_C) (x1 : Int32) (t : cS) : kO := some ((jI t 49 17 x1), .inl none)
theorem cr_162_31 {X : Nat → Option zz_C} {s : mS} {N : Nat} {d : Nat} (hd : 10 ≤ d) {Q : zz_O → zz_H → Prop} {x1 : Int32} {h : zz_H} {t t' : cS} {o : kY} (hR : kR h t s) (hf : cf_162_31 N X x1 t = some (t', o)) (k : (∀ h', kR h' t' s → kE o Q h')) : zz_J zp_P zt_tf zt_fd X d zm_162 31 [(0, .ref 49), (1, .int x1)] [] h Q := by
  unfold cf_162_31 at hf
  cases hf
  exact cb_162_31 hR  (fun {h} hR => k h hR)
def cf_162_28 (N : Nat) (X : Nat → Option zz_C) (x1 : Int32) (y1 : Int64) (t : cS) : kO := ko_call 3 (cf_165 N X y1 t) (fun g1 v1 => co_v v1 (cf_162_31 N X x1 g1))
theorem cr_162_28 {X : Nat → Option zz_C} {s : mS} {N : Nat} {d : Nat} (hd : 10 ≤ d) {Q : zz_O → zz_H → Prop} {x1 : Int32} {y1 : Int64} {h : zz_H} {t t' : cS} {o : kY} (hR : kR h t s) (hf : cf_162_28 N X x1 y1 t = some (t', o)) (k : (∀ h', kR h' t' s → kE o Q h')) : zz_J zp_P zt_tf zt_fd X d zm_162 28 [(0, .ref 49), (1, .int x1)] [.long y1, .ref 49] h Q := by
  unfold cf_162_28 at hf
  obtain ⟨d', rfl⟩ : ∃ d', d = d' + 1 := ⟨d - 1, by omega⟩
  refine cb_162_28 hR  (fun {h} hR => ?_)
  rcases ko_call_ok hf with ⟨g1, v1, er, hf⟩ | ⟨g1, er, hq⟩
  · obtain ⟨hv, hf2⟩ := co_v_ok hf
    clear hf
    have hf := hf2
    clear hf2
    subst hv
    refine cr_165 (by omega) hR er (fun h hR => ?_)
    exact cr_162_31 hd hR hf k
  · refine cr_165 (by omega) hR er (fun h hR => ?_)
    exact ko_thrown hq hR k
def cf_162_23 (N : Nat) (X : Nat → Option zz_C) (x1 : Int32) (y1 : Int32) (y2 : Int32) (t : cS) : kO := ko_call 1000 (cf_253 N X y1 (y2 + 1) t) (fun g1 v1 => co_l v1 (fun y => cf_162_28 N X x1 y g1))
theorem cr_162_23 {X : Nat → Option zz_C} {s : mS} {N : Nat} {d : Nat} (hd : 10 ≤ d) {Q : zz_O → zz_H → Prop} {x1 : Int32} {y1 : Int32} {y2 : Int32} {h : zz_H} {t t' : cS} {o : kY} (hR : kR h t s) (hf : cf_162_23 N X x1 y1 y2 t = some (t', o)) (k : (∀ h', kR h' t' s → kE o Q h')) : zz_J zp_P zt_tf zt_fd X d zm_162 23 [(0, .ref 49), (1, .int x1)] [.int y2, .int y1, .ref 49] h Q := by
  unfold cf_162_23 at hf
  obtain ⟨d', rfl⟩ : ∃ d', d = d' + 1 := ⟨d - 1, by omega⟩
  refine cb_162_23 hR  (fun {h} hR => ?_)
  rcases ko_call_ok hf with ⟨g1, v1, er, hf⟩ | ⟨g1, er, hq⟩
  · obtain ⟨y, hv, hf2⟩ := co_l_ok hf
    clear hf
    have hf := hf2
    clear hf2
    subst hv
    refine cr_253 (by omega) hR er (fun h hR => ?_)
    exact cr_162_28 hd hR hf k
  · refine cr_253 (by omega) hR er (fun h hR => ?_)
    exact ko_thrown hq hR k
def cf_162_16 (N : Nat) (X : Nat → Option zz_C) (x1 : Int32) (x4 : Int64) (t : cS) : kO := ko_call 1000 (cf_256 N X x4 t) (fun g1 v1 => co_i v1 (fun y => cf_162_23 N X x1 0 y g1))
theorem cr_162_16 {X : Nat → Option zz_C} {s : mS} {N : Nat} {d : Nat} (hd : 10 ≤ d) {Q : zz_O → zz_H → Prop} {x1 : Int32} {x4 : Int64} {h : zz_H} {t t' : cS} {o : kY} (hR : kR h t s) (hf : cf_162_16 N X x1 x4 t = some (t', o)) (k : (∀ h', kR h' t' s → kE o Q h')) : zz_J zp_P zt_tf zt_fd X d zm_162 16 [(0, .ref 49), (1, .int x1), (4, .long x4)] [] h Q := by
  unfold cf_162_16 at hf
  obtain ⟨d', rfl⟩ : ∃ d', d = d' + 1 := ⟨d - 1, by omega⟩
  refine cb_162_16 hR  (fun {h} hR => ?_)
  rcases ko_call_ok hf with ⟨g1, v1, er, hf⟩ | ⟨g1, er, hq⟩
  · obtain ⟨y, hv, hf2⟩ := co_i_ok hf
    clear hf
    have hf := hf2
    clear hf2
    subst hv
    refine cr_256 (by omega) hR er (fun h hR => ?_)
    exact cr_162_23 hd hR hf k
  · refine cr_256 (by omega) hR er (fun h hR => ?_)
    exact ko_thrown hq hR k
def cf_162_9 (N : Nat) (X : Nat → Option zz_C) (x1 : Int32) (x2 : Int64) (y0 : Int64) (t : cS) : kO := ko_call 3 (cf_165 N X x2 t) (fun g1 v1 => co_v v1 (cf_162_16 N X x1 y0 g1))
theorem cr_162_9 {X : Nat → Option zz_C} {s : mS} {N : Nat} {d : Nat} (hd : 10 ≤ d) {Q : zz_O → zz_H → Prop} {x1 : Int32} {x2 : Int64} {y0 : Int64} {h : zz_H} {t t' : cS} {o : kY} (hR : kR h t s) (hf : cf_162_9 N X x1 x2 y0 t = some (t', o)) (k : (∀ h', kR h' t' s → kE o Q h')) : zz_J zp_P zt_tf zt_fd X d zm_162 9 [(0, .ref 49), (1, .int x1), (2, .long x2)] [.long y0] h Q := by
  unfold cf_162_9 at hf
  obtain ⟨d', rfl⟩ : ∃ d', d = d' + 1 := ⟨d - 1, by omega⟩
  refine cb_162_9 hR  (fun {h} hR => ?_)
  rcases ko_call_ok hf with ⟨g1, v1, er, hf⟩ | ⟨g1, er, hq⟩
  · obtain ⟨hv, hf2⟩ := co_v_ok hf
    clear hf
    have hf := hf2
    clear hf2
    subst hv
    refine cr_165 (by omega) hR er (fun h hR => ?_)
    exact cr_162_16 hd hR hf k
  · refine cr_165 (by omega) hR er (fun h hR => ?_)
    exact ko_thrown hq hR k
def cf_162_4 (N : Nat) (X : Nat → Option zz_C) (x1 : Int32) (y0 : Int64) (t : cS) : kO := ko_call 3 (cf_166 N X  t) (fun g1 v1 => co_l v1 (fun y => cf_162_9 N X x1 y0 y g1))
theorem cr_162_4 {X : Nat → Option zz_C} {s : mS} {N : Nat} {d : Nat} (hd : 10 ≤ d) {Q : zz_O → zz_H → Prop} {x1 : Int32} {y0 : Int64} {h : zz_H} {t t' : cS} {o : kY} (hR : kR h t s) (hf : cf_162_4 N X x1 y0 t = some (t', o)) (k : (∀ h', kR h' t' s → kE o Q h')) : zz_J zp_P zt_tf zt_fd X d zm_162 4 [(0, .ref 49), (1, .int x1)] [.long y0] h Q := by
  unfold cf_162_4 at hf
  obtain ⟨d', rfl⟩ : ∃ d', d = d' + 1 := ⟨d - 1, by omega⟩
  refine cb_162_4 hR  (fun {h} hR => ?_)
  rcases ko_call_ok hf with ⟨g1, v1, er, hf⟩ | ⟨g1, er, hq⟩
  · obtain ⟨y, hv, hf2⟩ := co_l_ok hf
    clear hf
    have hf := hf2
    clear hf2
    subst hv
    refine cr_166 (by omega) hR er (fun h hR => ?_)
    exact cr_162_9 hd hR hf k
  · refine cr_166 (by omega) hR er (fun h hR => ?_)
    exact ko_thrown hq hR k
def cf_162_0 (N : Nat) (X : Nat → Option zz_C) (x1 : Int32) (t : cS) : kO := ko_call 3 (cf_166 N X  t) (fun g1 v1 => co_l v1 (fun y => cf_162_4 N X x1 y g1))
theorem cr_162_0 {X : Nat → Option zz_C} {s : mS} {N : Nat} {d : Nat} (hd : 10 ≤ d) {Q : zz_O → zz_H → Prop} {x1 : Int32} {h : zz_H} {t t' : cS} {o : kY} (hR : kR h t s) (hf : cf_162_0 N X x1 t = some (t', o)) (k : (∀ h', kR h' t' s → kE o Q h')) : zz_J zp_P zt_tf zt_fd X d zm_162 0 [(0, .ref 49), (1, .int x1)] [] h Q := by
  unfold cf_162_0 at hf
  obtain ⟨d', rfl⟩ : ∃ d', d = d' + 1 := ⟨d - 1, by omega⟩
  refine cb_162_0 hR  (fun {h} hR => ?_)
  rcases ko_call_ok hf with ⟨g1, v1, er, hf⟩ | ⟨g1, er, hq⟩
  · obtain ⟨y, hv, hf2⟩ := co_l_ok hf
    clear hf
    have hf := hf2
    clear hf2
    subst hv
    refine cr_166 (by omega) hR er (fun h hR => ?_)
    exact cr_162_4 hd hR hf k
  · refine cr_166 (by omega) hR er (fun h hR => ?_)
    exact ko_thrown hq hR k
/-- gotOfEach -/
def cf_162 (N : Nat) (X : Nat → Option zz_C) (x1 : Int32) (t : cS) : kO := cf_162_0 N X x1 t
theorem cr_162 {X : Nat → Option zz_C} {s : mS} {N : Nat} {d : Nat} (hd : 10 ≤ d) {Q : zz_O → zz_H → Prop} {x1 : Int32} {h : zz_H} {t t' : cS} {o : kY} (hR : kR h t s) (hf : cf_162 N X x1 t = some (t', o)) (k : ∀ h', kR h' t' s → kE o Q h') : zz_J zp_P zt_tf zt_fd X d zm_162 0 [(0, .ref 49), (1, .int x1)] [] h Q := by
  unfold cf_162 at hf
  exact zz_J.weak (cr_162_0 hd hR hf k) rfl ⟨rfl, rfl, trivial⟩
/-! yX3_nextOfFold (II)V -/
theorem cb_163_0 {X : Nat → Option zz_C} {h : zz_H} {t : cS} {s : mS} {d : Nat} {Q : zz_O → zz_H → Prop} {x1 : Int32} {x2 : Int32} (hR : kR h t s) (k : ∀ {h : zz_H}, kR h t s → zz_J zp_P zt_tf zt_fd X d zm_167 0 [(0, .ref 49), (1, .int 1)] [] h (zz_after 3 Q (fun v h' => zz_J zp_P zt_tf zt_fd X (d + 1) zm_163 5 [(0, .ref 49), (1, .int x1), (2, .int x2)] (v.toList ++ []) h' Q))) : zz_J zp_P zt_tf zt_fd X (d + 1) zm_163 0 [(0, .ref 49), (1, .int x1), (2, .int x2)] [] h Q := by
  refine zz_J.n 1 rfl rfl rfl ?_
  refine zz_J.c 2 (.int 1) rfl rfl rfl rfl ?_
  refine zz_J.cv 5 (as := []) rfl rfl (hR.clO ko_49 (by decide) (by decide)) (by decide) (Nat.le_of_ble_eq_true rfl) (Nat.le_of_ble_eq_true rfl) rfl (Nat.le_of_ble_eq_true rfl) rfl ?_
  refine zz_J.mono (k hR) ?_
  intro o h' hE
  cases o with
  | inl v => exact zz_J.weak hE rfl ⟨rfl, rfl, rfl, trivial⟩
  | inr q => exact hE
theorem cb_163_5 {X : Nat → Option zz_C} {h : zz_H} {t : cS} {s : mS} {d : Nat} {Q : zz_O → zz_H → Prop} {x1 : Int32} {x2 : Int32} {y0 : Int64} (hR : kR h t s) (k : ∀ {h : zz_H}, kR h t s → zz_J zp_P zt_tf zt_fd X d zm_256 0 [(0, .long y0)] [] h (zz_after 1000 Q (fun v h' => zz_J zp_P zt_tf zt_fd X (d + 1) zm_163 8 [(0, .ref 49), (1, .int x1), (2, .int x2)] (v.toList ++ []) h' Q))) : zz_J zp_P zt_tf zt_fd X (d + 1) zm_163 5 [(0, .ref 49), (1, .int x1), (2, .int x2)] [.long y0] h Q := by
  refine zz_J.cl (M' := zm_256) 8 rfl rfl (by decide) rfl rfl ⟨rfl, Nat.le_of_ble_eq_true rfl⟩ rfl ?_
  refine zz_J.mono (k hR) ?_
  intro o h' hE
  cases o with
  | inl v => exact zz_J.weak hE rfl ⟨rfl, rfl, rfl, trivial⟩
  | inr q => exact hE
theorem cb_163_8 {X : Nat → Option zz_C} {h : zz_H} {t : cS} {s : mS} {d : Nat} {Q : zz_O → zz_H → Prop} {x1 : Int32} {x2 : Int32} {y0 : Int32} (hR : kR h t s) (k : ∀ {h : zz_H}, kR h t s → zz_J zp_P zt_tf zt_fd X d zm_167 0 [(0, .ref 49), (1, .int 2)] [] h (zz_after 3 Q (fun v h' => zz_J zp_P zt_tf zt_fd X (d + 1) zm_163 14 [(0, .ref 49), (1, .int x1), (2, .int x2), (3, .int y0)] (v.toList ++ []) h' Q))) : zz_J zp_P zt_tf zt_fd X (d + 1) zm_163 8 [(0, .ref 49), (1, .int x1), (2, .int x2)] [.int y0] h Q := by
  refine zz_J.n 9 rfl rfl rfl ?_
  refine zz_J.n 10 rfl rfl rfl ?_
  refine zz_J.c 11 (.int 2) rfl rfl rfl rfl ?_
  refine zz_J.cv 14 (as := []) rfl rfl (hR.clO ko_49 (by decide) (by decide)) (by decide) (Nat.le_of_ble_eq_true rfl) (Nat.le_of_ble_eq_true rfl) rfl (Nat.le_of_ble_eq_true rfl) rfl ?_
  refine zz_J.mono (k hR) ?_
  intro o h' hE
  cases o with
  | inl v => exact zz_J.weak hE rfl ⟨rfl, rfl, rfl, rfl, trivial⟩
  | inr q => exact hE
theorem cb_163_14 {X : Nat → Option zz_C} {h : zz_H} {t : cS} {s : mS} {d : Nat} {Q : zz_O → zz_H → Prop} {x1 : Int32} {x2 : Int32} {x3 : Int32} {y0 : Int64} (hR : kR h t s) (k : ∀ {h : zz_H}, kR h t s → zz_J zp_P zt_tf zt_fd X d zm_128 0 [(0, .ref 42), (1, .long y0)] [] h (zz_after 2 Q (fun v h' => zz_J zp_P zt_tf zt_fd X (d + 1) zm_163 26 [(0, .ref 49), (1, .int x1), (2, .int x2), (3, .int x3), (4, .long y0)] (v.toList ++ [.int x3]) h' Q))) : zz_J zp_P zt_tf zt_fd X (d + 1) zm_163 14 [(0, .ref 49), (1, .int x1), (2, .int x2), (3, .int x3)] [.long y0] h Q := by
  refine zz_J.n 16 rfl rfl rfl ?_
  refine zz_J.n 17 rfl rfl rfl ?_
  refine zz_J.n 18 rfl rfl rfl ?_
  refine zz_J.g 21 rfl (hR.gv (v := .ref 42) ko_49 (by decide) rfl) rfl ?_
  refine zz_J.n 23 rfl rfl rfl ?_
  refine zz_J.cv 26 (as := [.int x3]) rfl rfl (hR.clO ko_42 (by decide) (by decide)) (by decide) (Nat.le_of_ble_eq_true rfl) (Nat.le_of_ble_eq_true rfl) rfl (Nat.le_of_ble_eq_true rfl) rfl ?_
  refine zz_J.mono (k hR) ?_
  intro o h' hE
  cases o with
  | inl v => exact zz_J.weak hE rfl ⟨rfl, rfl, rfl, rfl, rfl, trivial⟩
  | inr q => exact hE
theorem cb_163_26 {X : Nat → Option zz_C} {h : zz_H} {t : cS} {s : mS} {d : Nat} {Q : zz_O → zz_H → Prop} {x1 : Int32} {x2 : Int32} {x3 : Int32} {x4 : Int64} {y0 : Int32} {y1 : Int32} (hR : kR h t s) (k1 : y1 ≤ y0 → (∀ {h : zz_H}, kR h t s → zz_J zp_P zt_tf zt_fd X d zm_163 68 [(0, .ref 49)] [] h Q)) (k2 : ¬ y1 ≤ y0 → (∀ {h : zz_H}, kR h t s → zz_J zp_P zt_tf zt_fd X d zm_163 29 [(0, .ref 49), (1, .int x1), (2, .int x2), (3, .int x3), (4, .long x4)] [] h Q)) : zz_J zp_P zt_tf zt_fd X d zm_163 26 [(0, .ref 49), (1, .int x1), (2, .int x2), (3, .int x3), (4, .long x4)] [.int y1, .int y0] h Q := by
  refine zz_J.b2 68 29 (A := y1 ≤ y0) rfl rfl (by decide) rfl rfl (fun c => ?_) (fun c => ?_)
  · exact zz_J.weak (k1 c hR) rfl ⟨rfl, trivial⟩
  · exact zz_J.weak (k2 c hR) rfl ⟨rfl, rfl, rfl, rfl, rfl, trivial⟩
theorem cb_163_29 {X : Nat → Option zz_C} {h : zz_H} {t : cS} {s : mS} {d : Nat} {Q : zz_O → zz_H → Prop} {x1 : Int32} {x2 : Int32} {x3 : Int32} {x4 : Int64} (hR : kR h t s) (k : ∀ {h : zz_H}, kR h t s → zz_J zp_P zt_tf zt_fd X d zm_146 0 [(0, .ref 49), (1, .int x2)] [] h (zz_after 3 Q (fun v h' => zz_J zp_P zt_tf zt_fd X (d + 1) zm_163 34 [(0, .ref 49), (1, .int x1), (2, .int x2), (3, .int x3), (4, .long x4)] (v.toList ++ []) h' Q))) : zz_J zp_P zt_tf zt_fd X (d + 1) zm_163 29 [(0, .ref 49), (1, .int x1), (2, .int x2), (3, .int x3), (4, .long x4)] [] h Q := by
  refine zz_J.n 30 rfl rfl rfl ?_
  refine zz_J.n 31 rfl rfl rfl ?_
  refine zz_J.cv 34 (as := []) rfl rfl (hR.clO ko_49 (by decide) (by decide)) (by decide) (Nat.le_of_ble_eq_true rfl) (Nat.le_of_ble_eq_true rfl) rfl (Nat.le_of_ble_eq_true rfl) rfl ?_
  refine zz_J.mono (k hR) ?_
  intro o h' hE
  cases o with
  | inl v => exact zz_J.weak hE rfl ⟨rfl, rfl, rfl, rfl, rfl, trivial⟩
  | inr q => exact hE
theorem cb_163_34 {X : Nat → Option zz_C} {h : zz_H} {t : cS} {s : mS} {d : Nat} {Q : zz_O → zz_H → Prop} {x1 : Int32} {x2 : Int32} {x3 : Int32} {x4 : Int64} {y0 : Int32} (hR : kR h t s) (k1 : y0 = 0 → (∀ {h : zz_H}, kR h t s → zz_J zp_P zt_tf zt_fd X d zm_163 67 [] [] h Q)) (k2 : ¬ y0 = 0 → (∀ {h : zz_H}, kR h t s → zz_J zp_P zt_tf zt_fd X d zm_163 37 [(0, .ref 49), (1, .int x1), (2, .int x2), (3, .int x3), (4, .long x4)] [] h Q)) : zz_J zp_P zt_tf zt_fd X d zm_163 34 [(0, .ref 49), (1, .int x1), (2, .int x2), (3, .int x3), (4, .long x4)] [.int y0] h Q := by
  refine zz_J.b1 67 37 (A := y0 = 0) rfl rfl (by decide) rfl rfl (fun c => ?_) (fun c => ?_)
  · exact zz_J.weak (k1 c hR) rfl trivial
  · exact zz_J.weak (k2 c hR) rfl ⟨rfl, rfl, rfl, rfl, rfl, trivial⟩
theorem cb_163_37 {X : Nat → Option zz_C} {h : zz_H} {t : cS} {s : mS} {d : Nat} {Q : zz_O → zz_H → Prop} {x1 : Int32} {x2 : Int32} {x3 : Int32} {x4 : Int64} (hR : kR h t s) (k : ∀ {h : zz_H}, kR h t s → zz_J zp_P zt_tf zt_fd X d zm_167 0 [(0, .ref 49), (1, .int 3)] [] h (zz_after 3 Q (fun v h' => zz_J zp_P zt_tf zt_fd X (d + 1) zm_163 43 [(0, .ref 49), (1, .int x1), (2, .int x2), (3, .int x3), (4, .long x4)] (v.toList ++ [.ref 49]) h' Q))) : zz_J zp_P zt_tf zt_fd X (d + 1) zm_163 37 [(0, .ref 49), (1, .int x1), (2, .int x2), (3, .int x3), (4, .long x4)] [] h Q := by
  refine zz_J.n 38 rfl rfl rfl ?_
  refine zz_J.n 39 rfl rfl rfl ?_
  refine zz_J.c 40 (.int 3) rfl rfl rfl rfl ?_
  refine zz_J.cv 43 (as := [.ref 49]) rfl rfl (hR.clO ko_49 (by decide) (by decide)) (by decide) (Nat.le_of_ble_eq_true rfl) (Nat.le_of_ble_eq_true rfl) rfl (Nat.le_of_ble_eq_true rfl) rfl ?_
  refine zz_J.mono (k hR) ?_
  intro o h' hE
  cases o with
  | inl v => exact zz_J.weak hE rfl ⟨rfl, rfl, rfl, rfl, rfl, trivial⟩
  | inr q => exact hE
theorem cb_163_43 {X : Nat → Option zz_C} {h : zz_H} {t : cS} {s : mS} {d : Nat} {Q : zz_O → zz_H → Prop} {x1 : Int32} {x2 : Int32} {x3 : Int32} {x4 : Int64} {y1 : Int64} (hR : kR h t s) (k : ∀ {h : zz_H}, kR h t s → zz_J zp_P zt_tf zt_fd X d zm_165 0 [(0, .ref 49), (1, .long y1)] [] h (zz_after 3 Q (fun v h' => zz_J zp_P zt_tf zt_fd X (d + 1) zm_163 46 [(0, .ref 49), (1, .int x1), (2, .int x2), (3, .int x3), (4, .long x4)] (v.toList ++ []) h' Q))) : zz_J zp_P zt_tf zt_fd X (d + 1) zm_163 43 [(0, .ref 49), (1, .int x1), (2, .int x2), (3, .int x3), (4, .long x4)] [.long y1, .ref 49] h Q := by
  refine zz_J.cv 46 (as := []) rfl rfl (hR.clO ko_49 (by decide) (by decide)) (by decide) (Nat.le_of_ble_eq_true rfl) (Nat.le_of_ble_eq_true rfl) rfl (Nat.le_of_ble_eq_true rfl) rfl ?_
  refine zz_J.mono (k hR) ?_
  intro o h' hE
  cases o with
  | inl v => exact zz_J.weak hE rfl ⟨rfl, rfl, rfl, rfl, rfl, trivial⟩
  | inr q => exact hE
theorem cb_163_46 {X : Nat → Option zz_C} {h : zz_H} {t : cS} {s : mS} {d : Nat} {Q : zz_O → zz_H → Prop} {x1 : Int32} {x2 : Int32} {x3 : Int32} {x4 : Int64} (hR : kR h t s) (k : ∀ {h : zz_H}, kR h t s → zz_J zp_P zt_tf zt_fd X d zm_129 0 [(0, .ref 42), (1, .long x4), (3, .int x3)] [] h (zz_after 2 Q (fun v h' => zz_J zp_P zt_tf zt_fd X (d + 1) zm_163 57 [(0, .ref 49), (1, .int x1), (2, .int x2)] (v.toList ++ [.ref 49]) h' Q))) : zz_J zp_P zt_tf zt_fd X (d + 1) zm_163 46 [(0, .ref 49), (1, .int x1), (2, .int x2), (3, .int x3), (4, .long x4)] [] h Q := by
  refine zz_J.n 47 rfl rfl rfl ?_
  refine zz_J.n 48 rfl rfl rfl ?_
  refine zz_J.g 51 rfl (hR.gv (v := .ref 42) ko_49 (by decide) rfl) rfl ?_
  refine zz_J.n 53 rfl rfl rfl ?_
  refine zz_J.n 54 rfl rfl rfl ?_
  refine zz_J.cv 57 (as := [.ref 49]) rfl rfl (hR.clO ko_42 (by decide) (by decide)) (by decide) (Nat.le_of_ble_eq_true rfl) (Nat.le_of_ble_eq_true rfl) rfl (Nat.le_of_ble_eq_true rfl) rfl ?_
  refine zz_J.mono (k hR) ?_
  intro o h' hE
  cases o with
  | inl v => exact zz_J.weak hE rfl ⟨rfl, rfl, rfl, trivial⟩
  | inr q => exact hE
theorem cb_163_57 {X : Nat → Option zz_C} {h : zz_H} {t : cS} {s : mS} {d : Nat} {Q : zz_O → zz_H → Prop} {x1 : Int32} {x2 : Int32} {y1 : Int64} (hR : kR h t s) (k : ∀ {h : zz_H}, kR h t s → zz_J zp_P zt_tf zt_fd X d zm_165 0 [(0, .ref 49), (1, .long y1)] [] h (zz_after 3 Q (fun v h' => zz_J zp_P zt_tf zt_fd X (d + 1) zm_163 60 [(0, .ref 49), (1, .int x1), (2, .int x2)] (v.toList ++ []) h' Q))) : zz_J zp_P zt_tf zt_fd X (d + 1) zm_163 57 [(0, .ref 49), (1, .int x1), (2, .int x2)] [.long y1, .ref 49] h Q := by
  refine zz_J.cv 60 (as := []) rfl rfl (hR.clO ko_49 (by decide) (by decide)) (by decide) (Nat.le_of_ble_eq_true rfl) (Nat.le_of_ble_eq_true rfl) rfl (Nat.le_of_ble_eq_true rfl) rfl ?_
  refine zz_J.mono (k hR) ?_
  intro o h' hE
  cases o with
  | inl v => exact zz_J.weak hE rfl ⟨rfl, rfl, rfl, trivial⟩
  | inr q => exact hE
theorem cb_163_60 {X : Nat → Option zz_C} {h : zz_H} {t : cS} {s : mS} {d : Nat} {Q : zz_O → zz_H → Prop} {x1 : Int32} {x2 : Int32} (hR : kR h t s) (k : ∀ {h : zz_H}, kR h t s → zz_J zp_P zt_tf zt_fd X d zm_157 0 [(0, .ref 49), (1, .int x1), (2, .int 2), (3, .int x2)] [] h (zz_after 3 Q (fun v h' => zz_J zp_P zt_tf zt_fd X (d + 1) zm_163 67 [] (v.toList ++ []) h' Q))) : zz_J zp_P zt_tf zt_fd X (d + 1) zm_163 60 [(0, .ref 49), (1, .int x1), (2, .int x2)] [] h Q := by
  refine zz_J.n 61 rfl rfl rfl ?_
  refine zz_J.n 62 rfl rfl rfl ?_
  refine zz_J.c 63 (.int 2) rfl rfl rfl rfl ?_
  refine zz_J.n 64 rfl rfl rfl ?_
  refine zz_J.cv 67 (as := []) rfl rfl (hR.clO ko_49 (by decide) (by decide)) (by decide) (Nat.le_of_ble_eq_true rfl) (Nat.le_of_ble_eq_true rfl) rfl (Nat.le_of_ble_eq_true rfl) rfl ?_
  refine zz_J.mono (k hR) ?_
  intro o h' hE
  cases o with
  | inl v => exact zz_J.weak hE rfl trivial
  | inr q => exact hE
theorem cb_163_67 {X : Nat → Option zz_C} {h : zz_H} {t : cS} {s : mS} {d : Nat} {Q : zz_O → zz_H → Prop}  (hR : kR h t s) (k : ∀ {h : zz_H}, kR h t s → Q (.inl none) h) : zz_J zp_P zt_tf zt_fd X d zm_163 67 [] [] h Q := by
  refine zz_J.ret rfl rfl rfl ?_
  exact k hR
theorem cb_163_68 {X : Nat → Option zz_C} {h : zz_H} {t : cS} {s : mS} {d : Nat} {Q : zz_O → zz_H → Prop}  (hR : kR h t s) (k : ∀ {h : zz_H}, kR h t s → zz_J zp_P zt_tf zt_fd X d zm_166 0 [(0, .ref 49)] [] h (zz_after 3 Q (fun v h' => zz_J zp_P zt_tf zt_fd X (d + 1) zm_163 72 [(0, .ref 49)] (v.toList ++ []) h' Q))) : zz_J zp_P zt_tf zt_fd X (d + 1) zm_163 68 [(0, .ref 49)] [] h Q := by
  refine zz_J.n 69 rfl rfl rfl ?_
  refine zz_J.cv 72 (as := []) rfl rfl (hR.clO ko_49 (by decide) (by decide)) (by decide) (Nat.le_of_ble_eq_true rfl) (Nat.le_of_ble_eq_true rfl) rfl (Nat.le_of_ble_eq_true rfl) rfl ?_
  refine zz_J.mono (k hR) ?_
  intro o h' hE
  cases o with
  | inl v => exact zz_J.weak hE rfl ⟨rfl, trivial⟩
  | inr q => exact hE
theorem cb_163_72 {X : Nat → Option zz_C} {h : zz_H} {t : cS} {s : mS} {d : Nat} {Q : zz_O → zz_H → Prop} {y0 : Int64} (hR : kR h t s) (k : ∀ {h : zz_H}, kR h t s → zz_J zp_P zt_tf zt_fd X d zm_166 0 [(0, .ref 49)] [] h (zz_after 3 Q (fun v h' => zz_J zp_P zt_tf zt_fd X (d + 1) zm_163 77 [(0, .ref 49)] (v.toList ++ []) h' Q))) : zz_J zp_P zt_tf zt_fd X (d + 1) zm_163 72 [(0, .ref 49)] [.long y0] h Q := by
  refine zz_J.n 73 rfl rfl rfl ?_
  refine zz_J.n 74 rfl rfl rfl ?_
  refine zz_J.cv 77 (as := []) rfl rfl (hR.clO ko_49 (by decide) (by decide)) (by decide) (Nat.le_of_ble_eq_true rfl) (Nat.le_of_ble_eq_true rfl) rfl (Nat.le_of_ble_eq_true rfl) rfl ?_
  refine zz_J.mono (k hR) ?_
  intro o h' hE
  cases o with
  | inl v => exact zz_J.weak hE rfl ⟨rfl, trivial⟩
  | inr q => exact hE
theorem cb_163_77 {X : Nat → Option zz_C} {h : zz_H} {t : cS} {s : mS} {d : Nat} {Q : zz_O → zz_H → Prop} {y0 : Int64} (hR : kR h t s) (k : ∀ {h : zz_H}, kR h (jI t 49 17 ((kI t 49 17) + 1)) s → Q (.inl none) h) : zz_J zp_P zt_tf zt_fd X d zm_163 77 [(0, .ref 49)] [.long y0] h Q := by
  refine zz_J.n 78 rfl rfl rfl ?_
  refine zz_J.n 79 rfl rfl rfl ?_
  refine zz_J.n 80 rfl rfl rfl ?_
  refine zz_J.g 83 rfl (hR.gv (v := .int (kI t 49 17)) ko_49 (by decide) rfl) rfl ?_
  refine zz_J.c 84 (.int 1) rfl rfl rfl rfl ?_
  refine zz_J.n 85 rfl rfl rfl ?_
  obtain ⟨h1, eq1, hR⟩ := hR.pI (x := ((kI t 49 17) + 1)) (by decide) ko_49 (kpi_49_17 _) (Nat.le_of_ble_eq_true rfl) rfl
  refine zz_J.pv 88 rfl eq1 rfl ?_
  clear eq1
  refine zz_J.ret rfl rfl rfl ?_
  exact k hR
def cf_163_77 (N : Nat) (X : Nat → Option zz_C) (y0 : Int64) (t : cS) : kO := some ((jI t 49 17 ((kI t 49 17) + 1)), .inl none)
theorem cr_163_77 {X : Nat → Option zz_C} {s : mS} {N : Nat} {d : Nat} (hd : 11 ≤ d) {Q : zz_O → zz_H → Prop} {y0 : Int64} {h : zz_H} {t t' : cS} {o : kY} (hR : kR h t s) (hf : cf_163_77 N X y0 t = some (t', o)) (k : (∀ h', kR h' t' s → kE o Q h')) : zz_J zp_P zt_tf zt_fd X d zm_163 77 [(0, .ref 49)] [.long y0] h Q := by
  unfold cf_163_77 at hf
  cases hf
  exact cb_163_77 hR  (fun {h} hR => k h hR)
def cf_163_72 (N : Nat) (X : Nat → Option zz_C) (y0 : Int64) (t : cS) : kO := ko_call 3 (cf_166 N X  t) (fun g1 v1 => co_l v1 (fun y => cf_163_77 N X y g1))
theorem cr_163_72 {X : Nat → Option zz_C} {s : mS} {N : Nat} {d : Nat} (hd : 11 ≤ d) {Q : zz_O → zz_H → Prop} {y0 : Int64} {h : zz_H} {t t' : cS} {o : kY} (hR : kR h t s) (hf : cf_163_72 N X y0 t = some (t', o)) (k : (∀ h', kR h' t' s → kE o Q h')) : zz_J zp_P zt_tf zt_fd X d zm_163 72 [(0, .ref 49)] [.long y0] h Q := by
  unfold cf_163_72 at hf
  obtain ⟨d', rfl⟩ : ∃ d', d = d' + 1 := ⟨d - 1, by omega⟩
  refine cb_163_72 hR  (fun {h} hR => ?_)
  rcases ko_call_ok hf with ⟨g1, v1, er, hf⟩ | ⟨g1, er, hq⟩
  · obtain ⟨y, hv, hf2⟩ := co_l_ok hf
    clear hf
    have hf := hf2
    clear hf2
    subst hv
    refine cr_166 (by omega) hR er (fun h hR => ?_)
    exact cr_163_77 hd hR hf k
  · refine cr_166 (by omega) hR er (fun h hR => ?_)
    exact ko_thrown hq hR k
def cf_163_68 (N : Nat) (X : Nat → Option zz_C)  (t : cS) : kO := ko_call 3 (cf_166 N X  t) (fun g1 v1 => co_l v1 (fun y => cf_163_72 N X y g1))
theorem cr_163_68 {X : Nat → Option zz_C} {s : mS} {N : Nat} {d : Nat} (hd : 11 ≤ d) {Q : zz_O → zz_H → Prop}  {h : zz_H} {t t' : cS} {o : kY} (hR : kR h t s) (hf : cf_163_68 N X  t = some (t', o)) (k : (∀ h', kR h' t' s → kE o Q h')) : zz_J zp_P zt_tf zt_fd X d zm_163 68 [(0, .ref 49)] [] h Q := by
  unfold cf_163_68 at hf
  obtain ⟨d', rfl⟩ : ∃ d', d = d' + 1 := ⟨d - 1, by omega⟩
  refine cb_163_68 hR  (fun {h} hR => ?_)
  rcases ko_call_ok hf with ⟨g1, v1, er, hf⟩ | ⟨g1, er, hq⟩
  · obtain ⟨y, hv, hf2⟩ := co_l_ok hf
    clear hf
    have hf := hf2
    clear hf2
    subst hv
    refine cr_166 (by omega) hR er (fun h hR => ?_)
    exact cr_163_72 hd hR hf k
  · refine cr_166 (by omega) hR er (fun h hR => ?_)
    exact ko_thrown hq hR k
def cf_163_67 (N : Nat) (X : Nat → Option zz_C)  (t : cS) : kO := some (t, .inl none)
theorem cr_163_67 {X : Nat → Option zz_C} {s : mS} {N : Nat} {d : Nat} (hd : 11 ≤ d) {Q : zz_O → zz_H → Prop}  {h : zz_H} {t t' : cS} {o : kY} (hR : kR h t s) (hf : cf_163_67 N X  t = some (t', o)) (k : (∀ h', kR h' t' s → kE o Q h')) : zz_J zp_P zt_tf zt_fd X d zm_163 67 [] [] h Q := by
  unfold cf_163_67 at hf
  cases hf
  exact cb_163_67 hR  (fun {h} hR => k h hR)
def cf_163_60 (N : Nat) (X : Nat → Option zz_C) (x1 : Int32) (x2 : Int32) (t : cS) : kO := ko_call 3 (cf_157 N X x1 2 x2 t) (fun g1 v1 => co_v v1 (cf_163_67 N X  g1))
theorem cr_163_60 {X : Nat → Option zz_C} {s : mS} {N : Nat} {d : Nat} (hd : 11 ≤ d) {Q : zz_O → zz_H → Prop} {x1 : Int32} {x2 : Int32} {h : zz_H} {t t' : cS} {o : kY} (hR : kR h t s) (hf : cf_163_60 N X x1 x2 t = some (t', o)) (k : (∀ h', kR h' t' s → kE o Q h')) : zz_J zp_P zt_tf zt_fd X d zm_163 60 [(0, .ref 49), (1, .int x1), (2, .int x2)] [] h Q := by
  unfold cf_163_60 at hf
  obtain ⟨d', rfl⟩ : ∃ d', d = d' + 1 := ⟨d - 1, by omega⟩
  refine cb_163_60 hR  (fun {h} hR => ?_)
  rcases ko_call_ok hf with ⟨g1, v1, er, hf⟩ | ⟨g1, er, hq⟩
  · obtain ⟨hv, hf2⟩ := co_v_ok hf
    clear hf
    have hf := hf2
    clear hf2
    subst hv
    refine cr_157 (by omega) hR er (fun h hR => ?_)
    exact cr_163_67 hd hR hf k
  · refine cr_157 (by omega) hR er (fun h hR => ?_)
    exact ko_thrown hq hR k
def cf_163_57 (N : Nat) (X : Nat → Option zz_C) (x1 : Int32) (x2 : Int32) (y1 : Int64) (t : cS) : kO := ko_call 3 (cf_165 N X y1 t) (fun g1 v1 => co_v v1 (cf_163_60 N X x1 x2 g1))
theorem cr_163_57 {X : Nat → Option zz_C} {s : mS} {N : Nat} {d : Nat} (hd : 11 ≤ d) {Q : zz_O → zz_H → Prop} {x1 : Int32} {x2 : Int32} {y1 : Int64} {h : zz_H} {t t' : cS} {o : kY} (hR : kR h t s) (hf : cf_163_57 N X x1 x2 y1 t = some (t', o)) (k : (∀ h', kR h' t' s → kE o Q h')) : zz_J zp_P zt_tf zt_fd X d zm_163 57 [(0, .ref 49), (1, .int x1), (2, .int x2)] [.long y1, .ref 49] h Q := by
  unfold cf_163_57 at hf
  obtain ⟨d', rfl⟩ : ∃ d', d = d' + 1 := ⟨d - 1, by omega⟩
  refine cb_163_57 hR  (fun {h} hR => ?_)
  rcases ko_call_ok hf with ⟨g1, v1, er, hf⟩ | ⟨g1, er, hq⟩
  · obtain ⟨hv, hf2⟩ := co_v_ok hf
    clear hf
    have hf := hf2
    clear hf2
    subst hv
    refine cr_165 (by omega) hR er (fun h hR => ?_)
    exact cr_163_60 hd hR hf k
  · refine cr_165 (by omega) hR er (fun h hR => ?_)
    exact ko_thrown hq hR k
def cf_163_46 (N : Nat) (X : Nat → Option zz_C) (x1 : Int32) (x2 : Int32) (x3 : Int32) (x4 : Int64) (t : cS) : kO := ko_call 2 (cf_129 N X x4 x3 t) (fun g1 v1 => co_l v1 (fun y => cf_163_57 N X x1 x2 y g1))
theorem cr_163_46 {X : Nat → Option zz_C} {s : mS} {N : Nat} {d : Nat} (hd : 11 ≤ d) {Q : zz_O → zz_H → Prop} {x1 : Int32} {x2 : Int32} {x3 : Int32} {x4 : Int64} {h : zz_H} {t t' : cS} {o : kY} (hR : kR h t s) (hf : cf_163_46 N X x1 x2 x3 x4 t = some (t', o)) (k : (∀ h', kR h' t' s → kE o Q h')) : zz_J zp_P zt_tf zt_fd X d zm_163 46 [(0, .ref 49), (1, .int x1), (2, .int x2), (3, .int x3), (4, .long x4)] [] h Q := by
  unfold cf_163_46 at hf
  obtain ⟨d', rfl⟩ : ∃ d', d = d' + 1 := ⟨d - 1, by omega⟩
  refine cb_163_46 hR  (fun {h} hR => ?_)
  rcases ko_call_ok hf with ⟨g1, v1, er, hf⟩ | ⟨g1, er, hq⟩
  · obtain ⟨y, hv, hf2⟩ := co_l_ok hf
    clear hf
    have hf := hf2
    clear hf2
    subst hv
    refine cr_129 (by omega) hR er (fun h hR => ?_)
    exact cr_163_57 hd hR hf k
  · refine cr_129 (by omega) hR er (fun h hR => ?_)
    exact ko_thrown hq hR k
def cf_163_43 (N : Nat) (X : Nat → Option zz_C) (x1 : Int32) (x2 : Int32) (x3 : Int32) (x4 : Int64) (y1 : Int64) (t : cS) : kO := ko_call 3 (cf_165 N X y1 t) (fun g1 v1 => co_v v1 (cf_163_46 N X x1 x2 x3 x4 g1))
theorem cr_163_43 {X : Nat → Option zz_C} {s : mS} {N : Nat} {d : Nat} (hd : 11 ≤ d) {Q : zz_O → zz_H → Prop} {x1 : Int32} {x2 : Int32} {x3 : Int32} {x4 : Int64} {y1 : Int64} {h : zz_H} {t t' : cS} {o : kY} (hR : kR h t s) (hf : cf_163_43 N X x1 x2 x3 x4 y1 t = some (t', o)) (k : (∀ h', kR h' t' s → kE o Q h')) : zz_J zp_P zt_tf zt_fd X d zm_163 43 [(0, .ref 49), (1, .int x1), (2, .int x2), (3, .int x3), (4, .long x4)] [.long y1, .ref 49] h Q := by
  unfold cf_163_43 at hf
  obtain ⟨d', rfl⟩ : ∃ d', d = d' + 1 := ⟨d - 1, by omega⟩
  refine cb_163_43 hR  (fun {h} hR => ?_)
  rcases ko_call_ok hf with ⟨g1, v1, er, hf⟩ | ⟨g1, er, hq⟩
  · obtain ⟨hv, hf2⟩ := co_v_ok hf
    clear hf
    have hf := hf2
    clear hf2
    subst hv
    refine cr_165 (by omega) hR er (fun h hR => ?_)
    exact cr_163_46 hd hR hf k
  · refine cr_165 (by omega) hR er (fun h hR => ?_)
    exact ko_thrown hq hR k
def cf_163_37 (N : Nat) (X : Nat → Option zz_C) (x1 : Int32) (x2 : Int32) (x3 : Int32) (x4 : Int64) (t : cS) : kO := ko_call 3 (cf_167 N X 3 t) (fun g1 v1 => co_l v1 (fun y => cf_163_43 N X x1 x2 x3 x4 y g1))
theorem cr_163_37 {X : Nat → Option zz_C} {s : mS} {N : Nat} {d : Nat} (hd : 11 ≤ d) {Q : zz_O → zz_H → Prop} {x1 : Int32} {x2 : Int32} {x3 : Int32} {x4 : Int64} {h : zz_H} {t t' : cS} {o : kY} (hR : kR h t s) (hf : cf_163_37 N X x1 x2 x3 x4 t = some (t', o)) (k : (∀ h', kR h' t' s → kE o Q h')) : zz_J zp_P zt_tf zt_fd X d zm_163 37 [(0, .ref 49), (1, .int x1), (2, .int x2), (3, .int x3), (4, .long x4)] [] h Q := by
  unfold cf_163_37 at hf
  obtain ⟨d', rfl⟩ : ∃ d', d = d' + 1 := ⟨d - 1, by omega⟩
  refine cb_163_37 hR  (fun {h} hR => ?_)
  rcases ko_call_ok hf with ⟨g1, v1, er, hf⟩ | ⟨g1, er, hq⟩
  · obtain ⟨y, hv, hf2⟩ := co_l_ok hf
    clear hf
    have hf := hf2
    clear hf2
    subst hv
    refine cr_167 (by omega) hR er (fun h hR => ?_)
    exact cr_163_43 hd hR hf k
  · refine cr_167 (by omega) hR er (fun h hR => ?_)
    exact ko_thrown hq hR k
def cf_163_34 (N : Nat) (X : Nat → Option zz_C) (x1 : Int32) (x2 : Int32) (x3 : Int32) (x4 : Int64) (y0 : Int32) (t : cS) : kO := if y0 = 0 then cf_163_67 N X  t else cf_163_37 N X x1 x2 x3 x4 t
theorem cr_163_34 {X : Nat → Option zz_C} {s : mS} {N : Nat} {d : Nat} (hd : 11 ≤ d) {Q : zz_O → zz_H → Prop} {x1 : Int32} {x2 : Int32} {x3 : Int32} {x4 : Int64} {y0 : Int32} {h : zz_H} {t t' : cS} {o : kY} (hR : kR h t s) (hf : cf_163_34 N X x1 x2 x3 x4 y0 t = some (t', o)) (k : (∀ h', kR h' t' s → kE o Q h')) : zz_J zp_P zt_tf zt_fd X d zm_163 34 [(0, .ref 49), (1, .int x1), (2, .int x2), (3, .int x3), (4, .long x4)] [.int y0] h Q := by
  unfold cf_163_34 at hf
  refine cb_163_34 hR  (fun c {h} hR => ?_) (fun c {h} hR => ?_)
  · rw [if_pos c] at hf
    exact cr_163_67 hd hR hf k
  · rw [if_neg c] at hf
    exact cr_163_37 hd hR hf k
def cf_163_29 (N : Nat) (X : Nat → Option zz_C) (x1 : Int32) (x2 : Int32) (x3 : Int32) (x4 : Int64) (t : cS) : kO := ko_call 3 (cf_146 N X x2 t) (fun g1 v1 => co_i v1 (fun y => cf_163_34 N X x1 x2 x3 x4 y g1))
theorem cr_163_29 {X : Nat → Option zz_C} {s : mS} {N : Nat} {d : Nat} (hd : 11 ≤ d) {Q : zz_O → zz_H → Prop} {x1 : Int32} {x2 : Int32} {x3 : Int32} {x4 : Int64} {h : zz_H} {t t' : cS} {o : kY} (hR : kR h t s) (hf : cf_163_29 N X x1 x2 x3 x4 t = some (t', o)) (k : (∀ h', kR h' t' s → kE o Q h')) : zz_J zp_P zt_tf zt_fd X d zm_163 29 [(0, .ref 49), (1, .int x1), (2, .int x2), (3, .int x3), (4, .long x4)] [] h Q := by
  unfold cf_163_29 at hf
  obtain ⟨d', rfl⟩ : ∃ d', d = d' + 1 := ⟨d - 1, by omega⟩
  refine cb_163_29 hR  (fun {h} hR => ?_)
  rcases ko_call_ok hf with ⟨g1, v1, er, hf⟩ | ⟨g1, er, hq⟩
  · obtain ⟨y, hv, hf2⟩ := co_i_ok hf
    clear hf
    have hf := hf2
    clear hf2
    subst hv
    refine cr_146 (by omega) hR er (fun h hR => ?_)
    exact cr_163_34 hd hR hf k
  · refine cr_146 (by omega) hR er (fun h hR => ?_)
    exact ko_thrown hq hR k
def cf_163_26 (N : Nat) (X : Nat → Option zz_C) (x1 : Int32) (x2 : Int32) (x3 : Int32) (x4 : Int64) (y0 : Int32) (y1 : Int32) (t : cS) : kO := if y1 ≤ y0 then cf_163_68 N X  t else cf_163_29 N X x1 x2 x3 x4 t
theorem cr_163_26 {X : Nat → Option zz_C} {s : mS} {N : Nat} {d : Nat} (hd : 11 ≤ d) {Q : zz_O → zz_H → Prop} {x1 : Int32} {x2 : Int32} {x3 : Int32} {x4 : Int64} {y0 : Int32} {y1 : Int32} {h : zz_H} {t t' : cS} {o : kY} (hR : kR h t s) (hf : cf_163_26 N X x1 x2 x3 x4 y0 y1 t = some (t', o)) (k : (∀ h', kR h' t' s → kE o Q h')) : zz_J zp_P zt_tf zt_fd X d zm_163 26 [(0, .ref 49), (1, .int x1), (2, .int x2), (3, .int x3), (4, .long x4)] [.int y1, .int y0] h Q := by
  unfold cf_163_26 at hf
  refine cb_163_26 hR  (fun c {h} hR => ?_) (fun c {h} hR => ?_)
  · rw [if_pos c] at hf
    exact cr_163_68 hd hR hf k
  · rw [if_neg c] at hf
    exact cr_163_29 hd hR hf k
def cf_163_14 (N : Nat) (X : Nat → Option zz_C) (x1 : Int32) (x2 : Int32) (x3 : Int32) (y0 : Int64) (t : cS) : kO := ko_call 2 (cf_128 N X y0 t) (fun g1 v1 => co_i v1 (fun y => cf_163_26 N X x1 x2 x3 y0 x3 y g1))
theorem cr_163_14 {X : Nat → Option zz_C} {s : mS} {N : Nat} {d : Nat} (hd : 11 ≤ d) {Q : zz_O → zz_H → Prop} {x1 : Int32} {x2 : Int32} {x3 : Int32} {y0 : Int64} {h : zz_H} {t t' : cS} {o : kY} (hR : kR h t s) (hf : cf_163_14 N X x1 x2 x3 y0 t = some (t', o)) (k : (∀ h', kR h' t' s → kE o Q h')) : zz_J zp_P zt_tf zt_fd X d zm_163 14 [(0, .ref 49), (1, .int x1), (2, .int x2), (3, .int x3)] [.long y0] h Q := by
  unfold cf_163_14 at hf
  obtain ⟨d', rfl⟩ : ∃ d', d = d' + 1 := ⟨d - 1, by omega⟩
  refine cb_163_14 hR  (fun {h} hR => ?_)
  rcases ko_call_ok hf with ⟨g1, v1, er, hf⟩ | ⟨g1, er, hq⟩
  · obtain ⟨y, hv, hf2⟩ := co_i_ok hf
    clear hf
    have hf := hf2
    clear hf2
    subst hv
    refine cr_128 (by omega) hR er (fun h hR => ?_)
    exact cr_163_26 hd hR hf k
  · refine cr_128 (by omega) hR er (fun h hR => ?_)
    exact ko_thrown hq hR k
def cf_163_8 (N : Nat) (X : Nat → Option zz_C) (x1 : Int32) (x2 : Int32) (y0 : Int32) (t : cS) : kO := ko_call 3 (cf_167 N X 2 t) (fun g1 v1 => co_l v1 (fun y => cf_163_14 N X x1 x2 y0 y g1))
theorem cr_163_8 {X : Nat → Option zz_C} {s : mS} {N : Nat} {d : Nat} (hd : 11 ≤ d) {Q : zz_O → zz_H → Prop} {x1 : Int32} {x2 : Int32} {y0 : Int32} {h : zz_H} {t t' : cS} {o : kY} (hR : kR h t s) (hf : cf_163_8 N X x1 x2 y0 t = some (t', o)) (k : (∀ h', kR h' t' s → kE o Q h')) : zz_J zp_P zt_tf zt_fd X d zm_163 8 [(0, .ref 49), (1, .int x1), (2, .int x2)] [.int y0] h Q := by
  unfold cf_163_8 at hf
  obtain ⟨d', rfl⟩ : ∃ d', d = d' + 1 := ⟨d - 1, by omega⟩
  refine cb_163_8 hR  (fun {h} hR => ?_)
  rcases ko_call_ok hf with ⟨g1, v1, er, hf⟩ | ⟨g1, er, hq⟩
  · obtain ⟨y, hv, hf2⟩ := co_l_ok hf
    clear hf
    have hf := hf2
    clear hf2
    subst hv
    refine cr_167 (by omega) hR er (fun h hR => ?_)
    exact cr_163_14 hd hR hf k
  · refine cr_167 (by omega) hR er (fun h hR => ?_)
    exact ko_thrown hq hR k
def cf_163_5 (N : Nat) (X : Nat → Option zz_C) (x1 : Int32) (x2 : Int32) (y0 : Int64) (t : cS) : kO := ko_call 1000 (cf_256 N X y0 t) (fun g1 v1 => co_i v1 (fun y => cf_163_8 N X x1 x2 y g1))
theorem cr_163_5 {X : Nat → Option zz_C} {s : mS} {N : Nat} {d : Nat} (hd : 11 ≤ d) {Q : zz_O → zz_H → Prop} {x1 : Int32} {x2 : Int32} {y0 : Int64} {h : zz_H} {t t' : cS} {o : kY} (hR : kR h t s) (hf : cf_163_5 N X x1 x2 y0 t = some (t', o)) (k : (∀ h', kR h' t' s → kE o Q h')) : zz_J zp_P zt_tf zt_fd X d zm_163 5 [(0, .ref 49), (1, .int x1), (2, .int x2)] [.long y0] h Q := by
  unfold cf_163_5 at hf
  obtain ⟨d', rfl⟩ : ∃ d', d = d' + 1 := ⟨d - 1, by omega⟩
  refine cb_163_5 hR  (fun {h} hR => ?_)
  rcases ko_call_ok hf with ⟨g1, v1, er, hf⟩ | ⟨g1, er, hq⟩
  · obtain ⟨y, hv, hf2⟩ := co_i_ok hf
    clear hf
    have hf := hf2
    clear hf2
    subst hv
    refine cr_256 (by omega) hR er (fun h hR => ?_)
    exact cr_163_8 hd hR hf k
  · refine cr_256 (by omega) hR er (fun h hR => ?_)
    exact ko_thrown hq hR k
def cf_163_0 (N : Nat) (X : Nat → Option zz_C) (x1 : Int32) (x2 : Int32) (t : cS) : kO := ko_call 3 (cf_167 N X 1 t) (fun g1 v1 => co_l v1 (fun y => cf_163_5 N X x1 x2 y g1))
theorem cr_163_0 {X : Nat → Option zz_C} {s : mS} {N : Nat} {d : Nat} (hd : 11 ≤ d) {Q : zz_O → zz_H → Prop} {x1 : Int32} {x2 : Int32} {h : zz_H} {t t' : cS} {o : kY} (hR : kR h t s) (hf : cf_163_0 N X x1 x2 t = some (t', o)) (k : (∀ h', kR h' t' s → kE o Q h')) : zz_J zp_P zt_tf zt_fd X d zm_163 0 [(0, .ref 49), (1, .int x1), (2, .int x2)] [] h Q := by
  unfold cf_163_0 at hf
  obtain ⟨d', rfl⟩ : ∃ d', d = d' + 1 := ⟨d - 1, by omega⟩
  refine cb_163_0 hR  (fun {h} hR => ?_)
  rcases ko_call_ok hf with ⟨g1, v1, er, hf⟩ | ⟨g1, er, hq⟩
  · obtain ⟨y, hv, hf2⟩ := co_l_ok hf
    clear hf
    have hf := hf2
    clear hf2
    subst hv
    refine cr_167 (by omega) hR er (fun h hR => ?_)
    exact cr_163_5 hd hR hf k
  · refine cr_167 (by omega) hR er (fun h hR => ?_)
    exact ko_thrown hq hR k
/-- nextOfFold -/
def cf_163 (N : Nat) (X : Nat → Option zz_C) (x1 : Int32) (x2 : Int32) (t : cS) : kO := cf_163_0 N X x1 x2 t
theorem cr_163 {X : Nat → Option zz_C} {s : mS} {N : Nat} {d : Nat} (hd : 11 ≤ d) {Q : zz_O → zz_H → Prop} {x1 : Int32} {x2 : Int32} {h : zz_H} {t t' : cS} {o : kY} (hR : kR h t s) (hf : cf_163 N X x1 x2 t = some (t', o)) (k : ∀ h', kR h' t' s → kE o Q h') : zz_J zp_P zt_tf zt_fd X d zm_163 0 [(0, .ref 49), (1, .int x1), (2, .int x2)] [] h Q := by
  unfold cf_163 at hf
  exact zz_J.weak (cr_163_0 hd hR hf k) rfl ⟨rfl, rfl, rfl, trivial⟩
