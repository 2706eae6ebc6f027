/-! yX1_outer (JJ)J -/
theorem cb_118_0 {X : Nat → Option zz_C} {h : zz_H} {t : cS} {s : mS} {d : Nat} {Q : zz_O → zz_H → Prop} {x1 : Int64} {x3 : Int64} (hR : kR h t s) (k : ∀ {h : zz_H}, kR h t s → zz_J zp_P zt_tf zt_fd X d zm_255 0 [(0, .long x1)] [] h (zz_after 1000 Q (fun v h' => zz_J zp_P zt_tf zt_fd X (d + 1) zm_118 4 [(0, .ref 59), (1, .long x1), (3, .long x3)] (v.toList ++ []) h' Q))) : zz_J zp_P zt_tf zt_fd X (d + 1) zm_118 0 [(0, .ref 59), (1, .long x1), (3, .long x3)] [] h Q := by
  refine zz_J.n 1 rfl rfl rfl ?_
  refine zz_J.cl (M' := zm_255) 4 rfl rfl (by decide) rfl rfl ⟨rfl, Nat.le_of_ble_eq_true rfl⟩ rfl ?_
  refine zz_J.mono (k hR) ?_
  intro o h' hE
  cases o with
  | inl v => exact zz_J.weak hE rfl ⟨rfl, rfl, rfl, trivial⟩
  | inr q => exact hE
theorem cb_118_4 {X : Nat → Option zz_C} {h : zz_H} {t : cS} {s : mS} {d : Nat} {Q : zz_O → zz_H → Prop} {x1 : Int64} {x3 : Int64} {y0 : Int32} (hR : kR h t s) (k1 : ¬ y0 = 1 → (∀ {h : zz_H}, kR h t s → zz_J zp_P zt_tf zt_fd X d zm_118 16 [] [] h Q)) (k2 : ¬ ¬ y0 = 1 → (∀ {h : zz_H}, kR h t s → zz_J zp_P zt_tf zt_fd X d zm_118 8 [(0, .ref 59), (1, .long x1), (3, .long x3)] [] h Q)) : zz_J zp_P zt_tf zt_fd X d zm_118 4 [(0, .ref 59), (1, .long x1), (3, .long x3)] [.int y0] h Q := by
  refine zz_J.c 5 (.int 1) rfl rfl rfl rfl ?_
  refine zz_J.b2 16 8 (A := ¬ y0 = 1) rfl (zz_cond_ne _ _) (by decide) rfl rfl (fun c => ?_) (fun c => ?_)
  · exact zz_J.weak (k1 c hR) rfl trivial
  · exact zz_J.weak (k2 c hR) rfl ⟨rfl, rfl, rfl, trivial⟩
theorem cb_118_8 {X : Nat → Option zz_C} {h : zz_H} {t : cS} {s : mS} {d : Nat} {Q : zz_O → zz_H → Prop} {x1 : Int64} {x3 : Int64} (hR : kR h t s) (k : ∀ {h : zz_H}, kR h t s → zz_J zp_P zt_tf zt_fd X d zm_255 0 [(0, .long x3)] [] h (zz_after 1000 Q (fun v h' => zz_J zp_P zt_tf zt_fd X (d + 1) zm_118 12 [(0, .ref 59), (1, .long x1), (3, .long x3)] (v.toList ++ []) h' Q))) : zz_J zp_P zt_tf zt_fd X (d + 1) zm_118 8 [(0, .ref 59), (1, .long x1), (3, .long x3)] [] h Q := by
  refine zz_J.n 9 rfl rfl rfl ?_
  refine zz_J.cl (M' := zm_255) 12 rfl rfl (by decide) rfl rfl ⟨rfl, Nat.le_of_ble_eq_true rfl⟩ rfl ?_
  refine zz_J.mono (k hR) ?_
  intro o h' hE
  cases o with
  | inl v => exact zz_J.weak hE rfl ⟨rfl, rfl, rfl, trivial⟩
  | inr q => exact hE
theorem cb_118_12 {X : Nat → Option zz_C} {h : zz_H} {t : cS} {s : mS} {d : Nat} {Q : zz_O → zz_H → Prop} {x1 : Int64} {x3 : Int64} {y0 : Int32} (hR : kR h t s) (k1 : y0 = 1 → (∀ {h : zz_H}, kR h t s → zz_J zp_P zt_tf zt_fd X d zm_118 21 [(0, .ref 59), (1, .long x1), (3, .long x3)] [] h Q)) (k2 : ¬ y0 = 1 → (∀ {h : zz_H}, kR h t s → zz_J zp_P zt_tf zt_fd X d zm_118 16 [] [] h Q)) : zz_J zp_P zt_tf zt_fd X d zm_118 12 [(0, .ref 59), (1, .long x1), (3, .long x3)] [.int y0] h Q := by
  refine zz_J.c 13 (.int 1) rfl rfl rfl rfl ?_
  refine zz_J.b2 21 16 (A := y0 = 1) rfl rfl (by decide) rfl rfl (fun c => ?_) (fun c => ?_)
  · exact zz_J.weak (k1 c hR) rfl ⟨rfl, rfl, rfl, trivial⟩
  · exact zz_J.weak (k2 c hR) rfl trivial
theorem cb_118_16 {X : Nat → Option zz_C} {h : zz_H} {t : cS} {s : mS} {d : Nat} {Q : zz_O → zz_H → Prop}  (hR : kR h t s) (k : ∀ {h : zz_H}, kR h t s → zz_J zp_P zt_tf zt_fd X d zm_254 0 [(0, .int 3)] [] h (zz_after 1000 Q (fun v h' => zz_J zp_P zt_tf zt_fd X (d + 1) zm_118 20 [] (v.toList ++ []) h' Q))) : zz_J zp_P zt_tf zt_fd X (d + 1) zm_118 16 [] [] h Q := by
  refine zz_J.c 17 (.int 3) rfl rfl rfl rfl ?_
  refine zz_J.cl (M' := zm_254) 20 rfl rfl (by decide) rfl rfl ⟨rfl, Nat.le_of_ble_eq_true rfl⟩ rfl ?_
  refine zz_J.mono (k hR) ?_
  intro o h' hE
  cases o with
  | inl v => exact zz_J.weak hE rfl trivial
  | inr q => exact hE
theorem cb_118_20 {X : Nat → Option zz_C} {h : zz_H} {t : cS} {s : mS} {d : Nat} {Q : zz_O → zz_H → Prop} {y0 : Int64} (hR : kR h t s) (k : ∀ {h : zz_H}, kR h t s → Q (.inl (some (.long y0))) h) : zz_J zp_P zt_tf zt_fd X d zm_118 20 [] [.long y0] h Q := by
  refine zz_J.ret rfl rfl rfl ?_
  exact k hR
theorem cb_118_21 {X : Nat → Option zz_C} {h : zz_H} {t : cS} {s : mS} {d : Nat} {Q : zz_O → zz_H → Prop} {x1 : Int64} {x3 : Int64} (hR : kR h t s) (k : ∀ {h : zz_H}, kR h t s → zz_J zp_P zt_tf zt_fd X d zm_128 0 [(0, .ref 42), (1, .long x1)] [] h (zz_after 2 Q (fun v h' => zz_J zp_P zt_tf zt_fd X (d + 1) zm_118 29 [(0, .ref 59), (1, .long x1), (3, .long x3)] (v.toList ++ []) h' Q))) : zz_J zp_P zt_tf zt_fd X (d + 1) zm_118 21 [(0, .ref 59), (1, .long x1), (3, .long x3)] [] h Q := by
  refine zz_J.n 22 rfl rfl rfl ?_
  refine zz_J.g 25 rfl (hR.gv (v := .ref 42) ko_59 (by decide) rfl) rfl ?_
  refine zz_J.n 26 rfl rfl rfl ?_
  refine zz_J.cv 29 (as := []) rfl rfl (hR.clO ko_42 (by decide) (by decide)) (by decide) (Nat.le_of_ble_eq_true rfl) (Nat.le_of_ble_eq_true rfl) rfl (Nat.le_of_ble_eq_true rfl) rfl ?_
  refine zz_J.mono (k hR) ?_
  intro o h' hE
  cases o with
  | inl v => exact zz_J.weak hE rfl ⟨rfl, rfl, rfl, trivial⟩
  | inr q => exact hE
theorem cb_118_29 {X : Nat → Option zz_C} {h : zz_H} {t : cS} {s : mS} {d : Nat} {Q : zz_O → zz_H → Prop} {x1 : Int64} {x3 : Int64} {y0 : Int32} (hR : kR h t s) (k1 : 20 < y0 → (∀ {h : zz_H}, kR h t s → zz_J zp_P zt_tf zt_fd X d zm_118 55 [] [] h Q)) (k2 : ¬ 20 < y0 → (∀ {h : zz_H}, kR h t s → zz_J zp_P zt_tf zt_fd X d zm_118 38 [(0, .ref 59), (1, .long x1), (3, .long x3), (5, .int y0)] [] h Q)) : zz_J zp_P zt_tf zt_fd X d zm_118 29 [(0, .ref 59), (1, .long x1), (3, .long x3)] [.int y0] h Q := by
  refine zz_J.n 31 rfl rfl rfl ?_
  refine zz_J.n 33 rfl rfl rfl ?_
  refine zz_J.c 35 (.int 20) rfl rfl rfl rfl ?_
  refine zz_J.b2 55 38 (A := 20 < y0) rfl rfl (by decide) rfl rfl (fun c => ?_) (fun c => ?_)
  · exact zz_J.weak (k1 c hR) rfl trivial
  · exact zz_J.weak (k2 c hR) rfl ⟨rfl, rfl, rfl, rfl, trivial⟩
theorem cb_118_38 {X : Nat → Option zz_C} {h : zz_H} {t : cS} {s : mS} {d : Nat} {Q : zz_O → zz_H → Prop} {x1 : Int64} {x3 : Int64} {x5 : Int32} (hR : kR h t s) (k : ∀ {h : zz_H}, kR h t s → zz_J zp_P zt_tf zt_fd X d zm_128 0 [(0, .ref 42), (1, .long x3)] [] h (zz_after 2 Q (fun v h' => zz_J zp_P zt_tf zt_fd X (d + 1) zm_118 48 [(0, .ref 59), (1, .long x1), (3, .long x3), (5, .int x5)] (v.toList ++ [.int x5]) h' Q))) : zz_J zp_P zt_tf zt_fd X (d + 1) zm_118 38 [(0, .ref 59), (1, .long x1), (3, .long x3), (5, .int x5)] [] h Q := by
  refine zz_J.n 40 rfl rfl rfl ?_
  refine zz_J.n 41 rfl rfl rfl ?_
  refine zz_J.g 44 rfl (hR.gv (v := .ref 42) ko_59 (by decide) rfl) rfl ?_
  refine zz_J.n 45 rfl rfl rfl ?_
  refine zz_J.cv 48 (as := [.int x5]) rfl rfl (hR.clO ko_42 (by decide) (by decide)) (by decide) (Nat.le_of_ble_eq_true rfl) (Nat.le_of_ble_eq_true rfl) rfl (Nat.le_of_ble_eq_true rfl) rfl ?_
  refine zz_J.mono (k hR) ?_
  intro o h' hE
  cases o with
  | inl v => exact zz_J.weak hE rfl ⟨rfl, rfl, rfl, rfl, trivial⟩
  | inr q => exact hE
theorem cb_118_48 {X : Nat → Option zz_C} {h : zz_H} {t : cS} {s : mS} {d : Nat} {Q : zz_O → zz_H → Prop} {x1 : Int64} {x3 : Int64} {x5 : Int32} {y0 : Int32} {y1 : Int32} (hR : kR h t s) (k1 : (y0 * y1) ≤ 200 → (∀ {h : zz_H}, kR h t s → zz_J zp_P zt_tf zt_fd X d zm_118 60 [(0, .ref 59), (1, .long x1), (3, .long x3), (5, .int x5)] [] h Q)) (k2 : ¬ (y0 * y1) ≤ 200 → (∀ {h : zz_H}, kR h t s → zz_J zp_P zt_tf zt_fd X d zm_118 55 [] [] h Q)) : zz_J zp_P zt_tf zt_fd X d zm_118 48 [(0, .ref 59), (1, .long x1), (3, .long x3), (5, .int x5)] [.int y1, .int y0] h Q := by
  refine zz_J.n 49 rfl rfl rfl ?_
  refine zz_J.c 52 (.int 200) rfl rfl rfl rfl ?_
  refine zz_J.b2 60 55 (A := (y0 * y1) ≤ 200) rfl rfl (by decide) rfl rfl (fun c => ?_) (fun c => ?_)
  · exact zz_J.weak (k1 c hR) rfl ⟨rfl, rfl, rfl, rfl, trivial⟩
  · exact zz_J.weak (k2 c hR) rfl trivial
theorem cb_118_55 {X : Nat → Option zz_C} {h : zz_H} {t : cS} {s : mS} {d : Nat} {Q : zz_O → zz_H → Prop}  (hR : kR h t s) (k : ∀ {h : zz_H}, kR h t s → zz_J zp_P zt_tf zt_fd X d zm_254 0 [(0, .int 2)] [] h (zz_after 1000 Q (fun v h' => zz_J zp_P zt_tf zt_fd X (d + 1) zm_118 59 [] (v.toList ++ []) h' Q))) : zz_J zp_P zt_tf zt_fd X (d + 1) zm_118 55 [] [] h Q := by
  refine zz_J.c 56 (.int 2) rfl rfl rfl rfl ?_
  refine zz_J.cl (M' := zm_254) 59 rfl rfl (by decide) rfl rfl ⟨rfl, Nat.le_of_ble_eq_true rfl⟩ rfl ?_
  refine zz_J.mono (k hR) ?_
  intro o h' hE
  cases o with
  | inl v => exact zz_J.weak hE rfl trivial
  | inr q => exact hE
theorem cb_118_59 {X : Nat → Option zz_C} {h : zz_H} {t : cS} {s : mS} {d : Nat} {Q : zz_O → zz_H → Prop} {y0 : Int64} (hR : kR h t s) (k : ∀ {h : zz_H}, kR h t s → Q (.inl (some (.long y0))) h) : zz_J zp_P zt_tf zt_fd X d zm_118 59 [] [.long y0] h Q := by
  refine zz_J.ret rfl rfl rfl ?_
  exact k hR
theorem cb_118_60 {X : Nat → Option zz_C} {h : zz_H} {t : cS} {s : mS} {d : Nat} {Q : zz_O → zz_H → Prop} {x1 : Int64} {x3 : Int64} {x5 : Int32} (hR : kR h t s) (k : ∀ {h : zz_H}, kR h t s → zz_J zp_P zt_tf zt_fd X d zm_122 0 [(0, .ref 42)] [] h (zz_after 2 Q (fun v h' => zz_J zp_P zt_tf zt_fd X (d + 1) zm_118 67 [(0, .ref 59), (1, .long x1), (3, .long x3), (5, .int x5)] (v.toList ++ []) h' Q))) : zz_J zp_P zt_tf zt_fd X (d + 1) zm_118 60 [(0, .ref 59), (1, .long x1), (3, .long x3), (5, .int x5)] [] h Q := by
  refine zz_J.n 61 rfl rfl rfl ?_
  refine zz_J.g 64 rfl (hR.gv (v := .ref 42) ko_59 (by decide) rfl) rfl ?_
  refine zz_J.cv 67 (as := []) rfl rfl (hR.clO ko_42 (by decide) (by decide)) (by decide) (Nat.le_of_ble_eq_true rfl) (Nat.le_of_ble_eq_true rfl) rfl (Nat.le_of_ble_eq_true rfl) rfl ?_
  refine zz_J.mono (k hR) ?_
  intro o h' hE
  cases o with
  | inl v => exact zz_J.weak hE rfl ⟨rfl, rfl, rfl, rfl, trivial⟩
  | inr q => exact hE
theorem cb_118_67 {X : Nat → Option zz_C} {h : zz_H} {t : cS} {s : mS} {d : Nat} {Q : zz_O → zz_H → Prop} {x1 : Int64} {x3 : Int64} {x5 : Int32} {y0 : Int32} (hR : kR h t s) (k : ∀ {h : zz_H}, kR h t s → zz_J zp_P zt_tf zt_fd X d zm_118 72 [(0, .ref 59), (1, .long x1), (3, .long x3), (5, .int x5), (6, .int y0), (7, .int 0)] [] h Q) : zz_J zp_P zt_tf zt_fd X d zm_118 67 [(0, .ref 59), (1, .long x1), (3, .long x3), (5, .int x5)] [.int y0] h Q := by
  refine zz_J.n 69 rfl rfl rfl ?_
  refine zz_J.c 70 (.int 0) rfl rfl rfl rfl ?_
  refine zz_J.n 72 rfl rfl rfl ?_
  exact zz_J.weak (k hR) rfl ⟨rfl, rfl, rfl, rfl, rfl, rfl, trivial⟩
theorem cb_118_72 {X : Nat → Option zz_C} {h : zz_H} {t : cS} {s : mS} {d : Nat} {Q : zz_O → zz_H → Prop} {x1 : Int64} {x3 : Int64} {x5 : Int32} {x6 : Int32} {x7 : Int32} (hR : kR h t s) (k1 : x5 ≤ x7 → (∀ {h : zz_H}, kR h t s → zz_J zp_P zt_tf zt_fd X d zm_118 107 [(0, .ref 59), (6, .int x6)] [] h Q)) (k2 : ¬ x5 ≤ x7 → (∀ {h : zz_H}, kR h t s → zz_J zp_P zt_tf zt_fd X d zm_118 79 [(0, .ref 59), (1, .long x1), (3, .long x3), (5, .int x5), (6, .int x6), (7, .int x7)] [] h Q)) : zz_J zp_P zt_tf zt_fd X d zm_118 72 [(0, .ref 59), (1, .long x1), (3, .long x3), (5, .int x5), (6, .int x6), (7, .int x7)] [] h Q := by
  refine zz_J.n 74 rfl rfl rfl ?_
  refine zz_J.n 76 rfl rfl rfl ?_
  refine zz_J.b2 107 79 (A := x5 ≤ x7) rfl rfl (by decide) rfl rfl (fun c => ?_) (fun c => ?_)
  · exact zz_J.weak (k1 c hR) rfl ⟨rfl, rfl, trivial⟩
  · exact zz_J.weak (k2 c hR) rfl ⟨rfl, rfl, rfl, rfl, rfl, rfl, trivial⟩
theorem cb_118_79 {X : Nat → Option zz_C} {h : zz_H} {t : cS} {s : mS} {d : Nat} {Q : zz_O → zz_H → Prop} {x1 : Int64} {x3 : Int64} {x5 : Int32} {x6 : Int32} {x7 : Int32} (hR : kR h t s) (k : ∀ {h : zz_H}, kR h t s → zz_J zp_P zt_tf zt_fd X d zm_130 0 [(0, .ref 42), (1, .long x1), (3, .int x7)] [] h (zz_after 2 Q (fun v h' => zz_J zp_P zt_tf zt_fd X (d + 1) zm_118 94 [(0, .ref 59), (1, .long x1), (3, .long x3), (5, .int x5), (6, .int x6), (7, .int x7)] (v.toList ++ [.ref 59, .ref 42]) h' Q))) : zz_J zp_P zt_tf zt_fd X (d + 1) zm_118 79 [(0, .ref 59), (1, .long x1), (3, .long x3), (5, .int x5), (6, .int x6), (7, .int x7)] [] h Q := by
  refine zz_J.n 80 rfl rfl rfl ?_
  refine zz_J.g 83 rfl (hR.gv (v := .ref 42) ko_59 (by decide) rfl) rfl ?_
  refine zz_J.n 84 rfl rfl rfl ?_
  refine zz_J.n 85 rfl rfl rfl ?_
  refine zz_J.g 88 rfl (hR.gv (v := .ref 42) ko_59 (by decide) rfl) rfl ?_
  refine zz_J.n 89 rfl rfl rfl ?_
  refine zz_J.n 91 rfl rfl rfl ?_
  refine zz_J.cv 94 (as := [.ref 59, .ref 42]) rfl rfl (hR.clO ko_42 (by decide) (by decide)) (by decide) (Nat.le_of_ble_eq_true rfl) (Nat.le_of_ble_eq_true rfl) rfl (Nat.le_of_ble_eq_true rfl) rfl ?_
  refine zz_J.mono (k hR) ?_
  intro o h' hE
  cases o with
  | inl v => exact zz_J.weak hE rfl ⟨rfl, rfl, rfl, rfl, rfl, rfl, trivial⟩
  | inr q => exact hE
theorem cb_118_94 {X : Nat → Option zz_C} {h : zz_H} {t : cS} {s : mS} {d : Nat} {Q : zz_O → zz_H → Prop} {x1 : Int64} {x3 : Int64} {x5 : Int32} {x6 : Int32} {x7 : Int32} {y2 : Int32} (hR : kR h t s) (k : ∀ {h : zz_H}, kR h t s → zz_J zp_P zt_tf zt_fd X d zm_119 0 [(0, .ref 59), (1, .int y2), (2, .long x3)] [] h (zz_after 1 Q (fun v h' => zz_J zp_P zt_tf zt_fd X (d + 1) zm_118 98 [(0, .ref 59), (1, .long x1), (3, .long x3), (5, .int x5), (6, .int x6), (7, .int x7)] (v.toList ++ [.ref 42]) h' Q))) : zz_J zp_P zt_tf zt_fd X (d + 1) zm_118 94 [(0, .ref 59), (1, .long x1), (3, .long x3), (5, .int x5), (6, .int x6), (7, .int x7)] [.int y2, .ref 59, .ref 42] h Q := by
  refine zz_J.n 95 rfl rfl rfl ?_
  refine zz_J.cv 98 (as := [.ref 42]) rfl rfl (hR.clO ko_59 (by decide) (by decide)) (by decide) (Nat.le_of_ble_eq_true rfl) (Nat.le_of_ble_eq_true rfl) rfl (Nat.le_of_ble_eq_true rfl) rfl ?_
  refine zz_J.mono (k hR) ?_
  intro o h' hE
  cases o with
  | inl v => exact zz_J.weak hE rfl ⟨rfl, rfl, rfl, rfl, rfl, rfl, trivial⟩
  | inr q => exact hE
theorem cb_118_98 {X : Nat → Option zz_C} {h : zz_H} {t : cS} {s : mS} {d : Nat} {Q : zz_O → zz_H → Prop} {x1 : Int64} {x3 : Int64} {x5 : Int32} {x6 : Int32} {x7 : Int32} {y1 : Int64} (hR : kR h t s) (k : ∀ {h : zz_H}, kR h t s → zz_J zp_P zt_tf zt_fd X d zm_123 0 [(0, .ref 42), (1, .long y1)] [] h (zz_after 2 Q (fun v h' => zz_J zp_P zt_tf zt_fd X (d + 1) zm_118 101 [(0, .ref 59), (1, .long x1), (3, .long x3), (5, .int x5), (6, .int x6), (7, .int x7)] (v.toList ++ []) h' Q))) : zz_J zp_P zt_tf zt_fd X (d + 1) zm_118 98 [(0, .ref 59), (1, .long x1), (3, .long x3), (5, .int x5), (6, .int x6), (7, .int x7)] [.long y1, .ref 42] h Q := by
  refine zz_J.cv 101 (as := []) rfl rfl (hR.clO ko_42 (by decide) (by decide)) (by decide) (Nat.le_of_ble_eq_true rfl) (Nat.le_of_ble_eq_true rfl) rfl (Nat.le_of_ble_eq_true rfl) rfl ?_
  refine zz_J.mono (k hR) ?_
  intro o h' hE
  cases o with
  | inl v => exact zz_J.weak hE rfl ⟨rfl, rfl, rfl, rfl, rfl, rfl, trivial⟩
  | inr q => exact hE
theorem cb_118_101 {X : Nat → Option zz_C} {h : zz_H} {t : cS} {s : mS} {d : Nat} {Q : zz_O → zz_H → Prop} {x1 : Int64} {x3 : Int64} {x5 : Int32} {x6 : Int32} {x7 : Int32} (hR : kR h t s) (k : ∀ {h : zz_H}, kR h t s → zz_J zp_P zt_tf zt_fd X d zm_118 72 [(0, .ref 59), (1, .long x1), (3, .long x3), (5, .int x5), (6, .int x6), (7, .int (x7 + 1))] [] h Q) : zz_J zp_P zt_tf zt_fd X d zm_118 101 [(0, .ref 59), (1, .long x1), (3, .long x3), (5, .int x5), (6, .int x6), (7, .int x7)] [] h Q := by
  refine zz_J.n 104 rfl rfl rfl ?_
  refine zz_J.n 72 rfl rfl rfl ?_
  exact zz_J.weak (k hR) rfl ⟨rfl, rfl, rfl, rfl, rfl, rfl, trivial⟩
theorem cb_118_107 {X : Nat → Option zz_C} {h : zz_H} {t : cS} {s : mS} {d : Nat} {Q : zz_O → zz_H → Prop} {x6 : Int32} (hR : kR h t s) (k : ∀ {h : zz_H}, kR h t s → zz_J zp_P zt_tf zt_fd X d zm_126 0 [(0, .ref 42), (1, .int 2), (2, .int x6)] [] h (zz_after 2 Q (fun v h' => zz_J zp_P zt_tf zt_fd X (d + 1) zm_118 117 [] (v.toList ++ []) h' Q))) : zz_J zp_P zt_tf zt_fd X (d + 1) zm_118 107 [(0, .ref 59), (6, .int x6)] [] h Q := by
  refine zz_J.n 108 rfl rfl rfl ?_
  refine zz_J.g 111 rfl (hR.gv (v := .ref 42) ko_59 (by decide) rfl) rfl ?_
  refine zz_J.c 112 (.int 2) rfl rfl rfl rfl ?_
  refine zz_J.n 114 rfl rfl rfl ?_
  refine zz_J.cv 117 (as := []) rfl rfl (hR.clO ko_42 (by decide) (by decide)) (by decide) (Nat.le_of_ble_eq_true rfl) (Nat.le_of_ble_eq_true rfl) rfl (Nat.le_of_ble_eq_true rfl) rfl ?_
  refine zz_J.mono (k hR) ?_
  intro o h' hE
  cases o with
  | inl v => exact zz_J.weak hE rfl trivial
  | inr q => exact hE
theorem cb_118_117 {X : Nat → Option zz_C} {h : zz_H} {t : cS} {s : mS} {d : Nat} {Q : zz_O → zz_H → Prop} {y0 : Int64} (hR : kR h t s) (k : ∀ {h : zz_H}, kR h t s → Q (.inl (some (.long y0))) h) : zz_J zp_P zt_tf zt_fd X d zm_118 117 [] [.long y0] h Q := by
  refine zz_J.ret rfl rfl rfl ?_
  exact k hR
def cf_118_20 (N : Nat) (X : Nat → Option zz_C) (y0 : Int64) (t : cS) : kO := some (t, .inl (some (.long y0)))
theorem cr_118_20 {X : Nat → Option zz_C} {s : mS} {N : Nat} {d : Nat} (hd : 11 ≤ d) {Q : zz_O → zz_H → Prop} {y0 : Int64} {h : zz_H} {t t' : cS} {o : kY} (hR : kR h t s) (hf : cf_118_20 N X y0 t = some (t', o)) (k : (∀ h', kR h' t' s → kE o Q h')) : zz_J zp_P zt_tf zt_fd X d zm_118 20 [] [.long y0] h Q := by
  unfold cf_118_20 at hf
  cases hf
  exact cb_118_20 hR  (fun {h} hR => k h hR)
def cf_118_16 (N : Nat) (X : Nat → Option zz_C)  (t : cS) : kO := ko_call 1000 (cf_254 N X 3 t) (fun g1 v1 => co_l v1 (fun y => cf_118_20 N X y g1))
theorem cr_118_16 {X : Nat → Option zz_C} {s : mS} {N : Nat} {d : Nat} (hd : 11 ≤ d) {Q : zz_O → zz_H → Prop}  {h : zz_H} {t t' : cS} {o : kY} (hR : kR h t s) (hf : cf_118_16 N X  t = some (t', o)) (k : (∀ h', kR h' t' s → kE o Q h')) : zz_J zp_P zt_tf zt_fd X d zm_118 16 [] [] h Q := by
  unfold cf_118_16 at hf
  obtain ⟨d', rfl⟩ : ∃ d', d = d' + 1 := ⟨d - 1, by omega⟩
  refine cb_118_16 hR  (fun {h} hR => ?_)
  rcases ko_call_ok hf with ⟨g1, v1, er, hf⟩ | ⟨g1, er, hq⟩
  · obtain ⟨y, hv, hf2⟩ := co_l_ok hf
    clear hf
    have hf := hf2
    clear hf2
    subst hv
    refine cr_254 (by omega) hR er (fun h hR => ?_)
    exact cr_118_20 hd hR hf k
  · refine cr_254 (by omega) hR er (fun h hR => ?_)
    exact ko_thrown hq hR k
def cf_118_59 (N : Nat) (X : Nat → Option zz_C) (y0 : Int64) (t : cS) : kO := some (t, .inl (some (.long y0)))
theorem cr_118_59 {X : Nat → Option zz_C} {s : mS} {N : Nat} {d : Nat} (hd : 11 ≤ d) {Q : zz_O → zz_H → Prop} {y0 : Int64} {h : zz_H} {t t' : cS} {o : kY} (hR : kR h t s) (hf : cf_118_59 N X y0 t = some (t', o)) (k : (∀ h', kR h' t' s → kE o Q h')) : zz_J zp_P zt_tf zt_fd X d zm_118 59 [] [.long y0] h Q := by
  unfold cf_118_59 at hf
  cases hf
  exact cb_118_59 hR  (fun {h} hR => k h hR)
def cf_118_55 (N : Nat) (X : Nat → Option zz_C)  (t : cS) : kO := ko_call 1000 (cf_254 N X 2 t) (fun g1 v1 => co_l v1 (fun y => cf_118_59 N X y g1))
theorem cr_118_55 {X : Nat → Option zz_C} {s : mS} {N : Nat} {d : Nat} (hd : 11 ≤ d) {Q : zz_O → zz_H → Prop}  {h : zz_H} {t t' : cS} {o : kY} (hR : kR h t s) (hf : cf_118_55 N X  t = some (t', o)) (k : (∀ h', kR h' t' s → kE o Q h')) : zz_J zp_P zt_tf zt_fd X d zm_118 55 [] [] h Q := by
  unfold cf_118_55 at hf
  obtain ⟨d', rfl⟩ : ∃ d', d = d' + 1 := ⟨d - 1, by omega⟩
  refine cb_118_55 hR  (fun {h} hR => ?_)
  rcases ko_call_ok hf with ⟨g1, v1, er, hf⟩ | ⟨g1, er, hq⟩
  · obtain ⟨y, hv, hf2⟩ := co_l_ok hf
    clear hf
    have hf := hf2
    clear hf2
    subst hv
    refine cr_254 (by omega) hR er (fun h hR => ?_)
    exact cr_118_59 hd hR hf k
  · refine cr_254 (by omega) hR er (fun h hR => ?_)
    exact ko_thrown hq hR k
def cf_118_117 (N : Nat) (X : Nat → Option zz_C) (y0 : Int64) (t : cS) : kO := some (t, .inl (some (.long y0)))
theorem cr_118_117 {X : Nat → Option zz_C} {s : mS} {N : Nat} {d : Nat} (hd : 11 ≤ d) {Q : zz_O → zz_H → Prop} {y0 : Int64} {h : zz_H} {t t' : cS} {o : kY} (hR : kR h t s) (hf : cf_118_117 N X y0 t = some (t', o)) (k : (∀ h', kR h' t' s → kE o Q h')) : zz_J zp_P zt_tf zt_fd X d zm_118 117 [] [.long y0] h Q := by
  unfold cf_118_117 at hf
  cases hf
  exact cb_118_117 hR  (fun {h} hR => k h hR)
def cf_118_107 (N : Nat) (X : Nat → Option zz_C) (x6 : Int32) (t : cS) : kO := ko_call 2 (cf_126 N X 2 x6 t) (fun g1 v1 => co_l v1 (fun y => cf_118_117 N X y g1))
theorem cr_118_107 {X : Nat → Option zz_C} {s : mS} {N : Nat} {d : Nat} (hd : 11 ≤ d) {Q : zz_O → zz_H → Prop} {x6 : Int32} {h : zz_H} {t t' : cS} {o : kY} (hR : kR h t s) (hf : cf_118_107 N X x6 t = some (t', o)) (k : (∀ h', kR h' t' s → kE o Q h')) : zz_J zp_P zt_tf zt_fd X d zm_118 107 [(0, .ref 59), (6, .int x6)] [] h Q := by
  unfold cf_118_107 at hf
  obtain ⟨d', rfl⟩ : ∃ d', d = d' + 1 := ⟨d - 1, by omega⟩
  refine cb_118_107 hR  (fun {h} hR => ?_)
  rcases ko_call_ok hf with ⟨g1, v1, er, hf⟩ | ⟨g1, er, hq⟩
  · obtain ⟨y, hv, hf2⟩ := co_l_ok hf
    clear hf
    have hf := hf2
    clear hf2
    subst hv
    refine cr_126 (by omega) hR er (fun h hR => ?_)
    exact cr_118_117 hd hR hf k
  · refine cr_126 (by omega) hR er (fun h hR => ?_)
    exact ko_thrown hq hR k
def cf_118_101 (N : Nat) (X : Nat → Option zz_C) (rc : Nat → Int64 → Int64 → Int32 → Int32 → Int32 → cS → kO) (x1 : Int64) (x3 : Int64) (x5 : Int32) (x6 : Int32) (x7 : Int32) (t : cS) : kO := rc 0 x1 x3 x5 x6 (x7 + 1) t
theorem cr_118_101 {X : Nat → Option zz_C} {s : mS} {N : Nat} {d : Nat} (hd : 11 ≤ d) {rc : Nat → Int64 → Int64 → Int32 → Int32 → Int32 → cS → kO} (hrc0 : ∀ {Q : zz_O → zz_H → Prop} {x1 : Int64} {x3 : Int64} {x5 : Int32} {x6 : Int32} {x7 : Int32} {h : zz_H} {t t' : cS} {o : kY}, kR h t s → rc 0 x1 x3 x5 x6 x7 t = some (t', o) → (∀ h', kR h' t' s → kE o Q h') → zz_J zp_P zt_tf zt_fd X d zm_118 72 [(0, .ref 59), (1, .long x1), (3, .long x3), (5, .int x5), (6, .int x6), (7, .int x7)] [] h Q) {Q : zz_O → zz_H → Prop} {x1 : Int64} {x3 : Int64} {x5 : Int32} {x6 : Int32} {x7 : Int32} {h : zz_H} {t t' : cS} {o : kY} (hR : kR h t s) (hf : cf_118_101 N X rc x1 x3 x5 x6 x7 t = some (t', o)) (k : (∀ h', kR h' t' s → kE o Q h')) : zz_J zp_P zt_tf zt_fd X d zm_118 101 [(0, .ref 59), (1, .long x1), (3, .long x3), (5, .int x5), (6, .int x6), (7, .int x7)] [] h Q := by
  unfold cf_118_101 at hf
  exact cb_118_101 hR  (fun hR => hrc0 hR hf k)
def cf_118_98 (N : Nat) (X : Nat → Option zz_C) (rc : Nat → Int64 → Int64 → Int32 → Int32 → Int32 → cS → kO) (x1 : Int64) (x3 : Int64) (x5 : Int32) (x6 : Int32) (x7 : Int32) (y1 : Int64) (t : cS) : kO := ko_call 2 (cf_123 N X y1 t) (fun g1 v1 => co_v v1 (cf_118_101 N X rc x1 x3 x5 x6 x7 g1))
theorem cr_118_98 {X : Nat → Option zz_C} {s : mS} {N : Nat} {d : Nat} (hd : 11 ≤ d) {rc : Nat → Int64 → Int64 → Int32 → Int32 → Int32 → cS → kO} (hrc0 : ∀ {Q : zz_O → zz_H → Prop} {x1 : Int64} {x3 : Int64} {x5 : Int32} {x6 : Int32} {x7 : Int32} {h : zz_H} {t t' : cS} {o : kY}, kR h t s → rc 0 x1 x3 x5 x6 x7 t = some (t', o) → (∀ h', kR h' t' s → kE o Q h') → zz_J zp_P zt_tf zt_fd X d zm_118 72 [(0, .ref 59), (1, .long x1), (3, .long x3), (5, .int x5), (6, .int x6), (7, .int x7)] [] h Q) {Q : zz_O → zz_H → Prop} {x1 : Int64} {x3 : Int64} {x5 : Int32} {x6 : Int32} {x7 : Int32} {y1 : Int64} {h : zz_H} {t t' : cS} {o : kY} (hR : kR h t s) (hf : cf_118_98 N X rc x1 x3 x5 x6 x7 y1 t = some (t', o)) (k : (∀ h', kR h' t' s → kE o Q h')) : zz_J zp_P zt_tf zt_fd X d zm_118 98 [(0, .ref 59), (1, .long x1), (3, .long x3), (5, .int x5), (6, .int x6), (7, .int x7)] [.long y1, .ref 42] h Q := by
  unfold cf_118_98 at hf
  obtain ⟨d', rfl⟩ : ∃ d', d = d' + 1 := ⟨d - 1, by omega⟩
  refine cb_118_98 hR  (fun {h} hR => ?_)
  rcases ko_call_ok hf with ⟨g1, v1, er, hf⟩ | ⟨g1, er, hq⟩
  · obtain ⟨hv, hf2⟩ := co_v_ok hf
    clear hf
    have hf := hf2
    clear hf2
    subst hv
    refine cr_123 (by omega) hR er (fun h hR => ?_)
    exact cr_118_101 hd hrc0 hR hf k
  · refine cr_123 (by omega) hR er (fun h hR => ?_)
    exact ko_thrown hq hR k
def cf_118_94 (N : Nat) (X : Nat → Option zz_C) (rc : Nat → Int64 → Int64 → Int32 → Int32 → Int32 → cS → kO) (x1 : Int64) (x3 : Int64) (x5 : Int32) (x6 : Int32) (x7 : Int32) (y2 : Int32) (t : cS) : kO := ko_call 1 (cf_119 N X y2 x3 t) (fun g1 v1 => co_l v1 (fun y => cf_118_98 N X rc x1 x3 x5 x6 x7 y g1))
theorem cr_118_94 {X : Nat → Option zz_C} {s : mS} {N : Nat} {d : Nat} (hd : 11 ≤ d) {rc : Nat → Int64 → Int64 → Int32 → Int32 → Int32 → cS → kO} (hrc0 : ∀ {Q : zz_O → zz_H → Prop} {x1 : Int64} {x3 : Int64} {x5 : Int32} {x6 : Int32} {x7 : Int32} {h : zz_H} {t t' : cS} {o : kY}, kR h t s → rc 0 x1 x3 x5 x6 x7 t = some (t', o) → (∀ h', kR h' t' s → kE o Q h') → zz_J zp_P zt_tf zt_fd X d zm_118 72 [(0, .ref 59), (1, .long x1), (3, .long x3), (5, .int x5), (6, .int x6), (7, .int x7)] [] h Q) {Q : zz_O → zz_H → Prop} {x1 : Int64} {x3 : Int64} {x5 : Int32} {x6 : Int32} {x7 : Int32} {y2 : Int32} {h : zz_H} {t t' : cS} {o : kY} (hR : kR h t s) (hf : cf_118_94 N X rc x1 x3 x5 x6 x7 y2 t = some (t', o)) (k : (∀ h', kR h' t' s → kE o Q h')) : zz_J zp_P zt_tf zt_fd X d zm_118 94 [(0, .ref 59), (1, .long x1), (3, .long x3), (5, .int x5), (6, .int x6), (7, .int x7)] [.int y2, .ref 59, .ref 42] h Q := by
  unfold cf_118_94 at hf
  obtain ⟨d', rfl⟩ : ∃ d', d = d' + 1 := ⟨d - 1, by omega⟩
  refine cb_118_94 hR  (fun {h} hR => ?_)
  rcases ko_call_ok hf with ⟨g1, v1, er, hf⟩ | ⟨g1, er, hq⟩
  · obtain ⟨y, hv, hf2⟩ := co_l_ok hf
    clear hf
    have hf := hf2
    clear hf2
    subst hv
    refine cr_119 (by omega) hR er (fun h hR => ?_)
    exact cr_118_98 hd hrc0 hR hf k
  · refine cr_119 (by omega) hR er (fun h hR => ?_)
    exact ko_thrown hq hR k
def cf_118_79 (N : Nat) (X : Nat → Option zz_C) (rc : Nat → Int64 → Int64 → Int32 → Int32 → Int32 → cS → kO) (x1 : Int64) (x3 : Int64) (x5 : Int32) (x6 : Int32) (x7 : Int32) (t : cS) : kO := ko_call 2 (cf_130 N X x1 x7 t) (fun g1 v1 => co_i v1 (fun y => cf_118_94 N X rc x1 x3 x5 x6 x7 y g1))
theorem cr_118_79 {X : Nat → Option zz_C} {s : mS} {N : Nat} {d : Nat} (hd : 11 ≤ d) {rc : Nat → Int64 → Int64 → Int32 → Int32 → Int32 → cS → kO} (hrc0 : ∀ {Q : zz_O → zz_H → Prop} {x1 : Int64} {x3 : Int64} {x5 : Int32} {x6 : Int32} {x7 : Int32} {h : zz_H} {t t' : cS} {o : kY}, kR h t s → rc 0 x1 x3 x5 x6 x7 t = some (t', o) → (∀ h', kR h' t' s → kE o Q h') → zz_J zp_P zt_tf zt_fd X d zm_118 72 [(0, .ref 59), (1, .long x1), (3, .long x3), (5, .int x5), (6, .int x6), (7, .int x7)] [] h Q) {Q : zz_O → zz_H → Prop} {x1 : Int64} {x3 : Int64} {x5 : Int32} {x6 : Int32} {x7 : Int32} {h : zz_H} {t t' : cS} {o : kY} (hR : kR h t s) (hf : cf_118_79 N X rc x1 x3 x5 x6 x7 t = some (t', o)) (k : (∀ h', kR h' t' s → kE o Q h')) : zz_J zp_P zt_tf zt_fd X d zm_118 79 [(0, .ref 59), (1, .long x1), (3, .long x3), (5, .int x5), (6, .int x6), (7, .int x7)] [] h Q := by
  unfold cf_118_79 at hf
  obtain ⟨d', rfl⟩ : ∃ d', d = d' + 1 := ⟨d - 1, by omega⟩
  refine cb_118_79 hR  (fun {h} hR => ?_)
  rcases ko_call_ok hf with ⟨g1, v1, er, hf⟩ | ⟨g1, er, hq⟩
  · obtain ⟨y, hv, hf2⟩ := co_i_ok hf
    clear hf
    have hf := hf2
    clear hf2
    subst hv
    refine cr_130 (by omega) hR er (fun h hR => ?_)
    exact cr_118_94 hd hrc0 hR hf k
  · refine cr_130 (by omega) hR er (fun h hR => ?_)
    exact ko_thrown hq hR k
def cf_118_72 (N : Nat) (X : Nat → Option zz_C) (rc : Nat → Int64 → Int64 → Int32 → Int32 → Int32 → cS → kO) (x1 : Int64) (x3 : Int64) (x5 : Int32) (x6 : Int32) (x7 : Int32) (t : cS) : kO := if x5 ≤ x7 then cf_118_107 N X x6 t else cf_118_79 N X rc x1 x3 x5 x6 x7 t
theorem cr_118_72 {X : Nat → Option zz_C} {s : mS} {N : Nat} {d : Nat} (hd : 11 ≤ d) {rc : Nat → Int64 → Int64 → Int32 → Int32 → Int32 → cS → kO} (hrc0 : ∀ {Q : zz_O → zz_H → Prop} {x1 : Int64} {x3 : Int64} {x5 : Int32} {x6 : Int32} {x7 : Int32} {h : zz_H} {t t' : cS} {o : kY}, kR h t s → rc 0 x1 x3 x5 x6 x7 t = some (t', o) → (∀ h', kR h' t' s → kE o Q h') → zz_J zp_P zt_tf zt_fd X d zm_118 72 [(0, .ref 59), (1, .long x1), (3, .long x3), (5, .int x5), (6, .int x6), (7, .int x7)] [] h Q) {Q : zz_O → zz_H → Prop} {x1 : Int64} {x3 : Int64} {x5 : Int32} {x6 : Int32} {x7 : Int32} {h : zz_H} {t t' : cS} {o : kY} (hR : kR h t s) (hf : cf_118_72 N X rc x1 x3 x5 x6 x7 t = some (t', o)) (k : (∀ h', kR h' t' s → kE o Q h')) : zz_J zp_P zt_tf zt_fd X d zm_118 72 [(0, .ref 59), (1, .long x1), (3, .long x3), (5, .int x5), (6, .int x6), (7, .int x7)] [] h Q := by
  unfold cf_118_72 at hf
  refine cb_118_72 hR  (fun c {h} hR => ?_) (fun c {h} hR => ?_)
  · rw [if_pos c] at hf
    exact cr_118_107 hd hR hf k
  · rw [if_neg c] at hf
    exact cr_118_79 hd hrc0 hR hf k
def cf_118_L6 (N : Nat) (X : Nat → Option zz_C) : Nat → Nat → Int64 → Int64 → Int32 → Int32 → Int32 → cS → kO
  | 0, _, _, _, _, _, _, _ => none
  | n + 1, l, x1, x3, x5, x6, x7, t => if l = 0 then cf_118_72 N X (cf_118_L6 N X n) x1 x3 x5 x6 x7 t else none
theorem cr_118_L6 {X : Nat → Option zz_C} {s : mS} {N : Nat} {d : Nat} (hd : 11 ≤ d) : ∀ n : Nat, (∀ {Q : zz_O → zz_H → Prop} {x1 : Int64} {x3 : Int64} {x5 : Int32} {x6 : Int32} {x7 : Int32} {h : zz_H} {t t' : cS} {o : kY}, kR h t s → cf_118_L6 N X n 0 x1 x3 x5 x6 x7 t = some (t', o) → (∀ h', kR h' t' s → kE o Q h') → zz_J zp_P zt_tf zt_fd X d zm_118 72 [(0, .ref 59), (1, .long x1), (3, .long x3), (5, .int x5), (6, .int x6), (7, .int x7)] [] h Q) := by
  intro n
  induction n with
  | zero => exact (fun _ hf _ => by cases hf)
  | succ n ih =>
    have h0 := @ih
    intro Q _ _ _ _ _ h t t' o hR hf k
    unfold cf_118_L6 at hf
    rw [if_pos rfl] at hf
    exact cr_118_72 hd h0 hR hf k
def cf_118_67 (N : Nat) (X : Nat → Option zz_C) (x1 : Int64) (x3 : Int64) (x5 : Int32) (y0 : Int32) (t : cS) : kO := cf_118_L6 N X N 0 x1 x3 x5 y0 0 t
theorem cr_118_67 {X : Nat → Option zz_C} {s : mS} {N : Nat} {d : Nat} (hd : 11 ≤ d) {Q : zz_O → zz_H → Prop} {x1 : Int64} {x3 : Int64} {x5 : Int32} {y0 : Int32} {h : zz_H} {t t' : cS} {o : kY} (hR : kR h t s) (hf : cf_118_67 N X x1 x3 x5 y0 t = some (t', o)) (k : (∀ h', kR h' t' s → kE o Q h')) : zz_J zp_P zt_tf zt_fd X d zm_118 67 [(0, .ref 59), (1, .long x1), (3, .long x3), (5, .int x5)] [.int y0] h Q := by
  unfold cf_118_67 at hf
  exact cb_118_67 hR  (fun hR => cr_118_L6 hd N hR hf k)
def cf_118_60 (N : Nat) (X : Nat → Option zz_C) (x1 : Int64) (x3 : Int64) (x5 : Int32) (t : cS) : kO := ko_call 2 (cf_122 N X  t) (fun g1 v1 => co_i v1 (fun y => cf_118_67 N X x1 x3 x5 y g1))
theorem cr_118_60 {X : Nat → Option zz_C} {s : mS} {N : Nat} {d : Nat} (hd : 11 ≤ d) {Q : zz_O → zz_H → Prop} {x1 : Int64} {x3 : Int64} {x5 : Int32} {h : zz_H} {t t' : cS} {o : kY} (hR : kR h t s) (hf : cf_118_60 N X x1 x3 x5 t = some (t', o)) (k : (∀ h', kR h' t' s → kE o Q h')) : zz_J zp_P zt_tf zt_fd X d zm_118 60 [(0, .ref 59), (1, .long x1), (3, .long x3), (5, .int x5)] [] h Q := by
  unfold cf_118_60 at hf
  obtain ⟨d', rfl⟩ : ∃ d', d = d' + 1 := ⟨d - 1, by omega⟩
  refine cb_118_60 hR  (fun {h} hR => ?_)
  rcases ko_call_ok hf with ⟨g1, v1, er, hf⟩ | ⟨g1, er, hq⟩
  · obtain ⟨y, hv, hf2⟩ := co_i_ok hf
    clear hf
    have hf := hf2
    clear hf2
    subst hv
    refine cr_122 (by omega) hR er (fun h hR => ?_)
    exact cr_118_67 hd hR hf k
  · refine cr_122 (by omega) hR er (fun h hR => ?_)
    exact ko_thrown hq hR k
def cf_118_48 (N : Nat) (X : Nat → Option zz_C) (x1 : Int64) (x3 : Int64) (x5 : Int32) (y0 : Int32) (y1 : Int32) (t : cS) : kO := if (y0 * y1) ≤ 200 then cf_118_60 N X x1 x3 x5 t else cf_118_55 N X  t
theorem cr_118_48 {X : Nat → Option zz_C} {s : mS} {N : Nat} {d : Nat} (hd : 11 ≤ d) {Q : zz_O → zz_H → Prop} {x1 : Int64} {x3 : Int64} {x5 : Int32} {y0 : Int32} {y1 : Int32} {h : zz_H} {t t' : cS} {o : kY} (hR : kR h t s) (hf : cf_118_48 N X x1 x3 x5 y0 y1 t = some (t', o)) (k : (∀ h', kR h' t' s → kE o Q h')) : zz_J zp_P zt_tf zt_fd X d zm_118 48 [(0, .ref 59), (1, .long x1), (3, .long x3), (5, .int x5)] [.int y1, .int y0] h Q := by
  unfold cf_118_48 at hf
  refine cb_118_48 hR  (fun c {h} hR => ?_) (fun c {h} hR => ?_)
  · rw [if_pos c] at hf
    exact cr_118_60 hd hR hf k
  · rw [if_neg c] at hf
    exact cr_118_55 hd hR hf k
def cf_118_38 (N : Nat) (X : Nat → Option zz_C) (x1 : Int64) (x3 : Int64) (x5 : Int32) (t : cS) : kO := ko_call 2 (cf_128 N X x3 t) (fun g1 v1 => co_i v1 (fun y => cf_118_48 N X x1 x3 x5 x5 y g1))
theorem cr_118_38 {X : Nat → Option zz_C} {s : mS} {N : Nat} {d : Nat} (hd : 11 ≤ d) {Q : zz_O → zz_H → Prop} {x1 : Int64} {x3 : Int64} {x5 : Int32} {h : zz_H} {t t' : cS} {o : kY} (hR : kR h t s) (hf : cf_118_38 N X x1 x3 x5 t = some (t', o)) (k : (∀ h', kR h' t' s → kE o Q h')) : zz_J zp_P zt_tf zt_fd X d zm_118 38 [(0, .ref 59), (1, .long x1), (3, .long x3), (5, .int x5)] [] h Q := by
  unfold cf_118_38 at hf
  obtain ⟨d', rfl⟩ : ∃ d', d = d' + 1 := ⟨d - 1, by omega⟩
  refine cb_118_38 hR  (fun {h} hR => ?_)
  rcases ko_call_ok hf with ⟨g1, v1, er, hf⟩ | ⟨g1, er, hq⟩
  · obtain ⟨y, hv, hf2⟩ := co_i_ok hf
    clear hf
    have hf := hf2
    clear hf2
    subst hv
    refine cr_128 (by omega) hR er (fun h hR => ?_)
    exact cr_118_48 hd hR hf k
  · refine cr_128 (by omega) hR er (fun h hR => ?_)
    exact ko_thrown hq hR k
def cf_118_29 (N : Nat) (X : Nat → Option zz_C) (x1 : Int64) (x3 : Int64) (y0 : Int32) (t : cS) : kO := if 20 < y0 then cf_118_55 N X  t else cf_118_38 N X x1 x3 y0 t
theorem cr_118_29 {X : Nat → Option zz_C} {s : mS} {N : Nat} {d : Nat} (hd : 11 ≤ d) {Q : zz_O → zz_H → Prop} {x1 : Int64} {x3 : Int64} {y0 : Int32} {h : zz_H} {t t' : cS} {o : kY} (hR : kR h t s) (hf : cf_118_29 N X x1 x3 y0 t = some (t', o)) (k : (∀ h', kR h' t' s → kE o Q h')) : zz_J zp_P zt_tf zt_fd X d zm_118 29 [(0, .ref 59), (1, .long x1), (3, .long x3)] [.int y0] h Q := by
  unfold cf_118_29 at hf
  refine cb_118_29 hR  (fun c {h} hR => ?_) (fun c {h} hR => ?_)
  · rw [if_pos c] at hf
    exact cr_118_55 hd hR hf k
  · rw [if_neg c] at hf
    exact cr_118_38 hd hR hf k
def cf_118_21 (N : Nat) (X : Nat → Option zz_C) (x1 : Int64) (x3 : Int64) (t : cS) : kO := ko_call 2 (cf_128 N X x1 t) (fun g1 v1 => co_i v1 (fun y => cf_118_29 N X x1 x3 y g1))
theorem cr_118_21 {X : Nat → Option zz_C} {s : mS} {N : Nat} {d : Nat} (hd : 11 ≤ d) {Q : zz_O → zz_H → Prop} {x1 : Int64} {x3 : Int64} {h : zz_H} {t t' : cS} {o : kY} (hR : kR h t s) (hf : cf_118_21 N X x1 x3 t = some (t', o)) (k : (∀ h', kR h' t' s → kE o Q h')) : zz_J zp_P zt_tf zt_fd X d zm_118 21 [(0, .ref 59), (1, .long x1), (3, .long x3)] [] h Q := by
  unfold cf_118_21 at hf
  obtain ⟨d', rfl⟩ : ∃ d', d = d' + 1 := ⟨d - 1, by omega⟩
  refine cb_118_21 hR  (fun {h} hR => ?_)
  rcases ko_call_ok hf with ⟨g1, v1, er, hf⟩ | ⟨g1, er, hq⟩
  · obtain ⟨y, hv, hf2⟩ := co_i_ok hf
    clear hf
    have hf := hf2
    clear hf2
    subst hv
    refine cr_128 (by omega) hR er (fun h hR => ?_)
    exact cr_118_29 hd hR hf k
  · refine cr_128 (by omega) hR er (fun h hR => ?_)
    exact ko_thrown hq hR k
def cf_118_12 (N : Nat) (X : Nat → Option zz_C) (x1 : Int64) (x3 : Int64) (y0 : Int32) (t : cS) : kO := if y0 = 1 then cf_118_21 N X x1 x3 t else cf_118_16 N X  t
theorem cr_118_12 {X : Nat → Option zz_C} {s : mS} {N : Nat} {d : Nat} (hd : 11 ≤ d) {Q : zz_O → zz_H → Prop} {x1 : Int64} {x3 : Int64} {y0 : Int32} {h : zz_H} {t t' : cS} {o : kY} (hR : kR h t s) (hf : cf_118_12 N X x1 x3 y0 t = some (t', o)) (k : (∀ h', kR h' t' s → kE o Q h')) : zz_J zp_P zt_tf zt_fd X d zm_118 12 [(0, .ref 59), (1, .long x1), (3, .long x3)] [.int y0] h Q := by
  unfold cf_118_12 at hf
  refine cb_118_12 hR  (fun c {h} hR => ?_) (fun c {h} hR => ?_)
  · rw [if_pos c] at hf
    exact cr_118_21 hd hR hf k
  · rw [if_neg c] at hf
    exact cr_118_16 hd hR hf k
def cf_118_8 (N : Nat) (X : Nat → Option zz_C) (x1 : Int64) (x3 : Int64) (t : cS) : kO := ko_call 1000 (cf_255 N X x3 t) (fun g1 v1 => co_i v1 (fun y => cf_118_12 N X x1 x3 y g1))
theorem cr_118_8 {X : Nat → Option zz_C} {s : mS} {N : Nat} {d : Nat} (hd : 11 ≤ d) {Q : zz_O → zz_H → Prop} {x1 : Int64} {x3 : Int64} {h : zz_H} {t t' : cS} {o : kY} (hR : kR h t s) (hf : cf_118_8 N X x1 x3 t = some (t', o)) (k : (∀ h', kR h' t' s → kE o Q h')) : zz_J zp_P zt_tf zt_fd X d zm_118 8 [(0, .ref 59), (1, .long x1), (3, .long x3)] [] h Q := by
  unfold cf_118_8 at hf
  obtain ⟨d', rfl⟩ : ∃ d', d = d' + 1 := ⟨d - 1, by omega⟩
  refine cb_118_8 hR  (fun {h} hR => ?_)
  rcases ko_call_ok hf with ⟨g1, v1, er, hf⟩ | ⟨g1, er, hq⟩
  · obtain ⟨y, hv, hf2⟩ := co_i_ok hf
    clear hf
    have hf := hf2
    clear hf2
    subst hv
    refine cr_255 (by omega) hR er (fun h hR => ?_)
    exact cr_118_12 hd hR hf k
  · refine cr_255 (by omega) hR er (fun h hR => ?_)
    exact ko_thrown hq hR k
def cf_118_4 (N : Nat) (X : Nat → Option zz_C) (x1 : Int64) (x3 : Int64) (y0 : Int32) (t : cS) : kO := if ¬ y0 = 1 then cf_118_16 N X  t else cf_118_8 N X x1 x3 t
theorem cr_118_4 {X : Nat → Option zz_C} {s : mS} {N : Nat} {d : Nat} (hd : 11 ≤ d) {Q : zz_O → zz_H → Prop} {x1 : Int64} {x3 : Int64} {y0 : Int32} {h : zz_H} {t t' : cS} {o : kY} (hR : kR h t s) (hf : cf_118_4 N X x1 x3 y0 t = some (t', o)) (k : (∀ h', kR h' t' s → kE o Q h')) : zz_J zp_P zt_tf zt_fd X d zm_118 4 [(0, .ref 59), (1, .long x1), (3, .long x3)] [.int y0] h Q := by
  unfold cf_118_4 at hf
  refine cb_118_4 hR  (fun c {h} hR => ?_) (fun c {h} hR => ?_)
  · rw [if_pos c] at hf
    exact cr_118_16 hd hR hf k
  · rw [if_neg c] at hf
    exact cr_118_8 hd hR hf k
def cf_118_0 (N : Nat) (X : Nat → Option zz_C) (x1 : Int64) (x3 : Int64) (t : cS) : kO := ko_call 1000 (cf_255 N X x1 t) (fun g1 v1 => co_i v1 (fun y => cf_118_4 N X x1 x3 y g1))
theorem cr_118_0 {X : Nat → Option zz_C} {s : mS} {N : Nat} {d : Nat} (hd : 11 ≤ d) {Q : zz_O → zz_H → Prop} {x1 : Int64} {x3 : Int64} {h : zz_H} {t t' : cS} {o : kY} (hR : kR h t s) (hf : cf_118_0 N X x1 x3 t = some (t', o)) (k : (∀ h', kR h' t' s → kE o Q h')) : zz_J zp_P zt_tf zt_fd X d zm_118 0 [(0, .ref 59), (1, .long x1), (3, .long x3)] [] h Q := by
  unfold cf_118_0 at hf
  obtain ⟨d', rfl⟩ : ∃ d', d = d' + 1 := ⟨d - 1, by omega⟩
  refine cb_118_0 hR  (fun {h} hR => ?_)
  rcases ko_call_ok hf with ⟨g1, v1, er, hf⟩ | ⟨g1, er, hq⟩
  · obtain ⟨y, hv, hf2⟩ := co_i_ok hf
    clear hf
    have hf := hf2
    clear hf2
    subst hv
    refine cr_255 (by omega) hR er (fun h hR => ?_)
    exact cr_118_4 hd hR hf k
  · refine cr_255 (by omega) hR er (fun h hR => ?_)
    exact ko_thrown hq hR k
/-- outer -/
def cf_118 (N : Nat) (X : Nat → Option zz_C) (x1 : Int64) (x3 : Int64) (t : cS) : kO := cf_118_0 N X x1 x3 t
theorem cr_118 {X : Nat → Option zz_C} {s : mS} {N : Nat} {d : Nat} (hd : 11 ≤ d) {Q : zz_O → zz_H → Prop} {x1 : Int64} {x3 : Int64} {h : zz_H} {t t' : cS} {o : kY} (hR : kR h t s) (hf : cf_118 N X x1 x3 t = some (t', o)) (k : ∀ h', kR h' t' s → kE o Q h') : zz_J zp_P zt_tf zt_fd X d zm_118 0 [(0, .ref 59), (1, .long x1), (3, .long x3)] [] h Q := by
  unfold cf_118 at hf
  exact zz_J.weak (cr_118_0 hd hR hf k) rfl ⟨rfl, rfl, rfl, trivial⟩
/-! a group that calls itself: alikeWithin -/
def cK3 (X : Nat → Option zz_C) (s : mS) (D : Nat) (rk : Nat → List Value → cS → kO) : Prop := (∀ {d : Nat} (_ : D ≤ d) {Q : zz_O → zz_H → Prop} {x1 : Int64} {x3 : Int64} {x5 : Int32} {h : zz_H} {t t' : cS} {o : kY} (_ : kR h t s) (_ : rk 133 [.long x1, .long x3, .int x5] t = some (t', o)) (_ : ∀ h', kR h' t' s → kE o Q h'), zz_J zp_P zt_tf zt_fd X d zm_133 0 [(0, .ref 42), (1, .long x1), (3, .long x3), (5, .int x5)] [] h Q)
/-! yX2_alikeWithin -/
theorem cb_133_0 {X : Nat → Option zz_C} {h : zz_H} {t : cS} {s : mS} {d : Nat} {Q : zz_O → zz_H → Prop} {x1 : Int64} {x3 : Int64} {x5 : Int32} (hR : kR h t s) (k : ∀ {h : zz_H}, kR h t s → zz_J zp_P zt_tf zt_fd X d zm_128 0 [(0, .ref 42), (1, .long x1)] [] h (zz_after 2 Q (fun v h' => zz_J zp_P zt_tf zt_fd X (d + 1) zm_133 5 [(0, .ref 42), (1, .long x1), (3, .long x3), (5, .int x5)] (v.toList ++ []) h' Q))) : zz_J zp_P zt_tf zt_fd X (d + 1) zm_133 0 [(0, .ref 42), (1, .long x1), (3, .long x3), (5, .int x5)] [] h Q := by
  refine zz_J.n 1 rfl rfl rfl ?_
  refine zz_J.n 2 rfl rfl rfl ?_
  refine zz_J.cv 5 (as := []) rfl rfl (hR.clO ko_42 (by decide) (by decide)) (by decide) (Nat.le_of_ble_eq_true rfl) (Nat.le_of_ble_eq_true rfl) rfl (Nat.le_of_ble_eq_true rfl) rfl ?_
  refine zz_J.mono (k hR) ?_
  intro o h' hE
  cases o with
  | inl v => exact zz_J.weak hE rfl ⟨rfl, rfl, rfl, rfl, trivial⟩
  | inr q => exact hE
theorem cb_133_5 {X : Nat → Option zz_C} {h : zz_H} {t : cS} {s : mS} {d : Nat} {Q : zz_O → zz_H → Prop} {x1 : Int64} {x3 : Int64} {x5 : Int32} {y0 : Int32} (hR : kR h t s) (k : ∀ {h : zz_H}, kR h t s → zz_J zp_P zt_tf zt_fd X d zm_255 0 [(0, .long x1)] [] h (zz_after 1000 Q (fun v h' => zz_J zp_P zt_tf zt_fd X (d + 1) zm_133 11 [(0, .ref 42), (1, .long x1), (3, .long x3), (5, .int x5), (6, .int y0)] (v.toList ++ []) h' Q))) : zz_J zp_P zt_tf zt_fd X (d + 1) zm_133 5 [(0, .ref 42), (1, .long x1), (3, .long x3), (5, .int x5)] [.int y0] h Q := by
  refine zz_J.n 7 rfl rfl rfl ?_
  refine zz_J.n 8 rfl rfl rfl ?_
  refine zz_J.cl (M' := zm_255) 11 rfl rfl (by decide) rfl rfl ⟨rfl, Nat.le_of_ble_eq_true rfl⟩ rfl ?_
  refine zz_J.mono (k hR) ?_
  intro o h' hE
  cases o with
  | inl v => exact zz_J.weak hE rfl ⟨rfl, rfl, rfl, rfl, rfl, trivial⟩
  | inr q => exact hE
theorem cb_133_11 {X : Nat → Option zz_C} {h : zz_H} {t : cS} {s : mS} {d : Nat} {Q : zz_O → zz_H → Prop} {x1 : Int64} {x3 : Int64} {x5 : Int32} {x6 : Int32} {y0 : Int32} (hR : kR h t s) (k : ∀ {h : zz_H}, kR h t s → zz_J zp_P zt_tf zt_fd X d zm_255 0 [(0, .long x3)] [] h (zz_after 1000 Q (fun v h' => zz_J zp_P zt_tf zt_fd X (d + 1) zm_133 15 [(0, .ref 42), (1, .long x1), (3, .long x3), (5, .int x5), (6, .int x6)] (v.toList ++ [.int y0]) h' Q))) : zz_J zp_P zt_tf zt_fd X (d + 1) zm_133 11 [(0, .ref 42), (1, .long x1), (3, .long x3), (5, .int x5), (6, .int x6)] [.int y0] h Q := by
  refine zz_J.n 12 rfl rfl rfl ?_
  refine zz_J.cl (M' := zm_255) 15 rfl rfl (by decide) rfl rfl ⟨rfl, Nat.le_of_ble_eq_true rfl⟩ rfl ?_
  refine zz_J.mono (k hR) ?_
  intro o h' hE
  cases o with
  | inl v => exact zz_J.weak hE rfl ⟨rfl, rfl, rfl, rfl, rfl, trivial⟩
  | inr q => exact hE
theorem cb_133_15 {X : Nat → Option zz_C} {h : zz_H} {t : cS} {s : mS} {d : Nat} {Q : zz_O → zz_H → Prop} {x1 : Int64} {x3 : Int64} {x5 : Int32} {x6 : Int32} {y0 : Int32} {y1 : Int32} (hR : kR h t s) (k1 : ¬ y0 = y1 → (∀ {h : zz_H}, kR h t s → zz_J zp_P zt_tf zt_fd X d zm_133 28 [] [] h Q)) (k2 : ¬ ¬ y0 = y1 → (∀ {h : zz_H}, kR h t s → zz_J zp_P zt_tf zt_fd X d zm_133 18 [(0, .ref 42), (1, .long x1), (3, .long x3), (5, .int x5), (6, .int x6)] [] h Q)) : zz_J zp_P zt_tf zt_fd X d zm_133 15 [(0, .ref 42), (1, .long x1), (3, .long x3), (5, .int x5), (6, .int x6)] [.int y1, .int y0] h Q := by
  refine zz_J.b2 28 18 (A := ¬ y0 = y1) rfl (zz_cond_ne _ _) (by decide) rfl rfl (fun c => ?_) (fun c => ?_)
  · exact zz_J.weak (k1 c hR) rfl trivial
  · exact zz_J.weak (k2 c hR) rfl ⟨rfl, rfl, rfl, rfl, rfl, trivial⟩
theorem cb_133_18 {X : Nat → Option zz_C} {h : zz_H} {t : cS} {s : mS} {d : Nat} {Q : zz_O → zz_H → Prop} {x1 : Int64} {x3 : Int64} {x5 : Int32} {x6 : Int32} (hR : kR h t s) (k : ∀ {h : zz_H}, kR h t s → zz_J zp_P zt_tf zt_fd X d zm_128 0 [(0, .ref 42), (1, .long x3)] [] h (zz_after 2 Q (fun v h' => zz_J zp_P zt_tf zt_fd X (d + 1) zm_133 25 [(0, .ref 42), (1, .long x1), (3, .long x3), (5, .int x5), (6, .int x6)] (v.toList ++ [.int x6]) h' Q))) : zz_J zp_P zt_tf zt_fd X (d + 1) zm_133 18 [(0, .ref 42), (1, .long x1), (3, .long x3), (5, .int x5), (6, .int x6)] [] h Q := by
  refine zz_J.n 20 rfl rfl rfl ?_
  refine zz_J.n 21 rfl rfl rfl ?_
  refine zz_J.n 22 rfl rfl rfl ?_
  refine zz_J.cv 25 (as := [.int x6]) rfl rfl (hR.clO ko_42 (by decide) (by decide)) (by decide) (Nat.le_of_ble_eq_true rfl) (Nat.le_of_ble_eq_true rfl) rfl (Nat.le_of_ble_eq_true rfl) rfl ?_
  refine zz_J.mono (k hR) ?_
  intro o h' hE
  cases o with
  | inl v => exact zz_J.weak hE rfl ⟨rfl, rfl, rfl, rfl, rfl, trivial⟩
  | inr q => exact hE
theorem cb_133_25 {X : Nat → Option zz_C} {h : zz_H} {t : cS} {s : mS} {d : Nat} {Q : zz_O → zz_H → Prop} {x1 : Int64} {x3 : Int64} {x5 : Int32} {x6 : Int32} {y0 : Int32} {y1 : Int32} (hR : kR h t s) (k1 : y0 = y1 → (∀ {h : zz_H}, kR h t s → zz_J zp_P zt_tf zt_fd X d zm_133 30 [(0, .ref 42), (1, .long x1), (3, .long x3), (5, .int x5), (6, .int x6)] [] h Q)) (k2 : ¬ y0 = y1 → (∀ {h : zz_H}, kR h t s → zz_J zp_P zt_tf zt_fd X d zm_133 28 [] [] h Q)) : zz_J zp_P zt_tf zt_fd X d zm_133 25 [(0, .ref 42), (1, .long x1), (3, .long x3), (5, .int x5), (6, .int x6)] [.int y1, .int y0] h Q := by
  refine zz_J.b2 30 28 (A := y0 = y1) rfl rfl (by decide) rfl rfl (fun c => ?_) (fun c => ?_)
  · exact zz_J.weak (k1 c hR) rfl ⟨rfl, rfl, rfl, rfl, rfl, trivial⟩
  · exact zz_J.weak (k2 c hR) rfl trivial
theorem cb_133_28 {X : Nat → Option zz_C} {h : zz_H} {t : cS} {s : mS} {d : Nat} {Q : zz_O → zz_H → Prop}  (hR : kR h t s) (k : ∀ {h : zz_H}, kR h t s → Q (.inl (some (.int 0))) h) : zz_J zp_P zt_tf zt_fd X d zm_133 28 [] [] h Q := by
  refine zz_J.c 29 (.int 0) rfl rfl rfl rfl ?_
  refine zz_J.ret rfl rfl rfl ?_
  exact k hR
theorem cb_133_30 {X : Nat → Option zz_C} {h : zz_H} {t : cS} {s : mS} {d : Nat} {Q : zz_O → zz_H → Prop} {x1 : Int64} {x3 : Int64} {x5 : Int32} {x6 : Int32} (hR : kR h t s) (k : ∀ {h : zz_H}, kR h t s → zz_J zp_P zt_tf zt_fd X d zm_255 0 [(0, .long x1)] [] h (zz_after 1000 Q (fun v h' => zz_J zp_P zt_tf zt_fd X (d + 1) zm_133 34 [(0, .ref 42), (1, .long x1), (3, .long x3), (5, .int x5), (6, .int x6)] (v.toList ++ []) h' Q))) : zz_J zp_P zt_tf zt_fd X (d + 1) zm_133 30 [(0, .ref 42), (1, .long x1), (3, .long x3), (5, .int x5), (6, .int x6)] [] h Q := by
  refine zz_J.n 31 rfl rfl rfl ?_
  refine zz_J.cl (M' := zm_255) 34 rfl rfl (by decide) rfl rfl ⟨rfl, Nat.le_of_ble_eq_true rfl⟩ rfl ?_
  refine zz_J.mono (k hR) ?_
  intro o h' hE
  cases o with
  | inl v => exact zz_J.weak hE rfl ⟨rfl, rfl, rfl, rfl, rfl, trivial⟩
  | inr q => exact hE
theorem cb_133_34 {X : Nat → Option zz_C} {h : zz_H} {t : cS} {s : mS} {d : Nat} {Q : zz_O → zz_H → Prop} {x1 : Int64} {x3 : Int64} {x5 : Int32} {x6 : Int32} {y0 : Int32} (hR : kR h t s) (k1 : y0 = 0 → (∀ {h : zz_H}, kR h t s → zz_J zp_P zt_tf zt_fd X d zm_133 44 [(1, .long x1), (3, .long x3)] [] h Q)) (k2 : ¬ y0 = 0 → (∀ {h : zz_H}, kR h t s → zz_J zp_P zt_tf zt_fd X d zm_133 37 [(0, .ref 42), (1, .long x1), (3, .long x3), (5, .int x5), (6, .int x6)] [] h Q)) : zz_J zp_P zt_tf zt_fd X d zm_133 34 [(0, .ref 42), (1, .long x1), (3, .long x3), (5, .int x5), (6, .int x6)] [.int y0] h Q := by
  refine zz_J.b1 44 37 (A := y0 = 0) rfl rfl (by decide) rfl rfl (fun c => ?_) (fun c => ?_)
  · exact zz_J.weak (k1 c hR) rfl ⟨rfl, rfl, trivial⟩
  · exact zz_J.weak (k2 c hR) rfl ⟨rfl, rfl, rfl, rfl, rfl, trivial⟩
theorem cb_133_37 {X : Nat → Option zz_C} {h : zz_H} {t : cS} {s : mS} {d : Nat} {Q : zz_O → zz_H → Prop} {x1 : Int64} {x3 : Int64} {x5 : Int32} {x6 : Int32} (hR : kR h t s) (k1 : x5 ≤ 6 → (∀ {h : zz_H}, kR h t s → zz_J zp_P zt_tf zt_fd X d zm_133 56 [(0, .ref 42), (1, .long x1), (3, .long x3), (5, .int x5), (6, .int x6)] [] h Q)) (k2 : ¬ x5 ≤ 6 → (∀ {h : zz_H}, kR h t s → zz_J zp_P zt_tf zt_fd X d zm_133 44 [(1, .long x1), (3, .long x3)] [] h Q)) : zz_J zp_P zt_tf zt_fd X d zm_133 37 [(0, .ref 42), (1, .long x1), (3, .long x3), (5, .int x5), (6, .int x6)] [] h Q := by
  refine zz_J.n 39 rfl rfl rfl ?_
  refine zz_J.c 41 (.int 6) rfl rfl rfl rfl ?_
  refine zz_J.b2 56 44 (A := x5 ≤ 6) rfl rfl (by decide) rfl rfl (fun c => ?_) (fun c => ?_)
  · exact zz_J.weak (k1 c hR) rfl ⟨rfl, rfl, rfl, rfl, rfl, trivial⟩
  · exact zz_J.weak (k2 c hR) rfl ⟨rfl, rfl, trivial⟩
theorem cb_133_44 {X : Nat → Option zz_C} {h : zz_H} {t : cS} {s : mS} {d : Nat} {Q : zz_O → zz_H → Prop} {x1 : Int64} {x3 : Int64} (hR : kR h t s) (k1 : ¬ (lg_cmp x1 x3) = 0 → (∀ {h : zz_H}, kR h t s → zz_J zp_P zt_tf zt_fd X d zm_133 54 [] [] h Q)) (k2 : ¬ ¬ (lg_cmp x1 x3) = 0 → (∀ {h : zz_H}, kR h t s → zz_J zp_P zt_tf zt_fd X d zm_133 50 [] [] h Q)) : zz_J zp_P zt_tf zt_fd X d zm_133 44 [(1, .long x1), (3, .long x3)] [] h Q := by
  refine zz_J.n 45 rfl rfl rfl ?_
  refine zz_J.n 46 rfl rfl rfl ?_
  refine zz_J.n 47 rfl rfl rfl ?_
  refine zz_J.b1 54 50 (A := ¬ (lg_cmp x1 x3) = 0) rfl (zz_cond_ne _ _) (by decide) rfl rfl (fun c => ?_) (fun c => ?_)
  · exact zz_J.weak (k1 c hR) rfl trivial
  · exact zz_J.weak (k2 c hR) rfl trivial
theorem cb_133_50 {X : Nat → Option zz_C} {h : zz_H} {t : cS} {s : mS} {d : Nat} {Q : zz_O → zz_H → Prop}  (hR : kR h t s) (k : ∀ {h : zz_H}, kR h t s → zz_J zp_P zt_tf zt_fd X d zm_133 55 [] [.int 1] h Q) : zz_J zp_P zt_tf zt_fd X d zm_133 50 [] [] h Q := by
  refine zz_J.c 51 (.int 1) rfl rfl rfl rfl ?_
  refine zz_J.n 55 rfl rfl rfl ?_
  exact zz_J.weak (k hR) rfl trivial
theorem cb_133_54 {X : Nat → Option zz_C} {h : zz_H} {t : cS} {s : mS} {d : Nat} {Q : zz_O → zz_H → Prop}  (hR : kR h t s) (k : ∀ {h : zz_H}, kR h t s → zz_J zp_P zt_tf zt_fd X d zm_133 55 [] [.int 0] h Q) : zz_J zp_P zt_tf zt_fd X d zm_133 54 [] [] h Q := by
  refine zz_J.c 55 (.int 0) rfl rfl rfl rfl ?_
  exact zz_J.weak (k hR) rfl trivial
theorem cb_133_55 {X : Nat → Option zz_C} {h : zz_H} {t : cS} {s : mS} {d : Nat} {Q : zz_O → zz_H → Prop} {y0 : Int32} (hR : kR h t s) (k : ∀ {h : zz_H}, kR h t s → Q (.inl (some (.int y0))) h) (rb : zz_reti (some .boolean) y0 = true) : zz_J zp_P zt_tf zt_fd X d zm_133 55 [] [.int y0] h Q := by
  refine zz_J.ret rfl rfl (if_pos ⟨rfl, rb⟩) ?_
  exact k hR
theorem cb_133_56 {X : Nat → Option zz_C} {h : zz_H} {t : cS} {s : mS} {d : Nat} {Q : zz_O → zz_H → Prop} {x1 : Int64} {x3 : Int64} {x5 : Int32} {x6 : Int32} (hR : kR h t s) (k : ∀ {h : zz_H}, kR h t s → zz_J zp_P zt_tf zt_fd X d zm_133 62 [(0, .ref 42), (1, .long x1), (3, .long x3), (5, .int x5), (6, .int x6), (7, .int 1), (8, .int 0)] [] h Q) : zz_J zp_P zt_tf zt_fd X d zm_133 56 [(0, .ref 42), (1, .long x1), (3, .long x3), (5, .int x5), (6, .int x6)] [] h Q := by
  refine zz_J.c 57 (.int 1) rfl rfl rfl rfl ?_
  refine zz_J.n 59 rfl rfl rfl ?_
  refine zz_J.c 60 (.int 0) rfl rfl rfl rfl ?_
  refine zz_J.n 62 rfl rfl rfl ?_
  exact zz_J.weak (k hR) rfl ⟨rfl, rfl, rfl, rfl, rfl, rfl, rfl, trivial⟩
theorem cb_133_62 {X : Nat → Option zz_C} {h : zz_H} {t : cS} {s : mS} {d : Nat} {Q : zz_O → zz_H → Prop} {x1 : Int64} {x3 : Int64} {x5 : Int32} {x6 : Int32} {x7 : Int32} {x8 : Int32} (hR : kR h t s) (k1 : x6 ≤ x8 → (∀ {h : zz_H}, kR h t s → zz_J zp_P zt_tf zt_fd X d zm_133 104 [(7, .int x7)] [] h Q)) (k2 : ¬ x6 ≤ x8 → (∀ {h : zz_H}, kR h t s → zz_J zp_P zt_tf zt_fd X d zm_133 69 [(0, .ref 42), (1, .long x1), (3, .long x3), (5, .int x5), (6, .int x6), (7, .int x7), (8, .int x8)] [] h Q)) : zz_J zp_P zt_tf zt_fd X d zm_133 62 [(0, .ref 42), (1, .long x1), (3, .long x3), (5, .int x5), (6, .int x6), (7, .int x7), (8, .int x8)] [] h Q := by
  refine zz_J.n 64 rfl rfl rfl ?_
  refine zz_J.n 66 rfl rfl rfl ?_
  refine zz_J.b2 104 69 (A := x6 ≤ x8) rfl rfl (by decide) rfl rfl (fun c => ?_) (fun c => ?_)
  · exact zz_J.weak (k1 c hR) rfl ⟨rfl, trivial⟩
  · exact zz_J.weak (k2 c hR) rfl ⟨rfl, rfl, rfl, rfl, rfl, rfl, rfl, trivial⟩
theorem cb_133_69 {X : Nat → Option zz_C} {h : zz_H} {t : cS} {s : mS} {d : Nat} {Q : zz_O → zz_H → Prop} {x1 : Int64} {x3 : Int64} {x5 : Int32} {x6 : Int32} {x7 : Int32} {x8 : Int32} (hR : kR h t s) (k1 : x7 = 0 → (∀ {h : zz_H}, kR h t s → zz_J zp_P zt_tf zt_fd X d zm_133 104 [(7, .int x7)] [] h Q)) (k2 : ¬ x7 = 0 → (∀ {h : zz_H}, kR h t s → zz_J zp_P zt_tf zt_fd X d zm_133 74 [(0, .ref 42), (1, .long x1), (3, .long x3), (5, .int x5), (6, .int x6), (8, .int x8)] [] h Q)) : zz_J zp_P zt_tf zt_fd X d zm_133 69 [(0, .ref 42), (1, .long x1), (3, .long x3), (5, .int x5), (6, .int x6), (7, .int x7), (8, .int x8)] [] h Q := by
  refine zz_J.n 71 rfl rfl rfl ?_
  refine zz_J.b1 104 74 (A := x7 = 0) rfl rfl (by decide) rfl rfl (fun c => ?_) (fun c => ?_)
  · exact zz_J.weak (k1 c hR) rfl ⟨rfl, trivial⟩
  · exact zz_J.weak (k2 c hR) rfl ⟨rfl, rfl, rfl, rfl, rfl, rfl, trivial⟩
theorem cb_133_74 {X : Nat → Option zz_C} {h : zz_H} {t : cS} {s : mS} {d : Nat} {Q : zz_O → zz_H → Prop} {x1 : Int64} {x3 : Int64} {x5 : Int32} {x6 : Int32} {x8 : Int32} (hR : kR h t s) (k : ∀ {h : zz_H}, kR h t s → zz_J zp_P zt_tf zt_fd X d zm_129 0 [(0, .ref 42), (1, .long x1), (3, .int x8)] [] h (zz_after 2 Q (fun v h' => zz_J zp_P zt_tf zt_fd X (d + 1) zm_133 82 [(0, .ref 42), (1, .long x1), (3, .long x3), (5, .int x5), (6, .int x6), (8, .int x8)] (v.toList ++ [.ref 42]) h' Q))) : zz_J zp_P zt_tf zt_fd X (d + 1) zm_133 74 [(0, .ref 42), (1, .long x1), (3, .long x3), (5, .int x5), (6, .int x6), (8, .int x8)] [] h Q := by
  refine zz_J.n 75 rfl rfl rfl ?_
  refine zz_J.n 76 rfl rfl rfl ?_
  refine zz_J.n 77 rfl rfl rfl ?_
  refine zz_J.n 79 rfl rfl rfl ?_
  refine zz_J.cv 82 (as := [.ref 42]) rfl rfl (hR.clO ko_42 (by decide) (by decide)) (by decide) (Nat.le_of_ble_eq_true rfl) (Nat.le_of_ble_eq_true rfl) rfl (Nat.le_of_ble_eq_true rfl) rfl ?_
  refine zz_J.mono (k hR) ?_
  intro o h' hE
  cases o with
  | inl v => exact zz_J.weak hE rfl ⟨rfl, rfl, rfl, rfl, rfl, rfl, trivial⟩
  | inr q => exact hE
theorem cb_133_82 {X : Nat → Option zz_C} {h : zz_H} {t : cS} {s : mS} {d : Nat} {Q : zz_O → zz_H → Prop} {x1 : Int64} {x3 : Int64} {x5 : Int32} {x6 : Int32} {x8 : Int32} {y1 : Int64} (hR : kR h t s) (k : ∀ {h : zz_H}, kR h t s → zz_J zp_P zt_tf zt_fd X d zm_129 0 [(0, .ref 42), (1, .long x3), (3, .int x8)] [] h (zz_after 2 Q (fun v h' => zz_J zp_P zt_tf zt_fd X (d + 1) zm_133 89 [(0, .ref 42), (1, .long x1), (3, .long x3), (5, .int x5), (6, .int x6), (8, .int x8)] (v.toList ++ [.long y1, .ref 42]) h' Q))) : zz_J zp_P zt_tf zt_fd X (d + 1) zm_133 82 [(0, .ref 42), (1, .long x1), (3, .long x3), (5, .int x5), (6, .int x6), (8, .int x8)] [.long y1, .ref 42] h Q := by
  refine zz_J.n 83 rfl rfl rfl ?_
  refine zz_J.n 84 rfl rfl rfl ?_
  refine zz_J.n 86 rfl rfl rfl ?_
  refine zz_J.cv 89 (as := [.long y1, .ref 42]) rfl rfl (hR.clO ko_42 (by decide) (by decide)) (by decide) (Nat.le_of_ble_eq_true rfl) (Nat.le_of_ble_eq_true rfl) rfl (Nat.le_of_ble_eq_true rfl) rfl ?_
  refine zz_J.mono (k hR) ?_
  intro o h' hE
  cases o with
  | inl v => exact zz_J.weak hE rfl ⟨rfl, rfl, rfl, rfl, rfl, rfl, trivial⟩
  | inr q => exact hE
theorem cb_133_89 {X : Nat → Option zz_C} {h : zz_H} {t : cS} {s : mS} {d : Nat} {Q : zz_O → zz_H → Prop} {x1 : Int64} {x3 : Int64} {x5 : Int32} {x6 : Int32} {x8 : Int32} {y1 : Int64} {y2 : Int64} (hR : kR h t s) (k : ∀ {h : zz_H}, kR h t s → zz_J zp_P zt_tf zt_fd X d zm_133 0 [(0, .ref 42), (1, .long y1), (3, .long y2), (5, .int (x5 + 1))] [] h (zz_after 2 Q (fun v h' => zz_J zp_P zt_tf zt_fd X (d + 1) zm_133 96 [(0, .ref 42), (1, .long x1), (3, .long x3), (5, .int x5), (6, .int x6), (8, .int x8)] (v.toList ++ []) h' Q))) : zz_J zp_P zt_tf zt_fd X (d + 1) zm_133 89 [(0, .ref 42), (1, .long x1), (3, .long x3), (5, .int x5), (6, .int x6), (8, .int x8)] [.long y2, .long y1, .ref 42] h Q := by
  refine zz_J.n 91 rfl rfl rfl ?_
  refine zz_J.c 92 (.int 1) rfl rfl rfl rfl ?_
  refine zz_J.n 93 rfl rfl rfl ?_
  refine zz_J.cv 96 (as := []) rfl rfl (hR.clO ko_42 (by decide) (by decide)) (by decide) (Nat.le_of_ble_eq_true rfl) (Nat.le_of_ble_eq_true rfl) rfl (Nat.le_of_ble_eq_true rfl) rfl ?_
  refine zz_J.mono (k hR) ?_
  intro o h' hE
  cases o with
  | inl v => exact zz_J.weak hE rfl ⟨rfl, rfl, rfl, rfl, rfl, rfl, trivial⟩
  | inr q => exact hE
theorem cb_133_96 {X : Nat → Option zz_C} {h : zz_H} {t : cS} {s : mS} {d : Nat} {Q : zz_O → zz_H → Prop} {x1 : Int64} {x3 : Int64} {x5 : Int32} {x6 : Int32} {x8 : Int32} {y0 : Int32} (hR : kR h t s) (k : ∀ {h : zz_H}, kR h t s → zz_J zp_P zt_tf zt_fd X d zm_133 62 [(0, .ref 42), (1, .long x1), (3, .long x3), (5, .int x5), (6, .int x6), (7, .int y0), (8, .int (x8 + 1))] [] h Q) : zz_J zp_P zt_tf zt_fd X d zm_133 96 [(0, .ref 42), (1, .long x1), (3, .long x3), (5, .int x5), (6, .int x6), (8, .int x8)] [.int y0] h Q := by
  refine zz_J.n 98 rfl rfl rfl ?_
  refine zz_J.n 101 rfl rfl rfl ?_
  refine zz_J.n 62 rfl rfl rfl ?_
  exact zz_J.weak (k hR) rfl ⟨rfl, rfl, rfl, rfl, rfl, rfl, rfl, trivial⟩
theorem cb_133_104 {X : Nat → Option zz_C} {h : zz_H} {t : cS} {s : mS} {d : Nat} {Q : zz_O → zz_H → Prop} {x7 : Int32} (hR : kR h t s) (k : ∀ {h : zz_H}, kR h t s → Q (.inl (some (.int x7))) h) (rb : zz_reti (some .boolean) x7 = true) : zz_J zp_P zt_tf zt_fd X d zm_133 104 [(7, .int x7)] [] h Q := by
  refine zz_J.n 106 rfl rfl rfl ?_
  refine zz_J.ret rfl rfl (if_pos ⟨rfl, rb⟩) ?_
  exact k hR
def cf_133_28 (N : Nat) (X : Nat → Option zz_C) (rk : Nat → List Value → cS → kO)  (t : cS) : kO := some (t, .inl (some (.int 0)))
theorem cr_133_28 {X : Nat → Option zz_C} {s : mS} {N : Nat} {rk : Nat → List Value → cS → kO} {D : Nat} (hrk : cK3 X s D rk) (hB : 10 ≤ D) {d : Nat} (hd : D + 1 ≤ d) {Q : zz_O → zz_H → Prop}  {h : zz_H} {t t' : cS} {o : kY} (hR : kR h t s) (hf : cf_133_28 N X rk  t = some (t', o)) (k : (∀ h', kR h' t' s → kE o Q h')) : zz_J zp_P zt_tf zt_fd X d zm_133 28 [] [] h Q := by
  unfold cf_133_28 at hf
  cases hf
  exact cb_133_28 hR  (fun {h} hR => k h hR)
def cf_133_55 (N : Nat) (X : Nat → Option zz_C) (rk : Nat → List Value → cS → kO) (y0 : Int32) (t : cS) : kO := if zz_reti (some .boolean) y0 = true then some (t, .inl (some (.int y0))) else none
theorem cr_133_55 {X : Nat → Option zz_C} {s : mS} {N : Nat} {rk : Nat → List Value → cS → kO} {D : Nat} (hrk : cK3 X s D rk) (hB : 10 ≤ D) {d : Nat} (hd : D + 1 ≤ d) {Q : zz_O → zz_H → Prop} {y0 : Int32} {h : zz_H} {t t' : cS} {o : kY} (hR : kR h t s) (hf : cf_133_55 N X rk y0 t = some (t', o)) (k : (∀ h', kR h' t' s → kE o Q h')) : zz_J zp_P zt_tf zt_fd X d zm_133 55 [] [.int y0] h Q := by
  unfold cf_133_55 at hf
  obtain ⟨rb, hf⟩ := ko_if hf
  cases hf
  exact cb_133_55 hR  (fun {h} hR => k h hR) rb
def cf_133_54 (N : Nat) (X : Nat → Option zz_C) (rk : Nat → List Value → cS → kO)  (t : cS) : kO := cf_133_55 N X rk 0 t
theorem cr_133_54 {X : Nat → Option zz_C} {s : mS} {N : Nat} {rk : Nat → List Value → cS → kO} {D : Nat} (hrk : cK3 X s D rk) (hB : 10 ≤ D) {d : Nat} (hd : D + 1 ≤ d) {Q : zz_O → zz_H → Prop}  {h : zz_H} {t t' : cS} {o : kY} (hR : kR h t s) (hf : cf_133_54 N X rk  t = some (t', o)) (k : (∀ h', kR h' t' s → kE o Q h')) : zz_J zp_P zt_tf zt_fd X d zm_133 54 [] [] h Q := by
  unfold cf_133_54 at hf
  exact cb_133_54 hR  (fun hR => cr_133_55 hrk hB hd hR hf k)
def cf_133_50 (N : Nat) (X : Nat → Option zz_C) (rk : Nat → List Value → cS → kO)  (t : cS) : kO := cf_133_55 N X rk 1 t
theorem cr_133_50 {X : Nat → Option zz_C} {s : mS} {N : Nat} {rk : Nat → List Value → cS → kO} {D : Nat} (hrk : cK3 X s D rk) (hB : 10 ≤ D) {d : Nat} (hd : D + 1 ≤ d) {Q : zz_O → zz_H → Prop}  {h : zz_H} {t t' : cS} {o : kY} (hR : kR h t s) (hf : cf_133_50 N X rk  t = some (t', o)) (k : (∀ h', kR h' t' s → kE o Q h')) : zz_J zp_P zt_tf zt_fd X d zm_133 50 [] [] h Q := by
  unfold cf_133_50 at hf
  exact cb_133_50 hR  (fun hR => cr_133_55 hrk hB hd hR hf k)
def cf_133_44 (N : Nat) (X : Nat → Option zz_C) (rk : Nat → List Value → cS → kO) (x1 : Int64) (x3 : Int64) (t : cS) : kO := if ¬ (lg_cmp x1 x3) = 0 then cf_133_54 N X rk  t else cf_133_50 N X rk  t
theorem cr_133_44 {X : Nat → Option zz_C} {s : mS} {N : Nat} {rk : Nat → List Value → cS → kO} {D : Nat} (hrk : cK3 X s D rk) (hB : 10 ≤ D) {d : Nat} (hd : D + 1 ≤ d) {Q : zz_O → zz_H → Prop} {x1 : Int64} {x3 : Int64} {h : zz_H} {t t' : cS} {o : kY} (hR : kR h t s) (hf : cf_133_44 N X rk x1 x3 t = some (t', o)) (k : (∀ h', kR h' t' s → kE o Q h')) : zz_J zp_P zt_tf zt_fd X d zm_133 44 [(1, .long x1), (3, .long x3)] [] h Q := by
  unfold cf_133_44 at hf
  refine cb_133_44 hR  (fun c {h} hR => ?_) (fun c {h} hR => ?_)
  · rw [if_pos c] at hf
    exact cr_133_54 hrk hB hd hR hf k
  · rw [if_neg c] at hf
    exact cr_133_50 hrk hB hd hR hf k
def cf_133_104 (N : Nat) (X : Nat → Option zz_C) (rk : Nat → List Value → cS → kO) (x7 : Int32) (t : cS) : kO := if zz_reti (some .boolean) x7 = true then some (t, .inl (some (.int x7))) else none
theorem cr_133_104 {X : Nat → Option zz_C} {s : mS} {N : Nat} {rk : Nat → List Value → cS → kO} {D : Nat} (hrk : cK3 X s D rk) (hB : 10 ≤ D) {d : Nat} (hd : D + 1 ≤ d) {Q : zz_O → zz_H → Prop} {x7 : Int32} {h : zz_H} {t t' : cS} {o : kY} (hR : kR h t s) (hf : cf_133_104 N X rk x7 t = some (t', o)) (k : (∀ h', kR h' t' s → kE o Q h')) : zz_J zp_P zt_tf zt_fd X d zm_133 104 [(7, .int x7)] [] h Q := by
  unfold cf_133_104 at hf
  obtain ⟨rb, hf⟩ := ko_if hf
  cases hf
  exact cb_133_104 hR  (fun {h} hR => k h hR) rb
def cf_133_96 (N : Nat) (X : Nat → Option zz_C) (rk : Nat → List Value → cS → kO) (rc : Nat → Int64 → Int64 → Int32 → Int32 → Int32 → Int32 → cS → kO) (x1 : Int64) (x3 : Int64) (x5 : Int32) (x6 : Int32) (x8 : Int32) (y0 : Int32) (t : cS) : kO := rc 0 x1 x3 x5 x6 y0 (x8 + 1) t
theorem cr_133_96 {X : Nat → Option zz_C} {s : mS} {N : Nat} {rk : Nat → List Value → cS → kO} {D : Nat} (hrk : cK3 X s D rk) (hB : 10 ≤ D) {d : Nat} (hd : D + 1 ≤ d) {rc : Nat → Int64 → Int64 → Int32 → Int32 → Int32 → Int32 → cS → kO} (hrc0 : ∀ {Q : zz_O → zz_H → Prop} {x1 : Int64} {x3 : Int64} {x5 : Int32} {x6 : Int32} {x7 : Int32} {x8 : Int32} {h : zz_H} {t t' : cS} {o : kY}, kR h t s → rc 0 x1 x3 x5 x6 x7 x8 t = some (t', o) → (∀ h', kR h' t' s → kE o Q h') → zz_J zp_P zt_tf zt_fd X d zm_133 62 [(0, .ref 42), (1, .long x1), (3, .long x3), (5, .int x5), (6, .int x6), (7, .int x7), (8, .int x8)] [] h Q) {Q : zz_O → zz_H → Prop} {x1 : Int64} {x3 : Int64} {x5 : Int32} {x6 : Int32} {x8 : Int32} {y0 : Int32} {h : zz_H} {t t' : cS} {o : kY} (hR : kR h t s) (hf : cf_133_96 N X rk rc x1 x3 x5 x6 x8 y0 t = some (t', o)) (k : (∀ h', kR h' t' s → kE o Q h')) : zz_J zp_P zt_tf zt_fd X d zm_133 96 [(0, .ref 42), (1, .long x1), (3, .long x3), (5, .int x5), (6, .int x6), (8, .int x8)] [.int y0] h Q := by
  unfold cf_133_96 at hf
  exact cb_133_96 hR  (fun hR => hrc0 hR hf k)
def cf_133_89 (N : Nat) (X : Nat → Option zz_C) (rk : Nat → List Value → cS → kO) (rc : Nat → Int64 → Int64 → Int32 → Int32 → Int32 → Int32 → cS → kO) (x1 : Int64) (x3 : Int64) (x5 : Int32) (x6 : Int32) (x8 : Int32) (y1 : Int64) (y2 : Int64) (t : cS) : kO := ko_call 2 (rk 133 [.long y1, .long y2, .int (x5 + 1)] t) (fun g1 v1 => co_i v1 (fun y => cf_133_96 N X rk rc x1 x3 x5 x6 x8 y g1))
theorem cr_133_89 {X : Nat → Option zz_C} {s : mS} {N : Nat} {rk : Nat → List Value → cS → kO} {D : Nat} (hrk : cK3 X s D rk) (hB : 10 ≤ D) {d : Nat} (hd : D + 1 ≤ d) {rc : Nat → Int64 → Int64 → Int32 → Int32 → Int32 → Int32 → cS → kO} (hrc0 : ∀ {Q : zz_O → zz_H → Prop} {x1 : Int64} {x3 : Int64} {x5 : Int32} {x6 : Int32} {x7 : Int32} {x8 : Int32} {h : zz_H} {t t' : cS} {o : kY}, kR h t s → rc 0 x1 x3 x5 x6 x7 x8 t = some (t', o) → (∀ h', kR h' t' s → kE o Q h') → zz_J zp_P zt_tf zt_fd X d zm_133 62 [(0, .ref 42), (1, .long x1), (3, .long x3), (5, .int x5), (6, .int x6), (7, .int x7), (8, .int x8)] [] h Q) {Q : zz_O → zz_H → Prop} {x1 : Int64} {x3 : Int64} {x5 : Int32} {x6 : Int32} {x8 : Int32} {y1 : Int64} {y2 : Int64} {h : zz_H} {t t' : cS} {o : kY} (hR : kR h t s) (hf : cf_133_89 N X rk rc x1 x3 x5 x6 x8 y1 y2 t = some (t', o)) (k : (∀ h', kR h' t' s → kE o Q h')) : zz_J zp_P zt_tf zt_fd X d zm_133 89 [(0, .ref 42), (1, .long x1), (3, .long x3), (5, .int x5), (6, .int x6), (8, .int x8)] [.long y2, .long y1, .ref 42] h Q := by
  unfold cf_133_89 at hf
  obtain ⟨d', rfl⟩ : ∃ d', d = d' + 1 := ⟨d - 1, by omega⟩
  refine cb_133_89 hR  (fun {h} hR => ?_)
  rcases ko_call_ok hf with ⟨g1, v1, er, hf⟩ | ⟨g1, er, hq⟩
  · obtain ⟨y, hv, hf2⟩ := co_i_ok hf
    clear hf
    have hf := hf2
    clear hf2
    subst hv
    refine hrk (by omega) hR er (fun h hR => ?_)
    exact cr_133_96 hrk hB hd hrc0 hR hf k
  · refine hrk (by omega) hR er (fun h hR => ?_)
    exact ko_thrown hq hR k
def cf_133_82 (N : Nat) (X : Nat → Option zz_C) (rk : Nat → List Value → cS → kO) (rc : Nat → Int64 → Int64 → Int32 → Int32 → Int32 → Int32 → cS → kO) (x1 : Int64) (x3 : Int64) (x5 : Int32) (x6 : Int32) (x8 : Int32) (y1 : Int64) (t : cS) : kO := ko_call 2 (cf_129 N X x3 x8 t) (fun g1 v1 => co_l v1 (fun y => cf_133_89 N X rk rc x1 x3 x5 x6 x8 y1 y g1))
theorem cr_133_82 {X : Nat → Option zz_C} {s : mS} {N : Nat} {rk : Nat → List Value → cS → kO} {D : Nat} (hrk : cK3 X s D rk) (hB : 10 ≤ D) {d : Nat} (hd : D + 1 ≤ d) {rc : Nat → Int64 → Int64 → Int32 → Int32 → Int32 → Int32 → cS → kO} (hrc0 : ∀ {Q : zz_O → zz_H → Prop} {x1 : Int64} {x3 : Int64} {x5 : Int32} {x6 : Int32} {x7 : Int32} {x8 : Int32} {h : zz_H} {t t' : cS} {o : kY}, kR h t s → rc 0 x1 x3 x5 x6 x7 x8 t = some (t', o) → (∀ h', kR h' t' s → kE o Q h') → zz_J zp_P zt_tf zt_fd X d zm_133 62 [(0, .ref 42), (1, .long x1), (3, .long x3), (5, .int x5), (6, .int x6), (7, .int x7), (8, .int x8)] [] h Q) {Q : zz_O → zz_H → Prop} {x1 : Int64} {x3 : Int64} {x5 : Int32} {x6 : Int32} {x8 : Int32} {y1 : Int64} {h : zz_H} {t t' : cS} {o : kY} (hR : kR h t s) (hf : cf_133_82 N X rk rc x1 x3 x5 x6 x8 y1 t = some (t', o)) (k : (∀ h', kR h' t' s → kE o Q h')) : zz_J zp_P zt_tf zt_fd X d zm_133 82 [(0, .ref 42), (1, .long x1), (3, .long x3), (5, .int x5), (6, .int x6), (8, .int x8)] [.long y1, .ref 42] h Q := by
  unfold cf_133_82 at hf
  obtain ⟨d', rfl⟩ : ∃ d', d = d' + 1 := ⟨d - 1, by omega⟩
  refine cb_133_82 hR  (fun {h} hR => ?_)
  rcases ko_call_ok hf with ⟨g1, v1, er, hf⟩ | ⟨g1, er, hq⟩
  · obtain ⟨y, hv, hf2⟩ := co_l_ok hf
    clear hf
    have hf := hf2
    clear hf2
    subst hv
    refine cr_129 (by omega) hR er (fun h hR => ?_)
    exact cr_133_89 hrk hB hd hrc0 hR hf k
  · refine cr_129 (by omega) hR er (fun h hR => ?_)
    exact ko_thrown hq hR k
def cf_133_74 (N : Nat) (X : Nat → Option zz_C) (rk : Nat → List Value → cS → kO) (rc : Nat → Int64 → Int64 → Int32 → Int32 → Int32 → Int32 → cS → kO) (x1 : Int64) (x3 : Int64) (x5 : Int32) (x6 : Int32) (x8 : Int32) (t : cS) : kO := ko_call 2 (cf_129 N X x1 x8 t) (fun g1 v1 => co_l v1 (fun y => cf_133_82 N X rk rc x1 x3 x5 x6 x8 y g1))
theorem cr_133_74 {X : Nat → Option zz_C} {s : mS} {N : Nat} {rk : Nat → List Value → cS → kO} {D : Nat} (hrk : cK3 X s D rk) (hB : 10 ≤ D) {d : Nat} (hd : D + 1 ≤ d) {rc : Nat → Int64 → Int64 → Int32 → Int32 → Int32 → Int32 → cS → kO} (hrc0 : ∀ {Q : zz_O → zz_H → Prop} {x1 : Int64} {x3 : Int64} {x5 : Int32} {x6 : Int32} {x7 : Int32} {x8 : Int32} {h : zz_H} {t t' : cS} {o : kY}, kR h t s → rc 0 x1 x3 x5 x6 x7 x8 t = some (t', o) → (∀ h', kR h' t' s → kE o Q h') → zz_J zp_P zt_tf zt_fd X d zm_133 62 [(0, .ref 42), (1, .long x1), (3, .long x3), (5, .int x5), (6, .int x6), (7, .int x7), (8, .int x8)] [] h Q) {Q : zz_O → zz_H → Prop} {x1 : Int64} {x3 : Int64} {x5 : Int32} {x6 : Int32} {x8 : Int32} {h : zz_H} {t t' : cS} {o : kY} (hR : kR h t s) (hf : cf_133_74 N X rk rc x1 x3 x5 x6 x8 t = some (t', o)) (k : (∀ h', kR h' t' s → kE o Q h')) : zz_J zp_P zt_tf zt_fd X d zm_133 74 [(0, .ref 42), (1, .long x1), (3, .long x3), (5, .int x5), (6, .int x6), (8, .int x8)] [] h Q := by
  unfold cf_133_74 at hf
  obtain ⟨d', rfl⟩ : ∃ d', d = d' + 1 := ⟨d - 1, by omega⟩
  refine cb_133_74 hR  (fun {h} hR => ?_)
  rcases ko_call_ok hf with ⟨g1, v1, er, hf⟩ | ⟨g1, er, hq⟩
  · obtain ⟨y, hv, hf2⟩ := co_l_ok hf
    clear hf
    have hf := hf2
    clear hf2
    subst hv
    refine cr_129 (by omega) hR er (fun h hR => ?_)
    exact cr_133_82 hrk hB hd hrc0 hR hf k
  · refine cr_129 (by omega) hR er (fun h hR => ?_)
    exact ko_thrown hq hR k
def cf_133_69 (N : Nat) (X : Nat → Option zz_C) (rk : Nat → List Value → cS → kO) (rc : Nat → Int64 → Int64 → Int32 → Int32 → Int32 → Int32 → cS → kO) (x1 : Int64) (x3 : Int64) (x5 : Int32) (x6 : Int32) (x7 : Int32) (x8 : Int32) (t : cS) : kO := if x7 = 0 then cf_133_104 N X rk x7 t else cf_133_74 N X rk rc x1 x3 x5 x6 x8 t
theorem cr_133_69 {X : Nat → Option zz_C} {s : mS} {N : Nat} {rk : Nat → List Value → cS → kO} {D : Nat} (hrk : cK3 X s D rk) (hB : 10 ≤ D) {d : Nat} (hd : D + 1 ≤ d) {rc : Nat → Int64 → Int64 → Int32 → Int32 → Int32 → Int32 → cS → kO} (hrc0 : ∀ {Q : zz_O → zz_H → Prop} {x1 : Int64} {x3 : Int64} {x5 : Int32} {x6 : Int32} {x7 : Int32} {x8 : Int32} {h : zz_H} {t t' : cS} {o : kY}, kR h t s → rc 0 x1 x3 x5 x6 x7 x8 t = some (t', o) → (∀ h', kR h' t' s → kE o Q h') → zz_J zp_P zt_tf zt_fd X d zm_133 62 [(0, .ref 42), (1, .long x1), (3, .long x3), (5, .int x5), (6, .int x6), (7, .int x7), (8, .int x8)] [] h Q) {Q : zz_O → zz_H → Prop} {x1 : Int64} {x3 : Int64} {x5 : Int32} {x6 : Int32} {x7 : Int32} {x8 : Int32} {h : zz_H} {t t' : cS} {o : kY} (hR : kR h t s) (hf : cf_133_69 N X rk rc x1 x3 x5 x6 x7 x8 t = some (t', o)) (k : (∀ h', kR h' t' s → kE o Q h')) : zz_J zp_P zt_tf zt_fd X d zm_133 69 [(0, .ref 42), (1, .long x1), (3, .long x3), (5, .int x5), (6, .int x6), (7, .int x7), (8, .int x8)] [] h Q := by
  unfold cf_133_69 at hf
  refine cb_133_69 hR  (fun c {h} hR => ?_) (fun c {h} hR => ?_)
  · rw [if_pos c] at hf
    exact cr_133_104 hrk hB hd hR hf k
  · rw [if_neg c] at hf
    exact cr_133_74 hrk hB hd hrc0 hR hf k
def cf_133_62 (N : Nat) (X : Nat → Option zz_C) (rk : Nat → List Value → cS → kO) (rc : Nat → Int64 → Int64 → Int32 → Int32 → Int32 → Int32 → cS → kO) (x1 : Int64) (x3 : Int64) (x5 : Int32) (x6 : Int32) (x7 : Int32) (x8 : Int32) (t : cS) : kO := if x6 ≤ x8 then cf_133_104 N X rk x7 t else cf_133_69 N X rk rc x1 x3 x5 x6 x7 x8 t
theorem cr_133_62 {X : Nat → Option zz_C} {s : mS} {N : Nat} {rk : Nat → List Value → cS → kO} {D : Nat} (hrk : cK3 X s D rk) (hB : 10 ≤ D) {d : Nat} (hd : D + 1 ≤ d) {rc : Nat → Int64 → Int64 → Int32 → Int32 → Int32 → Int32 → cS → kO} (hrc0 : ∀ {Q : zz_O → zz_H → Prop} {x1 : Int64} {x3 : Int64} {x5 : Int32} {x6 : Int32} {x7 : Int32} {x8 : Int32} {h : zz_H} {t t' : cS} {o : kY}, kR h t s → rc 0 x1 x3 x5 x6 x7 x8 t = some (t', o) → (∀ h', kR h' t' s → kE o Q h') → zz_J zp_P zt_tf zt_fd X d zm_133 62 [(0, .ref 42), (1, .long x1), (3, .long x3), (5, .int x5), (6, .int x6), (7, .int x7), (8, .int x8)] [] h Q) {Q : zz_O → zz_H → Prop} {x1 : Int64} {x3 : Int64} {x5 : Int32} {x6 : Int32} {x7 : Int32} {x8 : Int32} {h : zz_H} {t t' : cS} {o : kY} (hR : kR h t s) (hf : cf_133_62 N X rk rc x1 x3 x5 x6 x7 x8 t = some (t', o)) (k : (∀ h', kR h' t' s → kE o Q h')) : zz_J zp_P zt_tf zt_fd X d zm_133 62 [(0, .ref 42), (1, .long x1), (3, .long x3), (5, .int x5), (6, .int x6), (7, .int x7), (8, .int x8)] [] h Q := by
  unfold cf_133_62 at hf
  refine cb_133_62 hR  (fun c {h} hR => ?_) (fun c {h} hR => ?_)
  · rw [if_pos c] at hf
    exact cr_133_104 hrk hB hd hR hf k
  · rw [if_neg c] at hf
    exact cr_133_69 hrk hB hd hrc0 hR hf k
def cf_133_L6 (N : Nat) (X : Nat → Option zz_C) (rk : Nat → List Value → cS → kO) : Nat → Nat → Int64 → Int64 → Int32 → Int32 → Int32 → Int32 → cS → kO
  | 0, _, _, _, _, _, _, _, _ => none
  | n + 1, l, x1, x3, x5, x6, x7, x8, t => if l = 0 then cf_133_62 N X rk (cf_133_L6 N X rk n) x1 x3 x5 x6 x7 x8 t else none
theorem cr_133_L6 {X : Nat → Option zz_C} {s : mS} {N : Nat} {rk : Nat → List Value → cS → kO} {D : Nat} (hrk : cK3 X s D rk) (hB : 10 ≤ D) {d : Nat} (hd : D + 1 ≤ d) : ∀ n : Nat, (∀ {Q : zz_O → zz_H → Prop} {x1 : Int64} {x3 : Int64} {x5 : Int32} {x6 : Int32} {x7 : Int32} {x8 : Int32} {h : zz_H} {t t' : cS} {o : kY}, kR h t s → cf_133_L6 N X rk n 0 x1 x3 x5 x6 x7 x8 t = some (t', o) → (∀ h', kR h' t' s → kE o Q h') → zz_J zp_P zt_tf zt_fd X d zm_133 62 [(0, .ref 42), (1, .long x1), (3, .long x3), (5, .int x5), (6, .int x6), (7, .int x7), (8, .int x8)] [] h Q) := by
  intro n
  induction n with
  | zero => exact (fun _ hf _ => by cases hf)
  | succ n ih =>
    have h0 := @ih
    intro Q _ _ _ _ _ _ h t t' o hR hf k
    unfold cf_133_L6 at hf
    rw [if_pos rfl] at hf
    exact cr_133_62 hrk hB hd h0 hR hf k
def cf_133_56 (N : Nat) (X : Nat → Option zz_C) (rk : Nat → List Value → cS → kO) (x1 : Int64) (x3 : Int64) (x5 : Int32) (x6 : Int32) (t : cS) : kO := cf_133_L6 N X rk N 0 x1 x3 x5 x6 1 0 t
theorem cr_133_56 {X : Nat → Option zz_C} {s : mS} {N : Nat} {rk : Nat → List Value → cS → kO} {D : Nat} (hrk : cK3 X s D rk) (hB : 10 ≤ D) {d : Nat} (hd : D + 1 ≤ d) {Q : zz_O → zz_H → Prop} {x1 : Int64} {x3 : Int64} {x5 : Int32} {x6 : Int32} {h : zz_H} {t t' : cS} {o : kY} (hR : kR h t s) (hf : cf_133_56 N X rk x1 x3 x5 x6 t = some (t', o)) (k : (∀ h', kR h' t' s → kE o Q h')) : zz_J zp_P zt_tf zt_fd X d zm_133 56 [(0, .ref 42), (1, .long x1), (3, .long x3), (5, .int x5), (6, .int x6)] [] h Q := by
  unfold cf_133_56 at hf
  exact cb_133_56 hR  (fun hR => cr_133_L6 hrk hB hd N hR hf k)
def cf_133_37 (N : Nat) (X : Nat → Option zz_C) (rk : Nat → List Value → cS → kO) (x1 : Int64) (x3 : Int64) (x5 : Int32) (x6 : Int32) (t : cS) : kO := if x5 ≤ 6 then cf_133_56 N X rk x1 x3 x5 x6 t else cf_133_44 N X rk x1 x3 t
theorem cr_133_37 {X : Nat → Option zz_C} {s : mS} {N : Nat} {rk : Nat → List Value → cS → kO} {D : Nat} (hrk : cK3 X s D rk) (hB : 10 ≤ D) {d : Nat} (hd : D + 1 ≤ d) {Q : zz_O → zz_H → Prop} {x1 : Int64} {x3 : Int64} {x5 : Int32} {x6 : Int32} {h : zz_H} {t t' : cS} {o : kY} (hR : kR h t s) (hf : cf_133_37 N X rk x1 x3 x5 x6 t = some (t', o)) (k : (∀ h', kR h' t' s → kE o Q h')) : zz_J zp_P zt_tf zt_fd X d zm_133 37 [(0, .ref 42), (1, .long x1), (3, .long x3), (5, .int x5), (6, .int x6)] [] h Q := by
  unfold cf_133_37 at hf
  refine cb_133_37 hR  (fun c {h} hR => ?_) (fun c {h} hR => ?_)
  · rw [if_pos c] at hf
    exact cr_133_56 hrk hB hd hR hf k
  · rw [if_neg c] at hf
    exact cr_133_44 hrk hB hd hR hf k
def cf_133_34 (N : Nat) (X : Nat → Option zz_C) (rk : Nat → List Value → cS → kO) (x1 : Int64) (x3 : Int64) (x5 : Int32) (x6 : Int32) (y0 : Int32) (t : cS) : kO := if y0 = 0 then cf_133_44 N X rk x1 x3 t else cf_133_37 N X rk x1 x3 x5 x6 t
theorem cr_133_34 {X : Nat → Option zz_C} {s : mS} {N : Nat} {rk : Nat → List Value → cS → kO} {D : Nat} (hrk : cK3 X s D rk) (hB : 10 ≤ D) {d : Nat} (hd : D + 1 ≤ d) {Q : zz_O → zz_H → Prop} {x1 : Int64} {x3 : Int64} {x5 : Int32} {x6 : Int32} {y0 : Int32} {h : zz_H} {t t' : cS} {o : kY} (hR : kR h t s) (hf : cf_133_34 N X rk x1 x3 x5 x6 y0 t = some (t', o)) (k : (∀ h', kR h' t' s → kE o Q h')) : zz_J zp_P zt_tf zt_fd X d zm_133 34 [(0, .ref 42), (1, .long x1), (3, .long x3), (5, .int x5), (6, .int x6)] [.int y0] h Q := by
  unfold cf_133_34 at hf
  refine cb_133_34 hR  (fun c {h} hR => ?_) (fun c {h} hR => ?_)
  · rw [if_pos c] at hf
    exact cr_133_44 hrk hB hd hR hf k
  · rw [if_neg c] at hf
    exact cr_133_37 hrk hB hd hR hf k
def cf_133_30 (N : Nat) (X : Nat → Option zz_C) (rk : Nat → List Value → cS → kO) (x1 : Int64) (x3 : Int64) (x5 : Int32) (x6 : Int32) (t : cS) : kO := ko_call 1000 (cf_255 N X x1 t) (fun g1 v1 => co_i v1 (fun y => cf_133_34 N X rk x1 x3 x5 x6 y g1))
theorem cr_133_30 {X : Nat → Option zz_C} {s : mS} {N : Nat} {rk : Nat → List Value → cS → kO} {D : Nat} (hrk : cK3 X s D rk) (hB : 10 ≤ D) {d : Nat} (hd : D + 1 ≤ d) {Q : zz_O → zz_H → Prop} {x1 : Int64} {x3 : Int64} {x5 : Int32} {x6 : Int32} {h : zz_H} {t t' : cS} {o : kY} (hR : kR h t s) (hf : cf_133_30 N X rk x1 x3 x5 x6 t = some (t', o)) (k : (∀ h', kR h' t' s → kE o Q h')) : zz_J zp_P zt_tf zt_fd X d zm_133 30 [(0, .ref 42), (1, .long x1), (3, .long x3), (5, .int x5), (6, .int x6)] [] h Q := by
  unfold cf_133_30 at hf
  obtain ⟨d', rfl⟩ : ∃ d', d = d' + 1 := ⟨d - 1, by omega⟩
  refine cb_133_30 hR  (fun {h} hR => ?_)
  rcases ko_call_ok hf with ⟨g1, v1, er, hf⟩ | ⟨g1, er, hq⟩
  · obtain ⟨y, hv, hf2⟩ := co_i_ok hf
    clear hf
    have hf := hf2
    clear hf2
    subst hv
    refine cr_255 (by omega) hR er (fun h hR => ?_)
    exact cr_133_34 hrk hB hd hR hf k
  · refine cr_255 (by omega) hR er (fun h hR => ?_)
    exact ko_thrown hq hR k
def cf_133_25 (N : Nat) (X : Nat → Option zz_C) (rk : Nat → List Value → cS → kO) (x1 : Int64) (x3 : Int64) (x5 : Int32) (x6 : Int32) (y0 : Int32) (y1 : Int32) (t : cS) : kO := if y0 = y1 then cf_133_30 N X rk x1 x3 x5 x6 t else cf_133_28 N X rk  t
theorem cr_133_25 {X : Nat → Option zz_C} {s : mS} {N : Nat} {rk : Nat → List Value → cS → kO} {D : Nat} (hrk : cK3 X s D rk) (hB : 10 ≤ D) {d : Nat} (hd : D + 1 ≤ d) {Q : zz_O → zz_H → Prop} {x1 : Int64} {x3 : Int64} {x5 : Int32} {x6 : Int32} {y0 : Int32} {y1 : Int32} {h : zz_H} {t t' : cS} {o : kY} (hR : kR h t s) (hf : cf_133_25 N X rk x1 x3 x5 x6 y0 y1 t = some (t', o)) (k : (∀ h', kR h' t' s → kE o Q h')) : zz_J zp_P zt_tf zt_fd X d zm_133 25 [(0, .ref 42), (1, .long x1), (3, .long x3), (5, .int x5), (6, .int x6)] [.int y1, .int y0] h Q := by
  unfold cf_133_25 at hf
  refine cb_133_25 hR  (fun c {h} hR => ?_) (fun c {h} hR => ?_)
  · rw [if_pos c] at hf
    exact cr_133_30 hrk hB hd hR hf k
  · rw [if_neg c] at hf
    exact cr_133_28 hrk hB hd hR hf k
def cf_133_18 (N : Nat) (X : Nat → Option zz_C) (rk : Nat → List Value → cS → kO) (x1 : Int64) (x3 : Int64) (x5 : Int32) (x6 : Int32) (t : cS) : kO := ko_call 2 (cf_128 N X x3 t) (fun g1 v1 => co_i v1 (fun y => cf_133_25 N X rk x1 x3 x5 x6 x6 y g1))
theorem cr_133_18 {X : Nat → Option zz_C} {s : mS} {N : Nat} {rk : Nat → List Value → cS → kO} {D : Nat} (hrk : cK3 X s D rk) (hB : 10 ≤ D) {d : Nat} (hd : D + 1 ≤ d) {Q : zz_O → zz_H → Prop} {x1 : Int64} {x3 : Int64} {x5 : Int32} {x6 : Int32} {h : zz_H} {t t' : cS} {o : kY} (hR : kR h t s) (hf : cf_133_18 N X rk x1 x3 x5 x6 t = some (t', o)) (k : (∀ h', kR h' t' s → kE o Q h')) : zz_J zp_P zt_tf zt_fd X d zm_133 18 [(0, .ref 42), (1, .long x1), (3, .long x3), (5, .int x5), (6, .int x6)] [] h Q := by
  unfold cf_133_18 at hf
  obtain ⟨d', rfl⟩ : ∃ d', d = d' + 1 := ⟨d - 1, by omega⟩
  refine cb_133_18 hR  (fun {h} hR => ?_)
  rcases ko_call_ok hf with ⟨g1, v1, er, hf⟩ | ⟨g1, er, hq⟩
  · obtain ⟨y, hv, hf2⟩ := co_i_ok hf
    clear hf
    have hf := hf2
    clear hf2
    subst hv
    refine cr_128 (by omega) hR er (fun h hR => ?_)
    exact cr_133_25 hrk hB hd hR hf k
  · refine cr_128 (by omega) hR er (fun h hR => ?_)
    exact ko_thrown hq hR k
def cf_133_15 (N : Nat) (X : Nat → Option zz_C) (rk : Nat → List Value → cS → kO) (x1 : Int64) (x3 : Int64) (x5 : Int32) (x6 : Int32) (y0 : Int32) (y1 : Int32) (t : cS) : kO := if ¬ y0 = y1 then cf_133_28 N X rk  t else cf_133_18 N X rk x1 x3 x5 x6 t
theorem cr_133_15 {X : Nat → Option zz_C} {s : mS} {N : Nat} {rk : Nat → List Value → cS → kO} {D : Nat} (hrk : cK3 X s D rk) (hB : 10 ≤ D) {d : Nat} (hd : D + 1 ≤ d) {Q : zz_O → zz_H → Prop} {x1 : Int64} {x3 : Int64} {x5 : Int32} {x6 : Int32} {y0 : Int32} {y1 : Int32} {h : zz_H} {t t' : cS} {o : kY} (hR : kR h t s) (hf : cf_133_15 N X rk x1 x3 x5 x6 y0 y1 t = some (t', o)) (k : (∀ h', kR h' t' s → kE o Q h')) : zz_J zp_P zt_tf zt_fd X d zm_133 15 [(0, .ref 42), (1, .long x1), (3, .long x3), (5, .int x5), (6, .int x6)] [.int y1, .int y0] h Q := by
  unfold cf_133_15 at hf
  refine cb_133_15 hR  (fun c {h} hR => ?_) (fun c {h} hR => ?_)
  · rw [if_pos c] at hf
    exact cr_133_28 hrk hB hd hR hf k
  · rw [if_neg c] at hf
    exact cr_133_18 hrk hB hd hR hf k
def cf_133_11 (N : Nat) (X : Nat → Option zz_C) (rk : Nat → List Value → cS → kO) (x1 : Int64) (x3 : Int64) (x5 : Int32) (x6 : Int32) (y0 : Int32) (t : cS) : kO := ko_call 1000 (cf_255 N X x3 t) (fun g1 v1 => co_i v1 (fun y => cf_133_15 N X rk x1 x3 x5 x6 y0 y g1))
theorem cr_133_11 {X : Nat → Option zz_C} {s : mS} {N : Nat} {rk : Nat → List Value → cS → kO} {D : Nat} (hrk : cK3 X s D rk) (hB : 10 ≤ D) {d : Nat} (hd : D + 1 ≤ d) {Q : zz_O → zz_H → Prop} {x1 : Int64} {x3 : Int64} {x5 : Int32} {x6 : Int32} {y0 : Int32} {h : zz_H} {t t' : cS} {o : kY} (hR : kR h t s) (hf : cf_133_11 N X rk x1 x3 x5 x6 y0 t = some (t', o)) (k : (∀ h', kR h' t' s → kE o Q h')) : zz_J zp_P zt_tf zt_fd X d zm_133 11 [(0, .ref 42), (1, .long x1), (3, .long x3), (5, .int x5), (6, .int x6)] [.int y0] h Q := by
  unfold cf_133_11 at hf
  obtain ⟨d', rfl⟩ : ∃ d', d = d' + 1 := ⟨d - 1, by omega⟩
  refine cb_133_11 hR  (fun {h} hR => ?_)
  rcases ko_call_ok hf with ⟨g1, v1, er, hf⟩ | ⟨g1, er, hq⟩
  · obtain ⟨y, hv, hf2⟩ := co_i_ok hf
    clear hf
    have hf := hf2
    clear hf2
    subst hv
    refine cr_255 (by omega) hR er (fun h hR => ?_)
    exact cr_133_15 hrk hB hd hR hf k
  · refine cr_255 (by omega) hR er (fun h hR => ?_)
    exact ko_thrown hq hR k
def cf_133_5 (N : Nat) (X : Nat → Option zz_C) (rk : Nat → List Value → cS → kO) (x1 : Int64) (x3 : Int64) (x5 : Int32) (y0 : Int32) (t : cS) : kO := ko_call 1000 (cf_255 N X x1 t) (fun g1 v1 => co_i v1 (fun y => cf_133_11 N X rk x1 x3 x5 y0 y g1))
theorem cr_133_5 {X : Nat → Option zz_C} {s : mS} {N : Nat} {rk : Nat → List Value → cS → kO} {D : Nat} (hrk : cK3 X s D rk) (hB : 10 ≤ D) {d : Nat} (hd : D + 1 ≤ d) {Q : zz_O → zz_H → Prop} {x1 : Int64} {x3 : Int64} {x5 : Int32} {y0 : Int32} {h : zz_H} {t t' : cS} {o : kY} (hR : kR h t s) (hf : cf_133_5 N X rk x1 x3 x5 y0 t = some (t', o)) (k : (∀ h', kR h' t' s → kE o Q h')) : zz_J zp_P zt_tf zt_fd X d zm_133 5 [(0, .ref 42), (1, .long x1), (3, .long x3), (5, .int x5)] [.int y0] h Q := by
  unfold cf_133_5 at hf
  obtain ⟨d', rfl⟩ : ∃ d', d = d' + 1 := ⟨d - 1, by omega⟩
  refine cb_133_5 hR  (fun {h} hR => ?_)
  rcases ko_call_ok hf with ⟨g1, v1, er, hf⟩ | ⟨g1, er, hq⟩
  · obtain ⟨y, hv, hf2⟩ := co_i_ok hf
    clear hf
    have hf := hf2
    clear hf2
    subst hv
    refine cr_255 (by omega) hR er (fun h hR => ?_)
    exact cr_133_11 hrk hB hd hR hf k
  · refine cr_255 (by omega) hR er (fun h hR => ?_)
    exact ko_thrown hq hR k
def cf_133_0 (N : Nat) (X : Nat → Option zz_C) (rk : Nat → List Value → cS → kO) (x1 : Int64) (x3 : Int64) (x5 : Int32) (t : cS) : kO := ko_call 2 (cf_128 N X x1 t) (fun g1 v1 => co_i v1 (fun y => cf_133_5 N X rk x1 x3 x5 y g1))
theorem cr_133_0 {X : Nat → Option zz_C} {s : mS} {N : Nat} {rk : Nat → List Value → cS → kO} {D : Nat} (hrk : cK3 X s D rk) (hB : 10 ≤ D) {d : Nat} (hd : D + 1 ≤ d) {Q : zz_O → zz_H → Prop} {x1 : Int64} {x3 : Int64} {x5 : Int32} {h : zz_H} {t t' : cS} {o : kY} (hR : kR h t s) (hf : cf_133_0 N X rk x1 x3 x5 t = some (t', o)) (k : (∀ h', kR h' t' s → kE o Q h')) : zz_J zp_P zt_tf zt_fd X d zm_133 0 [(0, .ref 42), (1, .long x1), (3, .long x3), (5, .int x5)] [] h Q := by
  unfold cf_133_0 at hf
  obtain ⟨d', rfl⟩ : ∃ d', d = d' + 1 := ⟨d - 1, by omega⟩
  refine cb_133_0 hR  (fun {h} hR => ?_)
  rcases ko_call_ok hf with ⟨g1, v1, er, hf⟩ | ⟨g1, er, hq⟩
  · obtain ⟨y, hv, hf2⟩ := co_i_ok hf
    clear hf
    have hf := hf2
    clear hf2
    subst hv
    refine cr_128 (by omega) hR er (fun h hR => ?_)
    exact cr_133_5 hrk hB hd hR hf k
  · refine cr_128 (by omega) hR er (fun h hR => ?_)
    exact ko_thrown hq hR k
/-- alikeWithin -/
def cf_133 (N : Nat) (X : Nat → Option zz_C) (rk : Nat → List Value → cS → kO) (x1 : Int64) (x3 : Int64) (x5 : Int32) (t : cS) : kO := cf_133_0 N X rk x1 x3 x5 t
theorem cr_133 {X : Nat → Option zz_C} {s : mS} {N : Nat} {rk : Nat → List Value → cS → kO} {D : Nat} (hrk : cK3 X s D rk) (hB : 10 ≤ D) {d : Nat} (hd : D + 1 ≤ d) {Q : zz_O → zz_H → Prop} {x1 : Int64} {x3 : Int64} {x5 : Int32} {h : zz_H} {t t' : cS} {o : kY} (hR : kR h t s) (hf : cf_133 N X rk x1 x3 x5 t = some (t', o)) (k : ∀ h', kR h' t' s → kE o Q h') : zz_J zp_P zt_tf zt_fd X d zm_133 0 [(0, .ref 42), (1, .long x1), (3, .long x3), (5, .int x5)] [] h Q := by
  unfold cf_133 at hf
  exact zz_J.weak (cr_133_0 hrk hB hd hR hf k) rfl ⟨rfl, rfl, rfl, rfl, trivial⟩
def cf_S3 (N : Nat) (X : Nat → Option zz_C) : Nat → Nat → List Value → cS → kO
  | 0, _, _, _ => none
  | n + 1, id, as, t => if id = 133 then (match as with
    | [.long x1, .long x3, .int x5] => cf_133 N X (cf_S3 N X n) x1 x3 x5 t
    | _ => none) else none
theorem cr_S3 {X : Nat → Option zz_C} {s : mS} {N : Nat} : ∀ n : Nat, cK3 X s (10 + n) (cf_S3 N X n) := by
  intro n
  induction n with
  | zero =>
    intro d _ Q _ _ _ h t t' o _ hf _
    cases hf
  | succ n ih =>
    intro d hd Q _ _ _ h t t' o hR hf k
    unfold cf_S3 at hf
    rw [if_pos rfl] at hf
    exact cr_133 (D := 10 + n) ih (Nat.le_add_right _ _) (by omega) hR hf k
/-! yX2_alike (JJ)Z -/
theorem cb_132_0 {X : Nat → Option zz_C} {h : zz_H} {t : cS} {s : mS} {d : Nat} {Q : zz_O → zz_H → Prop} {x1 : Int64} {x3 : Int64} (hR : kR h t s) (k : ∀ {h : zz_H}, kR h t s → zz_J zp_P zt_tf zt_fd X d zm_133 0 [(0, .ref 42), (1, .long x1), (3, .long x3), (5, .int 0)] [] h (zz_after 2 Q (fun v h' => zz_J zp_P zt_tf zt_fd X (d + 1) zm_132 7 [] (v.toList ++ []) h' Q))) : zz_J zp_P zt_tf zt_fd X (d + 1) zm_132 0 [(0, .ref 42), (1, .long x1), (3, .long x3)] [] h Q := by
  refine zz_J.n 1 rfl rfl rfl ?_
  refine zz_J.n 2 rfl rfl rfl ?_
  refine zz_J.n 3 rfl rfl rfl ?_
  refine zz_J.c 4 (.int 0) rfl rfl rfl rfl ?_
  refine zz_J.cv 7 (as := []) rfl rfl (hR.clO ko_42 (by decide) (by decide)) (by decide) (Nat.le_of_ble_eq_true rfl) (Nat.le_of_ble_eq_true rfl) rfl (Nat.le_of_ble_eq_true rfl) rfl ?_
  refine zz_J.mono (k hR) ?_
  intro o h' hE
  cases o with
  | inl v => exact zz_J.weak hE rfl trivial
  | inr q => exact hE
theorem cb_132_7 {X : Nat → Option zz_C} {h : zz_H} {t : cS} {s : mS} {d : Nat} {Q : zz_O → zz_H → Prop} {y0 : Int32} (hR : kR h t s) (k : ∀ {h : zz_H}, kR h t s → Q (.inl (some (.int y0))) h) (rb : zz_reti (some .boolean) y0 = true) : zz_J zp_P zt_tf zt_fd X d zm_132 7 [] [.int y0] h Q := by
  refine zz_J.ret rfl rfl (if_pos ⟨rfl, rb⟩) ?_
  exact k hR
def cf_132_7 (N : Nat) (X : Nat → Option zz_C) (y0 : Int32) (t : cS) : kO := if zz_reti (some .boolean) y0 = true then some (t, .inl (some (.int y0))) else none
theorem cr_132_7 {X : Nat → Option zz_C} {s : mS} {N : Nat} {d : Nat} (hd : 23 ≤ d) {Q : zz_O → zz_H → Prop} {y0 : Int32} {h : zz_H} {t t' : cS} {o : kY} (hR : kR h t s) (hf : cf_132_7 N X y0 t = some (t', o)) (k : (∀ h', kR h' t' s → kE o Q h')) : zz_J zp_P zt_tf zt_fd X d zm_132 7 [] [.int y0] h Q := by
  unfold cf_132_7 at hf
  obtain ⟨rb, hf⟩ := ko_if hf
  cases hf
  exact cb_132_7 hR  (fun {h} hR => k h hR) rb
def cf_132_0 (N : Nat) (X : Nat → Option zz_C) (x1 : Int64) (x3 : Int64) (t : cS) : kO := ko_call 2 (cf_S3 N X 12 133 [.long x1, .long x3, .int 0] t) (fun g1 v1 => co_i v1 (fun y => cf_132_7 N X y g1))
theorem cr_132_0 {X : Nat → Option zz_C} {s : mS} {N : Nat} {d : Nat} (hd : 23 ≤ d) {Q : zz_O → zz_H → Prop} {x1 : Int64} {x3 : Int64} {h : zz_H} {t t' : cS} {o : kY} (hR : kR h t s) (hf : cf_132_0 N X x1 x3 t = some (t', o)) (k : (∀ h', kR h' t' s → kE o Q h')) : zz_J zp_P zt_tf zt_fd X d zm_132 0 [(0, .ref 42), (1, .long x1), (3, .long x3)] [] h Q := by
  unfold cf_132_0 at hf
  obtain ⟨d', rfl⟩ : ∃ d', d = d' + 1 := ⟨d - 1, by omega⟩
  refine cb_132_0 hR  (fun {h} hR => ?_)
  rcases ko_call_ok hf with ⟨g1, v1, er, hf⟩ | ⟨g1, er, hq⟩
  · obtain ⟨y, hv, hf2⟩ := co_i_ok hf
    clear hf
    have hf := hf2
    clear hf2
    subst hv
    refine (cr_S3 12) (by omega) hR er (fun h hR => ?_)
    exact cr_132_7 hd hR hf k
  · refine (cr_S3 12) (by omega) hR er (fun h hR => ?_)
    exact ko_thrown hq hR k
/-- alike -/
def cf_132 (N : Nat) (X : Nat → Option zz_C) (x1 : Int64) (x3 : Int64) (t : cS) : kO := cf_132_0 N X x1 x3 t
theorem cr_132 {X : Nat → Option zz_C} {s : mS} {N : Nat} {d : Nat} (hd : 23 ≤ d) {Q : zz_O → zz_H → Prop} {x1 : Int64} {x3 : Int64} {h : zz_H} {t t' : cS} {o : kY} (hR : kR h t s) (hf : cf_132 N X x1 x3 t = some (t', o)) (k : ∀ h', kR h' t' s → kE o Q h') : zz_J zp_P zt_tf zt_fd X d zm_132 0 [(0, .ref 42), (1, .long x1), (3, .long x3)] [] h Q := by
  unfold cf_132 at hf
  exact zz_J.weak (cr_132_0 hd hR hf k) rfl ⟨rfl, rfl, rfl, trivial⟩
/-! yX1_grid (JJ)J -/
theorem cb_92_0 {X : Nat → Option zz_C} {h : zz_H} {t : cS} {s : mS} {d : Nat} {Q : zz_O → zz_H → Prop} {x1 : Int64} {x3 : Int64} (hR : kR h t s) (k : ∀ {h : zz_H}, kR h t s → zz_J zp_P zt_tf zt_fd X d zm_255 0 [(0, .long x1)] [] h (zz_after 1000 Q (fun v h' => zz_J zp_P zt_tf zt_fd X (d + 1) zm_92 4 [(0, .ref 59), (1, .long x1), (3, .long x3)] (v.toList ++ []) h' Q))) : zz_J zp_P zt_tf zt_fd X (d + 1) zm_92 0 [(0, .ref 59), (1, .long x1), (3, .long x3)] [] h Q := by
  refine zz_J.n 1 rfl rfl rfl ?_
  refine zz_J.cl (M' := zm_255) 4 rfl rfl (by decide) rfl rfl ⟨rfl, Nat.le_of_ble_eq_true rfl⟩ rfl ?_
  refine zz_J.mono (k hR) ?_
  intro o h' hE
  cases o with
  | inl v => exact zz_J.weak hE rfl ⟨rfl, rfl, rfl, trivial⟩
  | inr q => exact hE
theorem cb_92_4 {X : Nat → Option zz_C} {h : zz_H} {t : cS} {s : mS} {d : Nat} {Q : zz_O → zz_H → Prop} {x1 : Int64} {x3 : Int64} {y0 : Int32} (hR : kR h t s) (k1 : ¬ y0 = 0 → (∀ {h : zz_H}, kR h t s → zz_J zp_P zt_tf zt_fd X d zm_92 14 [] [] h Q)) (k2 : ¬ ¬ y0 = 0 → (∀ {h : zz_H}, kR h t s → zz_J zp_P zt_tf zt_fd X d zm_92 7 [(0, .ref 59), (1, .long x1), (3, .long x3)] [] h Q)) : zz_J zp_P zt_tf zt_fd X d zm_92 4 [(0, .ref 59), (1, .long x1), (3, .long x3)] [.int y0] h Q := by
  refine zz_J.b1 14 7 (A := ¬ y0 = 0) rfl (zz_cond_ne _ _) (by decide) rfl rfl (fun c => ?_) (fun c => ?_)
  · exact zz_J.weak (k1 c hR) rfl trivial
  · exact zz_J.weak (k2 c hR) rfl ⟨rfl, rfl, rfl, trivial⟩
theorem cb_92_7 {X : Nat → Option zz_C} {h : zz_H} {t : cS} {s : mS} {d : Nat} {Q : zz_O → zz_H → Prop} {x1 : Int64} {x3 : Int64} (hR : kR h t s) (k : ∀ {h : zz_H}, kR h t s → zz_J zp_P zt_tf zt_fd X d zm_255 0 [(0, .long x3)] [] h (zz_after 1000 Q (fun v h' => zz_J zp_P zt_tf zt_fd X (d + 1) zm_92 11 [(0, .ref 59), (1, .long x1), (3, .long x3)] (v.toList ++ []) h' Q))) : zz_J zp_P zt_tf zt_fd X (d + 1) zm_92 7 [(0, .ref 59), (1, .long x1), (3, .long x3)] [] h Q := by
  refine zz_J.n 8 rfl rfl rfl ?_
  refine zz_J.cl (M' := zm_255) 11 rfl rfl (by decide) rfl rfl ⟨rfl, Nat.le_of_ble_eq_true rfl⟩ rfl ?_
  refine zz_J.mono (k hR) ?_
  intro o h' hE
  cases o with
  | inl v => exact zz_J.weak hE rfl ⟨rfl, rfl, rfl, trivial⟩
  | inr q => exact hE
theorem cb_92_11 {X : Nat → Option zz_C} {h : zz_H} {t : cS} {s : mS} {d : Nat} {Q : zz_O → zz_H → Prop} {x1 : Int64} {x3 : Int64} {y0 : Int32} (hR : kR h t s) (k1 : y0 = 0 → (∀ {h : zz_H}, kR h t s → zz_J zp_P zt_tf zt_fd X d zm_92 19 [(0, .ref 59), (1, .long x1), (3, .long x3)] [] h Q)) (k2 : ¬ y0 = 0 → (∀ {h : zz_H}, kR h t s → zz_J zp_P zt_tf zt_fd X d zm_92 14 [] [] h Q)) : zz_J zp_P zt_tf zt_fd X d zm_92 11 [(0, .ref 59), (1, .long x1), (3, .long x3)] [.int y0] h Q := by
  refine zz_J.b1 19 14 (A := y0 = 0) rfl rfl (by decide) rfl rfl (fun c => ?_) (fun c => ?_)
  · exact zz_J.weak (k1 c hR) rfl ⟨rfl, rfl, rfl, trivial⟩
  · exact zz_J.weak (k2 c hR) rfl trivial
theorem cb_92_14 {X : Nat → Option zz_C} {h : zz_H} {t : cS} {s : mS} {d : Nat} {Q : zz_O → zz_H → Prop}  (hR : kR h t s) (k : ∀ {h : zz_H}, kR h t s → zz_J zp_P zt_tf zt_fd X d zm_254 0 [(0, .int 3)] [] h (zz_after 1000 Q (fun v h' => zz_J zp_P zt_tf zt_fd X (d + 1) zm_92 18 [] (v.toList ++ []) h' Q))) : zz_J zp_P zt_tf zt_fd X (d + 1) zm_92 14 [] [] h Q := by
  refine zz_J.c 15 (.int 3) rfl rfl rfl rfl ?_
  refine zz_J.cl (M' := zm_254) 18 rfl rfl (by decide) rfl rfl ⟨rfl, Nat.le_of_ble_eq_true rfl⟩ rfl ?_
  refine zz_J.mono (k hR) ?_
  intro o h' hE
  cases o with
  | inl v => exact zz_J.weak hE rfl trivial
  | inr q => exact hE
theorem cb_92_18 {X : Nat → Option zz_C} {h : zz_H} {t : cS} {s : mS} {d : Nat} {Q : zz_O → zz_H → Prop} {y0 : Int64} (hR : kR h t s) (k : ∀ {h : zz_H}, kR h t s → Q (.inl (some (.long y0))) h) : zz_J zp_P zt_tf zt_fd X d zm_92 18 [] [.long y0] h Q := by
  refine zz_J.ret rfl rfl rfl ?_
  exact k hR
theorem cb_92_19 {X : Nat → Option zz_C} {h : zz_H} {t : cS} {s : mS} {d : Nat} {Q : zz_O → zz_H → Prop} {x1 : Int64} {x3 : Int64} (hR : kR h t s) (k : ∀ {h : zz_H}, kR h t s → zz_J zp_P zt_tf zt_fd X d zm_256 0 [(0, .long x1)] [] h (zz_after 1000 Q (fun v h' => zz_J zp_P zt_tf zt_fd X (d + 1) zm_92 23 [(0, .ref 59), (3, .long x3)] (v.toList ++ []) h' Q))) : zz_J zp_P zt_tf zt_fd X (d + 1) zm_92 19 [(0, .ref 59), (1, .long x1), (3, .long x3)] [] h Q := by
  refine zz_J.n 20 rfl rfl rfl ?_
  refine zz_J.cl (M' := zm_256) 23 rfl rfl (by decide) rfl rfl ⟨rfl, Nat.le_of_ble_eq_true rfl⟩ rfl ?_
  refine zz_J.mono (k hR) ?_
  intro o h' hE
  cases o with
  | inl v => exact zz_J.weak hE rfl ⟨rfl, rfl, trivial⟩
  | inr q => exact hE
theorem cb_92_23 {X : Nat → Option zz_C} {h : zz_H} {t : cS} {s : mS} {d : Nat} {Q : zz_O → zz_H → Prop} {x3 : Int64} {y0 : Int32} (hR : kR h t s) (k : ∀ {h : zz_H}, kR h t s → zz_J zp_P zt_tf zt_fd X d zm_256 0 [(0, .long x3)] [] h (zz_after 1000 Q (fun v h' => zz_J zp_P zt_tf zt_fd X (d + 1) zm_92 29 [(0, .ref 59), (5, .int y0)] (v.toList ++ []) h' Q))) : zz_J zp_P zt_tf zt_fd X (d + 1) zm_92 23 [(0, .ref 59), (3, .long x3)] [.int y0] h Q := by
  refine zz_J.n 25 rfl rfl rfl ?_
  refine zz_J.n 26 rfl rfl rfl ?_
  refine zz_J.cl (M' := zm_256) 29 rfl rfl (by decide) rfl rfl ⟨rfl, Nat.le_of_ble_eq_true rfl⟩ rfl ?_
  refine zz_J.mono (k hR) ?_
  intro o h' hE
  cases o with
  | inl v => exact zz_J.weak hE rfl ⟨rfl, rfl, trivial⟩
  | inr q => exact hE
theorem cb_92_29 {X : Nat → Option zz_C} {h : zz_H} {t : cS} {s : mS} {d : Nat} {Q : zz_O → zz_H → Prop} {x5 : Int32} {y0 : Int32} (hR : kR h t s) (k1 : 20 < x5 → (∀ {h : zz_H}, kR h t s → zz_J zp_P zt_tf zt_fd X d zm_92 66 [] [] h Q)) (k2 : ¬ 20 < x5 → (∀ {h : zz_H}, kR h t s → zz_J zp_P zt_tf zt_fd X d zm_92 38 [(0, .ref 59), (5, .int x5), (6, .int y0)] [] h Q)) : zz_J zp_P zt_tf zt_fd X d zm_92 29 [(0, .ref 59), (5, .int x5)] [.int y0] h Q := by
  refine zz_J.n 31 rfl rfl rfl ?_
  refine zz_J.n 33 rfl rfl rfl ?_
  refine zz_J.c 35 (.int 20) rfl rfl rfl rfl ?_
  refine zz_J.b2 66 38 (A := 20 < x5) rfl rfl (by decide) rfl rfl (fun c => ?_) (fun c => ?_)
  · exact zz_J.weak (k1 c hR) rfl trivial
  · exact zz_J.weak (k2 c hR) rfl ⟨rfl, rfl, rfl, trivial⟩
theorem cb_92_38 {X : Nat → Option zz_C} {h : zz_H} {t : cS} {s : mS} {d : Nat} {Q : zz_O → zz_H → Prop} {x5 : Int32} {x6 : Int32} (hR : kR h t s) (k1 : 64 < x6 → (∀ {h : zz_H}, kR h t s → zz_J zp_P zt_tf zt_fd X d zm_92 66 [] [] h Q)) (k2 : ¬ 64 < x6 → (∀ {h : zz_H}, kR h t s → zz_J zp_P zt_tf zt_fd X d zm_92 45 [(0, .ref 59), (5, .int x5), (6, .int x6)] [] h Q)) : zz_J zp_P zt_tf zt_fd X d zm_92 38 [(0, .ref 59), (5, .int x5), (6, .int x6)] [] h Q := by
  refine zz_J.n 40 rfl rfl rfl ?_
  refine zz_J.c 42 (.int 64) rfl rfl rfl rfl ?_
  refine zz_J.b2 66 45 (A := 64 < x6) rfl rfl (by decide) rfl rfl (fun c => ?_) (fun c => ?_)
  · exact zz_J.weak (k1 c hR) rfl trivial
  · exact zz_J.weak (k2 c hR) rfl ⟨rfl, rfl, rfl, trivial⟩
theorem cb_92_45 {X : Nat → Option zz_C} {h : zz_H} {t : cS} {s : mS} {d : Nat} {Q : zz_O → zz_H → Prop} {x5 : Int32} {x6 : Int32} (hR : kR h t s) (k1 : x5 ≤ 0 → (∀ {h : zz_H}, kR h t s → zz_J zp_P zt_tf zt_fd X d zm_92 71 [(0, .ref 59), (5, .int x5), (6, .int x6)] [] h Q)) (k2 : ¬ x5 ≤ 0 → (∀ {h : zz_H}, kR h t s → zz_J zp_P zt_tf zt_fd X d zm_92 50 [(0, .ref 59), (5, .int x5), (6, .int x6)] [] h Q)) : zz_J zp_P zt_tf zt_fd X d zm_92 45 [(0, .ref 59), (5, .int x5), (6, .int x6)] [] h Q := by
  refine zz_J.n 47 rfl rfl rfl ?_
  refine zz_J.b1 71 50 (A := x5 ≤ 0) rfl rfl (by decide) rfl rfl (fun c => ?_) (fun c => ?_)
  · exact zz_J.weak (k1 c hR) rfl ⟨rfl, rfl, rfl, trivial⟩
  · exact zz_J.weak (k2 c hR) rfl ⟨rfl, rfl, rfl, trivial⟩
theorem cb_92_50 {X : Nat → Option zz_C} {h : zz_H} {t : cS} {s : mS} {d : Nat} {Q : zz_O → zz_H → Prop} {x5 : Int32} {x6 : Int32} (hR : kR h t s) (k1 : x6 ≤ 0 → (∀ {h : zz_H}, kR h t s → zz_J zp_P zt_tf zt_fd X d zm_92 71 [(0, .ref 59), (5, .int x5), (6, .int x6)] [] h Q)) (k2 : ¬ x6 ≤ 0 → (∀ {h : zz_H}, kR h t s → zz_J zp_P zt_tf zt_fd X d zm_92 55 [(0, .ref 59), (5, .int x5), (6, .int x6)] [] h Q)) : zz_J zp_P zt_tf zt_fd X d zm_92 50 [(0, .ref 59), (5, .int x5), (6, .int x6)] [] h Q := by
  refine zz_J.n 52 rfl rfl rfl ?_
  refine zz_J.b1 71 55 (A := x6 ≤ 0) rfl rfl (by decide) rfl rfl (fun c => ?_) (fun c => ?_)
  · exact zz_J.weak (k1 c hR) rfl ⟨rfl, rfl, rfl, trivial⟩
  · exact zz_J.weak (k2 c hR) rfl ⟨rfl, rfl, rfl, trivial⟩
theorem cb_92_55 {X : Nat → Option zz_C} {h : zz_H} {t : cS} {s : mS} {d : Nat} {Q : zz_O → zz_H → Prop} {x5 : Int32} {x6 : Int32} (hR : kR h t s) (k1 : (x5 * x6) ≤ 200 → (∀ {h : zz_H}, kR h t s → zz_J zp_P zt_tf zt_fd X d zm_92 71 [(0, .ref 59), (5, .int x5), (6, .int x6)] [] h Q)) (k2 : ¬ (x5 * x6) ≤ 200 → (∀ {h : zz_H}, kR h t s → zz_J zp_P zt_tf zt_fd X d zm_92 66 [] [] h Q)) : zz_J zp_P zt_tf zt_fd X d zm_92 55 [(0, .ref 59), (5, .int x5), (6, .int x6)] [] h Q := by
  refine zz_J.n 57 rfl rfl rfl ?_
  refine zz_J.n 59 rfl rfl rfl ?_
  refine zz_J.n 60 rfl rfl rfl ?_
  refine zz_J.c 63 (.int 200) rfl rfl rfl rfl ?_
  refine zz_J.b2 71 66 (A := (x5 * x6) ≤ 200) rfl rfl (by decide) rfl rfl (fun c => ?_) (fun c => ?_)
  · exact zz_J.weak (k1 c hR) rfl ⟨rfl, rfl, rfl, trivial⟩
  · exact zz_J.weak (k2 c hR) rfl trivial
theorem cb_92_66 {X : Nat → Option zz_C} {h : zz_H} {t : cS} {s : mS} {d : Nat} {Q : zz_O → zz_H → Prop}  (hR : kR h t s) (k : ∀ {h : zz_H}, kR h t s → zz_J zp_P zt_tf zt_fd X d zm_254 0 [(0, .int 2)] [] h (zz_after 1000 Q (fun v h' => zz_J zp_P zt_tf zt_fd X (d + 1) zm_92 70 [] (v.toList ++ []) h' Q))) : zz_J zp_P zt_tf zt_fd X (d + 1) zm_92 66 [] [] h Q := by
  refine zz_J.c 67 (.int 2) rfl rfl rfl rfl ?_
  refine zz_J.cl (M' := zm_254) 70 rfl rfl (by decide) rfl rfl ⟨rfl, Nat.le_of_ble_eq_true rfl⟩ rfl ?_
  refine zz_J.mono (k hR) ?_
  intro o h' hE
  cases o with
  | inl v => exact zz_J.weak hE rfl trivial
  | inr q => exact hE
theorem cb_92_70 {X : Nat → Option zz_C} {h : zz_H} {t : cS} {s : mS} {d : Nat} {Q : zz_O → zz_H → Prop} {y0 : Int64} (hR : kR h t s) (k : ∀ {h : zz_H}, kR h t s → Q (.inl (some (.long y0))) h) : zz_J zp_P zt_tf zt_fd X d zm_92 70 [] [.long y0] h Q := by
  refine zz_J.ret rfl rfl rfl ?_
  exact k hR
theorem cb_92_71 {X : Nat → Option zz_C} {h : zz_H} {t : cS} {s : mS} {d : Nat} {Q : zz_O → zz_H → Prop} {x5 : Int32} {x6 : Int32} (hR : kR h t s) (k1 : x5 < 0 → (∀ {h : zz_H}, kR h t s → zz_J zp_P zt_tf zt_fd X d zm_92 81 [] [] h Q)) (k2 : ¬ x5 < 0 → (∀ {h : zz_H}, kR h t s → zz_J zp_P zt_tf zt_fd X d zm_92 76 [(0, .ref 59), (5, .int x5), (6, .int x6)] [] h Q)) : zz_J zp_P zt_tf zt_fd X d zm_92 71 [(0, .ref 59), (5, .int x5), (6, .int x6)] [] h Q := by
  refine zz_J.n 73 rfl rfl rfl ?_
  refine zz_J.b1 81 76 (A := x5 < 0) rfl rfl (by decide) rfl rfl (fun c => ?_) (fun c => ?_)
  · exact zz_J.weak (k1 c hR) rfl trivial
  · exact zz_J.weak (k2 c hR) rfl ⟨rfl, rfl, rfl, trivial⟩
theorem cb_92_76 {X : Nat → Option zz_C} {h : zz_H} {t : cS} {s : mS} {d : Nat} {Q : zz_O → zz_H → Prop} {x5 : Int32} {x6 : Int32} (hR : kR h t s) (k1 : 0 ≤ x6 → (∀ {h : zz_H}, kR h t s → zz_J zp_P zt_tf zt_fd X d zm_92 86 [(0, .ref 59), (5, .int x5), (6, .int x6)] [] h Q)) (k2 : ¬ 0 ≤ x6 → (∀ {h : zz_H}, kR h t s → zz_J zp_P zt_tf zt_fd X d zm_92 81 [] [] h Q)) : zz_J zp_P zt_tf zt_fd X d zm_92 76 [(0, .ref 59), (5, .int x5), (6, .int x6)] [] h Q := by
  refine zz_J.n 78 rfl rfl rfl ?_
  refine zz_J.b1 86 81 (A := 0 ≤ x6) rfl rfl (by decide) rfl rfl (fun c => ?_) (fun c => ?_)
  · exact zz_J.weak (k1 c hR) rfl ⟨rfl, rfl, rfl, trivial⟩
  · exact zz_J.weak (k2 c hR) rfl trivial
theorem cb_92_81 {X : Nat → Option zz_C} {h : zz_H} {t : cS} {s : mS} {d : Nat} {Q : zz_O → zz_H → Prop}  (hR : kR h t s) (k : ∀ {h : zz_H}, kR h t s → zz_J zp_P zt_tf zt_fd X d zm_254 0 [(0, .int 1)] [] h (zz_after 1000 Q (fun v h' => zz_J zp_P zt_tf zt_fd X (d + 1) zm_92 85 [] (v.toList ++ []) h' Q))) : zz_J zp_P zt_tf zt_fd X (d + 1) zm_92 81 [] [] h Q := by
  refine zz_J.c 82 (.int 1) rfl rfl rfl rfl ?_
  refine zz_J.cl (M' := zm_254) 85 rfl rfl (by decide) rfl rfl ⟨rfl, Nat.le_of_ble_eq_true rfl⟩ rfl ?_
  refine zz_J.mono (k hR) ?_
  intro o h' hE
  cases o with
  | inl v => exact zz_J.weak hE rfl trivial
  | inr q => exact hE
theorem cb_92_85 {X : Nat → Option zz_C} {h : zz_H} {t : cS} {s : mS} {d : Nat} {Q : zz_O → zz_H → Prop} {y0 : Int64} (hR : kR h t s) (k : ∀ {h : zz_H}, kR h t s → Q (.inl (some (.long y0))) h) : zz_J zp_P zt_tf zt_fd X d zm_92 85 [] [.long y0] h Q := by
  refine zz_J.ret rfl rfl rfl ?_
  exact k hR
theorem cb_92_86 {X : Nat → Option zz_C} {h : zz_H} {t : cS} {s : mS} {d : Nat} {Q : zz_O → zz_H → Prop} {x5 : Int32} {x6 : Int32} (hR : kR h t s) (k : ∀ {h : zz_H}, kR h t s → zz_J zp_P zt_tf zt_fd X d zm_122 0 [(0, .ref 42)] [] h (zz_after 2 Q (fun v h' => zz_J zp_P zt_tf zt_fd X (d + 1) zm_92 93 [(0, .ref 59), (5, .int x5), (6, .int x6)] (v.toList ++ []) h' Q))) : zz_J zp_P zt_tf zt_fd X (d + 1) zm_92 86 [(0, .ref 59), (5, .int x5), (6, .int x6)] [] h Q := by
  refine zz_J.n 87 rfl rfl rfl ?_
  refine zz_J.g 90 rfl (hR.gv (v := .ref 42) ko_59 (by decide) rfl) rfl ?_
  refine zz_J.cv 93 (as := []) rfl rfl (hR.clO ko_42 (by decide) (by decide)) (by decide) (Nat.le_of_ble_eq_true rfl) (Nat.le_of_ble_eq_true rfl) rfl (Nat.le_of_ble_eq_true rfl) rfl ?_
  refine zz_J.mono (k hR) ?_
  intro o h' hE
  cases o with
  | inl v => exact zz_J.weak hE rfl ⟨rfl, rfl, rfl, trivial⟩
  | inr q => exact hE
theorem cb_92_93 {X : Nat → Option zz_C} {h : zz_H} {t : cS} {s : mS} {d : Nat} {Q : zz_O → zz_H → Prop} {x5 : Int32} {x6 : Int32} {y0 : Int32} (hR : kR h t s) (k : ∀ {h : zz_H}, kR h t s → zz_J zp_P zt_tf zt_fd X d zm_92 98 [(0, .ref 59), (5, .int x5), (6, .int x6), (7, .int y0), (8, .int 0)] [] h Q) : zz_J zp_P zt_tf zt_fd X d zm_92 93 [(0, .ref 59), (5, .int x5), (6, .int x6)] [.int y0] h Q := by
  refine zz_J.n 95 rfl rfl rfl ?_
  refine zz_J.c 96 (.int 0) rfl rfl rfl rfl ?_
  refine zz_J.n 98 rfl rfl rfl ?_
  exact zz_J.weak (k hR) rfl ⟨rfl, rfl, rfl, rfl, rfl, trivial⟩
theorem cb_92_98 {X : Nat → Option zz_C} {h : zz_H} {t : cS} {s : mS} {d : Nat} {Q : zz_O → zz_H → Prop} {x5 : Int32} {x6 : Int32} {x7 : Int32} {x8 : Int32} (hR : kR h t s) (k1 : x5 ≤ x8 → (∀ {h : zz_H}, kR h t s → zz_J zp_P zt_tf zt_fd X d zm_92 124 [(0, .ref 59), (7, .int x7)] [] h Q)) (k2 : ¬ x5 ≤ x8 → (∀ {h : zz_H}, kR h t s → zz_J zp_P zt_tf zt_fd X d zm_92 105 [(0, .ref 59), (5, .int x5), (6, .int x6), (7, .int x7), (8, .int x8)] [] h Q)) : zz_J zp_P zt_tf zt_fd X d zm_92 98 [(0, .ref 59), (5, .int x5), (6, .int x6), (7, .int x7), (8, .int x8)] [] h Q := by
  refine zz_J.n 100 rfl rfl rfl ?_
  refine zz_J.n 102 rfl rfl rfl ?_
  refine zz_J.b2 124 105 (A := x5 ≤ x8) rfl rfl (by decide) rfl rfl (fun c => ?_) (fun c => ?_)
  · exact zz_J.weak (k1 c hR) rfl ⟨rfl, rfl, trivial⟩
  · exact zz_J.weak (k2 c hR) rfl ⟨rfl, rfl, rfl, rfl, rfl, trivial⟩
theorem cb_92_105 {X : Nat → Option zz_C} {h : zz_H} {t : cS} {s : mS} {d : Nat} {Q : zz_O → zz_H → Prop} {x5 : Int32} {x6 : Int32} {x7 : Int32} {x8 : Int32} (hR : kR h t s) (k : ∀ {h : zz_H}, kR h t s → zz_J zp_P zt_tf zt_fd X d zm_91 0 [(0, .ref 59), (1, .int x6)] [] h (zz_after 1 Q (fun v h' => zz_J zp_P zt_tf zt_fd X (d + 1) zm_92 115 [(0, .ref 59), (5, .int x5), (6, .int x6), (7, .int x7), (8, .int x8)] (v.toList ++ [.ref 42]) h' Q))) : zz_J zp_P zt_tf zt_fd X (d + 1) zm_92 105 [(0, .ref 59), (5, .int x5), (6, .int x6), (7, .int x7), (8, .int x8)] [] h Q := by
  refine zz_J.n 106 rfl rfl rfl ?_
  refine zz_J.g 109 rfl (hR.gv (v := .ref 42) ko_59 (by decide) rfl) rfl ?_
  refine zz_J.n 110 rfl rfl rfl ?_
  refine zz_J.n 112 rfl rfl rfl ?_
  refine zz_J.cv 115 (as := [.ref 42]) rfl rfl (hR.clO ko_59 (by decide) (by decide)) (by decide) (Nat.le_of_ble_eq_true rfl) (Nat.le_of_ble_eq_true rfl) rfl (Nat.le_of_ble_eq_true rfl) rfl ?_
  refine zz_J.mono (k hR) ?_
  intro o h' hE
  cases o with
  | inl v => exact zz_J.weak hE rfl ⟨rfl, rfl, rfl, rfl, rfl, trivial⟩
  | inr q => exact hE
theorem cb_92_115 {X : Nat → Option zz_C} {h : zz_H} {t : cS} {s : mS} {d : Nat} {Q : zz_O → zz_H → Prop} {x5 : Int32} {x6 : Int32} {x7 : Int32} {x8 : Int32} {y1 : Int64} (hR : kR h t s) (k : ∀ {h : zz_H}, kR h t s → zz_J zp_P zt_tf zt_fd X d zm_123 0 [(0, .ref 42), (1, .long y1)] [] h (zz_after 2 Q (fun v h' => zz_J zp_P zt_tf zt_fd X (d + 1) zm_92 118 [(0, .ref 59), (5, .int x5), (6, .int x6), (7, .int x7), (8, .int x8)] (v.toList ++ []) h' Q))) : zz_J zp_P zt_tf zt_fd X (d + 1) zm_92 115 [(0, .ref 59), (5, .int x5), (6, .int x6), (7, .int x7), (8, .int x8)] [.long y1, .ref 42] h Q := by
  refine zz_J.cv 118 (as := []) rfl rfl (hR.clO ko_42 (by decide) (by decide)) (by decide) (Nat.le_of_ble_eq_true rfl) (Nat.le_of_ble_eq_true rfl) rfl (Nat.le_of_ble_eq_true rfl) rfl ?_
  refine zz_J.mono (k hR) ?_
  intro o h' hE
  cases o with
  | inl v => exact zz_J.weak hE rfl ⟨rfl, rfl, rfl, rfl, rfl, trivial⟩
  | inr q => exact hE
theorem cb_92_118 {X : Nat → Option zz_C} {h : zz_H} {t : cS} {s : mS} {d : Nat} {Q : zz_O → zz_H → Prop} {x5 : Int32} {x6 : Int32} {x7 : Int32} {x8 : Int32} (hR : kR h t s) (k : ∀ {h : zz_H}, kR h t s → zz_J zp_P zt_tf zt_fd X d zm_92 98 [(0, .ref 59), (5, .int x5), (6, .int x6), (7, .int x7), (8, .int (x8 + 1))] [] h Q) : zz_J zp_P zt_tf zt_fd X d zm_92 118 [(0, .ref 59), (5, .int x5), (6, .int x6), (7, .int x7), (8, .int x8)] [] h Q := by
  refine zz_J.n 121 rfl rfl rfl ?_
  refine zz_J.n 98 rfl rfl rfl ?_
  exact zz_J.weak (k hR) rfl ⟨rfl, rfl, rfl, rfl, rfl, trivial⟩
theorem cb_92_124 {X : Nat → Option zz_C} {h : zz_H} {t : cS} {s : mS} {d : Nat} {Q : zz_O → zz_H → Prop} {x7 : Int32} (hR : kR h t s) (k : ∀ {h : zz_H}, kR h t s → zz_J zp_P zt_tf zt_fd X d zm_126 0 [(0, .ref 42), (1, .int 2), (2, .int x7)] [] h (zz_after 2 Q (fun v h' => zz_J zp_P zt_tf zt_fd X (d + 1) zm_92 134 [] (v.toList ++ []) h' Q))) : zz_J zp_P zt_tf zt_fd X (d + 1) zm_92 124 [(0, .ref 59), (7, .int x7)] [] h Q := by
  refine zz_J.n 125 rfl rfl rfl ?_
  refine zz_J.g 128 rfl (hR.gv (v := .ref 42) ko_59 (by decide) rfl) rfl ?_
  refine zz_J.c 129 (.int 2) rfl rfl rfl rfl ?_
  refine zz_J.n 131 rfl rfl rfl ?_
  refine zz_J.cv 134 (as := []) rfl rfl (hR.clO ko_42 (by decide) (by decide)) (by decide) (Nat.le_of_ble_eq_true rfl) (Nat.le_of_ble_eq_true rfl) rfl (Nat.le_of_ble_eq_true rfl) rfl ?_
  refine zz_J.mono (k hR) ?_
  intro o h' hE
  cases o with
  | inl v => exact zz_J.weak hE rfl trivial
  | inr q => exact hE
theorem cb_92_134 {X : Nat → Option zz_C} {h : zz_H} {t : cS} {s : mS} {d : Nat} {Q : zz_O → zz_H → Prop} {y0 : Int64} (hR : kR h t s) (k : ∀ {h : zz_H}, kR h t s → Q (.inl (some (.long y0))) h) : zz_J zp_P zt_tf zt_fd X d zm_92 134 [] [.long y0] h Q := by
  refine zz_J.ret rfl rfl rfl ?_
  exact k hR
def cf_92_18 (N : Nat) (X : Nat → Option zz_C) (y0 : Int64) (t : cS) : kO := some (t, .inl (some (.long y0)))
theorem cr_92_18 {X : Nat → Option zz_C} {s : mS} {N : Nat} {d : Nat} (hd : 11 ≤ d) {Q : zz_O → zz_H → Prop} {y0 : Int64} {h : zz_H} {t t' : cS} {o : kY} (hR : kR h t s) (hf : cf_92_18 N X y0 t = some (t', o)) (k : (∀ h', kR h' t' s → kE o Q h')) : zz_J zp_P zt_tf zt_fd X d zm_92 18 [] [.long y0] h Q := by
  unfold cf_92_18 at hf
  cases hf
  exact cb_92_18 hR  (fun {h} hR => k h hR)
def cf_92_14 (N : Nat) (X : Nat → Option zz_C)  (t : cS) : kO := ko_call 1000 (cf_254 N X 3 t) (fun g1 v1 => co_l v1 (fun y => cf_92_18 N X y g1))
theorem cr_92_14 {X : Nat → Option zz_C} {s : mS} {N : Nat} {d : Nat} (hd : 11 ≤ d) {Q : zz_O → zz_H → Prop}  {h : zz_H} {t t' : cS} {o : kY} (hR : kR h t s) (hf : cf_92_14 N X  t = some (t', o)) (k : (∀ h', kR h' t' s → kE o Q h')) : zz_J zp_P zt_tf zt_fd X d zm_92 14 [] [] h Q := by
  unfold cf_92_14 at hf
  obtain ⟨d', rfl⟩ : ∃ d', d = d' + 1 := ⟨d - 1, by omega⟩
  refine cb_92_14 hR  (fun {h} hR => ?_)
  rcases ko_call_ok hf with ⟨g1, v1, er, hf⟩ | ⟨g1, er, hq⟩
  · obtain ⟨y, hv, hf2⟩ := co_l_ok hf
    clear hf
    have hf := hf2
    clear hf2
    subst hv
    refine cr_254 (by omega) hR er (fun h hR => ?_)
    exact cr_92_18 hd hR hf k
  · refine cr_254 (by omega) hR er (fun h hR => ?_)
    exact ko_thrown hq hR k
def cf_92_70 (N : Nat) (X : Nat → Option zz_C) (y0 : Int64) (t : cS) : kO := some (t, .inl (some (.long y0)))
theorem cr_92_70 {X : Nat → Option zz_C} {s : mS} {N : Nat} {d : Nat} (hd : 11 ≤ d) {Q : zz_O → zz_H → Prop} {y0 : Int64} {h : zz_H} {t t' : cS} {o : kY} (hR : kR h t s) (hf : cf_92_70 N X y0 t = some (t', o)) (k : (∀ h', kR h' t' s → kE o Q h')) : zz_J zp_P zt_tf zt_fd X d zm_92 70 [] [.long y0] h Q := by
  unfold cf_92_70 at hf
  cases hf
  exact cb_92_70 hR  (fun {h} hR => k h hR)
def cf_92_66 (N : Nat) (X : Nat → Option zz_C)  (t : cS) : kO := ko_call 1000 (cf_254 N X 2 t) (fun g1 v1 => co_l v1 (fun y => cf_92_70 N X y g1))
theorem cr_92_66 {X : Nat → Option zz_C} {s : mS} {N : Nat} {d : Nat} (hd : 11 ≤ d) {Q : zz_O → zz_H → Prop}  {h : zz_H} {t t' : cS} {o : kY} (hR : kR h t s) (hf : cf_92_66 N X  t = some (t', o)) (k : (∀ h', kR h' t' s → kE o Q h')) : zz_J zp_P zt_tf zt_fd X d zm_92 66 [] [] h Q := by
  unfold cf_92_66 at hf
  obtain ⟨d', rfl⟩ : ∃ d', d = d' + 1 := ⟨d - 1, by omega⟩
  refine cb_92_66 hR  (fun {h} hR => ?_)
  rcases ko_call_ok hf with ⟨g1, v1, er, hf⟩ | ⟨g1, er, hq⟩
  · obtain ⟨y, hv, hf2⟩ := co_l_ok hf
    clear hf
    have hf := hf2
    clear hf2
    subst hv
    refine cr_254 (by omega) hR er (fun h hR => ?_)
    exact cr_92_70 hd hR hf k
  · refine cr_254 (by omega) hR er (fun h hR => ?_)
    exact ko_thrown hq hR k
def cf_92_85 (N : Nat) (X : Nat → Option zz_C) (y0 : Int64) (t : cS) : kO := some (t, .inl (some (.long y0)))
theorem cr_92_85 {X : Nat → Option zz_C} {s : mS} {N : Nat} {d : Nat} (hd : 11 ≤ d) {Q : zz_O → zz_H → Prop} {y0 : Int64} {h : zz_H} {t t' : cS} {o : kY} (hR : kR h t s) (hf : cf_92_85 N X y0 t = some (t', o)) (k : (∀ h', kR h' t' s → kE o Q h')) : zz_J zp_P zt_tf zt_fd X d zm_92 85 [] [.long y0] h Q := by
  unfold cf_92_85 at hf
  cases hf
  exact cb_92_85 hR  (fun {h} hR => k h hR)
def cf_92_81 (N : Nat) (X : Nat → Option zz_C)  (t : cS) : kO := ko_call 1000 (cf_254 N X 1 t) (fun g1 v1 => co_l v1 (fun y => cf_92_85 N X y g1))
theorem cr_92_81 {X : Nat → Option zz_C} {s : mS} {N : Nat} {d : Nat} (hd : 11 ≤ d) {Q : zz_O → zz_H → Prop}  {h : zz_H} {t t' : cS} {o : kY} (hR : kR h t s) (hf : cf_92_81 N X  t = some (t', o)) (k : (∀ h', kR h' t' s → kE o Q h')) : zz_J zp_P zt_tf zt_fd X d zm_92 81 [] [] h Q := by
  unfold cf_92_81 at hf
  obtain ⟨d', rfl⟩ : ∃ d', d = d' + 1 := ⟨d - 1, by omega⟩
  refine cb_92_81 hR  (fun {h} hR => ?_)
  rcases ko_call_ok hf with ⟨g1, v1, er, hf⟩ | ⟨g1, er, hq⟩
  · obtain ⟨y, hv, hf2⟩ := co_l_ok hf
    clear hf
    have hf := hf2
    clear hf2
    subst hv
    refine cr_254 (by omega) hR er (fun h hR => ?_)
    exact cr_92_85 hd hR hf k
  · refine cr_254 (by omega) hR er (fun h hR => ?_)
    exact ko_thrown hq hR k
def cf_92_134 (N : Nat) (X : Nat → Option zz_C) (y0 : Int64) (t : cS) : kO := some (t, .inl (some (.long y0)))
theorem cr_92_134 {X : Nat → Option zz_C} {s : mS} {N : Nat} {d : Nat} (hd : 11 ≤ d) {Q : zz_O → zz_H → Prop} {y0 : Int64} {h : zz_H} {t t' : cS} {o : kY} (hR : kR h t s) (hf : cf_92_134 N X y0 t = some (t', o)) (k : (∀ h', kR h' t' s → kE o Q h')) : zz_J zp_P zt_tf zt_fd X d zm_92 134 [] [.long y0] h Q := by
  unfold cf_92_134 at hf
  cases hf
  exact cb_92_134 hR  (fun {h} hR => k h hR)
def cf_92_124 (N : Nat) (X : Nat → Option zz_C) (x7 : Int32) (t : cS) : kO := ko_call 2 (cf_126 N X 2 x7 t) (fun g1 v1 => co_l v1 (fun y => cf_92_134 N X y g1))
theorem cr_92_124 {X : Nat → Option zz_C} {s : mS} {N : Nat} {d : Nat} (hd : 11 ≤ d) {Q : zz_O → zz_H → Prop} {x7 : Int32} {h : zz_H} {t t' : cS} {o : kY} (hR : kR h t s) (hf : cf_92_124 N X x7 t = some (t', o)) (k : (∀ h', kR h' t' s → kE o Q h')) : zz_J zp_P zt_tf zt_fd X d zm_92 124 [(0, .ref 59), (7, .int x7)] [] h Q := by
  unfold cf_92_124 at hf
  obtain ⟨d', rfl⟩ : ∃ d', d = d' + 1 := ⟨d - 1, by omega⟩
  refine cb_92_124 hR  (fun {h} hR => ?_)
  rcases ko_call_ok hf with ⟨g1, v1, er, hf⟩ | ⟨g1, er, hq⟩
  · obtain ⟨y, hv, hf2⟩ := co_l_ok hf
    clear hf
    have hf := hf2
    clear hf2
    subst hv
    refine cr_126 (by omega) hR er (fun h hR => ?_)
    exact cr_92_134 hd hR hf k
  · refine cr_126 (by omega) hR er (fun h hR => ?_)
    exact ko_thrown hq hR k
def cf_92_118 (N : Nat) (X : Nat → Option zz_C) (rc : Nat → Int32 → Int32 → Int32 → Int32 → cS → kO) (x5 : Int32) (x6 : Int32) (x7 : Int32) (x8 : Int32) (t : cS) : kO := rc 0 x5 x6 x7 (x8 + 1) t
theorem cr_92_118 {X : Nat → Option zz_C} {s : mS} {N : Nat} {d : Nat} (hd : 11 ≤ d) {rc : Nat → Int32 → Int32 → Int32 → Int32 → cS → kO} (hrc0 : ∀ {Q : zz_O → zz_H → Prop} {x5 : Int32} {x6 : Int32} {x7 : Int32} {x8 : Int32} {h : zz_H} {t t' : cS} {o : kY}, kR h t s → rc 0 x5 x6 x7 x8 t = some (t', o) → (∀ h', kR h' t' s → kE o Q h') → zz_J zp_P zt_tf zt_fd X d zm_92 98 [(0, .ref 59), (5, .int x5), (6, .int x6), (7, .int x7), (8, .int x8)] [] h Q) {Q : zz_O → zz_H → Prop} {x5 : Int32} {x6 : Int32} {x7 : Int32} {x8 : Int32} {h : zz_H} {t t' : cS} {o : kY} (hR : kR h t s) (hf : cf_92_118 N X rc x5 x6 x7 x8 t = some (t', o)) (k : (∀ h', kR h' t' s → kE o Q h')) : zz_J zp_P zt_tf zt_fd X d zm_92 118 [(0, .ref 59), (5, .int x5), (6, .int x6), (7, .int x7), (8, .int x8)] [] h Q := by
  unfold cf_92_118 at hf
  exact cb_92_118 hR  (fun hR => hrc0 hR hf k)
def cf_92_115 (N : Nat) (X : Nat → Option zz_C) (rc : Nat → Int32 → Int32 → Int32 → Int32 → cS → kO) (x5 : Int32) (x6 : Int32) (x7 : Int32) (x8 : Int32) (y1 : Int64) (t : cS) : kO := ko_call 2 (cf_123 N X y1 t) (fun g1 v1 => co_v v1 (cf_92_118 N X rc x5 x6 x7 x8 g1))
theorem cr_92_115 {X : Nat → Option zz_C} {s : mS} {N : Nat} {d : Nat} (hd : 11 ≤ d) {rc : Nat → Int32 → Int32 → Int32 → Int32 → cS → kO} (hrc0 : ∀ {Q : zz_O → zz_H → Prop} {x5 : Int32} {x6 : Int32} {x7 : Int32} {x8 : Int32} {h : zz_H} {t t' : cS} {o : kY}, kR h t s → rc 0 x5 x6 x7 x8 t = some (t', o) → (∀ h', kR h' t' s → kE o Q h') → zz_J zp_P zt_tf zt_fd X d zm_92 98 [(0, .ref 59), (5, .int x5), (6, .int x6), (7, .int x7), (8, .int x8)] [] h Q) {Q : zz_O → zz_H → Prop} {x5 : Int32} {x6 : Int32} {x7 : Int32} {x8 : Int32} {y1 : Int64} {h : zz_H} {t t' : cS} {o : kY} (hR : kR h t s) (hf : cf_92_115 N X rc x5 x6 x7 x8 y1 t = some (t', o)) (k : (∀ h', kR h' t' s → kE o Q h')) : zz_J zp_P zt_tf zt_fd X d zm_92 115 [(0, .ref 59), (5, .int x5), (6, .int x6), (7, .int x7), (8, .int x8)] [.long y1, .ref 42] h Q := by
  unfold cf_92_115 at hf
  obtain ⟨d', rfl⟩ : ∃ d', d = d' + 1 := ⟨d - 1, by omega⟩
  refine cb_92_115 hR  (fun {h} hR => ?_)
  rcases ko_call_ok hf with ⟨g1, v1, er, hf⟩ | ⟨g1, er, hq⟩
  · obtain ⟨hv, hf2⟩ := co_v_ok hf
    clear hf
    have hf := hf2
    clear hf2
    subst hv
    refine cr_123 (by omega) hR er (fun h hR => ?_)
    exact cr_92_118 hd hrc0 hR hf k
  · refine cr_123 (by omega) hR er (fun h hR => ?_)
    exact ko_thrown hq hR k
def cf_92_105 (N : Nat) (X : Nat → Option zz_C) (rc : Nat → Int32 → Int32 → Int32 → Int32 → cS → kO) (x5 : Int32) (x6 : Int32) (x7 : Int32) (x8 : Int32) (t : cS) : kO := ko_call 1 (cf_91 N X x6 t) (fun g1 v1 => co_l v1 (fun y => cf_92_115 N X rc x5 x6 x7 x8 y g1))
theorem cr_92_105 {X : Nat → Option zz_C} {s : mS} {N : Nat} {d : Nat} (hd : 11 ≤ d) {rc : Nat → Int32 → Int32 → Int32 → Int32 → cS → kO} (hrc0 : ∀ {Q : zz_O → zz_H → Prop} {x5 : Int32} {x6 : Int32} {x7 : Int32} {x8 : Int32} {h : zz_H} {t t' : cS} {o : kY}, kR h t s → rc 0 x5 x6 x7 x8 t = some (t', o) → (∀ h', kR h' t' s → kE o Q h') → zz_J zp_P zt_tf zt_fd X d zm_92 98 [(0, .ref 59), (5, .int x5), (6, .int x6), (7, .int x7), (8, .int x8)] [] h Q) {Q : zz_O → zz_H → Prop} {x5 : Int32} {x6 : Int32} {x7 : Int32} {x8 : Int32} {h : zz_H} {t t' : cS} {o : kY} (hR : kR h t s) (hf : cf_92_105 N X rc x5 x6 x7 x8 t = some (t', o)) (k : (∀ h', kR h' t' s → kE o Q h')) : zz_J zp_P zt_tf zt_fd X d zm_92 105 [(0, .ref 59), (5, .int x5), (6, .int x6), (7, .int x7), (8, .int x8)] [] h Q := by
  unfold cf_92_105 at hf
  obtain ⟨d', rfl⟩ : ∃ d', d = d' + 1 := ⟨d - 1, by omega⟩
  refine cb_92_105 hR  (fun {h} hR => ?_)
  rcases ko_call_ok hf with ⟨g1, v1, er, hf⟩ | ⟨g1, er, hq⟩
  · obtain ⟨y, hv, hf2⟩ := co_l_ok hf
    clear hf
    have hf := hf2
    clear hf2
    subst hv
    refine cr_91 (by omega) hR er (fun h hR => ?_)
    exact cr_92_115 hd hrc0 hR hf k
  · refine cr_91 (by omega) hR er (fun h hR => ?_)
    exact ko_thrown hq hR k
def cf_92_98 (N : Nat) (X : Nat → Option zz_C) (rc : Nat → Int32 → Int32 → Int32 → Int32 → cS → kO) (x5 : Int32) (x6 : Int32) (x7 : Int32) (x8 : Int32) (t : cS) : kO := if x5 ≤ x8 then cf_92_124 N X x7 t else cf_92_105 N X rc x5 x6 x7 x8 t
theorem cr_92_98 {X : Nat → Option zz_C} {s : mS} {N : Nat} {d : Nat} (hd : 11 ≤ d) {rc : Nat → Int32 → Int32 → Int32 → Int32 → cS → kO} (hrc0 : ∀ {Q : zz_O → zz_H → Prop} {x5 : Int32} {x6 : Int32} {x7 : Int32} {x8 : Int32} {h : zz_H} {t t' : cS} {o : kY}, kR h t s → rc 0 x5 x6 x7 x8 t = some (t', o) → (∀ h', kR h' t' s → kE o Q h') → zz_J zp_P zt_tf zt_fd X d zm_92 98 [(0, .ref 59), (5, .int x5), (6, .int x6), (7, .int x7), (8, .int x8)] [] h Q) {Q : zz_O → zz_H → Prop} {x5 : Int32} {x6 : Int32} {x7 : Int32} {x8 : Int32} {h : zz_H} {t t' : cS} {o : kY} (hR : kR h t s) (hf : cf_92_98 N X rc x5 x6 x7 x8 t = some (t', o)) (k : (∀ h', kR h' t' s → kE o Q h')) : zz_J zp_P zt_tf zt_fd X d zm_92 98 [(0, .ref 59), (5, .int x5), (6, .int x6), (7, .int x7), (8, .int x8)] [] h Q := by
  unfold cf_92_98 at hf
  refine cb_92_98 hR  (fun c {h} hR => ?_) (fun c {h} hR => ?_)
  · rw [if_pos c] at hf
    exact cr_92_124 hd hR hf k
  · rw [if_neg c] at hf
    exact cr_92_105 hd hrc0 hR hf k
def cf_92_L8 (N : Nat) (X : Nat → Option zz_C) : Nat → Nat → Int32 → Int32 → Int32 → Int32 → cS → kO
  | 0, _, _, _, _, _, _ => none
  | n + 1, l, x5, x6, x7, x8, t => if l = 0 then cf_92_98 N X (cf_92_L8 N X n) x5 x6 x7 x8 t else none
theorem cr_92_L8 {X : Nat → Option zz_C} {s : mS} {N : Nat} {d : Nat} (hd : 11 ≤ d) : ∀ n : Nat, (∀ {Q : zz_O → zz_H → Prop} {x5 : Int32} {x6 : Int32} {x7 : Int32} {x8 : Int32} {h : zz_H} {t t' : cS} {o : kY}, kR h t s → cf_92_L8 N X n 0 x5 x6 x7 x8 t = some (t', o) → (∀ h', kR h' t' s → kE o Q h') → zz_J zp_P zt_tf zt_fd X d zm_92 98 [(0, .ref 59), (5, .int x5), (6, .int x6), (7, .int x7), (8, .int x8)] [] h Q) := by
  intro n
  induction n with
  | zero => exact (fun _ hf _ => by cases hf)
  | succ n ih =>
    have h0 := @ih
    intro Q _ _ _ _ h t t' o hR hf k
    unfold cf_92_L8 at hf
    rw [if_pos rfl] at hf
    exact cr_92_98 hd h0 hR hf k
def cf_92_93 (N : Nat) (X : Nat → Option zz_C) (x5 : Int32) (x6 : Int32) (y0 : Int32) (t : cS) : kO := cf_92_L8 N X N 0 x5 x6 y0 0 t
theorem cr_92_93 {X : Nat → Option zz_C} {s : mS} {N : Nat} {d : Nat} (hd : 11 ≤ d) {Q : zz_O → zz_H → Prop} {x5 : Int32} {x6 : Int32} {y0 : Int32} {h : zz_H} {t t' : cS} {o : kY} (hR : kR h t s) (hf : cf_92_93 N X x5 x6 y0 t = some (t', o)) (k : (∀ h', kR h' t' s → kE o Q h')) : zz_J zp_P zt_tf zt_fd X d zm_92 93 [(0, .ref 59), (5, .int x5), (6, .int x6)] [.int y0] h Q := by
  unfold cf_92_93 at hf
  exact cb_92_93 hR  (fun hR => cr_92_L8 hd N hR hf k)
def cf_92_86 (N : Nat) (X : Nat → Option zz_C) (x5 : Int32) (x6 : Int32) (t : cS) : kO := ko_call 2 (cf_122 N X  t) (fun g1 v1 => co_i v1 (fun y => cf_92_93 N X x5 x6 y g1))
theorem cr_92_86 {X : Nat → Option zz_C} {s : mS} {N : Nat} {d : Nat} (hd : 11 ≤ d) {Q : zz_O → zz_H → Prop} {x5 : Int32} {x6 : Int32} {h : zz_H} {t t' : cS} {o : kY} (hR : kR h t s) (hf : cf_92_86 N X x5 x6 t = some (t', o)) (k : (∀ h', kR h' t' s → kE o Q h')) : zz_J zp_P zt_tf zt_fd X d zm_92 86 [(0, .ref 59), (5, .int x5), (6, .int x6)] [] h Q := by
  unfold cf_92_86 at hf
  obtain ⟨d', rfl⟩ : ∃ d', d = d' + 1 := ⟨d - 1, by omega⟩
  refine cb_92_86 hR  (fun {h} hR => ?_)
  rcases ko_call_ok hf with ⟨g1, v1, er, hf⟩ | ⟨g1, er, hq⟩
  · obtain ⟨y, hv, hf2⟩ := co_i_ok hf
    clear hf
    have hf := hf2
    clear hf2
    subst hv
    refine cr_122 (by omega) hR er (fun h hR => ?_)
    exact cr_92_93 hd hR hf k
  · refine cr_122 (by omega) hR er (fun h hR => ?_)
    exact ko_thrown hq hR k
def cf_92_76 (N : Nat) (X : Nat → Option zz_C) (x5 : Int32) (x6 : Int32) (t : cS) : kO := if 0 ≤ x6 then cf_92_86 N X x5 x6 t else cf_92_81 N X  t
theorem cr_92_76 {X : Nat → Option zz_C} {s : mS} {N : Nat} {d : Nat} (hd : 11 ≤ d) {Q : zz_O → zz_H → Prop} {x5 : Int32} {x6 : Int32} {h : zz_H} {t t' : cS} {o : kY} (hR : kR h t s) (hf : cf_92_76 N X x5 x6 t = some (t', o)) (k : (∀ h', kR h' t' s → kE o Q h')) : zz_J zp_P zt_tf zt_fd X d zm_92 76 [(0, .ref 59), (5, .int x5), (6, .int x6)] [] h Q := by
  unfold cf_92_76 at hf
  refine cb_92_76 hR  (fun c {h} hR => ?_) (fun c {h} hR => ?_)
  · rw [if_pos c] at hf
    exact cr_92_86 hd hR hf k
  · rw [if_neg c] at hf
    exact cr_92_81 hd hR hf k
def cf_92_71 (N : Nat) (X : Nat → Option zz_C) (x5 : Int32) (x6 : Int32) (t : cS) : kO := if x5 < 0 then cf_92_81 N X  t else cf_92_76 N X x5 x6 t
theorem cr_92_71 {X : Nat → Option zz_C} {s : mS} {N : Nat} {d : Nat} (hd : 11 ≤ d) {Q : zz_O → zz_H → Prop} {x5 : Int32} {x6 : Int32} {h : zz_H} {t t' : cS} {o : kY} (hR : kR h t s) (hf : cf_92_71 N X x5 x6 t = some (t', o)) (k : (∀ h', kR h' t' s → kE o Q h')) : zz_J zp_P zt_tf zt_fd X d zm_92 71 [(0, .ref 59), (5, .int x5), (6, .int x6)] [] h Q := by
  unfold cf_92_71 at hf
  refine cb_92_71 hR  (fun c {h} hR => ?_) (fun c {h} hR => ?_)
  · rw [if_pos c] at hf
    exact cr_92_81 hd hR hf k
  · rw [if_neg c] at hf
    exact cr_92_76 hd hR hf k
def cf_92_55 (N : Nat) (X : Nat → Option zz_C) (x5 : Int32) (x6 : Int32) (t : cS) : kO := if (x5 * x6) ≤ 200 then cf_92_71 N X x5 x6 t else cf_92_66 N X  t
theorem cr_92_55 {X : Nat → Option zz_C} {s : mS} {N : Nat} {d : Nat} (hd : 11 ≤ d) {Q : zz_O → zz_H → Prop} {x5 : Int32} {x6 : Int32} {h : zz_H} {t t' : cS} {o : kY} (hR : kR h t s) (hf : cf_92_55 N X x5 x6 t = some (t', o)) (k : (∀ h', kR h' t' s → kE o Q h')) : zz_J zp_P zt_tf zt_fd X d zm_92 55 [(0, .ref 59), (5, .int x5), (6, .int x6)] [] h Q := by
  unfold cf_92_55 at hf
  refine cb_92_55 hR  (fun c {h} hR => ?_) (fun c {h} hR => ?_)
  · rw [if_pos c] at hf
    exact cr_92_71 hd hR hf k
  · rw [if_neg c] at hf
    exact cr_92_66 hd hR hf k
def cf_92_50 (N : Nat) (X : Nat → Option zz_C) (x5 : Int32) (x6 : Int32) (t : cS) : kO := if x6 ≤ 0 then cf_92_71 N X x5 x6 t else cf_92_55 N X x5 x6 t
theorem cr_92_50 {X : Nat → Option zz_C} {s : mS} {N : Nat} {d : Nat} (hd : 11 ≤ d) {Q : zz_O → zz_H → Prop} {x5 : Int32} {x6 : Int32} {h : zz_H} {t t' : cS} {o : kY} (hR : kR h t s) (hf : cf_92_50 N X x5 x6 t = some (t', o)) (k : (∀ h', kR h' t' s → kE o Q h')) : zz_J zp_P zt_tf zt_fd X d zm_92 50 [(0, .ref 59), (5, .int x5), (6, .int x6)] [] h Q := by
  unfold cf_92_50 at hf
  refine cb_92_50 hR  (fun c {h} hR => ?_) (fun c {h} hR => ?_)
  · rw [if_pos c] at hf
    exact cr_92_71 hd hR hf k
  · rw [if_neg c] at hf
    exact cr_92_55 hd hR hf k
def cf_92_45 (N : Nat) (X : Nat → Option zz_C) (x5 : Int32) (x6 : Int32) (t : cS) : kO := if x5 ≤ 0 then cf_92_71 N X x5 x6 t else cf_92_50 N X x5 x6 t
theorem cr_92_45 {X : Nat → Option zz_C} {s : mS} {N : Nat} {d : Nat} (hd : 11 ≤ d) {Q : zz_O → zz_H → Prop} {x5 : Int32} {x6 : Int32} {h : zz_H} {t t' : cS} {o : kY} (hR : kR h t s) (hf : cf_92_45 N X x5 x6 t = some (t', o)) (k : (∀ h', kR h' t' s → kE o Q h')) : zz_J zp_P zt_tf zt_fd X d zm_92 45 [(0, .ref 59), (5, .int x5), (6, .int x6)] [] h Q := by
  unfold cf_92_45 at hf
  refine cb_92_45 hR  (fun c {h} hR => ?_) (fun c {h} hR => ?_)
  · rw [if_pos c] at hf
    exact cr_92_71 hd hR hf k
  · rw [if_neg c] at hf
    exact cr_92_50 hd hR hf k
def cf_92_38 (N : Nat) (X : Nat → Option zz_C) (x5 : Int32) (x6 : Int32) (t : cS) : kO := if 64 < x6 then cf_92_66 N X  t else cf_92_45 N X x5 x6 t
theorem cr_92_38 {X : Nat → Option zz_C} {s : mS} {N : Nat} {d : Nat} (hd : 11 ≤ d) {Q : zz_O → zz_H → Prop} {x5 : Int32} {x6 : Int32} {h : zz_H} {t t' : cS} {o : kY} (hR : kR h t s) (hf : cf_92_38 N X x5 x6 t = some (t', o)) (k : (∀ h', kR h' t' s → kE o Q h')) : zz_J zp_P zt_tf zt_fd X d zm_92 38 [(0, .ref 59), (5, .int x5), (6, .int x6)] [] h Q := by
  unfold cf_92_38 at hf
  refine cb_92_38 hR  (fun c {h} hR => ?_) (fun c {h} hR => ?_)
  · rw [if_pos c] at hf
    exact cr_92_66 hd hR hf k
  · rw [if_neg c] at hf
    exact cr_92_45 hd hR hf k
def cf_92_29 (N : Nat) (X : Nat → Option zz_C) (x5 : Int32) (y0 : Int32) (t : cS) : kO := if 20 < x5 then cf_92_66 N X  t else cf_92_38 N X x5 y0 t
theorem cr_92_29 {X : Nat → Option zz_C} {s : mS} {N : Nat} {d : Nat} (hd : 11 ≤ d) {Q : zz_O → zz_H → Prop} {x5 : Int32} {y0 : Int32} {h : zz_H} {t t' : cS} {o : kY} (hR : kR h t s) (hf : cf_92_29 N X x5 y0 t = some (t', o)) (k : (∀ h', kR h' t' s → kE o Q h')) : zz_J zp_P zt_tf zt_fd X d zm_92 29 [(0, .ref 59), (5, .int x5)] [.int y0] h Q := by
  unfold cf_92_29 at hf
  refine cb_92_29 hR  (fun c {h} hR => ?_) (fun c {h} hR => ?_)
  · rw [if_pos c] at hf
    exact cr_92_66 hd hR hf k
  · rw [if_neg c] at hf
    exact cr_92_38 hd hR hf k
def cf_92_23 (N : Nat) (X : Nat → Option zz_C) (x3 : Int64) (y0 : Int32) (t : cS) : kO := ko_call 1000 (cf_256 N X x3 t) (fun g1 v1 => co_i v1 (fun y => cf_92_29 N X y0 y g1))
theorem cr_92_23 {X : Nat → Option zz_C} {s : mS} {N : Nat} {d : Nat} (hd : 11 ≤ d) {Q : zz_O → zz_H → Prop} {x3 : Int64} {y0 : Int32} {h : zz_H} {t t' : cS} {o : kY} (hR : kR h t s) (hf : cf_92_23 N X x3 y0 t = some (t', o)) (k : (∀ h', kR h' t' s → kE o Q h')) : zz_J zp_P zt_tf zt_fd X d zm_92 23 [(0, .ref 59), (3, .long x3)] [.int y0] h Q := by
  unfold cf_92_23 at hf
  obtain ⟨d', rfl⟩ : ∃ d', d = d' + 1 := ⟨d - 1, by omega⟩
  refine cb_92_23 hR  (fun {h} hR => ?_)
  rcases ko_call_ok hf with ⟨g1, v1, er, hf⟩ | ⟨g1, er, hq⟩
  · obtain ⟨y, hv, hf2⟩ := co_i_ok hf
    clear hf
    have hf := hf2
    clear hf2
    subst hv
    refine cr_256 (by omega) hR er (fun h hR => ?_)
    exact cr_92_29 hd hR hf k
  · refine cr_256 (by omega) hR er (fun h hR => ?_)
    exact ko_thrown hq hR k
def cf_92_19 (N : Nat) (X : Nat → Option zz_C) (x1 : Int64) (x3 : Int64) (t : cS) : kO := ko_call 1000 (cf_256 N X x1 t) (fun g1 v1 => co_i v1 (fun y => cf_92_23 N X x3 y g1))
theorem cr_92_19 {X : Nat → Option zz_C} {s : mS} {N : Nat} {d : Nat} (hd : 11 ≤ d) {Q : zz_O → zz_H → Prop} {x1 : Int64} {x3 : Int64} {h : zz_H} {t t' : cS} {o : kY} (hR : kR h t s) (hf : cf_92_19 N X x1 x3 t = some (t', o)) (k : (∀ h', kR h' t' s → kE o Q h')) : zz_J zp_P zt_tf zt_fd X d zm_92 19 [(0, .ref 59), (1, .long x1), (3, .long x3)] [] h Q := by
  unfold cf_92_19 at hf
  obtain ⟨d', rfl⟩ : ∃ d', d = d' + 1 := ⟨d - 1, by omega⟩
  refine cb_92_19 hR  (fun {h} hR => ?_)
  rcases ko_call_ok hf with ⟨g1, v1, er, hf⟩ | ⟨g1, er, hq⟩
  · obtain ⟨y, hv, hf2⟩ := co_i_ok hf
    clear hf
    have hf := hf2
    clear hf2
    subst hv
    refine cr_256 (by omega) hR er (fun h hR => ?_)
    exact cr_92_23 hd hR hf k
  · refine cr_256 (by omega) hR er (fun h hR => ?_)
    exact ko_thrown hq hR k
def cf_92_11 (N : Nat) (X : Nat → Option zz_C) (x1 : Int64) (x3 : Int64) (y0 : Int32) (t : cS) : kO := if y0 = 0 then cf_92_19 N X x1 x3 t else cf_92_14 N X  t
theorem cr_92_11 {X : Nat → Option zz_C} {s : mS} {N : Nat} {d : Nat} (hd : 11 ≤ d) {Q : zz_O → zz_H → Prop} {x1 : Int64} {x3 : Int64} {y0 : Int32} {h : zz_H} {t t' : cS} {o : kY} (hR : kR h t s) (hf : cf_92_11 N X x1 x3 y0 t = some (t', o)) (k : (∀ h', kR h' t' s → kE o Q h')) : zz_J zp_P zt_tf zt_fd X d zm_92 11 [(0, .ref 59), (1, .long x1), (3, .long x3)] [.int y0] h Q := by
  unfold cf_92_11 at hf
  refine cb_92_11 hR  (fun c {h} hR => ?_) (fun c {h} hR => ?_)
  · rw [if_pos c] at hf
    exact cr_92_19 hd hR hf k
  · rw [if_neg c] at hf
    exact cr_92_14 hd hR hf k
def cf_92_7 (N : Nat) (X : Nat → Option zz_C) (x1 : Int64) (x3 : Int64) (t : cS) : kO := ko_call 1000 (cf_255 N X x3 t) (fun g1 v1 => co_i v1 (fun y => cf_92_11 N X x1 x3 y g1))
theorem cr_92_7 {X : Nat → Option zz_C} {s : mS} {N : Nat} {d : Nat} (hd : 11 ≤ d) {Q : zz_O → zz_H → Prop} {x1 : Int64} {x3 : Int64} {h : zz_H} {t t' : cS} {o : kY} (hR : kR h t s) (hf : cf_92_7 N X x1 x3 t = some (t', o)) (k : (∀ h', kR h' t' s → kE o Q h')) : zz_J zp_P zt_tf zt_fd X d zm_92 7 [(0, .ref 59), (1, .long x1), (3, .long x3)] [] h Q := by
  unfold cf_92_7 at hf
  obtain ⟨d', rfl⟩ : ∃ d', d = d' + 1 := ⟨d - 1, by omega⟩
  refine cb_92_7 hR  (fun {h} hR => ?_)
  rcases ko_call_ok hf with ⟨g1, v1, er, hf⟩ | ⟨g1, er, hq⟩
  · obtain ⟨y, hv, hf2⟩ := co_i_ok hf
    clear hf
    have hf := hf2
    clear hf2
    subst hv
    refine cr_255 (by omega) hR er (fun h hR => ?_)
    exact cr_92_11 hd hR hf k
  · refine cr_255 (by omega) hR er (fun h hR => ?_)
    exact ko_thrown hq hR k
def cf_92_4 (N : Nat) (X : Nat → Option zz_C) (x1 : Int64) (x3 : Int64) (y0 : Int32) (t : cS) : kO := if ¬ y0 = 0 then cf_92_14 N X  t else cf_92_7 N X x1 x3 t
theorem cr_92_4 {X : Nat → Option zz_C} {s : mS} {N : Nat} {d : Nat} (hd : 11 ≤ d) {Q : zz_O → zz_H → Prop} {x1 : Int64} {x3 : Int64} {y0 : Int32} {h : zz_H} {t t' : cS} {o : kY} (hR : kR h t s) (hf : cf_92_4 N X x1 x3 y0 t = some (t', o)) (k : (∀ h', kR h' t' s → kE o Q h')) : zz_J zp_P zt_tf zt_fd X d zm_92 4 [(0, .ref 59), (1, .long x1), (3, .long x3)] [.int y0] h Q := by
  unfold cf_92_4 at hf
  refine cb_92_4 hR  (fun c {h} hR => ?_) (fun c {h} hR => ?_)
  · rw [if_pos c] at hf
    exact cr_92_14 hd hR hf k
  · rw [if_neg c] at hf
    exact cr_92_7 hd hR hf k
def cf_92_0 (N : Nat) (X : Nat → Option zz_C) (x1 : Int64) (x3 : Int64) (t : cS) : kO := ko_call 1000 (cf_255 N X x1 t) (fun g1 v1 => co_i v1 (fun y => cf_92_4 N X x1 x3 y g1))
theorem cr_92_0 {X : Nat → Option zz_C} {s : mS} {N : Nat} {d : Nat} (hd : 11 ≤ d) {Q : zz_O → zz_H → Prop} {x1 : Int64} {x3 : Int64} {h : zz_H} {t t' : cS} {o : kY} (hR : kR h t s) (hf : cf_92_0 N X x1 x3 t = some (t', o)) (k : (∀ h', kR h' t' s → kE o Q h')) : zz_J zp_P zt_tf zt_fd X d zm_92 0 [(0, .ref 59), (1, .long x1), (3, .long x3)] [] h Q := by
  unfold cf_92_0 at hf
  obtain ⟨d', rfl⟩ : ∃ d', d = d' + 1 := ⟨d - 1, by omega⟩
  refine cb_92_0 hR  (fun {h} hR => ?_)
  rcases ko_call_ok hf with ⟨g1, v1, er, hf⟩ | ⟨g1, er, hq⟩
  · obtain ⟨y, hv, hf2⟩ := co_i_ok hf
    clear hf
    have hf := hf2
    clear hf2
    subst hv
    refine cr_255 (by omega) hR er (fun h hR => ?_)
    exact cr_92_4 hd hR hf k
  · refine cr_255 (by omega) hR er (fun h hR => ?_)
    exact ko_thrown hq hR k
/-- grid -/
def cf_92 (N : Nat) (X : Nat → Option zz_C) (x1 : Int64) (x3 : Int64) (t : cS) : kO := cf_92_0 N X x1 x3 t
theorem cr_92 {X : Nat → Option zz_C} {s : mS} {N : Nat} {d : Nat} (hd : 11 ≤ d) {Q : zz_O → zz_H → Prop} {x1 : Int64} {x3 : Int64} {h : zz_H} {t t' : cS} {o : kY} (hR : kR h t s) (hf : cf_92 N X x1 x3 t = some (t', o)) (k : ∀ h', kR h' t' s → kE o Q h') : zz_J zp_P zt_tf zt_fd X d zm_92 0 [(0, .ref 59), (1, .long x1), (3, .long x3)] [] h Q := by
  unfold cf_92 at hf
  exact zz_J.weak (cr_92_0 hd hR hf k) rfl ⟨rfl, rfl, rfl, trivial⟩
