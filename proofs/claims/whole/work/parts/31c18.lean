/-! yX8_index (JJ)J -/
theorem cb_223_0 {X : Nat → Option zz_C} {h : zz_H} {t : cS} {s : mS} {d : Nat} {Q : zz_O → zz_H → Prop} {x1 : Int64} {x3 : Int64} (hR : kR h t s) (k : ∀ {h : zz_H}, kR h t s → zz_J zp_P zt_tf zt_fd X d zm_128 0 [(0, .ref 42), (1, .long x1)] [] h (zz_after 2 Q (fun v h' => zz_J zp_P zt_tf zt_fd X (d + 1) zm_223 8 [(0, .ref 58), (1, .long x1), (3, .long x3)] (v.toList ++ []) h' Q))) : zz_J zp_P zt_tf zt_fd X (d + 1) zm_223 0 [(0, .ref 58), (1, .long x1), (3, .long x3)] [] h Q := by
  refine zz_J.n 1 rfl rfl rfl ?_
  refine zz_J.g 4 rfl (hR.gv (v := .ref 42) ko_58 (by decide) rfl) rfl ?_
  refine zz_J.n 5 rfl rfl rfl ?_
  refine zz_J.cv 8 (as := []) rfl rfl (hR.clO ko_42 (by decide) (by decide)) (by decide) (Nat.le_of_ble_eq_true rfl) (Nat.le_of_ble_eq_true rfl) rfl (Nat.le_of_ble_eq_true rfl) rfl ?_
  refine zz_J.mono (k hR) ?_
  intro o h' hE
  cases o with
  | inl v => exact zz_J.weak hE rfl ⟨rfl, rfl, rfl, trivial⟩
  | inr q => exact hE
theorem cb_223_8 {X : Nat → Option zz_C} {h : zz_H} {t : cS} {s : mS} {d : Nat} {Q : zz_O → zz_H → Prop} {x1 : Int64} {x3 : Int64} {y0 : Int32} (hR : kR h t s) (k : ∀ {h : zz_H}, kR h t s → zz_J zp_P zt_tf zt_fd X d zm_255 0 [(0, .long x1)] [] h (zz_after 1000 Q (fun v h' => zz_J zp_P zt_tf zt_fd X (d + 1) zm_223 14 [(0, .ref 58), (1, .long x1), (3, .long x3), (5, .int y0)] (v.toList ++ []) h' Q))) : zz_J zp_P zt_tf zt_fd X (d + 1) zm_223 8 [(0, .ref 58), (1, .long x1), (3, .long x3)] [.int y0] h Q := by
  refine zz_J.n 10 rfl rfl rfl ?_
  refine zz_J.n 11 rfl rfl rfl ?_
  refine zz_J.cl (M' := zm_255) 14 rfl rfl (by decide) rfl rfl ⟨rfl, Nat.le_of_ble_eq_true rfl⟩ rfl ?_
  refine zz_J.mono (k hR) ?_
  intro o h' hE
  cases o with
  | inl v => exact zz_J.weak hE rfl ⟨rfl, rfl, rfl, rfl, trivial⟩
  | inr q => exact hE
theorem cb_223_14 {X : Nat → Option zz_C} {h : zz_H} {t : cS} {s : mS} {d : Nat} {Q : zz_O → zz_H → Prop} {x1 : Int64} {x3 : Int64} {x5 : Int32} {y0 : Int32} (hR : kR h t s) (k1 : y0 = 0 → (∀ {h : zz_H}, kR h t s → zz_J zp_P zt_tf zt_fd X d zm_223 25 [] [] h Q)) (k2 : ¬ y0 = 0 → (∀ {h : zz_H}, kR h t s → zz_J zp_P zt_tf zt_fd X d zm_223 17 [(0, .ref 58), (1, .long x1), (3, .long x3), (5, .int x5)] [] h Q)) : zz_J zp_P zt_tf zt_fd X d zm_223 14 [(0, .ref 58), (1, .long x1), (3, .long x3), (5, .int x5)] [.int y0] h Q := by
  refine zz_J.b1 25 17 (A := y0 = 0) rfl rfl (by decide) rfl rfl (fun c => ?_) (fun c => ?_)
  · exact zz_J.weak (k1 c hR) rfl trivial
  · exact zz_J.weak (k2 c hR) rfl ⟨rfl, rfl, rfl, rfl, trivial⟩
theorem cb_223_17 {X : Nat → Option zz_C} {h : zz_H} {t : cS} {s : mS} {d : Nat} {Q : zz_O → zz_H → Prop} {x1 : Int64} {x3 : Int64} {x5 : Int32} (hR : kR h t s) (k : ∀ {h : zz_H}, kR h t s → zz_J zp_P zt_tf zt_fd X d zm_255 0 [(0, .long x3)] [] h (zz_after 1000 Q (fun v h' => zz_J zp_P zt_tf zt_fd X (d + 1) zm_223 21 [(0, .ref 58), (1, .long x1), (3, .long x3), (5, .int x5)] (v.toList ++ []) h' Q))) : zz_J zp_P zt_tf zt_fd X (d + 1) zm_223 17 [(0, .ref 58), (1, .long x1), (3, .long x3), (5, .int x5)] [] h Q := by
  refine zz_J.n 18 rfl rfl rfl ?_
  refine zz_J.cl (M' := zm_255) 21 rfl rfl (by decide) rfl rfl ⟨rfl, Nat.le_of_ble_eq_true rfl⟩ rfl ?_
  refine zz_J.mono (k hR) ?_
  intro o h' hE
  cases o with
  | inl v => exact zz_J.weak hE rfl ⟨rfl, rfl, rfl, rfl, trivial⟩
  | inr q => exact hE
theorem cb_223_21 {X : Nat → Option zz_C} {h : zz_H} {t : cS} {s : mS} {d : Nat} {Q : zz_O → zz_H → Prop} {x1 : Int64} {x3 : Int64} {x5 : Int32} {y0 : Int32} (hR : kR h t s) (k1 : y0 ≤ 1 → (∀ {h : zz_H}, kR h t s → zz_J zp_P zt_tf zt_fd X d zm_223 30 [(0, .ref 58), (1, .long x1), (3, .long x3), (5, .int x5)] [] h Q)) (k2 : ¬ y0 ≤ 1 → (∀ {h : zz_H}, kR h t s → zz_J zp_P zt_tf zt_fd X d zm_223 25 [] [] h Q)) : zz_J zp_P zt_tf zt_fd X d zm_223 21 [(0, .ref 58), (1, .long x1), (3, .long x3), (5, .int x5)] [.int y0] h Q := by
  refine zz_J.c 22 (.int 1) rfl rfl rfl rfl ?_
  refine zz_J.b2 30 25 (A := y0 ≤ 1) rfl rfl (by decide) rfl rfl (fun c => ?_) (fun c => ?_)
  · exact zz_J.weak (k1 c hR) rfl ⟨rfl, rfl, rfl, rfl, trivial⟩
  · exact zz_J.weak (k2 c hR) rfl trivial
theorem cb_223_25 {X : Nat → Option zz_C} {h : zz_H} {t : cS} {s : mS} {d : Nat} {Q : zz_O → zz_H → Prop}  (hR : kR h t s) (k : ∀ {h : zz_H}, kR h t s → zz_J zp_P zt_tf zt_fd X d zm_254 0 [(0, .int 3)] [] h (zz_after 1000 Q (fun v h' => zz_J zp_P zt_tf zt_fd X (d + 1) zm_223 29 [] (v.toList ++ []) h' Q))) : zz_J zp_P zt_tf zt_fd X (d + 1) zm_223 25 [] [] h Q := by
  refine zz_J.c 26 (.int 3) rfl rfl rfl rfl ?_
  refine zz_J.cl (M' := zm_254) 29 rfl rfl (by decide) rfl rfl ⟨rfl, Nat.le_of_ble_eq_true rfl⟩ rfl ?_
  refine zz_J.mono (k hR) ?_
  intro o h' hE
  cases o with
  | inl v => exact zz_J.weak hE rfl trivial
  | inr q => exact hE
theorem cb_223_29 {X : Nat → Option zz_C} {h : zz_H} {t : cS} {s : mS} {d : Nat} {Q : zz_O → zz_H → Prop} {y0 : Int64} (hR : kR h t s) (k : ∀ {h : zz_H}, kR h t s → Q (.inl (some (.long y0))) h) : zz_J zp_P zt_tf zt_fd X d zm_223 29 [] [.long y0] h Q := by
  refine zz_J.ret rfl rfl rfl ?_
  exact k hR
theorem cb_223_30 {X : Nat → Option zz_C} {h : zz_H} {t : cS} {s : mS} {d : Nat} {Q : zz_O → zz_H → Prop} {x1 : Int64} {x3 : Int64} {x5 : Int32} (hR : kR h t s) (k : ∀ {h : zz_H}, kR h t s → zz_J zp_P zt_tf zt_fd X d zm_255 0 [(0, .long x3)] [] h (zz_after 1000 Q (fun v h' => zz_J zp_P zt_tf zt_fd X (d + 1) zm_223 34 [(0, .ref 58), (1, .long x1), (3, .long x3), (5, .int x5)] (v.toList ++ []) h' Q))) : zz_J zp_P zt_tf zt_fd X (d + 1) zm_223 30 [(0, .ref 58), (1, .long x1), (3, .long x3), (5, .int x5)] [] h Q := by
  refine zz_J.n 31 rfl rfl rfl ?_
  refine zz_J.cl (M' := zm_255) 34 rfl rfl (by decide) rfl rfl ⟨rfl, Nat.le_of_ble_eq_true rfl⟩ rfl ?_
  refine zz_J.mono (k hR) ?_
  intro o h' hE
  cases o with
  | inl v => exact zz_J.weak hE rfl ⟨rfl, rfl, rfl, rfl, trivial⟩
  | inr q => exact hE
theorem cb_223_34 {X : Nat → Option zz_C} {h : zz_H} {t : cS} {s : mS} {d : Nat} {Q : zz_O → zz_H → Prop} {x1 : Int64} {x3 : Int64} {x5 : Int32} {y0 : Int32} (hR : kR h t s) (k1 : ¬ y0 = 0 → (∀ {h : zz_H}, kR h t s → zz_J zp_P zt_tf zt_fd X d zm_223 73 [(0, .ref 58), (1, .long x1), (3, .long x3), (5, .int x5)] [] h Q)) (k2 : ¬ ¬ y0 = 0 → (∀ {h : zz_H}, kR h t s → zz_J zp_P zt_tf zt_fd X d zm_223 37 [(0, .ref 58), (1, .long x1), (3, .long x3), (5, .int x5)] [] h Q)) : zz_J zp_P zt_tf zt_fd X d zm_223 34 [(0, .ref 58), (1, .long x1), (3, .long x3), (5, .int x5)] [.int y0] h Q := by
  refine zz_J.b1 73 37 (A := ¬ y0 = 0) rfl (zz_cond_ne _ _) (by decide) rfl rfl (fun c => ?_) (fun c => ?_)
  · exact zz_J.weak (k1 c hR) rfl ⟨rfl, rfl, rfl, rfl, trivial⟩
  · exact zz_J.weak (k2 c hR) rfl ⟨rfl, rfl, rfl, rfl, trivial⟩
theorem cb_223_37 {X : Nat → Option zz_C} {h : zz_H} {t : cS} {s : mS} {d : Nat} {Q : zz_O → zz_H → Prop} {x1 : Int64} {x3 : Int64} {x5 : Int32} (hR : kR h t s) (k : ∀ {h : zz_H}, kR h t s → zz_J zp_P zt_tf zt_fd X d zm_256 0 [(0, .long x3)] [] h (zz_after 1000 Q (fun v h' => zz_J zp_P zt_tf zt_fd X (d + 1) zm_223 41 [(0, .ref 58), (1, .long x1), (5, .int x5)] (v.toList ++ []) h' Q))) : zz_J zp_P zt_tf zt_fd X (d + 1) zm_223 37 [(0, .ref 58), (1, .long x1), (3, .long x3), (5, .int x5)] [] h Q := by
  refine zz_J.n 38 rfl rfl rfl ?_
  refine zz_J.cl (M' := zm_256) 41 rfl rfl (by decide) rfl rfl ⟨rfl, Nat.le_of_ble_eq_true rfl⟩ rfl ?_
  refine zz_J.mono (k hR) ?_
  intro o h' hE
  cases o with
  | inl v => exact zz_J.weak hE rfl ⟨rfl, rfl, rfl, trivial⟩
  | inr q => exact hE
theorem cb_223_41 {X : Nat → Option zz_C} {h : zz_H} {t : cS} {s : mS} {d : Nat} {Q : zz_O → zz_H → Prop} {x1 : Int64} {x5 : Int32} {y0 : Int32} (hR : kR h t s) (k1 : y0 < 0 → (∀ {h : zz_H}, kR h t s → zz_J zp_P zt_tf zt_fd X d zm_223 55 [] [] h Q)) (k2 : ¬ y0 < 0 → (∀ {h : zz_H}, kR h t s → zz_J zp_P zt_tf zt_fd X d zm_223 48 [(0, .ref 58), (1, .long x1), (5, .int x5), (6, .int y0)] [] h Q)) : zz_J zp_P zt_tf zt_fd X d zm_223 41 [(0, .ref 58), (1, .long x1), (5, .int x5)] [.int y0] h Q := by
  refine zz_J.n 43 rfl rfl rfl ?_
  refine zz_J.n 45 rfl rfl rfl ?_
  refine zz_J.b1 55 48 (A := y0 < 0) rfl rfl (by decide) rfl rfl (fun c => ?_) (fun c => ?_)
  · exact zz_J.weak (k1 c hR) rfl trivial
  · exact zz_J.weak (k2 c hR) rfl ⟨rfl, rfl, rfl, rfl, trivial⟩
theorem cb_223_48 {X : Nat → Option zz_C} {h : zz_H} {t : cS} {s : mS} {d : Nat} {Q : zz_O → zz_H → Prop} {x1 : Int64} {x5 : Int32} {x6 : Int32} (hR : kR h t s) (k1 : x6 < x5 → (∀ {h : zz_H}, kR h t s → zz_J zp_P zt_tf zt_fd X d zm_223 62 [(0, .ref 58), (1, .long x1), (6, .int x6)] [] h Q)) (k2 : ¬ x6 < x5 → (∀ {h : zz_H}, kR h t s → zz_J zp_P zt_tf zt_fd X d zm_223 55 [] [] h Q)) : zz_J zp_P zt_tf zt_fd X d zm_223 48 [(0, .ref 58), (1, .long x1), (5, .int x5), (6, .int x6)] [] h Q := by
  refine zz_J.n 50 rfl rfl rfl ?_
  refine zz_J.n 52 rfl rfl rfl ?_
  refine zz_J.b2 62 55 (A := x6 < x5) rfl rfl (by decide) rfl rfl (fun c => ?_) (fun c => ?_)
  · exact zz_J.weak (k1 c hR) rfl ⟨rfl, rfl, rfl, trivial⟩
  · exact zz_J.weak (k2 c hR) rfl trivial
theorem cb_223_55 {X : Nat → Option zz_C} {h : zz_H} {t : cS} {s : mS} {d : Nat} {Q : zz_O → zz_H → Prop}  (hR : kR h t s) (k : ∀ {h : zz_H}, kR h t s → zz_J zp_P zt_tf zt_fd X d zm_254 0 [(0, .int 5)] [] h (zz_after 1000 Q (fun v h' => zz_J zp_P zt_tf zt_fd X (d + 1) zm_223 59 [] (v.toList ++ []) h' Q))) : zz_J zp_P zt_tf zt_fd X (d + 1) zm_223 55 [] [] h Q := by
  refine zz_J.c 56 (.int 5) rfl rfl rfl rfl ?_
  refine zz_J.cl (M' := zm_254) 59 rfl rfl (by decide) rfl rfl ⟨rfl, Nat.le_of_ble_eq_true rfl⟩ rfl ?_
  refine zz_J.mono (k hR) ?_
  intro o h' hE
  cases o with
  | inl v => exact zz_J.weak hE rfl trivial
  | inr q => exact hE
theorem cb_223_59 {X : Nat → Option zz_C} {h : zz_H} {t : cS} {s : mS} {d : Nat} {Q : zz_O → zz_H → Prop} {y0 : Int64} (hR : kR h t s) (k : ∀ {h : zz_H}, kR h t s → zz_J zp_P zt_tf zt_fd X d zm_223 72 [] [.long y0] h Q) : zz_J zp_P zt_tf zt_fd X d zm_223 59 [] [.long y0] h Q := by
  refine zz_J.n 72 rfl rfl rfl ?_
  exact zz_J.weak (k hR) rfl trivial
theorem cb_223_62 {X : Nat → Option zz_C} {h : zz_H} {t : cS} {s : mS} {d : Nat} {Q : zz_O → zz_H → Prop} {x1 : Int64} {x6 : Int32} (hR : kR h t s) (k : ∀ {h : zz_H}, kR h t s → zz_J zp_P zt_tf zt_fd X d zm_129 0 [(0, .ref 42), (1, .long x1), (3, .int x6)] [] h (zz_after 2 Q (fun v h' => zz_J zp_P zt_tf zt_fd X (d + 1) zm_223 72 [] (v.toList ++ []) h' Q))) : zz_J zp_P zt_tf zt_fd X (d + 1) zm_223 62 [(0, .ref 58), (1, .long x1), (6, .int x6)] [] h Q := by
  refine zz_J.n 63 rfl rfl rfl ?_
  refine zz_J.g 66 rfl (hR.gv (v := .ref 42) ko_58 (by decide) rfl) rfl ?_
  refine zz_J.n 67 rfl rfl rfl ?_
  refine zz_J.n 69 rfl rfl rfl ?_
  refine zz_J.cv 72 (as := []) rfl rfl (hR.clO ko_42 (by decide) (by decide)) (by decide) (Nat.le_of_ble_eq_true rfl) (Nat.le_of_ble_eq_true rfl) rfl (Nat.le_of_ble_eq_true rfl) rfl ?_
  refine zz_J.mono (k hR) ?_
  intro o h' hE
  cases o with
  | inl v => exact zz_J.weak hE rfl trivial
  | inr q => exact hE
theorem cb_223_72 {X : Nat → Option zz_C} {h : zz_H} {t : cS} {s : mS} {d : Nat} {Q : zz_O → zz_H → Prop} {y0 : Int64} (hR : kR h t s) (k : ∀ {h : zz_H}, kR h t s → Q (.inl (some (.long y0))) h) : zz_J zp_P zt_tf zt_fd X d zm_223 72 [] [.long y0] h Q := by
  refine zz_J.ret rfl rfl rfl ?_
  exact k hR
theorem cb_223_73 {X : Nat → Option zz_C} {h : zz_H} {t : cS} {s : mS} {d : Nat} {Q : zz_O → zz_H → Prop} {x1 : Int64} {x3 : Int64} {x5 : Int32} (hR : kR h t s) (k : ∀ {h : zz_H}, kR h t s → zz_J zp_P zt_tf zt_fd X d zm_122 0 [(0, .ref 42)] [] h (zz_after 2 Q (fun v h' => zz_J zp_P zt_tf zt_fd X (d + 1) zm_223 80 [(0, .ref 58), (1, .long x1), (3, .long x3), (5, .int x5)] (v.toList ++ []) h' Q))) : zz_J zp_P zt_tf zt_fd X (d + 1) zm_223 73 [(0, .ref 58), (1, .long x1), (3, .long x3), (5, .int x5)] [] h Q := by
  refine zz_J.n 74 rfl rfl rfl ?_
  refine zz_J.g 77 rfl (hR.gv (v := .ref 42) ko_58 (by decide) rfl) rfl ?_
  refine zz_J.cv 80 (as := []) rfl rfl (hR.clO ko_42 (by decide) (by decide)) (by decide) (Nat.le_of_ble_eq_true rfl) (Nat.le_of_ble_eq_true rfl) rfl (Nat.le_of_ble_eq_true rfl) rfl ?_
  refine zz_J.mono (k hR) ?_
  intro o h' hE
  cases o with
  | inl v => exact zz_J.weak hE rfl ⟨rfl, rfl, rfl, rfl, trivial⟩
  | inr q => exact hE
theorem cb_223_80 {X : Nat → Option zz_C} {h : zz_H} {t : cS} {s : mS} {d : Nat} {Q : zz_O → zz_H → Prop} {x1 : Int64} {x3 : Int64} {x5 : Int32} {y0 : Int32} (hR : kR h t s) (k : ∀ {h : zz_H}, kR h t s → zz_J zp_P zt_tf zt_fd X d zm_128 0 [(0, .ref 42), (1, .long x3)] [] h (zz_after 2 Q (fun v h' => zz_J zp_P zt_tf zt_fd X (d + 1) zm_223 90 [(0, .ref 58), (1, .long x1), (3, .long x3), (5, .int x5), (6, .int y0)] (v.toList ++ []) h' Q))) : zz_J zp_P zt_tf zt_fd X (d + 1) zm_223 80 [(0, .ref 58), (1, .long x1), (3, .long x3), (5, .int x5)] [.int y0] h Q := by
  refine zz_J.n 82 rfl rfl rfl ?_
  refine zz_J.n 83 rfl rfl rfl ?_
  refine zz_J.g 86 rfl (hR.gv (v := .ref 42) ko_58 (by decide) rfl) rfl ?_
  refine zz_J.n 87 rfl rfl rfl ?_
  refine zz_J.cv 90 (as := []) rfl rfl (hR.clO ko_42 (by decide) (by decide)) (by decide) (Nat.le_of_ble_eq_true rfl) (Nat.le_of_ble_eq_true rfl) rfl (Nat.le_of_ble_eq_true rfl) rfl ?_
  refine zz_J.mono (k hR) ?_
  intro o h' hE
  cases o with
  | inl v => exact zz_J.weak hE rfl ⟨rfl, rfl, rfl, rfl, rfl, trivial⟩
  | inr q => exact hE
theorem cb_223_90 {X : Nat → Option zz_C} {h : zz_H} {t : cS} {s : mS} {d : Nat} {Q : zz_O → zz_H → Prop} {x1 : Int64} {x3 : Int64} {x5 : Int32} {x6 : Int32} {y0 : Int32} (hR : kR h t s) (k : ∀ {h : zz_H}, kR h t s → zz_J zp_P zt_tf zt_fd X d zm_223 95 [(0, .ref 58), (1, .long x1), (3, .long x3), (5, .int x5), (6, .int x6), (7, .int y0), (8, .int 0)] [] h Q) : zz_J zp_P zt_tf zt_fd X d zm_223 90 [(0, .ref 58), (1, .long x1), (3, .long x3), (5, .int x5), (6, .int x6)] [.int y0] h Q := by
  refine zz_J.n 92 rfl rfl rfl ?_
  refine zz_J.c 93 (.int 0) rfl rfl rfl rfl ?_
  refine zz_J.n 95 rfl rfl rfl ?_
  exact zz_J.weak (k hR) rfl ⟨rfl, rfl, rfl, rfl, rfl, rfl, rfl, trivial⟩
theorem cb_223_95 {X : Nat → Option zz_C} {h : zz_H} {t : cS} {s : mS} {d : Nat} {Q : zz_O → zz_H → Prop} {x1 : Int64} {x3 : Int64} {x5 : Int32} {x6 : Int32} {x7 : Int32} {x8 : Int32} (hR : kR h t s) (k1 : x7 ≤ x8 → (∀ {h : zz_H}, kR h t s → zz_J zp_P zt_tf zt_fd X d zm_223 154 [(0, .ref 58), (1, .long x1), (6, .int x6)] [] h Q)) (k2 : ¬ x7 ≤ x8 → (∀ {h : zz_H}, kR h t s → zz_J zp_P zt_tf zt_fd X d zm_223 102 [(0, .ref 58), (1, .long x1), (3, .long x3), (5, .int x5), (6, .int x6), (7, .int x7), (8, .int x8)] [] h Q)) : zz_J zp_P zt_tf zt_fd X d zm_223 95 [(0, .ref 58), (1, .long x1), (3, .long x3), (5, .int x5), (6, .int x6), (7, .int x7), (8, .int x8)] [] h Q := by
  refine zz_J.n 97 rfl rfl rfl ?_
  refine zz_J.n 99 rfl rfl rfl ?_
  refine zz_J.b2 154 102 (A := x7 ≤ x8) rfl rfl (by decide) rfl rfl (fun c => ?_) (fun c => ?_)
  · exact zz_J.weak (k1 c hR) rfl ⟨rfl, rfl, rfl, trivial⟩
  · exact zz_J.weak (k2 c hR) rfl ⟨rfl, rfl, rfl, rfl, rfl, rfl, rfl, trivial⟩
theorem cb_223_102 {X : Nat → Option zz_C} {h : zz_H} {t : cS} {s : mS} {d : Nat} {Q : zz_O → zz_H → Prop} {x1 : Int64} {x3 : Int64} {x5 : Int32} {x6 : Int32} {x7 : Int32} {x8 : Int32} (hR : kR h t s) (k : ∀ {h : zz_H}, kR h t s → zz_J zp_P zt_tf zt_fd X d zm_130 0 [(0, .ref 42), (1, .long x3), (3, .int x8)] [] h (zz_after 2 Q (fun v h' => zz_J zp_P zt_tf zt_fd X (d + 1) zm_223 112 [(0, .ref 58), (1, .long x1), (3, .long x3), (5, .int x5), (6, .int x6), (7, .int x7), (8, .int x8)] (v.toList ++ []) h' Q))) : zz_J zp_P zt_tf zt_fd X (d + 1) zm_223 102 [(0, .ref 58), (1, .long x1), (3, .long x3), (5, .int x5), (6, .int x6), (7, .int x7), (8, .int x8)] [] h Q := by
  refine zz_J.n 103 rfl rfl rfl ?_
  refine zz_J.g 106 rfl (hR.gv (v := .ref 42) ko_58 (by decide) rfl) rfl ?_
  refine zz_J.n 107 rfl rfl rfl ?_
  refine zz_J.n 109 rfl rfl rfl ?_
  refine zz_J.cv 112 (as := []) rfl rfl (hR.clO ko_42 (by decide) (by decide)) (by decide) (Nat.le_of_ble_eq_true rfl) (Nat.le_of_ble_eq_true rfl) rfl (Nat.le_of_ble_eq_true rfl) rfl ?_
  refine zz_J.mono (k hR) ?_
  intro o h' hE
  cases o with
  | inl v => exact zz_J.weak hE rfl ⟨rfl, rfl, rfl, rfl, rfl, rfl, rfl, trivial⟩
  | inr q => exact hE
theorem cb_223_112 {X : Nat → Option zz_C} {h : zz_H} {t : cS} {s : mS} {d : Nat} {Q : zz_O → zz_H → Prop} {x1 : Int64} {x3 : Int64} {x5 : Int32} {x6 : Int32} {x7 : Int32} {x8 : Int32} {y0 : Int32} (hR : kR h t s) (k1 : y0 < 0 → (∀ {h : zz_H}, kR h t s → zz_J zp_P zt_tf zt_fd X d zm_223 126 [] [] h Q)) (k2 : ¬ y0 < 0 → (∀ {h : zz_H}, kR h t s → zz_J zp_P zt_tf zt_fd X d zm_223 119 [(0, .ref 58), (1, .long x1), (3, .long x3), (5, .int x5), (6, .int x6), (7, .int x7), (8, .int x8), (9, .int y0)] [] h Q)) : zz_J zp_P zt_tf zt_fd X d zm_223 112 [(0, .ref 58), (1, .long x1), (3, .long x3), (5, .int x5), (6, .int x6), (7, .int x7), (8, .int x8)] [.int y0] h Q := by
  refine zz_J.n 114 rfl rfl rfl ?_
  refine zz_J.n 116 rfl rfl rfl ?_
  refine zz_J.b1 126 119 (A := y0 < 0) rfl rfl (by decide) rfl rfl (fun c => ?_) (fun c => ?_)
  · exact zz_J.weak (k1 c hR) rfl trivial
  · exact zz_J.weak (k2 c hR) rfl ⟨rfl, rfl, rfl, rfl, rfl, rfl, rfl, rfl, trivial⟩
theorem cb_223_119 {X : Nat → Option zz_C} {h : zz_H} {t : cS} {s : mS} {d : Nat} {Q : zz_O → zz_H → Prop} {x1 : Int64} {x3 : Int64} {x5 : Int32} {x6 : Int32} {x7 : Int32} {x8 : Int32} {x9 : Int32} (hR : kR h t s) (k1 : x9 < x5 → (∀ {h : zz_H}, kR h t s → zz_J zp_P zt_tf zt_fd X d zm_223 131 [(0, .ref 58), (1, .long x1), (3, .long x3), (5, .int x5), (6, .int x6), (7, .int x7), (8, .int x8), (9, .int x9)] [] h Q)) (k2 : ¬ x9 < x5 → (∀ {h : zz_H}, kR h t s → zz_J zp_P zt_tf zt_fd X d zm_223 126 [] [] h Q)) : zz_J zp_P zt_tf zt_fd X d zm_223 119 [(0, .ref 58), (1, .long x1), (3, .long x3), (5, .int x5), (6, .int x6), (7, .int x7), (8, .int x8), (9, .int x9)] [] h Q := by
  refine zz_J.n 121 rfl rfl rfl ?_
  refine zz_J.n 123 rfl rfl rfl ?_
  refine zz_J.b2 131 126 (A := x9 < x5) rfl rfl (by decide) rfl rfl (fun c => ?_) (fun c => ?_)
  · exact zz_J.weak (k1 c hR) rfl ⟨rfl, rfl, rfl, rfl, rfl, rfl, rfl, rfl, trivial⟩
  · exact zz_J.weak (k2 c hR) rfl trivial
theorem cb_223_126 {X : Nat → Option zz_C} {h : zz_H} {t : cS} {s : mS} {d : Nat} {Q : zz_O → zz_H → Prop}  (hR : kR h t s) (k : ∀ {h : zz_H}, kR h t s → zz_J zp_P zt_tf zt_fd X d zm_254 0 [(0, .int 5)] [] h (zz_after 1000 Q (fun v h' => zz_J zp_P zt_tf zt_fd X (d + 1) zm_223 130 [] (v.toList ++ []) h' Q))) : zz_J zp_P zt_tf zt_fd X (d + 1) zm_223 126 [] [] h Q := by
  refine zz_J.c 127 (.int 5) rfl rfl rfl rfl ?_
  refine zz_J.cl (M' := zm_254) 130 rfl rfl (by decide) rfl rfl ⟨rfl, Nat.le_of_ble_eq_true rfl⟩ rfl ?_
  refine zz_J.mono (k hR) ?_
  intro o h' hE
  cases o with
  | inl v => exact zz_J.weak hE rfl trivial
  | inr q => exact hE
theorem cb_223_130 {X : Nat → Option zz_C} {h : zz_H} {t : cS} {s : mS} {d : Nat} {Q : zz_O → zz_H → Prop} {y0 : Int64} (hR : kR h t s) (k : ∀ {h : zz_H}, kR h t s → Q (.inl (some (.long y0))) h) : zz_J zp_P zt_tf zt_fd X d zm_223 130 [] [.long y0] h Q := by
  refine zz_J.ret rfl rfl rfl ?_
  exact k hR
theorem cb_223_131 {X : Nat → Option zz_C} {h : zz_H} {t : cS} {s : mS} {d : Nat} {Q : zz_O → zz_H → Prop} {x1 : Int64} {x3 : Int64} {x5 : Int32} {x6 : Int32} {x7 : Int32} {x8 : Int32} {x9 : Int32} (hR : kR h t s) (k : ∀ {h : zz_H}, kR h t s → zz_J zp_P zt_tf zt_fd X d zm_129 0 [(0, .ref 42), (1, .long x1), (3, .int x9)] [] h (zz_after 2 Q (fun v h' => zz_J zp_P zt_tf zt_fd X (d + 1) zm_223 145 [(0, .ref 58), (1, .long x1), (3, .long x3), (5, .int x5), (6, .int x6), (7, .int x7), (8, .int x8)] (v.toList ++ [.ref 42]) h' Q))) : zz_J zp_P zt_tf zt_fd X (d + 1) zm_223 131 [(0, .ref 58), (1, .long x1), (3, .long x3), (5, .int x5), (6, .int x6), (7, .int x7), (8, .int x8), (9, .int x9)] [] h Q := by
  refine zz_J.n 132 rfl rfl rfl ?_
  refine zz_J.g 135 rfl (hR.gv (v := .ref 42) ko_58 (by decide) rfl) rfl ?_
  refine zz_J.n 136 rfl rfl rfl ?_
  refine zz_J.g 139 rfl (hR.gv (v := .ref 42) ko_58 (by decide) rfl) rfl ?_
  refine zz_J.n 140 rfl rfl rfl ?_
  refine zz_J.n 142 rfl rfl rfl ?_
  refine zz_J.cv 145 (as := [.ref 42]) rfl rfl (hR.clO ko_42 (by decide) (by decide)) (by decide) (Nat.le_of_ble_eq_true rfl) (Nat.le_of_ble_eq_true rfl) rfl (Nat.le_of_ble_eq_true rfl) rfl ?_
  refine zz_J.mono (k hR) ?_
  intro o h' hE
  cases o with
  | inl v => exact zz_J.weak hE rfl ⟨rfl, rfl, rfl, rfl, rfl, rfl, rfl, trivial⟩
  | inr q => exact hE
theorem cb_223_145 {X : Nat → Option zz_C} {h : zz_H} {t : cS} {s : mS} {d : Nat} {Q : zz_O → zz_H → Prop} {x1 : Int64} {x3 : Int64} {x5 : Int32} {x6 : Int32} {x7 : Int32} {x8 : Int32} {y1 : Int64} (hR : kR h t s) (k : ∀ {h : zz_H}, kR h t s → zz_J zp_P zt_tf zt_fd X d zm_123 0 [(0, .ref 42), (1, .long y1)] [] h (zz_after 2 Q (fun v h' => zz_J zp_P zt_tf zt_fd X (d + 1) zm_223 148 [(0, .ref 58), (1, .long x1), (3, .long x3), (5, .int x5), (6, .int x6), (7, .int x7), (8, .int x8)] (v.toList ++ []) h' Q))) : zz_J zp_P zt_tf zt_fd X (d + 1) zm_223 145 [(0, .ref 58), (1, .long x1), (3, .long x3), (5, .int x5), (6, .int x6), (7, .int x7), (8, .int x8)] [.long y1, .ref 42] h Q := by
  refine zz_J.cv 148 (as := []) rfl rfl (hR.clO ko_42 (by decide) (by decide)) (by decide) (Nat.le_of_ble_eq_true rfl) (Nat.le_of_ble_eq_true rfl) rfl (Nat.le_of_ble_eq_true rfl) rfl ?_
  refine zz_J.mono (k hR) ?_
  intro o h' hE
  cases o with
  | inl v => exact zz_J.weak hE rfl ⟨rfl, rfl, rfl, rfl, rfl, rfl, rfl, trivial⟩
  | inr q => exact hE
theorem cb_223_148 {X : Nat → Option zz_C} {h : zz_H} {t : cS} {s : mS} {d : Nat} {Q : zz_O → zz_H → Prop} {x1 : Int64} {x3 : Int64} {x5 : Int32} {x6 : Int32} {x7 : Int32} {x8 : Int32} (hR : kR h t s) (k : ∀ {h : zz_H}, kR h t s → zz_J zp_P zt_tf zt_fd X d zm_223 95 [(0, .ref 58), (1, .long x1), (3, .long x3), (5, .int x5), (6, .int x6), (7, .int x7), (8, .int (x8 + 1))] [] h Q) : zz_J zp_P zt_tf zt_fd X d zm_223 148 [(0, .ref 58), (1, .long x1), (3, .long x3), (5, .int x5), (6, .int x6), (7, .int x7), (8, .int x8)] [] h Q := by
  refine zz_J.n 151 rfl rfl rfl ?_
  refine zz_J.n 95 rfl rfl rfl ?_
  exact zz_J.weak (k hR) rfl ⟨rfl, rfl, rfl, rfl, rfl, rfl, rfl, trivial⟩
theorem cb_223_154 {X : Nat → Option zz_C} {h : zz_H} {t : cS} {s : mS} {d : Nat} {Q : zz_O → zz_H → Prop} {x1 : Int64} {x6 : Int32} (hR : kR h t s) (k : ∀ {h : zz_H}, kR h t s → zz_J zp_P zt_tf zt_fd X d zm_255 0 [(0, .long x1)] [] h (zz_after 1000 Q (fun v h' => zz_J zp_P zt_tf zt_fd X (d + 1) zm_223 162 [(6, .int x6)] (v.toList ++ [.ref 42]) h' Q))) : zz_J zp_P zt_tf zt_fd X (d + 1) zm_223 154 [(0, .ref 58), (1, .long x1), (6, .int x6)] [] h Q := by
  refine zz_J.n 155 rfl rfl rfl ?_
  refine zz_J.g 158 rfl (hR.gv (v := .ref 42) ko_58 (by decide) rfl) rfl ?_
  refine zz_J.n 159 rfl rfl rfl ?_
  refine zz_J.cl (M' := zm_255) 162 rfl rfl (by decide) rfl rfl ⟨rfl, Nat.le_of_ble_eq_true rfl⟩ rfl ?_
  refine zz_J.mono (k hR) ?_
  intro o h' hE
  cases o with
  | inl v => exact zz_J.weak hE rfl ⟨rfl, trivial⟩
  | inr q => exact hE
theorem cb_223_162 {X : Nat → Option zz_C} {h : zz_H} {t : cS} {s : mS} {d : Nat} {Q : zz_O → zz_H → Prop} {x6 : Int32} {y1 : Int32} (hR : kR h t s) (k : ∀ {h : zz_H}, kR h t s → zz_J zp_P zt_tf zt_fd X d zm_126 0 [(0, .ref 42), (1, .int y1), (2, .int x6)] [] h (zz_after 2 Q (fun v h' => zz_J zp_P zt_tf zt_fd X (d + 1) zm_223 167 [] (v.toList ++ []) h' Q))) : zz_J zp_P zt_tf zt_fd X (d + 1) zm_223 162 [(6, .int x6)] [.int y1, .ref 42] h Q := by
  refine zz_J.n 164 rfl rfl rfl ?_
  refine zz_J.cv 167 (as := []) rfl rfl (hR.clO ko_42 (by decide) (by decide)) (by decide) (Nat.le_of_ble_eq_true rfl) (Nat.le_of_ble_eq_true rfl) rfl (Nat.le_of_ble_eq_true rfl) rfl ?_
  refine zz_J.mono (k hR) ?_
  intro o h' hE
  cases o with
  | inl v => exact zz_J.weak hE rfl trivial
  | inr q => exact hE
theorem cb_223_167 {X : Nat → Option zz_C} {h : zz_H} {t : cS} {s : mS} {d : Nat} {Q : zz_O → zz_H → Prop} {y0 : Int64} (hR : kR h t s) (k : ∀ {h : zz_H}, kR h t s → Q (.inl (some (.long y0))) h) : zz_J zp_P zt_tf zt_fd X d zm_223 167 [] [.long y0] h Q := by
  refine zz_J.ret rfl rfl rfl ?_
  exact k hR
def cf_223_29 (N : Nat) (X : Nat → Option zz_C) (y0 : Int64) (t : cS) : kO := some (t, .inl (some (.long y0)))
theorem cr_223_29 {X : Nat → Option zz_C} {s : mS} {N : Nat} {d : Nat} (hd : 10 ≤ d) {Q : zz_O → zz_H → Prop} {y0 : Int64} {h : zz_H} {t t' : cS} {o : kY} (hR : kR h t s) (hf : cf_223_29 N X y0 t = some (t', o)) (k : (∀ h', kR h' t' s → kE o Q h')) : zz_J zp_P zt_tf zt_fd X d zm_223 29 [] [.long y0] h Q := by
  unfold cf_223_29 at hf
  cases hf
  exact cb_223_29 hR  (fun {h} hR => k h hR)
def cf_223_25 (N : Nat) (X : Nat → Option zz_C)  (t : cS) : kO := ko_call 1000 (cf_254 N X 3 t) (fun g1 v1 => co_l v1 (fun y => cf_223_29 N X y g1))
theorem cr_223_25 {X : Nat → Option zz_C} {s : mS} {N : Nat} {d : Nat} (hd : 10 ≤ d) {Q : zz_O → zz_H → Prop}  {h : zz_H} {t t' : cS} {o : kY} (hR : kR h t s) (hf : cf_223_25 N X  t = some (t', o)) (k : (∀ h', kR h' t' s → kE o Q h')) : zz_J zp_P zt_tf zt_fd X d zm_223 25 [] [] h Q := by
  unfold cf_223_25 at hf
  obtain ⟨d', rfl⟩ : ∃ d', d = d' + 1 := ⟨d - 1, by omega⟩
  refine cb_223_25 hR  (fun {h} hR => ?_)
  rcases ko_call_ok hf with ⟨g1, v1, er, hf⟩ | ⟨g1, er, hq⟩
  · obtain ⟨y, hv, hf2⟩ := co_l_ok hf
    clear hf
    have hf := hf2
    clear hf2
    subst hv
    refine cr_254 (by omega) hR er (fun h hR => ?_)
    exact cr_223_29 hd hR hf k
  · refine cr_254 (by omega) hR er (fun h hR => ?_)
    exact ko_thrown hq hR k
def cf_223_167 (N : Nat) (X : Nat → Option zz_C) (y0 : Int64) (t : cS) : kO := some (t, .inl (some (.long y0)))
theorem cr_223_167 {X : Nat → Option zz_C} {s : mS} {N : Nat} {d : Nat} (hd : 10 ≤ d) {Q : zz_O → zz_H → Prop} {y0 : Int64} {h : zz_H} {t t' : cS} {o : kY} (hR : kR h t s) (hf : cf_223_167 N X y0 t = some (t', o)) (k : (∀ h', kR h' t' s → kE o Q h')) : zz_J zp_P zt_tf zt_fd X d zm_223 167 [] [.long y0] h Q := by
  unfold cf_223_167 at hf
  cases hf
  exact cb_223_167 hR  (fun {h} hR => k h hR)
def cf_223_162 (N : Nat) (X : Nat → Option zz_C) (x6 : Int32) (y1 : Int32) (t : cS) : kO := ko_call 2 (cf_126 N X y1 x6 t) (fun g1 v1 => co_l v1 (fun y => cf_223_167 N X y g1))
theorem cr_223_162 {X : Nat → Option zz_C} {s : mS} {N : Nat} {d : Nat} (hd : 10 ≤ d) {Q : zz_O → zz_H → Prop} {x6 : Int32} {y1 : Int32} {h : zz_H} {t t' : cS} {o : kY} (hR : kR h t s) (hf : cf_223_162 N X x6 y1 t = some (t', o)) (k : (∀ h', kR h' t' s → kE o Q h')) : zz_J zp_P zt_tf zt_fd X d zm_223 162 [(6, .int x6)] [.int y1, .ref 42] h Q := by
  unfold cf_223_162 at hf
  obtain ⟨d', rfl⟩ : ∃ d', d = d' + 1 := ⟨d - 1, by omega⟩
  refine cb_223_162 hR  (fun {h} hR => ?_)
  rcases ko_call_ok hf with ⟨g1, v1, er, hf⟩ | ⟨g1, er, hq⟩
  · obtain ⟨y, hv, hf2⟩ := co_l_ok hf
    clear hf
    have hf := hf2
    clear hf2
    subst hv
    refine cr_126 (by omega) hR er (fun h hR => ?_)
    exact cr_223_167 hd hR hf k
  · refine cr_126 (by omega) hR er (fun h hR => ?_)
    exact ko_thrown hq hR k
def cf_223_154 (N : Nat) (X : Nat → Option zz_C) (x1 : Int64) (x6 : Int32) (t : cS) : kO := ko_call 1000 (cf_255 N X x1 t) (fun g1 v1 => co_i v1 (fun y => cf_223_162 N X x6 y g1))
theorem cr_223_154 {X : Nat → Option zz_C} {s : mS} {N : Nat} {d : Nat} (hd : 10 ≤ d) {Q : zz_O → zz_H → Prop} {x1 : Int64} {x6 : Int32} {h : zz_H} {t t' : cS} {o : kY} (hR : kR h t s) (hf : cf_223_154 N X x1 x6 t = some (t', o)) (k : (∀ h', kR h' t' s → kE o Q h')) : zz_J zp_P zt_tf zt_fd X d zm_223 154 [(0, .ref 58), (1, .long x1), (6, .int x6)] [] h Q := by
  unfold cf_223_154 at hf
  obtain ⟨d', rfl⟩ : ∃ d', d = d' + 1 := ⟨d - 1, by omega⟩
  refine cb_223_154 hR  (fun {h} hR => ?_)
  rcases ko_call_ok hf with ⟨g1, v1, er, hf⟩ | ⟨g1, er, hq⟩
  · obtain ⟨y, hv, hf2⟩ := co_i_ok hf
    clear hf
    have hf := hf2
    clear hf2
    subst hv
    refine cr_255 (by omega) hR er (fun h hR => ?_)
    exact cr_223_162 hd hR hf k
  · refine cr_255 (by omega) hR er (fun h hR => ?_)
    exact ko_thrown hq hR k
def cf_223_130 (N : Nat) (X : Nat → Option zz_C) (y0 : Int64) (t : cS) : kO := some (t, .inl (some (.long y0)))
theorem cr_223_130 {X : Nat → Option zz_C} {s : mS} {N : Nat} {d : Nat} (hd : 10 ≤ d) {Q : zz_O → zz_H → Prop} {y0 : Int64} {h : zz_H} {t t' : cS} {o : kY} (hR : kR h t s) (hf : cf_223_130 N X y0 t = some (t', o)) (k : (∀ h', kR h' t' s → kE o Q h')) : zz_J zp_P zt_tf zt_fd X d zm_223 130 [] [.long y0] h Q := by
  unfold cf_223_130 at hf
  cases hf
  exact cb_223_130 hR  (fun {h} hR => k h hR)
def cf_223_126 (N : Nat) (X : Nat → Option zz_C)  (t : cS) : kO := ko_call 1000 (cf_254 N X 5 t) (fun g1 v1 => co_l v1 (fun y => cf_223_130 N X y g1))
theorem cr_223_126 {X : Nat → Option zz_C} {s : mS} {N : Nat} {d : Nat} (hd : 10 ≤ d) {Q : zz_O → zz_H → Prop}  {h : zz_H} {t t' : cS} {o : kY} (hR : kR h t s) (hf : cf_223_126 N X  t = some (t', o)) (k : (∀ h', kR h' t' s → kE o Q h')) : zz_J zp_P zt_tf zt_fd X d zm_223 126 [] [] h Q := by
  unfold cf_223_126 at hf
  obtain ⟨d', rfl⟩ : ∃ d', d = d' + 1 := ⟨d - 1, by omega⟩
  refine cb_223_126 hR  (fun {h} hR => ?_)
  rcases ko_call_ok hf with ⟨g1, v1, er, hf⟩ | ⟨g1, er, hq⟩
  · obtain ⟨y, hv, hf2⟩ := co_l_ok hf
    clear hf
    have hf := hf2
    clear hf2
    subst hv
    refine cr_254 (by omega) hR er (fun h hR => ?_)
    exact cr_223_130 hd hR hf k
  · refine cr_254 (by omega) hR er (fun h hR => ?_)
    exact ko_thrown hq hR k
def cf_223_148 (N : Nat) (X : Nat → Option zz_C) (rc : Nat → Int64 → Int64 → Int32 → Int32 → Int32 → Int32 → cS → kO) (x1 : Int64) (x3 : Int64) (x5 : Int32) (x6 : Int32) (x7 : Int32) (x8 : Int32) (t : cS) : kO := rc 0 x1 x3 x5 x6 x7 (x8 + 1) t
theorem cr_223_148 {X : Nat → Option zz_C} {s : mS} {N : Nat} {d : Nat} (hd : 10 ≤ d) {rc : Nat → Int64 → Int64 → Int32 → Int32 → Int32 → Int32 → cS → kO} (hrc0 : ∀ {Q : zz_O → zz_H → Prop} {x1 : Int64} {x3 : Int64} {x5 : Int32} {x6 : Int32} {x7 : Int32} {x8 : Int32} {h : zz_H} {t t' : cS} {o : kY}, kR h t s → rc 0 x1 x3 x5 x6 x7 x8 t = some (t', o) → (∀ h', kR h' t' s → kE o Q h') → zz_J zp_P zt_tf zt_fd X d zm_223 95 [(0, .ref 58), (1, .long x1), (3, .long x3), (5, .int x5), (6, .int x6), (7, .int x7), (8, .int x8)] [] h Q) {Q : zz_O → zz_H → Prop} {x1 : Int64} {x3 : Int64} {x5 : Int32} {x6 : Int32} {x7 : Int32} {x8 : Int32} {h : zz_H} {t t' : cS} {o : kY} (hR : kR h t s) (hf : cf_223_148 N X rc x1 x3 x5 x6 x7 x8 t = some (t', o)) (k : (∀ h', kR h' t' s → kE o Q h')) : zz_J zp_P zt_tf zt_fd X d zm_223 148 [(0, .ref 58), (1, .long x1), (3, .long x3), (5, .int x5), (6, .int x6), (7, .int x7), (8, .int x8)] [] h Q := by
  unfold cf_223_148 at hf
  exact cb_223_148 hR  (fun hR => hrc0 hR hf k)
def cf_223_145 (N : Nat) (X : Nat → Option zz_C) (rc : Nat → Int64 → Int64 → Int32 → Int32 → Int32 → Int32 → cS → kO) (x1 : Int64) (x3 : Int64) (x5 : Int32) (x6 : Int32) (x7 : Int32) (x8 : Int32) (y1 : Int64) (t : cS) : kO := ko_call 2 (cf_123 N X y1 t) (fun g1 v1 => co_v v1 (cf_223_148 N X rc x1 x3 x5 x6 x7 x8 g1))
theorem cr_223_145 {X : Nat → Option zz_C} {s : mS} {N : Nat} {d : Nat} (hd : 10 ≤ d) {rc : Nat → Int64 → Int64 → Int32 → Int32 → Int32 → Int32 → cS → kO} (hrc0 : ∀ {Q : zz_O → zz_H → Prop} {x1 : Int64} {x3 : Int64} {x5 : Int32} {x6 : Int32} {x7 : Int32} {x8 : Int32} {h : zz_H} {t t' : cS} {o : kY}, kR h t s → rc 0 x1 x3 x5 x6 x7 x8 t = some (t', o) → (∀ h', kR h' t' s → kE o Q h') → zz_J zp_P zt_tf zt_fd X d zm_223 95 [(0, .ref 58), (1, .long x1), (3, .long x3), (5, .int x5), (6, .int x6), (7, .int x7), (8, .int x8)] [] h Q) {Q : zz_O → zz_H → Prop} {x1 : Int64} {x3 : Int64} {x5 : Int32} {x6 : Int32} {x7 : Int32} {x8 : Int32} {y1 : Int64} {h : zz_H} {t t' : cS} {o : kY} (hR : kR h t s) (hf : cf_223_145 N X rc x1 x3 x5 x6 x7 x8 y1 t = some (t', o)) (k : (∀ h', kR h' t' s → kE o Q h')) : zz_J zp_P zt_tf zt_fd X d zm_223 145 [(0, .ref 58), (1, .long x1), (3, .long x3), (5, .int x5), (6, .int x6), (7, .int x7), (8, .int x8)] [.long y1, .ref 42] h Q := by
  unfold cf_223_145 at hf
  obtain ⟨d', rfl⟩ : ∃ d', d = d' + 1 := ⟨d - 1, by omega⟩
  refine cb_223_145 hR  (fun {h} hR => ?_)
  rcases ko_call_ok hf with ⟨g1, v1, er, hf⟩ | ⟨g1, er, hq⟩
  · obtain ⟨hv, hf2⟩ := co_v_ok hf
    clear hf
    have hf := hf2
    clear hf2
    subst hv
    refine cr_123 (by omega) hR er (fun h hR => ?_)
    exact cr_223_148 hd hrc0 hR hf k
  · refine cr_123 (by omega) hR er (fun h hR => ?_)
    exact ko_thrown hq hR k
def cf_223_131 (N : Nat) (X : Nat → Option zz_C) (rc : Nat → Int64 → Int64 → Int32 → Int32 → Int32 → Int32 → cS → kO) (x1 : Int64) (x3 : Int64) (x5 : Int32) (x6 : Int32) (x7 : Int32) (x8 : Int32) (x9 : Int32) (t : cS) : kO := ko_call 2 (cf_129 N X x1 x9 t) (fun g1 v1 => co_l v1 (fun y => cf_223_145 N X rc x1 x3 x5 x6 x7 x8 y g1))
theorem cr_223_131 {X : Nat → Option zz_C} {s : mS} {N : Nat} {d : Nat} (hd : 10 ≤ d) {rc : Nat → Int64 → Int64 → Int32 → Int32 → Int32 → Int32 → cS → kO} (hrc0 : ∀ {Q : zz_O → zz_H → Prop} {x1 : Int64} {x3 : Int64} {x5 : Int32} {x6 : Int32} {x7 : Int32} {x8 : Int32} {h : zz_H} {t t' : cS} {o : kY}, kR h t s → rc 0 x1 x3 x5 x6 x7 x8 t = some (t', o) → (∀ h', kR h' t' s → kE o Q h') → zz_J zp_P zt_tf zt_fd X d zm_223 95 [(0, .ref 58), (1, .long x1), (3, .long x3), (5, .int x5), (6, .int x6), (7, .int x7), (8, .int x8)] [] h Q) {Q : zz_O → zz_H → Prop} {x1 : Int64} {x3 : Int64} {x5 : Int32} {x6 : Int32} {x7 : Int32} {x8 : Int32} {x9 : Int32} {h : zz_H} {t t' : cS} {o : kY} (hR : kR h t s) (hf : cf_223_131 N X rc x1 x3 x5 x6 x7 x8 x9 t = some (t', o)) (k : (∀ h', kR h' t' s → kE o Q h')) : zz_J zp_P zt_tf zt_fd X d zm_223 131 [(0, .ref 58), (1, .long x1), (3, .long x3), (5, .int x5), (6, .int x6), (7, .int x7), (8, .int x8), (9, .int x9)] [] h Q := by
  unfold cf_223_131 at hf
  obtain ⟨d', rfl⟩ : ∃ d', d = d' + 1 := ⟨d - 1, by omega⟩
  refine cb_223_131 hR  (fun {h} hR => ?_)
  rcases ko_call_ok hf with ⟨g1, v1, er, hf⟩ | ⟨g1, er, hq⟩
  · obtain ⟨y, hv, hf2⟩ := co_l_ok hf
    clear hf
    have hf := hf2
    clear hf2
    subst hv
    refine cr_129 (by omega) hR er (fun h hR => ?_)
    exact cr_223_145 hd hrc0 hR hf k
  · refine cr_129 (by omega) hR er (fun h hR => ?_)
    exact ko_thrown hq hR k
def cf_223_119 (N : Nat) (X : Nat → Option zz_C) (rc : Nat → Int64 → Int64 → Int32 → Int32 → Int32 → Int32 → cS → kO) (x1 : Int64) (x3 : Int64) (x5 : Int32) (x6 : Int32) (x7 : Int32) (x8 : Int32) (x9 : Int32) (t : cS) : kO := if x9 < x5 then cf_223_131 N X rc x1 x3 x5 x6 x7 x8 x9 t else cf_223_126 N X  t
theorem cr_223_119 {X : Nat → Option zz_C} {s : mS} {N : Nat} {d : Nat} (hd : 10 ≤ d) {rc : Nat → Int64 → Int64 → Int32 → Int32 → Int32 → Int32 → cS → kO} (hrc0 : ∀ {Q : zz_O → zz_H → Prop} {x1 : Int64} {x3 : Int64} {x5 : Int32} {x6 : Int32} {x7 : Int32} {x8 : Int32} {h : zz_H} {t t' : cS} {o : kY}, kR h t s → rc 0 x1 x3 x5 x6 x7 x8 t = some (t', o) → (∀ h', kR h' t' s → kE o Q h') → zz_J zp_P zt_tf zt_fd X d zm_223 95 [(0, .ref 58), (1, .long x1), (3, .long x3), (5, .int x5), (6, .int x6), (7, .int x7), (8, .int x8)] [] h Q) {Q : zz_O → zz_H → Prop} {x1 : Int64} {x3 : Int64} {x5 : Int32} {x6 : Int32} {x7 : Int32} {x8 : Int32} {x9 : Int32} {h : zz_H} {t t' : cS} {o : kY} (hR : kR h t s) (hf : cf_223_119 N X rc x1 x3 x5 x6 x7 x8 x9 t = some (t', o)) (k : (∀ h', kR h' t' s → kE o Q h')) : zz_J zp_P zt_tf zt_fd X d zm_223 119 [(0, .ref 58), (1, .long x1), (3, .long x3), (5, .int x5), (6, .int x6), (7, .int x7), (8, .int x8), (9, .int x9)] [] h Q := by
  unfold cf_223_119 at hf
  refine cb_223_119 hR  (fun c {h} hR => ?_) (fun c {h} hR => ?_)
  · rw [if_pos c] at hf
    exact cr_223_131 hd hrc0 hR hf k
  · rw [if_neg c] at hf
    exact cr_223_126 hd hR hf k
def cf_223_112 (N : Nat) (X : Nat → Option zz_C) (rc : Nat → Int64 → Int64 → Int32 → Int32 → Int32 → Int32 → cS → kO) (x1 : Int64) (x3 : Int64) (x5 : Int32) (x6 : Int32) (x7 : Int32) (x8 : Int32) (y0 : Int32) (t : cS) : kO := if y0 < 0 then cf_223_126 N X  t else cf_223_119 N X rc x1 x3 x5 x6 x7 x8 y0 t
theorem cr_223_112 {X : Nat → Option zz_C} {s : mS} {N : Nat} {d : Nat} (hd : 10 ≤ d) {rc : Nat → Int64 → Int64 → Int32 → Int32 → Int32 → Int32 → cS → kO} (hrc0 : ∀ {Q : zz_O → zz_H → Prop} {x1 : Int64} {x3 : Int64} {x5 : Int32} {x6 : Int32} {x7 : Int32} {x8 : Int32} {h : zz_H} {t t' : cS} {o : kY}, kR h t s → rc 0 x1 x3 x5 x6 x7 x8 t = some (t', o) → (∀ h', kR h' t' s → kE o Q h') → zz_J zp_P zt_tf zt_fd X d zm_223 95 [(0, .ref 58), (1, .long x1), (3, .long x3), (5, .int x5), (6, .int x6), (7, .int x7), (8, .int x8)] [] h Q) {Q : zz_O → zz_H → Prop} {x1 : Int64} {x3 : Int64} {x5 : Int32} {x6 : Int32} {x7 : Int32} {x8 : Int32} {y0 : Int32} {h : zz_H} {t t' : cS} {o : kY} (hR : kR h t s) (hf : cf_223_112 N X rc x1 x3 x5 x6 x7 x8 y0 t = some (t', o)) (k : (∀ h', kR h' t' s → kE o Q h')) : zz_J zp_P zt_tf zt_fd X d zm_223 112 [(0, .ref 58), (1, .long x1), (3, .long x3), (5, .int x5), (6, .int x6), (7, .int x7), (8, .int x8)] [.int y0] h Q := by
  unfold cf_223_112 at hf
  refine cb_223_112 hR  (fun c {h} hR => ?_) (fun c {h} hR => ?_)
  · rw [if_pos c] at hf
    exact cr_223_126 hd hR hf k
  · rw [if_neg c] at hf
    exact cr_223_119 hd hrc0 hR hf k
def cf_223_102 (N : Nat) (X : Nat → Option zz_C) (rc : Nat → Int64 → Int64 → Int32 → Int32 → Int32 → Int32 → cS → kO) (x1 : Int64) (x3 : Int64) (x5 : Int32) (x6 : Int32) (x7 : Int32) (x8 : Int32) (t : cS) : kO := ko_call 2 (cf_130 N X x3 x8 t) (fun g1 v1 => co_i v1 (fun y => cf_223_112 N X rc x1 x3 x5 x6 x7 x8 y g1))
theorem cr_223_102 {X : Nat → Option zz_C} {s : mS} {N : Nat} {d : Nat} (hd : 10 ≤ d) {rc : Nat → Int64 → Int64 → Int32 → Int32 → Int32 → Int32 → cS → kO} (hrc0 : ∀ {Q : zz_O → zz_H → Prop} {x1 : Int64} {x3 : Int64} {x5 : Int32} {x6 : Int32} {x7 : Int32} {x8 : Int32} {h : zz_H} {t t' : cS} {o : kY}, kR h t s → rc 0 x1 x3 x5 x6 x7 x8 t = some (t', o) → (∀ h', kR h' t' s → kE o Q h') → zz_J zp_P zt_tf zt_fd X d zm_223 95 [(0, .ref 58), (1, .long x1), (3, .long x3), (5, .int x5), (6, .int x6), (7, .int x7), (8, .int x8)] [] h Q) {Q : zz_O → zz_H → Prop} {x1 : Int64} {x3 : Int64} {x5 : Int32} {x6 : Int32} {x7 : Int32} {x8 : Int32} {h : zz_H} {t t' : cS} {o : kY} (hR : kR h t s) (hf : cf_223_102 N X rc x1 x3 x5 x6 x7 x8 t = some (t', o)) (k : (∀ h', kR h' t' s → kE o Q h')) : zz_J zp_P zt_tf zt_fd X d zm_223 102 [(0, .ref 58), (1, .long x1), (3, .long x3), (5, .int x5), (6, .int x6), (7, .int x7), (8, .int x8)] [] h Q := by
  unfold cf_223_102 at hf
  obtain ⟨d', rfl⟩ : ∃ d', d = d' + 1 := ⟨d - 1, by omega⟩
  refine cb_223_102 hR  (fun {h} hR => ?_)
  rcases ko_call_ok hf with ⟨g1, v1, er, hf⟩ | ⟨g1, er, hq⟩
  · obtain ⟨y, hv, hf2⟩ := co_i_ok hf
    clear hf
    have hf := hf2
    clear hf2
    subst hv
    refine cr_130 (by omega) hR er (fun h hR => ?_)
    exact cr_223_112 hd hrc0 hR hf k
  · refine cr_130 (by omega) hR er (fun h hR => ?_)
    exact ko_thrown hq hR k
def cf_223_95 (N : Nat) (X : Nat → Option zz_C) (rc : Nat → Int64 → Int64 → Int32 → Int32 → Int32 → Int32 → cS → kO) (x1 : Int64) (x3 : Int64) (x5 : Int32) (x6 : Int32) (x7 : Int32) (x8 : Int32) (t : cS) : kO := if x7 ≤ x8 then cf_223_154 N X x1 x6 t else cf_223_102 N X rc x1 x3 x5 x6 x7 x8 t
theorem cr_223_95 {X : Nat → Option zz_C} {s : mS} {N : Nat} {d : Nat} (hd : 10 ≤ d) {rc : Nat → Int64 → Int64 → Int32 → Int32 → Int32 → Int32 → cS → kO} (hrc0 : ∀ {Q : zz_O → zz_H → Prop} {x1 : Int64} {x3 : Int64} {x5 : Int32} {x6 : Int32} {x7 : Int32} {x8 : Int32} {h : zz_H} {t t' : cS} {o : kY}, kR h t s → rc 0 x1 x3 x5 x6 x7 x8 t = some (t', o) → (∀ h', kR h' t' s → kE o Q h') → zz_J zp_P zt_tf zt_fd X d zm_223 95 [(0, .ref 58), (1, .long x1), (3, .long x3), (5, .int x5), (6, .int x6), (7, .int x7), (8, .int x8)] [] h Q) {Q : zz_O → zz_H → Prop} {x1 : Int64} {x3 : Int64} {x5 : Int32} {x6 : Int32} {x7 : Int32} {x8 : Int32} {h : zz_H} {t t' : cS} {o : kY} (hR : kR h t s) (hf : cf_223_95 N X rc x1 x3 x5 x6 x7 x8 t = some (t', o)) (k : (∀ h', kR h' t' s → kE o Q h')) : zz_J zp_P zt_tf zt_fd X d zm_223 95 [(0, .ref 58), (1, .long x1), (3, .long x3), (5, .int x5), (6, .int x6), (7, .int x7), (8, .int x8)] [] h Q := by
  unfold cf_223_95 at hf
  refine cb_223_95 hR  (fun c {h} hR => ?_) (fun c {h} hR => ?_)
  · rw [if_pos c] at hf
    exact cr_223_154 hd hR hf k
  · rw [if_neg c] at hf
    exact cr_223_102 hd hrc0 hR hf k
def cf_223_L7 (N : Nat) (X : Nat → Option zz_C) : Nat → Nat → Int64 → Int64 → Int32 → Int32 → Int32 → Int32 → cS → kO
  | 0, _, _, _, _, _, _, _, _ => none
  | n + 1, l, x1, x3, x5, x6, x7, x8, t => if l = 0 then cf_223_95 N X (cf_223_L7 N X n) x1 x3 x5 x6 x7 x8 t else none
theorem cr_223_L7 {X : Nat → Option zz_C} {s : mS} {N : Nat} {d : Nat} (hd : 10 ≤ d) : ∀ n : Nat, (∀ {Q : zz_O → zz_H → Prop} {x1 : Int64} {x3 : Int64} {x5 : Int32} {x6 : Int32} {x7 : Int32} {x8 : Int32} {h : zz_H} {t t' : cS} {o : kY}, kR h t s → cf_223_L7 N X n 0 x1 x3 x5 x6 x7 x8 t = some (t', o) → (∀ h', kR h' t' s → kE o Q h') → zz_J zp_P zt_tf zt_fd X d zm_223 95 [(0, .ref 58), (1, .long x1), (3, .long x3), (5, .int x5), (6, .int x6), (7, .int x7), (8, .int x8)] [] h Q) := by
  intro n
  induction n with
  | zero => exact (fun _ hf _ => by cases hf)
  | succ n ih =>
    have h0 := @ih
    intro Q _ _ _ _ _ _ h t t' o hR hf k
    unfold cf_223_L7 at hf
    rw [if_pos rfl] at hf
    exact cr_223_95 hd h0 hR hf k
def cf_223_90 (N : Nat) (X : Nat → Option zz_C) (x1 : Int64) (x3 : Int64) (x5 : Int32) (x6 : Int32) (y0 : Int32) (t : cS) : kO := cf_223_L7 N X N 0 x1 x3 x5 x6 y0 0 t
theorem cr_223_90 {X : Nat → Option zz_C} {s : mS} {N : Nat} {d : Nat} (hd : 10 ≤ d) {Q : zz_O → zz_H → Prop} {x1 : Int64} {x3 : Int64} {x5 : Int32} {x6 : Int32} {y0 : Int32} {h : zz_H} {t t' : cS} {o : kY} (hR : kR h t s) (hf : cf_223_90 N X x1 x3 x5 x6 y0 t = some (t', o)) (k : (∀ h', kR h' t' s → kE o Q h')) : zz_J zp_P zt_tf zt_fd X d zm_223 90 [(0, .ref 58), (1, .long x1), (3, .long x3), (5, .int x5), (6, .int x6)] [.int y0] h Q := by
  unfold cf_223_90 at hf
  exact cb_223_90 hR  (fun hR => cr_223_L7 hd N hR hf k)
def cf_223_80 (N : Nat) (X : Nat → Option zz_C) (x1 : Int64) (x3 : Int64) (x5 : Int32) (y0 : Int32) (t : cS) : kO := ko_call 2 (cf_128 N X x3 t) (fun g1 v1 => co_i v1 (fun y => cf_223_90 N X x1 x3 x5 y0 y g1))
theorem cr_223_80 {X : Nat → Option zz_C} {s : mS} {N : Nat} {d : Nat} (hd : 10 ≤ d) {Q : zz_O → zz_H → Prop} {x1 : Int64} {x3 : Int64} {x5 : Int32} {y0 : Int32} {h : zz_H} {t t' : cS} {o : kY} (hR : kR h t s) (hf : cf_223_80 N X x1 x3 x5 y0 t = some (t', o)) (k : (∀ h', kR h' t' s → kE o Q h')) : zz_J zp_P zt_tf zt_fd X d zm_223 80 [(0, .ref 58), (1, .long x1), (3, .long x3), (5, .int x5)] [.int y0] h Q := by
  unfold cf_223_80 at hf
  obtain ⟨d', rfl⟩ : ∃ d', d = d' + 1 := ⟨d - 1, by omega⟩
  refine cb_223_80 hR  (fun {h} hR => ?_)
  rcases ko_call_ok hf with ⟨g1, v1, er, hf⟩ | ⟨g1, er, hq⟩
  · obtain ⟨y, hv, hf2⟩ := co_i_ok hf
    clear hf
    have hf := hf2
    clear hf2
    subst hv
    refine cr_128 (by omega) hR er (fun h hR => ?_)
    exact cr_223_90 hd hR hf k
  · refine cr_128 (by omega) hR er (fun h hR => ?_)
    exact ko_thrown hq hR k
def cf_223_73 (N : Nat) (X : Nat → Option zz_C) (x1 : Int64) (x3 : Int64) (x5 : Int32) (t : cS) : kO := ko_call 2 (cf_122 N X  t) (fun g1 v1 => co_i v1 (fun y => cf_223_80 N X x1 x3 x5 y g1))
theorem cr_223_73 {X : Nat → Option zz_C} {s : mS} {N : Nat} {d : Nat} (hd : 10 ≤ d) {Q : zz_O → zz_H → Prop} {x1 : Int64} {x3 : Int64} {x5 : Int32} {h : zz_H} {t t' : cS} {o : kY} (hR : kR h t s) (hf : cf_223_73 N X x1 x3 x5 t = some (t', o)) (k : (∀ h', kR h' t' s → kE o Q h')) : zz_J zp_P zt_tf zt_fd X d zm_223 73 [(0, .ref 58), (1, .long x1), (3, .long x3), (5, .int x5)] [] h Q := by
  unfold cf_223_73 at hf
  obtain ⟨d', rfl⟩ : ∃ d', d = d' + 1 := ⟨d - 1, by omega⟩
  refine cb_223_73 hR  (fun {h} hR => ?_)
  rcases ko_call_ok hf with ⟨g1, v1, er, hf⟩ | ⟨g1, er, hq⟩
  · obtain ⟨y, hv, hf2⟩ := co_i_ok hf
    clear hf
    have hf := hf2
    clear hf2
    subst hv
    refine cr_122 (by omega) hR er (fun h hR => ?_)
    exact cr_223_80 hd hR hf k
  · refine cr_122 (by omega) hR er (fun h hR => ?_)
    exact ko_thrown hq hR k
def cf_223_72 (N : Nat) (X : Nat → Option zz_C) (y0 : Int64) (t : cS) : kO := some (t, .inl (some (.long y0)))
theorem cr_223_72 {X : Nat → Option zz_C} {s : mS} {N : Nat} {d : Nat} (hd : 10 ≤ d) {Q : zz_O → zz_H → Prop} {y0 : Int64} {h : zz_H} {t t' : cS} {o : kY} (hR : kR h t s) (hf : cf_223_72 N X y0 t = some (t', o)) (k : (∀ h', kR h' t' s → kE o Q h')) : zz_J zp_P zt_tf zt_fd X d zm_223 72 [] [.long y0] h Q := by
  unfold cf_223_72 at hf
  cases hf
  exact cb_223_72 hR  (fun {h} hR => k h hR)
def cf_223_59 (N : Nat) (X : Nat → Option zz_C) (y0 : Int64) (t : cS) : kO := cf_223_72 N X y0 t
theorem cr_223_59 {X : Nat → Option zz_C} {s : mS} {N : Nat} {d : Nat} (hd : 10 ≤ d) {Q : zz_O → zz_H → Prop} {y0 : Int64} {h : zz_H} {t t' : cS} {o : kY} (hR : kR h t s) (hf : cf_223_59 N X y0 t = some (t', o)) (k : (∀ h', kR h' t' s → kE o Q h')) : zz_J zp_P zt_tf zt_fd X d zm_223 59 [] [.long y0] h Q := by
  unfold cf_223_59 at hf
  exact cb_223_59 hR  (fun hR => cr_223_72 hd hR hf k)
def cf_223_55 (N : Nat) (X : Nat → Option zz_C)  (t : cS) : kO := ko_call 1000 (cf_254 N X 5 t) (fun g1 v1 => co_l v1 (fun y => cf_223_59 N X y g1))
theorem cr_223_55 {X : Nat → Option zz_C} {s : mS} {N : Nat} {d : Nat} (hd : 10 ≤ d) {Q : zz_O → zz_H → Prop}  {h : zz_H} {t t' : cS} {o : kY} (hR : kR h t s) (hf : cf_223_55 N X  t = some (t', o)) (k : (∀ h', kR h' t' s → kE o Q h')) : zz_J zp_P zt_tf zt_fd X d zm_223 55 [] [] h Q := by
  unfold cf_223_55 at hf
  obtain ⟨d', rfl⟩ : ∃ d', d = d' + 1 := ⟨d - 1, by omega⟩
  refine cb_223_55 hR  (fun {h} hR => ?_)
  rcases ko_call_ok hf with ⟨g1, v1, er, hf⟩ | ⟨g1, er, hq⟩
  · obtain ⟨y, hv, hf2⟩ := co_l_ok hf
    clear hf
    have hf := hf2
    clear hf2
    subst hv
    refine cr_254 (by omega) hR er (fun h hR => ?_)
    exact cr_223_59 hd hR hf k
  · refine cr_254 (by omega) hR er (fun h hR => ?_)
    exact ko_thrown hq hR k
def cf_223_62 (N : Nat) (X : Nat → Option zz_C) (x1 : Int64) (x6 : Int32) (t : cS) : kO := ko_call 2 (cf_129 N X x1 x6 t) (fun g1 v1 => co_l v1 (fun y => cf_223_72 N X y g1))
theorem cr_223_62 {X : Nat → Option zz_C} {s : mS} {N : Nat} {d : Nat} (hd : 10 ≤ d) {Q : zz_O → zz_H → Prop} {x1 : Int64} {x6 : Int32} {h : zz_H} {t t' : cS} {o : kY} (hR : kR h t s) (hf : cf_223_62 N X x1 x6 t = some (t', o)) (k : (∀ h', kR h' t' s → kE o Q h')) : zz_J zp_P zt_tf zt_fd X d zm_223 62 [(0, .ref 58), (1, .long x1), (6, .int x6)] [] h Q := by
  unfold cf_223_62 at hf
  obtain ⟨d', rfl⟩ : ∃ d', d = d' + 1 := ⟨d - 1, by omega⟩
  refine cb_223_62 hR  (fun {h} hR => ?_)
  rcases ko_call_ok hf with ⟨g1, v1, er, hf⟩ | ⟨g1, er, hq⟩
  · obtain ⟨y, hv, hf2⟩ := co_l_ok hf
    clear hf
    have hf := hf2
    clear hf2
    subst hv
    refine cr_129 (by omega) hR er (fun h hR => ?_)
    exact cr_223_72 hd hR hf k
  · refine cr_129 (by omega) hR er (fun h hR => ?_)
    exact ko_thrown hq hR k
def cf_223_48 (N : Nat) (X : Nat → Option zz_C) (x1 : Int64) (x5 : Int32) (x6 : Int32) (t : cS) : kO := if x6 < x5 then cf_223_62 N X x1 x6 t else cf_223_55 N X  t
theorem cr_223_48 {X : Nat → Option zz_C} {s : mS} {N : Nat} {d : Nat} (hd : 10 ≤ d) {Q : zz_O → zz_H → Prop} {x1 : Int64} {x5 : Int32} {x6 : Int32} {h : zz_H} {t t' : cS} {o : kY} (hR : kR h t s) (hf : cf_223_48 N X x1 x5 x6 t = some (t', o)) (k : (∀ h', kR h' t' s → kE o Q h')) : zz_J zp_P zt_tf zt_fd X d zm_223 48 [(0, .ref 58), (1, .long x1), (5, .int x5), (6, .int x6)] [] h Q := by
  unfold cf_223_48 at hf
  refine cb_223_48 hR  (fun c {h} hR => ?_) (fun c {h} hR => ?_)
  · rw [if_pos c] at hf
    exact cr_223_62 hd hR hf k
  · rw [if_neg c] at hf
    exact cr_223_55 hd hR hf k
def cf_223_41 (N : Nat) (X : Nat → Option zz_C) (x1 : Int64) (x5 : Int32) (y0 : Int32) (t : cS) : kO := if y0 < 0 then cf_223_55 N X  t else cf_223_48 N X x1 x5 y0 t
theorem cr_223_41 {X : Nat → Option zz_C} {s : mS} {N : Nat} {d : Nat} (hd : 10 ≤ d) {Q : zz_O → zz_H → Prop} {x1 : Int64} {x5 : Int32} {y0 : Int32} {h : zz_H} {t t' : cS} {o : kY} (hR : kR h t s) (hf : cf_223_41 N X x1 x5 y0 t = some (t', o)) (k : (∀ h', kR h' t' s → kE o Q h')) : zz_J zp_P zt_tf zt_fd X d zm_223 41 [(0, .ref 58), (1, .long x1), (5, .int x5)] [.int y0] h Q := by
  unfold cf_223_41 at hf
  refine cb_223_41 hR  (fun c {h} hR => ?_) (fun c {h} hR => ?_)
  · rw [if_pos c] at hf
    exact cr_223_55 hd hR hf k
  · rw [if_neg c] at hf
    exact cr_223_48 hd hR hf k
def cf_223_37 (N : Nat) (X : Nat → Option zz_C) (x1 : Int64) (x3 : Int64) (x5 : Int32) (t : cS) : kO := ko_call 1000 (cf_256 N X x3 t) (fun g1 v1 => co_i v1 (fun y => cf_223_41 N X x1 x5 y g1))
theorem cr_223_37 {X : Nat → Option zz_C} {s : mS} {N : Nat} {d : Nat} (hd : 10 ≤ d) {Q : zz_O → zz_H → Prop} {x1 : Int64} {x3 : Int64} {x5 : Int32} {h : zz_H} {t t' : cS} {o : kY} (hR : kR h t s) (hf : cf_223_37 N X x1 x3 x5 t = some (t', o)) (k : (∀ h', kR h' t' s → kE o Q h')) : zz_J zp_P zt_tf zt_fd X d zm_223 37 [(0, .ref 58), (1, .long x1), (3, .long x3), (5, .int x5)] [] h Q := by
  unfold cf_223_37 at hf
  obtain ⟨d', rfl⟩ : ∃ d', d = d' + 1 := ⟨d - 1, by omega⟩
  refine cb_223_37 hR  (fun {h} hR => ?_)
  rcases ko_call_ok hf with ⟨g1, v1, er, hf⟩ | ⟨g1, er, hq⟩
  · obtain ⟨y, hv, hf2⟩ := co_i_ok hf
    clear hf
    have hf := hf2
    clear hf2
    subst hv
    refine cr_256 (by omega) hR er (fun h hR => ?_)
    exact cr_223_41 hd hR hf k
  · refine cr_256 (by omega) hR er (fun h hR => ?_)
    exact ko_thrown hq hR k
def cf_223_34 (N : Nat) (X : Nat → Option zz_C) (x1 : Int64) (x3 : Int64) (x5 : Int32) (y0 : Int32) (t : cS) : kO := if ¬ y0 = 0 then cf_223_73 N X x1 x3 x5 t else cf_223_37 N X x1 x3 x5 t
theorem cr_223_34 {X : Nat → Option zz_C} {s : mS} {N : Nat} {d : Nat} (hd : 10 ≤ d) {Q : zz_O → zz_H → Prop} {x1 : Int64} {x3 : Int64} {x5 : Int32} {y0 : Int32} {h : zz_H} {t t' : cS} {o : kY} (hR : kR h t s) (hf : cf_223_34 N X x1 x3 x5 y0 t = some (t', o)) (k : (∀ h', kR h' t' s → kE o Q h')) : zz_J zp_P zt_tf zt_fd X d zm_223 34 [(0, .ref 58), (1, .long x1), (3, .long x3), (5, .int x5)] [.int y0] h Q := by
  unfold cf_223_34 at hf
  refine cb_223_34 hR  (fun c {h} hR => ?_) (fun c {h} hR => ?_)
  · rw [if_pos c] at hf
    exact cr_223_73 hd hR hf k
  · rw [if_neg c] at hf
    exact cr_223_37 hd hR hf k
def cf_223_30 (N : Nat) (X : Nat → Option zz_C) (x1 : Int64) (x3 : Int64) (x5 : Int32) (t : cS) : kO := ko_call 1000 (cf_255 N X x3 t) (fun g1 v1 => co_i v1 (fun y => cf_223_34 N X x1 x3 x5 y g1))
theorem cr_223_30 {X : Nat → Option zz_C} {s : mS} {N : Nat} {d : Nat} (hd : 10 ≤ d) {Q : zz_O → zz_H → Prop} {x1 : Int64} {x3 : Int64} {x5 : Int32} {h : zz_H} {t t' : cS} {o : kY} (hR : kR h t s) (hf : cf_223_30 N X x1 x3 x5 t = some (t', o)) (k : (∀ h', kR h' t' s → kE o Q h')) : zz_J zp_P zt_tf zt_fd X d zm_223 30 [(0, .ref 58), (1, .long x1), (3, .long x3), (5, .int x5)] [] h Q := by
  unfold cf_223_30 at hf
  obtain ⟨d', rfl⟩ : ∃ d', d = d' + 1 := ⟨d - 1, by omega⟩
  refine cb_223_30 hR  (fun {h} hR => ?_)
  rcases ko_call_ok hf with ⟨g1, v1, er, hf⟩ | ⟨g1, er, hq⟩
  · obtain ⟨y, hv, hf2⟩ := co_i_ok hf
    clear hf
    have hf := hf2
    clear hf2
    subst hv
    refine cr_255 (by omega) hR er (fun h hR => ?_)
    exact cr_223_34 hd hR hf k
  · refine cr_255 (by omega) hR er (fun h hR => ?_)
    exact ko_thrown hq hR k
def cf_223_21 (N : Nat) (X : Nat → Option zz_C) (x1 : Int64) (x3 : Int64) (x5 : Int32) (y0 : Int32) (t : cS) : kO := if y0 ≤ 1 then cf_223_30 N X x1 x3 x5 t else cf_223_25 N X  t
theorem cr_223_21 {X : Nat → Option zz_C} {s : mS} {N : Nat} {d : Nat} (hd : 10 ≤ d) {Q : zz_O → zz_H → Prop} {x1 : Int64} {x3 : Int64} {x5 : Int32} {y0 : Int32} {h : zz_H} {t t' : cS} {o : kY} (hR : kR h t s) (hf : cf_223_21 N X x1 x3 x5 y0 t = some (t', o)) (k : (∀ h', kR h' t' s → kE o Q h')) : zz_J zp_P zt_tf zt_fd X d zm_223 21 [(0, .ref 58), (1, .long x1), (3, .long x3), (5, .int x5)] [.int y0] h Q := by
  unfold cf_223_21 at hf
  refine cb_223_21 hR  (fun c {h} hR => ?_) (fun c {h} hR => ?_)
  · rw [if_pos c] at hf
    exact cr_223_30 hd hR hf k
  · rw [if_neg c] at hf
    exact cr_223_25 hd hR hf k
def cf_223_17 (N : Nat) (X : Nat → Option zz_C) (x1 : Int64) (x3 : Int64) (x5 : Int32) (t : cS) : kO := ko_call 1000 (cf_255 N X x3 t) (fun g1 v1 => co_i v1 (fun y => cf_223_21 N X x1 x3 x5 y g1))
theorem cr_223_17 {X : Nat → Option zz_C} {s : mS} {N : Nat} {d : Nat} (hd : 10 ≤ d) {Q : zz_O → zz_H → Prop} {x1 : Int64} {x3 : Int64} {x5 : Int32} {h : zz_H} {t t' : cS} {o : kY} (hR : kR h t s) (hf : cf_223_17 N X x1 x3 x5 t = some (t', o)) (k : (∀ h', kR h' t' s → kE o Q h')) : zz_J zp_P zt_tf zt_fd X d zm_223 17 [(0, .ref 58), (1, .long x1), (3, .long x3), (5, .int x5)] [] h Q := by
  unfold cf_223_17 at hf
  obtain ⟨d', rfl⟩ : ∃ d', d = d' + 1 := ⟨d - 1, by omega⟩
  refine cb_223_17 hR  (fun {h} hR => ?_)
  rcases ko_call_ok hf with ⟨g1, v1, er, hf⟩ | ⟨g1, er, hq⟩
  · obtain ⟨y, hv, hf2⟩ := co_i_ok hf
    clear hf
    have hf := hf2
    clear hf2
    subst hv
    refine cr_255 (by omega) hR er (fun h hR => ?_)
    exact cr_223_21 hd hR hf k
  · refine cr_255 (by omega) hR er (fun h hR => ?_)
    exact ko_thrown hq hR k
def cf_223_14 (N : Nat) (X : Nat → Option zz_C) (x1 : Int64) (x3 : Int64) (x5 : Int32) (y0 : Int32) (t : cS) : kO := if y0 = 0 then cf_223_25 N X  t else cf_223_17 N X x1 x3 x5 t
theorem cr_223_14 {X : Nat → Option zz_C} {s : mS} {N : Nat} {d : Nat} (hd : 10 ≤ d) {Q : zz_O → zz_H → Prop} {x1 : Int64} {x3 : Int64} {x5 : Int32} {y0 : Int32} {h : zz_H} {t t' : cS} {o : kY} (hR : kR h t s) (hf : cf_223_14 N X x1 x3 x5 y0 t = some (t', o)) (k : (∀ h', kR h' t' s → kE o Q h')) : zz_J zp_P zt_tf zt_fd X d zm_223 14 [(0, .ref 58), (1, .long x1), (3, .long x3), (5, .int x5)] [.int y0] h Q := by
  unfold cf_223_14 at hf
  refine cb_223_14 hR  (fun c {h} hR => ?_) (fun c {h} hR => ?_)
  · rw [if_pos c] at hf
    exact cr_223_25 hd hR hf k
  · rw [if_neg c] at hf
    exact cr_223_17 hd hR hf k
def cf_223_8 (N : Nat) (X : Nat → Option zz_C) (x1 : Int64) (x3 : Int64) (y0 : Int32) (t : cS) : kO := ko_call 1000 (cf_255 N X x1 t) (fun g1 v1 => co_i v1 (fun y => cf_223_14 N X x1 x3 y0 y g1))
theorem cr_223_8 {X : Nat → Option zz_C} {s : mS} {N : Nat} {d : Nat} (hd : 10 ≤ d) {Q : zz_O → zz_H → Prop} {x1 : Int64} {x3 : Int64} {y0 : Int32} {h : zz_H} {t t' : cS} {o : kY} (hR : kR h t s) (hf : cf_223_8 N X x1 x3 y0 t = some (t', o)) (k : (∀ h', kR h' t' s → kE o Q h')) : zz_J zp_P zt_tf zt_fd X d zm_223 8 [(0, .ref 58), (1, .long x1), (3, .long x3)] [.int y0] h Q := by
  unfold cf_223_8 at hf
  obtain ⟨d', rfl⟩ : ∃ d', d = d' + 1 := ⟨d - 1, by omega⟩
  refine cb_223_8 hR  (fun {h} hR => ?_)
  rcases ko_call_ok hf with ⟨g1, v1, er, hf⟩ | ⟨g1, er, hq⟩
  · obtain ⟨y, hv, hf2⟩ := co_i_ok hf
    clear hf
    have hf := hf2
    clear hf2
    subst hv
    refine cr_255 (by omega) hR er (fun h hR => ?_)
    exact cr_223_14 hd hR hf k
  · refine cr_255 (by omega) hR er (fun h hR => ?_)
    exact ko_thrown hq hR k
def cf_223_0 (N : Nat) (X : Nat → Option zz_C) (x1 : Int64) (x3 : Int64) (t : cS) : kO := ko_call 2 (cf_128 N X x1 t) (fun g1 v1 => co_i v1 (fun y => cf_223_8 N X x1 x3 y g1))
theorem cr_223_0 {X : Nat → Option zz_C} {s : mS} {N : Nat} {d : Nat} (hd : 10 ≤ d) {Q : zz_O → zz_H → Prop} {x1 : Int64} {x3 : Int64} {h : zz_H} {t t' : cS} {o : kY} (hR : kR h t s) (hf : cf_223_0 N X x1 x3 t = some (t', o)) (k : (∀ h', kR h' t' s → kE o Q h')) : zz_J zp_P zt_tf zt_fd X d zm_223 0 [(0, .ref 58), (1, .long x1), (3, .long x3)] [] h Q := by
  unfold cf_223_0 at hf
  obtain ⟨d', rfl⟩ : ∃ d', d = d' + 1 := ⟨d - 1, by omega⟩
  refine cb_223_0 hR  (fun {h} hR => ?_)
  rcases ko_call_ok hf with ⟨g1, v1, er, hf⟩ | ⟨g1, er, hq⟩
  · obtain ⟨y, hv, hf2⟩ := co_i_ok hf
    clear hf
    have hf := hf2
    clear hf2
    subst hv
    refine cr_128 (by omega) hR er (fun h hR => ?_)
    exact cr_223_8 hd hR hf k
  · refine cr_128 (by omega) hR er (fun h hR => ?_)
    exact ko_thrown hq hR k
/-- index -/
def cf_223 (N : Nat) (X : Nat → Option zz_C) (x1 : Int64) (x3 : Int64) (t : cS) : kO := cf_223_0 N X x1 x3 t
theorem cr_223 {X : Nat → Option zz_C} {s : mS} {N : Nat} {d : Nat} (hd : 10 ≤ d) {Q : zz_O → zz_H → Prop} {x1 : Int64} {x3 : Int64} {h : zz_H} {t t' : cS} {o : kY} (hR : kR h t s) (hf : cf_223 N X x1 x3 t = some (t', o)) (k : ∀ h', kR h' t' s → kE o Q h') : zz_J zp_P zt_tf zt_fd X d zm_223 0 [(0, .ref 58), (1, .long x1), (3, .long x3)] [] h Q := by
  unfold cf_223 at hf
  exact zz_J.weak (cr_223_0 hd hR hf k) rfl ⟨rfl, rfl, rfl, trivial⟩
/-! yX1_turnedBack (J)J -/
theorem cb_102_0 {X : Nat → Option zz_C} {h : zz_H} {t : cS} {s : mS} {d : Nat} {Q : zz_O → zz_H → Prop} {x1 : Int64} (hR : kR h t s) (k : ∀ {h : zz_H}, kR h t s → zz_J zp_P zt_tf zt_fd X d zm_255 0 [(0, .long x1)] [] h (zz_after 1000 Q (fun v h' => zz_J zp_P zt_tf zt_fd X (d + 1) zm_102 4 [(0, .ref 59), (1, .long x1)] (v.toList ++ []) h' Q))) : zz_J zp_P zt_tf zt_fd X (d + 1) zm_102 0 [(0, .ref 59), (1, .long x1)] [] h Q := by
  refine zz_J.n 1 rfl rfl rfl ?_
  refine zz_J.cl (M' := zm_255) 4 rfl rfl (by decide) rfl rfl ⟨rfl, Nat.le_of_ble_eq_true rfl⟩ rfl ?_
  refine zz_J.mono (k hR) ?_
  intro o h' hE
  cases o with
  | inl v => exact zz_J.weak hE rfl ⟨rfl, rfl, trivial⟩
  | inr q => exact hE
theorem cb_102_4 {X : Nat → Option zz_C} {h : zz_H} {t : cS} {s : mS} {d : Nat} {Q : zz_O → zz_H → Prop} {x1 : Int64} {y0 : Int32} (hR : kR h t s) (k1 : ¬ y0 = 0 → (∀ {h : zz_H}, kR h t s → zz_J zp_P zt_tf zt_fd X d zm_102 12 [(0, .ref 59), (1, .long x1)] [] h Q)) (k2 : ¬ ¬ y0 = 0 → (∀ {h : zz_H}, kR h t s → zz_J zp_P zt_tf zt_fd X d zm_102 7 [] [] h Q)) : zz_J zp_P zt_tf zt_fd X d zm_102 4 [(0, .ref 59), (1, .long x1)] [.int y0] h Q := by
  refine zz_J.b1 12 7 (A := ¬ y0 = 0) rfl (zz_cond_ne _ _) (by decide) rfl rfl (fun c => ?_) (fun c => ?_)
  · exact zz_J.weak (k1 c hR) rfl ⟨rfl, rfl, trivial⟩
  · exact zz_J.weak (k2 c hR) rfl trivial
theorem cb_102_7 {X : Nat → Option zz_C} {h : zz_H} {t : cS} {s : mS} {d : Nat} {Q : zz_O → zz_H → Prop}  (hR : kR h t s) (k : ∀ {h : zz_H}, kR h t s → zz_J zp_P zt_tf zt_fd X d zm_254 0 [(0, .int 3)] [] h (zz_after 1000 Q (fun v h' => zz_J zp_P zt_tf zt_fd X (d + 1) zm_102 11 [] (v.toList ++ []) h' Q))) : zz_J zp_P zt_tf zt_fd X (d + 1) zm_102 7 [] [] h Q := by
  refine zz_J.c 8 (.int 3) rfl rfl rfl rfl ?_
  refine zz_J.cl (M' := zm_254) 11 rfl rfl (by decide) rfl rfl ⟨rfl, Nat.le_of_ble_eq_true rfl⟩ rfl ?_
  refine zz_J.mono (k hR) ?_
  intro o h' hE
  cases o with
  | inl v => exact zz_J.weak hE rfl trivial
  | inr q => exact hE
theorem cb_102_11 {X : Nat → Option zz_C} {h : zz_H} {t : cS} {s : mS} {d : Nat} {Q : zz_O → zz_H → Prop} {y0 : Int64} (hR : kR h t s) (k : ∀ {h : zz_H}, kR h t s → Q (.inl (some (.long y0))) h) : zz_J zp_P zt_tf zt_fd X d zm_102 11 [] [.long y0] h Q := by
  refine zz_J.ret rfl rfl rfl ?_
  exact k hR
theorem cb_102_12 {X : Nat → Option zz_C} {h : zz_H} {t : cS} {s : mS} {d : Nat} {Q : zz_O → zz_H → Prop} {x1 : Int64} (hR : kR h t s) (k : ∀ {h : zz_H}, kR h t s → zz_J zp_P zt_tf zt_fd X d zm_122 0 [(0, .ref 42)] [] h (zz_after 2 Q (fun v h' => zz_J zp_P zt_tf zt_fd X (d + 1) zm_102 19 [(0, .ref 59), (1, .long x1)] (v.toList ++ []) h' Q))) : zz_J zp_P zt_tf zt_fd X (d + 1) zm_102 12 [(0, .ref 59), (1, .long x1)] [] h Q := by
  refine zz_J.n 13 rfl rfl rfl ?_
  refine zz_J.g 16 rfl (hR.gv (v := .ref 42) ko_59 (by decide) rfl) rfl ?_
  refine zz_J.cv 19 (as := []) rfl rfl (hR.clO ko_42 (by decide) (by decide)) (by decide) (Nat.le_of_ble_eq_true rfl) (Nat.le_of_ble_eq_true rfl) rfl (Nat.le_of_ble_eq_true rfl) rfl ?_
  refine zz_J.mono (k hR) ?_
  intro o h' hE
  cases o with
  | inl v => exact zz_J.weak hE rfl ⟨rfl, rfl, trivial⟩
  | inr q => exact hE
theorem cb_102_19 {X : Nat → Option zz_C} {h : zz_H} {t : cS} {s : mS} {d : Nat} {Q : zz_O → zz_H → Prop} {x1 : Int64} {y0 : Int32} (hR : kR h t s) (k : ∀ {h : zz_H}, kR h t s → zz_J zp_P zt_tf zt_fd X d zm_128 0 [(0, .ref 42), (1, .long x1)] [] h (zz_after 2 Q (fun v h' => zz_J zp_P zt_tf zt_fd X (d + 1) zm_102 28 [(0, .ref 59), (1, .long x1), (3, .int y0)] (v.toList ++ []) h' Q))) : zz_J zp_P zt_tf zt_fd X (d + 1) zm_102 19 [(0, .ref 59), (1, .long x1)] [.int y0] h Q := by
  refine zz_J.n 20 rfl rfl rfl ?_
  refine zz_J.n 21 rfl rfl rfl ?_
  refine zz_J.g 24 rfl (hR.gv (v := .ref 42) ko_59 (by decide) rfl) rfl ?_
  refine zz_J.n 25 rfl rfl rfl ?_
  refine zz_J.cv 28 (as := []) rfl rfl (hR.clO ko_42 (by decide) (by decide)) (by decide) (Nat.le_of_ble_eq_true rfl) (Nat.le_of_ble_eq_true rfl) rfl (Nat.le_of_ble_eq_true rfl) rfl ?_
  refine zz_J.mono (k hR) ?_
  intro o h' hE
  cases o with
  | inl v => exact zz_J.weak hE rfl ⟨rfl, rfl, rfl, trivial⟩
  | inr q => exact hE
theorem cb_102_28 {X : Nat → Option zz_C} {h : zz_H} {t : cS} {s : mS} {d : Nat} {Q : zz_O → zz_H → Prop} {x1 : Int64} {x3 : Int32} {y0 : Int32} (hR : kR h t s) (k : ∀ {h : zz_H}, kR h t s → zz_J zp_P zt_tf zt_fd X d zm_102 32 [(0, .ref 59), (1, .long x1), (3, .int x3), (4, .int (y0 - 1))] [] h Q) : zz_J zp_P zt_tf zt_fd X d zm_102 28 [(0, .ref 59), (1, .long x1), (3, .int x3)] [.int y0] h Q := by
  refine zz_J.c 29 (.int 1) rfl rfl rfl rfl ?_
  refine zz_J.n 30 rfl rfl rfl ?_
  refine zz_J.n 32 rfl rfl rfl ?_
  exact zz_J.weak (k hR) rfl ⟨rfl, rfl, rfl, rfl, trivial⟩
theorem cb_102_32 {X : Nat → Option zz_C} {h : zz_H} {t : cS} {s : mS} {d : Nat} {Q : zz_O → zz_H → Prop} {x1 : Int64} {x3 : Int32} {x4 : Int32} (hR : kR h t s) (k1 : x4 < 0 → (∀ {h : zz_H}, kR h t s → zz_J zp_P zt_tf zt_fd X d zm_102 60 [(0, .ref 59), (1, .long x1), (3, .int x3)] [] h Q)) (k2 : ¬ x4 < 0 → (∀ {h : zz_H}, kR h t s → zz_J zp_P zt_tf zt_fd X d zm_102 37 [(0, .ref 59), (1, .long x1), (3, .int x3), (4, .int x4)] [] h Q)) : zz_J zp_P zt_tf zt_fd X d zm_102 32 [(0, .ref 59), (1, .long x1), (3, .int x3), (4, .int x4)] [] h Q := by
  refine zz_J.n 34 rfl rfl rfl ?_
  refine zz_J.b1 60 37 (A := x4 < 0) rfl rfl (by decide) rfl rfl (fun c => ?_) (fun c => ?_)
  · exact zz_J.weak (k1 c hR) rfl ⟨rfl, rfl, rfl, trivial⟩
  · exact zz_J.weak (k2 c hR) rfl ⟨rfl, rfl, rfl, rfl, trivial⟩
theorem cb_102_37 {X : Nat → Option zz_C} {h : zz_H} {t : cS} {s : mS} {d : Nat} {Q : zz_O → zz_H → Prop} {x1 : Int64} {x3 : Int32} {x4 : Int32} (hR : kR h t s) (k : ∀ {h : zz_H}, kR h t s → zz_J zp_P zt_tf zt_fd X d zm_129 0 [(0, .ref 42), (1, .long x1), (3, .int x4)] [] h (zz_after 2 Q (fun v h' => zz_J zp_P zt_tf zt_fd X (d + 1) zm_102 51 [(0, .ref 59), (1, .long x1), (3, .int x3), (4, .int x4)] (v.toList ++ [.ref 42]) h' Q))) : zz_J zp_P zt_tf zt_fd X (d + 1) zm_102 37 [(0, .ref 59), (1, .long x1), (3, .int x3), (4, .int x4)] [] h Q := by
  refine zz_J.n 38 rfl rfl rfl ?_
  refine zz_J.g 41 rfl (hR.gv (v := .ref 42) ko_59 (by decide) rfl) rfl ?_
  refine zz_J.n 42 rfl rfl rfl ?_
  refine zz_J.g 45 rfl (hR.gv (v := .ref 42) ko_59 (by decide) rfl) rfl ?_
  refine zz_J.n 46 rfl rfl rfl ?_
  refine zz_J.n 48 rfl rfl rfl ?_
  refine zz_J.cv 51 (as := [.ref 42]) rfl rfl (hR.clO ko_42 (by decide) (by decide)) (by decide) (Nat.le_of_ble_eq_true rfl) (Nat.le_of_ble_eq_true rfl) rfl (Nat.le_of_ble_eq_true rfl) rfl ?_
  refine zz_J.mono (k hR) ?_
  intro o h' hE
  cases o with
  | inl v => exact zz_J.weak hE rfl ⟨rfl, rfl, rfl, rfl, trivial⟩
  | inr q => exact hE
theorem cb_102_51 {X : Nat → Option zz_C} {h : zz_H} {t : cS} {s : mS} {d : Nat} {Q : zz_O → zz_H → Prop} {x1 : Int64} {x3 : Int32} {x4 : Int32} {y1 : Int64} (hR : kR h t s) (k : ∀ {h : zz_H}, kR h t s → zz_J zp_P zt_tf zt_fd X d zm_123 0 [(0, .ref 42), (1, .long y1)] [] h (zz_after 2 Q (fun v h' => zz_J zp_P zt_tf zt_fd X (d + 1) zm_102 54 [(0, .ref 59), (1, .long x1), (3, .int x3), (4, .int x4)] (v.toList ++ []) h' Q))) : zz_J zp_P zt_tf zt_fd X (d + 1) zm_102 51 [(0, .ref 59), (1, .long x1), (3, .int x3), (4, .int x4)] [.long y1, .ref 42] h Q := by
  refine zz_J.cv 54 (as := []) rfl rfl (hR.clO ko_42 (by decide) (by decide)) (by decide) (Nat.le_of_ble_eq_true rfl) (Nat.le_of_ble_eq_true rfl) rfl (Nat.le_of_ble_eq_true rfl) rfl ?_
  refine zz_J.mono (k hR) ?_
  intro o h' hE
  cases o with
  | inl v => exact zz_J.weak hE rfl ⟨rfl, rfl, rfl, rfl, trivial⟩
  | inr q => exact hE
theorem cb_102_54 {X : Nat → Option zz_C} {h : zz_H} {t : cS} {s : mS} {d : Nat} {Q : zz_O → zz_H → Prop} {x1 : Int64} {x3 : Int32} {x4 : Int32} (hR : kR h t s) (k : ∀ {h : zz_H}, kR h t s → zz_J zp_P zt_tf zt_fd X d zm_102 32 [(0, .ref 59), (1, .long x1), (3, .int x3), (4, .int (x4 + (-1)))] [] h Q) : zz_J zp_P zt_tf zt_fd X d zm_102 54 [(0, .ref 59), (1, .long x1), (3, .int x3), (4, .int x4)] [] h Q := by
  refine zz_J.n 57 rfl rfl rfl ?_
  refine zz_J.n 32 rfl rfl rfl ?_
  exact zz_J.weak (k hR) rfl ⟨rfl, rfl, rfl, rfl, trivial⟩
theorem cb_102_60 {X : Nat → Option zz_C} {h : zz_H} {t : cS} {s : mS} {d : Nat} {Q : zz_O → zz_H → Prop} {x1 : Int64} {x3 : Int32} (hR : kR h t s) (k : ∀ {h : zz_H}, kR h t s → zz_J zp_P zt_tf zt_fd X d zm_255 0 [(0, .long x1)] [] h (zz_after 1000 Q (fun v h' => zz_J zp_P zt_tf zt_fd X (d + 1) zm_102 68 [(3, .int x3)] (v.toList ++ [.ref 42]) h' Q))) : zz_J zp_P zt_tf zt_fd X (d + 1) zm_102 60 [(0, .ref 59), (1, .long x1), (3, .int x3)] [] h Q := by
  refine zz_J.n 61 rfl rfl rfl ?_
  refine zz_J.g 64 rfl (hR.gv (v := .ref 42) ko_59 (by decide) rfl) rfl ?_
  refine zz_J.n 65 rfl rfl rfl ?_
  refine zz_J.cl (M' := zm_255) 68 rfl rfl (by decide) rfl rfl ⟨rfl, Nat.le_of_ble_eq_true rfl⟩ rfl ?_
  refine zz_J.mono (k hR) ?_
  intro o h' hE
  cases o with
  | inl v => exact zz_J.weak hE rfl ⟨rfl, trivial⟩
  | inr q => exact hE
theorem cb_102_68 {X : Nat → Option zz_C} {h : zz_H} {t : cS} {s : mS} {d : Nat} {Q : zz_O → zz_H → Prop} {x3 : Int32} {y1 : Int32} (hR : kR h t s) (k : ∀ {h : zz_H}, kR h t s → zz_J zp_P zt_tf zt_fd X d zm_126 0 [(0, .ref 42), (1, .int y1), (2, .int x3)] [] h (zz_after 2 Q (fun v h' => zz_J zp_P zt_tf zt_fd X (d + 1) zm_102 72 [] (v.toList ++ []) h' Q))) : zz_J zp_P zt_tf zt_fd X (d + 1) zm_102 68 [(3, .int x3)] [.int y1, .ref 42] h Q := by
  refine zz_J.n 69 rfl rfl rfl ?_
  refine zz_J.cv 72 (as := []) rfl rfl (hR.clO ko_42 (by decide) (by decide)) (by decide) (Nat.le_of_ble_eq_true rfl) (Nat.le_of_ble_eq_true rfl) rfl (Nat.le_of_ble_eq_true rfl) rfl ?_
  refine zz_J.mono (k hR) ?_
  intro o h' hE
  cases o with
  | inl v => exact zz_J.weak hE rfl trivial
  | inr q => exact hE
theorem cb_102_72 {X : Nat → Option zz_C} {h : zz_H} {t : cS} {s : mS} {d : Nat} {Q : zz_O → zz_H → Prop} {y0 : Int64} (hR : kR h t s) (k : ∀ {h : zz_H}, kR h t s → Q (.inl (some (.long y0))) h) : zz_J zp_P zt_tf zt_fd X d zm_102 72 [] [.long y0] h Q := by
  refine zz_J.ret rfl rfl rfl ?_
  exact k hR
def cf_102_72 (N : Nat) (X : Nat → Option zz_C) (y0 : Int64) (t : cS) : kO := some (t, .inl (some (.long y0)))
theorem cr_102_72 {X : Nat → Option zz_C} {s : mS} {N : Nat} {d : Nat} (hd : 10 ≤ d) {Q : zz_O → zz_H → Prop} {y0 : Int64} {h : zz_H} {t t' : cS} {o : kY} (hR : kR h t s) (hf : cf_102_72 N X y0 t = some (t', o)) (k : (∀ h', kR h' t' s → kE o Q h')) : zz_J zp_P zt_tf zt_fd X d zm_102 72 [] [.long y0] h Q := by
  unfold cf_102_72 at hf
  cases hf
  exact cb_102_72 hR  (fun {h} hR => k h hR)
def cf_102_68 (N : Nat) (X : Nat → Option zz_C) (x3 : Int32) (y1 : Int32) (t : cS) : kO := ko_call 2 (cf_126 N X y1 x3 t) (fun g1 v1 => co_l v1 (fun y => cf_102_72 N X y g1))
theorem cr_102_68 {X : Nat → Option zz_C} {s : mS} {N : Nat} {d : Nat} (hd : 10 ≤ d) {Q : zz_O → zz_H → Prop} {x3 : Int32} {y1 : Int32} {h : zz_H} {t t' : cS} {o : kY} (hR : kR h t s) (hf : cf_102_68 N X x3 y1 t = some (t', o)) (k : (∀ h', kR h' t' s → kE o Q h')) : zz_J zp_P zt_tf zt_fd X d zm_102 68 [(3, .int x3)] [.int y1, .ref 42] h Q := by
  unfold cf_102_68 at hf
  obtain ⟨d', rfl⟩ : ∃ d', d = d' + 1 := ⟨d - 1, by omega⟩
  refine cb_102_68 hR  (fun {h} hR => ?_)
  rcases ko_call_ok hf with ⟨g1, v1, er, hf⟩ | ⟨g1, er, hq⟩
  · obtain ⟨y, hv, hf2⟩ := co_l_ok hf
    clear hf
    have hf := hf2
    clear hf2
    subst hv
    refine cr_126 (by omega) hR er (fun h hR => ?_)
    exact cr_102_72 hd hR hf k
  · refine cr_126 (by omega) hR er (fun h hR => ?_)
    exact ko_thrown hq hR k
def cf_102_60 (N : Nat) (X : Nat → Option zz_C) (x1 : Int64) (x3 : Int32) (t : cS) : kO := ko_call 1000 (cf_255 N X x1 t) (fun g1 v1 => co_i v1 (fun y => cf_102_68 N X x3 y g1))
theorem cr_102_60 {X : Nat → Option zz_C} {s : mS} {N : Nat} {d : Nat} (hd : 10 ≤ d) {Q : zz_O → zz_H → Prop} {x1 : Int64} {x3 : Int32} {h : zz_H} {t t' : cS} {o : kY} (hR : kR h t s) (hf : cf_102_60 N X x1 x3 t = some (t', o)) (k : (∀ h', kR h' t' s → kE o Q h')) : zz_J zp_P zt_tf zt_fd X d zm_102 60 [(0, .ref 59), (1, .long x1), (3, .int x3)] [] h Q := by
  unfold cf_102_60 at hf
  obtain ⟨d', rfl⟩ : ∃ d', d = d' + 1 := ⟨d - 1, by omega⟩
  refine cb_102_60 hR  (fun {h} hR => ?_)
  rcases ko_call_ok hf with ⟨g1, v1, er, hf⟩ | ⟨g1, er, hq⟩
  · obtain ⟨y, hv, hf2⟩ := co_i_ok hf
    clear hf
    have hf := hf2
    clear hf2
    subst hv
    refine cr_255 (by omega) hR er (fun h hR => ?_)
    exact cr_102_68 hd hR hf k
  · refine cr_255 (by omega) hR er (fun h hR => ?_)
    exact ko_thrown hq hR k
def cf_102_54 (N : Nat) (X : Nat → Option zz_C) (rc : Nat → Int64 → Int32 → Int32 → cS → kO) (x1 : Int64) (x3 : Int32) (x4 : Int32) (t : cS) : kO := rc 0 x1 x3 (x4 + (-1)) t
theorem cr_102_54 {X : Nat → Option zz_C} {s : mS} {N : Nat} {d : Nat} (hd : 10 ≤ d) {rc : Nat → Int64 → Int32 → Int32 → cS → kO} (hrc0 : ∀ {Q : zz_O → zz_H → Prop} {x1 : Int64} {x3 : Int32} {x4 : Int32} {h : zz_H} {t t' : cS} {o : kY}, kR h t s → rc 0 x1 x3 x4 t = some (t', o) → (∀ h', kR h' t' s → kE o Q h') → zz_J zp_P zt_tf zt_fd X d zm_102 32 [(0, .ref 59), (1, .long x1), (3, .int x3), (4, .int x4)] [] h Q) {Q : zz_O → zz_H → Prop} {x1 : Int64} {x3 : Int32} {x4 : Int32} {h : zz_H} {t t' : cS} {o : kY} (hR : kR h t s) (hf : cf_102_54 N X rc x1 x3 x4 t = some (t', o)) (k : (∀ h', kR h' t' s → kE o Q h')) : zz_J zp_P zt_tf zt_fd X d zm_102 54 [(0, .ref 59), (1, .long x1), (3, .int x3), (4, .int x4)] [] h Q := by
  unfold cf_102_54 at hf
  exact cb_102_54 hR  (fun hR => hrc0 hR hf k)
def cf_102_51 (N : Nat) (X : Nat → Option zz_C) (rc : Nat → Int64 → Int32 → Int32 → cS → kO) (x1 : Int64) (x3 : Int32) (x4 : Int32) (y1 : Int64) (t : cS) : kO := ko_call 2 (cf_123 N X y1 t) (fun g1 v1 => co_v v1 (cf_102_54 N X rc x1 x3 x4 g1))
theorem cr_102_51 {X : Nat → Option zz_C} {s : mS} {N : Nat} {d : Nat} (hd : 10 ≤ d) {rc : Nat → Int64 → Int32 → Int32 → cS → kO} (hrc0 : ∀ {Q : zz_O → zz_H → Prop} {x1 : Int64} {x3 : Int32} {x4 : Int32} {h : zz_H} {t t' : cS} {o : kY}, kR h t s → rc 0 x1 x3 x4 t = some (t', o) → (∀ h', kR h' t' s → kE o Q h') → zz_J zp_P zt_tf zt_fd X d zm_102 32 [(0, .ref 59), (1, .long x1), (3, .int x3), (4, .int x4)] [] h Q) {Q : zz_O → zz_H → Prop} {x1 : Int64} {x3 : Int32} {x4 : Int32} {y1 : Int64} {h : zz_H} {t t' : cS} {o : kY} (hR : kR h t s) (hf : cf_102_51 N X rc x1 x3 x4 y1 t = some (t', o)) (k : (∀ h', kR h' t' s → kE o Q h')) : zz_J zp_P zt_tf zt_fd X d zm_102 51 [(0, .ref 59), (1, .long x1), (3, .int x3), (4, .int x4)] [.long y1, .ref 42] h Q := by
  unfold cf_102_51 at hf
  obtain ⟨d', rfl⟩ : ∃ d', d = d' + 1 := ⟨d - 1, by omega⟩
  refine cb_102_51 hR  (fun {h} hR => ?_)
  rcases ko_call_ok hf with ⟨g1, v1, er, hf⟩ | ⟨g1, er, hq⟩
  · obtain ⟨hv, hf2⟩ := co_v_ok hf
    clear hf
    have hf := hf2
    clear hf2
    subst hv
    refine cr_123 (by omega) hR er (fun h hR => ?_)
    exact cr_102_54 hd hrc0 hR hf k
  · refine cr_123 (by omega) hR er (fun h hR => ?_)
    exact ko_thrown hq hR k
def cf_102_37 (N : Nat) (X : Nat → Option zz_C) (rc : Nat → Int64 → Int32 → Int32 → cS → kO) (x1 : Int64) (x3 : Int32) (x4 : Int32) (t : cS) : kO := ko_call 2 (cf_129 N X x1 x4 t) (fun g1 v1 => co_l v1 (fun y => cf_102_51 N X rc x1 x3 x4 y g1))
theorem cr_102_37 {X : Nat → Option zz_C} {s : mS} {N : Nat} {d : Nat} (hd : 10 ≤ d) {rc : Nat → Int64 → Int32 → Int32 → cS → kO} (hrc0 : ∀ {Q : zz_O → zz_H → Prop} {x1 : Int64} {x3 : Int32} {x4 : Int32} {h : zz_H} {t t' : cS} {o : kY}, kR h t s → rc 0 x1 x3 x4 t = some (t', o) → (∀ h', kR h' t' s → kE o Q h') → zz_J zp_P zt_tf zt_fd X d zm_102 32 [(0, .ref 59), (1, .long x1), (3, .int x3), (4, .int x4)] [] h Q) {Q : zz_O → zz_H → Prop} {x1 : Int64} {x3 : Int32} {x4 : Int32} {h : zz_H} {t t' : cS} {o : kY} (hR : kR h t s) (hf : cf_102_37 N X rc x1 x3 x4 t = some (t', o)) (k : (∀ h', kR h' t' s → kE o Q h')) : zz_J zp_P zt_tf zt_fd X d zm_102 37 [(0, .ref 59), (1, .long x1), (3, .int x3), (4, .int x4)] [] h Q := by
  unfold cf_102_37 at hf
  obtain ⟨d', rfl⟩ : ∃ d', d = d' + 1 := ⟨d - 1, by omega⟩
  refine cb_102_37 hR  (fun {h} hR => ?_)
  rcases ko_call_ok hf with ⟨g1, v1, er, hf⟩ | ⟨g1, er, hq⟩
  · obtain ⟨y, hv, hf2⟩ := co_l_ok hf
    clear hf
    have hf := hf2
    clear hf2
    subst hv
    refine cr_129 (by omega) hR er (fun h hR => ?_)
    exact cr_102_51 hd hrc0 hR hf k
  · refine cr_129 (by omega) hR er (fun h hR => ?_)
    exact ko_thrown hq hR k
def cf_102_32 (N : Nat) (X : Nat → Option zz_C) (rc : Nat → Int64 → Int32 → Int32 → cS → kO) (x1 : Int64) (x3 : Int32) (x4 : Int32) (t : cS) : kO := if x4 < 0 then cf_102_60 N X x1 x3 t else cf_102_37 N X rc x1 x3 x4 t
theorem cr_102_32 {X : Nat → Option zz_C} {s : mS} {N : Nat} {d : Nat} (hd : 10 ≤ d) {rc : Nat → Int64 → Int32 → Int32 → cS → kO} (hrc0 : ∀ {Q : zz_O → zz_H → Prop} {x1 : Int64} {x3 : Int32} {x4 : Int32} {h : zz_H} {t t' : cS} {o : kY}, kR h t s → rc 0 x1 x3 x4 t = some (t', o) → (∀ h', kR h' t' s → kE o Q h') → zz_J zp_P zt_tf zt_fd X d zm_102 32 [(0, .ref 59), (1, .long x1), (3, .int x3), (4, .int x4)] [] h Q) {Q : zz_O → zz_H → Prop} {x1 : Int64} {x3 : Int32} {x4 : Int32} {h : zz_H} {t t' : cS} {o : kY} (hR : kR h t s) (hf : cf_102_32 N X rc x1 x3 x4 t = some (t', o)) (k : (∀ h', kR h' t' s → kE o Q h')) : zz_J zp_P zt_tf zt_fd X d zm_102 32 [(0, .ref 59), (1, .long x1), (3, .int x3), (4, .int x4)] [] h Q := by
  unfold cf_102_32 at hf
  refine cb_102_32 hR  (fun c {h} hR => ?_) (fun c {h} hR => ?_)
  · rw [if_pos c] at hf
    exact cr_102_60 hd hR hf k
  · rw [if_neg c] at hf
    exact cr_102_37 hd hrc0 hR hf k
def cf_102_L3 (N : Nat) (X : Nat → Option zz_C) : Nat → Nat → Int64 → Int32 → Int32 → cS → kO
  | 0, _, _, _, _, _ => none
  | n + 1, l, x1, x3, x4, t => if l = 0 then cf_102_32 N X (cf_102_L3 N X n) x1 x3 x4 t else none
theorem cr_102_L3 {X : Nat → Option zz_C} {s : mS} {N : Nat} {d : Nat} (hd : 10 ≤ d) : ∀ n : Nat, (∀ {Q : zz_O → zz_H → Prop} {x1 : Int64} {x3 : Int32} {x4 : Int32} {h : zz_H} {t t' : cS} {o : kY}, kR h t s → cf_102_L3 N X n 0 x1 x3 x4 t = some (t', o) → (∀ h', kR h' t' s → kE o Q h') → zz_J zp_P zt_tf zt_fd X d zm_102 32 [(0, .ref 59), (1, .long x1), (3, .int x3), (4, .int x4)] [] h Q) := by
  intro n
  induction n with
  | zero => exact (fun _ hf _ => by cases hf)
  | succ n ih =>
    have h0 := @ih
    intro Q _ _ _ h t t' o hR hf k
    unfold cf_102_L3 at hf
    rw [if_pos rfl] at hf
    exact cr_102_32 hd h0 hR hf k
def cf_102_28 (N : Nat) (X : Nat → Option zz_C) (x1 : Int64) (x3 : Int32) (y0 : Int32) (t : cS) : kO := cf_102_L3 N X N 0 x1 x3 (y0 - 1) t
theorem cr_102_28 {X : Nat → Option zz_C} {s : mS} {N : Nat} {d : Nat} (hd : 10 ≤ d) {Q : zz_O → zz_H → Prop} {x1 : Int64} {x3 : Int32} {y0 : Int32} {h : zz_H} {t t' : cS} {o : kY} (hR : kR h t s) (hf : cf_102_28 N X x1 x3 y0 t = some (t', o)) (k : (∀ h', kR h' t' s → kE o Q h')) : zz_J zp_P zt_tf zt_fd X d zm_102 28 [(0, .ref 59), (1, .long x1), (3, .int x3)] [.int y0] h Q := by
  unfold cf_102_28 at hf
  exact cb_102_28 hR  (fun hR => cr_102_L3 hd N hR hf k)
def cf_102_19 (N : Nat) (X : Nat → Option zz_C) (x1 : Int64) (y0 : Int32) (t : cS) : kO := ko_call 2 (cf_128 N X x1 t) (fun g1 v1 => co_i v1 (fun y => cf_102_28 N X x1 y0 y g1))
theorem cr_102_19 {X : Nat → Option zz_C} {s : mS} {N : Nat} {d : Nat} (hd : 10 ≤ d) {Q : zz_O → zz_H → Prop} {x1 : Int64} {y0 : Int32} {h : zz_H} {t t' : cS} {o : kY} (hR : kR h t s) (hf : cf_102_19 N X x1 y0 t = some (t', o)) (k : (∀ h', kR h' t' s → kE o Q h')) : zz_J zp_P zt_tf zt_fd X d zm_102 19 [(0, .ref 59), (1, .long x1)] [.int y0] h Q := by
  unfold cf_102_19 at hf
  obtain ⟨d', rfl⟩ : ∃ d', d = d' + 1 := ⟨d - 1, by omega⟩
  refine cb_102_19 hR  (fun {h} hR => ?_)
  rcases ko_call_ok hf with ⟨g1, v1, er, hf⟩ | ⟨g1, er, hq⟩
  · obtain ⟨y, hv, hf2⟩ := co_i_ok hf
    clear hf
    have hf := hf2
    clear hf2
    subst hv
    refine cr_128 (by omega) hR er (fun h hR => ?_)
    exact cr_102_28 hd hR hf k
  · refine cr_128 (by omega) hR er (fun h hR => ?_)
    exact ko_thrown hq hR k
def cf_102_12 (N : Nat) (X : Nat → Option zz_C) (x1 : Int64) (t : cS) : kO := ko_call 2 (cf_122 N X  t) (fun g1 v1 => co_i v1 (fun y => cf_102_19 N X x1 y g1))
theorem cr_102_12 {X : Nat → Option zz_C} {s : mS} {N : Nat} {d : Nat} (hd : 10 ≤ d) {Q : zz_O → zz_H → Prop} {x1 : Int64} {h : zz_H} {t t' : cS} {o : kY} (hR : kR h t s) (hf : cf_102_12 N X x1 t = some (t', o)) (k : (∀ h', kR h' t' s → kE o Q h')) : zz_J zp_P zt_tf zt_fd X d zm_102 12 [(0, .ref 59), (1, .long x1)] [] h Q := by
  unfold cf_102_12 at hf
  obtain ⟨d', rfl⟩ : ∃ d', d = d' + 1 := ⟨d - 1, by omega⟩
  refine cb_102_12 hR  (fun {h} hR => ?_)
  rcases ko_call_ok hf with ⟨g1, v1, er, hf⟩ | ⟨g1, er, hq⟩
  · obtain ⟨y, hv, hf2⟩ := co_i_ok hf
    clear hf
    have hf := hf2
    clear hf2
    subst hv
    refine cr_122 (by omega) hR er (fun h hR => ?_)
    exact cr_102_19 hd hR hf k
  · refine cr_122 (by omega) hR er (fun h hR => ?_)
    exact ko_thrown hq hR k
def cf_102_11 (N : Nat) (X : Nat → Option zz_C) (y0 : Int64) (t : cS) : kO := some (t, .inl (some (.long y0)))
theorem cr_102_11 {X : Nat → Option zz_C} {s : mS} {N : Nat} {d : Nat} (hd : 10 ≤ d) {Q : zz_O → zz_H → Prop} {y0 : Int64} {h : zz_H} {t t' : cS} {o : kY} (hR : kR h t s) (hf : cf_102_11 N X y0 t = some (t', o)) (k : (∀ h', kR h' t' s → kE o Q h')) : zz_J zp_P zt_tf zt_fd X d zm_102 11 [] [.long y0] h Q := by
  unfold cf_102_11 at hf
  cases hf
  exact cb_102_11 hR  (fun {h} hR => k h hR)
def cf_102_7 (N : Nat) (X : Nat → Option zz_C)  (t : cS) : kO := ko_call 1000 (cf_254 N X 3 t) (fun g1 v1 => co_l v1 (fun y => cf_102_11 N X y g1))
theorem cr_102_7 {X : Nat → Option zz_C} {s : mS} {N : Nat} {d : Nat} (hd : 10 ≤ d) {Q : zz_O → zz_H → Prop}  {h : zz_H} {t t' : cS} {o : kY} (hR : kR h t s) (hf : cf_102_7 N X  t = some (t', o)) (k : (∀ h', kR h' t' s → kE o Q h')) : zz_J zp_P zt_tf zt_fd X d zm_102 7 [] [] h Q := by
  unfold cf_102_7 at hf
  obtain ⟨d', rfl⟩ : ∃ d', d = d' + 1 := ⟨d - 1, by omega⟩
  refine cb_102_7 hR  (fun {h} hR => ?_)
  rcases ko_call_ok hf with ⟨g1, v1, er, hf⟩ | ⟨g1, er, hq⟩
  · obtain ⟨y, hv, hf2⟩ := co_l_ok hf
    clear hf
    have hf := hf2
    clear hf2
    subst hv
    refine cr_254 (by omega) hR er (fun h hR => ?_)
    exact cr_102_11 hd hR hf k
  · refine cr_254 (by omega) hR er (fun h hR => ?_)
    exact ko_thrown hq hR k
def cf_102_4 (N : Nat) (X : Nat → Option zz_C) (x1 : Int64) (y0 : Int32) (t : cS) : kO := if ¬ y0 = 0 then cf_102_12 N X x1 t else cf_102_7 N X  t
theorem cr_102_4 {X : Nat → Option zz_C} {s : mS} {N : Nat} {d : Nat} (hd : 10 ≤ d) {Q : zz_O → zz_H → Prop} {x1 : Int64} {y0 : Int32} {h : zz_H} {t t' : cS} {o : kY} (hR : kR h t s) (hf : cf_102_4 N X x1 y0 t = some (t', o)) (k : (∀ h', kR h' t' s → kE o Q h')) : zz_J zp_P zt_tf zt_fd X d zm_102 4 [(0, .ref 59), (1, .long x1)] [.int y0] h Q := by
  unfold cf_102_4 at hf
  refine cb_102_4 hR  (fun c {h} hR => ?_) (fun c {h} hR => ?_)
  · rw [if_pos c] at hf
    exact cr_102_12 hd hR hf k
  · rw [if_neg c] at hf
    exact cr_102_7 hd hR hf k
def cf_102_0 (N : Nat) (X : Nat → Option zz_C) (x1 : Int64) (t : cS) : kO := ko_call 1000 (cf_255 N X x1 t) (fun g1 v1 => co_i v1 (fun y => cf_102_4 N X x1 y g1))
theorem cr_102_0 {X : Nat → Option zz_C} {s : mS} {N : Nat} {d : Nat} (hd : 10 ≤ d) {Q : zz_O → zz_H → Prop} {x1 : Int64} {h : zz_H} {t t' : cS} {o : kY} (hR : kR h t s) (hf : cf_102_0 N X x1 t = some (t', o)) (k : (∀ h', kR h' t' s → kE o Q h')) : zz_J zp_P zt_tf zt_fd X d zm_102 0 [(0, .ref 59), (1, .long x1)] [] h Q := by
  unfold cf_102_0 at hf
  obtain ⟨d', rfl⟩ : ∃ d', d = d' + 1 := ⟨d - 1, by omega⟩
  refine cb_102_0 hR  (fun {h} hR => ?_)
  rcases ko_call_ok hf with ⟨g1, v1, er, hf⟩ | ⟨g1, er, hq⟩
  · obtain ⟨y, hv, hf2⟩ := co_i_ok hf
    clear hf
    have hf := hf2
    clear hf2
    subst hv
    refine cr_255 (by omega) hR er (fun h hR => ?_)
    exact cr_102_4 hd hR hf k
  · refine cr_255 (by omega) hR er (fun h hR => ?_)
    exact ko_thrown hq hR k
/-- turnedBack -/
def cf_102 (N : Nat) (X : Nat → Option zz_C) (x1 : Int64) (t : cS) : kO := cf_102_0 N X x1 t
theorem cr_102 {X : Nat → Option zz_C} {s : mS} {N : Nat} {d : Nat} (hd : 10 ≤ d) {Q : zz_O → zz_H → Prop} {x1 : Int64} {h : zz_H} {t t' : cS} {o : kY} (hR : kR h t s) (hf : cf_102 N X x1 t = some (t', o)) (k : ∀ h', kR h' t' s → kE o Q h') : zz_J zp_P zt_tf zt_fd X d zm_102 0 [(0, .ref 59), (1, .long x1)] [] h Q := by
  unfold cf_102 at hf
  exact zz_J.weak (cr_102_0 hd hR hf k) rfl ⟨rfl, rfl, trivial⟩
/-! yX2_putInto (IJ)V -/
theorem cb_125_0 {X : Nat → Option zz_C} {h : zz_H} {t : cS} {s : mS} {d : Nat} {Q : zz_O → zz_H → Prop} {x1 : Int32} {x2 : Int64} (hR : kR h t s) (k : ∀ {h : zz_H}, kR h t s → zz_J zp_P zt_tf zt_fd X d zm_255 0 [(0, .long x2)] [] h (zz_after 1000 Q (fun v h' => zz_J zp_P zt_tf zt_fd X (d + 1) zm_125 4 [(0, .ref 42), (1, .int x1), (2, .long x2)] (v.toList ++ []) h' Q))) : zz_J zp_P zt_tf zt_fd X (d + 1) zm_125 0 [(0, .ref 42), (1, .int x1), (2, .long x2)] [] h Q := by
  refine zz_J.n 1 rfl rfl rfl ?_
  refine zz_J.cl (M' := zm_255) 4 rfl rfl (by decide) rfl rfl ⟨rfl, Nat.le_of_ble_eq_true rfl⟩ rfl ?_
  refine zz_J.mono (k hR) ?_
  intro o h' hE
  cases o with
  | inl v => exact zz_J.weak hE rfl ⟨rfl, rfl, rfl, trivial⟩
  | inr q => exact hE
theorem cb_125_4 {X : Nat → Option zz_C} {h : zz_H} {t : cS} {s : mS} {d : Nat} {Q : zz_O → zz_H → Prop} {x1 : Int32} {x2 : Int64} {y0 : Int32} (hR : kR h t s) (k1 : y0 = x1 → (∀ {h : zz_H}, kR h t s → zz_J zp_P zt_tf zt_fd X d zm_125 14 [(0, .ref 42), (2, .long x2)] [] h Q)) (k2 : ¬ y0 = x1 → (∀ {h : zz_H}, kR h t s → zz_J zp_P zt_tf zt_fd X d zm_125 8 [(0, .ref 42), (2, .long x2)] [] h Q)) : zz_J zp_P zt_tf zt_fd X d zm_125 4 [(0, .ref 42), (1, .int x1), (2, .long x2)] [.int y0] h Q := by
  refine zz_J.n 5 rfl rfl rfl ?_
  refine zz_J.b2 14 8 (A := y0 = x1) rfl rfl (by decide) rfl rfl (fun c => ?_) (fun c => ?_)
  · exact zz_J.weak (k1 c hR) rfl ⟨rfl, rfl, trivial⟩
  · exact zz_J.weak (k2 c hR) rfl ⟨rfl, rfl, trivial⟩
theorem cb_125_8 {X : Nat → Option zz_C} {h : zz_H} {t : cS} {s : mS} {d : Nat} {Q : zz_O → zz_H → Prop} {x2 : Int64} (hR : kR h t s) (k : ∀ {h : zz_H}, kR h t s → zz_J zp_P zt_tf zt_fd X d zm_123 0 [(0, .ref 42), (1, .long x2)] [] h (zz_after 2 Q (fun v h' => zz_J zp_P zt_tf zt_fd X (d + 1) zm_125 13 [] (v.toList ++ []) h' Q))) : zz_J zp_P zt_tf zt_fd X (d + 1) zm_125 8 [(0, .ref 42), (2, .long x2)] [] h Q := by
  refine zz_J.n 9 rfl rfl rfl ?_
  refine zz_J.n 10 rfl rfl rfl ?_
  refine zz_J.cv 13 (as := []) rfl rfl (hR.clO ko_42 (by decide) (by decide)) (by decide) (Nat.le_of_ble_eq_true rfl) (Nat.le_of_ble_eq_true rfl) rfl (Nat.le_of_ble_eq_true rfl) rfl ?_
  refine zz_J.mono (k hR) ?_
  intro o h' hE
  cases o with
  | inl v => exact zz_J.weak hE rfl trivial
  | inr q => exact hE
theorem cb_125_13 {X : Nat → Option zz_C} {h : zz_H} {t : cS} {s : mS} {d : Nat} {Q : zz_O → zz_H → Prop}  (hR : kR h t s) (k : ∀ {h : zz_H}, kR h t s → Q (.inl none) h) : zz_J zp_P zt_tf zt_fd X d zm_125 13 [] [] h Q := by
  refine zz_J.ret rfl rfl rfl ?_
  exact k hR
theorem cb_125_14 {X : Nat → Option zz_C} {h : zz_H} {t : cS} {s : mS} {d : Nat} {Q : zz_O → zz_H → Prop} {x2 : Int64} (hR : kR h t s) (k : ∀ {h : zz_H}, kR h t s → zz_J zp_P zt_tf zt_fd X d zm_128 0 [(0, .ref 42), (1, .long x2)] [] h (zz_after 2 Q (fun v h' => zz_J zp_P zt_tf zt_fd X (d + 1) zm_125 19 [(0, .ref 42), (2, .long x2)] (v.toList ++ []) h' Q))) : zz_J zp_P zt_tf zt_fd X (d + 1) zm_125 14 [(0, .ref 42), (2, .long x2)] [] h Q := by
  refine zz_J.n 15 rfl rfl rfl ?_
  refine zz_J.n 16 rfl rfl rfl ?_
  refine zz_J.cv 19 (as := []) rfl rfl (hR.clO ko_42 (by decide) (by decide)) (by decide) (Nat.le_of_ble_eq_true rfl) (Nat.le_of_ble_eq_true rfl) rfl (Nat.le_of_ble_eq_true rfl) rfl ?_
  refine zz_J.mono (k hR) ?_
  intro o h' hE
  cases o with
  | inl v => exact zz_J.weak hE rfl ⟨rfl, rfl, trivial⟩
  | inr q => exact hE
theorem cb_125_19 {X : Nat → Option zz_C} {h : zz_H} {t : cS} {s : mS} {d : Nat} {Q : zz_O → zz_H → Prop} {x2 : Int64} {y0 : Int32} (hR : kR h t s) (k : ∀ {h : zz_H}, kR h t s → zz_J zp_P zt_tf zt_fd X d zm_125 24 [(0, .ref 42), (2, .long x2), (4, .int y0), (5, .int 0)] [] h Q) : zz_J zp_P zt_tf zt_fd X d zm_125 19 [(0, .ref 42), (2, .long x2)] [.int y0] h Q := by
  refine zz_J.n 21 rfl rfl rfl ?_
  refine zz_J.c 22 (.int 0) rfl rfl rfl rfl ?_
  refine zz_J.n 24 rfl rfl rfl ?_
  exact zz_J.weak (k hR) rfl ⟨rfl, rfl, rfl, rfl, trivial⟩
theorem cb_125_24 {X : Nat → Option zz_C} {h : zz_H} {t : cS} {s : mS} {d : Nat} {Q : zz_O → zz_H → Prop} {x2 : Int64} {x4 : Int32} {x5 : Int32} (hR : kR h t s) (k1 : x4 ≤ x5 → (∀ {h : zz_H}, kR h t s → zz_J zp_P zt_tf zt_fd X d zm_125 48 [] [] h Q)) (k2 : ¬ x4 ≤ x5 → (∀ {h : zz_H}, kR h t s → zz_J zp_P zt_tf zt_fd X d zm_125 31 [(0, .ref 42), (2, .long x2), (4, .int x4), (5, .int x5)] [] h Q)) : zz_J zp_P zt_tf zt_fd X d zm_125 24 [(0, .ref 42), (2, .long x2), (4, .int x4), (5, .int x5)] [] h Q := by
  refine zz_J.n 26 rfl rfl rfl ?_
  refine zz_J.n 28 rfl rfl rfl ?_
  refine zz_J.b2 48 31 (A := x4 ≤ x5) rfl rfl (by decide) rfl rfl (fun c => ?_) (fun c => ?_)
  · exact zz_J.weak (k1 c hR) rfl trivial
  · exact zz_J.weak (k2 c hR) rfl ⟨rfl, rfl, rfl, rfl, trivial⟩
theorem cb_125_31 {X : Nat → Option zz_C} {h : zz_H} {t : cS} {s : mS} {d : Nat} {Q : zz_O → zz_H → Prop} {x2 : Int64} {x4 : Int32} {x5 : Int32} (hR : kR h t s) (k : ∀ {h : zz_H}, kR h t s → zz_J zp_P zt_tf zt_fd X d zm_129 0 [(0, .ref 42), (1, .long x2), (3, .int x5)] [] h (zz_after 2 Q (fun v h' => zz_J zp_P zt_tf zt_fd X (d + 1) zm_125 39 [(0, .ref 42), (2, .long x2), (4, .int x4), (5, .int x5)] (v.toList ++ [.ref 42]) h' Q))) : zz_J zp_P zt_tf zt_fd X (d + 1) zm_125 31 [(0, .ref 42), (2, .long x2), (4, .int x4), (5, .int x5)] [] h Q := by
  refine zz_J.n 32 rfl rfl rfl ?_
  refine zz_J.n 33 rfl rfl rfl ?_
  refine zz_J.n 34 rfl rfl rfl ?_
  refine zz_J.n 36 rfl rfl rfl ?_
  refine zz_J.cv 39 (as := [.ref 42]) rfl rfl (hR.clO ko_42 (by decide) (by decide)) (by decide) (Nat.le_of_ble_eq_true rfl) (Nat.le_of_ble_eq_true rfl) rfl (Nat.le_of_ble_eq_true rfl) rfl ?_
  refine zz_J.mono (k hR) ?_
  intro o h' hE
  cases o with
  | inl v => exact zz_J.weak hE rfl ⟨rfl, rfl, rfl, rfl, trivial⟩
  | inr q => exact hE
theorem cb_125_39 {X : Nat → Option zz_C} {h : zz_H} {t : cS} {s : mS} {d : Nat} {Q : zz_O → zz_H → Prop} {x2 : Int64} {x4 : Int32} {x5 : Int32} {y1 : Int64} (hR : kR h t s) (k : ∀ {h : zz_H}, kR h t s → zz_J zp_P zt_tf zt_fd X d zm_123 0 [(0, .ref 42), (1, .long y1)] [] h (zz_after 2 Q (fun v h' => zz_J zp_P zt_tf zt_fd X (d + 1) zm_125 42 [(0, .ref 42), (2, .long x2), (4, .int x4), (5, .int x5)] (v.toList ++ []) h' Q))) : zz_J zp_P zt_tf zt_fd X (d + 1) zm_125 39 [(0, .ref 42), (2, .long x2), (4, .int x4), (5, .int x5)] [.long y1, .ref 42] h Q := by
  refine zz_J.cv 42 (as := []) rfl rfl (hR.clO ko_42 (by decide) (by decide)) (by decide) (Nat.le_of_ble_eq_true rfl) (Nat.le_of_ble_eq_true rfl) rfl (Nat.le_of_ble_eq_true rfl) rfl ?_
  refine zz_J.mono (k hR) ?_
  intro o h' hE
  cases o with
  | inl v => exact zz_J.weak hE rfl ⟨rfl, rfl, rfl, rfl, trivial⟩
  | inr q => exact hE
theorem cb_125_42 {X : Nat → Option zz_C} {h : zz_H} {t : cS} {s : mS} {d : Nat} {Q : zz_O → zz_H → Prop} {x2 : Int64} {x4 : Int32} {x5 : Int32} (hR : kR h t s) (k : ∀ {h : zz_H}, kR h t s → zz_J zp_P zt_tf zt_fd X d zm_125 24 [(0, .ref 42), (2, .long x2), (4, .int x4), (5, .int (x5 + 1))] [] h Q) : zz_J zp_P zt_tf zt_fd X d zm_125 42 [(0, .ref 42), (2, .long x2), (4, .int x4), (5, .int x5)] [] h Q := by
  refine zz_J.n 45 rfl rfl rfl ?_
  refine zz_J.n 24 rfl rfl rfl ?_
  exact zz_J.weak (k hR) rfl ⟨rfl, rfl, rfl, rfl, trivial⟩
theorem cb_125_48 {X : Nat → Option zz_C} {h : zz_H} {t : cS} {s : mS} {d : Nat} {Q : zz_O → zz_H → Prop}  (hR : kR h t s) (k : ∀ {h : zz_H}, kR h t s → Q (.inl none) h) : zz_J zp_P zt_tf zt_fd X d zm_125 48 [] [] h Q := by
  refine zz_J.ret rfl rfl rfl ?_
  exact k hR
def cf_125_48 (N : Nat) (X : Nat → Option zz_C)  (t : cS) : kO := some (t, .inl none)
theorem cr_125_48 {X : Nat → Option zz_C} {s : mS} {N : Nat} {d : Nat} (hd : 10 ≤ d) {Q : zz_O → zz_H → Prop}  {h : zz_H} {t t' : cS} {o : kY} (hR : kR h t s) (hf : cf_125_48 N X  t = some (t', o)) (k : (∀ h', kR h' t' s → kE o Q h')) : zz_J zp_P zt_tf zt_fd X d zm_125 48 [] [] h Q := by
  unfold cf_125_48 at hf
  cases hf
  exact cb_125_48 hR  (fun {h} hR => k h hR)
def cf_125_42 (N : Nat) (X : Nat → Option zz_C) (rc : Nat → Int64 → Int32 → Int32 → cS → kO) (x2 : Int64) (x4 : Int32) (x5 : Int32) (t : cS) : kO := rc 0 x2 x4 (x5 + 1) t
theorem cr_125_42 {X : Nat → Option zz_C} {s : mS} {N : Nat} {d : Nat} (hd : 10 ≤ d) {rc : Nat → Int64 → Int32 → Int32 → cS → kO} (hrc0 : ∀ {Q : zz_O → zz_H → Prop} {x2 : Int64} {x4 : Int32} {x5 : Int32} {h : zz_H} {t t' : cS} {o : kY}, kR h t s → rc 0 x2 x4 x5 t = some (t', o) → (∀ h', kR h' t' s → kE o Q h') → zz_J zp_P zt_tf zt_fd X d zm_125 24 [(0, .ref 42), (2, .long x2), (4, .int x4), (5, .int x5)] [] h Q) {Q : zz_O → zz_H → Prop} {x2 : Int64} {x4 : Int32} {x5 : Int32} {h : zz_H} {t t' : cS} {o : kY} (hR : kR h t s) (hf : cf_125_42 N X rc x2 x4 x5 t = some (t', o)) (k : (∀ h', kR h' t' s → kE o Q h')) : zz_J zp_P zt_tf zt_fd X d zm_125 42 [(0, .ref 42), (2, .long x2), (4, .int x4), (5, .int x5)] [] h Q := by
  unfold cf_125_42 at hf
  exact cb_125_42 hR  (fun hR => hrc0 hR hf k)
def cf_125_39 (N : Nat) (X : Nat → Option zz_C) (rc : Nat → Int64 → Int32 → Int32 → cS → kO) (x2 : Int64) (x4 : Int32) (x5 : Int32) (y1 : Int64) (t : cS) : kO := ko_call 2 (cf_123 N X y1 t) (fun g1 v1 => co_v v1 (cf_125_42 N X rc x2 x4 x5 g1))
theorem cr_125_39 {X : Nat → Option zz_C} {s : mS} {N : Nat} {d : Nat} (hd : 10 ≤ d) {rc : Nat → Int64 → Int32 → Int32 → cS → kO} (hrc0 : ∀ {Q : zz_O → zz_H → Prop} {x2 : Int64} {x4 : Int32} {x5 : Int32} {h : zz_H} {t t' : cS} {o : kY}, kR h t s → rc 0 x2 x4 x5 t = some (t', o) → (∀ h', kR h' t' s → kE o Q h') → zz_J zp_P zt_tf zt_fd X d zm_125 24 [(0, .ref 42), (2, .long x2), (4, .int x4), (5, .int x5)] [] h Q) {Q : zz_O → zz_H → Prop} {x2 : Int64} {x4 : Int32} {x5 : Int32} {y1 : Int64} {h : zz_H} {t t' : cS} {o : kY} (hR : kR h t s) (hf : cf_125_39 N X rc x2 x4 x5 y1 t = some (t', o)) (k : (∀ h', kR h' t' s → kE o Q h')) : zz_J zp_P zt_tf zt_fd X d zm_125 39 [(0, .ref 42), (2, .long x2), (4, .int x4), (5, .int x5)] [.long y1, .ref 42] h Q := by
  unfold cf_125_39 at hf
  obtain ⟨d', rfl⟩ : ∃ d', d = d' + 1 := ⟨d - 1, by omega⟩
  refine cb_125_39 hR  (fun {h} hR => ?_)
  rcases ko_call_ok hf with ⟨g1, v1, er, hf⟩ | ⟨g1, er, hq⟩
  · obtain ⟨hv, hf2⟩ := co_v_ok hf
    clear hf
    have hf := hf2
    clear hf2
    subst hv
    refine cr_123 (by omega) hR er (fun h hR => ?_)
    exact cr_125_42 hd hrc0 hR hf k
  · refine cr_123 (by omega) hR er (fun h hR => ?_)
    exact ko_thrown hq hR k
def cf_125_31 (N : Nat) (X : Nat → Option zz_C) (rc : Nat → Int64 → Int32 → Int32 → cS → kO) (x2 : Int64) (x4 : Int32) (x5 : Int32) (t : cS) : kO := ko_call 2 (cf_129 N X x2 x5 t) (fun g1 v1 => co_l v1 (fun y => cf_125_39 N X rc x2 x4 x5 y g1))
theorem cr_125_31 {X : Nat → Option zz_C} {s : mS} {N : Nat} {d : Nat} (hd : 10 ≤ d) {rc : Nat → Int64 → Int32 → Int32 → cS → kO} (hrc0 : ∀ {Q : zz_O → zz_H → Prop} {x2 : Int64} {x4 : Int32} {x5 : Int32} {h : zz_H} {t t' : cS} {o : kY}, kR h t s → rc 0 x2 x4 x5 t = some (t', o) → (∀ h', kR h' t' s → kE o Q h') → zz_J zp_P zt_tf zt_fd X d zm_125 24 [(0, .ref 42), (2, .long x2), (4, .int x4), (5, .int x5)] [] h Q) {Q : zz_O → zz_H → Prop} {x2 : Int64} {x4 : Int32} {x5 : Int32} {h : zz_H} {t t' : cS} {o : kY} (hR : kR h t s) (hf : cf_125_31 N X rc x2 x4 x5 t = some (t', o)) (k : (∀ h', kR h' t' s → kE o Q h')) : zz_J zp_P zt_tf zt_fd X d zm_125 31 [(0, .ref 42), (2, .long x2), (4, .int x4), (5, .int x5)] [] h Q := by
  unfold cf_125_31 at hf
  obtain ⟨d', rfl⟩ : ∃ d', d = d' + 1 := ⟨d - 1, by omega⟩
  refine cb_125_31 hR  (fun {h} hR => ?_)
  rcases ko_call_ok hf with ⟨g1, v1, er, hf⟩ | ⟨g1, er, hq⟩
  · obtain ⟨y, hv, hf2⟩ := co_l_ok hf
    clear hf
    have hf := hf2
    clear hf2
    subst hv
    refine cr_129 (by omega) hR er (fun h hR => ?_)
    exact cr_125_39 hd hrc0 hR hf k
  · refine cr_129 (by omega) hR er (fun h hR => ?_)
    exact ko_thrown hq hR k
def cf_125_24 (N : Nat) (X : Nat → Option zz_C) (rc : Nat → Int64 → Int32 → Int32 → cS → kO) (x2 : Int64) (x4 : Int32) (x5 : Int32) (t : cS) : kO := if x4 ≤ x5 then cf_125_48 N X  t else cf_125_31 N X rc x2 x4 x5 t
theorem cr_125_24 {X : Nat → Option zz_C} {s : mS} {N : Nat} {d : Nat} (hd : 10 ≤ d) {rc : Nat → Int64 → Int32 → Int32 → cS → kO} (hrc0 : ∀ {Q : zz_O → zz_H → Prop} {x2 : Int64} {x4 : Int32} {x5 : Int32} {h : zz_H} {t t' : cS} {o : kY}, kR h t s → rc 0 x2 x4 x5 t = some (t', o) → (∀ h', kR h' t' s → kE o Q h') → zz_J zp_P zt_tf zt_fd X d zm_125 24 [(0, .ref 42), (2, .long x2), (4, .int x4), (5, .int x5)] [] h Q) {Q : zz_O → zz_H → Prop} {x2 : Int64} {x4 : Int32} {x5 : Int32} {h : zz_H} {t t' : cS} {o : kY} (hR : kR h t s) (hf : cf_125_24 N X rc x2 x4 x5 t = some (t', o)) (k : (∀ h', kR h' t' s → kE o Q h')) : zz_J zp_P zt_tf zt_fd X d zm_125 24 [(0, .ref 42), (2, .long x2), (4, .int x4), (5, .int x5)] [] h Q := by
  unfold cf_125_24 at hf
  refine cb_125_24 hR  (fun c {h} hR => ?_) (fun c {h} hR => ?_)
  · rw [if_pos c] at hf
    exact cr_125_48 hd hR hf k
  · rw [if_neg c] at hf
    exact cr_125_31 hd hrc0 hR hf k
def cf_125_L1 (N : Nat) (X : Nat → Option zz_C) : Nat → Nat → Int64 → Int32 → Int32 → cS → kO
  | 0, _, _, _, _, _ => none
  | n + 1, l, x2, x4, x5, t => if l = 0 then cf_125_24 N X (cf_125_L1 N X n) x2 x4 x5 t else none
theorem cr_125_L1 {X : Nat → Option zz_C} {s : mS} {N : Nat} {d : Nat} (hd : 10 ≤ d) : ∀ n : Nat, (∀ {Q : zz_O → zz_H → Prop} {x2 : Int64} {x4 : Int32} {x5 : Int32} {h : zz_H} {t t' : cS} {o : kY}, kR h t s → cf_125_L1 N X n 0 x2 x4 x5 t = some (t', o) → (∀ h', kR h' t' s → kE o Q h') → zz_J zp_P zt_tf zt_fd X d zm_125 24 [(0, .ref 42), (2, .long x2), (4, .int x4), (5, .int x5)] [] h Q) := by
  intro n
  induction n with
  | zero => exact (fun _ hf _ => by cases hf)
  | succ n ih =>
    have h0 := @ih
    intro Q _ _ _ h t t' o hR hf k
    unfold cf_125_L1 at hf
    rw [if_pos rfl] at hf
    exact cr_125_24 hd h0 hR hf k
def cf_125_19 (N : Nat) (X : Nat → Option zz_C) (x2 : Int64) (y0 : Int32) (t : cS) : kO := cf_125_L1 N X N 0 x2 y0 0 t
theorem cr_125_19 {X : Nat → Option zz_C} {s : mS} {N : Nat} {d : Nat} (hd : 10 ≤ d) {Q : zz_O → zz_H → Prop} {x2 : Int64} {y0 : Int32} {h : zz_H} {t t' : cS} {o : kY} (hR : kR h t s) (hf : cf_125_19 N X x2 y0 t = some (t', o)) (k : (∀ h', kR h' t' s → kE o Q h')) : zz_J zp_P zt_tf zt_fd X d zm_125 19 [(0, .ref 42), (2, .long x2)] [.int y0] h Q := by
  unfold cf_125_19 at hf
  exact cb_125_19 hR  (fun hR => cr_125_L1 hd N hR hf k)
def cf_125_14 (N : Nat) (X : Nat → Option zz_C) (x2 : Int64) (t : cS) : kO := ko_call 2 (cf_128 N X x2 t) (fun g1 v1 => co_i v1 (fun y => cf_125_19 N X x2 y g1))
theorem cr_125_14 {X : Nat → Option zz_C} {s : mS} {N : Nat} {d : Nat} (hd : 10 ≤ d) {Q : zz_O → zz_H → Prop} {x2 : Int64} {h : zz_H} {t t' : cS} {o : kY} (hR : kR h t s) (hf : cf_125_14 N X x2 t = some (t', o)) (k : (∀ h', kR h' t' s → kE o Q h')) : zz_J zp_P zt_tf zt_fd X d zm_125 14 [(0, .ref 42), (2, .long x2)] [] h Q := by
  unfold cf_125_14 at hf
  obtain ⟨d', rfl⟩ : ∃ d', d = d' + 1 := ⟨d - 1, by omega⟩
  refine cb_125_14 hR  (fun {h} hR => ?_)
  rcases ko_call_ok hf with ⟨g1, v1, er, hf⟩ | ⟨g1, er, hq⟩
  · obtain ⟨y, hv, hf2⟩ := co_i_ok hf
    clear hf
    have hf := hf2
    clear hf2
    subst hv
    refine cr_128 (by omega) hR er (fun h hR => ?_)
    exact cr_125_19 hd hR hf k
  · refine cr_128 (by omega) hR er (fun h hR => ?_)
    exact ko_thrown hq hR k
def cf_125_13 (N : Nat) (X : Nat → Option zz_C)  (t : cS) : kO := some (t, .inl none)
theorem cr_125_13 {X : Nat → Option zz_C} {s : mS} {N : Nat} {d : Nat} (hd : 10 ≤ d) {Q : zz_O → zz_H → Prop}  {h : zz_H} {t t' : cS} {o : kY} (hR : kR h t s) (hf : cf_125_13 N X  t = some (t', o)) (k : (∀ h', kR h' t' s → kE o Q h')) : zz_J zp_P zt_tf zt_fd X d zm_125 13 [] [] h Q := by
  unfold cf_125_13 at hf
  cases hf
  exact cb_125_13 hR  (fun {h} hR => k h hR)
def cf_125_8 (N : Nat) (X : Nat → Option zz_C) (x2 : Int64) (t : cS) : kO := ko_call 2 (cf_123 N X x2 t) (fun g1 v1 => co_v v1 (cf_125_13 N X  g1))
theorem cr_125_8 {X : Nat → Option zz_C} {s : mS} {N : Nat} {d : Nat} (hd : 10 ≤ d) {Q : zz_O → zz_H → Prop} {x2 : Int64} {h : zz_H} {t t' : cS} {o : kY} (hR : kR h t s) (hf : cf_125_8 N X x2 t = some (t', o)) (k : (∀ h', kR h' t' s → kE o Q h')) : zz_J zp_P zt_tf zt_fd X d zm_125 8 [(0, .ref 42), (2, .long x2)] [] h Q := by
  unfold cf_125_8 at hf
  obtain ⟨d', rfl⟩ : ∃ d', d = d' + 1 := ⟨d - 1, by omega⟩
  refine cb_125_8 hR  (fun {h} hR => ?_)
  rcases ko_call_ok hf with ⟨g1, v1, er, hf⟩ | ⟨g1, er, hq⟩
  · obtain ⟨hv, hf2⟩ := co_v_ok hf
    clear hf
    have hf := hf2
    clear hf2
    subst hv
    refine cr_123 (by omega) hR er (fun h hR => ?_)
    exact cr_125_13 hd hR hf k
  · refine cr_123 (by omega) hR er (fun h hR => ?_)
    exact ko_thrown hq hR k
def cf_125_4 (N : Nat) (X : Nat → Option zz_C) (x1 : Int32) (x2 : Int64) (y0 : Int32) (t : cS) : kO := if y0 = x1 then cf_125_14 N X x2 t else cf_125_8 N X x2 t
theorem cr_125_4 {X : Nat → Option zz_C} {s : mS} {N : Nat} {d : Nat} (hd : 10 ≤ d) {Q : zz_O → zz_H → Prop} {x1 : Int32} {x2 : Int64} {y0 : Int32} {h : zz_H} {t t' : cS} {o : kY} (hR : kR h t s) (hf : cf_125_4 N X x1 x2 y0 t = some (t', o)) (k : (∀ h', kR h' t' s → kE o Q h')) : zz_J zp_P zt_tf zt_fd X d zm_125 4 [(0, .ref 42), (1, .int x1), (2, .long x2)] [.int y0] h Q := by
  unfold cf_125_4 at hf
  refine cb_125_4 hR  (fun c {h} hR => ?_) (fun c {h} hR => ?_)
  · rw [if_pos c] at hf
    exact cr_125_14 hd hR hf k
  · rw [if_neg c] at hf
    exact cr_125_8 hd hR hf k
def cf_125_0 (N : Nat) (X : Nat → Option zz_C) (x1 : Int32) (x2 : Int64) (t : cS) : kO := ko_call 1000 (cf_255 N X x2 t) (fun g1 v1 => co_i v1 (fun y => cf_125_4 N X x1 x2 y g1))
theorem cr_125_0 {X : Nat → Option zz_C} {s : mS} {N : Nat} {d : Nat} (hd : 10 ≤ d) {Q : zz_O → zz_H → Prop} {x1 : Int32} {x2 : Int64} {h : zz_H} {t t' : cS} {o : kY} (hR : kR h t s) (hf : cf_125_0 N X x1 x2 t = some (t', o)) (k : (∀ h', kR h' t' s → kE o Q h')) : zz_J zp_P zt_tf zt_fd X d zm_125 0 [(0, .ref 42), (1, .int x1), (2, .long x2)] [] h Q := by
  unfold cf_125_0 at hf
  obtain ⟨d', rfl⟩ : ∃ d', d = d' + 1 := ⟨d - 1, by omega⟩
  refine cb_125_0 hR  (fun {h} hR => ?_)
  rcases ko_call_ok hf with ⟨g1, v1, er, hf⟩ | ⟨g1, er, hq⟩
  · obtain ⟨y, hv, hf2⟩ := co_i_ok hf
    clear hf
    have hf := hf2
    clear hf2
    subst hv
    refine cr_255 (by omega) hR er (fun h hR => ?_)
    exact cr_125_4 hd hR hf k
  · refine cr_255 (by omega) hR er (fun h hR => ?_)
    exact ko_thrown hq hR k
/-- putInto -/
def cf_125 (N : Nat) (X : Nat → Option zz_C) (x1 : Int32) (x2 : Int64) (t : cS) : kO := cf_125_0 N X x1 x2 t
theorem cr_125 {X : Nat → Option zz_C} {s : mS} {N : Nat} {d : Nat} (hd : 10 ≤ d) {Q : zz_O → zz_H → Prop} {x1 : Int32} {x2 : Int64} {h : zz_H} {t t' : cS} {o : kY} (hR : kR h t s) (hf : cf_125 N X x1 x2 t = some (t', o)) (k : ∀ h', kR h' t' s → kE o Q h') : zz_J zp_P zt_tf zt_fd X d zm_125 0 [(0, .ref 42), (1, .int x1), (2, .long x2)] [] h Q := by
  unfold cf_125 at hf
  exact zz_J.weak (cr_125_0 hd hR hf k) rfl ⟨rfl, rfl, rfl, trivial⟩
/-! yX1_flat (J)J -/
theorem cb_103_0 {X : Nat → Option zz_C} {h : zz_H} {t : cS} {s : mS} {d : Nat} {Q : zz_O → zz_H → Prop} {x1 : Int64} (hR : kR h t s) (k : ∀ {h : zz_H}, kR h t s → zz_J zp_P zt_tf zt_fd X d zm_255 0 [(0, .long x1)] [] h (zz_after 1000 Q (fun v h' => zz_J zp_P zt_tf zt_fd X (d + 1) zm_103 4 [(0, .ref 59), (1, .long x1)] (v.toList ++ []) h' Q))) : zz_J zp_P zt_tf zt_fd X (d + 1) zm_103 0 [(0, .ref 59), (1, .long x1)] [] h Q := by
  refine zz_J.n 1 rfl rfl rfl ?_
  refine zz_J.cl (M' := zm_255) 4 rfl rfl (by decide) rfl rfl ⟨rfl, Nat.le_of_ble_eq_true rfl⟩ rfl ?_
  refine zz_J.mono (k hR) ?_
  intro o h' hE
  cases o with
  | inl v => exact zz_J.weak hE rfl ⟨rfl, rfl, trivial⟩
  | inr q => exact hE
theorem cb_103_4 {X : Nat → Option zz_C} {h : zz_H} {t : cS} {s : mS} {d : Nat} {Q : zz_O → zz_H → Prop} {x1 : Int64} {y0 : Int32} (hR : kR h t s) (k1 : 2 ≤ y0 → (∀ {h : zz_H}, kR h t s → zz_J zp_P zt_tf zt_fd X d zm_103 13 [(0, .ref 59), (1, .long x1)] [] h Q)) (k2 : ¬ 2 ≤ y0 → (∀ {h : zz_H}, kR h t s → zz_J zp_P zt_tf zt_fd X d zm_103 8 [] [] h Q)) : zz_J zp_P zt_tf zt_fd X d zm_103 4 [(0, .ref 59), (1, .long x1)] [.int y0] h Q := by
  refine zz_J.c 5 (.int 2) rfl rfl rfl rfl ?_
  refine zz_J.b2 13 8 (A := 2 ≤ y0) rfl rfl (by decide) rfl rfl (fun c => ?_) (fun c => ?_)
  · exact zz_J.weak (k1 c hR) rfl ⟨rfl, rfl, trivial⟩
  · exact zz_J.weak (k2 c hR) rfl trivial
theorem cb_103_8 {X : Nat → Option zz_C} {h : zz_H} {t : cS} {s : mS} {d : Nat} {Q : zz_O → zz_H → Prop}  (hR : kR h t s) (k : ∀ {h : zz_H}, kR h t s → zz_J zp_P zt_tf zt_fd X d zm_254 0 [(0, .int 3)] [] h (zz_after 1000 Q (fun v h' => zz_J zp_P zt_tf zt_fd X (d + 1) zm_103 12 [] (v.toList ++ []) h' Q))) : zz_J zp_P zt_tf zt_fd X (d + 1) zm_103 8 [] [] h Q := by
  refine zz_J.c 9 (.int 3) rfl rfl rfl rfl ?_
  refine zz_J.cl (M' := zm_254) 12 rfl rfl (by decide) rfl rfl ⟨rfl, Nat.le_of_ble_eq_true rfl⟩ rfl ?_
  refine zz_J.mono (k hR) ?_
  intro o h' hE
  cases o with
  | inl v => exact zz_J.weak hE rfl trivial
  | inr q => exact hE
theorem cb_103_12 {X : Nat → Option zz_C} {h : zz_H} {t : cS} {s : mS} {d : Nat} {Q : zz_O → zz_H → Prop} {y0 : Int64} (hR : kR h t s) (k : ∀ {h : zz_H}, kR h t s → Q (.inl (some (.long y0))) h) : zz_J zp_P zt_tf zt_fd X d zm_103 12 [] [.long y0] h Q := by
  refine zz_J.ret rfl rfl rfl ?_
  exact k hR
theorem cb_103_13 {X : Nat → Option zz_C} {h : zz_H} {t : cS} {s : mS} {d : Nat} {Q : zz_O → zz_H → Prop} {x1 : Int64} (hR : kR h t s) (k : ∀ {h : zz_H}, kR h t s → zz_J zp_P zt_tf zt_fd X d zm_128 0 [(0, .ref 42), (1, .long x1)] [] h (zz_after 2 Q (fun v h' => zz_J zp_P zt_tf zt_fd X (d + 1) zm_103 21 [(0, .ref 59), (1, .long x1)] (v.toList ++ []) h' Q))) : zz_J zp_P zt_tf zt_fd X (d + 1) zm_103 13 [(0, .ref 59), (1, .long x1)] [] h Q := by
  refine zz_J.n 14 rfl rfl rfl ?_
  refine zz_J.g 17 rfl (hR.gv (v := .ref 42) ko_59 (by decide) rfl) rfl ?_
  refine zz_J.n 18 rfl rfl rfl ?_
  refine zz_J.cv 21 (as := []) rfl rfl (hR.clO ko_42 (by decide) (by decide)) (by decide) (Nat.le_of_ble_eq_true rfl) (Nat.le_of_ble_eq_true rfl) rfl (Nat.le_of_ble_eq_true rfl) rfl ?_
  refine zz_J.mono (k hR) ?_
  intro o h' hE
  cases o with
  | inl v => exact zz_J.weak hE rfl ⟨rfl, rfl, trivial⟩
  | inr q => exact hE
theorem cb_103_21 {X : Nat → Option zz_C} {h : zz_H} {t : cS} {s : mS} {d : Nat} {Q : zz_O → zz_H → Prop} {x1 : Int64} {y0 : Int32} (hR : kR h t s) (k : ∀ {h : zz_H}, kR h t s → zz_J zp_P zt_tf zt_fd X d zm_122 0 [(0, .ref 42)] [] h (zz_after 2 Q (fun v h' => zz_J zp_P zt_tf zt_fd X (d + 1) zm_103 29 [(0, .ref 59), (1, .long x1), (3, .int y0)] (v.toList ++ []) h' Q))) : zz_J zp_P zt_tf zt_fd X (d + 1) zm_103 21 [(0, .ref 59), (1, .long x1)] [.int y0] h Q := by
  refine zz_J.n 22 rfl rfl rfl ?_
  refine zz_J.n 23 rfl rfl rfl ?_
  refine zz_J.g 26 rfl (hR.gv (v := .ref 42) ko_59 (by decide) rfl) rfl ?_
  refine zz_J.cv 29 (as := []) rfl rfl (hR.clO ko_42 (by decide) (by decide)) (by decide) (Nat.le_of_ble_eq_true rfl) (Nat.le_of_ble_eq_true rfl) rfl (Nat.le_of_ble_eq_true rfl) rfl ?_
  refine zz_J.mono (k hR) ?_
  intro o h' hE
  cases o with
  | inl v => exact zz_J.weak hE rfl ⟨rfl, rfl, rfl, trivial⟩
  | inr q => exact hE
theorem cb_103_29 {X : Nat → Option zz_C} {h : zz_H} {t : cS} {s : mS} {d : Nat} {Q : zz_O → zz_H → Prop} {x1 : Int64} {x3 : Int32} {y0 : Int32} (hR : kR h t s) (k : ∀ {h : zz_H}, kR h t s → zz_J zp_P zt_tf zt_fd X d zm_103 34 [(0, .ref 59), (1, .long x1), (3, .int x3), (4, .int y0), (5, .int 0)] [] h Q) : zz_J zp_P zt_tf zt_fd X d zm_103 29 [(0, .ref 59), (1, .long x1), (3, .int x3)] [.int y0] h Q := by
  refine zz_J.n 31 rfl rfl rfl ?_
  refine zz_J.c 32 (.int 0) rfl rfl rfl rfl ?_
  refine zz_J.n 34 rfl rfl rfl ?_
  exact zz_J.weak (k hR) rfl ⟨rfl, rfl, rfl, rfl, rfl, trivial⟩
theorem cb_103_34 {X : Nat → Option zz_C} {h : zz_H} {t : cS} {s : mS} {d : Nat} {Q : zz_O → zz_H → Prop} {x1 : Int64} {x3 : Int32} {x4 : Int32} {x5 : Int32} (hR : kR h t s) (k1 : x3 ≤ x5 → (∀ {h : zz_H}, kR h t s → zz_J zp_P zt_tf zt_fd X d zm_103 82 [(0, .ref 59), (4, .int x4)] [] h Q)) (k2 : ¬ x3 ≤ x5 → (∀ {h : zz_H}, kR h t s → zz_J zp_P zt_tf zt_fd X d zm_103 40 [(0, .ref 59), (1, .long x1), (3, .int x3), (4, .int x4), (5, .int x5)] [] h Q)) : zz_J zp_P zt_tf zt_fd X d zm_103 34 [(0, .ref 59), (1, .long x1), (3, .int x3), (4, .int x4), (5, .int x5)] [] h Q := by
  refine zz_J.n 36 rfl rfl rfl ?_
  refine zz_J.n 37 rfl rfl rfl ?_
  refine zz_J.b2 82 40 (A := x3 ≤ x5) rfl rfl (by decide) rfl rfl (fun c => ?_) (fun c => ?_)
  · exact zz_J.weak (k1 c hR) rfl ⟨rfl, rfl, trivial⟩
  · exact zz_J.weak (k2 c hR) rfl ⟨rfl, rfl, rfl, rfl, rfl, trivial⟩
theorem cb_103_40 {X : Nat → Option zz_C} {h : zz_H} {t : cS} {s : mS} {d : Nat} {Q : zz_O → zz_H → Prop} {x1 : Int64} {x3 : Int32} {x4 : Int32} {x5 : Int32} (hR : kR h t s) (k : ∀ {h : zz_H}, kR h t s → zz_J zp_P zt_tf zt_fd X d zm_129 0 [(0, .ref 42), (1, .long x1), (3, .int x5)] [] h (zz_after 2 Q (fun v h' => zz_J zp_P zt_tf zt_fd X (d + 1) zm_103 50 [(0, .ref 59), (1, .long x1), (3, .int x3), (4, .int x4), (5, .int x5)] (v.toList ++ []) h' Q))) : zz_J zp_P zt_tf zt_fd X (d + 1) zm_103 40 [(0, .ref 59), (1, .long x1), (3, .int x3), (4, .int x4), (5, .int x5)] [] h Q := by
  refine zz_J.n 41 rfl rfl rfl ?_
  refine zz_J.g 44 rfl (hR.gv (v := .ref 42) ko_59 (by decide) rfl) rfl ?_
  refine zz_J.n 45 rfl rfl rfl ?_
  refine zz_J.n 47 rfl rfl rfl ?_
  refine zz_J.cv 50 (as := []) rfl rfl (hR.clO ko_42 (by decide) (by decide)) (by decide) (Nat.le_of_ble_eq_true rfl) (Nat.le_of_ble_eq_true rfl) rfl (Nat.le_of_ble_eq_true rfl) rfl ?_
  refine zz_J.mono (k hR) ?_
  intro o h' hE
  cases o with
  | inl v => exact zz_J.weak hE rfl ⟨rfl, rfl, rfl, rfl, rfl, trivial⟩
  | inr q => exact hE
theorem cb_103_50 {X : Nat → Option zz_C} {h : zz_H} {t : cS} {s : mS} {d : Nat} {Q : zz_O → zz_H → Prop} {x1 : Int64} {x3 : Int32} {x4 : Int32} {x5 : Int32} {y0 : Int64} (hR : kR h t s) (k : ∀ {h : zz_H}, kR h t s → zz_J zp_P zt_tf zt_fd X d zm_255 0 [(0, .long y0)] [] h (zz_after 1000 Q (fun v h' => zz_J zp_P zt_tf zt_fd X (d + 1) zm_103 57 [(0, .ref 59), (1, .long x1), (3, .int x3), (4, .int x4), (5, .int x5), (6, .long y0)] (v.toList ++ []) h' Q))) : zz_J zp_P zt_tf zt_fd X (d + 1) zm_103 50 [(0, .ref 59), (1, .long x1), (3, .int x3), (4, .int x4), (5, .int x5)] [.long y0] h Q := by
  refine zz_J.n 52 rfl rfl rfl ?_
  refine zz_J.n 54 rfl rfl rfl ?_
  refine zz_J.cl (M' := zm_255) 57 rfl rfl (by decide) rfl rfl ⟨rfl, Nat.le_of_ble_eq_true rfl⟩ rfl ?_
  refine zz_J.mono (k hR) ?_
  intro o h' hE
  cases o with
  | inl v => exact zz_J.weak hE rfl ⟨rfl, rfl, rfl, rfl, rfl, rfl, trivial⟩
  | inr q => exact hE
theorem cb_103_57 {X : Nat → Option zz_C} {h : zz_H} {t : cS} {s : mS} {d : Nat} {Q : zz_O → zz_H → Prop} {x1 : Int64} {x3 : Int32} {x4 : Int32} {x5 : Int32} {x6 : Int64} {y0 : Int32} (hR : kR h t s) (k1 : y0 ≤ 1 → (∀ {h : zz_H}, kR h t s → zz_J zp_P zt_tf zt_fd X d zm_103 66 [(0, .ref 59), (1, .long x1), (3, .int x3), (4, .int x4), (5, .int x5), (6, .long x6)] [] h Q)) (k2 : ¬ y0 ≤ 1 → (∀ {h : zz_H}, kR h t s → zz_J zp_P zt_tf zt_fd X d zm_103 61 [] [] h Q)) : zz_J zp_P zt_tf zt_fd X d zm_103 57 [(0, .ref 59), (1, .long x1), (3, .int x3), (4, .int x4), (5, .int x5), (6, .long x6)] [.int y0] h Q := by
  refine zz_J.c 58 (.int 1) rfl rfl rfl rfl ?_
  refine zz_J.b2 66 61 (A := y0 ≤ 1) rfl rfl (by decide) rfl rfl (fun c => ?_) (fun c => ?_)
  · exact zz_J.weak (k1 c hR) rfl ⟨rfl, rfl, rfl, rfl, rfl, rfl, trivial⟩
  · exact zz_J.weak (k2 c hR) rfl trivial
theorem cb_103_61 {X : Nat → Option zz_C} {h : zz_H} {t : cS} {s : mS} {d : Nat} {Q : zz_O → zz_H → Prop}  (hR : kR h t s) (k : ∀ {h : zz_H}, kR h t s → zz_J zp_P zt_tf zt_fd X d zm_254 0 [(0, .int 3)] [] h (zz_after 1000 Q (fun v h' => zz_J zp_P zt_tf zt_fd X (d + 1) zm_103 65 [] (v.toList ++ []) h' Q))) : zz_J zp_P zt_tf zt_fd X (d + 1) zm_103 61 [] [] h Q := by
  refine zz_J.c 62 (.int 3) rfl rfl rfl rfl ?_
  refine zz_J.cl (M' := zm_254) 65 rfl rfl (by decide) rfl rfl ⟨rfl, Nat.le_of_ble_eq_true rfl⟩ rfl ?_
  refine zz_J.mono (k hR) ?_
  intro o h' hE
  cases o with
  | inl v => exact zz_J.weak hE rfl trivial
  | inr q => exact hE
theorem cb_103_65 {X : Nat → Option zz_C} {h : zz_H} {t : cS} {s : mS} {d : Nat} {Q : zz_O → zz_H → Prop} {y0 : Int64} (hR : kR h t s) (k : ∀ {h : zz_H}, kR h t s → Q (.inl (some (.long y0))) h) : zz_J zp_P zt_tf zt_fd X d zm_103 65 [] [.long y0] h Q := by
  refine zz_J.ret rfl rfl rfl ?_
  exact k hR
theorem cb_103_66 {X : Nat → Option zz_C} {h : zz_H} {t : cS} {s : mS} {d : Nat} {Q : zz_O → zz_H → Prop} {x1 : Int64} {x3 : Int32} {x4 : Int32} {x5 : Int32} {x6 : Int64} (hR : kR h t s) (k : ∀ {h : zz_H}, kR h t s → zz_J zp_P zt_tf zt_fd X d zm_125 0 [(0, .ref 42), (1, .int 1), (2, .long x6)] [] h (zz_after 2 Q (fun v h' => zz_J zp_P zt_tf zt_fd X (d + 1) zm_103 76 [(0, .ref 59), (1, .long x1), (3, .int x3), (4, .int x4), (5, .int x5)] (v.toList ++ []) h' Q))) : zz_J zp_P zt_tf zt_fd X (d + 1) zm_103 66 [(0, .ref 59), (1, .long x1), (3, .int x3), (4, .int x4), (5, .int x5), (6, .long x6)] [] h Q := by
  refine zz_J.n 67 rfl rfl rfl ?_
  refine zz_J.g 70 rfl (hR.gv (v := .ref 42) ko_59 (by decide) rfl) rfl ?_
  refine zz_J.c 71 (.int 1) rfl rfl rfl rfl ?_
  refine zz_J.n 73 rfl rfl rfl ?_
  refine zz_J.cv 76 (as := []) rfl rfl (hR.clO ko_42 (by decide) (by decide)) (by decide) (Nat.le_of_ble_eq_true rfl) (Nat.le_of_ble_eq_true rfl) rfl (Nat.le_of_ble_eq_true rfl) rfl ?_
  refine zz_J.mono (k hR) ?_
  intro o h' hE
  cases o with
  | inl v => exact zz_J.weak hE rfl ⟨rfl, rfl, rfl, rfl, rfl, trivial⟩
  | inr q => exact hE
theorem cb_103_76 {X : Nat → Option zz_C} {h : zz_H} {t : cS} {s : mS} {d : Nat} {Q : zz_O → zz_H → Prop} {x1 : Int64} {x3 : Int32} {x4 : Int32} {x5 : Int32} (hR : kR h t s) (k : ∀ {h : zz_H}, kR h t s → zz_J zp_P zt_tf zt_fd X d zm_103 34 [(0, .ref 59), (1, .long x1), (3, .int x3), (4, .int x4), (5, .int (x5 + 1))] [] h Q) : zz_J zp_P zt_tf zt_fd X d zm_103 76 [(0, .ref 59), (1, .long x1), (3, .int x3), (4, .int x4), (5, .int x5)] [] h Q := by
  refine zz_J.n 79 rfl rfl rfl ?_
  refine zz_J.n 34 rfl rfl rfl ?_
  exact zz_J.weak (k hR) rfl ⟨rfl, rfl, rfl, rfl, rfl, trivial⟩
theorem cb_103_82 {X : Nat → Option zz_C} {h : zz_H} {t : cS} {s : mS} {d : Nat} {Q : zz_O → zz_H → Prop} {x4 : Int32} (hR : kR h t s) (k : ∀ {h : zz_H}, kR h t s → zz_J zp_P zt_tf zt_fd X d zm_126 0 [(0, .ref 42), (1, .int 1), (2, .int x4)] [] h (zz_after 2 Q (fun v h' => zz_J zp_P zt_tf zt_fd X (d + 1) zm_103 92 [] (v.toList ++ []) h' Q))) : zz_J zp_P zt_tf zt_fd X (d + 1) zm_103 82 [(0, .ref 59), (4, .int x4)] [] h Q := by
  refine zz_J.n 83 rfl rfl rfl ?_
  refine zz_J.g 86 rfl (hR.gv (v := .ref 42) ko_59 (by decide) rfl) rfl ?_
  refine zz_J.c 87 (.int 1) rfl rfl rfl rfl ?_
  refine zz_J.n 89 rfl rfl rfl ?_
  refine zz_J.cv 92 (as := []) rfl rfl (hR.clO ko_42 (by decide) (by decide)) (by decide) (Nat.le_of_ble_eq_true rfl) (Nat.le_of_ble_eq_true rfl) rfl (Nat.le_of_ble_eq_true rfl) rfl ?_
  refine zz_J.mono (k hR) ?_
  intro o h' hE
  cases o with
  | inl v => exact zz_J.weak hE rfl trivial
  | inr q => exact hE
theorem cb_103_92 {X : Nat → Option zz_C} {h : zz_H} {t : cS} {s : mS} {d : Nat} {Q : zz_O → zz_H → Prop} {y0 : Int64} (hR : kR h t s) (k : ∀ {h : zz_H}, kR h t s → Q (.inl (some (.long y0))) h) : zz_J zp_P zt_tf zt_fd X d zm_103 92 [] [.long y0] h Q := by
  refine zz_J.ret rfl rfl rfl ?_
  exact k hR
def cf_103_92 (N : Nat) (X : Nat → Option zz_C) (y0 : Int64) (t : cS) : kO := some (t, .inl (some (.long y0)))
theorem cr_103_92 {X : Nat → Option zz_C} {s : mS} {N : Nat} {d : Nat} (hd : 11 ≤ d) {Q : zz_O → zz_H → Prop} {y0 : Int64} {h : zz_H} {t t' : cS} {o : kY} (hR : kR h t s) (hf : cf_103_92 N X y0 t = some (t', o)) (k : (∀ h', kR h' t' s → kE o Q h')) : zz_J zp_P zt_tf zt_fd X d zm_103 92 [] [.long y0] h Q := by
  unfold cf_103_92 at hf
  cases hf
  exact cb_103_92 hR  (fun {h} hR => k h hR)
def cf_103_82 (N : Nat) (X : Nat → Option zz_C) (x4 : Int32) (t : cS) : kO := ko_call 2 (cf_126 N X 1 x4 t) (fun g1 v1 => co_l v1 (fun y => cf_103_92 N X y g1))
theorem cr_103_82 {X : Nat → Option zz_C} {s : mS} {N : Nat} {d : Nat} (hd : 11 ≤ d) {Q : zz_O → zz_H → Prop} {x4 : Int32} {h : zz_H} {t t' : cS} {o : kY} (hR : kR h t s) (hf : cf_103_82 N X x4 t = some (t', o)) (k : (∀ h', kR h' t' s → kE o Q h')) : zz_J zp_P zt_tf zt_fd X d zm_103 82 [(0, .ref 59), (4, .int x4)] [] h Q := by
  unfold cf_103_82 at hf
  obtain ⟨d', rfl⟩ : ∃ d', d = d' + 1 := ⟨d - 1, by omega⟩
  refine cb_103_82 hR  (fun {h} hR => ?_)
  rcases ko_call_ok hf with ⟨g1, v1, er, hf⟩ | ⟨g1, er, hq⟩
  · obtain ⟨y, hv, hf2⟩ := co_l_ok hf
    clear hf
    have hf := hf2
    clear hf2
    subst hv
    refine cr_126 (by omega) hR er (fun h hR => ?_)
    exact cr_103_92 hd hR hf k
  · refine cr_126 (by omega) hR er (fun h hR => ?_)
    exact ko_thrown hq hR k
def cf_103_65 (N : Nat) (X : Nat → Option zz_C) (y0 : Int64) (t : cS) : kO := some (t, .inl (some (.long y0)))
theorem cr_103_65 {X : Nat → Option zz_C} {s : mS} {N : Nat} {d : Nat} (hd : 11 ≤ d) {Q : zz_O → zz_H → Prop} {y0 : Int64} {h : zz_H} {t t' : cS} {o : kY} (hR : kR h t s) (hf : cf_103_65 N X y0 t = some (t', o)) (k : (∀ h', kR h' t' s → kE o Q h')) : zz_J zp_P zt_tf zt_fd X d zm_103 65 [] [.long y0] h Q := by
  unfold cf_103_65 at hf
  cases hf
  exact cb_103_65 hR  (fun {h} hR => k h hR)
def cf_103_61 (N : Nat) (X : Nat → Option zz_C)  (t : cS) : kO := ko_call 1000 (cf_254 N X 3 t) (fun g1 v1 => co_l v1 (fun y => cf_103_65 N X y g1))
theorem cr_103_61 {X : Nat → Option zz_C} {s : mS} {N : Nat} {d : Nat} (hd : 11 ≤ d) {Q : zz_O → zz_H → Prop}  {h : zz_H} {t t' : cS} {o : kY} (hR : kR h t s) (hf : cf_103_61 N X  t = some (t', o)) (k : (∀ h', kR h' t' s → kE o Q h')) : zz_J zp_P zt_tf zt_fd X d zm_103 61 [] [] h Q := by
  unfold cf_103_61 at hf
  obtain ⟨d', rfl⟩ : ∃ d', d = d' + 1 := ⟨d - 1, by omega⟩
  refine cb_103_61 hR  (fun {h} hR => ?_)
  rcases ko_call_ok hf with ⟨g1, v1, er, hf⟩ | ⟨g1, er, hq⟩
  · obtain ⟨y, hv, hf2⟩ := co_l_ok hf
    clear hf
    have hf := hf2
    clear hf2
    subst hv
    refine cr_254 (by omega) hR er (fun h hR => ?_)
    exact cr_103_65 hd hR hf k
  · refine cr_254 (by omega) hR er (fun h hR => ?_)
    exact ko_thrown hq hR k
def cf_103_76 (N : Nat) (X : Nat → Option zz_C) (rc : Nat → Int64 → Int32 → Int32 → Int32 → cS → kO) (x1 : Int64) (x3 : Int32) (x4 : Int32) (x5 : Int32) (t : cS) : kO := rc 0 x1 x3 x4 (x5 + 1) t
theorem cr_103_76 {X : Nat → Option zz_C} {s : mS} {N : Nat} {d : Nat} (hd : 11 ≤ d) {rc : Nat → Int64 → Int32 → Int32 → Int32 → cS → kO} (hrc0 : ∀ {Q : zz_O → zz_H → Prop} {x1 : Int64} {x3 : Int32} {x4 : Int32} {x5 : Int32} {h : zz_H} {t t' : cS} {o : kY}, kR h t s → rc 0 x1 x3 x4 x5 t = some (t', o) → (∀ h', kR h' t' s → kE o Q h') → zz_J zp_P zt_tf zt_fd X d zm_103 34 [(0, .ref 59), (1, .long x1), (3, .int x3), (4, .int x4), (5, .int x5)] [] h Q) {Q : zz_O → zz_H → Prop} {x1 : Int64} {x3 : Int32} {x4 : Int32} {x5 : Int32} {h : zz_H} {t t' : cS} {o : kY} (hR : kR h t s) (hf : cf_103_76 N X rc x1 x3 x4 x5 t = some (t', o)) (k : (∀ h', kR h' t' s → kE o Q h')) : zz_J zp_P zt_tf zt_fd X d zm_103 76 [(0, .ref 59), (1, .long x1), (3, .int x3), (4, .int x4), (5, .int x5)] [] h Q := by
  unfold cf_103_76 at hf
  exact cb_103_76 hR  (fun hR => hrc0 hR hf k)
def cf_103_66 (N : Nat) (X : Nat → Option zz_C) (rc : Nat → Int64 → Int32 → Int32 → Int32 → cS → kO) (x1 : Int64) (x3 : Int32) (x4 : Int32) (x5 : Int32) (x6 : Int64) (t : cS) : kO := ko_call 2 (cf_125 N X 1 x6 t) (fun g1 v1 => co_v v1 (cf_103_76 N X rc x1 x3 x4 x5 g1))
theorem cr_103_66 {X : Nat → Option zz_C} {s : mS} {N : Nat} {d : Nat} (hd : 11 ≤ d) {rc : Nat → Int64 → Int32 → Int32 → Int32 → cS → kO} (hrc0 : ∀ {Q : zz_O → zz_H → Prop} {x1 : Int64} {x3 : Int32} {x4 : Int32} {x5 : Int32} {h : zz_H} {t t' : cS} {o : kY}, kR h t s → rc 0 x1 x3 x4 x5 t = some (t', o) → (∀ h', kR h' t' s → kE o Q h') → zz_J zp_P zt_tf zt_fd X d zm_103 34 [(0, .ref 59), (1, .long x1), (3, .int x3), (4, .int x4), (5, .int x5)] [] h Q) {Q : zz_O → zz_H → Prop} {x1 : Int64} {x3 : Int32} {x4 : Int32} {x5 : Int32} {x6 : Int64} {h : zz_H} {t t' : cS} {o : kY} (hR : kR h t s) (hf : cf_103_66 N X rc x1 x3 x4 x5 x6 t = some (t', o)) (k : (∀ h', kR h' t' s → kE o Q h')) : zz_J zp_P zt_tf zt_fd X d zm_103 66 [(0, .ref 59), (1, .long x1), (3, .int x3), (4, .int x4), (5, .int x5), (6, .long x6)] [] h Q := by
  unfold cf_103_66 at hf
  obtain ⟨d', rfl⟩ : ∃ d', d = d' + 1 := ⟨d - 1, by omega⟩
  refine cb_103_66 hR  (fun {h} hR => ?_)
  rcases ko_call_ok hf with ⟨g1, v1, er, hf⟩ | ⟨g1, er, hq⟩
  · obtain ⟨hv, hf2⟩ := co_v_ok hf
    clear hf
    have hf := hf2
    clear hf2
    subst hv
    refine cr_125 (by omega) hR er (fun h hR => ?_)
    exact cr_103_76 hd hrc0 hR hf k
  · refine cr_125 (by omega) hR er (fun h hR => ?_)
    exact ko_thrown hq hR k
def cf_103_57 (N : Nat) (X : Nat → Option zz_C) (rc : Nat → Int64 → Int32 → Int32 → Int32 → cS → kO) (x1 : Int64) (x3 : Int32) (x4 : Int32) (x5 : Int32) (x6 : Int64) (y0 : Int32) (t : cS) : kO := if y0 ≤ 1 then cf_103_66 N X rc x1 x3 x4 x5 x6 t else cf_103_61 N X  t
theorem cr_103_57 {X : Nat → Option zz_C} {s : mS} {N : Nat} {d : Nat} (hd : 11 ≤ d) {rc : Nat → Int64 → Int32 → Int32 → Int32 → cS → kO} (hrc0 : ∀ {Q : zz_O → zz_H → Prop} {x1 : Int64} {x3 : Int32} {x4 : Int32} {x5 : Int32} {h : zz_H} {t t' : cS} {o : kY}, kR h t s → rc 0 x1 x3 x4 x5 t = some (t', o) → (∀ h', kR h' t' s → kE o Q h') → zz_J zp_P zt_tf zt_fd X d zm_103 34 [(0, .ref 59), (1, .long x1), (3, .int x3), (4, .int x4), (5, .int x5)] [] h Q) {Q : zz_O → zz_H → Prop} {x1 : Int64} {x3 : Int32} {x4 : Int32} {x5 : Int32} {x6 : Int64} {y0 : Int32} {h : zz_H} {t t' : cS} {o : kY} (hR : kR h t s) (hf : cf_103_57 N X rc x1 x3 x4 x5 x6 y0 t = some (t', o)) (k : (∀ h', kR h' t' s → kE o Q h')) : zz_J zp_P zt_tf zt_fd X d zm_103 57 [(0, .ref 59), (1, .long x1), (3, .int x3), (4, .int x4), (5, .int x5), (6, .long x6)] [.int y0] h Q := by
  unfold cf_103_57 at hf
  refine cb_103_57 hR  (fun c {h} hR => ?_) (fun c {h} hR => ?_)
  · rw [if_pos c] at hf
    exact cr_103_66 hd hrc0 hR hf k
  · rw [if_neg c] at hf
    exact cr_103_61 hd hR hf k
def cf_103_50 (N : Nat) (X : Nat → Option zz_C) (rc : Nat → Int64 → Int32 → Int32 → Int32 → cS → kO) (x1 : Int64) (x3 : Int32) (x4 : Int32) (x5 : Int32) (y0 : Int64) (t : cS) : kO := ko_call 1000 (cf_255 N X y0 t) (fun g1 v1 => co_i v1 (fun y => cf_103_57 N X rc x1 x3 x4 x5 y0 y g1))
theorem cr_103_50 {X : Nat → Option zz_C} {s : mS} {N : Nat} {d : Nat} (hd : 11 ≤ d) {rc : Nat → Int64 → Int32 → Int32 → Int32 → cS → kO} (hrc0 : ∀ {Q : zz_O → zz_H → Prop} {x1 : Int64} {x3 : Int32} {x4 : Int32} {x5 : Int32} {h : zz_H} {t t' : cS} {o : kY}, kR h t s → rc 0 x1 x3 x4 x5 t = some (t', o) → (∀ h', kR h' t' s → kE o Q h') → zz_J zp_P zt_tf zt_fd X d zm_103 34 [(0, .ref 59), (1, .long x1), (3, .int x3), (4, .int x4), (5, .int x5)] [] h Q) {Q : zz_O → zz_H → Prop} {x1 : Int64} {x3 : Int32} {x4 : Int32} {x5 : Int32} {y0 : Int64} {h : zz_H} {t t' : cS} {o : kY} (hR : kR h t s) (hf : cf_103_50 N X rc x1 x3 x4 x5 y0 t = some (t', o)) (k : (∀ h', kR h' t' s → kE o Q h')) : zz_J zp_P zt_tf zt_fd X d zm_103 50 [(0, .ref 59), (1, .long x1), (3, .int x3), (4, .int x4), (5, .int x5)] [.long y0] h Q := by
  unfold cf_103_50 at hf
  obtain ⟨d', rfl⟩ : ∃ d', d = d' + 1 := ⟨d - 1, by omega⟩
  refine cb_103_50 hR  (fun {h} hR => ?_)
  rcases ko_call_ok hf with ⟨g1, v1, er, hf⟩ | ⟨g1, er, hq⟩
  · obtain ⟨y, hv, hf2⟩ := co_i_ok hf
    clear hf
    have hf := hf2
    clear hf2
    subst hv
    refine cr_255 (by omega) hR er (fun h hR => ?_)
    exact cr_103_57 hd hrc0 hR hf k
  · refine cr_255 (by omega) hR er (fun h hR => ?_)
    exact ko_thrown hq hR k
def cf_103_40 (N : Nat) (X : Nat → Option zz_C) (rc : Nat → Int64 → Int32 → Int32 → Int32 → cS → kO) (x1 : Int64) (x3 : Int32) (x4 : Int32) (x5 : Int32) (t : cS) : kO := ko_call 2 (cf_129 N X x1 x5 t) (fun g1 v1 => co_l v1 (fun y => cf_103_50 N X rc x1 x3 x4 x5 y g1))
theorem cr_103_40 {X : Nat → Option zz_C} {s : mS} {N : Nat} {d : Nat} (hd : 11 ≤ d) {rc : Nat → Int64 → Int32 → Int32 → Int32 → cS → kO} (hrc0 : ∀ {Q : zz_O → zz_H → Prop} {x1 : Int64} {x3 : Int32} {x4 : Int32} {x5 : Int32} {h : zz_H} {t t' : cS} {o : kY}, kR h t s → rc 0 x1 x3 x4 x5 t = some (t', o) → (∀ h', kR h' t' s → kE o Q h') → zz_J zp_P zt_tf zt_fd X d zm_103 34 [(0, .ref 59), (1, .long x1), (3, .int x3), (4, .int x4), (5, .int x5)] [] h Q) {Q : zz_O → zz_H → Prop} {x1 : Int64} {x3 : Int32} {x4 : Int32} {x5 : Int32} {h : zz_H} {t t' : cS} {o : kY} (hR : kR h t s) (hf : cf_103_40 N X rc x1 x3 x4 x5 t = some (t', o)) (k : (∀ h', kR h' t' s → kE o Q h')) : zz_J zp_P zt_tf zt_fd X d zm_103 40 [(0, .ref 59), (1, .long x1), (3, .int x3), (4, .int x4), (5, .int x5)] [] h Q := by
  unfold cf_103_40 at hf
  obtain ⟨d', rfl⟩ : ∃ d', d = d' + 1 := ⟨d - 1, by omega⟩
  refine cb_103_40 hR  (fun {h} hR => ?_)
  rcases ko_call_ok hf with ⟨g1, v1, er, hf⟩ | ⟨g1, er, hq⟩
  · obtain ⟨y, hv, hf2⟩ := co_l_ok hf
    clear hf
    have hf := hf2
    clear hf2
    subst hv
    refine cr_129 (by omega) hR er (fun h hR => ?_)
    exact cr_103_50 hd hrc0 hR hf k
  · refine cr_129 (by omega) hR er (fun h hR => ?_)
    exact ko_thrown hq hR k
def cf_103_34 (N : Nat) (X : Nat → Option zz_C) (rc : Nat → Int64 → Int32 → Int32 → Int32 → cS → kO) (x1 : Int64) (x3 : Int32) (x4 : Int32) (x5 : Int32) (t : cS) : kO := if x3 ≤ x5 then cf_103_82 N X x4 t else cf_103_40 N X rc x1 x3 x4 x5 t
theorem cr_103_34 {X : Nat → Option zz_C} {s : mS} {N : Nat} {d : Nat} (hd : 11 ≤ d) {rc : Nat → Int64 → Int32 → Int32 → Int32 → cS → kO} (hrc0 : ∀ {Q : zz_O → zz_H → Prop} {x1 : Int64} {x3 : Int32} {x4 : Int32} {x5 : Int32} {h : zz_H} {t t' : cS} {o : kY}, kR h t s → rc 0 x1 x3 x4 x5 t = some (t', o) → (∀ h', kR h' t' s → kE o Q h') → zz_J zp_P zt_tf zt_fd X d zm_103 34 [(0, .ref 59), (1, .long x1), (3, .int x3), (4, .int x4), (5, .int x5)] [] h Q) {Q : zz_O → zz_H → Prop} {x1 : Int64} {x3 : Int32} {x4 : Int32} {x5 : Int32} {h : zz_H} {t t' : cS} {o : kY} (hR : kR h t s) (hf : cf_103_34 N X rc x1 x3 x4 x5 t = some (t', o)) (k : (∀ h', kR h' t' s → kE o Q h')) : zz_J zp_P zt_tf zt_fd X d zm_103 34 [(0, .ref 59), (1, .long x1), (3, .int x3), (4, .int x4), (5, .int x5)] [] h Q := by
  unfold cf_103_34 at hf
  refine cb_103_34 hR  (fun c {h} hR => ?_) (fun c {h} hR => ?_)
  · rw [if_pos c] at hf
    exact cr_103_82 hd hR hf k
  · rw [if_neg c] at hf
    exact cr_103_40 hd hrc0 hR hf k
def cf_103_L4 (N : Nat) (X : Nat → Option zz_C) : Nat → Nat → Int64 → Int32 → Int32 → Int32 → cS → kO
  | 0, _, _, _, _, _, _ => none
  | n + 1, l, x1, x3, x4, x5, t => if l = 0 then cf_103_34 N X (cf_103_L4 N X n) x1 x3 x4 x5 t else none
theorem cr_103_L4 {X : Nat → Option zz_C} {s : mS} {N : Nat} {d : Nat} (hd : 11 ≤ d) : ∀ n : Nat, (∀ {Q : zz_O → zz_H → Prop} {x1 : Int64} {x3 : Int32} {x4 : Int32} {x5 : Int32} {h : zz_H} {t t' : cS} {o : kY}, kR h t s → cf_103_L4 N X n 0 x1 x3 x4 x5 t = some (t', o) → (∀ h', kR h' t' s → kE o Q h') → zz_J zp_P zt_tf zt_fd X d zm_103 34 [(0, .ref 59), (1, .long x1), (3, .int x3), (4, .int x4), (5, .int x5)] [] h Q) := by
  intro n
  induction n with
  | zero => exact (fun _ hf _ => by cases hf)
  | succ n ih =>
    have h0 := @ih
    intro Q _ _ _ _ h t t' o hR hf k
    unfold cf_103_L4 at hf
    rw [if_pos rfl] at hf
    exact cr_103_34 hd h0 hR hf k
def cf_103_29 (N : Nat) (X : Nat → Option zz_C) (x1 : Int64) (x3 : Int32) (y0 : Int32) (t : cS) : kO := cf_103_L4 N X N 0 x1 x3 y0 0 t
theorem cr_103_29 {X : Nat → Option zz_C} {s : mS} {N : Nat} {d : Nat} (hd : 11 ≤ d) {Q : zz_O → zz_H → Prop} {x1 : Int64} {x3 : Int32} {y0 : Int32} {h : zz_H} {t t' : cS} {o : kY} (hR : kR h t s) (hf : cf_103_29 N X x1 x3 y0 t = some (t', o)) (k : (∀ h', kR h' t' s → kE o Q h')) : zz_J zp_P zt_tf zt_fd X d zm_103 29 [(0, .ref 59), (1, .long x1), (3, .int x3)] [.int y0] h Q := by
  unfold cf_103_29 at hf
  exact cb_103_29 hR  (fun hR => cr_103_L4 hd N hR hf k)
def cf_103_21 (N : Nat) (X : Nat → Option zz_C) (x1 : Int64) (y0 : Int32) (t : cS) : kO := ko_call 2 (cf_122 N X  t) (fun g1 v1 => co_i v1 (fun y => cf_103_29 N X x1 y0 y g1))
theorem cr_103_21 {X : Nat → Option zz_C} {s : mS} {N : Nat} {d : Nat} (hd : 11 ≤ d) {Q : zz_O → zz_H → Prop} {x1 : Int64} {y0 : Int32} {h : zz_H} {t t' : cS} {o : kY} (hR : kR h t s) (hf : cf_103_21 N X x1 y0 t = some (t', o)) (k : (∀ h', kR h' t' s → kE o Q h')) : zz_J zp_P zt_tf zt_fd X d zm_103 21 [(0, .ref 59), (1, .long x1)] [.int y0] h Q := by
  unfold cf_103_21 at hf
  obtain ⟨d', rfl⟩ : ∃ d', d = d' + 1 := ⟨d - 1, by omega⟩
  refine cb_103_21 hR  (fun {h} hR => ?_)
  rcases ko_call_ok hf with ⟨g1, v1, er, hf⟩ | ⟨g1, er, hq⟩
  · obtain ⟨y, hv, hf2⟩ := co_i_ok hf
    clear hf
    have hf := hf2
    clear hf2
    subst hv
    refine cr_122 (by omega) hR er (fun h hR => ?_)
    exact cr_103_29 hd hR hf k
  · refine cr_122 (by omega) hR er (fun h hR => ?_)
    exact ko_thrown hq hR k
def cf_103_13 (N : Nat) (X : Nat → Option zz_C) (x1 : Int64) (t : cS) : kO := ko_call 2 (cf_128 N X x1 t) (fun g1 v1 => co_i v1 (fun y => cf_103_21 N X x1 y g1))
theorem cr_103_13 {X : Nat → Option zz_C} {s : mS} {N : Nat} {d : Nat} (hd : 11 ≤ d) {Q : zz_O → zz_H → Prop} {x1 : Int64} {h : zz_H} {t t' : cS} {o : kY} (hR : kR h t s) (hf : cf_103_13 N X x1 t = some (t', o)) (k : (∀ h', kR h' t' s → kE o Q h')) : zz_J zp_P zt_tf zt_fd X d zm_103 13 [(0, .ref 59), (1, .long x1)] [] h Q := by
  unfold cf_103_13 at hf
  obtain ⟨d', rfl⟩ : ∃ d', d = d' + 1 := ⟨d - 1, by omega⟩
  refine cb_103_13 hR  (fun {h} hR => ?_)
  rcases ko_call_ok hf with ⟨g1, v1, er, hf⟩ | ⟨g1, er, hq⟩
  · obtain ⟨y, hv, hf2⟩ := co_i_ok hf
    clear hf
    have hf := hf2
    clear hf2
    subst hv
    refine cr_128 (by omega) hR er (fun h hR => ?_)
    exact cr_103_21 hd hR hf k
  · refine cr_128 (by omega) hR er (fun h hR => ?_)
    exact ko_thrown hq hR k
def cf_103_12 (N : Nat) (X : Nat → Option zz_C) (y0 : Int64) (t : cS) : kO := some (t, .inl (some (.long y0)))
theorem cr_103_12 {X : Nat → Option zz_C} {s : mS} {N : Nat} {d : Nat} (hd : 11 ≤ d) {Q : zz_O → zz_H → Prop} {y0 : Int64} {h : zz_H} {t t' : cS} {o : kY} (hR : kR h t s) (hf : cf_103_12 N X y0 t = some (t', o)) (k : (∀ h', kR h' t' s → kE o Q h')) : zz_J zp_P zt_tf zt_fd X d zm_103 12 [] [.long y0] h Q := by
  unfold cf_103_12 at hf
  cases hf
  exact cb_103_12 hR  (fun {h} hR => k h hR)
def cf_103_8 (N : Nat) (X : Nat → Option zz_C)  (t : cS) : kO := ko_call 1000 (cf_254 N X 3 t) (fun g1 v1 => co_l v1 (fun y => cf_103_12 N X y g1))
theorem cr_103_8 {X : Nat → Option zz_C} {s : mS} {N : Nat} {d : Nat} (hd : 11 ≤ d) {Q : zz_O → zz_H → Prop}  {h : zz_H} {t t' : cS} {o : kY} (hR : kR h t s) (hf : cf_103_8 N X  t = some (t', o)) (k : (∀ h', kR h' t' s → kE o Q h')) : zz_J zp_P zt_tf zt_fd X d zm_103 8 [] [] h Q := by
  unfold cf_103_8 at hf
  obtain ⟨d', rfl⟩ : ∃ d', d = d' + 1 := ⟨d - 1, by omega⟩
  refine cb_103_8 hR  (fun {h} hR => ?_)
  rcases ko_call_ok hf with ⟨g1, v1, er, hf⟩ | ⟨g1, er, hq⟩
  · obtain ⟨y, hv, hf2⟩ := co_l_ok hf
    clear hf
    have hf := hf2
    clear hf2
    subst hv
    refine cr_254 (by omega) hR er (fun h hR => ?_)
    exact cr_103_12 hd hR hf k
  · refine cr_254 (by omega) hR er (fun h hR => ?_)
    exact ko_thrown hq hR k
def cf_103_4 (N : Nat) (X : Nat → Option zz_C) (x1 : Int64) (y0 : Int32) (t : cS) : kO := if 2 ≤ y0 then cf_103_13 N X x1 t else cf_103_8 N X  t
theorem cr_103_4 {X : Nat → Option zz_C} {s : mS} {N : Nat} {d : Nat} (hd : 11 ≤ d) {Q : zz_O → zz_H → Prop} {x1 : Int64} {y0 : Int32} {h : zz_H} {t t' : cS} {o : kY} (hR : kR h t s) (hf : cf_103_4 N X x1 y0 t = some (t', o)) (k : (∀ h', kR h' t' s → kE o Q h')) : zz_J zp_P zt_tf zt_fd X d zm_103 4 [(0, .ref 59), (1, .long x1)] [.int y0] h Q := by
  unfold cf_103_4 at hf
  refine cb_103_4 hR  (fun c {h} hR => ?_) (fun c {h} hR => ?_)
  · rw [if_pos c] at hf
    exact cr_103_13 hd hR hf k
  · rw [if_neg c] at hf
    exact cr_103_8 hd hR hf k
def cf_103_0 (N : Nat) (X : Nat → Option zz_C) (x1 : Int64) (t : cS) : kO := ko_call 1000 (cf_255 N X x1 t) (fun g1 v1 => co_i v1 (fun y => cf_103_4 N X x1 y g1))
theorem cr_103_0 {X : Nat → Option zz_C} {s : mS} {N : Nat} {d : Nat} (hd : 11 ≤ d) {Q : zz_O → zz_H → Prop} {x1 : Int64} {h : zz_H} {t t' : cS} {o : kY} (hR : kR h t s) (hf : cf_103_0 N X x1 t = some (t', o)) (k : (∀ h', kR h' t' s → kE o Q h')) : zz_J zp_P zt_tf zt_fd X d zm_103 0 [(0, .ref 59), (1, .long x1)] [] h Q := by
  unfold cf_103_0 at hf
  obtain ⟨d', rfl⟩ : ∃ d', d = d' + 1 := ⟨d - 1, by omega⟩
  refine cb_103_0 hR  (fun {h} hR => ?_)
  rcases ko_call_ok hf with ⟨g1, v1, er, hf⟩ | ⟨g1, er, hq⟩
  · obtain ⟨y, hv, hf2⟩ := co_i_ok hf
    clear hf
    have hf := hf2
    clear hf2
    subst hv
    refine cr_255 (by omega) hR er (fun h hR => ?_)
    exact cr_103_4 hd hR hf k
  · refine cr_255 (by omega) hR er (fun h hR => ?_)
    exact ko_thrown hq hR k
/-- flat -/
def cf_103 (N : Nat) (X : Nat → Option zz_C) (x1 : Int64) (t : cS) : kO := cf_103_0 N X x1 t
theorem cr_103 {X : Nat → Option zz_C} {s : mS} {N : Nat} {d : Nat} (hd : 11 ≤ d) {Q : zz_O → zz_H → Prop} {x1 : Int64} {h : zz_H} {t t' : cS} {o : kY} (hR : kR h t s) (hf : cf_103 N X x1 t = some (t', o)) (k : ∀ h', kR h' t' s → kE o Q h') : zz_J zp_P zt_tf zt_fd X d zm_103 0 [(0, .ref 59), (1, .long x1)] [] h Q := by
  unfold cf_103 at hf
  exact zz_J.weak (cr_103_0 hd hR hf k) rfl ⟨rfl, rfl, trivial⟩
