/-! yX1_take (JJ)J -/
theorem cb_109_0 {X : Nat → Option zz_C} {h : zz_H} {t : cS} {s : mS} {d : Nat} {Q : zz_O → zz_H → Prop} {x1 : Int64} {x3 : Int64} (hR : kR h t s) (k : ∀ {h : zz_H}, kR h t s → zz_J zp_P zt_tf zt_fd X d zm_255 0 [(0, .long x3)] [] h (zz_after 1000 Q (fun v h' => zz_J zp_P zt_tf zt_fd X (d + 1) zm_109 4 [(0, .ref 59), (1, .long x1), (3, .long x3)] (v.toList ++ []) h' Q))) : zz_J zp_P zt_tf zt_fd X (d + 1) zm_109 0 [(0, .ref 59), (1, .long x1), (3, .long x3)] [] h Q := by
  refine zz_J.n 1 rfl rfl rfl ?_
  refine zz_J.cl (M' := zm_255) 4 rfl rfl (by decide) rfl rfl ⟨rfl, Nat.le_of_ble_eq_true rfl⟩ rfl ?_
  refine zz_J.mono (k hR) ?_
  intro o h' hE
  cases o with
  | inl v => exact zz_J.weak hE rfl ⟨rfl, rfl, rfl, trivial⟩
  | inr q => exact hE
theorem cb_109_4 {X : Nat → Option zz_C} {h : zz_H} {t : cS} {s : mS} {d : Nat} {Q : zz_O → zz_H → Prop} {x1 : Int64} {x3 : Int64} {y0 : Int32} (hR : kR h t s) (k : ∀ {h : zz_H}, kR h t s → zz_J zp_P zt_tf zt_fd X d zm_255 0 [(0, .long x1)] [] h (zz_after 1000 Q (fun v h' => zz_J zp_P zt_tf zt_fd X (d + 1) zm_109 10 [(0, .ref 59), (1, .long x1), (3, .long x3), (5, .int y0)] (v.toList ++ []) h' Q))) : zz_J zp_P zt_tf zt_fd X (d + 1) zm_109 4 [(0, .ref 59), (1, .long x1), (3, .long x3)] [.int y0] h Q := by
  refine zz_J.n 6 rfl rfl rfl ?_
  refine zz_J.n 7 rfl rfl rfl ?_
  refine zz_J.cl (M' := zm_255) 10 rfl rfl (by decide) rfl rfl ⟨rfl, Nat.le_of_ble_eq_true rfl⟩ rfl ?_
  refine zz_J.mono (k hR) ?_
  intro o h' hE
  cases o with
  | inl v => exact zz_J.weak hE rfl ⟨rfl, rfl, rfl, rfl, trivial⟩
  | inr q => exact hE
theorem cb_109_10 {X : Nat → Option zz_C} {h : zz_H} {t : cS} {s : mS} {d : Nat} {Q : zz_O → zz_H → Prop} {x1 : Int64} {x3 : Int64} {x5 : Int32} {y0 : Int32} (hR : kR h t s) (k1 : ¬ y0 = 0 → (∀ {h : zz_H}, kR h t s → zz_J zp_P zt_tf zt_fd X d zm_109 18 [] [] h Q)) (k2 : ¬ ¬ y0 = 0 → (∀ {h : zz_H}, kR h t s → zz_J zp_P zt_tf zt_fd X d zm_109 13 [(0, .ref 59), (1, .long x1), (3, .long x3), (5, .int x5)] [] h Q)) : zz_J zp_P zt_tf zt_fd X d zm_109 10 [(0, .ref 59), (1, .long x1), (3, .long x3), (5, .int x5)] [.int y0] h Q := by
  refine zz_J.b1 18 13 (A := ¬ y0 = 0) rfl (zz_cond_ne _ _) (by decide) rfl rfl (fun c => ?_) (fun c => ?_)
  · exact zz_J.weak (k1 c hR) rfl trivial
  · exact zz_J.weak (k2 c hR) rfl ⟨rfl, rfl, rfl, rfl, trivial⟩
theorem cb_109_13 {X : Nat → Option zz_C} {h : zz_H} {t : cS} {s : mS} {d : Nat} {Q : zz_O → zz_H → Prop} {x1 : Int64} {x3 : Int64} {x5 : Int32} (hR : kR h t s) (k1 : ¬ x5 = 0 → (∀ {h : zz_H}, kR h t s → zz_J zp_P zt_tf zt_fd X d zm_109 23 [(0, .ref 59), (1, .long x1), (3, .long x3), (5, .int x5)] [] h Q)) (k2 : ¬ ¬ x5 = 0 → (∀ {h : zz_H}, kR h t s → zz_J zp_P zt_tf zt_fd X d zm_109 18 [] [] h Q)) : zz_J zp_P zt_tf zt_fd X d zm_109 13 [(0, .ref 59), (1, .long x1), (3, .long x3), (5, .int x5)] [] h Q := by
  refine zz_J.n 15 rfl rfl rfl ?_
  refine zz_J.b1 23 18 (A := ¬ x5 = 0) rfl (zz_cond_ne _ _) (by decide) rfl rfl (fun c => ?_) (fun c => ?_)
  · exact zz_J.weak (k1 c hR) rfl ⟨rfl, rfl, rfl, rfl, trivial⟩
  · exact zz_J.weak (k2 c hR) rfl trivial
theorem cb_109_18 {X : Nat → Option zz_C} {h : zz_H} {t : cS} {s : mS} {d : Nat} {Q : zz_O → zz_H → Prop}  (hR : kR h t s) (k : ∀ {h : zz_H}, kR h t s → zz_J zp_P zt_tf zt_fd X d zm_254 0 [(0, .int 3)] [] h (zz_after 1000 Q (fun v h' => zz_J zp_P zt_tf zt_fd X (d + 1) zm_109 22 [] (v.toList ++ []) h' Q))) : zz_J zp_P zt_tf zt_fd X (d + 1) zm_109 18 [] [] h Q := by
  refine zz_J.c 19 (.int 3) rfl rfl rfl rfl ?_
  refine zz_J.cl (M' := zm_254) 22 rfl rfl (by decide) rfl rfl ⟨rfl, Nat.le_of_ble_eq_true rfl⟩ rfl ?_
  refine zz_J.mono (k hR) ?_
  intro o h' hE
  cases o with
  | inl v => exact zz_J.weak hE rfl trivial
  | inr q => exact hE
theorem cb_109_22 {X : Nat → Option zz_C} {h : zz_H} {t : cS} {s : mS} {d : Nat} {Q : zz_O → zz_H → Prop} {y0 : Int64} (hR : kR h t s) (k : ∀ {h : zz_H}, kR h t s → Q (.inl (some (.long y0))) h) : zz_J zp_P zt_tf zt_fd X d zm_109 22 [] [.long y0] h Q := by
  refine zz_J.ret rfl rfl rfl ?_
  exact k hR
theorem cb_109_23 {X : Nat → Option zz_C} {h : zz_H} {t : cS} {s : mS} {d : Nat} {Q : zz_O → zz_H → Prop} {x1 : Int64} {x3 : Int64} {x5 : Int32} (hR : kR h t s) (k : ∀ {h : zz_H}, kR h t s → zz_J zp_P zt_tf zt_fd X d zm_256 0 [(0, .long x1)] [] h (zz_after 1000 Q (fun v h' => zz_J zp_P zt_tf zt_fd X (d + 1) zm_109 27 [(0, .ref 59), (3, .long x3), (5, .int x5)] (v.toList ++ []) h' Q))) : zz_J zp_P zt_tf zt_fd X (d + 1) zm_109 23 [(0, .ref 59), (1, .long x1), (3, .long x3), (5, .int x5)] [] h Q := by
  refine zz_J.n 24 rfl rfl rfl ?_
  refine zz_J.cl (M' := zm_256) 27 rfl rfl (by decide) rfl rfl ⟨rfl, Nat.le_of_ble_eq_true rfl⟩ rfl ?_
  refine zz_J.mono (k hR) ?_
  intro o h' hE
  cases o with
  | inl v => exact zz_J.weak hE rfl ⟨rfl, rfl, rfl, trivial⟩
  | inr q => exact hE
theorem cb_109_27 {X : Nat → Option zz_C} {h : zz_H} {t : cS} {s : mS} {d : Nat} {Q : zz_O → zz_H → Prop} {x3 : Int64} {x5 : Int32} {y0 : Int32} (hR : kR h t s) (k1 : ¬ x5 = 1 → (∀ {h : zz_H}, kR h t s → zz_J zp_P zt_tf zt_fd X (d + 1) zm_109 50 [(0, .ref 59), (3, .long x3), (5, .int x5), (6, .long (Int32.toInt64 y0)), (8, .long (if 0 < (Int32.toInt64 y0) then (Int32.toInt64 y0) else -(Int32.toInt64 y0)))] [.long (if 0 < (Int32.toInt64 y0) then (Int32.toInt64 y0) else -(Int32.toInt64 y0))] h Q)) (k2 : ¬ ¬ x5 = 1 → (∀ {h : zz_H}, kR h t s → zz_J zp_P zt_tf zt_fd X (d + 1) zm_109 45 [(0, .ref 59), (3, .long x3), (5, .int x5), (6, .long (Int32.toInt64 y0)), (8, .long (if 0 < (Int32.toInt64 y0) then (Int32.toInt64 y0) else -(Int32.toInt64 y0)))] [.long (if 0 < (Int32.toInt64 y0) then (Int32.toInt64 y0) else -(Int32.toInt64 y0))] h Q)) : zz_J zp_P zt_tf zt_fd X (d + 1) zm_109 27 [(0, .ref 59), (3, .long x3), (5, .int x5)] [.int y0] h Q := by
  refine zz_J.n 28 rfl rfl rfl ?_
  refine zz_J.n 30 rfl rfl rfl ?_
  refine zz_J.n 32 rfl rfl rfl ?_
  refine zz_J.spec 35 rfl rfl (by decide) rfl rfl rfl ?_
  refine zz_J.n 37 rfl rfl rfl ?_
  refine zz_J.n 39 rfl rfl rfl ?_
  refine zz_J.n 41 rfl rfl rfl ?_
  refine zz_J.c 42 (.int 1) rfl rfl rfl rfl ?_
  refine zz_J.b2 50 45 (A := ¬ x5 = 1) rfl (zz_cond_ne _ _) (by decide) rfl rfl (fun c => ?_) (fun c => ?_)
  · exact zz_J.weak (k1 c hR) rfl ⟨rfl, rfl, rfl, rfl, rfl, trivial⟩
  · exact zz_J.weak (k2 c hR) rfl ⟨rfl, rfl, rfl, rfl, rfl, trivial⟩
theorem cb_109_45 {X : Nat → Option zz_C} {h : zz_H} {t : cS} {s : mS} {d : Nat} {Q : zz_O → zz_H → Prop} {x3 : Int64} {x5 : Int32} {x6 : Int64} {x8 : Int64} {y0 : Int64} (hR : kR h t s) (k : ∀ {h : zz_H}, kR h t s → zz_J zp_P zt_tf zt_fd X d zm_109 52 [(0, .ref 59), (3, .long x3), (5, .int x5), (6, .long x6), (8, .long x8)] [.int 64, .long y0] h Q) : zz_J zp_P zt_tf zt_fd X d zm_109 45 [(0, .ref 59), (3, .long x3), (5, .int x5), (6, .long x6), (8, .long x8)] [.long y0] h Q := by
  refine zz_J.c 47 (.int 64) rfl rfl rfl rfl ?_
  refine zz_J.n 52 rfl rfl rfl ?_
  exact zz_J.weak (k hR) rfl ⟨rfl, rfl, rfl, rfl, rfl, trivial⟩
theorem cb_109_50 {X : Nat → Option zz_C} {h : zz_H} {t : cS} {s : mS} {d : Nat} {Q : zz_O → zz_H → Prop} {x3 : Int64} {x5 : Int32} {x6 : Int64} {x8 : Int64} {y0 : Int64} (hR : kR h t s) (k : ∀ {h : zz_H}, kR h t s → zz_J zp_P zt_tf zt_fd X d zm_109 52 [(0, .ref 59), (3, .long x3), (5, .int x5), (6, .long x6), (8, .long x8)] [.int 20, .long y0] h Q) : zz_J zp_P zt_tf zt_fd X d zm_109 50 [(0, .ref 59), (3, .long x3), (5, .int x5), (6, .long x6), (8, .long x8)] [.long y0] h Q := by
  refine zz_J.c 52 (.int 20) rfl rfl rfl rfl ?_
  exact zz_J.weak (k hR) rfl ⟨rfl, rfl, rfl, rfl, rfl, trivial⟩
theorem cb_109_52 {X : Nat → Option zz_C} {h : zz_H} {t : cS} {s : mS} {d : Nat} {Q : zz_O → zz_H → Prop} {x3 : Int64} {x5 : Int32} {x6 : Int64} {x8 : Int64} {y0 : Int64} {y1 : Int32} (hR : kR h t s) (k1 : (lg_cmp y0 (Int32.toInt64 y1)) ≤ 0 → (∀ {h : zz_H}, kR h t s → zz_J zp_P zt_tf zt_fd X d zm_109 62 [(0, .ref 59), (3, .long x3), (5, .int x5), (6, .long x6), (8, .long x8)] [] h Q)) (k2 : ¬ (lg_cmp y0 (Int32.toInt64 y1)) ≤ 0 → (∀ {h : zz_H}, kR h t s → zz_J zp_P zt_tf zt_fd X d zm_109 57 [] [] h Q)) : zz_J zp_P zt_tf zt_fd X d zm_109 52 [(0, .ref 59), (3, .long x3), (5, .int x5), (6, .long x6), (8, .long x8)] [.int y1, .long y0] h Q := by
  refine zz_J.n 53 rfl rfl rfl ?_
  refine zz_J.n 54 rfl rfl rfl ?_
  refine zz_J.b1 62 57 (A := (lg_cmp y0 (Int32.toInt64 y1)) ≤ 0) rfl rfl (by decide) rfl rfl (fun c => ?_) (fun c => ?_)
  · exact zz_J.weak (k1 c hR) rfl ⟨rfl, rfl, rfl, rfl, rfl, trivial⟩
  · exact zz_J.weak (k2 c hR) rfl trivial
theorem cb_109_57 {X : Nat → Option zz_C} {h : zz_H} {t : cS} {s : mS} {d : Nat} {Q : zz_O → zz_H → Prop}  (hR : kR h t s) (k : ∀ {h : zz_H}, kR h t s → zz_J zp_P zt_tf zt_fd X d zm_254 0 [(0, .int 2)] [] h (zz_after 1000 Q (fun v h' => zz_J zp_P zt_tf zt_fd X (d + 1) zm_109 61 [] (v.toList ++ []) h' Q))) : zz_J zp_P zt_tf zt_fd X (d + 1) zm_109 57 [] [] h Q := by
  refine zz_J.c 58 (.int 2) rfl rfl rfl rfl ?_
  refine zz_J.cl (M' := zm_254) 61 rfl rfl (by decide) rfl rfl ⟨rfl, Nat.le_of_ble_eq_true rfl⟩ rfl ?_
  refine zz_J.mono (k hR) ?_
  intro o h' hE
  cases o with
  | inl v => exact zz_J.weak hE rfl trivial
  | inr q => exact hE
theorem cb_109_61 {X : Nat → Option zz_C} {h : zz_H} {t : cS} {s : mS} {d : Nat} {Q : zz_O → zz_H → Prop} {y0 : Int64} (hR : kR h t s) (k : ∀ {h : zz_H}, kR h t s → Q (.inl (some (.long y0))) h) : zz_J zp_P zt_tf zt_fd X d zm_109 61 [] [.long y0] h Q := by
  refine zz_J.ret rfl rfl rfl ?_
  exact k hR
theorem cb_109_62 {X : Nat → Option zz_C} {h : zz_H} {t : cS} {s : mS} {d : Nat} {Q : zz_O → zz_H → Prop} {x3 : Int64} {x5 : Int32} {x6 : Int64} {x8 : Int64} (hR : kR h t s) (k : ∀ {h : zz_H}, kR h t s → zz_J zp_P zt_tf zt_fd X d zm_128 0 [(0, .ref 42), (1, .long x3)] [] h (zz_after 2 Q (fun v h' => zz_J zp_P zt_tf zt_fd X (d + 1) zm_109 70 [(0, .ref 59), (3, .long x3), (5, .int x5), (6, .long x6), (8, .long x8)] (v.toList ++ []) h' Q))) : zz_J zp_P zt_tf zt_fd X (d + 1) zm_109 62 [(0, .ref 59), (3, .long x3), (5, .int x5), (6, .long x6), (8, .long x8)] [] h Q := by
  refine zz_J.n 63 rfl rfl rfl ?_
  refine zz_J.g 66 rfl (hR.gv (v := .ref 42) ko_59 (by decide) rfl) rfl ?_
  refine zz_J.n 67 rfl rfl rfl ?_
  refine zz_J.cv 70 (as := []) rfl rfl (hR.clO ko_42 (by decide) (by decide)) (by decide) (Nat.le_of_ble_eq_true rfl) (Nat.le_of_ble_eq_true rfl) rfl (Nat.le_of_ble_eq_true rfl) rfl ?_
  refine zz_J.mono (k hR) ?_
  intro o h' hE
  cases o with
  | inl v => exact zz_J.weak hE rfl ⟨rfl, rfl, rfl, rfl, rfl, trivial⟩
  | inr q => exact hE
theorem cb_109_70 {X : Nat → Option zz_C} {h : zz_H} {t : cS} {s : mS} {d : Nat} {Q : zz_O → zz_H → Prop} {x3 : Int64} {x5 : Int32} {x6 : Int64} {x8 : Int64} {y0 : Int32} (hR : kR h t s) (k1 : 0 ≤ (lg_cmp x6 0) → (∀ {h : zz_H}, kR h t s → zz_J zp_P zt_tf zt_fd X d zm_109 89 [(0, .ref 59), (3, .long x3), (5, .int x5), (8, .long x8), (10, .int y0)] [] h Q)) (k2 : ¬ 0 ≤ (lg_cmp x6 0) → (∀ {h : zz_H}, kR h t s → zz_J zp_P zt_tf zt_fd X d zm_109 79 [(0, .ref 59), (3, .long x3), (5, .int x5), (8, .long x8), (10, .int y0)] [] h Q)) : zz_J zp_P zt_tf zt_fd X d zm_109 70 [(0, .ref 59), (3, .long x3), (5, .int x5), (6, .long x6), (8, .long x8)] [.int y0] h Q := by
  refine zz_J.n 72 rfl rfl rfl ?_
  refine zz_J.n 74 rfl rfl rfl ?_
  refine zz_J.c 75 (.long 0) rfl rfl rfl rfl ?_
  refine zz_J.n 76 rfl rfl rfl ?_
  refine zz_J.b1 89 79 (A := 0 ≤ (lg_cmp x6 0)) rfl rfl (by decide) rfl rfl (fun c => ?_) (fun c => ?_)
  · exact zz_J.weak (k1 c hR) rfl ⟨rfl, rfl, rfl, rfl, rfl, trivial⟩
  · exact zz_J.weak (k2 c hR) rfl ⟨rfl, rfl, rfl, rfl, rfl, trivial⟩
theorem cb_109_79 {X : Nat → Option zz_C} {h : zz_H} {t : cS} {s : mS} {d : Nat} {Q : zz_O → zz_H → Prop} {x3 : Int64} {x5 : Int32} {x8 : Int64} {x10 : Int32} (hR : kR h t s) (k : ∀ {h : zz_H}, kR h t s → zz_J zp_P zt_tf zt_fd X d zm_109 90 [(0, .ref 59), (3, .long x3), (5, .int x5), (8, .long x8), (10, .int x10)] [.int (Int64.toInt32 ((Int32.toInt64 x10) - x8))] h Q) : zz_J zp_P zt_tf zt_fd X d zm_109 79 [(0, .ref 59), (3, .long x3), (5, .int x5), (8, .long x8), (10, .int x10)] [] h Q := by
  refine zz_J.n 81 rfl rfl rfl ?_
  refine zz_J.n 82 rfl rfl rfl ?_
  refine zz_J.n 84 rfl rfl rfl ?_
  refine zz_J.n 85 rfl rfl rfl ?_
  refine zz_J.n 86 rfl rfl rfl ?_
  refine zz_J.n 90 rfl rfl rfl ?_
  exact zz_J.weak (k hR) rfl ⟨rfl, rfl, rfl, rfl, rfl, trivial⟩
theorem cb_109_89 {X : Nat → Option zz_C} {h : zz_H} {t : cS} {s : mS} {d : Nat} {Q : zz_O → zz_H → Prop} {x3 : Int64} {x5 : Int32} {x8 : Int64} {x10 : Int32} (hR : kR h t s) (k : ∀ {h : zz_H}, kR h t s → zz_J zp_P zt_tf zt_fd X d zm_109 90 [(0, .ref 59), (3, .long x3), (5, .int x5), (8, .long x8), (10, .int x10)] [.int 0] h Q) : zz_J zp_P zt_tf zt_fd X d zm_109 89 [(0, .ref 59), (3, .long x3), (5, .int x5), (8, .long x8), (10, .int x10)] [] h Q := by
  refine zz_J.c 90 (.int 0) rfl rfl rfl rfl ?_
  exact zz_J.weak (k hR) rfl ⟨rfl, rfl, rfl, rfl, rfl, trivial⟩
theorem cb_109_90 {X : Nat → Option zz_C} {h : zz_H} {t : cS} {s : mS} {d : Nat} {Q : zz_O → zz_H → Prop} {x3 : Int64} {x5 : Int32} {x8 : Int64} {x10 : Int32} {y0 : Int32} (hR : kR h t s) (k : ∀ {h : zz_H}, kR h t s → zz_J zp_P zt_tf zt_fd X d zm_122 0 [(0, .ref 42)] [] h (zz_after 2 Q (fun v h' => zz_J zp_P zt_tf zt_fd X (d + 1) zm_109 99 [(0, .ref 59), (3, .long x3), (5, .int x5), (8, .long x8), (10, .int x10), (11, .int y0)] (v.toList ++ []) h' Q))) : zz_J zp_P zt_tf zt_fd X (d + 1) zm_109 90 [(0, .ref 59), (3, .long x3), (5, .int x5), (8, .long x8), (10, .int x10)] [.int y0] h Q := by
  refine zz_J.n 92 rfl rfl rfl ?_
  refine zz_J.n 93 rfl rfl rfl ?_
  refine zz_J.g 96 rfl (hR.gv (v := .ref 42) ko_59 (by decide) rfl) rfl ?_
  refine zz_J.cv 99 (as := []) rfl rfl (hR.clO ko_42 (by decide) (by decide)) (by decide) (Nat.le_of_ble_eq_true rfl) (Nat.le_of_ble_eq_true rfl) rfl (Nat.le_of_ble_eq_true rfl) rfl ?_
  refine zz_J.mono (k hR) ?_
  intro o h' hE
  cases o with
  | inl v => exact zz_J.weak hE rfl ⟨rfl, rfl, rfl, rfl, rfl, rfl, trivial⟩
  | inr q => exact hE
theorem cb_109_99 {X : Nat → Option zz_C} {h : zz_H} {t : cS} {s : mS} {d : Nat} {Q : zz_O → zz_H → Prop} {x3 : Int64} {x5 : Int32} {x8 : Int64} {x10 : Int32} {x11 : Int32} {y0 : Int32} (hR : kR h t s) (k1 : ¬ x5 = 2 → (∀ {h : zz_H}, kR h t s → zz_J zp_P zt_tf zt_fd X d zm_109 115 [(0, .ref 59), (3, .long x3), (5, .int x5), (8, .long x8), (10, .int x10), (11, .int x11), (12, .int y0)] [] h Q)) (k2 : ¬ ¬ x5 = 2 → (∀ {h : zz_H}, kR h t s → zz_J zp_P zt_tf zt_fd X d zm_109 107 [(0, .ref 59), (3, .long x3), (5, .int x5), (8, .long x8), (10, .int x10), (11, .int x11), (12, .int y0)] [] h Q)) : zz_J zp_P zt_tf zt_fd X d zm_109 99 [(0, .ref 59), (3, .long x3), (5, .int x5), (8, .long x8), (10, .int x10), (11, .int x11)] [.int y0] h Q := by
  refine zz_J.n 101 rfl rfl rfl ?_
  refine zz_J.n 103 rfl rfl rfl ?_
  refine zz_J.c 104 (.int 2) rfl rfl rfl rfl ?_
  refine zz_J.b2 115 107 (A := ¬ x5 = 2) rfl (zz_cond_ne _ _) (by decide) rfl rfl (fun c => ?_) (fun c => ?_)
  · exact zz_J.weak (k1 c hR) rfl ⟨rfl, rfl, rfl, rfl, rfl, rfl, rfl, trivial⟩
  · exact zz_J.weak (k2 c hR) rfl ⟨rfl, rfl, rfl, rfl, rfl, rfl, rfl, trivial⟩
theorem cb_109_107 {X : Nat → Option zz_C} {h : zz_H} {t : cS} {s : mS} {d : Nat} {Q : zz_O → zz_H → Prop} {x3 : Int64} {x5 : Int32} {x8 : Int64} {x10 : Int32} {x11 : Int32} {x12 : Int32} (hR : kR h t s) (k : ∀ {h : zz_H}, kR h t s → zz_J zp_P zt_tf zt_fd X d zm_91 0 [(0, .ref 59), (1, .int 0)] [] h (zz_after 1 Q (fun v h' => zz_J zp_P zt_tf zt_fd X (d + 1) zm_109 112 [(0, .ref 59), (3, .long x3), (5, .int x5), (8, .long x8), (10, .int x10), (11, .int x11), (12, .int x12)] (v.toList ++ []) h' Q))) : zz_J zp_P zt_tf zt_fd X (d + 1) zm_109 107 [(0, .ref 59), (3, .long x3), (5, .int x5), (8, .long x8), (10, .int x10), (11, .int x11), (12, .int x12)] [] h Q := by
  refine zz_J.n 108 rfl rfl rfl ?_
  refine zz_J.c 109 (.int 0) rfl rfl rfl rfl ?_
  refine zz_J.cv 112 (as := []) rfl rfl (hR.clO ko_59 (by decide) (by decide)) (by decide) (Nat.le_of_ble_eq_true rfl) (Nat.le_of_ble_eq_true rfl) rfl (Nat.le_of_ble_eq_true rfl) rfl ?_
  refine zz_J.mono (k hR) ?_
  intro o h' hE
  cases o with
  | inl v => exact zz_J.weak hE rfl ⟨rfl, rfl, rfl, rfl, rfl, rfl, rfl, trivial⟩
  | inr q => exact hE
theorem cb_109_112 {X : Nat → Option zz_C} {h : zz_H} {t : cS} {s : mS} {d : Nat} {Q : zz_O → zz_H → Prop} {x3 : Int64} {x5 : Int32} {x8 : Int64} {x10 : Int32} {x11 : Int32} {x12 : Int32} {y0 : Int64} (hR : kR h t s) (k : ∀ {h : zz_H}, kR h t s → zz_J zp_P zt_tf zt_fd X d zm_109 120 [(0, .ref 59), (3, .long x3), (5, .int x5), (8, .long x8), (10, .int x10), (11, .int x11), (12, .int x12)] [.long y0] h Q) : zz_J zp_P zt_tf zt_fd X d zm_109 112 [(0, .ref 59), (3, .long x3), (5, .int x5), (8, .long x8), (10, .int x10), (11, .int x11), (12, .int x12)] [.long y0] h Q := by
  refine zz_J.n 120 rfl rfl rfl ?_
  exact zz_J.weak (k hR) rfl ⟨rfl, rfl, rfl, rfl, rfl, rfl, rfl, trivial⟩
theorem cb_109_115 {X : Nat → Option zz_C} {h : zz_H} {t : cS} {s : mS} {d : Nat} {Q : zz_O → zz_H → Prop} {x3 : Int64} {x5 : Int32} {x8 : Int64} {x10 : Int32} {x11 : Int32} {x12 : Int32} (hR : kR h t s) (k : ∀ {h : zz_H}, kR h t s → zz_J zp_P zt_tf zt_fd X d zm_253 0 [(0, .int 0), (1, .int 0)] [] h (zz_after 1000 Q (fun v h' => zz_J zp_P zt_tf zt_fd X (d + 1) zm_109 120 [(0, .ref 59), (3, .long x3), (5, .int x5), (8, .long x8), (10, .int x10), (11, .int x11), (12, .int x12)] (v.toList ++ []) h' Q))) : zz_J zp_P zt_tf zt_fd X (d + 1) zm_109 115 [(0, .ref 59), (3, .long x3), (5, .int x5), (8, .long x8), (10, .int x10), (11, .int x11), (12, .int x12)] [] h Q := by
  refine zz_J.c 116 (.int 0) rfl rfl rfl rfl ?_
  refine zz_J.c 117 (.int 0) rfl rfl rfl rfl ?_
  refine zz_J.cl (M' := zm_253) 120 rfl rfl (by decide) rfl rfl ⟨rfl, Nat.le_of_ble_eq_true rfl⟩ rfl ?_
  refine zz_J.mono (k hR) ?_
  intro o h' hE
  cases o with
  | inl v => exact zz_J.weak hE rfl ⟨rfl, rfl, rfl, rfl, rfl, rfl, rfl, trivial⟩
  | inr q => exact hE
theorem cb_109_120 {X : Nat → Option zz_C} {h : zz_H} {t : cS} {s : mS} {d : Nat} {Q : zz_O → zz_H → Prop} {x3 : Int64} {x5 : Int32} {x8 : Int64} {x10 : Int32} {x11 : Int32} {x12 : Int32} {y0 : Int64} (hR : kR h t s) (k : ∀ {h : zz_H}, kR h t s → zz_J zp_P zt_tf zt_fd X d zm_109 126 [(0, .ref 59), (3, .long x3), (5, .int x5), (8, .long x8), (10, .int x10), (11, .int x11), (12, .int x12), (13, .long y0), (15, .int x11)] [] h Q) : zz_J zp_P zt_tf zt_fd X d zm_109 120 [(0, .ref 59), (3, .long x3), (5, .int x5), (8, .long x8), (10, .int x10), (11, .int x11), (12, .int x12)] [.long y0] h Q := by
  refine zz_J.n 122 rfl rfl rfl ?_
  refine zz_J.n 124 rfl rfl rfl ?_
  refine zz_J.n 126 rfl rfl rfl ?_
  exact zz_J.weak (k hR) rfl ⟨rfl, rfl, rfl, rfl, rfl, rfl, rfl, rfl, rfl, trivial⟩
theorem cb_109_126 {X : Nat → Option zz_C} {h : zz_H} {t : cS} {s : mS} {d : Nat} {Q : zz_O → zz_H → Prop} {x3 : Int64} {x5 : Int32} {x8 : Int64} {x10 : Int32} {x11 : Int32} {x12 : Int32} {x13 : Int64} {x15 : Int32} (hR : kR h t s) (k1 : 0 ≤ (lg_cmp (Int32.toInt64 x15) ((Int32.toInt64 x11) + x8)) → (∀ {h : zz_H}, kR h t s → zz_J zp_P zt_tf zt_fd X d zm_109 179 [(0, .ref 59), (5, .int x5), (12, .int x12)] [] h Q)) (k2 : ¬ 0 ≤ (lg_cmp (Int32.toInt64 x15) ((Int32.toInt64 x11) + x8)) → (∀ {h : zz_H}, kR h t s → zz_J zp_P zt_tf zt_fd X d zm_109 139 [(0, .ref 59), (3, .long x3), (5, .int x5), (8, .long x8), (10, .int x10), (11, .int x11), (12, .int x12), (13, .long x13), (15, .int x15)] [] h Q)) : zz_J zp_P zt_tf zt_fd X d zm_109 126 [(0, .ref 59), (3, .long x3), (5, .int x5), (8, .long x8), (10, .int x10), (11, .int x11), (12, .int x12), (13, .long x13), (15, .int x15)] [] h Q := by
  refine zz_J.n 128 rfl rfl rfl ?_
  refine zz_J.n 129 rfl rfl rfl ?_
  refine zz_J.n 131 rfl rfl rfl ?_
  refine zz_J.n 132 rfl rfl rfl ?_
  refine zz_J.n 134 rfl rfl rfl ?_
  refine zz_J.n 135 rfl rfl rfl ?_
  refine zz_J.n 136 rfl rfl rfl ?_
  refine zz_J.b1 179 139 (A := 0 ≤ (lg_cmp (Int32.toInt64 x15) ((Int32.toInt64 x11) + x8))) rfl rfl (by decide) rfl rfl (fun c => ?_) (fun c => ?_)
  · exact zz_J.weak (k1 c hR) rfl ⟨rfl, rfl, rfl, trivial⟩
  · exact zz_J.weak (k2 c hR) rfl ⟨rfl, rfl, rfl, rfl, rfl, rfl, rfl, rfl, rfl, trivial⟩
theorem cb_109_139 {X : Nat → Option zz_C} {h : zz_H} {t : cS} {s : mS} {d : Nat} {Q : zz_O → zz_H → Prop} {x3 : Int64} {x5 : Int32} {x8 : Int64} {x10 : Int32} {x11 : Int32} {x12 : Int32} {x13 : Int64} {x15 : Int32} (hR : kR h t s) (k1 : x15 < 0 → (∀ {h : zz_H}, kR h t s → zz_J zp_P zt_tf zt_fd X d zm_109 168 [(0, .ref 59), (3, .long x3), (5, .int x5), (8, .long x8), (10, .int x10), (11, .int x11), (12, .int x12), (13, .long x13), (15, .int x15)] [.ref 42] h Q)) (k2 : ¬ x15 < 0 → (∀ {h : zz_H}, kR h t s → zz_J zp_P zt_tf zt_fd X d zm_109 148 [(0, .ref 59), (3, .long x3), (5, .int x5), (8, .long x8), (10, .int x10), (11, .int x11), (12, .int x12), (13, .long x13), (15, .int x15)] [.ref 42] h Q)) : zz_J zp_P zt_tf zt_fd X d zm_109 139 [(0, .ref 59), (3, .long x3), (5, .int x5), (8, .long x8), (10, .int x10), (11, .int x11), (12, .int x12), (13, .long x13), (15, .int x15)] [] h Q := by
  refine zz_J.n 140 rfl rfl rfl ?_
  refine zz_J.g 143 rfl (hR.gv (v := .ref 42) ko_59 (by decide) rfl) rfl ?_
  refine zz_J.n 145 rfl rfl rfl ?_
  refine zz_J.b1 168 148 (A := x15 < 0) rfl rfl (by decide) rfl rfl (fun c => ?_) (fun c => ?_)
  · exact zz_J.weak (k1 c hR) rfl ⟨rfl, rfl, rfl, rfl, rfl, rfl, rfl, rfl, rfl, trivial⟩
  · exact zz_J.weak (k2 c hR) rfl ⟨rfl, rfl, rfl, rfl, rfl, rfl, rfl, rfl, rfl, trivial⟩
theorem cb_109_148 {X : Nat → Option zz_C} {h : zz_H} {t : cS} {s : mS} {d : Nat} {Q : zz_O → zz_H → Prop} {x3 : Int64} {x5 : Int32} {x8 : Int64} {x10 : Int32} {x11 : Int32} {x12 : Int32} {x13 : Int64} {x15 : Int32} (hR : kR h t s) (k1 : x10 ≤ x15 → (∀ {h : zz_H}, kR h t s → zz_J zp_P zt_tf zt_fd X d zm_109 168 [(0, .ref 59), (3, .long x3), (5, .int x5), (8, .long x8), (10, .int x10), (11, .int x11), (12, .int x12), (13, .long x13), (15, .int x15)] [.ref 42] h Q)) (k2 : ¬ x10 ≤ x15 → (∀ {h : zz_H}, kR h t s → zz_J zp_P zt_tf zt_fd X d zm_109 155 [(0, .ref 59), (3, .long x3), (5, .int x5), (8, .long x8), (10, .int x10), (11, .int x11), (12, .int x12), (13, .long x13), (15, .int x15)] [.ref 42] h Q)) : zz_J zp_P zt_tf zt_fd X d zm_109 148 [(0, .ref 59), (3, .long x3), (5, .int x5), (8, .long x8), (10, .int x10), (11, .int x11), (12, .int x12), (13, .long x13), (15, .int x15)] [.ref 42] h Q := by
  refine zz_J.n 150 rfl rfl rfl ?_
  refine zz_J.n 152 rfl rfl rfl ?_
  refine zz_J.b2 168 155 (A := x10 ≤ x15) rfl rfl (by decide) rfl rfl (fun c => ?_) (fun c => ?_)
  · exact zz_J.weak (k1 c hR) rfl ⟨rfl, rfl, rfl, rfl, rfl, rfl, rfl, rfl, rfl, trivial⟩
  · exact zz_J.weak (k2 c hR) rfl ⟨rfl, rfl, rfl, rfl, rfl, rfl, rfl, rfl, rfl, trivial⟩
theorem cb_109_155 {X : Nat → Option zz_C} {h : zz_H} {t : cS} {s : mS} {d : Nat} {Q : zz_O → zz_H → Prop} {x3 : Int64} {x5 : Int32} {x8 : Int64} {x10 : Int32} {x11 : Int32} {x12 : Int32} {x13 : Int64} {x15 : Int32} (hR : kR h t s) (k : ∀ {h : zz_H}, kR h t s → zz_J zp_P zt_tf zt_fd X d zm_129 0 [(0, .ref 42), (1, .long x3), (3, .int x15)] [] h (zz_after 2 Q (fun v h' => zz_J zp_P zt_tf zt_fd X (d + 1) zm_109 165 [(0, .ref 59), (3, .long x3), (5, .int x5), (8, .long x8), (10, .int x10), (11, .int x11), (12, .int x12), (13, .long x13), (15, .int x15)] (v.toList ++ [.ref 42]) h' Q))) : zz_J zp_P zt_tf zt_fd X (d + 1) zm_109 155 [(0, .ref 59), (3, .long x3), (5, .int x5), (8, .long x8), (10, .int x10), (11, .int x11), (12, .int x12), (13, .long x13), (15, .int x15)] [.ref 42] h Q := by
  refine zz_J.n 156 rfl rfl rfl ?_
  refine zz_J.g 159 rfl (hR.gv (v := .ref 42) ko_59 (by decide) rfl) rfl ?_
  refine zz_J.n 160 rfl rfl rfl ?_
  refine zz_J.n 162 rfl rfl rfl ?_
  refine zz_J.cv 165 (as := [.ref 42]) rfl rfl (hR.clO ko_42 (by decide) (by decide)) (by decide) (Nat.le_of_ble_eq_true rfl) (Nat.le_of_ble_eq_true rfl) rfl (Nat.le_of_ble_eq_true rfl) rfl ?_
  refine zz_J.mono (k hR) ?_
  intro o h' hE
  cases o with
  | inl v => exact zz_J.weak hE rfl ⟨rfl, rfl, rfl, rfl, rfl, rfl, rfl, rfl, rfl, trivial⟩
  | inr q => exact hE
theorem cb_109_165 {X : Nat → Option zz_C} {h : zz_H} {t : cS} {s : mS} {d : Nat} {Q : zz_O → zz_H → Prop} {x3 : Int64} {x5 : Int32} {x8 : Int64} {x10 : Int32} {x11 : Int32} {x12 : Int32} {x13 : Int64} {x15 : Int32} {y1 : Int64} (hR : kR h t s) (k : ∀ {h : zz_H}, kR h t s → zz_J zp_P zt_tf zt_fd X d zm_109 170 [(0, .ref 59), (3, .long x3), (5, .int x5), (8, .long x8), (10, .int x10), (11, .int x11), (12, .int x12), (13, .long x13), (15, .int x15)] [.long y1, .ref 42] h Q) : zz_J zp_P zt_tf zt_fd X d zm_109 165 [(0, .ref 59), (3, .long x3), (5, .int x5), (8, .long x8), (10, .int x10), (11, .int x11), (12, .int x12), (13, .long x13), (15, .int x15)] [.long y1, .ref 42] h Q := by
  refine zz_J.n 170 rfl rfl rfl ?_
  exact zz_J.weak (k hR) rfl ⟨rfl, rfl, rfl, rfl, rfl, rfl, rfl, rfl, rfl, trivial⟩
theorem cb_109_168 {X : Nat → Option zz_C} {h : zz_H} {t : cS} {s : mS} {d : Nat} {Q : zz_O → zz_H → Prop} {x3 : Int64} {x5 : Int32} {x8 : Int64} {x10 : Int32} {x11 : Int32} {x12 : Int32} {x13 : Int64} {x15 : Int32} (hR : kR h t s) (k : ∀ {h : zz_H}, kR h t s → zz_J zp_P zt_tf zt_fd X d zm_109 170 [(0, .ref 59), (3, .long x3), (5, .int x5), (8, .long x8), (10, .int x10), (11, .int x11), (12, .int x12), (13, .long x13), (15, .int x15)] [.long x13, .ref 42] h Q) : zz_J zp_P zt_tf zt_fd X d zm_109 168 [(0, .ref 59), (3, .long x3), (5, .int x5), (8, .long x8), (10, .int x10), (11, .int x11), (12, .int x12), (13, .long x13), (15, .int x15)] [.ref 42] h Q := by
  refine zz_J.n 170 rfl rfl rfl ?_
  exact zz_J.weak (k hR) rfl ⟨rfl, rfl, rfl, rfl, rfl, rfl, rfl, rfl, rfl, trivial⟩
theorem cb_109_170 {X : Nat → Option zz_C} {h : zz_H} {t : cS} {s : mS} {d : Nat} {Q : zz_O → zz_H → Prop} {x3 : Int64} {x5 : Int32} {x8 : Int64} {x10 : Int32} {x11 : Int32} {x12 : Int32} {x13 : Int64} {x15 : Int32} {y1 : Int64} (hR : kR h t s) (k : ∀ {h : zz_H}, kR h t s → zz_J zp_P zt_tf zt_fd X d zm_123 0 [(0, .ref 42), (1, .long y1)] [] h (zz_after 2 Q (fun v h' => zz_J zp_P zt_tf zt_fd X (d + 1) zm_109 173 [(0, .ref 59), (3, .long x3), (5, .int x5), (8, .long x8), (10, .int x10), (11, .int x11), (12, .int x12), (13, .long x13), (15, .int x15)] (v.toList ++ []) h' Q))) : zz_J zp_P zt_tf zt_fd X (d + 1) zm_109 170 [(0, .ref 59), (3, .long x3), (5, .int x5), (8, .long x8), (10, .int x10), (11, .int x11), (12, .int x12), (13, .long x13), (15, .int x15)] [.long y1, .ref 42] h Q := by
  refine zz_J.cv 173 (as := []) rfl rfl (hR.clO ko_42 (by decide) (by decide)) (by decide) (Nat.le_of_ble_eq_true rfl) (Nat.le_of_ble_eq_true rfl) rfl (Nat.le_of_ble_eq_true rfl) rfl ?_
  refine zz_J.mono (k hR) ?_
  intro o h' hE
  cases o with
  | inl v => exact zz_J.weak hE rfl ⟨rfl, rfl, rfl, rfl, rfl, rfl, rfl, rfl, rfl, trivial⟩
  | inr q => exact hE
theorem cb_109_173 {X : Nat → Option zz_C} {h : zz_H} {t : cS} {s : mS} {d : Nat} {Q : zz_O → zz_H → Prop} {x3 : Int64} {x5 : Int32} {x8 : Int64} {x10 : Int32} {x11 : Int32} {x12 : Int32} {x13 : Int64} {x15 : Int32} (hR : kR h t s) (k : ∀ {h : zz_H}, kR h t s → zz_J zp_P zt_tf zt_fd X d zm_109 126 [(0, .ref 59), (3, .long x3), (5, .int x5), (8, .long x8), (10, .int x10), (11, .int x11), (12, .int x12), (13, .long x13), (15, .int (x15 + 1))] [] h Q) : zz_J zp_P zt_tf zt_fd X d zm_109 173 [(0, .ref 59), (3, .long x3), (5, .int x5), (8, .long x8), (10, .int x10), (11, .int x11), (12, .int x12), (13, .long x13), (15, .int x15)] [] h Q := by
  refine zz_J.n 176 rfl rfl rfl ?_
  refine zz_J.n 126 rfl rfl rfl ?_
  exact zz_J.weak (k hR) rfl ⟨rfl, rfl, rfl, rfl, rfl, rfl, rfl, rfl, rfl, trivial⟩
theorem cb_109_179 {X : Nat → Option zz_C} {h : zz_H} {t : cS} {s : mS} {d : Nat} {Q : zz_O → zz_H → Prop} {x5 : Int32} {x12 : Int32} (hR : kR h t s) (k : ∀ {h : zz_H}, kR h t s → zz_J zp_P zt_tf zt_fd X d zm_126 0 [(0, .ref 42), (1, .int x5), (2, .int x12)] [] h (zz_after 2 Q (fun v h' => zz_J zp_P zt_tf zt_fd X (d + 1) zm_109 190 [] (v.toList ++ []) h' Q))) : zz_J zp_P zt_tf zt_fd X (d + 1) zm_109 179 [(0, .ref 59), (5, .int x5), (12, .int x12)] [] h Q := by
  refine zz_J.n 180 rfl rfl rfl ?_
  refine zz_J.g 183 rfl (hR.gv (v := .ref 42) ko_59 (by decide) rfl) rfl ?_
  refine zz_J.n 185 rfl rfl rfl ?_
  refine zz_J.n 187 rfl rfl rfl ?_
  refine zz_J.cv 190 (as := []) rfl rfl (hR.clO ko_42 (by decide) (by decide)) (by decide) (Nat.le_of_ble_eq_true rfl) (Nat.le_of_ble_eq_true rfl) rfl (Nat.le_of_ble_eq_true rfl) rfl ?_
  refine zz_J.mono (k hR) ?_
  intro o h' hE
  cases o with
  | inl v => exact zz_J.weak hE rfl trivial
  | inr q => exact hE
theorem cb_109_190 {X : Nat → Option zz_C} {h : zz_H} {t : cS} {s : mS} {d : Nat} {Q : zz_O → zz_H → Prop} {y0 : Int64} (hR : kR h t s) (k : ∀ {h : zz_H}, kR h t s → Q (.inl (some (.long y0))) h) : zz_J zp_P zt_tf zt_fd X d zm_109 190 [] [.long y0] h Q := by
  refine zz_J.ret rfl rfl rfl ?_
  exact k hR
def cf_109_22 (N : Nat) (X : Nat → Option zz_C) (y0 : Int64) (t : cS) : kO := some (t, .inl (some (.long y0)))
theorem cr_109_22 {X : Nat → Option zz_C} {s : mS} {N : Nat} {d : Nat} (hd : 11 ≤ d) {Q : zz_O → zz_H → Prop} {y0 : Int64} {h : zz_H} {t t' : cS} {o : kY} (hR : kR h t s) (hf : cf_109_22 N X y0 t = some (t', o)) (k : (∀ h', kR h' t' s → kE o Q h')) : zz_J zp_P zt_tf zt_fd X d zm_109 22 [] [.long y0] h Q := by
  unfold cf_109_22 at hf
  cases hf
  exact cb_109_22 hR  (fun {h} hR => k h hR)
def cf_109_18 (N : Nat) (X : Nat → Option zz_C)  (t : cS) : kO := ko_call 1000 (cf_254 N X 3 t) (fun g1 v1 => co_l v1 (fun y => cf_109_22 N X y g1))
theorem cr_109_18 {X : Nat → Option zz_C} {s : mS} {N : Nat} {d : Nat} (hd : 11 ≤ d) {Q : zz_O → zz_H → Prop}  {h : zz_H} {t t' : cS} {o : kY} (hR : kR h t s) (hf : cf_109_18 N X  t = some (t', o)) (k : (∀ h', kR h' t' s → kE o Q h')) : zz_J zp_P zt_tf zt_fd X d zm_109 18 [] [] h Q := by
  unfold cf_109_18 at hf
  obtain ⟨d', rfl⟩ : ∃ d', d = d' + 1 := ⟨d - 1, by omega⟩
  refine cb_109_18 hR  (fun {h} hR => ?_)
  rcases ko_call_ok hf with ⟨g1, v1, er, hf⟩ | ⟨g1, er, hq⟩
  · obtain ⟨y, hv, hf2⟩ := co_l_ok hf
    clear hf
    have hf := hf2
    clear hf2
    subst hv
    refine cr_254 (by omega) hR er (fun h hR => ?_)
    exact cr_109_22 hd hR hf k
  · refine cr_254 (by omega) hR er (fun h hR => ?_)
    exact ko_thrown hq hR k
def cf_109_190 (N : Nat) (X : Nat → Option zz_C) (y0 : Int64) (t : cS) : kO := some (t, .inl (some (.long y0)))
theorem cr_109_190 {X : Nat → Option zz_C} {s : mS} {N : Nat} {d : Nat} (hd : 11 ≤ d) {Q : zz_O → zz_H → Prop} {y0 : Int64} {h : zz_H} {t t' : cS} {o : kY} (hR : kR h t s) (hf : cf_109_190 N X y0 t = some (t', o)) (k : (∀ h', kR h' t' s → kE o Q h')) : zz_J zp_P zt_tf zt_fd X d zm_109 190 [] [.long y0] h Q := by
  unfold cf_109_190 at hf
  cases hf
  exact cb_109_190 hR  (fun {h} hR => k h hR)
def cf_109_179 (N : Nat) (X : Nat → Option zz_C) (x5 : Int32) (x12 : Int32) (t : cS) : kO := ko_call 2 (cf_126 N X x5 x12 t) (fun g1 v1 => co_l v1 (fun y => cf_109_190 N X y g1))
theorem cr_109_179 {X : Nat → Option zz_C} {s : mS} {N : Nat} {d : Nat} (hd : 11 ≤ d) {Q : zz_O → zz_H → Prop} {x5 : Int32} {x12 : Int32} {h : zz_H} {t t' : cS} {o : kY} (hR : kR h t s) (hf : cf_109_179 N X x5 x12 t = some (t', o)) (k : (∀ h', kR h' t' s → kE o Q h')) : zz_J zp_P zt_tf zt_fd X d zm_109 179 [(0, .ref 59), (5, .int x5), (12, .int x12)] [] h Q := by
  unfold cf_109_179 at hf
  obtain ⟨d', rfl⟩ : ∃ d', d = d' + 1 := ⟨d - 1, by omega⟩
  refine cb_109_179 hR  (fun {h} hR => ?_)
  rcases ko_call_ok hf with ⟨g1, v1, er, hf⟩ | ⟨g1, er, hq⟩
  · obtain ⟨y, hv, hf2⟩ := co_l_ok hf
    clear hf
    have hf := hf2
    clear hf2
    subst hv
    refine cr_126 (by omega) hR er (fun h hR => ?_)
    exact cr_109_190 hd hR hf k
  · refine cr_126 (by omega) hR er (fun h hR => ?_)
    exact ko_thrown hq hR k
def cf_109_173 (N : Nat) (X : Nat → Option zz_C) (rc : Nat → Int32 → Int32 → Int32 → Int64 → Int32 → Int64 → Int32 → Int64 → cS → kO) (x3 : Int64) (x5 : Int32) (x8 : Int64) (x10 : Int32) (x11 : Int32) (x12 : Int32) (x13 : Int64) (x15 : Int32) (t : cS) : kO := rc 0 x10 x11 x12 x13 (x15 + 1) x3 x5 x8 t
theorem cr_109_173 {X : Nat → Option zz_C} {s : mS} {N : Nat} {d : Nat} (hd : 11 ≤ d) {rc : Nat → Int32 → Int32 → Int32 → Int64 → Int32 → Int64 → Int32 → Int64 → cS → kO} (hrc0 : ∀ {Q : zz_O → zz_H → Prop} {x3 : Int64} {x5 : Int32} {x8 : Int64} {x10 : Int32} {x11 : Int32} {x12 : Int32} {x13 : Int64} {x15 : Int32} {h : zz_H} {t t' : cS} {o : kY}, kR h t s → rc 0 x10 x11 x12 x13 x15 x3 x5 x8 t = some (t', o) → (∀ h', kR h' t' s → kE o Q h') → zz_J zp_P zt_tf zt_fd X d zm_109 126 [(0, .ref 59), (3, .long x3), (5, .int x5), (8, .long x8), (10, .int x10), (11, .int x11), (12, .int x12), (13, .long x13), (15, .int x15)] [] h Q) {Q : zz_O → zz_H → Prop} {x3 : Int64} {x5 : Int32} {x8 : Int64} {x10 : Int32} {x11 : Int32} {x12 : Int32} {x13 : Int64} {x15 : Int32} {h : zz_H} {t t' : cS} {o : kY} (hR : kR h t s) (hf : cf_109_173 N X rc x3 x5 x8 x10 x11 x12 x13 x15 t = some (t', o)) (k : (∀ h', kR h' t' s → kE o Q h')) : zz_J zp_P zt_tf zt_fd X d zm_109 173 [(0, .ref 59), (3, .long x3), (5, .int x5), (8, .long x8), (10, .int x10), (11, .int x11), (12, .int x12), (13, .long x13), (15, .int x15)] [] h Q := by
  unfold cf_109_173 at hf
  exact cb_109_173 hR  (fun hR => hrc0 hR hf k)
def cf_109_170 (N : Nat) (X : Nat → Option zz_C) (rc : Nat → Int32 → Int32 → Int32 → Int64 → Int32 → Int64 → Int32 → Int64 → cS → kO) (x3 : Int64) (x5 : Int32) (x8 : Int64) (x10 : Int32) (x11 : Int32) (x12 : Int32) (x13 : Int64) (x15 : Int32) (y1 : Int64) (t : cS) : kO := ko_call 2 (cf_123 N X y1 t) (fun g1 v1 => co_v v1 (cf_109_173 N X rc x3 x5 x8 x10 x11 x12 x13 x15 g1))
theorem cr_109_170 {X : Nat → Option zz_C} {s : mS} {N : Nat} {d : Nat} (hd : 11 ≤ d) {rc : Nat → Int32 → Int32 → Int32 → Int64 → Int32 → Int64 → Int32 → Int64 → cS → kO} (hrc0 : ∀ {Q : zz_O → zz_H → Prop} {x3 : Int64} {x5 : Int32} {x8 : Int64} {x10 : Int32} {x11 : Int32} {x12 : Int32} {x13 : Int64} {x15 : Int32} {h : zz_H} {t t' : cS} {o : kY}, kR h t s → rc 0 x10 x11 x12 x13 x15 x3 x5 x8 t = some (t', o) → (∀ h', kR h' t' s → kE o Q h') → zz_J zp_P zt_tf zt_fd X d zm_109 126 [(0, .ref 59), (3, .long x3), (5, .int x5), (8, .long x8), (10, .int x10), (11, .int x11), (12, .int x12), (13, .long x13), (15, .int x15)] [] h Q) {Q : zz_O → zz_H → Prop} {x3 : Int64} {x5 : Int32} {x8 : Int64} {x10 : Int32} {x11 : Int32} {x12 : Int32} {x13 : Int64} {x15 : Int32} {y1 : Int64} {h : zz_H} {t t' : cS} {o : kY} (hR : kR h t s) (hf : cf_109_170 N X rc x3 x5 x8 x10 x11 x12 x13 x15 y1 t = some (t', o)) (k : (∀ h', kR h' t' s → kE o Q h')) : zz_J zp_P zt_tf zt_fd X d zm_109 170 [(0, .ref 59), (3, .long x3), (5, .int x5), (8, .long x8), (10, .int x10), (11, .int x11), (12, .int x12), (13, .long x13), (15, .int x15)] [.long y1, .ref 42] h Q := by
  unfold cf_109_170 at hf
  obtain ⟨d', rfl⟩ : ∃ d', d = d' + 1 := ⟨d - 1, by omega⟩
  refine cb_109_170 hR  (fun {h} hR => ?_)
  rcases ko_call_ok hf with ⟨g1, v1, er, hf⟩ | ⟨g1, er, hq⟩
  · obtain ⟨hv, hf2⟩ := co_v_ok hf
    clear hf
    have hf := hf2
    clear hf2
    subst hv
    refine cr_123 (by omega) hR er (fun h hR => ?_)
    exact cr_109_173 hd hrc0 hR hf k
  · refine cr_123 (by omega) hR er (fun h hR => ?_)
    exact ko_thrown hq hR k
def cf_109_165 (N : Nat) (X : Nat → Option zz_C) (rc : Nat → Int32 → Int32 → Int32 → Int64 → Int32 → Int64 → Int32 → Int64 → cS → kO) (x3 : Int64) (x5 : Int32) (x8 : Int64) (x10 : Int32) (x11 : Int32) (x12 : Int32) (x13 : Int64) (x15 : Int32) (y1 : Int64) (t : cS) : kO := cf_109_170 N X rc x3 x5 x8 x10 x11 x12 x13 x15 y1 t
theorem cr_109_165 {X : Nat → Option zz_C} {s : mS} {N : Nat} {d : Nat} (hd : 11 ≤ d) {rc : Nat → Int32 → Int32 → Int32 → Int64 → Int32 → Int64 → Int32 → Int64 → cS → kO} (hrc0 : ∀ {Q : zz_O → zz_H → Prop} {x3 : Int64} {x5 : Int32} {x8 : Int64} {x10 : Int32} {x11 : Int32} {x12 : Int32} {x13 : Int64} {x15 : Int32} {h : zz_H} {t t' : cS} {o : kY}, kR h t s → rc 0 x10 x11 x12 x13 x15 x3 x5 x8 t = some (t', o) → (∀ h', kR h' t' s → kE o Q h') → zz_J zp_P zt_tf zt_fd X d zm_109 126 [(0, .ref 59), (3, .long x3), (5, .int x5), (8, .long x8), (10, .int x10), (11, .int x11), (12, .int x12), (13, .long x13), (15, .int x15)] [] h Q) {Q : zz_O → zz_H → Prop} {x3 : Int64} {x5 : Int32} {x8 : Int64} {x10 : Int32} {x11 : Int32} {x12 : Int32} {x13 : Int64} {x15 : Int32} {y1 : Int64} {h : zz_H} {t t' : cS} {o : kY} (hR : kR h t s) (hf : cf_109_165 N X rc x3 x5 x8 x10 x11 x12 x13 x15 y1 t = some (t', o)) (k : (∀ h', kR h' t' s → kE o Q h')) : zz_J zp_P zt_tf zt_fd X d zm_109 165 [(0, .ref 59), (3, .long x3), (5, .int x5), (8, .long x8), (10, .int x10), (11, .int x11), (12, .int x12), (13, .long x13), (15, .int x15)] [.long y1, .ref 42] h Q := by
  unfold cf_109_165 at hf
  exact cb_109_165 hR  (fun hR => cr_109_170 hd hrc0 hR hf k)
def cf_109_155 (N : Nat) (X : Nat → Option zz_C) (rc : Nat → Int32 → Int32 → Int32 → Int64 → Int32 → Int64 → Int32 → Int64 → cS → kO) (x3 : Int64) (x5 : Int32) (x8 : Int64) (x10 : Int32) (x11 : Int32) (x12 : Int32) (x13 : Int64) (x15 : Int32) (t : cS) : kO := ko_call 2 (cf_129 N X x3 x15 t) (fun g1 v1 => co_l v1 (fun y => cf_109_165 N X rc x3 x5 x8 x10 x11 x12 x13 x15 y g1))
theorem cr_109_155 {X : Nat → Option zz_C} {s : mS} {N : Nat} {d : Nat} (hd : 11 ≤ d) {rc : Nat → Int32 → Int32 → Int32 → Int64 → Int32 → Int64 → Int32 → Int64 → cS → kO} (hrc0 : ∀ {Q : zz_O → zz_H → Prop} {x3 : Int64} {x5 : Int32} {x8 : Int64} {x10 : Int32} {x11 : Int32} {x12 : Int32} {x13 : Int64} {x15 : Int32} {h : zz_H} {t t' : cS} {o : kY}, kR h t s → rc 0 x10 x11 x12 x13 x15 x3 x5 x8 t = some (t', o) → (∀ h', kR h' t' s → kE o Q h') → zz_J zp_P zt_tf zt_fd X d zm_109 126 [(0, .ref 59), (3, .long x3), (5, .int x5), (8, .long x8), (10, .int x10), (11, .int x11), (12, .int x12), (13, .long x13), (15, .int x15)] [] h Q) {Q : zz_O → zz_H → Prop} {x3 : Int64} {x5 : Int32} {x8 : Int64} {x10 : Int32} {x11 : Int32} {x12 : Int32} {x13 : Int64} {x15 : Int32} {h : zz_H} {t t' : cS} {o : kY} (hR : kR h t s) (hf : cf_109_155 N X rc x3 x5 x8 x10 x11 x12 x13 x15 t = some (t', o)) (k : (∀ h', kR h' t' s → kE o Q h')) : zz_J zp_P zt_tf zt_fd X d zm_109 155 [(0, .ref 59), (3, .long x3), (5, .int x5), (8, .long x8), (10, .int x10), (11, .int x11), (12, .int x12), (13, .long x13), (15, .int x15)] [.ref 42] h Q := by
  unfold cf_109_155 at hf
  obtain ⟨d', rfl⟩ : ∃ d', d = d' + 1 := ⟨d - 1, by omega⟩
  refine cb_109_155 hR  (fun {h} hR => ?_)
  rcases ko_call_ok hf with ⟨g1, v1, er, hf⟩ | ⟨g1, er, hq⟩
  · obtain ⟨y, hv, hf2⟩ := co_l_ok hf
    clear hf
    have hf := hf2
    clear hf2
    subst hv
    refine cr_129 (by omega) hR er (fun h hR => ?_)
    exact cr_109_165 hd hrc0 hR hf k
  · refine cr_129 (by omega) hR er (fun h hR => ?_)
    exact ko_thrown hq hR k
def cf_109_168 (N : Nat) (X : Nat → Option zz_C) (rc : Nat → Int32 → Int32 → Int32 → Int64 → Int32 → Int64 → Int32 → Int64 → cS → kO) (x3 : Int64) (x5 : Int32) (x8 : Int64) (x10 : Int32) (x11 : Int32) (x12 : Int32) (x13 : Int64) (x15 : Int32) (t : cS) : kO := cf_109_170 N X rc x3 x5 x8 x10 x11 x12 x13 x15 x13 t
theorem cr_109_168 {X : Nat → Option zz_C} {s : mS} {N : Nat} {d : Nat} (hd : 11 ≤ d) {rc : Nat → Int32 → Int32 → Int32 → Int64 → Int32 → Int64 → Int32 → Int64 → cS → kO} (hrc0 : ∀ {Q : zz_O → zz_H → Prop} {x3 : Int64} {x5 : Int32} {x8 : Int64} {x10 : Int32} {x11 : Int32} {x12 : Int32} {x13 : Int64} {x15 : Int32} {h : zz_H} {t t' : cS} {o : kY}, kR h t s → rc 0 x10 x11 x12 x13 x15 x3 x5 x8 t = some (t', o) → (∀ h', kR h' t' s → kE o Q h') → zz_J zp_P zt_tf zt_fd X d zm_109 126 [(0, .ref 59), (3, .long x3), (5, .int x5), (8, .long x8), (10, .int x10), (11, .int x11), (12, .int x12), (13, .long x13), (15, .int x15)] [] h Q) {Q : zz_O → zz_H → Prop} {x3 : Int64} {x5 : Int32} {x8 : Int64} {x10 : Int32} {x11 : Int32} {x12 : Int32} {x13 : Int64} {x15 : Int32} {h : zz_H} {t t' : cS} {o : kY} (hR : kR h t s) (hf : cf_109_168 N X rc x3 x5 x8 x10 x11 x12 x13 x15 t = some (t', o)) (k : (∀ h', kR h' t' s → kE o Q h')) : zz_J zp_P zt_tf zt_fd X d zm_109 168 [(0, .ref 59), (3, .long x3), (5, .int x5), (8, .long x8), (10, .int x10), (11, .int x11), (12, .int x12), (13, .long x13), (15, .int x15)] [.ref 42] h Q := by
  unfold cf_109_168 at hf
  exact cb_109_168 hR  (fun hR => cr_109_170 hd hrc0 hR hf k)
def cf_109_148 (N : Nat) (X : Nat → Option zz_C) (rc : Nat → Int32 → Int32 → Int32 → Int64 → Int32 → Int64 → Int32 → Int64 → cS → kO) (x3 : Int64) (x5 : Int32) (x8 : Int64) (x10 : Int32) (x11 : Int32) (x12 : Int32) (x13 : Int64) (x15 : Int32) (t : cS) : kO := if x10 ≤ x15 then cf_109_168 N X rc x3 x5 x8 x10 x11 x12 x13 x15 t else cf_109_155 N X rc x3 x5 x8 x10 x11 x12 x13 x15 t
theorem cr_109_148 {X : Nat → Option zz_C} {s : mS} {N : Nat} {d : Nat} (hd : 11 ≤ d) {rc : Nat → Int32 → Int32 → Int32 → Int64 → Int32 → Int64 → Int32 → Int64 → cS → kO} (hrc0 : ∀ {Q : zz_O → zz_H → Prop} {x3 : Int64} {x5 : Int32} {x8 : Int64} {x10 : Int32} {x11 : Int32} {x12 : Int32} {x13 : Int64} {x15 : Int32} {h : zz_H} {t t' : cS} {o : kY}, kR h t s → rc 0 x10 x11 x12 x13 x15 x3 x5 x8 t = some (t', o) → (∀ h', kR h' t' s → kE o Q h') → zz_J zp_P zt_tf zt_fd X d zm_109 126 [(0, .ref 59), (3, .long x3), (5, .int x5), (8, .long x8), (10, .int x10), (11, .int x11), (12, .int x12), (13, .long x13), (15, .int x15)] [] h Q) {Q : zz_O → zz_H → Prop} {x3 : Int64} {x5 : Int32} {x8 : Int64} {x10 : Int32} {x11 : Int32} {x12 : Int32} {x13 : Int64} {x15 : Int32} {h : zz_H} {t t' : cS} {o : kY} (hR : kR h t s) (hf : cf_109_148 N X rc x3 x5 x8 x10 x11 x12 x13 x15 t = some (t', o)) (k : (∀ h', kR h' t' s → kE o Q h')) : zz_J zp_P zt_tf zt_fd X d zm_109 148 [(0, .ref 59), (3, .long x3), (5, .int x5), (8, .long x8), (10, .int x10), (11, .int x11), (12, .int x12), (13, .long x13), (15, .int x15)] [.ref 42] h Q := by
  unfold cf_109_148 at hf
  refine cb_109_148 hR  (fun c {h} hR => ?_) (fun c {h} hR => ?_)
  · rw [if_pos c] at hf
    exact cr_109_168 hd hrc0 hR hf k
  · rw [if_neg c] at hf
    exact cr_109_155 hd hrc0 hR hf k
def cf_109_139 (N : Nat) (X : Nat → Option zz_C) (rc : Nat → Int32 → Int32 → Int32 → Int64 → Int32 → Int64 → Int32 → Int64 → cS → kO) (x3 : Int64) (x5 : Int32) (x8 : Int64) (x10 : Int32) (x11 : Int32) (x12 : Int32) (x13 : Int64) (x15 : Int32) (t : cS) : kO := if x15 < 0 then cf_109_168 N X rc x3 x5 x8 x10 x11 x12 x13 x15 t else cf_109_148 N X rc x3 x5 x8 x10 x11 x12 x13 x15 t
theorem cr_109_139 {X : Nat → Option zz_C} {s : mS} {N : Nat} {d : Nat} (hd : 11 ≤ d) {rc : Nat → Int32 → Int32 → Int32 → Int64 → Int32 → Int64 → Int32 → Int64 → cS → kO} (hrc0 : ∀ {Q : zz_O → zz_H → Prop} {x3 : Int64} {x5 : Int32} {x8 : Int64} {x10 : Int32} {x11 : Int32} {x12 : Int32} {x13 : Int64} {x15 : Int32} {h : zz_H} {t t' : cS} {o : kY}, kR h t s → rc 0 x10 x11 x12 x13 x15 x3 x5 x8 t = some (t', o) → (∀ h', kR h' t' s → kE o Q h') → zz_J zp_P zt_tf zt_fd X d zm_109 126 [(0, .ref 59), (3, .long x3), (5, .int x5), (8, .long x8), (10, .int x10), (11, .int x11), (12, .int x12), (13, .long x13), (15, .int x15)] [] h Q) {Q : zz_O → zz_H → Prop} {x3 : Int64} {x5 : Int32} {x8 : Int64} {x10 : Int32} {x11 : Int32} {x12 : Int32} {x13 : Int64} {x15 : Int32} {h : zz_H} {t t' : cS} {o : kY} (hR : kR h t s) (hf : cf_109_139 N X rc x3 x5 x8 x10 x11 x12 x13 x15 t = some (t', o)) (k : (∀ h', kR h' t' s → kE o Q h')) : zz_J zp_P zt_tf zt_fd X d zm_109 139 [(0, .ref 59), (3, .long x3), (5, .int x5), (8, .long x8), (10, .int x10), (11, .int x11), (12, .int x12), (13, .long x13), (15, .int x15)] [] h Q := by
  unfold cf_109_139 at hf
  refine cb_109_139 hR  (fun c {h} hR => ?_) (fun c {h} hR => ?_)
  · rw [if_pos c] at hf
    exact cr_109_168 hd hrc0 hR hf k
  · rw [if_neg c] at hf
    exact cr_109_148 hd hrc0 hR hf k
def cf_109_126 (N : Nat) (X : Nat → Option zz_C) (rc : Nat → Int32 → Int32 → Int32 → Int64 → Int32 → Int64 → Int32 → Int64 → cS → kO) (x3 : Int64) (x5 : Int32) (x8 : Int64) (x10 : Int32) (x11 : Int32) (x12 : Int32) (x13 : Int64) (x15 : Int32) (t : cS) : kO := if 0 ≤ (lg_cmp (Int32.toInt64 x15) ((Int32.toInt64 x11) + x8)) then cf_109_179 N X x5 x12 t else cf_109_139 N X rc x3 x5 x8 x10 x11 x12 x13 x15 t
theorem cr_109_126 {X : Nat → Option zz_C} {s : mS} {N : Nat} {d : Nat} (hd : 11 ≤ d) {rc : Nat → Int32 → Int32 → Int32 → Int64 → Int32 → Int64 → Int32 → Int64 → cS → kO} (hrc0 : ∀ {Q : zz_O → zz_H → Prop} {x3 : Int64} {x5 : Int32} {x8 : Int64} {x10 : Int32} {x11 : Int32} {x12 : Int32} {x13 : Int64} {x15 : Int32} {h : zz_H} {t t' : cS} {o : kY}, kR h t s → rc 0 x10 x11 x12 x13 x15 x3 x5 x8 t = some (t', o) → (∀ h', kR h' t' s → kE o Q h') → zz_J zp_P zt_tf zt_fd X d zm_109 126 [(0, .ref 59), (3, .long x3), (5, .int x5), (8, .long x8), (10, .int x10), (11, .int x11), (12, .int x12), (13, .long x13), (15, .int x15)] [] h Q) {Q : zz_O → zz_H → Prop} {x3 : Int64} {x5 : Int32} {x8 : Int64} {x10 : Int32} {x11 : Int32} {x12 : Int32} {x13 : Int64} {x15 : Int32} {h : zz_H} {t t' : cS} {o : kY} (hR : kR h t s) (hf : cf_109_126 N X rc x3 x5 x8 x10 x11 x12 x13 x15 t = some (t', o)) (k : (∀ h', kR h' t' s → kE o Q h')) : zz_J zp_P zt_tf zt_fd X d zm_109 126 [(0, .ref 59), (3, .long x3), (5, .int x5), (8, .long x8), (10, .int x10), (11, .int x11), (12, .int x12), (13, .long x13), (15, .int x15)] [] h Q := by
  unfold cf_109_126 at hf
  refine cb_109_126 hR  (fun c {h} hR => ?_) (fun c {h} hR => ?_)
  · rw [if_pos c] at hf
    exact cr_109_179 hd hR hf k
  · rw [if_neg c] at hf
    exact cr_109_139 hd hrc0 hR hf k
def cf_109_L4 (N : Nat) (X : Nat → Option zz_C) : Nat → Nat → Int32 → Int32 → Int32 → Int64 → Int32 → Int64 → Int32 → Int64 → cS → kO
  | 0, _, _, _, _, _, _, _, _, _, _ => none
  | n + 1, l, x10, x11, x12, x13, x15, x3, x5, x8, t => if l = 0 then cf_109_126 N X (cf_109_L4 N X n) x3 x5 x8 x10 x11 x12 x13 x15 t else none
theorem cr_109_L4 {X : Nat → Option zz_C} {s : mS} {N : Nat} {d : Nat} (hd : 11 ≤ d) : ∀ n : Nat, (∀ {Q : zz_O → zz_H → Prop} {x3 : Int64} {x5 : Int32} {x8 : Int64} {x10 : Int32} {x11 : Int32} {x12 : Int32} {x13 : Int64} {x15 : Int32} {h : zz_H} {t t' : cS} {o : kY}, kR h t s → cf_109_L4 N X n 0 x10 x11 x12 x13 x15 x3 x5 x8 t = some (t', o) → (∀ h', kR h' t' s → kE o Q h') → zz_J zp_P zt_tf zt_fd X d zm_109 126 [(0, .ref 59), (3, .long x3), (5, .int x5), (8, .long x8), (10, .int x10), (11, .int x11), (12, .int x12), (13, .long x13), (15, .int x15)] [] h Q) := by
  intro n
  induction n with
  | zero => exact (fun _ hf _ => by cases hf)
  | succ n ih =>
    have h0 := @ih
    intro Q _ _ _ _ _ _ _ _ h t t' o hR hf k
    unfold cf_109_L4 at hf
    rw [if_pos rfl] at hf
    exact cr_109_126 hd h0 hR hf k
def cf_109_120 (N : Nat) (X : Nat → Option zz_C) (x3 : Int64) (x5 : Int32) (x8 : Int64) (x10 : Int32) (x11 : Int32) (x12 : Int32) (y0 : Int64) (t : cS) : kO := cf_109_L4 N X N 0 x10 x11 x12 y0 x11 x3 x5 x8 t
theorem cr_109_120 {X : Nat → Option zz_C} {s : mS} {N : Nat} {d : Nat} (hd : 11 ≤ d) {Q : zz_O → zz_H → Prop} {x3 : Int64} {x5 : Int32} {x8 : Int64} {x10 : Int32} {x11 : Int32} {x12 : Int32} {y0 : Int64} {h : zz_H} {t t' : cS} {o : kY} (hR : kR h t s) (hf : cf_109_120 N X x3 x5 x8 x10 x11 x12 y0 t = some (t', o)) (k : (∀ h', kR h' t' s → kE o Q h')) : zz_J zp_P zt_tf zt_fd X d zm_109 120 [(0, .ref 59), (3, .long x3), (5, .int x5), (8, .long x8), (10, .int x10), (11, .int x11), (12, .int x12)] [.long y0] h Q := by
  unfold cf_109_120 at hf
  exact cb_109_120 hR  (fun hR => cr_109_L4 hd N hR hf k)
def cf_109_115 (N : Nat) (X : Nat → Option zz_C) (x3 : Int64) (x5 : Int32) (x8 : Int64) (x10 : Int32) (x11 : Int32) (x12 : Int32) (t : cS) : kO := ko_call 1000 (cf_253 N X 0 0 t) (fun g1 v1 => co_l v1 (fun y => cf_109_120 N X x3 x5 x8 x10 x11 x12 y g1))
theorem cr_109_115 {X : Nat → Option zz_C} {s : mS} {N : Nat} {d : Nat} (hd : 11 ≤ d) {Q : zz_O → zz_H → Prop} {x3 : Int64} {x5 : Int32} {x8 : Int64} {x10 : Int32} {x11 : Int32} {x12 : Int32} {h : zz_H} {t t' : cS} {o : kY} (hR : kR h t s) (hf : cf_109_115 N X x3 x5 x8 x10 x11 x12 t = some (t', o)) (k : (∀ h', kR h' t' s → kE o Q h')) : zz_J zp_P zt_tf zt_fd X d zm_109 115 [(0, .ref 59), (3, .long x3), (5, .int x5), (8, .long x8), (10, .int x10), (11, .int x11), (12, .int x12)] [] h Q := by
  unfold cf_109_115 at hf
  obtain ⟨d', rfl⟩ : ∃ d', d = d' + 1 := ⟨d - 1, by omega⟩
  refine cb_109_115 hR  (fun {h} hR => ?_)
  rcases ko_call_ok hf with ⟨g1, v1, er, hf⟩ | ⟨g1, er, hq⟩
  · obtain ⟨y, hv, hf2⟩ := co_l_ok hf
    clear hf
    have hf := hf2
    clear hf2
    subst hv
    refine cr_253 (by omega) hR er (fun h hR => ?_)
    exact cr_109_120 hd hR hf k
  · refine cr_253 (by omega) hR er (fun h hR => ?_)
    exact ko_thrown hq hR k
def cf_109_112 (N : Nat) (X : Nat → Option zz_C) (x3 : Int64) (x5 : Int32) (x8 : Int64) (x10 : Int32) (x11 : Int32) (x12 : Int32) (y0 : Int64) (t : cS) : kO := cf_109_120 N X x3 x5 x8 x10 x11 x12 y0 t
theorem cr_109_112 {X : Nat → Option zz_C} {s : mS} {N : Nat} {d : Nat} (hd : 11 ≤ d) {Q : zz_O → zz_H → Prop} {x3 : Int64} {x5 : Int32} {x8 : Int64} {x10 : Int32} {x11 : Int32} {x12 : Int32} {y0 : Int64} {h : zz_H} {t t' : cS} {o : kY} (hR : kR h t s) (hf : cf_109_112 N X x3 x5 x8 x10 x11 x12 y0 t = some (t', o)) (k : (∀ h', kR h' t' s → kE o Q h')) : zz_J zp_P zt_tf zt_fd X d zm_109 112 [(0, .ref 59), (3, .long x3), (5, .int x5), (8, .long x8), (10, .int x10), (11, .int x11), (12, .int x12)] [.long y0] h Q := by
  unfold cf_109_112 at hf
  exact cb_109_112 hR  (fun hR => cr_109_120 hd hR hf k)
def cf_109_107 (N : Nat) (X : Nat → Option zz_C) (x3 : Int64) (x5 : Int32) (x8 : Int64) (x10 : Int32) (x11 : Int32) (x12 : Int32) (t : cS) : kO := ko_call 1 (cf_91 N X 0 t) (fun g1 v1 => co_l v1 (fun y => cf_109_112 N X x3 x5 x8 x10 x11 x12 y g1))
theorem cr_109_107 {X : Nat → Option zz_C} {s : mS} {N : Nat} {d : Nat} (hd : 11 ≤ d) {Q : zz_O → zz_H → Prop} {x3 : Int64} {x5 : Int32} {x8 : Int64} {x10 : Int32} {x11 : Int32} {x12 : Int32} {h : zz_H} {t t' : cS} {o : kY} (hR : kR h t s) (hf : cf_109_107 N X x3 x5 x8 x10 x11 x12 t = some (t', o)) (k : (∀ h', kR h' t' s → kE o Q h')) : zz_J zp_P zt_tf zt_fd X d zm_109 107 [(0, .ref 59), (3, .long x3), (5, .int x5), (8, .long x8), (10, .int x10), (11, .int x11), (12, .int x12)] [] h Q := by
  unfold cf_109_107 at hf
  obtain ⟨d', rfl⟩ : ∃ d', d = d' + 1 := ⟨d - 1, by omega⟩
  refine cb_109_107 hR  (fun {h} hR => ?_)
  rcases ko_call_ok hf with ⟨g1, v1, er, hf⟩ | ⟨g1, er, hq⟩
  · obtain ⟨y, hv, hf2⟩ := co_l_ok hf
    clear hf
    have hf := hf2
    clear hf2
    subst hv
    refine cr_91 (by omega) hR er (fun h hR => ?_)
    exact cr_109_112 hd hR hf k
  · refine cr_91 (by omega) hR er (fun h hR => ?_)
    exact ko_thrown hq hR k
def cf_109_99 (N : Nat) (X : Nat → Option zz_C) (x3 : Int64) (x5 : Int32) (x8 : Int64) (x10 : Int32) (x11 : Int32) (y0 : Int32) (t : cS) : kO := if ¬ x5 = 2 then cf_109_115 N X x3 x5 x8 x10 x11 y0 t else cf_109_107 N X x3 x5 x8 x10 x11 y0 t
theorem cr_109_99 {X : Nat → Option zz_C} {s : mS} {N : Nat} {d : Nat} (hd : 11 ≤ d) {Q : zz_O → zz_H → Prop} {x3 : Int64} {x5 : Int32} {x8 : Int64} {x10 : Int32} {x11 : Int32} {y0 : Int32} {h : zz_H} {t t' : cS} {o : kY} (hR : kR h t s) (hf : cf_109_99 N X x3 x5 x8 x10 x11 y0 t = some (t', o)) (k : (∀ h', kR h' t' s → kE o Q h')) : zz_J zp_P zt_tf zt_fd X d zm_109 99 [(0, .ref 59), (3, .long x3), (5, .int x5), (8, .long x8), (10, .int x10), (11, .int x11)] [.int y0] h Q := by
  unfold cf_109_99 at hf
  refine cb_109_99 hR  (fun c {h} hR => ?_) (fun c {h} hR => ?_)
  · rw [if_pos c] at hf
    exact cr_109_115 hd hR hf k
  · rw [if_neg c] at hf
    exact cr_109_107 hd hR hf k
def cf_109_90 (N : Nat) (X : Nat → Option zz_C) (x3 : Int64) (x5 : Int32) (x8 : Int64) (x10 : Int32) (y0 : Int32) (t : cS) : kO := ko_call 2 (cf_122 N X  t) (fun g1 v1 => co_i v1 (fun y => cf_109_99 N X x3 x5 x8 x10 y0 y g1))
theorem cr_109_90 {X : Nat → Option zz_C} {s : mS} {N : Nat} {d : Nat} (hd : 11 ≤ d) {Q : zz_O → zz_H → Prop} {x3 : Int64} {x5 : Int32} {x8 : Int64} {x10 : Int32} {y0 : Int32} {h : zz_H} {t t' : cS} {o : kY} (hR : kR h t s) (hf : cf_109_90 N X x3 x5 x8 x10 y0 t = some (t', o)) (k : (∀ h', kR h' t' s → kE o Q h')) : zz_J zp_P zt_tf zt_fd X d zm_109 90 [(0, .ref 59), (3, .long x3), (5, .int x5), (8, .long x8), (10, .int x10)] [.int y0] h Q := by
  unfold cf_109_90 at hf
  obtain ⟨d', rfl⟩ : ∃ d', d = d' + 1 := ⟨d - 1, by omega⟩
  refine cb_109_90 hR  (fun {h} hR => ?_)
  rcases ko_call_ok hf with ⟨g1, v1, er, hf⟩ | ⟨g1, er, hq⟩
  · obtain ⟨y, hv, hf2⟩ := co_i_ok hf
    clear hf
    have hf := hf2
    clear hf2
    subst hv
    refine cr_122 (by omega) hR er (fun h hR => ?_)
    exact cr_109_99 hd hR hf k
  · refine cr_122 (by omega) hR er (fun h hR => ?_)
    exact ko_thrown hq hR k
def cf_109_89 (N : Nat) (X : Nat → Option zz_C) (x3 : Int64) (x5 : Int32) (x8 : Int64) (x10 : Int32) (t : cS) : kO := cf_109_90 N X x3 x5 x8 x10 0 t
theorem cr_109_89 {X : Nat → Option zz_C} {s : mS} {N : Nat} {d : Nat} (hd : 11 ≤ d) {Q : zz_O → zz_H → Prop} {x3 : Int64} {x5 : Int32} {x8 : Int64} {x10 : Int32} {h : zz_H} {t t' : cS} {o : kY} (hR : kR h t s) (hf : cf_109_89 N X x3 x5 x8 x10 t = some (t', o)) (k : (∀ h', kR h' t' s → kE o Q h')) : zz_J zp_P zt_tf zt_fd X d zm_109 89 [(0, .ref 59), (3, .long x3), (5, .int x5), (8, .long x8), (10, .int x10)] [] h Q := by
  unfold cf_109_89 at hf
  exact cb_109_89 hR  (fun hR => cr_109_90 hd hR hf k)
def cf_109_79 (N : Nat) (X : Nat → Option zz_C) (x3 : Int64) (x5 : Int32) (x8 : Int64) (x10 : Int32) (t : cS) : kO := cf_109_90 N X x3 x5 x8 x10 (Int64.toInt32 ((Int32.toInt64 x10) - x8)) t
theorem cr_109_79 {X : Nat → Option zz_C} {s : mS} {N : Nat} {d : Nat} (hd : 11 ≤ d) {Q : zz_O → zz_H → Prop} {x3 : Int64} {x5 : Int32} {x8 : Int64} {x10 : Int32} {h : zz_H} {t t' : cS} {o : kY} (hR : kR h t s) (hf : cf_109_79 N X x3 x5 x8 x10 t = some (t', o)) (k : (∀ h', kR h' t' s → kE o Q h')) : zz_J zp_P zt_tf zt_fd X d zm_109 79 [(0, .ref 59), (3, .long x3), (5, .int x5), (8, .long x8), (10, .int x10)] [] h Q := by
  unfold cf_109_79 at hf
  exact cb_109_79 hR  (fun hR => cr_109_90 hd hR hf k)
def cf_109_70 (N : Nat) (X : Nat → Option zz_C) (x3 : Int64) (x5 : Int32) (x6 : Int64) (x8 : Int64) (y0 : Int32) (t : cS) : kO := if 0 ≤ (lg_cmp x6 0) then cf_109_89 N X x3 x5 x8 y0 t else cf_109_79 N X x3 x5 x8 y0 t
theorem cr_109_70 {X : Nat → Option zz_C} {s : mS} {N : Nat} {d : Nat} (hd : 11 ≤ d) {Q : zz_O → zz_H → Prop} {x3 : Int64} {x5 : Int32} {x6 : Int64} {x8 : Int64} {y0 : Int32} {h : zz_H} {t t' : cS} {o : kY} (hR : kR h t s) (hf : cf_109_70 N X x3 x5 x6 x8 y0 t = some (t', o)) (k : (∀ h', kR h' t' s → kE o Q h')) : zz_J zp_P zt_tf zt_fd X d zm_109 70 [(0, .ref 59), (3, .long x3), (5, .int x5), (6, .long x6), (8, .long x8)] [.int y0] h Q := by
  unfold cf_109_70 at hf
  refine cb_109_70 hR  (fun c {h} hR => ?_) (fun c {h} hR => ?_)
  · rw [if_pos c] at hf
    exact cr_109_89 hd hR hf k
  · rw [if_neg c] at hf
    exact cr_109_79 hd hR hf k
def cf_109_62 (N : Nat) (X : Nat → Option zz_C) (x3 : Int64) (x5 : Int32) (x6 : Int64) (x8 : Int64) (t : cS) : kO := ko_call 2 (cf_128 N X x3 t) (fun g1 v1 => co_i v1 (fun y => cf_109_70 N X x3 x5 x6 x8 y g1))
theorem cr_109_62 {X : Nat → Option zz_C} {s : mS} {N : Nat} {d : Nat} (hd : 11 ≤ d) {Q : zz_O → zz_H → Prop} {x3 : Int64} {x5 : Int32} {x6 : Int64} {x8 : Int64} {h : zz_H} {t t' : cS} {o : kY} (hR : kR h t s) (hf : cf_109_62 N X x3 x5 x6 x8 t = some (t', o)) (k : (∀ h', kR h' t' s → kE o Q h')) : zz_J zp_P zt_tf zt_fd X d zm_109 62 [(0, .ref 59), (3, .long x3), (5, .int x5), (6, .long x6), (8, .long x8)] [] h Q := by
  unfold cf_109_62 at hf
  obtain ⟨d', rfl⟩ : ∃ d', d = d' + 1 := ⟨d - 1, by omega⟩
  refine cb_109_62 hR  (fun {h} hR => ?_)
  rcases ko_call_ok hf with ⟨g1, v1, er, hf⟩ | ⟨g1, er, hq⟩
  · obtain ⟨y, hv, hf2⟩ := co_i_ok hf
    clear hf
    have hf := hf2
    clear hf2
    subst hv
    refine cr_128 (by omega) hR er (fun h hR => ?_)
    exact cr_109_70 hd hR hf k
  · refine cr_128 (by omega) hR er (fun h hR => ?_)
    exact ko_thrown hq hR k
def cf_109_61 (N : Nat) (X : Nat → Option zz_C) (y0 : Int64) (t : cS) : kO := some (t, .inl (some (.long y0)))
theorem cr_109_61 {X : Nat → Option zz_C} {s : mS} {N : Nat} {d : Nat} (hd : 11 ≤ d) {Q : zz_O → zz_H → Prop} {y0 : Int64} {h : zz_H} {t t' : cS} {o : kY} (hR : kR h t s) (hf : cf_109_61 N X y0 t = some (t', o)) (k : (∀ h', kR h' t' s → kE o Q h')) : zz_J zp_P zt_tf zt_fd X d zm_109 61 [] [.long y0] h Q := by
  unfold cf_109_61 at hf
  cases hf
  exact cb_109_61 hR  (fun {h} hR => k h hR)
def cf_109_57 (N : Nat) (X : Nat → Option zz_C)  (t : cS) : kO := ko_call 1000 (cf_254 N X 2 t) (fun g1 v1 => co_l v1 (fun y => cf_109_61 N X y g1))
theorem cr_109_57 {X : Nat → Option zz_C} {s : mS} {N : Nat} {d : Nat} (hd : 11 ≤ d) {Q : zz_O → zz_H → Prop}  {h : zz_H} {t t' : cS} {o : kY} (hR : kR h t s) (hf : cf_109_57 N X  t = some (t', o)) (k : (∀ h', kR h' t' s → kE o Q h')) : zz_J zp_P zt_tf zt_fd X d zm_109 57 [] [] h Q := by
  unfold cf_109_57 at hf
  obtain ⟨d', rfl⟩ : ∃ d', d = d' + 1 := ⟨d - 1, by omega⟩
  refine cb_109_57 hR  (fun {h} hR => ?_)
  rcases ko_call_ok hf with ⟨g1, v1, er, hf⟩ | ⟨g1, er, hq⟩
  · obtain ⟨y, hv, hf2⟩ := co_l_ok hf
    clear hf
    have hf := hf2
    clear hf2
    subst hv
    refine cr_254 (by omega) hR er (fun h hR => ?_)
    exact cr_109_61 hd hR hf k
  · refine cr_254 (by omega) hR er (fun h hR => ?_)
    exact ko_thrown hq hR k
def cf_109_52 (N : Nat) (X : Nat → Option zz_C) (x3 : Int64) (x5 : Int32) (x6 : Int64) (x8 : Int64) (y0 : Int64) (y1 : Int32) (t : cS) : kO := if (lg_cmp y0 (Int32.toInt64 y1)) ≤ 0 then cf_109_62 N X x3 x5 x6 x8 t else cf_109_57 N X  t
theorem cr_109_52 {X : Nat → Option zz_C} {s : mS} {N : Nat} {d : Nat} (hd : 11 ≤ d) {Q : zz_O → zz_H → Prop} {x3 : Int64} {x5 : Int32} {x6 : Int64} {x8 : Int64} {y0 : Int64} {y1 : Int32} {h : zz_H} {t t' : cS} {o : kY} (hR : kR h t s) (hf : cf_109_52 N X x3 x5 x6 x8 y0 y1 t = some (t', o)) (k : (∀ h', kR h' t' s → kE o Q h')) : zz_J zp_P zt_tf zt_fd X d zm_109 52 [(0, .ref 59), (3, .long x3), (5, .int x5), (6, .long x6), (8, .long x8)] [.int y1, .long y0] h Q := by
  unfold cf_109_52 at hf
  refine cb_109_52 hR  (fun c {h} hR => ?_) (fun c {h} hR => ?_)
  · rw [if_pos c] at hf
    exact cr_109_62 hd hR hf k
  · rw [if_neg c] at hf
    exact cr_109_57 hd hR hf k
def cf_109_50 (N : Nat) (X : Nat → Option zz_C) (x3 : Int64) (x5 : Int32) (x6 : Int64) (x8 : Int64) (y0 : Int64) (t : cS) : kO := cf_109_52 N X x3 x5 x6 x8 y0 20 t
theorem cr_109_50 {X : Nat → Option zz_C} {s : mS} {N : Nat} {d : Nat} (hd : 11 ≤ d) {Q : zz_O → zz_H → Prop} {x3 : Int64} {x5 : Int32} {x6 : Int64} {x8 : Int64} {y0 : Int64} {h : zz_H} {t t' : cS} {o : kY} (hR : kR h t s) (hf : cf_109_50 N X x3 x5 x6 x8 y0 t = some (t', o)) (k : (∀ h', kR h' t' s → kE o Q h')) : zz_J zp_P zt_tf zt_fd X d zm_109 50 [(0, .ref 59), (3, .long x3), (5, .int x5), (6, .long x6), (8, .long x8)] [.long y0] h Q := by
  unfold cf_109_50 at hf
  exact cb_109_50 hR  (fun hR => cr_109_52 hd hR hf k)
def cf_109_45 (N : Nat) (X : Nat → Option zz_C) (x3 : Int64) (x5 : Int32) (x6 : Int64) (x8 : Int64) (y0 : Int64) (t : cS) : kO := cf_109_52 N X x3 x5 x6 x8 y0 64 t
theorem cr_109_45 {X : Nat → Option zz_C} {s : mS} {N : Nat} {d : Nat} (hd : 11 ≤ d) {Q : zz_O → zz_H → Prop} {x3 : Int64} {x5 : Int32} {x6 : Int64} {x8 : Int64} {y0 : Int64} {h : zz_H} {t t' : cS} {o : kY} (hR : kR h t s) (hf : cf_109_45 N X x3 x5 x6 x8 y0 t = some (t', o)) (k : (∀ h', kR h' t' s → kE o Q h')) : zz_J zp_P zt_tf zt_fd X d zm_109 45 [(0, .ref 59), (3, .long x3), (5, .int x5), (6, .long x6), (8, .long x8)] [.long y0] h Q := by
  unfold cf_109_45 at hf
  exact cb_109_45 hR  (fun hR => cr_109_52 hd hR hf k)
def cf_109_27 (N : Nat) (X : Nat → Option zz_C) (x3 : Int64) (x5 : Int32) (y0 : Int32) (t : cS) : kO := if ¬ x5 = 1 then cf_109_50 N X x3 x5 (Int32.toInt64 y0) (if 0 < (Int32.toInt64 y0) then (Int32.toInt64 y0) else -(Int32.toInt64 y0)) (if 0 < (Int32.toInt64 y0) then (Int32.toInt64 y0) else -(Int32.toInt64 y0)) t else cf_109_45 N X x3 x5 (Int32.toInt64 y0) (if 0 < (Int32.toInt64 y0) then (Int32.toInt64 y0) else -(Int32.toInt64 y0)) (if 0 < (Int32.toInt64 y0) then (Int32.toInt64 y0) else -(Int32.toInt64 y0)) t
theorem cr_109_27 {X : Nat → Option zz_C} {s : mS} {N : Nat} {d : Nat} (hd : 11 ≤ d) {Q : zz_O → zz_H → Prop} {x3 : Int64} {x5 : Int32} {y0 : Int32} {h : zz_H} {t t' : cS} {o : kY} (hR : kR h t s) (hf : cf_109_27 N X x3 x5 y0 t = some (t', o)) (k : (∀ h', kR h' t' s → kE o Q h')) : zz_J zp_P zt_tf zt_fd X d zm_109 27 [(0, .ref 59), (3, .long x3), (5, .int x5)] [.int y0] h Q := by
  unfold cf_109_27 at hf
  obtain ⟨d', rfl⟩ : ∃ d', d = d' + 1 := ⟨d - 1, by omega⟩
  refine cb_109_27 hR  (fun c {h} hR => ?_) (fun c {h} hR => ?_)
  · rw [if_pos c] at hf
    exact cr_109_50 hd hR hf k
  · rw [if_neg c] at hf
    exact cr_109_45 hd hR hf k
def cf_109_23 (N : Nat) (X : Nat → Option zz_C) (x1 : Int64) (x3 : Int64) (x5 : Int32) (t : cS) : kO := ko_call 1000 (cf_256 N X x1 t) (fun g1 v1 => co_i v1 (fun y => cf_109_27 N X x3 x5 y g1))
theorem cr_109_23 {X : Nat → Option zz_C} {s : mS} {N : Nat} {d : Nat} (hd : 11 ≤ d) {Q : zz_O → zz_H → Prop} {x1 : Int64} {x3 : Int64} {x5 : Int32} {h : zz_H} {t t' : cS} {o : kY} (hR : kR h t s) (hf : cf_109_23 N X x1 x3 x5 t = some (t', o)) (k : (∀ h', kR h' t' s → kE o Q h')) : zz_J zp_P zt_tf zt_fd X d zm_109 23 [(0, .ref 59), (1, .long x1), (3, .long x3), (5, .int x5)] [] h Q := by
  unfold cf_109_23 at hf
  obtain ⟨d', rfl⟩ : ∃ d', d = d' + 1 := ⟨d - 1, by omega⟩
  refine cb_109_23 hR  (fun {h} hR => ?_)
  rcases ko_call_ok hf with ⟨g1, v1, er, hf⟩ | ⟨g1, er, hq⟩
  · obtain ⟨y, hv, hf2⟩ := co_i_ok hf
    clear hf
    have hf := hf2
    clear hf2
    subst hv
    refine cr_256 (by omega) hR er (fun h hR => ?_)
    exact cr_109_27 hd hR hf k
  · refine cr_256 (by omega) hR er (fun h hR => ?_)
    exact ko_thrown hq hR k
def cf_109_13 (N : Nat) (X : Nat → Option zz_C) (x1 : Int64) (x3 : Int64) (x5 : Int32) (t : cS) : kO := if ¬ x5 = 0 then cf_109_23 N X x1 x3 x5 t else cf_109_18 N X  t
theorem cr_109_13 {X : Nat → Option zz_C} {s : mS} {N : Nat} {d : Nat} (hd : 11 ≤ d) {Q : zz_O → zz_H → Prop} {x1 : Int64} {x3 : Int64} {x5 : Int32} {h : zz_H} {t t' : cS} {o : kY} (hR : kR h t s) (hf : cf_109_13 N X x1 x3 x5 t = some (t', o)) (k : (∀ h', kR h' t' s → kE o Q h')) : zz_J zp_P zt_tf zt_fd X d zm_109 13 [(0, .ref 59), (1, .long x1), (3, .long x3), (5, .int x5)] [] h Q := by
  unfold cf_109_13 at hf
  refine cb_109_13 hR  (fun c {h} hR => ?_) (fun c {h} hR => ?_)
  · rw [if_pos c] at hf
    exact cr_109_23 hd hR hf k
  · rw [if_neg c] at hf
    exact cr_109_18 hd hR hf k
def cf_109_10 (N : Nat) (X : Nat → Option zz_C) (x1 : Int64) (x3 : Int64) (x5 : Int32) (y0 : Int32) (t : cS) : kO := if ¬ y0 = 0 then cf_109_18 N X  t else cf_109_13 N X x1 x3 x5 t
theorem cr_109_10 {X : Nat → Option zz_C} {s : mS} {N : Nat} {d : Nat} (hd : 11 ≤ d) {Q : zz_O → zz_H → Prop} {x1 : Int64} {x3 : Int64} {x5 : Int32} {y0 : Int32} {h : zz_H} {t t' : cS} {o : kY} (hR : kR h t s) (hf : cf_109_10 N X x1 x3 x5 y0 t = some (t', o)) (k : (∀ h', kR h' t' s → kE o Q h')) : zz_J zp_P zt_tf zt_fd X d zm_109 10 [(0, .ref 59), (1, .long x1), (3, .long x3), (5, .int x5)] [.int y0] h Q := by
  unfold cf_109_10 at hf
  refine cb_109_10 hR  (fun c {h} hR => ?_) (fun c {h} hR => ?_)
  · rw [if_pos c] at hf
    exact cr_109_18 hd hR hf k
  · rw [if_neg c] at hf
    exact cr_109_13 hd hR hf k
def cf_109_4 (N : Nat) (X : Nat → Option zz_C) (x1 : Int64) (x3 : Int64) (y0 : Int32) (t : cS) : kO := ko_call 1000 (cf_255 N X x1 t) (fun g1 v1 => co_i v1 (fun y => cf_109_10 N X x1 x3 y0 y g1))
theorem cr_109_4 {X : Nat → Option zz_C} {s : mS} {N : Nat} {d : Nat} (hd : 11 ≤ d) {Q : zz_O → zz_H → Prop} {x1 : Int64} {x3 : Int64} {y0 : Int32} {h : zz_H} {t t' : cS} {o : kY} (hR : kR h t s) (hf : cf_109_4 N X x1 x3 y0 t = some (t', o)) (k : (∀ h', kR h' t' s → kE o Q h')) : zz_J zp_P zt_tf zt_fd X d zm_109 4 [(0, .ref 59), (1, .long x1), (3, .long x3)] [.int y0] h Q := by
  unfold cf_109_4 at hf
  obtain ⟨d', rfl⟩ : ∃ d', d = d' + 1 := ⟨d - 1, by omega⟩
  refine cb_109_4 hR  (fun {h} hR => ?_)
  rcases ko_call_ok hf with ⟨g1, v1, er, hf⟩ | ⟨g1, er, hq⟩
  · obtain ⟨y, hv, hf2⟩ := co_i_ok hf
    clear hf
    have hf := hf2
    clear hf2
    subst hv
    refine cr_255 (by omega) hR er (fun h hR => ?_)
    exact cr_109_10 hd hR hf k
  · refine cr_255 (by omega) hR er (fun h hR => ?_)
    exact ko_thrown hq hR k
def cf_109_0 (N : Nat) (X : Nat → Option zz_C) (x1 : Int64) (x3 : Int64) (t : cS) : kO := ko_call 1000 (cf_255 N X x3 t) (fun g1 v1 => co_i v1 (fun y => cf_109_4 N X x1 x3 y g1))
theorem cr_109_0 {X : Nat → Option zz_C} {s : mS} {N : Nat} {d : Nat} (hd : 11 ≤ d) {Q : zz_O → zz_H → Prop} {x1 : Int64} {x3 : Int64} {h : zz_H} {t t' : cS} {o : kY} (hR : kR h t s) (hf : cf_109_0 N X x1 x3 t = some (t', o)) (k : (∀ h', kR h' t' s → kE o Q h')) : zz_J zp_P zt_tf zt_fd X d zm_109 0 [(0, .ref 59), (1, .long x1), (3, .long x3)] [] h Q := by
  unfold cf_109_0 at hf
  obtain ⟨d', rfl⟩ : ∃ d', d = d' + 1 := ⟨d - 1, by omega⟩
  refine cb_109_0 hR  (fun {h} hR => ?_)
  rcases ko_call_ok hf with ⟨g1, v1, er, hf⟩ | ⟨g1, er, hq⟩
  · obtain ⟨y, hv, hf2⟩ := co_i_ok hf
    clear hf
    have hf := hf2
    clear hf2
    subst hv
    refine cr_255 (by omega) hR er (fun h hR => ?_)
    exact cr_109_4 hd hR hf k
  · refine cr_255 (by omega) hR er (fun h hR => ?_)
    exact ko_thrown hq hR k
/-- take -/
def cf_109 (N : Nat) (X : Nat → Option zz_C) (x1 : Int64) (x3 : Int64) (t : cS) : kO := cf_109_0 N X x1 x3 t
theorem cr_109 {X : Nat → Option zz_C} {s : mS} {N : Nat} {d : Nat} (hd : 11 ≤ d) {Q : zz_O → zz_H → Prop} {x1 : Int64} {x3 : Int64} {h : zz_H} {t t' : cS} {o : kY} (hR : kR h t s) (hf : cf_109 N X x1 x3 t = some (t', o)) (k : ∀ h', kR h' t' s → kE o Q h') : zz_J zp_P zt_tf zt_fd X d zm_109 0 [(0, .ref 59), (1, .long x1), (3, .long x3)] [] h Q := by
  unfold cf_109 at hf
  exact zz_J.weak (cr_109_0 hd hR hf k) rfl ⟨rfl, rfl, rfl, trivial⟩
/-! yX1_drop (JJ)J -/
theorem cb_110_0 {X : Nat → Option zz_C} {h : zz_H} {t : cS} {s : mS} {d : Nat} {Q : zz_O → zz_H → Prop} {x1 : Int64} {x3 : Int64} (hR : kR h t s) (k : ∀ {h : zz_H}, kR h t s → zz_J zp_P zt_tf zt_fd X d zm_255 0 [(0, .long x1)] [] h (zz_after 1000 Q (fun v h' => zz_J zp_P zt_tf zt_fd X (d + 1) zm_110 4 [(0, .ref 59), (1, .long x1), (3, .long x3)] (v.toList ++ []) h' Q))) : zz_J zp_P zt_tf zt_fd X (d + 1) zm_110 0 [(0, .ref 59), (1, .long x1), (3, .long x3)] [] h Q := by
  refine zz_J.n 1 rfl rfl rfl ?_
  refine zz_J.cl (M' := zm_255) 4 rfl rfl (by decide) rfl rfl ⟨rfl, Nat.le_of_ble_eq_true rfl⟩ rfl ?_
  refine zz_J.mono (k hR) ?_
  intro o h' hE
  cases o with
  | inl v => exact zz_J.weak hE rfl ⟨rfl, rfl, rfl, trivial⟩
  | inr q => exact hE
theorem cb_110_4 {X : Nat → Option zz_C} {h : zz_H} {t : cS} {s : mS} {d : Nat} {Q : zz_O → zz_H → Prop} {x1 : Int64} {x3 : Int64} {y0 : Int32} (hR : kR h t s) (k1 : ¬ y0 = 0 → (∀ {h : zz_H}, kR h t s → zz_J zp_P zt_tf zt_fd X d zm_110 14 [] [] h Q)) (k2 : ¬ ¬ y0 = 0 → (∀ {h : zz_H}, kR h t s → zz_J zp_P zt_tf zt_fd X d zm_110 7 [(0, .ref 59), (1, .long x1), (3, .long x3)] [] h Q)) : zz_J zp_P zt_tf zt_fd X d zm_110 4 [(0, .ref 59), (1, .long x1), (3, .long x3)] [.int y0] h Q := by
  refine zz_J.b1 14 7 (A := ¬ y0 = 0) rfl (zz_cond_ne _ _) (by decide) rfl rfl (fun c => ?_) (fun c => ?_)
  · exact zz_J.weak (k1 c hR) rfl trivial
  · exact zz_J.weak (k2 c hR) rfl ⟨rfl, rfl, rfl, trivial⟩
theorem cb_110_7 {X : Nat → Option zz_C} {h : zz_H} {t : cS} {s : mS} {d : Nat} {Q : zz_O → zz_H → Prop} {x1 : Int64} {x3 : Int64} (hR : kR h t s) (k : ∀ {h : zz_H}, kR h t s → zz_J zp_P zt_tf zt_fd X d zm_255 0 [(0, .long x3)] [] h (zz_after 1000 Q (fun v h' => zz_J zp_P zt_tf zt_fd X (d + 1) zm_110 11 [(0, .ref 59), (1, .long x1), (3, .long x3)] (v.toList ++ []) h' Q))) : zz_J zp_P zt_tf zt_fd X (d + 1) zm_110 7 [(0, .ref 59), (1, .long x1), (3, .long x3)] [] h Q := by
  refine zz_J.n 8 rfl rfl rfl ?_
  refine zz_J.cl (M' := zm_255) 11 rfl rfl (by decide) rfl rfl ⟨rfl, Nat.le_of_ble_eq_true rfl⟩ rfl ?_
  refine zz_J.mono (k hR) ?_
  intro o h' hE
  cases o with
  | inl v => exact zz_J.weak hE rfl ⟨rfl, rfl, rfl, trivial⟩
  | inr q => exact hE
theorem cb_110_11 {X : Nat → Option zz_C} {h : zz_H} {t : cS} {s : mS} {d : Nat} {Q : zz_O → zz_H → Prop} {x1 : Int64} {x3 : Int64} {y0 : Int32} (hR : kR h t s) (k1 : ¬ y0 = 0 → (∀ {h : zz_H}, kR h t s → zz_J zp_P zt_tf zt_fd X d zm_110 19 [(0, .ref 59), (1, .long x1), (3, .long x3)] [] h Q)) (k2 : ¬ ¬ y0 = 0 → (∀ {h : zz_H}, kR h t s → zz_J zp_P zt_tf zt_fd X d zm_110 14 [] [] h Q)) : zz_J zp_P zt_tf zt_fd X d zm_110 11 [(0, .ref 59), (1, .long x1), (3, .long x3)] [.int y0] h Q := by
  refine zz_J.b1 19 14 (A := ¬ y0 = 0) rfl (zz_cond_ne _ _) (by decide) rfl rfl (fun c => ?_) (fun c => ?_)
  · exact zz_J.weak (k1 c hR) rfl ⟨rfl, rfl, rfl, trivial⟩
  · exact zz_J.weak (k2 c hR) rfl trivial
theorem cb_110_14 {X : Nat → Option zz_C} {h : zz_H} {t : cS} {s : mS} {d : Nat} {Q : zz_O → zz_H → Prop}  (hR : kR h t s) (k : ∀ {h : zz_H}, kR h t s → zz_J zp_P zt_tf zt_fd X d zm_254 0 [(0, .int 3)] [] h (zz_after 1000 Q (fun v h' => zz_J zp_P zt_tf zt_fd X (d + 1) zm_110 18 [] (v.toList ++ []) h' Q))) : zz_J zp_P zt_tf zt_fd X (d + 1) zm_110 14 [] [] h Q := by
  refine zz_J.c 15 (.int 3) rfl rfl rfl rfl ?_
  refine zz_J.cl (M' := zm_254) 18 rfl rfl (by decide) rfl rfl ⟨rfl, Nat.le_of_ble_eq_true rfl⟩ rfl ?_
  refine zz_J.mono (k hR) ?_
  intro o h' hE
  cases o with
  | inl v => exact zz_J.weak hE rfl trivial
  | inr q => exact hE
theorem cb_110_18 {X : Nat → Option zz_C} {h : zz_H} {t : cS} {s : mS} {d : Nat} {Q : zz_O → zz_H → Prop} {y0 : Int64} (hR : kR h t s) (k : ∀ {h : zz_H}, kR h t s → Q (.inl (some (.long y0))) h) : zz_J zp_P zt_tf zt_fd X d zm_110 18 [] [.long y0] h Q := by
  refine zz_J.ret rfl rfl rfl ?_
  exact k hR
theorem cb_110_19 {X : Nat → Option zz_C} {h : zz_H} {t : cS} {s : mS} {d : Nat} {Q : zz_O → zz_H → Prop} {x1 : Int64} {x3 : Int64} (hR : kR h t s) (k : ∀ {h : zz_H}, kR h t s → zz_J zp_P zt_tf zt_fd X d zm_256 0 [(0, .long x1)] [] h (zz_after 1000 Q (fun v h' => zz_J zp_P zt_tf zt_fd X (d + 1) zm_110 23 [(0, .ref 59), (3, .long x3)] (v.toList ++ []) h' Q))) : zz_J zp_P zt_tf zt_fd X (d + 1) zm_110 19 [(0, .ref 59), (1, .long x1), (3, .long x3)] [] h Q := by
  refine zz_J.n 20 rfl rfl rfl ?_
  refine zz_J.cl (M' := zm_256) 23 rfl rfl (by decide) rfl rfl ⟨rfl, Nat.le_of_ble_eq_true rfl⟩ rfl ?_
  refine zz_J.mono (k hR) ?_
  intro o h' hE
  cases o with
  | inl v => exact zz_J.weak hE rfl ⟨rfl, rfl, trivial⟩
  | inr q => exact hE
theorem cb_110_23 {X : Nat → Option zz_C} {h : zz_H} {t : cS} {s : mS} {d : Nat} {Q : zz_O → zz_H → Prop} {x3 : Int64} {y0 : Int32} (hR : kR h t s) (k : ∀ {h : zz_H}, kR h t s → zz_J zp_P zt_tf zt_fd X d zm_128 0 [(0, .ref 42), (1, .long x3)] [] h (zz_after 2 Q (fun v h' => zz_J zp_P zt_tf zt_fd X (d + 1) zm_110 34 [(0, .ref 59), (3, .long x3), (5, .long (Int32.toInt64 y0))] (v.toList ++ []) h' Q))) : zz_J zp_P zt_tf zt_fd X (d + 1) zm_110 23 [(0, .ref 59), (3, .long x3)] [.int y0] h Q := by
  refine zz_J.n 24 rfl rfl rfl ?_
  refine zz_J.n 26 rfl rfl rfl ?_
  refine zz_J.n 27 rfl rfl rfl ?_
  refine zz_J.g 30 rfl (hR.gv (v := .ref 42) ko_59 (by decide) rfl) rfl ?_
  refine zz_J.n 31 rfl rfl rfl ?_
  refine zz_J.cv 34 (as := []) rfl rfl (hR.clO ko_42 (by decide) (by decide)) (by decide) (Nat.le_of_ble_eq_true rfl) (Nat.le_of_ble_eq_true rfl) rfl (Nat.le_of_ble_eq_true rfl) rfl ?_
  refine zz_J.mono (k hR) ?_
  intro o h' hE
  cases o with
  | inl v => exact zz_J.weak hE rfl ⟨rfl, rfl, rfl, trivial⟩
  | inr q => exact hE
theorem cb_110_34 {X : Nat → Option zz_C} {h : zz_H} {t : cS} {s : mS} {d : Nat} {Q : zz_O → zz_H → Prop} {x3 : Int64} {x5 : Int64} {y0 : Int32} (hR : kR h t s) (k : ∀ {h : zz_H}, kR h t s → zz_J zp_P zt_tf zt_fd X d zm_122 0 [(0, .ref 42)] [] h (zz_after 2 Q (fun v h' => zz_J zp_P zt_tf zt_fd X (d + 1) zm_110 43 [(0, .ref 59), (3, .long x3), (5, .long x5), (7, .int y0)] (v.toList ++ []) h' Q))) : zz_J zp_P zt_tf zt_fd X (d + 1) zm_110 34 [(0, .ref 59), (3, .long x3), (5, .long x5)] [.int y0] h Q := by
  refine zz_J.n 36 rfl rfl rfl ?_
  refine zz_J.n 37 rfl rfl rfl ?_
  refine zz_J.g 40 rfl (hR.gv (v := .ref 42) ko_59 (by decide) rfl) rfl ?_
  refine zz_J.cv 43 (as := []) rfl rfl (hR.clO ko_42 (by decide) (by decide)) (by decide) (Nat.le_of_ble_eq_true rfl) (Nat.le_of_ble_eq_true rfl) rfl (Nat.le_of_ble_eq_true rfl) rfl ?_
  refine zz_J.mono (k hR) ?_
  intro o h' hE
  cases o with
  | inl v => exact zz_J.weak hE rfl ⟨rfl, rfl, rfl, rfl, trivial⟩
  | inr q => exact hE
theorem cb_110_43 {X : Nat → Option zz_C} {h : zz_H} {t : cS} {s : mS} {d : Nat} {Q : zz_O → zz_H → Prop} {x3 : Int64} {x5 : Int64} {x7 : Int32} {y0 : Int32} (hR : kR h t s) (k : ∀ {h : zz_H}, kR h t s → zz_J zp_P zt_tf zt_fd X d zm_124 0 [(0, .ref 42), (1, .long x3), (3, .int (Int64.toInt32 (if (if 0 < (x5 : Int64) then x5 else 0) < ((Int32.toInt64 x7) : Int64) then (if 0 < (x5 : Int64) then x5 else 0) else (Int32.toInt64 x7)))), (4, .int (Int64.toInt32 (if ((Int32.toInt64 x7) + (if 0 < (x5 : Int64) then 0 else x5)) < (0 : Int64) then 0 else ((Int32.toInt64 x7) + (if 0 < (x5 : Int64) then 0 else x5)))))] [] h (zz_after 2 Q (fun v h' => zz_J zp_P zt_tf zt_fd X (d + 1) zm_110 81 [(0, .ref 59), (3, .long x3), (8, .int y0)] (v.toList ++ []) h' Q))) : zz_J zp_P zt_tf zt_fd X (d + 1) zm_110 43 [(0, .ref 59), (3, .long x3), (5, .long x5), (7, .int x7)] [.int y0] h Q := by
  refine zz_J.n 45 rfl rfl rfl ?_
  refine zz_J.n 46 rfl rfl rfl ?_
  refine zz_J.g 49 rfl (hR.gv (v := .ref 42) ko_59 (by decide) rfl) rfl ?_
  refine zz_J.n 50 rfl rfl rfl ?_
  refine zz_J.n 52 rfl rfl rfl ?_
  refine zz_J.n 53 rfl rfl rfl ?_
  refine zz_J.n 55 rfl rfl rfl ?_
  refine zz_J.c 56 (.long 0) rfl rfl rfl rfl ?_
  refine zz_J.spec 59 rfl rfl (by decide) rfl rfl rfl ?_
  refine zz_J.spec 62 rfl rfl (by decide) rfl rfl rfl ?_
  refine zz_J.n 63 rfl rfl rfl ?_
  refine zz_J.c 64 (.long 0) rfl rfl rfl rfl ?_
  refine zz_J.n 66 rfl rfl rfl ?_
  refine zz_J.n 67 rfl rfl rfl ?_
  refine zz_J.n 69 rfl rfl rfl ?_
  refine zz_J.c 70 (.long 0) rfl rfl rfl rfl ?_
  refine zz_J.spec 73 rfl rfl (by decide) rfl rfl rfl ?_
  refine zz_J.n 74 rfl rfl rfl ?_
  refine zz_J.spec 77 rfl rfl (by decide) rfl rfl rfl ?_
  refine zz_J.n 78 rfl rfl rfl ?_
  refine zz_J.cv 81 (as := []) rfl rfl (hR.clO ko_42 (by decide) (by decide)) (by decide) (Nat.le_of_ble_eq_true rfl) (Nat.le_of_ble_eq_true rfl) rfl (Nat.le_of_ble_eq_true rfl) rfl ?_
  refine zz_J.mono (k hR) ?_
  intro o h' hE
  cases o with
  | inl v => exact zz_J.weak hE rfl ⟨rfl, rfl, rfl, trivial⟩
  | inr q => exact hE
theorem cb_110_81 {X : Nat → Option zz_C} {h : zz_H} {t : cS} {s : mS} {d : Nat} {Q : zz_O → zz_H → Prop} {x3 : Int64} {x8 : Int32} (hR : kR h t s) (k : ∀ {h : zz_H}, kR h t s → zz_J zp_P zt_tf zt_fd X d zm_255 0 [(0, .long x3)] [] h (zz_after 1000 Q (fun v h' => zz_J zp_P zt_tf zt_fd X (d + 1) zm_110 89 [(8, .int x8)] (v.toList ++ [.ref 42]) h' Q))) : zz_J zp_P zt_tf zt_fd X (d + 1) zm_110 81 [(0, .ref 59), (3, .long x3), (8, .int x8)] [] h Q := by
  refine zz_J.n 82 rfl rfl rfl ?_
  refine zz_J.g 85 rfl (hR.gv (v := .ref 42) ko_59 (by decide) rfl) rfl ?_
  refine zz_J.n 86 rfl rfl rfl ?_
  refine zz_J.cl (M' := zm_255) 89 rfl rfl (by decide) rfl rfl ⟨rfl, Nat.le_of_ble_eq_true rfl⟩ rfl ?_
  refine zz_J.mono (k hR) ?_
  intro o h' hE
  cases o with
  | inl v => exact zz_J.weak hE rfl ⟨rfl, trivial⟩
  | inr q => exact hE
theorem cb_110_89 {X : Nat → Option zz_C} {h : zz_H} {t : cS} {s : mS} {d : Nat} {Q : zz_O → zz_H → Prop} {x8 : Int32} {y1 : Int32} (hR : kR h t s) (k : ∀ {h : zz_H}, kR h t s → zz_J zp_P zt_tf zt_fd X d zm_126 0 [(0, .ref 42), (1, .int y1), (2, .int x8)] [] h (zz_after 2 Q (fun v h' => zz_J zp_P zt_tf zt_fd X (d + 1) zm_110 94 [] (v.toList ++ []) h' Q))) : zz_J zp_P zt_tf zt_fd X (d + 1) zm_110 89 [(8, .int x8)] [.int y1, .ref 42] h Q := by
  refine zz_J.n 91 rfl rfl rfl ?_
  refine zz_J.cv 94 (as := []) rfl rfl (hR.clO ko_42 (by decide) (by decide)) (by decide) (Nat.le_of_ble_eq_true rfl) (Nat.le_of_ble_eq_true rfl) rfl (Nat.le_of_ble_eq_true rfl) rfl ?_
  refine zz_J.mono (k hR) ?_
  intro o h' hE
  cases o with
  | inl v => exact zz_J.weak hE rfl trivial
  | inr q => exact hE
theorem cb_110_94 {X : Nat → Option zz_C} {h : zz_H} {t : cS} {s : mS} {d : Nat} {Q : zz_O → zz_H → Prop} {y0 : Int64} (hR : kR h t s) (k : ∀ {h : zz_H}, kR h t s → Q (.inl (some (.long y0))) h) : zz_J zp_P zt_tf zt_fd X d zm_110 94 [] [.long y0] h Q := by
  refine zz_J.ret rfl rfl rfl ?_
  exact k hR
def cf_110_18 (N : Nat) (X : Nat → Option zz_C) (y0 : Int64) (t : cS) : kO := some (t, .inl (some (.long y0)))
theorem cr_110_18 {X : Nat → Option zz_C} {s : mS} {N : Nat} {d : Nat} (hd : 11 ≤ d) {Q : zz_O → zz_H → Prop} {y0 : Int64} {h : zz_H} {t t' : cS} {o : kY} (hR : kR h t s) (hf : cf_110_18 N X y0 t = some (t', o)) (k : (∀ h', kR h' t' s → kE o Q h')) : zz_J zp_P zt_tf zt_fd X d zm_110 18 [] [.long y0] h Q := by
  unfold cf_110_18 at hf
  cases hf
  exact cb_110_18 hR  (fun {h} hR => k h hR)
def cf_110_14 (N : Nat) (X : Nat → Option zz_C)  (t : cS) : kO := ko_call 1000 (cf_254 N X 3 t) (fun g1 v1 => co_l v1 (fun y => cf_110_18 N X y g1))
theorem cr_110_14 {X : Nat → Option zz_C} {s : mS} {N : Nat} {d : Nat} (hd : 11 ≤ d) {Q : zz_O → zz_H → Prop}  {h : zz_H} {t t' : cS} {o : kY} (hR : kR h t s) (hf : cf_110_14 N X  t = some (t', o)) (k : (∀ h', kR h' t' s → kE o Q h')) : zz_J zp_P zt_tf zt_fd X d zm_110 14 [] [] h Q := by
  unfold cf_110_14 at hf
  obtain ⟨d', rfl⟩ : ∃ d', d = d' + 1 := ⟨d - 1, by omega⟩
  refine cb_110_14 hR  (fun {h} hR => ?_)
  rcases ko_call_ok hf with ⟨g1, v1, er, hf⟩ | ⟨g1, er, hq⟩
  · obtain ⟨y, hv, hf2⟩ := co_l_ok hf
    clear hf
    have hf := hf2
    clear hf2
    subst hv
    refine cr_254 (by omega) hR er (fun h hR => ?_)
    exact cr_110_18 hd hR hf k
  · refine cr_254 (by omega) hR er (fun h hR => ?_)
    exact ko_thrown hq hR k
def cf_110_94 (N : Nat) (X : Nat → Option zz_C) (y0 : Int64) (t : cS) : kO := some (t, .inl (some (.long y0)))
theorem cr_110_94 {X : Nat → Option zz_C} {s : mS} {N : Nat} {d : Nat} (hd : 11 ≤ d) {Q : zz_O → zz_H → Prop} {y0 : Int64} {h : zz_H} {t t' : cS} {o : kY} (hR : kR h t s) (hf : cf_110_94 N X y0 t = some (t', o)) (k : (∀ h', kR h' t' s → kE o Q h')) : zz_J zp_P zt_tf zt_fd X d zm_110 94 [] [.long y0] h Q := by
  unfold cf_110_94 at hf
  cases hf
  exact cb_110_94 hR  (fun {h} hR => k h hR)
def cf_110_89 (N : Nat) (X : Nat → Option zz_C) (x8 : Int32) (y1 : Int32) (t : cS) : kO := ko_call 2 (cf_126 N X y1 x8 t) (fun g1 v1 => co_l v1 (fun y => cf_110_94 N X y g1))
theorem cr_110_89 {X : Nat → Option zz_C} {s : mS} {N : Nat} {d : Nat} (hd : 11 ≤ d) {Q : zz_O → zz_H → Prop} {x8 : Int32} {y1 : Int32} {h : zz_H} {t t' : cS} {o : kY} (hR : kR h t s) (hf : cf_110_89 N X x8 y1 t = some (t', o)) (k : (∀ h', kR h' t' s → kE o Q h')) : zz_J zp_P zt_tf zt_fd X d zm_110 89 [(8, .int x8)] [.int y1, .ref 42] h Q := by
  unfold cf_110_89 at hf
  obtain ⟨d', rfl⟩ : ∃ d', d = d' + 1 := ⟨d - 1, by omega⟩
  refine cb_110_89 hR  (fun {h} hR => ?_)
  rcases ko_call_ok hf with ⟨g1, v1, er, hf⟩ | ⟨g1, er, hq⟩
  · obtain ⟨y, hv, hf2⟩ := co_l_ok hf
    clear hf
    have hf := hf2
    clear hf2
    subst hv
    refine cr_126 (by omega) hR er (fun h hR => ?_)
    exact cr_110_94 hd hR hf k
  · refine cr_126 (by omega) hR er (fun h hR => ?_)
    exact ko_thrown hq hR k
def cf_110_81 (N : Nat) (X : Nat → Option zz_C) (x3 : Int64) (x8 : Int32) (t : cS) : kO := ko_call 1000 (cf_255 N X x3 t) (fun g1 v1 => co_i v1 (fun y => cf_110_89 N X x8 y g1))
theorem cr_110_81 {X : Nat → Option zz_C} {s : mS} {N : Nat} {d : Nat} (hd : 11 ≤ d) {Q : zz_O → zz_H → Prop} {x3 : Int64} {x8 : Int32} {h : zz_H} {t t' : cS} {o : kY} (hR : kR h t s) (hf : cf_110_81 N X x3 x8 t = some (t', o)) (k : (∀ h', kR h' t' s → kE o Q h')) : zz_J zp_P zt_tf zt_fd X d zm_110 81 [(0, .ref 59), (3, .long x3), (8, .int x8)] [] h Q := by
  unfold cf_110_81 at hf
  obtain ⟨d', rfl⟩ : ∃ d', d = d' + 1 := ⟨d - 1, by omega⟩
  refine cb_110_81 hR  (fun {h} hR => ?_)
  rcases ko_call_ok hf with ⟨g1, v1, er, hf⟩ | ⟨g1, er, hq⟩
  · obtain ⟨y, hv, hf2⟩ := co_i_ok hf
    clear hf
    have hf := hf2
    clear hf2
    subst hv
    refine cr_255 (by omega) hR er (fun h hR => ?_)
    exact cr_110_89 hd hR hf k
  · refine cr_255 (by omega) hR er (fun h hR => ?_)
    exact ko_thrown hq hR k
def cf_110_43 (N : Nat) (X : Nat → Option zz_C) (x3 : Int64) (x5 : Int64) (x7 : Int32) (y0 : Int32) (t : cS) : kO := ko_call 2 (cf_124 N X x3 (Int64.toInt32 (if (if 0 < (x5 : Int64) then x5 else 0) < ((Int32.toInt64 x7) : Int64) then (if 0 < (x5 : Int64) then x5 else 0) else (Int32.toInt64 x7))) (Int64.toInt32 (if ((Int32.toInt64 x7) + (if 0 < (x5 : Int64) then 0 else x5)) < (0 : Int64) then 0 else ((Int32.toInt64 x7) + (if 0 < (x5 : Int64) then 0 else x5)))) t) (fun g1 v1 => co_v v1 (cf_110_81 N X x3 y0 g1))
theorem cr_110_43 {X : Nat → Option zz_C} {s : mS} {N : Nat} {d : Nat} (hd : 11 ≤ d) {Q : zz_O → zz_H → Prop} {x3 : Int64} {x5 : Int64} {x7 : Int32} {y0 : Int32} {h : zz_H} {t t' : cS} {o : kY} (hR : kR h t s) (hf : cf_110_43 N X x3 x5 x7 y0 t = some (t', o)) (k : (∀ h', kR h' t' s → kE o Q h')) : zz_J zp_P zt_tf zt_fd X d zm_110 43 [(0, .ref 59), (3, .long x3), (5, .long x5), (7, .int x7)] [.int y0] h Q := by
  unfold cf_110_43 at hf
  obtain ⟨d', rfl⟩ : ∃ d', d = d' + 1 := ⟨d - 1, by omega⟩
  refine cb_110_43 hR  (fun {h} hR => ?_)
  rcases ko_call_ok hf with ⟨g1, v1, er, hf⟩ | ⟨g1, er, hq⟩
  · obtain ⟨hv, hf2⟩ := co_v_ok hf
    clear hf
    have hf := hf2
    clear hf2
    subst hv
    refine cr_124 (by omega) hR er (fun h hR => ?_)
    exact cr_110_81 hd hR hf k
  · refine cr_124 (by omega) hR er (fun h hR => ?_)
    exact ko_thrown hq hR k
def cf_110_34 (N : Nat) (X : Nat → Option zz_C) (x3 : Int64) (x5 : Int64) (y0 : Int32) (t : cS) : kO := ko_call 2 (cf_122 N X  t) (fun g1 v1 => co_i v1 (fun y => cf_110_43 N X x3 x5 y0 y g1))
theorem cr_110_34 {X : Nat → Option zz_C} {s : mS} {N : Nat} {d : Nat} (hd : 11 ≤ d) {Q : zz_O → zz_H → Prop} {x3 : Int64} {x5 : Int64} {y0 : Int32} {h : zz_H} {t t' : cS} {o : kY} (hR : kR h t s) (hf : cf_110_34 N X x3 x5 y0 t = some (t', o)) (k : (∀ h', kR h' t' s → kE o Q h')) : zz_J zp_P zt_tf zt_fd X d zm_110 34 [(0, .ref 59), (3, .long x3), (5, .long x5)] [.int y0] h Q := by
  unfold cf_110_34 at hf
  obtain ⟨d', rfl⟩ : ∃ d', d = d' + 1 := ⟨d - 1, by omega⟩
  refine cb_110_34 hR  (fun {h} hR => ?_)
  rcases ko_call_ok hf with ⟨g1, v1, er, hf⟩ | ⟨g1, er, hq⟩
  · obtain ⟨y, hv, hf2⟩ := co_i_ok hf
    clear hf
    have hf := hf2
    clear hf2
    subst hv
    refine cr_122 (by omega) hR er (fun h hR => ?_)
    exact cr_110_43 hd hR hf k
  · refine cr_122 (by omega) hR er (fun h hR => ?_)
    exact ko_thrown hq hR k
def cf_110_23 (N : Nat) (X : Nat → Option zz_C) (x3 : Int64) (y0 : Int32) (t : cS) : kO := ko_call 2 (cf_128 N X x3 t) (fun g1 v1 => co_i v1 (fun y => cf_110_34 N X x3 (Int32.toInt64 y0) y g1))
theorem cr_110_23 {X : Nat → Option zz_C} {s : mS} {N : Nat} {d : Nat} (hd : 11 ≤ d) {Q : zz_O → zz_H → Prop} {x3 : Int64} {y0 : Int32} {h : zz_H} {t t' : cS} {o : kY} (hR : kR h t s) (hf : cf_110_23 N X x3 y0 t = some (t', o)) (k : (∀ h', kR h' t' s → kE o Q h')) : zz_J zp_P zt_tf zt_fd X d zm_110 23 [(0, .ref 59), (3, .long x3)] [.int y0] h Q := by
  unfold cf_110_23 at hf
  obtain ⟨d', rfl⟩ : ∃ d', d = d' + 1 := ⟨d - 1, by omega⟩
  refine cb_110_23 hR  (fun {h} hR => ?_)
  rcases ko_call_ok hf with ⟨g1, v1, er, hf⟩ | ⟨g1, er, hq⟩
  · obtain ⟨y, hv, hf2⟩ := co_i_ok hf
    clear hf
    have hf := hf2
    clear hf2
    subst hv
    refine cr_128 (by omega) hR er (fun h hR => ?_)
    exact cr_110_34 hd hR hf k
  · refine cr_128 (by omega) hR er (fun h hR => ?_)
    exact ko_thrown hq hR k
def cf_110_19 (N : Nat) (X : Nat → Option zz_C) (x1 : Int64) (x3 : Int64) (t : cS) : kO := ko_call 1000 (cf_256 N X x1 t) (fun g1 v1 => co_i v1 (fun y => cf_110_23 N X x3 y g1))
theorem cr_110_19 {X : Nat → Option zz_C} {s : mS} {N : Nat} {d : Nat} (hd : 11 ≤ d) {Q : zz_O → zz_H → Prop} {x1 : Int64} {x3 : Int64} {h : zz_H} {t t' : cS} {o : kY} (hR : kR h t s) (hf : cf_110_19 N X x1 x3 t = some (t', o)) (k : (∀ h', kR h' t' s → kE o Q h')) : zz_J zp_P zt_tf zt_fd X d zm_110 19 [(0, .ref 59), (1, .long x1), (3, .long x3)] [] h Q := by
  unfold cf_110_19 at hf
  obtain ⟨d', rfl⟩ : ∃ d', d = d' + 1 := ⟨d - 1, by omega⟩
  refine cb_110_19 hR  (fun {h} hR => ?_)
  rcases ko_call_ok hf with ⟨g1, v1, er, hf⟩ | ⟨g1, er, hq⟩
  · obtain ⟨y, hv, hf2⟩ := co_i_ok hf
    clear hf
    have hf := hf2
    clear hf2
    subst hv
    refine cr_256 (by omega) hR er (fun h hR => ?_)
    exact cr_110_23 hd hR hf k
  · refine cr_256 (by omega) hR er (fun h hR => ?_)
    exact ko_thrown hq hR k
def cf_110_11 (N : Nat) (X : Nat → Option zz_C) (x1 : Int64) (x3 : Int64) (y0 : Int32) (t : cS) : kO := if ¬ y0 = 0 then cf_110_19 N X x1 x3 t else cf_110_14 N X  t
theorem cr_110_11 {X : Nat → Option zz_C} {s : mS} {N : Nat} {d : Nat} (hd : 11 ≤ d) {Q : zz_O → zz_H → Prop} {x1 : Int64} {x3 : Int64} {y0 : Int32} {h : zz_H} {t t' : cS} {o : kY} (hR : kR h t s) (hf : cf_110_11 N X x1 x3 y0 t = some (t', o)) (k : (∀ h', kR h' t' s → kE o Q h')) : zz_J zp_P zt_tf zt_fd X d zm_110 11 [(0, .ref 59), (1, .long x1), (3, .long x3)] [.int y0] h Q := by
  unfold cf_110_11 at hf
  refine cb_110_11 hR  (fun c {h} hR => ?_) (fun c {h} hR => ?_)
  · rw [if_pos c] at hf
    exact cr_110_19 hd hR hf k
  · rw [if_neg c] at hf
    exact cr_110_14 hd hR hf k
def cf_110_7 (N : Nat) (X : Nat → Option zz_C) (x1 : Int64) (x3 : Int64) (t : cS) : kO := ko_call 1000 (cf_255 N X x3 t) (fun g1 v1 => co_i v1 (fun y => cf_110_11 N X x1 x3 y g1))
theorem cr_110_7 {X : Nat → Option zz_C} {s : mS} {N : Nat} {d : Nat} (hd : 11 ≤ d) {Q : zz_O → zz_H → Prop} {x1 : Int64} {x3 : Int64} {h : zz_H} {t t' : cS} {o : kY} (hR : kR h t s) (hf : cf_110_7 N X x1 x3 t = some (t', o)) (k : (∀ h', kR h' t' s → kE o Q h')) : zz_J zp_P zt_tf zt_fd X d zm_110 7 [(0, .ref 59), (1, .long x1), (3, .long x3)] [] h Q := by
  unfold cf_110_7 at hf
  obtain ⟨d', rfl⟩ : ∃ d', d = d' + 1 := ⟨d - 1, by omega⟩
  refine cb_110_7 hR  (fun {h} hR => ?_)
  rcases ko_call_ok hf with ⟨g1, v1, er, hf⟩ | ⟨g1, er, hq⟩
  · obtain ⟨y, hv, hf2⟩ := co_i_ok hf
    clear hf
    have hf := hf2
    clear hf2
    subst hv
    refine cr_255 (by omega) hR er (fun h hR => ?_)
    exact cr_110_11 hd hR hf k
  · refine cr_255 (by omega) hR er (fun h hR => ?_)
    exact ko_thrown hq hR k
def cf_110_4 (N : Nat) (X : Nat → Option zz_C) (x1 : Int64) (x3 : Int64) (y0 : Int32) (t : cS) : kO := if ¬ y0 = 0 then cf_110_14 N X  t else cf_110_7 N X x1 x3 t
theorem cr_110_4 {X : Nat → Option zz_C} {s : mS} {N : Nat} {d : Nat} (hd : 11 ≤ d) {Q : zz_O → zz_H → Prop} {x1 : Int64} {x3 : Int64} {y0 : Int32} {h : zz_H} {t t' : cS} {o : kY} (hR : kR h t s) (hf : cf_110_4 N X x1 x3 y0 t = some (t', o)) (k : (∀ h', kR h' t' s → kE o Q h')) : zz_J zp_P zt_tf zt_fd X d zm_110 4 [(0, .ref 59), (1, .long x1), (3, .long x3)] [.int y0] h Q := by
  unfold cf_110_4 at hf
  refine cb_110_4 hR  (fun c {h} hR => ?_) (fun c {h} hR => ?_)
  · rw [if_pos c] at hf
    exact cr_110_14 hd hR hf k
  · rw [if_neg c] at hf
    exact cr_110_7 hd hR hf k
def cf_110_0 (N : Nat) (X : Nat → Option zz_C) (x1 : Int64) (x3 : Int64) (t : cS) : kO := ko_call 1000 (cf_255 N X x1 t) (fun g1 v1 => co_i v1 (fun y => cf_110_4 N X x1 x3 y g1))
theorem cr_110_0 {X : Nat → Option zz_C} {s : mS} {N : Nat} {d : Nat} (hd : 11 ≤ d) {Q : zz_O → zz_H → Prop} {x1 : Int64} {x3 : Int64} {h : zz_H} {t t' : cS} {o : kY} (hR : kR h t s) (hf : cf_110_0 N X x1 x3 t = some (t', o)) (k : (∀ h', kR h' t' s → kE o Q h')) : zz_J zp_P zt_tf zt_fd X d zm_110 0 [(0, .ref 59), (1, .long x1), (3, .long x3)] [] h Q := by
  unfold cf_110_0 at hf
  obtain ⟨d', rfl⟩ : ∃ d', d = d' + 1 := ⟨d - 1, by omega⟩
  refine cb_110_0 hR  (fun {h} hR => ?_)
  rcases ko_call_ok hf with ⟨g1, v1, er, hf⟩ | ⟨g1, er, hq⟩
  · obtain ⟨y, hv, hf2⟩ := co_i_ok hf
    clear hf
    have hf := hf2
    clear hf2
    subst hv
    refine cr_255 (by omega) hR er (fun h hR => ?_)
    exact cr_110_4 hd hR hf k
  · refine cr_255 (by omega) hR er (fun h hR => ?_)
    exact ko_thrown hq hR k
/-- drop -/
def cf_110 (N : Nat) (X : Nat → Option zz_C) (x1 : Int64) (x3 : Int64) (t : cS) : kO := cf_110_0 N X x1 x3 t
theorem cr_110 {X : Nat → Option zz_C} {s : mS} {N : Nat} {d : Nat} (hd : 11 ≤ d) {Q : zz_O → zz_H → Prop} {x1 : Int64} {x3 : Int64} {h : zz_H} {t t' : cS} {o : kY} (hR : kR h t s) (hf : cf_110 N X x1 x3 t = some (t', o)) (k : ∀ h', kR h' t' s → kE o Q h') : zz_J zp_P zt_tf zt_fd X d zm_110 0 [(0, .ref 59), (1, .long x1), (3, .long x3)] [] h Q := by
  unfold cf_110 at hf
  exact zz_J.weak (cr_110_0 hd hR hf k) rfl ⟨rfl, rfl, rfl, trivial⟩
/-! yX1_stretch (JII)J -/
theorem cb_112_0 {X : Nat → Option zz_C} {h : zz_H} {t : cS} {s : mS} {d : Nat} {Q : zz_O → zz_H → Prop} {x1 : Int64} {x3 : Int32} {x4 : Int32} (hR : kR h t s) (k : ∀ {h : zz_H}, kR h t s → zz_J zp_P zt_tf zt_fd X d zm_122 0 [(0, .ref 42)] [] h (zz_after 2 Q (fun v h' => zz_J zp_P zt_tf zt_fd X (d + 1) zm_112 7 [(0, .ref 59), (1, .long x1), (3, .int x3), (4, .int x4)] (v.toList ++ []) h' Q))) : zz_J zp_P zt_tf zt_fd X (d + 1) zm_112 0 [(0, .ref 59), (1, .long x1), (3, .int x3), (4, .int x4)] [] h Q := by
  refine zz_J.n 1 rfl rfl rfl ?_
  refine zz_J.g 4 rfl (hR.gv (v := .ref 42) ko_59 (by decide) rfl) rfl ?_
  refine zz_J.cv 7 (as := []) rfl rfl (hR.clO ko_42 (by decide) (by decide)) (by decide) (Nat.le_of_ble_eq_true rfl) (Nat.le_of_ble_eq_true rfl) rfl (Nat.le_of_ble_eq_true rfl) rfl ?_
  refine zz_J.mono (k hR) ?_
  intro o h' hE
  cases o with
  | inl v => exact zz_J.weak hE rfl ⟨rfl, rfl, rfl, rfl, trivial⟩
  | inr q => exact hE
theorem cb_112_7 {X : Nat → Option zz_C} {h : zz_H} {t : cS} {s : mS} {d : Nat} {Q : zz_O → zz_H → Prop} {x1 : Int64} {x3 : Int32} {x4 : Int32} {y0 : Int32} (hR : kR h t s) (k : ∀ {h : zz_H}, kR h t s → zz_J zp_P zt_tf zt_fd X d zm_112 12 [(0, .ref 59), (1, .long x1), (4, .int x4), (5, .int y0), (6, .int x3)] [] h Q) : zz_J zp_P zt_tf zt_fd X d zm_112 7 [(0, .ref 59), (1, .long x1), (3, .int x3), (4, .int x4)] [.int y0] h Q := by
  refine zz_J.n 9 rfl rfl rfl ?_
  refine zz_J.n 10 rfl rfl rfl ?_
  refine zz_J.n 12 rfl rfl rfl ?_
  exact zz_J.weak (k hR) rfl ⟨rfl, rfl, rfl, rfl, rfl, trivial⟩
theorem cb_112_12 {X : Nat → Option zz_C} {h : zz_H} {t : cS} {s : mS} {d : Nat} {Q : zz_O → zz_H → Prop} {x1 : Int64} {x4 : Int32} {x5 : Int32} {x6 : Int32} (hR : kR h t s) (k1 : x4 ≤ x6 → (∀ {h : zz_H}, kR h t s → zz_J zp_P zt_tf zt_fd X d zm_112 42 [(0, .ref 59), (5, .int x5)] [] h Q)) (k2 : ¬ x4 ≤ x6 → (∀ {h : zz_H}, kR h t s → zz_J zp_P zt_tf zt_fd X d zm_112 19 [(0, .ref 59), (1, .long x1), (4, .int x4), (5, .int x5), (6, .int x6)] [] h Q)) : zz_J zp_P zt_tf zt_fd X d zm_112 12 [(0, .ref 59), (1, .long x1), (4, .int x4), (5, .int x5), (6, .int x6)] [] h Q := by
  refine zz_J.n 14 rfl rfl rfl ?_
  refine zz_J.n 16 rfl rfl rfl ?_
  refine zz_J.b2 42 19 (A := x4 ≤ x6) rfl rfl (by decide) rfl rfl (fun c => ?_) (fun c => ?_)
  · exact zz_J.weak (k1 c hR) rfl ⟨rfl, rfl, trivial⟩
  · exact zz_J.weak (k2 c hR) rfl ⟨rfl, rfl, rfl, rfl, rfl, trivial⟩
theorem cb_112_19 {X : Nat → Option zz_C} {h : zz_H} {t : cS} {s : mS} {d : Nat} {Q : zz_O → zz_H → Prop} {x1 : Int64} {x4 : Int32} {x5 : Int32} {x6 : Int32} (hR : kR h t s) (k : ∀ {h : zz_H}, kR h t s → zz_J zp_P zt_tf zt_fd X d zm_129 0 [(0, .ref 42), (1, .long x1), (3, .int x6)] [] h (zz_after 2 Q (fun v h' => zz_J zp_P zt_tf zt_fd X (d + 1) zm_112 33 [(0, .ref 59), (1, .long x1), (4, .int x4), (5, .int x5), (6, .int x6)] (v.toList ++ [.ref 42]) h' Q))) : zz_J zp_P zt_tf zt_fd X (d + 1) zm_112 19 [(0, .ref 59), (1, .long x1), (4, .int x4), (5, .int x5), (6, .int x6)] [] h Q := by
  refine zz_J.n 20 rfl rfl rfl ?_
  refine zz_J.g 23 rfl (hR.gv (v := .ref 42) ko_59 (by decide) rfl) rfl ?_
  refine zz_J.n 24 rfl rfl rfl ?_
  refine zz_J.g 27 rfl (hR.gv (v := .ref 42) ko_59 (by decide) rfl) rfl ?_
  refine zz_J.n 28 rfl rfl rfl ?_
  refine zz_J.n 30 rfl rfl rfl ?_
  refine zz_J.cv 33 (as := [.ref 42]) rfl rfl (hR.clO ko_42 (by decide) (by decide)) (by decide) (Nat.le_of_ble_eq_true rfl) (Nat.le_of_ble_eq_true rfl) rfl (Nat.le_of_ble_eq_true rfl) rfl ?_
  refine zz_J.mono (k hR) ?_
  intro o h' hE
  cases o with
  | inl v => exact zz_J.weak hE rfl ⟨rfl, rfl, rfl, rfl, rfl, trivial⟩
  | inr q => exact hE
theorem cb_112_33 {X : Nat → Option zz_C} {h : zz_H} {t : cS} {s : mS} {d : Nat} {Q : zz_O → zz_H → Prop} {x1 : Int64} {x4 : Int32} {x5 : Int32} {x6 : Int32} {y1 : Int64} (hR : kR h t s) (k : ∀ {h : zz_H}, kR h t s → zz_J zp_P zt_tf zt_fd X d zm_123 0 [(0, .ref 42), (1, .long y1)] [] h (zz_after 2 Q (fun v h' => zz_J zp_P zt_tf zt_fd X (d + 1) zm_112 36 [(0, .ref 59), (1, .long x1), (4, .int x4), (5, .int x5), (6, .int x6)] (v.toList ++ []) h' Q))) : zz_J zp_P zt_tf zt_fd X (d + 1) zm_112 33 [(0, .ref 59), (1, .long x1), (4, .int x4), (5, .int x5), (6, .int x6)] [.long y1, .ref 42] h Q := by
  refine zz_J.cv 36 (as := []) rfl rfl (hR.clO ko_42 (by decide) (by decide)) (by decide) (Nat.le_of_ble_eq_true rfl) (Nat.le_of_ble_eq_true rfl) rfl (Nat.le_of_ble_eq_true rfl) rfl ?_
  refine zz_J.mono (k hR) ?_
  intro o h' hE
  cases o with
  | inl v => exact zz_J.weak hE rfl ⟨rfl, rfl, rfl, rfl, rfl, trivial⟩
  | inr q => exact hE
theorem cb_112_36 {X : Nat → Option zz_C} {h : zz_H} {t : cS} {s : mS} {d : Nat} {Q : zz_O → zz_H → Prop} {x1 : Int64} {x4 : Int32} {x5 : Int32} {x6 : Int32} (hR : kR h t s) (k : ∀ {h : zz_H}, kR h t s → zz_J zp_P zt_tf zt_fd X d zm_112 12 [(0, .ref 59), (1, .long x1), (4, .int x4), (5, .int x5), (6, .int (x6 + 1))] [] h Q) : zz_J zp_P zt_tf zt_fd X d zm_112 36 [(0, .ref 59), (1, .long x1), (4, .int x4), (5, .int x5), (6, .int x6)] [] h Q := by
  refine zz_J.n 39 rfl rfl rfl ?_
  refine zz_J.n 12 rfl rfl rfl ?_
  exact zz_J.weak (k hR) rfl ⟨rfl, rfl, rfl, rfl, rfl, trivial⟩
theorem cb_112_42 {X : Nat → Option zz_C} {h : zz_H} {t : cS} {s : mS} {d : Nat} {Q : zz_O → zz_H → Prop} {x5 : Int32} (hR : kR h t s) (k : ∀ {h : zz_H}, kR h t s → zz_J zp_P zt_tf zt_fd X d zm_126 0 [(0, .ref 42), (1, .int 1), (2, .int x5)] [] h (zz_after 2 Q (fun v h' => zz_J zp_P zt_tf zt_fd X (d + 1) zm_112 52 [] (v.toList ++ []) h' Q))) : zz_J zp_P zt_tf zt_fd X (d + 1) zm_112 42 [(0, .ref 59), (5, .int x5)] [] h Q := by
  refine zz_J.n 43 rfl rfl rfl ?_
  refine zz_J.g 46 rfl (hR.gv (v := .ref 42) ko_59 (by decide) rfl) rfl ?_
  refine zz_J.c 47 (.int 1) rfl rfl rfl rfl ?_
  refine zz_J.n 49 rfl rfl rfl ?_
  refine zz_J.cv 52 (as := []) rfl rfl (hR.clO ko_42 (by decide) (by decide)) (by decide) (Nat.le_of_ble_eq_true rfl) (Nat.le_of_ble_eq_true rfl) rfl (Nat.le_of_ble_eq_true rfl) rfl ?_
  refine zz_J.mono (k hR) ?_
  intro o h' hE
  cases o with
  | inl v => exact zz_J.weak hE rfl trivial
  | inr q => exact hE
theorem cb_112_52 {X : Nat → Option zz_C} {h : zz_H} {t : cS} {s : mS} {d : Nat} {Q : zz_O → zz_H → Prop} {y0 : Int64} (hR : kR h t s) (k : ∀ {h : zz_H}, kR h t s → Q (.inl (some (.long y0))) h) : zz_J zp_P zt_tf zt_fd X d zm_112 52 [] [.long y0] h Q := by
  refine zz_J.ret rfl rfl rfl ?_
  exact k hR
def cf_112_52 (N : Nat) (X : Nat → Option zz_C) (y0 : Int64) (t : cS) : kO := some (t, .inl (some (.long y0)))
theorem cr_112_52 {X : Nat → Option zz_C} {s : mS} {N : Nat} {d : Nat} (hd : 10 ≤ d) {Q : zz_O → zz_H → Prop} {y0 : Int64} {h : zz_H} {t t' : cS} {o : kY} (hR : kR h t s) (hf : cf_112_52 N X y0 t = some (t', o)) (k : (∀ h', kR h' t' s → kE o Q h')) : zz_J zp_P zt_tf zt_fd X d zm_112 52 [] [.long y0] h Q := by
  unfold cf_112_52 at hf
  cases hf
  exact cb_112_52 hR  (fun {h} hR => k h hR)
def cf_112_42 (N : Nat) (X : Nat → Option zz_C) (x5 : Int32) (t : cS) : kO := ko_call 2 (cf_126 N X 1 x5 t) (fun g1 v1 => co_l v1 (fun y => cf_112_52 N X y g1))
theorem cr_112_42 {X : Nat → Option zz_C} {s : mS} {N : Nat} {d : Nat} (hd : 10 ≤ d) {Q : zz_O → zz_H → Prop} {x5 : Int32} {h : zz_H} {t t' : cS} {o : kY} (hR : kR h t s) (hf : cf_112_42 N X x5 t = some (t', o)) (k : (∀ h', kR h' t' s → kE o Q h')) : zz_J zp_P zt_tf zt_fd X d zm_112 42 [(0, .ref 59), (5, .int x5)] [] h Q := by
  unfold cf_112_42 at hf
  obtain ⟨d', rfl⟩ : ∃ d', d = d' + 1 := ⟨d - 1, by omega⟩
  refine cb_112_42 hR  (fun {h} hR => ?_)
  rcases ko_call_ok hf with ⟨g1, v1, er, hf⟩ | ⟨g1, er, hq⟩
  · obtain ⟨y, hv, hf2⟩ := co_l_ok hf
    clear hf
    have hf := hf2
    clear hf2
    subst hv
    refine cr_126 (by omega) hR er (fun h hR => ?_)
    exact cr_112_52 hd hR hf k
  · refine cr_126 (by omega) hR er (fun h hR => ?_)
    exact ko_thrown hq hR k
def cf_112_36 (N : Nat) (X : Nat → Option zz_C) (rc : Nat → Int64 → Int32 → Int32 → Int32 → cS → kO) (x1 : Int64) (x4 : Int32) (x5 : Int32) (x6 : Int32) (t : cS) : kO := rc 0 x1 x4 x5 (x6 + 1) t
theorem cr_112_36 {X : Nat → Option zz_C} {s : mS} {N : Nat} {d : Nat} (hd : 10 ≤ d) {rc : Nat → Int64 → Int32 → Int32 → Int32 → cS → kO} (hrc0 : ∀ {Q : zz_O → zz_H → Prop} {x1 : Int64} {x4 : Int32} {x5 : Int32} {x6 : Int32} {h : zz_H} {t t' : cS} {o : kY}, kR h t s → rc 0 x1 x4 x5 x6 t = some (t', o) → (∀ h', kR h' t' s → kE o Q h') → zz_J zp_P zt_tf zt_fd X d zm_112 12 [(0, .ref 59), (1, .long x1), (4, .int x4), (5, .int x5), (6, .int x6)] [] h Q) {Q : zz_O → zz_H → Prop} {x1 : Int64} {x4 : Int32} {x5 : Int32} {x6 : Int32} {h : zz_H} {t t' : cS} {o : kY} (hR : kR h t s) (hf : cf_112_36 N X rc x1 x4 x5 x6 t = some (t', o)) (k : (∀ h', kR h' t' s → kE o Q h')) : zz_J zp_P zt_tf zt_fd X d zm_112 36 [(0, .ref 59), (1, .long x1), (4, .int x4), (5, .int x5), (6, .int x6)] [] h Q := by
  unfold cf_112_36 at hf
  exact cb_112_36 hR  (fun hR => hrc0 hR hf k)
def cf_112_33 (N : Nat) (X : Nat → Option zz_C) (rc : Nat → Int64 → Int32 → Int32 → Int32 → cS → kO) (x1 : Int64) (x4 : Int32) (x5 : Int32) (x6 : Int32) (y1 : Int64) (t : cS) : kO := ko_call 2 (cf_123 N X y1 t) (fun g1 v1 => co_v v1 (cf_112_36 N X rc x1 x4 x5 x6 g1))
theorem cr_112_33 {X : Nat → Option zz_C} {s : mS} {N : Nat} {d : Nat} (hd : 10 ≤ d) {rc : Nat → Int64 → Int32 → Int32 → Int32 → cS → kO} (hrc0 : ∀ {Q : zz_O → zz_H → Prop} {x1 : Int64} {x4 : Int32} {x5 : Int32} {x6 : Int32} {h : zz_H} {t t' : cS} {o : kY}, kR h t s → rc 0 x1 x4 x5 x6 t = some (t', o) → (∀ h', kR h' t' s → kE o Q h') → zz_J zp_P zt_tf zt_fd X d zm_112 12 [(0, .ref 59), (1, .long x1), (4, .int x4), (5, .int x5), (6, .int x6)] [] h Q) {Q : zz_O → zz_H → Prop} {x1 : Int64} {x4 : Int32} {x5 : Int32} {x6 : Int32} {y1 : Int64} {h : zz_H} {t t' : cS} {o : kY} (hR : kR h t s) (hf : cf_112_33 N X rc x1 x4 x5 x6 y1 t = some (t', o)) (k : (∀ h', kR h' t' s → kE o Q h')) : zz_J zp_P zt_tf zt_fd X d zm_112 33 [(0, .ref 59), (1, .long x1), (4, .int x4), (5, .int x5), (6, .int x6)] [.long y1, .ref 42] h Q := by
  unfold cf_112_33 at hf
  obtain ⟨d', rfl⟩ : ∃ d', d = d' + 1 := ⟨d - 1, by omega⟩
  refine cb_112_33 hR  (fun {h} hR => ?_)
  rcases ko_call_ok hf with ⟨g1, v1, er, hf⟩ | ⟨g1, er, hq⟩
  · obtain ⟨hv, hf2⟩ := co_v_ok hf
    clear hf
    have hf := hf2
    clear hf2
    subst hv
    refine cr_123 (by omega) hR er (fun h hR => ?_)
    exact cr_112_36 hd hrc0 hR hf k
  · refine cr_123 (by omega) hR er (fun h hR => ?_)
    exact ko_thrown hq hR k
def cf_112_19 (N : Nat) (X : Nat → Option zz_C) (rc : Nat → Int64 → Int32 → Int32 → Int32 → cS → kO) (x1 : Int64) (x4 : Int32) (x5 : Int32) (x6 : Int32) (t : cS) : kO := ko_call 2 (cf_129 N X x1 x6 t) (fun g1 v1 => co_l v1 (fun y => cf_112_33 N X rc x1 x4 x5 x6 y g1))
theorem cr_112_19 {X : Nat → Option zz_C} {s : mS} {N : Nat} {d : Nat} (hd : 10 ≤ d) {rc : Nat → Int64 → Int32 → Int32 → Int32 → cS → kO} (hrc0 : ∀ {Q : zz_O → zz_H → Prop} {x1 : Int64} {x4 : Int32} {x5 : Int32} {x6 : Int32} {h : zz_H} {t t' : cS} {o : kY}, kR h t s → rc 0 x1 x4 x5 x6 t = some (t', o) → (∀ h', kR h' t' s → kE o Q h') → zz_J zp_P zt_tf zt_fd X d zm_112 12 [(0, .ref 59), (1, .long x1), (4, .int x4), (5, .int x5), (6, .int x6)] [] h Q) {Q : zz_O → zz_H → Prop} {x1 : Int64} {x4 : Int32} {x5 : Int32} {x6 : Int32} {h : zz_H} {t t' : cS} {o : kY} (hR : kR h t s) (hf : cf_112_19 N X rc x1 x4 x5 x6 t = some (t', o)) (k : (∀ h', kR h' t' s → kE o Q h')) : zz_J zp_P zt_tf zt_fd X d zm_112 19 [(0, .ref 59), (1, .long x1), (4, .int x4), (5, .int x5), (6, .int x6)] [] h Q := by
  unfold cf_112_19 at hf
  obtain ⟨d', rfl⟩ : ∃ d', d = d' + 1 := ⟨d - 1, by omega⟩
  refine cb_112_19 hR  (fun {h} hR => ?_)
  rcases ko_call_ok hf with ⟨g1, v1, er, hf⟩ | ⟨g1, er, hq⟩
  · obtain ⟨y, hv, hf2⟩ := co_l_ok hf
    clear hf
    have hf := hf2
    clear hf2
    subst hv
    refine cr_129 (by omega) hR er (fun h hR => ?_)
    exact cr_112_33 hd hrc0 hR hf k
  · refine cr_129 (by omega) hR er (fun h hR => ?_)
    exact ko_thrown hq hR k
def cf_112_12 (N : Nat) (X : Nat → Option zz_C) (rc : Nat → Int64 → Int32 → Int32 → Int32 → cS → kO) (x1 : Int64) (x4 : Int32) (x5 : Int32) (x6 : Int32) (t : cS) : kO := if x4 ≤ x6 then cf_112_42 N X x5 t else cf_112_19 N X rc x1 x4 x5 x6 t
theorem cr_112_12 {X : Nat → Option zz_C} {s : mS} {N : Nat} {d : Nat} (hd : 10 ≤ d) {rc : Nat → Int64 → Int32 → Int32 → Int32 → cS → kO} (hrc0 : ∀ {Q : zz_O → zz_H → Prop} {x1 : Int64} {x4 : Int32} {x5 : Int32} {x6 : Int32} {h : zz_H} {t t' : cS} {o : kY}, kR h t s → rc 0 x1 x4 x5 x6 t = some (t', o) → (∀ h', kR h' t' s → kE o Q h') → zz_J zp_P zt_tf zt_fd X d zm_112 12 [(0, .ref 59), (1, .long x1), (4, .int x4), (5, .int x5), (6, .int x6)] [] h Q) {Q : zz_O → zz_H → Prop} {x1 : Int64} {x4 : Int32} {x5 : Int32} {x6 : Int32} {h : zz_H} {t t' : cS} {o : kY} (hR : kR h t s) (hf : cf_112_12 N X rc x1 x4 x5 x6 t = some (t', o)) (k : (∀ h', kR h' t' s → kE o Q h')) : zz_J zp_P zt_tf zt_fd X d zm_112 12 [(0, .ref 59), (1, .long x1), (4, .int x4), (5, .int x5), (6, .int x6)] [] h Q := by
  unfold cf_112_12 at hf
  refine cb_112_12 hR  (fun c {h} hR => ?_) (fun c {h} hR => ?_)
  · rw [if_pos c] at hf
    exact cr_112_42 hd hR hf k
  · rw [if_neg c] at hf
    exact cr_112_19 hd hrc0 hR hf k
def cf_112_L2 (N : Nat) (X : Nat → Option zz_C) : Nat → Nat → Int64 → Int32 → Int32 → Int32 → cS → kO
  | 0, _, _, _, _, _, _ => none
  | n + 1, l, x1, x4, x5, x6, t => if l = 0 then cf_112_12 N X (cf_112_L2 N X n) x1 x4 x5 x6 t else none
theorem cr_112_L2 {X : Nat → Option zz_C} {s : mS} {N : Nat} {d : Nat} (hd : 10 ≤ d) : ∀ n : Nat, (∀ {Q : zz_O → zz_H → Prop} {x1 : Int64} {x4 : Int32} {x5 : Int32} {x6 : Int32} {h : zz_H} {t t' : cS} {o : kY}, kR h t s → cf_112_L2 N X n 0 x1 x4 x5 x6 t = some (t', o) → (∀ h', kR h' t' s → kE o Q h') → zz_J zp_P zt_tf zt_fd X d zm_112 12 [(0, .ref 59), (1, .long x1), (4, .int x4), (5, .int x5), (6, .int x6)] [] h Q) := by
  intro n
  induction n with
  | zero => exact (fun _ hf _ => by cases hf)
  | succ n ih =>
    have h0 := @ih
    intro Q _ _ _ _ h t t' o hR hf k
    unfold cf_112_L2 at hf
    rw [if_pos rfl] at hf
    exact cr_112_12 hd h0 hR hf k
def cf_112_7 (N : Nat) (X : Nat → Option zz_C) (x1 : Int64) (x3 : Int32) (x4 : Int32) (y0 : Int32) (t : cS) : kO := cf_112_L2 N X N 0 x1 x4 y0 x3 t
theorem cr_112_7 {X : Nat → Option zz_C} {s : mS} {N : Nat} {d : Nat} (hd : 10 ≤ d) {Q : zz_O → zz_H → Prop} {x1 : Int64} {x3 : Int32} {x4 : Int32} {y0 : Int32} {h : zz_H} {t t' : cS} {o : kY} (hR : kR h t s) (hf : cf_112_7 N X x1 x3 x4 y0 t = some (t', o)) (k : (∀ h', kR h' t' s → kE o Q h')) : zz_J zp_P zt_tf zt_fd X d zm_112 7 [(0, .ref 59), (1, .long x1), (3, .int x3), (4, .int x4)] [.int y0] h Q := by
  unfold cf_112_7 at hf
  exact cb_112_7 hR  (fun hR => cr_112_L2 hd N hR hf k)
def cf_112_0 (N : Nat) (X : Nat → Option zz_C) (x1 : Int64) (x3 : Int32) (x4 : Int32) (t : cS) : kO := ko_call 2 (cf_122 N X  t) (fun g1 v1 => co_i v1 (fun y => cf_112_7 N X x1 x3 x4 y g1))
theorem cr_112_0 {X : Nat → Option zz_C} {s : mS} {N : Nat} {d : Nat} (hd : 10 ≤ d) {Q : zz_O → zz_H → Prop} {x1 : Int64} {x3 : Int32} {x4 : Int32} {h : zz_H} {t t' : cS} {o : kY} (hR : kR h t s) (hf : cf_112_0 N X x1 x3 x4 t = some (t', o)) (k : (∀ h', kR h' t' s → kE o Q h')) : zz_J zp_P zt_tf zt_fd X d zm_112 0 [(0, .ref 59), (1, .long x1), (3, .int x3), (4, .int x4)] [] h Q := by
  unfold cf_112_0 at hf
  obtain ⟨d', rfl⟩ : ∃ d', d = d' + 1 := ⟨d - 1, by omega⟩
  refine cb_112_0 hR  (fun {h} hR => ?_)
  rcases ko_call_ok hf with ⟨g1, v1, er, hf⟩ | ⟨g1, er, hq⟩
  · obtain ⟨y, hv, hf2⟩ := co_i_ok hf
    clear hf
    have hf := hf2
    clear hf2
    subst hv
    refine cr_122 (by omega) hR er (fun h hR => ?_)
    exact cr_112_7 hd hR hf k
  · refine cr_122 (by omega) hR er (fun h hR => ?_)
    exact ko_thrown hq hR k
/-- stretch -/
def cf_112 (N : Nat) (X : Nat → Option zz_C) (x1 : Int64) (x3 : Int32) (x4 : Int32) (t : cS) : kO := cf_112_0 N X x1 x3 x4 t
theorem cr_112 {X : Nat → Option zz_C} {s : mS} {N : Nat} {d : Nat} (hd : 10 ≤ d) {Q : zz_O → zz_H → Prop} {x1 : Int64} {x3 : Int32} {x4 : Int32} {h : zz_H} {t t' : cS} {o : kY} (hR : kR h t s) (hf : cf_112 N X x1 x3 x4 t = some (t', o)) (k : ∀ h', kR h' t' s → kE o Q h') : zz_J zp_P zt_tf zt_fd X d zm_112 0 [(0, .ref 59), (1, .long x1), (3, .int x3), (4, .int x4)] [] h Q := by
  unfold cf_112 at hf
  exact zz_J.weak (cr_112_0 hd hR hf k) rfl ⟨rfl, rfl, rfl, rfl, trivial⟩
