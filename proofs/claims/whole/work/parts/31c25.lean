/-! yX1_cut (JJ)J -/
theorem cb_111_0 {X : Nat → Option zz_C} {h : zz_H} {t : cS} {s : mS} {d : Nat} {Q : zz_O → zz_H → Prop} {x1 : Int64} {x3 : Int64} (hR : kR h t s) (k : ∀ {h : zz_H}, kR h t s → zz_J zp_P zt_tf zt_fd X d zm_255 0 [(0, .long x1)] [] h (zz_after 1000 Q (fun v h' => zz_J zp_P zt_tf zt_fd X (d + 1) zm_111 4 [(0, .ref 59), (1, .long x1), (3, .long x3)] (v.toList ++ []) h' Q))) : zz_J zp_P zt_tf zt_fd X (d + 1) zm_111 0 [(0, .ref 59), (1, .long x1), (3, .long x3)] [] h Q := by
  refine zz_J.n 1 rfl rfl rfl ?_
  refine zz_J.cl (M' := zm_255) 4 rfl rfl (by decide) rfl rfl ⟨rfl, Nat.le_of_ble_eq_true rfl⟩ rfl ?_
  refine zz_J.mono (k hR) ?_
  intro o h' hE
  cases o with
  | inl v => exact zz_J.weak hE rfl ⟨rfl, rfl, rfl, trivial⟩
  | inr q => exact hE
theorem cb_111_4 {X : Nat → Option zz_C} {h : zz_H} {t : cS} {s : mS} {d : Nat} {Q : zz_O → zz_H → Prop} {x1 : Int64} {x3 : Int64} {y0 : Int32} (hR : kR h t s) (k1 : ¬ y0 = 1 → (∀ {h : zz_H}, kR h t s → zz_J zp_P zt_tf zt_fd X d zm_111 16 [] [] h Q)) (k2 : ¬ ¬ y0 = 1 → (∀ {h : zz_H}, kR h t s → zz_J zp_P zt_tf zt_fd X d zm_111 8 [(0, .ref 59), (1, .long x1), (3, .long x3)] [] h Q)) : zz_J zp_P zt_tf zt_fd X d zm_111 4 [(0, .ref 59), (1, .long x1), (3, .long x3)] [.int y0] h Q := by
  refine zz_J.c 5 (.int 1) rfl rfl rfl rfl ?_
  refine zz_J.b2 16 8 (A := ¬ y0 = 1) rfl (zz_cond_ne _ _) (by decide) rfl rfl (fun c => ?_) (fun c => ?_)
  · exact zz_J.weak (k1 c hR) rfl trivial
  · exact zz_J.weak (k2 c hR) rfl ⟨rfl, rfl, rfl, trivial⟩
theorem cb_111_8 {X : Nat → Option zz_C} {h : zz_H} {t : cS} {s : mS} {d : Nat} {Q : zz_O → zz_H → Prop} {x1 : Int64} {x3 : Int64} (hR : kR h t s) (k : ∀ {h : zz_H}, kR h t s → zz_J zp_P zt_tf zt_fd X d zm_255 0 [(0, .long x3)] [] h (zz_after 1000 Q (fun v h' => zz_J zp_P zt_tf zt_fd X (d + 1) zm_111 12 [(0, .ref 59), (1, .long x1), (3, .long x3)] (v.toList ++ []) h' Q))) : zz_J zp_P zt_tf zt_fd X (d + 1) zm_111 8 [(0, .ref 59), (1, .long x1), (3, .long x3)] [] h Q := by
  refine zz_J.n 9 rfl rfl rfl ?_
  refine zz_J.cl (M' := zm_255) 12 rfl rfl (by decide) rfl rfl ⟨rfl, Nat.le_of_ble_eq_true rfl⟩ rfl ?_
  refine zz_J.mono (k hR) ?_
  intro o h' hE
  cases o with
  | inl v => exact zz_J.weak hE rfl ⟨rfl, rfl, rfl, trivial⟩
  | inr q => exact hE
theorem cb_111_12 {X : Nat → Option zz_C} {h : zz_H} {t : cS} {s : mS} {d : Nat} {Q : zz_O → zz_H → Prop} {x1 : Int64} {x3 : Int64} {y0 : Int32} (hR : kR h t s) (k1 : y0 = 1 → (∀ {h : zz_H}, kR h t s → zz_J zp_P zt_tf zt_fd X d zm_111 21 [(0, .ref 59), (1, .long x1), (3, .long x3)] [] h Q)) (k2 : ¬ y0 = 1 → (∀ {h : zz_H}, kR h t s → zz_J zp_P zt_tf zt_fd X d zm_111 16 [] [] h Q)) : zz_J zp_P zt_tf zt_fd X d zm_111 12 [(0, .ref 59), (1, .long x1), (3, .long x3)] [.int y0] h Q := by
  refine zz_J.c 13 (.int 1) rfl rfl rfl rfl ?_
  refine zz_J.b2 21 16 (A := y0 = 1) rfl rfl (by decide) rfl rfl (fun c => ?_) (fun c => ?_)
  · exact zz_J.weak (k1 c hR) rfl ⟨rfl, rfl, rfl, trivial⟩
  · exact zz_J.weak (k2 c hR) rfl trivial
theorem cb_111_16 {X : Nat → Option zz_C} {h : zz_H} {t : cS} {s : mS} {d : Nat} {Q : zz_O → zz_H → Prop}  (hR : kR h t s) (k : ∀ {h : zz_H}, kR h t s → zz_J zp_P zt_tf zt_fd X d zm_254 0 [(0, .int 3)] [] h (zz_after 1000 Q (fun v h' => zz_J zp_P zt_tf zt_fd X (d + 1) zm_111 20 [] (v.toList ++ []) h' Q))) : zz_J zp_P zt_tf zt_fd X (d + 1) zm_111 16 [] [] h Q := by
  refine zz_J.c 17 (.int 3) rfl rfl rfl rfl ?_
  refine zz_J.cl (M' := zm_254) 20 rfl rfl (by decide) rfl rfl ⟨rfl, Nat.le_of_ble_eq_true rfl⟩ rfl ?_
  refine zz_J.mono (k hR) ?_
  intro o h' hE
  cases o with
  | inl v => exact zz_J.weak hE rfl trivial
  | inr q => exact hE
theorem cb_111_20 {X : Nat → Option zz_C} {h : zz_H} {t : cS} {s : mS} {d : Nat} {Q : zz_O → zz_H → Prop} {y0 : Int64} (hR : kR h t s) (k : ∀ {h : zz_H}, kR h t s → Q (.inl (some (.long y0))) h) : zz_J zp_P zt_tf zt_fd X d zm_111 20 [] [.long y0] h Q := by
  refine zz_J.ret rfl rfl rfl ?_
  exact k hR
theorem cb_111_21 {X : Nat → Option zz_C} {h : zz_H} {t : cS} {s : mS} {d : Nat} {Q : zz_O → zz_H → Prop} {x1 : Int64} {x3 : Int64} (hR : kR h t s) (k : ∀ {h : zz_H}, kR h t s → zz_J zp_P zt_tf zt_fd X d zm_128 0 [(0, .ref 42), (1, .long x3)] [] h (zz_after 2 Q (fun v h' => zz_J zp_P zt_tf zt_fd X (d + 1) zm_111 29 [(0, .ref 59), (1, .long x1), (3, .long x3)] (v.toList ++ []) h' Q))) : zz_J zp_P zt_tf zt_fd X (d + 1) zm_111 21 [(0, .ref 59), (1, .long x1), (3, .long x3)] [] h Q := by
  refine zz_J.n 22 rfl rfl rfl ?_
  refine zz_J.g 25 rfl (hR.gv (v := .ref 42) ko_59 (by decide) rfl) rfl ?_
  refine zz_J.n 26 rfl rfl rfl ?_
  refine zz_J.cv 29 (as := []) rfl rfl (hR.clO ko_42 (by decide) (by decide)) (by decide) (Nat.le_of_ble_eq_true rfl) (Nat.le_of_ble_eq_true rfl) rfl (Nat.le_of_ble_eq_true rfl) rfl ?_
  refine zz_J.mono (k hR) ?_
  intro o h' hE
  cases o with
  | inl v => exact zz_J.weak hE rfl ⟨rfl, rfl, rfl, trivial⟩
  | inr q => exact hE
theorem cb_111_29 {X : Nat → Option zz_C} {h : zz_H} {t : cS} {s : mS} {d : Nat} {Q : zz_O → zz_H → Prop} {x1 : Int64} {x3 : Int64} {y0 : Int32} (hR : kR h t s) (k : ∀ {h : zz_H}, kR h t s → zz_J zp_P zt_tf zt_fd X d zm_111 40 [(0, .ref 59), (1, .long x1), (3, .long x3), (5, .int y0), (6, .int 0), (7, .long 0), (9, .int 0)] [] h Q) : zz_J zp_P zt_tf zt_fd X d zm_111 29 [(0, .ref 59), (1, .long x1), (3, .long x3)] [.int y0] h Q := by
  refine zz_J.n 31 rfl rfl rfl ?_
  refine zz_J.c 32 (.int 0) rfl rfl rfl rfl ?_
  refine zz_J.n 34 rfl rfl rfl ?_
  refine zz_J.c 35 (.long 0) rfl rfl rfl rfl ?_
  refine zz_J.n 37 rfl rfl rfl ?_
  refine zz_J.c 38 (.int 0) rfl rfl rfl rfl ?_
  refine zz_J.n 40 rfl rfl rfl ?_
  exact zz_J.weak (k hR) rfl ⟨rfl, rfl, rfl, rfl, rfl, rfl, rfl, trivial⟩
theorem cb_111_40 {X : Nat → Option zz_C} {h : zz_H} {t : cS} {s : mS} {d : Nat} {Q : zz_O → zz_H → Prop} {x1 : Int64} {x3 : Int64} {x5 : Int32} {x6 : Int32} {x7 : Int64} {x9 : Int32} (hR : kR h t s) (k1 : x5 ≤ x9 → (∀ {h : zz_H}, kR h t s → zz_J zp_P zt_tf zt_fd X d zm_111 86 [(0, .ref 59), (1, .long x1), (3, .long x3), (5, .int x5), (6, .int x6), (7, .long x7)] [] h Q)) (k2 : ¬ x5 ≤ x9 → (∀ {h : zz_H}, kR h t s → zz_J zp_P zt_tf zt_fd X d zm_111 47 [(0, .ref 59), (1, .long x1), (3, .long x3), (5, .int x5), (6, .int x6), (7, .long x7), (9, .int x9)] [] h Q)) : zz_J zp_P zt_tf zt_fd X d zm_111 40 [(0, .ref 59), (1, .long x1), (3, .long x3), (5, .int x5), (6, .int x6), (7, .long x7), (9, .int x9)] [] h Q := by
  refine zz_J.n 42 rfl rfl rfl ?_
  refine zz_J.n 44 rfl rfl rfl ?_
  refine zz_J.b2 86 47 (A := x5 ≤ x9) rfl rfl (by decide) rfl rfl (fun c => ?_) (fun c => ?_)
  · exact zz_J.weak (k1 c hR) rfl ⟨rfl, rfl, rfl, rfl, rfl, rfl, trivial⟩
  · exact zz_J.weak (k2 c hR) rfl ⟨rfl, rfl, rfl, rfl, rfl, rfl, rfl, trivial⟩
theorem cb_111_47 {X : Nat → Option zz_C} {h : zz_H} {t : cS} {s : mS} {d : Nat} {Q : zz_O → zz_H → Prop} {x1 : Int64} {x3 : Int64} {x5 : Int32} {x6 : Int32} {x7 : Int64} {x9 : Int32} (hR : kR h t s) (k : ∀ {h : zz_H}, kR h t s → zz_J zp_P zt_tf zt_fd X d zm_130 0 [(0, .ref 42), (1, .long x3), (3, .int x9)] [] h (zz_after 2 Q (fun v h' => zz_J zp_P zt_tf zt_fd X (d + 1) zm_111 59 [(0, .ref 59), (1, .long x1), (3, .long x3), (5, .int x5), (7, .long x7), (9, .int x9)] (v.toList ++ [.int x6]) h' Q))) : zz_J zp_P zt_tf zt_fd X (d + 1) zm_111 47 [(0, .ref 59), (1, .long x1), (3, .long x3), (5, .int x5), (6, .int x6), (7, .long x7), (9, .int x9)] [] h Q := by
  refine zz_J.n 49 rfl rfl rfl ?_
  refine zz_J.n 50 rfl rfl rfl ?_
  refine zz_J.g 53 rfl (hR.gv (v := .ref 42) ko_59 (by decide) rfl) rfl ?_
  refine zz_J.n 54 rfl rfl rfl ?_
  refine zz_J.n 56 rfl rfl rfl ?_
  refine zz_J.cv 59 (as := [.int x6]) rfl rfl (hR.clO ko_42 (by decide) (by decide)) (by decide) (Nat.le_of_ble_eq_true rfl) (Nat.le_of_ble_eq_true rfl) rfl (Nat.le_of_ble_eq_true rfl) rfl ?_
  refine zz_J.mono (k hR) ?_
  intro o h' hE
  cases o with
  | inl v => exact zz_J.weak hE rfl ⟨rfl, rfl, rfl, rfl, rfl, rfl, trivial⟩
  | inr q => exact hE
theorem cb_111_59 {X : Nat → Option zz_C} {h : zz_H} {t : cS} {s : mS} {d : Nat} {Q : zz_O → zz_H → Prop} {x1 : Int64} {x3 : Int64} {x5 : Int32} {x7 : Int64} {x9 : Int32} {y0 : Int32} {y1 : Int32} (hR : kR h t s) (k : ∀ {h : zz_H}, kR h t s → zz_J zp_P zt_tf zt_fd X d zm_130 0 [(0, .ref 42), (1, .long x3), (3, .int x9)] [] h (zz_after 2 Q (fun v h' => zz_J zp_P zt_tf zt_fd X (d + 1) zm_111 76 [(0, .ref 59), (1, .long x1), (3, .long x3), (5, .int x5), (6, .int (if y1 < (y0 : Int32) then y1 else y0)), (9, .int x9)] (v.toList ++ [.long x7]) h' Q))) : zz_J zp_P zt_tf zt_fd X (d + 1) zm_111 59 [(0, .ref 59), (1, .long x1), (3, .long x3), (5, .int x5), (7, .long x7), (9, .int x9)] [.int y1, .int y0] h Q := by
  refine zz_J.spec 62 rfl rfl (by decide) rfl rfl rfl ?_
  refine zz_J.n 64 rfl rfl rfl ?_
  refine zz_J.n 66 rfl rfl rfl ?_
  refine zz_J.n 67 rfl rfl rfl ?_
  refine zz_J.g 70 rfl (hR.gv (v := .ref 42) ko_59 (by decide) rfl) rfl ?_
  refine zz_J.n 71 rfl rfl rfl ?_
  refine zz_J.n 73 rfl rfl rfl ?_
  refine zz_J.cv 76 (as := [.long x7]) rfl rfl (hR.clO ko_42 (by decide) (by decide)) (by decide) (Nat.le_of_ble_eq_true rfl) (Nat.le_of_ble_eq_true rfl) rfl (Nat.le_of_ble_eq_true rfl) rfl ?_
  refine zz_J.mono (k hR) ?_
  intro o h' hE
  cases o with
  | inl v => exact zz_J.weak hE rfl ⟨rfl, rfl, rfl, rfl, rfl, rfl, trivial⟩
  | inr q => exact hE
theorem cb_111_76 {X : Nat → Option zz_C} {h : zz_H} {t : cS} {s : mS} {d : Nat} {Q : zz_O → zz_H → Prop} {x1 : Int64} {x3 : Int64} {x5 : Int32} {x6 : Int32} {x9 : Int32} {y0 : Int64} {y1 : Int32} (hR : kR h t s) (k : ∀ {h : zz_H}, kR h t s → zz_J zp_P zt_tf zt_fd X d zm_111 40 [(0, .ref 59), (1, .long x1), (3, .long x3), (5, .int x5), (6, .int x6), (7, .long (y0 + (Int32.toInt64 y1))), (9, .int (x9 + 1))] [] h Q) : zz_J zp_P zt_tf zt_fd X d zm_111 76 [(0, .ref 59), (1, .long x1), (3, .long x3), (5, .int x5), (6, .int x6), (9, .int x9)] [.int y1, .long y0] h Q := by
  refine zz_J.n 77 rfl rfl rfl ?_
  refine zz_J.n 78 rfl rfl rfl ?_
  refine zz_J.n 80 rfl rfl rfl ?_
  refine zz_J.n 83 rfl rfl rfl ?_
  refine zz_J.n 40 rfl rfl rfl ?_
  exact zz_J.weak (k hR) rfl ⟨rfl, rfl, rfl, rfl, rfl, rfl, rfl, trivial⟩
theorem cb_111_86 {X : Nat → Option zz_C} {h : zz_H} {t : cS} {s : mS} {d : Nat} {Q : zz_O → zz_H → Prop} {x1 : Int64} {x3 : Int64} {x5 : Int32} {x6 : Int32} {x7 : Int64} (hR : kR h t s) (k1 : x5 ≤ 20 → (∀ {h : zz_H}, kR h t s → zz_J zp_P zt_tf zt_fd X d zm_111 98 [(0, .ref 59), (1, .long x1), (3, .long x3), (5, .int x5), (6, .int x6), (7, .long x7)] [] h Q)) (k2 : ¬ x5 ≤ 20 → (∀ {h : zz_H}, kR h t s → zz_J zp_P zt_tf zt_fd X d zm_111 93 [] [] h Q)) : zz_J zp_P zt_tf zt_fd X d zm_111 86 [(0, .ref 59), (1, .long x1), (3, .long x3), (5, .int x5), (6, .int x6), (7, .long x7)] [] h Q := by
  refine zz_J.n 88 rfl rfl rfl ?_
  refine zz_J.c 90 (.int 20) rfl rfl rfl rfl ?_
  refine zz_J.b2 98 93 (A := x5 ≤ 20) rfl rfl (by decide) rfl rfl (fun c => ?_) (fun c => ?_)
  · exact zz_J.weak (k1 c hR) rfl ⟨rfl, rfl, rfl, rfl, rfl, rfl, trivial⟩
  · exact zz_J.weak (k2 c hR) rfl trivial
theorem cb_111_93 {X : Nat → Option zz_C} {h : zz_H} {t : cS} {s : mS} {d : Nat} {Q : zz_O → zz_H → Prop}  (hR : kR h t s) (k : ∀ {h : zz_H}, kR h t s → zz_J zp_P zt_tf zt_fd X d zm_254 0 [(0, .int 2)] [] h (zz_after 1000 Q (fun v h' => zz_J zp_P zt_tf zt_fd X (d + 1) zm_111 97 [] (v.toList ++ []) h' Q))) : zz_J zp_P zt_tf zt_fd X (d + 1) zm_111 93 [] [] h Q := by
  refine zz_J.c 94 (.int 2) rfl rfl rfl rfl ?_
  refine zz_J.cl (M' := zm_254) 97 rfl rfl (by decide) rfl rfl ⟨rfl, Nat.le_of_ble_eq_true rfl⟩ rfl ?_
  refine zz_J.mono (k hR) ?_
  intro o h' hE
  cases o with
  | inl v => exact zz_J.weak hE rfl trivial
  | inr q => exact hE
theorem cb_111_97 {X : Nat → Option zz_C} {h : zz_H} {t : cS} {s : mS} {d : Nat} {Q : zz_O → zz_H → Prop} {y0 : Int64} (hR : kR h t s) (k : ∀ {h : zz_H}, kR h t s → Q (.inl (some (.long y0))) h) : zz_J zp_P zt_tf zt_fd X d zm_111 97 [] [.long y0] h Q := by
  refine zz_J.ret rfl rfl rfl ?_
  exact k hR
theorem cb_111_98 {X : Nat → Option zz_C} {h : zz_H} {t : cS} {s : mS} {d : Nat} {Q : zz_O → zz_H → Prop} {x1 : Int64} {x3 : Int64} {x5 : Int32} {x6 : Int32} {x7 : Int64} (hR : kR h t s) (k1 : 0 ≤ x6 → (∀ {h : zz_H}, kR h t s → zz_J zp_P zt_tf zt_fd X d zm_111 108 [(0, .ref 59), (1, .long x1), (3, .long x3), (5, .int x5), (7, .long x7)] [] h Q)) (k2 : ¬ 0 ≤ x6 → (∀ {h : zz_H}, kR h t s → zz_J zp_P zt_tf zt_fd X d zm_111 103 [] [] h Q)) : zz_J zp_P zt_tf zt_fd X d zm_111 98 [(0, .ref 59), (1, .long x1), (3, .long x3), (5, .int x5), (6, .int x6), (7, .long x7)] [] h Q := by
  refine zz_J.n 100 rfl rfl rfl ?_
  refine zz_J.b1 108 103 (A := 0 ≤ x6) rfl rfl (by decide) rfl rfl (fun c => ?_) (fun c => ?_)
  · exact zz_J.weak (k1 c hR) rfl ⟨rfl, rfl, rfl, rfl, rfl, trivial⟩
  · exact zz_J.weak (k2 c hR) rfl trivial
theorem cb_111_103 {X : Nat → Option zz_C} {h : zz_H} {t : cS} {s : mS} {d : Nat} {Q : zz_O → zz_H → Prop}  (hR : kR h t s) (k : ∀ {h : zz_H}, kR h t s → zz_J zp_P zt_tf zt_fd X d zm_254 0 [(0, .int 1)] [] h (zz_after 1000 Q (fun v h' => zz_J zp_P zt_tf zt_fd X (d + 1) zm_111 107 [] (v.toList ++ []) h' Q))) : zz_J zp_P zt_tf zt_fd X (d + 1) zm_111 103 [] [] h Q := by
  refine zz_J.c 104 (.int 1) rfl rfl rfl rfl ?_
  refine zz_J.cl (M' := zm_254) 107 rfl rfl (by decide) rfl rfl ⟨rfl, Nat.le_of_ble_eq_true rfl⟩ rfl ?_
  refine zz_J.mono (k hR) ?_
  intro o h' hE
  cases o with
  | inl v => exact zz_J.weak hE rfl trivial
  | inr q => exact hE
theorem cb_111_107 {X : Nat → Option zz_C} {h : zz_H} {t : cS} {s : mS} {d : Nat} {Q : zz_O → zz_H → Prop} {y0 : Int64} (hR : kR h t s) (k : ∀ {h : zz_H}, kR h t s → Q (.inl (some (.long y0))) h) : zz_J zp_P zt_tf zt_fd X d zm_111 107 [] [.long y0] h Q := by
  refine zz_J.ret rfl rfl rfl ?_
  exact k hR
theorem cb_111_108 {X : Nat → Option zz_C} {h : zz_H} {t : cS} {s : mS} {d : Nat} {Q : zz_O → zz_H → Prop} {x1 : Int64} {x3 : Int64} {x5 : Int32} {x7 : Int64} (hR : kR h t s) (k : ∀ {h : zz_H}, kR h t s → zz_J zp_P zt_tf zt_fd X d zm_128 0 [(0, .ref 42), (1, .long x1)] [] h (zz_after 2 Q (fun v h' => zz_J zp_P zt_tf zt_fd X (d + 1) zm_111 118 [(0, .ref 59), (1, .long x1), (3, .long x3), (5, .int x5)] (v.toList ++ [.long x7]) h' Q))) : zz_J zp_P zt_tf zt_fd X (d + 1) zm_111 108 [(0, .ref 59), (1, .long x1), (3, .long x3), (5, .int x5), (7, .long x7)] [] h Q := by
  refine zz_J.n 110 rfl rfl rfl ?_
  refine zz_J.n 111 rfl rfl rfl ?_
  refine zz_J.g 114 rfl (hR.gv (v := .ref 42) ko_59 (by decide) rfl) rfl ?_
  refine zz_J.n 115 rfl rfl rfl ?_
  refine zz_J.cv 118 (as := [.long x7]) rfl rfl (hR.clO ko_42 (by decide) (by decide)) (by decide) (Nat.le_of_ble_eq_true rfl) (Nat.le_of_ble_eq_true rfl) rfl (Nat.le_of_ble_eq_true rfl) rfl ?_
  refine zz_J.mono (k hR) ?_
  intro o h' hE
  cases o with
  | inl v => exact zz_J.weak hE rfl ⟨rfl, rfl, rfl, rfl, trivial⟩
  | inr q => exact hE
theorem cb_111_118 {X : Nat → Option zz_C} {h : zz_H} {t : cS} {s : mS} {d : Nat} {Q : zz_O → zz_H → Prop} {x1 : Int64} {x3 : Int64} {x5 : Int32} {y0 : Int64} {y1 : Int32} (hR : kR h t s) (k1 : (lg_cmp y0 (Int32.toInt64 y1)) = 0 → (∀ {h : zz_H}, kR h t s → zz_J zp_P zt_tf zt_fd X d zm_111 128 [(0, .ref 59), (1, .long x1), (3, .long x3), (5, .int x5)] [] h Q)) (k2 : ¬ (lg_cmp y0 (Int32.toInt64 y1)) = 0 → (∀ {h : zz_H}, kR h t s → zz_J zp_P zt_tf zt_fd X d zm_111 123 [] [] h Q)) : zz_J zp_P zt_tf zt_fd X d zm_111 118 [(0, .ref 59), (1, .long x1), (3, .long x3), (5, .int x5)] [.int y1, .long y0] h Q := by
  refine zz_J.n 119 rfl rfl rfl ?_
  refine zz_J.n 120 rfl rfl rfl ?_
  refine zz_J.b1 128 123 (A := (lg_cmp y0 (Int32.toInt64 y1)) = 0) rfl rfl (by decide) rfl rfl (fun c => ?_) (fun c => ?_)
  · exact zz_J.weak (k1 c hR) rfl ⟨rfl, rfl, rfl, rfl, trivial⟩
  · exact zz_J.weak (k2 c hR) rfl trivial
theorem cb_111_123 {X : Nat → Option zz_C} {h : zz_H} {t : cS} {s : mS} {d : Nat} {Q : zz_O → zz_H → Prop}  (hR : kR h t s) (k : ∀ {h : zz_H}, kR h t s → zz_J zp_P zt_tf zt_fd X d zm_254 0 [(0, .int 4)] [] h (zz_after 1000 Q (fun v h' => zz_J zp_P zt_tf zt_fd X (d + 1) zm_111 127 [] (v.toList ++ []) h' Q))) : zz_J zp_P zt_tf zt_fd X (d + 1) zm_111 123 [] [] h Q := by
  refine zz_J.c 124 (.int 4) rfl rfl rfl rfl ?_
  refine zz_J.cl (M' := zm_254) 127 rfl rfl (by decide) rfl rfl ⟨rfl, Nat.le_of_ble_eq_true rfl⟩ rfl ?_
  refine zz_J.mono (k hR) ?_
  intro o h' hE
  cases o with
  | inl v => exact zz_J.weak hE rfl trivial
  | inr q => exact hE
theorem cb_111_127 {X : Nat → Option zz_C} {h : zz_H} {t : cS} {s : mS} {d : Nat} {Q : zz_O → zz_H → Prop} {y0 : Int64} (hR : kR h t s) (k : ∀ {h : zz_H}, kR h t s → Q (.inl (some (.long y0))) h) : zz_J zp_P zt_tf zt_fd X d zm_111 127 [] [.long y0] h Q := by
  refine zz_J.ret rfl rfl rfl ?_
  exact k hR
theorem cb_111_128 {X : Nat → Option zz_C} {h : zz_H} {t : cS} {s : mS} {d : Nat} {Q : zz_O → zz_H → Prop} {x1 : Int64} {x3 : Int64} {x5 : Int32} (hR : kR h t s) (k : ∀ {h : zz_H}, kR h t s → zz_J zp_P zt_tf zt_fd X d zm_122 0 [(0, .ref 42)] [] h (zz_after 2 Q (fun v h' => zz_J zp_P zt_tf zt_fd X (d + 1) zm_111 135 [(0, .ref 59), (1, .long x1), (3, .long x3), (5, .int x5)] (v.toList ++ []) h' Q))) : zz_J zp_P zt_tf zt_fd X (d + 1) zm_111 128 [(0, .ref 59), (1, .long x1), (3, .long x3), (5, .int x5)] [] h Q := by
  refine zz_J.n 129 rfl rfl rfl ?_
  refine zz_J.g 132 rfl (hR.gv (v := .ref 42) ko_59 (by decide) rfl) rfl ?_
  refine zz_J.cv 135 (as := []) rfl rfl (hR.clO ko_42 (by decide) (by decide)) (by decide) (Nat.le_of_ble_eq_true rfl) (Nat.le_of_ble_eq_true rfl) rfl (Nat.le_of_ble_eq_true rfl) rfl ?_
  refine zz_J.mono (k hR) ?_
  intro o h' hE
  cases o with
  | inl v => exact zz_J.weak hE rfl ⟨rfl, rfl, rfl, rfl, trivial⟩
  | inr q => exact hE
theorem cb_111_135 {X : Nat → Option zz_C} {h : zz_H} {t : cS} {s : mS} {d : Nat} {Q : zz_O → zz_H → Prop} {x1 : Int64} {x3 : Int64} {x5 : Int32} {y0 : Int32} (hR : kR h t s) (k : ∀ {h : zz_H}, kR h t s → zz_J zp_P zt_tf zt_fd X d zm_111 143 [(0, .ref 59), (1, .long x1), (3, .long x3), (5, .int x5), (9, .int y0), (10, .int 0), (11, .int 0)] [] h Q) : zz_J zp_P zt_tf zt_fd X d zm_111 135 [(0, .ref 59), (1, .long x1), (3, .long x3), (5, .int x5)] [.int y0] h Q := by
  refine zz_J.n 137 rfl rfl rfl ?_
  refine zz_J.c 138 (.int 0) rfl rfl rfl rfl ?_
  refine zz_J.n 140 rfl rfl rfl ?_
  refine zz_J.c 141 (.int 0) rfl rfl rfl rfl ?_
  refine zz_J.n 143 rfl rfl rfl ?_
  exact zz_J.weak (k hR) rfl ⟨rfl, rfl, rfl, rfl, rfl, rfl, rfl, trivial⟩
theorem cb_111_143 {X : Nat → Option zz_C} {h : zz_H} {t : cS} {s : mS} {d : Nat} {Q : zz_O → zz_H → Prop} {x1 : Int64} {x3 : Int64} {x5 : Int32} {x9 : Int32} {x10 : Int32} {x11 : Int32} (hR : kR h t s) (k1 : x5 ≤ x11 → (∀ {h : zz_H}, kR h t s → zz_J zp_P zt_tf zt_fd X d zm_111 198 [(0, .ref 59), (9, .int x9)] [] h Q)) (k2 : ¬ x5 ≤ x11 → (∀ {h : zz_H}, kR h t s → zz_J zp_P zt_tf zt_fd X d zm_111 150 [(0, .ref 59), (1, .long x1), (3, .long x3), (5, .int x5), (9, .int x9), (10, .int x10), (11, .int x11)] [] h Q)) : zz_J zp_P zt_tf zt_fd X d zm_111 143 [(0, .ref 59), (1, .long x1), (3, .long x3), (5, .int x5), (9, .int x9), (10, .int x10), (11, .int x11)] [] h Q := by
  refine zz_J.n 145 rfl rfl rfl ?_
  refine zz_J.n 147 rfl rfl rfl ?_
  refine zz_J.b2 198 150 (A := x5 ≤ x11) rfl rfl (by decide) rfl rfl (fun c => ?_) (fun c => ?_)
  · exact zz_J.weak (k1 c hR) rfl ⟨rfl, rfl, trivial⟩
  · exact zz_J.weak (k2 c hR) rfl ⟨rfl, rfl, rfl, rfl, rfl, rfl, rfl, trivial⟩
theorem cb_111_150 {X : Nat → Option zz_C} {h : zz_H} {t : cS} {s : mS} {d : Nat} {Q : zz_O → zz_H → Prop} {x1 : Int64} {x3 : Int64} {x5 : Int32} {x9 : Int32} {x10 : Int32} {x11 : Int32} (hR : kR h t s) (k : ∀ {h : zz_H}, kR h t s → zz_J zp_P zt_tf zt_fd X d zm_130 0 [(0, .ref 42), (1, .long x3), (3, .int x11)] [] h (zz_after 2 Q (fun v h' => zz_J zp_P zt_tf zt_fd X (d + 1) zm_111 170 [(0, .ref 59), (1, .long x1), (3, .long x3), (5, .int x5), (9, .int x9), (10, .int x10), (11, .int x11)] (v.toList ++ [.int x10, .int x10, .long x1, .ref 59, .ref 42]) h' Q))) : zz_J zp_P zt_tf zt_fd X (d + 1) zm_111 150 [(0, .ref 59), (1, .long x1), (3, .long x3), (5, .int x5), (9, .int x9), (10, .int x10), (11, .int x11)] [] h Q := by
  refine zz_J.n 151 rfl rfl rfl ?_
  refine zz_J.g 154 rfl (hR.gv (v := .ref 42) ko_59 (by decide) rfl) rfl ?_
  refine zz_J.n 155 rfl rfl rfl ?_
  refine zz_J.n 156 rfl rfl rfl ?_
  refine zz_J.n 158 rfl rfl rfl ?_
  refine zz_J.n 160 rfl rfl rfl ?_
  refine zz_J.n 161 rfl rfl rfl ?_
  refine zz_J.g 164 rfl (hR.gv (v := .ref 42) ko_59 (by decide) rfl) rfl ?_
  refine zz_J.n 165 rfl rfl rfl ?_
  refine zz_J.n 167 rfl rfl rfl ?_
  refine zz_J.cv 170 (as := [.int x10, .int x10, .long x1, .ref 59, .ref 42]) rfl rfl (hR.clO ko_42 (by decide) (by decide)) (by decide) (Nat.le_of_ble_eq_true rfl) (Nat.le_of_ble_eq_true rfl) rfl (Nat.le_of_ble_eq_true rfl) rfl ?_
  refine zz_J.mono (k hR) ?_
  intro o h' hE
  cases o with
  | inl v => exact zz_J.weak hE rfl ⟨rfl, rfl, rfl, rfl, rfl, rfl, rfl, trivial⟩
  | inr q => exact hE
theorem cb_111_170 {X : Nat → Option zz_C} {h : zz_H} {t : cS} {s : mS} {d : Nat} {Q : zz_O → zz_H → Prop} {x1 : Int64} {x3 : Int64} {x5 : Int32} {x9 : Int32} {x10 : Int32} {x11 : Int32} {y2 : Int64} {y3 : Int32} {y4 : Int32} {y5 : Int32} (hR : kR h t s) (k : ∀ {h : zz_H}, kR h t s → zz_J zp_P zt_tf zt_fd X d zm_112 0 [(0, .ref 59), (1, .long y2), (3, .int y3), (4, .int (y4 + y5))] [] h (zz_after 1 Q (fun v h' => zz_J zp_P zt_tf zt_fd X (d + 1) zm_111 174 [(0, .ref 59), (1, .long x1), (3, .long x3), (5, .int x5), (9, .int x9), (10, .int x10), (11, .int x11)] (v.toList ++ [.ref 42]) h' Q))) : zz_J zp_P zt_tf zt_fd X (d + 1) zm_111 170 [(0, .ref 59), (1, .long x1), (3, .long x3), (5, .int x5), (9, .int x9), (10, .int x10), (11, .int x11)] [.int y5, .int y4, .int y3, .long y2, .ref 59, .ref 42] h Q := by
  refine zz_J.n 171 rfl rfl rfl ?_
  refine zz_J.cv 174 (as := [.ref 42]) rfl rfl (hR.clO ko_59 (by decide) (by decide)) (by decide) (Nat.le_of_ble_eq_true rfl) (Nat.le_of_ble_eq_true rfl) rfl (Nat.le_of_ble_eq_true rfl) rfl ?_
  refine zz_J.mono (k hR) ?_
  intro o h' hE
  cases o with
  | inl v => exact zz_J.weak hE rfl ⟨rfl, rfl, rfl, rfl, rfl, rfl, rfl, trivial⟩
  | inr q => exact hE
theorem cb_111_174 {X : Nat → Option zz_C} {h : zz_H} {t : cS} {s : mS} {d : Nat} {Q : zz_O → zz_H → Prop} {x1 : Int64} {x3 : Int64} {x5 : Int32} {x9 : Int32} {x10 : Int32} {x11 : Int32} {y1 : Int64} (hR : kR h t s) (k : ∀ {h : zz_H}, kR h t s → zz_J zp_P zt_tf zt_fd X d zm_123 0 [(0, .ref 42), (1, .long y1)] [] h (zz_after 2 Q (fun v h' => zz_J zp_P zt_tf zt_fd X (d + 1) zm_111 177 [(0, .ref 59), (1, .long x1), (3, .long x3), (5, .int x5), (9, .int x9), (10, .int x10), (11, .int x11)] (v.toList ++ []) h' Q))) : zz_J zp_P zt_tf zt_fd X (d + 1) zm_111 174 [(0, .ref 59), (1, .long x1), (3, .long x3), (5, .int x5), (9, .int x9), (10, .int x10), (11, .int x11)] [.long y1, .ref 42] h Q := by
  refine zz_J.cv 177 (as := []) rfl rfl (hR.clO ko_42 (by decide) (by decide)) (by decide) (Nat.le_of_ble_eq_true rfl) (Nat.le_of_ble_eq_true rfl) rfl (Nat.le_of_ble_eq_true rfl) rfl ?_
  refine zz_J.mono (k hR) ?_
  intro o h' hE
  cases o with
  | inl v => exact zz_J.weak hE rfl ⟨rfl, rfl, rfl, rfl, rfl, rfl, rfl, trivial⟩
  | inr q => exact hE
theorem cb_111_177 {X : Nat → Option zz_C} {h : zz_H} {t : cS} {s : mS} {d : Nat} {Q : zz_O → zz_H → Prop} {x1 : Int64} {x3 : Int64} {x5 : Int32} {x9 : Int32} {x10 : Int32} {x11 : Int32} (hR : kR h t s) (k : ∀ {h : zz_H}, kR h t s → zz_J zp_P zt_tf zt_fd X d zm_130 0 [(0, .ref 42), (1, .long x3), (3, .int x11)] [] h (zz_after 2 Q (fun v h' => zz_J zp_P zt_tf zt_fd X (d + 1) zm_111 189 [(0, .ref 59), (1, .long x1), (3, .long x3), (5, .int x5), (9, .int x9), (11, .int x11)] (v.toList ++ [.int x10]) h' Q))) : zz_J zp_P zt_tf zt_fd X (d + 1) zm_111 177 [(0, .ref 59), (1, .long x1), (3, .long x3), (5, .int x5), (9, .int x9), (10, .int x10), (11, .int x11)] [] h Q := by
  refine zz_J.n 179 rfl rfl rfl ?_
  refine zz_J.n 180 rfl rfl rfl ?_
  refine zz_J.g 183 rfl (hR.gv (v := .ref 42) ko_59 (by decide) rfl) rfl ?_
  refine zz_J.n 184 rfl rfl rfl ?_
  refine zz_J.n 186 rfl rfl rfl ?_
  refine zz_J.cv 189 (as := [.int x10]) rfl rfl (hR.clO ko_42 (by decide) (by decide)) (by decide) (Nat.le_of_ble_eq_true rfl) (Nat.le_of_ble_eq_true rfl) rfl (Nat.le_of_ble_eq_true rfl) rfl ?_
  refine zz_J.mono (k hR) ?_
  intro o h' hE
  cases o with
  | inl v => exact zz_J.weak hE rfl ⟨rfl, rfl, rfl, rfl, rfl, rfl, trivial⟩
  | inr q => exact hE
theorem cb_111_189 {X : Nat → Option zz_C} {h : zz_H} {t : cS} {s : mS} {d : Nat} {Q : zz_O → zz_H → Prop} {x1 : Int64} {x3 : Int64} {x5 : Int32} {x9 : Int32} {x11 : Int32} {y0 : Int32} {y1 : Int32} (hR : kR h t s) (k : ∀ {h : zz_H}, kR h t s → zz_J zp_P zt_tf zt_fd X d zm_111 143 [(0, .ref 59), (1, .long x1), (3, .long x3), (5, .int x5), (9, .int x9), (10, .int (y0 + y1)), (11, .int (x11 + 1))] [] h Q) : zz_J zp_P zt_tf zt_fd X d zm_111 189 [(0, .ref 59), (1, .long x1), (3, .long x3), (5, .int x5), (9, .int x9), (11, .int x11)] [.int y1, .int y0] h Q := by
  refine zz_J.n 190 rfl rfl rfl ?_
  refine zz_J.n 192 rfl rfl rfl ?_
  refine zz_J.n 195 rfl rfl rfl ?_
  refine zz_J.n 143 rfl rfl rfl ?_
  exact zz_J.weak (k hR) rfl ⟨rfl, rfl, rfl, rfl, rfl, rfl, rfl, trivial⟩
theorem cb_111_198 {X : Nat → Option zz_C} {h : zz_H} {t : cS} {s : mS} {d : Nat} {Q : zz_O → zz_H → Prop} {x9 : Int32} (hR : kR h t s) (k : ∀ {h : zz_H}, kR h t s → zz_J zp_P zt_tf zt_fd X d zm_126 0 [(0, .ref 42), (1, .int 2), (2, .int x9)] [] h (zz_after 2 Q (fun v h' => zz_J zp_P zt_tf zt_fd X (d + 1) zm_111 208 [] (v.toList ++ []) h' Q))) : zz_J zp_P zt_tf zt_fd X (d + 1) zm_111 198 [(0, .ref 59), (9, .int x9)] [] h Q := by
  refine zz_J.n 199 rfl rfl rfl ?_
  refine zz_J.g 202 rfl (hR.gv (v := .ref 42) ko_59 (by decide) rfl) rfl ?_
  refine zz_J.c 203 (.int 2) rfl rfl rfl rfl ?_
  refine zz_J.n 205 rfl rfl rfl ?_
  refine zz_J.cv 208 (as := []) rfl rfl (hR.clO ko_42 (by decide) (by decide)) (by decide) (Nat.le_of_ble_eq_true rfl) (Nat.le_of_ble_eq_true rfl) rfl (Nat.le_of_ble_eq_true rfl) rfl ?_
  refine zz_J.mono (k hR) ?_
  intro o h' hE
  cases o with
  | inl v => exact zz_J.weak hE rfl trivial
  | inr q => exact hE
theorem cb_111_208 {X : Nat → Option zz_C} {h : zz_H} {t : cS} {s : mS} {d : Nat} {Q : zz_O → zz_H → Prop} {y0 : Int64} (hR : kR h t s) (k : ∀ {h : zz_H}, kR h t s → Q (.inl (some (.long y0))) h) : zz_J zp_P zt_tf zt_fd X d zm_111 208 [] [.long y0] h Q := by
  refine zz_J.ret rfl rfl rfl ?_
  exact k hR
def cf_111_20 (N : Nat) (X : Nat → Option zz_C) (y0 : Int64) (t : cS) : kO := some (t, .inl (some (.long y0)))
theorem cr_111_20 {X : Nat → Option zz_C} {s : mS} {N : Nat} {d : Nat} (hd : 11 ≤ d) {Q : zz_O → zz_H → Prop} {y0 : Int64} {h : zz_H} {t t' : cS} {o : kY} (hR : kR h t s) (hf : cf_111_20 N X y0 t = some (t', o)) (k : (∀ h', kR h' t' s → kE o Q h')) : zz_J zp_P zt_tf zt_fd X d zm_111 20 [] [.long y0] h Q := by
  unfold cf_111_20 at hf
  cases hf
  exact cb_111_20 hR  (fun {h} hR => k h hR)
def cf_111_16 (N : Nat) (X : Nat → Option zz_C)  (t : cS) : kO := ko_call 1000 (cf_254 N X 3 t) (fun g1 v1 => co_l v1 (fun y => cf_111_20 N X y g1))
theorem cr_111_16 {X : Nat → Option zz_C} {s : mS} {N : Nat} {d : Nat} (hd : 11 ≤ d) {Q : zz_O → zz_H → Prop}  {h : zz_H} {t t' : cS} {o : kY} (hR : kR h t s) (hf : cf_111_16 N X  t = some (t', o)) (k : (∀ h', kR h' t' s → kE o Q h')) : zz_J zp_P zt_tf zt_fd X d zm_111 16 [] [] h Q := by
  unfold cf_111_16 at hf
  obtain ⟨d', rfl⟩ : ∃ d', d = d' + 1 := ⟨d - 1, by omega⟩
  refine cb_111_16 hR  (fun {h} hR => ?_)
  rcases ko_call_ok hf with ⟨g1, v1, er, hf⟩ | ⟨g1, er, hq⟩
  · obtain ⟨y, hv, hf2⟩ := co_l_ok hf
    clear hf
    have hf := hf2
    clear hf2
    subst hv
    refine cr_254 (by omega) hR er (fun h hR => ?_)
    exact cr_111_20 hd hR hf k
  · refine cr_254 (by omega) hR er (fun h hR => ?_)
    exact ko_thrown hq hR k
def cf_111_208 (N : Nat) (X : Nat → Option zz_C) (y0 : Int64) (t : cS) : kO := some (t, .inl (some (.long y0)))
theorem cr_111_208 {X : Nat → Option zz_C} {s : mS} {N : Nat} {d : Nat} (hd : 11 ≤ d) {Q : zz_O → zz_H → Prop} {y0 : Int64} {h : zz_H} {t t' : cS} {o : kY} (hR : kR h t s) (hf : cf_111_208 N X y0 t = some (t', o)) (k : (∀ h', kR h' t' s → kE o Q h')) : zz_J zp_P zt_tf zt_fd X d zm_111 208 [] [.long y0] h Q := by
  unfold cf_111_208 at hf
  cases hf
  exact cb_111_208 hR  (fun {h} hR => k h hR)
def cf_111_198 (N : Nat) (X : Nat → Option zz_C) (x9 : Int32) (t : cS) : kO := ko_call 2 (cf_126 N X 2 x9 t) (fun g1 v1 => co_l v1 (fun y => cf_111_208 N X y g1))
theorem cr_111_198 {X : Nat → Option zz_C} {s : mS} {N : Nat} {d : Nat} (hd : 11 ≤ d) {Q : zz_O → zz_H → Prop} {x9 : Int32} {h : zz_H} {t t' : cS} {o : kY} (hR : kR h t s) (hf : cf_111_198 N X x9 t = some (t', o)) (k : (∀ h', kR h' t' s → kE o Q h')) : zz_J zp_P zt_tf zt_fd X d zm_111 198 [(0, .ref 59), (9, .int x9)] [] h Q := by
  unfold cf_111_198 at hf
  obtain ⟨d', rfl⟩ : ∃ d', d = d' + 1 := ⟨d - 1, by omega⟩
  refine cb_111_198 hR  (fun {h} hR => ?_)
  rcases ko_call_ok hf with ⟨g1, v1, er, hf⟩ | ⟨g1, er, hq⟩
  · obtain ⟨y, hv, hf2⟩ := co_l_ok hf
    clear hf
    have hf := hf2
    clear hf2
    subst hv
    refine cr_126 (by omega) hR er (fun h hR => ?_)
    exact cr_111_208 hd hR hf k
  · refine cr_126 (by omega) hR er (fun h hR => ?_)
    exact ko_thrown hq hR k
def cf_111_189 (N : Nat) (X : Nat → Option zz_C) (rc : Nat → Int64 → Int32 → Int32 → Int64 → Int32 → Int32 → cS → kO) (x1 : Int64) (x3 : Int64) (x5 : Int32) (x9 : Int32) (x11 : Int32) (y0 : Int32) (y1 : Int32) (t : cS) : kO := rc 0 x1 (y0 + y1) (x11 + 1) x3 x5 x9 t
theorem cr_111_189 {X : Nat → Option zz_C} {s : mS} {N : Nat} {d : Nat} (hd : 11 ≤ d) {rc : Nat → Int64 → Int32 → Int32 → Int64 → Int32 → Int32 → cS → kO} (hrc0 : ∀ {Q : zz_O → zz_H → Prop} {x1 : Int64} {x3 : Int64} {x5 : Int32} {x9 : Int32} {x10 : Int32} {x11 : Int32} {h : zz_H} {t t' : cS} {o : kY}, kR h t s → rc 0 x1 x10 x11 x3 x5 x9 t = some (t', o) → (∀ h', kR h' t' s → kE o Q h') → zz_J zp_P zt_tf zt_fd X d zm_111 143 [(0, .ref 59), (1, .long x1), (3, .long x3), (5, .int x5), (9, .int x9), (10, .int x10), (11, .int x11)] [] h Q) {Q : zz_O → zz_H → Prop} {x1 : Int64} {x3 : Int64} {x5 : Int32} {x9 : Int32} {x11 : Int32} {y0 : Int32} {y1 : Int32} {h : zz_H} {t t' : cS} {o : kY} (hR : kR h t s) (hf : cf_111_189 N X rc x1 x3 x5 x9 x11 y0 y1 t = some (t', o)) (k : (∀ h', kR h' t' s → kE o Q h')) : zz_J zp_P zt_tf zt_fd X d zm_111 189 [(0, .ref 59), (1, .long x1), (3, .long x3), (5, .int x5), (9, .int x9), (11, .int x11)] [.int y1, .int y0] h Q := by
  unfold cf_111_189 at hf
  exact cb_111_189 hR  (fun hR => hrc0 hR hf k)
def cf_111_177 (N : Nat) (X : Nat → Option zz_C) (rc : Nat → Int64 → Int32 → Int32 → Int64 → Int32 → Int32 → cS → kO) (x1 : Int64) (x3 : Int64) (x5 : Int32) (x9 : Int32) (x10 : Int32) (x11 : Int32) (t : cS) : kO := ko_call 2 (cf_130 N X x3 x11 t) (fun g1 v1 => co_i v1 (fun y => cf_111_189 N X rc x1 x3 x5 x9 x11 x10 y g1))
theorem cr_111_177 {X : Nat → Option zz_C} {s : mS} {N : Nat} {d : Nat} (hd : 11 ≤ d) {rc : Nat → Int64 → Int32 → Int32 → Int64 → Int32 → Int32 → cS → kO} (hrc0 : ∀ {Q : zz_O → zz_H → Prop} {x1 : Int64} {x3 : Int64} {x5 : Int32} {x9 : Int32} {x10 : Int32} {x11 : Int32} {h : zz_H} {t t' : cS} {o : kY}, kR h t s → rc 0 x1 x10 x11 x3 x5 x9 t = some (t', o) → (∀ h', kR h' t' s → kE o Q h') → zz_J zp_P zt_tf zt_fd X d zm_111 143 [(0, .ref 59), (1, .long x1), (3, .long x3), (5, .int x5), (9, .int x9), (10, .int x10), (11, .int x11)] [] h Q) {Q : zz_O → zz_H → Prop} {x1 : Int64} {x3 : Int64} {x5 : Int32} {x9 : Int32} {x10 : Int32} {x11 : Int32} {h : zz_H} {t t' : cS} {o : kY} (hR : kR h t s) (hf : cf_111_177 N X rc x1 x3 x5 x9 x10 x11 t = some (t', o)) (k : (∀ h', kR h' t' s → kE o Q h')) : zz_J zp_P zt_tf zt_fd X d zm_111 177 [(0, .ref 59), (1, .long x1), (3, .long x3), (5, .int x5), (9, .int x9), (10, .int x10), (11, .int x11)] [] h Q := by
  unfold cf_111_177 at hf
  obtain ⟨d', rfl⟩ : ∃ d', d = d' + 1 := ⟨d - 1, by omega⟩
  refine cb_111_177 hR  (fun {h} hR => ?_)
  rcases ko_call_ok hf with ⟨g1, v1, er, hf⟩ | ⟨g1, er, hq⟩
  · obtain ⟨y, hv, hf2⟩ := co_i_ok hf
    clear hf
    have hf := hf2
    clear hf2
    subst hv
    refine cr_130 (by omega) hR er (fun h hR => ?_)
    exact cr_111_189 hd hrc0 hR hf k
  · refine cr_130 (by omega) hR er (fun h hR => ?_)
    exact ko_thrown hq hR k
def cf_111_174 (N : Nat) (X : Nat → Option zz_C) (rc : Nat → Int64 → Int32 → Int32 → Int64 → Int32 → Int32 → cS → kO) (x1 : Int64) (x3 : Int64) (x5 : Int32) (x9 : Int32) (x10 : Int32) (x11 : Int32) (y1 : Int64) (t : cS) : kO := ko_call 2 (cf_123 N X y1 t) (fun g1 v1 => co_v v1 (cf_111_177 N X rc x1 x3 x5 x9 x10 x11 g1))
theorem cr_111_174 {X : Nat → Option zz_C} {s : mS} {N : Nat} {d : Nat} (hd : 11 ≤ d) {rc : Nat → Int64 → Int32 → Int32 → Int64 → Int32 → Int32 → cS → kO} (hrc0 : ∀ {Q : zz_O → zz_H → Prop} {x1 : Int64} {x3 : Int64} {x5 : Int32} {x9 : Int32} {x10 : Int32} {x11 : Int32} {h : zz_H} {t t' : cS} {o : kY}, kR h t s → rc 0 x1 x10 x11 x3 x5 x9 t = some (t', o) → (∀ h', kR h' t' s → kE o Q h') → zz_J zp_P zt_tf zt_fd X d zm_111 143 [(0, .ref 59), (1, .long x1), (3, .long x3), (5, .int x5), (9, .int x9), (10, .int x10), (11, .int x11)] [] h Q) {Q : zz_O → zz_H → Prop} {x1 : Int64} {x3 : Int64} {x5 : Int32} {x9 : Int32} {x10 : Int32} {x11 : Int32} {y1 : Int64} {h : zz_H} {t t' : cS} {o : kY} (hR : kR h t s) (hf : cf_111_174 N X rc x1 x3 x5 x9 x10 x11 y1 t = some (t', o)) (k : (∀ h', kR h' t' s → kE o Q h')) : zz_J zp_P zt_tf zt_fd X d zm_111 174 [(0, .ref 59), (1, .long x1), (3, .long x3), (5, .int x5), (9, .int x9), (10, .int x10), (11, .int x11)] [.long y1, .ref 42] h Q := by
  unfold cf_111_174 at hf
  obtain ⟨d', rfl⟩ : ∃ d', d = d' + 1 := ⟨d - 1, by omega⟩
  refine cb_111_174 hR  (fun {h} hR => ?_)
  rcases ko_call_ok hf with ⟨g1, v1, er, hf⟩ | ⟨g1, er, hq⟩
  · obtain ⟨hv, hf2⟩ := co_v_ok hf
    clear hf
    have hf := hf2
    clear hf2
    subst hv
    refine cr_123 (by omega) hR er (fun h hR => ?_)
    exact cr_111_177 hd hrc0 hR hf k
  · refine cr_123 (by omega) hR er (fun h hR => ?_)
    exact ko_thrown hq hR k
def cf_111_170 (N : Nat) (X : Nat → Option zz_C) (rc : Nat → Int64 → Int32 → Int32 → Int64 → Int32 → Int32 → cS → kO) (x1 : Int64) (x3 : Int64) (x5 : Int32) (x9 : Int32) (x10 : Int32) (x11 : Int32) (y2 : Int64) (y3 : Int32) (y4 : Int32) (y5 : Int32) (t : cS) : kO := ko_call 1 (cf_112 N X y2 y3 (y4 + y5) t) (fun g1 v1 => co_l v1 (fun y => cf_111_174 N X rc x1 x3 x5 x9 x10 x11 y g1))
theorem cr_111_170 {X : Nat → Option zz_C} {s : mS} {N : Nat} {d : Nat} (hd : 11 ≤ d) {rc : Nat → Int64 → Int32 → Int32 → Int64 → Int32 → Int32 → cS → kO} (hrc0 : ∀ {Q : zz_O → zz_H → Prop} {x1 : Int64} {x3 : Int64} {x5 : Int32} {x9 : Int32} {x10 : Int32} {x11 : Int32} {h : zz_H} {t t' : cS} {o : kY}, kR h t s → rc 0 x1 x10 x11 x3 x5 x9 t = some (t', o) → (∀ h', kR h' t' s → kE o Q h') → zz_J zp_P zt_tf zt_fd X d zm_111 143 [(0, .ref 59), (1, .long x1), (3, .long x3), (5, .int x5), (9, .int x9), (10, .int x10), (11, .int x11)] [] h Q) {Q : zz_O → zz_H → Prop} {x1 : Int64} {x3 : Int64} {x5 : Int32} {x9 : Int32} {x10 : Int32} {x11 : Int32} {y2 : Int64} {y3 : Int32} {y4 : Int32} {y5 : Int32} {h : zz_H} {t t' : cS} {o : kY} (hR : kR h t s) (hf : cf_111_170 N X rc x1 x3 x5 x9 x10 x11 y2 y3 y4 y5 t = some (t', o)) (k : (∀ h', kR h' t' s → kE o Q h')) : zz_J zp_P zt_tf zt_fd X d zm_111 170 [(0, .ref 59), (1, .long x1), (3, .long x3), (5, .int x5), (9, .int x9), (10, .int x10), (11, .int x11)] [.int y5, .int y4, .int y3, .long y2, .ref 59, .ref 42] h Q := by
  unfold cf_111_170 at hf
  obtain ⟨d', rfl⟩ : ∃ d', d = d' + 1 := ⟨d - 1, by omega⟩
  refine cb_111_170 hR  (fun {h} hR => ?_)
  rcases ko_call_ok hf with ⟨g1, v1, er, hf⟩ | ⟨g1, er, hq⟩
  · obtain ⟨y, hv, hf2⟩ := co_l_ok hf
    clear hf
    have hf := hf2
    clear hf2
    subst hv
    refine cr_112 (by omega) hR er (fun h hR => ?_)
    exact cr_111_174 hd hrc0 hR hf k
  · refine cr_112 (by omega) hR er (fun h hR => ?_)
    exact ko_thrown hq hR k
def cf_111_150 (N : Nat) (X : Nat → Option zz_C) (rc : Nat → Int64 → Int32 → Int32 → Int64 → Int32 → Int32 → cS → kO) (x1 : Int64) (x3 : Int64) (x5 : Int32) (x9 : Int32) (x10 : Int32) (x11 : Int32) (t : cS) : kO := ko_call 2 (cf_130 N X x3 x11 t) (fun g1 v1 => co_i v1 (fun y => cf_111_170 N X rc x1 x3 x5 x9 x10 x11 x1 x10 x10 y g1))
theorem cr_111_150 {X : Nat → Option zz_C} {s : mS} {N : Nat} {d : Nat} (hd : 11 ≤ d) {rc : Nat → Int64 → Int32 → Int32 → Int64 → Int32 → Int32 → cS → kO} (hrc0 : ∀ {Q : zz_O → zz_H → Prop} {x1 : Int64} {x3 : Int64} {x5 : Int32} {x9 : Int32} {x10 : Int32} {x11 : Int32} {h : zz_H} {t t' : cS} {o : kY}, kR h t s → rc 0 x1 x10 x11 x3 x5 x9 t = some (t', o) → (∀ h', kR h' t' s → kE o Q h') → zz_J zp_P zt_tf zt_fd X d zm_111 143 [(0, .ref 59), (1, .long x1), (3, .long x3), (5, .int x5), (9, .int x9), (10, .int x10), (11, .int x11)] [] h Q) {Q : zz_O → zz_H → Prop} {x1 : Int64} {x3 : Int64} {x5 : Int32} {x9 : Int32} {x10 : Int32} {x11 : Int32} {h : zz_H} {t t' : cS} {o : kY} (hR : kR h t s) (hf : cf_111_150 N X rc x1 x3 x5 x9 x10 x11 t = some (t', o)) (k : (∀ h', kR h' t' s → kE o Q h')) : zz_J zp_P zt_tf zt_fd X d zm_111 150 [(0, .ref 59), (1, .long x1), (3, .long x3), (5, .int x5), (9, .int x9), (10, .int x10), (11, .int x11)] [] h Q := by
  unfold cf_111_150 at hf
  obtain ⟨d', rfl⟩ : ∃ d', d = d' + 1 := ⟨d - 1, by omega⟩
  refine cb_111_150 hR  (fun {h} hR => ?_)
  rcases ko_call_ok hf with ⟨g1, v1, er, hf⟩ | ⟨g1, er, hq⟩
  · obtain ⟨y, hv, hf2⟩ := co_i_ok hf
    clear hf
    have hf := hf2
    clear hf2
    subst hv
    refine cr_130 (by omega) hR er (fun h hR => ?_)
    exact cr_111_170 hd hrc0 hR hf k
  · refine cr_130 (by omega) hR er (fun h hR => ?_)
    exact ko_thrown hq hR k
def cf_111_143 (N : Nat) (X : Nat → Option zz_C) (rc : Nat → Int64 → Int32 → Int32 → Int64 → Int32 → Int32 → cS → kO) (x1 : Int64) (x3 : Int64) (x5 : Int32) (x9 : Int32) (x10 : Int32) (x11 : Int32) (t : cS) : kO := if x5 ≤ x11 then cf_111_198 N X x9 t else cf_111_150 N X rc x1 x3 x5 x9 x10 x11 t
theorem cr_111_143 {X : Nat → Option zz_C} {s : mS} {N : Nat} {d : Nat} (hd : 11 ≤ d) {rc : Nat → Int64 → Int32 → Int32 → Int64 → Int32 → Int32 → cS → kO} (hrc0 : ∀ {Q : zz_O → zz_H → Prop} {x1 : Int64} {x3 : Int64} {x5 : Int32} {x9 : Int32} {x10 : Int32} {x11 : Int32} {h : zz_H} {t t' : cS} {o : kY}, kR h t s → rc 0 x1 x10 x11 x3 x5 x9 t = some (t', o) → (∀ h', kR h' t' s → kE o Q h') → zz_J zp_P zt_tf zt_fd X d zm_111 143 [(0, .ref 59), (1, .long x1), (3, .long x3), (5, .int x5), (9, .int x9), (10, .int x10), (11, .int x11)] [] h Q) {Q : zz_O → zz_H → Prop} {x1 : Int64} {x3 : Int64} {x5 : Int32} {x9 : Int32} {x10 : Int32} {x11 : Int32} {h : zz_H} {t t' : cS} {o : kY} (hR : kR h t s) (hf : cf_111_143 N X rc x1 x3 x5 x9 x10 x11 t = some (t', o)) (k : (∀ h', kR h' t' s → kE o Q h')) : zz_J zp_P zt_tf zt_fd X d zm_111 143 [(0, .ref 59), (1, .long x1), (3, .long x3), (5, .int x5), (9, .int x9), (10, .int x10), (11, .int x11)] [] h Q := by
  unfold cf_111_143 at hf
  refine cb_111_143 hR  (fun c {h} hR => ?_) (fun c {h} hR => ?_)
  · rw [if_pos c] at hf
    exact cr_111_198 hd hR hf k
  · rw [if_neg c] at hf
    exact cr_111_150 hd hrc0 hR hf k
def cf_111_L4 (N : Nat) (X : Nat → Option zz_C) : Nat → Nat → Int64 → Int32 → Int32 → Int64 → Int32 → Int32 → cS → kO
  | 0, _, _, _, _, _, _, _, _ => none
  | n + 1, l, x1, x10, x11, x3, x5, x9, t => if l = 0 then cf_111_143 N X (cf_111_L4 N X n) x1 x3 x5 x9 x10 x11 t else none
theorem cr_111_L4 {X : Nat → Option zz_C} {s : mS} {N : Nat} {d : Nat} (hd : 11 ≤ d) : ∀ n : Nat, (∀ {Q : zz_O → zz_H → Prop} {x1 : Int64} {x3 : Int64} {x5 : Int32} {x9 : Int32} {x10 : Int32} {x11 : Int32} {h : zz_H} {t t' : cS} {o : kY}, kR h t s → cf_111_L4 N X n 0 x1 x10 x11 x3 x5 x9 t = some (t', o) → (∀ h', kR h' t' s → kE o Q h') → zz_J zp_P zt_tf zt_fd X d zm_111 143 [(0, .ref 59), (1, .long x1), (3, .long x3), (5, .int x5), (9, .int x9), (10, .int x10), (11, .int x11)] [] h Q) := by
  intro n
  induction n with
  | zero => exact (fun _ hf _ => by cases hf)
  | succ n ih =>
    have h0 := @ih
    intro Q _ _ _ _ _ _ h t t' o hR hf k
    unfold cf_111_L4 at hf
    rw [if_pos rfl] at hf
    exact cr_111_143 hd h0 hR hf k
def cf_111_135 (N : Nat) (X : Nat → Option zz_C) (x1 : Int64) (x3 : Int64) (x5 : Int32) (y0 : Int32) (t : cS) : kO := cf_111_L4 N X N 0 x1 0 0 x3 x5 y0 t
theorem cr_111_135 {X : Nat → Option zz_C} {s : mS} {N : Nat} {d : Nat} (hd : 11 ≤ d) {Q : zz_O → zz_H → Prop} {x1 : Int64} {x3 : Int64} {x5 : Int32} {y0 : Int32} {h : zz_H} {t t' : cS} {o : kY} (hR : kR h t s) (hf : cf_111_135 N X x1 x3 x5 y0 t = some (t', o)) (k : (∀ h', kR h' t' s → kE o Q h')) : zz_J zp_P zt_tf zt_fd X d zm_111 135 [(0, .ref 59), (1, .long x1), (3, .long x3), (5, .int x5)] [.int y0] h Q := by
  unfold cf_111_135 at hf
  exact cb_111_135 hR  (fun hR => cr_111_L4 hd N hR hf k)
def cf_111_128 (N : Nat) (X : Nat → Option zz_C) (x1 : Int64) (x3 : Int64) (x5 : Int32) (t : cS) : kO := ko_call 2 (cf_122 N X  t) (fun g1 v1 => co_i v1 (fun y => cf_111_135 N X x1 x3 x5 y g1))
theorem cr_111_128 {X : Nat → Option zz_C} {s : mS} {N : Nat} {d : Nat} (hd : 11 ≤ d) {Q : zz_O → zz_H → Prop} {x1 : Int64} {x3 : Int64} {x5 : Int32} {h : zz_H} {t t' : cS} {o : kY} (hR : kR h t s) (hf : cf_111_128 N X x1 x3 x5 t = some (t', o)) (k : (∀ h', kR h' t' s → kE o Q h')) : zz_J zp_P zt_tf zt_fd X d zm_111 128 [(0, .ref 59), (1, .long x1), (3, .long x3), (5, .int x5)] [] h Q := by
  unfold cf_111_128 at hf
  obtain ⟨d', rfl⟩ : ∃ d', d = d' + 1 := ⟨d - 1, by omega⟩
  refine cb_111_128 hR  (fun {h} hR => ?_)
  rcases ko_call_ok hf with ⟨g1, v1, er, hf⟩ | ⟨g1, er, hq⟩
  · obtain ⟨y, hv, hf2⟩ := co_i_ok hf
    clear hf
    have hf := hf2
    clear hf2
    subst hv
    refine cr_122 (by omega) hR er (fun h hR => ?_)
    exact cr_111_135 hd hR hf k
  · refine cr_122 (by omega) hR er (fun h hR => ?_)
    exact ko_thrown hq hR k
def cf_111_127 (N : Nat) (X : Nat → Option zz_C) (y0 : Int64) (t : cS) : kO := some (t, .inl (some (.long y0)))
theorem cr_111_127 {X : Nat → Option zz_C} {s : mS} {N : Nat} {d : Nat} (hd : 11 ≤ d) {Q : zz_O → zz_H → Prop} {y0 : Int64} {h : zz_H} {t t' : cS} {o : kY} (hR : kR h t s) (hf : cf_111_127 N X y0 t = some (t', o)) (k : (∀ h', kR h' t' s → kE o Q h')) : zz_J zp_P zt_tf zt_fd X d zm_111 127 [] [.long y0] h Q := by
  unfold cf_111_127 at hf
  cases hf
  exact cb_111_127 hR  (fun {h} hR => k h hR)
def cf_111_123 (N : Nat) (X : Nat → Option zz_C)  (t : cS) : kO := ko_call 1000 (cf_254 N X 4 t) (fun g1 v1 => co_l v1 (fun y => cf_111_127 N X y g1))
theorem cr_111_123 {X : Nat → Option zz_C} {s : mS} {N : Nat} {d : Nat} (hd : 11 ≤ d) {Q : zz_O → zz_H → Prop}  {h : zz_H} {t t' : cS} {o : kY} (hR : kR h t s) (hf : cf_111_123 N X  t = some (t', o)) (k : (∀ h', kR h' t' s → kE o Q h')) : zz_J zp_P zt_tf zt_fd X d zm_111 123 [] [] h Q := by
  unfold cf_111_123 at hf
  obtain ⟨d', rfl⟩ : ∃ d', d = d' + 1 := ⟨d - 1, by omega⟩
  refine cb_111_123 hR  (fun {h} hR => ?_)
  rcases ko_call_ok hf with ⟨g1, v1, er, hf⟩ | ⟨g1, er, hq⟩
  · obtain ⟨y, hv, hf2⟩ := co_l_ok hf
    clear hf
    have hf := hf2
    clear hf2
    subst hv
    refine cr_254 (by omega) hR er (fun h hR => ?_)
    exact cr_111_127 hd hR hf k
  · refine cr_254 (by omega) hR er (fun h hR => ?_)
    exact ko_thrown hq hR k
def cf_111_118 (N : Nat) (X : Nat → Option zz_C) (x1 : Int64) (x3 : Int64) (x5 : Int32) (y0 : Int64) (y1 : Int32) (t : cS) : kO := if (lg_cmp y0 (Int32.toInt64 y1)) = 0 then cf_111_128 N X x1 x3 x5 t else cf_111_123 N X  t
theorem cr_111_118 {X : Nat → Option zz_C} {s : mS} {N : Nat} {d : Nat} (hd : 11 ≤ d) {Q : zz_O → zz_H → Prop} {x1 : Int64} {x3 : Int64} {x5 : Int32} {y0 : Int64} {y1 : Int32} {h : zz_H} {t t' : cS} {o : kY} (hR : kR h t s) (hf : cf_111_118 N X x1 x3 x5 y0 y1 t = some (t', o)) (k : (∀ h', kR h' t' s → kE o Q h')) : zz_J zp_P zt_tf zt_fd X d zm_111 118 [(0, .ref 59), (1, .long x1), (3, .long x3), (5, .int x5)] [.int y1, .long y0] h Q := by
  unfold cf_111_118 at hf
  refine cb_111_118 hR  (fun c {h} hR => ?_) (fun c {h} hR => ?_)
  · rw [if_pos c] at hf
    exact cr_111_128 hd hR hf k
  · rw [if_neg c] at hf
    exact cr_111_123 hd hR hf k
def cf_111_108 (N : Nat) (X : Nat → Option zz_C) (x1 : Int64) (x3 : Int64) (x5 : Int32) (x7 : Int64) (t : cS) : kO := ko_call 2 (cf_128 N X x1 t) (fun g1 v1 => co_i v1 (fun y => cf_111_118 N X x1 x3 x5 x7 y g1))
theorem cr_111_108 {X : Nat → Option zz_C} {s : mS} {N : Nat} {d : Nat} (hd : 11 ≤ d) {Q : zz_O → zz_H → Prop} {x1 : Int64} {x3 : Int64} {x5 : Int32} {x7 : Int64} {h : zz_H} {t t' : cS} {o : kY} (hR : kR h t s) (hf : cf_111_108 N X x1 x3 x5 x7 t = some (t', o)) (k : (∀ h', kR h' t' s → kE o Q h')) : zz_J zp_P zt_tf zt_fd X d zm_111 108 [(0, .ref 59), (1, .long x1), (3, .long x3), (5, .int x5), (7, .long x7)] [] h Q := by
  unfold cf_111_108 at hf
  obtain ⟨d', rfl⟩ : ∃ d', d = d' + 1 := ⟨d - 1, by omega⟩
  refine cb_111_108 hR  (fun {h} hR => ?_)
  rcases ko_call_ok hf with ⟨g1, v1, er, hf⟩ | ⟨g1, er, hq⟩
  · obtain ⟨y, hv, hf2⟩ := co_i_ok hf
    clear hf
    have hf := hf2
    clear hf2
    subst hv
    refine cr_128 (by omega) hR er (fun h hR => ?_)
    exact cr_111_118 hd hR hf k
  · refine cr_128 (by omega) hR er (fun h hR => ?_)
    exact ko_thrown hq hR k
def cf_111_107 (N : Nat) (X : Nat → Option zz_C) (y0 : Int64) (t : cS) : kO := some (t, .inl (some (.long y0)))
theorem cr_111_107 {X : Nat → Option zz_C} {s : mS} {N : Nat} {d : Nat} (hd : 11 ≤ d) {Q : zz_O → zz_H → Prop} {y0 : Int64} {h : zz_H} {t t' : cS} {o : kY} (hR : kR h t s) (hf : cf_111_107 N X y0 t = some (t', o)) (k : (∀ h', kR h' t' s → kE o Q h')) : zz_J zp_P zt_tf zt_fd X d zm_111 107 [] [.long y0] h Q := by
  unfold cf_111_107 at hf
  cases hf
  exact cb_111_107 hR  (fun {h} hR => k h hR)
def cf_111_103 (N : Nat) (X : Nat → Option zz_C)  (t : cS) : kO := ko_call 1000 (cf_254 N X 1 t) (fun g1 v1 => co_l v1 (fun y => cf_111_107 N X y g1))
theorem cr_111_103 {X : Nat → Option zz_C} {s : mS} {N : Nat} {d : Nat} (hd : 11 ≤ d) {Q : zz_O → zz_H → Prop}  {h : zz_H} {t t' : cS} {o : kY} (hR : kR h t s) (hf : cf_111_103 N X  t = some (t', o)) (k : (∀ h', kR h' t' s → kE o Q h')) : zz_J zp_P zt_tf zt_fd X d zm_111 103 [] [] h Q := by
  unfold cf_111_103 at hf
  obtain ⟨d', rfl⟩ : ∃ d', d = d' + 1 := ⟨d - 1, by omega⟩
  refine cb_111_103 hR  (fun {h} hR => ?_)
  rcases ko_call_ok hf with ⟨g1, v1, er, hf⟩ | ⟨g1, er, hq⟩
  · obtain ⟨y, hv, hf2⟩ := co_l_ok hf
    clear hf
    have hf := hf2
    clear hf2
    subst hv
    refine cr_254 (by omega) hR er (fun h hR => ?_)
    exact cr_111_107 hd hR hf k
  · refine cr_254 (by omega) hR er (fun h hR => ?_)
    exact ko_thrown hq hR k
def cf_111_98 (N : Nat) (X : Nat → Option zz_C) (x1 : Int64) (x3 : Int64) (x5 : Int32) (x6 : Int32) (x7 : Int64) (t : cS) : kO := if 0 ≤ x6 then cf_111_108 N X x1 x3 x5 x7 t else cf_111_103 N X  t
theorem cr_111_98 {X : Nat → Option zz_C} {s : mS} {N : Nat} {d : Nat} (hd : 11 ≤ d) {Q : zz_O → zz_H → Prop} {x1 : Int64} {x3 : Int64} {x5 : Int32} {x6 : Int32} {x7 : Int64} {h : zz_H} {t t' : cS} {o : kY} (hR : kR h t s) (hf : cf_111_98 N X x1 x3 x5 x6 x7 t = some (t', o)) (k : (∀ h', kR h' t' s → kE o Q h')) : zz_J zp_P zt_tf zt_fd X d zm_111 98 [(0, .ref 59), (1, .long x1), (3, .long x3), (5, .int x5), (6, .int x6), (7, .long x7)] [] h Q := by
  unfold cf_111_98 at hf
  refine cb_111_98 hR  (fun c {h} hR => ?_) (fun c {h} hR => ?_)
  · rw [if_pos c] at hf
    exact cr_111_108 hd hR hf k
  · rw [if_neg c] at hf
    exact cr_111_103 hd hR hf k
def cf_111_97 (N : Nat) (X : Nat → Option zz_C) (y0 : Int64) (t : cS) : kO := some (t, .inl (some (.long y0)))
theorem cr_111_97 {X : Nat → Option zz_C} {s : mS} {N : Nat} {d : Nat} (hd : 11 ≤ d) {Q : zz_O → zz_H → Prop} {y0 : Int64} {h : zz_H} {t t' : cS} {o : kY} (hR : kR h t s) (hf : cf_111_97 N X y0 t = some (t', o)) (k : (∀ h', kR h' t' s → kE o Q h')) : zz_J zp_P zt_tf zt_fd X d zm_111 97 [] [.long y0] h Q := by
  unfold cf_111_97 at hf
  cases hf
  exact cb_111_97 hR  (fun {h} hR => k h hR)
def cf_111_93 (N : Nat) (X : Nat → Option zz_C)  (t : cS) : kO := ko_call 1000 (cf_254 N X 2 t) (fun g1 v1 => co_l v1 (fun y => cf_111_97 N X y g1))
theorem cr_111_93 {X : Nat → Option zz_C} {s : mS} {N : Nat} {d : Nat} (hd : 11 ≤ d) {Q : zz_O → zz_H → Prop}  {h : zz_H} {t t' : cS} {o : kY} (hR : kR h t s) (hf : cf_111_93 N X  t = some (t', o)) (k : (∀ h', kR h' t' s → kE o Q h')) : zz_J zp_P zt_tf zt_fd X d zm_111 93 [] [] h Q := by
  unfold cf_111_93 at hf
  obtain ⟨d', rfl⟩ : ∃ d', d = d' + 1 := ⟨d - 1, by omega⟩
  refine cb_111_93 hR  (fun {h} hR => ?_)
  rcases ko_call_ok hf with ⟨g1, v1, er, hf⟩ | ⟨g1, er, hq⟩
  · obtain ⟨y, hv, hf2⟩ := co_l_ok hf
    clear hf
    have hf := hf2
    clear hf2
    subst hv
    refine cr_254 (by omega) hR er (fun h hR => ?_)
    exact cr_111_97 hd hR hf k
  · refine cr_254 (by omega) hR er (fun h hR => ?_)
    exact ko_thrown hq hR k
def cf_111_86 (N : Nat) (X : Nat → Option zz_C) (x1 : Int64) (x3 : Int64) (x5 : Int32) (x6 : Int32) (x7 : Int64) (t : cS) : kO := if x5 ≤ 20 then cf_111_98 N X x1 x3 x5 x6 x7 t else cf_111_93 N X  t
theorem cr_111_86 {X : Nat → Option zz_C} {s : mS} {N : Nat} {d : Nat} (hd : 11 ≤ d) {Q : zz_O → zz_H → Prop} {x1 : Int64} {x3 : Int64} {x5 : Int32} {x6 : Int32} {x7 : Int64} {h : zz_H} {t t' : cS} {o : kY} (hR : kR h t s) (hf : cf_111_86 N X x1 x3 x5 x6 x7 t = some (t', o)) (k : (∀ h', kR h' t' s → kE o Q h')) : zz_J zp_P zt_tf zt_fd X d zm_111 86 [(0, .ref 59), (1, .long x1), (3, .long x3), (5, .int x5), (6, .int x6), (7, .long x7)] [] h Q := by
  unfold cf_111_86 at hf
  refine cb_111_86 hR  (fun c {h} hR => ?_) (fun c {h} hR => ?_)
  · rw [if_pos c] at hf
    exact cr_111_98 hd hR hf k
  · rw [if_neg c] at hf
    exact cr_111_93 hd hR hf k
def cf_111_76 (N : Nat) (X : Nat → Option zz_C) (rc : Nat → Int64 → Int64 → Int32 → Int32 → Int64 → Int32 → cS → kO) (x1 : Int64) (x3 : Int64) (x5 : Int32) (x6 : Int32) (x9 : Int32) (y0 : Int64) (y1 : Int32) (t : cS) : kO := rc 0 x1 x3 x5 x6 (y0 + (Int32.toInt64 y1)) (x9 + 1) t
theorem cr_111_76 {X : Nat → Option zz_C} {s : mS} {N : Nat} {d : Nat} (hd : 11 ≤ d) {rc : Nat → Int64 → Int64 → Int32 → Int32 → Int64 → Int32 → cS → kO} (hrc0 : ∀ {Q : zz_O → zz_H → Prop} {x1 : Int64} {x3 : Int64} {x5 : Int32} {x6 : Int32} {x7 : Int64} {x9 : Int32} {h : zz_H} {t t' : cS} {o : kY}, kR h t s → rc 0 x1 x3 x5 x6 x7 x9 t = some (t', o) → (∀ h', kR h' t' s → kE o Q h') → zz_J zp_P zt_tf zt_fd X d zm_111 40 [(0, .ref 59), (1, .long x1), (3, .long x3), (5, .int x5), (6, .int x6), (7, .long x7), (9, .int x9)] [] h Q) {Q : zz_O → zz_H → Prop} {x1 : Int64} {x3 : Int64} {x5 : Int32} {x6 : Int32} {x9 : Int32} {y0 : Int64} {y1 : Int32} {h : zz_H} {t t' : cS} {o : kY} (hR : kR h t s) (hf : cf_111_76 N X rc x1 x3 x5 x6 x9 y0 y1 t = some (t', o)) (k : (∀ h', kR h' t' s → kE o Q h')) : zz_J zp_P zt_tf zt_fd X d zm_111 76 [(0, .ref 59), (1, .long x1), (3, .long x3), (5, .int x5), (6, .int x6), (9, .int x9)] [.int y1, .long y0] h Q := by
  unfold cf_111_76 at hf
  exact cb_111_76 hR  (fun hR => hrc0 hR hf k)
def cf_111_59 (N : Nat) (X : Nat → Option zz_C) (rc : Nat → Int64 → Int64 → Int32 → Int32 → Int64 → Int32 → cS → kO) (x1 : Int64) (x3 : Int64) (x5 : Int32) (x7 : Int64) (x9 : Int32) (y0 : Int32) (y1 : Int32) (t : cS) : kO := ko_call 2 (cf_130 N X x3 x9 t) (fun g1 v1 => co_i v1 (fun y => cf_111_76 N X rc x1 x3 x5 (if y1 < (y0 : Int32) then y1 else y0) x9 x7 y g1))
theorem cr_111_59 {X : Nat → Option zz_C} {s : mS} {N : Nat} {d : Nat} (hd : 11 ≤ d) {rc : Nat → Int64 → Int64 → Int32 → Int32 → Int64 → Int32 → cS → kO} (hrc0 : ∀ {Q : zz_O → zz_H → Prop} {x1 : Int64} {x3 : Int64} {x5 : Int32} {x6 : Int32} {x7 : Int64} {x9 : Int32} {h : zz_H} {t t' : cS} {o : kY}, kR h t s → rc 0 x1 x3 x5 x6 x7 x9 t = some (t', o) → (∀ h', kR h' t' s → kE o Q h') → zz_J zp_P zt_tf zt_fd X d zm_111 40 [(0, .ref 59), (1, .long x1), (3, .long x3), (5, .int x5), (6, .int x6), (7, .long x7), (9, .int x9)] [] h Q) {Q : zz_O → zz_H → Prop} {x1 : Int64} {x3 : Int64} {x5 : Int32} {x7 : Int64} {x9 : Int32} {y0 : Int32} {y1 : Int32} {h : zz_H} {t t' : cS} {o : kY} (hR : kR h t s) (hf : cf_111_59 N X rc x1 x3 x5 x7 x9 y0 y1 t = some (t', o)) (k : (∀ h', kR h' t' s → kE o Q h')) : zz_J zp_P zt_tf zt_fd X d zm_111 59 [(0, .ref 59), (1, .long x1), (3, .long x3), (5, .int x5), (7, .long x7), (9, .int x9)] [.int y1, .int y0] h Q := by
  unfold cf_111_59 at hf
  obtain ⟨d', rfl⟩ : ∃ d', d = d' + 1 := ⟨d - 1, by omega⟩
  refine cb_111_59 hR  (fun {h} hR => ?_)
  rcases ko_call_ok hf with ⟨g1, v1, er, hf⟩ | ⟨g1, er, hq⟩
  · obtain ⟨y, hv, hf2⟩ := co_i_ok hf
    clear hf
    have hf := hf2
    clear hf2
    subst hv
    refine cr_130 (by omega) hR er (fun h hR => ?_)
    exact cr_111_76 hd hrc0 hR hf k
  · refine cr_130 (by omega) hR er (fun h hR => ?_)
    exact ko_thrown hq hR k
def cf_111_47 (N : Nat) (X : Nat → Option zz_C) (rc : Nat → Int64 → Int64 → Int32 → Int32 → Int64 → Int32 → cS → kO) (x1 : Int64) (x3 : Int64) (x5 : Int32) (x6 : Int32) (x7 : Int64) (x9 : Int32) (t : cS) : kO := ko_call 2 (cf_130 N X x3 x9 t) (fun g1 v1 => co_i v1 (fun y => cf_111_59 N X rc x1 x3 x5 x7 x9 x6 y g1))
theorem cr_111_47 {X : Nat → Option zz_C} {s : mS} {N : Nat} {d : Nat} (hd : 11 ≤ d) {rc : Nat → Int64 → Int64 → Int32 → Int32 → Int64 → Int32 → cS → kO} (hrc0 : ∀ {Q : zz_O → zz_H → Prop} {x1 : Int64} {x3 : Int64} {x5 : Int32} {x6 : Int32} {x7 : Int64} {x9 : Int32} {h : zz_H} {t t' : cS} {o : kY}, kR h t s → rc 0 x1 x3 x5 x6 x7 x9 t = some (t', o) → (∀ h', kR h' t' s → kE o Q h') → zz_J zp_P zt_tf zt_fd X d zm_111 40 [(0, .ref 59), (1, .long x1), (3, .long x3), (5, .int x5), (6, .int x6), (7, .long x7), (9, .int x9)] [] h Q) {Q : zz_O → zz_H → Prop} {x1 : Int64} {x3 : Int64} {x5 : Int32} {x6 : Int32} {x7 : Int64} {x9 : Int32} {h : zz_H} {t t' : cS} {o : kY} (hR : kR h t s) (hf : cf_111_47 N X rc x1 x3 x5 x6 x7 x9 t = some (t', o)) (k : (∀ h', kR h' t' s → kE o Q h')) : zz_J zp_P zt_tf zt_fd X d zm_111 47 [(0, .ref 59), (1, .long x1), (3, .long x3), (5, .int x5), (6, .int x6), (7, .long x7), (9, .int x9)] [] h Q := by
  unfold cf_111_47 at hf
  obtain ⟨d', rfl⟩ : ∃ d', d = d' + 1 := ⟨d - 1, by omega⟩
  refine cb_111_47 hR  (fun {h} hR => ?_)
  rcases ko_call_ok hf with ⟨g1, v1, er, hf⟩ | ⟨g1, er, hq⟩
  · obtain ⟨y, hv, hf2⟩ := co_i_ok hf
    clear hf
    have hf := hf2
    clear hf2
    subst hv
    refine cr_130 (by omega) hR er (fun h hR => ?_)
    exact cr_111_59 hd hrc0 hR hf k
  · refine cr_130 (by omega) hR er (fun h hR => ?_)
    exact ko_thrown hq hR k
def cf_111_40 (N : Nat) (X : Nat → Option zz_C) (rc : Nat → Int64 → Int64 → Int32 → Int32 → Int64 → Int32 → cS → kO) (x1 : Int64) (x3 : Int64) (x5 : Int32) (x6 : Int32) (x7 : Int64) (x9 : Int32) (t : cS) : kO := if x5 ≤ x9 then cf_111_86 N X x1 x3 x5 x6 x7 t else cf_111_47 N X rc x1 x3 x5 x6 x7 x9 t
theorem cr_111_40 {X : Nat → Option zz_C} {s : mS} {N : Nat} {d : Nat} (hd : 11 ≤ d) {rc : Nat → Int64 → Int64 → Int32 → Int32 → Int64 → Int32 → cS → kO} (hrc0 : ∀ {Q : zz_O → zz_H → Prop} {x1 : Int64} {x3 : Int64} {x5 : Int32} {x6 : Int32} {x7 : Int64} {x9 : Int32} {h : zz_H} {t t' : cS} {o : kY}, kR h t s → rc 0 x1 x3 x5 x6 x7 x9 t = some (t', o) → (∀ h', kR h' t' s → kE o Q h') → zz_J zp_P zt_tf zt_fd X d zm_111 40 [(0, .ref 59), (1, .long x1), (3, .long x3), (5, .int x5), (6, .int x6), (7, .long x7), (9, .int x9)] [] h Q) {Q : zz_O → zz_H → Prop} {x1 : Int64} {x3 : Int64} {x5 : Int32} {x6 : Int32} {x7 : Int64} {x9 : Int32} {h : zz_H} {t t' : cS} {o : kY} (hR : kR h t s) (hf : cf_111_40 N X rc x1 x3 x5 x6 x7 x9 t = some (t', o)) (k : (∀ h', kR h' t' s → kE o Q h')) : zz_J zp_P zt_tf zt_fd X d zm_111 40 [(0, .ref 59), (1, .long x1), (3, .long x3), (5, .int x5), (6, .int x6), (7, .long x7), (9, .int x9)] [] h Q := by
  unfold cf_111_40 at hf
  refine cb_111_40 hR  (fun c {h} hR => ?_) (fun c {h} hR => ?_)
  · rw [if_pos c] at hf
    exact cr_111_86 hd hR hf k
  · rw [if_neg c] at hf
    exact cr_111_47 hd hrc0 hR hf k
def cf_111_L17 (N : Nat) (X : Nat → Option zz_C) : Nat → Nat → Int64 → Int64 → Int32 → Int32 → Int64 → Int32 → cS → kO
  | 0, _, _, _, _, _, _, _, _ => none
  | n + 1, l, x1, x3, x5, x6, x7, x9, t => if l = 0 then cf_111_40 N X (cf_111_L17 N X n) x1 x3 x5 x6 x7 x9 t else none
theorem cr_111_L17 {X : Nat → Option zz_C} {s : mS} {N : Nat} {d : Nat} (hd : 11 ≤ d) : ∀ n : Nat, (∀ {Q : zz_O → zz_H → Prop} {x1 : Int64} {x3 : Int64} {x5 : Int32} {x6 : Int32} {x7 : Int64} {x9 : Int32} {h : zz_H} {t t' : cS} {o : kY}, kR h t s → cf_111_L17 N X n 0 x1 x3 x5 x6 x7 x9 t = some (t', o) → (∀ h', kR h' t' s → kE o Q h') → zz_J zp_P zt_tf zt_fd X d zm_111 40 [(0, .ref 59), (1, .long x1), (3, .long x3), (5, .int x5), (6, .int x6), (7, .long x7), (9, .int x9)] [] h Q) := by
  intro n
  induction n with
  | zero => exact (fun _ hf _ => by cases hf)
  | succ n ih =>
    have h0 := @ih
    intro Q _ _ _ _ _ _ h t t' o hR hf k
    unfold cf_111_L17 at hf
    rw [if_pos rfl] at hf
    exact cr_111_40 hd h0 hR hf k
def cf_111_29 (N : Nat) (X : Nat → Option zz_C) (x1 : Int64) (x3 : Int64) (y0 : Int32) (t : cS) : kO := cf_111_L17 N X N 0 x1 x3 y0 0 0 0 t
theorem cr_111_29 {X : Nat → Option zz_C} {s : mS} {N : Nat} {d : Nat} (hd : 11 ≤ d) {Q : zz_O → zz_H → Prop} {x1 : Int64} {x3 : Int64} {y0 : Int32} {h : zz_H} {t t' : cS} {o : kY} (hR : kR h t s) (hf : cf_111_29 N X x1 x3 y0 t = some (t', o)) (k : (∀ h', kR h' t' s → kE o Q h')) : zz_J zp_P zt_tf zt_fd X d zm_111 29 [(0, .ref 59), (1, .long x1), (3, .long x3)] [.int y0] h Q := by
  unfold cf_111_29 at hf
  exact cb_111_29 hR  (fun hR => cr_111_L17 hd N hR hf k)
def cf_111_21 (N : Nat) (X : Nat → Option zz_C) (x1 : Int64) (x3 : Int64) (t : cS) : kO := ko_call 2 (cf_128 N X x3 t) (fun g1 v1 => co_i v1 (fun y => cf_111_29 N X x1 x3 y g1))
theorem cr_111_21 {X : Nat → Option zz_C} {s : mS} {N : Nat} {d : Nat} (hd : 11 ≤ d) {Q : zz_O → zz_H → Prop} {x1 : Int64} {x3 : Int64} {h : zz_H} {t t' : cS} {o : kY} (hR : kR h t s) (hf : cf_111_21 N X x1 x3 t = some (t', o)) (k : (∀ h', kR h' t' s → kE o Q h')) : zz_J zp_P zt_tf zt_fd X d zm_111 21 [(0, .ref 59), (1, .long x1), (3, .long x3)] [] h Q := by
  unfold cf_111_21 at hf
  obtain ⟨d', rfl⟩ : ∃ d', d = d' + 1 := ⟨d - 1, by omega⟩
  refine cb_111_21 hR  (fun {h} hR => ?_)
  rcases ko_call_ok hf with ⟨g1, v1, er, hf⟩ | ⟨g1, er, hq⟩
  · obtain ⟨y, hv, hf2⟩ := co_i_ok hf
    clear hf
    have hf := hf2
    clear hf2
    subst hv
    refine cr_128 (by omega) hR er (fun h hR => ?_)
    exact cr_111_29 hd hR hf k
  · refine cr_128 (by omega) hR er (fun h hR => ?_)
    exact ko_thrown hq hR k
def cf_111_12 (N : Nat) (X : Nat → Option zz_C) (x1 : Int64) (x3 : Int64) (y0 : Int32) (t : cS) : kO := if y0 = 1 then cf_111_21 N X x1 x3 t else cf_111_16 N X  t
theorem cr_111_12 {X : Nat → Option zz_C} {s : mS} {N : Nat} {d : Nat} (hd : 11 ≤ d) {Q : zz_O → zz_H → Prop} {x1 : Int64} {x3 : Int64} {y0 : Int32} {h : zz_H} {t t' : cS} {o : kY} (hR : kR h t s) (hf : cf_111_12 N X x1 x3 y0 t = some (t', o)) (k : (∀ h', kR h' t' s → kE o Q h')) : zz_J zp_P zt_tf zt_fd X d zm_111 12 [(0, .ref 59), (1, .long x1), (3, .long x3)] [.int y0] h Q := by
  unfold cf_111_12 at hf
  refine cb_111_12 hR  (fun c {h} hR => ?_) (fun c {h} hR => ?_)
  · rw [if_pos c] at hf
    exact cr_111_21 hd hR hf k
  · rw [if_neg c] at hf
    exact cr_111_16 hd hR hf k
def cf_111_8 (N : Nat) (X : Nat → Option zz_C) (x1 : Int64) (x3 : Int64) (t : cS) : kO := ko_call 1000 (cf_255 N X x3 t) (fun g1 v1 => co_i v1 (fun y => cf_111_12 N X x1 x3 y g1))
theorem cr_111_8 {X : Nat → Option zz_C} {s : mS} {N : Nat} {d : Nat} (hd : 11 ≤ d) {Q : zz_O → zz_H → Prop} {x1 : Int64} {x3 : Int64} {h : zz_H} {t t' : cS} {o : kY} (hR : kR h t s) (hf : cf_111_8 N X x1 x3 t = some (t', o)) (k : (∀ h', kR h' t' s → kE o Q h')) : zz_J zp_P zt_tf zt_fd X d zm_111 8 [(0, .ref 59), (1, .long x1), (3, .long x3)] [] h Q := by
  unfold cf_111_8 at hf
  obtain ⟨d', rfl⟩ : ∃ d', d = d' + 1 := ⟨d - 1, by omega⟩
  refine cb_111_8 hR  (fun {h} hR => ?_)
  rcases ko_call_ok hf with ⟨g1, v1, er, hf⟩ | ⟨g1, er, hq⟩
  · obtain ⟨y, hv, hf2⟩ := co_i_ok hf
    clear hf
    have hf := hf2
    clear hf2
    subst hv
    refine cr_255 (by omega) hR er (fun h hR => ?_)
    exact cr_111_12 hd hR hf k
  · refine cr_255 (by omega) hR er (fun h hR => ?_)
    exact ko_thrown hq hR k
def cf_111_4 (N : Nat) (X : Nat → Option zz_C) (x1 : Int64) (x3 : Int64) (y0 : Int32) (t : cS) : kO := if ¬ y0 = 1 then cf_111_16 N X  t else cf_111_8 N X x1 x3 t
theorem cr_111_4 {X : Nat → Option zz_C} {s : mS} {N : Nat} {d : Nat} (hd : 11 ≤ d) {Q : zz_O → zz_H → Prop} {x1 : Int64} {x3 : Int64} {y0 : Int32} {h : zz_H} {t t' : cS} {o : kY} (hR : kR h t s) (hf : cf_111_4 N X x1 x3 y0 t = some (t', o)) (k : (∀ h', kR h' t' s → kE o Q h')) : zz_J zp_P zt_tf zt_fd X d zm_111 4 [(0, .ref 59), (1, .long x1), (3, .long x3)] [.int y0] h Q := by
  unfold cf_111_4 at hf
  refine cb_111_4 hR  (fun c {h} hR => ?_) (fun c {h} hR => ?_)
  · rw [if_pos c] at hf
    exact cr_111_16 hd hR hf k
  · rw [if_neg c] at hf
    exact cr_111_8 hd hR hf k
def cf_111_0 (N : Nat) (X : Nat → Option zz_C) (x1 : Int64) (x3 : Int64) (t : cS) : kO := ko_call 1000 (cf_255 N X x1 t) (fun g1 v1 => co_i v1 (fun y => cf_111_4 N X x1 x3 y g1))
theorem cr_111_0 {X : Nat → Option zz_C} {s : mS} {N : Nat} {d : Nat} (hd : 11 ≤ d) {Q : zz_O → zz_H → Prop} {x1 : Int64} {x3 : Int64} {h : zz_H} {t t' : cS} {o : kY} (hR : kR h t s) (hf : cf_111_0 N X x1 x3 t = some (t', o)) (k : (∀ h', kR h' t' s → kE o Q h')) : zz_J zp_P zt_tf zt_fd X d zm_111 0 [(0, .ref 59), (1, .long x1), (3, .long x3)] [] h Q := by
  unfold cf_111_0 at hf
  obtain ⟨d', rfl⟩ : ∃ d', d = d' + 1 := ⟨d - 1, by omega⟩
  refine cb_111_0 hR  (fun {h} hR => ?_)
  rcases ko_call_ok hf with ⟨g1, v1, er, hf⟩ | ⟨g1, er, hq⟩
  · obtain ⟨y, hv, hf2⟩ := co_i_ok hf
    clear hf
    have hf := hf2
    clear hf2
    subst hv
    refine cr_255 (by omega) hR er (fun h hR => ?_)
    exact cr_111_4 hd hR hf k
  · refine cr_255 (by omega) hR er (fun h hR => ?_)
    exact ko_thrown hq hR k
/-- cut -/
def cf_111 (N : Nat) (X : Nat → Option zz_C) (x1 : Int64) (x3 : Int64) (t : cS) : kO := cf_111_0 N X x1 x3 t
theorem cr_111 {X : Nat → Option zz_C} {s : mS} {N : Nat} {d : Nat} (hd : 11 ≤ d) {Q : zz_O → zz_H → Prop} {x1 : Int64} {x3 : Int64} {h : zz_H} {t t' : cS} {o : kY} (hR : kR h t s) (hf : cf_111 N X x1 x3 t = some (t', o)) (k : ∀ h', kR h' t' s → kE o Q h') : zz_J zp_P zt_tf zt_fd X d zm_111 0 [(0, .ref 59), (1, .long x1), (3, .long x3)] [] h Q := by
  unfold cf_111 at hf
  exact zz_J.weak (cr_111_0 hd hR hf k) rfl ⟨rfl, rfl, rfl, trivial⟩
/-! yX1_pick (JJ)J -/
theorem cb_113_0 {X : Nat → Option zz_C} {h : zz_H} {t : cS} {s : mS} {d : Nat} {Q : zz_O → zz_H → Prop} {x1 : Int64} {x3 : Int64} (hR : kR h t s) (k : ∀ {h : zz_H}, kR h t s → zz_J zp_P zt_tf zt_fd X d zm_255 0 [(0, .long x1)] [] h (zz_after 1000 Q (fun v h' => zz_J zp_P zt_tf zt_fd X (d + 1) zm_113 4 [(0, .ref 59), (1, .long x1), (3, .long x3)] (v.toList ++ []) h' Q))) : zz_J zp_P zt_tf zt_fd X (d + 1) zm_113 0 [(0, .ref 59), (1, .long x1), (3, .long x3)] [] h Q := by
  refine zz_J.n 1 rfl rfl rfl ?_
  refine zz_J.cl (M' := zm_255) 4 rfl rfl (by decide) rfl rfl ⟨rfl, Nat.le_of_ble_eq_true rfl⟩ rfl ?_
  refine zz_J.mono (k hR) ?_
  intro o h' hE
  cases o with
  | inl v => exact zz_J.weak hE rfl ⟨rfl, rfl, rfl, trivial⟩
  | inr q => exact hE
theorem cb_113_4 {X : Nat → Option zz_C} {h : zz_H} {t : cS} {s : mS} {d : Nat} {Q : zz_O → zz_H → Prop} {x1 : Int64} {x3 : Int64} {y0 : Int32} (hR : kR h t s) (k1 : y0 = 0 → (∀ {h : zz_H}, kR h t s → zz_J zp_P zt_tf zt_fd X d zm_113 15 [] [] h Q)) (k2 : ¬ y0 = 0 → (∀ {h : zz_H}, kR h t s → zz_J zp_P zt_tf zt_fd X d zm_113 7 [(0, .ref 59), (1, .long x1), (3, .long x3)] [] h Q)) : zz_J zp_P zt_tf zt_fd X d zm_113 4 [(0, .ref 59), (1, .long x1), (3, .long x3)] [.int y0] h Q := by
  refine zz_J.b1 15 7 (A := y0 = 0) rfl rfl (by decide) rfl rfl (fun c => ?_) (fun c => ?_)
  · exact zz_J.weak (k1 c hR) rfl trivial
  · exact zz_J.weak (k2 c hR) rfl ⟨rfl, rfl, rfl, trivial⟩
theorem cb_113_7 {X : Nat → Option zz_C} {h : zz_H} {t : cS} {s : mS} {d : Nat} {Q : zz_O → zz_H → Prop} {x1 : Int64} {x3 : Int64} (hR : kR h t s) (k : ∀ {h : zz_H}, kR h t s → zz_J zp_P zt_tf zt_fd X d zm_255 0 [(0, .long x3)] [] h (zz_after 1000 Q (fun v h' => zz_J zp_P zt_tf zt_fd X (d + 1) zm_113 11 [(0, .ref 59), (1, .long x1), (3, .long x3)] (v.toList ++ []) h' Q))) : zz_J zp_P zt_tf zt_fd X (d + 1) zm_113 7 [(0, .ref 59), (1, .long x1), (3, .long x3)] [] h Q := by
  refine zz_J.n 8 rfl rfl rfl ?_
  refine zz_J.cl (M' := zm_255) 11 rfl rfl (by decide) rfl rfl ⟨rfl, Nat.le_of_ble_eq_true rfl⟩ rfl ?_
  refine zz_J.mono (k hR) ?_
  intro o h' hE
  cases o with
  | inl v => exact zz_J.weak hE rfl ⟨rfl, rfl, rfl, trivial⟩
  | inr q => exact hE
theorem cb_113_11 {X : Nat → Option zz_C} {h : zz_H} {t : cS} {s : mS} {d : Nat} {Q : zz_O → zz_H → Prop} {x1 : Int64} {x3 : Int64} {y0 : Int32} (hR : kR h t s) (k1 : y0 = 1 → (∀ {h : zz_H}, kR h t s → zz_J zp_P zt_tf zt_fd X d zm_113 20 [(0, .ref 59), (1, .long x1), (3, .long x3)] [] h Q)) (k2 : ¬ y0 = 1 → (∀ {h : zz_H}, kR h t s → zz_J zp_P zt_tf zt_fd X d zm_113 15 [] [] h Q)) : zz_J zp_P zt_tf zt_fd X d zm_113 11 [(0, .ref 59), (1, .long x1), (3, .long x3)] [.int y0] h Q := by
  refine zz_J.c 12 (.int 1) rfl rfl rfl rfl ?_
  refine zz_J.b2 20 15 (A := y0 = 1) rfl rfl (by decide) rfl rfl (fun c => ?_) (fun c => ?_)
  · exact zz_J.weak (k1 c hR) rfl ⟨rfl, rfl, rfl, trivial⟩
  · exact zz_J.weak (k2 c hR) rfl trivial
theorem cb_113_15 {X : Nat → Option zz_C} {h : zz_H} {t : cS} {s : mS} {d : Nat} {Q : zz_O → zz_H → Prop}  (hR : kR h t s) (k : ∀ {h : zz_H}, kR h t s → zz_J zp_P zt_tf zt_fd X d zm_254 0 [(0, .int 3)] [] h (zz_after 1000 Q (fun v h' => zz_J zp_P zt_tf zt_fd X (d + 1) zm_113 19 [] (v.toList ++ []) h' Q))) : zz_J zp_P zt_tf zt_fd X (d + 1) zm_113 15 [] [] h Q := by
  refine zz_J.c 16 (.int 3) rfl rfl rfl rfl ?_
  refine zz_J.cl (M' := zm_254) 19 rfl rfl (by decide) rfl rfl ⟨rfl, Nat.le_of_ble_eq_true rfl⟩ rfl ?_
  refine zz_J.mono (k hR) ?_
  intro o h' hE
  cases o with
  | inl v => exact zz_J.weak hE rfl trivial
  | inr q => exact hE
theorem cb_113_19 {X : Nat → Option zz_C} {h : zz_H} {t : cS} {s : mS} {d : Nat} {Q : zz_O → zz_H → Prop} {y0 : Int64} (hR : kR h t s) (k : ∀ {h : zz_H}, kR h t s → Q (.inl (some (.long y0))) h) : zz_J zp_P zt_tf zt_fd X d zm_113 19 [] [.long y0] h Q := by
  refine zz_J.ret rfl rfl rfl ?_
  exact k hR
theorem cb_113_20 {X : Nat → Option zz_C} {h : zz_H} {t : cS} {s : mS} {d : Nat} {Q : zz_O → zz_H → Prop} {x1 : Int64} {x3 : Int64} (hR : kR h t s) (k : ∀ {h : zz_H}, kR h t s → zz_J zp_P zt_tf zt_fd X d zm_128 0 [(0, .ref 42), (1, .long x1)] [] h (zz_after 2 Q (fun v h' => zz_J zp_P zt_tf zt_fd X (d + 1) zm_113 28 [(0, .ref 59), (1, .long x1), (3, .long x3)] (v.toList ++ []) h' Q))) : zz_J zp_P zt_tf zt_fd X (d + 1) zm_113 20 [(0, .ref 59), (1, .long x1), (3, .long x3)] [] h Q := by
  refine zz_J.n 21 rfl rfl rfl ?_
  refine zz_J.g 24 rfl (hR.gv (v := .ref 42) ko_59 (by decide) rfl) rfl ?_
  refine zz_J.n 25 rfl rfl rfl ?_
  refine zz_J.cv 28 (as := []) rfl rfl (hR.clO ko_42 (by decide) (by decide)) (by decide) (Nat.le_of_ble_eq_true rfl) (Nat.le_of_ble_eq_true rfl) rfl (Nat.le_of_ble_eq_true rfl) rfl ?_
  refine zz_J.mono (k hR) ?_
  intro o h' hE
  cases o with
  | inl v => exact zz_J.weak hE rfl ⟨rfl, rfl, rfl, trivial⟩
  | inr q => exact hE
theorem cb_113_28 {X : Nat → Option zz_C} {h : zz_H} {t : cS} {s : mS} {d : Nat} {Q : zz_O → zz_H → Prop} {x1 : Int64} {x3 : Int64} {y0 : Int32} (hR : kR h t s) (k : ∀ {h : zz_H}, kR h t s → zz_J zp_P zt_tf zt_fd X d zm_128 0 [(0, .ref 42), (1, .long x3)] [] h (zz_after 2 Q (fun v h' => zz_J zp_P zt_tf zt_fd X (d + 1) zm_113 40 [(0, .ref 59), (1, .long x1), (3, .long x3), (5, .int y0)] (v.toList ++ [.int y0]) h' Q))) : zz_J zp_P zt_tf zt_fd X (d + 1) zm_113 28 [(0, .ref 59), (1, .long x1), (3, .long x3)] [.int y0] h Q := by
  refine zz_J.n 30 rfl rfl rfl ?_
  refine zz_J.n 32 rfl rfl rfl ?_
  refine zz_J.n 33 rfl rfl rfl ?_
  refine zz_J.g 36 rfl (hR.gv (v := .ref 42) ko_59 (by decide) rfl) rfl ?_
  refine zz_J.n 37 rfl rfl rfl ?_
  refine zz_J.cv 40 (as := [.int y0]) rfl rfl (hR.clO ko_42 (by decide) (by decide)) (by decide) (Nat.le_of_ble_eq_true rfl) (Nat.le_of_ble_eq_true rfl) rfl (Nat.le_of_ble_eq_true rfl) rfl ?_
  refine zz_J.mono (k hR) ?_
  intro o h' hE
  cases o with
  | inl v => exact zz_J.weak hE rfl ⟨rfl, rfl, rfl, rfl, trivial⟩
  | inr q => exact hE
theorem cb_113_40 {X : Nat → Option zz_C} {h : zz_H} {t : cS} {s : mS} {d : Nat} {Q : zz_O → zz_H → Prop} {x1 : Int64} {x3 : Int64} {x5 : Int32} {y0 : Int32} {y1 : Int32} (hR : kR h t s) (k1 : y0 = y1 → (∀ {h : zz_H}, kR h t s → zz_J zp_P zt_tf zt_fd X d zm_113 48 [(0, .ref 59), (1, .long x1), (3, .long x3), (5, .int x5)] [] h Q)) (k2 : ¬ y0 = y1 → (∀ {h : zz_H}, kR h t s → zz_J zp_P zt_tf zt_fd X d zm_113 43 [] [] h Q)) : zz_J zp_P zt_tf zt_fd X d zm_113 40 [(0, .ref 59), (1, .long x1), (3, .long x3), (5, .int x5)] [.int y1, .int y0] h Q := by
  refine zz_J.b2 48 43 (A := y0 = y1) rfl rfl (by decide) rfl rfl (fun c => ?_) (fun c => ?_)
  · exact zz_J.weak (k1 c hR) rfl ⟨rfl, rfl, rfl, rfl, trivial⟩
  · exact zz_J.weak (k2 c hR) rfl trivial
theorem cb_113_43 {X : Nat → Option zz_C} {h : zz_H} {t : cS} {s : mS} {d : Nat} {Q : zz_O → zz_H → Prop}  (hR : kR h t s) (k : ∀ {h : zz_H}, kR h t s → zz_J zp_P zt_tf zt_fd X d zm_254 0 [(0, .int 4)] [] h (zz_after 1000 Q (fun v h' => zz_J zp_P zt_tf zt_fd X (d + 1) zm_113 47 [] (v.toList ++ []) h' Q))) : zz_J zp_P zt_tf zt_fd X (d + 1) zm_113 43 [] [] h Q := by
  refine zz_J.c 44 (.int 4) rfl rfl rfl rfl ?_
  refine zz_J.cl (M' := zm_254) 47 rfl rfl (by decide) rfl rfl ⟨rfl, Nat.le_of_ble_eq_true rfl⟩ rfl ?_
  refine zz_J.mono (k hR) ?_
  intro o h' hE
  cases o with
  | inl v => exact zz_J.weak hE rfl trivial
  | inr q => exact hE
theorem cb_113_47 {X : Nat → Option zz_C} {h : zz_H} {t : cS} {s : mS} {d : Nat} {Q : zz_O → zz_H → Prop} {y0 : Int64} (hR : kR h t s) (k : ∀ {h : zz_H}, kR h t s → Q (.inl (some (.long y0))) h) : zz_J zp_P zt_tf zt_fd X d zm_113 47 [] [.long y0] h Q := by
  refine zz_J.ret rfl rfl rfl ?_
  exact k hR
theorem cb_113_48 {X : Nat → Option zz_C} {h : zz_H} {t : cS} {s : mS} {d : Nat} {Q : zz_O → zz_H → Prop} {x1 : Int64} {x3 : Int64} {x5 : Int32} (hR : kR h t s) (k : ∀ {h : zz_H}, kR h t s → zz_J zp_P zt_tf zt_fd X d zm_122 0 [(0, .ref 42)] [] h (zz_after 2 Q (fun v h' => zz_J zp_P zt_tf zt_fd X (d + 1) zm_113 55 [(0, .ref 59), (1, .long x1), (3, .long x3), (5, .int x5)] (v.toList ++ []) h' Q))) : zz_J zp_P zt_tf zt_fd X (d + 1) zm_113 48 [(0, .ref 59), (1, .long x1), (3, .long x3), (5, .int x5)] [] h Q := by
  refine zz_J.n 49 rfl rfl rfl ?_
  refine zz_J.g 52 rfl (hR.gv (v := .ref 42) ko_59 (by decide) rfl) rfl ?_
  refine zz_J.cv 55 (as := []) rfl rfl (hR.clO ko_42 (by decide) (by decide)) (by decide) (Nat.le_of_ble_eq_true rfl) (Nat.le_of_ble_eq_true rfl) rfl (Nat.le_of_ble_eq_true rfl) rfl ?_
  refine zz_J.mono (k hR) ?_
  intro o h' hE
  cases o with
  | inl v => exact zz_J.weak hE rfl ⟨rfl, rfl, rfl, rfl, trivial⟩
  | inr q => exact hE
theorem cb_113_55 {X : Nat → Option zz_C} {h : zz_H} {t : cS} {s : mS} {d : Nat} {Q : zz_O → zz_H → Prop} {x1 : Int64} {x3 : Int64} {x5 : Int32} {y0 : Int32} (hR : kR h t s) (k : ∀ {h : zz_H}, kR h t s → zz_J zp_P zt_tf zt_fd X d zm_113 60 [(0, .ref 59), (1, .long x1), (3, .long x3), (5, .int x5), (6, .int y0), (7, .int 0)] [] h Q) : zz_J zp_P zt_tf zt_fd X d zm_113 55 [(0, .ref 59), (1, .long x1), (3, .long x3), (5, .int x5)] [.int y0] h Q := by
  refine zz_J.n 57 rfl rfl rfl ?_
  refine zz_J.c 58 (.int 0) rfl rfl rfl rfl ?_
  refine zz_J.n 60 rfl rfl rfl ?_
  exact zz_J.weak (k hR) rfl ⟨rfl, rfl, rfl, rfl, rfl, rfl, trivial⟩
theorem cb_113_60 {X : Nat → Option zz_C} {h : zz_H} {t : cS} {s : mS} {d : Nat} {Q : zz_O → zz_H → Prop} {x1 : Int64} {x3 : Int64} {x5 : Int32} {x6 : Int32} {x7 : Int32} (hR : kR h t s) (k1 : x5 ≤ x7 → (∀ {h : zz_H}, kR h t s → zz_J zp_P zt_tf zt_fd X d zm_113 103 [(0, .ref 59), (1, .long x1), (6, .int x6)] [] h Q)) (k2 : ¬ x5 ≤ x7 → (∀ {h : zz_H}, kR h t s → zz_J zp_P zt_tf zt_fd X d zm_113 67 [(0, .ref 59), (1, .long x1), (3, .long x3), (5, .int x5), (6, .int x6), (7, .int x7)] [] h Q)) : zz_J zp_P zt_tf zt_fd X d zm_113 60 [(0, .ref 59), (1, .long x1), (3, .long x3), (5, .int x5), (6, .int x6), (7, .int x7)] [] h Q := by
  refine zz_J.n 62 rfl rfl rfl ?_
  refine zz_J.n 64 rfl rfl rfl ?_
  refine zz_J.b2 103 67 (A := x5 ≤ x7) rfl rfl (by decide) rfl rfl (fun c => ?_) (fun c => ?_)
  · exact zz_J.weak (k1 c hR) rfl ⟨rfl, rfl, rfl, trivial⟩
  · exact zz_J.weak (k2 c hR) rfl ⟨rfl, rfl, rfl, rfl, rfl, rfl, trivial⟩
theorem cb_113_67 {X : Nat → Option zz_C} {h : zz_H} {t : cS} {s : mS} {d : Nat} {Q : zz_O → zz_H → Prop} {x1 : Int64} {x3 : Int64} {x5 : Int32} {x6 : Int32} {x7 : Int32} (hR : kR h t s) (k : ∀ {h : zz_H}, kR h t s → zz_J zp_P zt_tf zt_fd X d zm_130 0 [(0, .ref 42), (1, .long x3), (3, .int x7)] [] h (zz_after 2 Q (fun v h' => zz_J zp_P zt_tf zt_fd X (d + 1) zm_113 77 [(0, .ref 59), (1, .long x1), (3, .long x3), (5, .int x5), (6, .int x6), (7, .int x7)] (v.toList ++ []) h' Q))) : zz_J zp_P zt_tf zt_fd X (d + 1) zm_113 67 [(0, .ref 59), (1, .long x1), (3, .long x3), (5, .int x5), (6, .int x6), (7, .int x7)] [] h Q := by
  refine zz_J.n 68 rfl rfl rfl ?_
  refine zz_J.g 71 rfl (hR.gv (v := .ref 42) ko_59 (by decide) rfl) rfl ?_
  refine zz_J.n 72 rfl rfl rfl ?_
  refine zz_J.n 74 rfl rfl rfl ?_
  refine zz_J.cv 77 (as := []) rfl rfl (hR.clO ko_42 (by decide) (by decide)) (by decide) (Nat.le_of_ble_eq_true rfl) (Nat.le_of_ble_eq_true rfl) rfl (Nat.le_of_ble_eq_true rfl) rfl ?_
  refine zz_J.mono (k hR) ?_
  intro o h' hE
  cases o with
  | inl v => exact zz_J.weak hE rfl ⟨rfl, rfl, rfl, rfl, rfl, rfl, trivial⟩
  | inr q => exact hE
theorem cb_113_77 {X : Nat → Option zz_C} {h : zz_H} {t : cS} {s : mS} {d : Nat} {Q : zz_O → zz_H → Prop} {x1 : Int64} {x3 : Int64} {x5 : Int32} {x6 : Int32} {x7 : Int32} {y0 : Int32} (hR : kR h t s) (k1 : y0 = 0 → (∀ {h : zz_H}, kR h t s → zz_J zp_P zt_tf zt_fd X d zm_113 97 [(0, .ref 59), (1, .long x1), (3, .long x3), (5, .int x5), (6, .int x6), (7, .int x7)] [] h Q)) (k2 : ¬ y0 = 0 → (∀ {h : zz_H}, kR h t s → zz_J zp_P zt_tf zt_fd X d zm_113 80 [(0, .ref 59), (1, .long x1), (3, .long x3), (5, .int x5), (6, .int x6), (7, .int x7)] [] h Q)) : zz_J zp_P zt_tf zt_fd X d zm_113 77 [(0, .ref 59), (1, .long x1), (3, .long x3), (5, .int x5), (6, .int x6), (7, .int x7)] [.int y0] h Q := by
  refine zz_J.b1 97 80 (A := y0 = 0) rfl rfl (by decide) rfl rfl (fun c => ?_) (fun c => ?_)
  · exact zz_J.weak (k1 c hR) rfl ⟨rfl, rfl, rfl, rfl, rfl, rfl, trivial⟩
  · exact zz_J.weak (k2 c hR) rfl ⟨rfl, rfl, rfl, rfl, rfl, rfl, trivial⟩
theorem cb_113_80 {X : Nat → Option zz_C} {h : zz_H} {t : cS} {s : mS} {d : Nat} {Q : zz_O → zz_H → Prop} {x1 : Int64} {x3 : Int64} {x5 : Int32} {x6 : Int32} {x7 : Int32} (hR : kR h t s) (k : ∀ {h : zz_H}, kR h t s → zz_J zp_P zt_tf zt_fd X d zm_129 0 [(0, .ref 42), (1, .long x1), (3, .int x7)] [] h (zz_after 2 Q (fun v h' => zz_J zp_P zt_tf zt_fd X (d + 1) zm_113 94 [(0, .ref 59), (1, .long x1), (3, .long x3), (5, .int x5), (6, .int x6), (7, .int x7)] (v.toList ++ [.ref 42]) h' Q))) : zz_J zp_P zt_tf zt_fd X (d + 1) zm_113 80 [(0, .ref 59), (1, .long x1), (3, .long x3), (5, .int x5), (6, .int x6), (7, .int x7)] [] h Q := by
  refine zz_J.n 81 rfl rfl rfl ?_
  refine zz_J.g 84 rfl (hR.gv (v := .ref 42) ko_59 (by decide) rfl) rfl ?_
  refine zz_J.n 85 rfl rfl rfl ?_
  refine zz_J.g 88 rfl (hR.gv (v := .ref 42) ko_59 (by decide) rfl) rfl ?_
  refine zz_J.n 89 rfl rfl rfl ?_
  refine zz_J.n 91 rfl rfl rfl ?_
  refine zz_J.cv 94 (as := [.ref 42]) rfl rfl (hR.clO ko_42 (by decide) (by decide)) (by decide) (Nat.le_of_ble_eq_true rfl) (Nat.le_of_ble_eq_true rfl) rfl (Nat.le_of_ble_eq_true rfl) rfl ?_
  refine zz_J.mono (k hR) ?_
  intro o h' hE
  cases o with
  | inl v => exact zz_J.weak hE rfl ⟨rfl, rfl, rfl, rfl, rfl, rfl, trivial⟩
  | inr q => exact hE
theorem cb_113_94 {X : Nat → Option zz_C} {h : zz_H} {t : cS} {s : mS} {d : Nat} {Q : zz_O → zz_H → Prop} {x1 : Int64} {x3 : Int64} {x5 : Int32} {x6 : Int32} {x7 : Int32} {y1 : Int64} (hR : kR h t s) (k : ∀ {h : zz_H}, kR h t s → zz_J zp_P zt_tf zt_fd X d zm_123 0 [(0, .ref 42), (1, .long y1)] [] h (zz_after 2 Q (fun v h' => zz_J zp_P zt_tf zt_fd X (d + 1) zm_113 97 [(0, .ref 59), (1, .long x1), (3, .long x3), (5, .int x5), (6, .int x6), (7, .int x7)] (v.toList ++ []) h' Q))) : zz_J zp_P zt_tf zt_fd X (d + 1) zm_113 94 [(0, .ref 59), (1, .long x1), (3, .long x3), (5, .int x5), (6, .int x6), (7, .int x7)] [.long y1, .ref 42] h Q := by
  refine zz_J.cv 97 (as := []) rfl rfl (hR.clO ko_42 (by decide) (by decide)) (by decide) (Nat.le_of_ble_eq_true rfl) (Nat.le_of_ble_eq_true rfl) rfl (Nat.le_of_ble_eq_true rfl) rfl ?_
  refine zz_J.mono (k hR) ?_
  intro o h' hE
  cases o with
  | inl v => exact zz_J.weak hE rfl ⟨rfl, rfl, rfl, rfl, rfl, rfl, trivial⟩
  | inr q => exact hE
theorem cb_113_97 {X : Nat → Option zz_C} {h : zz_H} {t : cS} {s : mS} {d : Nat} {Q : zz_O → zz_H → Prop} {x1 : Int64} {x3 : Int64} {x5 : Int32} {x6 : Int32} {x7 : Int32} (hR : kR h t s) (k : ∀ {h : zz_H}, kR h t s → zz_J zp_P zt_tf zt_fd X d zm_113 60 [(0, .ref 59), (1, .long x1), (3, .long x3), (5, .int x5), (6, .int x6), (7, .int (x7 + 1))] [] h Q) : zz_J zp_P zt_tf zt_fd X d zm_113 97 [(0, .ref 59), (1, .long x1), (3, .long x3), (5, .int x5), (6, .int x6), (7, .int x7)] [] h Q := by
  refine zz_J.n 100 rfl rfl rfl ?_
  refine zz_J.n 60 rfl rfl rfl ?_
  exact zz_J.weak (k hR) rfl ⟨rfl, rfl, rfl, rfl, rfl, rfl, trivial⟩
theorem cb_113_103 {X : Nat → Option zz_C} {h : zz_H} {t : cS} {s : mS} {d : Nat} {Q : zz_O → zz_H → Prop} {x1 : Int64} {x6 : Int32} (hR : kR h t s) (k : ∀ {h : zz_H}, kR h t s → zz_J zp_P zt_tf zt_fd X d zm_255 0 [(0, .long x1)] [] h (zz_after 1000 Q (fun v h' => zz_J zp_P zt_tf zt_fd X (d + 1) zm_113 111 [(6, .int x6)] (v.toList ++ [.ref 42]) h' Q))) : zz_J zp_P zt_tf zt_fd X (d + 1) zm_113 103 [(0, .ref 59), (1, .long x1), (6, .int x6)] [] h Q := by
  refine zz_J.n 104 rfl rfl rfl ?_
  refine zz_J.g 107 rfl (hR.gv (v := .ref 42) ko_59 (by decide) rfl) rfl ?_
  refine zz_J.n 108 rfl rfl rfl ?_
  refine zz_J.cl (M' := zm_255) 111 rfl rfl (by decide) rfl rfl ⟨rfl, Nat.le_of_ble_eq_true rfl⟩ rfl ?_
  refine zz_J.mono (k hR) ?_
  intro o h' hE
  cases o with
  | inl v => exact zz_J.weak hE rfl ⟨rfl, trivial⟩
  | inr q => exact hE
theorem cb_113_111 {X : Nat → Option zz_C} {h : zz_H} {t : cS} {s : mS} {d : Nat} {Q : zz_O → zz_H → Prop} {x6 : Int32} {y1 : Int32} (hR : kR h t s) (k : ∀ {h : zz_H}, kR h t s → zz_J zp_P zt_tf zt_fd X d zm_126 0 [(0, .ref 42), (1, .int y1), (2, .int x6)] [] h (zz_after 2 Q (fun v h' => zz_J zp_P zt_tf zt_fd X (d + 1) zm_113 116 [] (v.toList ++ []) h' Q))) : zz_J zp_P zt_tf zt_fd X (d + 1) zm_113 111 [(6, .int x6)] [.int y1, .ref 42] h Q := by
  refine zz_J.n 113 rfl rfl rfl ?_
  refine zz_J.cv 116 (as := []) rfl rfl (hR.clO ko_42 (by decide) (by decide)) (by decide) (Nat.le_of_ble_eq_true rfl) (Nat.le_of_ble_eq_true rfl) rfl (Nat.le_of_ble_eq_true rfl) rfl ?_
  refine zz_J.mono (k hR) ?_
  intro o h' hE
  cases o with
  | inl v => exact zz_J.weak hE rfl trivial
  | inr q => exact hE
theorem cb_113_116 {X : Nat → Option zz_C} {h : zz_H} {t : cS} {s : mS} {d : Nat} {Q : zz_O → zz_H → Prop} {y0 : Int64} (hR : kR h t s) (k : ∀ {h : zz_H}, kR h t s → Q (.inl (some (.long y0))) h) : zz_J zp_P zt_tf zt_fd X d zm_113 116 [] [.long y0] h Q := by
  refine zz_J.ret rfl rfl rfl ?_
  exact k hR
def cf_113_19 (N : Nat) (X : Nat → Option zz_C) (y0 : Int64) (t : cS) : kO := some (t, .inl (some (.long y0)))
theorem cr_113_19 {X : Nat → Option zz_C} {s : mS} {N : Nat} {d : Nat} (hd : 10 ≤ d) {Q : zz_O → zz_H → Prop} {y0 : Int64} {h : zz_H} {t t' : cS} {o : kY} (hR : kR h t s) (hf : cf_113_19 N X y0 t = some (t', o)) (k : (∀ h', kR h' t' s → kE o Q h')) : zz_J zp_P zt_tf zt_fd X d zm_113 19 [] [.long y0] h Q := by
  unfold cf_113_19 at hf
  cases hf
  exact cb_113_19 hR  (fun {h} hR => k h hR)
def cf_113_15 (N : Nat) (X : Nat → Option zz_C)  (t : cS) : kO := ko_call 1000 (cf_254 N X 3 t) (fun g1 v1 => co_l v1 (fun y => cf_113_19 N X y g1))
theorem cr_113_15 {X : Nat → Option zz_C} {s : mS} {N : Nat} {d : Nat} (hd : 10 ≤ d) {Q : zz_O → zz_H → Prop}  {h : zz_H} {t t' : cS} {o : kY} (hR : kR h t s) (hf : cf_113_15 N X  t = some (t', o)) (k : (∀ h', kR h' t' s → kE o Q h')) : zz_J zp_P zt_tf zt_fd X d zm_113 15 [] [] h Q := by
  unfold cf_113_15 at hf
  obtain ⟨d', rfl⟩ : ∃ d', d = d' + 1 := ⟨d - 1, by omega⟩
  refine cb_113_15 hR  (fun {h} hR => ?_)
  rcases ko_call_ok hf with ⟨g1, v1, er, hf⟩ | ⟨g1, er, hq⟩
  · obtain ⟨y, hv, hf2⟩ := co_l_ok hf
    clear hf
    have hf := hf2
    clear hf2
    subst hv
    refine cr_254 (by omega) hR er (fun h hR => ?_)
    exact cr_113_19 hd hR hf k
  · refine cr_254 (by omega) hR er (fun h hR => ?_)
    exact ko_thrown hq hR k
def cf_113_116 (N : Nat) (X : Nat → Option zz_C) (y0 : Int64) (t : cS) : kO := some (t, .inl (some (.long y0)))
theorem cr_113_116 {X : Nat → Option zz_C} {s : mS} {N : Nat} {d : Nat} (hd : 10 ≤ d) {Q : zz_O → zz_H → Prop} {y0 : Int64} {h : zz_H} {t t' : cS} {o : kY} (hR : kR h t s) (hf : cf_113_116 N X y0 t = some (t', o)) (k : (∀ h', kR h' t' s → kE o Q h')) : zz_J zp_P zt_tf zt_fd X d zm_113 116 [] [.long y0] h Q := by
  unfold cf_113_116 at hf
  cases hf
  exact cb_113_116 hR  (fun {h} hR => k h hR)
def cf_113_111 (N : Nat) (X : Nat → Option zz_C) (x6 : Int32) (y1 : Int32) (t : cS) : kO := ko_call 2 (cf_126 N X y1 x6 t) (fun g1 v1 => co_l v1 (fun y => cf_113_116 N X y g1))
theorem cr_113_111 {X : Nat → Option zz_C} {s : mS} {N : Nat} {d : Nat} (hd : 10 ≤ d) {Q : zz_O → zz_H → Prop} {x6 : Int32} {y1 : Int32} {h : zz_H} {t t' : cS} {o : kY} (hR : kR h t s) (hf : cf_113_111 N X x6 y1 t = some (t', o)) (k : (∀ h', kR h' t' s → kE o Q h')) : zz_J zp_P zt_tf zt_fd X d zm_113 111 [(6, .int x6)] [.int y1, .ref 42] h Q := by
  unfold cf_113_111 at hf
  obtain ⟨d', rfl⟩ : ∃ d', d = d' + 1 := ⟨d - 1, by omega⟩
  refine cb_113_111 hR  (fun {h} hR => ?_)
  rcases ko_call_ok hf with ⟨g1, v1, er, hf⟩ | ⟨g1, er, hq⟩
  · obtain ⟨y, hv, hf2⟩ := co_l_ok hf
    clear hf
    have hf := hf2
    clear hf2
    subst hv
    refine cr_126 (by omega) hR er (fun h hR => ?_)
    exact cr_113_116 hd hR hf k
  · refine cr_126 (by omega) hR er (fun h hR => ?_)
    exact ko_thrown hq hR k
def cf_113_103 (N : Nat) (X : Nat → Option zz_C) (x1 : Int64) (x6 : Int32) (t : cS) : kO := ko_call 1000 (cf_255 N X x1 t) (fun g1 v1 => co_i v1 (fun y => cf_113_111 N X x6 y g1))
theorem cr_113_103 {X : Nat → Option zz_C} {s : mS} {N : Nat} {d : Nat} (hd : 10 ≤ d) {Q : zz_O → zz_H → Prop} {x1 : Int64} {x6 : Int32} {h : zz_H} {t t' : cS} {o : kY} (hR : kR h t s) (hf : cf_113_103 N X x1 x6 t = some (t', o)) (k : (∀ h', kR h' t' s → kE o Q h')) : zz_J zp_P zt_tf zt_fd X d zm_113 103 [(0, .ref 59), (1, .long x1), (6, .int x6)] [] h Q := by
  unfold cf_113_103 at hf
  obtain ⟨d', rfl⟩ : ∃ d', d = d' + 1 := ⟨d - 1, by omega⟩
  refine cb_113_103 hR  (fun {h} hR => ?_)
  rcases ko_call_ok hf with ⟨g1, v1, er, hf⟩ | ⟨g1, er, hq⟩
  · obtain ⟨y, hv, hf2⟩ := co_i_ok hf
    clear hf
    have hf := hf2
    clear hf2
    subst hv
    refine cr_255 (by omega) hR er (fun h hR => ?_)
    exact cr_113_111 hd hR hf k
  · refine cr_255 (by omega) hR er (fun h hR => ?_)
    exact ko_thrown hq hR k
def cf_113_97 (N : Nat) (X : Nat → Option zz_C) (rc : Nat → Int64 → Int64 → Int32 → Int32 → Int32 → cS → kO) (x1 : Int64) (x3 : Int64) (x5 : Int32) (x6 : Int32) (x7 : Int32) (t : cS) : kO := rc 0 x1 x3 x5 x6 (x7 + 1) t
theorem cr_113_97 {X : Nat → Option zz_C} {s : mS} {N : Nat} {d : Nat} (hd : 10 ≤ d) {rc : Nat → Int64 → Int64 → Int32 → Int32 → Int32 → cS → kO} (hrc0 : ∀ {Q : zz_O → zz_H → Prop} {x1 : Int64} {x3 : Int64} {x5 : Int32} {x6 : Int32} {x7 : Int32} {h : zz_H} {t t' : cS} {o : kY}, kR h t s → rc 0 x1 x3 x5 x6 x7 t = some (t', o) → (∀ h', kR h' t' s → kE o Q h') → zz_J zp_P zt_tf zt_fd X d zm_113 60 [(0, .ref 59), (1, .long x1), (3, .long x3), (5, .int x5), (6, .int x6), (7, .int x7)] [] h Q) {Q : zz_O → zz_H → Prop} {x1 : Int64} {x3 : Int64} {x5 : Int32} {x6 : Int32} {x7 : Int32} {h : zz_H} {t t' : cS} {o : kY} (hR : kR h t s) (hf : cf_113_97 N X rc x1 x3 x5 x6 x7 t = some (t', o)) (k : (∀ h', kR h' t' s → kE o Q h')) : zz_J zp_P zt_tf zt_fd X d zm_113 97 [(0, .ref 59), (1, .long x1), (3, .long x3), (5, .int x5), (6, .int x6), (7, .int x7)] [] h Q := by
  unfold cf_113_97 at hf
  exact cb_113_97 hR  (fun hR => hrc0 hR hf k)
def cf_113_94 (N : Nat) (X : Nat → Option zz_C) (rc : Nat → Int64 → Int64 → Int32 → Int32 → Int32 → cS → kO) (x1 : Int64) (x3 : Int64) (x5 : Int32) (x6 : Int32) (x7 : Int32) (y1 : Int64) (t : cS) : kO := ko_call 2 (cf_123 N X y1 t) (fun g1 v1 => co_v v1 (cf_113_97 N X rc x1 x3 x5 x6 x7 g1))
theorem cr_113_94 {X : Nat → Option zz_C} {s : mS} {N : Nat} {d : Nat} (hd : 10 ≤ d) {rc : Nat → Int64 → Int64 → Int32 → Int32 → Int32 → cS → kO} (hrc0 : ∀ {Q : zz_O → zz_H → Prop} {x1 : Int64} {x3 : Int64} {x5 : Int32} {x6 : Int32} {x7 : Int32} {h : zz_H} {t t' : cS} {o : kY}, kR h t s → rc 0 x1 x3 x5 x6 x7 t = some (t', o) → (∀ h', kR h' t' s → kE o Q h') → zz_J zp_P zt_tf zt_fd X d zm_113 60 [(0, .ref 59), (1, .long x1), (3, .long x3), (5, .int x5), (6, .int x6), (7, .int x7)] [] h Q) {Q : zz_O → zz_H → Prop} {x1 : Int64} {x3 : Int64} {x5 : Int32} {x6 : Int32} {x7 : Int32} {y1 : Int64} {h : zz_H} {t t' : cS} {o : kY} (hR : kR h t s) (hf : cf_113_94 N X rc x1 x3 x5 x6 x7 y1 t = some (t', o)) (k : (∀ h', kR h' t' s → kE o Q h')) : zz_J zp_P zt_tf zt_fd X d zm_113 94 [(0, .ref 59), (1, .long x1), (3, .long x3), (5, .int x5), (6, .int x6), (7, .int x7)] [.long y1, .ref 42] h Q := by
  unfold cf_113_94 at hf
  obtain ⟨d', rfl⟩ : ∃ d', d = d' + 1 := ⟨d - 1, by omega⟩
  refine cb_113_94 hR  (fun {h} hR => ?_)
  rcases ko_call_ok hf with ⟨g1, v1, er, hf⟩ | ⟨g1, er, hq⟩
  · obtain ⟨hv, hf2⟩ := co_v_ok hf
    clear hf
    have hf := hf2
    clear hf2
    subst hv
    refine cr_123 (by omega) hR er (fun h hR => ?_)
    exact cr_113_97 hd hrc0 hR hf k
  · refine cr_123 (by omega) hR er (fun h hR => ?_)
    exact ko_thrown hq hR k
def cf_113_80 (N : Nat) (X : Nat → Option zz_C) (rc : Nat → Int64 → Int64 → Int32 → Int32 → Int32 → cS → kO) (x1 : Int64) (x3 : Int64) (x5 : Int32) (x6 : Int32) (x7 : Int32) (t : cS) : kO := ko_call 2 (cf_129 N X x1 x7 t) (fun g1 v1 => co_l v1 (fun y => cf_113_94 N X rc x1 x3 x5 x6 x7 y g1))
theorem cr_113_80 {X : Nat → Option zz_C} {s : mS} {N : Nat} {d : Nat} (hd : 10 ≤ d) {rc : Nat → Int64 → Int64 → Int32 → Int32 → Int32 → cS → kO} (hrc0 : ∀ {Q : zz_O → zz_H → Prop} {x1 : Int64} {x3 : Int64} {x5 : Int32} {x6 : Int32} {x7 : Int32} {h : zz_H} {t t' : cS} {o : kY}, kR h t s → rc 0 x1 x3 x5 x6 x7 t = some (t', o) → (∀ h', kR h' t' s → kE o Q h') → zz_J zp_P zt_tf zt_fd X d zm_113 60 [(0, .ref 59), (1, .long x1), (3, .long x3), (5, .int x5), (6, .int x6), (7, .int x7)] [] h Q) {Q : zz_O → zz_H → Prop} {x1 : Int64} {x3 : Int64} {x5 : Int32} {x6 : Int32} {x7 : Int32} {h : zz_H} {t t' : cS} {o : kY} (hR : kR h t s) (hf : cf_113_80 N X rc x1 x3 x5 x6 x7 t = some (t', o)) (k : (∀ h', kR h' t' s → kE o Q h')) : zz_J zp_P zt_tf zt_fd X d zm_113 80 [(0, .ref 59), (1, .long x1), (3, .long x3), (5, .int x5), (6, .int x6), (7, .int x7)] [] h Q := by
  unfold cf_113_80 at hf
  obtain ⟨d', rfl⟩ : ∃ d', d = d' + 1 := ⟨d - 1, by omega⟩
  refine cb_113_80 hR  (fun {h} hR => ?_)
  rcases ko_call_ok hf with ⟨g1, v1, er, hf⟩ | ⟨g1, er, hq⟩
  · obtain ⟨y, hv, hf2⟩ := co_l_ok hf
    clear hf
    have hf := hf2
    clear hf2
    subst hv
    refine cr_129 (by omega) hR er (fun h hR => ?_)
    exact cr_113_94 hd hrc0 hR hf k
  · refine cr_129 (by omega) hR er (fun h hR => ?_)
    exact ko_thrown hq hR k
def cf_113_77 (N : Nat) (X : Nat → Option zz_C) (rc : Nat → Int64 → Int64 → Int32 → Int32 → Int32 → cS → kO) (x1 : Int64) (x3 : Int64) (x5 : Int32) (x6 : Int32) (x7 : Int32) (y0 : Int32) (t : cS) : kO := if y0 = 0 then cf_113_97 N X rc x1 x3 x5 x6 x7 t else cf_113_80 N X rc x1 x3 x5 x6 x7 t
theorem cr_113_77 {X : Nat → Option zz_C} {s : mS} {N : Nat} {d : Nat} (hd : 10 ≤ d) {rc : Nat → Int64 → Int64 → Int32 → Int32 → Int32 → cS → kO} (hrc0 : ∀ {Q : zz_O → zz_H → Prop} {x1 : Int64} {x3 : Int64} {x5 : Int32} {x6 : Int32} {x7 : Int32} {h : zz_H} {t t' : cS} {o : kY}, kR h t s → rc 0 x1 x3 x5 x6 x7 t = some (t', o) → (∀ h', kR h' t' s → kE o Q h') → zz_J zp_P zt_tf zt_fd X d zm_113 60 [(0, .ref 59), (1, .long x1), (3, .long x3), (5, .int x5), (6, .int x6), (7, .int x7)] [] h Q) {Q : zz_O → zz_H → Prop} {x1 : Int64} {x3 : Int64} {x5 : Int32} {x6 : Int32} {x7 : Int32} {y0 : Int32} {h : zz_H} {t t' : cS} {o : kY} (hR : kR h t s) (hf : cf_113_77 N X rc x1 x3 x5 x6 x7 y0 t = some (t', o)) (k : (∀ h', kR h' t' s → kE o Q h')) : zz_J zp_P zt_tf zt_fd X d zm_113 77 [(0, .ref 59), (1, .long x1), (3, .long x3), (5, .int x5), (6, .int x6), (7, .int x7)] [.int y0] h Q := by
  unfold cf_113_77 at hf
  refine cb_113_77 hR  (fun c {h} hR => ?_) (fun c {h} hR => ?_)
  · rw [if_pos c] at hf
    exact cr_113_97 hd hrc0 hR hf k
  · rw [if_neg c] at hf
    exact cr_113_80 hd hrc0 hR hf k
def cf_113_67 (N : Nat) (X : Nat → Option zz_C) (rc : Nat → Int64 → Int64 → Int32 → Int32 → Int32 → cS → kO) (x1 : Int64) (x3 : Int64) (x5 : Int32) (x6 : Int32) (x7 : Int32) (t : cS) : kO := ko_call 2 (cf_130 N X x3 x7 t) (fun g1 v1 => co_i v1 (fun y => cf_113_77 N X rc x1 x3 x5 x6 x7 y g1))
theorem cr_113_67 {X : Nat → Option zz_C} {s : mS} {N : Nat} {d : Nat} (hd : 10 ≤ d) {rc : Nat → Int64 → Int64 → Int32 → Int32 → Int32 → cS → kO} (hrc0 : ∀ {Q : zz_O → zz_H → Prop} {x1 : Int64} {x3 : Int64} {x5 : Int32} {x6 : Int32} {x7 : Int32} {h : zz_H} {t t' : cS} {o : kY}, kR h t s → rc 0 x1 x3 x5 x6 x7 t = some (t', o) → (∀ h', kR h' t' s → kE o Q h') → zz_J zp_P zt_tf zt_fd X d zm_113 60 [(0, .ref 59), (1, .long x1), (3, .long x3), (5, .int x5), (6, .int x6), (7, .int x7)] [] h Q) {Q : zz_O → zz_H → Prop} {x1 : Int64} {x3 : Int64} {x5 : Int32} {x6 : Int32} {x7 : Int32} {h : zz_H} {t t' : cS} {o : kY} (hR : kR h t s) (hf : cf_113_67 N X rc x1 x3 x5 x6 x7 t = some (t', o)) (k : (∀ h', kR h' t' s → kE o Q h')) : zz_J zp_P zt_tf zt_fd X d zm_113 67 [(0, .ref 59), (1, .long x1), (3, .long x3), (5, .int x5), (6, .int x6), (7, .int x7)] [] h Q := by
  unfold cf_113_67 at hf
  obtain ⟨d', rfl⟩ : ∃ d', d = d' + 1 := ⟨d - 1, by omega⟩
  refine cb_113_67 hR  (fun {h} hR => ?_)
  rcases ko_call_ok hf with ⟨g1, v1, er, hf⟩ | ⟨g1, er, hq⟩
  · obtain ⟨y, hv, hf2⟩ := co_i_ok hf
    clear hf
    have hf := hf2
    clear hf2
    subst hv
    refine cr_130 (by omega) hR er (fun h hR => ?_)
    exact cr_113_77 hd hrc0 hR hf k
  · refine cr_130 (by omega) hR er (fun h hR => ?_)
    exact ko_thrown hq hR k
def cf_113_60 (N : Nat) (X : Nat → Option zz_C) (rc : Nat → Int64 → Int64 → Int32 → Int32 → Int32 → cS → kO) (x1 : Int64) (x3 : Int64) (x5 : Int32) (x6 : Int32) (x7 : Int32) (t : cS) : kO := if x5 ≤ x7 then cf_113_103 N X x1 x6 t else cf_113_67 N X rc x1 x3 x5 x6 x7 t
theorem cr_113_60 {X : Nat → Option zz_C} {s : mS} {N : Nat} {d : Nat} (hd : 10 ≤ d) {rc : Nat → Int64 → Int64 → Int32 → Int32 → Int32 → cS → kO} (hrc0 : ∀ {Q : zz_O → zz_H → Prop} {x1 : Int64} {x3 : Int64} {x5 : Int32} {x6 : Int32} {x7 : Int32} {h : zz_H} {t t' : cS} {o : kY}, kR h t s → rc 0 x1 x3 x5 x6 x7 t = some (t', o) → (∀ h', kR h' t' s → kE o Q h') → zz_J zp_P zt_tf zt_fd X d zm_113 60 [(0, .ref 59), (1, .long x1), (3, .long x3), (5, .int x5), (6, .int x6), (7, .int x7)] [] h Q) {Q : zz_O → zz_H → Prop} {x1 : Int64} {x3 : Int64} {x5 : Int32} {x6 : Int32} {x7 : Int32} {h : zz_H} {t t' : cS} {o : kY} (hR : kR h t s) (hf : cf_113_60 N X rc x1 x3 x5 x6 x7 t = some (t', o)) (k : (∀ h', kR h' t' s → kE o Q h')) : zz_J zp_P zt_tf zt_fd X d zm_113 60 [(0, .ref 59), (1, .long x1), (3, .long x3), (5, .int x5), (6, .int x6), (7, .int x7)] [] h Q := by
  unfold cf_113_60 at hf
  refine cb_113_60 hR  (fun c {h} hR => ?_) (fun c {h} hR => ?_)
  · rw [if_pos c] at hf
    exact cr_113_103 hd hR hf k
  · rw [if_neg c] at hf
    exact cr_113_67 hd hrc0 hR hf k
def cf_113_L5 (N : Nat) (X : Nat → Option zz_C) : Nat → Nat → Int64 → Int64 → Int32 → Int32 → Int32 → cS → kO
  | 0, _, _, _, _, _, _, _ => none
  | n + 1, l, x1, x3, x5, x6, x7, t => if l = 0 then cf_113_60 N X (cf_113_L5 N X n) x1 x3 x5 x6 x7 t else none
theorem cr_113_L5 {X : Nat → Option zz_C} {s : mS} {N : Nat} {d : Nat} (hd : 10 ≤ d) : ∀ n : Nat, (∀ {Q : zz_O → zz_H → Prop} {x1 : Int64} {x3 : Int64} {x5 : Int32} {x6 : Int32} {x7 : Int32} {h : zz_H} {t t' : cS} {o : kY}, kR h t s → cf_113_L5 N X n 0 x1 x3 x5 x6 x7 t = some (t', o) → (∀ h', kR h' t' s → kE o Q h') → zz_J zp_P zt_tf zt_fd X d zm_113 60 [(0, .ref 59), (1, .long x1), (3, .long x3), (5, .int x5), (6, .int x6), (7, .int x7)] [] h Q) := by
  intro n
  induction n with
  | zero => exact (fun _ hf _ => by cases hf)
  | succ n ih =>
    have h0 := @ih
    intro Q _ _ _ _ _ h t t' o hR hf k
    unfold cf_113_L5 at hf
    rw [if_pos rfl] at hf
    exact cr_113_60 hd h0 hR hf k
def cf_113_55 (N : Nat) (X : Nat → Option zz_C) (x1 : Int64) (x3 : Int64) (x5 : Int32) (y0 : Int32) (t : cS) : kO := cf_113_L5 N X N 0 x1 x3 x5 y0 0 t
theorem cr_113_55 {X : Nat → Option zz_C} {s : mS} {N : Nat} {d : Nat} (hd : 10 ≤ d) {Q : zz_O → zz_H → Prop} {x1 : Int64} {x3 : Int64} {x5 : Int32} {y0 : Int32} {h : zz_H} {t t' : cS} {o : kY} (hR : kR h t s) (hf : cf_113_55 N X x1 x3 x5 y0 t = some (t', o)) (k : (∀ h', kR h' t' s → kE o Q h')) : zz_J zp_P zt_tf zt_fd X d zm_113 55 [(0, .ref 59), (1, .long x1), (3, .long x3), (5, .int x5)] [.int y0] h Q := by
  unfold cf_113_55 at hf
  exact cb_113_55 hR  (fun hR => cr_113_L5 hd N hR hf k)
def cf_113_48 (N : Nat) (X : Nat → Option zz_C) (x1 : Int64) (x3 : Int64) (x5 : Int32) (t : cS) : kO := ko_call 2 (cf_122 N X  t) (fun g1 v1 => co_i v1 (fun y => cf_113_55 N X x1 x3 x5 y g1))
theorem cr_113_48 {X : Nat → Option zz_C} {s : mS} {N : Nat} {d : Nat} (hd : 10 ≤ d) {Q : zz_O → zz_H → Prop} {x1 : Int64} {x3 : Int64} {x5 : Int32} {h : zz_H} {t t' : cS} {o : kY} (hR : kR h t s) (hf : cf_113_48 N X x1 x3 x5 t = some (t', o)) (k : (∀ h', kR h' t' s → kE o Q h')) : zz_J zp_P zt_tf zt_fd X d zm_113 48 [(0, .ref 59), (1, .long x1), (3, .long x3), (5, .int x5)] [] h Q := by
  unfold cf_113_48 at hf
  obtain ⟨d', rfl⟩ : ∃ d', d = d' + 1 := ⟨d - 1, by omega⟩
  refine cb_113_48 hR  (fun {h} hR => ?_)
  rcases ko_call_ok hf with ⟨g1, v1, er, hf⟩ | ⟨g1, er, hq⟩
  · obtain ⟨y, hv, hf2⟩ := co_i_ok hf
    clear hf
    have hf := hf2
    clear hf2
    subst hv
    refine cr_122 (by omega) hR er (fun h hR => ?_)
    exact cr_113_55 hd hR hf k
  · refine cr_122 (by omega) hR er (fun h hR => ?_)
    exact ko_thrown hq hR k
def cf_113_47 (N : Nat) (X : Nat → Option zz_C) (y0 : Int64) (t : cS) : kO := some (t, .inl (some (.long y0)))
theorem cr_113_47 {X : Nat → Option zz_C} {s : mS} {N : Nat} {d : Nat} (hd : 10 ≤ d) {Q : zz_O → zz_H → Prop} {y0 : Int64} {h : zz_H} {t t' : cS} {o : kY} (hR : kR h t s) (hf : cf_113_47 N X y0 t = some (t', o)) (k : (∀ h', kR h' t' s → kE o Q h')) : zz_J zp_P zt_tf zt_fd X d zm_113 47 [] [.long y0] h Q := by
  unfold cf_113_47 at hf
  cases hf
  exact cb_113_47 hR  (fun {h} hR => k h hR)
def cf_113_43 (N : Nat) (X : Nat → Option zz_C)  (t : cS) : kO := ko_call 1000 (cf_254 N X 4 t) (fun g1 v1 => co_l v1 (fun y => cf_113_47 N X y g1))
theorem cr_113_43 {X : Nat → Option zz_C} {s : mS} {N : Nat} {d : Nat} (hd : 10 ≤ d) {Q : zz_O → zz_H → Prop}  {h : zz_H} {t t' : cS} {o : kY} (hR : kR h t s) (hf : cf_113_43 N X  t = some (t', o)) (k : (∀ h', kR h' t' s → kE o Q h')) : zz_J zp_P zt_tf zt_fd X d zm_113 43 [] [] h Q := by
  unfold cf_113_43 at hf
  obtain ⟨d', rfl⟩ : ∃ d', d = d' + 1 := ⟨d - 1, by omega⟩
  refine cb_113_43 hR  (fun {h} hR => ?_)
  rcases ko_call_ok hf with ⟨g1, v1, er, hf⟩ | ⟨g1, er, hq⟩
  · obtain ⟨y, hv, hf2⟩ := co_l_ok hf
    clear hf
    have hf := hf2
    clear hf2
    subst hv
    refine cr_254 (by omega) hR er (fun h hR => ?_)
    exact cr_113_47 hd hR hf k
  · refine cr_254 (by omega) hR er (fun h hR => ?_)
    exact ko_thrown hq hR k
def cf_113_40 (N : Nat) (X : Nat → Option zz_C) (x1 : Int64) (x3 : Int64) (x5 : Int32) (y0 : Int32) (y1 : Int32) (t : cS) : kO := if y0 = y1 then cf_113_48 N X x1 x3 x5 t else cf_113_43 N X  t
theorem cr_113_40 {X : Nat → Option zz_C} {s : mS} {N : Nat} {d : Nat} (hd : 10 ≤ d) {Q : zz_O → zz_H → Prop} {x1 : Int64} {x3 : Int64} {x5 : Int32} {y0 : Int32} {y1 : Int32} {h : zz_H} {t t' : cS} {o : kY} (hR : kR h t s) (hf : cf_113_40 N X x1 x3 x5 y0 y1 t = some (t', o)) (k : (∀ h', kR h' t' s → kE o Q h')) : zz_J zp_P zt_tf zt_fd X d zm_113 40 [(0, .ref 59), (1, .long x1), (3, .long x3), (5, .int x5)] [.int y1, .int y0] h Q := by
  unfold cf_113_40 at hf
  refine cb_113_40 hR  (fun c {h} hR => ?_) (fun c {h} hR => ?_)
  · rw [if_pos c] at hf
    exact cr_113_48 hd hR hf k
  · rw [if_neg c] at hf
    exact cr_113_43 hd hR hf k
def cf_113_28 (N : Nat) (X : Nat → Option zz_C) (x1 : Int64) (x3 : Int64) (y0 : Int32) (t : cS) : kO := ko_call 2 (cf_128 N X x3 t) (fun g1 v1 => co_i v1 (fun y => cf_113_40 N X x1 x3 y0 y0 y g1))
theorem cr_113_28 {X : Nat → Option zz_C} {s : mS} {N : Nat} {d : Nat} (hd : 10 ≤ d) {Q : zz_O → zz_H → Prop} {x1 : Int64} {x3 : Int64} {y0 : Int32} {h : zz_H} {t t' : cS} {o : kY} (hR : kR h t s) (hf : cf_113_28 N X x1 x3 y0 t = some (t', o)) (k : (∀ h', kR h' t' s → kE o Q h')) : zz_J zp_P zt_tf zt_fd X d zm_113 28 [(0, .ref 59), (1, .long x1), (3, .long x3)] [.int y0] h Q := by
  unfold cf_113_28 at hf
  obtain ⟨d', rfl⟩ : ∃ d', d = d' + 1 := ⟨d - 1, by omega⟩
  refine cb_113_28 hR  (fun {h} hR => ?_)
  rcases ko_call_ok hf with ⟨g1, v1, er, hf⟩ | ⟨g1, er, hq⟩
  · obtain ⟨y, hv, hf2⟩ := co_i_ok hf
    clear hf
    have hf := hf2
    clear hf2
    subst hv
    refine cr_128 (by omega) hR er (fun h hR => ?_)
    exact cr_113_40 hd hR hf k
  · refine cr_128 (by omega) hR er (fun h hR => ?_)
    exact ko_thrown hq hR k
def cf_113_20 (N : Nat) (X : Nat → Option zz_C) (x1 : Int64) (x3 : Int64) (t : cS) : kO := ko_call 2 (cf_128 N X x1 t) (fun g1 v1 => co_i v1 (fun y => cf_113_28 N X x1 x3 y g1))
theorem cr_113_20 {X : Nat → Option zz_C} {s : mS} {N : Nat} {d : Nat} (hd : 10 ≤ d) {Q : zz_O → zz_H → Prop} {x1 : Int64} {x3 : Int64} {h : zz_H} {t t' : cS} {o : kY} (hR : kR h t s) (hf : cf_113_20 N X x1 x3 t = some (t', o)) (k : (∀ h', kR h' t' s → kE o Q h')) : zz_J zp_P zt_tf zt_fd X d zm_113 20 [(0, .ref 59), (1, .long x1), (3, .long x3)] [] h Q := by
  unfold cf_113_20 at hf
  obtain ⟨d', rfl⟩ : ∃ d', d = d' + 1 := ⟨d - 1, by omega⟩
  refine cb_113_20 hR  (fun {h} hR => ?_)
  rcases ko_call_ok hf with ⟨g1, v1, er, hf⟩ | ⟨g1, er, hq⟩
  · obtain ⟨y, hv, hf2⟩ := co_i_ok hf
    clear hf
    have hf := hf2
    clear hf2
    subst hv
    refine cr_128 (by omega) hR er (fun h hR => ?_)
    exact cr_113_28 hd hR hf k
  · refine cr_128 (by omega) hR er (fun h hR => ?_)
    exact ko_thrown hq hR k
def cf_113_11 (N : Nat) (X : Nat → Option zz_C) (x1 : Int64) (x3 : Int64) (y0 : Int32) (t : cS) : kO := if y0 = 1 then cf_113_20 N X x1 x3 t else cf_113_15 N X  t
theorem cr_113_11 {X : Nat → Option zz_C} {s : mS} {N : Nat} {d : Nat} (hd : 10 ≤ d) {Q : zz_O → zz_H → Prop} {x1 : Int64} {x3 : Int64} {y0 : Int32} {h : zz_H} {t t' : cS} {o : kY} (hR : kR h t s) (hf : cf_113_11 N X x1 x3 y0 t = some (t', o)) (k : (∀ h', kR h' t' s → kE o Q h')) : zz_J zp_P zt_tf zt_fd X d zm_113 11 [(0, .ref 59), (1, .long x1), (3, .long x3)] [.int y0] h Q := by
  unfold cf_113_11 at hf
  refine cb_113_11 hR  (fun c {h} hR => ?_) (fun c {h} hR => ?_)
  · rw [if_pos c] at hf
    exact cr_113_20 hd hR hf k
  · rw [if_neg c] at hf
    exact cr_113_15 hd hR hf k
def cf_113_7 (N : Nat) (X : Nat → Option zz_C) (x1 : Int64) (x3 : Int64) (t : cS) : kO := ko_call 1000 (cf_255 N X x3 t) (fun g1 v1 => co_i v1 (fun y => cf_113_11 N X x1 x3 y g1))
theorem cr_113_7 {X : Nat → Option zz_C} {s : mS} {N : Nat} {d : Nat} (hd : 10 ≤ d) {Q : zz_O → zz_H → Prop} {x1 : Int64} {x3 : Int64} {h : zz_H} {t t' : cS} {o : kY} (hR : kR h t s) (hf : cf_113_7 N X x1 x3 t = some (t', o)) (k : (∀ h', kR h' t' s → kE o Q h')) : zz_J zp_P zt_tf zt_fd X d zm_113 7 [(0, .ref 59), (1, .long x1), (3, .long x3)] [] h Q := by
  unfold cf_113_7 at hf
  obtain ⟨d', rfl⟩ : ∃ d', d = d' + 1 := ⟨d - 1, by omega⟩
  refine cb_113_7 hR  (fun {h} hR => ?_)
  rcases ko_call_ok hf with ⟨g1, v1, er, hf⟩ | ⟨g1, er, hq⟩
  · obtain ⟨y, hv, hf2⟩ := co_i_ok hf
    clear hf
    have hf := hf2
    clear hf2
    subst hv
    refine cr_255 (by omega) hR er (fun h hR => ?_)
    exact cr_113_11 hd hR hf k
  · refine cr_255 (by omega) hR er (fun h hR => ?_)
    exact ko_thrown hq hR k
def cf_113_4 (N : Nat) (X : Nat → Option zz_C) (x1 : Int64) (x3 : Int64) (y0 : Int32) (t : cS) : kO := if y0 = 0 then cf_113_15 N X  t else cf_113_7 N X x1 x3 t
theorem cr_113_4 {X : Nat → Option zz_C} {s : mS} {N : Nat} {d : Nat} (hd : 10 ≤ d) {Q : zz_O → zz_H → Prop} {x1 : Int64} {x3 : Int64} {y0 : Int32} {h : zz_H} {t t' : cS} {o : kY} (hR : kR h t s) (hf : cf_113_4 N X x1 x3 y0 t = some (t', o)) (k : (∀ h', kR h' t' s → kE o Q h')) : zz_J zp_P zt_tf zt_fd X d zm_113 4 [(0, .ref 59), (1, .long x1), (3, .long x3)] [.int y0] h Q := by
  unfold cf_113_4 at hf
  refine cb_113_4 hR  (fun c {h} hR => ?_) (fun c {h} hR => ?_)
  · rw [if_pos c] at hf
    exact cr_113_15 hd hR hf k
  · rw [if_neg c] at hf
    exact cr_113_7 hd hR hf k
def cf_113_0 (N : Nat) (X : Nat → Option zz_C) (x1 : Int64) (x3 : Int64) (t : cS) : kO := ko_call 1000 (cf_255 N X x1 t) (fun g1 v1 => co_i v1 (fun y => cf_113_4 N X x1 x3 y g1))
theorem cr_113_0 {X : Nat → Option zz_C} {s : mS} {N : Nat} {d : Nat} (hd : 10 ≤ d) {Q : zz_O → zz_H → Prop} {x1 : Int64} {x3 : Int64} {h : zz_H} {t t' : cS} {o : kY} (hR : kR h t s) (hf : cf_113_0 N X x1 x3 t = some (t', o)) (k : (∀ h', kR h' t' s → kE o Q h')) : zz_J zp_P zt_tf zt_fd X d zm_113 0 [(0, .ref 59), (1, .long x1), (3, .long x3)] [] h Q := by
  unfold cf_113_0 at hf
  obtain ⟨d', rfl⟩ : ∃ d', d = d' + 1 := ⟨d - 1, by omega⟩
  refine cb_113_0 hR  (fun {h} hR => ?_)
  rcases ko_call_ok hf with ⟨g1, v1, er, hf⟩ | ⟨g1, er, hq⟩
  · obtain ⟨y, hv, hf2⟩ := co_i_ok hf
    clear hf
    have hf := hf2
    clear hf2
    subst hv
    refine cr_255 (by omega) hR er (fun h hR => ?_)
    exact cr_113_4 hd hR hf k
  · refine cr_255 (by omega) hR er (fun h hR => ?_)
    exact ko_thrown hq hR k
/-- pick -/
def cf_113 (N : Nat) (X : Nat → Option zz_C) (x1 : Int64) (x3 : Int64) (t : cS) : kO := cf_113_0 N X x1 x3 t
theorem cr_113 {X : Nat → Option zz_C} {s : mS} {N : Nat} {d : Nat} (hd : 10 ≤ d) {Q : zz_O → zz_H → Prop} {x1 : Int64} {x3 : Int64} {h : zz_H} {t t' : cS} {o : kY} (hR : kR h t s) (hf : cf_113 N X x1 x3 t = some (t', o)) (k : ∀ h', kR h' t' s → kE o Q h') : zz_J zp_P zt_tf zt_fd X d zm_113 0 [(0, .ref 59), (1, .long x1), (3, .long x3)] [] h Q := by
  unfold cf_113 at hf
  exact zz_J.weak (cr_113_0 hd hR hf k) rfl ⟨rfl, rfl, rfl, trivial⟩
/-! yX1_firstPlace (JI)I -/
theorem cb_115_0 {X : Nat → Option zz_C} {h : zz_H} {t : cS} {s : mS} {d : Nat} {Q : zz_O → zz_H → Prop} {x1 : Int64} {x3 : Int32} (hR : kR h t s) (k : ∀ {h : zz_H}, kR h t s → zz_J zp_P zt_tf zt_fd X d zm_128 0 [(0, .ref 42), (1, .long x1)] [] h (zz_after 2 Q (fun v h' => zz_J zp_P zt_tf zt_fd X (d + 1) zm_115 8 [(0, .ref 59), (1, .long x1), (3, .int x3)] (v.toList ++ []) h' Q))) : zz_J zp_P zt_tf zt_fd X (d + 1) zm_115 0 [(0, .ref 59), (1, .long x1), (3, .int x3)] [] h Q := by
  refine zz_J.n 1 rfl rfl rfl ?_
  refine zz_J.g 4 rfl (hR.gv (v := .ref 42) ko_59 (by decide) rfl) rfl ?_
  refine zz_J.n 5 rfl rfl rfl ?_
  refine zz_J.cv 8 (as := []) rfl rfl (hR.clO ko_42 (by decide) (by decide)) (by decide) (Nat.le_of_ble_eq_true rfl) (Nat.le_of_ble_eq_true rfl) rfl (Nat.le_of_ble_eq_true rfl) rfl ?_
  refine zz_J.mono (k hR) ?_
  intro o h' hE
  cases o with
  | inl v => exact zz_J.weak hE rfl ⟨rfl, rfl, rfl, trivial⟩
  | inr q => exact hE
theorem cb_115_8 {X : Nat → Option zz_C} {h : zz_H} {t : cS} {s : mS} {d : Nat} {Q : zz_O → zz_H → Prop} {x1 : Int64} {x3 : Int32} {y0 : Int32} (hR : kR h t s) (k : ∀ {h : zz_H}, kR h t s → zz_J zp_P zt_tf zt_fd X d zm_115 13 [(0, .ref 59), (1, .long x1), (3, .int x3), (4, .int y0), (5, .int 0)] [] h Q) : zz_J zp_P zt_tf zt_fd X d zm_115 8 [(0, .ref 59), (1, .long x1), (3, .int x3)] [.int y0] h Q := by
  refine zz_J.n 10 rfl rfl rfl ?_
  refine zz_J.c 11 (.int 0) rfl rfl rfl rfl ?_
  refine zz_J.n 13 rfl rfl rfl ?_
  exact zz_J.weak (k hR) rfl ⟨rfl, rfl, rfl, rfl, rfl, trivial⟩
theorem cb_115_13 {X : Nat → Option zz_C} {h : zz_H} {t : cS} {s : mS} {d : Nat} {Q : zz_O → zz_H → Prop} {x1 : Int64} {x3 : Int32} {x4 : Int32} {x5 : Int32} (hR : kR h t s) (k1 : x4 ≤ x5 → (∀ {h : zz_H}, kR h t s → zz_J zp_P zt_tf zt_fd X d zm_115 43 [] [] h Q)) (k2 : ¬ x4 ≤ x5 → (∀ {h : zz_H}, kR h t s → zz_J zp_P zt_tf zt_fd X d zm_115 20 [(0, .ref 59), (1, .long x1), (3, .int x3), (4, .int x4), (5, .int x5)] [] h Q)) : zz_J zp_P zt_tf zt_fd X d zm_115 13 [(0, .ref 59), (1, .long x1), (3, .int x3), (4, .int x4), (5, .int x5)] [] h Q := by
  refine zz_J.n 15 rfl rfl rfl ?_
  refine zz_J.n 17 rfl rfl rfl ?_
  refine zz_J.b2 43 20 (A := x4 ≤ x5) rfl rfl (by decide) rfl rfl (fun c => ?_) (fun c => ?_)
  · exact zz_J.weak (k1 c hR) rfl trivial
  · exact zz_J.weak (k2 c hR) rfl ⟨rfl, rfl, rfl, rfl, rfl, trivial⟩
theorem cb_115_20 {X : Nat → Option zz_C} {h : zz_H} {t : cS} {s : mS} {d : Nat} {Q : zz_O → zz_H → Prop} {x1 : Int64} {x3 : Int32} {x4 : Int32} {x5 : Int32} (hR : kR h t s) (k : ∀ {h : zz_H}, kR h t s → zz_J zp_P zt_tf zt_fd X d zm_130 0 [(0, .ref 42), (1, .long x1), (3, .int x5)] [] h (zz_after 2 Q (fun v h' => zz_J zp_P zt_tf zt_fd X (d + 1) zm_115 30 [(0, .ref 59), (1, .long x1), (3, .int x3), (4, .int x4), (5, .int x5)] (v.toList ++ []) h' Q))) : zz_J zp_P zt_tf zt_fd X (d + 1) zm_115 20 [(0, .ref 59), (1, .long x1), (3, .int x3), (4, .int x4), (5, .int x5)] [] h Q := by
  refine zz_J.n 21 rfl rfl rfl ?_
  refine zz_J.g 24 rfl (hR.gv (v := .ref 42) ko_59 (by decide) rfl) rfl ?_
  refine zz_J.n 25 rfl rfl rfl ?_
  refine zz_J.n 27 rfl rfl rfl ?_
  refine zz_J.cv 30 (as := []) rfl rfl (hR.clO ko_42 (by decide) (by decide)) (by decide) (Nat.le_of_ble_eq_true rfl) (Nat.le_of_ble_eq_true rfl) rfl (Nat.le_of_ble_eq_true rfl) rfl ?_
  refine zz_J.mono (k hR) ?_
  intro o h' hE
  cases o with
  | inl v => exact zz_J.weak hE rfl ⟨rfl, rfl, rfl, rfl, rfl, trivial⟩
  | inr q => exact hE
theorem cb_115_30 {X : Nat → Option zz_C} {h : zz_H} {t : cS} {s : mS} {d : Nat} {Q : zz_O → zz_H → Prop} {x1 : Int64} {x3 : Int32} {x4 : Int32} {x5 : Int32} {y0 : Int32} (hR : kR h t s) (k1 : ¬ y0 = x3 → (∀ {h : zz_H}, kR h t s → zz_J zp_P zt_tf zt_fd X d zm_115 37 [(0, .ref 59), (1, .long x1), (3, .int x3), (4, .int x4), (5, .int x5)] [] h Q)) (k2 : ¬ ¬ y0 = x3 → (∀ {h : zz_H}, kR h t s → zz_J zp_P zt_tf zt_fd X d zm_115 34 [(5, .int x5)] [] h Q)) : zz_J zp_P zt_tf zt_fd X d zm_115 30 [(0, .ref 59), (1, .long x1), (3, .int x3), (4, .int x4), (5, .int x5)] [.int y0] h Q := by
  refine zz_J.n 31 rfl rfl rfl ?_
  refine zz_J.b2 37 34 (A := ¬ y0 = x3) rfl (zz_cond_ne _ _) (by decide) rfl rfl (fun c => ?_) (fun c => ?_)
  · exact zz_J.weak (k1 c hR) rfl ⟨rfl, rfl, rfl, rfl, rfl, trivial⟩
  · exact zz_J.weak (k2 c hR) rfl ⟨rfl, trivial⟩
theorem cb_115_34 {X : Nat → Option zz_C} {h : zz_H} {t : cS} {s : mS} {d : Nat} {Q : zz_O → zz_H → Prop} {x5 : Int32} (hR : kR h t s) (k : ∀ {h : zz_H}, kR h t s → Q (.inl (some (.int x5))) h) : zz_J zp_P zt_tf zt_fd X d zm_115 34 [(5, .int x5)] [] h Q := by
  refine zz_J.n 36 rfl rfl rfl ?_
  refine zz_J.ret rfl rfl rfl ?_
  exact k hR
theorem cb_115_37 {X : Nat → Option zz_C} {h : zz_H} {t : cS} {s : mS} {d : Nat} {Q : zz_O → zz_H → Prop} {x1 : Int64} {x3 : Int32} {x4 : Int32} {x5 : Int32} (hR : kR h t s) (k : ∀ {h : zz_H}, kR h t s → zz_J zp_P zt_tf zt_fd X d zm_115 13 [(0, .ref 59), (1, .long x1), (3, .int x3), (4, .int x4), (5, .int (x5 + 1))] [] h Q) : zz_J zp_P zt_tf zt_fd X d zm_115 37 [(0, .ref 59), (1, .long x1), (3, .int x3), (4, .int x4), (5, .int x5)] [] h Q := by
  refine zz_J.n 40 rfl rfl rfl ?_
  refine zz_J.n 13 rfl rfl rfl ?_
  exact zz_J.weak (k hR) rfl ⟨rfl, rfl, rfl, rfl, rfl, trivial⟩
theorem cb_115_43 {X : Nat → Option zz_C} {h : zz_H} {t : cS} {s : mS} {d : Nat} {Q : zz_O → zz_H → Prop}  (hR : kR h t s) (k : ∀ {h : zz_H}, kR h t s → Q (.inl (some (.int (-1)))) h) : zz_J zp_P zt_tf zt_fd X d zm_115 43 [] [] h Q := by
  refine zz_J.c 44 (.int (-1)) rfl rfl rfl rfl ?_
  refine zz_J.ret rfl rfl rfl ?_
  exact k hR
def cf_115_43 (N : Nat) (X : Nat → Option zz_C)  (t : cS) : kO := some (t, .inl (some (.int (-1))))
theorem cr_115_43 {X : Nat → Option zz_C} {s : mS} {N : Nat} {d : Nat} (hd : 1 ≤ d) {Q : zz_O → zz_H → Prop}  {h : zz_H} {t t' : cS} {o : kY} (hR : kR h t s) (hf : cf_115_43 N X  t = some (t', o)) (k : (∀ h', kR h' t' s → kE o Q h')) : zz_J zp_P zt_tf zt_fd X d zm_115 43 [] [] h Q := by
  unfold cf_115_43 at hf
  cases hf
  exact cb_115_43 hR  (fun {h} hR => k h hR)
def cf_115_34 (N : Nat) (X : Nat → Option zz_C) (x5 : Int32) (t : cS) : kO := some (t, .inl (some (.int x5)))
theorem cr_115_34 {X : Nat → Option zz_C} {s : mS} {N : Nat} {d : Nat} (hd : 1 ≤ d) {Q : zz_O → zz_H → Prop} {x5 : Int32} {h : zz_H} {t t' : cS} {o : kY} (hR : kR h t s) (hf : cf_115_34 N X x5 t = some (t', o)) (k : (∀ h', kR h' t' s → kE o Q h')) : zz_J zp_P zt_tf zt_fd X d zm_115 34 [(5, .int x5)] [] h Q := by
  unfold cf_115_34 at hf
  cases hf
  exact cb_115_34 hR  (fun {h} hR => k h hR)
def cf_115_37 (N : Nat) (X : Nat → Option zz_C) (rc : Nat → Int64 → Int32 → Int32 → Int32 → cS → kO) (x1 : Int64) (x3 : Int32) (x4 : Int32) (x5 : Int32) (t : cS) : kO := rc 0 x1 x3 x4 (x5 + 1) t
theorem cr_115_37 {X : Nat → Option zz_C} {s : mS} {N : Nat} {d : Nat} (hd : 1 ≤ d) {rc : Nat → Int64 → Int32 → Int32 → Int32 → cS → kO} (hrc0 : ∀ {Q : zz_O → zz_H → Prop} {x1 : Int64} {x3 : Int32} {x4 : Int32} {x5 : Int32} {h : zz_H} {t t' : cS} {o : kY}, kR h t s → rc 0 x1 x3 x4 x5 t = some (t', o) → (∀ h', kR h' t' s → kE o Q h') → zz_J zp_P zt_tf zt_fd X d zm_115 13 [(0, .ref 59), (1, .long x1), (3, .int x3), (4, .int x4), (5, .int x5)] [] h Q) {Q : zz_O → zz_H → Prop} {x1 : Int64} {x3 : Int32} {x4 : Int32} {x5 : Int32} {h : zz_H} {t t' : cS} {o : kY} (hR : kR h t s) (hf : cf_115_37 N X rc x1 x3 x4 x5 t = some (t', o)) (k : (∀ h', kR h' t' s → kE o Q h')) : zz_J zp_P zt_tf zt_fd X d zm_115 37 [(0, .ref 59), (1, .long x1), (3, .int x3), (4, .int x4), (5, .int x5)] [] h Q := by
  unfold cf_115_37 at hf
  exact cb_115_37 hR  (fun hR => hrc0 hR hf k)
def cf_115_30 (N : Nat) (X : Nat → Option zz_C) (rc : Nat → Int64 → Int32 → Int32 → Int32 → cS → kO) (x1 : Int64) (x3 : Int32) (x4 : Int32) (x5 : Int32) (y0 : Int32) (t : cS) : kO := if ¬ y0 = x3 then cf_115_37 N X rc x1 x3 x4 x5 t else cf_115_34 N X x5 t
theorem cr_115_30 {X : Nat → Option zz_C} {s : mS} {N : Nat} {d : Nat} (hd : 1 ≤ d) {rc : Nat → Int64 → Int32 → Int32 → Int32 → cS → kO} (hrc0 : ∀ {Q : zz_O → zz_H → Prop} {x1 : Int64} {x3 : Int32} {x4 : Int32} {x5 : Int32} {h : zz_H} {t t' : cS} {o : kY}, kR h t s → rc 0 x1 x3 x4 x5 t = some (t', o) → (∀ h', kR h' t' s → kE o Q h') → zz_J zp_P zt_tf zt_fd X d zm_115 13 [(0, .ref 59), (1, .long x1), (3, .int x3), (4, .int x4), (5, .int x5)] [] h Q) {Q : zz_O → zz_H → Prop} {x1 : Int64} {x3 : Int32} {x4 : Int32} {x5 : Int32} {y0 : Int32} {h : zz_H} {t t' : cS} {o : kY} (hR : kR h t s) (hf : cf_115_30 N X rc x1 x3 x4 x5 y0 t = some (t', o)) (k : (∀ h', kR h' t' s → kE o Q h')) : zz_J zp_P zt_tf zt_fd X d zm_115 30 [(0, .ref 59), (1, .long x1), (3, .int x3), (4, .int x4), (5, .int x5)] [.int y0] h Q := by
  unfold cf_115_30 at hf
  refine cb_115_30 hR  (fun c {h} hR => ?_) (fun c {h} hR => ?_)
  · rw [if_pos c] at hf
    exact cr_115_37 hd hrc0 hR hf k
  · rw [if_neg c] at hf
    exact cr_115_34 hd hR hf k
def cf_115_20 (N : Nat) (X : Nat → Option zz_C) (rc : Nat → Int64 → Int32 → Int32 → Int32 → cS → kO) (x1 : Int64) (x3 : Int32) (x4 : Int32) (x5 : Int32) (t : cS) : kO := ko_call 2 (cf_130 N X x1 x5 t) (fun g1 v1 => co_i v1 (fun y => cf_115_30 N X rc x1 x3 x4 x5 y g1))
theorem cr_115_20 {X : Nat → Option zz_C} {s : mS} {N : Nat} {d : Nat} (hd : 1 ≤ d) {rc : Nat → Int64 → Int32 → Int32 → Int32 → cS → kO} (hrc0 : ∀ {Q : zz_O → zz_H → Prop} {x1 : Int64} {x3 : Int32} {x4 : Int32} {x5 : Int32} {h : zz_H} {t t' : cS} {o : kY}, kR h t s → rc 0 x1 x3 x4 x5 t = some (t', o) → (∀ h', kR h' t' s → kE o Q h') → zz_J zp_P zt_tf zt_fd X d zm_115 13 [(0, .ref 59), (1, .long x1), (3, .int x3), (4, .int x4), (5, .int x5)] [] h Q) {Q : zz_O → zz_H → Prop} {x1 : Int64} {x3 : Int32} {x4 : Int32} {x5 : Int32} {h : zz_H} {t t' : cS} {o : kY} (hR : kR h t s) (hf : cf_115_20 N X rc x1 x3 x4 x5 t = some (t', o)) (k : (∀ h', kR h' t' s → kE o Q h')) : zz_J zp_P zt_tf zt_fd X d zm_115 20 [(0, .ref 59), (1, .long x1), (3, .int x3), (4, .int x4), (5, .int x5)] [] h Q := by
  unfold cf_115_20 at hf
  obtain ⟨d', rfl⟩ : ∃ d', d = d' + 1 := ⟨d - 1, by omega⟩
  refine cb_115_20 hR  (fun {h} hR => ?_)
  rcases ko_call_ok hf with ⟨g1, v1, er, hf⟩ | ⟨g1, er, hq⟩
  · obtain ⟨y, hv, hf2⟩ := co_i_ok hf
    clear hf
    have hf := hf2
    clear hf2
    subst hv
    refine cr_130 (by omega) hR er (fun h hR => ?_)
    exact cr_115_30 hd hrc0 hR hf k
  · refine cr_130 (by omega) hR er (fun h hR => ?_)
    exact ko_thrown hq hR k
def cf_115_13 (N : Nat) (X : Nat → Option zz_C) (rc : Nat → Int64 → Int32 → Int32 → Int32 → cS → kO) (x1 : Int64) (x3 : Int32) (x4 : Int32) (x5 : Int32) (t : cS) : kO := if x4 ≤ x5 then cf_115_43 N X  t else cf_115_20 N X rc x1 x3 x4 x5 t
theorem cr_115_13 {X : Nat → Option zz_C} {s : mS} {N : Nat} {d : Nat} (hd : 1 ≤ d) {rc : Nat → Int64 → Int32 → Int32 → Int32 → cS → kO} (hrc0 : ∀ {Q : zz_O → zz_H → Prop} {x1 : Int64} {x3 : Int32} {x4 : Int32} {x5 : Int32} {h : zz_H} {t t' : cS} {o : kY}, kR h t s → rc 0 x1 x3 x4 x5 t = some (t', o) → (∀ h', kR h' t' s → kE o Q h') → zz_J zp_P zt_tf zt_fd X d zm_115 13 [(0, .ref 59), (1, .long x1), (3, .int x3), (4, .int x4), (5, .int x5)] [] h Q) {Q : zz_O → zz_H → Prop} {x1 : Int64} {x3 : Int32} {x4 : Int32} {x5 : Int32} {h : zz_H} {t t' : cS} {o : kY} (hR : kR h t s) (hf : cf_115_13 N X rc x1 x3 x4 x5 t = some (t', o)) (k : (∀ h', kR h' t' s → kE o Q h')) : zz_J zp_P zt_tf zt_fd X d zm_115 13 [(0, .ref 59), (1, .long x1), (3, .int x3), (4, .int x4), (5, .int x5)] [] h Q := by
  unfold cf_115_13 at hf
  refine cb_115_13 hR  (fun c {h} hR => ?_) (fun c {h} hR => ?_)
  · rw [if_pos c] at hf
    exact cr_115_43 hd hR hf k
  · rw [if_neg c] at hf
    exact cr_115_20 hd hrc0 hR hf k
def cf_115_L2 (N : Nat) (X : Nat → Option zz_C) : Nat → Nat → Int64 → Int32 → Int32 → Int32 → cS → kO
  | 0, _, _, _, _, _, _ => none
  | n + 1, l, x1, x3, x4, x5, t => if l = 0 then cf_115_13 N X (cf_115_L2 N X n) x1 x3 x4 x5 t else none
theorem cr_115_L2 {X : Nat → Option zz_C} {s : mS} {N : Nat} {d : Nat} (hd : 1 ≤ d) : ∀ n : Nat, (∀ {Q : zz_O → zz_H → Prop} {x1 : Int64} {x3 : Int32} {x4 : Int32} {x5 : Int32} {h : zz_H} {t t' : cS} {o : kY}, kR h t s → cf_115_L2 N X n 0 x1 x3 x4 x5 t = some (t', o) → (∀ h', kR h' t' s → kE o Q h') → zz_J zp_P zt_tf zt_fd X d zm_115 13 [(0, .ref 59), (1, .long x1), (3, .int x3), (4, .int x4), (5, .int x5)] [] h Q) := by
  intro n
  induction n with
  | zero => exact (fun _ hf _ => by cases hf)
  | succ n ih =>
    have h0 := @ih
    intro Q _ _ _ _ h t t' o hR hf k
    unfold cf_115_L2 at hf
    rw [if_pos rfl] at hf
    exact cr_115_13 hd h0 hR hf k
def cf_115_8 (N : Nat) (X : Nat → Option zz_C) (x1 : Int64) (x3 : Int32) (y0 : Int32) (t : cS) : kO := cf_115_L2 N X N 0 x1 x3 y0 0 t
theorem cr_115_8 {X : Nat → Option zz_C} {s : mS} {N : Nat} {d : Nat} (hd : 1 ≤ d) {Q : zz_O → zz_H → Prop} {x1 : Int64} {x3 : Int32} {y0 : Int32} {h : zz_H} {t t' : cS} {o : kY} (hR : kR h t s) (hf : cf_115_8 N X x1 x3 y0 t = some (t', o)) (k : (∀ h', kR h' t' s → kE o Q h')) : zz_J zp_P zt_tf zt_fd X d zm_115 8 [(0, .ref 59), (1, .long x1), (3, .int x3)] [.int y0] h Q := by
  unfold cf_115_8 at hf
  exact cb_115_8 hR  (fun hR => cr_115_L2 hd N hR hf k)
def cf_115_0 (N : Nat) (X : Nat → Option zz_C) (x1 : Int64) (x3 : Int32) (t : cS) : kO := ko_call 2 (cf_128 N X x1 t) (fun g1 v1 => co_i v1 (fun y => cf_115_8 N X x1 x3 y g1))
theorem cr_115_0 {X : Nat → Option zz_C} {s : mS} {N : Nat} {d : Nat} (hd : 1 ≤ d) {Q : zz_O → zz_H → Prop} {x1 : Int64} {x3 : Int32} {h : zz_H} {t t' : cS} {o : kY} (hR : kR h t s) (hf : cf_115_0 N X x1 x3 t = some (t', o)) (k : (∀ h', kR h' t' s → kE o Q h')) : zz_J zp_P zt_tf zt_fd X d zm_115 0 [(0, .ref 59), (1, .long x1), (3, .int x3)] [] h Q := by
  unfold cf_115_0 at hf
  obtain ⟨d', rfl⟩ : ∃ d', d = d' + 1 := ⟨d - 1, by omega⟩
  refine cb_115_0 hR  (fun {h} hR => ?_)
  rcases ko_call_ok hf with ⟨g1, v1, er, hf⟩ | ⟨g1, er, hq⟩
  · obtain ⟨y, hv, hf2⟩ := co_i_ok hf
    clear hf
    have hf := hf2
    clear hf2
    subst hv
    refine cr_128 (by omega) hR er (fun h hR => ?_)
    exact cr_115_8 hd hR hf k
  · refine cr_128 (by omega) hR er (fun h hR => ?_)
    exact ko_thrown hq hR k
/-- firstPlace -/
def cf_115 (N : Nat) (X : Nat → Option zz_C) (x1 : Int64) (x3 : Int32) (t : cS) : kO := cf_115_0 N X x1 x3 t
theorem cr_115 {X : Nat → Option zz_C} {s : mS} {N : Nat} {d : Nat} (hd : 1 ≤ d) {Q : zz_O → zz_H → Prop} {x1 : Int64} {x3 : Int32} {h : zz_H} {t t' : cS} {o : kY} (hR : kR h t s) (hf : cf_115 N X x1 x3 t = some (t', o)) (k : ∀ h', kR h' t' s → kE o Q h') : zz_J zp_P zt_tf zt_fd X d zm_115 0 [(0, .ref 59), (1, .long x1), (3, .int x3)] [] h Q := by
  unfold cf_115 at hf
  exact zz_J.weak (cr_115_0 hd hR hf k) rfl ⟨rfl, rfl, rfl, trivial⟩
