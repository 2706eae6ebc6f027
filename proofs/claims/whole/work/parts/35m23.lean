/-! pad (III)V -/
theorem mb_342_0 {X : Nat → Option zz_C} {h : zz_H} (hh : 111 ≤ h.length) {s : mS} {d : Nat} {Q : Option Value → zz_H → Prop} {x1 : Int32} {x2 : Int32} {x3 : Int32} (k1 : 64 < x2 → zz_E zp_P zt_tf zt_fd X d zm_342 22 [(0, .ref 61), (1, .int x1), (2, .int x2), (3, .int x3)] [] (mH h s) Q) (k2 : ¬ 64 < x2 → zz_E zp_P zt_tf zt_fd X d zm_342 6 [(0, .ref 61), (1, .int x1), (2, .int x2), (3, .int x3)] [] (mH h s) Q) : zz_E zp_P zt_tf zt_fd X d zm_342 0 [(0, .ref 61), (1, .int x1), (2, .int x2), (3, .int x3)] [] (mH h s) Q := by
  refine zz_E.n 1 rfl rfl rfl ?_
  refine zz_E.c 3 (.int 64) rfl rfl rfl rfl ?_
  refine zz_E.b2 22 6 (A := 64 < x2) rfl rfl (by decide) rfl rfl (fun c => ?_) (fun c => ?_)
  · exact zz_E.weak (k1 c) rfl ⟨rfl, rfl, rfl, rfl, trivial⟩
  · exact zz_E.weak (k2 c) rfl ⟨rfl, rfl, rfl, rfl, trivial⟩
theorem mb_342_6 {X : Nat → Option zz_C} {h : zz_H} (hh : 111 ≤ h.length) {s : mS} {d : Nat} {Q : Option Value → zz_H → Prop} {x1 : Int32} {x2 : Int32} {x3 : Int32} (k : zz_E zp_P zt_tf zt_fd X d zm_77 0 [(0, .ref 61), (1, .int x1)] [] (mH h s) (fun v h' => zz_E zp_P zt_tf zt_fd X (d + 1) zm_342 11 [(0, .ref 61), (1, .int x1), (2, .int x2), (3, .int x3)] (v.toList ++ []) h' Q)) : zz_E zp_P zt_tf zt_fd X (d + 1) zm_342 6 [(0, .ref 61), (1, .int x1), (2, .int x2), (3, .int x3)] [] (mH h s) Q := by
  refine zz_E.n 7 rfl rfl rfl ?_
  refine zz_E.n 8 rfl rfl rfl ?_
  refine mE_cv hh 11 (as := []) rfl rfl (Nat.le_of_ble_eq_true rfl) (Nat.le_of_ble_eq_true rfl) rfl (Nat.le_of_ble_eq_true rfl) rfl ?_
  refine zz_E.mono k ?_
  intro v h' hE
  exact zz_E.weak hE rfl ⟨rfl, rfl, rfl, rfl, trivial⟩
theorem mb_342_11 {X : Nat → Option zz_C} {h : zz_H} (hh : 111 ≤ h.length) {s : mS} {d : Nat} {Q : Option Value → zz_H → Prop} {x1 : Int32} {x2 : Int32} {x3 : Int32} {y0 : Int32} (k1 : (lg_cmp ((Int32.toInt64 y0) * (Int32.toInt64 x2)) 200) ≤ 0 → zz_E zp_P zt_tf zt_fd X d zm_342 26 [(0, .ref 61), (1, .int x1), (2, .int x2), (3, .int x3)] [] (mH h s) Q) (k2 : ¬ (lg_cmp ((Int32.toInt64 y0) * (Int32.toInt64 x2)) 200) ≤ 0 → zz_E zp_P zt_tf zt_fd X d zm_342 22 [(0, .ref 61), (1, .int x1), (2, .int x2), (3, .int x3)] [] (mH h s) Q) : zz_E zp_P zt_tf zt_fd X d zm_342 11 [(0, .ref 61), (1, .int x1), (2, .int x2), (3, .int x3)] [.int y0] (mH h s) Q := by
  refine zz_E.n 12 rfl rfl rfl ?_
  refine zz_E.n 13 rfl rfl rfl ?_
  refine zz_E.n 14 rfl rfl rfl ?_
  refine zz_E.n 15 rfl rfl rfl ?_
  refine zz_E.c 18 (.long 200) rfl rfl rfl rfl ?_
  refine zz_E.n 19 rfl rfl rfl ?_
  refine zz_E.b1 26 22 (A := (lg_cmp ((Int32.toInt64 y0) * (Int32.toInt64 x2)) 200) ≤ 0) rfl rfl (by decide) rfl rfl (fun c => ?_) (fun c => ?_)
  · exact zz_E.weak (k1 c) rfl ⟨rfl, rfl, rfl, rfl, trivial⟩
  · exact zz_E.weak (k2 c) rfl ⟨rfl, rfl, rfl, rfl, trivial⟩
theorem mb_342_22 {X : Nat → Option zz_C} {h : zz_H} (hh : 111 ≤ h.length) {s : mS} {d : Nat} {Q : Option Value → zz_H → Prop} {x1 : Int32} {x2 : Int32} {x3 : Int32} (k : zz_E zp_P zt_tf zt_fd X d zm_342 27 [(0, .ref 61), (1, .int x1), (2, .int x2), (3, .int x3)] [.int 1] (mH h s) Q) : zz_E zp_P zt_tf zt_fd X d zm_342 22 [(0, .ref 61), (1, .int x1), (2, .int x2), (3, .int x3)] [] (mH h s) Q := by
  refine zz_E.c 23 (.int 1) rfl rfl rfl rfl ?_
  refine zz_E.n 27 rfl rfl rfl ?_
  exact zz_E.weak k rfl ⟨rfl, rfl, rfl, rfl, trivial⟩
theorem mb_342_26 {X : Nat → Option zz_C} {h : zz_H} (hh : 111 ≤ h.length) {s : mS} {d : Nat} {Q : Option Value → zz_H → Prop} {x1 : Int32} {x2 : Int32} {x3 : Int32} (k : zz_E zp_P zt_tf zt_fd X d zm_342 27 [(0, .ref 61), (1, .int x1), (2, .int x2), (3, .int x3)] [.int 0] (mH h s) Q) : zz_E zp_P zt_tf zt_fd X d zm_342 26 [(0, .ref 61), (1, .int x1), (2, .int x2), (3, .int x3)] [] (mH h s) Q := by
  refine zz_E.c 27 (.int 0) rfl rfl rfl rfl ?_
  exact zz_E.weak k rfl ⟨rfl, rfl, rfl, rfl, trivial⟩
theorem mb_342_27 {X : Nat → Option zz_C} {h : zz_H} (hh : 111 ≤ h.length) {s : mS} {d : Nat} {Q : Option Value → zz_H → Prop} {x1 : Int32} {x2 : Int32} {x3 : Int32} {y0 : Int32} (k1 : ¬ y0 = 0 → zz_E zp_P zt_tf zt_fd X d zm_342 38 [(0, .ref 61), (4, .int y0)] [] (mH h s) Q) (k2 : ¬ ¬ y0 = 0 → zz_E zp_P zt_tf zt_fd X d zm_342 34 [(0, .ref 61), (1, .int x1), (2, .int x2), (3, .int x3), (4, .int y0)] [] (mH h s) Q) : zz_E zp_P zt_tf zt_fd X d zm_342 27 [(0, .ref 61), (1, .int x1), (2, .int x2), (3, .int x3)] [.int y0] (mH h s) Q := by
  refine zz_E.n 29 rfl rfl rfl ?_
  refine zz_E.n 31 rfl rfl rfl ?_
  refine zz_E.b1 38 34 (A := ¬ y0 = 0) rfl (zz_cond_ne _ _) (by decide) rfl rfl (fun c => ?_) (fun c => ?_)
  · exact zz_E.weak (k1 c) rfl ⟨rfl, rfl, trivial⟩
  · exact zz_E.weak (k2 c) rfl ⟨rfl, rfl, rfl, rfl, rfl, trivial⟩
theorem mb_342_34 {X : Nat → Option zz_C} {h : zz_H} (hh : 111 ≤ h.length) {s : mS} {d : Nat} {Q : Option Value → zz_H → Prop} {x1 : Int32} {x2 : Int32} {x3 : Int32} {x4 : Int32} (k1 : 0 ≤ x2 → zz_E zp_P zt_tf zt_fd X d zm_342 57 [(0, .ref 61), (1, .int x1), (2, .int x2), (3, .int x3)] [] (mH h s) Q) (k2 : ¬ 0 ≤ x2 → zz_E zp_P zt_tf zt_fd X d zm_342 38 [(0, .ref 61), (4, .int x4)] [] (mH h s) Q) : zz_E zp_P zt_tf zt_fd X d zm_342 34 [(0, .ref 61), (1, .int x1), (2, .int x2), (3, .int x3), (4, .int x4)] [] (mH h s) Q := by
  refine zz_E.n 35 rfl rfl rfl ?_
  refine zz_E.b1 57 38 (A := 0 ≤ x2) rfl rfl (by decide) rfl rfl (fun c => ?_) (fun c => ?_)
  · exact zz_E.weak (k1 c) rfl ⟨rfl, rfl, rfl, rfl, trivial⟩
  · exact zz_E.weak (k2 c) rfl ⟨rfl, rfl, trivial⟩
theorem mb_342_38 {X : Nat → Option zz_C} {h : zz_H} (hh : 111 ≤ h.length) {s : mS} {d : Nat} {Q : Option Value → zz_H → Prop} {x4 : Int32} (k1 : x4 = 0 → zz_E zp_P zt_tf zt_fd X d zm_342 48 [(0, .ref 61)] [.ref 61] (mH h s) Q) (k2 : ¬ x4 = 0 → zz_E zp_P zt_tf zt_fd X d zm_342 44 [(0, .ref 61)] [.ref 61] (mH h s) Q) : zz_E zp_P zt_tf zt_fd X d zm_342 38 [(0, .ref 61), (4, .int x4)] [] (mH h s) Q := by
  refine zz_E.n 39 rfl rfl rfl ?_
  refine zz_E.n 41 rfl rfl rfl ?_
  refine zz_E.b1 48 44 (A := x4 = 0) rfl rfl (by decide) rfl rfl (fun c => ?_) (fun c => ?_)
  · exact zz_E.weak (k1 c) rfl ⟨rfl, trivial⟩
  · exact zz_E.weak (k2 c) rfl ⟨rfl, trivial⟩
theorem mb_342_44 {X : Nat → Option zz_C} {h : zz_H} (hh : 111 ≤ h.length) {s : mS} {d : Nat} {Q : Option Value → zz_H → Prop}  (k : zz_E zp_P zt_tf zt_fd X d zm_342 49 [(0, .ref 61)] [.int 2, .ref 61] (mH h s) Q) : zz_E zp_P zt_tf zt_fd X d zm_342 44 [(0, .ref 61)] [.ref 61] (mH h s) Q := by
  refine zz_E.c 45 (.int 2) rfl rfl rfl rfl ?_
  refine zz_E.n 49 rfl rfl rfl ?_
  exact zz_E.weak k rfl ⟨rfl, trivial⟩
theorem mb_342_48 {X : Nat → Option zz_C} {h : zz_H} (hh : 111 ≤ h.length) {s : mS} {d : Nat} {Q : Option Value → zz_H → Prop}  (k : zz_E zp_P zt_tf zt_fd X d zm_342 49 [(0, .ref 61)] [.int 1, .ref 61] (mH h s) Q) : zz_E zp_P zt_tf zt_fd X d zm_342 48 [(0, .ref 61)] [.ref 61] (mH h s) Q := by
  refine zz_E.c 49 (.int 1) rfl rfl rfl rfl ?_
  exact zz_E.weak k rfl ⟨rfl, trivial⟩
theorem mb_342_49 {X : Nat → Option zz_C} {h : zz_H} (hh : 111 ≤ h.length) {s : mS} {d : Nat} {Q : Option Value → zz_H → Prop} {y1 : Int32} (k : zz_E zp_P zt_tf zt_fd X d zm_301 0 [(0, .ref 61), (1, .int y1), (2, .int (s.1 70))] [] (mH h s) (fun v h' => zz_E zp_P zt_tf zt_fd X (d + 1) zm_342 56 [] (v.toList ++ []) h' Q)) : zz_E zp_P zt_tf zt_fd X (d + 1) zm_342 49 [(0, .ref 61)] [.int y1, .ref 61] (mH h s) Q := by
  refine zz_E.n 50 rfl rfl rfl ?_
  refine mE_g hh 53 (v := .int (s.1 70)) rfl rfl rfl ?_
  refine mE_cv hh 56 (as := []) rfl rfl (Nat.le_of_ble_eq_true rfl) (Nat.le_of_ble_eq_true rfl) rfl (Nat.le_of_ble_eq_true rfl) rfl ?_
  refine zz_E.mono k ?_
  intro v h' hE
  exact zz_E.weak hE rfl trivial
theorem mb_342_56 {X : Nat → Option zz_C} {h : zz_H} (hh : 111 ≤ h.length) {s : mS} {d : Nat} {Q : Option Value → zz_H → Prop}  (k : Q none (mH h s)) : zz_E zp_P zt_tf zt_fd X d zm_342 56 [] [] (mH h s) Q := by
  refine zz_E.ret rfl rfl rfl ?_
  exact k
theorem mb_342_57 {X : Nat → Option zz_C} {h : zz_H} (hh : 111 ≤ h.length) {s : mS} {d : Nat} {Q : Option Value → zz_H → Prop} {x1 : Int32} {x2 : Int32} {x3 : Int32} (k : zz_E zp_P zt_tf zt_fd X d zm_342 65 [(0, .ref 61), (1, .int x1), (2, .int x2), (3, .int x3), (5, .int 0)] [] (mH h (mI s 51 x3)) Q) : zz_E zp_P zt_tf zt_fd X d zm_342 57 [(0, .ref 61), (1, .int x1), (2, .int x2), (3, .int x3)] [] (mH h s) Q := by
  refine zz_E.n 58 rfl rfl rfl ?_
  refine zz_E.n 59 rfl rfl rfl ?_
  refine mE_p hh 62 rfl (by decide) rfl (mF_51 _ _) rfl ?_
  refine zz_E.c 63 (.int 0) rfl rfl rfl rfl ?_
  refine zz_E.n 65 rfl rfl rfl ?_
  exact zz_E.weak k rfl ⟨rfl, rfl, rfl, rfl, rfl, trivial⟩
theorem mb_342_65 {X : Nat → Option zz_C} {h : zz_H} (hh : 111 ≤ h.length) {s : mS} {d : Nat} {Q : Option Value → zz_H → Prop} {x1 : Int32} {x2 : Int32} {x3 : Int32} {x5 : Int32} (k : zz_E zp_P zt_tf zt_fd X d zm_77 0 [(0, .ref 61), (1, .int x1)] [] (mH h s) (fun v h' => zz_E zp_P zt_tf zt_fd X (d + 1) zm_342 72 [(0, .ref 61), (1, .int x1), (2, .int x2), (3, .int x3), (5, .int x5)] (v.toList ++ [.int x5]) h' Q)) : zz_E zp_P zt_tf zt_fd X (d + 1) zm_342 65 [(0, .ref 61), (1, .int x1), (2, .int x2), (3, .int x3), (5, .int x5)] [] (mH h s) Q := by
  refine zz_E.n 67 rfl rfl rfl ?_
  refine zz_E.n 68 rfl rfl rfl ?_
  refine zz_E.n 69 rfl rfl rfl ?_
  refine mE_cv hh 72 (as := [.int x5]) rfl rfl (Nat.le_of_ble_eq_true rfl) (Nat.le_of_ble_eq_true rfl) rfl (Nat.le_of_ble_eq_true rfl) rfl ?_
  refine zz_E.mono k ?_
  intro v h' hE
  exact zz_E.weak hE rfl ⟨rfl, rfl, rfl, rfl, rfl, trivial⟩
theorem mb_342_72 {X : Nat → Option zz_C} {h : zz_H} (hh : 111 ≤ h.length) {s : mS} {d : Nat} {Q : Option Value → zz_H → Prop} {x1 : Int32} {x2 : Int32} {x3 : Int32} {x5 : Int32} {y0 : Int32} {y1 : Int32} (k1 : y1 ≤ y0 → zz_E zp_P zt_tf zt_fd X d zm_342 149 [(0, .ref 61), (3, .int x3)] [] (mH h s) Q) (k2 : ¬ y1 ≤ y0 → zz_E zp_P zt_tf zt_fd X d zm_342 75 [(0, .ref 61), (1, .int x1), (2, .int x2), (3, .int x3), (5, .int x5)] [] (mH h s) Q) : zz_E zp_P zt_tf zt_fd X d zm_342 72 [(0, .ref 61), (1, .int x1), (2, .int x2), (3, .int x3), (5, .int x5)] [.int y1, .int y0] (mH h s) Q := by
  refine zz_E.b2 149 75 (A := y1 ≤ y0) rfl rfl (by decide) rfl rfl (fun c => ?_) (fun c => ?_)
  · exact zz_E.weak (k1 c) rfl ⟨rfl, rfl, trivial⟩
  · exact zz_E.weak (k2 c) rfl ⟨rfl, rfl, rfl, rfl, rfl, trivial⟩
theorem mb_342_75 {X : Nat → Option zz_C} {h : zz_H} (hh : 111 ≤ h.length) {s : mS} {d : Nat} {Q : Option Value → zz_H → Prop} {x1 : Int32} {x2 : Int32} {x3 : Int32} {x5 : Int32} (k : zz_E zp_P zt_tf zt_fd X d zm_294 0 [(0, .ref 61), (1, .int x1), (2, .int x5)] [] (mH h s) (fun v h' => zz_E zp_P zt_tf zt_fd X (d + 1) zm_342 82 [(0, .ref 61), (1, .int x1), (2, .int x2), (3, .int x3), (5, .int x5)] (v.toList ++ []) h' Q)) : zz_E zp_P zt_tf zt_fd X (d + 1) zm_342 75 [(0, .ref 61), (1, .int x1), (2, .int x2), (3, .int x3), (5, .int x5)] [] (mH h s) Q := by
  refine zz_E.n 76 rfl rfl rfl ?_
  refine zz_E.n 77 rfl rfl rfl ?_
  refine zz_E.n 79 rfl rfl rfl ?_
  refine mE_cv hh 82 (as := []) rfl rfl (Nat.le_of_ble_eq_true rfl) (Nat.le_of_ble_eq_true rfl) rfl (Nat.le_of_ble_eq_true rfl) rfl ?_
  refine zz_E.mono k ?_
  intro v h' hE
  exact zz_E.weak hE rfl ⟨rfl, rfl, rfl, rfl, rfl, trivial⟩
theorem mb_342_82 {X : Nat → Option zz_C} {h : zz_H} (hh : 111 ≤ h.length) {s : mS} {d : Nat} {Q : Option Value → zz_H → Prop} {x1 : Int32} {x2 : Int32} {x3 : Int32} {x5 : Int32} {y0 : Int32} (k : zz_E zp_P zt_tf zt_fd X d zm_342 93 [(0, .ref 61), (1, .int x1), (2, .int x2), (3, .int x3), (5, .int x5), (6, .int y0), (7, .int (s.1 51)), (8, .int 0)] [] (mH h s) Q) : zz_E zp_P zt_tf zt_fd X d zm_342 82 [(0, .ref 61), (1, .int x1), (2, .int x2), (3, .int x3), (5, .int x5)] [.int y0] (mH h s) Q := by
  refine zz_E.n 84 rfl rfl rfl ?_
  refine zz_E.n 85 rfl rfl rfl ?_
  refine mE_g hh 88 (v := .int (s.1 51)) rfl rfl rfl ?_
  refine zz_E.n 90 rfl rfl rfl ?_
  refine zz_E.c 91 (.int 0) rfl rfl rfl rfl ?_
  refine zz_E.n 93 rfl rfl rfl ?_
  exact zz_E.weak k rfl ⟨rfl, rfl, rfl, rfl, rfl, rfl, rfl, rfl, trivial⟩
theorem mb_342_93 {X : Nat → Option zz_C} {h : zz_H} (hh : 111 ≤ h.length) {s : mS} {d : Nat} {Q : Option Value → zz_H → Prop} {x1 : Int32} {x2 : Int32} {x3 : Int32} {x5 : Int32} {x6 : Int32} {x7 : Int32} {x8 : Int32} (k1 : x2 ≤ x8 → zz_E zp_P zt_tf zt_fd X d zm_342 137 [(0, .ref 61), (1, .int x1), (2, .int x2), (3, .int x3), (5, .int x5), (7, .int x7)] [] (mH h s) Q) (k2 : ¬ x2 ≤ x8 → zz_E zp_P zt_tf zt_fd X d zm_342 99 [(0, .ref 61), (1, .int x1), (2, .int x2), (3, .int x3), (5, .int x5), (6, .int x6), (7, .int x7), (8, .int x8)] [] (mH h s) Q) : zz_E zp_P zt_tf zt_fd X d zm_342 93 [(0, .ref 61), (1, .int x1), (2, .int x2), (3, .int x3), (5, .int x5), (6, .int x6), (7, .int x7), (8, .int x8)] [] (mH h s) Q := by
  refine zz_E.n 95 rfl rfl rfl ?_
  refine zz_E.n 96 rfl rfl rfl ?_
  refine zz_E.b2 137 99 (A := x2 ≤ x8) rfl rfl (by decide) rfl rfl (fun c => ?_) (fun c => ?_)
  · exact zz_E.weak (k1 c) rfl ⟨rfl, rfl, rfl, rfl, rfl, rfl, trivial⟩
  · exact zz_E.weak (k2 c) rfl ⟨rfl, rfl, rfl, rfl, rfl, rfl, rfl, rfl, trivial⟩
theorem mb_342_99 {X : Nat → Option zz_C} {h : zz_H} (hh : 111 ≤ h.length) {s : mS} {d : Nat} {Q : Option Value → zz_H → Prop} {x1 : Int32} {x2 : Int32} {x3 : Int32} {x5 : Int32} {x6 : Int32} {x7 : Int32} {x8 : Int32} (k : zz_E zp_P zt_tf zt_fd X d zm_77 0 [(0, .ref 61), (1, .int x6)] [] (mH h s) (fun v h' => zz_E zp_P zt_tf zt_fd X (d + 1) zm_342 109 [(0, .ref 61), (1, .int x1), (2, .int x2), (3, .int x3), (5, .int x5), (6, .int x6), (7, .int x7), (8, .int x8)] (v.toList ++ [.int x8, .int 0, .ref 61]) h' Q)) : zz_E zp_P zt_tf zt_fd X (d + 1) zm_342 99 [(0, .ref 61), (1, .int x1), (2, .int x2), (3, .int x3), (5, .int x5), (6, .int x6), (7, .int x7), (8, .int x8)] [] (mH h s) Q := by
  refine zz_E.n 100 rfl rfl rfl ?_
  refine zz_E.c 101 (.int 0) rfl rfl rfl rfl ?_
  refine zz_E.n 103 rfl rfl rfl ?_
  refine zz_E.n 104 rfl rfl rfl ?_
  refine zz_E.n 106 rfl rfl rfl ?_
  refine mE_cv hh 109 (as := [.int x8, .int 0, .ref 61]) rfl rfl (Nat.le_of_ble_eq_true rfl) (Nat.le_of_ble_eq_true rfl) rfl (Nat.le_of_ble_eq_true rfl) rfl ?_
  refine zz_E.mono k ?_
  intro v h' hE
  exact zz_E.weak hE rfl ⟨rfl, rfl, rfl, rfl, rfl, rfl, rfl, rfl, trivial⟩
theorem mb_342_109 {X : Nat → Option zz_C} {h : zz_H} (hh : 111 ≤ h.length) {s : mS} {d : Nat} {Q : Option Value → zz_H → Prop} {x1 : Int32} {x2 : Int32} {x3 : Int32} {x5 : Int32} {x6 : Int32} {x7 : Int32} {x8 : Int32} {y1 : Int32} {y2 : Int32} {y3 : Int32} (k1 : y3 ≤ y2 → zz_E zp_P zt_tf zt_fd X d zm_342 127 [(0, .ref 61), (1, .int x1), (2, .int x2), (3, .int x3), (5, .int x5), (6, .int x6), (7, .int x7), (8, .int x8)] [.int y1, .ref 61] (mH h s) Q) (k2 : ¬ y3 ≤ y2 → zz_E zp_P zt_tf zt_fd X d zm_342 112 [(0, .ref 61), (1, .int x1), (2, .int x2), (3, .int x3), (5, .int x5), (6, .int x6), (7, .int x7), (8, .int x8)] [.int y1, .ref 61] (mH h s) Q) : zz_E zp_P zt_tf zt_fd X d zm_342 109 [(0, .ref 61), (1, .int x1), (2, .int x2), (3, .int x3), (5, .int x5), (6, .int x6), (7, .int x7), (8, .int x8)] [.int y3, .int y2, .int y1, .ref 61] (mH h s) Q := by
  refine zz_E.b2 127 112 (A := y3 ≤ y2) rfl rfl (by decide) rfl rfl (fun c => ?_) (fun c => ?_)
  · exact zz_E.weak (k1 c) rfl ⟨rfl, rfl, rfl, rfl, rfl, rfl, rfl, rfl, trivial⟩
  · exact zz_E.weak (k2 c) rfl ⟨rfl, rfl, rfl, rfl, rfl, rfl, rfl, rfl, trivial⟩
theorem mb_342_112 {X : Nat → Option zz_C} {h : zz_H} (hh : 111 ≤ h.length) {s : mS} {d : Nat} {Q : Option Value → zz_H → Prop} {x1 : Int32} {x2 : Int32} {x3 : Int32} {x5 : Int32} {x6 : Int32} {x7 : Int32} {x8 : Int32} {y1 : Int32} (i123 : ¬ (((x6 + 2) + x8) < 0 ∨ 166300 ≤ Int32.toNatClampNeg ((x6 + 2) + x8))) (k : zz_E zp_P zt_tf zt_fd X d zm_342 128 [(0, .ref 61), (1, .int x1), (2, .int x2), (3, .int x3), (5, .int x5), (6, .int x6), (7, .int x7), (8, .int x8)] [.int ((s.2.2.1 47) (Int32.toNatClampNeg ((x6 + 2) + x8))), .int y1, .ref 61] (mH h s) Q) : zz_E zp_P zt_tf zt_fd X d zm_342 112 [(0, .ref 61), (1, .int x1), (2, .int x2), (3, .int x3), (5, .int x5), (6, .int x6), (7, .int x7), (8, .int x8)] [.int y1, .ref 61] (mH h s) Q := by
  refine zz_E.n 113 rfl rfl rfl ?_
  refine mE_g hh 116 (v := .ref 89) rfl rfl rfl ?_
  refine zz_E.n 118 rfl rfl rfl ?_
  refine zz_E.c 119 (.int 2) rfl rfl rfl rfl ?_
  refine zz_E.n 120 rfl rfl rfl ?_
  refine zz_E.n 122 rfl rfl rfl ?_
  refine zz_E.n 123 rfl rfl rfl ?_
  refine mE_ia hh 124 28 (f := (s.2.2.1 47)) rfl (by decide) rfl rfl i123 rfl ?_
  refine zz_E.n 128 rfl rfl rfl ?_
  exact zz_E.weak k rfl ⟨rfl, rfl, rfl, rfl, rfl, rfl, rfl, rfl, trivial⟩
theorem mb_342_127 {X : Nat → Option zz_C} {h : zz_H} (hh : 111 ≤ h.length) {s : mS} {d : Nat} {Q : Option Value → zz_H → Prop} {x1 : Int32} {x2 : Int32} {x3 : Int32} {x5 : Int32} {x6 : Int32} {x7 : Int32} {x8 : Int32} {y1 : Int32} (k : zz_E zp_P zt_tf zt_fd X d zm_342 128 [(0, .ref 61), (1, .int x1), (2, .int x2), (3, .int x3), (5, .int x5), (6, .int x6), (7, .int x7), (8, .int x8)] [.int 0, .int y1, .ref 61] (mH h s) Q) : zz_E zp_P zt_tf zt_fd X d zm_342 127 [(0, .ref 61), (1, .int x1), (2, .int x2), (3, .int x3), (5, .int x5), (6, .int x6), (7, .int x7), (8, .int x8)] [.int y1, .ref 61] (mH h s) Q := by
  refine zz_E.c 128 (.int 0) rfl rfl rfl rfl ?_
  exact zz_E.weak k rfl ⟨rfl, rfl, rfl, rfl, rfl, rfl, rfl, rfl, trivial⟩
theorem mb_342_128 {X : Nat → Option zz_C} {h : zz_H} (hh : 111 ≤ h.length) {s : mS} {d : Nat} {Q : Option Value → zz_H → Prop} {x1 : Int32} {x2 : Int32} {x3 : Int32} {x5 : Int32} {x6 : Int32} {x7 : Int32} {x8 : Int32} {y1 : Int32} {y2 : Int32} (k : zz_E zp_P zt_tf zt_fd X d zm_291 0 [(0, .ref 61), (1, .int y1), (2, .int y2)] [] (mH h s) (fun v h' => zz_E zp_P zt_tf zt_fd X (d + 1) zm_342 131 [(0, .ref 61), (1, .int x1), (2, .int x2), (3, .int x3), (5, .int x5), (6, .int x6), (7, .int x7), (8, .int x8)] (v.toList ++ []) h' Q)) : zz_E zp_P zt_tf zt_fd X (d + 1) zm_342 128 [(0, .ref 61), (1, .int x1), (2, .int x2), (3, .int x3), (5, .int x5), (6, .int x6), (7, .int x7), (8, .int x8)] [.int y2, .int y1, .ref 61] (mH h s) Q := by
  refine mE_cv hh 131 (as := []) rfl rfl (Nat.le_of_ble_eq_true rfl) (Nat.le_of_ble_eq_true rfl) rfl (Nat.le_of_ble_eq_true rfl) rfl ?_
  refine zz_E.mono k ?_
  intro v h' hE
  exact zz_E.weak hE rfl ⟨rfl, rfl, rfl, rfl, rfl, rfl, rfl, rfl, trivial⟩
theorem mb_342_131 {X : Nat → Option zz_C} {h : zz_H} (hh : 111 ≤ h.length) {s : mS} {d : Nat} {Q : Option Value → zz_H → Prop} {x1 : Int32} {x2 : Int32} {x3 : Int32} {x5 : Int32} {x6 : Int32} {x7 : Int32} {x8 : Int32} (k : zz_E zp_P zt_tf zt_fd X d zm_342 93 [(0, .ref 61), (1, .int x1), (2, .int x2), (3, .int x3), (5, .int x5), (6, .int x6), (7, .int x7), (8, .int (x8 + 1))] [] (mH h s) Q) : zz_E zp_P zt_tf zt_fd X d zm_342 131 [(0, .ref 61), (1, .int x1), (2, .int x2), (3, .int x3), (5, .int x5), (6, .int x6), (7, .int x7), (8, .int x8)] [] (mH h s) Q := by
  refine zz_E.n 134 rfl rfl rfl ?_
  refine zz_E.n 93 rfl rfl rfl ?_
  exact zz_E.weak k rfl ⟨rfl, rfl, rfl, rfl, rfl, rfl, rfl, rfl, trivial⟩
theorem mb_342_137 {X : Nat → Option zz_C} {h : zz_H} (hh : 111 ≤ h.length) {s : mS} {d : Nat} {Q : Option Value → zz_H → Prop} {x1 : Int32} {x2 : Int32} {x3 : Int32} {x5 : Int32} {x7 : Int32} (k : zz_E zp_P zt_tf zt_fd X d zm_306 0 [(0, .ref 61), (1, .int x7)] [] (mH h s) (fun v h' => zz_E zp_P zt_tf zt_fd X (d + 1) zm_342 143 [(0, .ref 61), (1, .int x1), (2, .int x2), (3, .int x3), (5, .int x5)] (v.toList ++ []) h' Q)) : zz_E zp_P zt_tf zt_fd X (d + 1) zm_342 137 [(0, .ref 61), (1, .int x1), (2, .int x2), (3, .int x3), (5, .int x5), (7, .int x7)] [] (mH h s) Q := by
  refine zz_E.n 138 rfl rfl rfl ?_
  refine zz_E.n 140 rfl rfl rfl ?_
  refine mE_cv hh 143 (as := []) rfl rfl (Nat.le_of_ble_eq_true rfl) (Nat.le_of_ble_eq_true rfl) rfl (Nat.le_of_ble_eq_true rfl) rfl ?_
  refine zz_E.mono k ?_
  intro v h' hE
  exact zz_E.weak hE rfl ⟨rfl, rfl, rfl, rfl, rfl, trivial⟩
theorem mb_342_143 {X : Nat → Option zz_C} {h : zz_H} (hh : 111 ≤ h.length) {s : mS} {d : Nat} {Q : Option Value → zz_H → Prop} {x1 : Int32} {x2 : Int32} {x3 : Int32} {x5 : Int32} (k : zz_E zp_P zt_tf zt_fd X d zm_342 65 [(0, .ref 61), (1, .int x1), (2, .int x2), (3, .int x3), (5, .int (x5 + 1))] [] (mH h s) Q) : zz_E zp_P zt_tf zt_fd X d zm_342 143 [(0, .ref 61), (1, .int x1), (2, .int x2), (3, .int x3), (5, .int x5)] [] (mH h s) Q := by
  refine zz_E.n 146 rfl rfl rfl ?_
  refine zz_E.n 65 rfl rfl rfl ?_
  exact zz_E.weak k rfl ⟨rfl, rfl, rfl, rfl, rfl, trivial⟩
theorem mb_342_149 {X : Nat → Option zz_C} {h : zz_H} (hh : 111 ≤ h.length) {s : mS} {d : Nat} {Q : Option Value → zz_H → Prop} {x3 : Int32} (k : zz_E zp_P zt_tf zt_fd X d zm_305 0 [(0, .ref 61), (1, .int 2), (2, .int x3)] [] (mH h s) (fun v h' => zz_E zp_P zt_tf zt_fd X (d + 1) zm_342 155 [] (v.toList ++ []) h' Q)) : zz_E zp_P zt_tf zt_fd X (d + 1) zm_342 149 [(0, .ref 61), (3, .int x3)] [] (mH h s) Q := by
  refine zz_E.n 150 rfl rfl rfl ?_
  refine zz_E.c 151 (.int 2) rfl rfl rfl rfl ?_
  refine zz_E.n 152 rfl rfl rfl ?_
  refine mE_cv hh 155 (as := []) rfl rfl (Nat.le_of_ble_eq_true rfl) (Nat.le_of_ble_eq_true rfl) rfl (Nat.le_of_ble_eq_true rfl) rfl ?_
  refine zz_E.mono k ?_
  intro v h' hE
  exact zz_E.weak hE rfl trivial
theorem mb_342_155 {X : Nat → Option zz_C} {h : zz_H} (hh : 111 ≤ h.length) {s : mS} {d : Nat} {Q : Option Value → zz_H → Prop}  (k : Q none (mH h s)) : zz_E zp_P zt_tf zt_fd X d zm_342 155 [] [] (mH h s) Q := by
  refine zz_E.ret rfl rfl rfl ?_
  exact k
def mf_342_56 (N : Nat)  (s : mS) : mO := some (s, none)
theorem mr_342_56 {X : Nat → Option zz_C} {h : zz_H} (hh : 111 ≤ h.length) {d : Nat} {N : Nat} {Q : Option Value → zz_H → Prop}  {s s' : mS} {v : Option Value} (hf : mf_342_56 N  s = some (s', v)) (k : Q v (mH h s')) : zz_E zp_P zt_tf zt_fd X (d + 4) zm_342 56 [] [] (mH h s) Q := by
  unfold mf_342_56 at hf
  cases hf
  exact mb_342_56 hh  k
def mf_342_49 (N : Nat) (y1 : Int32) (s : mS) : mO := mo_bv (mf_301 N y1 (s.1 70) s) (fun s1 => mf_342_56 N  s1)
theorem mr_342_49 {X : Nat → Option zz_C} {h : zz_H} (hh : 111 ≤ h.length) {d : Nat} {N : Nat} {Q : Option Value → zz_H → Prop} {y1 : Int32} {s s' : mS} {v : Option Value} (hf : mf_342_49 N y1 s = some (s', v)) (k : Q v (mH h s')) : zz_E zp_P zt_tf zt_fd X (d + 4) zm_342 49 [(0, .ref 61)] [.int y1, .ref 61] (mH h s) Q := by
  unfold mf_342_49 at hf
  obtain ⟨s1, e, hf⟩ := mo_bv_ok hf
  exact mb_342_49 (d := d + 3) hh  (mr_301 (d := d + 3) hh e (mr_342_56 hh hf k))
def mf_342_48 (N : Nat)  (s : mS) : mO := mf_342_49 N 1 s
theorem mr_342_48 {X : Nat → Option zz_C} {h : zz_H} (hh : 111 ≤ h.length) {d : Nat} {N : Nat} {Q : Option Value → zz_H → Prop}  {s s' : mS} {v : Option Value} (hf : mf_342_48 N  s = some (s', v)) (k : Q v (mH h s')) : zz_E zp_P zt_tf zt_fd X (d + 4) zm_342 48 [(0, .ref 61)] [.ref 61] (mH h s) Q := by
  unfold mf_342_48 at hf
  exact mb_342_48 hh  (mr_342_49 hh hf k)
def mf_342_44 (N : Nat)  (s : mS) : mO := mf_342_49 N 2 s
theorem mr_342_44 {X : Nat → Option zz_C} {h : zz_H} (hh : 111 ≤ h.length) {d : Nat} {N : Nat} {Q : Option Value → zz_H → Prop}  {s s' : mS} {v : Option Value} (hf : mf_342_44 N  s = some (s', v)) (k : Q v (mH h s')) : zz_E zp_P zt_tf zt_fd X (d + 4) zm_342 44 [(0, .ref 61)] [.ref 61] (mH h s) Q := by
  unfold mf_342_44 at hf
  exact mb_342_44 hh  (mr_342_49 hh hf k)
def mf_342_38 (N : Nat) (x4 : Int32) (s : mS) : mO := if x4 = 0 then mf_342_48 N  s else mf_342_44 N  s
theorem mr_342_38 {X : Nat → Option zz_C} {h : zz_H} (hh : 111 ≤ h.length) {d : Nat} {N : Nat} {Q : Option Value → zz_H → Prop} {x4 : Int32} {s s' : mS} {v : Option Value} (hf : mf_342_38 N x4 s = some (s', v)) (k : Q v (mH h s')) : zz_E zp_P zt_tf zt_fd X (d + 4) zm_342 38 [(0, .ref 61), (4, .int x4)] [] (mH h s) Q := by
  unfold mf_342_38 at hf
  refine mb_342_38 hh  (fun c => ?_) (fun c => ?_)
  · rw [if_pos c] at hf
    exact mr_342_48 hh hf k
  · rw [if_neg c] at hf
    exact mr_342_44 hh hf k
def mf_342_155 (N : Nat)  (s : mS) : mO := some (s, none)
theorem mr_342_155 {X : Nat → Option zz_C} {h : zz_H} (hh : 111 ≤ h.length) {d : Nat} {N : Nat} {Q : Option Value → zz_H → Prop}  {s s' : mS} {v : Option Value} (hf : mf_342_155 N  s = some (s', v)) (k : Q v (mH h s')) : zz_E zp_P zt_tf zt_fd X (d + 4) zm_342 155 [] [] (mH h s) Q := by
  unfold mf_342_155 at hf
  cases hf
  exact mb_342_155 hh  k
def mf_342_149 (N : Nat) (x3 : Int32) (s : mS) : mO := mo_bv (mf_305 N 2 x3 s) (fun s1 => mf_342_155 N  s1)
theorem mr_342_149 {X : Nat → Option zz_C} {h : zz_H} (hh : 111 ≤ h.length) {d : Nat} {N : Nat} {Q : Option Value → zz_H → Prop} {x3 : Int32} {s s' : mS} {v : Option Value} (hf : mf_342_149 N x3 s = some (s', v)) (k : Q v (mH h s')) : zz_E zp_P zt_tf zt_fd X (d + 4) zm_342 149 [(0, .ref 61), (3, .int x3)] [] (mH h s) Q := by
  unfold mf_342_149 at hf
  obtain ⟨s1, e, hf⟩ := mo_bv_ok hf
  exact mb_342_149 (d := d + 3) hh  (mr_305 (d := d + 0) hh e (mr_342_155 hh hf k))
def mf_342_131 (N : Nat) (rc : Nat → Int32 → Int32 → Int32 → Int32 → Int32 → Int32 → Int32 → mS → mO) (x1 : Int32) (x2 : Int32) (x3 : Int32) (x5 : Int32) (x6 : Int32) (x7 : Int32) (x8 : Int32) (s : mS) : mO := rc 1 x1 x2 x3 x5 x6 x7 (x8 + 1) s
theorem mr_342_131 {X : Nat → Option zz_C} {h : zz_H} (hh : 111 ≤ h.length) {d : Nat} {N : Nat} {rc : Nat → Int32 → Int32 → Int32 → Int32 → Int32 → Int32 → Int32 → mS → mO} (hrc0 : ∀ {Q : Option Value → zz_H → Prop} {x1 : Int32} {x2 : Int32} {x3 : Int32} {x5 : Int32} {s s' : mS} {v : Option Value}, rc 0 x1 x2 x3 x5 0 0 0 s = some (s', v) → Q v (mH h s') → zz_E zp_P zt_tf zt_fd X (d + 4) zm_342 65 [(0, .ref 61), (1, .int x1), (2, .int x2), (3, .int x3), (5, .int x5)] [] (mH h s) Q) (hrc1 : ∀ {Q : Option Value → zz_H → Prop} {x1 : Int32} {x2 : Int32} {x3 : Int32} {x5 : Int32} {x6 : Int32} {x7 : Int32} {x8 : Int32} {s s' : mS} {v : Option Value}, rc 1 x1 x2 x3 x5 x6 x7 x8 s = some (s', v) → Q v (mH h s') → zz_E zp_P zt_tf zt_fd X (d + 4) zm_342 93 [(0, .ref 61), (1, .int x1), (2, .int x2), (3, .int x3), (5, .int x5), (6, .int x6), (7, .int x7), (8, .int x8)] [] (mH h s) Q) {Q : Option Value → zz_H → Prop} {x1 : Int32} {x2 : Int32} {x3 : Int32} {x5 : Int32} {x6 : Int32} {x7 : Int32} {x8 : Int32} {s s' : mS} {v : Option Value} (hf : mf_342_131 N rc x1 x2 x3 x5 x6 x7 x8 s = some (s', v)) (k : Q v (mH h s')) : zz_E zp_P zt_tf zt_fd X (d + 4) zm_342 131 [(0, .ref 61), (1, .int x1), (2, .int x2), (3, .int x3), (5, .int x5), (6, .int x6), (7, .int x7), (8, .int x8)] [] (mH h s) Q := by
  unfold mf_342_131 at hf
  exact mb_342_131 hh  (hrc1 hf k)
def mf_342_128 (N : Nat) (rc : Nat → Int32 → Int32 → Int32 → Int32 → Int32 → Int32 → Int32 → mS → mO) (x1 : Int32) (x2 : Int32) (x3 : Int32) (x5 : Int32) (x6 : Int32) (x7 : Int32) (x8 : Int32) (y1 : Int32) (y2 : Int32) (s : mS) : mO := mo_bv (mf_291 N y1 y2 s) (fun s1 => mf_342_131 N rc x1 x2 x3 x5 x6 x7 x8 s1)
theorem mr_342_128 {X : Nat → Option zz_C} {h : zz_H} (hh : 111 ≤ h.length) {d : Nat} {N : Nat} {rc : Nat → Int32 → Int32 → Int32 → Int32 → Int32 → Int32 → Int32 → mS → mO} (hrc0 : ∀ {Q : Option Value → zz_H → Prop} {x1 : Int32} {x2 : Int32} {x3 : Int32} {x5 : Int32} {s s' : mS} {v : Option Value}, rc 0 x1 x2 x3 x5 0 0 0 s = some (s', v) → Q v (mH h s') → zz_E zp_P zt_tf zt_fd X (d + 4) zm_342 65 [(0, .ref 61), (1, .int x1), (2, .int x2), (3, .int x3), (5, .int x5)] [] (mH h s) Q) (hrc1 : ∀ {Q : Option Value → zz_H → Prop} {x1 : Int32} {x2 : Int32} {x3 : Int32} {x5 : Int32} {x6 : Int32} {x7 : Int32} {x8 : Int32} {s s' : mS} {v : Option Value}, rc 1 x1 x2 x3 x5 x6 x7 x8 s = some (s', v) → Q v (mH h s') → zz_E zp_P zt_tf zt_fd X (d + 4) zm_342 93 [(0, .ref 61), (1, .int x1), (2, .int x2), (3, .int x3), (5, .int x5), (6, .int x6), (7, .int x7), (8, .int x8)] [] (mH h s) Q) {Q : Option Value → zz_H → Prop} {x1 : Int32} {x2 : Int32} {x3 : Int32} {x5 : Int32} {x6 : Int32} {x7 : Int32} {x8 : Int32} {y1 : Int32} {y2 : Int32} {s s' : mS} {v : Option Value} (hf : mf_342_128 N rc x1 x2 x3 x5 x6 x7 x8 y1 y2 s = some (s', v)) (k : Q v (mH h s')) : zz_E zp_P zt_tf zt_fd X (d + 4) zm_342 128 [(0, .ref 61), (1, .int x1), (2, .int x2), (3, .int x3), (5, .int x5), (6, .int x6), (7, .int x7), (8, .int x8)] [.int y2, .int y1, .ref 61] (mH h s) Q := by
  unfold mf_342_128 at hf
  obtain ⟨s1, e, hf⟩ := mo_bv_ok hf
  exact mb_342_128 (d := d + 3) hh  (mr_291 (d := d + 3) hh e (mr_342_131 hh hrc0 hrc1 hf k))
def mf_342_112 (N : Nat) (rc : Nat → Int32 → Int32 → Int32 → Int32 → Int32 → Int32 → Int32 → mS → mO) (x1 : Int32) (x2 : Int32) (x3 : Int32) (x5 : Int32) (x6 : Int32) (x7 : Int32) (x8 : Int32) (y1 : Int32) (s : mS) : mO := if ¬ (((x6 + 2) + x8) < 0 ∨ 166300 ≤ Int32.toNatClampNeg ((x6 + 2) + x8)) then (mf_342_128 N rc x1 x2 x3 x5 x6 x7 x8 y1 ((s.2.2.1 47) (Int32.toNatClampNeg ((x6 + 2) + x8))) s) else none
theorem mr_342_112 {X : Nat → Option zz_C} {h : zz_H} (hh : 111 ≤ h.length) {d : Nat} {N : Nat} {rc : Nat → Int32 → Int32 → Int32 → Int32 → Int32 → Int32 → Int32 → mS → mO} (hrc0 : ∀ {Q : Option Value → zz_H → Prop} {x1 : Int32} {x2 : Int32} {x3 : Int32} {x5 : Int32} {s s' : mS} {v : Option Value}, rc 0 x1 x2 x3 x5 0 0 0 s = some (s', v) → Q v (mH h s') → zz_E zp_P zt_tf zt_fd X (d + 4) zm_342 65 [(0, .ref 61), (1, .int x1), (2, .int x2), (3, .int x3), (5, .int x5)] [] (mH h s) Q) (hrc1 : ∀ {Q : Option Value → zz_H → Prop} {x1 : Int32} {x2 : Int32} {x3 : Int32} {x5 : Int32} {x6 : Int32} {x7 : Int32} {x8 : Int32} {s s' : mS} {v : Option Value}, rc 1 x1 x2 x3 x5 x6 x7 x8 s = some (s', v) → Q v (mH h s') → zz_E zp_P zt_tf zt_fd X (d + 4) zm_342 93 [(0, .ref 61), (1, .int x1), (2, .int x2), (3, .int x3), (5, .int x5), (6, .int x6), (7, .int x7), (8, .int x8)] [] (mH h s) Q) {Q : Option Value → zz_H → Prop} {x1 : Int32} {x2 : Int32} {x3 : Int32} {x5 : Int32} {x6 : Int32} {x7 : Int32} {x8 : Int32} {y1 : Int32} {s s' : mS} {v : Option Value} (hf : mf_342_112 N rc x1 x2 x3 x5 x6 x7 x8 y1 s = some (s', v)) (k : Q v (mH h s')) : zz_E zp_P zt_tf zt_fd X (d + 4) zm_342 112 [(0, .ref 61), (1, .int x1), (2, .int x2), (3, .int x3), (5, .int x5), (6, .int x6), (7, .int x7), (8, .int x8)] [.int y1, .ref 61] (mH h s) Q := by
  unfold mf_342_112 at hf
  obtain ⟨q0, hf⟩ := mo_if hf
  exact mb_342_112 hh q0 (mr_342_128 hh hrc0 hrc1 hf k)
def mf_342_127 (N : Nat) (rc : Nat → Int32 → Int32 → Int32 → Int32 → Int32 → Int32 → Int32 → mS → mO) (x1 : Int32) (x2 : Int32) (x3 : Int32) (x5 : Int32) (x6 : Int32) (x7 : Int32) (x8 : Int32) (y1 : Int32) (s : mS) : mO := mf_342_128 N rc x1 x2 x3 x5 x6 x7 x8 y1 0 s
theorem mr_342_127 {X : Nat → Option zz_C} {h : zz_H} (hh : 111 ≤ h.length) {d : Nat} {N : Nat} {rc : Nat → Int32 → Int32 → Int32 → Int32 → Int32 → Int32 → Int32 → mS → mO} (hrc0 : ∀ {Q : Option Value → zz_H → Prop} {x1 : Int32} {x2 : Int32} {x3 : Int32} {x5 : Int32} {s s' : mS} {v : Option Value}, rc 0 x1 x2 x3 x5 0 0 0 s = some (s', v) → Q v (mH h s') → zz_E zp_P zt_tf zt_fd X (d + 4) zm_342 65 [(0, .ref 61), (1, .int x1), (2, .int x2), (3, .int x3), (5, .int x5)] [] (mH h s) Q) (hrc1 : ∀ {Q : Option Value → zz_H → Prop} {x1 : Int32} {x2 : Int32} {x3 : Int32} {x5 : Int32} {x6 : Int32} {x7 : Int32} {x8 : Int32} {s s' : mS} {v : Option Value}, rc 1 x1 x2 x3 x5 x6 x7 x8 s = some (s', v) → Q v (mH h s') → zz_E zp_P zt_tf zt_fd X (d + 4) zm_342 93 [(0, .ref 61), (1, .int x1), (2, .int x2), (3, .int x3), (5, .int x5), (6, .int x6), (7, .int x7), (8, .int x8)] [] (mH h s) Q) {Q : Option Value → zz_H → Prop} {x1 : Int32} {x2 : Int32} {x3 : Int32} {x5 : Int32} {x6 : Int32} {x7 : Int32} {x8 : Int32} {y1 : Int32} {s s' : mS} {v : Option Value} (hf : mf_342_127 N rc x1 x2 x3 x5 x6 x7 x8 y1 s = some (s', v)) (k : Q v (mH h s')) : zz_E zp_P zt_tf zt_fd X (d + 4) zm_342 127 [(0, .ref 61), (1, .int x1), (2, .int x2), (3, .int x3), (5, .int x5), (6, .int x6), (7, .int x7), (8, .int x8)] [.int y1, .ref 61] (mH h s) Q := by
  unfold mf_342_127 at hf
  exact mb_342_127 hh  (mr_342_128 hh hrc0 hrc1 hf k)
def mf_342_109 (N : Nat) (rc : Nat → Int32 → Int32 → Int32 → Int32 → Int32 → Int32 → Int32 → mS → mO) (x1 : Int32) (x2 : Int32) (x3 : Int32) (x5 : Int32) (x6 : Int32) (x7 : Int32) (x8 : Int32) (y1 : Int32) (y2 : Int32) (y3 : Int32) (s : mS) : mO := if y3 ≤ y2 then mf_342_127 N rc x1 x2 x3 x5 x6 x7 x8 y1 s else mf_342_112 N rc x1 x2 x3 x5 x6 x7 x8 y1 s
theorem mr_342_109 {X : Nat → Option zz_C} {h : zz_H} (hh : 111 ≤ h.length) {d : Nat} {N : Nat} {rc : Nat → Int32 → Int32 → Int32 → Int32 → Int32 → Int32 → Int32 → mS → mO} (hrc0 : ∀ {Q : Option Value → zz_H → Prop} {x1 : Int32} {x2 : Int32} {x3 : Int32} {x5 : Int32} {s s' : mS} {v : Option Value}, rc 0 x1 x2 x3 x5 0 0 0 s = some (s', v) → Q v (mH h s') → zz_E zp_P zt_tf zt_fd X (d + 4) zm_342 65 [(0, .ref 61), (1, .int x1), (2, .int x2), (3, .int x3), (5, .int x5)] [] (mH h s) Q) (hrc1 : ∀ {Q : Option Value → zz_H → Prop} {x1 : Int32} {x2 : Int32} {x3 : Int32} {x5 : Int32} {x6 : Int32} {x7 : Int32} {x8 : Int32} {s s' : mS} {v : Option Value}, rc 1 x1 x2 x3 x5 x6 x7 x8 s = some (s', v) → Q v (mH h s') → zz_E zp_P zt_tf zt_fd X (d + 4) zm_342 93 [(0, .ref 61), (1, .int x1), (2, .int x2), (3, .int x3), (5, .int x5), (6, .int x6), (7, .int x7), (8, .int x8)] [] (mH h s) Q) {Q : Option Value → zz_H → Prop} {x1 : Int32} {x2 : Int32} {x3 : Int32} {x5 : Int32} {x6 : Int32} {x7 : Int32} {x8 : Int32} {y1 : Int32} {y2 : Int32} {y3 : Int32} {s s' : mS} {v : Option Value} (hf : mf_342_109 N rc x1 x2 x3 x5 x6 x7 x8 y1 y2 y3 s = some (s', v)) (k : Q v (mH h s')) : zz_E zp_P zt_tf zt_fd X (d + 4) zm_342 109 [(0, .ref 61), (1, .int x1), (2, .int x2), (3, .int x3), (5, .int x5), (6, .int x6), (7, .int x7), (8, .int x8)] [.int y3, .int y2, .int y1, .ref 61] (mH h s) Q := by
  unfold mf_342_109 at hf
  refine mb_342_109 hh  (fun c => ?_) (fun c => ?_)
  · rw [if_pos c] at hf
    exact mr_342_127 hh hrc0 hrc1 hf k
  · rw [if_neg c] at hf
    exact mr_342_112 hh hrc0 hrc1 hf k
def mf_342_99 (N : Nat) (rc : Nat → Int32 → Int32 → Int32 → Int32 → Int32 → Int32 → Int32 → mS → mO) (x1 : Int32) (x2 : Int32) (x3 : Int32) (x5 : Int32) (x6 : Int32) (x7 : Int32) (x8 : Int32) (s : mS) : mO := mo_bi (mf_77 N x6 s) (fun s1 y => mf_342_109 N rc x1 x2 x3 x5 x6 x7 x8 0 x8 y s1)
theorem mr_342_99 {X : Nat → Option zz_C} {h : zz_H} (hh : 111 ≤ h.length) {d : Nat} {N : Nat} {rc : Nat → Int32 → Int32 → Int32 → Int32 → Int32 → Int32 → Int32 → mS → mO} (hrc0 : ∀ {Q : Option Value → zz_H → Prop} {x1 : Int32} {x2 : Int32} {x3 : Int32} {x5 : Int32} {s s' : mS} {v : Option Value}, rc 0 x1 x2 x3 x5 0 0 0 s = some (s', v) → Q v (mH h s') → zz_E zp_P zt_tf zt_fd X (d + 4) zm_342 65 [(0, .ref 61), (1, .int x1), (2, .int x2), (3, .int x3), (5, .int x5)] [] (mH h s) Q) (hrc1 : ∀ {Q : Option Value → zz_H → Prop} {x1 : Int32} {x2 : Int32} {x3 : Int32} {x5 : Int32} {x6 : Int32} {x7 : Int32} {x8 : Int32} {s s' : mS} {v : Option Value}, rc 1 x1 x2 x3 x5 x6 x7 x8 s = some (s', v) → Q v (mH h s') → zz_E zp_P zt_tf zt_fd X (d + 4) zm_342 93 [(0, .ref 61), (1, .int x1), (2, .int x2), (3, .int x3), (5, .int x5), (6, .int x6), (7, .int x7), (8, .int x8)] [] (mH h s) Q) {Q : Option Value → zz_H → Prop} {x1 : Int32} {x2 : Int32} {x3 : Int32} {x5 : Int32} {x6 : Int32} {x7 : Int32} {x8 : Int32} {s s' : mS} {v : Option Value} (hf : mf_342_99 N rc x1 x2 x3 x5 x6 x7 x8 s = some (s', v)) (k : Q v (mH h s')) : zz_E zp_P zt_tf zt_fd X (d + 4) zm_342 99 [(0, .ref 61), (1, .int x1), (2, .int x2), (3, .int x3), (5, .int x5), (6, .int x6), (7, .int x7), (8, .int x8)] [] (mH h s) Q := by
  unfold mf_342_99 at hf
  obtain ⟨s1, y, e, hf⟩ := mo_bi_ok hf
  exact mb_342_99 (d := d + 3) hh  (mr_77 (d := d + 3) hh e (mr_342_109 hh hrc0 hrc1 hf k))
def mf_342_143 (N : Nat) (rc : Nat → Int32 → Int32 → Int32 → Int32 → Int32 → Int32 → Int32 → mS → mO) (x1 : Int32) (x2 : Int32) (x3 : Int32) (x5 : Int32) (s : mS) : mO := rc 0 x1 x2 x3 (x5 + 1) 0 0 0 s
theorem mr_342_143 {X : Nat → Option zz_C} {h : zz_H} (hh : 111 ≤ h.length) {d : Nat} {N : Nat} {rc : Nat → Int32 → Int32 → Int32 → Int32 → Int32 → Int32 → Int32 → mS → mO} (hrc0 : ∀ {Q : Option Value → zz_H → Prop} {x1 : Int32} {x2 : Int32} {x3 : Int32} {x5 : Int32} {s s' : mS} {v : Option Value}, rc 0 x1 x2 x3 x5 0 0 0 s = some (s', v) → Q v (mH h s') → zz_E zp_P zt_tf zt_fd X (d + 4) zm_342 65 [(0, .ref 61), (1, .int x1), (2, .int x2), (3, .int x3), (5, .int x5)] [] (mH h s) Q) (hrc1 : ∀ {Q : Option Value → zz_H → Prop} {x1 : Int32} {x2 : Int32} {x3 : Int32} {x5 : Int32} {x6 : Int32} {x7 : Int32} {x8 : Int32} {s s' : mS} {v : Option Value}, rc 1 x1 x2 x3 x5 x6 x7 x8 s = some (s', v) → Q v (mH h s') → zz_E zp_P zt_tf zt_fd X (d + 4) zm_342 93 [(0, .ref 61), (1, .int x1), (2, .int x2), (3, .int x3), (5, .int x5), (6, .int x6), (7, .int x7), (8, .int x8)] [] (mH h s) Q) {Q : Option Value → zz_H → Prop} {x1 : Int32} {x2 : Int32} {x3 : Int32} {x5 : Int32} {s s' : mS} {v : Option Value} (hf : mf_342_143 N rc x1 x2 x3 x5 s = some (s', v)) (k : Q v (mH h s')) : zz_E zp_P zt_tf zt_fd X (d + 4) zm_342 143 [(0, .ref 61), (1, .int x1), (2, .int x2), (3, .int x3), (5, .int x5)] [] (mH h s) Q := by
  unfold mf_342_143 at hf
  exact mb_342_143 hh  (hrc0 hf k)
def mf_342_137 (N : Nat) (rc : Nat → Int32 → Int32 → Int32 → Int32 → Int32 → Int32 → Int32 → mS → mO) (x1 : Int32) (x2 : Int32) (x3 : Int32) (x5 : Int32) (x7 : Int32) (s : mS) : mO := mo_bv (mf_306 N x7 s) (fun s1 => mf_342_143 N rc x1 x2 x3 x5 s1)
theorem mr_342_137 {X : Nat → Option zz_C} {h : zz_H} (hh : 111 ≤ h.length) {d : Nat} {N : Nat} {rc : Nat → Int32 → Int32 → Int32 → Int32 → Int32 → Int32 → Int32 → mS → mO} (hrc0 : ∀ {Q : Option Value → zz_H → Prop} {x1 : Int32} {x2 : Int32} {x3 : Int32} {x5 : Int32} {s s' : mS} {v : Option Value}, rc 0 x1 x2 x3 x5 0 0 0 s = some (s', v) → Q v (mH h s') → zz_E zp_P zt_tf zt_fd X (d + 4) zm_342 65 [(0, .ref 61), (1, .int x1), (2, .int x2), (3, .int x3), (5, .int x5)] [] (mH h s) Q) (hrc1 : ∀ {Q : Option Value → zz_H → Prop} {x1 : Int32} {x2 : Int32} {x3 : Int32} {x5 : Int32} {x6 : Int32} {x7 : Int32} {x8 : Int32} {s s' : mS} {v : Option Value}, rc 1 x1 x2 x3 x5 x6 x7 x8 s = some (s', v) → Q v (mH h s') → zz_E zp_P zt_tf zt_fd X (d + 4) zm_342 93 [(0, .ref 61), (1, .int x1), (2, .int x2), (3, .int x3), (5, .int x5), (6, .int x6), (7, .int x7), (8, .int x8)] [] (mH h s) Q) {Q : Option Value → zz_H → Prop} {x1 : Int32} {x2 : Int32} {x3 : Int32} {x5 : Int32} {x7 : Int32} {s s' : mS} {v : Option Value} (hf : mf_342_137 N rc x1 x2 x3 x5 x7 s = some (s', v)) (k : Q v (mH h s')) : zz_E zp_P zt_tf zt_fd X (d + 4) zm_342 137 [(0, .ref 61), (1, .int x1), (2, .int x2), (3, .int x3), (5, .int x5), (7, .int x7)] [] (mH h s) Q := by
  unfold mf_342_137 at hf
  obtain ⟨s1, e, hf⟩ := mo_bv_ok hf
  exact mb_342_137 (d := d + 3) hh  (mr_306 (d := d + 2) hh e (mr_342_143 hh hrc0 hrc1 hf k))
def mf_342_93 (N : Nat) (rc : Nat → Int32 → Int32 → Int32 → Int32 → Int32 → Int32 → Int32 → mS → mO) (x1 : Int32) (x2 : Int32) (x3 : Int32) (x5 : Int32) (x6 : Int32) (x7 : Int32) (x8 : Int32) (s : mS) : mO := if x2 ≤ x8 then mf_342_137 N rc x1 x2 x3 x5 x7 s else mf_342_99 N rc x1 x2 x3 x5 x6 x7 x8 s
theorem mr_342_93 {X : Nat → Option zz_C} {h : zz_H} (hh : 111 ≤ h.length) {d : Nat} {N : Nat} {rc : Nat → Int32 → Int32 → Int32 → Int32 → Int32 → Int32 → Int32 → mS → mO} (hrc0 : ∀ {Q : Option Value → zz_H → Prop} {x1 : Int32} {x2 : Int32} {x3 : Int32} {x5 : Int32} {s s' : mS} {v : Option Value}, rc 0 x1 x2 x3 x5 0 0 0 s = some (s', v) → Q v (mH h s') → zz_E zp_P zt_tf zt_fd X (d + 4) zm_342 65 [(0, .ref 61), (1, .int x1), (2, .int x2), (3, .int x3), (5, .int x5)] [] (mH h s) Q) (hrc1 : ∀ {Q : Option Value → zz_H → Prop} {x1 : Int32} {x2 : Int32} {x3 : Int32} {x5 : Int32} {x6 : Int32} {x7 : Int32} {x8 : Int32} {s s' : mS} {v : Option Value}, rc 1 x1 x2 x3 x5 x6 x7 x8 s = some (s', v) → Q v (mH h s') → zz_E zp_P zt_tf zt_fd X (d + 4) zm_342 93 [(0, .ref 61), (1, .int x1), (2, .int x2), (3, .int x3), (5, .int x5), (6, .int x6), (7, .int x7), (8, .int x8)] [] (mH h s) Q) {Q : Option Value → zz_H → Prop} {x1 : Int32} {x2 : Int32} {x3 : Int32} {x5 : Int32} {x6 : Int32} {x7 : Int32} {x8 : Int32} {s s' : mS} {v : Option Value} (hf : mf_342_93 N rc x1 x2 x3 x5 x6 x7 x8 s = some (s', v)) (k : Q v (mH h s')) : zz_E zp_P zt_tf zt_fd X (d + 4) zm_342 93 [(0, .ref 61), (1, .int x1), (2, .int x2), (3, .int x3), (5, .int x5), (6, .int x6), (7, .int x7), (8, .int x8)] [] (mH h s) Q := by
  unfold mf_342_93 at hf
  refine mb_342_93 hh  (fun c => ?_) (fun c => ?_)
  · rw [if_pos c] at hf
    exact mr_342_137 hh hrc0 hrc1 hf k
  · rw [if_neg c] at hf
    exact mr_342_99 hh hrc0 hrc1 hf k
def mf_342_82 (N : Nat) (rc : Nat → Int32 → Int32 → Int32 → Int32 → Int32 → Int32 → Int32 → mS → mO) (x1 : Int32) (x2 : Int32) (x3 : Int32) (x5 : Int32) (y0 : Int32) (s : mS) : mO := rc 1 x1 x2 x3 x5 y0 (s.1 51) 0 s
theorem mr_342_82 {X : Nat → Option zz_C} {h : zz_H} (hh : 111 ≤ h.length) {d : Nat} {N : Nat} {rc : Nat → Int32 → Int32 → Int32 → Int32 → Int32 → Int32 → Int32 → mS → mO} (hrc0 : ∀ {Q : Option Value → zz_H → Prop} {x1 : Int32} {x2 : Int32} {x3 : Int32} {x5 : Int32} {s s' : mS} {v : Option Value}, rc 0 x1 x2 x3 x5 0 0 0 s = some (s', v) → Q v (mH h s') → zz_E zp_P zt_tf zt_fd X (d + 4) zm_342 65 [(0, .ref 61), (1, .int x1), (2, .int x2), (3, .int x3), (5, .int x5)] [] (mH h s) Q) (hrc1 : ∀ {Q : Option Value → zz_H → Prop} {x1 : Int32} {x2 : Int32} {x3 : Int32} {x5 : Int32} {x6 : Int32} {x7 : Int32} {x8 : Int32} {s s' : mS} {v : Option Value}, rc 1 x1 x2 x3 x5 x6 x7 x8 s = some (s', v) → Q v (mH h s') → zz_E zp_P zt_tf zt_fd X (d + 4) zm_342 93 [(0, .ref 61), (1, .int x1), (2, .int x2), (3, .int x3), (5, .int x5), (6, .int x6), (7, .int x7), (8, .int x8)] [] (mH h s) Q) {Q : Option Value → zz_H → Prop} {x1 : Int32} {x2 : Int32} {x3 : Int32} {x5 : Int32} {y0 : Int32} {s s' : mS} {v : Option Value} (hf : mf_342_82 N rc x1 x2 x3 x5 y0 s = some (s', v)) (k : Q v (mH h s')) : zz_E zp_P zt_tf zt_fd X (d + 4) zm_342 82 [(0, .ref 61), (1, .int x1), (2, .int x2), (3, .int x3), (5, .int x5)] [.int y0] (mH h s) Q := by
  unfold mf_342_82 at hf
  exact mb_342_82 hh  (hrc1 hf k)
def mf_342_75 (N : Nat) (rc : Nat → Int32 → Int32 → Int32 → Int32 → Int32 → Int32 → Int32 → mS → mO) (x1 : Int32) (x2 : Int32) (x3 : Int32) (x5 : Int32) (s : mS) : mO := mo_bi (mf_294 N x1 x5 s) (fun s1 y => mf_342_82 N rc x1 x2 x3 x5 y s1)
theorem mr_342_75 {X : Nat → Option zz_C} {h : zz_H} (hh : 111 ≤ h.length) {d : Nat} {N : Nat} {rc : Nat → Int32 → Int32 → Int32 → Int32 → Int32 → Int32 → Int32 → mS → mO} (hrc0 : ∀ {Q : Option Value → zz_H → Prop} {x1 : Int32} {x2 : Int32} {x3 : Int32} {x5 : Int32} {s s' : mS} {v : Option Value}, rc 0 x1 x2 x3 x5 0 0 0 s = some (s', v) → Q v (mH h s') → zz_E zp_P zt_tf zt_fd X (d + 4) zm_342 65 [(0, .ref 61), (1, .int x1), (2, .int x2), (3, .int x3), (5, .int x5)] [] (mH h s) Q) (hrc1 : ∀ {Q : Option Value → zz_H → Prop} {x1 : Int32} {x2 : Int32} {x3 : Int32} {x5 : Int32} {x6 : Int32} {x7 : Int32} {x8 : Int32} {s s' : mS} {v : Option Value}, rc 1 x1 x2 x3 x5 x6 x7 x8 s = some (s', v) → Q v (mH h s') → zz_E zp_P zt_tf zt_fd X (d + 4) zm_342 93 [(0, .ref 61), (1, .int x1), (2, .int x2), (3, .int x3), (5, .int x5), (6, .int x6), (7, .int x7), (8, .int x8)] [] (mH h s) Q) {Q : Option Value → zz_H → Prop} {x1 : Int32} {x2 : Int32} {x3 : Int32} {x5 : Int32} {s s' : mS} {v : Option Value} (hf : mf_342_75 N rc x1 x2 x3 x5 s = some (s', v)) (k : Q v (mH h s')) : zz_E zp_P zt_tf zt_fd X (d + 4) zm_342 75 [(0, .ref 61), (1, .int x1), (2, .int x2), (3, .int x3), (5, .int x5)] [] (mH h s) Q := by
  unfold mf_342_75 at hf
  obtain ⟨s1, y, e, hf⟩ := mo_bi_ok hf
  exact mb_342_75 (d := d + 3) hh  (mr_294 (d := d + 3) hh e (mr_342_82 hh hrc0 hrc1 hf k))
def mf_342_72 (N : Nat) (rc : Nat → Int32 → Int32 → Int32 → Int32 → Int32 → Int32 → Int32 → mS → mO) (x1 : Int32) (x2 : Int32) (x3 : Int32) (x5 : Int32) (y0 : Int32) (y1 : Int32) (s : mS) : mO := if y1 ≤ y0 then mf_342_149 N x3 s else mf_342_75 N rc x1 x2 x3 x5 s
theorem mr_342_72 {X : Nat → Option zz_C} {h : zz_H} (hh : 111 ≤ h.length) {d : Nat} {N : Nat} {rc : Nat → Int32 → Int32 → Int32 → Int32 → Int32 → Int32 → Int32 → mS → mO} (hrc0 : ∀ {Q : Option Value → zz_H → Prop} {x1 : Int32} {x2 : Int32} {x3 : Int32} {x5 : Int32} {s s' : mS} {v : Option Value}, rc 0 x1 x2 x3 x5 0 0 0 s = some (s', v) → Q v (mH h s') → zz_E zp_P zt_tf zt_fd X (d + 4) zm_342 65 [(0, .ref 61), (1, .int x1), (2, .int x2), (3, .int x3), (5, .int x5)] [] (mH h s) Q) (hrc1 : ∀ {Q : Option Value → zz_H → Prop} {x1 : Int32} {x2 : Int32} {x3 : Int32} {x5 : Int32} {x6 : Int32} {x7 : Int32} {x8 : Int32} {s s' : mS} {v : Option Value}, rc 1 x1 x2 x3 x5 x6 x7 x8 s = some (s', v) → Q v (mH h s') → zz_E zp_P zt_tf zt_fd X (d + 4) zm_342 93 [(0, .ref 61), (1, .int x1), (2, .int x2), (3, .int x3), (5, .int x5), (6, .int x6), (7, .int x7), (8, .int x8)] [] (mH h s) Q) {Q : Option Value → zz_H → Prop} {x1 : Int32} {x2 : Int32} {x3 : Int32} {x5 : Int32} {y0 : Int32} {y1 : Int32} {s s' : mS} {v : Option Value} (hf : mf_342_72 N rc x1 x2 x3 x5 y0 y1 s = some (s', v)) (k : Q v (mH h s')) : zz_E zp_P zt_tf zt_fd X (d + 4) zm_342 72 [(0, .ref 61), (1, .int x1), (2, .int x2), (3, .int x3), (5, .int x5)] [.int y1, .int y0] (mH h s) Q := by
  unfold mf_342_72 at hf
  refine mb_342_72 hh  (fun c => ?_) (fun c => ?_)
  · rw [if_pos c] at hf
    exact mr_342_149 hh hf k
  · rw [if_neg c] at hf
    exact mr_342_75 hh hrc0 hrc1 hf k
def mf_342_65 (N : Nat) (rc : Nat → Int32 → Int32 → Int32 → Int32 → Int32 → Int32 → Int32 → mS → mO) (x1 : Int32) (x2 : Int32) (x3 : Int32) (x5 : Int32) (s : mS) : mO := mo_bi (mf_77 N x1 s) (fun s1 y => mf_342_72 N rc x1 x2 x3 x5 x5 y s1)
theorem mr_342_65 {X : Nat → Option zz_C} {h : zz_H} (hh : 111 ≤ h.length) {d : Nat} {N : Nat} {rc : Nat → Int32 → Int32 → Int32 → Int32 → Int32 → Int32 → Int32 → mS → mO} (hrc0 : ∀ {Q : Option Value → zz_H → Prop} {x1 : Int32} {x2 : Int32} {x3 : Int32} {x5 : Int32} {s s' : mS} {v : Option Value}, rc 0 x1 x2 x3 x5 0 0 0 s = some (s', v) → Q v (mH h s') → zz_E zp_P zt_tf zt_fd X (d + 4) zm_342 65 [(0, .ref 61), (1, .int x1), (2, .int x2), (3, .int x3), (5, .int x5)] [] (mH h s) Q) (hrc1 : ∀ {Q : Option Value → zz_H → Prop} {x1 : Int32} {x2 : Int32} {x3 : Int32} {x5 : Int32} {x6 : Int32} {x7 : Int32} {x8 : Int32} {s s' : mS} {v : Option Value}, rc 1 x1 x2 x3 x5 x6 x7 x8 s = some (s', v) → Q v (mH h s') → zz_E zp_P zt_tf zt_fd X (d + 4) zm_342 93 [(0, .ref 61), (1, .int x1), (2, .int x2), (3, .int x3), (5, .int x5), (6, .int x6), (7, .int x7), (8, .int x8)] [] (mH h s) Q) {Q : Option Value → zz_H → Prop} {x1 : Int32} {x2 : Int32} {x3 : Int32} {x5 : Int32} {s s' : mS} {v : Option Value} (hf : mf_342_65 N rc x1 x2 x3 x5 s = some (s', v)) (k : Q v (mH h s')) : zz_E zp_P zt_tf zt_fd X (d + 4) zm_342 65 [(0, .ref 61), (1, .int x1), (2, .int x2), (3, .int x3), (5, .int x5)] [] (mH h s) Q := by
  unfold mf_342_65 at hf
  obtain ⟨s1, y, e, hf⟩ := mo_bi_ok hf
  exact mb_342_65 (d := d + 3) hh  (mr_77 (d := d + 3) hh e (mr_342_72 hh hrc0 hrc1 hf k))
def mf_342_L7 (N : Nat) : Nat → Nat → Int32 → Int32 → Int32 → Int32 → Int32 → Int32 → Int32 → mS → mO
  | 0, _, _, _, _, _, _, _, _, _ => none
  | n + 1, l, x1, x2, x3, x5, x6, x7, x8, s => if l = 0 then mf_342_65 N (mf_342_L7 N n) x1 x2 x3 x5 s else if l = 1 then mf_342_93 N (mf_342_L7 N n) x1 x2 x3 x5 x6 x7 x8 s else none
theorem mr_342_L7 {X : Nat → Option zz_C} {h : zz_H} (hh : 111 ≤ h.length) {d : Nat} {N : Nat} : ∀ n : Nat, (∀ {Q : Option Value → zz_H → Prop} {x1 : Int32} {x2 : Int32} {x3 : Int32} {x5 : Int32} {s s' : mS} {v : Option Value}, mf_342_L7 N n 0 x1 x2 x3 x5 0 0 0 s = some (s', v) → Q v (mH h s') → zz_E zp_P zt_tf zt_fd X (d + 4) zm_342 65 [(0, .ref 61), (1, .int x1), (2, .int x2), (3, .int x3), (5, .int x5)] [] (mH h s) Q) ∧ (∀ {Q : Option Value → zz_H → Prop} {x1 : Int32} {x2 : Int32} {x3 : Int32} {x5 : Int32} {x6 : Int32} {x7 : Int32} {x8 : Int32} {s s' : mS} {v : Option Value}, mf_342_L7 N n 1 x1 x2 x3 x5 x6 x7 x8 s = some (s', v) → Q v (mH h s') → zz_E zp_P zt_tf zt_fd X (d + 4) zm_342 93 [(0, .ref 61), (1, .int x1), (2, .int x2), (3, .int x3), (5, .int x5), (6, .int x6), (7, .int x7), (8, .int x8)] [] (mH h s) Q) := by
  intro n
  induction n with
  | zero => exact ⟨(fun hf _ => by cases hf), (fun hf _ => by cases hf)⟩
  | succ n ih =>
    obtain ⟨h0, h1⟩ := ih
    refine ⟨?_, ?_⟩
    · intro Q _ _ _ _ s s' v hf k
      unfold mf_342_L7 at hf
      rw [if_pos rfl] at hf
      exact mr_342_65 hh h0 h1 hf k
    · intro Q _ _ _ _ _ _ _ s s' v hf k
      unfold mf_342_L7 at hf
      rw [if_neg (by decide)] at hf
      rw [if_pos rfl] at hf
      exact mr_342_93 hh h0 h1 hf k
def mf_342_57 (N : Nat) (x1 : Int32) (x2 : Int32) (x3 : Int32) (s : mS) : mO := mf_342_L7 N N 0 x1 x2 x3 0 0 0 0 (mI s 51 x3)
theorem mr_342_57 {X : Nat → Option zz_C} {h : zz_H} (hh : 111 ≤ h.length) {d : Nat} {N : Nat} {Q : Option Value → zz_H → Prop} {x1 : Int32} {x2 : Int32} {x3 : Int32} {s s' : mS} {v : Option Value} (hf : mf_342_57 N x1 x2 x3 s = some (s', v)) (k : Q v (mH h s')) : zz_E zp_P zt_tf zt_fd X (d + 4) zm_342 57 [(0, .ref 61), (1, .int x1), (2, .int x2), (3, .int x3)] [] (mH h s) Q := by
  unfold mf_342_57 at hf
  exact mb_342_57 hh  ((mr_342_L7 hh N).1 hf k)
def mf_342_34 (N : Nat) (x1 : Int32) (x2 : Int32) (x3 : Int32) (x4 : Int32) (s : mS) : mO := if 0 ≤ x2 then mf_342_57 N x1 x2 x3 s else mf_342_38 N x4 s
theorem mr_342_34 {X : Nat → Option zz_C} {h : zz_H} (hh : 111 ≤ h.length) {d : Nat} {N : Nat} {Q : Option Value → zz_H → Prop} {x1 : Int32} {x2 : Int32} {x3 : Int32} {x4 : Int32} {s s' : mS} {v : Option Value} (hf : mf_342_34 N x1 x2 x3 x4 s = some (s', v)) (k : Q v (mH h s')) : zz_E zp_P zt_tf zt_fd X (d + 4) zm_342 34 [(0, .ref 61), (1, .int x1), (2, .int x2), (3, .int x3), (4, .int x4)] [] (mH h s) Q := by
  unfold mf_342_34 at hf
  refine mb_342_34 hh  (fun c => ?_) (fun c => ?_)
  · rw [if_pos c] at hf
    exact mr_342_57 hh hf k
  · rw [if_neg c] at hf
    exact mr_342_38 hh hf k
def mf_342_27 (N : Nat) (x1 : Int32) (x2 : Int32) (x3 : Int32) (y0 : Int32) (s : mS) : mO := if ¬ y0 = 0 then mf_342_38 N y0 s else mf_342_34 N x1 x2 x3 y0 s
theorem mr_342_27 {X : Nat → Option zz_C} {h : zz_H} (hh : 111 ≤ h.length) {d : Nat} {N : Nat} {Q : Option Value → zz_H → Prop} {x1 : Int32} {x2 : Int32} {x3 : Int32} {y0 : Int32} {s s' : mS} {v : Option Value} (hf : mf_342_27 N x1 x2 x3 y0 s = some (s', v)) (k : Q v (mH h s')) : zz_E zp_P zt_tf zt_fd X (d + 4) zm_342 27 [(0, .ref 61), (1, .int x1), (2, .int x2), (3, .int x3)] [.int y0] (mH h s) Q := by
  unfold mf_342_27 at hf
  refine mb_342_27 hh  (fun c => ?_) (fun c => ?_)
  · rw [if_pos c] at hf
    exact mr_342_38 hh hf k
  · rw [if_neg c] at hf
    exact mr_342_34 hh hf k
def mf_342_22 (N : Nat) (x1 : Int32) (x2 : Int32) (x3 : Int32) (s : mS) : mO := mf_342_27 N x1 x2 x3 1 s
theorem mr_342_22 {X : Nat → Option zz_C} {h : zz_H} (hh : 111 ≤ h.length) {d : Nat} {N : Nat} {Q : Option Value → zz_H → Prop} {x1 : Int32} {x2 : Int32} {x3 : Int32} {s s' : mS} {v : Option Value} (hf : mf_342_22 N x1 x2 x3 s = some (s', v)) (k : Q v (mH h s')) : zz_E zp_P zt_tf zt_fd X (d + 4) zm_342 22 [(0, .ref 61), (1, .int x1), (2, .int x2), (3, .int x3)] [] (mH h s) Q := by
  unfold mf_342_22 at hf
  exact mb_342_22 hh  (mr_342_27 hh hf k)
def mf_342_26 (N : Nat) (x1 : Int32) (x2 : Int32) (x3 : Int32) (s : mS) : mO := mf_342_27 N x1 x2 x3 0 s
theorem mr_342_26 {X : Nat → Option zz_C} {h : zz_H} (hh : 111 ≤ h.length) {d : Nat} {N : Nat} {Q : Option Value → zz_H → Prop} {x1 : Int32} {x2 : Int32} {x3 : Int32} {s s' : mS} {v : Option Value} (hf : mf_342_26 N x1 x2 x3 s = some (s', v)) (k : Q v (mH h s')) : zz_E zp_P zt_tf zt_fd X (d + 4) zm_342 26 [(0, .ref 61), (1, .int x1), (2, .int x2), (3, .int x3)] [] (mH h s) Q := by
  unfold mf_342_26 at hf
  exact mb_342_26 hh  (mr_342_27 hh hf k)
def mf_342_11 (N : Nat) (x1 : Int32) (x2 : Int32) (x3 : Int32) (y0 : Int32) (s : mS) : mO := if (lg_cmp ((Int32.toInt64 y0) * (Int32.toInt64 x2)) 200) ≤ 0 then mf_342_26 N x1 x2 x3 s else mf_342_22 N x1 x2 x3 s
theorem mr_342_11 {X : Nat → Option zz_C} {h : zz_H} (hh : 111 ≤ h.length) {d : Nat} {N : Nat} {Q : Option Value → zz_H → Prop} {x1 : Int32} {x2 : Int32} {x3 : Int32} {y0 : Int32} {s s' : mS} {v : Option Value} (hf : mf_342_11 N x1 x2 x3 y0 s = some (s', v)) (k : Q v (mH h s')) : zz_E zp_P zt_tf zt_fd X (d + 4) zm_342 11 [(0, .ref 61), (1, .int x1), (2, .int x2), (3, .int x3)] [.int y0] (mH h s) Q := by
  unfold mf_342_11 at hf
  refine mb_342_11 hh  (fun c => ?_) (fun c => ?_)
  · rw [if_pos c] at hf
    exact mr_342_26 hh hf k
  · rw [if_neg c] at hf
    exact mr_342_22 hh hf k
def mf_342_6 (N : Nat) (x1 : Int32) (x2 : Int32) (x3 : Int32) (s : mS) : mO := mo_bi (mf_77 N x1 s) (fun s1 y => mf_342_11 N x1 x2 x3 y s1)
theorem mr_342_6 {X : Nat → Option zz_C} {h : zz_H} (hh : 111 ≤ h.length) {d : Nat} {N : Nat} {Q : Option Value → zz_H → Prop} {x1 : Int32} {x2 : Int32} {x3 : Int32} {s s' : mS} {v : Option Value} (hf : mf_342_6 N x1 x2 x3 s = some (s', v)) (k : Q v (mH h s')) : zz_E zp_P zt_tf zt_fd X (d + 4) zm_342 6 [(0, .ref 61), (1, .int x1), (2, .int x2), (3, .int x3)] [] (mH h s) Q := by
  unfold mf_342_6 at hf
  obtain ⟨s1, y, e, hf⟩ := mo_bi_ok hf
  exact mb_342_6 (d := d + 3) hh  (mr_77 (d := d + 3) hh e (mr_342_11 hh hf k))
def mf_342_0 (N : Nat) (x1 : Int32) (x2 : Int32) (x3 : Int32) (s : mS) : mO := if 64 < x2 then mf_342_22 N x1 x2 x3 s else mf_342_6 N x1 x2 x3 s
theorem mr_342_0 {X : Nat → Option zz_C} {h : zz_H} (hh : 111 ≤ h.length) {d : Nat} {N : Nat} {Q : Option Value → zz_H → Prop} {x1 : Int32} {x2 : Int32} {x3 : Int32} {s s' : mS} {v : Option Value} (hf : mf_342_0 N x1 x2 x3 s = some (s', v)) (k : Q v (mH h s')) : zz_E zp_P zt_tf zt_fd X (d + 4) zm_342 0 [(0, .ref 61), (1, .int x1), (2, .int x2), (3, .int x3)] [] (mH h s) Q := by
  unfold mf_342_0 at hf
  refine mb_342_0 hh  (fun c => ?_) (fun c => ?_)
  · rw [if_pos c] at hf
    exact mr_342_22 hh hf k
  · rw [if_neg c] at hf
    exact mr_342_6 hh hf k
/-- pad -/
def mf_342 (N : Nat) (x1 : Int32) (x2 : Int32) (x3 : Int32) (s : mS) : mO := mf_342_0 N x1 x2 x3 s
theorem mr_342 {X : Nat → Option zz_C} {h : zz_H} (hh : 111 ≤ h.length) {d : Nat} {N : Nat} {Q : Option Value → zz_H → Prop} {x1 : Int32} {x2 : Int32} {x3 : Int32} {s s' : mS} {v : Option Value} (hf : mf_342 N x1 x2 x3 s = some (s', v)) (k : Q v (mH h s')) : zz_E zp_P zt_tf zt_fd X (d + 4) zm_342 0 [(0, .ref 61), (1, .int x1), (2, .int x2), (3, .int x3)] [] (mH h s) Q := by
  unfold mf_342 at hf
  exact zz_E.weak (mr_342_0 hh hf k) rfl ⟨rfl, rfl, rfl, rfl, trivial⟩
/-! outer (III)V -/
theorem mb_343_0 {X : Nat → Option zz_C} {h : zz_H} (hh : 111 ≤ h.length) {s : mS} {d : Nat} {Q : Option Value → zz_H → Prop} {x1 : Int32} {x2 : Int32} {x3 : Int32} (k : zz_E zp_P zt_tf zt_fd X d zm_77 0 [(0, .ref 61), (1, .int x1)] [] (mH h s) (fun v h' => zz_E zp_P zt_tf zt_fd X (d + 1) zm_343 5 [(0, .ref 61), (1, .int x1), (2, .int x2), (3, .int x3)] (v.toList ++ []) h' Q)) : zz_E zp_P zt_tf zt_fd X (d + 1) zm_343 0 [(0, .ref 61), (1, .int x1), (2, .int x2), (3, .int x3)] [] (mH h s) Q := by
  refine zz_E.n 1 rfl rfl rfl ?_
  refine zz_E.n 2 rfl rfl rfl ?_
  refine mE_cv hh 5 (as := []) rfl rfl (Nat.le_of_ble_eq_true rfl) (Nat.le_of_ble_eq_true rfl) rfl (Nat.le_of_ble_eq_true rfl) rfl ?_
  refine zz_E.mono k ?_
  intro v h' hE
  exact zz_E.weak hE rfl ⟨rfl, rfl, rfl, rfl, trivial⟩
theorem mb_343_5 {X : Nat → Option zz_C} {h : zz_H} (hh : 111 ≤ h.length) {s : mS} {d : Nat} {Q : Option Value → zz_H → Prop} {x1 : Int32} {x2 : Int32} {x3 : Int32} {y0 : Int32} (k1 : 20 < y0 → zz_E zp_P zt_tf zt_fd X d zm_343 27 [(0, .ref 61)] [] (mH h s) Q) (k2 : ¬ 20 < y0 → zz_E zp_P zt_tf zt_fd X d zm_343 10 [(0, .ref 61), (1, .int x1), (2, .int x2), (3, .int x3)] [] (mH h s) Q) : zz_E zp_P zt_tf zt_fd X d zm_343 5 [(0, .ref 61), (1, .int x1), (2, .int x2), (3, .int x3)] [.int y0] (mH h s) Q := by
  refine zz_E.c 7 (.int 20) rfl rfl rfl rfl ?_
  refine zz_E.b2 27 10 (A := 20 < y0) rfl rfl (by decide) rfl rfl (fun c => ?_) (fun c => ?_)
  · exact zz_E.weak (k1 c) rfl ⟨rfl, trivial⟩
  · exact zz_E.weak (k2 c) rfl ⟨rfl, rfl, rfl, rfl, trivial⟩
theorem mb_343_10 {X : Nat → Option zz_C} {h : zz_H} (hh : 111 ≤ h.length) {s : mS} {d : Nat} {Q : Option Value → zz_H → Prop} {x1 : Int32} {x2 : Int32} {x3 : Int32} (k : zz_E zp_P zt_tf zt_fd X d zm_77 0 [(0, .ref 61), (1, .int x1)] [] (mH h s) (fun v h' => zz_E zp_P zt_tf zt_fd X (d + 1) zm_343 15 [(0, .ref 61), (1, .int x1), (2, .int x2), (3, .int x3)] (v.toList ++ []) h' Q)) : zz_E zp_P zt_tf zt_fd X (d + 1) zm_343 10 [(0, .ref 61), (1, .int x1), (2, .int x2), (3, .int x3)] [] (mH h s) Q := by
  refine zz_E.n 11 rfl rfl rfl ?_
  refine zz_E.n 12 rfl rfl rfl ?_
  refine mE_cv hh 15 (as := []) rfl rfl (Nat.le_of_ble_eq_true rfl) (Nat.le_of_ble_eq_true rfl) rfl (Nat.le_of_ble_eq_true rfl) rfl ?_
  refine zz_E.mono k ?_
  intro v h' hE
  exact zz_E.weak hE rfl ⟨rfl, rfl, rfl, rfl, trivial⟩
theorem mb_343_15 {X : Nat → Option zz_C} {h : zz_H} (hh : 111 ≤ h.length) {s : mS} {d : Nat} {Q : Option Value → zz_H → Prop} {x1 : Int32} {x2 : Int32} {x3 : Int32} {y0 : Int32} (k : zz_E zp_P zt_tf zt_fd X d zm_77 0 [(0, .ref 61), (1, .int x2)] [] (mH h s) (fun v h' => zz_E zp_P zt_tf zt_fd X (d + 1) zm_343 20 [(0, .ref 61), (1, .int x1), (2, .int x2), (3, .int x3)] (v.toList ++ [.int y0]) h' Q)) : zz_E zp_P zt_tf zt_fd X (d + 1) zm_343 15 [(0, .ref 61), (1, .int x1), (2, .int x2), (3, .int x3)] [.int y0] (mH h s) Q := by
  refine zz_E.n 16 rfl rfl rfl ?_
  refine zz_E.n 17 rfl rfl rfl ?_
  refine mE_cv hh 20 (as := [.int y0]) rfl rfl (Nat.le_of_ble_eq_true rfl) (Nat.le_of_ble_eq_true rfl) rfl (Nat.le_of_ble_eq_true rfl) rfl ?_
  refine zz_E.mono k ?_
  intro v h' hE
  exact zz_E.weak hE rfl ⟨rfl, rfl, rfl, rfl, trivial⟩
theorem mb_343_20 {X : Nat → Option zz_C} {h : zz_H} (hh : 111 ≤ h.length) {s : mS} {d : Nat} {Q : Option Value → zz_H → Prop} {x1 : Int32} {x2 : Int32} {x3 : Int32} {y0 : Int32} {y1 : Int32} (k1 : (y0 * y1) ≤ 200 → zz_E zp_P zt_tf zt_fd X d zm_343 37 [(0, .ref 61), (1, .int x1), (2, .int x2), (3, .int x3)] [] (mH h s) Q) (k2 : ¬ (y0 * y1) ≤ 200 → zz_E zp_P zt_tf zt_fd X d zm_343 27 [(0, .ref 61)] [] (mH h s) Q) : zz_E zp_P zt_tf zt_fd X d zm_343 20 [(0, .ref 61), (1, .int x1), (2, .int x2), (3, .int x3)] [.int y1, .int y0] (mH h s) Q := by
  refine zz_E.n 21 rfl rfl rfl ?_
  refine zz_E.c 24 (.int 200) rfl rfl rfl rfl ?_
  refine zz_E.b2 37 27 (A := (y0 * y1) ≤ 200) rfl rfl (by decide) rfl rfl (fun c => ?_) (fun c => ?_)
  · exact zz_E.weak (k1 c) rfl ⟨rfl, rfl, rfl, rfl, trivial⟩
  · exact zz_E.weak (k2 c) rfl ⟨rfl, trivial⟩
theorem mb_343_27 {X : Nat → Option zz_C} {h : zz_H} (hh : 111 ≤ h.length) {s : mS} {d : Nat} {Q : Option Value → zz_H → Prop}  (k : zz_E zp_P zt_tf zt_fd X d zm_301 0 [(0, .ref 61), (1, .int 2), (2, .int (s.1 70))] [] (mH h s) (fun v h' => zz_E zp_P zt_tf zt_fd X (d + 1) zm_343 36 [] (v.toList ++ []) h' Q)) : zz_E zp_P zt_tf zt_fd X (d + 1) zm_343 27 [(0, .ref 61)] [] (mH h s) Q := by
  refine zz_E.n 28 rfl rfl rfl ?_
  refine zz_E.c 29 (.int 2) rfl rfl rfl rfl ?_
  refine zz_E.n 30 rfl rfl rfl ?_
  refine mE_g hh 33 (v := .int (s.1 70)) rfl rfl rfl ?_
  refine mE_cv hh 36 (as := []) rfl rfl (Nat.le_of_ble_eq_true rfl) (Nat.le_of_ble_eq_true rfl) rfl (Nat.le_of_ble_eq_true rfl) rfl ?_
  refine zz_E.mono k ?_
  intro v h' hE
  exact zz_E.weak hE rfl trivial
theorem mb_343_36 {X : Nat → Option zz_C} {h : zz_H} (hh : 111 ≤ h.length) {s : mS} {d : Nat} {Q : Option Value → zz_H → Prop}  (k : Q none (mH h s)) : zz_E zp_P zt_tf zt_fd X d zm_343 36 [] [] (mH h s) Q := by
  refine zz_E.ret rfl rfl rfl ?_
  exact k
theorem mb_343_37 {X : Nat → Option zz_C} {h : zz_H} (hh : 111 ≤ h.length) {s : mS} {d : Nat} {Q : Option Value → zz_H → Prop} {x1 : Int32} {x2 : Int32} {x3 : Int32} (k : zz_E zp_P zt_tf zt_fd X d zm_343 45 [(0, .ref 61), (1, .int x1), (2, .int x2), (3, .int x3), (4, .int 0)] [] (mH h (mI s 51 x3)) Q) : zz_E zp_P zt_tf zt_fd X d zm_343 37 [(0, .ref 61), (1, .int x1), (2, .int x2), (3, .int x3)] [] (mH h s) Q := by
  refine zz_E.n 38 rfl rfl rfl ?_
  refine zz_E.n 39 rfl rfl rfl ?_
  refine mE_p hh 42 rfl (by decide) rfl (mF_51 _ _) rfl ?_
  refine zz_E.c 43 (.int 0) rfl rfl rfl rfl ?_
  refine zz_E.n 45 rfl rfl rfl ?_
  exact zz_E.weak k rfl ⟨rfl, rfl, rfl, rfl, rfl, trivial⟩
theorem mb_343_45 {X : Nat → Option zz_C} {h : zz_H} (hh : 111 ≤ h.length) {s : mS} {d : Nat} {Q : Option Value → zz_H → Prop} {x1 : Int32} {x2 : Int32} {x3 : Int32} {x4 : Int32} (k : zz_E zp_P zt_tf zt_fd X d zm_77 0 [(0, .ref 61), (1, .int x1)] [] (mH h s) (fun v h' => zz_E zp_P zt_tf zt_fd X (d + 1) zm_343 52 [(0, .ref 61), (1, .int x1), (2, .int x2), (3, .int x3), (4, .int x4)] (v.toList ++ [.int x4]) h' Q)) : zz_E zp_P zt_tf zt_fd X (d + 1) zm_343 45 [(0, .ref 61), (1, .int x1), (2, .int x2), (3, .int x3), (4, .int x4)] [] (mH h s) Q := by
  refine zz_E.n 47 rfl rfl rfl ?_
  refine zz_E.n 48 rfl rfl rfl ?_
  refine zz_E.n 49 rfl rfl rfl ?_
  refine mE_cv hh 52 (as := [.int x4]) rfl rfl (Nat.le_of_ble_eq_true rfl) (Nat.le_of_ble_eq_true rfl) rfl (Nat.le_of_ble_eq_true rfl) rfl ?_
  refine zz_E.mono k ?_
  intro v h' hE
  exact zz_E.weak hE rfl ⟨rfl, rfl, rfl, rfl, rfl, trivial⟩
theorem mb_343_52 {X : Nat → Option zz_C} {h : zz_H} (hh : 111 ≤ h.length) {s : mS} {d : Nat} {Q : Option Value → zz_H → Prop} {x1 : Int32} {x2 : Int32} {x3 : Int32} {x4 : Int32} {y0 : Int32} {y1 : Int32} (k1 : y1 ≤ y0 → zz_E zp_P zt_tf zt_fd X d zm_343 120 [(0, .ref 61), (3, .int x3)] [] (mH h s) Q) (k2 : ¬ y1 ≤ y0 → zz_E zp_P zt_tf zt_fd X d zm_343 55 [(0, .ref 61), (1, .int x1), (2, .int x2), (3, .int x3), (4, .int x4)] [] (mH h s) Q) : zz_E zp_P zt_tf zt_fd X d zm_343 52 [(0, .ref 61), (1, .int x1), (2, .int x2), (3, .int x3), (4, .int x4)] [.int y1, .int y0] (mH h s) Q := by
  refine zz_E.b2 120 55 (A := y1 ≤ y0) rfl rfl (by decide) rfl rfl (fun c => ?_) (fun c => ?_)
  · exact zz_E.weak (k1 c) rfl ⟨rfl, rfl, trivial⟩
  · exact zz_E.weak (k2 c) rfl ⟨rfl, rfl, rfl, rfl, rfl, trivial⟩
theorem mb_343_55 {X : Nat → Option zz_C} {h : zz_H} (hh : 111 ≤ h.length) {s : mS} {d : Nat} {Q : Option Value → zz_H → Prop} {x1 : Int32} {x2 : Int32} {x3 : Int32} {x4 : Int32} (k : zz_E zp_P zt_tf zt_fd X d zm_343 64 [(0, .ref 61), (1, .int x1), (2, .int x2), (3, .int x3), (4, .int x4), (5, .int (s.1 51)), (6, .int 0)] [] (mH h s) Q) : zz_E zp_P zt_tf zt_fd X d zm_343 55 [(0, .ref 61), (1, .int x1), (2, .int x2), (3, .int x3), (4, .int x4)] [] (mH h s) Q := by
  refine zz_E.n 56 rfl rfl rfl ?_
  refine mE_g hh 59 (v := .int (s.1 51)) rfl rfl rfl ?_
  refine zz_E.n 61 rfl rfl rfl ?_
  refine zz_E.c 62 (.int 0) rfl rfl rfl rfl ?_
  refine zz_E.n 64 rfl rfl rfl ?_
  exact zz_E.weak k rfl ⟨rfl, rfl, rfl, rfl, rfl, rfl, rfl, trivial⟩
theorem mb_343_64 {X : Nat → Option zz_C} {h : zz_H} (hh : 111 ≤ h.length) {s : mS} {d : Nat} {Q : Option Value → zz_H → Prop} {x1 : Int32} {x2 : Int32} {x3 : Int32} {x4 : Int32} {x5 : Int32} {x6 : Int32} (k : zz_E zp_P zt_tf zt_fd X d zm_77 0 [(0, .ref 61), (1, .int x2)] [] (mH h s) (fun v h' => zz_E zp_P zt_tf zt_fd X (d + 1) zm_343 71 [(0, .ref 61), (1, .int x1), (2, .int x2), (3, .int x3), (4, .int x4), (5, .int x5), (6, .int x6)] (v.toList ++ [.int x6]) h' Q)) : zz_E zp_P zt_tf zt_fd X (d + 1) zm_343 64 [(0, .ref 61), (1, .int x1), (2, .int x2), (3, .int x3), (4, .int x4), (5, .int x5), (6, .int x6)] [] (mH h s) Q := by
  refine zz_E.n 66 rfl rfl rfl ?_
  refine zz_E.n 67 rfl rfl rfl ?_
  refine zz_E.n 68 rfl rfl rfl ?_
  refine mE_cv hh 71 (as := [.int x6]) rfl rfl (Nat.le_of_ble_eq_true rfl) (Nat.le_of_ble_eq_true rfl) rfl (Nat.le_of_ble_eq_true rfl) rfl ?_
  refine zz_E.mono k ?_
  intro v h' hE
  exact zz_E.weak hE rfl ⟨rfl, rfl, rfl, rfl, rfl, rfl, rfl, trivial⟩
theorem mb_343_71 {X : Nat → Option zz_C} {h : zz_H} (hh : 111 ≤ h.length) {s : mS} {d : Nat} {Q : Option Value → zz_H → Prop} {x1 : Int32} {x2 : Int32} {x3 : Int32} {x4 : Int32} {x5 : Int32} {x6 : Int32} {y0 : Int32} {y1 : Int32} (k1 : y1 ≤ y0 → zz_E zp_P zt_tf zt_fd X d zm_343 108 [(0, .ref 61), (1, .int x1), (2, .int x2), (3, .int x3), (4, .int x4), (5, .int x5)] [] (mH h s) Q) (k2 : ¬ y1 ≤ y0 → zz_E zp_P zt_tf zt_fd X d zm_343 74 [(0, .ref 61), (1, .int x1), (2, .int x2), (3, .int x3), (4, .int x4), (5, .int x5), (6, .int x6)] [] (mH h s) Q) : zz_E zp_P zt_tf zt_fd X d zm_343 71 [(0, .ref 61), (1, .int x1), (2, .int x2), (3, .int x3), (4, .int x4), (5, .int x5), (6, .int x6)] [.int y1, .int y0] (mH h s) Q := by
  refine zz_E.b2 108 74 (A := y1 ≤ y0) rfl rfl (by decide) rfl rfl (fun c => ?_) (fun c => ?_)
  · exact zz_E.weak (k1 c) rfl ⟨rfl, rfl, rfl, rfl, rfl, rfl, trivial⟩
  · exact zz_E.weak (k2 c) rfl ⟨rfl, rfl, rfl, rfl, rfl, rfl, rfl, trivial⟩
theorem mb_343_74 {X : Nat → Option zz_C} {h : zz_H} (hh : 111 ≤ h.length) {s : mS} {d : Nat} {Q : Option Value → zz_H → Prop} {x1 : Int32} {x2 : Int32} {x3 : Int32} {x4 : Int32} {x5 : Int32} {x6 : Int32} (i86 : ¬ (((x1 + 2) + x4) < 0 ∨ 166300 ≤ Int32.toNatClampNeg ((x1 + 2) + x4))) (i97 : ¬ (((x2 + 2) + x6) < 0 ∨ 166300 ≤ Int32.toNatClampNeg ((x2 + 2) + x6))) (k : zz_E zp_P zt_tf zt_fd X d zm_291 0 [(0, .ref 61), (1, .int 0), (2, .int (((s.2.2.1 47) (Int32.toNatClampNeg ((x1 + 2) + x4))) * ((s.2.2.1 47) (Int32.toNatClampNeg ((x2 + 2) + x6)))))] [] (mH h s) (fun v h' => zz_E zp_P zt_tf zt_fd X (d + 1) zm_343 102 [(0, .ref 61), (1, .int x1), (2, .int x2), (3, .int x3), (4, .int x4), (5, .int x5), (6, .int x6)] (v.toList ++ []) h' Q)) : zz_E zp_P zt_tf zt_fd X (d + 1) zm_343 74 [(0, .ref 61), (1, .int x1), (2, .int x2), (3, .int x3), (4, .int x4), (5, .int x5), (6, .int x6)] [] (mH h s) Q := by
  refine zz_E.n 75 rfl rfl rfl ?_
  refine zz_E.c 76 (.int 0) rfl rfl rfl rfl ?_
  refine zz_E.n 77 rfl rfl rfl ?_
  refine mE_g hh 80 (v := .ref 89) rfl rfl rfl ?_
  refine zz_E.n 81 rfl rfl rfl ?_
  refine zz_E.c 82 (.int 2) rfl rfl rfl rfl ?_
  refine zz_E.n 83 rfl rfl rfl ?_
  refine zz_E.n 85 rfl rfl rfl ?_
  refine zz_E.n 86 rfl rfl rfl ?_
  refine mE_ia hh 87 28 (f := (s.2.2.1 47)) rfl (by decide) rfl rfl i86 rfl ?_
  refine zz_E.n 88 rfl rfl rfl ?_
  refine mE_g hh 91 (v := .ref 89) rfl rfl rfl ?_
  refine zz_E.n 92 rfl rfl rfl ?_
  refine zz_E.c 93 (.int 2) rfl rfl rfl rfl ?_
  refine zz_E.n 94 rfl rfl rfl ?_
  refine zz_E.n 96 rfl rfl rfl ?_
  refine zz_E.n 97 rfl rfl rfl ?_
  refine mE_ia hh 98 28 (f := (s.2.2.1 47)) rfl (by decide) rfl rfl i97 rfl ?_
  refine zz_E.n 99 rfl rfl rfl ?_
  refine mE_cv hh 102 (as := []) rfl rfl (Nat.le_of_ble_eq_true rfl) (Nat.le_of_ble_eq_true rfl) rfl (Nat.le_of_ble_eq_true rfl) rfl ?_
  refine zz_E.mono k ?_
  intro v h' hE
  exact zz_E.weak hE rfl ⟨rfl, rfl, rfl, rfl, rfl, rfl, rfl, trivial⟩
theorem mb_343_102 {X : Nat → Option zz_C} {h : zz_H} (hh : 111 ≤ h.length) {s : mS} {d : Nat} {Q : Option Value → zz_H → Prop} {x1 : Int32} {x2 : Int32} {x3 : Int32} {x4 : Int32} {x5 : Int32} {x6 : Int32} (k : zz_E zp_P zt_tf zt_fd X d zm_343 64 [(0, .ref 61), (1, .int x1), (2, .int x2), (3, .int x3), (4, .int x4), (5, .int x5), (6, .int (x6 + 1))] [] (mH h s) Q) : zz_E zp_P zt_tf zt_fd X d zm_343 102 [(0, .ref 61), (1, .int x1), (2, .int x2), (3, .int x3), (4, .int x4), (5, .int x5), (6, .int x6)] [] (mH h s) Q := by
  refine zz_E.n 105 rfl rfl rfl ?_
  refine zz_E.n 64 rfl rfl rfl ?_
  exact zz_E.weak k rfl ⟨rfl, rfl, rfl, rfl, rfl, rfl, rfl, trivial⟩
theorem mb_343_108 {X : Nat → Option zz_C} {h : zz_H} (hh : 111 ≤ h.length) {s : mS} {d : Nat} {Q : Option Value → zz_H → Prop} {x1 : Int32} {x2 : Int32} {x3 : Int32} {x4 : Int32} {x5 : Int32} (k : zz_E zp_P zt_tf zt_fd X d zm_306 0 [(0, .ref 61), (1, .int x5)] [] (mH h s) (fun v h' => zz_E zp_P zt_tf zt_fd X (d + 1) zm_343 114 [(0, .ref 61), (1, .int x1), (2, .int x2), (3, .int x3), (4, .int x4)] (v.toList ++ []) h' Q)) : zz_E zp_P zt_tf zt_fd X (d + 1) zm_343 108 [(0, .ref 61), (1, .int x1), (2, .int x2), (3, .int x3), (4, .int x4), (5, .int x5)] [] (mH h s) Q := by
  refine zz_E.n 109 rfl rfl rfl ?_
  refine zz_E.n 111 rfl rfl rfl ?_
  refine mE_cv hh 114 (as := []) rfl rfl (Nat.le_of_ble_eq_true rfl) (Nat.le_of_ble_eq_true rfl) rfl (Nat.le_of_ble_eq_true rfl) rfl ?_
  refine zz_E.mono k ?_
  intro v h' hE
  exact zz_E.weak hE rfl ⟨rfl, rfl, rfl, rfl, rfl, trivial⟩
theorem mb_343_114 {X : Nat → Option zz_C} {h : zz_H} (hh : 111 ≤ h.length) {s : mS} {d : Nat} {Q : Option Value → zz_H → Prop} {x1 : Int32} {x2 : Int32} {x3 : Int32} {x4 : Int32} (k : zz_E zp_P zt_tf zt_fd X d zm_343 45 [(0, .ref 61), (1, .int x1), (2, .int x2), (3, .int x3), (4, .int (x4 + 1))] [] (mH h s) Q) : zz_E zp_P zt_tf zt_fd X d zm_343 114 [(0, .ref 61), (1, .int x1), (2, .int x2), (3, .int x3), (4, .int x4)] [] (mH h s) Q := by
  refine zz_E.n 117 rfl rfl rfl ?_
  refine zz_E.n 45 rfl rfl rfl ?_
  exact zz_E.weak k rfl ⟨rfl, rfl, rfl, rfl, rfl, trivial⟩
theorem mb_343_120 {X : Nat → Option zz_C} {h : zz_H} (hh : 111 ≤ h.length) {s : mS} {d : Nat} {Q : Option Value → zz_H → Prop} {x3 : Int32} (k : zz_E zp_P zt_tf zt_fd X d zm_305 0 [(0, .ref 61), (1, .int 2), (2, .int x3)] [] (mH h s) (fun v h' => zz_E zp_P zt_tf zt_fd X (d + 1) zm_343 126 [] (v.toList ++ []) h' Q)) : zz_E zp_P zt_tf zt_fd X (d + 1) zm_343 120 [(0, .ref 61), (3, .int x3)] [] (mH h s) Q := by
  refine zz_E.n 121 rfl rfl rfl ?_
  refine zz_E.c 122 (.int 2) rfl rfl rfl rfl ?_
  refine zz_E.n 123 rfl rfl rfl ?_
  refine mE_cv hh 126 (as := []) rfl rfl (Nat.le_of_ble_eq_true rfl) (Nat.le_of_ble_eq_true rfl) rfl (Nat.le_of_ble_eq_true rfl) rfl ?_
  refine zz_E.mono k ?_
  intro v h' hE
  exact zz_E.weak hE rfl trivial
theorem mb_343_126 {X : Nat → Option zz_C} {h : zz_H} (hh : 111 ≤ h.length) {s : mS} {d : Nat} {Q : Option Value → zz_H → Prop}  (k : Q none (mH h s)) : zz_E zp_P zt_tf zt_fd X d zm_343 126 [] [] (mH h s) Q := by
  refine zz_E.ret rfl rfl rfl ?_
  exact k
def mf_343_36 (N : Nat)  (s : mS) : mO := some (s, none)
theorem mr_343_36 {X : Nat → Option zz_C} {h : zz_H} (hh : 111 ≤ h.length) {d : Nat} {N : Nat} {Q : Option Value → zz_H → Prop}  {s s' : mS} {v : Option Value} (hf : mf_343_36 N  s = some (s', v)) (k : Q v (mH h s')) : zz_E zp_P zt_tf zt_fd X (d + 4) zm_343 36 [] [] (mH h s) Q := by
  unfold mf_343_36 at hf
  cases hf
  exact mb_343_36 hh  k
def mf_343_27 (N : Nat)  (s : mS) : mO := mo_bv (mf_301 N 2 (s.1 70) s) (fun s1 => mf_343_36 N  s1)
theorem mr_343_27 {X : Nat → Option zz_C} {h : zz_H} (hh : 111 ≤ h.length) {d : Nat} {N : Nat} {Q : Option Value → zz_H → Prop}  {s s' : mS} {v : Option Value} (hf : mf_343_27 N  s = some (s', v)) (k : Q v (mH h s')) : zz_E zp_P zt_tf zt_fd X (d + 4) zm_343 27 [(0, .ref 61)] [] (mH h s) Q := by
  unfold mf_343_27 at hf
  obtain ⟨s1, e, hf⟩ := mo_bv_ok hf
  exact mb_343_27 (d := d + 3) hh  (mr_301 (d := d + 3) hh e (mr_343_36 hh hf k))
def mf_343_126 (N : Nat)  (s : mS) : mO := some (s, none)
theorem mr_343_126 {X : Nat → Option zz_C} {h : zz_H} (hh : 111 ≤ h.length) {d : Nat} {N : Nat} {Q : Option Value → zz_H → Prop}  {s s' : mS} {v : Option Value} (hf : mf_343_126 N  s = some (s', v)) (k : Q v (mH h s')) : zz_E zp_P zt_tf zt_fd X (d + 4) zm_343 126 [] [] (mH h s) Q := by
  unfold mf_343_126 at hf
  cases hf
  exact mb_343_126 hh  k
def mf_343_120 (N : Nat) (x3 : Int32) (s : mS) : mO := mo_bv (mf_305 N 2 x3 s) (fun s1 => mf_343_126 N  s1)
theorem mr_343_120 {X : Nat → Option zz_C} {h : zz_H} (hh : 111 ≤ h.length) {d : Nat} {N : Nat} {Q : Option Value → zz_H → Prop} {x3 : Int32} {s s' : mS} {v : Option Value} (hf : mf_343_120 N x3 s = some (s', v)) (k : Q v (mH h s')) : zz_E zp_P zt_tf zt_fd X (d + 4) zm_343 120 [(0, .ref 61), (3, .int x3)] [] (mH h s) Q := by
  unfold mf_343_120 at hf
  obtain ⟨s1, e, hf⟩ := mo_bv_ok hf
  exact mb_343_120 (d := d + 3) hh  (mr_305 (d := d + 0) hh e (mr_343_126 hh hf k))
def mf_343_102 (N : Nat) (rc : Nat → Int32 → Int32 → Int32 → Int32 → Int32 → Int32 → mS → mO) (x1 : Int32) (x2 : Int32) (x3 : Int32) (x4 : Int32) (x5 : Int32) (x6 : Int32) (s : mS) : mO := rc 1 x1 x2 x3 x4 x5 (x6 + 1) s
theorem mr_343_102 {X : Nat → Option zz_C} {h : zz_H} (hh : 111 ≤ h.length) {d : Nat} {N : Nat} {rc : Nat → Int32 → Int32 → Int32 → Int32 → Int32 → Int32 → mS → mO} (hrc0 : ∀ {Q : Option Value → zz_H → Prop} {x1 : Int32} {x2 : Int32} {x3 : Int32} {x4 : Int32} {s s' : mS} {v : Option Value}, rc 0 x1 x2 x3 x4 0 0 s = some (s', v) → Q v (mH h s') → zz_E zp_P zt_tf zt_fd X (d + 4) zm_343 45 [(0, .ref 61), (1, .int x1), (2, .int x2), (3, .int x3), (4, .int x4)] [] (mH h s) Q) (hrc1 : ∀ {Q : Option Value → zz_H → Prop} {x1 : Int32} {x2 : Int32} {x3 : Int32} {x4 : Int32} {x5 : Int32} {x6 : Int32} {s s' : mS} {v : Option Value}, rc 1 x1 x2 x3 x4 x5 x6 s = some (s', v) → Q v (mH h s') → zz_E zp_P zt_tf zt_fd X (d + 4) zm_343 64 [(0, .ref 61), (1, .int x1), (2, .int x2), (3, .int x3), (4, .int x4), (5, .int x5), (6, .int x6)] [] (mH h s) Q) {Q : Option Value → zz_H → Prop} {x1 : Int32} {x2 : Int32} {x3 : Int32} {x4 : Int32} {x5 : Int32} {x6 : Int32} {s s' : mS} {v : Option Value} (hf : mf_343_102 N rc x1 x2 x3 x4 x5 x6 s = some (s', v)) (k : Q v (mH h s')) : zz_E zp_P zt_tf zt_fd X (d + 4) zm_343 102 [(0, .ref 61), (1, .int x1), (2, .int x2), (3, .int x3), (4, .int x4), (5, .int x5), (6, .int x6)] [] (mH h s) Q := by
  unfold mf_343_102 at hf
  exact mb_343_102 hh  (hrc1 hf k)
def mf_343_74 (N : Nat) (rc : Nat → Int32 → Int32 → Int32 → Int32 → Int32 → Int32 → mS → mO) (x1 : Int32) (x2 : Int32) (x3 : Int32) (x4 : Int32) (x5 : Int32) (x6 : Int32) (s : mS) : mO := if ¬ (((x1 + 2) + x4) < 0 ∨ 166300 ≤ Int32.toNatClampNeg ((x1 + 2) + x4)) then (if ¬ (((x2 + 2) + x6) < 0 ∨ 166300 ≤ Int32.toNatClampNeg ((x2 + 2) + x6)) then (mo_bv (mf_291 N 0 (((s.2.2.1 47) (Int32.toNatClampNeg ((x1 + 2) + x4))) * ((s.2.2.1 47) (Int32.toNatClampNeg ((x2 + 2) + x6)))) s) (fun s1 => mf_343_102 N rc x1 x2 x3 x4 x5 x6 s1)) else none) else none
theorem mr_343_74 {X : Nat → Option zz_C} {h : zz_H} (hh : 111 ≤ h.length) {d : Nat} {N : Nat} {rc : Nat → Int32 → Int32 → Int32 → Int32 → Int32 → Int32 → mS → mO} (hrc0 : ∀ {Q : Option Value → zz_H → Prop} {x1 : Int32} {x2 : Int32} {x3 : Int32} {x4 : Int32} {s s' : mS} {v : Option Value}, rc 0 x1 x2 x3 x4 0 0 s = some (s', v) → Q v (mH h s') → zz_E zp_P zt_tf zt_fd X (d + 4) zm_343 45 [(0, .ref 61), (1, .int x1), (2, .int x2), (3, .int x3), (4, .int x4)] [] (mH h s) Q) (hrc1 : ∀ {Q : Option Value → zz_H → Prop} {x1 : Int32} {x2 : Int32} {x3 : Int32} {x4 : Int32} {x5 : Int32} {x6 : Int32} {s s' : mS} {v : Option Value}, rc 1 x1 x2 x3 x4 x5 x6 s = some (s', v) → Q v (mH h s') → zz_E zp_P zt_tf zt_fd X (d + 4) zm_343 64 [(0, .ref 61), (1, .int x1), (2, .int x2), (3, .int x3), (4, .int x4), (5, .int x5), (6, .int x6)] [] (mH h s) Q) {Q : Option Value → zz_H → Prop} {x1 : Int32} {x2 : Int32} {x3 : Int32} {x4 : Int32} {x5 : Int32} {x6 : Int32} {s s' : mS} {v : Option Value} (hf : mf_343_74 N rc x1 x2 x3 x4 x5 x6 s = some (s', v)) (k : Q v (mH h s')) : zz_E zp_P zt_tf zt_fd X (d + 4) zm_343 74 [(0, .ref 61), (1, .int x1), (2, .int x2), (3, .int x3), (4, .int x4), (5, .int x5), (6, .int x6)] [] (mH h s) Q := by
  unfold mf_343_74 at hf
  obtain ⟨q0, hf⟩ := mo_if hf
  obtain ⟨q1, hf⟩ := mo_if hf
  obtain ⟨s1, e, hf⟩ := mo_bv_ok hf
  exact mb_343_74 (d := d + 3) hh q0 q1 (mr_291 (d := d + 3) hh e (mr_343_102 hh hrc0 hrc1 hf k))
def mf_343_114 (N : Nat) (rc : Nat → Int32 → Int32 → Int32 → Int32 → Int32 → Int32 → mS → mO) (x1 : Int32) (x2 : Int32) (x3 : Int32) (x4 : Int32) (s : mS) : mO := rc 0 x1 x2 x3 (x4 + 1) 0 0 s
theorem mr_343_114 {X : Nat → Option zz_C} {h : zz_H} (hh : 111 ≤ h.length) {d : Nat} {N : Nat} {rc : Nat → Int32 → Int32 → Int32 → Int32 → Int32 → Int32 → mS → mO} (hrc0 : ∀ {Q : Option Value → zz_H → Prop} {x1 : Int32} {x2 : Int32} {x3 : Int32} {x4 : Int32} {s s' : mS} {v : Option Value}, rc 0 x1 x2 x3 x4 0 0 s = some (s', v) → Q v (mH h s') → zz_E zp_P zt_tf zt_fd X (d + 4) zm_343 45 [(0, .ref 61), (1, .int x1), (2, .int x2), (3, .int x3), (4, .int x4)] [] (mH h s) Q) (hrc1 : ∀ {Q : Option Value → zz_H → Prop} {x1 : Int32} {x2 : Int32} {x3 : Int32} {x4 : Int32} {x5 : Int32} {x6 : Int32} {s s' : mS} {v : Option Value}, rc 1 x1 x2 x3 x4 x5 x6 s = some (s', v) → Q v (mH h s') → zz_E zp_P zt_tf zt_fd X (d + 4) zm_343 64 [(0, .ref 61), (1, .int x1), (2, .int x2), (3, .int x3), (4, .int x4), (5, .int x5), (6, .int x6)] [] (mH h s) Q) {Q : Option Value → zz_H → Prop} {x1 : Int32} {x2 : Int32} {x3 : Int32} {x4 : Int32} {s s' : mS} {v : Option Value} (hf : mf_343_114 N rc x1 x2 x3 x4 s = some (s', v)) (k : Q v (mH h s')) : zz_E zp_P zt_tf zt_fd X (d + 4) zm_343 114 [(0, .ref 61), (1, .int x1), (2, .int x2), (3, .int x3), (4, .int x4)] [] (mH h s) Q := by
  unfold mf_343_114 at hf
  exact mb_343_114 hh  (hrc0 hf k)
def mf_343_108 (N : Nat) (rc : Nat → Int32 → Int32 → Int32 → Int32 → Int32 → Int32 → mS → mO) (x1 : Int32) (x2 : Int32) (x3 : Int32) (x4 : Int32) (x5 : Int32) (s : mS) : mO := mo_bv (mf_306 N x5 s) (fun s1 => mf_343_114 N rc x1 x2 x3 x4 s1)
theorem mr_343_108 {X : Nat → Option zz_C} {h : zz_H} (hh : 111 ≤ h.length) {d : Nat} {N : Nat} {rc : Nat → Int32 → Int32 → Int32 → Int32 → Int32 → Int32 → mS → mO} (hrc0 : ∀ {Q : Option Value → zz_H → Prop} {x1 : Int32} {x2 : Int32} {x3 : Int32} {x4 : Int32} {s s' : mS} {v : Option Value}, rc 0 x1 x2 x3 x4 0 0 s = some (s', v) → Q v (mH h s') → zz_E zp_P zt_tf zt_fd X (d + 4) zm_343 45 [(0, .ref 61), (1, .int x1), (2, .int x2), (3, .int x3), (4, .int x4)] [] (mH h s) Q) (hrc1 : ∀ {Q : Option Value → zz_H → Prop} {x1 : Int32} {x2 : Int32} {x3 : Int32} {x4 : Int32} {x5 : Int32} {x6 : Int32} {s s' : mS} {v : Option Value}, rc 1 x1 x2 x3 x4 x5 x6 s = some (s', v) → Q v (mH h s') → zz_E zp_P zt_tf zt_fd X (d + 4) zm_343 64 [(0, .ref 61), (1, .int x1), (2, .int x2), (3, .int x3), (4, .int x4), (5, .int x5), (6, .int x6)] [] (mH h s) Q) {Q : Option Value → zz_H → Prop} {x1 : Int32} {x2 : Int32} {x3 : Int32} {x4 : Int32} {x5 : Int32} {s s' : mS} {v : Option Value} (hf : mf_343_108 N rc x1 x2 x3 x4 x5 s = some (s', v)) (k : Q v (mH h s')) : zz_E zp_P zt_tf zt_fd X (d + 4) zm_343 108 [(0, .ref 61), (1, .int x1), (2, .int x2), (3, .int x3), (4, .int x4), (5, .int x5)] [] (mH h s) Q := by
  unfold mf_343_108 at hf
  obtain ⟨s1, e, hf⟩ := mo_bv_ok hf
  exact mb_343_108 (d := d + 3) hh  (mr_306 (d := d + 2) hh e (mr_343_114 hh hrc0 hrc1 hf k))
def mf_343_71 (N : Nat) (rc : Nat → Int32 → Int32 → Int32 → Int32 → Int32 → Int32 → mS → mO) (x1 : Int32) (x2 : Int32) (x3 : Int32) (x4 : Int32) (x5 : Int32) (x6 : Int32) (y0 : Int32) (y1 : Int32) (s : mS) : mO := if y1 ≤ y0 then mf_343_108 N rc x1 x2 x3 x4 x5 s else mf_343_74 N rc x1 x2 x3 x4 x5 x6 s
theorem mr_343_71 {X : Nat → Option zz_C} {h : zz_H} (hh : 111 ≤ h.length) {d : Nat} {N : Nat} {rc : Nat → Int32 → Int32 → Int32 → Int32 → Int32 → Int32 → mS → mO} (hrc0 : ∀ {Q : Option Value → zz_H → Prop} {x1 : Int32} {x2 : Int32} {x3 : Int32} {x4 : Int32} {s s' : mS} {v : Option Value}, rc 0 x1 x2 x3 x4 0 0 s = some (s', v) → Q v (mH h s') → zz_E zp_P zt_tf zt_fd X (d + 4) zm_343 45 [(0, .ref 61), (1, .int x1), (2, .int x2), (3, .int x3), (4, .int x4)] [] (mH h s) Q) (hrc1 : ∀ {Q : Option Value → zz_H → Prop} {x1 : Int32} {x2 : Int32} {x3 : Int32} {x4 : Int32} {x5 : Int32} {x6 : Int32} {s s' : mS} {v : Option Value}, rc 1 x1 x2 x3 x4 x5 x6 s = some (s', v) → Q v (mH h s') → zz_E zp_P zt_tf zt_fd X (d + 4) zm_343 64 [(0, .ref 61), (1, .int x1), (2, .int x2), (3, .int x3), (4, .int x4), (5, .int x5), (6, .int x6)] [] (mH h s) Q) {Q : Option Value → zz_H → Prop} {x1 : Int32} {x2 : Int32} {x3 : Int32} {x4 : Int32} {x5 : Int32} {x6 : Int32} {y0 : Int32} {y1 : Int32} {s s' : mS} {v : Option Value} (hf : mf_343_71 N rc x1 x2 x3 x4 x5 x6 y0 y1 s = some (s', v)) (k : Q v (mH h s')) : zz_E zp_P zt_tf zt_fd X (d + 4) zm_343 71 [(0, .ref 61), (1, .int x1), (2, .int x2), (3, .int x3), (4, .int x4), (5, .int x5), (6, .int x6)] [.int y1, .int y0] (mH h s) Q := by
  unfold mf_343_71 at hf
  refine mb_343_71 hh  (fun c => ?_) (fun c => ?_)
  · rw [if_pos c] at hf
    exact mr_343_108 hh hrc0 hrc1 hf k
  · rw [if_neg c] at hf
    exact mr_343_74 hh hrc0 hrc1 hf k
def mf_343_64 (N : Nat) (rc : Nat → Int32 → Int32 → Int32 → Int32 → Int32 → Int32 → mS → mO) (x1 : Int32) (x2 : Int32) (x3 : Int32) (x4 : Int32) (x5 : Int32) (x6 : Int32) (s : mS) : mO := mo_bi (mf_77 N x2 s) (fun s1 y => mf_343_71 N rc x1 x2 x3 x4 x5 x6 x6 y s1)
theorem mr_343_64 {X : Nat → Option zz_C} {h : zz_H} (hh : 111 ≤ h.length) {d : Nat} {N : Nat} {rc : Nat → Int32 → Int32 → Int32 → Int32 → Int32 → Int32 → mS → mO} (hrc0 : ∀ {Q : Option Value → zz_H → Prop} {x1 : Int32} {x2 : Int32} {x3 : Int32} {x4 : Int32} {s s' : mS} {v : Option Value}, rc 0 x1 x2 x3 x4 0 0 s = some (s', v) → Q v (mH h s') → zz_E zp_P zt_tf zt_fd X (d + 4) zm_343 45 [(0, .ref 61), (1, .int x1), (2, .int x2), (3, .int x3), (4, .int x4)] [] (mH h s) Q) (hrc1 : ∀ {Q : Option Value → zz_H → Prop} {x1 : Int32} {x2 : Int32} {x3 : Int32} {x4 : Int32} {x5 : Int32} {x6 : Int32} {s s' : mS} {v : Option Value}, rc 1 x1 x2 x3 x4 x5 x6 s = some (s', v) → Q v (mH h s') → zz_E zp_P zt_tf zt_fd X (d + 4) zm_343 64 [(0, .ref 61), (1, .int x1), (2, .int x2), (3, .int x3), (4, .int x4), (5, .int x5), (6, .int x6)] [] (mH h s) Q) {Q : Option Value → zz_H → Prop} {x1 : Int32} {x2 : Int32} {x3 : Int32} {x4 : Int32} {x5 : Int32} {x6 : Int32} {s s' : mS} {v : Option Value} (hf : mf_343_64 N rc x1 x2 x3 x4 x5 x6 s = some (s', v)) (k : Q v (mH h s')) : zz_E zp_P zt_tf zt_fd X (d + 4) zm_343 64 [(0, .ref 61), (1, .int x1), (2, .int x2), (3, .int x3), (4, .int x4), (5, .int x5), (6, .int x6)] [] (mH h s) Q := by
  unfold mf_343_64 at hf
  obtain ⟨s1, y, e, hf⟩ := mo_bi_ok hf
  exact mb_343_64 (d := d + 3) hh  (mr_77 (d := d + 3) hh e (mr_343_71 hh hrc0 hrc1 hf k))
def mf_343_55 (N : Nat) (rc : Nat → Int32 → Int32 → Int32 → Int32 → Int32 → Int32 → mS → mO) (x1 : Int32) (x2 : Int32) (x3 : Int32) (x4 : Int32) (s : mS) : mO := rc 1 x1 x2 x3 x4 (s.1 51) 0 s
theorem mr_343_55 {X : Nat → Option zz_C} {h : zz_H} (hh : 111 ≤ h.length) {d : Nat} {N : Nat} {rc : Nat → Int32 → Int32 → Int32 → Int32 → Int32 → Int32 → mS → mO} (hrc0 : ∀ {Q : Option Value → zz_H → Prop} {x1 : Int32} {x2 : Int32} {x3 : Int32} {x4 : Int32} {s s' : mS} {v : Option Value}, rc 0 x1 x2 x3 x4 0 0 s = some (s', v) → Q v (mH h s') → zz_E zp_P zt_tf zt_fd X (d + 4) zm_343 45 [(0, .ref 61), (1, .int x1), (2, .int x2), (3, .int x3), (4, .int x4)] [] (mH h s) Q) (hrc1 : ∀ {Q : Option Value → zz_H → Prop} {x1 : Int32} {x2 : Int32} {x3 : Int32} {x4 : Int32} {x5 : Int32} {x6 : Int32} {s s' : mS} {v : Option Value}, rc 1 x1 x2 x3 x4 x5 x6 s = some (s', v) → Q v (mH h s') → zz_E zp_P zt_tf zt_fd X (d + 4) zm_343 64 [(0, .ref 61), (1, .int x1), (2, .int x2), (3, .int x3), (4, .int x4), (5, .int x5), (6, .int x6)] [] (mH h s) Q) {Q : Option Value → zz_H → Prop} {x1 : Int32} {x2 : Int32} {x3 : Int32} {x4 : Int32} {s s' : mS} {v : Option Value} (hf : mf_343_55 N rc x1 x2 x3 x4 s = some (s', v)) (k : Q v (mH h s')) : zz_E zp_P zt_tf zt_fd X (d + 4) zm_343 55 [(0, .ref 61), (1, .int x1), (2, .int x2), (3, .int x3), (4, .int x4)] [] (mH h s) Q := by
  unfold mf_343_55 at hf
  exact mb_343_55 hh  (hrc1 hf k)
def mf_343_52 (N : Nat) (rc : Nat → Int32 → Int32 → Int32 → Int32 → Int32 → Int32 → mS → mO) (x1 : Int32) (x2 : Int32) (x3 : Int32) (x4 : Int32) (y0 : Int32) (y1 : Int32) (s : mS) : mO := if y1 ≤ y0 then mf_343_120 N x3 s else mf_343_55 N rc x1 x2 x3 x4 s
theorem mr_343_52 {X : Nat → Option zz_C} {h : zz_H} (hh : 111 ≤ h.length) {d : Nat} {N : Nat} {rc : Nat → Int32 → Int32 → Int32 → Int32 → Int32 → Int32 → mS → mO} (hrc0 : ∀ {Q : Option Value → zz_H → Prop} {x1 : Int32} {x2 : Int32} {x3 : Int32} {x4 : Int32} {s s' : mS} {v : Option Value}, rc 0 x1 x2 x3 x4 0 0 s = some (s', v) → Q v (mH h s') → zz_E zp_P zt_tf zt_fd X (d + 4) zm_343 45 [(0, .ref 61), (1, .int x1), (2, .int x2), (3, .int x3), (4, .int x4)] [] (mH h s) Q) (hrc1 : ∀ {Q : Option Value → zz_H → Prop} {x1 : Int32} {x2 : Int32} {x3 : Int32} {x4 : Int32} {x5 : Int32} {x6 : Int32} {s s' : mS} {v : Option Value}, rc 1 x1 x2 x3 x4 x5 x6 s = some (s', v) → Q v (mH h s') → zz_E zp_P zt_tf zt_fd X (d + 4) zm_343 64 [(0, .ref 61), (1, .int x1), (2, .int x2), (3, .int x3), (4, .int x4), (5, .int x5), (6, .int x6)] [] (mH h s) Q) {Q : Option Value → zz_H → Prop} {x1 : Int32} {x2 : Int32} {x3 : Int32} {x4 : Int32} {y0 : Int32} {y1 : Int32} {s s' : mS} {v : Option Value} (hf : mf_343_52 N rc x1 x2 x3 x4 y0 y1 s = some (s', v)) (k : Q v (mH h s')) : zz_E zp_P zt_tf zt_fd X (d + 4) zm_343 52 [(0, .ref 61), (1, .int x1), (2, .int x2), (3, .int x3), (4, .int x4)] [.int y1, .int y0] (mH h s) Q := by
  unfold mf_343_52 at hf
  refine mb_343_52 hh  (fun c => ?_) (fun c => ?_)
  · rw [if_pos c] at hf
    exact mr_343_120 hh hf k
  · rw [if_neg c] at hf
    exact mr_343_55 hh hrc0 hrc1 hf k
def mf_343_45 (N : Nat) (rc : Nat → Int32 → Int32 → Int32 → Int32 → Int32 → Int32 → mS → mO) (x1 : Int32) (x2 : Int32) (x3 : Int32) (x4 : Int32) (s : mS) : mO := mo_bi (mf_77 N x1 s) (fun s1 y => mf_343_52 N rc x1 x2 x3 x4 x4 y s1)
theorem mr_343_45 {X : Nat → Option zz_C} {h : zz_H} (hh : 111 ≤ h.length) {d : Nat} {N : Nat} {rc : Nat → Int32 → Int32 → Int32 → Int32 → Int32 → Int32 → mS → mO} (hrc0 : ∀ {Q : Option Value → zz_H → Prop} {x1 : Int32} {x2 : Int32} {x3 : Int32} {x4 : Int32} {s s' : mS} {v : Option Value}, rc 0 x1 x2 x3 x4 0 0 s = some (s', v) → Q v (mH h s') → zz_E zp_P zt_tf zt_fd X (d + 4) zm_343 45 [(0, .ref 61), (1, .int x1), (2, .int x2), (3, .int x3), (4, .int x4)] [] (mH h s) Q) (hrc1 : ∀ {Q : Option Value → zz_H → Prop} {x1 : Int32} {x2 : Int32} {x3 : Int32} {x4 : Int32} {x5 : Int32} {x6 : Int32} {s s' : mS} {v : Option Value}, rc 1 x1 x2 x3 x4 x5 x6 s = some (s', v) → Q v (mH h s') → zz_E zp_P zt_tf zt_fd X (d + 4) zm_343 64 [(0, .ref 61), (1, .int x1), (2, .int x2), (3, .int x3), (4, .int x4), (5, .int x5), (6, .int x6)] [] (mH h s) Q) {Q : Option Value → zz_H → Prop} {x1 : Int32} {x2 : Int32} {x3 : Int32} {x4 : Int32} {s s' : mS} {v : Option Value} (hf : mf_343_45 N rc x1 x2 x3 x4 s = some (s', v)) (k : Q v (mH h s')) : zz_E zp_P zt_tf zt_fd X (d + 4) zm_343 45 [(0, .ref 61), (1, .int x1), (2, .int x2), (3, .int x3), (4, .int x4)] [] (mH h s) Q := by
  unfold mf_343_45 at hf
  obtain ⟨s1, y, e, hf⟩ := mo_bi_ok hf
  exact mb_343_45 (d := d + 3) hh  (mr_77 (d := d + 3) hh e (mr_343_52 hh hrc0 hrc1 hf k))
def mf_343_L4 (N : Nat) : Nat → Nat → Int32 → Int32 → Int32 → Int32 → Int32 → Int32 → mS → mO
  | 0, _, _, _, _, _, _, _, _ => none
  | n + 1, l, x1, x2, x3, x4, x5, x6, s => if l = 0 then mf_343_45 N (mf_343_L4 N n) x1 x2 x3 x4 s else if l = 1 then mf_343_64 N (mf_343_L4 N n) x1 x2 x3 x4 x5 x6 s else none
theorem mr_343_L4 {X : Nat → Option zz_C} {h : zz_H} (hh : 111 ≤ h.length) {d : Nat} {N : Nat} : ∀ n : Nat, (∀ {Q : Option Value → zz_H → Prop} {x1 : Int32} {x2 : Int32} {x3 : Int32} {x4 : Int32} {s s' : mS} {v : Option Value}, mf_343_L4 N n 0 x1 x2 x3 x4 0 0 s = some (s', v) → Q v (mH h s') → zz_E zp_P zt_tf zt_fd X (d + 4) zm_343 45 [(0, .ref 61), (1, .int x1), (2, .int x2), (3, .int x3), (4, .int x4)] [] (mH h s) Q) ∧ (∀ {Q : Option Value → zz_H → Prop} {x1 : Int32} {x2 : Int32} {x3 : Int32} {x4 : Int32} {x5 : Int32} {x6 : Int32} {s s' : mS} {v : Option Value}, mf_343_L4 N n 1 x1 x2 x3 x4 x5 x6 s = some (s', v) → Q v (mH h s') → zz_E zp_P zt_tf zt_fd X (d + 4) zm_343 64 [(0, .ref 61), (1, .int x1), (2, .int x2), (3, .int x3), (4, .int x4), (5, .int x5), (6, .int x6)] [] (mH h s) Q) := by
  intro n
  induction n with
  | zero => exact ⟨(fun hf _ => by cases hf), (fun hf _ => by cases hf)⟩
  | succ n ih =>
    obtain ⟨h0, h1⟩ := ih
    refine ⟨?_, ?_⟩
    · intro Q _ _ _ _ s s' v hf k
      unfold mf_343_L4 at hf
      rw [if_pos rfl] at hf
      exact mr_343_45 hh h0 h1 hf k
    · intro Q _ _ _ _ _ _ s s' v hf k
      unfold mf_343_L4 at hf
      rw [if_neg (by decide)] at hf
      rw [if_pos rfl] at hf
      exact mr_343_64 hh h0 h1 hf k
def mf_343_37 (N : Nat) (x1 : Int32) (x2 : Int32) (x3 : Int32) (s : mS) : mO := mf_343_L4 N N 0 x1 x2 x3 0 0 0 (mI s 51 x3)
theorem mr_343_37 {X : Nat → Option zz_C} {h : zz_H} (hh : 111 ≤ h.length) {d : Nat} {N : Nat} {Q : Option Value → zz_H → Prop} {x1 : Int32} {x2 : Int32} {x3 : Int32} {s s' : mS} {v : Option Value} (hf : mf_343_37 N x1 x2 x3 s = some (s', v)) (k : Q v (mH h s')) : zz_E zp_P zt_tf zt_fd X (d + 4) zm_343 37 [(0, .ref 61), (1, .int x1), (2, .int x2), (3, .int x3)] [] (mH h s) Q := by
  unfold mf_343_37 at hf
  exact mb_343_37 hh  ((mr_343_L4 hh N).1 hf k)
def mf_343_20 (N : Nat) (x1 : Int32) (x2 : Int32) (x3 : Int32) (y0 : Int32) (y1 : Int32) (s : mS) : mO := if (y0 * y1) ≤ 200 then mf_343_37 N x1 x2 x3 s else mf_343_27 N  s
theorem mr_343_20 {X : Nat → Option zz_C} {h : zz_H} (hh : 111 ≤ h.length) {d : Nat} {N : Nat} {Q : Option Value → zz_H → Prop} {x1 : Int32} {x2 : Int32} {x3 : Int32} {y0 : Int32} {y1 : Int32} {s s' : mS} {v : Option Value} (hf : mf_343_20 N x1 x2 x3 y0 y1 s = some (s', v)) (k : Q v (mH h s')) : zz_E zp_P zt_tf zt_fd X (d + 4) zm_343 20 [(0, .ref 61), (1, .int x1), (2, .int x2), (3, .int x3)] [.int y1, .int y0] (mH h s) Q := by
  unfold mf_343_20 at hf
  refine mb_343_20 hh  (fun c => ?_) (fun c => ?_)
  · rw [if_pos c] at hf
    exact mr_343_37 hh hf k
  · rw [if_neg c] at hf
    exact mr_343_27 hh hf k
def mf_343_15 (N : Nat) (x1 : Int32) (x2 : Int32) (x3 : Int32) (y0 : Int32) (s : mS) : mO := mo_bi (mf_77 N x2 s) (fun s1 y => mf_343_20 N x1 x2 x3 y0 y s1)
theorem mr_343_15 {X : Nat → Option zz_C} {h : zz_H} (hh : 111 ≤ h.length) {d : Nat} {N : Nat} {Q : Option Value → zz_H → Prop} {x1 : Int32} {x2 : Int32} {x3 : Int32} {y0 : Int32} {s s' : mS} {v : Option Value} (hf : mf_343_15 N x1 x2 x3 y0 s = some (s', v)) (k : Q v (mH h s')) : zz_E zp_P zt_tf zt_fd X (d + 4) zm_343 15 [(0, .ref 61), (1, .int x1), (2, .int x2), (3, .int x3)] [.int y0] (mH h s) Q := by
  unfold mf_343_15 at hf
  obtain ⟨s1, y, e, hf⟩ := mo_bi_ok hf
  exact mb_343_15 (d := d + 3) hh  (mr_77 (d := d + 3) hh e (mr_343_20 hh hf k))
def mf_343_10 (N : Nat) (x1 : Int32) (x2 : Int32) (x3 : Int32) (s : mS) : mO := mo_bi (mf_77 N x1 s) (fun s1 y => mf_343_15 N x1 x2 x3 y s1)
theorem mr_343_10 {X : Nat → Option zz_C} {h : zz_H} (hh : 111 ≤ h.length) {d : Nat} {N : Nat} {Q : Option Value → zz_H → Prop} {x1 : Int32} {x2 : Int32} {x3 : Int32} {s s' : mS} {v : Option Value} (hf : mf_343_10 N x1 x2 x3 s = some (s', v)) (k : Q v (mH h s')) : zz_E zp_P zt_tf zt_fd X (d + 4) zm_343 10 [(0, .ref 61), (1, .int x1), (2, .int x2), (3, .int x3)] [] (mH h s) Q := by
  unfold mf_343_10 at hf
  obtain ⟨s1, y, e, hf⟩ := mo_bi_ok hf
  exact mb_343_10 (d := d + 3) hh  (mr_77 (d := d + 3) hh e (mr_343_15 hh hf k))
def mf_343_5 (N : Nat) (x1 : Int32) (x2 : Int32) (x3 : Int32) (y0 : Int32) (s : mS) : mO := if 20 < y0 then mf_343_27 N  s else mf_343_10 N x1 x2 x3 s
theorem mr_343_5 {X : Nat → Option zz_C} {h : zz_H} (hh : 111 ≤ h.length) {d : Nat} {N : Nat} {Q : Option Value → zz_H → Prop} {x1 : Int32} {x2 : Int32} {x3 : Int32} {y0 : Int32} {s s' : mS} {v : Option Value} (hf : mf_343_5 N x1 x2 x3 y0 s = some (s', v)) (k : Q v (mH h s')) : zz_E zp_P zt_tf zt_fd X (d + 4) zm_343 5 [(0, .ref 61), (1, .int x1), (2, .int x2), (3, .int x3)] [.int y0] (mH h s) Q := by
  unfold mf_343_5 at hf
  refine mb_343_5 hh  (fun c => ?_) (fun c => ?_)
  · rw [if_pos c] at hf
    exact mr_343_27 hh hf k
  · rw [if_neg c] at hf
    exact mr_343_10 hh hf k
def mf_343_0 (N : Nat) (x1 : Int32) (x2 : Int32) (x3 : Int32) (s : mS) : mO := mo_bi (mf_77 N x1 s) (fun s1 y => mf_343_5 N x1 x2 x3 y s1)
theorem mr_343_0 {X : Nat → Option zz_C} {h : zz_H} (hh : 111 ≤ h.length) {d : Nat} {N : Nat} {Q : Option Value → zz_H → Prop} {x1 : Int32} {x2 : Int32} {x3 : Int32} {s s' : mS} {v : Option Value} (hf : mf_343_0 N x1 x2 x3 s = some (s', v)) (k : Q v (mH h s')) : zz_E zp_P zt_tf zt_fd X (d + 4) zm_343 0 [(0, .ref 61), (1, .int x1), (2, .int x2), (3, .int x3)] [] (mH h s) Q := by
  unfold mf_343_0 at hf
  obtain ⟨s1, y, e, hf⟩ := mo_bi_ok hf
  exact mb_343_0 (d := d + 3) hh  (mr_77 (d := d + 3) hh e (mr_343_5 hh hf k))
/-- outer -/
def mf_343 (N : Nat) (x1 : Int32) (x2 : Int32) (x3 : Int32) (s : mS) : mO := mf_343_0 N x1 x2 x3 s
theorem mr_343 {X : Nat → Option zz_C} {h : zz_H} (hh : 111 ≤ h.length) {d : Nat} {N : Nat} {Q : Option Value → zz_H → Prop} {x1 : Int32} {x2 : Int32} {x3 : Int32} {s s' : mS} {v : Option Value} (hf : mf_343 N x1 x2 x3 s = some (s', v)) (k : Q v (mH h s')) : zz_E zp_P zt_tf zt_fd X (d + 4) zm_343 0 [(0, .ref 61), (1, .int x1), (2, .int x2), (3, .int x3)] [] (mH h s) Q := by
  unfold mf_343 at hf
  exact zz_E.weak (mr_343_0 hh hf k) rfl ⟨rfl, rfl, rfl, rfl, trivial⟩
/-! areSameRows (II)Z -/
theorem mb_344_0 {X : Nat → Option zz_C} {h : zz_H} (hh : 111 ≤ h.length) {s : mS} {d : Nat} {Q : Option Value → zz_H → Prop} {x1 : Int32} {x2 : Int32} (k : zz_E zp_P zt_tf zt_fd X d zm_77 0 [(0, .ref 61), (1, .int x1)] [] (mH h s) (fun v h' => zz_E zp_P zt_tf zt_fd X (d + 1) zm_344 5 [(0, .ref 61), (1, .int x1), (2, .int x2)] (v.toList ++ []) h' Q)) : zz_E zp_P zt_tf zt_fd X (d + 1) zm_344 0 [(0, .ref 61), (1, .int x1), (2, .int x2)] [] (mH h s) Q := by
  refine zz_E.n 1 rfl rfl rfl ?_
  refine zz_E.n 2 rfl rfl rfl ?_
  refine mE_cv hh 5 (as := []) rfl rfl (Nat.le_of_ble_eq_true rfl) (Nat.le_of_ble_eq_true rfl) rfl (Nat.le_of_ble_eq_true rfl) rfl ?_
  refine zz_E.mono k ?_
  intro v h' hE
  exact zz_E.weak hE rfl ⟨rfl, rfl, rfl, trivial⟩
theorem mb_344_5 {X : Nat → Option zz_C} {h : zz_H} (hh : 111 ≤ h.length) {s : mS} {d : Nat} {Q : Option Value → zz_H → Prop} {x1 : Int32} {x2 : Int32} {y0 : Int32} (k : zz_E zp_P zt_tf zt_fd X d zm_77 0 [(0, .ref 61), (1, .int x2)] [] (mH h s) (fun v h' => zz_E zp_P zt_tf zt_fd X (d + 1) zm_344 10 [(0, .ref 61), (1, .int x1), (2, .int x2)] (v.toList ++ [.int y0]) h' Q)) : zz_E zp_P zt_tf zt_fd X (d + 1) zm_344 5 [(0, .ref 61), (1, .int x1), (2, .int x2)] [.int y0] (mH h s) Q := by
  refine zz_E.n 6 rfl rfl rfl ?_
  refine zz_E.n 7 rfl rfl rfl ?_
  refine mE_cv hh 10 (as := [.int y0]) rfl rfl (Nat.le_of_ble_eq_true rfl) (Nat.le_of_ble_eq_true rfl) rfl (Nat.le_of_ble_eq_true rfl) rfl ?_
  refine zz_E.mono k ?_
  intro v h' hE
  exact zz_E.weak hE rfl ⟨rfl, rfl, rfl, trivial⟩
theorem mb_344_10 {X : Nat → Option zz_C} {h : zz_H} (hh : 111 ≤ h.length) {s : mS} {d : Nat} {Q : Option Value → zz_H → Prop} {x1 : Int32} {x2 : Int32} {y0 : Int32} {y1 : Int32} (k1 : ¬ y0 = y1 → zz_E zp_P zt_tf zt_fd X d zm_344 17 [(0, .ref 61), (1, .int x1), (2, .int x2)] [] (mH h s) Q) (k2 : ¬ ¬ y0 = y1 → zz_E zp_P zt_tf zt_fd X d zm_344 13 [(0, .ref 61), (1, .int x1), (2, .int x2)] [] (mH h s) Q) : zz_E zp_P zt_tf zt_fd X d zm_344 10 [(0, .ref 61), (1, .int x1), (2, .int x2)] [.int y1, .int y0] (mH h s) Q := by
  refine zz_E.b2 17 13 (A := ¬ y0 = y1) rfl (zz_cond_ne _ _) (by decide) rfl rfl (fun c => ?_) (fun c => ?_)
  · exact zz_E.weak (k1 c) rfl ⟨rfl, rfl, rfl, trivial⟩
  · exact zz_E.weak (k2 c) rfl ⟨rfl, rfl, rfl, trivial⟩
theorem mb_344_13 {X : Nat → Option zz_C} {h : zz_H} (hh : 111 ≤ h.length) {s : mS} {d : Nat} {Q : Option Value → zz_H → Prop} {x1 : Int32} {x2 : Int32} (k : zz_E zp_P zt_tf zt_fd X d zm_344 18 [(0, .ref 61), (1, .int x1), (2, .int x2)] [.int 1] (mH h s) Q) : zz_E zp_P zt_tf zt_fd X d zm_344 13 [(0, .ref 61), (1, .int x1), (2, .int x2)] [] (mH h s) Q := by
  refine zz_E.c 14 (.int 1) rfl rfl rfl rfl ?_
  refine zz_E.n 18 rfl rfl rfl ?_
  exact zz_E.weak k rfl ⟨rfl, rfl, rfl, trivial⟩
theorem mb_344_17 {X : Nat → Option zz_C} {h : zz_H} (hh : 111 ≤ h.length) {s : mS} {d : Nat} {Q : Option Value → zz_H → Prop} {x1 : Int32} {x2 : Int32} (k : zz_E zp_P zt_tf zt_fd X d zm_344 18 [(0, .ref 61), (1, .int x1), (2, .int x2)] [.int 0] (mH h s) Q) : zz_E zp_P zt_tf zt_fd X d zm_344 17 [(0, .ref 61), (1, .int x1), (2, .int x2)] [] (mH h s) Q := by
  refine zz_E.c 18 (.int 0) rfl rfl rfl rfl ?_
  exact zz_E.weak k rfl ⟨rfl, rfl, rfl, trivial⟩
theorem mb_344_18 {X : Nat → Option zz_C} {h : zz_H} (hh : 111 ≤ h.length) {s : mS} {d : Nat} {Q : Option Value → zz_H → Prop} {x1 : Int32} {x2 : Int32} {y0 : Int32} (k : zz_E zp_P zt_tf zt_fd X d zm_344 22 [(0, .ref 61), (1, .int x1), (2, .int x2), (3, .int y0), (4, .int 0)] [] (mH h s) Q) : zz_E zp_P zt_tf zt_fd X d zm_344 18 [(0, .ref 61), (1, .int x1), (2, .int x2)] [.int y0] (mH h s) Q := by
  refine zz_E.n 19 rfl rfl rfl ?_
  refine zz_E.c 20 (.int 0) rfl rfl rfl rfl ?_
  refine zz_E.n 22 rfl rfl rfl ?_
  exact zz_E.weak k rfl ⟨rfl, rfl, rfl, rfl, rfl, trivial⟩
theorem mb_344_22 {X : Nat → Option zz_C} {h : zz_H} (hh : 111 ≤ h.length) {s : mS} {d : Nat} {Q : Option Value → zz_H → Prop} {x1 : Int32} {x2 : Int32} {x3 : Int32} {x4 : Int32} (k1 : x3 = 0 → zz_E zp_P zt_tf zt_fd X d zm_344 73 [(3, .int x3)] [] (mH h s) Q) (k2 : ¬ x3 = 0 → zz_E zp_P zt_tf zt_fd X d zm_344 26 [(0, .ref 61), (1, .int x1), (2, .int x2), (3, .int x3), (4, .int x4)] [] (mH h s) Q) : zz_E zp_P zt_tf zt_fd X d zm_344 22 [(0, .ref 61), (1, .int x1), (2, .int x2), (3, .int x3), (4, .int x4)] [] (mH h s) Q := by
  refine zz_E.n 23 rfl rfl rfl ?_
  refine zz_E.b1 73 26 (A := x3 = 0) rfl rfl (by decide) rfl rfl (fun c => ?_) (fun c => ?_)
  · exact zz_E.weak (k1 c) rfl ⟨rfl, trivial⟩
  · exact zz_E.weak (k2 c) rfl ⟨rfl, rfl, rfl, rfl, rfl, trivial⟩
theorem mb_344_26 {X : Nat → Option zz_C} {h : zz_H} (hh : 111 ≤ h.length) {s : mS} {d : Nat} {Q : Option Value → zz_H → Prop} {x1 : Int32} {x2 : Int32} {x3 : Int32} {x4 : Int32} (k : zz_E zp_P zt_tf zt_fd X d zm_77 0 [(0, .ref 61), (1, .int x1)] [] (mH h s) (fun v h' => zz_E zp_P zt_tf zt_fd X (d + 1) zm_344 33 [(0, .ref 61), (1, .int x1), (2, .int x2), (3, .int x3), (4, .int x4)] (v.toList ++ [.int x4]) h' Q)) : zz_E zp_P zt_tf zt_fd X (d + 1) zm_344 26 [(0, .ref 61), (1, .int x1), (2, .int x2), (3, .int x3), (4, .int x4)] [] (mH h s) Q := by
  refine zz_E.n 28 rfl rfl rfl ?_
  refine zz_E.n 29 rfl rfl rfl ?_
  refine zz_E.n 30 rfl rfl rfl ?_
  refine mE_cv hh 33 (as := [.int x4]) rfl rfl (Nat.le_of_ble_eq_true rfl) (Nat.le_of_ble_eq_true rfl) rfl (Nat.le_of_ble_eq_true rfl) rfl ?_
  refine zz_E.mono k ?_
  intro v h' hE
  exact zz_E.weak hE rfl ⟨rfl, rfl, rfl, rfl, rfl, trivial⟩
theorem mb_344_33 {X : Nat → Option zz_C} {h : zz_H} (hh : 111 ≤ h.length) {s : mS} {d : Nat} {Q : Option Value → zz_H → Prop} {x1 : Int32} {x2 : Int32} {x3 : Int32} {x4 : Int32} {y0 : Int32} {y1 : Int32} (k1 : y1 ≤ y0 → zz_E zp_P zt_tf zt_fd X d zm_344 73 [(3, .int x3)] [] (mH h s) Q) (k2 : ¬ y1 ≤ y0 → zz_E zp_P zt_tf zt_fd X d zm_344 36 [(0, .ref 61), (1, .int x1), (2, .int x2), (4, .int x4)] [] (mH h s) Q) : zz_E zp_P zt_tf zt_fd X d zm_344 33 [(0, .ref 61), (1, .int x1), (2, .int x2), (3, .int x3), (4, .int x4)] [.int y1, .int y0] (mH h s) Q := by
  refine zz_E.b2 73 36 (A := y1 ≤ y0) rfl rfl (by decide) rfl rfl (fun c => ?_) (fun c => ?_)
  · exact zz_E.weak (k1 c) rfl ⟨rfl, trivial⟩
  · exact zz_E.weak (k2 c) rfl ⟨rfl, rfl, rfl, rfl, trivial⟩
theorem mb_344_36 {X : Nat → Option zz_C} {h : zz_H} (hh : 111 ≤ h.length) {s : mS} {d : Nat} {Q : Option Value → zz_H → Prop} {x1 : Int32} {x2 : Int32} {x4 : Int32} (i46 : ¬ (((x1 + 2) + x4) < 0 ∨ 166300 ≤ Int32.toNatClampNeg ((x1 + 2) + x4))) (i57 : ¬ (((x2 + 2) + x4) < 0 ∨ 166300 ≤ Int32.toNatClampNeg ((x2 + 2) + x4))) (k1 : ¬ ((s.2.2.1 47) (Int32.toNatClampNeg ((x1 + 2) + x4))) = ((s.2.2.1 47) (Int32.toNatClampNeg ((x2 + 2) + x4))) → zz_E zp_P zt_tf zt_fd X d zm_344 65 [(0, .ref 61), (1, .int x1), (2, .int x2), (4, .int x4)] [] (mH h s) Q) (k2 : ¬ ¬ ((s.2.2.1 47) (Int32.toNatClampNeg ((x1 + 2) + x4))) = ((s.2.2.1 47) (Int32.toNatClampNeg ((x2 + 2) + x4))) → zz_E zp_P zt_tf zt_fd X d zm_344 61 [(0, .ref 61), (1, .int x1), (2, .int x2), (4, .int x4)] [] (mH h s) Q) : zz_E zp_P zt_tf zt_fd X d zm_344 36 [(0, .ref 61), (1, .int x1), (2, .int x2), (4, .int x4)] [] (mH h s) Q := by
  refine zz_E.n 37 rfl rfl rfl ?_
  refine mE_g hh 40 (v := .ref 89) rfl rfl rfl ?_
  refine zz_E.n 41 rfl rfl rfl ?_
  refine zz_E.c 42 (.int 2) rfl rfl rfl rfl ?_
  refine zz_E.n 43 rfl rfl rfl ?_
  refine zz_E.n 45 rfl rfl rfl ?_
  refine zz_E.n 46 rfl rfl rfl ?_
  refine mE_ia hh 47 28 (f := (s.2.2.1 47)) rfl (by decide) rfl rfl i46 rfl ?_
  refine zz_E.n 48 rfl rfl rfl ?_
  refine mE_g hh 51 (v := .ref 89) rfl rfl rfl ?_
  refine zz_E.n 52 rfl rfl rfl ?_
  refine zz_E.c 53 (.int 2) rfl rfl rfl rfl ?_
  refine zz_E.n 54 rfl rfl rfl ?_
  refine zz_E.n 56 rfl rfl rfl ?_
  refine zz_E.n 57 rfl rfl rfl ?_
  refine mE_ia hh 58 28 (f := (s.2.2.1 47)) rfl (by decide) rfl rfl i57 rfl ?_
  refine zz_E.b2 65 61 (A := ¬ ((s.2.2.1 47) (Int32.toNatClampNeg ((x1 + 2) + x4))) = ((s.2.2.1 47) (Int32.toNatClampNeg ((x2 + 2) + x4)))) rfl (zz_cond_ne _ _) (by decide) rfl rfl (fun c => ?_) (fun c => ?_)
  · exact zz_E.weak (k1 c) rfl ⟨rfl, rfl, rfl, rfl, trivial⟩
  · exact zz_E.weak (k2 c) rfl ⟨rfl, rfl, rfl, rfl, trivial⟩
theorem mb_344_61 {X : Nat → Option zz_C} {h : zz_H} (hh : 111 ≤ h.length) {s : mS} {d : Nat} {Q : Option Value → zz_H → Prop} {x1 : Int32} {x2 : Int32} {x4 : Int32} (k : zz_E zp_P zt_tf zt_fd X d zm_344 66 [(0, .ref 61), (1, .int x1), (2, .int x2), (4, .int x4)] [.int 1] (mH h s) Q) : zz_E zp_P zt_tf zt_fd X d zm_344 61 [(0, .ref 61), (1, .int x1), (2, .int x2), (4, .int x4)] [] (mH h s) Q := by
  refine zz_E.c 62 (.int 1) rfl rfl rfl rfl ?_
  refine zz_E.n 66 rfl rfl rfl ?_
  exact zz_E.weak k rfl ⟨rfl, rfl, rfl, rfl, trivial⟩
theorem mb_344_65 {X : Nat → Option zz_C} {h : zz_H} (hh : 111 ≤ h.length) {s : mS} {d : Nat} {Q : Option Value → zz_H → Prop} {x1 : Int32} {x2 : Int32} {x4 : Int32} (k : zz_E zp_P zt_tf zt_fd X d zm_344 66 [(0, .ref 61), (1, .int x1), (2, .int x2), (4, .int x4)] [.int 0] (mH h s) Q) : zz_E zp_P zt_tf zt_fd X d zm_344 65 [(0, .ref 61), (1, .int x1), (2, .int x2), (4, .int x4)] [] (mH h s) Q := by
  refine zz_E.c 66 (.int 0) rfl rfl rfl rfl ?_
  exact zz_E.weak k rfl ⟨rfl, rfl, rfl, rfl, trivial⟩
theorem mb_344_66 {X : Nat → Option zz_C} {h : zz_H} (hh : 111 ≤ h.length) {s : mS} {d : Nat} {Q : Option Value → zz_H → Prop} {x1 : Int32} {x2 : Int32} {x4 : Int32} {y0 : Int32} (k : zz_E zp_P zt_tf zt_fd X d zm_344 22 [(0, .ref 61), (1, .int x1), (2, .int x2), (3, .int y0), (4, .int (x4 + 1))] [] (mH h s) Q) : zz_E zp_P zt_tf zt_fd X d zm_344 66 [(0, .ref 61), (1, .int x1), (2, .int x2), (4, .int x4)] [.int y0] (mH h s) Q := by
  refine zz_E.n 67 rfl rfl rfl ?_
  refine zz_E.n 70 rfl rfl rfl ?_
  refine zz_E.n 22 rfl rfl rfl ?_
  exact zz_E.weak k rfl ⟨rfl, rfl, rfl, rfl, rfl, trivial⟩
theorem mb_344_73 {X : Nat → Option zz_C} {h : zz_H} (hh : 111 ≤ h.length) {s : mS} {d : Nat} {Q : Option Value → zz_H → Prop} {x3 : Int32} (k : Q (some (.int x3)) (mH h s)) (rb : zz_reti (some .boolean) x3 = true) : zz_E zp_P zt_tf zt_fd X d zm_344 73 [(3, .int x3)] [] (mH h s) Q := by
  refine zz_E.n 74 rfl rfl rfl ?_
  refine zz_E.ret rfl rfl (if_pos ⟨rfl, rb⟩) ?_
  exact k
def mf_344_73 (N : Nat) (x3 : Int32) (s : mS) : mO := if zz_reti (some .boolean) x3 = true then some (s, (some (.int x3))) else none
theorem mr_344_73 {X : Nat → Option zz_C} {h : zz_H} (hh : 111 ≤ h.length) {d : Nat} {N : Nat} {Q : Option Value → zz_H → Prop} {x3 : Int32} {s s' : mS} {v : Option Value} (hf : mf_344_73 N x3 s = some (s', v)) (k : Q v (mH h s')) : zz_E zp_P zt_tf zt_fd X (d + 1) zm_344 73 [(3, .int x3)] [] (mH h s) Q := by
  unfold mf_344_73 at hf
  obtain ⟨rb, hf⟩ := mo_if hf
  cases hf
  exact mb_344_73 hh  k rb
def mf_344_66 (N : Nat) (rc : Nat → Int32 → Int32 → Int32 → Int32 → mS → mO) (x1 : Int32) (x2 : Int32) (x4 : Int32) (y0 : Int32) (s : mS) : mO := rc 0 x1 x2 y0 (x4 + 1) s
theorem mr_344_66 {X : Nat → Option zz_C} {h : zz_H} (hh : 111 ≤ h.length) {d : Nat} {N : Nat} {rc : Nat → Int32 → Int32 → Int32 → Int32 → mS → mO} (hrc0 : ∀ {Q : Option Value → zz_H → Prop} {x1 : Int32} {x2 : Int32} {x3 : Int32} {x4 : Int32} {s s' : mS} {v : Option Value}, rc 0 x1 x2 x3 x4 s = some (s', v) → Q v (mH h s') → zz_E zp_P zt_tf zt_fd X (d + 1) zm_344 22 [(0, .ref 61), (1, .int x1), (2, .int x2), (3, .int x3), (4, .int x4)] [] (mH h s) Q) {Q : Option Value → zz_H → Prop} {x1 : Int32} {x2 : Int32} {x4 : Int32} {y0 : Int32} {s s' : mS} {v : Option Value} (hf : mf_344_66 N rc x1 x2 x4 y0 s = some (s', v)) (k : Q v (mH h s')) : zz_E zp_P zt_tf zt_fd X (d + 1) zm_344 66 [(0, .ref 61), (1, .int x1), (2, .int x2), (4, .int x4)] [.int y0] (mH h s) Q := by
  unfold mf_344_66 at hf
  exact mb_344_66 hh  (hrc0 hf k)
def mf_344_61 (N : Nat) (rc : Nat → Int32 → Int32 → Int32 → Int32 → mS → mO) (x1 : Int32) (x2 : Int32) (x4 : Int32) (s : mS) : mO := mf_344_66 N rc x1 x2 x4 1 s
theorem mr_344_61 {X : Nat → Option zz_C} {h : zz_H} (hh : 111 ≤ h.length) {d : Nat} {N : Nat} {rc : Nat → Int32 → Int32 → Int32 → Int32 → mS → mO} (hrc0 : ∀ {Q : Option Value → zz_H → Prop} {x1 : Int32} {x2 : Int32} {x3 : Int32} {x4 : Int32} {s s' : mS} {v : Option Value}, rc 0 x1 x2 x3 x4 s = some (s', v) → Q v (mH h s') → zz_E zp_P zt_tf zt_fd X (d + 1) zm_344 22 [(0, .ref 61), (1, .int x1), (2, .int x2), (3, .int x3), (4, .int x4)] [] (mH h s) Q) {Q : Option Value → zz_H → Prop} {x1 : Int32} {x2 : Int32} {x4 : Int32} {s s' : mS} {v : Option Value} (hf : mf_344_61 N rc x1 x2 x4 s = some (s', v)) (k : Q v (mH h s')) : zz_E zp_P zt_tf zt_fd X (d + 1) zm_344 61 [(0, .ref 61), (1, .int x1), (2, .int x2), (4, .int x4)] [] (mH h s) Q := by
  unfold mf_344_61 at hf
  exact mb_344_61 hh  (mr_344_66 hh hrc0 hf k)
def mf_344_65 (N : Nat) (rc : Nat → Int32 → Int32 → Int32 → Int32 → mS → mO) (x1 : Int32) (x2 : Int32) (x4 : Int32) (s : mS) : mO := mf_344_66 N rc x1 x2 x4 0 s
theorem mr_344_65 {X : Nat → Option zz_C} {h : zz_H} (hh : 111 ≤ h.length) {d : Nat} {N : Nat} {rc : Nat → Int32 → Int32 → Int32 → Int32 → mS → mO} (hrc0 : ∀ {Q : Option Value → zz_H → Prop} {x1 : Int32} {x2 : Int32} {x3 : Int32} {x4 : Int32} {s s' : mS} {v : Option Value}, rc 0 x1 x2 x3 x4 s = some (s', v) → Q v (mH h s') → zz_E zp_P zt_tf zt_fd X (d + 1) zm_344 22 [(0, .ref 61), (1, .int x1), (2, .int x2), (3, .int x3), (4, .int x4)] [] (mH h s) Q) {Q : Option Value → zz_H → Prop} {x1 : Int32} {x2 : Int32} {x4 : Int32} {s s' : mS} {v : Option Value} (hf : mf_344_65 N rc x1 x2 x4 s = some (s', v)) (k : Q v (mH h s')) : zz_E zp_P zt_tf zt_fd X (d + 1) zm_344 65 [(0, .ref 61), (1, .int x1), (2, .int x2), (4, .int x4)] [] (mH h s) Q := by
  unfold mf_344_65 at hf
  exact mb_344_65 hh  (mr_344_66 hh hrc0 hf k)
def mf_344_36 (N : Nat) (rc : Nat → Int32 → Int32 → Int32 → Int32 → mS → mO) (x1 : Int32) (x2 : Int32) (x4 : Int32) (s : mS) : mO := if ¬ (((x1 + 2) + x4) < 0 ∨ 166300 ≤ Int32.toNatClampNeg ((x1 + 2) + x4)) then (if ¬ (((x2 + 2) + x4) < 0 ∨ 166300 ≤ Int32.toNatClampNeg ((x2 + 2) + x4)) then (if ¬ ((s.2.2.1 47) (Int32.toNatClampNeg ((x1 + 2) + x4))) = ((s.2.2.1 47) (Int32.toNatClampNeg ((x2 + 2) + x4))) then mf_344_65 N rc x1 x2 x4 s else mf_344_61 N rc x1 x2 x4 s) else none) else none
theorem mr_344_36 {X : Nat → Option zz_C} {h : zz_H} (hh : 111 ≤ h.length) {d : Nat} {N : Nat} {rc : Nat → Int32 → Int32 → Int32 → Int32 → mS → mO} (hrc0 : ∀ {Q : Option Value → zz_H → Prop} {x1 : Int32} {x2 : Int32} {x3 : Int32} {x4 : Int32} {s s' : mS} {v : Option Value}, rc 0 x1 x2 x3 x4 s = some (s', v) → Q v (mH h s') → zz_E zp_P zt_tf zt_fd X (d + 1) zm_344 22 [(0, .ref 61), (1, .int x1), (2, .int x2), (3, .int x3), (4, .int x4)] [] (mH h s) Q) {Q : Option Value → zz_H → Prop} {x1 : Int32} {x2 : Int32} {x4 : Int32} {s s' : mS} {v : Option Value} (hf : mf_344_36 N rc x1 x2 x4 s = some (s', v)) (k : Q v (mH h s')) : zz_E zp_P zt_tf zt_fd X (d + 1) zm_344 36 [(0, .ref 61), (1, .int x1), (2, .int x2), (4, .int x4)] [] (mH h s) Q := by
  unfold mf_344_36 at hf
  obtain ⟨q0, hf⟩ := mo_if hf
  obtain ⟨q1, hf⟩ := mo_if hf
  refine mb_344_36 hh q0 q1 (fun c => ?_) (fun c => ?_)
  · rw [if_pos c] at hf
    exact mr_344_65 hh hrc0 hf k
  · rw [if_neg c] at hf
    exact mr_344_61 hh hrc0 hf k
def mf_344_33 (N : Nat) (rc : Nat → Int32 → Int32 → Int32 → Int32 → mS → mO) (x1 : Int32) (x2 : Int32) (x3 : Int32) (x4 : Int32) (y0 : Int32) (y1 : Int32) (s : mS) : mO := if y1 ≤ y0 then mf_344_73 N x3 s else mf_344_36 N rc x1 x2 x4 s
theorem mr_344_33 {X : Nat → Option zz_C} {h : zz_H} (hh : 111 ≤ h.length) {d : Nat} {N : Nat} {rc : Nat → Int32 → Int32 → Int32 → Int32 → mS → mO} (hrc0 : ∀ {Q : Option Value → zz_H → Prop} {x1 : Int32} {x2 : Int32} {x3 : Int32} {x4 : Int32} {s s' : mS} {v : Option Value}, rc 0 x1 x2 x3 x4 s = some (s', v) → Q v (mH h s') → zz_E zp_P zt_tf zt_fd X (d + 1) zm_344 22 [(0, .ref 61), (1, .int x1), (2, .int x2), (3, .int x3), (4, .int x4)] [] (mH h s) Q) {Q : Option Value → zz_H → Prop} {x1 : Int32} {x2 : Int32} {x3 : Int32} {x4 : Int32} {y0 : Int32} {y1 : Int32} {s s' : mS} {v : Option Value} (hf : mf_344_33 N rc x1 x2 x3 x4 y0 y1 s = some (s', v)) (k : Q v (mH h s')) : zz_E zp_P zt_tf zt_fd X (d + 1) zm_344 33 [(0, .ref 61), (1, .int x1), (2, .int x2), (3, .int x3), (4, .int x4)] [.int y1, .int y0] (mH h s) Q := by
  unfold mf_344_33 at hf
  refine mb_344_33 hh  (fun c => ?_) (fun c => ?_)
  · rw [if_pos c] at hf
    exact mr_344_73 hh hf k
  · rw [if_neg c] at hf
    exact mr_344_36 hh hrc0 hf k
def mf_344_26 (N : Nat) (rc : Nat → Int32 → Int32 → Int32 → Int32 → mS → mO) (x1 : Int32) (x2 : Int32) (x3 : Int32) (x4 : Int32) (s : mS) : mO := mo_bi (mf_77 N x1 s) (fun s1 y => mf_344_33 N rc x1 x2 x3 x4 x4 y s1)
theorem mr_344_26 {X : Nat → Option zz_C} {h : zz_H} (hh : 111 ≤ h.length) {d : Nat} {N : Nat} {rc : Nat → Int32 → Int32 → Int32 → Int32 → mS → mO} (hrc0 : ∀ {Q : Option Value → zz_H → Prop} {x1 : Int32} {x2 : Int32} {x3 : Int32} {x4 : Int32} {s s' : mS} {v : Option Value}, rc 0 x1 x2 x3 x4 s = some (s', v) → Q v (mH h s') → zz_E zp_P zt_tf zt_fd X (d + 1) zm_344 22 [(0, .ref 61), (1, .int x1), (2, .int x2), (3, .int x3), (4, .int x4)] [] (mH h s) Q) {Q : Option Value → zz_H → Prop} {x1 : Int32} {x2 : Int32} {x3 : Int32} {x4 : Int32} {s s' : mS} {v : Option Value} (hf : mf_344_26 N rc x1 x2 x3 x4 s = some (s', v)) (k : Q v (mH h s')) : zz_E zp_P zt_tf zt_fd X (d + 1) zm_344 26 [(0, .ref 61), (1, .int x1), (2, .int x2), (3, .int x3), (4, .int x4)] [] (mH h s) Q := by
  unfold mf_344_26 at hf
  obtain ⟨s1, y, e, hf⟩ := mo_bi_ok hf
  exact mb_344_26 (d := d + 0) hh  (mr_77 (d := d + 0) hh e (mr_344_33 hh hrc0 hf k))
def mf_344_22 (N : Nat) (rc : Nat → Int32 → Int32 → Int32 → Int32 → mS → mO) (x1 : Int32) (x2 : Int32) (x3 : Int32) (x4 : Int32) (s : mS) : mO := if x3 = 0 then mf_344_73 N x3 s else mf_344_26 N rc x1 x2 x3 x4 s
theorem mr_344_22 {X : Nat → Option zz_C} {h : zz_H} (hh : 111 ≤ h.length) {d : Nat} {N : Nat} {rc : Nat → Int32 → Int32 → Int32 → Int32 → mS → mO} (hrc0 : ∀ {Q : Option Value → zz_H → Prop} {x1 : Int32} {x2 : Int32} {x3 : Int32} {x4 : Int32} {s s' : mS} {v : Option Value}, rc 0 x1 x2 x3 x4 s = some (s', v) → Q v (mH h s') → zz_E zp_P zt_tf zt_fd X (d + 1) zm_344 22 [(0, .ref 61), (1, .int x1), (2, .int x2), (3, .int x3), (4, .int x4)] [] (mH h s) Q) {Q : Option Value → zz_H → Prop} {x1 : Int32} {x2 : Int32} {x3 : Int32} {x4 : Int32} {s s' : mS} {v : Option Value} (hf : mf_344_22 N rc x1 x2 x3 x4 s = some (s', v)) (k : Q v (mH h s')) : zz_E zp_P zt_tf zt_fd X (d + 1) zm_344 22 [(0, .ref 61), (1, .int x1), (2, .int x2), (3, .int x3), (4, .int x4)] [] (mH h s) Q := by
  unfold mf_344_22 at hf
  refine mb_344_22 hh  (fun c => ?_) (fun c => ?_)
  · rw [if_pos c] at hf
    exact mr_344_73 hh hf k
  · rw [if_neg c] at hf
    exact mr_344_26 hh hrc0 hf k
def mf_344_L1 (N : Nat) : Nat → Nat → Int32 → Int32 → Int32 → Int32 → mS → mO
  | 0, _, _, _, _, _, _ => none
  | n + 1, l, x1, x2, x3, x4, s => if l = 0 then mf_344_22 N (mf_344_L1 N n) x1 x2 x3 x4 s else none
theorem mr_344_L1 {X : Nat → Option zz_C} {h : zz_H} (hh : 111 ≤ h.length) {d : Nat} {N : Nat} : ∀ n : Nat, (∀ {Q : Option Value → zz_H → Prop} {x1 : Int32} {x2 : Int32} {x3 : Int32} {x4 : Int32} {s s' : mS} {v : Option Value}, mf_344_L1 N n 0 x1 x2 x3 x4 s = some (s', v) → Q v (mH h s') → zz_E zp_P zt_tf zt_fd X (d + 1) zm_344 22 [(0, .ref 61), (1, .int x1), (2, .int x2), (3, .int x3), (4, .int x4)] [] (mH h s) Q) := by
  intro n
  induction n with
  | zero => exact (fun hf _ => by cases hf)
  | succ n ih =>
    have h0 := @ih
    intro Q _ _ _ _ s s' v hf k
    unfold mf_344_L1 at hf
    rw [if_pos rfl] at hf
    exact mr_344_22 hh h0 hf k
def mf_344_18 (N : Nat) (x1 : Int32) (x2 : Int32) (y0 : Int32) (s : mS) : mO := mf_344_L1 N N 0 x1 x2 y0 0 s
theorem mr_344_18 {X : Nat → Option zz_C} {h : zz_H} (hh : 111 ≤ h.length) {d : Nat} {N : Nat} {Q : Option Value → zz_H → Prop} {x1 : Int32} {x2 : Int32} {y0 : Int32} {s s' : mS} {v : Option Value} (hf : mf_344_18 N x1 x2 y0 s = some (s', v)) (k : Q v (mH h s')) : zz_E zp_P zt_tf zt_fd X (d + 1) zm_344 18 [(0, .ref 61), (1, .int x1), (2, .int x2)] [.int y0] (mH h s) Q := by
  unfold mf_344_18 at hf
  exact mb_344_18 hh  (mr_344_L1 hh N hf k)
def mf_344_17 (N : Nat) (x1 : Int32) (x2 : Int32) (s : mS) : mO := mf_344_18 N x1 x2 0 s
theorem mr_344_17 {X : Nat → Option zz_C} {h : zz_H} (hh : 111 ≤ h.length) {d : Nat} {N : Nat} {Q : Option Value → zz_H → Prop} {x1 : Int32} {x2 : Int32} {s s' : mS} {v : Option Value} (hf : mf_344_17 N x1 x2 s = some (s', v)) (k : Q v (mH h s')) : zz_E zp_P zt_tf zt_fd X (d + 1) zm_344 17 [(0, .ref 61), (1, .int x1), (2, .int x2)] [] (mH h s) Q := by
  unfold mf_344_17 at hf
  exact mb_344_17 hh  (mr_344_18 hh hf k)
def mf_344_13 (N : Nat) (x1 : Int32) (x2 : Int32) (s : mS) : mO := mf_344_18 N x1 x2 1 s
theorem mr_344_13 {X : Nat → Option zz_C} {h : zz_H} (hh : 111 ≤ h.length) {d : Nat} {N : Nat} {Q : Option Value → zz_H → Prop} {x1 : Int32} {x2 : Int32} {s s' : mS} {v : Option Value} (hf : mf_344_13 N x1 x2 s = some (s', v)) (k : Q v (mH h s')) : zz_E zp_P zt_tf zt_fd X (d + 1) zm_344 13 [(0, .ref 61), (1, .int x1), (2, .int x2)] [] (mH h s) Q := by
  unfold mf_344_13 at hf
  exact mb_344_13 hh  (mr_344_18 hh hf k)
def mf_344_10 (N : Nat) (x1 : Int32) (x2 : Int32) (y0 : Int32) (y1 : Int32) (s : mS) : mO := if ¬ y0 = y1 then mf_344_17 N x1 x2 s else mf_344_13 N x1 x2 s
theorem mr_344_10 {X : Nat → Option zz_C} {h : zz_H} (hh : 111 ≤ h.length) {d : Nat} {N : Nat} {Q : Option Value → zz_H → Prop} {x1 : Int32} {x2 : Int32} {y0 : Int32} {y1 : Int32} {s s' : mS} {v : Option Value} (hf : mf_344_10 N x1 x2 y0 y1 s = some (s', v)) (k : Q v (mH h s')) : zz_E zp_P zt_tf zt_fd X (d + 1) zm_344 10 [(0, .ref 61), (1, .int x1), (2, .int x2)] [.int y1, .int y0] (mH h s) Q := by
  unfold mf_344_10 at hf
  refine mb_344_10 hh  (fun c => ?_) (fun c => ?_)
  · rw [if_pos c] at hf
    exact mr_344_17 hh hf k
  · rw [if_neg c] at hf
    exact mr_344_13 hh hf k
def mf_344_5 (N : Nat) (x1 : Int32) (x2 : Int32) (y0 : Int32) (s : mS) : mO := mo_bi (mf_77 N x2 s) (fun s1 y => mf_344_10 N x1 x2 y0 y s1)
theorem mr_344_5 {X : Nat → Option zz_C} {h : zz_H} (hh : 111 ≤ h.length) {d : Nat} {N : Nat} {Q : Option Value → zz_H → Prop} {x1 : Int32} {x2 : Int32} {y0 : Int32} {s s' : mS} {v : Option Value} (hf : mf_344_5 N x1 x2 y0 s = some (s', v)) (k : Q v (mH h s')) : zz_E zp_P zt_tf zt_fd X (d + 1) zm_344 5 [(0, .ref 61), (1, .int x1), (2, .int x2)] [.int y0] (mH h s) Q := by
  unfold mf_344_5 at hf
  obtain ⟨s1, y, e, hf⟩ := mo_bi_ok hf
  exact mb_344_5 (d := d + 0) hh  (mr_77 (d := d + 0) hh e (mr_344_10 hh hf k))
def mf_344_0 (N : Nat) (x1 : Int32) (x2 : Int32) (s : mS) : mO := mo_bi (mf_77 N x1 s) (fun s1 y => mf_344_5 N x1 x2 y s1)
theorem mr_344_0 {X : Nat → Option zz_C} {h : zz_H} (hh : 111 ≤ h.length) {d : Nat} {N : Nat} {Q : Option Value → zz_H → Prop} {x1 : Int32} {x2 : Int32} {s s' : mS} {v : Option Value} (hf : mf_344_0 N x1 x2 s = some (s', v)) (k : Q v (mH h s')) : zz_E zp_P zt_tf zt_fd X (d + 1) zm_344 0 [(0, .ref 61), (1, .int x1), (2, .int x2)] [] (mH h s) Q := by
  unfold mf_344_0 at hf
  obtain ⟨s1, y, e, hf⟩ := mo_bi_ok hf
  exact mb_344_0 (d := d + 0) hh  (mr_77 (d := d + 0) hh e (mr_344_5 hh hf k))
/-- areSameRows -/
def mf_344 (N : Nat) (x1 : Int32) (x2 : Int32) (s : mS) : mO := mf_344_0 N x1 x2 s
theorem mr_344 {X : Nat → Option zz_C} {h : zz_H} (hh : 111 ≤ h.length) {d : Nat} {N : Nat} {Q : Option Value → zz_H → Prop} {x1 : Int32} {x2 : Int32} {s s' : mS} {v : Option Value} (hf : mf_344 N x1 x2 s = some (s', v)) (k : Q v (mH h s')) : zz_E zp_P zt_tf zt_fd X (d + 1) zm_344 0 [(0, .ref 61), (1, .int x1), (2, .int x2)] [] (mH h s) Q := by
  unfold mf_344 at hf
  exact zz_E.weak (mr_344_0 hh hf k) rfl ⟨rfl, rfl, rfl, trivial⟩
