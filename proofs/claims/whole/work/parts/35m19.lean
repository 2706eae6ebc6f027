/-! ofOneThing (III)V -/
theorem mb_333_0 {X : Nat → Option zz_C} {h : zz_H} (hh : 111 ≤ h.length) {s : mS} {d : Nat} {Q : Option Value → zz_H → Prop} {x1 : Int32} {x2 : Int32} {x3 : Int32} (k : zz_E zp_P zt_tf zt_fd X d zm_292 0 [(0, .ref 61), (1, .int x3)] [] (mH h s) (fun v h' => zz_E zp_P zt_tf zt_fd X (d + 1) zm_333 5 [(0, .ref 61), (1, .int x1), (2, .int x2), (3, .int x3)] (v.toList ++ []) h' Q)) : zz_E zp_P zt_tf zt_fd X (d + 1) zm_333 0 [(0, .ref 61), (1, .int x1), (2, .int x2), (3, .int x3)] [] (mH h s) Q := by
  refine zz_E.n 1 rfl rfl rfl ?_
  refine zz_E.n 2 rfl rfl rfl ?_
  refine mE_cv hh 5 (as := []) rfl rfl (Nat.le_of_ble_eq_true rfl) (Nat.le_of_ble_eq_true rfl) rfl (Nat.le_of_ble_eq_true rfl) rfl ?_
  refine zz_E.mono k ?_
  intro v h' hE
  exact zz_E.weak hE rfl ⟨rfl, rfl, rfl, rfl, trivial⟩
theorem mb_333_5 {X : Nat → Option zz_C} {h : zz_H} (hh : 111 ≤ h.length) {s : mS} {d : Nat} {Q : Option Value → zz_H → Prop} {x1 : Int32} {x2 : Int32} {x3 : Int32} {y0 : Int32} (k1 : ¬ x1 = 6 → zz_E zp_P zt_tf zt_fd X d zm_333 31 [(0, .ref 61), (1, .int x1), (2, .int x2), (3, .int x3), (4, .int y0)] [] (mH h (mI s 51 x3)) Q) (k2 : ¬ ¬ x1 = 6 → zz_E zp_P zt_tf zt_fd X d zm_333 18 [(0, .ref 61), (2, .int x2)] [] (mH h (mI s 51 x3)) Q) : zz_E zp_P zt_tf zt_fd X d zm_333 5 [(0, .ref 61), (1, .int x1), (2, .int x2), (3, .int x3)] [.int y0] (mH h s) Q := by
  refine zz_E.n 7 rfl rfl rfl ?_
  refine zz_E.n 8 rfl rfl rfl ?_
  refine zz_E.n 9 rfl rfl rfl ?_
  refine mE_p hh 12 rfl (by decide) rfl (mF_51 _ _) rfl ?_
  refine zz_E.n 13 rfl rfl rfl ?_
  refine zz_E.c 15 (.int 6) rfl rfl rfl rfl ?_
  refine zz_E.b2 31 18 (A := ¬ x1 = 6) rfl (zz_cond_ne _ _) (by decide) rfl rfl (fun c => ?_) (fun c => ?_)
  · exact zz_E.weak (k1 c) rfl ⟨rfl, rfl, rfl, rfl, rfl, trivial⟩
  · exact zz_E.weak (k2 c) rfl ⟨rfl, rfl, trivial⟩
theorem mb_333_18 {X : Nat → Option zz_C} {h : zz_H} (hh : 111 ≤ h.length) {s : mS} {d : Nat} {Q : Option Value → zz_H → Prop} {x2 : Int32} (k : zz_E zp_P zt_tf zt_fd X d zm_77 0 [(0, .ref 61), (1, .int x2)] [] (mH h s) (fun v h' => zz_E zp_P zt_tf zt_fd X (d + 1) zm_333 25 [] (v.toList ++ [.int 0, .ref 61]) h' Q)) : zz_E zp_P zt_tf zt_fd X (d + 1) zm_333 18 [(0, .ref 61), (2, .int x2)] [] (mH h s) Q := by
  refine zz_E.n 19 rfl rfl rfl ?_
  refine zz_E.c 20 (.int 0) rfl rfl rfl rfl ?_
  refine zz_E.n 21 rfl rfl rfl ?_
  refine zz_E.n 22 rfl rfl rfl ?_
  refine mE_cv hh 25 (as := [.int 0, .ref 61]) rfl rfl (Nat.le_of_ble_eq_true rfl) (Nat.le_of_ble_eq_true rfl) rfl (Nat.le_of_ble_eq_true rfl) rfl ?_
  refine zz_E.mono k ?_
  intro v h' hE
  exact zz_E.weak hE rfl trivial
theorem mb_333_25 {X : Nat → Option zz_C} {h : zz_H} (hh : 111 ≤ h.length) {s : mS} {d : Nat} {Q : Option Value → zz_H → Prop} {y1 : Int32} {y2 : Int32} (k : zz_E zp_P zt_tf zt_fd X d zm_291 0 [(0, .ref 61), (1, .int y1), (2, .int y2)] [] (mH h s) (fun v h' => zz_E zp_P zt_tf zt_fd X (d + 1) zm_333 28 [] (v.toList ++ []) h' Q)) : zz_E zp_P zt_tf zt_fd X (d + 1) zm_333 25 [] [.int y2, .int y1, .ref 61] (mH h s) Q := by
  refine mE_cv hh 28 (as := []) rfl rfl (Nat.le_of_ble_eq_true rfl) (Nat.le_of_ble_eq_true rfl) rfl (Nat.le_of_ble_eq_true rfl) rfl ?_
  refine zz_E.mono k ?_
  intro v h' hE
  exact zz_E.weak hE rfl trivial
theorem mb_333_28 {X : Nat → Option zz_C} {h : zz_H} (hh : 111 ≤ h.length) {s : mS} {d : Nat} {Q : Option Value → zz_H → Prop}  (k : zz_E zp_P zt_tf zt_fd X d zm_333 289 [] [] (mH h s) Q) : zz_E zp_P zt_tf zt_fd X d zm_333 28 [] [] (mH h s) Q := by
  refine zz_E.n 289 rfl rfl rfl ?_
  exact zz_E.weak k rfl trivial
theorem mb_333_31 {X : Nat → Option zz_C} {h : zz_H} (hh : 111 ≤ h.length) {s : mS} {d : Nat} {Q : Option Value → zz_H → Prop} {x1 : Int32} {x2 : Int32} {x3 : Int32} {x4 : Int32} (k1 : ¬ x1 = 8 → zz_E zp_P zt_tf zt_fd X d zm_333 47 [(0, .ref 61), (1, .int x1), (2, .int x2), (3, .int x3), (4, .int x4)] [] (mH h s) Q) (k2 : ¬ ¬ x1 = 8 → zz_E zp_P zt_tf zt_fd X d zm_333 37 [(0, .ref 61), (4, .int x4)] [] (mH h s) Q) : zz_E zp_P zt_tf zt_fd X d zm_333 31 [(0, .ref 61), (1, .int x1), (2, .int x2), (3, .int x3), (4, .int x4)] [] (mH h s) Q := by
  refine zz_E.n 32 rfl rfl rfl ?_
  refine zz_E.c 34 (.int 8) rfl rfl rfl rfl ?_
  refine zz_E.b2 47 37 (A := ¬ x1 = 8) rfl (zz_cond_ne _ _) (by decide) rfl rfl (fun c => ?_) (fun c => ?_)
  · exact zz_E.weak (k1 c) rfl ⟨rfl, rfl, rfl, rfl, rfl, trivial⟩
  · exact zz_E.weak (k2 c) rfl ⟨rfl, rfl, trivial⟩
theorem mb_333_37 {X : Nat → Option zz_C} {h : zz_H} (hh : 111 ≤ h.length) {s : mS} {d : Nat} {Q : Option Value → zz_H → Prop} {x4 : Int32} (k : zz_E zp_P zt_tf zt_fd X d zm_291 0 [(0, .ref 61), (1, .int 0), (2, .int x4)] [] (mH h s) (fun v h' => zz_E zp_P zt_tf zt_fd X (d + 1) zm_333 44 [] (v.toList ++ []) h' Q)) : zz_E zp_P zt_tf zt_fd X (d + 1) zm_333 37 [(0, .ref 61), (4, .int x4)] [] (mH h s) Q := by
  refine zz_E.n 38 rfl rfl rfl ?_
  refine zz_E.c 39 (.int 0) rfl rfl rfl rfl ?_
  refine zz_E.n 41 rfl rfl rfl ?_
  refine mE_cv hh 44 (as := []) rfl rfl (Nat.le_of_ble_eq_true rfl) (Nat.le_of_ble_eq_true rfl) rfl (Nat.le_of_ble_eq_true rfl) rfl ?_
  refine zz_E.mono k ?_
  intro v h' hE
  exact zz_E.weak hE rfl trivial
theorem mb_333_44 {X : Nat → Option zz_C} {h : zz_H} (hh : 111 ≤ h.length) {s : mS} {d : Nat} {Q : Option Value → zz_H → Prop}  (k : zz_E zp_P zt_tf zt_fd X d zm_333 289 [] [] (mH h s) Q) : zz_E zp_P zt_tf zt_fd X d zm_333 44 [] [] (mH h s) Q := by
  refine zz_E.n 289 rfl rfl rfl ?_
  exact zz_E.weak k rfl trivial
theorem mb_333_47 {X : Nat → Option zz_C} {h : zz_H} (hh : 111 ≤ h.length) {s : mS} {d : Nat} {Q : Option Value → zz_H → Prop} {x1 : Int32} {x2 : Int32} {x3 : Int32} {x4 : Int32} (k1 : ¬ x1 = 7 → zz_E zp_P zt_tf zt_fd X d zm_333 97 [(0, .ref 61), (1, .int x1), (2, .int x2), (3, .int x3), (4, .int x4)] [] (mH h s) Q) (k2 : ¬ ¬ x1 = 7 → zz_E zp_P zt_tf zt_fd X d zm_333 53 [(0, .ref 61), (2, .int x2), (3, .int x3)] [] (mH h s) Q) : zz_E zp_P zt_tf zt_fd X d zm_333 47 [(0, .ref 61), (1, .int x1), (2, .int x2), (3, .int x3), (4, .int x4)] [] (mH h s) Q := by
  refine zz_E.n 48 rfl rfl rfl ?_
  refine zz_E.c 50 (.int 7) rfl rfl rfl rfl ?_
  refine zz_E.b2 97 53 (A := ¬ x1 = 7) rfl (zz_cond_ne _ _) (by decide) rfl rfl (fun c => ?_) (fun c => ?_)
  · exact zz_E.weak (k1 c) rfl ⟨rfl, rfl, rfl, rfl, rfl, trivial⟩
  · exact zz_E.weak (k2 c) rfl ⟨rfl, rfl, rfl, trivial⟩
theorem mb_333_53 {X : Nat → Option zz_C} {h : zz_H} (hh : 111 ≤ h.length) {s : mS} {d : Nat} {Q : Option Value → zz_H → Prop} {x2 : Int32} {x3 : Int32} (k : zz_E zp_P zt_tf zt_fd X d zm_333 56 [(0, .ref 61), (2, .int x2), (3, .int x3), (5, .int 0)] [] (mH h s) Q) : zz_E zp_P zt_tf zt_fd X d zm_333 53 [(0, .ref 61), (2, .int x2), (3, .int x3)] [] (mH h s) Q := by
  refine zz_E.c 54 (.int 0) rfl rfl rfl rfl ?_
  refine zz_E.n 56 rfl rfl rfl ?_
  exact zz_E.weak k rfl ⟨rfl, rfl, rfl, rfl, trivial⟩
theorem mb_333_56 {X : Nat → Option zz_C} {h : zz_H} (hh : 111 ≤ h.length) {s : mS} {d : Nat} {Q : Option Value → zz_H → Prop} {x2 : Int32} {x3 : Int32} {x5 : Int32} (k : zz_E zp_P zt_tf zt_fd X d zm_77 0 [(0, .ref 61), (1, .int x2)] [] (mH h s) (fun v h' => zz_E zp_P zt_tf zt_fd X (d + 1) zm_333 63 [(0, .ref 61), (2, .int x2), (3, .int x3), (5, .int x5)] (v.toList ++ [.int x5]) h' Q)) : zz_E zp_P zt_tf zt_fd X (d + 1) zm_333 56 [(0, .ref 61), (2, .int x2), (3, .int x3), (5, .int x5)] [] (mH h s) Q := by
  refine zz_E.n 58 rfl rfl rfl ?_
  refine zz_E.n 59 rfl rfl rfl ?_
  refine zz_E.n 60 rfl rfl rfl ?_
  refine mE_cv hh 63 (as := [.int x5]) rfl rfl (Nat.le_of_ble_eq_true rfl) (Nat.le_of_ble_eq_true rfl) rfl (Nat.le_of_ble_eq_true rfl) rfl ?_
  refine zz_E.mono k ?_
  intro v h' hE
  exact zz_E.weak hE rfl ⟨rfl, rfl, rfl, rfl, trivial⟩
theorem mb_333_63 {X : Nat → Option zz_C} {h : zz_H} (hh : 111 ≤ h.length) {s : mS} {d : Nat} {Q : Option Value → zz_H → Prop} {x2 : Int32} {x3 : Int32} {x5 : Int32} {y0 : Int32} {y1 : Int32} (k1 : y1 ≤ y0 → zz_E zp_P zt_tf zt_fd X d zm_333 88 [(0, .ref 61), (3, .int x3)] [] (mH h s) Q) (k2 : ¬ y1 ≤ y0 → zz_E zp_P zt_tf zt_fd X d zm_333 66 [(0, .ref 61), (2, .int x2), (3, .int x3), (5, .int x5)] [] (mH h s) Q) : zz_E zp_P zt_tf zt_fd X d zm_333 63 [(0, .ref 61), (2, .int x2), (3, .int x3), (5, .int x5)] [.int y1, .int y0] (mH h s) Q := by
  refine zz_E.b2 88 66 (A := y1 ≤ y0) rfl rfl (by decide) rfl rfl (fun c => ?_) (fun c => ?_)
  · exact zz_E.weak (k1 c) rfl ⟨rfl, rfl, trivial⟩
  · exact zz_E.weak (k2 c) rfl ⟨rfl, rfl, rfl, rfl, trivial⟩
theorem mb_333_66 {X : Nat → Option zz_C} {h : zz_H} (hh : 111 ≤ h.length) {s : mS} {d : Nat} {Q : Option Value → zz_H → Prop} {x2 : Int32} {x3 : Int32} {x5 : Int32} (k : zz_E zp_P zt_tf zt_fd X d zm_294 0 [(0, .ref 61), (1, .int x2), (2, .int x5)] [] (mH h s) (fun v h' => zz_E zp_P zt_tf zt_fd X (d + 1) zm_333 76 [(0, .ref 61), (2, .int x2), (3, .int x3), (5, .int x5)] (v.toList ++ [.ref 61, .int 0, .ref 61]) h' Q)) : zz_E zp_P zt_tf zt_fd X (d + 1) zm_333 66 [(0, .ref 61), (2, .int x2), (3, .int x3), (5, .int x5)] [] (mH h s) Q := by
  refine zz_E.n 67 rfl rfl rfl ?_
  refine zz_E.c 68 (.int 0) rfl rfl rfl rfl ?_
  refine zz_E.n 69 rfl rfl rfl ?_
  refine zz_E.n 70 rfl rfl rfl ?_
  refine zz_E.n 71 rfl rfl rfl ?_
  refine zz_E.n 73 rfl rfl rfl ?_
  refine mE_cv hh 76 (as := [.ref 61, .int 0, .ref 61]) rfl rfl (Nat.le_of_ble_eq_true rfl) (Nat.le_of_ble_eq_true rfl) rfl (Nat.le_of_ble_eq_true rfl) rfl ?_
  refine zz_E.mono k ?_
  intro v h' hE
  exact zz_E.weak hE rfl ⟨rfl, rfl, rfl, rfl, trivial⟩
theorem mb_333_76 {X : Nat → Option zz_C} {h : zz_H} (hh : 111 ≤ h.length) {s : mS} {d : Nat} {Q : Option Value → zz_H → Prop} {x2 : Int32} {x3 : Int32} {x5 : Int32} {y1 : Int32} {y3 : Int32} (k : zz_E zp_P zt_tf zt_fd X d zm_77 0 [(0, .ref 61), (1, .int y3)] [] (mH h s) (fun v h' => zz_E zp_P zt_tf zt_fd X (d + 1) zm_333 79 [(0, .ref 61), (2, .int x2), (3, .int x3), (5, .int x5)] (v.toList ++ [.int y1, .ref 61]) h' Q)) : zz_E zp_P zt_tf zt_fd X (d + 1) zm_333 76 [(0, .ref 61), (2, .int x2), (3, .int x3), (5, .int x5)] [.int y3, .ref 61, .int y1, .ref 61] (mH h s) Q := by
  refine mE_cv hh 79 (as := [.int y1, .ref 61]) rfl rfl (Nat.le_of_ble_eq_true rfl) (Nat.le_of_ble_eq_true rfl) rfl (Nat.le_of_ble_eq_true rfl) rfl ?_
  refine zz_E.mono k ?_
  intro v h' hE
  exact zz_E.weak hE rfl ⟨rfl, rfl, rfl, rfl, trivial⟩
theorem mb_333_79 {X : Nat → Option zz_C} {h : zz_H} (hh : 111 ≤ h.length) {s : mS} {d : Nat} {Q : Option Value → zz_H → Prop} {x2 : Int32} {x3 : Int32} {x5 : Int32} {y1 : Int32} {y2 : Int32} (k : zz_E zp_P zt_tf zt_fd X d zm_291 0 [(0, .ref 61), (1, .int y1), (2, .int y2)] [] (mH h s) (fun v h' => zz_E zp_P zt_tf zt_fd X (d + 1) zm_333 82 [(0, .ref 61), (2, .int x2), (3, .int x3), (5, .int x5)] (v.toList ++ []) h' Q)) : zz_E zp_P zt_tf zt_fd X (d + 1) zm_333 79 [(0, .ref 61), (2, .int x2), (3, .int x3), (5, .int x5)] [.int y2, .int y1, .ref 61] (mH h s) Q := by
  refine mE_cv hh 82 (as := []) rfl rfl (Nat.le_of_ble_eq_true rfl) (Nat.le_of_ble_eq_true rfl) rfl (Nat.le_of_ble_eq_true rfl) rfl ?_
  refine zz_E.mono k ?_
  intro v h' hE
  exact zz_E.weak hE rfl ⟨rfl, rfl, rfl, rfl, trivial⟩
theorem mb_333_82 {X : Nat → Option zz_C} {h : zz_H} (hh : 111 ≤ h.length) {s : mS} {d : Nat} {Q : Option Value → zz_H → Prop} {x2 : Int32} {x3 : Int32} {x5 : Int32} (k : zz_E zp_P zt_tf zt_fd X d zm_333 56 [(0, .ref 61), (2, .int x2), (3, .int x3), (5, .int (x5 + 1))] [] (mH h s) Q) : zz_E zp_P zt_tf zt_fd X d zm_333 82 [(0, .ref 61), (2, .int x2), (3, .int x3), (5, .int x5)] [] (mH h s) Q := by
  refine zz_E.n 85 rfl rfl rfl ?_
  refine zz_E.n 56 rfl rfl rfl ?_
  exact zz_E.weak k rfl ⟨rfl, rfl, rfl, rfl, trivial⟩
theorem mb_333_88 {X : Nat → Option zz_C} {h : zz_H} (hh : 111 ≤ h.length) {s : mS} {d : Nat} {Q : Option Value → zz_H → Prop} {x3 : Int32} (k : zz_E zp_P zt_tf zt_fd X d zm_305 0 [(0, .ref 61), (1, .int 1), (2, .int x3)] [] (mH h s) (fun v h' => zz_E zp_P zt_tf zt_fd X (d + 1) zm_333 94 [] (v.toList ++ []) h' Q)) : zz_E zp_P zt_tf zt_fd X (d + 1) zm_333 88 [(0, .ref 61), (3, .int x3)] [] (mH h s) Q := by
  refine zz_E.n 89 rfl rfl rfl ?_
  refine zz_E.c 90 (.int 1) rfl rfl rfl rfl ?_
  refine zz_E.n 91 rfl rfl rfl ?_
  refine mE_cv hh 94 (as := []) rfl rfl (Nat.le_of_ble_eq_true rfl) (Nat.le_of_ble_eq_true rfl) rfl (Nat.le_of_ble_eq_true rfl) rfl ?_
  refine zz_E.mono k ?_
  intro v h' hE
  exact zz_E.weak hE rfl trivial
theorem mb_333_94 {X : Nat → Option zz_C} {h : zz_H} (hh : 111 ≤ h.length) {s : mS} {d : Nat} {Q : Option Value → zz_H → Prop}  (k : zz_E zp_P zt_tf zt_fd X d zm_333 289 [] [] (mH h s) Q) : zz_E zp_P zt_tf zt_fd X d zm_333 94 [] [] (mH h s) Q := by
  refine zz_E.n 289 rfl rfl rfl ?_
  exact zz_E.weak k rfl trivial
theorem mb_333_97 {X : Nat → Option zz_C} {h : zz_H} (hh : 111 ≤ h.length) {s : mS} {d : Nat} {Q : Option Value → zz_H → Prop} {x1 : Int32} {x2 : Int32} {x3 : Int32} {x4 : Int32} (k1 : ¬ x1 = 15 → zz_E zp_P zt_tf zt_fd X d zm_333 140 [(0, .ref 61), (1, .int x1), (2, .int x2), (3, .int x3), (4, .int x4)] [] (mH h s) Q) (k2 : ¬ ¬ x1 = 15 → zz_E zp_P zt_tf zt_fd X d zm_333 103 [(0, .ref 61), (2, .int x2), (3, .int x3), (4, .int x4)] [] (mH h s) Q) : zz_E zp_P zt_tf zt_fd X d zm_333 97 [(0, .ref 61), (1, .int x1), (2, .int x2), (3, .int x3), (4, .int x4)] [] (mH h s) Q := by
  refine zz_E.n 98 rfl rfl rfl ?_
  refine zz_E.c 100 (.int 15) rfl rfl rfl rfl ?_
  refine zz_E.b2 140 103 (A := ¬ x1 = 15) rfl (zz_cond_ne _ _) (by decide) rfl rfl (fun c => ?_) (fun c => ?_)
  · exact zz_E.weak (k1 c) rfl ⟨rfl, rfl, rfl, rfl, rfl, trivial⟩
  · exact zz_E.weak (k2 c) rfl ⟨rfl, rfl, rfl, rfl, trivial⟩
theorem mb_333_103 {X : Nat → Option zz_C} {h : zz_H} (hh : 111 ≤ h.length) {s : mS} {d : Nat} {Q : Option Value → zz_H → Prop} {x2 : Int32} {x3 : Int32} {x4 : Int32} (k : zz_E zp_P zt_tf zt_fd X d zm_77 0 [(0, .ref 61), (1, .int x2)] [] (mH h s) (fun v h' => zz_E zp_P zt_tf zt_fd X (d + 1) zm_333 108 [(0, .ref 61), (2, .int x2), (3, .int x3), (4, .int x4)] (v.toList ++ []) h' Q)) : zz_E zp_P zt_tf zt_fd X (d + 1) zm_333 103 [(0, .ref 61), (2, .int x2), (3, .int x3), (4, .int x4)] [] (mH h s) Q := by
  refine zz_E.n 104 rfl rfl rfl ?_
  refine zz_E.n 105 rfl rfl rfl ?_
  refine mE_cv hh 108 (as := []) rfl rfl (Nat.le_of_ble_eq_true rfl) (Nat.le_of_ble_eq_true rfl) rfl (Nat.le_of_ble_eq_true rfl) rfl ?_
  refine zz_E.mono k ?_
  intro v h' hE
  exact zz_E.weak hE rfl ⟨rfl, rfl, rfl, rfl, trivial⟩
theorem mb_333_108 {X : Nat → Option zz_C} {h : zz_H} (hh : 111 ≤ h.length) {s : mS} {d : Nat} {Q : Option Value → zz_H → Prop} {x2 : Int32} {x3 : Int32} {x4 : Int32} {y0 : Int32} (k : zz_E zp_P zt_tf zt_fd X d zm_333 112 [(0, .ref 61), (2, .int x2), (3, .int x3), (4, .int x4), (5, .int (y0 - 1))] [] (mH h s) Q) : zz_E zp_P zt_tf zt_fd X d zm_333 108 [(0, .ref 61), (2, .int x2), (3, .int x3), (4, .int x4)] [.int y0] (mH h s) Q := by
  refine zz_E.c 109 (.int 1) rfl rfl rfl rfl ?_
  refine zz_E.n 110 rfl rfl rfl ?_
  refine zz_E.n 112 rfl rfl rfl ?_
  exact zz_E.weak k rfl ⟨rfl, rfl, rfl, rfl, rfl, trivial⟩
theorem mb_333_112 {X : Nat → Option zz_C} {h : zz_H} (hh : 111 ≤ h.length) {s : mS} {d : Nat} {Q : Option Value → zz_H → Prop} {x2 : Int32} {x3 : Int32} {x4 : Int32} {x5 : Int32} (k1 : x5 < 0 → zz_E zp_P zt_tf zt_fd X d zm_333 130 [(0, .ref 61), (3, .int x3), (4, .int x4)] [] (mH h s) Q) (k2 : ¬ x5 < 0 → zz_E zp_P zt_tf zt_fd X d zm_333 117 [(0, .ref 61), (2, .int x2), (3, .int x3), (4, .int x4), (5, .int x5)] [] (mH h s) Q) : zz_E zp_P zt_tf zt_fd X d zm_333 112 [(0, .ref 61), (2, .int x2), (3, .int x3), (4, .int x4), (5, .int x5)] [] (mH h s) Q := by
  refine zz_E.n 114 rfl rfl rfl ?_
  refine zz_E.b1 130 117 (A := x5 < 0) rfl rfl (by decide) rfl rfl (fun c => ?_) (fun c => ?_)
  · exact zz_E.weak (k1 c) rfl ⟨rfl, rfl, rfl, trivial⟩
  · exact zz_E.weak (k2 c) rfl ⟨rfl, rfl, rfl, rfl, rfl, trivial⟩
theorem mb_333_117 {X : Nat → Option zz_C} {h : zz_H} (hh : 111 ≤ h.length) {s : mS} {d : Nat} {Q : Option Value → zz_H → Prop} {x2 : Int32} {x3 : Int32} {x4 : Int32} {x5 : Int32} (k : zz_E zp_P zt_tf zt_fd X d zm_295 0 [(0, .ref 61), (1, .int x2), (2, .int x5)] [] (mH h s) (fun v h' => zz_E zp_P zt_tf zt_fd X (d + 1) zm_333 124 [(0, .ref 61), (2, .int x2), (3, .int x3), (4, .int x4), (5, .int x5)] (v.toList ++ []) h' Q)) : zz_E zp_P zt_tf zt_fd X (d + 1) zm_333 117 [(0, .ref 61), (2, .int x2), (3, .int x3), (4, .int x4), (5, .int x5)] [] (mH h s) Q := by
  refine zz_E.n 118 rfl rfl rfl ?_
  refine zz_E.n 119 rfl rfl rfl ?_
  refine zz_E.n 121 rfl rfl rfl ?_
  refine mE_cv hh 124 (as := []) rfl rfl (Nat.le_of_ble_eq_true rfl) (Nat.le_of_ble_eq_true rfl) rfl (Nat.le_of_ble_eq_true rfl) rfl ?_
  refine zz_E.mono k ?_
  intro v h' hE
  exact zz_E.weak hE rfl ⟨rfl, rfl, rfl, rfl, rfl, trivial⟩
theorem mb_333_124 {X : Nat → Option zz_C} {h : zz_H} (hh : 111 ≤ h.length) {s : mS} {d : Nat} {Q : Option Value → zz_H → Prop} {x2 : Int32} {x3 : Int32} {x4 : Int32} {x5 : Int32} (k : zz_E zp_P zt_tf zt_fd X d zm_333 112 [(0, .ref 61), (2, .int x2), (3, .int x3), (4, .int x4), (5, .int (x5 + (-1)))] [] (mH h s) Q) : zz_E zp_P zt_tf zt_fd X d zm_333 124 [(0, .ref 61), (2, .int x2), (3, .int x3), (4, .int x4), (5, .int x5)] [] (mH h s) Q := by
  refine zz_E.n 127 rfl rfl rfl ?_
  refine zz_E.n 112 rfl rfl rfl ?_
  exact zz_E.weak k rfl ⟨rfl, rfl, rfl, rfl, rfl, trivial⟩
theorem mb_333_130 {X : Nat → Option zz_C} {h : zz_H} (hh : 111 ≤ h.length) {s : mS} {d : Nat} {Q : Option Value → zz_H → Prop} {x3 : Int32} {x4 : Int32} (k : zz_E zp_P zt_tf zt_fd X d zm_305 0 [(0, .ref 61), (1, .int x4), (2, .int x3)] [] (mH h s) (fun v h' => zz_E zp_P zt_tf zt_fd X (d + 1) zm_333 137 [] (v.toList ++ []) h' Q)) : zz_E zp_P zt_tf zt_fd X (d + 1) zm_333 130 [(0, .ref 61), (3, .int x3), (4, .int x4)] [] (mH h s) Q := by
  refine zz_E.n 131 rfl rfl rfl ?_
  refine zz_E.n 133 rfl rfl rfl ?_
  refine zz_E.n 134 rfl rfl rfl ?_
  refine mE_cv hh 137 (as := []) rfl rfl (Nat.le_of_ble_eq_true rfl) (Nat.le_of_ble_eq_true rfl) rfl (Nat.le_of_ble_eq_true rfl) rfl ?_
  refine zz_E.mono k ?_
  intro v h' hE
  exact zz_E.weak hE rfl trivial
theorem mb_333_137 {X : Nat → Option zz_C} {h : zz_H} (hh : 111 ≤ h.length) {s : mS} {d : Nat} {Q : Option Value → zz_H → Prop}  (k : zz_E zp_P zt_tf zt_fd X d zm_333 289 [] [] (mH h s) Q) : zz_E zp_P zt_tf zt_fd X d zm_333 137 [] [] (mH h s) Q := by
  refine zz_E.n 289 rfl rfl rfl ?_
  exact zz_E.weak k rfl trivial
theorem mb_333_140 {X : Nat → Option zz_C} {h : zz_H} (hh : 111 ≤ h.length) {s : mS} {d : Nat} {Q : Option Value → zz_H → Prop} {x1 : Int32} {x2 : Int32} {x3 : Int32} {x4 : Int32} (k1 : x1 ≤ 11 → zz_E zp_P zt_tf zt_fd X d zm_333 158 [(0, .ref 61), (1, .int x1), (2, .int x2), (3, .int x3), (4, .int x4)] [] (mH h s) Q) (k2 : ¬ x1 ≤ 11 → zz_E zp_P zt_tf zt_fd X d zm_333 146 [(0, .ref 61), (1, .int x1), (2, .int x2), (3, .int x3), (4, .int x4)] [] (mH h s) Q) : zz_E zp_P zt_tf zt_fd X d zm_333 140 [(0, .ref 61), (1, .int x1), (2, .int x2), (3, .int x3), (4, .int x4)] [] (mH h s) Q := by
  refine zz_E.n 141 rfl rfl rfl ?_
  refine zz_E.c 143 (.int 11) rfl rfl rfl rfl ?_
  refine zz_E.b2 158 146 (A := x1 ≤ 11) rfl rfl (by decide) rfl rfl (fun c => ?_) (fun c => ?_)
  · exact zz_E.weak (k1 c) rfl ⟨rfl, rfl, rfl, rfl, rfl, trivial⟩
  · exact zz_E.weak (k2 c) rfl ⟨rfl, rfl, rfl, rfl, rfl, trivial⟩
theorem mb_333_146 {X : Nat → Option zz_C} {h : zz_H} (hh : 111 ≤ h.length) {s : mS} {d : Nat} {Q : Option Value → zz_H → Prop} {x1 : Int32} {x2 : Int32} {x3 : Int32} {x4 : Int32} (k : zz_E zp_P zt_tf zt_fd X d zm_334 0 [(0, .ref 61), (1, .int x1), (2, .int x2), (3, .int x3), (4, .int x4)] [] (mH h s) (fun v h' => zz_E zp_P zt_tf zt_fd X (d + 1) zm_333 155 [] (v.toList ++ []) h' Q)) : zz_E zp_P zt_tf zt_fd X (d + 1) zm_333 146 [(0, .ref 61), (1, .int x1), (2, .int x2), (3, .int x3), (4, .int x4)] [] (mH h s) Q := by
  refine zz_E.n 147 rfl rfl rfl ?_
  refine zz_E.n 148 rfl rfl rfl ?_
  refine zz_E.n 149 rfl rfl rfl ?_
  refine zz_E.n 150 rfl rfl rfl ?_
  refine zz_E.n 152 rfl rfl rfl ?_
  refine mE_cv hh 155 (as := []) rfl rfl (Nat.le_of_ble_eq_true rfl) (Nat.le_of_ble_eq_true rfl) rfl (Nat.le_of_ble_eq_true rfl) rfl ?_
  refine zz_E.mono k ?_
  intro v h' hE
  exact zz_E.weak hE rfl trivial
theorem mb_333_155 {X : Nat → Option zz_C} {h : zz_H} (hh : 111 ≤ h.length) {s : mS} {d : Nat} {Q : Option Value → zz_H → Prop}  (k : zz_E zp_P zt_tf zt_fd X d zm_333 289 [] [] (mH h s) Q) : zz_E zp_P zt_tf zt_fd X d zm_333 155 [] [] (mH h s) Q := by
  refine zz_E.n 289 rfl rfl rfl ?_
  exact zz_E.weak k rfl trivial
theorem mb_333_158 {X : Nat → Option zz_C} {h : zz_H} (hh : 111 ≤ h.length) {s : mS} {d : Nat} {Q : Option Value → zz_H → Prop} {x1 : Int32} {x2 : Int32} {x3 : Int32} {x4 : Int32} (k1 : ¬ x4 = 0 → zz_E zp_P zt_tf zt_fd X d zm_333 172 [(0, .ref 61), (1, .int x1), (2, .int x2), (3, .int x3), (4, .int x4)] [] (mH h s) Q) (k2 : ¬ ¬ x4 = 0 → zz_E zp_P zt_tf zt_fd X d zm_333 163 [(0, .ref 61), (2, .int x2)] [] (mH h s) Q) : zz_E zp_P zt_tf zt_fd X d zm_333 158 [(0, .ref 61), (1, .int x1), (2, .int x2), (3, .int x3), (4, .int x4)] [] (mH h s) Q := by
  refine zz_E.n 160 rfl rfl rfl ?_
  refine zz_E.b1 172 163 (A := ¬ x4 = 0) rfl (zz_cond_ne _ _) (by decide) rfl rfl (fun c => ?_) (fun c => ?_)
  · exact zz_E.weak (k1 c) rfl ⟨rfl, rfl, rfl, rfl, rfl, trivial⟩
  · exact zz_E.weak (k2 c) rfl ⟨rfl, rfl, trivial⟩
theorem mb_333_163 {X : Nat → Option zz_C} {h : zz_H} (hh : 111 ≤ h.length) {s : mS} {d : Nat} {Q : Option Value → zz_H → Prop} {x2 : Int32} (k : zz_E zp_P zt_tf zt_fd X d zm_291 0 [(0, .ref 61), (1, .int 0), (2, .int x2)] [] (mH h s) (fun v h' => zz_E zp_P zt_tf zt_fd X (d + 1) zm_333 169 [] (v.toList ++ []) h' Q)) : zz_E zp_P zt_tf zt_fd X (d + 1) zm_333 163 [(0, .ref 61), (2, .int x2)] [] (mH h s) Q := by
  refine zz_E.n 164 rfl rfl rfl ?_
  refine zz_E.c 165 (.int 0) rfl rfl rfl rfl ?_
  refine zz_E.n 166 rfl rfl rfl ?_
  refine mE_cv hh 169 (as := []) rfl rfl (Nat.le_of_ble_eq_true rfl) (Nat.le_of_ble_eq_true rfl) rfl (Nat.le_of_ble_eq_true rfl) rfl ?_
  refine zz_E.mono k ?_
  intro v h' hE
  exact zz_E.weak hE rfl trivial
theorem mb_333_169 {X : Nat → Option zz_C} {h : zz_H} (hh : 111 ≤ h.length) {s : mS} {d : Nat} {Q : Option Value → zz_H → Prop}  (k : zz_E zp_P zt_tf zt_fd X d zm_333 289 [] [] (mH h s) Q) : zz_E zp_P zt_tf zt_fd X d zm_333 169 [] [] (mH h s) Q := by
  refine zz_E.n 289 rfl rfl rfl ?_
  exact zz_E.weak k rfl trivial
theorem mb_333_172 {X : Nat → Option zz_C} {h : zz_H} (hh : 111 ≤ h.length) {s : mS} {d : Nat} {Q : Option Value → zz_H → Prop} {x1 : Int32} {x2 : Int32} {x3 : Int32} {x4 : Int32} (k1 : ¬ x4 = 1 → zz_E zp_P zt_tf zt_fd X d zm_333 218 [(0, .ref 61), (1, .int x1), (2, .int x2), (3, .int x3)] [] (mH h s) Q) (k2 : ¬ ¬ x4 = 1 → zz_E zp_P zt_tf zt_fd X d zm_333 178 [(0, .ref 61), (1, .int x1), (2, .int x2)] [] (mH h s) Q) : zz_E zp_P zt_tf zt_fd X d zm_333 172 [(0, .ref 61), (1, .int x1), (2, .int x2), (3, .int x3), (4, .int x4)] [] (mH h s) Q := by
  refine zz_E.n 174 rfl rfl rfl ?_
  refine zz_E.c 175 (.int 1) rfl rfl rfl rfl ?_
  refine zz_E.b2 218 178 (A := ¬ x4 = 1) rfl (zz_cond_ne _ _) (by decide) rfl rfl (fun c => ?_) (fun c => ?_)
  · exact zz_E.weak (k1 c) rfl ⟨rfl, rfl, rfl, rfl, trivial⟩
  · exact zz_E.weak (k2 c) rfl ⟨rfl, rfl, rfl, trivial⟩
theorem mb_333_178 {X : Nat → Option zz_C} {h : zz_H} (hh : 111 ≤ h.length) {s : mS} {d : Nat} {Q : Option Value → zz_H → Prop} {x1 : Int32} {x2 : Int32} (k1 : x1 ≤ 9 → zz_E zp_P zt_tf zt_fd X d zm_333 204 [(0, .ref 61), (1, .int x1), (2, .int x2)] [] (mH h s) Q) (k2 : ¬ x1 ≤ 9 → zz_E zp_P zt_tf zt_fd X d zm_333 184 [(0, .ref 61), (1, .int x1), (2, .int x2)] [] (mH h s) Q) : zz_E zp_P zt_tf zt_fd X d zm_333 178 [(0, .ref 61), (1, .int x1), (2, .int x2)] [] (mH h s) Q := by
  refine zz_E.n 179 rfl rfl rfl ?_
  refine zz_E.c 181 (.int 9) rfl rfl rfl rfl ?_
  refine zz_E.b2 204 184 (A := x1 ≤ 9) rfl rfl (by decide) rfl rfl (fun c => ?_) (fun c => ?_)
  · exact zz_E.weak (k1 c) rfl ⟨rfl, rfl, rfl, trivial⟩
  · exact zz_E.weak (k2 c) rfl ⟨rfl, rfl, rfl, trivial⟩
theorem mb_333_184 {X : Nat → Option zz_C} {h : zz_H} (hh : 111 ≤ h.length) {s : mS} {d : Nat} {Q : Option Value → zz_H → Prop} {x1 : Int32} {x2 : Int32} (k : zz_E zp_P zt_tf zt_fd X d zm_77 0 [(0, .ref 61), (1, .int x2)] [] (mH h s) (fun v h' => zz_E zp_P zt_tf zt_fd X (d + 1) zm_333 189 [(0, .ref 61), (1, .int x1), (2, .int x2)] (v.toList ++ []) h' Q)) : zz_E zp_P zt_tf zt_fd X (d + 1) zm_333 184 [(0, .ref 61), (1, .int x1), (2, .int x2)] [] (mH h s) Q := by
  refine zz_E.n 185 rfl rfl rfl ?_
  refine zz_E.n 186 rfl rfl rfl ?_
  refine mE_cv hh 189 (as := []) rfl rfl (Nat.le_of_ble_eq_true rfl) (Nat.le_of_ble_eq_true rfl) rfl (Nat.le_of_ble_eq_true rfl) rfl ?_
  refine zz_E.mono k ?_
  intro v h' hE
  exact zz_E.weak hE rfl ⟨rfl, rfl, rfl, trivial⟩
theorem mb_333_189 {X : Nat → Option zz_C} {h : zz_H} (hh : 111 ≤ h.length) {s : mS} {d : Nat} {Q : Option Value → zz_H → Prop} {x1 : Int32} {x2 : Int32} {y0 : Int32} (k1 : ¬ y0 = 0 → zz_E zp_P zt_tf zt_fd X d zm_333 204 [(0, .ref 61), (1, .int x1), (2, .int x2)] [] (mH h s) Q) (k2 : ¬ ¬ y0 = 0 → zz_E zp_P zt_tf zt_fd X d zm_333 192 [(0, .ref 61)] [] (mH h s) Q) : zz_E zp_P zt_tf zt_fd X d zm_333 189 [(0, .ref 61), (1, .int x1), (2, .int x2)] [.int y0] (mH h s) Q := by
  refine zz_E.b1 204 192 (A := ¬ y0 = 0) rfl (zz_cond_ne _ _) (by decide) rfl rfl (fun c => ?_) (fun c => ?_)
  · exact zz_E.weak (k1 c) rfl ⟨rfl, rfl, rfl, trivial⟩
  · exact zz_E.weak (k2 c) rfl ⟨rfl, trivial⟩
theorem mb_333_192 {X : Nat → Option zz_C} {h : zz_H} (hh : 111 ≤ h.length) {s : mS} {d : Nat} {Q : Option Value → zz_H → Prop}  (k : zz_E zp_P zt_tf zt_fd X d zm_301 0 [(0, .ref 61), (1, .int 5), (2, .int (s.1 70))] [] (mH h s) (fun v h' => zz_E zp_P zt_tf zt_fd X (d + 1) zm_333 201 [] (v.toList ++ []) h' Q)) : zz_E zp_P zt_tf zt_fd X (d + 1) zm_333 192 [(0, .ref 61)] [] (mH h s) Q := by
  refine zz_E.n 193 rfl rfl rfl ?_
  refine zz_E.c 194 (.int 5) rfl rfl rfl rfl ?_
  refine zz_E.n 195 rfl rfl rfl ?_
  refine mE_g hh 198 (v := .int (s.1 70)) rfl rfl rfl ?_
  refine mE_cv hh 201 (as := []) rfl rfl (Nat.le_of_ble_eq_true rfl) (Nat.le_of_ble_eq_true rfl) rfl (Nat.le_of_ble_eq_true rfl) rfl ?_
  refine zz_E.mono k ?_
  intro v h' hE
  exact zz_E.weak hE rfl trivial
theorem mb_333_201 {X : Nat → Option zz_C} {h : zz_H} (hh : 111 ≤ h.length) {s : mS} {d : Nat} {Q : Option Value → zz_H → Prop}  (k : zz_E zp_P zt_tf zt_fd X d zm_333 289 [] [] (mH h s) Q) : zz_E zp_P zt_tf zt_fd X d zm_333 201 [] [] (mH h s) Q := by
  refine zz_E.n 289 rfl rfl rfl ?_
  exact zz_E.weak k rfl trivial
theorem mb_333_204 {X : Nat → Option zz_C} {h : zz_H} (hh : 111 ≤ h.length) {s : mS} {d : Nat} {Q : Option Value → zz_H → Prop} {x1 : Int32} {x2 : Int32} (k : zz_E zp_P zt_tf zt_fd X d zm_331 0 [(0, .ref 61), (1, .int x1), (2, .int x2)] [] (mH h s) (fun v h' => zz_E zp_P zt_tf zt_fd X (d + 1) zm_333 212 [] (v.toList ++ [.int 0, .ref 61]) h' Q)) : zz_E zp_P zt_tf zt_fd X (d + 1) zm_333 204 [(0, .ref 61), (1, .int x1), (2, .int x2)] [] (mH h s) Q := by
  refine zz_E.n 205 rfl rfl rfl ?_
  refine zz_E.c 206 (.int 0) rfl rfl rfl rfl ?_
  refine zz_E.n 207 rfl rfl rfl ?_
  refine zz_E.n 208 rfl rfl rfl ?_
  refine zz_E.n 209 rfl rfl rfl ?_
  refine mE_cv hh 212 (as := [.int 0, .ref 61]) rfl rfl (Nat.le_of_ble_eq_true rfl) (Nat.le_of_ble_eq_true rfl) rfl (Nat.le_of_ble_eq_true rfl) rfl ?_
  refine zz_E.mono k ?_
  intro v h' hE
  exact zz_E.weak hE rfl trivial
theorem mb_333_212 {X : Nat → Option zz_C} {h : zz_H} (hh : 111 ≤ h.length) {s : mS} {d : Nat} {Q : Option Value → zz_H → Prop} {y1 : Int32} {y2 : Int32} (k : zz_E zp_P zt_tf zt_fd X d zm_291 0 [(0, .ref 61), (1, .int y1), (2, .int y2)] [] (mH h s) (fun v h' => zz_E zp_P zt_tf zt_fd X (d + 1) zm_333 215 [] (v.toList ++ []) h' Q)) : zz_E zp_P zt_tf zt_fd X (d + 1) zm_333 212 [] [.int y2, .int y1, .ref 61] (mH h s) Q := by
  refine mE_cv hh 215 (as := []) rfl rfl (Nat.le_of_ble_eq_true rfl) (Nat.le_of_ble_eq_true rfl) rfl (Nat.le_of_ble_eq_true rfl) rfl ?_
  refine zz_E.mono k ?_
  intro v h' hE
  exact zz_E.weak hE rfl trivial
theorem mb_333_215 {X : Nat → Option zz_C} {h : zz_H} (hh : 111 ≤ h.length) {s : mS} {d : Nat} {Q : Option Value → zz_H → Prop}  (k : zz_E zp_P zt_tf zt_fd X d zm_333 289 [] [] (mH h s) Q) : zz_E zp_P zt_tf zt_fd X d zm_333 215 [] [] (mH h s) Q := by
  refine zz_E.n 289 rfl rfl rfl ?_
  exact zz_E.weak k rfl trivial
theorem mb_333_218 {X : Nat → Option zz_C} {h : zz_H} (hh : 111 ≤ h.length) {s : mS} {d : Nat} {Q : Option Value → zz_H → Prop} {x1 : Int32} {x2 : Int32} {x3 : Int32} (k : zz_E zp_P zt_tf zt_fd X d zm_333 221 [(0, .ref 61), (1, .int x1), (2, .int x2), (3, .int x3), (5, .int 0)] [] (mH h s) Q) : zz_E zp_P zt_tf zt_fd X d zm_333 218 [(0, .ref 61), (1, .int x1), (2, .int x2), (3, .int x3)] [] (mH h s) Q := by
  refine zz_E.c 219 (.int 0) rfl rfl rfl rfl ?_
  refine zz_E.n 221 rfl rfl rfl ?_
  exact zz_E.weak k rfl ⟨rfl, rfl, rfl, rfl, rfl, trivial⟩
theorem mb_333_221 {X : Nat → Option zz_C} {h : zz_H} (hh : 111 ≤ h.length) {s : mS} {d : Nat} {Q : Option Value → zz_H → Prop} {x1 : Int32} {x2 : Int32} {x3 : Int32} {x5 : Int32} (k : zz_E zp_P zt_tf zt_fd X d zm_77 0 [(0, .ref 61), (1, .int x2)] [] (mH h s) (fun v h' => zz_E zp_P zt_tf zt_fd X (d + 1) zm_333 228 [(0, .ref 61), (1, .int x1), (2, .int x2), (3, .int x3), (5, .int x5)] (v.toList ++ [.int x5]) h' Q)) : zz_E zp_P zt_tf zt_fd X (d + 1) zm_333 221 [(0, .ref 61), (1, .int x1), (2, .int x2), (3, .int x3), (5, .int x5)] [] (mH h s) Q := by
  refine zz_E.n 223 rfl rfl rfl ?_
  refine zz_E.n 224 rfl rfl rfl ?_
  refine zz_E.n 225 rfl rfl rfl ?_
  refine mE_cv hh 228 (as := [.int x5]) rfl rfl (Nat.le_of_ble_eq_true rfl) (Nat.le_of_ble_eq_true rfl) rfl (Nat.le_of_ble_eq_true rfl) rfl ?_
  refine zz_E.mono k ?_
  intro v h' hE
  exact zz_E.weak hE rfl ⟨rfl, rfl, rfl, rfl, rfl, trivial⟩
theorem mb_333_228 {X : Nat → Option zz_C} {h : zz_H} (hh : 111 ≤ h.length) {s : mS} {d : Nat} {Q : Option Value → zz_H → Prop} {x1 : Int32} {x2 : Int32} {x3 : Int32} {x5 : Int32} {y0 : Int32} {y1 : Int32} (k1 : y1 ≤ y0 → zz_E zp_P zt_tf zt_fd X d zm_333 283 [(0, .ref 61), (3, .int x3)] [] (mH h s) Q) (k2 : ¬ y1 ≤ y0 → zz_E zp_P zt_tf zt_fd X d zm_333 231 [(0, .ref 61), (1, .int x1), (2, .int x2), (3, .int x3), (5, .int x5)] [] (mH h s) Q) : zz_E zp_P zt_tf zt_fd X d zm_333 228 [(0, .ref 61), (1, .int x1), (2, .int x2), (3, .int x3), (5, .int x5)] [.int y1, .int y0] (mH h s) Q := by
  refine zz_E.b2 283 231 (A := y1 ≤ y0) rfl rfl (by decide) rfl rfl (fun c => ?_) (fun c => ?_)
  · exact zz_E.weak (k1 c) rfl ⟨rfl, rfl, trivial⟩
  · exact zz_E.weak (k2 c) rfl ⟨rfl, rfl, rfl, rfl, rfl, trivial⟩
theorem mb_333_231 {X : Nat → Option zz_C} {h : zz_H} (hh : 111 ≤ h.length) {s : mS} {d : Nat} {Q : Option Value → zz_H → Prop} {x1 : Int32} {x2 : Int32} {x3 : Int32} {x5 : Int32} (k : zz_E zp_P zt_tf zt_fd X d zm_294 0 [(0, .ref 61), (1, .int x2), (2, .int x5)] [] (mH h s) (fun v h' => zz_E zp_P zt_tf zt_fd X (d + 1) zm_333 238 [(0, .ref 61), (1, .int x1), (2, .int x2), (3, .int x3), (5, .int x5)] (v.toList ++ []) h' Q)) : zz_E zp_P zt_tf zt_fd X (d + 1) zm_333 231 [(0, .ref 61), (1, .int x1), (2, .int x2), (3, .int x3), (5, .int x5)] [] (mH h s) Q := by
  refine zz_E.n 232 rfl rfl rfl ?_
  refine zz_E.n 233 rfl rfl rfl ?_
  refine zz_E.n 235 rfl rfl rfl ?_
  refine mE_cv hh 238 (as := []) rfl rfl (Nat.le_of_ble_eq_true rfl) (Nat.le_of_ble_eq_true rfl) rfl (Nat.le_of_ble_eq_true rfl) rfl ?_
  refine zz_E.mono k ?_
  intro v h' hE
  exact zz_E.weak hE rfl ⟨rfl, rfl, rfl, rfl, rfl, trivial⟩
theorem mb_333_238 {X : Nat → Option zz_C} {h : zz_H} (hh : 111 ≤ h.length) {s : mS} {d : Nat} {Q : Option Value → zz_H → Prop} {x1 : Int32} {x2 : Int32} {x3 : Int32} {x5 : Int32} {y0 : Int32} (k1 : x1 ≤ 9 → zz_E zp_P zt_tf zt_fd X d zm_333 265 [(0, .ref 61), (1, .int x1), (2, .int x2), (3, .int x3), (5, .int x5), (6, .int y0)] [] (mH h s) Q) (k2 : ¬ x1 ≤ 9 → zz_E zp_P zt_tf zt_fd X d zm_333 246 [(0, .ref 61), (1, .int x1), (2, .int x2), (3, .int x3), (5, .int x5), (6, .int y0)] [] (mH h s) Q) : zz_E zp_P zt_tf zt_fd X d zm_333 238 [(0, .ref 61), (1, .int x1), (2, .int x2), (3, .int x3), (5, .int x5)] [.int y0] (mH h s) Q := by
  refine zz_E.n 240 rfl rfl rfl ?_
  refine zz_E.n 241 rfl rfl rfl ?_
  refine zz_E.c 243 (.int 9) rfl rfl rfl rfl ?_
  refine zz_E.b2 265 246 (A := x1 ≤ 9) rfl rfl (by decide) rfl rfl (fun c => ?_) (fun c => ?_)
  · exact zz_E.weak (k1 c) rfl ⟨rfl, rfl, rfl, rfl, rfl, rfl, trivial⟩
  · exact zz_E.weak (k2 c) rfl ⟨rfl, rfl, rfl, rfl, rfl, rfl, trivial⟩
theorem mb_333_246 {X : Nat → Option zz_C} {h : zz_H} (hh : 111 ≤ h.length) {s : mS} {d : Nat} {Q : Option Value → zz_H → Prop} {x1 : Int32} {x2 : Int32} {x3 : Int32} {x5 : Int32} {x6 : Int32} (k : zz_E zp_P zt_tf zt_fd X d zm_77 0 [(0, .ref 61), (1, .int x6)] [] (mH h s) (fun v h' => zz_E zp_P zt_tf zt_fd X (d + 1) zm_333 252 [(0, .ref 61), (1, .int x1), (2, .int x2), (3, .int x3), (5, .int x5), (6, .int x6)] (v.toList ++ []) h' Q)) : zz_E zp_P zt_tf zt_fd X (d + 1) zm_333 246 [(0, .ref 61), (1, .int x1), (2, .int x2), (3, .int x3), (5, .int x5), (6, .int x6)] [] (mH h s) Q := by
  refine zz_E.n 247 rfl rfl rfl ?_
  refine zz_E.n 249 rfl rfl rfl ?_
  refine mE_cv hh 252 (as := []) rfl rfl (Nat.le_of_ble_eq_true rfl) (Nat.le_of_ble_eq_true rfl) rfl (Nat.le_of_ble_eq_true rfl) rfl ?_
  refine zz_E.mono k ?_
  intro v h' hE
  exact zz_E.weak hE rfl ⟨rfl, rfl, rfl, rfl, rfl, rfl, trivial⟩
theorem mb_333_252 {X : Nat → Option zz_C} {h : zz_H} (hh : 111 ≤ h.length) {s : mS} {d : Nat} {Q : Option Value → zz_H → Prop} {x1 : Int32} {x2 : Int32} {x3 : Int32} {x5 : Int32} {x6 : Int32} {y0 : Int32} (k1 : ¬ y0 = 0 → zz_E zp_P zt_tf zt_fd X d zm_333 265 [(0, .ref 61), (1, .int x1), (2, .int x2), (3, .int x3), (5, .int x5), (6, .int x6)] [] (mH h s) Q) (k2 : ¬ ¬ y0 = 0 → zz_E zp_P zt_tf zt_fd X d zm_333 255 [(0, .ref 61)] [] (mH h s) Q) : zz_E zp_P zt_tf zt_fd X d zm_333 252 [(0, .ref 61), (1, .int x1), (2, .int x2), (3, .int x3), (5, .int x5), (6, .int x6)] [.int y0] (mH h s) Q := by
  refine zz_E.b1 265 255 (A := ¬ y0 = 0) rfl (zz_cond_ne _ _) (by decide) rfl rfl (fun c => ?_) (fun c => ?_)
  · exact zz_E.weak (k1 c) rfl ⟨rfl, rfl, rfl, rfl, rfl, rfl, trivial⟩
  · exact zz_E.weak (k2 c) rfl ⟨rfl, trivial⟩
theorem mb_333_255 {X : Nat → Option zz_C} {h : zz_H} (hh : 111 ≤ h.length) {s : mS} {d : Nat} {Q : Option Value → zz_H → Prop}  (k : zz_E zp_P zt_tf zt_fd X d zm_301 0 [(0, .ref 61), (1, .int 5), (2, .int (s.1 70))] [] (mH h s) (fun v h' => zz_E zp_P zt_tf zt_fd X (d + 1) zm_333 264 [] (v.toList ++ []) h' Q)) : zz_E zp_P zt_tf zt_fd X (d + 1) zm_333 255 [(0, .ref 61)] [] (mH h s) Q := by
  refine zz_E.n 256 rfl rfl rfl ?_
  refine zz_E.c 257 (.int 5) rfl rfl rfl rfl ?_
  refine zz_E.n 258 rfl rfl rfl ?_
  refine mE_g hh 261 (v := .int (s.1 70)) rfl rfl rfl ?_
  refine mE_cv hh 264 (as := []) rfl rfl (Nat.le_of_ble_eq_true rfl) (Nat.le_of_ble_eq_true rfl) rfl (Nat.le_of_ble_eq_true rfl) rfl ?_
  refine zz_E.mono k ?_
  intro v h' hE
  exact zz_E.weak hE rfl trivial
theorem mb_333_264 {X : Nat → Option zz_C} {h : zz_H} (hh : 111 ≤ h.length) {s : mS} {d : Nat} {Q : Option Value → zz_H → Prop}  (k : Q none (mH h s)) : zz_E zp_P zt_tf zt_fd X d zm_333 264 [] [] (mH h s) Q := by
  refine zz_E.ret rfl rfl rfl ?_
  exact k
theorem mb_333_265 {X : Nat → Option zz_C} {h : zz_H} (hh : 111 ≤ h.length) {s : mS} {d : Nat} {Q : Option Value → zz_H → Prop} {x1 : Int32} {x2 : Int32} {x3 : Int32} {x5 : Int32} {x6 : Int32} (k : zz_E zp_P zt_tf zt_fd X d zm_331 0 [(0, .ref 61), (1, .int x1), (2, .int x6)] [] (mH h s) (fun v h' => zz_E zp_P zt_tf zt_fd X (d + 1) zm_333 274 [(0, .ref 61), (1, .int x1), (2, .int x2), (3, .int x3), (5, .int x5)] (v.toList ++ [.int 0, .ref 61]) h' Q)) : zz_E zp_P zt_tf zt_fd X (d + 1) zm_333 265 [(0, .ref 61), (1, .int x1), (2, .int x2), (3, .int x3), (5, .int x5), (6, .int x6)] [] (mH h s) Q := by
  refine zz_E.n 266 rfl rfl rfl ?_
  refine zz_E.c 267 (.int 0) rfl rfl rfl rfl ?_
  refine zz_E.n 268 rfl rfl rfl ?_
  refine zz_E.n 269 rfl rfl rfl ?_
  refine zz_E.n 271 rfl rfl rfl ?_
  refine mE_cv hh 274 (as := [.int 0, .ref 61]) rfl rfl (Nat.le_of_ble_eq_true rfl) (Nat.le_of_ble_eq_true rfl) rfl (Nat.le_of_ble_eq_true rfl) rfl ?_
  refine zz_E.mono k ?_
  intro v h' hE
  exact zz_E.weak hE rfl ⟨rfl, rfl, rfl, rfl, rfl, trivial⟩
theorem mb_333_274 {X : Nat → Option zz_C} {h : zz_H} (hh : 111 ≤ h.length) {s : mS} {d : Nat} {Q : Option Value → zz_H → Prop} {x1 : Int32} {x2 : Int32} {x3 : Int32} {x5 : Int32} {y1 : Int32} {y2 : Int32} (k : zz_E zp_P zt_tf zt_fd X d zm_291 0 [(0, .ref 61), (1, .int y1), (2, .int y2)] [] (mH h s) (fun v h' => zz_E zp_P zt_tf zt_fd X (d + 1) zm_333 277 [(0, .ref 61), (1, .int x1), (2, .int x2), (3, .int x3), (5, .int x5)] (v.toList ++ []) h' Q)) : zz_E zp_P zt_tf zt_fd X (d + 1) zm_333 274 [(0, .ref 61), (1, .int x1), (2, .int x2), (3, .int x3), (5, .int x5)] [.int y2, .int y1, .ref 61] (mH h s) Q := by
  refine mE_cv hh 277 (as := []) rfl rfl (Nat.le_of_ble_eq_true rfl) (Nat.le_of_ble_eq_true rfl) rfl (Nat.le_of_ble_eq_true rfl) rfl ?_
  refine zz_E.mono k ?_
  intro v h' hE
  exact zz_E.weak hE rfl ⟨rfl, rfl, rfl, rfl, rfl, trivial⟩
theorem mb_333_277 {X : Nat → Option zz_C} {h : zz_H} (hh : 111 ≤ h.length) {s : mS} {d : Nat} {Q : Option Value → zz_H → Prop} {x1 : Int32} {x2 : Int32} {x3 : Int32} {x5 : Int32} (k : zz_E zp_P zt_tf zt_fd X d zm_333 221 [(0, .ref 61), (1, .int x1), (2, .int x2), (3, .int x3), (5, .int (x5 + 1))] [] (mH h s) Q) : zz_E zp_P zt_tf zt_fd X d zm_333 277 [(0, .ref 61), (1, .int x1), (2, .int x2), (3, .int x3), (5, .int x5)] [] (mH h s) Q := by
  refine zz_E.n 280 rfl rfl rfl ?_
  refine zz_E.n 221 rfl rfl rfl ?_
  exact zz_E.weak k rfl ⟨rfl, rfl, rfl, rfl, rfl, trivial⟩
theorem mb_333_283 {X : Nat → Option zz_C} {h : zz_H} (hh : 111 ≤ h.length) {s : mS} {d : Nat} {Q : Option Value → zz_H → Prop} {x3 : Int32} (k : zz_E zp_P zt_tf zt_fd X d zm_305 0 [(0, .ref 61), (1, .int 1), (2, .int x3)] [] (mH h s) (fun v h' => zz_E zp_P zt_tf zt_fd X (d + 1) zm_333 289 [] (v.toList ++ []) h' Q)) : zz_E zp_P zt_tf zt_fd X (d + 1) zm_333 283 [(0, .ref 61), (3, .int x3)] [] (mH h s) Q := by
  refine zz_E.n 284 rfl rfl rfl ?_
  refine zz_E.c 285 (.int 1) rfl rfl rfl rfl ?_
  refine zz_E.n 286 rfl rfl rfl ?_
  refine mE_cv hh 289 (as := []) rfl rfl (Nat.le_of_ble_eq_true rfl) (Nat.le_of_ble_eq_true rfl) rfl (Nat.le_of_ble_eq_true rfl) rfl ?_
  refine zz_E.mono k ?_
  intro v h' hE
  exact zz_E.weak hE rfl trivial
theorem mb_333_289 {X : Nat → Option zz_C} {h : zz_H} (hh : 111 ≤ h.length) {s : mS} {d : Nat} {Q : Option Value → zz_H → Prop}  (k : Q none (mH h s)) : zz_E zp_P zt_tf zt_fd X d zm_333 289 [] [] (mH h s) Q := by
  refine zz_E.ret rfl rfl rfl ?_
  exact k
def mf_333_289 (N : Nat)  (s : mS) : mO := some (s, none)
theorem mr_333_289 {X : Nat → Option zz_C} {h : zz_H} (hh : 111 ≤ h.length) {d : Nat} {N : Nat} {Q : Option Value → zz_H → Prop}  {s s' : mS} {v : Option Value} (hf : mf_333_289 N  s = some (s', v)) (k : Q v (mH h s')) : zz_E zp_P zt_tf zt_fd X (d + 5) zm_333 289 [] [] (mH h s) Q := by
  unfold mf_333_289 at hf
  cases hf
  exact mb_333_289 hh  k
def mf_333_283 (N : Nat) (x3 : Int32) (s : mS) : mO := mo_bv (mf_305 N 1 x3 s) (fun s1 => mf_333_289 N  s1)
theorem mr_333_283 {X : Nat → Option zz_C} {h : zz_H} (hh : 111 ≤ h.length) {d : Nat} {N : Nat} {Q : Option Value → zz_H → Prop} {x3 : Int32} {s s' : mS} {v : Option Value} (hf : mf_333_283 N x3 s = some (s', v)) (k : Q v (mH h s')) : zz_E zp_P zt_tf zt_fd X (d + 5) zm_333 283 [(0, .ref 61), (3, .int x3)] [] (mH h s) Q := by
  unfold mf_333_283 at hf
  obtain ⟨s1, e, hf⟩ := mo_bv_ok hf
  exact mb_333_283 (d := d + 4) hh  (mr_305 (d := d + 1) hh e (mr_333_289 hh hf k))
def mf_333_264 (N : Nat)  (s : mS) : mO := some (s, none)
theorem mr_333_264 {X : Nat → Option zz_C} {h : zz_H} (hh : 111 ≤ h.length) {d : Nat} {N : Nat} {Q : Option Value → zz_H → Prop}  {s s' : mS} {v : Option Value} (hf : mf_333_264 N  s = some (s', v)) (k : Q v (mH h s')) : zz_E zp_P zt_tf zt_fd X (d + 5) zm_333 264 [] [] (mH h s) Q := by
  unfold mf_333_264 at hf
  cases hf
  exact mb_333_264 hh  k
def mf_333_255 (N : Nat)  (s : mS) : mO := mo_bv (mf_301 N 5 (s.1 70) s) (fun s1 => mf_333_264 N  s1)
theorem mr_333_255 {X : Nat → Option zz_C} {h : zz_H} (hh : 111 ≤ h.length) {d : Nat} {N : Nat} {Q : Option Value → zz_H → Prop}  {s s' : mS} {v : Option Value} (hf : mf_333_255 N  s = some (s', v)) (k : Q v (mH h s')) : zz_E zp_P zt_tf zt_fd X (d + 5) zm_333 255 [(0, .ref 61)] [] (mH h s) Q := by
  unfold mf_333_255 at hf
  obtain ⟨s1, e, hf⟩ := mo_bv_ok hf
  exact mb_333_255 (d := d + 4) hh  (mr_301 (d := d + 4) hh e (mr_333_264 hh hf k))
def mf_333_277 (N : Nat) (rc : Nat → Int32 → Int32 → Int32 → Int32 → mS → mO) (x1 : Int32) (x2 : Int32) (x3 : Int32) (x5 : Int32) (s : mS) : mO := rc 0 x1 x2 x3 (x5 + 1) s
theorem mr_333_277 {X : Nat → Option zz_C} {h : zz_H} (hh : 111 ≤ h.length) {d : Nat} {N : Nat} {rc : Nat → Int32 → Int32 → Int32 → Int32 → mS → mO} (hrc0 : ∀ {Q : Option Value → zz_H → Prop} {x1 : Int32} {x2 : Int32} {x3 : Int32} {x5 : Int32} {s s' : mS} {v : Option Value}, rc 0 x1 x2 x3 x5 s = some (s', v) → Q v (mH h s') → zz_E zp_P zt_tf zt_fd X (d + 5) zm_333 221 [(0, .ref 61), (1, .int x1), (2, .int x2), (3, .int x3), (5, .int x5)] [] (mH h s) Q) {Q : Option Value → zz_H → Prop} {x1 : Int32} {x2 : Int32} {x3 : Int32} {x5 : Int32} {s s' : mS} {v : Option Value} (hf : mf_333_277 N rc x1 x2 x3 x5 s = some (s', v)) (k : Q v (mH h s')) : zz_E zp_P zt_tf zt_fd X (d + 5) zm_333 277 [(0, .ref 61), (1, .int x1), (2, .int x2), (3, .int x3), (5, .int x5)] [] (mH h s) Q := by
  unfold mf_333_277 at hf
  exact mb_333_277 hh  (hrc0 hf k)
def mf_333_274 (N : Nat) (rc : Nat → Int32 → Int32 → Int32 → Int32 → mS → mO) (x1 : Int32) (x2 : Int32) (x3 : Int32) (x5 : Int32) (y1 : Int32) (y2 : Int32) (s : mS) : mO := mo_bv (mf_291 N y1 y2 s) (fun s1 => mf_333_277 N rc x1 x2 x3 x5 s1)
theorem mr_333_274 {X : Nat → Option zz_C} {h : zz_H} (hh : 111 ≤ h.length) {d : Nat} {N : Nat} {rc : Nat → Int32 → Int32 → Int32 → Int32 → mS → mO} (hrc0 : ∀ {Q : Option Value → zz_H → Prop} {x1 : Int32} {x2 : Int32} {x3 : Int32} {x5 : Int32} {s s' : mS} {v : Option Value}, rc 0 x1 x2 x3 x5 s = some (s', v) → Q v (mH h s') → zz_E zp_P zt_tf zt_fd X (d + 5) zm_333 221 [(0, .ref 61), (1, .int x1), (2, .int x2), (3, .int x3), (5, .int x5)] [] (mH h s) Q) {Q : Option Value → zz_H → Prop} {x1 : Int32} {x2 : Int32} {x3 : Int32} {x5 : Int32} {y1 : Int32} {y2 : Int32} {s s' : mS} {v : Option Value} (hf : mf_333_274 N rc x1 x2 x3 x5 y1 y2 s = some (s', v)) (k : Q v (mH h s')) : zz_E zp_P zt_tf zt_fd X (d + 5) zm_333 274 [(0, .ref 61), (1, .int x1), (2, .int x2), (3, .int x3), (5, .int x5)] [.int y2, .int y1, .ref 61] (mH h s) Q := by
  unfold mf_333_274 at hf
  obtain ⟨s1, e, hf⟩ := mo_bv_ok hf
  exact mb_333_274 (d := d + 4) hh  (mr_291 (d := d + 4) hh e (mr_333_277 hh hrc0 hf k))
def mf_333_265 (N : Nat) (rc : Nat → Int32 → Int32 → Int32 → Int32 → mS → mO) (x1 : Int32) (x2 : Int32) (x3 : Int32) (x5 : Int32) (x6 : Int32) (s : mS) : mO := mo_bi (mf_331 N x1 x6 s) (fun s1 y => mf_333_274 N rc x1 x2 x3 x5 0 y s1)
theorem mr_333_265 {X : Nat → Option zz_C} {h : zz_H} (hh : 111 ≤ h.length) {d : Nat} {N : Nat} {rc : Nat → Int32 → Int32 → Int32 → Int32 → mS → mO} (hrc0 : ∀ {Q : Option Value → zz_H → Prop} {x1 : Int32} {x2 : Int32} {x3 : Int32} {x5 : Int32} {s s' : mS} {v : Option Value}, rc 0 x1 x2 x3 x5 s = some (s', v) → Q v (mH h s') → zz_E zp_P zt_tf zt_fd X (d + 5) zm_333 221 [(0, .ref 61), (1, .int x1), (2, .int x2), (3, .int x3), (5, .int x5)] [] (mH h s) Q) {Q : Option Value → zz_H → Prop} {x1 : Int32} {x2 : Int32} {x3 : Int32} {x5 : Int32} {x6 : Int32} {s s' : mS} {v : Option Value} (hf : mf_333_265 N rc x1 x2 x3 x5 x6 s = some (s', v)) (k : Q v (mH h s')) : zz_E zp_P zt_tf zt_fd X (d + 5) zm_333 265 [(0, .ref 61), (1, .int x1), (2, .int x2), (3, .int x3), (5, .int x5), (6, .int x6)] [] (mH h s) Q := by
  unfold mf_333_265 at hf
  obtain ⟨s1, y, e, hf⟩ := mo_bi_ok hf
  exact mb_333_265 (d := d + 4) hh  (mr_331 (d := d + 3) hh e (mr_333_274 hh hrc0 hf k))
def mf_333_252 (N : Nat) (rc : Nat → Int32 → Int32 → Int32 → Int32 → mS → mO) (x1 : Int32) (x2 : Int32) (x3 : Int32) (x5 : Int32) (x6 : Int32) (y0 : Int32) (s : mS) : mO := if ¬ y0 = 0 then mf_333_265 N rc x1 x2 x3 x5 x6 s else mf_333_255 N  s
theorem mr_333_252 {X : Nat → Option zz_C} {h : zz_H} (hh : 111 ≤ h.length) {d : Nat} {N : Nat} {rc : Nat → Int32 → Int32 → Int32 → Int32 → mS → mO} (hrc0 : ∀ {Q : Option Value → zz_H → Prop} {x1 : Int32} {x2 : Int32} {x3 : Int32} {x5 : Int32} {s s' : mS} {v : Option Value}, rc 0 x1 x2 x3 x5 s = some (s', v) → Q v (mH h s') → zz_E zp_P zt_tf zt_fd X (d + 5) zm_333 221 [(0, .ref 61), (1, .int x1), (2, .int x2), (3, .int x3), (5, .int x5)] [] (mH h s) Q) {Q : Option Value → zz_H → Prop} {x1 : Int32} {x2 : Int32} {x3 : Int32} {x5 : Int32} {x6 : Int32} {y0 : Int32} {s s' : mS} {v : Option Value} (hf : mf_333_252 N rc x1 x2 x3 x5 x6 y0 s = some (s', v)) (k : Q v (mH h s')) : zz_E zp_P zt_tf zt_fd X (d + 5) zm_333 252 [(0, .ref 61), (1, .int x1), (2, .int x2), (3, .int x3), (5, .int x5), (6, .int x6)] [.int y0] (mH h s) Q := by
  unfold mf_333_252 at hf
  refine mb_333_252 hh  (fun c => ?_) (fun c => ?_)
  · rw [if_pos c] at hf
    exact mr_333_265 hh hrc0 hf k
  · rw [if_neg c] at hf
    exact mr_333_255 hh hf k
def mf_333_246 (N : Nat) (rc : Nat → Int32 → Int32 → Int32 → Int32 → mS → mO) (x1 : Int32) (x2 : Int32) (x3 : Int32) (x5 : Int32) (x6 : Int32) (s : mS) : mO := mo_bi (mf_77 N x6 s) (fun s1 y => mf_333_252 N rc x1 x2 x3 x5 x6 y s1)
theorem mr_333_246 {X : Nat → Option zz_C} {h : zz_H} (hh : 111 ≤ h.length) {d : Nat} {N : Nat} {rc : Nat → Int32 → Int32 → Int32 → Int32 → mS → mO} (hrc0 : ∀ {Q : Option Value → zz_H → Prop} {x1 : Int32} {x2 : Int32} {x3 : Int32} {x5 : Int32} {s s' : mS} {v : Option Value}, rc 0 x1 x2 x3 x5 s = some (s', v) → Q v (mH h s') → zz_E zp_P zt_tf zt_fd X (d + 5) zm_333 221 [(0, .ref 61), (1, .int x1), (2, .int x2), (3, .int x3), (5, .int x5)] [] (mH h s) Q) {Q : Option Value → zz_H → Prop} {x1 : Int32} {x2 : Int32} {x3 : Int32} {x5 : Int32} {x6 : Int32} {s s' : mS} {v : Option Value} (hf : mf_333_246 N rc x1 x2 x3 x5 x6 s = some (s', v)) (k : Q v (mH h s')) : zz_E zp_P zt_tf zt_fd X (d + 5) zm_333 246 [(0, .ref 61), (1, .int x1), (2, .int x2), (3, .int x3), (5, .int x5), (6, .int x6)] [] (mH h s) Q := by
  unfold mf_333_246 at hf
  obtain ⟨s1, y, e, hf⟩ := mo_bi_ok hf
  exact mb_333_246 (d := d + 4) hh  (mr_77 (d := d + 4) hh e (mr_333_252 hh hrc0 hf k))
def mf_333_238 (N : Nat) (rc : Nat → Int32 → Int32 → Int32 → Int32 → mS → mO) (x1 : Int32) (x2 : Int32) (x3 : Int32) (x5 : Int32) (y0 : Int32) (s : mS) : mO := if x1 ≤ 9 then mf_333_265 N rc x1 x2 x3 x5 y0 s else mf_333_246 N rc x1 x2 x3 x5 y0 s
theorem mr_333_238 {X : Nat → Option zz_C} {h : zz_H} (hh : 111 ≤ h.length) {d : Nat} {N : Nat} {rc : Nat → Int32 → Int32 → Int32 → Int32 → mS → mO} (hrc0 : ∀ {Q : Option Value → zz_H → Prop} {x1 : Int32} {x2 : Int32} {x3 : Int32} {x5 : Int32} {s s' : mS} {v : Option Value}, rc 0 x1 x2 x3 x5 s = some (s', v) → Q v (mH h s') → zz_E zp_P zt_tf zt_fd X (d + 5) zm_333 221 [(0, .ref 61), (1, .int x1), (2, .int x2), (3, .int x3), (5, .int x5)] [] (mH h s) Q) {Q : Option Value → zz_H → Prop} {x1 : Int32} {x2 : Int32} {x3 : Int32} {x5 : Int32} {y0 : Int32} {s s' : mS} {v : Option Value} (hf : mf_333_238 N rc x1 x2 x3 x5 y0 s = some (s', v)) (k : Q v (mH h s')) : zz_E zp_P zt_tf zt_fd X (d + 5) zm_333 238 [(0, .ref 61), (1, .int x1), (2, .int x2), (3, .int x3), (5, .int x5)] [.int y0] (mH h s) Q := by
  unfold mf_333_238 at hf
  refine mb_333_238 hh  (fun c => ?_) (fun c => ?_)
  · rw [if_pos c] at hf
    exact mr_333_265 hh hrc0 hf k
  · rw [if_neg c] at hf
    exact mr_333_246 hh hrc0 hf k
def mf_333_231 (N : Nat) (rc : Nat → Int32 → Int32 → Int32 → Int32 → mS → mO) (x1 : Int32) (x2 : Int32) (x3 : Int32) (x5 : Int32) (s : mS) : mO := mo_bi (mf_294 N x2 x5 s) (fun s1 y => mf_333_238 N rc x1 x2 x3 x5 y s1)
theorem mr_333_231 {X : Nat → Option zz_C} {h : zz_H} (hh : 111 ≤ h.length) {d : Nat} {N : Nat} {rc : Nat → Int32 → Int32 → Int32 → Int32 → mS → mO} (hrc0 : ∀ {Q : Option Value → zz_H → Prop} {x1 : Int32} {x2 : Int32} {x3 : Int32} {x5 : Int32} {s s' : mS} {v : Option Value}, rc 0 x1 x2 x3 x5 s = some (s', v) → Q v (mH h s') → zz_E zp_P zt_tf zt_fd X (d + 5) zm_333 221 [(0, .ref 61), (1, .int x1), (2, .int x2), (3, .int x3), (5, .int x5)] [] (mH h s) Q) {Q : Option Value → zz_H → Prop} {x1 : Int32} {x2 : Int32} {x3 : Int32} {x5 : Int32} {s s' : mS} {v : Option Value} (hf : mf_333_231 N rc x1 x2 x3 x5 s = some (s', v)) (k : Q v (mH h s')) : zz_E zp_P zt_tf zt_fd X (d + 5) zm_333 231 [(0, .ref 61), (1, .int x1), (2, .int x2), (3, .int x3), (5, .int x5)] [] (mH h s) Q := by
  unfold mf_333_231 at hf
  obtain ⟨s1, y, e, hf⟩ := mo_bi_ok hf
  exact mb_333_231 (d := d + 4) hh  (mr_294 (d := d + 4) hh e (mr_333_238 hh hrc0 hf k))
def mf_333_228 (N : Nat) (rc : Nat → Int32 → Int32 → Int32 → Int32 → mS → mO) (x1 : Int32) (x2 : Int32) (x3 : Int32) (x5 : Int32) (y0 : Int32) (y1 : Int32) (s : mS) : mO := if y1 ≤ y0 then mf_333_283 N x3 s else mf_333_231 N rc x1 x2 x3 x5 s
theorem mr_333_228 {X : Nat → Option zz_C} {h : zz_H} (hh : 111 ≤ h.length) {d : Nat} {N : Nat} {rc : Nat → Int32 → Int32 → Int32 → Int32 → mS → mO} (hrc0 : ∀ {Q : Option Value → zz_H → Prop} {x1 : Int32} {x2 : Int32} {x3 : Int32} {x5 : Int32} {s s' : mS} {v : Option Value}, rc 0 x1 x2 x3 x5 s = some (s', v) → Q v (mH h s') → zz_E zp_P zt_tf zt_fd X (d + 5) zm_333 221 [(0, .ref 61), (1, .int x1), (2, .int x2), (3, .int x3), (5, .int x5)] [] (mH h s) Q) {Q : Option Value → zz_H → Prop} {x1 : Int32} {x2 : Int32} {x3 : Int32} {x5 : Int32} {y0 : Int32} {y1 : Int32} {s s' : mS} {v : Option Value} (hf : mf_333_228 N rc x1 x2 x3 x5 y0 y1 s = some (s', v)) (k : Q v (mH h s')) : zz_E zp_P zt_tf zt_fd X (d + 5) zm_333 228 [(0, .ref 61), (1, .int x1), (2, .int x2), (3, .int x3), (5, .int x5)] [.int y1, .int y0] (mH h s) Q := by
  unfold mf_333_228 at hf
  refine mb_333_228 hh  (fun c => ?_) (fun c => ?_)
  · rw [if_pos c] at hf
    exact mr_333_283 hh hf k
  · rw [if_neg c] at hf
    exact mr_333_231 hh hrc0 hf k
def mf_333_221 (N : Nat) (rc : Nat → Int32 → Int32 → Int32 → Int32 → mS → mO) (x1 : Int32) (x2 : Int32) (x3 : Int32) (x5 : Int32) (s : mS) : mO := mo_bi (mf_77 N x2 s) (fun s1 y => mf_333_228 N rc x1 x2 x3 x5 x5 y s1)
theorem mr_333_221 {X : Nat → Option zz_C} {h : zz_H} (hh : 111 ≤ h.length) {d : Nat} {N : Nat} {rc : Nat → Int32 → Int32 → Int32 → Int32 → mS → mO} (hrc0 : ∀ {Q : Option Value → zz_H → Prop} {x1 : Int32} {x2 : Int32} {x3 : Int32} {x5 : Int32} {s s' : mS} {v : Option Value}, rc 0 x1 x2 x3 x5 s = some (s', v) → Q v (mH h s') → zz_E zp_P zt_tf zt_fd X (d + 5) zm_333 221 [(0, .ref 61), (1, .int x1), (2, .int x2), (3, .int x3), (5, .int x5)] [] (mH h s) Q) {Q : Option Value → zz_H → Prop} {x1 : Int32} {x2 : Int32} {x3 : Int32} {x5 : Int32} {s s' : mS} {v : Option Value} (hf : mf_333_221 N rc x1 x2 x3 x5 s = some (s', v)) (k : Q v (mH h s')) : zz_E zp_P zt_tf zt_fd X (d + 5) zm_333 221 [(0, .ref 61), (1, .int x1), (2, .int x2), (3, .int x3), (5, .int x5)] [] (mH h s) Q := by
  unfold mf_333_221 at hf
  obtain ⟨s1, y, e, hf⟩ := mo_bi_ok hf
  exact mb_333_221 (d := d + 4) hh  (mr_77 (d := d + 4) hh e (mr_333_228 hh hrc0 hf k))
def mf_333_L4 (N : Nat) : Nat → Nat → Int32 → Int32 → Int32 → Int32 → mS → mO
  | 0, _, _, _, _, _, _ => none
  | n + 1, l, x1, x2, x3, x5, s => if l = 0 then mf_333_221 N (mf_333_L4 N n) x1 x2 x3 x5 s else none
theorem mr_333_L4 {X : Nat → Option zz_C} {h : zz_H} (hh : 111 ≤ h.length) {d : Nat} {N : Nat} : ∀ n : Nat, (∀ {Q : Option Value → zz_H → Prop} {x1 : Int32} {x2 : Int32} {x3 : Int32} {x5 : Int32} {s s' : mS} {v : Option Value}, mf_333_L4 N n 0 x1 x2 x3 x5 s = some (s', v) → Q v (mH h s') → zz_E zp_P zt_tf zt_fd X (d + 5) zm_333 221 [(0, .ref 61), (1, .int x1), (2, .int x2), (3, .int x3), (5, .int x5)] [] (mH h s) Q) := by
  intro n
  induction n with
  | zero => exact (fun hf _ => by cases hf)
  | succ n ih =>
    have h0 := @ih
    intro Q _ _ _ _ s s' v hf k
    unfold mf_333_L4 at hf
    rw [if_pos rfl] at hf
    exact mr_333_221 hh h0 hf k
def mf_333_218 (N : Nat) (x1 : Int32) (x2 : Int32) (x3 : Int32) (s : mS) : mO := mf_333_L4 N N 0 x1 x2 x3 0 s
theorem mr_333_218 {X : Nat → Option zz_C} {h : zz_H} (hh : 111 ≤ h.length) {d : Nat} {N : Nat} {Q : Option Value → zz_H → Prop} {x1 : Int32} {x2 : Int32} {x3 : Int32} {s s' : mS} {v : Option Value} (hf : mf_333_218 N x1 x2 x3 s = some (s', v)) (k : Q v (mH h s')) : zz_E zp_P zt_tf zt_fd X (d + 5) zm_333 218 [(0, .ref 61), (1, .int x1), (2, .int x2), (3, .int x3)] [] (mH h s) Q := by
  unfold mf_333_218 at hf
  exact mb_333_218 hh  (mr_333_L4 hh N hf k)
def mf_333_215 (N : Nat)  (s : mS) : mO := mf_333_289 N  s
theorem mr_333_215 {X : Nat → Option zz_C} {h : zz_H} (hh : 111 ≤ h.length) {d : Nat} {N : Nat} {Q : Option Value → zz_H → Prop}  {s s' : mS} {v : Option Value} (hf : mf_333_215 N  s = some (s', v)) (k : Q v (mH h s')) : zz_E zp_P zt_tf zt_fd X (d + 5) zm_333 215 [] [] (mH h s) Q := by
  unfold mf_333_215 at hf
  exact mb_333_215 hh  (mr_333_289 hh hf k)
def mf_333_212 (N : Nat) (y1 : Int32) (y2 : Int32) (s : mS) : mO := mo_bv (mf_291 N y1 y2 s) (fun s1 => mf_333_215 N  s1)
theorem mr_333_212 {X : Nat → Option zz_C} {h : zz_H} (hh : 111 ≤ h.length) {d : Nat} {N : Nat} {Q : Option Value → zz_H → Prop} {y1 : Int32} {y2 : Int32} {s s' : mS} {v : Option Value} (hf : mf_333_212 N y1 y2 s = some (s', v)) (k : Q v (mH h s')) : zz_E zp_P zt_tf zt_fd X (d + 5) zm_333 212 [] [.int y2, .int y1, .ref 61] (mH h s) Q := by
  unfold mf_333_212 at hf
  obtain ⟨s1, e, hf⟩ := mo_bv_ok hf
  exact mb_333_212 (d := d + 4) hh  (mr_291 (d := d + 4) hh e (mr_333_215 hh hf k))
def mf_333_204 (N : Nat) (x1 : Int32) (x2 : Int32) (s : mS) : mO := mo_bi (mf_331 N x1 x2 s) (fun s1 y => mf_333_212 N 0 y s1)
theorem mr_333_204 {X : Nat → Option zz_C} {h : zz_H} (hh : 111 ≤ h.length) {d : Nat} {N : Nat} {Q : Option Value → zz_H → Prop} {x1 : Int32} {x2 : Int32} {s s' : mS} {v : Option Value} (hf : mf_333_204 N x1 x2 s = some (s', v)) (k : Q v (mH h s')) : zz_E zp_P zt_tf zt_fd X (d + 5) zm_333 204 [(0, .ref 61), (1, .int x1), (2, .int x2)] [] (mH h s) Q := by
  unfold mf_333_204 at hf
  obtain ⟨s1, y, e, hf⟩ := mo_bi_ok hf
  exact mb_333_204 (d := d + 4) hh  (mr_331 (d := d + 3) hh e (mr_333_212 hh hf k))
def mf_333_201 (N : Nat)  (s : mS) : mO := mf_333_289 N  s
theorem mr_333_201 {X : Nat → Option zz_C} {h : zz_H} (hh : 111 ≤ h.length) {d : Nat} {N : Nat} {Q : Option Value → zz_H → Prop}  {s s' : mS} {v : Option Value} (hf : mf_333_201 N  s = some (s', v)) (k : Q v (mH h s')) : zz_E zp_P zt_tf zt_fd X (d + 5) zm_333 201 [] [] (mH h s) Q := by
  unfold mf_333_201 at hf
  exact mb_333_201 hh  (mr_333_289 hh hf k)
def mf_333_192 (N : Nat)  (s : mS) : mO := mo_bv (mf_301 N 5 (s.1 70) s) (fun s1 => mf_333_201 N  s1)
theorem mr_333_192 {X : Nat → Option zz_C} {h : zz_H} (hh : 111 ≤ h.length) {d : Nat} {N : Nat} {Q : Option Value → zz_H → Prop}  {s s' : mS} {v : Option Value} (hf : mf_333_192 N  s = some (s', v)) (k : Q v (mH h s')) : zz_E zp_P zt_tf zt_fd X (d + 5) zm_333 192 [(0, .ref 61)] [] (mH h s) Q := by
  unfold mf_333_192 at hf
  obtain ⟨s1, e, hf⟩ := mo_bv_ok hf
  exact mb_333_192 (d := d + 4) hh  (mr_301 (d := d + 4) hh e (mr_333_201 hh hf k))
def mf_333_189 (N : Nat) (x1 : Int32) (x2 : Int32) (y0 : Int32) (s : mS) : mO := if ¬ y0 = 0 then mf_333_204 N x1 x2 s else mf_333_192 N  s
theorem mr_333_189 {X : Nat → Option zz_C} {h : zz_H} (hh : 111 ≤ h.length) {d : Nat} {N : Nat} {Q : Option Value → zz_H → Prop} {x1 : Int32} {x2 : Int32} {y0 : Int32} {s s' : mS} {v : Option Value} (hf : mf_333_189 N x1 x2 y0 s = some (s', v)) (k : Q v (mH h s')) : zz_E zp_P zt_tf zt_fd X (d + 5) zm_333 189 [(0, .ref 61), (1, .int x1), (2, .int x2)] [.int y0] (mH h s) Q := by
  unfold mf_333_189 at hf
  refine mb_333_189 hh  (fun c => ?_) (fun c => ?_)
  · rw [if_pos c] at hf
    exact mr_333_204 hh hf k
  · rw [if_neg c] at hf
    exact mr_333_192 hh hf k
def mf_333_184 (N : Nat) (x1 : Int32) (x2 : Int32) (s : mS) : mO := mo_bi (mf_77 N x2 s) (fun s1 y => mf_333_189 N x1 x2 y s1)
theorem mr_333_184 {X : Nat → Option zz_C} {h : zz_H} (hh : 111 ≤ h.length) {d : Nat} {N : Nat} {Q : Option Value → zz_H → Prop} {x1 : Int32} {x2 : Int32} {s s' : mS} {v : Option Value} (hf : mf_333_184 N x1 x2 s = some (s', v)) (k : Q v (mH h s')) : zz_E zp_P zt_tf zt_fd X (d + 5) zm_333 184 [(0, .ref 61), (1, .int x1), (2, .int x2)] [] (mH h s) Q := by
  unfold mf_333_184 at hf
  obtain ⟨s1, y, e, hf⟩ := mo_bi_ok hf
  exact mb_333_184 (d := d + 4) hh  (mr_77 (d := d + 4) hh e (mr_333_189 hh hf k))
def mf_333_178 (N : Nat) (x1 : Int32) (x2 : Int32) (s : mS) : mO := if x1 ≤ 9 then mf_333_204 N x1 x2 s else mf_333_184 N x1 x2 s
theorem mr_333_178 {X : Nat → Option zz_C} {h : zz_H} (hh : 111 ≤ h.length) {d : Nat} {N : Nat} {Q : Option Value → zz_H → Prop} {x1 : Int32} {x2 : Int32} {s s' : mS} {v : Option Value} (hf : mf_333_178 N x1 x2 s = some (s', v)) (k : Q v (mH h s')) : zz_E zp_P zt_tf zt_fd X (d + 5) zm_333 178 [(0, .ref 61), (1, .int x1), (2, .int x2)] [] (mH h s) Q := by
  unfold mf_333_178 at hf
  refine mb_333_178 hh  (fun c => ?_) (fun c => ?_)
  · rw [if_pos c] at hf
    exact mr_333_204 hh hf k
  · rw [if_neg c] at hf
    exact mr_333_184 hh hf k
def mf_333_172 (N : Nat) (x1 : Int32) (x2 : Int32) (x3 : Int32) (x4 : Int32) (s : mS) : mO := if ¬ x4 = 1 then mf_333_218 N x1 x2 x3 s else mf_333_178 N x1 x2 s
theorem mr_333_172 {X : Nat → Option zz_C} {h : zz_H} (hh : 111 ≤ h.length) {d : Nat} {N : Nat} {Q : Option Value → zz_H → Prop} {x1 : Int32} {x2 : Int32} {x3 : Int32} {x4 : Int32} {s s' : mS} {v : Option Value} (hf : mf_333_172 N x1 x2 x3 x4 s = some (s', v)) (k : Q v (mH h s')) : zz_E zp_P zt_tf zt_fd X (d + 5) zm_333 172 [(0, .ref 61), (1, .int x1), (2, .int x2), (3, .int x3), (4, .int x4)] [] (mH h s) Q := by
  unfold mf_333_172 at hf
  refine mb_333_172 hh  (fun c => ?_) (fun c => ?_)
  · rw [if_pos c] at hf
    exact mr_333_218 hh hf k
  · rw [if_neg c] at hf
    exact mr_333_178 hh hf k
def mf_333_169 (N : Nat)  (s : mS) : mO := mf_333_289 N  s
theorem mr_333_169 {X : Nat → Option zz_C} {h : zz_H} (hh : 111 ≤ h.length) {d : Nat} {N : Nat} {Q : Option Value → zz_H → Prop}  {s s' : mS} {v : Option Value} (hf : mf_333_169 N  s = some (s', v)) (k : Q v (mH h s')) : zz_E zp_P zt_tf zt_fd X (d + 5) zm_333 169 [] [] (mH h s) Q := by
  unfold mf_333_169 at hf
  exact mb_333_169 hh  (mr_333_289 hh hf k)
def mf_333_163 (N : Nat) (x2 : Int32) (s : mS) : mO := mo_bv (mf_291 N 0 x2 s) (fun s1 => mf_333_169 N  s1)
theorem mr_333_163 {X : Nat → Option zz_C} {h : zz_H} (hh : 111 ≤ h.length) {d : Nat} {N : Nat} {Q : Option Value → zz_H → Prop} {x2 : Int32} {s s' : mS} {v : Option Value} (hf : mf_333_163 N x2 s = some (s', v)) (k : Q v (mH h s')) : zz_E zp_P zt_tf zt_fd X (d + 5) zm_333 163 [(0, .ref 61), (2, .int x2)] [] (mH h s) Q := by
  unfold mf_333_163 at hf
  obtain ⟨s1, e, hf⟩ := mo_bv_ok hf
  exact mb_333_163 (d := d + 4) hh  (mr_291 (d := d + 4) hh e (mr_333_169 hh hf k))
def mf_333_158 (N : Nat) (x1 : Int32) (x2 : Int32) (x3 : Int32) (x4 : Int32) (s : mS) : mO := if ¬ x4 = 0 then mf_333_172 N x1 x2 x3 x4 s else mf_333_163 N x2 s
theorem mr_333_158 {X : Nat → Option zz_C} {h : zz_H} (hh : 111 ≤ h.length) {d : Nat} {N : Nat} {Q : Option Value → zz_H → Prop} {x1 : Int32} {x2 : Int32} {x3 : Int32} {x4 : Int32} {s s' : mS} {v : Option Value} (hf : mf_333_158 N x1 x2 x3 x4 s = some (s', v)) (k : Q v (mH h s')) : zz_E zp_P zt_tf zt_fd X (d + 5) zm_333 158 [(0, .ref 61), (1, .int x1), (2, .int x2), (3, .int x3), (4, .int x4)] [] (mH h s) Q := by
  unfold mf_333_158 at hf
  refine mb_333_158 hh  (fun c => ?_) (fun c => ?_)
  · rw [if_pos c] at hf
    exact mr_333_172 hh hf k
  · rw [if_neg c] at hf
    exact mr_333_163 hh hf k
def mf_333_155 (N : Nat)  (s : mS) : mO := mf_333_289 N  s
theorem mr_333_155 {X : Nat → Option zz_C} {h : zz_H} (hh : 111 ≤ h.length) {d : Nat} {N : Nat} {Q : Option Value → zz_H → Prop}  {s s' : mS} {v : Option Value} (hf : mf_333_155 N  s = some (s', v)) (k : Q v (mH h s')) : zz_E zp_P zt_tf zt_fd X (d + 5) zm_333 155 [] [] (mH h s) Q := by
  unfold mf_333_155 at hf
  exact mb_333_155 hh  (mr_333_289 hh hf k)
def mf_333_146 (N : Nat) (x1 : Int32) (x2 : Int32) (x3 : Int32) (x4 : Int32) (s : mS) : mO := mo_bv (mf_334 N x1 x2 x3 x4 s) (fun s1 => mf_333_155 N  s1)
theorem mr_333_146 {X : Nat → Option zz_C} {h : zz_H} (hh : 111 ≤ h.length) {d : Nat} {N : Nat} {Q : Option Value → zz_H → Prop} {x1 : Int32} {x2 : Int32} {x3 : Int32} {x4 : Int32} {s s' : mS} {v : Option Value} (hf : mf_333_146 N x1 x2 x3 x4 s = some (s', v)) (k : Q v (mH h s')) : zz_E zp_P zt_tf zt_fd X (d + 5) zm_333 146 [(0, .ref 61), (1, .int x1), (2, .int x2), (3, .int x3), (4, .int x4)] [] (mH h s) Q := by
  unfold mf_333_146 at hf
  obtain ⟨s1, e, hf⟩ := mo_bv_ok hf
  exact mb_333_146 (d := d + 4) hh  (mr_334 (d := d + 0) hh e (mr_333_155 hh hf k))
def mf_333_140 (N : Nat) (x1 : Int32) (x2 : Int32) (x3 : Int32) (x4 : Int32) (s : mS) : mO := if x1 ≤ 11 then mf_333_158 N x1 x2 x3 x4 s else mf_333_146 N x1 x2 x3 x4 s
theorem mr_333_140 {X : Nat → Option zz_C} {h : zz_H} (hh : 111 ≤ h.length) {d : Nat} {N : Nat} {Q : Option Value → zz_H → Prop} {x1 : Int32} {x2 : Int32} {x3 : Int32} {x4 : Int32} {s s' : mS} {v : Option Value} (hf : mf_333_140 N x1 x2 x3 x4 s = some (s', v)) (k : Q v (mH h s')) : zz_E zp_P zt_tf zt_fd X (d + 5) zm_333 140 [(0, .ref 61), (1, .int x1), (2, .int x2), (3, .int x3), (4, .int x4)] [] (mH h s) Q := by
  unfold mf_333_140 at hf
  refine mb_333_140 hh  (fun c => ?_) (fun c => ?_)
  · rw [if_pos c] at hf
    exact mr_333_158 hh hf k
  · rw [if_neg c] at hf
    exact mr_333_146 hh hf k
def mf_333_137 (N : Nat)  (s : mS) : mO := mf_333_289 N  s
theorem mr_333_137 {X : Nat → Option zz_C} {h : zz_H} (hh : 111 ≤ h.length) {d : Nat} {N : Nat} {Q : Option Value → zz_H → Prop}  {s s' : mS} {v : Option Value} (hf : mf_333_137 N  s = some (s', v)) (k : Q v (mH h s')) : zz_E zp_P zt_tf zt_fd X (d + 5) zm_333 137 [] [] (mH h s) Q := by
  unfold mf_333_137 at hf
  exact mb_333_137 hh  (mr_333_289 hh hf k)
def mf_333_130 (N : Nat) (x3 : Int32) (x4 : Int32) (s : mS) : mO := mo_bv (mf_305 N x4 x3 s) (fun s1 => mf_333_137 N  s1)
theorem mr_333_130 {X : Nat → Option zz_C} {h : zz_H} (hh : 111 ≤ h.length) {d : Nat} {N : Nat} {Q : Option Value → zz_H → Prop} {x3 : Int32} {x4 : Int32} {s s' : mS} {v : Option Value} (hf : mf_333_130 N x3 x4 s = some (s', v)) (k : Q v (mH h s')) : zz_E zp_P zt_tf zt_fd X (d + 5) zm_333 130 [(0, .ref 61), (3, .int x3), (4, .int x4)] [] (mH h s) Q := by
  unfold mf_333_130 at hf
  obtain ⟨s1, e, hf⟩ := mo_bv_ok hf
  exact mb_333_130 (d := d + 4) hh  (mr_305 (d := d + 1) hh e (mr_333_137 hh hf k))
def mf_333_124 (N : Nat) (rc : Nat → Int32 → Int32 → Int32 → Int32 → mS → mO) (x2 : Int32) (x3 : Int32) (x4 : Int32) (x5 : Int32) (s : mS) : mO := rc 0 x2 x3 x4 (x5 + (-1)) s
theorem mr_333_124 {X : Nat → Option zz_C} {h : zz_H} (hh : 111 ≤ h.length) {d : Nat} {N : Nat} {rc : Nat → Int32 → Int32 → Int32 → Int32 → mS → mO} (hrc0 : ∀ {Q : Option Value → zz_H → Prop} {x2 : Int32} {x3 : Int32} {x4 : Int32} {x5 : Int32} {s s' : mS} {v : Option Value}, rc 0 x2 x3 x4 x5 s = some (s', v) → Q v (mH h s') → zz_E zp_P zt_tf zt_fd X (d + 5) zm_333 112 [(0, .ref 61), (2, .int x2), (3, .int x3), (4, .int x4), (5, .int x5)] [] (mH h s) Q) {Q : Option Value → zz_H → Prop} {x2 : Int32} {x3 : Int32} {x4 : Int32} {x5 : Int32} {s s' : mS} {v : Option Value} (hf : mf_333_124 N rc x2 x3 x4 x5 s = some (s', v)) (k : Q v (mH h s')) : zz_E zp_P zt_tf zt_fd X (d + 5) zm_333 124 [(0, .ref 61), (2, .int x2), (3, .int x3), (4, .int x4), (5, .int x5)] [] (mH h s) Q := by
  unfold mf_333_124 at hf
  exact mb_333_124 hh  (hrc0 hf k)
def mf_333_117 (N : Nat) (rc : Nat → Int32 → Int32 → Int32 → Int32 → mS → mO) (x2 : Int32) (x3 : Int32) (x4 : Int32) (x5 : Int32) (s : mS) : mO := mo_bv (mf_295 N x2 x5 s) (fun s1 => mf_333_124 N rc x2 x3 x4 x5 s1)
theorem mr_333_117 {X : Nat → Option zz_C} {h : zz_H} (hh : 111 ≤ h.length) {d : Nat} {N : Nat} {rc : Nat → Int32 → Int32 → Int32 → Int32 → mS → mO} (hrc0 : ∀ {Q : Option Value → zz_H → Prop} {x2 : Int32} {x3 : Int32} {x4 : Int32} {x5 : Int32} {s s' : mS} {v : Option Value}, rc 0 x2 x3 x4 x5 s = some (s', v) → Q v (mH h s') → zz_E zp_P zt_tf zt_fd X (d + 5) zm_333 112 [(0, .ref 61), (2, .int x2), (3, .int x3), (4, .int x4), (5, .int x5)] [] (mH h s) Q) {Q : Option Value → zz_H → Prop} {x2 : Int32} {x3 : Int32} {x4 : Int32} {x5 : Int32} {s s' : mS} {v : Option Value} (hf : mf_333_117 N rc x2 x3 x4 x5 s = some (s', v)) (k : Q v (mH h s')) : zz_E zp_P zt_tf zt_fd X (d + 5) zm_333 117 [(0, .ref 61), (2, .int x2), (3, .int x3), (4, .int x4), (5, .int x5)] [] (mH h s) Q := by
  unfold mf_333_117 at hf
  obtain ⟨s1, e, hf⟩ := mo_bv_ok hf
  exact mb_333_117 (d := d + 4) hh  (mr_295 (d := d + 3) hh e (mr_333_124 hh hrc0 hf k))
def mf_333_112 (N : Nat) (rc : Nat → Int32 → Int32 → Int32 → Int32 → mS → mO) (x2 : Int32) (x3 : Int32) (x4 : Int32) (x5 : Int32) (s : mS) : mO := if x5 < 0 then mf_333_130 N x3 x4 s else mf_333_117 N rc x2 x3 x4 x5 s
theorem mr_333_112 {X : Nat → Option zz_C} {h : zz_H} (hh : 111 ≤ h.length) {d : Nat} {N : Nat} {rc : Nat → Int32 → Int32 → Int32 → Int32 → mS → mO} (hrc0 : ∀ {Q : Option Value → zz_H → Prop} {x2 : Int32} {x3 : Int32} {x4 : Int32} {x5 : Int32} {s s' : mS} {v : Option Value}, rc 0 x2 x3 x4 x5 s = some (s', v) → Q v (mH h s') → zz_E zp_P zt_tf zt_fd X (d + 5) zm_333 112 [(0, .ref 61), (2, .int x2), (3, .int x3), (4, .int x4), (5, .int x5)] [] (mH h s) Q) {Q : Option Value → zz_H → Prop} {x2 : Int32} {x3 : Int32} {x4 : Int32} {x5 : Int32} {s s' : mS} {v : Option Value} (hf : mf_333_112 N rc x2 x3 x4 x5 s = some (s', v)) (k : Q v (mH h s')) : zz_E zp_P zt_tf zt_fd X (d + 5) zm_333 112 [(0, .ref 61), (2, .int x2), (3, .int x3), (4, .int x4), (5, .int x5)] [] (mH h s) Q := by
  unfold mf_333_112 at hf
  refine mb_333_112 hh  (fun c => ?_) (fun c => ?_)
  · rw [if_pos c] at hf
    exact mr_333_130 hh hf k
  · rw [if_neg c] at hf
    exact mr_333_117 hh hrc0 hf k
def mf_333_L23 (N : Nat) : Nat → Nat → Int32 → Int32 → Int32 → Int32 → mS → mO
  | 0, _, _, _, _, _, _ => none
  | n + 1, l, x2, x3, x4, x5, s => if l = 0 then mf_333_112 N (mf_333_L23 N n) x2 x3 x4 x5 s else none
theorem mr_333_L23 {X : Nat → Option zz_C} {h : zz_H} (hh : 111 ≤ h.length) {d : Nat} {N : Nat} : ∀ n : Nat, (∀ {Q : Option Value → zz_H → Prop} {x2 : Int32} {x3 : Int32} {x4 : Int32} {x5 : Int32} {s s' : mS} {v : Option Value}, mf_333_L23 N n 0 x2 x3 x4 x5 s = some (s', v) → Q v (mH h s') → zz_E zp_P zt_tf zt_fd X (d + 5) zm_333 112 [(0, .ref 61), (2, .int x2), (3, .int x3), (4, .int x4), (5, .int x5)] [] (mH h s) Q) := by
  intro n
  induction n with
  | zero => exact (fun hf _ => by cases hf)
  | succ n ih =>
    have h0 := @ih
    intro Q _ _ _ _ s s' v hf k
    unfold mf_333_L23 at hf
    rw [if_pos rfl] at hf
    exact mr_333_112 hh h0 hf k
def mf_333_108 (N : Nat) (x2 : Int32) (x3 : Int32) (x4 : Int32) (y0 : Int32) (s : mS) : mO := mf_333_L23 N N 0 x2 x3 x4 (y0 - 1) s
theorem mr_333_108 {X : Nat → Option zz_C} {h : zz_H} (hh : 111 ≤ h.length) {d : Nat} {N : Nat} {Q : Option Value → zz_H → Prop} {x2 : Int32} {x3 : Int32} {x4 : Int32} {y0 : Int32} {s s' : mS} {v : Option Value} (hf : mf_333_108 N x2 x3 x4 y0 s = some (s', v)) (k : Q v (mH h s')) : zz_E zp_P zt_tf zt_fd X (d + 5) zm_333 108 [(0, .ref 61), (2, .int x2), (3, .int x3), (4, .int x4)] [.int y0] (mH h s) Q := by
  unfold mf_333_108 at hf
  exact mb_333_108 hh  (mr_333_L23 hh N hf k)
def mf_333_103 (N : Nat) (x2 : Int32) (x3 : Int32) (x4 : Int32) (s : mS) : mO := mo_bi (mf_77 N x2 s) (fun s1 y => mf_333_108 N x2 x3 x4 y s1)
theorem mr_333_103 {X : Nat → Option zz_C} {h : zz_H} (hh : 111 ≤ h.length) {d : Nat} {N : Nat} {Q : Option Value → zz_H → Prop} {x2 : Int32} {x3 : Int32} {x4 : Int32} {s s' : mS} {v : Option Value} (hf : mf_333_103 N x2 x3 x4 s = some (s', v)) (k : Q v (mH h s')) : zz_E zp_P zt_tf zt_fd X (d + 5) zm_333 103 [(0, .ref 61), (2, .int x2), (3, .int x3), (4, .int x4)] [] (mH h s) Q := by
  unfold mf_333_103 at hf
  obtain ⟨s1, y, e, hf⟩ := mo_bi_ok hf
  exact mb_333_103 (d := d + 4) hh  (mr_77 (d := d + 4) hh e (mr_333_108 hh hf k))
def mf_333_97 (N : Nat) (x1 : Int32) (x2 : Int32) (x3 : Int32) (x4 : Int32) (s : mS) : mO := if ¬ x1 = 15 then mf_333_140 N x1 x2 x3 x4 s else mf_333_103 N x2 x3 x4 s
theorem mr_333_97 {X : Nat → Option zz_C} {h : zz_H} (hh : 111 ≤ h.length) {d : Nat} {N : Nat} {Q : Option Value → zz_H → Prop} {x1 : Int32} {x2 : Int32} {x3 : Int32} {x4 : Int32} {s s' : mS} {v : Option Value} (hf : mf_333_97 N x1 x2 x3 x4 s = some (s', v)) (k : Q v (mH h s')) : zz_E zp_P zt_tf zt_fd X (d + 5) zm_333 97 [(0, .ref 61), (1, .int x1), (2, .int x2), (3, .int x3), (4, .int x4)] [] (mH h s) Q := by
  unfold mf_333_97 at hf
  refine mb_333_97 hh  (fun c => ?_) (fun c => ?_)
  · rw [if_pos c] at hf
    exact mr_333_140 hh hf k
  · rw [if_neg c] at hf
    exact mr_333_103 hh hf k
def mf_333_94 (N : Nat)  (s : mS) : mO := mf_333_289 N  s
theorem mr_333_94 {X : Nat → Option zz_C} {h : zz_H} (hh : 111 ≤ h.length) {d : Nat} {N : Nat} {Q : Option Value → zz_H → Prop}  {s s' : mS} {v : Option Value} (hf : mf_333_94 N  s = some (s', v)) (k : Q v (mH h s')) : zz_E zp_P zt_tf zt_fd X (d + 5) zm_333 94 [] [] (mH h s) Q := by
  unfold mf_333_94 at hf
  exact mb_333_94 hh  (mr_333_289 hh hf k)
def mf_333_88 (N : Nat) (x3 : Int32) (s : mS) : mO := mo_bv (mf_305 N 1 x3 s) (fun s1 => mf_333_94 N  s1)
theorem mr_333_88 {X : Nat → Option zz_C} {h : zz_H} (hh : 111 ≤ h.length) {d : Nat} {N : Nat} {Q : Option Value → zz_H → Prop} {x3 : Int32} {s s' : mS} {v : Option Value} (hf : mf_333_88 N x3 s = some (s', v)) (k : Q v (mH h s')) : zz_E zp_P zt_tf zt_fd X (d + 5) zm_333 88 [(0, .ref 61), (3, .int x3)] [] (mH h s) Q := by
  unfold mf_333_88 at hf
  obtain ⟨s1, e, hf⟩ := mo_bv_ok hf
  exact mb_333_88 (d := d + 4) hh  (mr_305 (d := d + 1) hh e (mr_333_94 hh hf k))
def mf_333_82 (N : Nat) (rc : Nat → Int32 → Int32 → Int32 → mS → mO) (x2 : Int32) (x3 : Int32) (x5 : Int32) (s : mS) : mO := rc 0 x2 x3 (x5 + 1) s
theorem mr_333_82 {X : Nat → Option zz_C} {h : zz_H} (hh : 111 ≤ h.length) {d : Nat} {N : Nat} {rc : Nat → Int32 → Int32 → Int32 → mS → mO} (hrc0 : ∀ {Q : Option Value → zz_H → Prop} {x2 : Int32} {x3 : Int32} {x5 : Int32} {s s' : mS} {v : Option Value}, rc 0 x2 x3 x5 s = some (s', v) → Q v (mH h s') → zz_E zp_P zt_tf zt_fd X (d + 5) zm_333 56 [(0, .ref 61), (2, .int x2), (3, .int x3), (5, .int x5)] [] (mH h s) Q) {Q : Option Value → zz_H → Prop} {x2 : Int32} {x3 : Int32} {x5 : Int32} {s s' : mS} {v : Option Value} (hf : mf_333_82 N rc x2 x3 x5 s = some (s', v)) (k : Q v (mH h s')) : zz_E zp_P zt_tf zt_fd X (d + 5) zm_333 82 [(0, .ref 61), (2, .int x2), (3, .int x3), (5, .int x5)] [] (mH h s) Q := by
  unfold mf_333_82 at hf
  exact mb_333_82 hh  (hrc0 hf k)
def mf_333_79 (N : Nat) (rc : Nat → Int32 → Int32 → Int32 → mS → mO) (x2 : Int32) (x3 : Int32) (x5 : Int32) (y1 : Int32) (y2 : Int32) (s : mS) : mO := mo_bv (mf_291 N y1 y2 s) (fun s1 => mf_333_82 N rc x2 x3 x5 s1)
theorem mr_333_79 {X : Nat → Option zz_C} {h : zz_H} (hh : 111 ≤ h.length) {d : Nat} {N : Nat} {rc : Nat → Int32 → Int32 → Int32 → mS → mO} (hrc0 : ∀ {Q : Option Value → zz_H → Prop} {x2 : Int32} {x3 : Int32} {x5 : Int32} {s s' : mS} {v : Option Value}, rc 0 x2 x3 x5 s = some (s', v) → Q v (mH h s') → zz_E zp_P zt_tf zt_fd X (d + 5) zm_333 56 [(0, .ref 61), (2, .int x2), (3, .int x3), (5, .int x5)] [] (mH h s) Q) {Q : Option Value → zz_H → Prop} {x2 : Int32} {x3 : Int32} {x5 : Int32} {y1 : Int32} {y2 : Int32} {s s' : mS} {v : Option Value} (hf : mf_333_79 N rc x2 x3 x5 y1 y2 s = some (s', v)) (k : Q v (mH h s')) : zz_E zp_P zt_tf zt_fd X (d + 5) zm_333 79 [(0, .ref 61), (2, .int x2), (3, .int x3), (5, .int x5)] [.int y2, .int y1, .ref 61] (mH h s) Q := by
  unfold mf_333_79 at hf
  obtain ⟨s1, e, hf⟩ := mo_bv_ok hf
  exact mb_333_79 (d := d + 4) hh  (mr_291 (d := d + 4) hh e (mr_333_82 hh hrc0 hf k))
def mf_333_76 (N : Nat) (rc : Nat → Int32 → Int32 → Int32 → mS → mO) (x2 : Int32) (x3 : Int32) (x5 : Int32) (y1 : Int32) (y3 : Int32) (s : mS) : mO := mo_bi (mf_77 N y3 s) (fun s1 y => mf_333_79 N rc x2 x3 x5 y1 y s1)
theorem mr_333_76 {X : Nat → Option zz_C} {h : zz_H} (hh : 111 ≤ h.length) {d : Nat} {N : Nat} {rc : Nat → Int32 → Int32 → Int32 → mS → mO} (hrc0 : ∀ {Q : Option Value → zz_H → Prop} {x2 : Int32} {x3 : Int32} {x5 : Int32} {s s' : mS} {v : Option Value}, rc 0 x2 x3 x5 s = some (s', v) → Q v (mH h s') → zz_E zp_P zt_tf zt_fd X (d + 5) zm_333 56 [(0, .ref 61), (2, .int x2), (3, .int x3), (5, .int x5)] [] (mH h s) Q) {Q : Option Value → zz_H → Prop} {x2 : Int32} {x3 : Int32} {x5 : Int32} {y1 : Int32} {y3 : Int32} {s s' : mS} {v : Option Value} (hf : mf_333_76 N rc x2 x3 x5 y1 y3 s = some (s', v)) (k : Q v (mH h s')) : zz_E zp_P zt_tf zt_fd X (d + 5) zm_333 76 [(0, .ref 61), (2, .int x2), (3, .int x3), (5, .int x5)] [.int y3, .ref 61, .int y1, .ref 61] (mH h s) Q := by
  unfold mf_333_76 at hf
  obtain ⟨s1, y, e, hf⟩ := mo_bi_ok hf
  exact mb_333_76 (d := d + 4) hh  (mr_77 (d := d + 4) hh e (mr_333_79 hh hrc0 hf k))
def mf_333_66 (N : Nat) (rc : Nat → Int32 → Int32 → Int32 → mS → mO) (x2 : Int32) (x3 : Int32) (x5 : Int32) (s : mS) : mO := mo_bi (mf_294 N x2 x5 s) (fun s1 y => mf_333_76 N rc x2 x3 x5 0 y s1)
theorem mr_333_66 {X : Nat → Option zz_C} {h : zz_H} (hh : 111 ≤ h.length) {d : Nat} {N : Nat} {rc : Nat → Int32 → Int32 → Int32 → mS → mO} (hrc0 : ∀ {Q : Option Value → zz_H → Prop} {x2 : Int32} {x3 : Int32} {x5 : Int32} {s s' : mS} {v : Option Value}, rc 0 x2 x3 x5 s = some (s', v) → Q v (mH h s') → zz_E zp_P zt_tf zt_fd X (d + 5) zm_333 56 [(0, .ref 61), (2, .int x2), (3, .int x3), (5, .int x5)] [] (mH h s) Q) {Q : Option Value → zz_H → Prop} {x2 : Int32} {x3 : Int32} {x5 : Int32} {s s' : mS} {v : Option Value} (hf : mf_333_66 N rc x2 x3 x5 s = some (s', v)) (k : Q v (mH h s')) : zz_E zp_P zt_tf zt_fd X (d + 5) zm_333 66 [(0, .ref 61), (2, .int x2), (3, .int x3), (5, .int x5)] [] (mH h s) Q := by
  unfold mf_333_66 at hf
  obtain ⟨s1, y, e, hf⟩ := mo_bi_ok hf
  exact mb_333_66 (d := d + 4) hh  (mr_294 (d := d + 4) hh e (mr_333_76 hh hrc0 hf k))
def mf_333_63 (N : Nat) (rc : Nat → Int32 → Int32 → Int32 → mS → mO) (x2 : Int32) (x3 : Int32) (x5 : Int32) (y0 : Int32) (y1 : Int32) (s : mS) : mO := if y1 ≤ y0 then mf_333_88 N x3 s else mf_333_66 N rc x2 x3 x5 s
theorem mr_333_63 {X : Nat → Option zz_C} {h : zz_H} (hh : 111 ≤ h.length) {d : Nat} {N : Nat} {rc : Nat → Int32 → Int32 → Int32 → mS → mO} (hrc0 : ∀ {Q : Option Value → zz_H → Prop} {x2 : Int32} {x3 : Int32} {x5 : Int32} {s s' : mS} {v : Option Value}, rc 0 x2 x3 x5 s = some (s', v) → Q v (mH h s') → zz_E zp_P zt_tf zt_fd X (d + 5) zm_333 56 [(0, .ref 61), (2, .int x2), (3, .int x3), (5, .int x5)] [] (mH h s) Q) {Q : Option Value → zz_H → Prop} {x2 : Int32} {x3 : Int32} {x5 : Int32} {y0 : Int32} {y1 : Int32} {s s' : mS} {v : Option Value} (hf : mf_333_63 N rc x2 x3 x5 y0 y1 s = some (s', v)) (k : Q v (mH h s')) : zz_E zp_P zt_tf zt_fd X (d + 5) zm_333 63 [(0, .ref 61), (2, .int x2), (3, .int x3), (5, .int x5)] [.int y1, .int y0] (mH h s) Q := by
  unfold mf_333_63 at hf
  refine mb_333_63 hh  (fun c => ?_) (fun c => ?_)
  · rw [if_pos c] at hf
    exact mr_333_88 hh hf k
  · rw [if_neg c] at hf
    exact mr_333_66 hh hrc0 hf k
def mf_333_56 (N : Nat) (rc : Nat → Int32 → Int32 → Int32 → mS → mO) (x2 : Int32) (x3 : Int32) (x5 : Int32) (s : mS) : mO := mo_bi (mf_77 N x2 s) (fun s1 y => mf_333_63 N rc x2 x3 x5 x5 y s1)
theorem mr_333_56 {X : Nat → Option zz_C} {h : zz_H} (hh : 111 ≤ h.length) {d : Nat} {N : Nat} {rc : Nat → Int32 → Int32 → Int32 → mS → mO} (hrc0 : ∀ {Q : Option Value → zz_H → Prop} {x2 : Int32} {x3 : Int32} {x5 : Int32} {s s' : mS} {v : Option Value}, rc 0 x2 x3 x5 s = some (s', v) → Q v (mH h s') → zz_E zp_P zt_tf zt_fd X (d + 5) zm_333 56 [(0, .ref 61), (2, .int x2), (3, .int x3), (5, .int x5)] [] (mH h s) Q) {Q : Option Value → zz_H → Prop} {x2 : Int32} {x3 : Int32} {x5 : Int32} {s s' : mS} {v : Option Value} (hf : mf_333_56 N rc x2 x3 x5 s = some (s', v)) (k : Q v (mH h s')) : zz_E zp_P zt_tf zt_fd X (d + 5) zm_333 56 [(0, .ref 61), (2, .int x2), (3, .int x3), (5, .int x5)] [] (mH h s) Q := by
  unfold mf_333_56 at hf
  obtain ⟨s1, y, e, hf⟩ := mo_bi_ok hf
  exact mb_333_56 (d := d + 4) hh  (mr_77 (d := d + 4) hh e (mr_333_63 hh hrc0 hf k))
def mf_333_L29 (N : Nat) : Nat → Nat → Int32 → Int32 → Int32 → mS → mO
  | 0, _, _, _, _, _ => none
  | n + 1, l, x2, x3, x5, s => if l = 0 then mf_333_56 N (mf_333_L29 N n) x2 x3 x5 s else none
theorem mr_333_L29 {X : Nat → Option zz_C} {h : zz_H} (hh : 111 ≤ h.length) {d : Nat} {N : Nat} : ∀ n : Nat, (∀ {Q : Option Value → zz_H → Prop} {x2 : Int32} {x3 : Int32} {x5 : Int32} {s s' : mS} {v : Option Value}, mf_333_L29 N n 0 x2 x3 x5 s = some (s', v) → Q v (mH h s') → zz_E zp_P zt_tf zt_fd X (d + 5) zm_333 56 [(0, .ref 61), (2, .int x2), (3, .int x3), (5, .int x5)] [] (mH h s) Q) := by
  intro n
  induction n with
  | zero => exact (fun hf _ => by cases hf)
  | succ n ih =>
    have h0 := @ih
    intro Q _ _ _ s s' v hf k
    unfold mf_333_L29 at hf
    rw [if_pos rfl] at hf
    exact mr_333_56 hh h0 hf k
def mf_333_53 (N : Nat) (x2 : Int32) (x3 : Int32) (s : mS) : mO := mf_333_L29 N N 0 x2 x3 0 s
theorem mr_333_53 {X : Nat → Option zz_C} {h : zz_H} (hh : 111 ≤ h.length) {d : Nat} {N : Nat} {Q : Option Value → zz_H → Prop} {x2 : Int32} {x3 : Int32} {s s' : mS} {v : Option Value} (hf : mf_333_53 N x2 x3 s = some (s', v)) (k : Q v (mH h s')) : zz_E zp_P zt_tf zt_fd X (d + 5) zm_333 53 [(0, .ref 61), (2, .int x2), (3, .int x3)] [] (mH h s) Q := by
  unfold mf_333_53 at hf
  exact mb_333_53 hh  (mr_333_L29 hh N hf k)
def mf_333_47 (N : Nat) (x1 : Int32) (x2 : Int32) (x3 : Int32) (x4 : Int32) (s : mS) : mO := if ¬ x1 = 7 then mf_333_97 N x1 x2 x3 x4 s else mf_333_53 N x2 x3 s
theorem mr_333_47 {X : Nat → Option zz_C} {h : zz_H} (hh : 111 ≤ h.length) {d : Nat} {N : Nat} {Q : Option Value → zz_H → Prop} {x1 : Int32} {x2 : Int32} {x3 : Int32} {x4 : Int32} {s s' : mS} {v : Option Value} (hf : mf_333_47 N x1 x2 x3 x4 s = some (s', v)) (k : Q v (mH h s')) : zz_E zp_P zt_tf zt_fd X (d + 5) zm_333 47 [(0, .ref 61), (1, .int x1), (2, .int x2), (3, .int x3), (4, .int x4)] [] (mH h s) Q := by
  unfold mf_333_47 at hf
  refine mb_333_47 hh  (fun c => ?_) (fun c => ?_)
  · rw [if_pos c] at hf
    exact mr_333_97 hh hf k
  · rw [if_neg c] at hf
    exact mr_333_53 hh hf k
def mf_333_44 (N : Nat)  (s : mS) : mO := mf_333_289 N  s
theorem mr_333_44 {X : Nat → Option zz_C} {h : zz_H} (hh : 111 ≤ h.length) {d : Nat} {N : Nat} {Q : Option Value → zz_H → Prop}  {s s' : mS} {v : Option Value} (hf : mf_333_44 N  s = some (s', v)) (k : Q v (mH h s')) : zz_E zp_P zt_tf zt_fd X (d + 5) zm_333 44 [] [] (mH h s) Q := by
  unfold mf_333_44 at hf
  exact mb_333_44 hh  (mr_333_289 hh hf k)
def mf_333_37 (N : Nat) (x4 : Int32) (s : mS) : mO := mo_bv (mf_291 N 0 x4 s) (fun s1 => mf_333_44 N  s1)
theorem mr_333_37 {X : Nat → Option zz_C} {h : zz_H} (hh : 111 ≤ h.length) {d : Nat} {N : Nat} {Q : Option Value → zz_H → Prop} {x4 : Int32} {s s' : mS} {v : Option Value} (hf : mf_333_37 N x4 s = some (s', v)) (k : Q v (mH h s')) : zz_E zp_P zt_tf zt_fd X (d + 5) zm_333 37 [(0, .ref 61), (4, .int x4)] [] (mH h s) Q := by
  unfold mf_333_37 at hf
  obtain ⟨s1, e, hf⟩ := mo_bv_ok hf
  exact mb_333_37 (d := d + 4) hh  (mr_291 (d := d + 4) hh e (mr_333_44 hh hf k))
def mf_333_31 (N : Nat) (x1 : Int32) (x2 : Int32) (x3 : Int32) (x4 : Int32) (s : mS) : mO := if ¬ x1 = 8 then mf_333_47 N x1 x2 x3 x4 s else mf_333_37 N x4 s
theorem mr_333_31 {X : Nat → Option zz_C} {h : zz_H} (hh : 111 ≤ h.length) {d : Nat} {N : Nat} {Q : Option Value → zz_H → Prop} {x1 : Int32} {x2 : Int32} {x3 : Int32} {x4 : Int32} {s s' : mS} {v : Option Value} (hf : mf_333_31 N x1 x2 x3 x4 s = some (s', v)) (k : Q v (mH h s')) : zz_E zp_P zt_tf zt_fd X (d + 5) zm_333 31 [(0, .ref 61), (1, .int x1), (2, .int x2), (3, .int x3), (4, .int x4)] [] (mH h s) Q := by
  unfold mf_333_31 at hf
  refine mb_333_31 hh  (fun c => ?_) (fun c => ?_)
  · rw [if_pos c] at hf
    exact mr_333_47 hh hf k
  · rw [if_neg c] at hf
    exact mr_333_37 hh hf k
def mf_333_28 (N : Nat)  (s : mS) : mO := mf_333_289 N  s
theorem mr_333_28 {X : Nat → Option zz_C} {h : zz_H} (hh : 111 ≤ h.length) {d : Nat} {N : Nat} {Q : Option Value → zz_H → Prop}  {s s' : mS} {v : Option Value} (hf : mf_333_28 N  s = some (s', v)) (k : Q v (mH h s')) : zz_E zp_P zt_tf zt_fd X (d + 5) zm_333 28 [] [] (mH h s) Q := by
  unfold mf_333_28 at hf
  exact mb_333_28 hh  (mr_333_289 hh hf k)
def mf_333_25 (N : Nat) (y1 : Int32) (y2 : Int32) (s : mS) : mO := mo_bv (mf_291 N y1 y2 s) (fun s1 => mf_333_28 N  s1)
theorem mr_333_25 {X : Nat → Option zz_C} {h : zz_H} (hh : 111 ≤ h.length) {d : Nat} {N : Nat} {Q : Option Value → zz_H → Prop} {y1 : Int32} {y2 : Int32} {s s' : mS} {v : Option Value} (hf : mf_333_25 N y1 y2 s = some (s', v)) (k : Q v (mH h s')) : zz_E zp_P zt_tf zt_fd X (d + 5) zm_333 25 [] [.int y2, .int y1, .ref 61] (mH h s) Q := by
  unfold mf_333_25 at hf
  obtain ⟨s1, e, hf⟩ := mo_bv_ok hf
  exact mb_333_25 (d := d + 4) hh  (mr_291 (d := d + 4) hh e (mr_333_28 hh hf k))
def mf_333_18 (N : Nat) (x2 : Int32) (s : mS) : mO := mo_bi (mf_77 N x2 s) (fun s1 y => mf_333_25 N 0 y s1)
theorem mr_333_18 {X : Nat → Option zz_C} {h : zz_H} (hh : 111 ≤ h.length) {d : Nat} {N : Nat} {Q : Option Value → zz_H → Prop} {x2 : Int32} {s s' : mS} {v : Option Value} (hf : mf_333_18 N x2 s = some (s', v)) (k : Q v (mH h s')) : zz_E zp_P zt_tf zt_fd X (d + 5) zm_333 18 [(0, .ref 61), (2, .int x2)] [] (mH h s) Q := by
  unfold mf_333_18 at hf
  obtain ⟨s1, y, e, hf⟩ := mo_bi_ok hf
  exact mb_333_18 (d := d + 4) hh  (mr_77 (d := d + 4) hh e (mr_333_25 hh hf k))
def mf_333_5 (N : Nat) (x1 : Int32) (x2 : Int32) (x3 : Int32) (y0 : Int32) (s : mS) : mO := if ¬ x1 = 6 then mf_333_31 N x1 x2 x3 y0 (mI s 51 x3) else mf_333_18 N x2 (mI s 51 x3)
theorem mr_333_5 {X : Nat → Option zz_C} {h : zz_H} (hh : 111 ≤ h.length) {d : Nat} {N : Nat} {Q : Option Value → zz_H → Prop} {x1 : Int32} {x2 : Int32} {x3 : Int32} {y0 : Int32} {s s' : mS} {v : Option Value} (hf : mf_333_5 N x1 x2 x3 y0 s = some (s', v)) (k : Q v (mH h s')) : zz_E zp_P zt_tf zt_fd X (d + 5) zm_333 5 [(0, .ref 61), (1, .int x1), (2, .int x2), (3, .int x3)] [.int y0] (mH h s) Q := by
  unfold mf_333_5 at hf
  refine mb_333_5 hh  (fun c => ?_) (fun c => ?_)
  · rw [if_pos c] at hf
    exact mr_333_31 hh hf k
  · rw [if_neg c] at hf
    exact mr_333_18 hh hf k
def mf_333_0 (N : Nat) (x1 : Int32) (x2 : Int32) (x3 : Int32) (s : mS) : mO := mo_bi (mf_292 N x3 s) (fun s1 y => mf_333_5 N x1 x2 x3 y s1)
theorem mr_333_0 {X : Nat → Option zz_C} {h : zz_H} (hh : 111 ≤ h.length) {d : Nat} {N : Nat} {Q : Option Value → zz_H → Prop} {x1 : Int32} {x2 : Int32} {x3 : Int32} {s s' : mS} {v : Option Value} (hf : mf_333_0 N x1 x2 x3 s = some (s', v)) (k : Q v (mH h s')) : zz_E zp_P zt_tf zt_fd X (d + 5) zm_333 0 [(0, .ref 61), (1, .int x1), (2, .int x2), (3, .int x3)] [] (mH h s) Q := by
  unfold mf_333_0 at hf
  obtain ⟨s1, y, e, hf⟩ := mo_bi_ok hf
  exact mb_333_0 (d := d + 4) hh  (mr_292 (d := d + 4) hh e (mr_333_5 hh hf k))
/-- ofOneThing -/
def mf_333 (N : Nat) (x1 : Int32) (x2 : Int32) (x3 : Int32) (s : mS) : mO := mf_333_0 N x1 x2 x3 s
theorem mr_333 {X : Nat → Option zz_C} {h : zz_H} (hh : 111 ≤ h.length) {d : Nat} {N : Nat} {Q : Option Value → zz_H → Prop} {x1 : Int32} {x2 : Int32} {x3 : Int32} {s s' : mS} {v : Option Value} (hf : mf_333 N x1 x2 x3 s = some (s', v)) (k : Q v (mH h s')) : zz_E zp_P zt_tf zt_fd X (d + 5) zm_333 0 [(0, .ref 61), (1, .int x1), (2, .int x2), (3, .int x3)] [] (mH h s) Q := by
  unfold mf_333 at hf
  exact zz_E.weak (mr_333_0 hh hf k) rfl ⟨rfl, rfl, rfl, rfl, trivial⟩
/-! most (II)I -/
theorem mb_326_0 {X : Nat → Option zz_C} {h : zz_H} (hh : 111 ≤ h.length) {s : mS} {d : Nat} {Q : Option Value → zz_H → Prop} {x0 : Int32} {x1 : Int32} (k1 : x0 ≤ x1 → zz_E zp_P zt_tf zt_fd X d zm_326 9 [(1, .int x1)] [] (mH h s) Q) (k2 : ¬ x0 ≤ x1 → zz_E zp_P zt_tf zt_fd X d zm_326 5 [(0, .int x0)] [] (mH h s) Q) : zz_E zp_P zt_tf zt_fd X d zm_326 0 [(0, .int x0), (1, .int x1)] [] (mH h s) Q := by
  refine zz_E.n 1 rfl rfl rfl ?_
  refine zz_E.n 2 rfl rfl rfl ?_
  refine zz_E.b2 9 5 (A := x0 ≤ x1) rfl rfl (by decide) rfl rfl (fun c => ?_) (fun c => ?_)
  · exact zz_E.weak (k1 c) rfl ⟨rfl, trivial⟩
  · exact zz_E.weak (k2 c) rfl ⟨rfl, trivial⟩
theorem mb_326_5 {X : Nat → Option zz_C} {h : zz_H} (hh : 111 ≤ h.length) {s : mS} {d : Nat} {Q : Option Value → zz_H → Prop} {x0 : Int32} (k : zz_E zp_P zt_tf zt_fd X d zm_326 10 [] [.int x0] (mH h s) Q) : zz_E zp_P zt_tf zt_fd X d zm_326 5 [(0, .int x0)] [] (mH h s) Q := by
  refine zz_E.n 6 rfl rfl rfl ?_
  refine zz_E.n 10 rfl rfl rfl ?_
  exact zz_E.weak k rfl trivial
theorem mb_326_9 {X : Nat → Option zz_C} {h : zz_H} (hh : 111 ≤ h.length) {s : mS} {d : Nat} {Q : Option Value → zz_H → Prop} {x1 : Int32} (k : zz_E zp_P zt_tf zt_fd X d zm_326 10 [] [.int x1] (mH h s) Q) : zz_E zp_P zt_tf zt_fd X d zm_326 9 [(1, .int x1)] [] (mH h s) Q := by
  refine zz_E.n 10 rfl rfl rfl ?_
  exact zz_E.weak k rfl trivial
theorem mb_326_10 {X : Nat → Option zz_C} {h : zz_H} (hh : 111 ≤ h.length) {s : mS} {d : Nat} {Q : Option Value → zz_H → Prop} {y0 : Int32} (k : Q (some (.int y0)) (mH h s)) : zz_E zp_P zt_tf zt_fd X d zm_326 10 [] [.int y0] (mH h s) Q := by
  refine zz_E.ret rfl rfl rfl ?_
  exact k
def mf_326_10 (N : Nat) (y0 : Int32) (s : mS) : mO := some (s, (some (.int y0)))
theorem mr_326_10 {X : Nat → Option zz_C} {h : zz_H} (hh : 111 ≤ h.length) {d : Nat} {N : Nat} {Q : Option Value → zz_H → Prop} {y0 : Int32} {s s' : mS} {v : Option Value} (hf : mf_326_10 N y0 s = some (s', v)) (k : Q v (mH h s')) : zz_E zp_P zt_tf zt_fd X (d + 0) zm_326 10 [] [.int y0] (mH h s) Q := by
  unfold mf_326_10 at hf
  cases hf
  exact mb_326_10 hh  k
def mf_326_9 (N : Nat) (x1 : Int32) (s : mS) : mO := mf_326_10 N x1 s
theorem mr_326_9 {X : Nat → Option zz_C} {h : zz_H} (hh : 111 ≤ h.length) {d : Nat} {N : Nat} {Q : Option Value → zz_H → Prop} {x1 : Int32} {s s' : mS} {v : Option Value} (hf : mf_326_9 N x1 s = some (s', v)) (k : Q v (mH h s')) : zz_E zp_P zt_tf zt_fd X (d + 0) zm_326 9 [(1, .int x1)] [] (mH h s) Q := by
  unfold mf_326_9 at hf
  exact mb_326_9 hh  (mr_326_10 hh hf k)
def mf_326_5 (N : Nat) (x0 : Int32) (s : mS) : mO := mf_326_10 N x0 s
theorem mr_326_5 {X : Nat → Option zz_C} {h : zz_H} (hh : 111 ≤ h.length) {d : Nat} {N : Nat} {Q : Option Value → zz_H → Prop} {x0 : Int32} {s s' : mS} {v : Option Value} (hf : mf_326_5 N x0 s = some (s', v)) (k : Q v (mH h s')) : zz_E zp_P zt_tf zt_fd X (d + 0) zm_326 5 [(0, .int x0)] [] (mH h s) Q := by
  unfold mf_326_5 at hf
  exact mb_326_5 hh  (mr_326_10 hh hf k)
def mf_326_0 (N : Nat) (x0 : Int32) (x1 : Int32) (s : mS) : mO := if x0 ≤ x1 then mf_326_9 N x1 s else mf_326_5 N x0 s
theorem mr_326_0 {X : Nat → Option zz_C} {h : zz_H} (hh : 111 ≤ h.length) {d : Nat} {N : Nat} {Q : Option Value → zz_H → Prop} {x0 : Int32} {x1 : Int32} {s s' : mS} {v : Option Value} (hf : mf_326_0 N x0 x1 s = some (s', v)) (k : Q v (mH h s')) : zz_E zp_P zt_tf zt_fd X (d + 0) zm_326 0 [(0, .int x0), (1, .int x1)] [] (mH h s) Q := by
  unfold mf_326_0 at hf
  refine mb_326_0 hh  (fun c => ?_) (fun c => ?_)
  · rw [if_pos c] at hf
    exact mr_326_9 hh hf k
  · rw [if_neg c] at hf
    exact mr_326_5 hh hf k
/-- most -/
def mf_326 (N : Nat) (x0 : Int32) (x1 : Int32) (s : mS) : mO := mf_326_0 N x0 x1 s
theorem mr_326 {X : Nat → Option zz_C} {h : zz_H} (hh : 111 ≤ h.length) {d : Nat} {N : Nat} {Q : Option Value → zz_H → Prop} {x0 : Int32} {x1 : Int32} {s s' : mS} {v : Option Value} (hf : mf_326 N x0 x1 s = some (s', v)) (k : Q v (mH h s')) : zz_E zp_P zt_tf zt_fd X (d + 0) zm_326 0 [(0, .int x0), (1, .int x1)] [] (mH h s) Q := by
  unfold mf_326 at hf
  exact zz_E.weak (mr_326_0 hh hf k) rfl ⟨rfl, rfl, trivial⟩
