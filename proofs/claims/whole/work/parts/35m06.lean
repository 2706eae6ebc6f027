/-! statement ()V -/
theorem mb_279_0 {X : Nat → Option zz_C} {h : zz_H} (hh : 111 ≤ h.length) {s : mS} {d : Nat} {Q : Option Value → zz_H → Prop}  (k : zz_E zp_P zt_tf zt_fd X d zm_265 0 [(0, .ref 61)] [] (mH h s) (fun v h' => zz_E zp_P zt_tf zt_fd X (d + 1) zm_279 9 [(0, .ref 61), (1, .int (s.1 6))] (v.toList ++ []) h' Q)) : zz_E zp_P zt_tf zt_fd X (d + 1) zm_279 0 [(0, .ref 61)] [] (mH h s) Q := by
  refine zz_E.n 1 rfl rfl rfl ?_
  refine mE_g hh 4 (v := .int (s.1 6)) rfl rfl rfl ?_
  refine zz_E.n 5 rfl rfl rfl ?_
  refine zz_E.n 6 rfl rfl rfl ?_
  refine mE_cv hh 9 (as := []) rfl rfl (Nat.le_of_ble_eq_true rfl) (Nat.le_of_ble_eq_true rfl) rfl (Nat.le_of_ble_eq_true rfl) rfl ?_
  refine zz_E.mono k ?_
  intro v h' hE
  exact zz_E.weak hE rfl ⟨rfl, rfl, trivial⟩
theorem mb_279_9 {X : Nat → Option zz_C} {h : zz_H} (hh : 111 ≤ h.length) {s : mS} {d : Nat} {Q : Option Value → zz_H → Prop} {x1 : Int32} {y0 : Int32} (k1 : ¬ (s.1 5) = 1 → zz_E zp_P zt_tf zt_fd X d zm_279 38 [(0, .ref 61)] [] (mH h s) Q) (k2 : ¬ ¬ (s.1 5) = 1 → zz_E zp_P zt_tf zt_fd X d zm_279 18 [(0, .ref 61), (1, .int x1), (2, .int y0)] [] (mH h s) Q) : zz_E zp_P zt_tf zt_fd X d zm_279 9 [(0, .ref 61), (1, .int x1)] [.int y0] (mH h s) Q := by
  refine zz_E.n 10 rfl rfl rfl ?_
  refine zz_E.n 11 rfl rfl rfl ?_
  refine mE_g hh 14 (v := .int (s.1 5)) rfl rfl rfl ?_
  refine zz_E.c 15 (.int 1) rfl rfl rfl rfl ?_
  refine zz_E.b2 38 18 (A := ¬ (s.1 5) = 1) rfl (zz_cond_ne _ _) (by decide) rfl rfl (fun c => ?_) (fun c => ?_)
  · exact zz_E.weak (k1 c) rfl ⟨rfl, trivial⟩
  · exact zz_E.weak (k2 c) rfl ⟨rfl, rfl, rfl, trivial⟩
theorem mb_279_18 {X : Nat → Option zz_C} {h : zz_H} (hh : 111 ≤ h.length) {s : mS} {d : Nat} {Q : Option Value → zz_H → Prop} {x1 : Int32} {x2 : Int32} (k1 : x2 = 0 → zz_E zp_P zt_tf zt_fd X d zm_279 38 [(0, .ref 61)] [] (mH h s) Q) (k2 : ¬ x2 = 0 → zz_E zp_P zt_tf zt_fd X d zm_279 22 [(0, .ref 61), (1, .int x1), (2, .int x2)] [] (mH h s) Q) : zz_E zp_P zt_tf zt_fd X d zm_279 18 [(0, .ref 61), (1, .int x1), (2, .int x2)] [] (mH h s) Q := by
  refine zz_E.n 19 rfl rfl rfl ?_
  refine zz_E.b1 38 22 (A := x2 = 0) rfl rfl (by decide) rfl rfl (fun c => ?_) (fun c => ?_)
  · exact zz_E.weak (k1 c) rfl ⟨rfl, trivial⟩
  · exact zz_E.weak (k2 c) rfl ⟨rfl, rfl, rfl, trivial⟩
theorem mb_279_22 {X : Nat → Option zz_C} {h : zz_H} (hh : 111 ≤ h.length) {s : mS} {d : Nat} {Q : Option Value → zz_H → Prop} {x1 : Int32} {x2 : Int32} (k1 : x2 = 2 → zz_E zp_P zt_tf zt_fd X d zm_279 38 [(0, .ref 61)] [] (mH h s) Q) (k2 : ¬ x2 = 2 → zz_E zp_P zt_tf zt_fd X d zm_279 27 [(0, .ref 61), (1, .int x1), (2, .int x2)] [] (mH h s) Q) : zz_E zp_P zt_tf zt_fd X d zm_279 22 [(0, .ref 61), (1, .int x1), (2, .int x2)] [] (mH h s) Q := by
  refine zz_E.n 23 rfl rfl rfl ?_
  refine zz_E.c 24 (.int 2) rfl rfl rfl rfl ?_
  refine zz_E.b2 38 27 (A := x2 = 2) rfl rfl (by decide) rfl rfl (fun c => ?_) (fun c => ?_)
  · exact zz_E.weak (k1 c) rfl ⟨rfl, trivial⟩
  · exact zz_E.weak (k2 c) rfl ⟨rfl, rfl, rfl, trivial⟩
theorem mb_279_27 {X : Nat → Option zz_C} {h : zz_H} (hh : 111 ≤ h.length) {s : mS} {d : Nat} {Q : Option Value → zz_H → Prop} {x1 : Int32} {x2 : Int32} (k1 : x2 = 5 → zz_E zp_P zt_tf zt_fd X d zm_279 38 [(0, .ref 61)] [] (mH h s) Q) (k2 : ¬ x2 = 5 → zz_E zp_P zt_tf zt_fd X d zm_279 32 [(0, .ref 61), (1, .int x1), (2, .int x2)] [] (mH h s) Q) : zz_E zp_P zt_tf zt_fd X d zm_279 27 [(0, .ref 61), (1, .int x1), (2, .int x2)] [] (mH h s) Q := by
  refine zz_E.n 28 rfl rfl rfl ?_
  refine zz_E.c 29 (.int 5) rfl rfl rfl rfl ?_
  refine zz_E.b2 38 32 (A := x2 = 5) rfl rfl (by decide) rfl rfl (fun c => ?_) (fun c => ?_)
  · exact zz_E.weak (k1 c) rfl ⟨rfl, trivial⟩
  · exact zz_E.weak (k2 c) rfl ⟨rfl, rfl, rfl, trivial⟩
theorem mb_279_32 {X : Nat → Option zz_C} {h : zz_H} (hh : 111 ≤ h.length) {s : mS} {d : Nat} {Q : Option Value → zz_H → Prop} {x1 : Int32} {x2 : Int32} (k1 : ¬ x2 = 10 → zz_E zp_P zt_tf zt_fd X d zm_279 43 [(0, .ref 61), (1, .int x1), (2, .int x2)] [] (mH h s) Q) (k2 : ¬ ¬ x2 = 10 → zz_E zp_P zt_tf zt_fd X d zm_279 38 [(0, .ref 61)] [] (mH h s) Q) : zz_E zp_P zt_tf zt_fd X d zm_279 32 [(0, .ref 61), (1, .int x1), (2, .int x2)] [] (mH h s) Q := by
  refine zz_E.n 33 rfl rfl rfl ?_
  refine zz_E.c 35 (.int 10) rfl rfl rfl rfl ?_
  refine zz_E.b2 43 38 (A := ¬ x2 = 10) rfl (zz_cond_ne _ _) (by decide) rfl rfl (fun c => ?_) (fun c => ?_)
  · exact zz_E.weak (k1 c) rfl ⟨rfl, rfl, rfl, trivial⟩
  · exact zz_E.weak (k2 c) rfl ⟨rfl, trivial⟩
theorem mb_279_38 {X : Nat → Option zz_C} {h : zz_H} (hh : 111 ≤ h.length) {s : mS} {d : Nat} {Q : Option Value → zz_H → Prop}  (k : zz_E zp_P zt_tf zt_fd X d zm_262 0 [(0, .ref 61)] [] (mH h s) (fun v h' => zz_E zp_P zt_tf zt_fd X (d + 1) zm_279 42 [] (v.toList ++ []) h' Q)) : zz_E zp_P zt_tf zt_fd X (d + 1) zm_279 38 [(0, .ref 61)] [] (mH h s) Q := by
  refine zz_E.n 39 rfl rfl rfl ?_
  refine mE_cv hh 42 (as := []) rfl rfl (Nat.le_of_ble_eq_true rfl) (Nat.le_of_ble_eq_true rfl) rfl (Nat.le_of_ble_eq_true rfl) rfl ?_
  refine zz_E.mono k ?_
  intro v h' hE
  exact zz_E.weak hE rfl trivial
theorem mb_279_42 {X : Nat → Option zz_C} {h : zz_H} (hh : 111 ≤ h.length) {s : mS} {d : Nat} {Q : Option Value → zz_H → Prop}  (k : Q none (mH h s)) : zz_E zp_P zt_tf zt_fd X d zm_279 42 [] [] (mH h s) Q := by
  refine zz_E.ret rfl rfl rfl ?_
  exact k
theorem mb_279_43 {X : Nat → Option zz_C} {h : zz_H} (hh : 111 ≤ h.length) {s : mS} {d : Nat} {Q : Option Value → zz_H → Prop} {x1 : Int32} {x2 : Int32} (k : zz_E zp_P zt_tf zt_fd X d zm_271 0 [(0, .ref 61), (1, .int 1), (2, .int 0), (3, .int 0), (4, .int x1)] [] (mH h s) (fun v h' => zz_E zp_P zt_tf zt_fd X (d + 1) zm_279 51 [(0, .ref 61), (1, .int x1), (2, .int x2)] (v.toList ++ []) h' Q)) : zz_E zp_P zt_tf zt_fd X (d + 1) zm_279 43 [(0, .ref 61), (1, .int x1), (2, .int x2)] [] (mH h s) Q := by
  refine zz_E.n 44 rfl rfl rfl ?_
  refine zz_E.c 45 (.int 1) rfl rfl rfl rfl ?_
  refine zz_E.c 46 (.int 0) rfl rfl rfl rfl ?_
  refine zz_E.c 47 (.int 0) rfl rfl rfl rfl ?_
  refine zz_E.n 48 rfl rfl rfl ?_
  refine mE_cv hh 51 (as := []) rfl rfl (Nat.le_of_ble_eq_true rfl) (Nat.le_of_ble_eq_true rfl) rfl (Nat.le_of_ble_eq_true rfl) rfl ?_
  refine zz_E.mono k ?_
  intro v h' hE
  exact zz_E.weak hE rfl ⟨rfl, rfl, rfl, trivial⟩
theorem mb_279_51 {X : Nat → Option zz_C} {h : zz_H} (hh : 111 ≤ h.length) {s : mS} {d : Nat} {Q : Option Value → zz_H → Prop} {x1 : Int32} {x2 : Int32} {y0 : Int32} (k1 : 11 ≤ x2 → zz_E zp_P zt_tf zt_fd X d zm_279 69 [(0, .ref 61), (1, .int x1)] [] (mH h s) Q) (k2 : ¬ 11 ≤ x2 → zz_E zp_P zt_tf zt_fd X d zm_279 58 [(0, .ref 61), (1, .int x1), (2, .int x2)] [] (mH h s) Q) : zz_E zp_P zt_tf zt_fd X d zm_279 51 [(0, .ref 61), (1, .int x1), (2, .int x2)] [.int y0] (mH h s) Q := by
  refine zz_E.n 52 rfl rfl rfl ?_
  refine zz_E.n 53 rfl rfl rfl ?_
  refine zz_E.c 55 (.int 11) rfl rfl rfl rfl ?_
  refine zz_E.b2 69 58 (A := 11 ≤ x2) rfl rfl (by decide) rfl rfl (fun c => ?_) (fun c => ?_)
  · exact zz_E.weak (k1 c) rfl ⟨rfl, rfl, trivial⟩
  · exact zz_E.weak (k2 c) rfl ⟨rfl, rfl, rfl, trivial⟩
theorem mb_279_58 {X : Nat → Option zz_C} {h : zz_H} (hh : 111 ≤ h.length) {s : mS} {d : Nat} {Q : Option Value → zz_H → Prop} {x1 : Int32} {x2 : Int32} (k1 : 0 ≤ x2 → zz_E zp_P zt_tf zt_fd X d zm_279 93 [(0, .ref 61), (1, .int x1), (2, .int x2)] [] (mH h s) Q) (k2 : ¬ 0 ≤ x2 → zz_E zp_P zt_tf zt_fd X d zm_279 62 [(0, .ref 61), (1, .int x1), (2, .int x2)] [] (mH h s) Q) : zz_E zp_P zt_tf zt_fd X d zm_279 58 [(0, .ref 61), (1, .int x1), (2, .int x2)] [] (mH h s) Q := by
  refine zz_E.n 59 rfl rfl rfl ?_
  refine zz_E.b1 93 62 (A := 0 ≤ x2) rfl rfl (by decide) rfl rfl (fun c => ?_) (fun c => ?_)
  · exact zz_E.weak (k1 c) rfl ⟨rfl, rfl, rfl, trivial⟩
  · exact zz_E.weak (k2 c) rfl ⟨rfl, rfl, rfl, trivial⟩
theorem mb_279_62 {X : Nat → Option zz_C} {h : zz_H} (hh : 111 ≤ h.length) {s : mS} {d : Nat} {Q : Option Value → zz_H → Prop} {x1 : Int32} {x2 : Int32} (k : zz_E zp_P zt_tf zt_fd X d zm_270 0 [(0, .ref 61)] [] (mH h s) (fun v h' => zz_E zp_P zt_tf zt_fd X (d + 1) zm_279 66 [(0, .ref 61), (1, .int x1), (2, .int x2)] (v.toList ++ []) h' Q)) : zz_E zp_P zt_tf zt_fd X (d + 1) zm_279 62 [(0, .ref 61), (1, .int x1), (2, .int x2)] [] (mH h s) Q := by
  refine zz_E.n 63 rfl rfl rfl ?_
  refine mE_cv hh 66 (as := []) rfl rfl (Nat.le_of_ble_eq_true rfl) (Nat.le_of_ble_eq_true rfl) rfl (Nat.le_of_ble_eq_true rfl) rfl ?_
  refine zz_E.mono k ?_
  intro v h' hE
  exact zz_E.weak hE rfl ⟨rfl, rfl, rfl, trivial⟩
theorem mb_279_66 {X : Nat → Option zz_C} {h : zz_H} (hh : 111 ≤ h.length) {s : mS} {d : Nat} {Q : Option Value → zz_H → Prop} {x1 : Int32} {x2 : Int32} {y0 : Int32} (k1 : y0 = 0 → zz_E zp_P zt_tf zt_fd X d zm_279 93 [(0, .ref 61), (1, .int x1), (2, .int x2)] [] (mH h s) Q) (k2 : ¬ y0 = 0 → zz_E zp_P zt_tf zt_fd X d zm_279 69 [(0, .ref 61), (1, .int x1)] [] (mH h s) Q) : zz_E zp_P zt_tf zt_fd X d zm_279 66 [(0, .ref 61), (1, .int x1), (2, .int x2)] [.int y0] (mH h s) Q := by
  refine zz_E.b1 93 69 (A := y0 = 0) rfl rfl (by decide) rfl rfl (fun c => ?_) (fun c => ?_)
  · exact zz_E.weak (k1 c) rfl ⟨rfl, rfl, rfl, trivial⟩
  · exact zz_E.weak (k2 c) rfl ⟨rfl, rfl, trivial⟩
theorem mb_279_69 {X : Nat → Option zz_C} {h : zz_H} (hh : 111 ≤ h.length) {s : mS} {d : Nat} {Q : Option Value → zz_H → Prop} {x1 : Int32} (k : zz_E zp_P zt_tf zt_fd X d zm_285 0 [(0, .ref 61), (1, .int 1)] [] (mH h s) (fun v h' => zz_E zp_P zt_tf zt_fd X (d + 1) zm_279 74 [(0, .ref 61), (1, .int x1)] (v.toList ++ []) h' Q)) : zz_E zp_P zt_tf zt_fd X (d + 1) zm_279 69 [(0, .ref 61), (1, .int x1)] [] (mH h s) Q := by
  refine zz_E.n 70 rfl rfl rfl ?_
  refine zz_E.c 71 (.int 1) rfl rfl rfl rfl ?_
  refine mE_cv hh 74 (as := []) rfl rfl (Nat.le_of_ble_eq_true rfl) (Nat.le_of_ble_eq_true rfl) rfl (Nat.le_of_ble_eq_true rfl) rfl ?_
  refine zz_E.mono k ?_
  intro v h' hE
  exact zz_E.weak hE rfl ⟨rfl, rfl, trivial⟩
theorem mb_279_74 {X : Nat → Option zz_C} {h : zz_H} (hh : 111 ≤ h.length) {s : mS} {d : Nat} {Q : Option Value → zz_H → Prop} {x1 : Int32} (k : zz_E zp_P zt_tf zt_fd X d zm_267 0 [(0, .ref 61), (1, .int 59)] [] (mH h s) (fun v h' => zz_E zp_P zt_tf zt_fd X (d + 1) zm_279 80 [(0, .ref 61), (1, .int x1)] (v.toList ++ []) h' Q)) : zz_E zp_P zt_tf zt_fd X (d + 1) zm_279 74 [(0, .ref 61), (1, .int x1)] [] (mH h s) Q := by
  refine zz_E.n 75 rfl rfl rfl ?_
  refine zz_E.c 77 (.int 59) rfl rfl rfl rfl ?_
  refine mE_cv hh 80 (as := []) rfl rfl (Nat.le_of_ble_eq_true rfl) (Nat.le_of_ble_eq_true rfl) rfl (Nat.le_of_ble_eq_true rfl) rfl ?_
  refine zz_E.mono k ?_
  intro v h' hE
  exact zz_E.weak hE rfl ⟨rfl, rfl, trivial⟩
theorem mb_279_80 {X : Nat → Option zz_C} {h : zz_H} (hh : 111 ≤ h.length) {s : mS} {d : Nat} {Q : Option Value → zz_H → Prop} {x1 : Int32} (k : zz_E zp_P zt_tf zt_fd X d zm_271 0 [(0, .ref 61), (1, .int 22), (2, .int 0), (3, .int 0), (4, .int x1)] [] (mH h s) (fun v h' => zz_E zp_P zt_tf zt_fd X (d + 1) zm_279 89 [] (v.toList ++ []) h' Q)) : zz_E zp_P zt_tf zt_fd X (d + 1) zm_279 80 [(0, .ref 61), (1, .int x1)] [] (mH h s) Q := by
  refine zz_E.n 81 rfl rfl rfl ?_
  refine zz_E.c 83 (.int 22) rfl rfl rfl rfl ?_
  refine zz_E.c 84 (.int 0) rfl rfl rfl rfl ?_
  refine zz_E.c 85 (.int 0) rfl rfl rfl rfl ?_
  refine zz_E.n 86 rfl rfl rfl ?_
  refine mE_cv hh 89 (as := []) rfl rfl (Nat.le_of_ble_eq_true rfl) (Nat.le_of_ble_eq_true rfl) rfl (Nat.le_of_ble_eq_true rfl) rfl ?_
  refine zz_E.mono k ?_
  intro v h' hE
  exact zz_E.weak hE rfl trivial
theorem mb_279_89 {X : Nat → Option zz_C} {h : zz_H} (hh : 111 ≤ h.length) {s : mS} {d : Nat} {Q : Option Value → zz_H → Prop} {y0 : Int32} (k : zz_E zp_P zt_tf zt_fd X d zm_279 318 [] [] (mH h s) Q) : zz_E zp_P zt_tf zt_fd X d zm_279 89 [] [.int y0] (mH h s) Q := by
  refine zz_E.n 90 rfl rfl rfl ?_
  refine zz_E.n 318 rfl rfl rfl ?_
  exact zz_E.weak k rfl trivial
theorem mb_279_93 {X : Nat → Option zz_C} {h : zz_H} (hh : 111 ≤ h.length) {s : mS} {d : Nat} {Q : Option Value → zz_H → Prop} {x1 : Int32} {x2 : Int32} (k1 : 0 ≤ x2 → zz_E zp_P zt_tf zt_fd X d zm_279 104 [(0, .ref 61), (1, .int x1), (2, .int x2)] [] (mH h s) Q) (k2 : ¬ 0 ≤ x2 → zz_E zp_P zt_tf zt_fd X d zm_279 97 [(0, .ref 61)] [] (mH h s) Q) : zz_E zp_P zt_tf zt_fd X d zm_279 93 [(0, .ref 61), (1, .int x1), (2, .int x2)] [] (mH h s) Q := by
  refine zz_E.n 94 rfl rfl rfl ?_
  refine zz_E.b1 104 97 (A := 0 ≤ x2) rfl rfl (by decide) rfl rfl (fun c => ?_) (fun c => ?_)
  · exact zz_E.weak (k1 c) rfl ⟨rfl, rfl, rfl, trivial⟩
  · exact zz_E.weak (k2 c) rfl ⟨rfl, trivial⟩
theorem mb_279_97 {X : Nat → Option zz_C} {h : zz_H} (hh : 111 ≤ h.length) {s : mS} {d : Nat} {Q : Option Value → zz_H → Prop}  (k : zz_E zp_P zt_tf zt_fd X d zm_280 0 [(0, .ref 61)] [] (mH h s) (fun v h' => zz_E zp_P zt_tf zt_fd X (d + 1) zm_279 101 [] (v.toList ++ []) h' Q)) : zz_E zp_P zt_tf zt_fd X (d + 1) zm_279 97 [(0, .ref 61)] [] (mH h s) Q := by
  refine zz_E.n 98 rfl rfl rfl ?_
  refine mE_cv hh 101 (as := []) rfl rfl (Nat.le_of_ble_eq_true rfl) (Nat.le_of_ble_eq_true rfl) rfl (Nat.le_of_ble_eq_true rfl) rfl ?_
  refine zz_E.mono k ?_
  intro v h' hE
  exact zz_E.weak hE rfl trivial
theorem mb_279_101 {X : Nat → Option zz_C} {h : zz_H} (hh : 111 ≤ h.length) {s : mS} {d : Nat} {Q : Option Value → zz_H → Prop}  (k : zz_E zp_P zt_tf zt_fd X d zm_279 318 [] [] (mH h s) Q) : zz_E zp_P zt_tf zt_fd X d zm_279 101 [] [] (mH h s) Q := by
  refine zz_E.n 318 rfl rfl rfl ?_
  exact zz_E.weak k rfl trivial
theorem mb_279_104 {X : Nat → Option zz_C} {h : zz_H} (hh : 111 ≤ h.length) {s : mS} {d : Nat} {Q : Option Value → zz_H → Prop} {x1 : Int32} {x2 : Int32} (k1 : x2 = 1 → zz_E zp_P zt_tf zt_fd X d zm_279 114 [(0, .ref 61), (1, .int x1), (2, .int x2)] [] (mH h s) Q) (k2 : ¬ x2 = 1 → zz_E zp_P zt_tf zt_fd X d zm_279 109 [(0, .ref 61), (1, .int x1), (2, .int x2)] [] (mH h s) Q) : zz_E zp_P zt_tf zt_fd X d zm_279 104 [(0, .ref 61), (1, .int x1), (2, .int x2)] [] (mH h s) Q := by
  refine zz_E.n 105 rfl rfl rfl ?_
  refine zz_E.c 106 (.int 1) rfl rfl rfl rfl ?_
  refine zz_E.b2 114 109 (A := x2 = 1) rfl rfl (by decide) rfl rfl (fun c => ?_) (fun c => ?_)
  · exact zz_E.weak (k1 c) rfl ⟨rfl, rfl, rfl, trivial⟩
  · exact zz_E.weak (k2 c) rfl ⟨rfl, rfl, rfl, trivial⟩
theorem mb_279_109 {X : Nat → Option zz_C} {h : zz_H} (hh : 111 ≤ h.length) {s : mS} {d : Nat} {Q : Option Value → zz_H → Prop} {x1 : Int32} {x2 : Int32} (k1 : ¬ x2 = 3 → zz_E zp_P zt_tf zt_fd X d zm_279 186 [(0, .ref 61), (1, .int x1), (2, .int x2)] [] (mH h s) Q) (k2 : ¬ ¬ x2 = 3 → zz_E zp_P zt_tf zt_fd X d zm_279 114 [(0, .ref 61), (1, .int x1), (2, .int x2)] [] (mH h s) Q) : zz_E zp_P zt_tf zt_fd X d zm_279 109 [(0, .ref 61), (1, .int x1), (2, .int x2)] [] (mH h s) Q := by
  refine zz_E.n 110 rfl rfl rfl ?_
  refine zz_E.c 111 (.int 3) rfl rfl rfl rfl ?_
  refine zz_E.b2 186 114 (A := ¬ x2 = 3) rfl (zz_cond_ne _ _) (by decide) rfl rfl (fun c => ?_) (fun c => ?_)
  · exact zz_E.weak (k1 c) rfl ⟨rfl, rfl, rfl, trivial⟩
  · exact zz_E.weak (k2 c) rfl ⟨rfl, rfl, rfl, trivial⟩
theorem mb_279_114 {X : Nat → Option zz_C} {h : zz_H} (hh : 111 ≤ h.length) {s : mS} {d : Nat} {Q : Option Value → zz_H → Prop} {x1 : Int32} {x2 : Int32} (k : zz_E zp_P zt_tf zt_fd X d zm_260 0 [(0, .ref 61)] [] (mH h s) (fun v h' => zz_E zp_P zt_tf zt_fd X (d + 1) zm_279 118 [(0, .ref 61), (1, .int x1), (2, .int x2)] (v.toList ++ []) h' Q)) : zz_E zp_P zt_tf zt_fd X (d + 1) zm_279 114 [(0, .ref 61), (1, .int x1), (2, .int x2)] [] (mH h s) Q := by
  refine zz_E.n 115 rfl rfl rfl ?_
  refine mE_cv hh 118 (as := []) rfl rfl (Nat.le_of_ble_eq_true rfl) (Nat.le_of_ble_eq_true rfl) rfl (Nat.le_of_ble_eq_true rfl) rfl ?_
  refine zz_E.mono k ?_
  intro v h' hE
  exact zz_E.weak hE rfl ⟨rfl, rfl, rfl, trivial⟩
theorem mb_279_118 {X : Nat → Option zz_C} {h : zz_H} (hh : 111 ≤ h.length) {s : mS} {d : Nat} {Q : Option Value → zz_H → Prop} {x1 : Int32} {x2 : Int32} (k : zz_E zp_P zt_tf zt_fd X d zm_272 0 [(0, .ref 61)] [] (mH h s) (fun v h' => zz_E zp_P zt_tf zt_fd X (d + 1) zm_279 122 [(0, .ref 61), (1, .int x1), (2, .int x2)] (v.toList ++ []) h' Q)) : zz_E zp_P zt_tf zt_fd X (d + 1) zm_279 118 [(0, .ref 61), (1, .int x1), (2, .int x2)] [] (mH h s) Q := by
  refine zz_E.n 119 rfl rfl rfl ?_
  refine mE_cv hh 122 (as := []) rfl rfl (Nat.le_of_ble_eq_true rfl) (Nat.le_of_ble_eq_true rfl) rfl (Nat.le_of_ble_eq_true rfl) rfl ?_
  refine zz_E.mono k ?_
  intro v h' hE
  exact zz_E.weak hE rfl ⟨rfl, rfl, rfl, trivial⟩
theorem mb_279_122 {X : Nat → Option zz_C} {h : zz_H} (hh : 111 ≤ h.length) {s : mS} {d : Nat} {Q : Option Value → zz_H → Prop} {x1 : Int32} {x2 : Int32} {y0 : Int32} (k1 : ¬ x2 = 3 → zz_E zp_P zt_tf zt_fd X d zm_279 138 [(0, .ref 61), (1, .int x1), (2, .int x2), (3, .int y0)] [] (mH h s) Q) (k2 : ¬ ¬ x2 = 3 → zz_E zp_P zt_tf zt_fd X d zm_279 128 [(0, .ref 61), (1, .int x1), (2, .int x2), (3, .int y0)] [] (mH h s) Q) : zz_E zp_P zt_tf zt_fd X d zm_279 122 [(0, .ref 61), (1, .int x1), (2, .int x2)] [.int y0] (mH h s) Q := by
  refine zz_E.n 123 rfl rfl rfl ?_
  refine zz_E.n 124 rfl rfl rfl ?_
  refine zz_E.c 125 (.int 3) rfl rfl rfl rfl ?_
  refine zz_E.b2 138 128 (A := ¬ x2 = 3) rfl (zz_cond_ne _ _) (by decide) rfl rfl (fun c => ?_) (fun c => ?_)
  · exact zz_E.weak (k1 c) rfl ⟨rfl, rfl, rfl, rfl, trivial⟩
  · exact zz_E.weak (k2 c) rfl ⟨rfl, rfl, rfl, rfl, trivial⟩
theorem mb_279_128 {X : Nat → Option zz_C} {h : zz_H} (hh : 111 ≤ h.length) {s : mS} {d : Nat} {Q : Option Value → zz_H → Prop} {x1 : Int32} {x2 : Int32} {x3 : Int32} (k : zz_E zp_P zt_tf zt_fd X d zm_271 0 [(0, .ref 61), (1, .int 16), (2, .int 0), (3, .int 0), (4, .int x1)] [] (mH h s) (fun v h' => zz_E zp_P zt_tf zt_fd X (d + 1) zm_279 137 [(0, .ref 61), (1, .int x1), (2, .int x2), (3, .int x3)] (v.toList ++ []) h' Q)) : zz_E zp_P zt_tf zt_fd X (d + 1) zm_279 128 [(0, .ref 61), (1, .int x1), (2, .int x2), (3, .int x3)] [] (mH h s) Q := by
  refine zz_E.n 129 rfl rfl rfl ?_
  refine zz_E.c 131 (.int 16) rfl rfl rfl rfl ?_
  refine zz_E.c 132 (.int 0) rfl rfl rfl rfl ?_
  refine zz_E.c 133 (.int 0) rfl rfl rfl rfl ?_
  refine zz_E.n 134 rfl rfl rfl ?_
  refine mE_cv hh 137 (as := []) rfl rfl (Nat.le_of_ble_eq_true rfl) (Nat.le_of_ble_eq_true rfl) rfl (Nat.le_of_ble_eq_true rfl) rfl ?_
  refine zz_E.mono k ?_
  intro v h' hE
  exact zz_E.weak hE rfl ⟨rfl, rfl, rfl, rfl, trivial⟩
theorem mb_279_137 {X : Nat → Option zz_C} {h : zz_H} (hh : 111 ≤ h.length) {s : mS} {d : Nat} {Q : Option Value → zz_H → Prop} {x1 : Int32} {x2 : Int32} {x3 : Int32} {y0 : Int32} (k : zz_E zp_P zt_tf zt_fd X d zm_279 138 [(0, .ref 61), (1, .int x1), (2, .int x2), (3, .int x3)] [] (mH h s) Q) : zz_E zp_P zt_tf zt_fd X d zm_279 137 [(0, .ref 61), (1, .int x1), (2, .int x2), (3, .int x3)] [.int y0] (mH h s) Q := by
  refine zz_E.n 138 rfl rfl rfl ?_
  exact zz_E.weak k rfl ⟨rfl, rfl, rfl, rfl, trivial⟩
theorem mb_279_138 {X : Nat → Option zz_C} {h : zz_H} (hh : 111 ≤ h.length) {s : mS} {d : Nat} {Q : Option Value → zz_H → Prop} {x1 : Int32} {x2 : Int32} {x3 : Int32} (k : zz_E zp_P zt_tf zt_fd X d zm_268 0 [(0, .ref 61), (1, .int 40)] [] (mH h s) (fun v h' => zz_E zp_P zt_tf zt_fd X (d + 1) zm_279 144 [(0, .ref 61), (1, .int x1), (2, .int x2), (3, .int x3)] (v.toList ++ []) h' Q)) : zz_E zp_P zt_tf zt_fd X (d + 1) zm_279 138 [(0, .ref 61), (1, .int x1), (2, .int x2), (3, .int x3)] [] (mH h s) Q := by
  refine zz_E.n 139 rfl rfl rfl ?_
  refine zz_E.c 141 (.int 40) rfl rfl rfl rfl ?_
  refine mE_cv hh 144 (as := []) rfl rfl (Nat.le_of_ble_eq_true rfl) (Nat.le_of_ble_eq_true rfl) rfl (Nat.le_of_ble_eq_true rfl) rfl ?_
  refine zz_E.mono k ?_
  intro v h' hE
  exact zz_E.weak hE rfl ⟨rfl, rfl, rfl, rfl, trivial⟩
theorem mb_279_144 {X : Nat → Option zz_C} {h : zz_H} (hh : 111 ≤ h.length) {s : mS} {d : Nat} {Q : Option Value → zz_H → Prop} {x1 : Int32} {x2 : Int32} {x3 : Int32} (k : zz_E zp_P zt_tf zt_fd X d zm_285 0 [(0, .ref 61), (1, .int 0)] [] (mH h s) (fun v h' => zz_E zp_P zt_tf zt_fd X (d + 1) zm_279 149 [(0, .ref 61), (1, .int x1), (2, .int x2), (3, .int x3)] (v.toList ++ []) h' Q)) : zz_E zp_P zt_tf zt_fd X (d + 1) zm_279 144 [(0, .ref 61), (1, .int x1), (2, .int x2), (3, .int x3)] [] (mH h s) Q := by
  refine zz_E.n 145 rfl rfl rfl ?_
  refine zz_E.c 146 (.int 0) rfl rfl rfl rfl ?_
  refine mE_cv hh 149 (as := []) rfl rfl (Nat.le_of_ble_eq_true rfl) (Nat.le_of_ble_eq_true rfl) rfl (Nat.le_of_ble_eq_true rfl) rfl ?_
  refine zz_E.mono k ?_
  intro v h' hE
  exact zz_E.weak hE rfl ⟨rfl, rfl, rfl, rfl, trivial⟩
theorem mb_279_149 {X : Nat → Option zz_C} {h : zz_H} (hh : 111 ≤ h.length) {s : mS} {d : Nat} {Q : Option Value → zz_H → Prop} {x1 : Int32} {x2 : Int32} {x3 : Int32} (k : zz_E zp_P zt_tf zt_fd X d zm_267 0 [(0, .ref 61), (1, .int 41)] [] (mH h s) (fun v h' => zz_E zp_P zt_tf zt_fd X (d + 1) zm_279 155 [(0, .ref 61), (1, .int x1), (2, .int x2), (3, .int x3)] (v.toList ++ []) h' Q)) : zz_E zp_P zt_tf zt_fd X (d + 1) zm_279 149 [(0, .ref 61), (1, .int x1), (2, .int x2), (3, .int x3)] [] (mH h s) Q := by
  refine zz_E.n 150 rfl rfl rfl ?_
  refine zz_E.c 152 (.int 41) rfl rfl rfl rfl ?_
  refine mE_cv hh 155 (as := []) rfl rfl (Nat.le_of_ble_eq_true rfl) (Nat.le_of_ble_eq_true rfl) rfl (Nat.le_of_ble_eq_true rfl) rfl ?_
  refine zz_E.mono k ?_
  intro v h' hE
  exact zz_E.weak hE rfl ⟨rfl, rfl, rfl, rfl, trivial⟩
theorem mb_279_155 {X : Nat → Option zz_C} {h : zz_H} (hh : 111 ≤ h.length) {s : mS} {d : Nat} {Q : Option Value → zz_H → Prop} {x1 : Int32} {x2 : Int32} {x3 : Int32} (k : zz_E zp_P zt_tf zt_fd X d zm_271 0 [(0, .ref 61), (1, .int 14), (2, .int 0), (3, .int 0), (4, .int x1)] [] (mH h s) (fun v h' => zz_E zp_P zt_tf zt_fd X (d + 1) zm_279 164 [(0, .ref 61), (2, .int x2), (3, .int x3)] (v.toList ++ []) h' Q)) : zz_E zp_P zt_tf zt_fd X (d + 1) zm_279 155 [(0, .ref 61), (1, .int x1), (2, .int x2), (3, .int x3)] [] (mH h s) Q := by
  refine zz_E.n 156 rfl rfl rfl ?_
  refine zz_E.c 158 (.int 14) rfl rfl rfl rfl ?_
  refine zz_E.c 159 (.int 0) rfl rfl rfl rfl ?_
  refine zz_E.c 160 (.int 0) rfl rfl rfl rfl ?_
  refine zz_E.n 161 rfl rfl rfl ?_
  refine mE_cv hh 164 (as := []) rfl rfl (Nat.le_of_ble_eq_true rfl) (Nat.le_of_ble_eq_true rfl) rfl (Nat.le_of_ble_eq_true rfl) rfl ?_
  refine zz_E.mono k ?_
  intro v h' hE
  exact zz_E.weak hE rfl ⟨rfl, rfl, rfl, trivial⟩
theorem mb_279_164 {X : Nat → Option zz_C} {h : zz_H} (hh : 111 ≤ h.length) {s : mS} {d : Nat} {Q : Option Value → zz_H → Prop} {x2 : Int32} {x3 : Int32} {y0 : Int32} (k1 : ¬ x2 = 1 → zz_E zp_P zt_tf zt_fd X d zm_279 176 [(3, .int x3), (4, .int y0)] [.ref 61] (mH h s) Q) (k2 : ¬ ¬ x2 = 1 → zz_E zp_P zt_tf zt_fd X d zm_279 172 [(3, .int x3), (4, .int y0)] [.ref 61] (mH h s) Q) : zz_E zp_P zt_tf zt_fd X d zm_279 164 [(0, .ref 61), (2, .int x2), (3, .int x3)] [.int y0] (mH h s) Q := by
  refine zz_E.n 166 rfl rfl rfl ?_
  refine zz_E.n 167 rfl rfl rfl ?_
  refine zz_E.n 168 rfl rfl rfl ?_
  refine zz_E.c 169 (.int 1) rfl rfl rfl rfl ?_
  refine zz_E.b2 176 172 (A := ¬ x2 = 1) rfl (zz_cond_ne _ _) (by decide) rfl rfl (fun c => ?_) (fun c => ?_)
  · exact zz_E.weak (k1 c) rfl ⟨rfl, rfl, trivial⟩
  · exact zz_E.weak (k2 c) rfl ⟨rfl, rfl, trivial⟩
theorem mb_279_172 {X : Nat → Option zz_C} {h : zz_H} (hh : 111 ≤ h.length) {s : mS} {d : Nat} {Q : Option Value → zz_H → Prop} {x3 : Int32} {x4 : Int32} (k : zz_E zp_P zt_tf zt_fd X d zm_279 177 [(3, .int x3), (4, .int x4)] [.int 1, .ref 61] (mH h s) Q) : zz_E zp_P zt_tf zt_fd X d zm_279 172 [(3, .int x3), (4, .int x4)] [.ref 61] (mH h s) Q := by
  refine zz_E.c 173 (.int 1) rfl rfl rfl rfl ?_
  refine zz_E.n 177 rfl rfl rfl ?_
  exact zz_E.weak k rfl ⟨rfl, rfl, trivial⟩
theorem mb_279_176 {X : Nat → Option zz_C} {h : zz_H} (hh : 111 ≤ h.length) {s : mS} {d : Nat} {Q : Option Value → zz_H → Prop} {x3 : Int32} {x4 : Int32} (k : zz_E zp_P zt_tf zt_fd X d zm_279 177 [(3, .int x3), (4, .int x4)] [.int 3, .ref 61] (mH h s) Q) : zz_E zp_P zt_tf zt_fd X d zm_279 176 [(3, .int x3), (4, .int x4)] [.ref 61] (mH h s) Q := by
  refine zz_E.c 177 (.int 3) rfl rfl rfl rfl ?_
  exact zz_E.weak k rfl ⟨rfl, rfl, trivial⟩
theorem mb_279_177 {X : Nat → Option zz_C} {h : zz_H} (hh : 111 ≤ h.length) {s : mS} {d : Nat} {Q : Option Value → zz_H → Prop} {x3 : Int32} {x4 : Int32} {y1 : Int32} (k : zz_E zp_P zt_tf zt_fd X d zm_276 0 [(0, .ref 61), (1, .int y1), (2, .int x4), (3, .int x3)] [] (mH h s) (fun v h' => zz_E zp_P zt_tf zt_fd X (d + 1) zm_279 183 [] (v.toList ++ []) h' Q)) : zz_E zp_P zt_tf zt_fd X (d + 1) zm_279 177 [(3, .int x3), (4, .int x4)] [.int y1, .ref 61] (mH h s) Q := by
  refine zz_E.n 179 rfl rfl rfl ?_
  refine zz_E.n 180 rfl rfl rfl ?_
  refine mE_cv hh 183 (as := []) rfl rfl (Nat.le_of_ble_eq_true rfl) (Nat.le_of_ble_eq_true rfl) rfl (Nat.le_of_ble_eq_true rfl) rfl ?_
  refine zz_E.mono k ?_
  intro v h' hE
  exact zz_E.weak hE rfl trivial
theorem mb_279_183 {X : Nat → Option zz_C} {h : zz_H} (hh : 111 ≤ h.length) {s : mS} {d : Nat} {Q : Option Value → zz_H → Prop}  (k : zz_E zp_P zt_tf zt_fd X d zm_279 318 [] [] (mH h s) Q) : zz_E zp_P zt_tf zt_fd X d zm_279 183 [] [] (mH h s) Q := by
  refine zz_E.n 318 rfl rfl rfl ?_
  exact zz_E.weak k rfl trivial
theorem mb_279_186 {X : Nat → Option zz_C} {h : zz_H} (hh : 111 ≤ h.length) {s : mS} {d : Nat} {Q : Option Value → zz_H → Prop} {x1 : Int32} {x2 : Int32} (k1 : ¬ x2 = 4 → zz_E zp_P zt_tf zt_fd X d zm_279 243 [(0, .ref 61), (1, .int x1), (2, .int x2)] [] (mH h s) Q) (k2 : ¬ ¬ x2 = 4 → zz_E zp_P zt_tf zt_fd X d zm_279 191 [(0, .ref 61), (1, .int x1)] [] (mH h s) Q) : zz_E zp_P zt_tf zt_fd X d zm_279 186 [(0, .ref 61), (1, .int x1), (2, .int x2)] [] (mH h s) Q := by
  refine zz_E.n 187 rfl rfl rfl ?_
  refine zz_E.c 188 (.int 4) rfl rfl rfl rfl ?_
  refine zz_E.b2 243 191 (A := ¬ x2 = 4) rfl (zz_cond_ne _ _) (by decide) rfl rfl (fun c => ?_) (fun c => ?_)
  · exact zz_E.weak (k1 c) rfl ⟨rfl, rfl, rfl, trivial⟩
  · exact zz_E.weak (k2 c) rfl ⟨rfl, rfl, trivial⟩
theorem mb_279_191 {X : Nat → Option zz_C} {h : zz_H} (hh : 111 ≤ h.length) {s : mS} {d : Nat} {Q : Option Value → zz_H → Prop} {x1 : Int32} (k : zz_E zp_P zt_tf zt_fd X d zm_260 0 [(0, .ref 61)] [] (mH h s) (fun v h' => zz_E zp_P zt_tf zt_fd X (d + 1) zm_279 195 [(0, .ref 61), (1, .int x1)] (v.toList ++ []) h' Q)) : zz_E zp_P zt_tf zt_fd X (d + 1) zm_279 191 [(0, .ref 61), (1, .int x1)] [] (mH h s) Q := by
  refine zz_E.n 192 rfl rfl rfl ?_
  refine mE_cv hh 195 (as := []) rfl rfl (Nat.le_of_ble_eq_true rfl) (Nat.le_of_ble_eq_true rfl) rfl (Nat.le_of_ble_eq_true rfl) rfl ?_
  refine zz_E.mono k ?_
  intro v h' hE
  exact zz_E.weak hE rfl ⟨rfl, rfl, trivial⟩
theorem mb_279_195 {X : Nat → Option zz_C} {h : zz_H} (hh : 111 ≤ h.length) {s : mS} {d : Nat} {Q : Option Value → zz_H → Prop} {x1 : Int32} (k : zz_E zp_P zt_tf zt_fd X d zm_275 0 [(0, .ref 61)] [] (mH h s) (fun v h' => zz_E zp_P zt_tf zt_fd X (d + 1) zm_279 199 [(0, .ref 61), (1, .int x1)] (v.toList ++ []) h' Q)) : zz_E zp_P zt_tf zt_fd X (d + 1) zm_279 195 [(0, .ref 61), (1, .int x1)] [] (mH h s) Q := by
  refine zz_E.n 196 rfl rfl rfl ?_
  refine mE_cv hh 199 (as := []) rfl rfl (Nat.le_of_ble_eq_true rfl) (Nat.le_of_ble_eq_true rfl) rfl (Nat.le_of_ble_eq_true rfl) rfl ?_
  refine zz_E.mono k ?_
  intro v h' hE
  exact zz_E.weak hE rfl ⟨rfl, rfl, trivial⟩
theorem mb_279_199 {X : Nat → Option zz_C} {h : zz_H} (hh : 111 ≤ h.length) {s : mS} {d : Nat} {Q : Option Value → zz_H → Prop} {x1 : Int32} {y0 : Int32} (k : zz_E zp_P zt_tf zt_fd X d zm_269 0 [(0, .ref 61), (1, .int 5)] [] (mH h s) (fun v h' => zz_E zp_P zt_tf zt_fd X (d + 1) zm_279 205 [(0, .ref 61), (1, .int x1), (3, .int y0)] (v.toList ++ []) h' Q)) : zz_E zp_P zt_tf zt_fd X (d + 1) zm_279 199 [(0, .ref 61), (1, .int x1)] [.int y0] (mH h s) Q := by
  refine zz_E.n 200 rfl rfl rfl ?_
  refine zz_E.n 201 rfl rfl rfl ?_
  refine zz_E.c 202 (.int 5) rfl rfl rfl rfl ?_
  refine mE_cv hh 205 (as := []) rfl rfl (Nat.le_of_ble_eq_true rfl) (Nat.le_of_ble_eq_true rfl) rfl (Nat.le_of_ble_eq_true rfl) rfl ?_
  refine zz_E.mono k ?_
  intro v h' hE
  exact zz_E.weak hE rfl ⟨rfl, rfl, rfl, trivial⟩
theorem mb_279_205 {X : Nat → Option zz_C} {h : zz_H} (hh : 111 ≤ h.length) {s : mS} {d : Nat} {Q : Option Value → zz_H → Prop} {x1 : Int32} {x3 : Int32} (k : zz_E zp_P zt_tf zt_fd X d zm_285 0 [(0, .ref 61), (1, .int 0)] [] (mH h s) (fun v h' => zz_E zp_P zt_tf zt_fd X (d + 1) zm_279 210 [(0, .ref 61), (1, .int x1), (3, .int x3)] (v.toList ++ []) h' Q)) : zz_E zp_P zt_tf zt_fd X (d + 1) zm_279 205 [(0, .ref 61), (1, .int x1), (3, .int x3)] [] (mH h s) Q := by
  refine zz_E.n 206 rfl rfl rfl ?_
  refine zz_E.c 207 (.int 0) rfl rfl rfl rfl ?_
  refine mE_cv hh 210 (as := []) rfl rfl (Nat.le_of_ble_eq_true rfl) (Nat.le_of_ble_eq_true rfl) rfl (Nat.le_of_ble_eq_true rfl) rfl ?_
  refine zz_E.mono k ?_
  intro v h' hE
  exact zz_E.weak hE rfl ⟨rfl, rfl, rfl, trivial⟩
theorem mb_279_210 {X : Nat → Option zz_C} {h : zz_H} (hh : 111 ≤ h.length) {s : mS} {d : Nat} {Q : Option Value → zz_H → Prop} {x1 : Int32} {x3 : Int32} (k : zz_E zp_P zt_tf zt_fd X d zm_271 0 [(0, .ref 61), (1, .int 17), (2, .int 0), (3, .int 0), (4, .int x1)] [] (mH h s) (fun v h' => zz_E zp_P zt_tf zt_fd X (d + 1) zm_279 219 [(0, .ref 61), (1, .int x1), (3, .int x3)] (v.toList ++ []) h' Q)) : zz_E zp_P zt_tf zt_fd X (d + 1) zm_279 210 [(0, .ref 61), (1, .int x1), (3, .int x3)] [] (mH h s) Q := by
  refine zz_E.n 211 rfl rfl rfl ?_
  refine zz_E.c 213 (.int 17) rfl rfl rfl rfl ?_
  refine zz_E.c 214 (.int 0) rfl rfl rfl rfl ?_
  refine zz_E.c 215 (.int 0) rfl rfl rfl rfl ?_
  refine zz_E.n 216 rfl rfl rfl ?_
  refine mE_cv hh 219 (as := []) rfl rfl (Nat.le_of_ble_eq_true rfl) (Nat.le_of_ble_eq_true rfl) rfl (Nat.le_of_ble_eq_true rfl) rfl ?_
  refine zz_E.mono k ?_
  intro v h' hE
  exact zz_E.weak hE rfl ⟨rfl, rfl, rfl, trivial⟩
theorem mb_279_219 {X : Nat → Option zz_C} {h : zz_H} (hh : 111 ≤ h.length) {s : mS} {d : Nat} {Q : Option Value → zz_H → Prop} {x1 : Int32} {x3 : Int32} {y0 : Int32} (k : zz_E zp_P zt_tf zt_fd X d zm_271 0 [(0, .ref 61), (1, .int 18), (2, .int 0), (3, .int x3), (4, .int x1)] [] (mH h s) (fun v h' => zz_E zp_P zt_tf zt_fd X (d + 1) zm_279 229 [(0, .ref 61)] (v.toList ++ []) h' Q)) : zz_E zp_P zt_tf zt_fd X (d + 1) zm_279 219 [(0, .ref 61), (1, .int x1), (3, .int x3)] [.int y0] (mH h s) Q := by
  refine zz_E.n 220 rfl rfl rfl ?_
  refine zz_E.n 221 rfl rfl rfl ?_
  refine zz_E.c 223 (.int 18) rfl rfl rfl rfl ?_
  refine zz_E.c 224 (.int 0) rfl rfl rfl rfl ?_
  refine zz_E.n 225 rfl rfl rfl ?_
  refine zz_E.n 226 rfl rfl rfl ?_
  refine mE_cv hh 229 (as := []) rfl rfl (Nat.le_of_ble_eq_true rfl) (Nat.le_of_ble_eq_true rfl) rfl (Nat.le_of_ble_eq_true rfl) rfl ?_
  refine zz_E.mono k ?_
  intro v h' hE
  exact zz_E.weak hE rfl ⟨rfl, trivial⟩
theorem mb_279_229 {X : Nat → Option zz_C} {h : zz_H} (hh : 111 ≤ h.length) {s : mS} {d : Nat} {Q : Option Value → zz_H → Prop} {y0 : Int32} (k : zz_E zp_P zt_tf zt_fd X d zm_276 0 [(0, .ref 61), (1, .int 4), (2, .int y0), (3, .int y0)] [] (mH h s) (fun v h' => zz_E zp_P zt_tf zt_fd X (d + 1) zm_279 240 [] (v.toList ++ []) h' Q)) : zz_E zp_P zt_tf zt_fd X (d + 1) zm_279 229 [(0, .ref 61)] [.int y0] (mH h s) Q := by
  refine zz_E.n 231 rfl rfl rfl ?_
  refine zz_E.n 232 rfl rfl rfl ?_
  refine zz_E.c 233 (.int 4) rfl rfl rfl rfl ?_
  refine zz_E.n 235 rfl rfl rfl ?_
  refine zz_E.n 237 rfl rfl rfl ?_
  refine mE_cv hh 240 (as := []) rfl rfl (Nat.le_of_ble_eq_true rfl) (Nat.le_of_ble_eq_true rfl) rfl (Nat.le_of_ble_eq_true rfl) rfl ?_
  refine zz_E.mono k ?_
  intro v h' hE
  exact zz_E.weak hE rfl trivial
theorem mb_279_240 {X : Nat → Option zz_C} {h : zz_H} (hh : 111 ≤ h.length) {s : mS} {d : Nat} {Q : Option Value → zz_H → Prop}  (k : zz_E zp_P zt_tf zt_fd X d zm_279 318 [] [] (mH h s) Q) : zz_E zp_P zt_tf zt_fd X d zm_279 240 [] [] (mH h s) Q := by
  refine zz_E.n 318 rfl rfl rfl ?_
  exact zz_E.weak k rfl trivial
theorem mb_279_243 {X : Nat → Option zz_C} {h : zz_H} (hh : 111 ≤ h.length) {s : mS} {d : Nat} {Q : Option Value → zz_H → Prop} {x1 : Int32} {x2 : Int32} (k1 : ¬ x2 = 9 → zz_E zp_P zt_tf zt_fd X d zm_279 271 [(0, .ref 61), (1, .int x1), (2, .int x2)] [] (mH h s) Q) (k2 : ¬ ¬ x2 = 9 → zz_E zp_P zt_tf zt_fd X d zm_279 249 [(0, .ref 61)] [] (mH h s) Q) : zz_E zp_P zt_tf zt_fd X d zm_279 243 [(0, .ref 61), (1, .int x1), (2, .int x2)] [] (mH h s) Q := by
  refine zz_E.n 244 rfl rfl rfl ?_
  refine zz_E.c 246 (.int 9) rfl rfl rfl rfl ?_
  refine zz_E.b2 271 249 (A := ¬ x2 = 9) rfl (zz_cond_ne _ _) (by decide) rfl rfl (fun c => ?_) (fun c => ?_)
  · exact zz_E.weak (k1 c) rfl ⟨rfl, rfl, rfl, trivial⟩
  · exact zz_E.weak (k2 c) rfl ⟨rfl, trivial⟩
theorem mb_279_249 {X : Nat → Option zz_C} {h : zz_H} (hh : 111 ≤ h.length) {s : mS} {d : Nat} {Q : Option Value → zz_H → Prop}  (k : zz_E zp_P zt_tf zt_fd X d zm_260 0 [(0, .ref 61)] [] (mH h s) (fun v h' => zz_E zp_P zt_tf zt_fd X (d + 1) zm_279 253 [(0, .ref 61)] (v.toList ++ []) h' Q)) : zz_E zp_P zt_tf zt_fd X (d + 1) zm_279 249 [(0, .ref 61)] [] (mH h s) Q := by
  refine zz_E.n 250 rfl rfl rfl ?_
  refine mE_cv hh 253 (as := []) rfl rfl (Nat.le_of_ble_eq_true rfl) (Nat.le_of_ble_eq_true rfl) rfl (Nat.le_of_ble_eq_true rfl) rfl ?_
  refine zz_E.mono k ?_
  intro v h' hE
  exact zz_E.weak hE rfl ⟨rfl, trivial⟩
theorem mb_279_253 {X : Nat → Option zz_C} {h : zz_H} (hh : 111 ≤ h.length) {s : mS} {d : Nat} {Q : Option Value → zz_H → Prop}  (k : zz_E zp_P zt_tf zt_fd X d zm_271 0 [(0, .ref 61), (1, .int 23), (2, .int 0), (3, .int 0), (4, .int 0)] [] (mH h s) (fun v h' => zz_E zp_P zt_tf zt_fd X (d + 1) zm_279 264 [] (v.toList ++ [.int 5, .ref 61]) h' Q)) : zz_E zp_P zt_tf zt_fd X (d + 1) zm_279 253 [(0, .ref 61)] [] (mH h s) Q := by
  refine zz_E.n 254 rfl rfl rfl ?_
  refine zz_E.c 255 (.int 5) rfl rfl rfl rfl ?_
  refine zz_E.n 256 rfl rfl rfl ?_
  refine zz_E.c 258 (.int 23) rfl rfl rfl rfl ?_
  refine zz_E.c 259 (.int 0) rfl rfl rfl rfl ?_
  refine zz_E.c 260 (.int 0) rfl rfl rfl rfl ?_
  refine zz_E.c 261 (.int 0) rfl rfl rfl rfl ?_
  refine mE_cv hh 264 (as := [.int 5, .ref 61]) rfl rfl (Nat.le_of_ble_eq_true rfl) (Nat.le_of_ble_eq_true rfl) rfl (Nat.le_of_ble_eq_true rfl) rfl ?_
  refine zz_E.mono k ?_
  intro v h' hE
  exact zz_E.weak hE rfl trivial
theorem mb_279_264 {X : Nat → Option zz_C} {h : zz_H} (hh : 111 ≤ h.length) {s : mS} {d : Nat} {Q : Option Value → zz_H → Prop} {y1 : Int32} {y2 : Int32} (k : zz_E zp_P zt_tf zt_fd X d zm_276 0 [(0, .ref 61), (1, .int y1), (2, .int y2), (3, .int 0)] [] (mH h s) (fun v h' => zz_E zp_P zt_tf zt_fd X (d + 1) zm_279 268 [] (v.toList ++ []) h' Q)) : zz_E zp_P zt_tf zt_fd X (d + 1) zm_279 264 [] [.int y2, .int y1, .ref 61] (mH h s) Q := by
  refine zz_E.c 265 (.int 0) rfl rfl rfl rfl ?_
  refine mE_cv hh 268 (as := []) rfl rfl (Nat.le_of_ble_eq_true rfl) (Nat.le_of_ble_eq_true rfl) rfl (Nat.le_of_ble_eq_true rfl) rfl ?_
  refine zz_E.mono k ?_
  intro v h' hE
  exact zz_E.weak hE rfl trivial
theorem mb_279_268 {X : Nat → Option zz_C} {h : zz_H} (hh : 111 ≤ h.length) {s : mS} {d : Nat} {Q : Option Value → zz_H → Prop}  (k : zz_E zp_P zt_tf zt_fd X d zm_279 318 [] [] (mH h s) Q) : zz_E zp_P zt_tf zt_fd X d zm_279 268 [] [] (mH h s) Q := by
  refine zz_E.n 318 rfl rfl rfl ?_
  exact zz_E.weak k rfl trivial
theorem mb_279_271 {X : Nat → Option zz_C} {h : zz_H} (hh : 111 ≤ h.length) {s : mS} {d : Nat} {Q : Option Value → zz_H → Prop} {x1 : Int32} {x2 : Int32} (k : zz_E zp_P zt_tf zt_fd X d zm_260 0 [(0, .ref 61)] [] (mH h s) (fun v h' => zz_E zp_P zt_tf zt_fd X (d + 1) zm_279 275 [(0, .ref 61), (1, .int x1), (2, .int x2)] (v.toList ++ []) h' Q)) : zz_E zp_P zt_tf zt_fd X (d + 1) zm_279 271 [(0, .ref 61), (1, .int x1), (2, .int x2)] [] (mH h s) Q := by
  refine zz_E.n 272 rfl rfl rfl ?_
  refine mE_cv hh 275 (as := []) rfl rfl (Nat.le_of_ble_eq_true rfl) (Nat.le_of_ble_eq_true rfl) rfl (Nat.le_of_ble_eq_true rfl) rfl ?_
  refine zz_E.mono k ?_
  intro v h' hE
  exact zz_E.weak hE rfl ⟨rfl, rfl, rfl, trivial⟩
theorem mb_279_275 {X : Nat → Option zz_C} {h : zz_H} (hh : 111 ≤ h.length) {s : mS} {d : Nat} {Q : Option Value → zz_H → Prop} {x1 : Int32} {x2 : Int32} (k : zz_E zp_P zt_tf zt_fd X d zm_285 0 [(0, .ref 61), (1, .int 0)] [] (mH h s) (fun v h' => zz_E zp_P zt_tf zt_fd X (d + 1) zm_279 280 [(0, .ref 61), (1, .int x1), (2, .int x2)] (v.toList ++ []) h' Q)) : zz_E zp_P zt_tf zt_fd X (d + 1) zm_279 275 [(0, .ref 61), (1, .int x1), (2, .int x2)] [] (mH h s) Q := by
  refine zz_E.n 276 rfl rfl rfl ?_
  refine zz_E.c 277 (.int 0) rfl rfl rfl rfl ?_
  refine mE_cv hh 280 (as := []) rfl rfl (Nat.le_of_ble_eq_true rfl) (Nat.le_of_ble_eq_true rfl) rfl (Nat.le_of_ble_eq_true rfl) rfl ?_
  refine zz_E.mono k ?_
  intro v h' hE
  exact zz_E.weak hE rfl ⟨rfl, rfl, rfl, trivial⟩
theorem mb_279_280 {X : Nat → Option zz_C} {h : zz_H} (hh : 111 ≤ h.length) {s : mS} {d : Nat} {Q : Option Value → zz_H → Prop} {x1 : Int32} {x2 : Int32} (k : zz_E zp_P zt_tf zt_fd X d zm_267 0 [(0, .ref 61), (1, .int 59)] [] (mH h s) (fun v h' => zz_E zp_P zt_tf zt_fd X (d + 1) zm_279 286 [(0, .ref 61), (1, .int x1), (2, .int x2)] (v.toList ++ []) h' Q)) : zz_E zp_P zt_tf zt_fd X (d + 1) zm_279 280 [(0, .ref 61), (1, .int x1), (2, .int x2)] [] (mH h s) Q := by
  refine zz_E.n 281 rfl rfl rfl ?_
  refine zz_E.c 283 (.int 59) rfl rfl rfl rfl ?_
  refine mE_cv hh 286 (as := []) rfl rfl (Nat.le_of_ble_eq_true rfl) (Nat.le_of_ble_eq_true rfl) rfl (Nat.le_of_ble_eq_true rfl) rfl ?_
  refine zz_E.mono k ?_
  intro v h' hE
  exact zz_E.weak hE rfl ⟨rfl, rfl, rfl, trivial⟩
theorem mb_279_286 {X : Nat → Option zz_C} {h : zz_H} (hh : 111 ≤ h.length) {s : mS} {d : Nat} {Q : Option Value → zz_H → Prop} {x1 : Int32} {x2 : Int32} (k1 : ¬ x2 = 6 → zz_E zp_P zt_tf zt_fd X d zm_279 298 [(1, .int x1), (2, .int x2)] [.ref 61] (mH h s) Q) (k2 : ¬ ¬ x2 = 6 → zz_E zp_P zt_tf zt_fd X d zm_279 293 [(1, .int x1)] [.ref 61] (mH h s) Q) : zz_E zp_P zt_tf zt_fd X d zm_279 286 [(0, .ref 61), (1, .int x1), (2, .int x2)] [] (mH h s) Q := by
  refine zz_E.n 287 rfl rfl rfl ?_
  refine zz_E.n 288 rfl rfl rfl ?_
  refine zz_E.c 290 (.int 6) rfl rfl rfl rfl ?_
  refine zz_E.b2 298 293 (A := ¬ x2 = 6) rfl (zz_cond_ne _ _) (by decide) rfl rfl (fun c => ?_) (fun c => ?_)
  · exact zz_E.weak (k1 c) rfl ⟨rfl, rfl, trivial⟩
  · exact zz_E.weak (k2 c) rfl ⟨rfl, trivial⟩
theorem mb_279_293 {X : Nat → Option zz_C} {h : zz_H} (hh : 111 ≤ h.length) {s : mS} {d : Nat} {Q : Option Value → zz_H → Prop} {x1 : Int32} (k : zz_E zp_P zt_tf zt_fd X d zm_279 311 [(1, .int x1)] [.int 19, .ref 61] (mH h s) Q) : zz_E zp_P zt_tf zt_fd X d zm_279 293 [(1, .int x1)] [.ref 61] (mH h s) Q := by
  refine zz_E.c 295 (.int 19) rfl rfl rfl rfl ?_
  refine zz_E.n 311 rfl rfl rfl ?_
  exact zz_E.weak k rfl ⟨rfl, trivial⟩
theorem mb_279_298 {X : Nat → Option zz_C} {h : zz_H} (hh : 111 ≤ h.length) {s : mS} {d : Nat} {Q : Option Value → zz_H → Prop} {x1 : Int32} {x2 : Int32} (k1 : ¬ x2 = 7 → zz_E zp_P zt_tf zt_fd X d zm_279 309 [(1, .int x1)] [.ref 61] (mH h s) Q) (k2 : ¬ ¬ x2 = 7 → zz_E zp_P zt_tf zt_fd X d zm_279 304 [(1, .int x1)] [.ref 61] (mH h s) Q) : zz_E zp_P zt_tf zt_fd X d zm_279 298 [(1, .int x1), (2, .int x2)] [.ref 61] (mH h s) Q := by
  refine zz_E.n 299 rfl rfl rfl ?_
  refine zz_E.c 301 (.int 7) rfl rfl rfl rfl ?_
  refine zz_E.b2 309 304 (A := ¬ x2 = 7) rfl (zz_cond_ne _ _) (by decide) rfl rfl (fun c => ?_) (fun c => ?_)
  · exact zz_E.weak (k1 c) rfl ⟨rfl, trivial⟩
  · exact zz_E.weak (k2 c) rfl ⟨rfl, trivial⟩
theorem mb_279_304 {X : Nat → Option zz_C} {h : zz_H} (hh : 111 ≤ h.length) {s : mS} {d : Nat} {Q : Option Value → zz_H → Prop} {x1 : Int32} (k : zz_E zp_P zt_tf zt_fd X d zm_279 311 [(1, .int x1)] [.int 20, .ref 61] (mH h s) Q) : zz_E zp_P zt_tf zt_fd X d zm_279 304 [(1, .int x1)] [.ref 61] (mH h s) Q := by
  refine zz_E.c 306 (.int 20) rfl rfl rfl rfl ?_
  refine zz_E.n 311 rfl rfl rfl ?_
  exact zz_E.weak k rfl ⟨rfl, trivial⟩
theorem mb_279_309 {X : Nat → Option zz_C} {h : zz_H} (hh : 111 ≤ h.length) {s : mS} {d : Nat} {Q : Option Value → zz_H → Prop} {x1 : Int32} (k : zz_E zp_P zt_tf zt_fd X d zm_279 311 [(1, .int x1)] [.int 21, .ref 61] (mH h s) Q) : zz_E zp_P zt_tf zt_fd X d zm_279 309 [(1, .int x1)] [.ref 61] (mH h s) Q := by
  refine zz_E.c 311 (.int 21) rfl rfl rfl rfl ?_
  exact zz_E.weak k rfl ⟨rfl, trivial⟩
theorem mb_279_311 {X : Nat → Option zz_C} {h : zz_H} (hh : 111 ≤ h.length) {s : mS} {d : Nat} {Q : Option Value → zz_H → Prop} {x1 : Int32} {y1 : Int32} (k : zz_E zp_P zt_tf zt_fd X d zm_271 0 [(0, .ref 61), (1, .int y1), (2, .int 0), (3, .int 0), (4, .int x1)] [] (mH h s) (fun v h' => zz_E zp_P zt_tf zt_fd X (d + 1) zm_279 317 [] (v.toList ++ []) h' Q)) : zz_E zp_P zt_tf zt_fd X (d + 1) zm_279 311 [(1, .int x1)] [.int y1, .ref 61] (mH h s) Q := by
  refine zz_E.c 312 (.int 0) rfl rfl rfl rfl ?_
  refine zz_E.c 313 (.int 0) rfl rfl rfl rfl ?_
  refine zz_E.n 314 rfl rfl rfl ?_
  refine mE_cv hh 317 (as := []) rfl rfl (Nat.le_of_ble_eq_true rfl) (Nat.le_of_ble_eq_true rfl) rfl (Nat.le_of_ble_eq_true rfl) rfl ?_
  refine zz_E.mono k ?_
  intro v h' hE
  exact zz_E.weak hE rfl trivial
theorem mb_279_317 {X : Nat → Option zz_C} {h : zz_H} (hh : 111 ≤ h.length) {s : mS} {d : Nat} {Q : Option Value → zz_H → Prop} {y0 : Int32} (k : zz_E zp_P zt_tf zt_fd X d zm_279 318 [] [] (mH h s) Q) : zz_E zp_P zt_tf zt_fd X d zm_279 317 [] [.int y0] (mH h s) Q := by
  refine zz_E.n 318 rfl rfl rfl ?_
  exact zz_E.weak k rfl trivial
theorem mb_279_318 {X : Nat → Option zz_C} {h : zz_H} (hh : 111 ≤ h.length) {s : mS} {d : Nat} {Q : Option Value → zz_H → Prop}  (k : Q none (mH h s)) : zz_E zp_P zt_tf zt_fd X d zm_279 318 [] [] (mH h s) Q := by
  refine zz_E.ret rfl rfl rfl ?_
  exact k
def mf_279_42 (N : Nat)  (s : mS) : mO := some (s, none)
theorem mr_279_42 {X : Nat → Option zz_C} {h : zz_H} (hh : 111 ≤ h.length) {d : Nat} {N : Nat} {Q : Option Value → zz_H → Prop}  {s s' : mS} {v : Option Value} (hf : mf_279_42 N  s = some (s', v)) (k : Q v (mH h s')) : zz_E zp_P zt_tf zt_fd X (d + 10) zm_279 42 [] [] (mH h s) Q := by
  unfold mf_279_42 at hf
  cases hf
  exact mb_279_42 hh  k
def mf_279_38 (N : Nat)  (s : mS) : mO := mo_bv (mf_262 N  s) (fun s1 => mf_279_42 N  s1)
theorem mr_279_38 {X : Nat → Option zz_C} {h : zz_H} (hh : 111 ≤ h.length) {d : Nat} {N : Nat} {Q : Option Value → zz_H → Prop}  {s s' : mS} {v : Option Value} (hf : mf_279_38 N  s = some (s', v)) (k : Q v (mH h s')) : zz_E zp_P zt_tf zt_fd X (d + 10) zm_279 38 [(0, .ref 61)] [] (mH h s) Q := by
  unfold mf_279_38 at hf
  obtain ⟨s1, e, hf⟩ := mo_bv_ok hf
  exact mb_279_38 (d := d + 9) hh  (mr_262 (d := d + 8) hh e (mr_279_42 hh hf k))
def mf_279_318 (N : Nat)  (s : mS) : mO := some (s, none)
theorem mr_279_318 {X : Nat → Option zz_C} {h : zz_H} (hh : 111 ≤ h.length) {d : Nat} {N : Nat} {Q : Option Value → zz_H → Prop}  {s s' : mS} {v : Option Value} (hf : mf_279_318 N  s = some (s', v)) (k : Q v (mH h s')) : zz_E zp_P zt_tf zt_fd X (d + 10) zm_279 318 [] [] (mH h s) Q := by
  unfold mf_279_318 at hf
  cases hf
  exact mb_279_318 hh  k
def mf_279_89 (N : Nat) (y0 : Int32) (s : mS) : mO := mf_279_318 N  s
theorem mr_279_89 {X : Nat → Option zz_C} {h : zz_H} (hh : 111 ≤ h.length) {d : Nat} {N : Nat} {Q : Option Value → zz_H → Prop} {y0 : Int32} {s s' : mS} {v : Option Value} (hf : mf_279_89 N y0 s = some (s', v)) (k : Q v (mH h s')) : zz_E zp_P zt_tf zt_fd X (d + 10) zm_279 89 [] [.int y0] (mH h s) Q := by
  unfold mf_279_89 at hf
  exact mb_279_89 hh  (mr_279_318 hh hf k)
def mf_279_80 (N : Nat) (x1 : Int32) (s : mS) : mO := mo_bi (mf_271 N 22 0 0 x1 s) (fun s1 y => mf_279_89 N y s1)
theorem mr_279_80 {X : Nat → Option zz_C} {h : zz_H} (hh : 111 ≤ h.length) {d : Nat} {N : Nat} {Q : Option Value → zz_H → Prop} {x1 : Int32} {s s' : mS} {v : Option Value} (hf : mf_279_80 N x1 s = some (s', v)) (k : Q v (mH h s')) : zz_E zp_P zt_tf zt_fd X (d + 10) zm_279 80 [(0, .ref 61), (1, .int x1)] [] (mH h s) Q := by
  unfold mf_279_80 at hf
  obtain ⟨s1, y, e, hf⟩ := mo_bi_ok hf
  exact mb_279_80 (d := d + 9) hh  (mr_271 (d := d + 9) hh e (mr_279_89 hh hf k))
def mf_279_74 (N : Nat) (x1 : Int32) (s : mS) : mO := mo_bv (mf_267 N 59 s) (fun s1 => mf_279_80 N x1 s1)
theorem mr_279_74 {X : Nat → Option zz_C} {h : zz_H} (hh : 111 ≤ h.length) {d : Nat} {N : Nat} {Q : Option Value → zz_H → Prop} {x1 : Int32} {s s' : mS} {v : Option Value} (hf : mf_279_74 N x1 s = some (s', v)) (k : Q v (mH h s')) : zz_E zp_P zt_tf zt_fd X (d + 10) zm_279 74 [(0, .ref 61), (1, .int x1)] [] (mH h s) Q := by
  unfold mf_279_74 at hf
  obtain ⟨s1, e, hf⟩ := mo_bv_ok hf
  exact mb_279_74 (d := d + 9) hh  (mr_267 (d := d + 5) hh e (mr_279_80 hh hf k))
def mf_279_69 (N : Nat) (x1 : Int32) (s : mS) : mO := mo_bv (mf_285 N 1 s) (fun s1 => mf_279_74 N x1 s1)
theorem mr_279_69 {X : Nat → Option zz_C} {h : zz_H} (hh : 111 ≤ h.length) {d : Nat} {N : Nat} {Q : Option Value → zz_H → Prop} {x1 : Int32} {s s' : mS} {v : Option Value} (hf : mf_279_69 N x1 s = some (s', v)) (k : Q v (mH h s')) : zz_E zp_P zt_tf zt_fd X (d + 10) zm_279 69 [(0, .ref 61), (1, .int x1)] [] (mH h s) Q := by
  unfold mf_279_69 at hf
  obtain ⟨s1, e, hf⟩ := mo_bv_ok hf
  exact mb_279_69 (d := d + 9) hh  (mr_285 (d := d + 1) hh e (mr_279_74 hh hf k))
def mf_279_183 (N : Nat)  (s : mS) : mO := mf_279_318 N  s
theorem mr_279_183 {X : Nat → Option zz_C} {h : zz_H} (hh : 111 ≤ h.length) {d : Nat} {N : Nat} {Q : Option Value → zz_H → Prop}  {s s' : mS} {v : Option Value} (hf : mf_279_183 N  s = some (s', v)) (k : Q v (mH h s')) : zz_E zp_P zt_tf zt_fd X (d + 10) zm_279 183 [] [] (mH h s) Q := by
  unfold mf_279_183 at hf
  exact mb_279_183 hh  (mr_279_318 hh hf k)
def mf_279_177 (N : Nat) (x3 : Int32) (x4 : Int32) (y1 : Int32) (s : mS) : mO := mo_bv (mf_276 N y1 x4 x3 s) (fun s1 => mf_279_183 N  s1)
theorem mr_279_177 {X : Nat → Option zz_C} {h : zz_H} (hh : 111 ≤ h.length) {d : Nat} {N : Nat} {Q : Option Value → zz_H → Prop} {x3 : Int32} {x4 : Int32} {y1 : Int32} {s s' : mS} {v : Option Value} (hf : mf_279_177 N x3 x4 y1 s = some (s', v)) (k : Q v (mH h s')) : zz_E zp_P zt_tf zt_fd X (d + 10) zm_279 177 [(3, .int x3), (4, .int x4)] [.int y1, .ref 61] (mH h s) Q := by
  unfold mf_279_177 at hf
  obtain ⟨s1, e, hf⟩ := mo_bv_ok hf
  exact mb_279_177 (d := d + 9) hh  (mr_276 (d := d + 4) hh e (mr_279_183 hh hf k))
def mf_279_176 (N : Nat) (x3 : Int32) (x4 : Int32) (s : mS) : mO := mf_279_177 N x3 x4 3 s
theorem mr_279_176 {X : Nat → Option zz_C} {h : zz_H} (hh : 111 ≤ h.length) {d : Nat} {N : Nat} {Q : Option Value → zz_H → Prop} {x3 : Int32} {x4 : Int32} {s s' : mS} {v : Option Value} (hf : mf_279_176 N x3 x4 s = some (s', v)) (k : Q v (mH h s')) : zz_E zp_P zt_tf zt_fd X (d + 10) zm_279 176 [(3, .int x3), (4, .int x4)] [.ref 61] (mH h s) Q := by
  unfold mf_279_176 at hf
  exact mb_279_176 hh  (mr_279_177 hh hf k)
def mf_279_172 (N : Nat) (x3 : Int32) (x4 : Int32) (s : mS) : mO := mf_279_177 N x3 x4 1 s
theorem mr_279_172 {X : Nat → Option zz_C} {h : zz_H} (hh : 111 ≤ h.length) {d : Nat} {N : Nat} {Q : Option Value → zz_H → Prop} {x3 : Int32} {x4 : Int32} {s s' : mS} {v : Option Value} (hf : mf_279_172 N x3 x4 s = some (s', v)) (k : Q v (mH h s')) : zz_E zp_P zt_tf zt_fd X (d + 10) zm_279 172 [(3, .int x3), (4, .int x4)] [.ref 61] (mH h s) Q := by
  unfold mf_279_172 at hf
  exact mb_279_172 hh  (mr_279_177 hh hf k)
def mf_279_164 (N : Nat) (x2 : Int32) (x3 : Int32) (y0 : Int32) (s : mS) : mO := if ¬ x2 = 1 then mf_279_176 N x3 y0 s else mf_279_172 N x3 y0 s
theorem mr_279_164 {X : Nat → Option zz_C} {h : zz_H} (hh : 111 ≤ h.length) {d : Nat} {N : Nat} {Q : Option Value → zz_H → Prop} {x2 : Int32} {x3 : Int32} {y0 : Int32} {s s' : mS} {v : Option Value} (hf : mf_279_164 N x2 x3 y0 s = some (s', v)) (k : Q v (mH h s')) : zz_E zp_P zt_tf zt_fd X (d + 10) zm_279 164 [(0, .ref 61), (2, .int x2), (3, .int x3)] [.int y0] (mH h s) Q := by
  unfold mf_279_164 at hf
  refine mb_279_164 hh  (fun c => ?_) (fun c => ?_)
  · rw [if_pos c] at hf
    exact mr_279_176 hh hf k
  · rw [if_neg c] at hf
    exact mr_279_172 hh hf k
def mf_279_155 (N : Nat) (x1 : Int32) (x2 : Int32) (x3 : Int32) (s : mS) : mO := mo_bi (mf_271 N 14 0 0 x1 s) (fun s1 y => mf_279_164 N x2 x3 y s1)
theorem mr_279_155 {X : Nat → Option zz_C} {h : zz_H} (hh : 111 ≤ h.length) {d : Nat} {N : Nat} {Q : Option Value → zz_H → Prop} {x1 : Int32} {x2 : Int32} {x3 : Int32} {s s' : mS} {v : Option Value} (hf : mf_279_155 N x1 x2 x3 s = some (s', v)) (k : Q v (mH h s')) : zz_E zp_P zt_tf zt_fd X (d + 10) zm_279 155 [(0, .ref 61), (1, .int x1), (2, .int x2), (3, .int x3)] [] (mH h s) Q := by
  unfold mf_279_155 at hf
  obtain ⟨s1, y, e, hf⟩ := mo_bi_ok hf
  exact mb_279_155 (d := d + 9) hh  (mr_271 (d := d + 9) hh e (mr_279_164 hh hf k))
def mf_279_149 (N : Nat) (x1 : Int32) (x2 : Int32) (x3 : Int32) (s : mS) : mO := mo_bv (mf_267 N 41 s) (fun s1 => mf_279_155 N x1 x2 x3 s1)
theorem mr_279_149 {X : Nat → Option zz_C} {h : zz_H} (hh : 111 ≤ h.length) {d : Nat} {N : Nat} {Q : Option Value → zz_H → Prop} {x1 : Int32} {x2 : Int32} {x3 : Int32} {s s' : mS} {v : Option Value} (hf : mf_279_149 N x1 x2 x3 s = some (s', v)) (k : Q v (mH h s')) : zz_E zp_P zt_tf zt_fd X (d + 10) zm_279 149 [(0, .ref 61), (1, .int x1), (2, .int x2), (3, .int x3)] [] (mH h s) Q := by
  unfold mf_279_149 at hf
  obtain ⟨s1, e, hf⟩ := mo_bv_ok hf
  exact mb_279_149 (d := d + 9) hh  (mr_267 (d := d + 5) hh e (mr_279_155 hh hf k))
def mf_279_144 (N : Nat) (x1 : Int32) (x2 : Int32) (x3 : Int32) (s : mS) : mO := mo_bv (mf_285 N 0 s) (fun s1 => mf_279_149 N x1 x2 x3 s1)
theorem mr_279_144 {X : Nat → Option zz_C} {h : zz_H} (hh : 111 ≤ h.length) {d : Nat} {N : Nat} {Q : Option Value → zz_H → Prop} {x1 : Int32} {x2 : Int32} {x3 : Int32} {s s' : mS} {v : Option Value} (hf : mf_279_144 N x1 x2 x3 s = some (s', v)) (k : Q v (mH h s')) : zz_E zp_P zt_tf zt_fd X (d + 10) zm_279 144 [(0, .ref 61), (1, .int x1), (2, .int x2), (3, .int x3)] [] (mH h s) Q := by
  unfold mf_279_144 at hf
  obtain ⟨s1, e, hf⟩ := mo_bv_ok hf
  exact mb_279_144 (d := d + 9) hh  (mr_285 (d := d + 1) hh e (mr_279_149 hh hf k))
def mf_279_138 (N : Nat) (x1 : Int32) (x2 : Int32) (x3 : Int32) (s : mS) : mO := mo_bv (mf_268 N 40 s) (fun s1 => mf_279_144 N x1 x2 x3 s1)
theorem mr_279_138 {X : Nat → Option zz_C} {h : zz_H} (hh : 111 ≤ h.length) {d : Nat} {N : Nat} {Q : Option Value → zz_H → Prop} {x1 : Int32} {x2 : Int32} {x3 : Int32} {s s' : mS} {v : Option Value} (hf : mf_279_138 N x1 x2 x3 s = some (s', v)) (k : Q v (mH h s')) : zz_E zp_P zt_tf zt_fd X (d + 10) zm_279 138 [(0, .ref 61), (1, .int x1), (2, .int x2), (3, .int x3)] [] (mH h s) Q := by
  unfold mf_279_138 at hf
  obtain ⟨s1, e, hf⟩ := mo_bv_ok hf
  exact mb_279_138 (d := d + 9) hh  (mr_268 (d := d + 5) hh e (mr_279_144 hh hf k))
def mf_279_137 (N : Nat) (x1 : Int32) (x2 : Int32) (x3 : Int32) (y0 : Int32) (s : mS) : mO := mf_279_138 N x1 x2 x3 s
theorem mr_279_137 {X : Nat → Option zz_C} {h : zz_H} (hh : 111 ≤ h.length) {d : Nat} {N : Nat} {Q : Option Value → zz_H → Prop} {x1 : Int32} {x2 : Int32} {x3 : Int32} {y0 : Int32} {s s' : mS} {v : Option Value} (hf : mf_279_137 N x1 x2 x3 y0 s = some (s', v)) (k : Q v (mH h s')) : zz_E zp_P zt_tf zt_fd X (d + 10) zm_279 137 [(0, .ref 61), (1, .int x1), (2, .int x2), (3, .int x3)] [.int y0] (mH h s) Q := by
  unfold mf_279_137 at hf
  exact mb_279_137 hh  (mr_279_138 hh hf k)
def mf_279_128 (N : Nat) (x1 : Int32) (x2 : Int32) (x3 : Int32) (s : mS) : mO := mo_bi (mf_271 N 16 0 0 x1 s) (fun s1 y => mf_279_137 N x1 x2 x3 y s1)
theorem mr_279_128 {X : Nat → Option zz_C} {h : zz_H} (hh : 111 ≤ h.length) {d : Nat} {N : Nat} {Q : Option Value → zz_H → Prop} {x1 : Int32} {x2 : Int32} {x3 : Int32} {s s' : mS} {v : Option Value} (hf : mf_279_128 N x1 x2 x3 s = some (s', v)) (k : Q v (mH h s')) : zz_E zp_P zt_tf zt_fd X (d + 10) zm_279 128 [(0, .ref 61), (1, .int x1), (2, .int x2), (3, .int x3)] [] (mH h s) Q := by
  unfold mf_279_128 at hf
  obtain ⟨s1, y, e, hf⟩ := mo_bi_ok hf
  exact mb_279_128 (d := d + 9) hh  (mr_271 (d := d + 9) hh e (mr_279_137 hh hf k))
def mf_279_122 (N : Nat) (x1 : Int32) (x2 : Int32) (y0 : Int32) (s : mS) : mO := if ¬ x2 = 3 then mf_279_138 N x1 x2 y0 s else mf_279_128 N x1 x2 y0 s
theorem mr_279_122 {X : Nat → Option zz_C} {h : zz_H} (hh : 111 ≤ h.length) {d : Nat} {N : Nat} {Q : Option Value → zz_H → Prop} {x1 : Int32} {x2 : Int32} {y0 : Int32} {s s' : mS} {v : Option Value} (hf : mf_279_122 N x1 x2 y0 s = some (s', v)) (k : Q v (mH h s')) : zz_E zp_P zt_tf zt_fd X (d + 10) zm_279 122 [(0, .ref 61), (1, .int x1), (2, .int x2)] [.int y0] (mH h s) Q := by
  unfold mf_279_122 at hf
  refine mb_279_122 hh  (fun c => ?_) (fun c => ?_)
  · rw [if_pos c] at hf
    exact mr_279_138 hh hf k
  · rw [if_neg c] at hf
    exact mr_279_128 hh hf k
def mf_279_118 (N : Nat) (x1 : Int32) (x2 : Int32) (s : mS) : mO := mo_bi (mf_272 N  s) (fun s1 y => mf_279_122 N x1 x2 y s1)
theorem mr_279_118 {X : Nat → Option zz_C} {h : zz_H} (hh : 111 ≤ h.length) {d : Nat} {N : Nat} {Q : Option Value → zz_H → Prop} {x1 : Int32} {x2 : Int32} {s s' : mS} {v : Option Value} (hf : mf_279_118 N x1 x2 s = some (s', v)) (k : Q v (mH h s')) : zz_E zp_P zt_tf zt_fd X (d + 10) zm_279 118 [(0, .ref 61), (1, .int x1), (2, .int x2)] [] (mH h s) Q := by
  unfold mf_279_118 at hf
  obtain ⟨s1, y, e, hf⟩ := mo_bi_ok hf
  exact mb_279_118 (d := d + 9) hh  (mr_272 (d := d + 9) hh e (mr_279_122 hh hf k))
def mf_279_114 (N : Nat) (x1 : Int32) (x2 : Int32) (s : mS) : mO := mo_bv (mf_260 N  s) (fun s1 => mf_279_118 N x1 x2 s1)
theorem mr_279_114 {X : Nat → Option zz_C} {h : zz_H} (hh : 111 ≤ h.length) {d : Nat} {N : Nat} {Q : Option Value → zz_H → Prop} {x1 : Int32} {x2 : Int32} {s s' : mS} {v : Option Value} (hf : mf_279_114 N x1 x2 s = some (s', v)) (k : Q v (mH h s')) : zz_E zp_P zt_tf zt_fd X (d + 10) zm_279 114 [(0, .ref 61), (1, .int x1), (2, .int x2)] [] (mH h s) Q := by
  unfold mf_279_114 at hf
  obtain ⟨s1, e, hf⟩ := mo_bv_ok hf
  exact mb_279_114 (d := d + 9) hh  (mr_260 (d := d + 6) hh e (mr_279_118 hh hf k))
def mf_279_317 (N : Nat) (y0 : Int32) (s : mS) : mO := mf_279_318 N  s
theorem mr_279_317 {X : Nat → Option zz_C} {h : zz_H} (hh : 111 ≤ h.length) {d : Nat} {N : Nat} {Q : Option Value → zz_H → Prop} {y0 : Int32} {s s' : mS} {v : Option Value} (hf : mf_279_317 N y0 s = some (s', v)) (k : Q v (mH h s')) : zz_E zp_P zt_tf zt_fd X (d + 10) zm_279 317 [] [.int y0] (mH h s) Q := by
  unfold mf_279_317 at hf
  exact mb_279_317 hh  (mr_279_318 hh hf k)
def mf_279_311 (N : Nat) (x1 : Int32) (y1 : Int32) (s : mS) : mO := mo_bi (mf_271 N y1 0 0 x1 s) (fun s1 y => mf_279_317 N y s1)
theorem mr_279_311 {X : Nat → Option zz_C} {h : zz_H} (hh : 111 ≤ h.length) {d : Nat} {N : Nat} {Q : Option Value → zz_H → Prop} {x1 : Int32} {y1 : Int32} {s s' : mS} {v : Option Value} (hf : mf_279_311 N x1 y1 s = some (s', v)) (k : Q v (mH h s')) : zz_E zp_P zt_tf zt_fd X (d + 10) zm_279 311 [(1, .int x1)] [.int y1, .ref 61] (mH h s) Q := by
  unfold mf_279_311 at hf
  obtain ⟨s1, y, e, hf⟩ := mo_bi_ok hf
  exact mb_279_311 (d := d + 9) hh  (mr_271 (d := d + 9) hh e (mr_279_317 hh hf k))
def mf_279_309 (N : Nat) (x1 : Int32) (s : mS) : mO := mf_279_311 N x1 21 s
theorem mr_279_309 {X : Nat → Option zz_C} {h : zz_H} (hh : 111 ≤ h.length) {d : Nat} {N : Nat} {Q : Option Value → zz_H → Prop} {x1 : Int32} {s s' : mS} {v : Option Value} (hf : mf_279_309 N x1 s = some (s', v)) (k : Q v (mH h s')) : zz_E zp_P zt_tf zt_fd X (d + 10) zm_279 309 [(1, .int x1)] [.ref 61] (mH h s) Q := by
  unfold mf_279_309 at hf
  exact mb_279_309 hh  (mr_279_311 hh hf k)
def mf_279_304 (N : Nat) (x1 : Int32) (s : mS) : mO := mf_279_311 N x1 20 s
theorem mr_279_304 {X : Nat → Option zz_C} {h : zz_H} (hh : 111 ≤ h.length) {d : Nat} {N : Nat} {Q : Option Value → zz_H → Prop} {x1 : Int32} {s s' : mS} {v : Option Value} (hf : mf_279_304 N x1 s = some (s', v)) (k : Q v (mH h s')) : zz_E zp_P zt_tf zt_fd X (d + 10) zm_279 304 [(1, .int x1)] [.ref 61] (mH h s) Q := by
  unfold mf_279_304 at hf
  exact mb_279_304 hh  (mr_279_311 hh hf k)
def mf_279_298 (N : Nat) (x1 : Int32) (x2 : Int32) (s : mS) : mO := if ¬ x2 = 7 then mf_279_309 N x1 s else mf_279_304 N x1 s
theorem mr_279_298 {X : Nat → Option zz_C} {h : zz_H} (hh : 111 ≤ h.length) {d : Nat} {N : Nat} {Q : Option Value → zz_H → Prop} {x1 : Int32} {x2 : Int32} {s s' : mS} {v : Option Value} (hf : mf_279_298 N x1 x2 s = some (s', v)) (k : Q v (mH h s')) : zz_E zp_P zt_tf zt_fd X (d + 10) zm_279 298 [(1, .int x1), (2, .int x2)] [.ref 61] (mH h s) Q := by
  unfold mf_279_298 at hf
  refine mb_279_298 hh  (fun c => ?_) (fun c => ?_)
  · rw [if_pos c] at hf
    exact mr_279_309 hh hf k
  · rw [if_neg c] at hf
    exact mr_279_304 hh hf k
def mf_279_293 (N : Nat) (x1 : Int32) (s : mS) : mO := mf_279_311 N x1 19 s
theorem mr_279_293 {X : Nat → Option zz_C} {h : zz_H} (hh : 111 ≤ h.length) {d : Nat} {N : Nat} {Q : Option Value → zz_H → Prop} {x1 : Int32} {s s' : mS} {v : Option Value} (hf : mf_279_293 N x1 s = some (s', v)) (k : Q v (mH h s')) : zz_E zp_P zt_tf zt_fd X (d + 10) zm_279 293 [(1, .int x1)] [.ref 61] (mH h s) Q := by
  unfold mf_279_293 at hf
  exact mb_279_293 hh  (mr_279_311 hh hf k)
def mf_279_286 (N : Nat) (x1 : Int32) (x2 : Int32) (s : mS) : mO := if ¬ x2 = 6 then mf_279_298 N x1 x2 s else mf_279_293 N x1 s
theorem mr_279_286 {X : Nat → Option zz_C} {h : zz_H} (hh : 111 ≤ h.length) {d : Nat} {N : Nat} {Q : Option Value → zz_H → Prop} {x1 : Int32} {x2 : Int32} {s s' : mS} {v : Option Value} (hf : mf_279_286 N x1 x2 s = some (s', v)) (k : Q v (mH h s')) : zz_E zp_P zt_tf zt_fd X (d + 10) zm_279 286 [(0, .ref 61), (1, .int x1), (2, .int x2)] [] (mH h s) Q := by
  unfold mf_279_286 at hf
  refine mb_279_286 hh  (fun c => ?_) (fun c => ?_)
  · rw [if_pos c] at hf
    exact mr_279_298 hh hf k
  · rw [if_neg c] at hf
    exact mr_279_293 hh hf k
def mf_279_280 (N : Nat) (x1 : Int32) (x2 : Int32) (s : mS) : mO := mo_bv (mf_267 N 59 s) (fun s1 => mf_279_286 N x1 x2 s1)
theorem mr_279_280 {X : Nat → Option zz_C} {h : zz_H} (hh : 111 ≤ h.length) {d : Nat} {N : Nat} {Q : Option Value → zz_H → Prop} {x1 : Int32} {x2 : Int32} {s s' : mS} {v : Option Value} (hf : mf_279_280 N x1 x2 s = some (s', v)) (k : Q v (mH h s')) : zz_E zp_P zt_tf zt_fd X (d + 10) zm_279 280 [(0, .ref 61), (1, .int x1), (2, .int x2)] [] (mH h s) Q := by
  unfold mf_279_280 at hf
  obtain ⟨s1, e, hf⟩ := mo_bv_ok hf
  exact mb_279_280 (d := d + 9) hh  (mr_267 (d := d + 5) hh e (mr_279_286 hh hf k))
def mf_279_275 (N : Nat) (x1 : Int32) (x2 : Int32) (s : mS) : mO := mo_bv (mf_285 N 0 s) (fun s1 => mf_279_280 N x1 x2 s1)
theorem mr_279_275 {X : Nat → Option zz_C} {h : zz_H} (hh : 111 ≤ h.length) {d : Nat} {N : Nat} {Q : Option Value → zz_H → Prop} {x1 : Int32} {x2 : Int32} {s s' : mS} {v : Option Value} (hf : mf_279_275 N x1 x2 s = some (s', v)) (k : Q v (mH h s')) : zz_E zp_P zt_tf zt_fd X (d + 10) zm_279 275 [(0, .ref 61), (1, .int x1), (2, .int x2)] [] (mH h s) Q := by
  unfold mf_279_275 at hf
  obtain ⟨s1, e, hf⟩ := mo_bv_ok hf
  exact mb_279_275 (d := d + 9) hh  (mr_285 (d := d + 1) hh e (mr_279_280 hh hf k))
def mf_279_271 (N : Nat) (x1 : Int32) (x2 : Int32) (s : mS) : mO := mo_bv (mf_260 N  s) (fun s1 => mf_279_275 N x1 x2 s1)
theorem mr_279_271 {X : Nat → Option zz_C} {h : zz_H} (hh : 111 ≤ h.length) {d : Nat} {N : Nat} {Q : Option Value → zz_H → Prop} {x1 : Int32} {x2 : Int32} {s s' : mS} {v : Option Value} (hf : mf_279_271 N x1 x2 s = some (s', v)) (k : Q v (mH h s')) : zz_E zp_P zt_tf zt_fd X (d + 10) zm_279 271 [(0, .ref 61), (1, .int x1), (2, .int x2)] [] (mH h s) Q := by
  unfold mf_279_271 at hf
  obtain ⟨s1, e, hf⟩ := mo_bv_ok hf
  exact mb_279_271 (d := d + 9) hh  (mr_260 (d := d + 6) hh e (mr_279_275 hh hf k))
def mf_279_268 (N : Nat)  (s : mS) : mO := mf_279_318 N  s
theorem mr_279_268 {X : Nat → Option zz_C} {h : zz_H} (hh : 111 ≤ h.length) {d : Nat} {N : Nat} {Q : Option Value → zz_H → Prop}  {s s' : mS} {v : Option Value} (hf : mf_279_268 N  s = some (s', v)) (k : Q v (mH h s')) : zz_E zp_P zt_tf zt_fd X (d + 10) zm_279 268 [] [] (mH h s) Q := by
  unfold mf_279_268 at hf
  exact mb_279_268 hh  (mr_279_318 hh hf k)
def mf_279_264 (N : Nat) (y1 : Int32) (y2 : Int32) (s : mS) : mO := mo_bv (mf_276 N y1 y2 0 s) (fun s1 => mf_279_268 N  s1)
theorem mr_279_264 {X : Nat → Option zz_C} {h : zz_H} (hh : 111 ≤ h.length) {d : Nat} {N : Nat} {Q : Option Value → zz_H → Prop} {y1 : Int32} {y2 : Int32} {s s' : mS} {v : Option Value} (hf : mf_279_264 N y1 y2 s = some (s', v)) (k : Q v (mH h s')) : zz_E zp_P zt_tf zt_fd X (d + 10) zm_279 264 [] [.int y2, .int y1, .ref 61] (mH h s) Q := by
  unfold mf_279_264 at hf
  obtain ⟨s1, e, hf⟩ := mo_bv_ok hf
  exact mb_279_264 (d := d + 9) hh  (mr_276 (d := d + 4) hh e (mr_279_268 hh hf k))
def mf_279_253 (N : Nat)  (s : mS) : mO := mo_bi (mf_271 N 23 0 0 0 s) (fun s1 y => mf_279_264 N 5 y s1)
theorem mr_279_253 {X : Nat → Option zz_C} {h : zz_H} (hh : 111 ≤ h.length) {d : Nat} {N : Nat} {Q : Option Value → zz_H → Prop}  {s s' : mS} {v : Option Value} (hf : mf_279_253 N  s = some (s', v)) (k : Q v (mH h s')) : zz_E zp_P zt_tf zt_fd X (d + 10) zm_279 253 [(0, .ref 61)] [] (mH h s) Q := by
  unfold mf_279_253 at hf
  obtain ⟨s1, y, e, hf⟩ := mo_bi_ok hf
  exact mb_279_253 (d := d + 9) hh  (mr_271 (d := d + 9) hh e (mr_279_264 hh hf k))
def mf_279_249 (N : Nat)  (s : mS) : mO := mo_bv (mf_260 N  s) (fun s1 => mf_279_253 N  s1)
theorem mr_279_249 {X : Nat → Option zz_C} {h : zz_H} (hh : 111 ≤ h.length) {d : Nat} {N : Nat} {Q : Option Value → zz_H → Prop}  {s s' : mS} {v : Option Value} (hf : mf_279_249 N  s = some (s', v)) (k : Q v (mH h s')) : zz_E zp_P zt_tf zt_fd X (d + 10) zm_279 249 [(0, .ref 61)] [] (mH h s) Q := by
  unfold mf_279_249 at hf
  obtain ⟨s1, e, hf⟩ := mo_bv_ok hf
  exact mb_279_249 (d := d + 9) hh  (mr_260 (d := d + 6) hh e (mr_279_253 hh hf k))
def mf_279_243 (N : Nat) (x1 : Int32) (x2 : Int32) (s : mS) : mO := if ¬ x2 = 9 then mf_279_271 N x1 x2 s else mf_279_249 N  s
theorem mr_279_243 {X : Nat → Option zz_C} {h : zz_H} (hh : 111 ≤ h.length) {d : Nat} {N : Nat} {Q : Option Value → zz_H → Prop} {x1 : Int32} {x2 : Int32} {s s' : mS} {v : Option Value} (hf : mf_279_243 N x1 x2 s = some (s', v)) (k : Q v (mH h s')) : zz_E zp_P zt_tf zt_fd X (d + 10) zm_279 243 [(0, .ref 61), (1, .int x1), (2, .int x2)] [] (mH h s) Q := by
  unfold mf_279_243 at hf
  refine mb_279_243 hh  (fun c => ?_) (fun c => ?_)
  · rw [if_pos c] at hf
    exact mr_279_271 hh hf k
  · rw [if_neg c] at hf
    exact mr_279_249 hh hf k
def mf_279_240 (N : Nat)  (s : mS) : mO := mf_279_318 N  s
theorem mr_279_240 {X : Nat → Option zz_C} {h : zz_H} (hh : 111 ≤ h.length) {d : Nat} {N : Nat} {Q : Option Value → zz_H → Prop}  {s s' : mS} {v : Option Value} (hf : mf_279_240 N  s = some (s', v)) (k : Q v (mH h s')) : zz_E zp_P zt_tf zt_fd X (d + 10) zm_279 240 [] [] (mH h s) Q := by
  unfold mf_279_240 at hf
  exact mb_279_240 hh  (mr_279_318 hh hf k)
def mf_279_229 (N : Nat) (y0 : Int32) (s : mS) : mO := mo_bv (mf_276 N 4 y0 y0 s) (fun s1 => mf_279_240 N  s1)
theorem mr_279_229 {X : Nat → Option zz_C} {h : zz_H} (hh : 111 ≤ h.length) {d : Nat} {N : Nat} {Q : Option Value → zz_H → Prop} {y0 : Int32} {s s' : mS} {v : Option Value} (hf : mf_279_229 N y0 s = some (s', v)) (k : Q v (mH h s')) : zz_E zp_P zt_tf zt_fd X (d + 10) zm_279 229 [(0, .ref 61)] [.int y0] (mH h s) Q := by
  unfold mf_279_229 at hf
  obtain ⟨s1, e, hf⟩ := mo_bv_ok hf
  exact mb_279_229 (d := d + 9) hh  (mr_276 (d := d + 4) hh e (mr_279_240 hh hf k))
def mf_279_219 (N : Nat) (x1 : Int32) (x3 : Int32) (y0 : Int32) (s : mS) : mO := mo_bi (mf_271 N 18 0 x3 x1 s) (fun s1 y => mf_279_229 N y s1)
theorem mr_279_219 {X : Nat → Option zz_C} {h : zz_H} (hh : 111 ≤ h.length) {d : Nat} {N : Nat} {Q : Option Value → zz_H → Prop} {x1 : Int32} {x3 : Int32} {y0 : Int32} {s s' : mS} {v : Option Value} (hf : mf_279_219 N x1 x3 y0 s = some (s', v)) (k : Q v (mH h s')) : zz_E zp_P zt_tf zt_fd X (d + 10) zm_279 219 [(0, .ref 61), (1, .int x1), (3, .int x3)] [.int y0] (mH h s) Q := by
  unfold mf_279_219 at hf
  obtain ⟨s1, y, e, hf⟩ := mo_bi_ok hf
  exact mb_279_219 (d := d + 9) hh  (mr_271 (d := d + 9) hh e (mr_279_229 hh hf k))
def mf_279_210 (N : Nat) (x1 : Int32) (x3 : Int32) (s : mS) : mO := mo_bi (mf_271 N 17 0 0 x1 s) (fun s1 y => mf_279_219 N x1 x3 y s1)
theorem mr_279_210 {X : Nat → Option zz_C} {h : zz_H} (hh : 111 ≤ h.length) {d : Nat} {N : Nat} {Q : Option Value → zz_H → Prop} {x1 : Int32} {x3 : Int32} {s s' : mS} {v : Option Value} (hf : mf_279_210 N x1 x3 s = some (s', v)) (k : Q v (mH h s')) : zz_E zp_P zt_tf zt_fd X (d + 10) zm_279 210 [(0, .ref 61), (1, .int x1), (3, .int x3)] [] (mH h s) Q := by
  unfold mf_279_210 at hf
  obtain ⟨s1, y, e, hf⟩ := mo_bi_ok hf
  exact mb_279_210 (d := d + 9) hh  (mr_271 (d := d + 9) hh e (mr_279_219 hh hf k))
def mf_279_205 (N : Nat) (x1 : Int32) (x3 : Int32) (s : mS) : mO := mo_bv (mf_285 N 0 s) (fun s1 => mf_279_210 N x1 x3 s1)
theorem mr_279_205 {X : Nat → Option zz_C} {h : zz_H} (hh : 111 ≤ h.length) {d : Nat} {N : Nat} {Q : Option Value → zz_H → Prop} {x1 : Int32} {x3 : Int32} {s s' : mS} {v : Option Value} (hf : mf_279_205 N x1 x3 s = some (s', v)) (k : Q v (mH h s')) : zz_E zp_P zt_tf zt_fd X (d + 10) zm_279 205 [(0, .ref 61), (1, .int x1), (3, .int x3)] [] (mH h s) Q := by
  unfold mf_279_205 at hf
  obtain ⟨s1, e, hf⟩ := mo_bv_ok hf
  exact mb_279_205 (d := d + 9) hh  (mr_285 (d := d + 1) hh e (mr_279_210 hh hf k))
def mf_279_199 (N : Nat) (x1 : Int32) (y0 : Int32) (s : mS) : mO := mo_bv (mf_269 N 5 s) (fun s1 => mf_279_205 N x1 y0 s1)
theorem mr_279_199 {X : Nat → Option zz_C} {h : zz_H} (hh : 111 ≤ h.length) {d : Nat} {N : Nat} {Q : Option Value → zz_H → Prop} {x1 : Int32} {y0 : Int32} {s s' : mS} {v : Option Value} (hf : mf_279_199 N x1 y0 s = some (s', v)) (k : Q v (mH h s')) : zz_E zp_P zt_tf zt_fd X (d + 10) zm_279 199 [(0, .ref 61), (1, .int x1)] [.int y0] (mH h s) Q := by
  unfold mf_279_199 at hf
  obtain ⟨s1, e, hf⟩ := mo_bv_ok hf
  exact mb_279_199 (d := d + 9) hh  (mr_269 (d := d + 5) hh e (mr_279_205 hh hf k))
def mf_279_195 (N : Nat) (x1 : Int32) (s : mS) : mO := mo_bi (mf_275 N  s) (fun s1 y => mf_279_199 N x1 y s1)
theorem mr_279_195 {X : Nat → Option zz_C} {h : zz_H} (hh : 111 ≤ h.length) {d : Nat} {N : Nat} {Q : Option Value → zz_H → Prop} {x1 : Int32} {s s' : mS} {v : Option Value} (hf : mf_279_195 N x1 s = some (s', v)) (k : Q v (mH h s')) : zz_E zp_P zt_tf zt_fd X (d + 10) zm_279 195 [(0, .ref 61), (1, .int x1)] [] (mH h s) Q := by
  unfold mf_279_195 at hf
  obtain ⟨s1, y, e, hf⟩ := mo_bi_ok hf
  exact mb_279_195 (d := d + 9) hh  (mr_275 (d := d + 5) hh e (mr_279_199 hh hf k))
def mf_279_191 (N : Nat) (x1 : Int32) (s : mS) : mO := mo_bv (mf_260 N  s) (fun s1 => mf_279_195 N x1 s1)
theorem mr_279_191 {X : Nat → Option zz_C} {h : zz_H} (hh : 111 ≤ h.length) {d : Nat} {N : Nat} {Q : Option Value → zz_H → Prop} {x1 : Int32} {s s' : mS} {v : Option Value} (hf : mf_279_191 N x1 s = some (s', v)) (k : Q v (mH h s')) : zz_E zp_P zt_tf zt_fd X (d + 10) zm_279 191 [(0, .ref 61), (1, .int x1)] [] (mH h s) Q := by
  unfold mf_279_191 at hf
  obtain ⟨s1, e, hf⟩ := mo_bv_ok hf
  exact mb_279_191 (d := d + 9) hh  (mr_260 (d := d + 6) hh e (mr_279_195 hh hf k))
def mf_279_186 (N : Nat) (x1 : Int32) (x2 : Int32) (s : mS) : mO := if ¬ x2 = 4 then mf_279_243 N x1 x2 s else mf_279_191 N x1 s
theorem mr_279_186 {X : Nat → Option zz_C} {h : zz_H} (hh : 111 ≤ h.length) {d : Nat} {N : Nat} {Q : Option Value → zz_H → Prop} {x1 : Int32} {x2 : Int32} {s s' : mS} {v : Option Value} (hf : mf_279_186 N x1 x2 s = some (s', v)) (k : Q v (mH h s')) : zz_E zp_P zt_tf zt_fd X (d + 10) zm_279 186 [(0, .ref 61), (1, .int x1), (2, .int x2)] [] (mH h s) Q := by
  unfold mf_279_186 at hf
  refine mb_279_186 hh  (fun c => ?_) (fun c => ?_)
  · rw [if_pos c] at hf
    exact mr_279_243 hh hf k
  · rw [if_neg c] at hf
    exact mr_279_191 hh hf k
def mf_279_109 (N : Nat) (x1 : Int32) (x2 : Int32) (s : mS) : mO := if ¬ x2 = 3 then mf_279_186 N x1 x2 s else mf_279_114 N x1 x2 s
theorem mr_279_109 {X : Nat → Option zz_C} {h : zz_H} (hh : 111 ≤ h.length) {d : Nat} {N : Nat} {Q : Option Value → zz_H → Prop} {x1 : Int32} {x2 : Int32} {s s' : mS} {v : Option Value} (hf : mf_279_109 N x1 x2 s = some (s', v)) (k : Q v (mH h s')) : zz_E zp_P zt_tf zt_fd X (d + 10) zm_279 109 [(0, .ref 61), (1, .int x1), (2, .int x2)] [] (mH h s) Q := by
  unfold mf_279_109 at hf
  refine mb_279_109 hh  (fun c => ?_) (fun c => ?_)
  · rw [if_pos c] at hf
    exact mr_279_186 hh hf k
  · rw [if_neg c] at hf
    exact mr_279_114 hh hf k
def mf_279_104 (N : Nat) (x1 : Int32) (x2 : Int32) (s : mS) : mO := if x2 = 1 then mf_279_114 N x1 x2 s else mf_279_109 N x1 x2 s
theorem mr_279_104 {X : Nat → Option zz_C} {h : zz_H} (hh : 111 ≤ h.length) {d : Nat} {N : Nat} {Q : Option Value → zz_H → Prop} {x1 : Int32} {x2 : Int32} {s s' : mS} {v : Option Value} (hf : mf_279_104 N x1 x2 s = some (s', v)) (k : Q v (mH h s')) : zz_E zp_P zt_tf zt_fd X (d + 10) zm_279 104 [(0, .ref 61), (1, .int x1), (2, .int x2)] [] (mH h s) Q := by
  unfold mf_279_104 at hf
  refine mb_279_104 hh  (fun c => ?_) (fun c => ?_)
  · rw [if_pos c] at hf
    exact mr_279_114 hh hf k
  · rw [if_neg c] at hf
    exact mr_279_109 hh hf k
def mf_279_101 (N : Nat)  (s : mS) : mO := mf_279_318 N  s
theorem mr_279_101 {X : Nat → Option zz_C} {h : zz_H} (hh : 111 ≤ h.length) {d : Nat} {N : Nat} {Q : Option Value → zz_H → Prop}  {s s' : mS} {v : Option Value} (hf : mf_279_101 N  s = some (s', v)) (k : Q v (mH h s')) : zz_E zp_P zt_tf zt_fd X (d + 10) zm_279 101 [] [] (mH h s) Q := by
  unfold mf_279_101 at hf
  exact mb_279_101 hh  (mr_279_318 hh hf k)
def mf_279_97 (N : Nat)  (s : mS) : mO := mo_bv (mf_280 N  s) (fun s1 => mf_279_101 N  s1)
theorem mr_279_97 {X : Nat → Option zz_C} {h : zz_H} (hh : 111 ≤ h.length) {d : Nat} {N : Nat} {Q : Option Value → zz_H → Prop}  {s s' : mS} {v : Option Value} (hf : mf_279_97 N  s = some (s', v)) (k : Q v (mH h s')) : zz_E zp_P zt_tf zt_fd X (d + 10) zm_279 97 [(0, .ref 61)] [] (mH h s) Q := by
  unfold mf_279_97 at hf
  obtain ⟨s1, e, hf⟩ := mo_bv_ok hf
  exact mb_279_97 (d := d + 9) hh  (mr_280 (d := d + 0) hh e (mr_279_101 hh hf k))
def mf_279_93 (N : Nat) (x1 : Int32) (x2 : Int32) (s : mS) : mO := if 0 ≤ x2 then mf_279_104 N x1 x2 s else mf_279_97 N  s
theorem mr_279_93 {X : Nat → Option zz_C} {h : zz_H} (hh : 111 ≤ h.length) {d : Nat} {N : Nat} {Q : Option Value → zz_H → Prop} {x1 : Int32} {x2 : Int32} {s s' : mS} {v : Option Value} (hf : mf_279_93 N x1 x2 s = some (s', v)) (k : Q v (mH h s')) : zz_E zp_P zt_tf zt_fd X (d + 10) zm_279 93 [(0, .ref 61), (1, .int x1), (2, .int x2)] [] (mH h s) Q := by
  unfold mf_279_93 at hf
  refine mb_279_93 hh  (fun c => ?_) (fun c => ?_)
  · rw [if_pos c] at hf
    exact mr_279_104 hh hf k
  · rw [if_neg c] at hf
    exact mr_279_97 hh hf k
def mf_279_66 (N : Nat) (x1 : Int32) (x2 : Int32) (y0 : Int32) (s : mS) : mO := if y0 = 0 then mf_279_93 N x1 x2 s else mf_279_69 N x1 s
theorem mr_279_66 {X : Nat → Option zz_C} {h : zz_H} (hh : 111 ≤ h.length) {d : Nat} {N : Nat} {Q : Option Value → zz_H → Prop} {x1 : Int32} {x2 : Int32} {y0 : Int32} {s s' : mS} {v : Option Value} (hf : mf_279_66 N x1 x2 y0 s = some (s', v)) (k : Q v (mH h s')) : zz_E zp_P zt_tf zt_fd X (d + 10) zm_279 66 [(0, .ref 61), (1, .int x1), (2, .int x2)] [.int y0] (mH h s) Q := by
  unfold mf_279_66 at hf
  refine mb_279_66 hh  (fun c => ?_) (fun c => ?_)
  · rw [if_pos c] at hf
    exact mr_279_93 hh hf k
  · rw [if_neg c] at hf
    exact mr_279_69 hh hf k
def mf_279_62 (N : Nat) (x1 : Int32) (x2 : Int32) (s : mS) : mO := mo_bi (mf_270 N  s) (fun s1 y => mf_279_66 N x1 x2 y s1)
theorem mr_279_62 {X : Nat → Option zz_C} {h : zz_H} (hh : 111 ≤ h.length) {d : Nat} {N : Nat} {Q : Option Value → zz_H → Prop} {x1 : Int32} {x2 : Int32} {s s' : mS} {v : Option Value} (hf : mf_279_62 N x1 x2 s = some (s', v)) (k : Q v (mH h s')) : zz_E zp_P zt_tf zt_fd X (d + 10) zm_279 62 [(0, .ref 61), (1, .int x1), (2, .int x2)] [] (mH h s) Q := by
  unfold mf_279_62 at hf
  obtain ⟨s1, y, e, hf⟩ := mo_bi_ok hf
  exact mb_279_62 (d := d + 9) hh  (mr_270 (d := d + 7) hh e (mr_279_66 hh hf k))
def mf_279_58 (N : Nat) (x1 : Int32) (x2 : Int32) (s : mS) : mO := if 0 ≤ x2 then mf_279_93 N x1 x2 s else mf_279_62 N x1 x2 s
theorem mr_279_58 {X : Nat → Option zz_C} {h : zz_H} (hh : 111 ≤ h.length) {d : Nat} {N : Nat} {Q : Option Value → zz_H → Prop} {x1 : Int32} {x2 : Int32} {s s' : mS} {v : Option Value} (hf : mf_279_58 N x1 x2 s = some (s', v)) (k : Q v (mH h s')) : zz_E zp_P zt_tf zt_fd X (d + 10) zm_279 58 [(0, .ref 61), (1, .int x1), (2, .int x2)] [] (mH h s) Q := by
  unfold mf_279_58 at hf
  refine mb_279_58 hh  (fun c => ?_) (fun c => ?_)
  · rw [if_pos c] at hf
    exact mr_279_93 hh hf k
  · rw [if_neg c] at hf
    exact mr_279_62 hh hf k
def mf_279_51 (N : Nat) (x1 : Int32) (x2 : Int32) (y0 : Int32) (s : mS) : mO := if 11 ≤ x2 then mf_279_69 N x1 s else mf_279_58 N x1 x2 s
theorem mr_279_51 {X : Nat → Option zz_C} {h : zz_H} (hh : 111 ≤ h.length) {d : Nat} {N : Nat} {Q : Option Value → zz_H → Prop} {x1 : Int32} {x2 : Int32} {y0 : Int32} {s s' : mS} {v : Option Value} (hf : mf_279_51 N x1 x2 y0 s = some (s', v)) (k : Q v (mH h s')) : zz_E zp_P zt_tf zt_fd X (d + 10) zm_279 51 [(0, .ref 61), (1, .int x1), (2, .int x2)] [.int y0] (mH h s) Q := by
  unfold mf_279_51 at hf
  refine mb_279_51 hh  (fun c => ?_) (fun c => ?_)
  · rw [if_pos c] at hf
    exact mr_279_69 hh hf k
  · rw [if_neg c] at hf
    exact mr_279_58 hh hf k
def mf_279_43 (N : Nat) (x1 : Int32) (x2 : Int32) (s : mS) : mO := mo_bi (mf_271 N 1 0 0 x1 s) (fun s1 y => mf_279_51 N x1 x2 y s1)
theorem mr_279_43 {X : Nat → Option zz_C} {h : zz_H} (hh : 111 ≤ h.length) {d : Nat} {N : Nat} {Q : Option Value → zz_H → Prop} {x1 : Int32} {x2 : Int32} {s s' : mS} {v : Option Value} (hf : mf_279_43 N x1 x2 s = some (s', v)) (k : Q v (mH h s')) : zz_E zp_P zt_tf zt_fd X (d + 10) zm_279 43 [(0, .ref 61), (1, .int x1), (2, .int x2)] [] (mH h s) Q := by
  unfold mf_279_43 at hf
  obtain ⟨s1, y, e, hf⟩ := mo_bi_ok hf
  exact mb_279_43 (d := d + 9) hh  (mr_271 (d := d + 9) hh e (mr_279_51 hh hf k))
def mf_279_32 (N : Nat) (x1 : Int32) (x2 : Int32) (s : mS) : mO := if ¬ x2 = 10 then mf_279_43 N x1 x2 s else mf_279_38 N  s
theorem mr_279_32 {X : Nat → Option zz_C} {h : zz_H} (hh : 111 ≤ h.length) {d : Nat} {N : Nat} {Q : Option Value → zz_H → Prop} {x1 : Int32} {x2 : Int32} {s s' : mS} {v : Option Value} (hf : mf_279_32 N x1 x2 s = some (s', v)) (k : Q v (mH h s')) : zz_E zp_P zt_tf zt_fd X (d + 10) zm_279 32 [(0, .ref 61), (1, .int x1), (2, .int x2)] [] (mH h s) Q := by
  unfold mf_279_32 at hf
  refine mb_279_32 hh  (fun c => ?_) (fun c => ?_)
  · rw [if_pos c] at hf
    exact mr_279_43 hh hf k
  · rw [if_neg c] at hf
    exact mr_279_38 hh hf k
def mf_279_27 (N : Nat) (x1 : Int32) (x2 : Int32) (s : mS) : mO := if x2 = 5 then mf_279_38 N  s else mf_279_32 N x1 x2 s
theorem mr_279_27 {X : Nat → Option zz_C} {h : zz_H} (hh : 111 ≤ h.length) {d : Nat} {N : Nat} {Q : Option Value → zz_H → Prop} {x1 : Int32} {x2 : Int32} {s s' : mS} {v : Option Value} (hf : mf_279_27 N x1 x2 s = some (s', v)) (k : Q v (mH h s')) : zz_E zp_P zt_tf zt_fd X (d + 10) zm_279 27 [(0, .ref 61), (1, .int x1), (2, .int x2)] [] (mH h s) Q := by
  unfold mf_279_27 at hf
  refine mb_279_27 hh  (fun c => ?_) (fun c => ?_)
  · rw [if_pos c] at hf
    exact mr_279_38 hh hf k
  · rw [if_neg c] at hf
    exact mr_279_32 hh hf k
def mf_279_22 (N : Nat) (x1 : Int32) (x2 : Int32) (s : mS) : mO := if x2 = 2 then mf_279_38 N  s else mf_279_27 N x1 x2 s
theorem mr_279_22 {X : Nat → Option zz_C} {h : zz_H} (hh : 111 ≤ h.length) {d : Nat} {N : Nat} {Q : Option Value → zz_H → Prop} {x1 : Int32} {x2 : Int32} {s s' : mS} {v : Option Value} (hf : mf_279_22 N x1 x2 s = some (s', v)) (k : Q v (mH h s')) : zz_E zp_P zt_tf zt_fd X (d + 10) zm_279 22 [(0, .ref 61), (1, .int x1), (2, .int x2)] [] (mH h s) Q := by
  unfold mf_279_22 at hf
  refine mb_279_22 hh  (fun c => ?_) (fun c => ?_)
  · rw [if_pos c] at hf
    exact mr_279_38 hh hf k
  · rw [if_neg c] at hf
    exact mr_279_27 hh hf k
def mf_279_18 (N : Nat) (x1 : Int32) (x2 : Int32) (s : mS) : mO := if x2 = 0 then mf_279_38 N  s else mf_279_22 N x1 x2 s
theorem mr_279_18 {X : Nat → Option zz_C} {h : zz_H} (hh : 111 ≤ h.length) {d : Nat} {N : Nat} {Q : Option Value → zz_H → Prop} {x1 : Int32} {x2 : Int32} {s s' : mS} {v : Option Value} (hf : mf_279_18 N x1 x2 s = some (s', v)) (k : Q v (mH h s')) : zz_E zp_P zt_tf zt_fd X (d + 10) zm_279 18 [(0, .ref 61), (1, .int x1), (2, .int x2)] [] (mH h s) Q := by
  unfold mf_279_18 at hf
  refine mb_279_18 hh  (fun c => ?_) (fun c => ?_)
  · rw [if_pos c] at hf
    exact mr_279_38 hh hf k
  · rw [if_neg c] at hf
    exact mr_279_22 hh hf k
def mf_279_9 (N : Nat) (x1 : Int32) (y0 : Int32) (s : mS) : mO := if ¬ (s.1 5) = 1 then mf_279_38 N  s else mf_279_18 N x1 y0 s
theorem mr_279_9 {X : Nat → Option zz_C} {h : zz_H} (hh : 111 ≤ h.length) {d : Nat} {N : Nat} {Q : Option Value → zz_H → Prop} {x1 : Int32} {y0 : Int32} {s s' : mS} {v : Option Value} (hf : mf_279_9 N x1 y0 s = some (s', v)) (k : Q v (mH h s')) : zz_E zp_P zt_tf zt_fd X (d + 10) zm_279 9 [(0, .ref 61), (1, .int x1)] [.int y0] (mH h s) Q := by
  unfold mf_279_9 at hf
  refine mb_279_9 hh  (fun c => ?_) (fun c => ?_)
  · rw [if_pos c] at hf
    exact mr_279_38 hh hf k
  · rw [if_neg c] at hf
    exact mr_279_18 hh hf k
def mf_279_0 (N : Nat)  (s : mS) : mO := mo_bi (mf_265 N  s) (fun s1 y => mf_279_9 N (s.1 6) y s1)
theorem mr_279_0 {X : Nat → Option zz_C} {h : zz_H} (hh : 111 ≤ h.length) {d : Nat} {N : Nat} {Q : Option Value → zz_H → Prop}  {s s' : mS} {v : Option Value} (hf : mf_279_0 N  s = some (s', v)) (k : Q v (mH h s')) : zz_E zp_P zt_tf zt_fd X (d + 10) zm_279 0 [(0, .ref 61)] [] (mH h s) Q := by
  unfold mf_279_0 at hf
  obtain ⟨s1, y, e, hf⟩ := mo_bi_ok hf
  exact mb_279_0 (d := d + 9) hh  (mr_265 (d := d + 9) hh e (mr_279_9 hh hf k))
/-- statement -/
def mf_279 (N : Nat)  (s : mS) : mO := mf_279_0 N  s
theorem mr_279 {X : Nat → Option zz_C} {h : zz_H} (hh : 111 ≤ h.length) {d : Nat} {N : Nat} {Q : Option Value → zz_H → Prop}  {s s' : mS} {v : Option Value} (hf : mf_279 N  s = some (s', v)) (k : Q v (mH h s')) : zz_E zp_P zt_tf zt_fd X (d + 10) zm_279 0 [(0, .ref 61)] [] (mH h s) Q := by
  unfold mf_279 at hf
  exact zz_E.weak (mr_279_0 hh hf k) rfl ⟨rfl, trivial⟩
/-! parameters ()V -/
theorem mb_277_0 {X : Nat → Option zz_C} {h : zz_H} (hh : 111 ≤ h.length) {s : mS} {d : Nat} {Q : Option Value → zz_H → Prop}  (k : zz_E zp_P zt_tf zt_fd X d zm_268 0 [(0, .ref 61), (1, .int 40)] [] (mH h s) (fun v h' => zz_E zp_P zt_tf zt_fd X (d + 1) zm_277 6 [(0, .ref 61)] (v.toList ++ []) h' Q)) : zz_E zp_P zt_tf zt_fd X (d + 1) zm_277 0 [(0, .ref 61)] [] (mH h s) Q := by
  refine zz_E.n 1 rfl rfl rfl ?_
  refine zz_E.c 3 (.int 40) rfl rfl rfl rfl ?_
  refine mE_cv hh 6 (as := []) rfl rfl (Nat.le_of_ble_eq_true rfl) (Nat.le_of_ble_eq_true rfl) rfl (Nat.le_of_ble_eq_true rfl) rfl ?_
  refine zz_E.mono k ?_
  intro v h' hE
  exact zz_E.weak hE rfl ⟨rfl, trivial⟩
theorem mb_277_6 {X : Nat → Option zz_C} {h : zz_H} (hh : 111 ≤ h.length) {s : mS} {d : Nat} {Q : Option Value → zz_H → Prop}  (k1 : (s.1 9) ≤ 0 → zz_E zp_P zt_tf zt_fd X d zm_277 14 [(0, .ref 61)] [] (mH h s) Q) (k2 : ¬ (s.1 9) ≤ 0 → zz_E zp_P zt_tf zt_fd X d zm_277 13 [] [] (mH h s) Q) : zz_E zp_P zt_tf zt_fd X d zm_277 6 [(0, .ref 61)] [] (mH h s) Q := by
  refine zz_E.n 7 rfl rfl rfl ?_
  refine mE_g hh 10 (v := .int (s.1 9)) rfl rfl rfl ?_
  refine zz_E.b1 14 13 (A := (s.1 9) ≤ 0) rfl rfl (by decide) rfl rfl (fun c => ?_) (fun c => ?_)
  · exact zz_E.weak (k1 c) rfl ⟨rfl, trivial⟩
  · exact zz_E.weak (k2 c) rfl trivial
theorem mb_277_13 {X : Nat → Option zz_C} {h : zz_H} (hh : 111 ≤ h.length) {s : mS} {d : Nat} {Q : Option Value → zz_H → Prop}  (k : Q none (mH h s)) : zz_E zp_P zt_tf zt_fd X d zm_277 13 [] [] (mH h s) Q := by
  refine zz_E.ret rfl rfl rfl ?_
  exact k
theorem mb_277_14 {X : Nat → Option zz_C} {h : zz_H} (hh : 111 ≤ h.length) {s : mS} {d : Nat} {Q : Option Value → zz_H → Prop}  (k : zz_E zp_P zt_tf zt_fd X d zm_263 0 [(0, .ref 61), (1, .int 41)] [] (mH h s) (fun v h' => zz_E zp_P zt_tf zt_fd X (d + 1) zm_277 20 [(0, .ref 61)] (v.toList ++ []) h' Q)) : zz_E zp_P zt_tf zt_fd X (d + 1) zm_277 14 [(0, .ref 61)] [] (mH h s) Q := by
  refine zz_E.n 15 rfl rfl rfl ?_
  refine zz_E.c 17 (.int 41) rfl rfl rfl rfl ?_
  refine mE_cv hh 20 (as := []) rfl rfl (Nat.le_of_ble_eq_true rfl) (Nat.le_of_ble_eq_true rfl) rfl (Nat.le_of_ble_eq_true rfl) rfl ?_
  refine zz_E.mono k ?_
  intro v h' hE
  exact zz_E.weak hE rfl ⟨rfl, trivial⟩
theorem mb_277_20 {X : Nat → Option zz_C} {h : zz_H} (hh : 111 ≤ h.length) {s : mS} {d : Nat} {Q : Option Value → zz_H → Prop} {y0 : Int32} (k1 : ¬ y0 = 0 → zz_E zp_P zt_tf zt_fd X d zm_277 27 [(0, .ref 61)] [] (mH h s) Q) (k2 : ¬ ¬ y0 = 0 → zz_E zp_P zt_tf zt_fd X d zm_277 23 [(0, .ref 61)] [] (mH h s) Q) : zz_E zp_P zt_tf zt_fd X d zm_277 20 [(0, .ref 61)] [.int y0] (mH h s) Q := by
  refine zz_E.b1 27 23 (A := ¬ y0 = 0) rfl (zz_cond_ne _ _) (by decide) rfl rfl (fun c => ?_) (fun c => ?_)
  · exact zz_E.weak (k1 c) rfl ⟨rfl, trivial⟩
  · exact zz_E.weak (k2 c) rfl ⟨rfl, trivial⟩
theorem mb_277_23 {X : Nat → Option zz_C} {h : zz_H} (hh : 111 ≤ h.length) {s : mS} {d : Nat} {Q : Option Value → zz_H → Prop}  (k : zz_E zp_P zt_tf zt_fd X d zm_277 28 [(0, .ref 61)] [.int 1] (mH h s) Q) : zz_E zp_P zt_tf zt_fd X d zm_277 23 [(0, .ref 61)] [] (mH h s) Q := by
  refine zz_E.c 24 (.int 1) rfl rfl rfl rfl ?_
  refine zz_E.n 28 rfl rfl rfl ?_
  exact zz_E.weak k rfl ⟨rfl, trivial⟩
theorem mb_277_27 {X : Nat → Option zz_C} {h : zz_H} (hh : 111 ≤ h.length) {s : mS} {d : Nat} {Q : Option Value → zz_H → Prop}  (k : zz_E zp_P zt_tf zt_fd X d zm_277 28 [(0, .ref 61)] [.int 0] (mH h s) Q) : zz_E zp_P zt_tf zt_fd X d zm_277 27 [(0, .ref 61)] [] (mH h s) Q := by
  refine zz_E.c 28 (.int 0) rfl rfl rfl rfl ?_
  exact zz_E.weak k rfl ⟨rfl, trivial⟩
theorem mb_277_28 {X : Nat → Option zz_C} {h : zz_H} (hh : 111 ≤ h.length) {s : mS} {d : Nat} {Q : Option Value → zz_H → Prop} {y0 : Int32} (k : zz_E zp_P zt_tf zt_fd X d zm_277 29 [(0, .ref 61), (1, .int y0)] [] (mH h s) Q) : zz_E zp_P zt_tf zt_fd X d zm_277 28 [(0, .ref 61)] [.int y0] (mH h s) Q := by
  refine zz_E.n 29 rfl rfl rfl ?_
  exact zz_E.weak k rfl ⟨rfl, rfl, trivial⟩
theorem mb_277_29 {X : Nat → Option zz_C} {h : zz_H} (hh : 111 ≤ h.length) {s : mS} {d : Nat} {Q : Option Value → zz_H → Prop} {x1 : Int32} (k1 : x1 = 0 → zz_E zp_P zt_tf zt_fd X d zm_277 177 [(0, .ref 61)] [] (mH h s) Q) (k2 : ¬ x1 = 0 → zz_E zp_P zt_tf zt_fd X d zm_277 33 [(0, .ref 61)] [] (mH h s) Q) : zz_E zp_P zt_tf zt_fd X d zm_277 29 [(0, .ref 61), (1, .int x1)] [] (mH h s) Q := by
  refine zz_E.n 30 rfl rfl rfl ?_
  refine zz_E.b1 177 33 (A := x1 = 0) rfl rfl (by decide) rfl rfl (fun c => ?_) (fun c => ?_)
  · exact zz_E.weak (k1 c) rfl ⟨rfl, trivial⟩
  · exact zz_E.weak (k2 c) rfl ⟨rfl, trivial⟩
theorem mb_277_33 {X : Nat → Option zz_C} {h : zz_H} (hh : 111 ≤ h.length) {s : mS} {d : Nat} {Q : Option Value → zz_H → Prop}  (k1 : ¬ (s.1 9) = 0 → zz_E zp_P zt_tf zt_fd X d zm_277 177 [(0, .ref 61)] [] (mH h s) Q) (k2 : ¬ ¬ (s.1 9) = 0 → zz_E zp_P zt_tf zt_fd X d zm_277 40 [(0, .ref 61)] [] (mH h s) Q) : zz_E zp_P zt_tf zt_fd X d zm_277 33 [(0, .ref 61)] [] (mH h s) Q := by
  refine zz_E.n 34 rfl rfl rfl ?_
  refine mE_g hh 37 (v := .int (s.1 9)) rfl rfl rfl ?_
  refine zz_E.b1 177 40 (A := ¬ (s.1 9) = 0) rfl (zz_cond_ne _ _) (by decide) rfl rfl (fun c => ?_) (fun c => ?_)
  · exact zz_E.weak (k1 c) rfl ⟨rfl, trivial⟩
  · exact zz_E.weak (k2 c) rfl ⟨rfl, trivial⟩
theorem mb_277_40 {X : Nat → Option zz_C} {h : zz_H} (hh : 111 ≤ h.length) {s : mS} {d : Nat} {Q : Option Value → zz_H → Prop}  (k : zz_E zp_P zt_tf zt_fd X d zm_266 0 [(0, .ref 61)] [] (mH h s) (fun v h' => zz_E zp_P zt_tf zt_fd X (d + 1) zm_277 44 [(0, .ref 61)] (v.toList ++ []) h' Q)) : zz_E zp_P zt_tf zt_fd X (d + 1) zm_277 40 [(0, .ref 61)] [] (mH h s) Q := by
  refine zz_E.n 41 rfl rfl rfl ?_
  refine mE_cv hh 44 (as := []) rfl rfl (Nat.le_of_ble_eq_true rfl) (Nat.le_of_ble_eq_true rfl) rfl (Nat.le_of_ble_eq_true rfl) rfl ?_
  refine zz_E.mono k ?_
  intro v h' hE
  exact zz_E.weak hE rfl ⟨rfl, trivial⟩
theorem mb_277_44 {X : Nat → Option zz_C} {h : zz_H} (hh : 111 ≤ h.length) {s : mS} {d : Nat} {Q : Option Value → zz_H → Prop} {y0 : Int32} (k1 : ¬ y0 = 0 → zz_E zp_P zt_tf zt_fd X d zm_277 52 [(0, .ref 61)] [] (mH h s) Q) (k2 : ¬ ¬ y0 = 0 → zz_E zp_P zt_tf zt_fd X d zm_277 47 [(0, .ref 61)] [] (mH h s) Q) : zz_E zp_P zt_tf zt_fd X d zm_277 44 [(0, .ref 61)] [.int y0] (mH h s) Q := by
  refine zz_E.b1 52 47 (A := ¬ y0 = 0) rfl (zz_cond_ne _ _) (by decide) rfl rfl (fun c => ?_) (fun c => ?_)
  · exact zz_E.weak (k1 c) rfl ⟨rfl, trivial⟩
  · exact zz_E.weak (k2 c) rfl ⟨rfl, trivial⟩
theorem mb_277_47 {X : Nat → Option zz_C} {h : zz_H} (hh : 111 ≤ h.length) {s : mS} {d : Nat} {Q : Option Value → zz_H → Prop}  (k : zz_E zp_P zt_tf zt_fd X d zm_262 0 [(0, .ref 61)] [] (mH h s) (fun v h' => zz_E zp_P zt_tf zt_fd X (d + 1) zm_277 51 [] (v.toList ++ []) h' Q)) : zz_E zp_P zt_tf zt_fd X (d + 1) zm_277 47 [(0, .ref 61)] [] (mH h s) Q := by
  refine zz_E.n 48 rfl rfl rfl ?_
  refine mE_cv hh 51 (as := []) rfl rfl (Nat.le_of_ble_eq_true rfl) (Nat.le_of_ble_eq_true rfl) rfl (Nat.le_of_ble_eq_true rfl) rfl ?_
  refine zz_E.mono k ?_
  intro v h' hE
  exact zz_E.weak hE rfl trivial
theorem mb_277_51 {X : Nat → Option zz_C} {h : zz_H} (hh : 111 ≤ h.length) {s : mS} {d : Nat} {Q : Option Value → zz_H → Prop}  (k : Q none (mH h s)) : zz_E zp_P zt_tf zt_fd X d zm_277 51 [] [] (mH h s) Q := by
  refine zz_E.ret rfl rfl rfl ?_
  exact k
theorem mb_277_52 {X : Nat → Option zz_C} {h : zz_H} (hh : 111 ≤ h.length) {s : mS} {d : Nat} {Q : Option Value → zz_H → Prop}  (k1 : ¬ (s.1 22) = 4 → zz_E zp_P zt_tf zt_fd X d zm_277 70 [(0, .ref 61)] [] (mH h s) Q) (k2 : ¬ ¬ (s.1 22) = 4 → zz_E zp_P zt_tf zt_fd X d zm_277 60 [(0, .ref 61)] [] (mH h s) Q) : zz_E zp_P zt_tf zt_fd X d zm_277 52 [(0, .ref 61)] [] (mH h s) Q := by
  refine zz_E.n 53 rfl rfl rfl ?_
  refine mE_g hh 56 (v := .int (s.1 22)) rfl rfl rfl ?_
  refine zz_E.c 57 (.int 4) rfl rfl rfl rfl ?_
  refine zz_E.b2 70 60 (A := ¬ (s.1 22) = 4) rfl (zz_cond_ne _ _) (by decide) rfl rfl (fun c => ?_) (fun c => ?_)
  · exact zz_E.weak (k1 c) rfl ⟨rfl, trivial⟩
  · exact zz_E.weak (k2 c) rfl ⟨rfl, trivial⟩
theorem mb_277_60 {X : Nat → Option zz_C} {h : zz_H} (hh : 111 ≤ h.length) {s : mS} {d : Nat} {Q : Option Value → zz_H → Prop}  (k : zz_E zp_P zt_tf zt_fd X d zm_261 0 [(0, .ref 61), (1, .int 3), (2, .int (s.1 6))] [] (mH h s) (fun v h' => zz_E zp_P zt_tf zt_fd X (d + 1) zm_277 69 [] (v.toList ++ []) h' Q)) : zz_E zp_P zt_tf zt_fd X (d + 1) zm_277 60 [(0, .ref 61)] [] (mH h s) Q := by
  refine zz_E.n 61 rfl rfl rfl ?_
  refine zz_E.c 62 (.int 3) rfl rfl rfl rfl ?_
  refine zz_E.n 63 rfl rfl rfl ?_
  refine mE_g hh 66 (v := .int (s.1 6)) rfl rfl rfl ?_
  refine mE_cv hh 69 (as := []) rfl rfl (Nat.le_of_ble_eq_true rfl) (Nat.le_of_ble_eq_true rfl) rfl (Nat.le_of_ble_eq_true rfl) rfl ?_
  refine zz_E.mono k ?_
  intro v h' hE
  exact zz_E.weak hE rfl trivial
theorem mb_277_69 {X : Nat → Option zz_C} {h : zz_H} (hh : 111 ≤ h.length) {s : mS} {d : Nat} {Q : Option Value → zz_H → Prop}  (k : Q none (mH h s)) : zz_E zp_P zt_tf zt_fd X d zm_277 69 [] [] (mH h s) Q := by
  refine zz_E.ret rfl rfl rfl ?_
  exact k
theorem mb_277_70 {X : Nat → Option zz_C} {h : zz_H} (hh : 111 ≤ h.length) {s : mS} {d : Nat} {Q : Option Value → zz_H → Prop}  (k : zz_E zp_P zt_tf zt_fd X d zm_274 0 [(0, .long (s.2.1 7))] [] (mH h s) (fun v h' => zz_E zp_P zt_tf zt_fd X (d + 1) zm_277 77 [(0, .ref 61)] (v.toList ++ []) h' Q)) : zz_E zp_P zt_tf zt_fd X (d + 1) zm_277 70 [(0, .ref 61)] [] (mH h s) Q := by
  refine zz_E.n 71 rfl rfl rfl ?_
  refine mE_g hh 74 (v := .long (s.2.1 7)) rfl rfl rfl ?_
  refine zz_E.cl (M' := zm_274) 77 rfl rfl (by decide) rfl rfl ⟨rfl, Nat.le_of_ble_eq_true rfl⟩ rfl ?_
  refine zz_E.mono k ?_
  intro v h' hE
  exact zz_E.weak hE rfl ⟨rfl, trivial⟩
theorem mb_277_77 {X : Nat → Option zz_C} {h : zz_H} (hh : 111 ≤ h.length) {s : mS} {d : Nat} {Q : Option Value → zz_H → Prop} {y0 : Int32} (k : zz_E zp_P zt_tf zt_fd X d zm_277 80 [(0, .ref 61), (2, .int y0), (3, .int 0)] [] (mH h s) Q) : zz_E zp_P zt_tf zt_fd X d zm_277 77 [(0, .ref 61)] [.int y0] (mH h s) Q := by
  refine zz_E.n 78 rfl rfl rfl ?_
  refine zz_E.c 79 (.int 0) rfl rfl rfl rfl ?_
  refine zz_E.n 80 rfl rfl rfl ?_
  exact zz_E.weak k rfl ⟨rfl, rfl, rfl, trivial⟩
theorem mb_277_80 {X : Nat → Option zz_C} {h : zz_H} (hh : 111 ≤ h.length) {s : mS} {d : Nat} {Q : Option Value → zz_H → Prop} {x2 : Int32} {x3 : Int32} (k1 : (s.1 22) ≤ x3 → zz_E zp_P zt_tf zt_fd X d zm_277 118 [(0, .ref 61), (2, .int x2)] [] (mH h s) Q) (k2 : ¬ (s.1 22) ≤ x3 → zz_E zp_P zt_tf zt_fd X d zm_277 88 [(0, .ref 61), (2, .int x2), (3, .int x3)] [] (mH h s) Q) : zz_E zp_P zt_tf zt_fd X d zm_277 80 [(0, .ref 61), (2, .int x2), (3, .int x3)] [] (mH h s) Q := by
  refine zz_E.n 81 rfl rfl rfl ?_
  refine zz_E.n 82 rfl rfl rfl ?_
  refine mE_g hh 85 (v := .int (s.1 22)) rfl rfl rfl ?_
  refine zz_E.b2 118 88 (A := (s.1 22) ≤ x3) rfl rfl (by decide) rfl rfl (fun c => ?_) (fun c => ?_)
  · exact zz_E.weak (k1 c) rfl ⟨rfl, rfl, trivial⟩
  · exact zz_E.weak (k2 c) rfl ⟨rfl, rfl, rfl, trivial⟩
theorem mb_277_88 {X : Nat → Option zz_C} {h : zz_H} (hh : 111 ≤ h.length) {s : mS} {d : Nat} {Q : Option Value → zz_H → Prop} {x2 : Int32} {x3 : Int32} (k1 : ¬ x2 = 0 → zz_E zp_P zt_tf zt_fd X d zm_277 106 [(0, .ref 61), (3, .int x3)] [] (mH h s) Q) (k2 : ¬ ¬ x2 = 0 → zz_E zp_P zt_tf zt_fd X d zm_277 92 [(0, .ref 61), (3, .int x3)] [] (mH h s) Q) : zz_E zp_P zt_tf zt_fd X d zm_277 88 [(0, .ref 61), (2, .int x2), (3, .int x3)] [] (mH h s) Q := by
  refine zz_E.n 89 rfl rfl rfl ?_
  refine zz_E.b1 106 92 (A := ¬ x2 = 0) rfl (zz_cond_ne _ _) (by decide) rfl rfl (fun c => ?_) (fun c => ?_)
  · exact zz_E.weak (k1 c) rfl ⟨rfl, rfl, trivial⟩
  · exact zz_E.weak (k2 c) rfl ⟨rfl, rfl, trivial⟩
theorem mb_277_92 {X : Nat → Option zz_C} {h : zz_H} (hh : 111 ≤ h.length) {s : mS} {d : Nat} {Q : Option Value → zz_H → Prop} {x3 : Int32} (i97 : ¬ (x3 < 0 ∨ 14 ≤ Int32.toNatClampNeg x3)) (k1 : ¬ (lg_cmp ((s.2.2.2 21) (Int32.toNatClampNeg x3)) (s.2.1 7)) = 0 → zz_E zp_P zt_tf zt_fd X d zm_277 110 [(0, .ref 61), (3, .int x3)] [] (mH h s) Q) (k2 : ¬ ¬ (lg_cmp ((s.2.2.2 21) (Int32.toNatClampNeg x3)) (s.2.1 7)) = 0 → zz_E zp_P zt_tf zt_fd X d zm_277 106 [(0, .ref 61), (3, .int x3)] [] (mH h s) Q) : zz_E zp_P zt_tf zt_fd X d zm_277 92 [(0, .ref 61), (3, .int x3)] [] (mH h s) Q := by
  refine zz_E.n 93 rfl rfl rfl ?_
  refine mE_g hh 96 (v := .ref 70) rfl rfl rfl ?_
  refine zz_E.n 97 rfl rfl rfl ?_
  refine mE_la hh 98 9 (f := (s.2.2.2 21)) rfl (by decide) rfl rfl i97 rfl ?_
  refine zz_E.n 99 rfl rfl rfl ?_
  refine mE_g hh 102 (v := .long (s.2.1 7)) rfl rfl rfl ?_
  refine zz_E.n 103 rfl rfl rfl ?_
  refine zz_E.b1 110 106 (A := ¬ (lg_cmp ((s.2.2.2 21) (Int32.toNatClampNeg x3)) (s.2.1 7)) = 0) rfl (zz_cond_ne _ _) (by decide) rfl rfl (fun c => ?_) (fun c => ?_)
  · exact zz_E.weak (k1 c) rfl ⟨rfl, rfl, trivial⟩
  · exact zz_E.weak (k2 c) rfl ⟨rfl, rfl, trivial⟩
theorem mb_277_106 {X : Nat → Option zz_C} {h : zz_H} (hh : 111 ≤ h.length) {s : mS} {d : Nat} {Q : Option Value → zz_H → Prop} {x3 : Int32} (k : zz_E zp_P zt_tf zt_fd X d zm_277 111 [(0, .ref 61), (3, .int x3)] [.int 1] (mH h s) Q) : zz_E zp_P zt_tf zt_fd X d zm_277 106 [(0, .ref 61), (3, .int x3)] [] (mH h s) Q := by
  refine zz_E.c 107 (.int 1) rfl rfl rfl rfl ?_
  refine zz_E.n 111 rfl rfl rfl ?_
  exact zz_E.weak k rfl ⟨rfl, rfl, trivial⟩
theorem mb_277_110 {X : Nat → Option zz_C} {h : zz_H} (hh : 111 ≤ h.length) {s : mS} {d : Nat} {Q : Option Value → zz_H → Prop} {x3 : Int32} (k : zz_E zp_P zt_tf zt_fd X d zm_277 111 [(0, .ref 61), (3, .int x3)] [.int 0] (mH h s) Q) : zz_E zp_P zt_tf zt_fd X d zm_277 110 [(0, .ref 61), (3, .int x3)] [] (mH h s) Q := by
  refine zz_E.c 111 (.int 0) rfl rfl rfl rfl ?_
  exact zz_E.weak k rfl ⟨rfl, rfl, trivial⟩
theorem mb_277_111 {X : Nat → Option zz_C} {h : zz_H} (hh : 111 ≤ h.length) {s : mS} {d : Nat} {Q : Option Value → zz_H → Prop} {x3 : Int32} {y0 : Int32} (k : zz_E zp_P zt_tf zt_fd X d zm_277 80 [(0, .ref 61), (2, .int y0), (3, .int (x3 + 1))] [] (mH h s) Q) : zz_E zp_P zt_tf zt_fd X d zm_277 111 [(0, .ref 61), (3, .int x3)] [.int y0] (mH h s) Q := by
  refine zz_E.n 112 rfl rfl rfl ?_
  refine zz_E.n 115 rfl rfl rfl ?_
  refine zz_E.n 80 rfl rfl rfl ?_
  exact zz_E.weak k rfl ⟨rfl, rfl, rfl, trivial⟩
theorem mb_277_118 {X : Nat → Option zz_C} {h : zz_H} (hh : 111 ≤ h.length) {s : mS} {d : Nat} {Q : Option Value → zz_H → Prop} {x2 : Int32} (k1 : x2 = 0 → zz_E zp_P zt_tf zt_fd X d zm_277 132 [(0, .ref 61)] [] (mH h s) Q) (k2 : ¬ x2 = 0 → zz_E zp_P zt_tf zt_fd X d zm_277 122 [(0, .ref 61)] [] (mH h s) Q) : zz_E zp_P zt_tf zt_fd X d zm_277 118 [(0, .ref 61), (2, .int x2)] [] (mH h s) Q := by
  refine zz_E.n 119 rfl rfl rfl ?_
  refine zz_E.b1 132 122 (A := x2 = 0) rfl rfl (by decide) rfl rfl (fun c => ?_) (fun c => ?_)
  · exact zz_E.weak (k1 c) rfl ⟨rfl, trivial⟩
  · exact zz_E.weak (k2 c) rfl ⟨rfl, trivial⟩
theorem mb_277_122 {X : Nat → Option zz_C} {h : zz_H} (hh : 111 ≤ h.length) {s : mS} {d : Nat} {Q : Option Value → zz_H → Prop}  (k : zz_E zp_P zt_tf zt_fd X d zm_261 0 [(0, .ref 61), (1, .int 4), (2, .int (s.1 6))] [] (mH h s) (fun v h' => zz_E zp_P zt_tf zt_fd X (d + 1) zm_277 131 [] (v.toList ++ []) h' Q)) : zz_E zp_P zt_tf zt_fd X (d + 1) zm_277 122 [(0, .ref 61)] [] (mH h s) Q := by
  refine zz_E.n 123 rfl rfl rfl ?_
  refine zz_E.c 124 (.int 4) rfl rfl rfl rfl ?_
  refine zz_E.n 125 rfl rfl rfl ?_
  refine mE_g hh 128 (v := .int (s.1 6)) rfl rfl rfl ?_
  refine mE_cv hh 131 (as := []) rfl rfl (Nat.le_of_ble_eq_true rfl) (Nat.le_of_ble_eq_true rfl) rfl (Nat.le_of_ble_eq_true rfl) rfl ?_
  refine zz_E.mono k ?_
  intro v h' hE
  exact zz_E.weak hE rfl trivial
theorem mb_277_131 {X : Nat → Option zz_C} {h : zz_H} (hh : 111 ≤ h.length) {s : mS} {d : Nat} {Q : Option Value → zz_H → Prop}  (k : Q none (mH h s)) : zz_E zp_P zt_tf zt_fd X d zm_277 131 [] [] (mH h s) Q := by
  refine zz_E.ret rfl rfl rfl ?_
  exact k
theorem mb_277_132 {X : Nat → Option zz_C} {h : zz_H} (hh : 111 ≤ h.length) {s : mS} {d : Nat} {Q : Option Value → zz_H → Prop}  (i144 : ¬ ((s.1 22) < 0 ∨ 14 ≤ Int32.toNatClampNeg (s.1 22))) (k : zz_E zp_P zt_tf zt_fd X d zm_260 0 [(0, .ref 61)] [] (mH h (mI (mB s 21 (vp_updL (s.2.2.2 21) (Int32.toNatClampNeg (s.1 22)) (s.2.1 7))) 22 ((s.1 22) + 1))) (fun v h' => zz_E zp_P zt_tf zt_fd X (d + 1) zm_277 159 [(0, .ref 61)] (v.toList ++ []) h' Q)) : zz_E zp_P zt_tf zt_fd X (d + 1) zm_277 132 [(0, .ref 61)] [] (mH h s) Q := by
  refine zz_E.n 133 rfl rfl rfl ?_
  refine mE_g hh 136 (v := .ref 70) rfl rfl rfl ?_
  refine zz_E.n 137 rfl rfl rfl ?_
  refine mE_g hh 140 (v := .int (s.1 22)) rfl rfl rfl ?_
  refine zz_E.n 141 rfl rfl rfl ?_
  refine mE_g hh 144 (v := .long (s.2.1 7)) rfl rfl rfl ?_
  refine mE_ls hh 145 9 (f := (s.2.2.2 21)) rfl (by decide) rfl rfl i144 (mA_70 _ _) rfl ?_
  refine zz_E.n 146 rfl rfl rfl ?_
  refine zz_E.n 147 rfl rfl rfl ?_
  refine mE_g hh 150 (v := .int (s.1 22)) rfl rfl rfl ?_
  refine zz_E.c 151 (.int 1) rfl rfl rfl rfl ?_
  refine zz_E.n 152 rfl rfl rfl ?_
  refine mE_p hh 155 rfl (by decide) rfl (mF_22 _ _) rfl ?_
  refine zz_E.n 156 rfl rfl rfl ?_
  refine mE_cv hh 159 (as := []) rfl rfl (Nat.le_of_ble_eq_true rfl) (Nat.le_of_ble_eq_true rfl) rfl (Nat.le_of_ble_eq_true rfl) rfl ?_
  refine zz_E.mono k ?_
  intro v h' hE
  exact zz_E.weak hE rfl ⟨rfl, trivial⟩
theorem mb_277_159 {X : Nat → Option zz_C} {h : zz_H} (hh : 111 ≤ h.length) {s : mS} {d : Nat} {Q : Option Value → zz_H → Prop}  (k : zz_E zp_P zt_tf zt_fd X d zm_263 0 [(0, .ref 61), (1, .int 44)] [] (mH h s) (fun v h' => zz_E zp_P zt_tf zt_fd X (d + 1) zm_277 165 [(0, .ref 61)] (v.toList ++ []) h' Q)) : zz_E zp_P zt_tf zt_fd X (d + 1) zm_277 159 [(0, .ref 61)] [] (mH h s) Q := by
  refine zz_E.n 160 rfl rfl rfl ?_
  refine zz_E.c 162 (.int 44) rfl rfl rfl rfl ?_
  refine mE_cv hh 165 (as := []) rfl rfl (Nat.le_of_ble_eq_true rfl) (Nat.le_of_ble_eq_true rfl) rfl (Nat.le_of_ble_eq_true rfl) rfl ?_
  refine zz_E.mono k ?_
  intro v h' hE
  exact zz_E.weak hE rfl ⟨rfl, trivial⟩
theorem mb_277_165 {X : Nat → Option zz_C} {h : zz_H} (hh : 111 ≤ h.length) {s : mS} {d : Nat} {Q : Option Value → zz_H → Prop} {y0 : Int32} (k1 : y0 = 0 → zz_E zp_P zt_tf zt_fd X d zm_277 174 [(0, .ref 61), (1, .int y0)] [] (mH h s) Q) (k2 : ¬ y0 = 0 → zz_E zp_P zt_tf zt_fd X d zm_277 170 [(0, .ref 61), (1, .int y0)] [] (mH h s) Q) : zz_E zp_P zt_tf zt_fd X d zm_277 165 [(0, .ref 61)] [.int y0] (mH h s) Q := by
  refine zz_E.n 166 rfl rfl rfl ?_
  refine zz_E.n 167 rfl rfl rfl ?_
  refine zz_E.b1 174 170 (A := y0 = 0) rfl rfl (by decide) rfl rfl (fun c => ?_) (fun c => ?_)
  · exact zz_E.weak (k1 c) rfl ⟨rfl, rfl, trivial⟩
  · exact zz_E.weak (k2 c) rfl ⟨rfl, rfl, trivial⟩
theorem mb_277_170 {X : Nat → Option zz_C} {h : zz_H} (hh : 111 ≤ h.length) {s : mS} {d : Nat} {Q : Option Value → zz_H → Prop} {x1 : Int32} (k : zz_E zp_P zt_tf zt_fd X d zm_260 0 [(0, .ref 61)] [] (mH h s) (fun v h' => zz_E zp_P zt_tf zt_fd X (d + 1) zm_277 174 [(0, .ref 61), (1, .int x1)] (v.toList ++ []) h' Q)) : zz_E zp_P zt_tf zt_fd X (d + 1) zm_277 170 [(0, .ref 61), (1, .int x1)] [] (mH h s) Q := by
  refine zz_E.n 171 rfl rfl rfl ?_
  refine mE_cv hh 174 (as := []) rfl rfl (Nat.le_of_ble_eq_true rfl) (Nat.le_of_ble_eq_true rfl) rfl (Nat.le_of_ble_eq_true rfl) rfl ?_
  refine zz_E.mono k ?_
  intro v h' hE
  exact zz_E.weak hE rfl ⟨rfl, rfl, trivial⟩
theorem mb_277_174 {X : Nat → Option zz_C} {h : zz_H} (hh : 111 ≤ h.length) {s : mS} {d : Nat} {Q : Option Value → zz_H → Prop} {x1 : Int32} (k : zz_E zp_P zt_tf zt_fd X d zm_277 29 [(0, .ref 61), (1, .int x1)] [] (mH h s) Q) : zz_E zp_P zt_tf zt_fd X d zm_277 174 [(0, .ref 61), (1, .int x1)] [] (mH h s) Q := by
  refine zz_E.n 29 rfl rfl rfl ?_
  exact zz_E.weak k rfl ⟨rfl, rfl, trivial⟩
theorem mb_277_177 {X : Nat → Option zz_C} {h : zz_H} (hh : 111 ≤ h.length) {s : mS} {d : Nat} {Q : Option Value → zz_H → Prop}  (k : zz_E zp_P zt_tf zt_fd X d zm_267 0 [(0, .ref 61), (1, .int 41)] [] (mH h s) (fun v h' => zz_E zp_P zt_tf zt_fd X (d + 1) zm_277 183 [] (v.toList ++ []) h' Q)) : zz_E zp_P zt_tf zt_fd X (d + 1) zm_277 177 [(0, .ref 61)] [] (mH h s) Q := by
  refine zz_E.n 178 rfl rfl rfl ?_
  refine zz_E.c 180 (.int 41) rfl rfl rfl rfl ?_
  refine mE_cv hh 183 (as := []) rfl rfl (Nat.le_of_ble_eq_true rfl) (Nat.le_of_ble_eq_true rfl) rfl (Nat.le_of_ble_eq_true rfl) rfl ?_
  refine zz_E.mono k ?_
  intro v h' hE
  exact zz_E.weak hE rfl trivial
theorem mb_277_183 {X : Nat → Option zz_C} {h : zz_H} (hh : 111 ≤ h.length) {s : mS} {d : Nat} {Q : Option Value → zz_H → Prop}  (k : Q none (mH h s)) : zz_E zp_P zt_tf zt_fd X d zm_277 183 [] [] (mH h s) Q := by
  refine zz_E.ret rfl rfl rfl ?_
  exact k
def mf_277_183 (N : Nat)  (s : mS) : mO := some (s, none)
theorem mr_277_183 {X : Nat → Option zz_C} {h : zz_H} (hh : 111 ≤ h.length) {d : Nat} {N : Nat} {Q : Option Value → zz_H → Prop}  {s s' : mS} {v : Option Value} (hf : mf_277_183 N  s = some (s', v)) (k : Q v (mH h s')) : zz_E zp_P zt_tf zt_fd X (d + 5) zm_277 183 [] [] (mH h s) Q := by
  unfold mf_277_183 at hf
  cases hf
  exact mb_277_183 hh  k
def mf_277_177 (N : Nat)  (s : mS) : mO := mo_bv (mf_267 N 41 s) (fun s1 => mf_277_183 N  s1)
theorem mr_277_177 {X : Nat → Option zz_C} {h : zz_H} (hh : 111 ≤ h.length) {d : Nat} {N : Nat} {Q : Option Value → zz_H → Prop}  {s s' : mS} {v : Option Value} (hf : mf_277_177 N  s = some (s', v)) (k : Q v (mH h s')) : zz_E zp_P zt_tf zt_fd X (d + 5) zm_277 177 [(0, .ref 61)] [] (mH h s) Q := by
  unfold mf_277_177 at hf
  obtain ⟨s1, e, hf⟩ := mo_bv_ok hf
  exact mb_277_177 (d := d + 4) hh  (mr_267 (d := d + 0) hh e (mr_277_183 hh hf k))
def mf_277_131 (N : Nat)  (s : mS) : mO := some (s, none)
theorem mr_277_131 {X : Nat → Option zz_C} {h : zz_H} (hh : 111 ≤ h.length) {d : Nat} {N : Nat} {Q : Option Value → zz_H → Prop}  {s s' : mS} {v : Option Value} (hf : mf_277_131 N  s = some (s', v)) (k : Q v (mH h s')) : zz_E zp_P zt_tf zt_fd X (d + 5) zm_277 131 [] [] (mH h s) Q := by
  unfold mf_277_131 at hf
  cases hf
  exact mb_277_131 hh  k
def mf_277_122 (N : Nat)  (s : mS) : mO := mo_bv (mf_261 N 4 (s.1 6) s) (fun s1 => mf_277_131 N  s1)
theorem mr_277_122 {X : Nat → Option zz_C} {h : zz_H} (hh : 111 ≤ h.length) {d : Nat} {N : Nat} {Q : Option Value → zz_H → Prop}  {s s' : mS} {v : Option Value} (hf : mf_277_122 N  s = some (s', v)) (k : Q v (mH h s')) : zz_E zp_P zt_tf zt_fd X (d + 5) zm_277 122 [(0, .ref 61)] [] (mH h s) Q := by
  unfold mf_277_122 at hf
  obtain ⟨s1, e, hf⟩ := mo_bv_ok hf
  exact mb_277_122 (d := d + 4) hh  (mr_261 (d := d + 4) hh e (mr_277_131 hh hf k))
def mf_277_69 (N : Nat)  (s : mS) : mO := some (s, none)
theorem mr_277_69 {X : Nat → Option zz_C} {h : zz_H} (hh : 111 ≤ h.length) {d : Nat} {N : Nat} {Q : Option Value → zz_H → Prop}  {s s' : mS} {v : Option Value} (hf : mf_277_69 N  s = some (s', v)) (k : Q v (mH h s')) : zz_E zp_P zt_tf zt_fd X (d + 5) zm_277 69 [] [] (mH h s) Q := by
  unfold mf_277_69 at hf
  cases hf
  exact mb_277_69 hh  k
def mf_277_60 (N : Nat)  (s : mS) : mO := mo_bv (mf_261 N 3 (s.1 6) s) (fun s1 => mf_277_69 N  s1)
theorem mr_277_60 {X : Nat → Option zz_C} {h : zz_H} (hh : 111 ≤ h.length) {d : Nat} {N : Nat} {Q : Option Value → zz_H → Prop}  {s s' : mS} {v : Option Value} (hf : mf_277_60 N  s = some (s', v)) (k : Q v (mH h s')) : zz_E zp_P zt_tf zt_fd X (d + 5) zm_277 60 [(0, .ref 61)] [] (mH h s) Q := by
  unfold mf_277_60 at hf
  obtain ⟨s1, e, hf⟩ := mo_bv_ok hf
  exact mb_277_60 (d := d + 4) hh  (mr_261 (d := d + 4) hh e (mr_277_69 hh hf k))
def mf_277_51 (N : Nat)  (s : mS) : mO := some (s, none)
theorem mr_277_51 {X : Nat → Option zz_C} {h : zz_H} (hh : 111 ≤ h.length) {d : Nat} {N : Nat} {Q : Option Value → zz_H → Prop}  {s s' : mS} {v : Option Value} (hf : mf_277_51 N  s = some (s', v)) (k : Q v (mH h s')) : zz_E zp_P zt_tf zt_fd X (d + 5) zm_277 51 [] [] (mH h s) Q := by
  unfold mf_277_51 at hf
  cases hf
  exact mb_277_51 hh  k
def mf_277_47 (N : Nat)  (s : mS) : mO := mo_bv (mf_262 N  s) (fun s1 => mf_277_51 N  s1)
theorem mr_277_47 {X : Nat → Option zz_C} {h : zz_H} (hh : 111 ≤ h.length) {d : Nat} {N : Nat} {Q : Option Value → zz_H → Prop}  {s s' : mS} {v : Option Value} (hf : mf_277_47 N  s = some (s', v)) (k : Q v (mH h s')) : zz_E zp_P zt_tf zt_fd X (d + 5) zm_277 47 [(0, .ref 61)] [] (mH h s) Q := by
  unfold mf_277_47 at hf
  obtain ⟨s1, e, hf⟩ := mo_bv_ok hf
  exact mb_277_47 (d := d + 4) hh  (mr_262 (d := d + 3) hh e (mr_277_51 hh hf k))
def mf_277_111 (N : Nat) (rc : Nat → Int32 → Int32 → Int32 → mS → mO) (x3 : Int32) (y0 : Int32) (s : mS) : mO := rc 1 0 y0 (x3 + 1) s
theorem mr_277_111 {X : Nat → Option zz_C} {h : zz_H} (hh : 111 ≤ h.length) {d : Nat} {N : Nat} {rc : Nat → Int32 → Int32 → Int32 → mS → mO} (hrc0 : ∀ {Q : Option Value → zz_H → Prop} {x1 : Int32} {s s' : mS} {v : Option Value}, rc 0 x1 0 0 s = some (s', v) → Q v (mH h s') → zz_E zp_P zt_tf zt_fd X (d + 5) zm_277 29 [(0, .ref 61), (1, .int x1)] [] (mH h s) Q) (hrc1 : ∀ {Q : Option Value → zz_H → Prop} {x2 : Int32} {x3 : Int32} {s s' : mS} {v : Option Value}, rc 1 0 x2 x3 s = some (s', v) → Q v (mH h s') → zz_E zp_P zt_tf zt_fd X (d + 5) zm_277 80 [(0, .ref 61), (2, .int x2), (3, .int x3)] [] (mH h s) Q) {Q : Option Value → zz_H → Prop} {x3 : Int32} {y0 : Int32} {s s' : mS} {v : Option Value} (hf : mf_277_111 N rc x3 y0 s = some (s', v)) (k : Q v (mH h s')) : zz_E zp_P zt_tf zt_fd X (d + 5) zm_277 111 [(0, .ref 61), (3, .int x3)] [.int y0] (mH h s) Q := by
  unfold mf_277_111 at hf
  exact mb_277_111 hh  (hrc1 hf k)
def mf_277_110 (N : Nat) (rc : Nat → Int32 → Int32 → Int32 → mS → mO) (x3 : Int32) (s : mS) : mO := mf_277_111 N rc x3 0 s
theorem mr_277_110 {X : Nat → Option zz_C} {h : zz_H} (hh : 111 ≤ h.length) {d : Nat} {N : Nat} {rc : Nat → Int32 → Int32 → Int32 → mS → mO} (hrc0 : ∀ {Q : Option Value → zz_H → Prop} {x1 : Int32} {s s' : mS} {v : Option Value}, rc 0 x1 0 0 s = some (s', v) → Q v (mH h s') → zz_E zp_P zt_tf zt_fd X (d + 5) zm_277 29 [(0, .ref 61), (1, .int x1)] [] (mH h s) Q) (hrc1 : ∀ {Q : Option Value → zz_H → Prop} {x2 : Int32} {x3 : Int32} {s s' : mS} {v : Option Value}, rc 1 0 x2 x3 s = some (s', v) → Q v (mH h s') → zz_E zp_P zt_tf zt_fd X (d + 5) zm_277 80 [(0, .ref 61), (2, .int x2), (3, .int x3)] [] (mH h s) Q) {Q : Option Value → zz_H → Prop} {x3 : Int32} {s s' : mS} {v : Option Value} (hf : mf_277_110 N rc x3 s = some (s', v)) (k : Q v (mH h s')) : zz_E zp_P zt_tf zt_fd X (d + 5) zm_277 110 [(0, .ref 61), (3, .int x3)] [] (mH h s) Q := by
  unfold mf_277_110 at hf
  exact mb_277_110 hh  (mr_277_111 hh hrc0 hrc1 hf k)
def mf_277_106 (N : Nat) (rc : Nat → Int32 → Int32 → Int32 → mS → mO) (x3 : Int32) (s : mS) : mO := mf_277_111 N rc x3 1 s
theorem mr_277_106 {X : Nat → Option zz_C} {h : zz_H} (hh : 111 ≤ h.length) {d : Nat} {N : Nat} {rc : Nat → Int32 → Int32 → Int32 → mS → mO} (hrc0 : ∀ {Q : Option Value → zz_H → Prop} {x1 : Int32} {s s' : mS} {v : Option Value}, rc 0 x1 0 0 s = some (s', v) → Q v (mH h s') → zz_E zp_P zt_tf zt_fd X (d + 5) zm_277 29 [(0, .ref 61), (1, .int x1)] [] (mH h s) Q) (hrc1 : ∀ {Q : Option Value → zz_H → Prop} {x2 : Int32} {x3 : Int32} {s s' : mS} {v : Option Value}, rc 1 0 x2 x3 s = some (s', v) → Q v (mH h s') → zz_E zp_P zt_tf zt_fd X (d + 5) zm_277 80 [(0, .ref 61), (2, .int x2), (3, .int x3)] [] (mH h s) Q) {Q : Option Value → zz_H → Prop} {x3 : Int32} {s s' : mS} {v : Option Value} (hf : mf_277_106 N rc x3 s = some (s', v)) (k : Q v (mH h s')) : zz_E zp_P zt_tf zt_fd X (d + 5) zm_277 106 [(0, .ref 61), (3, .int x3)] [] (mH h s) Q := by
  unfold mf_277_106 at hf
  exact mb_277_106 hh  (mr_277_111 hh hrc0 hrc1 hf k)
def mf_277_92 (N : Nat) (rc : Nat → Int32 → Int32 → Int32 → mS → mO) (x3 : Int32) (s : mS) : mO := if ¬ (x3 < 0 ∨ 14 ≤ Int32.toNatClampNeg x3) then (if ¬ (lg_cmp ((s.2.2.2 21) (Int32.toNatClampNeg x3)) (s.2.1 7)) = 0 then mf_277_110 N rc x3 s else mf_277_106 N rc x3 s) else none
theorem mr_277_92 {X : Nat → Option zz_C} {h : zz_H} (hh : 111 ≤ h.length) {d : Nat} {N : Nat} {rc : Nat → Int32 → Int32 → Int32 → mS → mO} (hrc0 : ∀ {Q : Option Value → zz_H → Prop} {x1 : Int32} {s s' : mS} {v : Option Value}, rc 0 x1 0 0 s = some (s', v) → Q v (mH h s') → zz_E zp_P zt_tf zt_fd X (d + 5) zm_277 29 [(0, .ref 61), (1, .int x1)] [] (mH h s) Q) (hrc1 : ∀ {Q : Option Value → zz_H → Prop} {x2 : Int32} {x3 : Int32} {s s' : mS} {v : Option Value}, rc 1 0 x2 x3 s = some (s', v) → Q v (mH h s') → zz_E zp_P zt_tf zt_fd X (d + 5) zm_277 80 [(0, .ref 61), (2, .int x2), (3, .int x3)] [] (mH h s) Q) {Q : Option Value → zz_H → Prop} {x3 : Int32} {s s' : mS} {v : Option Value} (hf : mf_277_92 N rc x3 s = some (s', v)) (k : Q v (mH h s')) : zz_E zp_P zt_tf zt_fd X (d + 5) zm_277 92 [(0, .ref 61), (3, .int x3)] [] (mH h s) Q := by
  unfold mf_277_92 at hf
  obtain ⟨q0, hf⟩ := mo_if hf
  refine mb_277_92 hh q0 (fun c => ?_) (fun c => ?_)
  · rw [if_pos c] at hf
    exact mr_277_110 hh hrc0 hrc1 hf k
  · rw [if_neg c] at hf
    exact mr_277_106 hh hrc0 hrc1 hf k
def mf_277_88 (N : Nat) (rc : Nat → Int32 → Int32 → Int32 → mS → mO) (x2 : Int32) (x3 : Int32) (s : mS) : mO := if ¬ x2 = 0 then mf_277_106 N rc x3 s else mf_277_92 N rc x3 s
theorem mr_277_88 {X : Nat → Option zz_C} {h : zz_H} (hh : 111 ≤ h.length) {d : Nat} {N : Nat} {rc : Nat → Int32 → Int32 → Int32 → mS → mO} (hrc0 : ∀ {Q : Option Value → zz_H → Prop} {x1 : Int32} {s s' : mS} {v : Option Value}, rc 0 x1 0 0 s = some (s', v) → Q v (mH h s') → zz_E zp_P zt_tf zt_fd X (d + 5) zm_277 29 [(0, .ref 61), (1, .int x1)] [] (mH h s) Q) (hrc1 : ∀ {Q : Option Value → zz_H → Prop} {x2 : Int32} {x3 : Int32} {s s' : mS} {v : Option Value}, rc 1 0 x2 x3 s = some (s', v) → Q v (mH h s') → zz_E zp_P zt_tf zt_fd X (d + 5) zm_277 80 [(0, .ref 61), (2, .int x2), (3, .int x3)] [] (mH h s) Q) {Q : Option Value → zz_H → Prop} {x2 : Int32} {x3 : Int32} {s s' : mS} {v : Option Value} (hf : mf_277_88 N rc x2 x3 s = some (s', v)) (k : Q v (mH h s')) : zz_E zp_P zt_tf zt_fd X (d + 5) zm_277 88 [(0, .ref 61), (2, .int x2), (3, .int x3)] [] (mH h s) Q := by
  unfold mf_277_88 at hf
  refine mb_277_88 hh  (fun c => ?_) (fun c => ?_)
  · rw [if_pos c] at hf
    exact mr_277_106 hh hrc0 hrc1 hf k
  · rw [if_neg c] at hf
    exact mr_277_92 hh hrc0 hrc1 hf k
def mf_277_174 (N : Nat) (rc : Nat → Int32 → Int32 → Int32 → mS → mO) (x1 : Int32) (s : mS) : mO := rc 0 x1 0 0 s
theorem mr_277_174 {X : Nat → Option zz_C} {h : zz_H} (hh : 111 ≤ h.length) {d : Nat} {N : Nat} {rc : Nat → Int32 → Int32 → Int32 → mS → mO} (hrc0 : ∀ {Q : Option Value → zz_H → Prop} {x1 : Int32} {s s' : mS} {v : Option Value}, rc 0 x1 0 0 s = some (s', v) → Q v (mH h s') → zz_E zp_P zt_tf zt_fd X (d + 5) zm_277 29 [(0, .ref 61), (1, .int x1)] [] (mH h s) Q) (hrc1 : ∀ {Q : Option Value → zz_H → Prop} {x2 : Int32} {x3 : Int32} {s s' : mS} {v : Option Value}, rc 1 0 x2 x3 s = some (s', v) → Q v (mH h s') → zz_E zp_P zt_tf zt_fd X (d + 5) zm_277 80 [(0, .ref 61), (2, .int x2), (3, .int x3)] [] (mH h s) Q) {Q : Option Value → zz_H → Prop} {x1 : Int32} {s s' : mS} {v : Option Value} (hf : mf_277_174 N rc x1 s = some (s', v)) (k : Q v (mH h s')) : zz_E zp_P zt_tf zt_fd X (d + 5) zm_277 174 [(0, .ref 61), (1, .int x1)] [] (mH h s) Q := by
  unfold mf_277_174 at hf
  exact mb_277_174 hh  (hrc0 hf k)
def mf_277_170 (N : Nat) (rc : Nat → Int32 → Int32 → Int32 → mS → mO) (x1 : Int32) (s : mS) : mO := mo_bv (mf_260 N  s) (fun s1 => mf_277_174 N rc x1 s1)
theorem mr_277_170 {X : Nat → Option zz_C} {h : zz_H} (hh : 111 ≤ h.length) {d : Nat} {N : Nat} {rc : Nat → Int32 → Int32 → Int32 → mS → mO} (hrc0 : ∀ {Q : Option Value → zz_H → Prop} {x1 : Int32} {s s' : mS} {v : Option Value}, rc 0 x1 0 0 s = some (s', v) → Q v (mH h s') → zz_E zp_P zt_tf zt_fd X (d + 5) zm_277 29 [(0, .ref 61), (1, .int x1)] [] (mH h s) Q) (hrc1 : ∀ {Q : Option Value → zz_H → Prop} {x2 : Int32} {x3 : Int32} {s s' : mS} {v : Option Value}, rc 1 0 x2 x3 s = some (s', v) → Q v (mH h s') → zz_E zp_P zt_tf zt_fd X (d + 5) zm_277 80 [(0, .ref 61), (2, .int x2), (3, .int x3)] [] (mH h s) Q) {Q : Option Value → zz_H → Prop} {x1 : Int32} {s s' : mS} {v : Option Value} (hf : mf_277_170 N rc x1 s = some (s', v)) (k : Q v (mH h s')) : zz_E zp_P zt_tf zt_fd X (d + 5) zm_277 170 [(0, .ref 61), (1, .int x1)] [] (mH h s) Q := by
  unfold mf_277_170 at hf
  obtain ⟨s1, e, hf⟩ := mo_bv_ok hf
  exact mb_277_170 (d := d + 4) hh  (mr_260 (d := d + 1) hh e (mr_277_174 hh hrc0 hrc1 hf k))
def mf_277_165 (N : Nat) (rc : Nat → Int32 → Int32 → Int32 → mS → mO) (y0 : Int32) (s : mS) : mO := if y0 = 0 then mf_277_174 N rc y0 s else mf_277_170 N rc y0 s
theorem mr_277_165 {X : Nat → Option zz_C} {h : zz_H} (hh : 111 ≤ h.length) {d : Nat} {N : Nat} {rc : Nat → Int32 → Int32 → Int32 → mS → mO} (hrc0 : ∀ {Q : Option Value → zz_H → Prop} {x1 : Int32} {s s' : mS} {v : Option Value}, rc 0 x1 0 0 s = some (s', v) → Q v (mH h s') → zz_E zp_P zt_tf zt_fd X (d + 5) zm_277 29 [(0, .ref 61), (1, .int x1)] [] (mH h s) Q) (hrc1 : ∀ {Q : Option Value → zz_H → Prop} {x2 : Int32} {x3 : Int32} {s s' : mS} {v : Option Value}, rc 1 0 x2 x3 s = some (s', v) → Q v (mH h s') → zz_E zp_P zt_tf zt_fd X (d + 5) zm_277 80 [(0, .ref 61), (2, .int x2), (3, .int x3)] [] (mH h s) Q) {Q : Option Value → zz_H → Prop} {y0 : Int32} {s s' : mS} {v : Option Value} (hf : mf_277_165 N rc y0 s = some (s', v)) (k : Q v (mH h s')) : zz_E zp_P zt_tf zt_fd X (d + 5) zm_277 165 [(0, .ref 61)] [.int y0] (mH h s) Q := by
  unfold mf_277_165 at hf
  refine mb_277_165 hh  (fun c => ?_) (fun c => ?_)
  · rw [if_pos c] at hf
    exact mr_277_174 hh hrc0 hrc1 hf k
  · rw [if_neg c] at hf
    exact mr_277_170 hh hrc0 hrc1 hf k
def mf_277_159 (N : Nat) (rc : Nat → Int32 → Int32 → Int32 → mS → mO)  (s : mS) : mO := mo_bi (mf_263 N 44 s) (fun s1 y => mf_277_165 N rc y s1)
theorem mr_277_159 {X : Nat → Option zz_C} {h : zz_H} (hh : 111 ≤ h.length) {d : Nat} {N : Nat} {rc : Nat → Int32 → Int32 → Int32 → mS → mO} (hrc0 : ∀ {Q : Option Value → zz_H → Prop} {x1 : Int32} {s s' : mS} {v : Option Value}, rc 0 x1 0 0 s = some (s', v) → Q v (mH h s') → zz_E zp_P zt_tf zt_fd X (d + 5) zm_277 29 [(0, .ref 61), (1, .int x1)] [] (mH h s) Q) (hrc1 : ∀ {Q : Option Value → zz_H → Prop} {x2 : Int32} {x3 : Int32} {s s' : mS} {v : Option Value}, rc 1 0 x2 x3 s = some (s', v) → Q v (mH h s') → zz_E zp_P zt_tf zt_fd X (d + 5) zm_277 80 [(0, .ref 61), (2, .int x2), (3, .int x3)] [] (mH h s) Q) {Q : Option Value → zz_H → Prop}  {s s' : mS} {v : Option Value} (hf : mf_277_159 N rc  s = some (s', v)) (k : Q v (mH h s')) : zz_E zp_P zt_tf zt_fd X (d + 5) zm_277 159 [(0, .ref 61)] [] (mH h s) Q := by
  unfold mf_277_159 at hf
  obtain ⟨s1, y, e, hf⟩ := mo_bi_ok hf
  exact mb_277_159 (d := d + 4) hh  (mr_263 (d := d + 4) hh e (mr_277_165 hh hrc0 hrc1 hf k))
def mf_277_132 (N : Nat) (rc : Nat → Int32 → Int32 → Int32 → mS → mO)  (s : mS) : mO := if ¬ ((s.1 22) < 0 ∨ 14 ≤ Int32.toNatClampNeg (s.1 22)) then (mo_bv (mf_260 N  (mI (mB s 21 (vp_updL (s.2.2.2 21) (Int32.toNatClampNeg (s.1 22)) (s.2.1 7))) 22 ((s.1 22) + 1))) (fun s1 => mf_277_159 N rc  s1)) else none
theorem mr_277_132 {X : Nat → Option zz_C} {h : zz_H} (hh : 111 ≤ h.length) {d : Nat} {N : Nat} {rc : Nat → Int32 → Int32 → Int32 → mS → mO} (hrc0 : ∀ {Q : Option Value → zz_H → Prop} {x1 : Int32} {s s' : mS} {v : Option Value}, rc 0 x1 0 0 s = some (s', v) → Q v (mH h s') → zz_E zp_P zt_tf zt_fd X (d + 5) zm_277 29 [(0, .ref 61), (1, .int x1)] [] (mH h s) Q) (hrc1 : ∀ {Q : Option Value → zz_H → Prop} {x2 : Int32} {x3 : Int32} {s s' : mS} {v : Option Value}, rc 1 0 x2 x3 s = some (s', v) → Q v (mH h s') → zz_E zp_P zt_tf zt_fd X (d + 5) zm_277 80 [(0, .ref 61), (2, .int x2), (3, .int x3)] [] (mH h s) Q) {Q : Option Value → zz_H → Prop}  {s s' : mS} {v : Option Value} (hf : mf_277_132 N rc  s = some (s', v)) (k : Q v (mH h s')) : zz_E zp_P zt_tf zt_fd X (d + 5) zm_277 132 [(0, .ref 61)] [] (mH h s) Q := by
  unfold mf_277_132 at hf
  obtain ⟨q0, hf⟩ := mo_if hf
  obtain ⟨s1, e, hf⟩ := mo_bv_ok hf
  exact mb_277_132 (d := d + 4) hh q0 (mr_260 (d := d + 1) hh e (mr_277_159 hh hrc0 hrc1 hf k))
def mf_277_118 (N : Nat) (rc : Nat → Int32 → Int32 → Int32 → mS → mO) (x2 : Int32) (s : mS) : mO := if x2 = 0 then mf_277_132 N rc  s else mf_277_122 N  s
theorem mr_277_118 {X : Nat → Option zz_C} {h : zz_H} (hh : 111 ≤ h.length) {d : Nat} {N : Nat} {rc : Nat → Int32 → Int32 → Int32 → mS → mO} (hrc0 : ∀ {Q : Option Value → zz_H → Prop} {x1 : Int32} {s s' : mS} {v : Option Value}, rc 0 x1 0 0 s = some (s', v) → Q v (mH h s') → zz_E zp_P zt_tf zt_fd X (d + 5) zm_277 29 [(0, .ref 61), (1, .int x1)] [] (mH h s) Q) (hrc1 : ∀ {Q : Option Value → zz_H → Prop} {x2 : Int32} {x3 : Int32} {s s' : mS} {v : Option Value}, rc 1 0 x2 x3 s = some (s', v) → Q v (mH h s') → zz_E zp_P zt_tf zt_fd X (d + 5) zm_277 80 [(0, .ref 61), (2, .int x2), (3, .int x3)] [] (mH h s) Q) {Q : Option Value → zz_H → Prop} {x2 : Int32} {s s' : mS} {v : Option Value} (hf : mf_277_118 N rc x2 s = some (s', v)) (k : Q v (mH h s')) : zz_E zp_P zt_tf zt_fd X (d + 5) zm_277 118 [(0, .ref 61), (2, .int x2)] [] (mH h s) Q := by
  unfold mf_277_118 at hf
  refine mb_277_118 hh  (fun c => ?_) (fun c => ?_)
  · rw [if_pos c] at hf
    exact mr_277_132 hh hrc0 hrc1 hf k
  · rw [if_neg c] at hf
    exact mr_277_122 hh hf k
def mf_277_80 (N : Nat) (rc : Nat → Int32 → Int32 → Int32 → mS → mO) (x2 : Int32) (x3 : Int32) (s : mS) : mO := if (s.1 22) ≤ x3 then mf_277_118 N rc x2 s else mf_277_88 N rc x2 x3 s
theorem mr_277_80 {X : Nat → Option zz_C} {h : zz_H} (hh : 111 ≤ h.length) {d : Nat} {N : Nat} {rc : Nat → Int32 → Int32 → Int32 → mS → mO} (hrc0 : ∀ {Q : Option Value → zz_H → Prop} {x1 : Int32} {s s' : mS} {v : Option Value}, rc 0 x1 0 0 s = some (s', v) → Q v (mH h s') → zz_E zp_P zt_tf zt_fd X (d + 5) zm_277 29 [(0, .ref 61), (1, .int x1)] [] (mH h s) Q) (hrc1 : ∀ {Q : Option Value → zz_H → Prop} {x2 : Int32} {x3 : Int32} {s s' : mS} {v : Option Value}, rc 1 0 x2 x3 s = some (s', v) → Q v (mH h s') → zz_E zp_P zt_tf zt_fd X (d + 5) zm_277 80 [(0, .ref 61), (2, .int x2), (3, .int x3)] [] (mH h s) Q) {Q : Option Value → zz_H → Prop} {x2 : Int32} {x3 : Int32} {s s' : mS} {v : Option Value} (hf : mf_277_80 N rc x2 x3 s = some (s', v)) (k : Q v (mH h s')) : zz_E zp_P zt_tf zt_fd X (d + 5) zm_277 80 [(0, .ref 61), (2, .int x2), (3, .int x3)] [] (mH h s) Q := by
  unfold mf_277_80 at hf
  refine mb_277_80 hh  (fun c => ?_) (fun c => ?_)
  · rw [if_pos c] at hf
    exact mr_277_118 hh hrc0 hrc1 hf k
  · rw [if_neg c] at hf
    exact mr_277_88 hh hrc0 hrc1 hf k
def mf_277_77 (N : Nat) (rc : Nat → Int32 → Int32 → Int32 → mS → mO) (y0 : Int32) (s : mS) : mO := rc 1 0 y0 0 s
theorem mr_277_77 {X : Nat → Option zz_C} {h : zz_H} (hh : 111 ≤ h.length) {d : Nat} {N : Nat} {rc : Nat → Int32 → Int32 → Int32 → mS → mO} (hrc0 : ∀ {Q : Option Value → zz_H → Prop} {x1 : Int32} {s s' : mS} {v : Option Value}, rc 0 x1 0 0 s = some (s', v) → Q v (mH h s') → zz_E zp_P zt_tf zt_fd X (d + 5) zm_277 29 [(0, .ref 61), (1, .int x1)] [] (mH h s) Q) (hrc1 : ∀ {Q : Option Value → zz_H → Prop} {x2 : Int32} {x3 : Int32} {s s' : mS} {v : Option Value}, rc 1 0 x2 x3 s = some (s', v) → Q v (mH h s') → zz_E zp_P zt_tf zt_fd X (d + 5) zm_277 80 [(0, .ref 61), (2, .int x2), (3, .int x3)] [] (mH h s) Q) {Q : Option Value → zz_H → Prop} {y0 : Int32} {s s' : mS} {v : Option Value} (hf : mf_277_77 N rc y0 s = some (s', v)) (k : Q v (mH h s')) : zz_E zp_P zt_tf zt_fd X (d + 5) zm_277 77 [(0, .ref 61)] [.int y0] (mH h s) Q := by
  unfold mf_277_77 at hf
  exact mb_277_77 hh  (hrc1 hf k)
def mf_277_70 (N : Nat) (rc : Nat → Int32 → Int32 → Int32 → mS → mO)  (s : mS) : mO := mo_bi (mf_274 N (s.2.1 7) s) (fun s1 y => mf_277_77 N rc y s1)
theorem mr_277_70 {X : Nat → Option zz_C} {h : zz_H} (hh : 111 ≤ h.length) {d : Nat} {N : Nat} {rc : Nat → Int32 → Int32 → Int32 → mS → mO} (hrc0 : ∀ {Q : Option Value → zz_H → Prop} {x1 : Int32} {s s' : mS} {v : Option Value}, rc 0 x1 0 0 s = some (s', v) → Q v (mH h s') → zz_E zp_P zt_tf zt_fd X (d + 5) zm_277 29 [(0, .ref 61), (1, .int x1)] [] (mH h s) Q) (hrc1 : ∀ {Q : Option Value → zz_H → Prop} {x2 : Int32} {x3 : Int32} {s s' : mS} {v : Option Value}, rc 1 0 x2 x3 s = some (s', v) → Q v (mH h s') → zz_E zp_P zt_tf zt_fd X (d + 5) zm_277 80 [(0, .ref 61), (2, .int x2), (3, .int x3)] [] (mH h s) Q) {Q : Option Value → zz_H → Prop}  {s s' : mS} {v : Option Value} (hf : mf_277_70 N rc  s = some (s', v)) (k : Q v (mH h s')) : zz_E zp_P zt_tf zt_fd X (d + 5) zm_277 70 [(0, .ref 61)] [] (mH h s) Q := by
  unfold mf_277_70 at hf
  obtain ⟨s1, y, e, hf⟩ := mo_bi_ok hf
  exact mb_277_70 (d := d + 4) hh  (mr_274 (d := d + 4) hh e (mr_277_77 hh hrc0 hrc1 hf k))
def mf_277_52 (N : Nat) (rc : Nat → Int32 → Int32 → Int32 → mS → mO)  (s : mS) : mO := if ¬ (s.1 22) = 4 then mf_277_70 N rc  s else mf_277_60 N  s
theorem mr_277_52 {X : Nat → Option zz_C} {h : zz_H} (hh : 111 ≤ h.length) {d : Nat} {N : Nat} {rc : Nat → Int32 → Int32 → Int32 → mS → mO} (hrc0 : ∀ {Q : Option Value → zz_H → Prop} {x1 : Int32} {s s' : mS} {v : Option Value}, rc 0 x1 0 0 s = some (s', v) → Q v (mH h s') → zz_E zp_P zt_tf zt_fd X (d + 5) zm_277 29 [(0, .ref 61), (1, .int x1)] [] (mH h s) Q) (hrc1 : ∀ {Q : Option Value → zz_H → Prop} {x2 : Int32} {x3 : Int32} {s s' : mS} {v : Option Value}, rc 1 0 x2 x3 s = some (s', v) → Q v (mH h s') → zz_E zp_P zt_tf zt_fd X (d + 5) zm_277 80 [(0, .ref 61), (2, .int x2), (3, .int x3)] [] (mH h s) Q) {Q : Option Value → zz_H → Prop}  {s s' : mS} {v : Option Value} (hf : mf_277_52 N rc  s = some (s', v)) (k : Q v (mH h s')) : zz_E zp_P zt_tf zt_fd X (d + 5) zm_277 52 [(0, .ref 61)] [] (mH h s) Q := by
  unfold mf_277_52 at hf
  refine mb_277_52 hh  (fun c => ?_) (fun c => ?_)
  · rw [if_pos c] at hf
    exact mr_277_70 hh hrc0 hrc1 hf k
  · rw [if_neg c] at hf
    exact mr_277_60 hh hf k
def mf_277_44 (N : Nat) (rc : Nat → Int32 → Int32 → Int32 → mS → mO) (y0 : Int32) (s : mS) : mO := if ¬ y0 = 0 then mf_277_52 N rc  s else mf_277_47 N  s
theorem mr_277_44 {X : Nat → Option zz_C} {h : zz_H} (hh : 111 ≤ h.length) {d : Nat} {N : Nat} {rc : Nat → Int32 → Int32 → Int32 → mS → mO} (hrc0 : ∀ {Q : Option Value → zz_H → Prop} {x1 : Int32} {s s' : mS} {v : Option Value}, rc 0 x1 0 0 s = some (s', v) → Q v (mH h s') → zz_E zp_P zt_tf zt_fd X (d + 5) zm_277 29 [(0, .ref 61), (1, .int x1)] [] (mH h s) Q) (hrc1 : ∀ {Q : Option Value → zz_H → Prop} {x2 : Int32} {x3 : Int32} {s s' : mS} {v : Option Value}, rc 1 0 x2 x3 s = some (s', v) → Q v (mH h s') → zz_E zp_P zt_tf zt_fd X (d + 5) zm_277 80 [(0, .ref 61), (2, .int x2), (3, .int x3)] [] (mH h s) Q) {Q : Option Value → zz_H → Prop} {y0 : Int32} {s s' : mS} {v : Option Value} (hf : mf_277_44 N rc y0 s = some (s', v)) (k : Q v (mH h s')) : zz_E zp_P zt_tf zt_fd X (d + 5) zm_277 44 [(0, .ref 61)] [.int y0] (mH h s) Q := by
  unfold mf_277_44 at hf
  refine mb_277_44 hh  (fun c => ?_) (fun c => ?_)
  · rw [if_pos c] at hf
    exact mr_277_52 hh hrc0 hrc1 hf k
  · rw [if_neg c] at hf
    exact mr_277_47 hh hf k
def mf_277_40 (N : Nat) (rc : Nat → Int32 → Int32 → Int32 → mS → mO)  (s : mS) : mO := mo_bi (mf_266 N  s) (fun s1 y => mf_277_44 N rc y s1)
theorem mr_277_40 {X : Nat → Option zz_C} {h : zz_H} (hh : 111 ≤ h.length) {d : Nat} {N : Nat} {rc : Nat → Int32 → Int32 → Int32 → mS → mO} (hrc0 : ∀ {Q : Option Value → zz_H → Prop} {x1 : Int32} {s s' : mS} {v : Option Value}, rc 0 x1 0 0 s = some (s', v) → Q v (mH h s') → zz_E zp_P zt_tf zt_fd X (d + 5) zm_277 29 [(0, .ref 61), (1, .int x1)] [] (mH h s) Q) (hrc1 : ∀ {Q : Option Value → zz_H → Prop} {x2 : Int32} {x3 : Int32} {s s' : mS} {v : Option Value}, rc 1 0 x2 x3 s = some (s', v) → Q v (mH h s') → zz_E zp_P zt_tf zt_fd X (d + 5) zm_277 80 [(0, .ref 61), (2, .int x2), (3, .int x3)] [] (mH h s) Q) {Q : Option Value → zz_H → Prop}  {s s' : mS} {v : Option Value} (hf : mf_277_40 N rc  s = some (s', v)) (k : Q v (mH h s')) : zz_E zp_P zt_tf zt_fd X (d + 5) zm_277 40 [(0, .ref 61)] [] (mH h s) Q := by
  unfold mf_277_40 at hf
  obtain ⟨s1, y, e, hf⟩ := mo_bi_ok hf
  exact mb_277_40 (d := d + 4) hh  (mr_266 (d := d + 3) hh e (mr_277_44 hh hrc0 hrc1 hf k))
def mf_277_33 (N : Nat) (rc : Nat → Int32 → Int32 → Int32 → mS → mO)  (s : mS) : mO := if ¬ (s.1 9) = 0 then mf_277_177 N  s else mf_277_40 N rc  s
theorem mr_277_33 {X : Nat → Option zz_C} {h : zz_H} (hh : 111 ≤ h.length) {d : Nat} {N : Nat} {rc : Nat → Int32 → Int32 → Int32 → mS → mO} (hrc0 : ∀ {Q : Option Value → zz_H → Prop} {x1 : Int32} {s s' : mS} {v : Option Value}, rc 0 x1 0 0 s = some (s', v) → Q v (mH h s') → zz_E zp_P zt_tf zt_fd X (d + 5) zm_277 29 [(0, .ref 61), (1, .int x1)] [] (mH h s) Q) (hrc1 : ∀ {Q : Option Value → zz_H → Prop} {x2 : Int32} {x3 : Int32} {s s' : mS} {v : Option Value}, rc 1 0 x2 x3 s = some (s', v) → Q v (mH h s') → zz_E zp_P zt_tf zt_fd X (d + 5) zm_277 80 [(0, .ref 61), (2, .int x2), (3, .int x3)] [] (mH h s) Q) {Q : Option Value → zz_H → Prop}  {s s' : mS} {v : Option Value} (hf : mf_277_33 N rc  s = some (s', v)) (k : Q v (mH h s')) : zz_E zp_P zt_tf zt_fd X (d + 5) zm_277 33 [(0, .ref 61)] [] (mH h s) Q := by
  unfold mf_277_33 at hf
  refine mb_277_33 hh  (fun c => ?_) (fun c => ?_)
  · rw [if_pos c] at hf
    exact mr_277_177 hh hf k
  · rw [if_neg c] at hf
    exact mr_277_40 hh hrc0 hrc1 hf k
def mf_277_29 (N : Nat) (rc : Nat → Int32 → Int32 → Int32 → mS → mO) (x1 : Int32) (s : mS) : mO := if x1 = 0 then mf_277_177 N  s else mf_277_33 N rc  s
theorem mr_277_29 {X : Nat → Option zz_C} {h : zz_H} (hh : 111 ≤ h.length) {d : Nat} {N : Nat} {rc : Nat → Int32 → Int32 → Int32 → mS → mO} (hrc0 : ∀ {Q : Option Value → zz_H → Prop} {x1 : Int32} {s s' : mS} {v : Option Value}, rc 0 x1 0 0 s = some (s', v) → Q v (mH h s') → zz_E zp_P zt_tf zt_fd X (d + 5) zm_277 29 [(0, .ref 61), (1, .int x1)] [] (mH h s) Q) (hrc1 : ∀ {Q : Option Value → zz_H → Prop} {x2 : Int32} {x3 : Int32} {s s' : mS} {v : Option Value}, rc 1 0 x2 x3 s = some (s', v) → Q v (mH h s') → zz_E zp_P zt_tf zt_fd X (d + 5) zm_277 80 [(0, .ref 61), (2, .int x2), (3, .int x3)] [] (mH h s) Q) {Q : Option Value → zz_H → Prop} {x1 : Int32} {s s' : mS} {v : Option Value} (hf : mf_277_29 N rc x1 s = some (s', v)) (k : Q v (mH h s')) : zz_E zp_P zt_tf zt_fd X (d + 5) zm_277 29 [(0, .ref 61), (1, .int x1)] [] (mH h s) Q := by
  unfold mf_277_29 at hf
  refine mb_277_29 hh  (fun c => ?_) (fun c => ?_)
  · rw [if_pos c] at hf
    exact mr_277_177 hh hf k
  · rw [if_neg c] at hf
    exact mr_277_33 hh hrc0 hrc1 hf k
def mf_277_L8 (N : Nat) : Nat → Nat → Int32 → Int32 → Int32 → mS → mO
  | 0, _, _, _, _, _ => none
  | n + 1, l, x1, x2, x3, s => if l = 0 then mf_277_29 N (mf_277_L8 N n) x1 s else if l = 1 then mf_277_80 N (mf_277_L8 N n) x2 x3 s else none
theorem mr_277_L8 {X : Nat → Option zz_C} {h : zz_H} (hh : 111 ≤ h.length) {d : Nat} {N : Nat} : ∀ n : Nat, (∀ {Q : Option Value → zz_H → Prop} {x1 : Int32} {s s' : mS} {v : Option Value}, mf_277_L8 N n 0 x1 0 0 s = some (s', v) → Q v (mH h s') → zz_E zp_P zt_tf zt_fd X (d + 5) zm_277 29 [(0, .ref 61), (1, .int x1)] [] (mH h s) Q) ∧ (∀ {Q : Option Value → zz_H → Prop} {x2 : Int32} {x3 : Int32} {s s' : mS} {v : Option Value}, mf_277_L8 N n 1 0 x2 x3 s = some (s', v) → Q v (mH h s') → zz_E zp_P zt_tf zt_fd X (d + 5) zm_277 80 [(0, .ref 61), (2, .int x2), (3, .int x3)] [] (mH h s) Q) := by
  intro n
  induction n with
  | zero => exact ⟨(fun hf _ => by cases hf), (fun hf _ => by cases hf)⟩
  | succ n ih =>
    obtain ⟨h0, h1⟩ := ih
    refine ⟨?_, ?_⟩
    · intro Q _ s s' v hf k
      unfold mf_277_L8 at hf
      rw [if_pos rfl] at hf
      exact mr_277_29 hh h0 h1 hf k
    · intro Q _ _ s s' v hf k
      unfold mf_277_L8 at hf
      rw [if_neg (by decide)] at hf
      rw [if_pos rfl] at hf
      exact mr_277_80 hh h0 h1 hf k
def mf_277_28 (N : Nat) (y0 : Int32) (s : mS) : mO := mf_277_L8 N N 0 y0 0 0 s
theorem mr_277_28 {X : Nat → Option zz_C} {h : zz_H} (hh : 111 ≤ h.length) {d : Nat} {N : Nat} {Q : Option Value → zz_H → Prop} {y0 : Int32} {s s' : mS} {v : Option Value} (hf : mf_277_28 N y0 s = some (s', v)) (k : Q v (mH h s')) : zz_E zp_P zt_tf zt_fd X (d + 5) zm_277 28 [(0, .ref 61)] [.int y0] (mH h s) Q := by
  unfold mf_277_28 at hf
  exact mb_277_28 hh  ((mr_277_L8 hh N).1 hf k)
def mf_277_27 (N : Nat)  (s : mS) : mO := mf_277_28 N 0 s
theorem mr_277_27 {X : Nat → Option zz_C} {h : zz_H} (hh : 111 ≤ h.length) {d : Nat} {N : Nat} {Q : Option Value → zz_H → Prop}  {s s' : mS} {v : Option Value} (hf : mf_277_27 N  s = some (s', v)) (k : Q v (mH h s')) : zz_E zp_P zt_tf zt_fd X (d + 5) zm_277 27 [(0, .ref 61)] [] (mH h s) Q := by
  unfold mf_277_27 at hf
  exact mb_277_27 hh  (mr_277_28 hh hf k)
def mf_277_23 (N : Nat)  (s : mS) : mO := mf_277_28 N 1 s
theorem mr_277_23 {X : Nat → Option zz_C} {h : zz_H} (hh : 111 ≤ h.length) {d : Nat} {N : Nat} {Q : Option Value → zz_H → Prop}  {s s' : mS} {v : Option Value} (hf : mf_277_23 N  s = some (s', v)) (k : Q v (mH h s')) : zz_E zp_P zt_tf zt_fd X (d + 5) zm_277 23 [(0, .ref 61)] [] (mH h s) Q := by
  unfold mf_277_23 at hf
  exact mb_277_23 hh  (mr_277_28 hh hf k)
def mf_277_20 (N : Nat) (y0 : Int32) (s : mS) : mO := if ¬ y0 = 0 then mf_277_27 N  s else mf_277_23 N  s
theorem mr_277_20 {X : Nat → Option zz_C} {h : zz_H} (hh : 111 ≤ h.length) {d : Nat} {N : Nat} {Q : Option Value → zz_H → Prop} {y0 : Int32} {s s' : mS} {v : Option Value} (hf : mf_277_20 N y0 s = some (s', v)) (k : Q v (mH h s')) : zz_E zp_P zt_tf zt_fd X (d + 5) zm_277 20 [(0, .ref 61)] [.int y0] (mH h s) Q := by
  unfold mf_277_20 at hf
  refine mb_277_20 hh  (fun c => ?_) (fun c => ?_)
  · rw [if_pos c] at hf
    exact mr_277_27 hh hf k
  · rw [if_neg c] at hf
    exact mr_277_23 hh hf k
def mf_277_14 (N : Nat)  (s : mS) : mO := mo_bi (mf_263 N 41 s) (fun s1 y => mf_277_20 N y s1)
theorem mr_277_14 {X : Nat → Option zz_C} {h : zz_H} (hh : 111 ≤ h.length) {d : Nat} {N : Nat} {Q : Option Value → zz_H → Prop}  {s s' : mS} {v : Option Value} (hf : mf_277_14 N  s = some (s', v)) (k : Q v (mH h s')) : zz_E zp_P zt_tf zt_fd X (d + 5) zm_277 14 [(0, .ref 61)] [] (mH h s) Q := by
  unfold mf_277_14 at hf
  obtain ⟨s1, y, e, hf⟩ := mo_bi_ok hf
  exact mb_277_14 (d := d + 4) hh  (mr_263 (d := d + 4) hh e (mr_277_20 hh hf k))
def mf_277_13 (N : Nat)  (s : mS) : mO := some (s, none)
theorem mr_277_13 {X : Nat → Option zz_C} {h : zz_H} (hh : 111 ≤ h.length) {d : Nat} {N : Nat} {Q : Option Value → zz_H → Prop}  {s s' : mS} {v : Option Value} (hf : mf_277_13 N  s = some (s', v)) (k : Q v (mH h s')) : zz_E zp_P zt_tf zt_fd X (d + 5) zm_277 13 [] [] (mH h s) Q := by
  unfold mf_277_13 at hf
  cases hf
  exact mb_277_13 hh  k
def mf_277_6 (N : Nat)  (s : mS) : mO := if (s.1 9) ≤ 0 then mf_277_14 N  s else mf_277_13 N  s
theorem mr_277_6 {X : Nat → Option zz_C} {h : zz_H} (hh : 111 ≤ h.length) {d : Nat} {N : Nat} {Q : Option Value → zz_H → Prop}  {s s' : mS} {v : Option Value} (hf : mf_277_6 N  s = some (s', v)) (k : Q v (mH h s')) : zz_E zp_P zt_tf zt_fd X (d + 5) zm_277 6 [(0, .ref 61)] [] (mH h s) Q := by
  unfold mf_277_6 at hf
  refine mb_277_6 hh  (fun c => ?_) (fun c => ?_)
  · rw [if_pos c] at hf
    exact mr_277_14 hh hf k
  · rw [if_neg c] at hf
    exact mr_277_13 hh hf k
def mf_277_0 (N : Nat)  (s : mS) : mO := mo_bv (mf_268 N 40 s) (fun s1 => mf_277_6 N  s1)
theorem mr_277_0 {X : Nat → Option zz_C} {h : zz_H} (hh : 111 ≤ h.length) {d : Nat} {N : Nat} {Q : Option Value → zz_H → Prop}  {s s' : mS} {v : Option Value} (hf : mf_277_0 N  s = some (s', v)) (k : Q v (mH h s')) : zz_E zp_P zt_tf zt_fd X (d + 5) zm_277 0 [(0, .ref 61)] [] (mH h s) Q := by
  unfold mf_277_0 at hf
  obtain ⟨s1, e, hf⟩ := mo_bv_ok hf
  exact mb_277_0 (d := d + 4) hh  (mr_268 (d := d + 0) hh e (mr_277_6 hh hf k))
/-- parameters -/
def mf_277 (N : Nat)  (s : mS) : mO := mf_277_0 N  s
theorem mr_277 {X : Nat → Option zz_C} {h : zz_H} (hh : 111 ≤ h.length) {d : Nat} {N : Nat} {Q : Option Value → zz_H → Prop}  {s s' : mS} {v : Option Value} (hf : mf_277 N  s = some (s', v)) (k : Q v (mH h s')) : zz_E zp_P zt_tf zt_fd X (d + 5) zm_277 0 [(0, .ref 61)] [] (mH h s) Q := by
  unfold mf_277 at hf
  exact zz_E.weak (mr_277_0 hh hf k) rfl ⟨rfl, trivial⟩
