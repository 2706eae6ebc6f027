/-! starts ()Z -/
theorem mb_286_0 {X : Nat → Option zz_C} {h : zz_H} (hh : 111 ≤ h.length) {s : mS} {d : Nat} {Q : Option Value → zz_H → Prop}  (k : zz_E zp_P zt_tf zt_fd X d zm_265 0 [(0, .ref 61)] [] (mH h s) (fun v h' => zz_E zp_P zt_tf zt_fd X (d + 1) zm_286 9 [(0, .ref 61), (1, .int (s.1 6))] (v.toList ++ []) h' Q)) : zz_E zp_P zt_tf zt_fd X (d + 1) zm_286 0 [(0, .ref 61)] [] (mH h s) Q := by
  refine zz_E.n 1 rfl rfl rfl ?_
  refine mE_g hh 4 (v := .int (s.1 6)) rfl rfl rfl ?_
  refine zz_E.n 5 rfl rfl rfl ?_
  refine zz_E.n 6 rfl rfl rfl ?_
  refine mE_cv hh 9 (as := []) rfl rfl (Nat.le_of_ble_eq_true rfl) (Nat.le_of_ble_eq_true rfl) rfl (Nat.le_of_ble_eq_true rfl) rfl ?_
  refine zz_E.mono k ?_
  intro v h' hE
  exact zz_E.weak hE rfl ⟨rfl, rfl, trivial⟩
theorem mb_286_9 {X : Nat → Option zz_C} {h : zz_H} (hh : 111 ≤ h.length) {s : mS} {d : Nat} {Q : Option Value → zz_H → Prop} {x1 : Int32} {y0 : Int32} (k1 : ¬ (s.1 5) = 2 → zz_E zp_P zt_tf zt_fd X d zm_286 37 [(0, .ref 61), (1, .int x1), (2, .int y0)] [] (mH h s) Q) (k2 : ¬ ¬ (s.1 5) = 2 → zz_E zp_P zt_tf zt_fd X d zm_286 18 [(0, .ref 61), (1, .int x1)] [] (mH h s) Q) : zz_E zp_P zt_tf zt_fd X d zm_286 9 [(0, .ref 61), (1, .int x1)] [.int y0] (mH h s) Q := by
  refine zz_E.n 10 rfl rfl rfl ?_
  refine zz_E.n 11 rfl rfl rfl ?_
  refine mE_g hh 14 (v := .int (s.1 5)) rfl rfl rfl ?_
  refine zz_E.c 15 (.int 2) rfl rfl rfl rfl ?_
  refine zz_E.b2 37 18 (A := ¬ (s.1 5) = 2) rfl (zz_cond_ne _ _) (by decide) rfl rfl (fun c => ?_) (fun c => ?_)
  · exact zz_E.weak (k1 c) rfl ⟨rfl, rfl, rfl, trivial⟩
  · exact zz_E.weak (k2 c) rfl ⟨rfl, rfl, trivial⟩
theorem mb_286_18 {X : Nat → Option zz_C} {h : zz_H} (hh : 111 ≤ h.length) {s : mS} {d : Nat} {Q : Option Value → zz_H → Prop} {x1 : Int32} (k : zz_E zp_P zt_tf zt_fd X d zm_271 0 [(0, .ref 61), (1, .int 2), (2, .int (Int64.toInt32 (s.2.1 7))), (3, .int 0), (4, .int x1)] [] (mH h s) (fun v h' => zz_E zp_P zt_tf zt_fd X (d + 1) zm_286 30 [(0, .ref 61)] (v.toList ++ []) h' Q)) : zz_E zp_P zt_tf zt_fd X (d + 1) zm_286 18 [(0, .ref 61), (1, .int x1)] [] (mH h s) Q := by
  refine zz_E.n 19 rfl rfl rfl ?_
  refine zz_E.c 20 (.int 2) rfl rfl rfl rfl ?_
  refine zz_E.n 21 rfl rfl rfl ?_
  refine mE_g hh 24 (v := .long (s.2.1 7)) rfl rfl rfl ?_
  refine zz_E.n 25 rfl rfl rfl ?_
  refine zz_E.c 26 (.int 0) rfl rfl rfl rfl ?_
  refine zz_E.n 27 rfl rfl rfl ?_
  refine mE_cv hh 30 (as := []) rfl rfl (Nat.le_of_ble_eq_true rfl) (Nat.le_of_ble_eq_true rfl) rfl (Nat.le_of_ble_eq_true rfl) rfl ?_
  refine zz_E.mono k ?_
  intro v h' hE
  exact zz_E.weak hE rfl ⟨rfl, trivial⟩
theorem mb_286_30 {X : Nat → Option zz_C} {h : zz_H} (hh : 111 ≤ h.length) {s : mS} {d : Nat} {Q : Option Value → zz_H → Prop} {y0 : Int32} (k : zz_E zp_P zt_tf zt_fd X d zm_260 0 [(0, .ref 61)] [] (mH h s) (fun v h' => zz_E zp_P zt_tf zt_fd X (d + 1) zm_286 35 [] (v.toList ++ []) h' Q)) : zz_E zp_P zt_tf zt_fd X (d + 1) zm_286 30 [(0, .ref 61)] [.int y0] (mH h s) Q := by
  refine zz_E.n 31 rfl rfl rfl ?_
  refine zz_E.n 32 rfl rfl rfl ?_
  refine mE_cv hh 35 (as := []) rfl rfl (Nat.le_of_ble_eq_true rfl) (Nat.le_of_ble_eq_true rfl) rfl (Nat.le_of_ble_eq_true rfl) rfl ?_
  refine zz_E.mono k ?_
  intro v h' hE
  exact zz_E.weak hE rfl trivial
theorem mb_286_35 {X : Nat → Option zz_C} {h : zz_H} (hh : 111 ≤ h.length) {s : mS} {d : Nat} {Q : Option Value → zz_H → Prop}  (k : Q (some (.int 1)) (mH h s)) : zz_E zp_P zt_tf zt_fd X d zm_286 35 [] [] (mH h s) Q := by
  refine zz_E.c 36 (.int 1) rfl rfl rfl rfl ?_
  refine zz_E.ret rfl rfl rfl ?_
  exact k
theorem mb_286_37 {X : Nat → Option zz_C} {h : zz_H} (hh : 111 ≤ h.length) {s : mS} {d : Nat} {Q : Option Value → zz_H → Prop} {x1 : Int32} {x2 : Int32} (k : zz_E zp_P zt_tf zt_fd X d zm_263 0 [(0, .ref 61), (1, .int 45)] [] (mH h s) (fun v h' => zz_E zp_P zt_tf zt_fd X (d + 1) zm_286 43 [(0, .ref 61), (1, .int x1), (2, .int x2)] (v.toList ++ []) h' Q)) : zz_E zp_P zt_tf zt_fd X (d + 1) zm_286 37 [(0, .ref 61), (1, .int x1), (2, .int x2)] [] (mH h s) Q := by
  refine zz_E.n 38 rfl rfl rfl ?_
  refine zz_E.c 40 (.int 45) rfl rfl rfl rfl ?_
  refine mE_cv hh 43 (as := []) rfl rfl (Nat.le_of_ble_eq_true rfl) (Nat.le_of_ble_eq_true rfl) rfl (Nat.le_of_ble_eq_true rfl) rfl ?_
  refine zz_E.mono k ?_
  intro v h' hE
  exact zz_E.weak hE rfl ⟨rfl, rfl, rfl, trivial⟩
theorem mb_286_43 {X : Nat → Option zz_C} {h : zz_H} (hh : 111 ≤ h.length) {s : mS} {d : Nat} {Q : Option Value → zz_H → Prop} {x1 : Int32} {x2 : Int32} {y0 : Int32} (k1 : ¬ y0 = 0 → zz_E zp_P zt_tf zt_fd X d zm_286 55 [(0, .ref 61), (1, .int x1), (2, .int x2)] [] (mH h s) Q) (k2 : ¬ ¬ y0 = 0 → zz_E zp_P zt_tf zt_fd X d zm_286 46 [(0, .ref 61), (1, .int x1), (2, .int x2)] [] (mH h s) Q) : zz_E zp_P zt_tf zt_fd X d zm_286 43 [(0, .ref 61), (1, .int x1), (2, .int x2)] [.int y0] (mH h s) Q := by
  refine zz_E.b1 55 46 (A := ¬ y0 = 0) rfl (zz_cond_ne _ _) (by decide) rfl rfl (fun c => ?_) (fun c => ?_)
  · exact zz_E.weak (k1 c) rfl ⟨rfl, rfl, rfl, trivial⟩
  · exact zz_E.weak (k2 c) rfl ⟨rfl, rfl, rfl, trivial⟩
theorem mb_286_46 {X : Nat → Option zz_C} {h : zz_H} (hh : 111 ≤ h.length) {s : mS} {d : Nat} {Q : Option Value → zz_H → Prop} {x1 : Int32} {x2 : Int32} (k : zz_E zp_P zt_tf zt_fd X d zm_263 0 [(0, .ref 61), (1, .int 33)] [] (mH h s) (fun v h' => zz_E zp_P zt_tf zt_fd X (d + 1) zm_286 52 [(0, .ref 61), (1, .int x1), (2, .int x2)] (v.toList ++ []) h' Q)) : zz_E zp_P zt_tf zt_fd X (d + 1) zm_286 46 [(0, .ref 61), (1, .int x1), (2, .int x2)] [] (mH h s) Q := by
  refine zz_E.n 47 rfl rfl rfl ?_
  refine zz_E.c 49 (.int 33) rfl rfl rfl rfl ?_
  refine mE_cv hh 52 (as := []) rfl rfl (Nat.le_of_ble_eq_true rfl) (Nat.le_of_ble_eq_true rfl) rfl (Nat.le_of_ble_eq_true rfl) rfl ?_
  refine zz_E.mono k ?_
  intro v h' hE
  exact zz_E.weak hE rfl ⟨rfl, rfl, rfl, trivial⟩
theorem mb_286_52 {X : Nat → Option zz_C} {h : zz_H} (hh : 111 ≤ h.length) {s : mS} {d : Nat} {Q : Option Value → zz_H → Prop} {x1 : Int32} {x2 : Int32} {y0 : Int32} (k1 : y0 = 0 → zz_E zp_P zt_tf zt_fd X d zm_286 80 [(0, .ref 61), (1, .int x1), (2, .int x2)] [] (mH h s) Q) (k2 : ¬ y0 = 0 → zz_E zp_P zt_tf zt_fd X d zm_286 55 [(0, .ref 61), (1, .int x1), (2, .int x2)] [] (mH h s) Q) : zz_E zp_P zt_tf zt_fd X d zm_286 52 [(0, .ref 61), (1, .int x1), (2, .int x2)] [.int y0] (mH h s) Q := by
  refine zz_E.b1 80 55 (A := y0 = 0) rfl rfl (by decide) rfl rfl (fun c => ?_) (fun c => ?_)
  · exact zz_E.weak (k1 c) rfl ⟨rfl, rfl, rfl, trivial⟩
  · exact zz_E.weak (k2 c) rfl ⟨rfl, rfl, rfl, trivial⟩
theorem mb_286_55 {X : Nat → Option zz_C} {h : zz_H} (hh : 111 ≤ h.length) {s : mS} {d : Nat} {Q : Option Value → zz_H → Prop} {x1 : Int32} {x2 : Int32} (k : zz_E zp_P zt_tf zt_fd X d zm_283 0 [(0, .ref 61), (1, .int 2)] [] (mH h s) (fun v h' => zz_E zp_P zt_tf zt_fd X (d + 1) zm_286 60 [(0, .ref 61), (1, .int x1), (2, .int x2)] (v.toList ++ []) h' Q)) : zz_E zp_P zt_tf zt_fd X (d + 1) zm_286 55 [(0, .ref 61), (1, .int x1), (2, .int x2)] [] (mH h s) Q := by
  refine zz_E.n 56 rfl rfl rfl ?_
  refine zz_E.c 57 (.int 2) rfl rfl rfl rfl ?_
  refine mE_cv hh 60 (as := []) rfl rfl (Nat.le_of_ble_eq_true rfl) (Nat.le_of_ble_eq_true rfl) rfl (Nat.le_of_ble_eq_true rfl) rfl ?_
  refine zz_E.mono k ?_
  intro v h' hE
  exact zz_E.weak hE rfl ⟨rfl, rfl, rfl, trivial⟩
theorem mb_286_60 {X : Nat → Option zz_C} {h : zz_H} (hh : 111 ≤ h.length) {s : mS} {d : Nat} {Q : Option Value → zz_H → Prop} {x1 : Int32} {x2 : Int32} {y0 : Int32} (k1 : ¬ y0 = 0 → zz_E zp_P zt_tf zt_fd X d zm_286 80 [(0, .ref 61), (1, .int x1), (2, .int x2)] [] (mH h s) Q) (k2 : ¬ ¬ y0 = 0 → zz_E zp_P zt_tf zt_fd X d zm_286 63 [(0, .ref 61), (1, .int x1)] [] (mH h s) Q) : zz_E zp_P zt_tf zt_fd X d zm_286 60 [(0, .ref 61), (1, .int x1), (2, .int x2)] [.int y0] (mH h s) Q := by
  refine zz_E.b1 80 63 (A := ¬ y0 = 0) rfl (zz_cond_ne _ _) (by decide) rfl rfl (fun c => ?_) (fun c => ?_)
  · exact zz_E.weak (k1 c) rfl ⟨rfl, rfl, rfl, trivial⟩
  · exact zz_E.weak (k2 c) rfl ⟨rfl, rfl, trivial⟩
theorem mb_286_63 {X : Nat → Option zz_C} {h : zz_H} (hh : 111 ≤ h.length) {s : mS} {d : Nat} {Q : Option Value → zz_H → Prop} {x1 : Int32} (k : zz_E zp_P zt_tf zt_fd X d zm_281 0 [(0, .ref 61), (1, .int 2), (2, .int (Int64.toInt32 (s.2.1 7))), (3, .int x1)] [] (mH h s) (fun v h' => zz_E zp_P zt_tf zt_fd X (d + 1) zm_286 74 [(0, .ref 61)] (v.toList ++ []) h' Q)) : zz_E zp_P zt_tf zt_fd X (d + 1) zm_286 63 [(0, .ref 61), (1, .int x1)] [] (mH h s) Q := by
  refine zz_E.n 64 rfl rfl rfl ?_
  refine zz_E.c 65 (.int 2) rfl rfl rfl rfl ?_
  refine zz_E.n 66 rfl rfl rfl ?_
  refine mE_g hh 69 (v := .long (s.2.1 7)) rfl rfl rfl ?_
  refine zz_E.n 70 rfl rfl rfl ?_
  refine zz_E.n 71 rfl rfl rfl ?_
  refine mE_cv hh 74 (as := []) rfl rfl (Nat.le_of_ble_eq_true rfl) (Nat.le_of_ble_eq_true rfl) rfl (Nat.le_of_ble_eq_true rfl) rfl ?_
  refine zz_E.mono k ?_
  intro v h' hE
  exact zz_E.weak hE rfl ⟨rfl, trivial⟩
theorem mb_286_74 {X : Nat → Option zz_C} {h : zz_H} (hh : 111 ≤ h.length) {s : mS} {d : Nat} {Q : Option Value → zz_H → Prop}  (k : zz_E zp_P zt_tf zt_fd X d zm_260 0 [(0, .ref 61)] [] (mH h s) (fun v h' => zz_E zp_P zt_tf zt_fd X (d + 1) zm_286 78 [] (v.toList ++ []) h' Q)) : zz_E zp_P zt_tf zt_fd X (d + 1) zm_286 74 [(0, .ref 61)] [] (mH h s) Q := by
  refine zz_E.n 75 rfl rfl rfl ?_
  refine mE_cv hh 78 (as := []) rfl rfl (Nat.le_of_ble_eq_true rfl) (Nat.le_of_ble_eq_true rfl) rfl (Nat.le_of_ble_eq_true rfl) rfl ?_
  refine zz_E.mono k ?_
  intro v h' hE
  exact zz_E.weak hE rfl trivial
theorem mb_286_78 {X : Nat → Option zz_C} {h : zz_H} (hh : 111 ≤ h.length) {s : mS} {d : Nat} {Q : Option Value → zz_H → Prop}  (k : Q (some (.int 0)) (mH h s)) : zz_E zp_P zt_tf zt_fd X d zm_286 78 [] [] (mH h s) Q := by
  refine zz_E.c 79 (.int 0) rfl rfl rfl rfl ?_
  refine zz_E.ret rfl rfl rfl ?_
  exact k
theorem mb_286_80 {X : Nat → Option zz_C} {h : zz_H} (hh : 111 ≤ h.length) {s : mS} {d : Nat} {Q : Option Value → zz_H → Prop} {x1 : Int32} {x2 : Int32} (k : zz_E zp_P zt_tf zt_fd X d zm_263 0 [(0, .ref 61), (1, .int 40)] [] (mH h s) (fun v h' => zz_E zp_P zt_tf zt_fd X (d + 1) zm_286 86 [(0, .ref 61), (1, .int x1), (2, .int x2)] (v.toList ++ []) h' Q)) : zz_E zp_P zt_tf zt_fd X (d + 1) zm_286 80 [(0, .ref 61), (1, .int x1), (2, .int x2)] [] (mH h s) Q := by
  refine zz_E.n 81 rfl rfl rfl ?_
  refine zz_E.c 83 (.int 40) rfl rfl rfl rfl ?_
  refine mE_cv hh 86 (as := []) rfl rfl (Nat.le_of_ble_eq_true rfl) (Nat.le_of_ble_eq_true rfl) rfl (Nat.le_of_ble_eq_true rfl) rfl ?_
  refine zz_E.mono k ?_
  intro v h' hE
  exact zz_E.weak hE rfl ⟨rfl, rfl, rfl, trivial⟩
theorem mb_286_86 {X : Nat → Option zz_C} {h : zz_H} (hh : 111 ≤ h.length) {s : mS} {d : Nat} {Q : Option Value → zz_H → Prop} {x1 : Int32} {x2 : Int32} {y0 : Int32} (k1 : y0 = 0 → zz_E zp_P zt_tf zt_fd X d zm_286 104 [(0, .ref 61), (1, .int x1), (2, .int x2)] [] (mH h s) Q) (k2 : ¬ y0 = 0 → zz_E zp_P zt_tf zt_fd X d zm_286 89 [(0, .ref 61), (1, .int x1)] [] (mH h s) Q) : zz_E zp_P zt_tf zt_fd X d zm_286 86 [(0, .ref 61), (1, .int x1), (2, .int x2)] [.int y0] (mH h s) Q := by
  refine zz_E.b1 104 89 (A := y0 = 0) rfl rfl (by decide) rfl rfl (fun c => ?_) (fun c => ?_)
  · exact zz_E.weak (k1 c) rfl ⟨rfl, rfl, rfl, trivial⟩
  · exact zz_E.weak (k2 c) rfl ⟨rfl, rfl, trivial⟩
theorem mb_286_89 {X : Nat → Option zz_C} {h : zz_H} (hh : 111 ≤ h.length) {s : mS} {d : Nat} {Q : Option Value → zz_H → Prop} {x1 : Int32} (k : zz_E zp_P zt_tf zt_fd X d zm_268 0 [(0, .ref 61), (1, .int 40)] [] (mH h s) (fun v h' => zz_E zp_P zt_tf zt_fd X (d + 1) zm_286 95 [(0, .ref 61), (1, .int x1)] (v.toList ++ []) h' Q)) : zz_E zp_P zt_tf zt_fd X (d + 1) zm_286 89 [(0, .ref 61), (1, .int x1)] [] (mH h s) Q := by
  refine zz_E.n 90 rfl rfl rfl ?_
  refine zz_E.c 92 (.int 40) rfl rfl rfl rfl ?_
  refine mE_cv hh 95 (as := []) rfl rfl (Nat.le_of_ble_eq_true rfl) (Nat.le_of_ble_eq_true rfl) rfl (Nat.le_of_ble_eq_true rfl) rfl ?_
  refine zz_E.mono k ?_
  intro v h' hE
  exact zz_E.weak hE rfl ⟨rfl, rfl, trivial⟩
theorem mb_286_95 {X : Nat → Option zz_C} {h : zz_H} (hh : 111 ≤ h.length) {s : mS} {d : Nat} {Q : Option Value → zz_H → Prop} {x1 : Int32} (k : zz_E zp_P zt_tf zt_fd X d zm_281 0 [(0, .ref 61), (1, .int 3), (2, .int 0), (3, .int x1)] [] (mH h s) (fun v h' => zz_E zp_P zt_tf zt_fd X (d + 1) zm_286 102 [] (v.toList ++ []) h' Q)) : zz_E zp_P zt_tf zt_fd X (d + 1) zm_286 95 [(0, .ref 61), (1, .int x1)] [] (mH h s) Q := by
  refine zz_E.n 96 rfl rfl rfl ?_
  refine zz_E.c 97 (.int 3) rfl rfl rfl rfl ?_
  refine zz_E.c 98 (.int 0) rfl rfl rfl rfl ?_
  refine zz_E.n 99 rfl rfl rfl ?_
  refine mE_cv hh 102 (as := []) rfl rfl (Nat.le_of_ble_eq_true rfl) (Nat.le_of_ble_eq_true rfl) rfl (Nat.le_of_ble_eq_true rfl) rfl ?_
  refine zz_E.mono k ?_
  intro v h' hE
  exact zz_E.weak hE rfl trivial
theorem mb_286_102 {X : Nat → Option zz_C} {h : zz_H} (hh : 111 ≤ h.length) {s : mS} {d : Nat} {Q : Option Value → zz_H → Prop}  (k : Q (some (.int 0)) (mH h s)) : zz_E zp_P zt_tf zt_fd X d zm_286 102 [] [] (mH h s) Q := by
  refine zz_E.c 103 (.int 0) rfl rfl rfl rfl ?_
  refine zz_E.ret rfl rfl rfl ?_
  exact k
theorem mb_286_104 {X : Nat → Option zz_C} {h : zz_H} (hh : 111 ≤ h.length) {s : mS} {d : Nat} {Q : Option Value → zz_H → Prop} {x1 : Int32} {x2 : Int32} (k : zz_E zp_P zt_tf zt_fd X d zm_263 0 [(0, .ref 61), (1, .int 91)] [] (mH h s) (fun v h' => zz_E zp_P zt_tf zt_fd X (d + 1) zm_286 110 [(0, .ref 61), (1, .int x1), (2, .int x2)] (v.toList ++ []) h' Q)) : zz_E zp_P zt_tf zt_fd X (d + 1) zm_286 104 [(0, .ref 61), (1, .int x1), (2, .int x2)] [] (mH h s) Q := by
  refine zz_E.n 105 rfl rfl rfl ?_
  refine zz_E.c 107 (.int 91) rfl rfl rfl rfl ?_
  refine mE_cv hh 110 (as := []) rfl rfl (Nat.le_of_ble_eq_true rfl) (Nat.le_of_ble_eq_true rfl) rfl (Nat.le_of_ble_eq_true rfl) rfl ?_
  refine zz_E.mono k ?_
  intro v h' hE
  exact zz_E.weak hE rfl ⟨rfl, rfl, rfl, trivial⟩
theorem mb_286_110 {X : Nat → Option zz_C} {h : zz_H} (hh : 111 ≤ h.length) {s : mS} {d : Nat} {Q : Option Value → zz_H → Prop} {x1 : Int32} {x2 : Int32} {y0 : Int32} (k1 : y0 = 0 → zz_E zp_P zt_tf zt_fd X d zm_286 155 [(0, .ref 61), (1, .int x1), (2, .int x2)] [] (mH h s) Q) (k2 : ¬ y0 = 0 → zz_E zp_P zt_tf zt_fd X d zm_286 113 [(0, .ref 61), (1, .int x1)] [] (mH h s) Q) : zz_E zp_P zt_tf zt_fd X d zm_286 110 [(0, .ref 61), (1, .int x1), (2, .int x2)] [.int y0] (mH h s) Q := by
  refine zz_E.b1 155 113 (A := y0 = 0) rfl rfl (by decide) rfl rfl (fun c => ?_) (fun c => ?_)
  · exact zz_E.weak (k1 c) rfl ⟨rfl, rfl, rfl, trivial⟩
  · exact zz_E.weak (k2 c) rfl ⟨rfl, rfl, trivial⟩
theorem mb_286_113 {X : Nat → Option zz_C} {h : zz_H} (hh : 111 ≤ h.length) {s : mS} {d : Nat} {Q : Option Value → zz_H → Prop} {x1 : Int32} (k : zz_E zp_P zt_tf zt_fd X d zm_268 0 [(0, .ref 61), (1, .int 91)] [] (mH h s) (fun v h' => zz_E zp_P zt_tf zt_fd X (d + 1) zm_286 119 [(0, .ref 61), (1, .int x1)] (v.toList ++ []) h' Q)) : zz_E zp_P zt_tf zt_fd X (d + 1) zm_286 113 [(0, .ref 61), (1, .int x1)] [] (mH h s) Q := by
  refine zz_E.n 114 rfl rfl rfl ?_
  refine zz_E.c 116 (.int 91) rfl rfl rfl rfl ?_
  refine mE_cv hh 119 (as := []) rfl rfl (Nat.le_of_ble_eq_true rfl) (Nat.le_of_ble_eq_true rfl) rfl (Nat.le_of_ble_eq_true rfl) rfl ?_
  refine zz_E.mono k ?_
  intro v h' hE
  exact zz_E.weak hE rfl ⟨rfl, rfl, trivial⟩
theorem mb_286_119 {X : Nat → Option zz_C} {h : zz_H} (hh : 111 ≤ h.length) {s : mS} {d : Nat} {Q : Option Value → zz_H → Prop} {x1 : Int32} (k : zz_E zp_P zt_tf zt_fd X d zm_281 0 [(0, .ref 61), (1, .int 5), (2, .int 0), (3, .int x1)] [] (mH h s) (fun v h' => zz_E zp_P zt_tf zt_fd X (d + 1) zm_286 126 [(0, .ref 61)] (v.toList ++ []) h' Q)) : zz_E zp_P zt_tf zt_fd X (d + 1) zm_286 119 [(0, .ref 61), (1, .int x1)] [] (mH h s) Q := by
  refine zz_E.n 120 rfl rfl rfl ?_
  refine zz_E.c 121 (.int 5) rfl rfl rfl rfl ?_
  refine zz_E.c 122 (.int 0) rfl rfl rfl rfl ?_
  refine zz_E.n 123 rfl rfl rfl ?_
  refine mE_cv hh 126 (as := []) rfl rfl (Nat.le_of_ble_eq_true rfl) (Nat.le_of_ble_eq_true rfl) rfl (Nat.le_of_ble_eq_true rfl) rfl ?_
  refine zz_E.mono k ?_
  intro v h' hE
  exact zz_E.weak hE rfl ⟨rfl, trivial⟩
theorem mb_286_126 {X : Nat → Option zz_C} {h : zz_H} (hh : 111 ≤ h.length) {s : mS} {d : Nat} {Q : Option Value → zz_H → Prop}  (k1 : ¬ (s.1 9) = 0 → zz_E zp_P zt_tf zt_fd X d zm_286 153 [] [] (mH h s) Q) (k2 : ¬ ¬ (s.1 9) = 0 → zz_E zp_P zt_tf zt_fd X d zm_286 133 [(0, .ref 61)] [] (mH h s) Q) : zz_E zp_P zt_tf zt_fd X d zm_286 126 [(0, .ref 61)] [] (mH h s) Q := by
  refine zz_E.n 127 rfl rfl rfl ?_
  refine mE_g hh 130 (v := .int (s.1 9)) rfl rfl rfl ?_
  refine zz_E.b1 153 133 (A := ¬ (s.1 9) = 0) rfl (zz_cond_ne _ _) (by decide) rfl rfl (fun c => ?_) (fun c => ?_)
  · exact zz_E.weak (k1 c) rfl trivial
  · exact zz_E.weak (k2 c) rfl ⟨rfl, trivial⟩
theorem mb_286_133 {X : Nat → Option zz_C} {h : zz_H} (hh : 111 ≤ h.length) {s : mS} {d : Nat} {Q : Option Value → zz_H → Prop}  (k : zz_E zp_P zt_tf zt_fd X d zm_263 0 [(0, .ref 61), (1, .int 93)] [] (mH h s) (fun v h' => zz_E zp_P zt_tf zt_fd X (d + 1) zm_286 139 [(0, .ref 61)] (v.toList ++ []) h' Q)) : zz_E zp_P zt_tf zt_fd X (d + 1) zm_286 133 [(0, .ref 61)] [] (mH h s) Q := by
  refine zz_E.n 134 rfl rfl rfl ?_
  refine zz_E.c 136 (.int 93) rfl rfl rfl rfl ?_
  refine mE_cv hh 139 (as := []) rfl rfl (Nat.le_of_ble_eq_true rfl) (Nat.le_of_ble_eq_true rfl) rfl (Nat.le_of_ble_eq_true rfl) rfl ?_
  refine zz_E.mono k ?_
  intro v h' hE
  exact zz_E.weak hE rfl ⟨rfl, trivial⟩
theorem mb_286_139 {X : Nat → Option zz_C} {h : zz_H} (hh : 111 ≤ h.length) {s : mS} {d : Nat} {Q : Option Value → zz_H → Prop} {y0 : Int32} (k1 : y0 = 0 → zz_E zp_P zt_tf zt_fd X d zm_286 153 [] [] (mH h s) Q) (k2 : ¬ y0 = 0 → zz_E zp_P zt_tf zt_fd X d zm_286 142 [(0, .ref 61)] [] (mH h s) Q) : zz_E zp_P zt_tf zt_fd X d zm_286 139 [(0, .ref 61)] [.int y0] (mH h s) Q := by
  refine zz_E.b1 153 142 (A := y0 = 0) rfl rfl (by decide) rfl rfl (fun c => ?_) (fun c => ?_)
  · exact zz_E.weak (k1 c) rfl trivial
  · exact zz_E.weak (k2 c) rfl ⟨rfl, trivial⟩
theorem mb_286_142 {X : Nat → Option zz_C} {h : zz_H} (hh : 111 ≤ h.length) {s : mS} {d : Nat} {Q : Option Value → zz_H → Prop}  (k : zz_E zp_P zt_tf zt_fd X d zm_290 0 [(0, .ref 61)] [] (mH h s) (fun v h' => zz_E zp_P zt_tf zt_fd X (d + 1) zm_286 146 [] (v.toList ++ []) h' Q)) : zz_E zp_P zt_tf zt_fd X (d + 1) zm_286 142 [(0, .ref 61)] [] (mH h s) Q := by
  refine zz_E.n 143 rfl rfl rfl ?_
  refine mE_cv hh 146 (as := []) rfl rfl (Nat.le_of_ble_eq_true rfl) (Nat.le_of_ble_eq_true rfl) rfl (Nat.le_of_ble_eq_true rfl) rfl ?_
  refine zz_E.mono k ?_
  intro v h' hE
  exact zz_E.weak hE rfl trivial
theorem mb_286_146 {X : Nat → Option zz_C} {h : zz_H} (hh : 111 ≤ h.length) {s : mS} {d : Nat} {Q : Option Value → zz_H → Prop} {y0 : Int32} (k1 : y0 = 0 → zz_E zp_P zt_tf zt_fd X d zm_286 153 [] [] (mH h s) Q) (k2 : ¬ y0 = 0 → zz_E zp_P zt_tf zt_fd X d zm_286 149 [] [] (mH h s) Q) : zz_E zp_P zt_tf zt_fd X d zm_286 146 [] [.int y0] (mH h s) Q := by
  refine zz_E.b1 153 149 (A := y0 = 0) rfl rfl (by decide) rfl rfl (fun c => ?_) (fun c => ?_)
  · exact zz_E.weak (k1 c) rfl trivial
  · exact zz_E.weak (k2 c) rfl trivial
theorem mb_286_149 {X : Nat → Option zz_C} {h : zz_H} (hh : 111 ≤ h.length) {s : mS} {d : Nat} {Q : Option Value → zz_H → Prop}  (k : zz_E zp_P zt_tf zt_fd X d zm_286 154 [] [.int 1] (mH h s) Q) : zz_E zp_P zt_tf zt_fd X d zm_286 149 [] [] (mH h s) Q := by
  refine zz_E.c 150 (.int 1) rfl rfl rfl rfl ?_
  refine zz_E.n 154 rfl rfl rfl ?_
  exact zz_E.weak k rfl trivial
theorem mb_286_153 {X : Nat → Option zz_C} {h : zz_H} (hh : 111 ≤ h.length) {s : mS} {d : Nat} {Q : Option Value → zz_H → Prop}  (k : zz_E zp_P zt_tf zt_fd X d zm_286 154 [] [.int 0] (mH h s) Q) : zz_E zp_P zt_tf zt_fd X d zm_286 153 [] [] (mH h s) Q := by
  refine zz_E.c 154 (.int 0) rfl rfl rfl rfl ?_
  exact zz_E.weak k rfl trivial
theorem mb_286_154 {X : Nat → Option zz_C} {h : zz_H} (hh : 111 ≤ h.length) {s : mS} {d : Nat} {Q : Option Value → zz_H → Prop} {y0 : Int32} (k : Q (some (.int y0)) (mH h s)) (rb : zz_reti (some .boolean) y0 = true) : zz_E zp_P zt_tf zt_fd X d zm_286 154 [] [.int y0] (mH h s) Q := by
  refine zz_E.ret rfl rfl (if_pos ⟨rfl, rb⟩) ?_
  exact k
theorem mb_286_155 {X : Nat → Option zz_C} {h : zz_H} (hh : 111 ≤ h.length) {s : mS} {d : Nat} {Q : Option Value → zz_H → Prop} {x1 : Int32} {x2 : Int32} (k1 : ¬ (s.1 5) = 1 → zz_E zp_P zt_tf zt_fd X d zm_286 187 [(0, .ref 61), (1, .int x1), (2, .int x2)] [] (mH h s) Q) (k2 : ¬ ¬ (s.1 5) = 1 → zz_E zp_P zt_tf zt_fd X d zm_286 163 [(0, .ref 61), (1, .int x1), (2, .int x2)] [] (mH h s) Q) : zz_E zp_P zt_tf zt_fd X d zm_286 155 [(0, .ref 61), (1, .int x1), (2, .int x2)] [] (mH h s) Q := by
  refine zz_E.n 156 rfl rfl rfl ?_
  refine mE_g hh 159 (v := .int (s.1 5)) rfl rfl rfl ?_
  refine zz_E.c 160 (.int 1) rfl rfl rfl rfl ?_
  refine zz_E.b2 187 163 (A := ¬ (s.1 5) = 1) rfl (zz_cond_ne _ _) (by decide) rfl rfl (fun c => ?_) (fun c => ?_)
  · exact zz_E.weak (k1 c) rfl ⟨rfl, rfl, rfl, trivial⟩
  · exact zz_E.weak (k2 c) rfl ⟨rfl, rfl, rfl, trivial⟩
theorem mb_286_163 {X : Nat → Option zz_C} {h : zz_H} (hh : 111 ≤ h.length) {s : mS} {d : Nat} {Q : Option Value → zz_H → Prop} {x1 : Int32} {x2 : Int32} (k1 : 11 ≤ x2 → zz_E zp_P zt_tf zt_fd X d zm_286 180 [(0, .ref 61), (1, .int x1), (2, .int x2)] [] (mH h s) Q) (k2 : ¬ 11 ≤ x2 → zz_E zp_P zt_tf zt_fd X d zm_286 169 [(0, .ref 61), (1, .int x1), (2, .int x2)] [] (mH h s) Q) : zz_E zp_P zt_tf zt_fd X d zm_286 163 [(0, .ref 61), (1, .int x1), (2, .int x2)] [] (mH h s) Q := by
  refine zz_E.n 164 rfl rfl rfl ?_
  refine zz_E.c 166 (.int 11) rfl rfl rfl rfl ?_
  refine zz_E.b2 180 169 (A := 11 ≤ x2) rfl rfl (by decide) rfl rfl (fun c => ?_) (fun c => ?_)
  · exact zz_E.weak (k1 c) rfl ⟨rfl, rfl, rfl, trivial⟩
  · exact zz_E.weak (k2 c) rfl ⟨rfl, rfl, rfl, trivial⟩
theorem mb_286_169 {X : Nat → Option zz_C} {h : zz_H} (hh : 111 ≤ h.length) {s : mS} {d : Nat} {Q : Option Value → zz_H → Prop} {x1 : Int32} {x2 : Int32} (k1 : 0 ≤ x2 → zz_E zp_P zt_tf zt_fd X d zm_286 187 [(0, .ref 61), (1, .int x1), (2, .int x2)] [] (mH h s) Q) (k2 : ¬ 0 ≤ x2 → zz_E zp_P zt_tf zt_fd X d zm_286 173 [(0, .ref 61), (1, .int x1), (2, .int x2)] [] (mH h s) Q) : zz_E zp_P zt_tf zt_fd X d zm_286 169 [(0, .ref 61), (1, .int x1), (2, .int x2)] [] (mH h s) Q := by
  refine zz_E.n 170 rfl rfl rfl ?_
  refine zz_E.b1 187 173 (A := 0 ≤ x2) rfl rfl (by decide) rfl rfl (fun c => ?_) (fun c => ?_)
  · exact zz_E.weak (k1 c) rfl ⟨rfl, rfl, rfl, trivial⟩
  · exact zz_E.weak (k2 c) rfl ⟨rfl, rfl, rfl, trivial⟩
theorem mb_286_173 {X : Nat → Option zz_C} {h : zz_H} (hh : 111 ≤ h.length) {s : mS} {d : Nat} {Q : Option Value → zz_H → Prop} {x1 : Int32} {x2 : Int32} (k : zz_E zp_P zt_tf zt_fd X d zm_270 0 [(0, .ref 61)] [] (mH h s) (fun v h' => zz_E zp_P zt_tf zt_fd X (d + 1) zm_286 177 [(0, .ref 61), (1, .int x1), (2, .int x2)] (v.toList ++ []) h' Q)) : zz_E zp_P zt_tf zt_fd X (d + 1) zm_286 173 [(0, .ref 61), (1, .int x1), (2, .int x2)] [] (mH h s) Q := by
  refine zz_E.n 174 rfl rfl rfl ?_
  refine mE_cv hh 177 (as := []) rfl rfl (Nat.le_of_ble_eq_true rfl) (Nat.le_of_ble_eq_true rfl) rfl (Nat.le_of_ble_eq_true rfl) rfl ?_
  refine zz_E.mono k ?_
  intro v h' hE
  exact zz_E.weak hE rfl ⟨rfl, rfl, rfl, trivial⟩
theorem mb_286_177 {X : Nat → Option zz_C} {h : zz_H} (hh : 111 ≤ h.length) {s : mS} {d : Nat} {Q : Option Value → zz_H → Prop} {x1 : Int32} {x2 : Int32} {y0 : Int32} (k1 : y0 = 0 → zz_E zp_P zt_tf zt_fd X d zm_286 187 [(0, .ref 61), (1, .int x1), (2, .int x2)] [] (mH h s) Q) (k2 : ¬ y0 = 0 → zz_E zp_P zt_tf zt_fd X d zm_286 180 [(0, .ref 61), (1, .int x1), (2, .int x2)] [] (mH h s) Q) : zz_E zp_P zt_tf zt_fd X d zm_286 177 [(0, .ref 61), (1, .int x1), (2, .int x2)] [.int y0] (mH h s) Q := by
  refine zz_E.b1 187 180 (A := y0 = 0) rfl rfl (by decide) rfl rfl (fun c => ?_) (fun c => ?_)
  · exact zz_E.weak (k1 c) rfl ⟨rfl, rfl, rfl, trivial⟩
  · exact zz_E.weak (k2 c) rfl ⟨rfl, rfl, rfl, trivial⟩
theorem mb_286_180 {X : Nat → Option zz_C} {h : zz_H} (hh : 111 ≤ h.length) {s : mS} {d : Nat} {Q : Option Value → zz_H → Prop} {x1 : Int32} {x2 : Int32} (k : zz_E zp_P zt_tf zt_fd X d zm_287 0 [(0, .ref 61), (1, .int x2), (2, .int x1)] [] (mH h s) (fun v h' => zz_E zp_P zt_tf zt_fd X (d + 1) zm_286 186 [] (v.toList ++ []) h' Q)) : zz_E zp_P zt_tf zt_fd X (d + 1) zm_286 180 [(0, .ref 61), (1, .int x1), (2, .int x2)] [] (mH h s) Q := by
  refine zz_E.n 181 rfl rfl rfl ?_
  refine zz_E.n 182 rfl rfl rfl ?_
  refine zz_E.n 183 rfl rfl rfl ?_
  refine mE_cv hh 186 (as := []) rfl rfl (Nat.le_of_ble_eq_true rfl) (Nat.le_of_ble_eq_true rfl) rfl (Nat.le_of_ble_eq_true rfl) rfl ?_
  refine zz_E.mono k ?_
  intro v h' hE
  exact zz_E.weak hE rfl trivial
theorem mb_286_186 {X : Nat → Option zz_C} {h : zz_H} (hh : 111 ≤ h.length) {s : mS} {d : Nat} {Q : Option Value → zz_H → Prop} {y0 : Int32} (k : Q (some (.int y0)) (mH h s)) (rb : zz_reti (some .boolean) y0 = true) : zz_E zp_P zt_tf zt_fd X d zm_286 186 [] [.int y0] (mH h s) Q := by
  refine zz_E.ret rfl rfl (if_pos ⟨rfl, rb⟩) ?_
  exact k
theorem mb_286_187 {X : Nat → Option zz_C} {h : zz_H} (hh : 111 ≤ h.length) {s : mS} {d : Nat} {Q : Option Value → zz_H → Prop} {x1 : Int32} {x2 : Int32} (k1 : ¬ (s.1 5) = 1 → zz_E zp_P zt_tf zt_fd X d zm_286 215 [(0, .ref 61)] [] (mH h s) Q) (k2 : ¬ ¬ (s.1 5) = 1 → zz_E zp_P zt_tf zt_fd X d zm_286 195 [(0, .ref 61), (1, .int x1), (2, .int x2)] [] (mH h s) Q) : zz_E zp_P zt_tf zt_fd X d zm_286 187 [(0, .ref 61), (1, .int x1), (2, .int x2)] [] (mH h s) Q := by
  refine zz_E.n 188 rfl rfl rfl ?_
  refine mE_g hh 191 (v := .int (s.1 5)) rfl rfl rfl ?_
  refine zz_E.c 192 (.int 1) rfl rfl rfl rfl ?_
  refine zz_E.b2 215 195 (A := ¬ (s.1 5) = 1) rfl (zz_cond_ne _ _) (by decide) rfl rfl (fun c => ?_) (fun c => ?_)
  · exact zz_E.weak (k1 c) rfl ⟨rfl, trivial⟩
  · exact zz_E.weak (k2 c) rfl ⟨rfl, rfl, rfl, trivial⟩
theorem mb_286_195 {X : Nat → Option zz_C} {h : zz_H} (hh : 111 ≤ h.length) {s : mS} {d : Nat} {Q : Option Value → zz_H → Prop} {x1 : Int32} {x2 : Int32} (k1 : 0 ≤ x2 → zz_E zp_P zt_tf zt_fd X d zm_286 215 [(0, .ref 61)] [] (mH h s) Q) (k2 : ¬ 0 ≤ x2 → zz_E zp_P zt_tf zt_fd X d zm_286 199 [(0, .ref 61), (1, .int x1)] [] (mH h s) Q) : zz_E zp_P zt_tf zt_fd X d zm_286 195 [(0, .ref 61), (1, .int x1), (2, .int x2)] [] (mH h s) Q := by
  refine zz_E.n 196 rfl rfl rfl ?_
  refine zz_E.b1 215 199 (A := 0 ≤ x2) rfl rfl (by decide) rfl rfl (fun c => ?_) (fun c => ?_)
  · exact zz_E.weak (k1 c) rfl ⟨rfl, trivial⟩
  · exact zz_E.weak (k2 c) rfl ⟨rfl, rfl, trivial⟩
theorem mb_286_199 {X : Nat → Option zz_C} {h : zz_H} (hh : 111 ≤ h.length) {s : mS} {d : Nat} {Q : Option Value → zz_H → Prop} {x1 : Int32} (k : zz_E zp_P zt_tf zt_fd X d zm_275 0 [(0, .ref 61)] [] (mH h s) (fun v h' => zz_E zp_P zt_tf zt_fd X (d + 1) zm_286 203 [(0, .ref 61), (1, .int x1)] (v.toList ++ []) h' Q)) : zz_E zp_P zt_tf zt_fd X (d + 1) zm_286 199 [(0, .ref 61), (1, .int x1)] [] (mH h s) Q := by
  refine zz_E.n 200 rfl rfl rfl ?_
  refine mE_cv hh 203 (as := []) rfl rfl (Nat.le_of_ble_eq_true rfl) (Nat.le_of_ble_eq_true rfl) rfl (Nat.le_of_ble_eq_true rfl) rfl ?_
  refine zz_E.mono k ?_
  intro v h' hE
  exact zz_E.weak hE rfl ⟨rfl, rfl, trivial⟩
theorem mb_286_203 {X : Nat → Option zz_C} {h : zz_H} (hh : 111 ≤ h.length) {s : mS} {d : Nat} {Q : Option Value → zz_H → Prop} {x1 : Int32} {y0 : Int32} (k : zz_E zp_P zt_tf zt_fd X d zm_271 0 [(0, .ref 61), (1, .int 3), (2, .int y0), (3, .int 0), (4, .int x1)] [] (mH h s) (fun v h' => zz_E zp_P zt_tf zt_fd X (d + 1) zm_286 212 [] (v.toList ++ []) h' Q)) : zz_E zp_P zt_tf zt_fd X (d + 1) zm_286 203 [(0, .ref 61), (1, .int x1)] [.int y0] (mH h s) Q := by
  refine zz_E.n 204 rfl rfl rfl ?_
  refine zz_E.n 205 rfl rfl rfl ?_
  refine zz_E.c 206 (.int 3) rfl rfl rfl rfl ?_
  refine zz_E.n 207 rfl rfl rfl ?_
  refine zz_E.c 208 (.int 0) rfl rfl rfl rfl ?_
  refine zz_E.n 209 rfl rfl rfl ?_
  refine mE_cv hh 212 (as := []) rfl rfl (Nat.le_of_ble_eq_true rfl) (Nat.le_of_ble_eq_true rfl) rfl (Nat.le_of_ble_eq_true rfl) rfl ?_
  refine zz_E.mono k ?_
  intro v h' hE
  exact zz_E.weak hE rfl trivial
theorem mb_286_212 {X : Nat → Option zz_C} {h : zz_H} (hh : 111 ≤ h.length) {s : mS} {d : Nat} {Q : Option Value → zz_H → Prop} {y0 : Int32} (k : Q (some (.int 1)) (mH h s)) : zz_E zp_P zt_tf zt_fd X d zm_286 212 [] [.int y0] (mH h s) Q := by
  refine zz_E.n 213 rfl rfl rfl ?_
  refine zz_E.c 214 (.int 1) rfl rfl rfl rfl ?_
  refine zz_E.ret rfl rfl rfl ?_
  exact k
theorem mb_286_215 {X : Nat → Option zz_C} {h : zz_H} (hh : 111 ≤ h.length) {s : mS} {d : Nat} {Q : Option Value → zz_H → Prop}  (k : zz_E zp_P zt_tf zt_fd X d zm_262 0 [(0, .ref 61)] [] (mH h s) (fun v h' => zz_E zp_P zt_tf zt_fd X (d + 1) zm_286 219 [] (v.toList ++ []) h' Q)) : zz_E zp_P zt_tf zt_fd X (d + 1) zm_286 215 [(0, .ref 61)] [] (mH h s) Q := by
  refine zz_E.n 216 rfl rfl rfl ?_
  refine mE_cv hh 219 (as := []) rfl rfl (Nat.le_of_ble_eq_true rfl) (Nat.le_of_ble_eq_true rfl) rfl (Nat.le_of_ble_eq_true rfl) rfl ?_
  refine zz_E.mono k ?_
  intro v h' hE
  exact zz_E.weak hE rfl trivial
theorem mb_286_219 {X : Nat → Option zz_C} {h : zz_H} (hh : 111 ≤ h.length) {s : mS} {d : Nat} {Q : Option Value → zz_H → Prop}  (k : Q (some (.int 0)) (mH h s)) : zz_E zp_P zt_tf zt_fd X d zm_286 219 [] [] (mH h s) Q := by
  refine zz_E.c 220 (.int 0) rfl rfl rfl rfl ?_
  refine zz_E.ret rfl rfl rfl ?_
  exact k
def mf_286_219 (N : Nat)  (s : mS) : mO := some (s, (some (.int 0)))
theorem mr_286_219 {X : Nat → Option zz_C} {h : zz_H} (hh : 111 ≤ h.length) {d : Nat} {N : Nat} {Q : Option Value → zz_H → Prop}  {s s' : mS} {v : Option Value} (hf : mf_286_219 N  s = some (s', v)) (k : Q v (mH h s')) : zz_E zp_P zt_tf zt_fd X (d + 7) zm_286 219 [] [] (mH h s) Q := by
  unfold mf_286_219 at hf
  cases hf
  exact mb_286_219 hh  k
def mf_286_215 (N : Nat)  (s : mS) : mO := mo_bv (mf_262 N  s) (fun s1 => mf_286_219 N  s1)
theorem mr_286_215 {X : Nat → Option zz_C} {h : zz_H} (hh : 111 ≤ h.length) {d : Nat} {N : Nat} {Q : Option Value → zz_H → Prop}  {s s' : mS} {v : Option Value} (hf : mf_286_215 N  s = some (s', v)) (k : Q v (mH h s')) : zz_E zp_P zt_tf zt_fd X (d + 7) zm_286 215 [(0, .ref 61)] [] (mH h s) Q := by
  unfold mf_286_215 at hf
  obtain ⟨s1, e, hf⟩ := mo_bv_ok hf
  exact mb_286_215 (d := d + 6) hh  (mr_262 (d := d + 5) hh e (mr_286_219 hh hf k))
def mf_286_212 (N : Nat) (y0 : Int32) (s : mS) : mO := some (s, (some (.int 1)))
theorem mr_286_212 {X : Nat → Option zz_C} {h : zz_H} (hh : 111 ≤ h.length) {d : Nat} {N : Nat} {Q : Option Value → zz_H → Prop} {y0 : Int32} {s s' : mS} {v : Option Value} (hf : mf_286_212 N y0 s = some (s', v)) (k : Q v (mH h s')) : zz_E zp_P zt_tf zt_fd X (d + 7) zm_286 212 [] [.int y0] (mH h s) Q := by
  unfold mf_286_212 at hf
  cases hf
  exact mb_286_212 hh  k
def mf_286_203 (N : Nat) (x1 : Int32) (y0 : Int32) (s : mS) : mO := mo_bi (mf_271 N 3 y0 0 x1 s) (fun s1 y => mf_286_212 N y s1)
theorem mr_286_203 {X : Nat → Option zz_C} {h : zz_H} (hh : 111 ≤ h.length) {d : Nat} {N : Nat} {Q : Option Value → zz_H → Prop} {x1 : Int32} {y0 : Int32} {s s' : mS} {v : Option Value} (hf : mf_286_203 N x1 y0 s = some (s', v)) (k : Q v (mH h s')) : zz_E zp_P zt_tf zt_fd X (d + 7) zm_286 203 [(0, .ref 61), (1, .int x1)] [.int y0] (mH h s) Q := by
  unfold mf_286_203 at hf
  obtain ⟨s1, y, e, hf⟩ := mo_bi_ok hf
  exact mb_286_203 (d := d + 6) hh  (mr_271 (d := d + 6) hh e (mr_286_212 hh hf k))
def mf_286_199 (N : Nat) (x1 : Int32) (s : mS) : mO := mo_bi (mf_275 N  s) (fun s1 y => mf_286_203 N x1 y s1)
theorem mr_286_199 {X : Nat → Option zz_C} {h : zz_H} (hh : 111 ≤ h.length) {d : Nat} {N : Nat} {Q : Option Value → zz_H → Prop} {x1 : Int32} {s s' : mS} {v : Option Value} (hf : mf_286_199 N x1 s = some (s', v)) (k : Q v (mH h s')) : zz_E zp_P zt_tf zt_fd X (d + 7) zm_286 199 [(0, .ref 61), (1, .int x1)] [] (mH h s) Q := by
  unfold mf_286_199 at hf
  obtain ⟨s1, y, e, hf⟩ := mo_bi_ok hf
  exact mb_286_199 (d := d + 6) hh  (mr_275 (d := d + 2) hh e (mr_286_203 hh hf k))
def mf_286_195 (N : Nat) (x1 : Int32) (x2 : Int32) (s : mS) : mO := if 0 ≤ x2 then mf_286_215 N  s else mf_286_199 N x1 s
theorem mr_286_195 {X : Nat → Option zz_C} {h : zz_H} (hh : 111 ≤ h.length) {d : Nat} {N : Nat} {Q : Option Value → zz_H → Prop} {x1 : Int32} {x2 : Int32} {s s' : mS} {v : Option Value} (hf : mf_286_195 N x1 x2 s = some (s', v)) (k : Q v (mH h s')) : zz_E zp_P zt_tf zt_fd X (d + 7) zm_286 195 [(0, .ref 61), (1, .int x1), (2, .int x2)] [] (mH h s) Q := by
  unfold mf_286_195 at hf
  refine mb_286_195 hh  (fun c => ?_) (fun c => ?_)
  · rw [if_pos c] at hf
    exact mr_286_215 hh hf k
  · rw [if_neg c] at hf
    exact mr_286_199 hh hf k
def mf_286_187 (N : Nat) (x1 : Int32) (x2 : Int32) (s : mS) : mO := if ¬ (s.1 5) = 1 then mf_286_215 N  s else mf_286_195 N x1 x2 s
theorem mr_286_187 {X : Nat → Option zz_C} {h : zz_H} (hh : 111 ≤ h.length) {d : Nat} {N : Nat} {Q : Option Value → zz_H → Prop} {x1 : Int32} {x2 : Int32} {s s' : mS} {v : Option Value} (hf : mf_286_187 N x1 x2 s = some (s', v)) (k : Q v (mH h s')) : zz_E zp_P zt_tf zt_fd X (d + 7) zm_286 187 [(0, .ref 61), (1, .int x1), (2, .int x2)] [] (mH h s) Q := by
  unfold mf_286_187 at hf
  refine mb_286_187 hh  (fun c => ?_) (fun c => ?_)
  · rw [if_pos c] at hf
    exact mr_286_215 hh hf k
  · rw [if_neg c] at hf
    exact mr_286_195 hh hf k
def mf_286_186 (N : Nat) (y0 : Int32) (s : mS) : mO := if zz_reti (some .boolean) y0 = true then some (s, (some (.int y0))) else none
theorem mr_286_186 {X : Nat → Option zz_C} {h : zz_H} (hh : 111 ≤ h.length) {d : Nat} {N : Nat} {Q : Option Value → zz_H → Prop} {y0 : Int32} {s s' : mS} {v : Option Value} (hf : mf_286_186 N y0 s = some (s', v)) (k : Q v (mH h s')) : zz_E zp_P zt_tf zt_fd X (d + 7) zm_286 186 [] [.int y0] (mH h s) Q := by
  unfold mf_286_186 at hf
  obtain ⟨rb, hf⟩ := mo_if hf
  cases hf
  exact mb_286_186 hh  k rb
def mf_286_180 (N : Nat) (x1 : Int32) (x2 : Int32) (s : mS) : mO := mo_bi (mf_287 N x2 x1 s) (fun s1 y => mf_286_186 N y s1)
theorem mr_286_180 {X : Nat → Option zz_C} {h : zz_H} (hh : 111 ≤ h.length) {d : Nat} {N : Nat} {Q : Option Value → zz_H → Prop} {x1 : Int32} {x2 : Int32} {s s' : mS} {v : Option Value} (hf : mf_286_180 N x1 x2 s = some (s', v)) (k : Q v (mH h s')) : zz_E zp_P zt_tf zt_fd X (d + 7) zm_286 180 [(0, .ref 61), (1, .int x1), (2, .int x2)] [] (mH h s) Q := by
  unfold mf_286_180 at hf
  obtain ⟨s1, y, e, hf⟩ := mo_bi_ok hf
  exact mb_286_180 (d := d + 6) hh  (mr_287 (d := d + 0) hh e (mr_286_186 hh hf k))
def mf_286_177 (N : Nat) (x1 : Int32) (x2 : Int32) (y0 : Int32) (s : mS) : mO := if y0 = 0 then mf_286_187 N x1 x2 s else mf_286_180 N x1 x2 s
theorem mr_286_177 {X : Nat → Option zz_C} {h : zz_H} (hh : 111 ≤ h.length) {d : Nat} {N : Nat} {Q : Option Value → zz_H → Prop} {x1 : Int32} {x2 : Int32} {y0 : Int32} {s s' : mS} {v : Option Value} (hf : mf_286_177 N x1 x2 y0 s = some (s', v)) (k : Q v (mH h s')) : zz_E zp_P zt_tf zt_fd X (d + 7) zm_286 177 [(0, .ref 61), (1, .int x1), (2, .int x2)] [.int y0] (mH h s) Q := by
  unfold mf_286_177 at hf
  refine mb_286_177 hh  (fun c => ?_) (fun c => ?_)
  · rw [if_pos c] at hf
    exact mr_286_187 hh hf k
  · rw [if_neg c] at hf
    exact mr_286_180 hh hf k
def mf_286_173 (N : Nat) (x1 : Int32) (x2 : Int32) (s : mS) : mO := mo_bi (mf_270 N  s) (fun s1 y => mf_286_177 N x1 x2 y s1)
theorem mr_286_173 {X : Nat → Option zz_C} {h : zz_H} (hh : 111 ≤ h.length) {d : Nat} {N : Nat} {Q : Option Value → zz_H → Prop} {x1 : Int32} {x2 : Int32} {s s' : mS} {v : Option Value} (hf : mf_286_173 N x1 x2 s = some (s', v)) (k : Q v (mH h s')) : zz_E zp_P zt_tf zt_fd X (d + 7) zm_286 173 [(0, .ref 61), (1, .int x1), (2, .int x2)] [] (mH h s) Q := by
  unfold mf_286_173 at hf
  obtain ⟨s1, y, e, hf⟩ := mo_bi_ok hf
  exact mb_286_173 (d := d + 6) hh  (mr_270 (d := d + 4) hh e (mr_286_177 hh hf k))
def mf_286_169 (N : Nat) (x1 : Int32) (x2 : Int32) (s : mS) : mO := if 0 ≤ x2 then mf_286_187 N x1 x2 s else mf_286_173 N x1 x2 s
theorem mr_286_169 {X : Nat → Option zz_C} {h : zz_H} (hh : 111 ≤ h.length) {d : Nat} {N : Nat} {Q : Option Value → zz_H → Prop} {x1 : Int32} {x2 : Int32} {s s' : mS} {v : Option Value} (hf : mf_286_169 N x1 x2 s = some (s', v)) (k : Q v (mH h s')) : zz_E zp_P zt_tf zt_fd X (d + 7) zm_286 169 [(0, .ref 61), (1, .int x1), (2, .int x2)] [] (mH h s) Q := by
  unfold mf_286_169 at hf
  refine mb_286_169 hh  (fun c => ?_) (fun c => ?_)
  · rw [if_pos c] at hf
    exact mr_286_187 hh hf k
  · rw [if_neg c] at hf
    exact mr_286_173 hh hf k
def mf_286_163 (N : Nat) (x1 : Int32) (x2 : Int32) (s : mS) : mO := if 11 ≤ x2 then mf_286_180 N x1 x2 s else mf_286_169 N x1 x2 s
theorem mr_286_163 {X : Nat → Option zz_C} {h : zz_H} (hh : 111 ≤ h.length) {d : Nat} {N : Nat} {Q : Option Value → zz_H → Prop} {x1 : Int32} {x2 : Int32} {s s' : mS} {v : Option Value} (hf : mf_286_163 N x1 x2 s = some (s', v)) (k : Q v (mH h s')) : zz_E zp_P zt_tf zt_fd X (d + 7) zm_286 163 [(0, .ref 61), (1, .int x1), (2, .int x2)] [] (mH h s) Q := by
  unfold mf_286_163 at hf
  refine mb_286_163 hh  (fun c => ?_) (fun c => ?_)
  · rw [if_pos c] at hf
    exact mr_286_180 hh hf k
  · rw [if_neg c] at hf
    exact mr_286_169 hh hf k
def mf_286_155 (N : Nat) (x1 : Int32) (x2 : Int32) (s : mS) : mO := if ¬ (s.1 5) = 1 then mf_286_187 N x1 x2 s else mf_286_163 N x1 x2 s
theorem mr_286_155 {X : Nat → Option zz_C} {h : zz_H} (hh : 111 ≤ h.length) {d : Nat} {N : Nat} {Q : Option Value → zz_H → Prop} {x1 : Int32} {x2 : Int32} {s s' : mS} {v : Option Value} (hf : mf_286_155 N x1 x2 s = some (s', v)) (k : Q v (mH h s')) : zz_E zp_P zt_tf zt_fd X (d + 7) zm_286 155 [(0, .ref 61), (1, .int x1), (2, .int x2)] [] (mH h s) Q := by
  unfold mf_286_155 at hf
  refine mb_286_155 hh  (fun c => ?_) (fun c => ?_)
  · rw [if_pos c] at hf
    exact mr_286_187 hh hf k
  · rw [if_neg c] at hf
    exact mr_286_163 hh hf k
def mf_286_154 (N : Nat) (y0 : Int32) (s : mS) : mO := if zz_reti (some .boolean) y0 = true then some (s, (some (.int y0))) else none
theorem mr_286_154 {X : Nat → Option zz_C} {h : zz_H} (hh : 111 ≤ h.length) {d : Nat} {N : Nat} {Q : Option Value → zz_H → Prop} {y0 : Int32} {s s' : mS} {v : Option Value} (hf : mf_286_154 N y0 s = some (s', v)) (k : Q v (mH h s')) : zz_E zp_P zt_tf zt_fd X (d + 7) zm_286 154 [] [.int y0] (mH h s) Q := by
  unfold mf_286_154 at hf
  obtain ⟨rb, hf⟩ := mo_if hf
  cases hf
  exact mb_286_154 hh  k rb
def mf_286_153 (N : Nat)  (s : mS) : mO := mf_286_154 N 0 s
theorem mr_286_153 {X : Nat → Option zz_C} {h : zz_H} (hh : 111 ≤ h.length) {d : Nat} {N : Nat} {Q : Option Value → zz_H → Prop}  {s s' : mS} {v : Option Value} (hf : mf_286_153 N  s = some (s', v)) (k : Q v (mH h s')) : zz_E zp_P zt_tf zt_fd X (d + 7) zm_286 153 [] [] (mH h s) Q := by
  unfold mf_286_153 at hf
  exact mb_286_153 hh  (mr_286_154 hh hf k)
def mf_286_149 (N : Nat)  (s : mS) : mO := mf_286_154 N 1 s
theorem mr_286_149 {X : Nat → Option zz_C} {h : zz_H} (hh : 111 ≤ h.length) {d : Nat} {N : Nat} {Q : Option Value → zz_H → Prop}  {s s' : mS} {v : Option Value} (hf : mf_286_149 N  s = some (s', v)) (k : Q v (mH h s')) : zz_E zp_P zt_tf zt_fd X (d + 7) zm_286 149 [] [] (mH h s) Q := by
  unfold mf_286_149 at hf
  exact mb_286_149 hh  (mr_286_154 hh hf k)
def mf_286_146 (N : Nat) (y0 : Int32) (s : mS) : mO := if y0 = 0 then mf_286_153 N  s else mf_286_149 N  s
theorem mr_286_146 {X : Nat → Option zz_C} {h : zz_H} (hh : 111 ≤ h.length) {d : Nat} {N : Nat} {Q : Option Value → zz_H → Prop} {y0 : Int32} {s s' : mS} {v : Option Value} (hf : mf_286_146 N y0 s = some (s', v)) (k : Q v (mH h s')) : zz_E zp_P zt_tf zt_fd X (d + 7) zm_286 146 [] [.int y0] (mH h s) Q := by
  unfold mf_286_146 at hf
  refine mb_286_146 hh  (fun c => ?_) (fun c => ?_)
  · rw [if_pos c] at hf
    exact mr_286_153 hh hf k
  · rw [if_neg c] at hf
    exact mr_286_149 hh hf k
def mf_286_142 (N : Nat)  (s : mS) : mO := mo_bi (mf_290 N  s) (fun s1 y => mf_286_146 N y s1)
theorem mr_286_142 {X : Nat → Option zz_C} {h : zz_H} (hh : 111 ≤ h.length) {d : Nat} {N : Nat} {Q : Option Value → zz_H → Prop}  {s s' : mS} {v : Option Value} (hf : mf_286_142 N  s = some (s', v)) (k : Q v (mH h s')) : zz_E zp_P zt_tf zt_fd X (d + 7) zm_286 142 [(0, .ref 61)] [] (mH h s) Q := by
  unfold mf_286_142 at hf
  obtain ⟨s1, y, e, hf⟩ := mo_bi_ok hf
  exact mb_286_142 (d := d + 6) hh  (mr_290 (d := d + 1) hh e (mr_286_146 hh hf k))
def mf_286_139 (N : Nat) (y0 : Int32) (s : mS) : mO := if y0 = 0 then mf_286_153 N  s else mf_286_142 N  s
theorem mr_286_139 {X : Nat → Option zz_C} {h : zz_H} (hh : 111 ≤ h.length) {d : Nat} {N : Nat} {Q : Option Value → zz_H → Prop} {y0 : Int32} {s s' : mS} {v : Option Value} (hf : mf_286_139 N y0 s = some (s', v)) (k : Q v (mH h s')) : zz_E zp_P zt_tf zt_fd X (d + 7) zm_286 139 [(0, .ref 61)] [.int y0] (mH h s) Q := by
  unfold mf_286_139 at hf
  refine mb_286_139 hh  (fun c => ?_) (fun c => ?_)
  · rw [if_pos c] at hf
    exact mr_286_153 hh hf k
  · rw [if_neg c] at hf
    exact mr_286_142 hh hf k
def mf_286_133 (N : Nat)  (s : mS) : mO := mo_bi (mf_263 N 93 s) (fun s1 y => mf_286_139 N y s1)
theorem mr_286_133 {X : Nat → Option zz_C} {h : zz_H} (hh : 111 ≤ h.length) {d : Nat} {N : Nat} {Q : Option Value → zz_H → Prop}  {s s' : mS} {v : Option Value} (hf : mf_286_133 N  s = some (s', v)) (k : Q v (mH h s')) : zz_E zp_P zt_tf zt_fd X (d + 7) zm_286 133 [(0, .ref 61)] [] (mH h s) Q := by
  unfold mf_286_133 at hf
  obtain ⟨s1, y, e, hf⟩ := mo_bi_ok hf
  exact mb_286_133 (d := d + 6) hh  (mr_263 (d := d + 6) hh e (mr_286_139 hh hf k))
def mf_286_126 (N : Nat)  (s : mS) : mO := if ¬ (s.1 9) = 0 then mf_286_153 N  s else mf_286_133 N  s
theorem mr_286_126 {X : Nat → Option zz_C} {h : zz_H} (hh : 111 ≤ h.length) {d : Nat} {N : Nat} {Q : Option Value → zz_H → Prop}  {s s' : mS} {v : Option Value} (hf : mf_286_126 N  s = some (s', v)) (k : Q v (mH h s')) : zz_E zp_P zt_tf zt_fd X (d + 7) zm_286 126 [(0, .ref 61)] [] (mH h s) Q := by
  unfold mf_286_126 at hf
  refine mb_286_126 hh  (fun c => ?_) (fun c => ?_)
  · rw [if_pos c] at hf
    exact mr_286_153 hh hf k
  · rw [if_neg c] at hf
    exact mr_286_133 hh hf k
def mf_286_119 (N : Nat) (x1 : Int32) (s : mS) : mO := mo_bv (mf_281 N 5 0 x1 s) (fun s1 => mf_286_126 N  s1)
theorem mr_286_119 {X : Nat → Option zz_C} {h : zz_H} (hh : 111 ≤ h.length) {d : Nat} {N : Nat} {Q : Option Value → zz_H → Prop} {x1 : Int32} {s s' : mS} {v : Option Value} (hf : mf_286_119 N x1 s = some (s', v)) (k : Q v (mH h s')) : zz_E zp_P zt_tf zt_fd X (d + 7) zm_286 119 [(0, .ref 61), (1, .int x1)] [] (mH h s) Q := by
  unfold mf_286_119 at hf
  obtain ⟨s1, e, hf⟩ := mo_bv_ok hf
  exact mb_286_119 (d := d + 6) hh  (mr_281 (d := d + 6) hh e (mr_286_126 hh hf k))
def mf_286_113 (N : Nat) (x1 : Int32) (s : mS) : mO := mo_bv (mf_268 N 91 s) (fun s1 => mf_286_119 N x1 s1)
theorem mr_286_113 {X : Nat → Option zz_C} {h : zz_H} (hh : 111 ≤ h.length) {d : Nat} {N : Nat} {Q : Option Value → zz_H → Prop} {x1 : Int32} {s s' : mS} {v : Option Value} (hf : mf_286_113 N x1 s = some (s', v)) (k : Q v (mH h s')) : zz_E zp_P zt_tf zt_fd X (d + 7) zm_286 113 [(0, .ref 61), (1, .int x1)] [] (mH h s) Q := by
  unfold mf_286_113 at hf
  obtain ⟨s1, e, hf⟩ := mo_bv_ok hf
  exact mb_286_113 (d := d + 6) hh  (mr_268 (d := d + 2) hh e (mr_286_119 hh hf k))
def mf_286_110 (N : Nat) (x1 : Int32) (x2 : Int32) (y0 : Int32) (s : mS) : mO := if y0 = 0 then mf_286_155 N x1 x2 s else mf_286_113 N x1 s
theorem mr_286_110 {X : Nat → Option zz_C} {h : zz_H} (hh : 111 ≤ h.length) {d : Nat} {N : Nat} {Q : Option Value → zz_H → Prop} {x1 : Int32} {x2 : Int32} {y0 : Int32} {s s' : mS} {v : Option Value} (hf : mf_286_110 N x1 x2 y0 s = some (s', v)) (k : Q v (mH h s')) : zz_E zp_P zt_tf zt_fd X (d + 7) zm_286 110 [(0, .ref 61), (1, .int x1), (2, .int x2)] [.int y0] (mH h s) Q := by
  unfold mf_286_110 at hf
  refine mb_286_110 hh  (fun c => ?_) (fun c => ?_)
  · rw [if_pos c] at hf
    exact mr_286_155 hh hf k
  · rw [if_neg c] at hf
    exact mr_286_113 hh hf k
def mf_286_104 (N : Nat) (x1 : Int32) (x2 : Int32) (s : mS) : mO := mo_bi (mf_263 N 91 s) (fun s1 y => mf_286_110 N x1 x2 y s1)
theorem mr_286_104 {X : Nat → Option zz_C} {h : zz_H} (hh : 111 ≤ h.length) {d : Nat} {N : Nat} {Q : Option Value → zz_H → Prop} {x1 : Int32} {x2 : Int32} {s s' : mS} {v : Option Value} (hf : mf_286_104 N x1 x2 s = some (s', v)) (k : Q v (mH h s')) : zz_E zp_P zt_tf zt_fd X (d + 7) zm_286 104 [(0, .ref 61), (1, .int x1), (2, .int x2)] [] (mH h s) Q := by
  unfold mf_286_104 at hf
  obtain ⟨s1, y, e, hf⟩ := mo_bi_ok hf
  exact mb_286_104 (d := d + 6) hh  (mr_263 (d := d + 6) hh e (mr_286_110 hh hf k))
def mf_286_102 (N : Nat)  (s : mS) : mO := some (s, (some (.int 0)))
theorem mr_286_102 {X : Nat → Option zz_C} {h : zz_H} (hh : 111 ≤ h.length) {d : Nat} {N : Nat} {Q : Option Value → zz_H → Prop}  {s s' : mS} {v : Option Value} (hf : mf_286_102 N  s = some (s', v)) (k : Q v (mH h s')) : zz_E zp_P zt_tf zt_fd X (d + 7) zm_286 102 [] [] (mH h s) Q := by
  unfold mf_286_102 at hf
  cases hf
  exact mb_286_102 hh  k
def mf_286_95 (N : Nat) (x1 : Int32) (s : mS) : mO := mo_bv (mf_281 N 3 0 x1 s) (fun s1 => mf_286_102 N  s1)
theorem mr_286_95 {X : Nat → Option zz_C} {h : zz_H} (hh : 111 ≤ h.length) {d : Nat} {N : Nat} {Q : Option Value → zz_H → Prop} {x1 : Int32} {s s' : mS} {v : Option Value} (hf : mf_286_95 N x1 s = some (s', v)) (k : Q v (mH h s')) : zz_E zp_P zt_tf zt_fd X (d + 7) zm_286 95 [(0, .ref 61), (1, .int x1)] [] (mH h s) Q := by
  unfold mf_286_95 at hf
  obtain ⟨s1, e, hf⟩ := mo_bv_ok hf
  exact mb_286_95 (d := d + 6) hh  (mr_281 (d := d + 6) hh e (mr_286_102 hh hf k))
def mf_286_89 (N : Nat) (x1 : Int32) (s : mS) : mO := mo_bv (mf_268 N 40 s) (fun s1 => mf_286_95 N x1 s1)
theorem mr_286_89 {X : Nat → Option zz_C} {h : zz_H} (hh : 111 ≤ h.length) {d : Nat} {N : Nat} {Q : Option Value → zz_H → Prop} {x1 : Int32} {s s' : mS} {v : Option Value} (hf : mf_286_89 N x1 s = some (s', v)) (k : Q v (mH h s')) : zz_E zp_P zt_tf zt_fd X (d + 7) zm_286 89 [(0, .ref 61), (1, .int x1)] [] (mH h s) Q := by
  unfold mf_286_89 at hf
  obtain ⟨s1, e, hf⟩ := mo_bv_ok hf
  exact mb_286_89 (d := d + 6) hh  (mr_268 (d := d + 2) hh e (mr_286_95 hh hf k))
def mf_286_86 (N : Nat) (x1 : Int32) (x2 : Int32) (y0 : Int32) (s : mS) : mO := if y0 = 0 then mf_286_104 N x1 x2 s else mf_286_89 N x1 s
theorem mr_286_86 {X : Nat → Option zz_C} {h : zz_H} (hh : 111 ≤ h.length) {d : Nat} {N : Nat} {Q : Option Value → zz_H → Prop} {x1 : Int32} {x2 : Int32} {y0 : Int32} {s s' : mS} {v : Option Value} (hf : mf_286_86 N x1 x2 y0 s = some (s', v)) (k : Q v (mH h s')) : zz_E zp_P zt_tf zt_fd X (d + 7) zm_286 86 [(0, .ref 61), (1, .int x1), (2, .int x2)] [.int y0] (mH h s) Q := by
  unfold mf_286_86 at hf
  refine mb_286_86 hh  (fun c => ?_) (fun c => ?_)
  · rw [if_pos c] at hf
    exact mr_286_104 hh hf k
  · rw [if_neg c] at hf
    exact mr_286_89 hh hf k
def mf_286_80 (N : Nat) (x1 : Int32) (x2 : Int32) (s : mS) : mO := mo_bi (mf_263 N 40 s) (fun s1 y => mf_286_86 N x1 x2 y s1)
theorem mr_286_80 {X : Nat → Option zz_C} {h : zz_H} (hh : 111 ≤ h.length) {d : Nat} {N : Nat} {Q : Option Value → zz_H → Prop} {x1 : Int32} {x2 : Int32} {s s' : mS} {v : Option Value} (hf : mf_286_80 N x1 x2 s = some (s', v)) (k : Q v (mH h s')) : zz_E zp_P zt_tf zt_fd X (d + 7) zm_286 80 [(0, .ref 61), (1, .int x1), (2, .int x2)] [] (mH h s) Q := by
  unfold mf_286_80 at hf
  obtain ⟨s1, y, e, hf⟩ := mo_bi_ok hf
  exact mb_286_80 (d := d + 6) hh  (mr_263 (d := d + 6) hh e (mr_286_86 hh hf k))
def mf_286_78 (N : Nat)  (s : mS) : mO := some (s, (some (.int 0)))
theorem mr_286_78 {X : Nat → Option zz_C} {h : zz_H} (hh : 111 ≤ h.length) {d : Nat} {N : Nat} {Q : Option Value → zz_H → Prop}  {s s' : mS} {v : Option Value} (hf : mf_286_78 N  s = some (s', v)) (k : Q v (mH h s')) : zz_E zp_P zt_tf zt_fd X (d + 7) zm_286 78 [] [] (mH h s) Q := by
  unfold mf_286_78 at hf
  cases hf
  exact mb_286_78 hh  k
def mf_286_74 (N : Nat)  (s : mS) : mO := mo_bv (mf_260 N  s) (fun s1 => mf_286_78 N  s1)
theorem mr_286_74 {X : Nat → Option zz_C} {h : zz_H} (hh : 111 ≤ h.length) {d : Nat} {N : Nat} {Q : Option Value → zz_H → Prop}  {s s' : mS} {v : Option Value} (hf : mf_286_74 N  s = some (s', v)) (k : Q v (mH h s')) : zz_E zp_P zt_tf zt_fd X (d + 7) zm_286 74 [(0, .ref 61)] [] (mH h s) Q := by
  unfold mf_286_74 at hf
  obtain ⟨s1, e, hf⟩ := mo_bv_ok hf
  exact mb_286_74 (d := d + 6) hh  (mr_260 (d := d + 3) hh e (mr_286_78 hh hf k))
def mf_286_63 (N : Nat) (x1 : Int32) (s : mS) : mO := mo_bv (mf_281 N 2 (Int64.toInt32 (s.2.1 7)) x1 s) (fun s1 => mf_286_74 N  s1)
theorem mr_286_63 {X : Nat → Option zz_C} {h : zz_H} (hh : 111 ≤ h.length) {d : Nat} {N : Nat} {Q : Option Value → zz_H → Prop} {x1 : Int32} {s s' : mS} {v : Option Value} (hf : mf_286_63 N x1 s = some (s', v)) (k : Q v (mH h s')) : zz_E zp_P zt_tf zt_fd X (d + 7) zm_286 63 [(0, .ref 61), (1, .int x1)] [] (mH h s) Q := by
  unfold mf_286_63 at hf
  obtain ⟨s1, e, hf⟩ := mo_bv_ok hf
  exact mb_286_63 (d := d + 6) hh  (mr_281 (d := d + 6) hh e (mr_286_74 hh hf k))
def mf_286_60 (N : Nat) (x1 : Int32) (x2 : Int32) (y0 : Int32) (s : mS) : mO := if ¬ y0 = 0 then mf_286_80 N x1 x2 s else mf_286_63 N x1 s
theorem mr_286_60 {X : Nat → Option zz_C} {h : zz_H} (hh : 111 ≤ h.length) {d : Nat} {N : Nat} {Q : Option Value → zz_H → Prop} {x1 : Int32} {x2 : Int32} {y0 : Int32} {s s' : mS} {v : Option Value} (hf : mf_286_60 N x1 x2 y0 s = some (s', v)) (k : Q v (mH h s')) : zz_E zp_P zt_tf zt_fd X (d + 7) zm_286 60 [(0, .ref 61), (1, .int x1), (2, .int x2)] [.int y0] (mH h s) Q := by
  unfold mf_286_60 at hf
  refine mb_286_60 hh  (fun c => ?_) (fun c => ?_)
  · rw [if_pos c] at hf
    exact mr_286_80 hh hf k
  · rw [if_neg c] at hf
    exact mr_286_63 hh hf k
def mf_286_55 (N : Nat) (x1 : Int32) (x2 : Int32) (s : mS) : mO := mo_bi (mf_283 N 2 s) (fun s1 y => mf_286_60 N x1 x2 y s1)
theorem mr_286_55 {X : Nat → Option zz_C} {h : zz_H} (hh : 111 ≤ h.length) {d : Nat} {N : Nat} {Q : Option Value → zz_H → Prop} {x1 : Int32} {x2 : Int32} {s s' : mS} {v : Option Value} (hf : mf_286_55 N x1 x2 s = some (s', v)) (k : Q v (mH h s')) : zz_E zp_P zt_tf zt_fd X (d + 7) zm_286 55 [(0, .ref 61), (1, .int x1), (2, .int x2)] [] (mH h s) Q := by
  unfold mf_286_55 at hf
  obtain ⟨s1, y, e, hf⟩ := mo_bi_ok hf
  exact mb_286_55 (d := d + 6) hh  (mr_283 (d := d + 6) hh e (mr_286_60 hh hf k))
def mf_286_52 (N : Nat) (x1 : Int32) (x2 : Int32) (y0 : Int32) (s : mS) : mO := if y0 = 0 then mf_286_80 N x1 x2 s else mf_286_55 N x1 x2 s
theorem mr_286_52 {X : Nat → Option zz_C} {h : zz_H} (hh : 111 ≤ h.length) {d : Nat} {N : Nat} {Q : Option Value → zz_H → Prop} {x1 : Int32} {x2 : Int32} {y0 : Int32} {s s' : mS} {v : Option Value} (hf : mf_286_52 N x1 x2 y0 s = some (s', v)) (k : Q v (mH h s')) : zz_E zp_P zt_tf zt_fd X (d + 7) zm_286 52 [(0, .ref 61), (1, .int x1), (2, .int x2)] [.int y0] (mH h s) Q := by
  unfold mf_286_52 at hf
  refine mb_286_52 hh  (fun c => ?_) (fun c => ?_)
  · rw [if_pos c] at hf
    exact mr_286_80 hh hf k
  · rw [if_neg c] at hf
    exact mr_286_55 hh hf k
def mf_286_46 (N : Nat) (x1 : Int32) (x2 : Int32) (s : mS) : mO := mo_bi (mf_263 N 33 s) (fun s1 y => mf_286_52 N x1 x2 y s1)
theorem mr_286_46 {X : Nat → Option zz_C} {h : zz_H} (hh : 111 ≤ h.length) {d : Nat} {N : Nat} {Q : Option Value → zz_H → Prop} {x1 : Int32} {x2 : Int32} {s s' : mS} {v : Option Value} (hf : mf_286_46 N x1 x2 s = some (s', v)) (k : Q v (mH h s')) : zz_E zp_P zt_tf zt_fd X (d + 7) zm_286 46 [(0, .ref 61), (1, .int x1), (2, .int x2)] [] (mH h s) Q := by
  unfold mf_286_46 at hf
  obtain ⟨s1, y, e, hf⟩ := mo_bi_ok hf
  exact mb_286_46 (d := d + 6) hh  (mr_263 (d := d + 6) hh e (mr_286_52 hh hf k))
def mf_286_43 (N : Nat) (x1 : Int32) (x2 : Int32) (y0 : Int32) (s : mS) : mO := if ¬ y0 = 0 then mf_286_55 N x1 x2 s else mf_286_46 N x1 x2 s
theorem mr_286_43 {X : Nat → Option zz_C} {h : zz_H} (hh : 111 ≤ h.length) {d : Nat} {N : Nat} {Q : Option Value → zz_H → Prop} {x1 : Int32} {x2 : Int32} {y0 : Int32} {s s' : mS} {v : Option Value} (hf : mf_286_43 N x1 x2 y0 s = some (s', v)) (k : Q v (mH h s')) : zz_E zp_P zt_tf zt_fd X (d + 7) zm_286 43 [(0, .ref 61), (1, .int x1), (2, .int x2)] [.int y0] (mH h s) Q := by
  unfold mf_286_43 at hf
  refine mb_286_43 hh  (fun c => ?_) (fun c => ?_)
  · rw [if_pos c] at hf
    exact mr_286_55 hh hf k
  · rw [if_neg c] at hf
    exact mr_286_46 hh hf k
def mf_286_37 (N : Nat) (x1 : Int32) (x2 : Int32) (s : mS) : mO := mo_bi (mf_263 N 45 s) (fun s1 y => mf_286_43 N x1 x2 y s1)
theorem mr_286_37 {X : Nat → Option zz_C} {h : zz_H} (hh : 111 ≤ h.length) {d : Nat} {N : Nat} {Q : Option Value → zz_H → Prop} {x1 : Int32} {x2 : Int32} {s s' : mS} {v : Option Value} (hf : mf_286_37 N x1 x2 s = some (s', v)) (k : Q v (mH h s')) : zz_E zp_P zt_tf zt_fd X (d + 7) zm_286 37 [(0, .ref 61), (1, .int x1), (2, .int x2)] [] (mH h s) Q := by
  unfold mf_286_37 at hf
  obtain ⟨s1, y, e, hf⟩ := mo_bi_ok hf
  exact mb_286_37 (d := d + 6) hh  (mr_263 (d := d + 6) hh e (mr_286_43 hh hf k))
def mf_286_35 (N : Nat)  (s : mS) : mO := some (s, (some (.int 1)))
theorem mr_286_35 {X : Nat → Option zz_C} {h : zz_H} (hh : 111 ≤ h.length) {d : Nat} {N : Nat} {Q : Option Value → zz_H → Prop}  {s s' : mS} {v : Option Value} (hf : mf_286_35 N  s = some (s', v)) (k : Q v (mH h s')) : zz_E zp_P zt_tf zt_fd X (d + 7) zm_286 35 [] [] (mH h s) Q := by
  unfold mf_286_35 at hf
  cases hf
  exact mb_286_35 hh  k
def mf_286_30 (N : Nat) (y0 : Int32) (s : mS) : mO := mo_bv (mf_260 N  s) (fun s1 => mf_286_35 N  s1)
theorem mr_286_30 {X : Nat → Option zz_C} {h : zz_H} (hh : 111 ≤ h.length) {d : Nat} {N : Nat} {Q : Option Value → zz_H → Prop} {y0 : Int32} {s s' : mS} {v : Option Value} (hf : mf_286_30 N y0 s = some (s', v)) (k : Q v (mH h s')) : zz_E zp_P zt_tf zt_fd X (d + 7) zm_286 30 [(0, .ref 61)] [.int y0] (mH h s) Q := by
  unfold mf_286_30 at hf
  obtain ⟨s1, e, hf⟩ := mo_bv_ok hf
  exact mb_286_30 (d := d + 6) hh  (mr_260 (d := d + 3) hh e (mr_286_35 hh hf k))
def mf_286_18 (N : Nat) (x1 : Int32) (s : mS) : mO := mo_bi (mf_271 N 2 (Int64.toInt32 (s.2.1 7)) 0 x1 s) (fun s1 y => mf_286_30 N y s1)
theorem mr_286_18 {X : Nat → Option zz_C} {h : zz_H} (hh : 111 ≤ h.length) {d : Nat} {N : Nat} {Q : Option Value → zz_H → Prop} {x1 : Int32} {s s' : mS} {v : Option Value} (hf : mf_286_18 N x1 s = some (s', v)) (k : Q v (mH h s')) : zz_E zp_P zt_tf zt_fd X (d + 7) zm_286 18 [(0, .ref 61), (1, .int x1)] [] (mH h s) Q := by
  unfold mf_286_18 at hf
  obtain ⟨s1, y, e, hf⟩ := mo_bi_ok hf
  exact mb_286_18 (d := d + 6) hh  (mr_271 (d := d + 6) hh e (mr_286_30 hh hf k))
def mf_286_9 (N : Nat) (x1 : Int32) (y0 : Int32) (s : mS) : mO := if ¬ (s.1 5) = 2 then mf_286_37 N x1 y0 s else mf_286_18 N x1 s
theorem mr_286_9 {X : Nat → Option zz_C} {h : zz_H} (hh : 111 ≤ h.length) {d : Nat} {N : Nat} {Q : Option Value → zz_H → Prop} {x1 : Int32} {y0 : Int32} {s s' : mS} {v : Option Value} (hf : mf_286_9 N x1 y0 s = some (s', v)) (k : Q v (mH h s')) : zz_E zp_P zt_tf zt_fd X (d + 7) zm_286 9 [(0, .ref 61), (1, .int x1)] [.int y0] (mH h s) Q := by
  unfold mf_286_9 at hf
  refine mb_286_9 hh  (fun c => ?_) (fun c => ?_)
  · rw [if_pos c] at hf
    exact mr_286_37 hh hf k
  · rw [if_neg c] at hf
    exact mr_286_18 hh hf k
def mf_286_0 (N : Nat)  (s : mS) : mO := mo_bi (mf_265 N  s) (fun s1 y => mf_286_9 N (s.1 6) y s1)
theorem mr_286_0 {X : Nat → Option zz_C} {h : zz_H} (hh : 111 ≤ h.length) {d : Nat} {N : Nat} {Q : Option Value → zz_H → Prop}  {s s' : mS} {v : Option Value} (hf : mf_286_0 N  s = some (s', v)) (k : Q v (mH h s')) : zz_E zp_P zt_tf zt_fd X (d + 7) zm_286 0 [(0, .ref 61)] [] (mH h s) Q := by
  unfold mf_286_0 at hf
  obtain ⟨s1, y, e, hf⟩ := mo_bi_ok hf
  exact mb_286_0 (d := d + 6) hh  (mr_265 (d := d + 6) hh e (mr_286_9 hh hf k))
/-- starts -/
def mf_286 (N : Nat)  (s : mS) : mO := mf_286_0 N  s
theorem mr_286 {X : Nat → Option zz_C} {h : zz_H} (hh : 111 ≤ h.length) {d : Nat} {N : Nat} {Q : Option Value → zz_H → Prop}  {s s' : mS} {v : Option Value} (hf : mf_286 N  s = some (s', v)) (k : Q v (mH h s')) : zz_E zp_P zt_tf zt_fd X (d + 7) zm_286 0 [(0, .ref 61)] [] (mH h s) Q := by
  unfold mf_286 at hf
  exact zz_E.weak (mr_286_0 hh hf k) rfl ⟨rfl, trivial⟩
/-! ends1 ()Z -/
theorem mb_288_0 {X : Nat → Option zz_C} {h : zz_H} (hh : 111 ≤ h.length) {s : mS} {d : Nat} {Q : Option Value → zz_H → Prop}  (i13 : ¬ (((s.1 44) - 1) < 0 ∨ 80 ≤ Int32.toNatClampNeg ((s.1 44) - 1))) (i16 : ¬ (((s.1 44) - 1) < 0 ∨ 80 ≤ Int32.toNatClampNeg ((s.1 44) - 1))) (i22 : ¬ (((s.1 44) - 1) < 0 ∨ 80 ≤ Int32.toNatClampNeg ((s.1 44) - 1))) (k : zz_E zp_P zt_tf zt_fd X d zm_263 0 [(0, .ref 61), (1, .int 44)] [] (mH h (mA s 40 (upd (s.2.2.1 40) (Int32.toNatClampNeg ((s.1 44) - 1)) (((s.2.2.1 40) (Int32.toNatClampNeg ((s.1 44) - 1))) + 1)))) (fun v h' => zz_E zp_P zt_tf zt_fd X (d + 1) zm_288 30 [(0, .ref 61), (1, .int ((s.1 44) - 1)), (2, .int ((s.2.2.1 38) (Int32.toNatClampNeg ((s.1 44) - 1))))] (v.toList ++ []) h' Q)) : zz_E zp_P zt_tf zt_fd X (d + 1) zm_288 0 [(0, .ref 61)] [] (mH h s) Q := by
  refine zz_E.n 1 rfl rfl rfl ?_
  refine mE_g hh 4 (v := .int (s.1 44)) rfl rfl rfl ?_
  refine zz_E.c 5 (.int 1) rfl rfl rfl rfl ?_
  refine zz_E.n 6 rfl rfl rfl ?_
  refine zz_E.n 7 rfl rfl rfl ?_
  refine zz_E.n 8 rfl rfl rfl ?_
  refine mE_g hh 11 (v := .ref 85) rfl rfl rfl ?_
  refine zz_E.n 12 rfl rfl rfl ?_
  refine zz_E.n 13 rfl rfl rfl ?_
  refine mE_ia hh 14 24 (f := (s.2.2.1 40)) rfl (by decide) rfl rfl i13 rfl ?_
  refine zz_E.c 15 (.int 1) rfl rfl rfl rfl ?_
  refine zz_E.n 16 rfl rfl rfl ?_
  refine mE_is hh 17 24 (f := (s.2.2.1 40)) rfl (by decide) rfl rfl i16 (mA_85 _ _) rfl ?_
  refine zz_E.n 18 rfl rfl rfl ?_
  refine mE_g hh 21 (v := .ref 83) rfl rfl rfl ?_
  refine zz_E.n 22 rfl rfl rfl ?_
  refine mE_ia hh 23 22 (f := (s.2.2.1 38)) rfl (by decide) rfl rfl i22 rfl ?_
  refine zz_E.n 24 rfl rfl rfl ?_
  refine zz_E.n 25 rfl rfl rfl ?_
  refine zz_E.c 27 (.int 44) rfl rfl rfl rfl ?_
  refine mE_cv hh 30 (as := []) rfl rfl (Nat.le_of_ble_eq_true rfl) (Nat.le_of_ble_eq_true rfl) rfl (Nat.le_of_ble_eq_true rfl) rfl ?_
  refine zz_E.mono k ?_
  intro v h' hE
  exact zz_E.weak hE rfl ⟨rfl, rfl, rfl, trivial⟩
theorem mb_288_30 {X : Nat → Option zz_C} {h : zz_H} (hh : 111 ≤ h.length) {s : mS} {d : Nat} {Q : Option Value → zz_H → Prop} {x1 : Int32} {x2 : Int32} {y0 : Int32} (k1 : x2 = 3 → zz_E zp_P zt_tf zt_fd X d zm_288 41 [(0, .ref 61), (1, .int x1), (2, .int x2)] [] (mH h s) Q) (k2 : ¬ x2 = 3 → zz_E zp_P zt_tf zt_fd X d zm_288 36 [(0, .ref 61), (1, .int x1), (2, .int x2), (3, .int y0)] [] (mH h s) Q) : zz_E zp_P zt_tf zt_fd X d zm_288 30 [(0, .ref 61), (1, .int x1), (2, .int x2)] [.int y0] (mH h s) Q := by
  refine zz_E.n 31 rfl rfl rfl ?_
  refine zz_E.n 32 rfl rfl rfl ?_
  refine zz_E.c 33 (.int 3) rfl rfl rfl rfl ?_
  refine zz_E.b2 41 36 (A := x2 = 3) rfl rfl (by decide) rfl rfl (fun c => ?_) (fun c => ?_)
  · exact zz_E.weak (k1 c) rfl ⟨rfl, rfl, rfl, trivial⟩
  · exact zz_E.weak (k2 c) rfl ⟨rfl, rfl, rfl, rfl, trivial⟩
theorem mb_288_36 {X : Nat → Option zz_C} {h : zz_H} (hh : 111 ≤ h.length) {s : mS} {d : Nat} {Q : Option Value → zz_H → Prop} {x1 : Int32} {x2 : Int32} {x3 : Int32} (k1 : ¬ x2 = 4 → zz_E zp_P zt_tf zt_fd X d zm_288 89 [(0, .ref 61), (1, .int x1), (2, .int x2), (3, .int x3)] [] (mH h s) Q) (k2 : ¬ ¬ x2 = 4 → zz_E zp_P zt_tf zt_fd X d zm_288 41 [(0, .ref 61), (1, .int x1), (2, .int x2)] [] (mH h s) Q) : zz_E zp_P zt_tf zt_fd X d zm_288 36 [(0, .ref 61), (1, .int x1), (2, .int x2), (3, .int x3)] [] (mH h s) Q := by
  refine zz_E.n 37 rfl rfl rfl ?_
  refine zz_E.c 38 (.int 4) rfl rfl rfl rfl ?_
  refine zz_E.b2 89 41 (A := ¬ x2 = 4) rfl (zz_cond_ne _ _) (by decide) rfl rfl (fun c => ?_) (fun c => ?_)
  · exact zz_E.weak (k1 c) rfl ⟨rfl, rfl, rfl, rfl, trivial⟩
  · exact zz_E.weak (k2 c) rfl ⟨rfl, rfl, rfl, trivial⟩
theorem mb_288_41 {X : Nat → Option zz_C} {h : zz_H} (hh : 111 ≤ h.length) {s : mS} {d : Nat} {Q : Option Value → zz_H → Prop} {x1 : Int32} {x2 : Int32} (k1 : ¬ x2 = 3 → zz_E zp_P zt_tf zt_fd X d zm_288 62 [(0, .ref 61), (1, .int x1), (2, .int x2)] [.ref 61] (mH h (mI s 44 ((s.1 44) - 1))) Q) (k2 : ¬ ¬ x2 = 3 → zz_E zp_P zt_tf zt_fd X d zm_288 57 [(0, .ref 61), (1, .int x1), (2, .int x2)] [.ref 61] (mH h (mI s 44 ((s.1 44) - 1))) Q) : zz_E zp_P zt_tf zt_fd X d zm_288 41 [(0, .ref 61), (1, .int x1), (2, .int x2)] [] (mH h s) Q := by
  refine zz_E.n 42 rfl rfl rfl ?_
  refine zz_E.n 43 rfl rfl rfl ?_
  refine mE_g hh 46 (v := .int (s.1 44)) rfl rfl rfl ?_
  refine zz_E.c 47 (.int 1) rfl rfl rfl rfl ?_
  refine zz_E.n 48 rfl rfl rfl ?_
  refine mE_p hh 51 rfl (by decide) rfl (mF_44 _ _) rfl ?_
  refine zz_E.n 52 rfl rfl rfl ?_
  refine zz_E.n 53 rfl rfl rfl ?_
  refine zz_E.c 54 (.int 3) rfl rfl rfl rfl ?_
  refine zz_E.b2 62 57 (A := ¬ x2 = 3) rfl (zz_cond_ne _ _) (by decide) rfl rfl (fun c => ?_) (fun c => ?_)
  · exact zz_E.weak (k1 c) rfl ⟨rfl, rfl, rfl, trivial⟩
  · exact zz_E.weak (k2 c) rfl ⟨rfl, rfl, rfl, trivial⟩
theorem mb_288_57 {X : Nat → Option zz_C} {h : zz_H} (hh : 111 ≤ h.length) {s : mS} {d : Nat} {Q : Option Value → zz_H → Prop} {x1 : Int32} {x2 : Int32} (k : zz_E zp_P zt_tf zt_fd X d zm_288 64 [(0, .ref 61), (1, .int x1), (2, .int x2)] [.int 41, .ref 61] (mH h s) Q) : zz_E zp_P zt_tf zt_fd X d zm_288 57 [(0, .ref 61), (1, .int x1), (2, .int x2)] [.ref 61] (mH h s) Q := by
  refine zz_E.c 59 (.int 41) rfl rfl rfl rfl ?_
  refine zz_E.n 64 rfl rfl rfl ?_
  exact zz_E.weak k rfl ⟨rfl, rfl, rfl, trivial⟩
theorem mb_288_62 {X : Nat → Option zz_C} {h : zz_H} (hh : 111 ≤ h.length) {s : mS} {d : Nat} {Q : Option Value → zz_H → Prop} {x1 : Int32} {x2 : Int32} (k : zz_E zp_P zt_tf zt_fd X d zm_288 64 [(0, .ref 61), (1, .int x1), (2, .int x2)] [.int 93, .ref 61] (mH h s) Q) : zz_E zp_P zt_tf zt_fd X d zm_288 62 [(0, .ref 61), (1, .int x1), (2, .int x2)] [.ref 61] (mH h s) Q := by
  refine zz_E.c 64 (.int 93) rfl rfl rfl rfl ?_
  exact zz_E.weak k rfl ⟨rfl, rfl, rfl, trivial⟩
theorem mb_288_64 {X : Nat → Option zz_C} {h : zz_H} (hh : 111 ≤ h.length) {s : mS} {d : Nat} {Q : Option Value → zz_H → Prop} {x1 : Int32} {x2 : Int32} {y1 : Int32} (k : zz_E zp_P zt_tf zt_fd X d zm_267 0 [(0, .ref 61), (1, .int y1)] [] (mH h s) (fun v h' => zz_E zp_P zt_tf zt_fd X (d + 1) zm_288 67 [(0, .ref 61), (1, .int x1), (2, .int x2)] (v.toList ++ []) h' Q)) : zz_E zp_P zt_tf zt_fd X (d + 1) zm_288 64 [(0, .ref 61), (1, .int x1), (2, .int x2)] [.int y1, .ref 61] (mH h s) Q := by
  refine mE_cv hh 67 (as := []) rfl rfl (Nat.le_of_ble_eq_true rfl) (Nat.le_of_ble_eq_true rfl) rfl (Nat.le_of_ble_eq_true rfl) rfl ?_
  refine zz_E.mono k ?_
  intro v h' hE
  exact zz_E.weak hE rfl ⟨rfl, rfl, rfl, trivial⟩
theorem mb_288_67 {X : Nat → Option zz_C} {h : zz_H} (hh : 111 ≤ h.length) {s : mS} {d : Nat} {Q : Option Value → zz_H → Prop} {x1 : Int32} {x2 : Int32} (k1 : ¬ x2 = 4 → zz_E zp_P zt_tf zt_fd X d zm_288 87 [] [] (mH h s) Q) (k2 : ¬ ¬ x2 = 4 → zz_E zp_P zt_tf zt_fd X d zm_288 72 [(0, .ref 61), (1, .int x1)] [] (mH h s) Q) : zz_E zp_P zt_tf zt_fd X d zm_288 67 [(0, .ref 61), (1, .int x1), (2, .int x2)] [] (mH h s) Q := by
  refine zz_E.n 68 rfl rfl rfl ?_
  refine zz_E.c 69 (.int 4) rfl rfl rfl rfl ?_
  refine zz_E.b2 87 72 (A := ¬ x2 = 4) rfl (zz_cond_ne _ _) (by decide) rfl rfl (fun c => ?_) (fun c => ?_)
  · exact zz_E.weak (k1 c) rfl trivial
  · exact zz_E.weak (k2 c) rfl ⟨rfl, rfl, trivial⟩
theorem mb_288_72 {X : Nat → Option zz_C} {h : zz_H} (hh : 111 ≤ h.length) {s : mS} {d : Nat} {Q : Option Value → zz_H → Prop} {x1 : Int32} (i82 : ¬ (x1 < 0 ∨ 80 ≤ Int32.toNatClampNeg x1)) (k : zz_E zp_P zt_tf zt_fd X d zm_271 0 [(0, .ref 61), (1, .int 7), (2, .int 0), (3, .int 0), (4, .int ((s.2.2.1 41) (Int32.toNatClampNeg x1)))] [] (mH h s) (fun v h' => zz_E zp_P zt_tf zt_fd X (d + 1) zm_288 86 [] (v.toList ++ []) h' Q)) : zz_E zp_P zt_tf zt_fd X (d + 1) zm_288 72 [(0, .ref 61), (1, .int x1)] [] (mH h s) Q := by
  refine zz_E.n 73 rfl rfl rfl ?_
  refine zz_E.c 75 (.int 7) rfl rfl rfl rfl ?_
  refine zz_E.c 76 (.int 0) rfl rfl rfl rfl ?_
  refine zz_E.c 77 (.int 0) rfl rfl rfl rfl ?_
  refine zz_E.n 78 rfl rfl rfl ?_
  refine mE_g hh 81 (v := .ref 86) rfl rfl rfl ?_
  refine zz_E.n 82 rfl rfl rfl ?_
  refine mE_ia hh 83 25 (f := (s.2.2.1 41)) rfl (by decide) rfl rfl i82 rfl ?_
  refine mE_cv hh 86 (as := []) rfl rfl (Nat.le_of_ble_eq_true rfl) (Nat.le_of_ble_eq_true rfl) rfl (Nat.le_of_ble_eq_true rfl) rfl ?_
  refine zz_E.mono k ?_
  intro v h' hE
  exact zz_E.weak hE rfl trivial
theorem mb_288_86 {X : Nat → Option zz_C} {h : zz_H} (hh : 111 ≤ h.length) {s : mS} {d : Nat} {Q : Option Value → zz_H → Prop} {y0 : Int32} (k : zz_E zp_P zt_tf zt_fd X d zm_288 87 [] [] (mH h s) Q) : zz_E zp_P zt_tf zt_fd X d zm_288 86 [] [.int y0] (mH h s) Q := by
  refine zz_E.n 87 rfl rfl rfl ?_
  exact zz_E.weak k rfl trivial
theorem mb_288_87 {X : Nat → Option zz_C} {h : zz_H} (hh : 111 ≤ h.length) {s : mS} {d : Nat} {Q : Option Value → zz_H → Prop}  (k : Q (some (.int 1)) (mH h s)) : zz_E zp_P zt_tf zt_fd X d zm_288 87 [] [] (mH h s) Q := by
  refine zz_E.c 88 (.int 1) rfl rfl rfl rfl ?_
  refine zz_E.ret rfl rfl rfl ?_
  exact k
theorem mb_288_89 {X : Nat → Option zz_C} {h : zz_H} (hh : 111 ≤ h.length) {s : mS} {d : Nat} {Q : Option Value → zz_H → Prop} {x1 : Int32} {x2 : Int32} {x3 : Int32} (k1 : ¬ x2 = 8 → zz_E zp_P zt_tf zt_fd X d zm_288 124 [(0, .ref 61), (1, .int x1), (2, .int x2), (3, .int x3)] [] (mH h s) Q) (k2 : ¬ ¬ x2 = 8 → zz_E zp_P zt_tf zt_fd X d zm_288 95 [(0, .ref 61), (1, .int x1), (2, .int x2), (3, .int x3)] [] (mH h s) Q) : zz_E zp_P zt_tf zt_fd X d zm_288 89 [(0, .ref 61), (1, .int x1), (2, .int x2), (3, .int x3)] [] (mH h s) Q := by
  refine zz_E.n 90 rfl rfl rfl ?_
  refine zz_E.c 92 (.int 8) rfl rfl rfl rfl ?_
  refine zz_E.b2 124 95 (A := ¬ x2 = 8) rfl (zz_cond_ne _ _) (by decide) rfl rfl (fun c => ?_) (fun c => ?_)
  · exact zz_E.weak (k1 c) rfl ⟨rfl, rfl, rfl, rfl, trivial⟩
  · exact zz_E.weak (k2 c) rfl ⟨rfl, rfl, rfl, rfl, trivial⟩
theorem mb_288_95 {X : Nat → Option zz_C} {h : zz_H} (hh : 111 ≤ h.length) {s : mS} {d : Nat} {Q : Option Value → zz_H → Prop} {x1 : Int32} {x2 : Int32} {x3 : Int32} (i100 : ¬ (x1 < 0 ∨ 80 ≤ Int32.toNatClampNeg x1)) (k1 : ¬ ((s.2.2.1 39) (Int32.toNatClampNeg x1)) = 29 → zz_E zp_P zt_tf zt_fd X d zm_288 124 [(0, .ref 61), (1, .int x1), (2, .int x2), (3, .int x3)] [] (mH h s) Q) (k2 : ¬ ¬ ((s.2.2.1 39) (Int32.toNatClampNeg x1)) = 29 → zz_E zp_P zt_tf zt_fd X d zm_288 106 [(0, .ref 61), (1, .int x1), (2, .int x2), (3, .int x3)] [] (mH h s) Q) : zz_E zp_P zt_tf zt_fd X d zm_288 95 [(0, .ref 61), (1, .int x1), (2, .int x2), (3, .int x3)] [] (mH h s) Q := by
  refine zz_E.n 96 rfl rfl rfl ?_
  refine mE_g hh 99 (v := .ref 84) rfl rfl rfl ?_
  refine zz_E.n 100 rfl rfl rfl ?_
  refine mE_ia hh 101 23 (f := (s.2.2.1 39)) rfl (by decide) rfl rfl i100 rfl ?_
  refine zz_E.c 103 (.int 29) rfl rfl rfl rfl ?_
  refine zz_E.b2 124 106 (A := ¬ ((s.2.2.1 39) (Int32.toNatClampNeg x1)) = 29) rfl (zz_cond_ne _ _) (by decide) rfl rfl (fun c => ?_) (fun c => ?_)
  · exact zz_E.weak (k1 c) rfl ⟨rfl, rfl, rfl, rfl, trivial⟩
  · exact zz_E.weak (k2 c) rfl ⟨rfl, rfl, rfl, rfl, trivial⟩
theorem mb_288_106 {X : Nat → Option zz_C} {h : zz_H} (hh : 111 ≤ h.length) {s : mS} {d : Nat} {Q : Option Value → zz_H → Prop} {x1 : Int32} {x2 : Int32} {x3 : Int32} (i111 : ¬ (x1 < 0 ∨ 80 ≤ Int32.toNatClampNeg x1)) (k1 : ¬ ((s.2.2.1 40) (Int32.toNatClampNeg x1)) = 1 → zz_E zp_P zt_tf zt_fd X d zm_288 124 [(0, .ref 61), (1, .int x1), (2, .int x2), (3, .int x3)] [] (mH h s) Q) (k2 : ¬ ¬ ((s.2.2.1 40) (Int32.toNatClampNeg x1)) = 1 → zz_E zp_P zt_tf zt_fd X d zm_288 116 [(0, .ref 61)] [] (mH h s) Q) : zz_E zp_P zt_tf zt_fd X d zm_288 106 [(0, .ref 61), (1, .int x1), (2, .int x2), (3, .int x3)] [] (mH h s) Q := by
  refine zz_E.n 107 rfl rfl rfl ?_
  refine mE_g hh 110 (v := .ref 85) rfl rfl rfl ?_
  refine zz_E.n 111 rfl rfl rfl ?_
  refine mE_ia hh 112 24 (f := (s.2.2.1 40)) rfl (by decide) rfl rfl i111 rfl ?_
  refine zz_E.c 113 (.int 1) rfl rfl rfl rfl ?_
  refine zz_E.b2 124 116 (A := ¬ ((s.2.2.1 40) (Int32.toNatClampNeg x1)) = 1) rfl (zz_cond_ne _ _) (by decide) rfl rfl (fun c => ?_) (fun c => ?_)
  · exact zz_E.weak (k1 c) rfl ⟨rfl, rfl, rfl, rfl, trivial⟩
  · exact zz_E.weak (k2 c) rfl ⟨rfl, trivial⟩
theorem mb_288_116 {X : Nat → Option zz_C} {h : zz_H} (hh : 111 ≤ h.length) {s : mS} {d : Nat} {Q : Option Value → zz_H → Prop}  (k : zz_E zp_P zt_tf zt_fd X d zm_267 0 [(0, .ref 61), (1, .int 44)] [] (mH h s) (fun v h' => zz_E zp_P zt_tf zt_fd X (d + 1) zm_288 122 [] (v.toList ++ []) h' Q)) : zz_E zp_P zt_tf zt_fd X (d + 1) zm_288 116 [(0, .ref 61)] [] (mH h s) Q := by
  refine zz_E.n 117 rfl rfl rfl ?_
  refine zz_E.c 119 (.int 44) rfl rfl rfl rfl ?_
  refine mE_cv hh 122 (as := []) rfl rfl (Nat.le_of_ble_eq_true rfl) (Nat.le_of_ble_eq_true rfl) rfl (Nat.le_of_ble_eq_true rfl) rfl ?_
  refine zz_E.mono k ?_
  intro v h' hE
  exact zz_E.weak hE rfl trivial
theorem mb_288_122 {X : Nat → Option zz_C} {h : zz_H} (hh : 111 ≤ h.length) {s : mS} {d : Nat} {Q : Option Value → zz_H → Prop}  (k : Q (some (.int 0)) (mH h s)) : zz_E zp_P zt_tf zt_fd X d zm_288 122 [] [] (mH h s) Q := by
  refine zz_E.c 123 (.int 0) rfl rfl rfl rfl ?_
  refine zz_E.ret rfl rfl rfl ?_
  exact k
theorem mb_288_124 {X : Nat → Option zz_C} {h : zz_H} (hh : 111 ≤ h.length) {s : mS} {d : Nat} {Q : Option Value → zz_H → Prop} {x1 : Int32} {x2 : Int32} {x3 : Int32} (k1 : ¬ x2 = 7 → zz_E zp_P zt_tf zt_fd X d zm_288 162 [(0, .ref 61), (2, .int x2), (3, .int x3)] [] (mH h s) Q) (k2 : ¬ ¬ x2 = 7 → zz_E zp_P zt_tf zt_fd X d zm_288 130 [(0, .ref 61), (1, .int x1), (2, .int x2), (3, .int x3)] [] (mH h s) Q) : zz_E zp_P zt_tf zt_fd X d zm_288 124 [(0, .ref 61), (1, .int x1), (2, .int x2), (3, .int x3)] [] (mH h s) Q := by
  refine zz_E.n 125 rfl rfl rfl ?_
  refine zz_E.c 127 (.int 7) rfl rfl rfl rfl ?_
  refine zz_E.b2 162 130 (A := ¬ x2 = 7) rfl (zz_cond_ne _ _) (by decide) rfl rfl (fun c => ?_) (fun c => ?_)
  · exact zz_E.weak (k1 c) rfl ⟨rfl, rfl, rfl, trivial⟩
  · exact zz_E.weak (k2 c) rfl ⟨rfl, rfl, rfl, rfl, trivial⟩
theorem mb_288_130 {X : Nat → Option zz_C} {h : zz_H} (hh : 111 ≤ h.length) {s : mS} {d : Nat} {Q : Option Value → zz_H → Prop} {x1 : Int32} {x2 : Int32} {x3 : Int32} (k1 : x3 = 0 → zz_E zp_P zt_tf zt_fd X d zm_288 162 [(0, .ref 61), (2, .int x2), (3, .int x3)] [] (mH h s) Q) (k2 : ¬ x3 = 0 → zz_E zp_P zt_tf zt_fd X d zm_288 134 [(0, .ref 61), (1, .int x1), (2, .int x2), (3, .int x3)] [] (mH h s) Q) : zz_E zp_P zt_tf zt_fd X d zm_288 130 [(0, .ref 61), (1, .int x1), (2, .int x2), (3, .int x3)] [] (mH h s) Q := by
  refine zz_E.n 131 rfl rfl rfl ?_
  refine zz_E.b1 162 134 (A := x3 = 0) rfl rfl (by decide) rfl rfl (fun c => ?_) (fun c => ?_)
  · exact zz_E.weak (k1 c) rfl ⟨rfl, rfl, rfl, trivial⟩
  · exact zz_E.weak (k2 c) rfl ⟨rfl, rfl, rfl, rfl, trivial⟩
theorem mb_288_134 {X : Nat → Option zz_C} {h : zz_H} (hh : 111 ≤ h.length) {s : mS} {d : Nat} {Q : Option Value → zz_H → Prop} {x1 : Int32} {x2 : Int32} {x3 : Int32} (i139 : ¬ (x1 < 0 ∨ 80 ≤ Int32.toNatClampNeg x1)) (i146 : ¬ (x1 < 0 ∨ 80 ≤ Int32.toNatClampNeg x1)) (k : zz_E zp_P zt_tf zt_fd X d zm_289 0 [(0, .ref 61), (1, .int ((s.2.2.1 39) (Int32.toNatClampNeg x1)))] [] (mH h s) (fun v h' => zz_E zp_P zt_tf zt_fd X (d + 1) zm_288 150 [(0, .ref 61), (2, .int x2), (3, .int x3)] (v.toList ++ [.int ((s.2.2.1 40) (Int32.toNatClampNeg x1))]) h' Q)) : zz_E zp_P zt_tf zt_fd X (d + 1) zm_288 134 [(0, .ref 61), (1, .int x1), (2, .int x2), (3, .int x3)] [] (mH h s) Q := by
  refine zz_E.n 135 rfl rfl rfl ?_
  refine mE_g hh 138 (v := .ref 85) rfl rfl rfl ?_
  refine zz_E.n 139 rfl rfl rfl ?_
  refine mE_ia hh 140 24 (f := (s.2.2.1 40)) rfl (by decide) rfl rfl i139 rfl ?_
  refine zz_E.n 141 rfl rfl rfl ?_
  refine zz_E.n 142 rfl rfl rfl ?_
  refine mE_g hh 145 (v := .ref 84) rfl rfl rfl ?_
  refine zz_E.n 146 rfl rfl rfl ?_
  refine mE_ia hh 147 23 (f := (s.2.2.1 39)) rfl (by decide) rfl rfl i146 rfl ?_
  refine mE_cv hh 150 (as := [.int ((s.2.2.1 40) (Int32.toNatClampNeg x1))]) rfl rfl (Nat.le_of_ble_eq_true rfl) (Nat.le_of_ble_eq_true rfl) rfl (Nat.le_of_ble_eq_true rfl) rfl ?_
  refine zz_E.mono k ?_
  intro v h' hE
  exact zz_E.weak hE rfl ⟨rfl, rfl, rfl, trivial⟩
theorem mb_288_150 {X : Nat → Option zz_C} {h : zz_H} (hh : 111 ≤ h.length) {s : mS} {d : Nat} {Q : Option Value → zz_H → Prop} {x2 : Int32} {x3 : Int32} {y0 : Int32} {y1 : Int32} (k1 : y0 < y1 → zz_E zp_P zt_tf zt_fd X d zm_288 162 [(0, .ref 61), (2, .int x2), (3, .int x3)] [] (mH h s) Q) (k2 : ¬ y0 < y1 → zz_E zp_P zt_tf zt_fd X d zm_288 153 [(0, .ref 61), (2, .int x2), (3, .int x3)] [] (mH h s) Q) : zz_E zp_P zt_tf zt_fd X d zm_288 150 [(0, .ref 61), (2, .int x2), (3, .int x3)] [.int y1, .int y0] (mH h s) Q := by
  refine zz_E.b2 162 153 (A := y0 < y1) rfl rfl (by decide) rfl rfl (fun c => ?_) (fun c => ?_)
  · exact zz_E.weak (k1 c) rfl ⟨rfl, rfl, rfl, trivial⟩
  · exact zz_E.weak (k2 c) rfl ⟨rfl, rfl, rfl, trivial⟩
theorem mb_288_153 {X : Nat → Option zz_C} {h : zz_H} (hh : 111 ≤ h.length) {s : mS} {d : Nat} {Q : Option Value → zz_H → Prop} {x2 : Int32} {x3 : Int32} (k : zz_E zp_P zt_tf zt_fd X d zm_261 0 [(0, .ref 61), (1, .int 5), (2, .int (s.1 6))] [] (mH h s) (fun v h' => zz_E zp_P zt_tf zt_fd X (d + 1) zm_288 162 [(0, .ref 61), (2, .int x2), (3, .int x3)] (v.toList ++ []) h' Q)) : zz_E zp_P zt_tf zt_fd X (d + 1) zm_288 153 [(0, .ref 61), (2, .int x2), (3, .int x3)] [] (mH h s) Q := by
  refine zz_E.n 154 rfl rfl rfl ?_
  refine zz_E.c 155 (.int 5) rfl rfl rfl rfl ?_
  refine zz_E.n 156 rfl rfl rfl ?_
  refine mE_g hh 159 (v := .int (s.1 6)) rfl rfl rfl ?_
  refine mE_cv hh 162 (as := []) rfl rfl (Nat.le_of_ble_eq_true rfl) (Nat.le_of_ble_eq_true rfl) rfl (Nat.le_of_ble_eq_true rfl) rfl ?_
  refine zz_E.mono k ?_
  intro v h' hE
  exact zz_E.weak hE rfl ⟨rfl, rfl, rfl, trivial⟩
theorem mb_288_162 {X : Nat → Option zz_C} {h : zz_H} (hh : 111 ≤ h.length) {s : mS} {d : Nat} {Q : Option Value → zz_H → Prop} {x2 : Int32} {x3 : Int32} (k1 : x3 = 0 → zz_E zp_P zt_tf zt_fd X d zm_288 185 [(0, .ref 61)] [] (mH h s) Q) (k2 : ¬ x3 = 0 → zz_E zp_P zt_tf zt_fd X d zm_288 166 [(0, .ref 61), (2, .int x2)] [] (mH h s) Q) : zz_E zp_P zt_tf zt_fd X d zm_288 162 [(0, .ref 61), (2, .int x2), (3, .int x3)] [] (mH h s) Q := by
  refine zz_E.n 163 rfl rfl rfl ?_
  refine zz_E.b1 185 166 (A := x3 = 0) rfl rfl (by decide) rfl rfl (fun c => ?_) (fun c => ?_)
  · exact zz_E.weak (k1 c) rfl ⟨rfl, trivial⟩
  · exact zz_E.weak (k2 c) rfl ⟨rfl, rfl, trivial⟩
theorem mb_288_166 {X : Nat → Option zz_C} {h : zz_H} (hh : 111 ≤ h.length) {s : mS} {d : Nat} {Q : Option Value → zz_H → Prop} {x2 : Int32} (k1 : x2 = 8 → zz_E zp_P zt_tf zt_fd X d zm_288 185 [(0, .ref 61)] [] (mH h s) Q) (k2 : ¬ x2 = 8 → zz_E zp_P zt_tf zt_fd X d zm_288 172 [(0, .ref 61)] [] (mH h s) Q) : zz_E zp_P zt_tf zt_fd X d zm_288 166 [(0, .ref 61), (2, .int x2)] [] (mH h s) Q := by
  refine zz_E.n 167 rfl rfl rfl ?_
  refine zz_E.c 169 (.int 8) rfl rfl rfl rfl ?_
  refine zz_E.b2 185 172 (A := x2 = 8) rfl rfl (by decide) rfl rfl (fun c => ?_) (fun c => ?_)
  · exact zz_E.weak (k1 c) rfl ⟨rfl, trivial⟩
  · exact zz_E.weak (k2 c) rfl ⟨rfl, trivial⟩
theorem mb_288_172 {X : Nat → Option zz_C} {h : zz_H} (hh : 111 ≤ h.length) {s : mS} {d : Nat} {Q : Option Value → zz_H → Prop}  (k1 : ¬ (s.1 9) = 0 → zz_E zp_P zt_tf zt_fd X d zm_288 183 [] [] (mH h s) Q) (k2 : ¬ ¬ (s.1 9) = 0 → zz_E zp_P zt_tf zt_fd X d zm_288 179 [(0, .ref 61)] [] (mH h s) Q) : zz_E zp_P zt_tf zt_fd X d zm_288 172 [(0, .ref 61)] [] (mH h s) Q := by
  refine zz_E.n 173 rfl rfl rfl ?_
  refine mE_g hh 176 (v := .int (s.1 9)) rfl rfl rfl ?_
  refine zz_E.b1 183 179 (A := ¬ (s.1 9) = 0) rfl (zz_cond_ne _ _) (by decide) rfl rfl (fun c => ?_) (fun c => ?_)
  · exact zz_E.weak (k1 c) rfl trivial
  · exact zz_E.weak (k2 c) rfl ⟨rfl, trivial⟩
theorem mb_288_179 {X : Nat → Option zz_C} {h : zz_H} (hh : 111 ≤ h.length) {s : mS} {d : Nat} {Q : Option Value → zz_H → Prop}  (k : zz_E zp_P zt_tf zt_fd X d zm_260 0 [(0, .ref 61)] [] (mH h s) (fun v h' => zz_E zp_P zt_tf zt_fd X (d + 1) zm_288 183 [] (v.toList ++ []) h' Q)) : zz_E zp_P zt_tf zt_fd X (d + 1) zm_288 179 [(0, .ref 61)] [] (mH h s) Q := by
  refine zz_E.n 180 rfl rfl rfl ?_
  refine mE_cv hh 183 (as := []) rfl rfl (Nat.le_of_ble_eq_true rfl) (Nat.le_of_ble_eq_true rfl) rfl (Nat.le_of_ble_eq_true rfl) rfl ?_
  refine zz_E.mono k ?_
  intro v h' hE
  exact zz_E.weak hE rfl trivial
theorem mb_288_183 {X : Nat → Option zz_C} {h : zz_H} (hh : 111 ≤ h.length) {s : mS} {d : Nat} {Q : Option Value → zz_H → Prop}  (k : Q (some (.int 0)) (mH h s)) : zz_E zp_P zt_tf zt_fd X d zm_288 183 [] [] (mH h s) Q := by
  refine zz_E.c 184 (.int 0) rfl rfl rfl rfl ?_
  refine zz_E.ret rfl rfl rfl ?_
  exact k
theorem mb_288_185 {X : Nat → Option zz_C} {h : zz_H} (hh : 111 ≤ h.length) {s : mS} {d : Nat} {Q : Option Value → zz_H → Prop}  (k : zz_E zp_P zt_tf zt_fd X d zm_290 0 [(0, .ref 61)] [] (mH h s) (fun v h' => zz_E zp_P zt_tf zt_fd X (d + 1) zm_288 189 [] (v.toList ++ []) h' Q)) : zz_E zp_P zt_tf zt_fd X (d + 1) zm_288 185 [(0, .ref 61)] [] (mH h s) Q := by
  refine zz_E.n 186 rfl rfl rfl ?_
  refine mE_cv hh 189 (as := []) rfl rfl (Nat.le_of_ble_eq_true rfl) (Nat.le_of_ble_eq_true rfl) rfl (Nat.le_of_ble_eq_true rfl) rfl ?_
  refine zz_E.mono k ?_
  intro v h' hE
  exact zz_E.weak hE rfl trivial
theorem mb_288_189 {X : Nat → Option zz_C} {h : zz_H} (hh : 111 ≤ h.length) {s : mS} {d : Nat} {Q : Option Value → zz_H → Prop} {y0 : Int32} (k : Q (some (.int y0)) (mH h s)) (rb : zz_reti (some .boolean) y0 = true) : zz_E zp_P zt_tf zt_fd X d zm_288 189 [] [.int y0] (mH h s) Q := by
  refine zz_E.ret rfl rfl (if_pos ⟨rfl, rb⟩) ?_
  exact k
def mf_288_87 (N : Nat)  (s : mS) : mO := some (s, (some (.int 1)))
theorem mr_288_87 {X : Nat → Option zz_C} {h : zz_H} (hh : 111 ≤ h.length) {d : Nat} {N : Nat} {Q : Option Value → zz_H → Prop}  {s s' : mS} {v : Option Value} (hf : mf_288_87 N  s = some (s', v)) (k : Q v (mH h s')) : zz_E zp_P zt_tf zt_fd X (d + 6) zm_288 87 [] [] (mH h s) Q := by
  unfold mf_288_87 at hf
  cases hf
  exact mb_288_87 hh  k
def mf_288_86 (N : Nat) (y0 : Int32) (s : mS) : mO := mf_288_87 N  s
theorem mr_288_86 {X : Nat → Option zz_C} {h : zz_H} (hh : 111 ≤ h.length) {d : Nat} {N : Nat} {Q : Option Value → zz_H → Prop} {y0 : Int32} {s s' : mS} {v : Option Value} (hf : mf_288_86 N y0 s = some (s', v)) (k : Q v (mH h s')) : zz_E zp_P zt_tf zt_fd X (d + 6) zm_288 86 [] [.int y0] (mH h s) Q := by
  unfold mf_288_86 at hf
  exact mb_288_86 hh  (mr_288_87 hh hf k)
def mf_288_72 (N : Nat) (x1 : Int32) (s : mS) : mO := if ¬ (x1 < 0 ∨ 80 ≤ Int32.toNatClampNeg x1) then (mo_bi (mf_271 N 7 0 0 ((s.2.2.1 41) (Int32.toNatClampNeg x1)) s) (fun s1 y => mf_288_86 N y s1)) else none
theorem mr_288_72 {X : Nat → Option zz_C} {h : zz_H} (hh : 111 ≤ h.length) {d : Nat} {N : Nat} {Q : Option Value → zz_H → Prop} {x1 : Int32} {s s' : mS} {v : Option Value} (hf : mf_288_72 N x1 s = some (s', v)) (k : Q v (mH h s')) : zz_E zp_P zt_tf zt_fd X (d + 6) zm_288 72 [(0, .ref 61), (1, .int x1)] [] (mH h s) Q := by
  unfold mf_288_72 at hf
  obtain ⟨q0, hf⟩ := mo_if hf
  obtain ⟨s1, y, e, hf⟩ := mo_bi_ok hf
  exact mb_288_72 (d := d + 5) hh q0 (mr_271 (d := d + 5) hh e (mr_288_86 hh hf k))
def mf_288_67 (N : Nat) (x1 : Int32) (x2 : Int32) (s : mS) : mO := if ¬ x2 = 4 then mf_288_87 N  s else mf_288_72 N x1 s
theorem mr_288_67 {X : Nat → Option zz_C} {h : zz_H} (hh : 111 ≤ h.length) {d : Nat} {N : Nat} {Q : Option Value → zz_H → Prop} {x1 : Int32} {x2 : Int32} {s s' : mS} {v : Option Value} (hf : mf_288_67 N x1 x2 s = some (s', v)) (k : Q v (mH h s')) : zz_E zp_P zt_tf zt_fd X (d + 6) zm_288 67 [(0, .ref 61), (1, .int x1), (2, .int x2)] [] (mH h s) Q := by
  unfold mf_288_67 at hf
  refine mb_288_67 hh  (fun c => ?_) (fun c => ?_)
  · rw [if_pos c] at hf
    exact mr_288_87 hh hf k
  · rw [if_neg c] at hf
    exact mr_288_72 hh hf k
def mf_288_64 (N : Nat) (x1 : Int32) (x2 : Int32) (y1 : Int32) (s : mS) : mO := mo_bv (mf_267 N y1 s) (fun s1 => mf_288_67 N x1 x2 s1)
theorem mr_288_64 {X : Nat → Option zz_C} {h : zz_H} (hh : 111 ≤ h.length) {d : Nat} {N : Nat} {Q : Option Value → zz_H → Prop} {x1 : Int32} {x2 : Int32} {y1 : Int32} {s s' : mS} {v : Option Value} (hf : mf_288_64 N x1 x2 y1 s = some (s', v)) (k : Q v (mH h s')) : zz_E zp_P zt_tf zt_fd X (d + 6) zm_288 64 [(0, .ref 61), (1, .int x1), (2, .int x2)] [.int y1, .ref 61] (mH h s) Q := by
  unfold mf_288_64 at hf
  obtain ⟨s1, e, hf⟩ := mo_bv_ok hf
  exact mb_288_64 (d := d + 5) hh  (mr_267 (d := d + 1) hh e (mr_288_67 hh hf k))
def mf_288_62 (N : Nat) (x1 : Int32) (x2 : Int32) (s : mS) : mO := mf_288_64 N x1 x2 93 s
theorem mr_288_62 {X : Nat → Option zz_C} {h : zz_H} (hh : 111 ≤ h.length) {d : Nat} {N : Nat} {Q : Option Value → zz_H → Prop} {x1 : Int32} {x2 : Int32} {s s' : mS} {v : Option Value} (hf : mf_288_62 N x1 x2 s = some (s', v)) (k : Q v (mH h s')) : zz_E zp_P zt_tf zt_fd X (d + 6) zm_288 62 [(0, .ref 61), (1, .int x1), (2, .int x2)] [.ref 61] (mH h s) Q := by
  unfold mf_288_62 at hf
  exact mb_288_62 hh  (mr_288_64 hh hf k)
def mf_288_57 (N : Nat) (x1 : Int32) (x2 : Int32) (s : mS) : mO := mf_288_64 N x1 x2 41 s
theorem mr_288_57 {X : Nat → Option zz_C} {h : zz_H} (hh : 111 ≤ h.length) {d : Nat} {N : Nat} {Q : Option Value → zz_H → Prop} {x1 : Int32} {x2 : Int32} {s s' : mS} {v : Option Value} (hf : mf_288_57 N x1 x2 s = some (s', v)) (k : Q v (mH h s')) : zz_E zp_P zt_tf zt_fd X (d + 6) zm_288 57 [(0, .ref 61), (1, .int x1), (2, .int x2)] [.ref 61] (mH h s) Q := by
  unfold mf_288_57 at hf
  exact mb_288_57 hh  (mr_288_64 hh hf k)
def mf_288_41 (N : Nat) (x1 : Int32) (x2 : Int32) (s : mS) : mO := if ¬ x2 = 3 then mf_288_62 N x1 x2 (mI s 44 ((s.1 44) - 1)) else mf_288_57 N x1 x2 (mI s 44 ((s.1 44) - 1))
theorem mr_288_41 {X : Nat → Option zz_C} {h : zz_H} (hh : 111 ≤ h.length) {d : Nat} {N : Nat} {Q : Option Value → zz_H → Prop} {x1 : Int32} {x2 : Int32} {s s' : mS} {v : Option Value} (hf : mf_288_41 N x1 x2 s = some (s', v)) (k : Q v (mH h s')) : zz_E zp_P zt_tf zt_fd X (d + 6) zm_288 41 [(0, .ref 61), (1, .int x1), (2, .int x2)] [] (mH h s) Q := by
  unfold mf_288_41 at hf
  refine mb_288_41 hh  (fun c => ?_) (fun c => ?_)
  · rw [if_pos c] at hf
    exact mr_288_62 hh hf k
  · rw [if_neg c] at hf
    exact mr_288_57 hh hf k
def mf_288_189 (N : Nat) (y0 : Int32) (s : mS) : mO := if zz_reti (some .boolean) y0 = true then some (s, (some (.int y0))) else none
theorem mr_288_189 {X : Nat → Option zz_C} {h : zz_H} (hh : 111 ≤ h.length) {d : Nat} {N : Nat} {Q : Option Value → zz_H → Prop} {y0 : Int32} {s s' : mS} {v : Option Value} (hf : mf_288_189 N y0 s = some (s', v)) (k : Q v (mH h s')) : zz_E zp_P zt_tf zt_fd X (d + 6) zm_288 189 [] [.int y0] (mH h s) Q := by
  unfold mf_288_189 at hf
  obtain ⟨rb, hf⟩ := mo_if hf
  cases hf
  exact mb_288_189 hh  k rb
def mf_288_185 (N : Nat)  (s : mS) : mO := mo_bi (mf_290 N  s) (fun s1 y => mf_288_189 N y s1)
theorem mr_288_185 {X : Nat → Option zz_C} {h : zz_H} (hh : 111 ≤ h.length) {d : Nat} {N : Nat} {Q : Option Value → zz_H → Prop}  {s s' : mS} {v : Option Value} (hf : mf_288_185 N  s = some (s', v)) (k : Q v (mH h s')) : zz_E zp_P zt_tf zt_fd X (d + 6) zm_288 185 [(0, .ref 61)] [] (mH h s) Q := by
  unfold mf_288_185 at hf
  obtain ⟨s1, y, e, hf⟩ := mo_bi_ok hf
  exact mb_288_185 (d := d + 5) hh  (mr_290 (d := d + 0) hh e (mr_288_189 hh hf k))
def mf_288_183 (N : Nat)  (s : mS) : mO := some (s, (some (.int 0)))
theorem mr_288_183 {X : Nat → Option zz_C} {h : zz_H} (hh : 111 ≤ h.length) {d : Nat} {N : Nat} {Q : Option Value → zz_H → Prop}  {s s' : mS} {v : Option Value} (hf : mf_288_183 N  s = some (s', v)) (k : Q v (mH h s')) : zz_E zp_P zt_tf zt_fd X (d + 6) zm_288 183 [] [] (mH h s) Q := by
  unfold mf_288_183 at hf
  cases hf
  exact mb_288_183 hh  k
def mf_288_179 (N : Nat)  (s : mS) : mO := mo_bv (mf_260 N  s) (fun s1 => mf_288_183 N  s1)
theorem mr_288_179 {X : Nat → Option zz_C} {h : zz_H} (hh : 111 ≤ h.length) {d : Nat} {N : Nat} {Q : Option Value → zz_H → Prop}  {s s' : mS} {v : Option Value} (hf : mf_288_179 N  s = some (s', v)) (k : Q v (mH h s')) : zz_E zp_P zt_tf zt_fd X (d + 6) zm_288 179 [(0, .ref 61)] [] (mH h s) Q := by
  unfold mf_288_179 at hf
  obtain ⟨s1, e, hf⟩ := mo_bv_ok hf
  exact mb_288_179 (d := d + 5) hh  (mr_260 (d := d + 2) hh e (mr_288_183 hh hf k))
def mf_288_172 (N : Nat)  (s : mS) : mO := if ¬ (s.1 9) = 0 then mf_288_183 N  s else mf_288_179 N  s
theorem mr_288_172 {X : Nat → Option zz_C} {h : zz_H} (hh : 111 ≤ h.length) {d : Nat} {N : Nat} {Q : Option Value → zz_H → Prop}  {s s' : mS} {v : Option Value} (hf : mf_288_172 N  s = some (s', v)) (k : Q v (mH h s')) : zz_E zp_P zt_tf zt_fd X (d + 6) zm_288 172 [(0, .ref 61)] [] (mH h s) Q := by
  unfold mf_288_172 at hf
  refine mb_288_172 hh  (fun c => ?_) (fun c => ?_)
  · rw [if_pos c] at hf
    exact mr_288_183 hh hf k
  · rw [if_neg c] at hf
    exact mr_288_179 hh hf k
def mf_288_166 (N : Nat) (x2 : Int32) (s : mS) : mO := if x2 = 8 then mf_288_185 N  s else mf_288_172 N  s
theorem mr_288_166 {X : Nat → Option zz_C} {h : zz_H} (hh : 111 ≤ h.length) {d : Nat} {N : Nat} {Q : Option Value → zz_H → Prop} {x2 : Int32} {s s' : mS} {v : Option Value} (hf : mf_288_166 N x2 s = some (s', v)) (k : Q v (mH h s')) : zz_E zp_P zt_tf zt_fd X (d + 6) zm_288 166 [(0, .ref 61), (2, .int x2)] [] (mH h s) Q := by
  unfold mf_288_166 at hf
  refine mb_288_166 hh  (fun c => ?_) (fun c => ?_)
  · rw [if_pos c] at hf
    exact mr_288_185 hh hf k
  · rw [if_neg c] at hf
    exact mr_288_172 hh hf k
def mf_288_162 (N : Nat) (x2 : Int32) (x3 : Int32) (s : mS) : mO := if x3 = 0 then mf_288_185 N  s else mf_288_166 N x2 s
theorem mr_288_162 {X : Nat → Option zz_C} {h : zz_H} (hh : 111 ≤ h.length) {d : Nat} {N : Nat} {Q : Option Value → zz_H → Prop} {x2 : Int32} {x3 : Int32} {s s' : mS} {v : Option Value} (hf : mf_288_162 N x2 x3 s = some (s', v)) (k : Q v (mH h s')) : zz_E zp_P zt_tf zt_fd X (d + 6) zm_288 162 [(0, .ref 61), (2, .int x2), (3, .int x3)] [] (mH h s) Q := by
  unfold mf_288_162 at hf
  refine mb_288_162 hh  (fun c => ?_) (fun c => ?_)
  · rw [if_pos c] at hf
    exact mr_288_185 hh hf k
  · rw [if_neg c] at hf
    exact mr_288_166 hh hf k
def mf_288_153 (N : Nat) (x2 : Int32) (x3 : Int32) (s : mS) : mO := mo_bv (mf_261 N 5 (s.1 6) s) (fun s1 => mf_288_162 N x2 x3 s1)
theorem mr_288_153 {X : Nat → Option zz_C} {h : zz_H} (hh : 111 ≤ h.length) {d : Nat} {N : Nat} {Q : Option Value → zz_H → Prop} {x2 : Int32} {x3 : Int32} {s s' : mS} {v : Option Value} (hf : mf_288_153 N x2 x3 s = some (s', v)) (k : Q v (mH h s')) : zz_E zp_P zt_tf zt_fd X (d + 6) zm_288 153 [(0, .ref 61), (2, .int x2), (3, .int x3)] [] (mH h s) Q := by
  unfold mf_288_153 at hf
  obtain ⟨s1, e, hf⟩ := mo_bv_ok hf
  exact mb_288_153 (d := d + 5) hh  (mr_261 (d := d + 5) hh e (mr_288_162 hh hf k))
def mf_288_150 (N : Nat) (x2 : Int32) (x3 : Int32) (y0 : Int32) (y1 : Int32) (s : mS) : mO := if y0 < y1 then mf_288_162 N x2 x3 s else mf_288_153 N x2 x3 s
theorem mr_288_150 {X : Nat → Option zz_C} {h : zz_H} (hh : 111 ≤ h.length) {d : Nat} {N : Nat} {Q : Option Value → zz_H → Prop} {x2 : Int32} {x3 : Int32} {y0 : Int32} {y1 : Int32} {s s' : mS} {v : Option Value} (hf : mf_288_150 N x2 x3 y0 y1 s = some (s', v)) (k : Q v (mH h s')) : zz_E zp_P zt_tf zt_fd X (d + 6) zm_288 150 [(0, .ref 61), (2, .int x2), (3, .int x3)] [.int y1, .int y0] (mH h s) Q := by
  unfold mf_288_150 at hf
  refine mb_288_150 hh  (fun c => ?_) (fun c => ?_)
  · rw [if_pos c] at hf
    exact mr_288_162 hh hf k
  · rw [if_neg c] at hf
    exact mr_288_153 hh hf k
def mf_288_134 (N : Nat) (x1 : Int32) (x2 : Int32) (x3 : Int32) (s : mS) : mO := if ¬ (x1 < 0 ∨ 80 ≤ Int32.toNatClampNeg x1) then (if ¬ (x1 < 0 ∨ 80 ≤ Int32.toNatClampNeg x1) then (mo_bi (mf_289 N ((s.2.2.1 39) (Int32.toNatClampNeg x1)) s) (fun s1 y => mf_288_150 N x2 x3 ((s.2.2.1 40) (Int32.toNatClampNeg x1)) y s1)) else none) else none
theorem mr_288_134 {X : Nat → Option zz_C} {h : zz_H} (hh : 111 ≤ h.length) {d : Nat} {N : Nat} {Q : Option Value → zz_H → Prop} {x1 : Int32} {x2 : Int32} {x3 : Int32} {s s' : mS} {v : Option Value} (hf : mf_288_134 N x1 x2 x3 s = some (s', v)) (k : Q v (mH h s')) : zz_E zp_P zt_tf zt_fd X (d + 6) zm_288 134 [(0, .ref 61), (1, .int x1), (2, .int x2), (3, .int x3)] [] (mH h s) Q := by
  unfold mf_288_134 at hf
  obtain ⟨q0, hf⟩ := mo_if hf
  obtain ⟨q1, hf⟩ := mo_if hf
  obtain ⟨s1, y, e, hf⟩ := mo_bi_ok hf
  exact mb_288_134 (d := d + 5) hh q0 q1 (mr_289 (d := d + 5) hh e (mr_288_150 hh hf k))
def mf_288_130 (N : Nat) (x1 : Int32) (x2 : Int32) (x3 : Int32) (s : mS) : mO := if x3 = 0 then mf_288_162 N x2 x3 s else mf_288_134 N x1 x2 x3 s
theorem mr_288_130 {X : Nat → Option zz_C} {h : zz_H} (hh : 111 ≤ h.length) {d : Nat} {N : Nat} {Q : Option Value → zz_H → Prop} {x1 : Int32} {x2 : Int32} {x3 : Int32} {s s' : mS} {v : Option Value} (hf : mf_288_130 N x1 x2 x3 s = some (s', v)) (k : Q v (mH h s')) : zz_E zp_P zt_tf zt_fd X (d + 6) zm_288 130 [(0, .ref 61), (1, .int x1), (2, .int x2), (3, .int x3)] [] (mH h s) Q := by
  unfold mf_288_130 at hf
  refine mb_288_130 hh  (fun c => ?_) (fun c => ?_)
  · rw [if_pos c] at hf
    exact mr_288_162 hh hf k
  · rw [if_neg c] at hf
    exact mr_288_134 hh hf k
def mf_288_124 (N : Nat) (x1 : Int32) (x2 : Int32) (x3 : Int32) (s : mS) : mO := if ¬ x2 = 7 then mf_288_162 N x2 x3 s else mf_288_130 N x1 x2 x3 s
theorem mr_288_124 {X : Nat → Option zz_C} {h : zz_H} (hh : 111 ≤ h.length) {d : Nat} {N : Nat} {Q : Option Value → zz_H → Prop} {x1 : Int32} {x2 : Int32} {x3 : Int32} {s s' : mS} {v : Option Value} (hf : mf_288_124 N x1 x2 x3 s = some (s', v)) (k : Q v (mH h s')) : zz_E zp_P zt_tf zt_fd X (d + 6) zm_288 124 [(0, .ref 61), (1, .int x1), (2, .int x2), (3, .int x3)] [] (mH h s) Q := by
  unfold mf_288_124 at hf
  refine mb_288_124 hh  (fun c => ?_) (fun c => ?_)
  · rw [if_pos c] at hf
    exact mr_288_162 hh hf k
  · rw [if_neg c] at hf
    exact mr_288_130 hh hf k
def mf_288_122 (N : Nat)  (s : mS) : mO := some (s, (some (.int 0)))
theorem mr_288_122 {X : Nat → Option zz_C} {h : zz_H} (hh : 111 ≤ h.length) {d : Nat} {N : Nat} {Q : Option Value → zz_H → Prop}  {s s' : mS} {v : Option Value} (hf : mf_288_122 N  s = some (s', v)) (k : Q v (mH h s')) : zz_E zp_P zt_tf zt_fd X (d + 6) zm_288 122 [] [] (mH h s) Q := by
  unfold mf_288_122 at hf
  cases hf
  exact mb_288_122 hh  k
def mf_288_116 (N : Nat)  (s : mS) : mO := mo_bv (mf_267 N 44 s) (fun s1 => mf_288_122 N  s1)
theorem mr_288_116 {X : Nat → Option zz_C} {h : zz_H} (hh : 111 ≤ h.length) {d : Nat} {N : Nat} {Q : Option Value → zz_H → Prop}  {s s' : mS} {v : Option Value} (hf : mf_288_116 N  s = some (s', v)) (k : Q v (mH h s')) : zz_E zp_P zt_tf zt_fd X (d + 6) zm_288 116 [(0, .ref 61)] [] (mH h s) Q := by
  unfold mf_288_116 at hf
  obtain ⟨s1, e, hf⟩ := mo_bv_ok hf
  exact mb_288_116 (d := d + 5) hh  (mr_267 (d := d + 1) hh e (mr_288_122 hh hf k))
def mf_288_106 (N : Nat) (x1 : Int32) (x2 : Int32) (x3 : Int32) (s : mS) : mO := if ¬ (x1 < 0 ∨ 80 ≤ Int32.toNatClampNeg x1) then (if ¬ ((s.2.2.1 40) (Int32.toNatClampNeg x1)) = 1 then mf_288_124 N x1 x2 x3 s else mf_288_116 N  s) else none
theorem mr_288_106 {X : Nat → Option zz_C} {h : zz_H} (hh : 111 ≤ h.length) {d : Nat} {N : Nat} {Q : Option Value → zz_H → Prop} {x1 : Int32} {x2 : Int32} {x3 : Int32} {s s' : mS} {v : Option Value} (hf : mf_288_106 N x1 x2 x3 s = some (s', v)) (k : Q v (mH h s')) : zz_E zp_P zt_tf zt_fd X (d + 6) zm_288 106 [(0, .ref 61), (1, .int x1), (2, .int x2), (3, .int x3)] [] (mH h s) Q := by
  unfold mf_288_106 at hf
  obtain ⟨q0, hf⟩ := mo_if hf
  refine mb_288_106 hh q0 (fun c => ?_) (fun c => ?_)
  · rw [if_pos c] at hf
    exact mr_288_124 hh hf k
  · rw [if_neg c] at hf
    exact mr_288_116 hh hf k
def mf_288_95 (N : Nat) (x1 : Int32) (x2 : Int32) (x3 : Int32) (s : mS) : mO := if ¬ (x1 < 0 ∨ 80 ≤ Int32.toNatClampNeg x1) then (if ¬ ((s.2.2.1 39) (Int32.toNatClampNeg x1)) = 29 then mf_288_124 N x1 x2 x3 s else mf_288_106 N x1 x2 x3 s) else none
theorem mr_288_95 {X : Nat → Option zz_C} {h : zz_H} (hh : 111 ≤ h.length) {d : Nat} {N : Nat} {Q : Option Value → zz_H → Prop} {x1 : Int32} {x2 : Int32} {x3 : Int32} {s s' : mS} {v : Option Value} (hf : mf_288_95 N x1 x2 x3 s = some (s', v)) (k : Q v (mH h s')) : zz_E zp_P zt_tf zt_fd X (d + 6) zm_288 95 [(0, .ref 61), (1, .int x1), (2, .int x2), (3, .int x3)] [] (mH h s) Q := by
  unfold mf_288_95 at hf
  obtain ⟨q0, hf⟩ := mo_if hf
  refine mb_288_95 hh q0 (fun c => ?_) (fun c => ?_)
  · rw [if_pos c] at hf
    exact mr_288_124 hh hf k
  · rw [if_neg c] at hf
    exact mr_288_106 hh hf k
def mf_288_89 (N : Nat) (x1 : Int32) (x2 : Int32) (x3 : Int32) (s : mS) : mO := if ¬ x2 = 8 then mf_288_124 N x1 x2 x3 s else mf_288_95 N x1 x2 x3 s
theorem mr_288_89 {X : Nat → Option zz_C} {h : zz_H} (hh : 111 ≤ h.length) {d : Nat} {N : Nat} {Q : Option Value → zz_H → Prop} {x1 : Int32} {x2 : Int32} {x3 : Int32} {s s' : mS} {v : Option Value} (hf : mf_288_89 N x1 x2 x3 s = some (s', v)) (k : Q v (mH h s')) : zz_E zp_P zt_tf zt_fd X (d + 6) zm_288 89 [(0, .ref 61), (1, .int x1), (2, .int x2), (3, .int x3)] [] (mH h s) Q := by
  unfold mf_288_89 at hf
  refine mb_288_89 hh  (fun c => ?_) (fun c => ?_)
  · rw [if_pos c] at hf
    exact mr_288_124 hh hf k
  · rw [if_neg c] at hf
    exact mr_288_95 hh hf k
def mf_288_36 (N : Nat) (x1 : Int32) (x2 : Int32) (x3 : Int32) (s : mS) : mO := if ¬ x2 = 4 then mf_288_89 N x1 x2 x3 s else mf_288_41 N x1 x2 s
theorem mr_288_36 {X : Nat → Option zz_C} {h : zz_H} (hh : 111 ≤ h.length) {d : Nat} {N : Nat} {Q : Option Value → zz_H → Prop} {x1 : Int32} {x2 : Int32} {x3 : Int32} {s s' : mS} {v : Option Value} (hf : mf_288_36 N x1 x2 x3 s = some (s', v)) (k : Q v (mH h s')) : zz_E zp_P zt_tf zt_fd X (d + 6) zm_288 36 [(0, .ref 61), (1, .int x1), (2, .int x2), (3, .int x3)] [] (mH h s) Q := by
  unfold mf_288_36 at hf
  refine mb_288_36 hh  (fun c => ?_) (fun c => ?_)
  · rw [if_pos c] at hf
    exact mr_288_89 hh hf k
  · rw [if_neg c] at hf
    exact mr_288_41 hh hf k
def mf_288_30 (N : Nat) (x1 : Int32) (x2 : Int32) (y0 : Int32) (s : mS) : mO := if x2 = 3 then mf_288_41 N x1 x2 s else mf_288_36 N x1 x2 y0 s
theorem mr_288_30 {X : Nat → Option zz_C} {h : zz_H} (hh : 111 ≤ h.length) {d : Nat} {N : Nat} {Q : Option Value → zz_H → Prop} {x1 : Int32} {x2 : Int32} {y0 : Int32} {s s' : mS} {v : Option Value} (hf : mf_288_30 N x1 x2 y0 s = some (s', v)) (k : Q v (mH h s')) : zz_E zp_P zt_tf zt_fd X (d + 6) zm_288 30 [(0, .ref 61), (1, .int x1), (2, .int x2)] [.int y0] (mH h s) Q := by
  unfold mf_288_30 at hf
  refine mb_288_30 hh  (fun c => ?_) (fun c => ?_)
  · rw [if_pos c] at hf
    exact mr_288_41 hh hf k
  · rw [if_neg c] at hf
    exact mr_288_36 hh hf k
def mf_288_0 (N : Nat)  (s : mS) : mO := if ¬ (((s.1 44) - 1) < 0 ∨ 80 ≤ Int32.toNatClampNeg ((s.1 44) - 1)) then (if ¬ (((s.1 44) - 1) < 0 ∨ 80 ≤ Int32.toNatClampNeg ((s.1 44) - 1)) then (if ¬ (((s.1 44) - 1) < 0 ∨ 80 ≤ Int32.toNatClampNeg ((s.1 44) - 1)) then (mo_bi (mf_263 N 44 (mA s 40 (upd (s.2.2.1 40) (Int32.toNatClampNeg ((s.1 44) - 1)) (((s.2.2.1 40) (Int32.toNatClampNeg ((s.1 44) - 1))) + 1)))) (fun s1 y => mf_288_30 N ((s.1 44) - 1) ((s.2.2.1 38) (Int32.toNatClampNeg ((s.1 44) - 1))) y s1)) else none) else none) else none
theorem mr_288_0 {X : Nat → Option zz_C} {h : zz_H} (hh : 111 ≤ h.length) {d : Nat} {N : Nat} {Q : Option Value → zz_H → Prop}  {s s' : mS} {v : Option Value} (hf : mf_288_0 N  s = some (s', v)) (k : Q v (mH h s')) : zz_E zp_P zt_tf zt_fd X (d + 6) zm_288 0 [(0, .ref 61)] [] (mH h s) Q := by
  unfold mf_288_0 at hf
  obtain ⟨q0, hf⟩ := mo_if hf
  obtain ⟨q1, hf⟩ := mo_if hf
  obtain ⟨q2, hf⟩ := mo_if hf
  obtain ⟨s1, y, e, hf⟩ := mo_bi_ok hf
  exact mb_288_0 (d := d + 5) hh q0 q1 q2 (mr_263 (d := d + 5) hh e (mr_288_30 hh hf k))
/-- ends1 -/
def mf_288 (N : Nat)  (s : mS) : mO := mf_288_0 N  s
theorem mr_288 {X : Nat → Option zz_C} {h : zz_H} (hh : 111 ≤ h.length) {d : Nat} {N : Nat} {Q : Option Value → zz_H → Prop}  {s s' : mS} {v : Option Value} (hf : mf_288 N  s = some (s', v)) (k : Q v (mH h s')) : zz_E zp_P zt_tf zt_fd X (d + 6) zm_288 0 [(0, .ref 61)] [] (mH h s) Q := by
  unfold mf_288 at hf
  exact zz_E.weak (mr_288_0 hh hf k) rfl ⟨rfl, trivial⟩
