/-! expression (Z)V -/
theorem mb_285_0 {X : Nat → Option zz_C} {h : zz_H} (hh : 111 ≤ h.length) {s : mS} {d : Nat} {Q : Option Value → zz_H → Prop} {x1 : Int32} (k : zz_E zp_P zt_tf zt_fd X d zm_285 7 [(0, .ref 61), (1, .int x1), (2, .int 0)] [] (mH h (mI s 44 0)) Q) : zz_E zp_P zt_tf zt_fd X d zm_285 0 [(0, .ref 61), (1, .int x1)] [] (mH h s) Q := by
  refine zz_E.n 1 rfl rfl rfl ?_
  refine zz_E.c 2 (.int 0) rfl rfl rfl rfl ?_
  refine mE_p hh 5 rfl (by decide) rfl (mF_44 _ _) rfl ?_
  refine zz_E.c 6 (.int 0) rfl rfl rfl rfl ?_
  refine zz_E.n 7 rfl rfl rfl ?_
  exact zz_E.weak k rfl ⟨rfl, rfl, rfl, trivial⟩
theorem mb_285_7 {X : Nat → Option zz_C} {h : zz_H} (hh : 111 ≤ h.length) {s : mS} {d : Nat} {Q : Option Value → zz_H → Prop} {x1 : Int32} {x2 : Int32} (k1 : ¬ (s.1 9) = 0 → zz_E zp_P zt_tf zt_fd X d zm_285 231 [] [] (mH h s) Q) (k2 : ¬ ¬ (s.1 9) = 0 → zz_E zp_P zt_tf zt_fd X d zm_285 14 [(0, .ref 61), (1, .int x1), (2, .int x2)] [] (mH h s) Q) : zz_E zp_P zt_tf zt_fd X d zm_285 7 [(0, .ref 61), (1, .int x1), (2, .int x2)] [] (mH h s) Q := by
  refine zz_E.n 8 rfl rfl rfl ?_
  refine mE_g hh 11 (v := .int (s.1 9)) rfl rfl rfl ?_
  refine zz_E.b1 231 14 (A := ¬ (s.1 9) = 0) rfl (zz_cond_ne _ _) (by decide) rfl rfl (fun c => ?_) (fun c => ?_)
  · exact zz_E.weak (k1 c) rfl trivial
  · exact zz_E.weak (k2 c) rfl ⟨rfl, rfl, rfl, trivial⟩
theorem mb_285_14 {X : Nat → Option zz_C} {h : zz_H} (hh : 111 ≤ h.length) {s : mS} {d : Nat} {Q : Option Value → zz_H → Prop} {x1 : Int32} {x2 : Int32} (k1 : ¬ x2 = 0 → zz_E zp_P zt_tf zt_fd X d zm_285 26 [(0, .ref 61), (1, .int x1)] [] (mH h s) Q) (k2 : ¬ ¬ x2 = 0 → zz_E zp_P zt_tf zt_fd X d zm_285 18 [(0, .ref 61), (1, .int x1)] [] (mH h s) Q) : zz_E zp_P zt_tf zt_fd X d zm_285 14 [(0, .ref 61), (1, .int x1), (2, .int x2)] [] (mH h s) Q := by
  refine zz_E.n 15 rfl rfl rfl ?_
  refine zz_E.b1 26 18 (A := ¬ x2 = 0) rfl (zz_cond_ne _ _) (by decide) rfl rfl (fun c => ?_) (fun c => ?_)
  · exact zz_E.weak (k1 c) rfl ⟨rfl, rfl, trivial⟩
  · exact zz_E.weak (k2 c) rfl ⟨rfl, rfl, trivial⟩
theorem mb_285_18 {X : Nat → Option zz_C} {h : zz_H} (hh : 111 ≤ h.length) {s : mS} {d : Nat} {Q : Option Value → zz_H → Prop} {x1 : Int32} (k : zz_E zp_P zt_tf zt_fd X d zm_286 0 [(0, .ref 61)] [] (mH h s) (fun v h' => zz_E zp_P zt_tf zt_fd X (d + 1) zm_285 22 [(0, .ref 61), (1, .int x1)] (v.toList ++ []) h' Q)) : zz_E zp_P zt_tf zt_fd X (d + 1) zm_285 18 [(0, .ref 61), (1, .int x1)] [] (mH h s) Q := by
  refine zz_E.n 19 rfl rfl rfl ?_
  refine mE_cv hh 22 (as := []) rfl rfl (Nat.le_of_ble_eq_true rfl) (Nat.le_of_ble_eq_true rfl) rfl (Nat.le_of_ble_eq_true rfl) rfl ?_
  refine zz_E.mono k ?_
  intro v h' hE
  exact zz_E.weak hE rfl ⟨rfl, rfl, trivial⟩
theorem mb_285_22 {X : Nat → Option zz_C} {h : zz_H} (hh : 111 ≤ h.length) {s : mS} {d : Nat} {Q : Option Value → zz_H → Prop} {x1 : Int32} {y0 : Int32} (k : zz_E zp_P zt_tf zt_fd X d zm_285 7 [(0, .ref 61), (1, .int x1), (2, .int y0)] [] (mH h s) Q) : zz_E zp_P zt_tf zt_fd X d zm_285 22 [(0, .ref 61), (1, .int x1)] [.int y0] (mH h s) Q := by
  refine zz_E.n 23 rfl rfl rfl ?_
  refine zz_E.n 7 rfl rfl rfl ?_
  exact zz_E.weak k rfl ⟨rfl, rfl, rfl, trivial⟩
theorem mb_285_26 {X : Nat → Option zz_C} {h : zz_H} (hh : 111 ≤ h.length) {s : mS} {d : Nat} {Q : Option Value → zz_H → Prop} {x1 : Int32} (k1 : x1 = 0 → zz_E zp_P zt_tf zt_fd X d zm_285 38 [(0, .ref 61), (1, .int x1)] [] (mH h s) Q) (k2 : ¬ x1 = 0 → zz_E zp_P zt_tf zt_fd X d zm_285 30 [(0, .ref 61), (1, .int x1)] [] (mH h s) Q) : zz_E zp_P zt_tf zt_fd X d zm_285 26 [(0, .ref 61), (1, .int x1)] [] (mH h s) Q := by
  refine zz_E.n 27 rfl rfl rfl ?_
  refine zz_E.b1 38 30 (A := x1 = 0) rfl rfl (by decide) rfl rfl (fun c => ?_) (fun c => ?_)
  · exact zz_E.weak (k1 c) rfl ⟨rfl, rfl, trivial⟩
  · exact zz_E.weak (k2 c) rfl ⟨rfl, rfl, trivial⟩
theorem mb_285_30 {X : Nat → Option zz_C} {h : zz_H} (hh : 111 ≤ h.length) {s : mS} {d : Nat} {Q : Option Value → zz_H → Prop} {x1 : Int32} (k1 : ¬ (s.1 44) = 0 → zz_E zp_P zt_tf zt_fd X d zm_285 38 [(0, .ref 61), (1, .int x1)] [] (mH h s) Q) (k2 : ¬ ¬ (s.1 44) = 0 → zz_E zp_P zt_tf zt_fd X d zm_285 37 [] [] (mH h s) Q) : zz_E zp_P zt_tf zt_fd X d zm_285 30 [(0, .ref 61), (1, .int x1)] [] (mH h s) Q := by
  refine zz_E.n 31 rfl rfl rfl ?_
  refine mE_g hh 34 (v := .int (s.1 44)) rfl rfl rfl ?_
  refine zz_E.b1 38 37 (A := ¬ (s.1 44) = 0) rfl (zz_cond_ne _ _) (by decide) rfl rfl (fun c => ?_) (fun c => ?_)
  · exact zz_E.weak (k1 c) rfl ⟨rfl, rfl, trivial⟩
  · exact zz_E.weak (k2 c) rfl trivial
theorem mb_285_37 {X : Nat → Option zz_C} {h : zz_H} (hh : 111 ≤ h.length) {s : mS} {d : Nat} {Q : Option Value → zz_H → Prop}  (k : Q none (mH h s)) : zz_E zp_P zt_tf zt_fd X d zm_285 37 [] [] (mH h s) Q := by
  refine zz_E.ret rfl rfl rfl ?_
  exact k
theorem mb_285_38 {X : Nat → Option zz_C} {h : zz_H} (hh : 111 ≤ h.length) {s : mS} {d : Nat} {Q : Option Value → zz_H → Prop} {x1 : Int32} (k : zz_E zp_P zt_tf zt_fd X d zm_263 0 [(0, .ref 61), (1, .int 91)] [] (mH h s) (fun v h' => zz_E zp_P zt_tf zt_fd X (d + 1) zm_285 44 [(0, .ref 61), (1, .int x1)] (v.toList ++ []) h' Q)) : zz_E zp_P zt_tf zt_fd X (d + 1) zm_285 38 [(0, .ref 61), (1, .int x1)] [] (mH h s) Q := by
  refine zz_E.n 39 rfl rfl rfl ?_
  refine zz_E.c 41 (.int 91) rfl rfl rfl rfl ?_
  refine mE_cv hh 44 (as := []) rfl rfl (Nat.le_of_ble_eq_true rfl) (Nat.le_of_ble_eq_true rfl) rfl (Nat.le_of_ble_eq_true rfl) rfl ?_
  refine zz_E.mono k ?_
  intro v h' hE
  exact zz_E.weak hE rfl ⟨rfl, rfl, trivial⟩
theorem mb_285_44 {X : Nat → Option zz_C} {h : zz_H} (hh : 111 ≤ h.length) {s : mS} {d : Nat} {Q : Option Value → zz_H → Prop} {x1 : Int32} {y0 : Int32} (k1 : y0 = 0 → zz_E zp_P zt_tf zt_fd X d zm_285 70 [(0, .ref 61), (1, .int x1)] [] (mH h s) Q) (k2 : ¬ y0 = 0 → zz_E zp_P zt_tf zt_fd X d zm_285 47 [(0, .ref 61), (1, .int x1)] [] (mH h s) Q) : zz_E zp_P zt_tf zt_fd X d zm_285 44 [(0, .ref 61), (1, .int x1)] [.int y0] (mH h s) Q := by
  refine zz_E.b1 70 47 (A := y0 = 0) rfl rfl (by decide) rfl rfl (fun c => ?_) (fun c => ?_)
  · exact zz_E.weak (k1 c) rfl ⟨rfl, rfl, trivial⟩
  · exact zz_E.weak (k2 c) rfl ⟨rfl, rfl, trivial⟩
theorem mb_285_47 {X : Nat → Option zz_C} {h : zz_H} (hh : 111 ≤ h.length) {s : mS} {d : Nat} {Q : Option Value → zz_H → Prop} {x1 : Int32} (k : zz_E zp_P zt_tf zt_fd X d zm_268 0 [(0, .ref 61), (1, .int 91)] [] (mH h s) (fun v h' => zz_E zp_P zt_tf zt_fd X (d + 1) zm_285 58 [(0, .ref 61), (1, .int x1), (3, .int (s.1 6))] (v.toList ++ []) h' Q)) : zz_E zp_P zt_tf zt_fd X (d + 1) zm_285 47 [(0, .ref 61), (1, .int x1)] [] (mH h s) Q := by
  refine zz_E.n 48 rfl rfl rfl ?_
  refine mE_g hh 51 (v := .int (s.1 6)) rfl rfl rfl ?_
  refine zz_E.n 52 rfl rfl rfl ?_
  refine zz_E.n 53 rfl rfl rfl ?_
  refine zz_E.c 55 (.int 91) rfl rfl rfl rfl ?_
  refine mE_cv hh 58 (as := []) rfl rfl (Nat.le_of_ble_eq_true rfl) (Nat.le_of_ble_eq_true rfl) rfl (Nat.le_of_ble_eq_true rfl) rfl ?_
  refine zz_E.mono k ?_
  intro v h' hE
  exact zz_E.weak hE rfl ⟨rfl, rfl, rfl, trivial⟩
theorem mb_285_58 {X : Nat → Option zz_C} {h : zz_H} (hh : 111 ≤ h.length) {s : mS} {d : Nat} {Q : Option Value → zz_H → Prop} {x1 : Int32} {x3 : Int32} (k : zz_E zp_P zt_tf zt_fd X d zm_281 0 [(0, .ref 61), (1, .int 4), (2, .int 0), (3, .int x3)] [] (mH h s) (fun v h' => zz_E zp_P zt_tf zt_fd X (d + 1) zm_285 65 [(0, .ref 61), (1, .int x1)] (v.toList ++ []) h' Q)) : zz_E zp_P zt_tf zt_fd X (d + 1) zm_285 58 [(0, .ref 61), (1, .int x1), (3, .int x3)] [] (mH h s) Q := by
  refine zz_E.n 59 rfl rfl rfl ?_
  refine zz_E.c 60 (.int 4) rfl rfl rfl rfl ?_
  refine zz_E.c 61 (.int 0) rfl rfl rfl rfl ?_
  refine zz_E.n 62 rfl rfl rfl ?_
  refine mE_cv hh 65 (as := []) rfl rfl (Nat.le_of_ble_eq_true rfl) (Nat.le_of_ble_eq_true rfl) rfl (Nat.le_of_ble_eq_true rfl) rfl ?_
  refine zz_E.mono k ?_
  intro v h' hE
  exact zz_E.weak hE rfl ⟨rfl, rfl, trivial⟩
theorem mb_285_65 {X : Nat → Option zz_C} {h : zz_H} (hh : 111 ≤ h.length) {s : mS} {d : Nat} {Q : Option Value → zz_H → Prop} {x1 : Int32} (k : zz_E zp_P zt_tf zt_fd X d zm_285 7 [(0, .ref 61), (1, .int x1), (2, .int 0)] [] (mH h s) Q) : zz_E zp_P zt_tf zt_fd X d zm_285 65 [(0, .ref 61), (1, .int x1)] [] (mH h s) Q := by
  refine zz_E.c 66 (.int 0) rfl rfl rfl rfl ?_
  refine zz_E.n 67 rfl rfl rfl ?_
  refine zz_E.n 7 rfl rfl rfl ?_
  exact zz_E.weak k rfl ⟨rfl, rfl, rfl, trivial⟩
theorem mb_285_70 {X : Nat → Option zz_C} {h : zz_H} (hh : 111 ≤ h.length) {s : mS} {d : Nat} {Q : Option Value → zz_H → Prop} {x1 : Int32} (k : zz_E zp_P zt_tf zt_fd X d zm_283 0 [(0, .ref 61), (1, .int 2)] [] (mH h s) (fun v h' => zz_E zp_P zt_tf zt_fd X (d + 1) zm_285 75 [(0, .ref 61), (1, .int x1)] (v.toList ++ []) h' Q)) : zz_E zp_P zt_tf zt_fd X (d + 1) zm_285 70 [(0, .ref 61), (1, .int x1)] [] (mH h s) Q := by
  refine zz_E.n 71 rfl rfl rfl ?_
  refine zz_E.c 72 (.int 2) rfl rfl rfl rfl ?_
  refine mE_cv hh 75 (as := []) rfl rfl (Nat.le_of_ble_eq_true rfl) (Nat.le_of_ble_eq_true rfl) rfl (Nat.le_of_ble_eq_true rfl) rfl ?_
  refine zz_E.mono k ?_
  intro v h' hE
  exact zz_E.weak hE rfl ⟨rfl, rfl, trivial⟩
theorem mb_285_75 {X : Nat → Option zz_C} {h : zz_H} (hh : 111 ≤ h.length) {s : mS} {d : Nat} {Q : Option Value → zz_H → Prop} {x1 : Int32} {y0 : Int32} (k1 : y0 = 0 → zz_E zp_P zt_tf zt_fd X d zm_285 113 [(0, .ref 61), (1, .int x1)] [] (mH h s) Q) (k2 : ¬ y0 = 0 → zz_E zp_P zt_tf zt_fd X d zm_285 78 [(0, .ref 61), (1, .int x1)] [] (mH h s) Q) : zz_E zp_P zt_tf zt_fd X d zm_285 75 [(0, .ref 61), (1, .int x1)] [.int y0] (mH h s) Q := by
  refine zz_E.b1 113 78 (A := y0 = 0) rfl rfl (by decide) rfl rfl (fun c => ?_) (fun c => ?_)
  · exact zz_E.weak (k1 c) rfl ⟨rfl, rfl, trivial⟩
  · exact zz_E.weak (k2 c) rfl ⟨rfl, rfl, trivial⟩
theorem mb_285_78 {X : Nat → Option zz_C} {h : zz_H} (hh : 111 ≤ h.length) {s : mS} {d : Nat} {Q : Option Value → zz_H → Prop} {x1 : Int32} (i98 : ¬ (((s.1 44) - 1) < 0 ∨ 80 ≤ Int32.toNatClampNeg ((s.1 44) - 1))) (i108 : ¬ (((s.1 44) - 1) < 0 ∨ 80 ≤ Int32.toNatClampNeg ((s.1 44) - 1))) (k : zz_E zp_P zt_tf zt_fd X d zm_271 0 [(0, .ref 61), (1, .int 4), (2, .int ((s.2.2.1 39) (Int32.toNatClampNeg ((s.1 44) - 1)))), (3, .int 0), (4, .int ((s.2.2.1 41) (Int32.toNatClampNeg ((s.1 44) - 1))))] [] (mH h (mI s 44 ((s.1 44) - 1))) (fun v h' => zz_E zp_P zt_tf zt_fd X (d + 1) zm_285 112 [(0, .ref 61), (1, .int x1)] (v.toList ++ []) h' Q)) : zz_E zp_P zt_tf zt_fd X (d + 1) zm_285 78 [(0, .ref 61), (1, .int x1)] [] (mH h s) Q := by
  refine zz_E.n 79 rfl rfl rfl ?_
  refine zz_E.n 80 rfl rfl rfl ?_
  refine mE_g hh 83 (v := .int (s.1 44)) rfl rfl rfl ?_
  refine zz_E.c 84 (.int 1) rfl rfl rfl rfl ?_
  refine zz_E.n 85 rfl rfl rfl ?_
  refine mE_p hh 88 rfl (by decide) rfl (mF_44 _ _) rfl ?_
  refine zz_E.n 89 rfl rfl rfl ?_
  refine zz_E.c 90 (.int 4) rfl rfl rfl rfl ?_
  refine zz_E.n 91 rfl rfl rfl ?_
  refine mE_g hh 94 (v := .ref 84) rfl rfl rfl ?_
  refine zz_E.n 95 rfl rfl rfl ?_
  refine mE_g hh 98 (v := .int ((s.1 44) - 1)) rfl rfl rfl ?_
  refine mE_ia hh 99 23 (f := (s.2.2.1 39)) rfl (by decide) rfl rfl i98 rfl ?_
  refine zz_E.c 100 (.int 0) rfl rfl rfl rfl ?_
  refine zz_E.n 101 rfl rfl rfl ?_
  refine mE_g hh 104 (v := .ref 86) rfl rfl rfl ?_
  refine zz_E.n 105 rfl rfl rfl ?_
  refine mE_g hh 108 (v := .int ((s.1 44) - 1)) rfl rfl rfl ?_
  refine mE_ia hh 109 25 (f := (s.2.2.1 41)) rfl (by decide) rfl rfl i108 rfl ?_
  refine mE_cv hh 112 (as := []) rfl rfl (Nat.le_of_ble_eq_true rfl) (Nat.le_of_ble_eq_true rfl) rfl (Nat.le_of_ble_eq_true rfl) rfl ?_
  refine zz_E.mono k ?_
  intro v h' hE
  exact zz_E.weak hE rfl ⟨rfl, rfl, trivial⟩
theorem mb_285_112 {X : Nat → Option zz_C} {h : zz_H} (hh : 111 ≤ h.length) {s : mS} {d : Nat} {Q : Option Value → zz_H → Prop} {x1 : Int32} {y0 : Int32} (k : zz_E zp_P zt_tf zt_fd X d zm_285 113 [(0, .ref 61), (1, .int x1)] [] (mH h s) Q) : zz_E zp_P zt_tf zt_fd X d zm_285 112 [(0, .ref 61), (1, .int x1)] [.int y0] (mH h s) Q := by
  refine zz_E.n 113 rfl rfl rfl ?_
  exact zz_E.weak k rfl ⟨rfl, rfl, trivial⟩
theorem mb_285_113 {X : Nat → Option zz_C} {h : zz_H} (hh : 111 ≤ h.length) {s : mS} {d : Nat} {Q : Option Value → zz_H → Prop} {x1 : Int32} (k1 : ¬ (s.1 5) = 3 → zz_E zp_P zt_tf zt_fd X d zm_285 132 [(0, .ref 61), (1, .int x1)] [] (mH h s) Q) (k2 : ¬ ¬ (s.1 5) = 3 → zz_E zp_P zt_tf zt_fd X d zm_285 121 [(0, .ref 61), (1, .int x1)] [] (mH h s) Q) : zz_E zp_P zt_tf zt_fd X d zm_285 113 [(0, .ref 61), (1, .int x1)] [] (mH h s) Q := by
  refine zz_E.n 114 rfl rfl rfl ?_
  refine mE_g hh 117 (v := .int (s.1 5)) rfl rfl rfl ?_
  refine zz_E.c 118 (.int 3) rfl rfl rfl rfl ?_
  refine zz_E.b2 132 121 (A := ¬ (s.1 5) = 3) rfl (zz_cond_ne _ _) (by decide) rfl rfl (fun c => ?_) (fun c => ?_)
  · exact zz_E.weak (k1 c) rfl ⟨rfl, rfl, trivial⟩
  · exact zz_E.weak (k2 c) rfl ⟨rfl, rfl, trivial⟩
theorem mb_285_121 {X : Nat → Option zz_C} {h : zz_H} (hh : 111 ≤ h.length) {s : mS} {d : Nat} {Q : Option Value → zz_H → Prop} {x1 : Int32} (k : zz_E zp_P zt_tf zt_fd X d zm_282 0 [(0, .int (Int64.toInt32 (s.2.1 7)))] [] (mH h s) (fun v h' => zz_E zp_P zt_tf zt_fd X (d + 1) zm_285 129 [(0, .ref 61), (1, .int x1)] (v.toList ++ []) h' Q)) : zz_E zp_P zt_tf zt_fd X (d + 1) zm_285 121 [(0, .ref 61), (1, .int x1)] [] (mH h s) Q := by
  refine zz_E.n 122 rfl rfl rfl ?_
  refine mE_g hh 125 (v := .long (s.2.1 7)) rfl rfl rfl ?_
  refine zz_E.n 126 rfl rfl rfl ?_
  refine zz_E.cl (M' := zm_282) 129 rfl rfl (by decide) rfl rfl ⟨rfl, Nat.le_of_ble_eq_true rfl⟩ rfl ?_
  refine zz_E.mono k ?_
  intro v h' hE
  exact zz_E.weak hE rfl ⟨rfl, rfl, trivial⟩
theorem mb_285_129 {X : Nat → Option zz_C} {h : zz_H} (hh : 111 ≤ h.length) {s : mS} {d : Nat} {Q : Option Value → zz_H → Prop} {x1 : Int32} {y0 : Int32} (k : zz_E zp_P zt_tf zt_fd X d zm_285 133 [(0, .ref 61), (1, .int x1)] [.int y0] (mH h s) Q) : zz_E zp_P zt_tf zt_fd X d zm_285 129 [(0, .ref 61), (1, .int x1)] [.int y0] (mH h s) Q := by
  refine zz_E.n 133 rfl rfl rfl ?_
  exact zz_E.weak k rfl ⟨rfl, rfl, trivial⟩
theorem mb_285_132 {X : Nat → Option zz_C} {h : zz_H} (hh : 111 ≤ h.length) {s : mS} {d : Nat} {Q : Option Value → zz_H → Prop} {x1 : Int32} (k : zz_E zp_P zt_tf zt_fd X d zm_285 133 [(0, .ref 61), (1, .int x1)] [.int (-1)] (mH h s) Q) : zz_E zp_P zt_tf zt_fd X d zm_285 132 [(0, .ref 61), (1, .int x1)] [] (mH h s) Q := by
  refine zz_E.c 133 (.int (-1)) rfl rfl rfl rfl ?_
  exact zz_E.weak k rfl ⟨rfl, rfl, trivial⟩
theorem mb_285_133 {X : Nat → Option zz_C} {h : zz_H} (hh : 111 ≤ h.length) {s : mS} {d : Nat} {Q : Option Value → zz_H → Prop} {x1 : Int32} {y0 : Int32} (k1 : y0 < 0 → zz_E zp_P zt_tf zt_fd X d zm_285 152 [(0, .ref 61), (1, .int x1), (3, .int y0)] [] (mH h s) Q) (k2 : ¬ y0 < 0 → zz_E zp_P zt_tf zt_fd X d zm_285 138 [(0, .ref 61), (1, .int x1), (3, .int y0)] [] (mH h s) Q) : zz_E zp_P zt_tf zt_fd X d zm_285 133 [(0, .ref 61), (1, .int x1)] [.int y0] (mH h s) Q := by
  refine zz_E.n 134 rfl rfl rfl ?_
  refine zz_E.n 135 rfl rfl rfl ?_
  refine zz_E.b1 152 138 (A := y0 < 0) rfl rfl (by decide) rfl rfl (fun c => ?_) (fun c => ?_)
  · exact zz_E.weak (k1 c) rfl ⟨rfl, rfl, rfl, trivial⟩
  · exact zz_E.weak (k2 c) rfl ⟨rfl, rfl, rfl, trivial⟩
theorem mb_285_138 {X : Nat → Option zz_C} {h : zz_H} (hh : 111 ≤ h.length) {s : mS} {d : Nat} {Q : Option Value → zz_H → Prop} {x1 : Int32} {x3 : Int32} (k1 : ¬ x3 = 1 → zz_E zp_P zt_tf zt_fd X d zm_285 148 [(0, .ref 61), (1, .int x1), (3, .int x3)] [.ref 61] (mH h s) Q) (k2 : ¬ ¬ x3 = 1 → zz_E zp_P zt_tf zt_fd X d zm_285 144 [(0, .ref 61), (1, .int x1), (3, .int x3)] [.ref 61] (mH h s) Q) : zz_E zp_P zt_tf zt_fd X d zm_285 138 [(0, .ref 61), (1, .int x1), (3, .int x3)] [] (mH h s) Q := by
  refine zz_E.n 139 rfl rfl rfl ?_
  refine zz_E.n 140 rfl rfl rfl ?_
  refine zz_E.c 141 (.int 1) rfl rfl rfl rfl ?_
  refine zz_E.b2 148 144 (A := ¬ x3 = 1) rfl (zz_cond_ne _ _) (by decide) rfl rfl (fun c => ?_) (fun c => ?_)
  · exact zz_E.weak (k1 c) rfl ⟨rfl, rfl, rfl, trivial⟩
  · exact zz_E.weak (k2 c) rfl ⟨rfl, rfl, rfl, trivial⟩
theorem mb_285_144 {X : Nat → Option zz_C} {h : zz_H} (hh : 111 ≤ h.length) {s : mS} {d : Nat} {Q : Option Value → zz_H → Prop} {x1 : Int32} {x3 : Int32} (k : zz_E zp_P zt_tf zt_fd X d zm_285 149 [(0, .ref 61), (1, .int x1), (3, .int x3)] [.int 2, .ref 61] (mH h s) Q) : zz_E zp_P zt_tf zt_fd X d zm_285 144 [(0, .ref 61), (1, .int x1), (3, .int x3)] [.ref 61] (mH h s) Q := by
  refine zz_E.c 145 (.int 2) rfl rfl rfl rfl ?_
  refine zz_E.n 149 rfl rfl rfl ?_
  exact zz_E.weak k rfl ⟨rfl, rfl, rfl, trivial⟩
theorem mb_285_148 {X : Nat → Option zz_C} {h : zz_H} (hh : 111 ≤ h.length) {s : mS} {d : Nat} {Q : Option Value → zz_H → Prop} {x1 : Int32} {x3 : Int32} (k : zz_E zp_P zt_tf zt_fd X d zm_285 149 [(0, .ref 61), (1, .int x1), (3, .int x3)] [.int x3, .ref 61] (mH h s) Q) : zz_E zp_P zt_tf zt_fd X d zm_285 148 [(0, .ref 61), (1, .int x1), (3, .int x3)] [.ref 61] (mH h s) Q := by
  refine zz_E.n 149 rfl rfl rfl ?_
  exact zz_E.weak k rfl ⟨rfl, rfl, rfl, trivial⟩
theorem mb_285_149 {X : Nat → Option zz_C} {h : zz_H} (hh : 111 ≤ h.length) {s : mS} {d : Nat} {Q : Option Value → zz_H → Prop} {x1 : Int32} {x3 : Int32} {y1 : Int32} (k : zz_E zp_P zt_tf zt_fd X d zm_284 0 [(0, .ref 61), (1, .int y1)] [] (mH h s) (fun v h' => zz_E zp_P zt_tf zt_fd X (d + 1) zm_285 152 [(0, .ref 61), (1, .int x1), (3, .int x3)] (v.toList ++ []) h' Q)) : zz_E zp_P zt_tf zt_fd X (d + 1) zm_285 149 [(0, .ref 61), (1, .int x1), (3, .int x3)] [.int y1, .ref 61] (mH h s) Q := by
  refine mE_cv hh 152 (as := []) rfl rfl (Nat.le_of_ble_eq_true rfl) (Nat.le_of_ble_eq_true rfl) rfl (Nat.le_of_ble_eq_true rfl) rfl ?_
  refine zz_E.mono k ?_
  intro v h' hE
  exact zz_E.weak hE rfl ⟨rfl, rfl, rfl, trivial⟩
theorem mb_285_152 {X : Nat → Option zz_C} {h : zz_H} (hh : 111 ≤ h.length) {s : mS} {d : Nat} {Q : Option Value → zz_H → Prop} {x1 : Int32} {x3 : Int32} (k1 : x3 < 0 → zz_E zp_P zt_tf zt_fd X d zm_285 210 [(0, .ref 61), (1, .int x1)] [] (mH h s) Q) (k2 : ¬ x3 < 0 → zz_E zp_P zt_tf zt_fd X d zm_285 156 [(0, .ref 61), (1, .int x1), (3, .int x3)] [] (mH h s) Q) : zz_E zp_P zt_tf zt_fd X d zm_285 152 [(0, .ref 61), (1, .int x1), (3, .int x3)] [] (mH h s) Q := by
  refine zz_E.n 153 rfl rfl rfl ?_
  refine zz_E.b1 210 156 (A := x3 < 0) rfl rfl (by decide) rfl rfl (fun c => ?_) (fun c => ?_)
  · exact zz_E.weak (k1 c) rfl ⟨rfl, rfl, trivial⟩
  · exact zz_E.weak (k2 c) rfl ⟨rfl, rfl, rfl, trivial⟩
theorem mb_285_156 {X : Nat → Option zz_C} {h : zz_H} (hh : 111 ≤ h.length) {s : mS} {d : Nat} {Q : Option Value → zz_H → Prop} {x1 : Int32} {x3 : Int32} (k1 : ¬ x3 = 1 → zz_E zp_P zt_tf zt_fd X d zm_285 187 [(0, .ref 61), (1, .int x1)] [] (mH h s) Q) (k2 : ¬ ¬ x3 = 1 → zz_E zp_P zt_tf zt_fd X d zm_285 161 [(0, .ref 61), (1, .int x1)] [] (mH h s) Q) : zz_E zp_P zt_tf zt_fd X d zm_285 156 [(0, .ref 61), (1, .int x1), (3, .int x3)] [] (mH h s) Q := by
  refine zz_E.n 157 rfl rfl rfl ?_
  refine zz_E.c 158 (.int 1) rfl rfl rfl rfl ?_
  refine zz_E.b2 187 161 (A := ¬ x3 = 1) rfl (zz_cond_ne _ _) (by decide) rfl rfl (fun c => ?_) (fun c => ?_)
  · exact zz_E.weak (k1 c) rfl ⟨rfl, rfl, trivial⟩
  · exact zz_E.weak (k2 c) rfl ⟨rfl, rfl, trivial⟩
theorem mb_285_161 {X : Nat → Option zz_C} {h : zz_H} (hh : 111 ≤ h.length) {s : mS} {d : Nat} {Q : Option Value → zz_H → Prop} {x1 : Int32} (k : zz_E zp_P zt_tf zt_fd X d zm_283 0 [(0, .ref 61), (1, .int 1)] [] (mH h s) (fun v h' => zz_E zp_P zt_tf zt_fd X (d + 1) zm_285 166 [(0, .ref 61), (1, .int x1)] (v.toList ++ []) h' Q)) : zz_E zp_P zt_tf zt_fd X (d + 1) zm_285 161 [(0, .ref 61), (1, .int x1)] [] (mH h s) Q := by
  refine zz_E.n 162 rfl rfl rfl ?_
  refine zz_E.c 163 (.int 1) rfl rfl rfl rfl ?_
  refine mE_cv hh 166 (as := []) rfl rfl (Nat.le_of_ble_eq_true rfl) (Nat.le_of_ble_eq_true rfl) rfl (Nat.le_of_ble_eq_true rfl) rfl ?_
  refine zz_E.mono k ?_
  intro v h' hE
  exact zz_E.weak hE rfl ⟨rfl, rfl, trivial⟩
theorem mb_285_166 {X : Nat → Option zz_C} {h : zz_H} (hh : 111 ≤ h.length) {s : mS} {d : Nat} {Q : Option Value → zz_H → Prop} {x1 : Int32} {y0 : Int32} (k1 : y0 = 0 → zz_E zp_P zt_tf zt_fd X d zm_285 187 [(0, .ref 61), (1, .int x1)] [] (mH h s) Q) (k2 : ¬ y0 = 0 → zz_E zp_P zt_tf zt_fd X d zm_285 169 [(0, .ref 61), (1, .int x1)] [] (mH h s) Q) : zz_E zp_P zt_tf zt_fd X d zm_285 166 [(0, .ref 61), (1, .int x1)] [.int y0] (mH h s) Q := by
  refine zz_E.b1 187 169 (A := y0 = 0) rfl rfl (by decide) rfl rfl (fun c => ?_) (fun c => ?_)
  · exact zz_E.weak (k1 c) rfl ⟨rfl, rfl, trivial⟩
  · exact zz_E.weak (k2 c) rfl ⟨rfl, rfl, trivial⟩
theorem mb_285_169 {X : Nat → Option zz_C} {h : zz_H} (hh : 111 ≤ h.length) {s : mS} {d : Nat} {Q : Option Value → zz_H → Prop} {x1 : Int32} (i179 : ¬ (((s.1 44) - 1) < 0 ∨ 80 ≤ Int32.toNatClampNeg ((s.1 44) - 1))) (k : zz_E zp_P zt_tf zt_fd X d zm_282 0 [(0, .int ((s.2.2.1 39) (Int32.toNatClampNeg ((s.1 44) - 1))))] [] (mH h s) (fun v h' => zz_E zp_P zt_tf zt_fd X (d + 1) zm_285 183 [(0, .ref 61), (1, .int x1)] (v.toList ++ []) h' Q)) : zz_E zp_P zt_tf zt_fd X (d + 1) zm_285 169 [(0, .ref 61), (1, .int x1)] [] (mH h s) Q := by
  refine zz_E.n 170 rfl rfl rfl ?_
  refine mE_g hh 173 (v := .ref 84) rfl rfl rfl ?_
  refine zz_E.n 174 rfl rfl rfl ?_
  refine mE_g hh 177 (v := .int (s.1 44)) rfl rfl rfl ?_
  refine zz_E.c 178 (.int 1) rfl rfl rfl rfl ?_
  refine zz_E.n 179 rfl rfl rfl ?_
  refine mE_ia hh 180 23 (f := (s.2.2.1 39)) rfl (by decide) rfl rfl i179 rfl ?_
  refine zz_E.cl (M' := zm_282) 183 rfl rfl (by decide) rfl rfl ⟨rfl, Nat.le_of_ble_eq_true rfl⟩ rfl ?_
  refine zz_E.mono k ?_
  intro v h' hE
  exact zz_E.weak hE rfl ⟨rfl, rfl, trivial⟩
theorem mb_285_183 {X : Nat → Option zz_C} {h : zz_H} (hh : 111 ≤ h.length) {s : mS} {d : Nat} {Q : Option Value → zz_H → Prop} {x1 : Int32} {y0 : Int32} (k1 : y0 = 1 → zz_E zp_P zt_tf zt_fd X d zm_285 210 [(0, .ref 61), (1, .int x1)] [] (mH h s) Q) (k2 : ¬ y0 = 1 → zz_E zp_P zt_tf zt_fd X d zm_285 187 [(0, .ref 61), (1, .int x1)] [] (mH h s) Q) : zz_E zp_P zt_tf zt_fd X d zm_285 183 [(0, .ref 61), (1, .int x1)] [.int y0] (mH h s) Q := by
  refine zz_E.c 184 (.int 1) rfl rfl rfl rfl ?_
  refine zz_E.b2 210 187 (A := y0 = 1) rfl rfl (by decide) rfl rfl (fun c => ?_) (fun c => ?_)
  · exact zz_E.weak (k1 c) rfl ⟨rfl, rfl, trivial⟩
  · exact zz_E.weak (k2 c) rfl ⟨rfl, rfl, trivial⟩
theorem mb_285_187 {X : Nat → Option zz_C} {h : zz_H} (hh : 111 ≤ h.length) {s : mS} {d : Nat} {Q : Option Value → zz_H → Prop} {x1 : Int32} (k : zz_E zp_P zt_tf zt_fd X d zm_281 0 [(0, .ref 61), (1, .int 1), (2, .int (Int64.toInt32 (s.2.1 7))), (3, .int (s.1 6))] [] (mH h s) (fun v h' => zz_E zp_P zt_tf zt_fd X (d + 1) zm_285 201 [(0, .ref 61), (1, .int x1)] (v.toList ++ []) h' Q)) : zz_E zp_P zt_tf zt_fd X (d + 1) zm_285 187 [(0, .ref 61), (1, .int x1)] [] (mH h s) Q := by
  refine zz_E.n 188 rfl rfl rfl ?_
  refine zz_E.c 189 (.int 1) rfl rfl rfl rfl ?_
  refine zz_E.n 190 rfl rfl rfl ?_
  refine mE_g hh 193 (v := .long (s.2.1 7)) rfl rfl rfl ?_
  refine zz_E.n 194 rfl rfl rfl ?_
  refine zz_E.n 195 rfl rfl rfl ?_
  refine mE_g hh 198 (v := .int (s.1 6)) rfl rfl rfl ?_
  refine mE_cv hh 201 (as := []) rfl rfl (Nat.le_of_ble_eq_true rfl) (Nat.le_of_ble_eq_true rfl) rfl (Nat.le_of_ble_eq_true rfl) rfl ?_
  refine zz_E.mono k ?_
  intro v h' hE
  exact zz_E.weak hE rfl ⟨rfl, rfl, trivial⟩
theorem mb_285_201 {X : Nat → Option zz_C} {h : zz_H} (hh : 111 ≤ h.length) {s : mS} {d : Nat} {Q : Option Value → zz_H → Prop} {x1 : Int32} (k : zz_E zp_P zt_tf zt_fd X d zm_260 0 [(0, .ref 61)] [] (mH h s) (fun v h' => zz_E zp_P zt_tf zt_fd X (d + 1) zm_285 205 [(0, .ref 61), (1, .int x1)] (v.toList ++ []) h' Q)) : zz_E zp_P zt_tf zt_fd X (d + 1) zm_285 201 [(0, .ref 61), (1, .int x1)] [] (mH h s) Q := by
  refine zz_E.n 202 rfl rfl rfl ?_
  refine mE_cv hh 205 (as := []) rfl rfl (Nat.le_of_ble_eq_true rfl) (Nat.le_of_ble_eq_true rfl) rfl (Nat.le_of_ble_eq_true rfl) rfl ?_
  refine zz_E.mono k ?_
  intro v h' hE
  exact zz_E.weak hE rfl ⟨rfl, rfl, trivial⟩
theorem mb_285_205 {X : Nat → Option zz_C} {h : zz_H} (hh : 111 ≤ h.length) {s : mS} {d : Nat} {Q : Option Value → zz_H → Prop} {x1 : Int32} (k : zz_E zp_P zt_tf zt_fd X d zm_285 7 [(0, .ref 61), (1, .int x1), (2, .int 0)] [] (mH h s) Q) : zz_E zp_P zt_tf zt_fd X d zm_285 205 [(0, .ref 61), (1, .int x1)] [] (mH h s) Q := by
  refine zz_E.c 206 (.int 0) rfl rfl rfl rfl ?_
  refine zz_E.n 207 rfl rfl rfl ?_
  refine zz_E.n 7 rfl rfl rfl ?_
  exact zz_E.weak k rfl ⟨rfl, rfl, rfl, trivial⟩
theorem mb_285_210 {X : Nat → Option zz_C} {h : zz_H} (hh : 111 ≤ h.length) {s : mS} {d : Nat} {Q : Option Value → zz_H → Prop} {x1 : Int32} (k : zz_E zp_P zt_tf zt_fd X d zm_284 0 [(0, .ref 61), (1, .int 0)] [] (mH h s) (fun v h' => zz_E zp_P zt_tf zt_fd X (d + 1) zm_285 215 [(0, .ref 61), (1, .int x1)] (v.toList ++ []) h' Q)) : zz_E zp_P zt_tf zt_fd X (d + 1) zm_285 210 [(0, .ref 61), (1, .int x1)] [] (mH h s) Q := by
  refine zz_E.n 211 rfl rfl rfl ?_
  refine zz_E.c 212 (.int 0) rfl rfl rfl rfl ?_
  refine mE_cv hh 215 (as := []) rfl rfl (Nat.le_of_ble_eq_true rfl) (Nat.le_of_ble_eq_true rfl) rfl (Nat.le_of_ble_eq_true rfl) rfl ?_
  refine zz_E.mono k ?_
  intro v h' hE
  exact zz_E.weak hE rfl ⟨rfl, rfl, trivial⟩
theorem mb_285_215 {X : Nat → Option zz_C} {h : zz_H} (hh : 111 ≤ h.length) {s : mS} {d : Nat} {Q : Option Value → zz_H → Prop} {x1 : Int32} (k1 : ¬ (s.1 44) = 0 → zz_E zp_P zt_tf zt_fd X d zm_285 223 [(0, .ref 61), (1, .int x1)] [] (mH h s) Q) (k2 : ¬ ¬ (s.1 44) = 0 → zz_E zp_P zt_tf zt_fd X d zm_285 222 [] [] (mH h s) Q) : zz_E zp_P zt_tf zt_fd X d zm_285 215 [(0, .ref 61), (1, .int x1)] [] (mH h s) Q := by
  refine zz_E.n 216 rfl rfl rfl ?_
  refine mE_g hh 219 (v := .int (s.1 44)) rfl rfl rfl ?_
  refine zz_E.b1 223 222 (A := ¬ (s.1 44) = 0) rfl (zz_cond_ne _ _) (by decide) rfl rfl (fun c => ?_) (fun c => ?_)
  · exact zz_E.weak (k1 c) rfl ⟨rfl, rfl, trivial⟩
  · exact zz_E.weak (k2 c) rfl trivial
theorem mb_285_222 {X : Nat → Option zz_C} {h : zz_H} (hh : 111 ≤ h.length) {s : mS} {d : Nat} {Q : Option Value → zz_H → Prop}  (k : Q none (mH h s)) : zz_E zp_P zt_tf zt_fd X d zm_285 222 [] [] (mH h s) Q := by
  refine zz_E.ret rfl rfl rfl ?_
  exact k
theorem mb_285_223 {X : Nat → Option zz_C} {h : zz_H} (hh : 111 ≤ h.length) {s : mS} {d : Nat} {Q : Option Value → zz_H → Prop} {x1 : Int32} (k : zz_E zp_P zt_tf zt_fd X d zm_288 0 [(0, .ref 61)] [] (mH h s) (fun v h' => zz_E zp_P zt_tf zt_fd X (d + 1) zm_285 227 [(0, .ref 61), (1, .int x1)] (v.toList ++ []) h' Q)) : zz_E zp_P zt_tf zt_fd X (d + 1) zm_285 223 [(0, .ref 61), (1, .int x1)] [] (mH h s) Q := by
  refine zz_E.n 224 rfl rfl rfl ?_
  refine mE_cv hh 227 (as := []) rfl rfl (Nat.le_of_ble_eq_true rfl) (Nat.le_of_ble_eq_true rfl) rfl (Nat.le_of_ble_eq_true rfl) rfl ?_
  refine zz_E.mono k ?_
  intro v h' hE
  exact zz_E.weak hE rfl ⟨rfl, rfl, trivial⟩
theorem mb_285_227 {X : Nat → Option zz_C} {h : zz_H} (hh : 111 ≤ h.length) {s : mS} {d : Nat} {Q : Option Value → zz_H → Prop} {x1 : Int32} {y0 : Int32} (k : zz_E zp_P zt_tf zt_fd X d zm_285 7 [(0, .ref 61), (1, .int x1), (2, .int y0)] [] (mH h s) Q) : zz_E zp_P zt_tf zt_fd X d zm_285 227 [(0, .ref 61), (1, .int x1)] [.int y0] (mH h s) Q := by
  refine zz_E.n 228 rfl rfl rfl ?_
  refine zz_E.n 7 rfl rfl rfl ?_
  exact zz_E.weak k rfl ⟨rfl, rfl, rfl, trivial⟩
theorem mb_285_231 {X : Nat → Option zz_C} {h : zz_H} (hh : 111 ≤ h.length) {s : mS} {d : Nat} {Q : Option Value → zz_H → Prop}  (k : Q none (mH h s)) : zz_E zp_P zt_tf zt_fd X d zm_285 231 [] [] (mH h s) Q := by
  refine zz_E.ret rfl rfl rfl ?_
  exact k
def mf_285_231 (N : Nat)  (s : mS) : mO := some (s, none)
theorem mr_285_231 {X : Nat → Option zz_C} {h : zz_H} (hh : 111 ≤ h.length) {d : Nat} {N : Nat} {Q : Option Value → zz_H → Prop}  {s s' : mS} {v : Option Value} (hf : mf_285_231 N  s = some (s', v)) (k : Q v (mH h s')) : zz_E zp_P zt_tf zt_fd X (d + 8) zm_285 231 [] [] (mH h s) Q := by
  unfold mf_285_231 at hf
  cases hf
  exact mb_285_231 hh  k
def mf_285_222 (N : Nat)  (s : mS) : mO := some (s, none)
theorem mr_285_222 {X : Nat → Option zz_C} {h : zz_H} (hh : 111 ≤ h.length) {d : Nat} {N : Nat} {Q : Option Value → zz_H → Prop}  {s s' : mS} {v : Option Value} (hf : mf_285_222 N  s = some (s', v)) (k : Q v (mH h s')) : zz_E zp_P zt_tf zt_fd X (d + 8) zm_285 222 [] [] (mH h s) Q := by
  unfold mf_285_222 at hf
  cases hf
  exact mb_285_222 hh  k
def mf_285_37 (N : Nat)  (s : mS) : mO := some (s, none)
theorem mr_285_37 {X : Nat → Option zz_C} {h : zz_H} (hh : 111 ≤ h.length) {d : Nat} {N : Nat} {Q : Option Value → zz_H → Prop}  {s s' : mS} {v : Option Value} (hf : mf_285_37 N  s = some (s', v)) (k : Q v (mH h s')) : zz_E zp_P zt_tf zt_fd X (d + 8) zm_285 37 [] [] (mH h s) Q := by
  unfold mf_285_37 at hf
  cases hf
  exact mb_285_37 hh  k
def mf_285_22 (N : Nat) (rc : Nat → Int32 → Int32 → mS → mO) (x1 : Int32) (y0 : Int32) (s : mS) : mO := rc 0 x1 y0 s
theorem mr_285_22 {X : Nat → Option zz_C} {h : zz_H} (hh : 111 ≤ h.length) {d : Nat} {N : Nat} {rc : Nat → Int32 → Int32 → mS → mO} (hrc0 : ∀ {Q : Option Value → zz_H → Prop} {x1 : Int32} {x2 : Int32} {s s' : mS} {v : Option Value}, rc 0 x1 x2 s = some (s', v) → Q v (mH h s') → zz_E zp_P zt_tf zt_fd X (d + 8) zm_285 7 [(0, .ref 61), (1, .int x1), (2, .int x2)] [] (mH h s) Q) {Q : Option Value → zz_H → Prop} {x1 : Int32} {y0 : Int32} {s s' : mS} {v : Option Value} (hf : mf_285_22 N rc x1 y0 s = some (s', v)) (k : Q v (mH h s')) : zz_E zp_P zt_tf zt_fd X (d + 8) zm_285 22 [(0, .ref 61), (1, .int x1)] [.int y0] (mH h s) Q := by
  unfold mf_285_22 at hf
  exact mb_285_22 hh  (hrc0 hf k)
def mf_285_18 (N : Nat) (rc : Nat → Int32 → Int32 → mS → mO) (x1 : Int32) (s : mS) : mO := mo_bi (mf_286 N  s) (fun s1 y => mf_285_22 N rc x1 y s1)
theorem mr_285_18 {X : Nat → Option zz_C} {h : zz_H} (hh : 111 ≤ h.length) {d : Nat} {N : Nat} {rc : Nat → Int32 → Int32 → mS → mO} (hrc0 : ∀ {Q : Option Value → zz_H → Prop} {x1 : Int32} {x2 : Int32} {s s' : mS} {v : Option Value}, rc 0 x1 x2 s = some (s', v) → Q v (mH h s') → zz_E zp_P zt_tf zt_fd X (d + 8) zm_285 7 [(0, .ref 61), (1, .int x1), (2, .int x2)] [] (mH h s) Q) {Q : Option Value → zz_H → Prop} {x1 : Int32} {s s' : mS} {v : Option Value} (hf : mf_285_18 N rc x1 s = some (s', v)) (k : Q v (mH h s')) : zz_E zp_P zt_tf zt_fd X (d + 8) zm_285 18 [(0, .ref 61), (1, .int x1)] [] (mH h s) Q := by
  unfold mf_285_18 at hf
  obtain ⟨s1, y, e, hf⟩ := mo_bi_ok hf
  exact mb_285_18 (d := d + 7) hh  (mr_286 (d := d + 0) hh e (mr_285_22 hh hrc0 hf k))
def mf_285_227 (N : Nat) (rc : Nat → Int32 → Int32 → mS → mO) (x1 : Int32) (y0 : Int32) (s : mS) : mO := rc 0 x1 y0 s
theorem mr_285_227 {X : Nat → Option zz_C} {h : zz_H} (hh : 111 ≤ h.length) {d : Nat} {N : Nat} {rc : Nat → Int32 → Int32 → mS → mO} (hrc0 : ∀ {Q : Option Value → zz_H → Prop} {x1 : Int32} {x2 : Int32} {s s' : mS} {v : Option Value}, rc 0 x1 x2 s = some (s', v) → Q v (mH h s') → zz_E zp_P zt_tf zt_fd X (d + 8) zm_285 7 [(0, .ref 61), (1, .int x1), (2, .int x2)] [] (mH h s) Q) {Q : Option Value → zz_H → Prop} {x1 : Int32} {y0 : Int32} {s s' : mS} {v : Option Value} (hf : mf_285_227 N rc x1 y0 s = some (s', v)) (k : Q v (mH h s')) : zz_E zp_P zt_tf zt_fd X (d + 8) zm_285 227 [(0, .ref 61), (1, .int x1)] [.int y0] (mH h s) Q := by
  unfold mf_285_227 at hf
  exact mb_285_227 hh  (hrc0 hf k)
def mf_285_223 (N : Nat) (rc : Nat → Int32 → Int32 → mS → mO) (x1 : Int32) (s : mS) : mO := mo_bi (mf_288 N  s) (fun s1 y => mf_285_227 N rc x1 y s1)
theorem mr_285_223 {X : Nat → Option zz_C} {h : zz_H} (hh : 111 ≤ h.length) {d : Nat} {N : Nat} {rc : Nat → Int32 → Int32 → mS → mO} (hrc0 : ∀ {Q : Option Value → zz_H → Prop} {x1 : Int32} {x2 : Int32} {s s' : mS} {v : Option Value}, rc 0 x1 x2 s = some (s', v) → Q v (mH h s') → zz_E zp_P zt_tf zt_fd X (d + 8) zm_285 7 [(0, .ref 61), (1, .int x1), (2, .int x2)] [] (mH h s) Q) {Q : Option Value → zz_H → Prop} {x1 : Int32} {s s' : mS} {v : Option Value} (hf : mf_285_223 N rc x1 s = some (s', v)) (k : Q v (mH h s')) : zz_E zp_P zt_tf zt_fd X (d + 8) zm_285 223 [(0, .ref 61), (1, .int x1)] [] (mH h s) Q := by
  unfold mf_285_223 at hf
  obtain ⟨s1, y, e, hf⟩ := mo_bi_ok hf
  exact mb_285_223 (d := d + 7) hh  (mr_288 (d := d + 1) hh e (mr_285_227 hh hrc0 hf k))
def mf_285_215 (N : Nat) (rc : Nat → Int32 → Int32 → mS → mO) (x1 : Int32) (s : mS) : mO := if ¬ (s.1 44) = 0 then mf_285_223 N rc x1 s else mf_285_222 N  s
theorem mr_285_215 {X : Nat → Option zz_C} {h : zz_H} (hh : 111 ≤ h.length) {d : Nat} {N : Nat} {rc : Nat → Int32 → Int32 → mS → mO} (hrc0 : ∀ {Q : Option Value → zz_H → Prop} {x1 : Int32} {x2 : Int32} {s s' : mS} {v : Option Value}, rc 0 x1 x2 s = some (s', v) → Q v (mH h s') → zz_E zp_P zt_tf zt_fd X (d + 8) zm_285 7 [(0, .ref 61), (1, .int x1), (2, .int x2)] [] (mH h s) Q) {Q : Option Value → zz_H → Prop} {x1 : Int32} {s s' : mS} {v : Option Value} (hf : mf_285_215 N rc x1 s = some (s', v)) (k : Q v (mH h s')) : zz_E zp_P zt_tf zt_fd X (d + 8) zm_285 215 [(0, .ref 61), (1, .int x1)] [] (mH h s) Q := by
  unfold mf_285_215 at hf
  refine mb_285_215 hh  (fun c => ?_) (fun c => ?_)
  · rw [if_pos c] at hf
    exact mr_285_223 hh hrc0 hf k
  · rw [if_neg c] at hf
    exact mr_285_222 hh hf k
def mf_285_210 (N : Nat) (rc : Nat → Int32 → Int32 → mS → mO) (x1 : Int32) (s : mS) : mO := mo_bv (mf_284 N 0 s) (fun s1 => mf_285_215 N rc x1 s1)
theorem mr_285_210 {X : Nat → Option zz_C} {h : zz_H} (hh : 111 ≤ h.length) {d : Nat} {N : Nat} {rc : Nat → Int32 → Int32 → mS → mO} (hrc0 : ∀ {Q : Option Value → zz_H → Prop} {x1 : Int32} {x2 : Int32} {s s' : mS} {v : Option Value}, rc 0 x1 x2 s = some (s', v) → Q v (mH h s') → zz_E zp_P zt_tf zt_fd X (d + 8) zm_285 7 [(0, .ref 61), (1, .int x1), (2, .int x2)] [] (mH h s) Q) {Q : Option Value → zz_H → Prop} {x1 : Int32} {s s' : mS} {v : Option Value} (hf : mf_285_210 N rc x1 s = some (s', v)) (k : Q v (mH h s')) : zz_E zp_P zt_tf zt_fd X (d + 8) zm_285 210 [(0, .ref 61), (1, .int x1)] [] (mH h s) Q := by
  unfold mf_285_210 at hf
  obtain ⟨s1, e, hf⟩ := mo_bv_ok hf
  exact mb_285_210 (d := d + 7) hh  (mr_284 (d := d + 6) hh e (mr_285_215 hh hrc0 hf k))
def mf_285_205 (N : Nat) (rc : Nat → Int32 → Int32 → mS → mO) (x1 : Int32) (s : mS) : mO := rc 0 x1 0 s
theorem mr_285_205 {X : Nat → Option zz_C} {h : zz_H} (hh : 111 ≤ h.length) {d : Nat} {N : Nat} {rc : Nat → Int32 → Int32 → mS → mO} (hrc0 : ∀ {Q : Option Value → zz_H → Prop} {x1 : Int32} {x2 : Int32} {s s' : mS} {v : Option Value}, rc 0 x1 x2 s = some (s', v) → Q v (mH h s') → zz_E zp_P zt_tf zt_fd X (d + 8) zm_285 7 [(0, .ref 61), (1, .int x1), (2, .int x2)] [] (mH h s) Q) {Q : Option Value → zz_H → Prop} {x1 : Int32} {s s' : mS} {v : Option Value} (hf : mf_285_205 N rc x1 s = some (s', v)) (k : Q v (mH h s')) : zz_E zp_P zt_tf zt_fd X (d + 8) zm_285 205 [(0, .ref 61), (1, .int x1)] [] (mH h s) Q := by
  unfold mf_285_205 at hf
  exact mb_285_205 hh  (hrc0 hf k)
def mf_285_201 (N : Nat) (rc : Nat → Int32 → Int32 → mS → mO) (x1 : Int32) (s : mS) : mO := mo_bv (mf_260 N  s) (fun s1 => mf_285_205 N rc x1 s1)
theorem mr_285_201 {X : Nat → Option zz_C} {h : zz_H} (hh : 111 ≤ h.length) {d : Nat} {N : Nat} {rc : Nat → Int32 → Int32 → mS → mO} (hrc0 : ∀ {Q : Option Value → zz_H → Prop} {x1 : Int32} {x2 : Int32} {s s' : mS} {v : Option Value}, rc 0 x1 x2 s = some (s', v) → Q v (mH h s') → zz_E zp_P zt_tf zt_fd X (d + 8) zm_285 7 [(0, .ref 61), (1, .int x1), (2, .int x2)] [] (mH h s) Q) {Q : Option Value → zz_H → Prop} {x1 : Int32} {s s' : mS} {v : Option Value} (hf : mf_285_201 N rc x1 s = some (s', v)) (k : Q v (mH h s')) : zz_E zp_P zt_tf zt_fd X (d + 8) zm_285 201 [(0, .ref 61), (1, .int x1)] [] (mH h s) Q := by
  unfold mf_285_201 at hf
  obtain ⟨s1, e, hf⟩ := mo_bv_ok hf
  exact mb_285_201 (d := d + 7) hh  (mr_260 (d := d + 4) hh e (mr_285_205 hh hrc0 hf k))
def mf_285_187 (N : Nat) (rc : Nat → Int32 → Int32 → mS → mO) (x1 : Int32) (s : mS) : mO := mo_bv (mf_281 N 1 (Int64.toInt32 (s.2.1 7)) (s.1 6) s) (fun s1 => mf_285_201 N rc x1 s1)
theorem mr_285_187 {X : Nat → Option zz_C} {h : zz_H} (hh : 111 ≤ h.length) {d : Nat} {N : Nat} {rc : Nat → Int32 → Int32 → mS → mO} (hrc0 : ∀ {Q : Option Value → zz_H → Prop} {x1 : Int32} {x2 : Int32} {s s' : mS} {v : Option Value}, rc 0 x1 x2 s = some (s', v) → Q v (mH h s') → zz_E zp_P zt_tf zt_fd X (d + 8) zm_285 7 [(0, .ref 61), (1, .int x1), (2, .int x2)] [] (mH h s) Q) {Q : Option Value → zz_H → Prop} {x1 : Int32} {s s' : mS} {v : Option Value} (hf : mf_285_187 N rc x1 s = some (s', v)) (k : Q v (mH h s')) : zz_E zp_P zt_tf zt_fd X (d + 8) zm_285 187 [(0, .ref 61), (1, .int x1)] [] (mH h s) Q := by
  unfold mf_285_187 at hf
  obtain ⟨s1, e, hf⟩ := mo_bv_ok hf
  exact mb_285_187 (d := d + 7) hh  (mr_281 (d := d + 7) hh e (mr_285_201 hh hrc0 hf k))
def mf_285_183 (N : Nat) (rc : Nat → Int32 → Int32 → mS → mO) (x1 : Int32) (y0 : Int32) (s : mS) : mO := if y0 = 1 then mf_285_210 N rc x1 s else mf_285_187 N rc x1 s
theorem mr_285_183 {X : Nat → Option zz_C} {h : zz_H} (hh : 111 ≤ h.length) {d : Nat} {N : Nat} {rc : Nat → Int32 → Int32 → mS → mO} (hrc0 : ∀ {Q : Option Value → zz_H → Prop} {x1 : Int32} {x2 : Int32} {s s' : mS} {v : Option Value}, rc 0 x1 x2 s = some (s', v) → Q v (mH h s') → zz_E zp_P zt_tf zt_fd X (d + 8) zm_285 7 [(0, .ref 61), (1, .int x1), (2, .int x2)] [] (mH h s) Q) {Q : Option Value → zz_H → Prop} {x1 : Int32} {y0 : Int32} {s s' : mS} {v : Option Value} (hf : mf_285_183 N rc x1 y0 s = some (s', v)) (k : Q v (mH h s')) : zz_E zp_P zt_tf zt_fd X (d + 8) zm_285 183 [(0, .ref 61), (1, .int x1)] [.int y0] (mH h s) Q := by
  unfold mf_285_183 at hf
  refine mb_285_183 hh  (fun c => ?_) (fun c => ?_)
  · rw [if_pos c] at hf
    exact mr_285_210 hh hrc0 hf k
  · rw [if_neg c] at hf
    exact mr_285_187 hh hrc0 hf k
def mf_285_169 (N : Nat) (rc : Nat → Int32 → Int32 → mS → mO) (x1 : Int32) (s : mS) : mO := if ¬ (((s.1 44) - 1) < 0 ∨ 80 ≤ Int32.toNatClampNeg ((s.1 44) - 1)) then (mo_bi (mf_282 N ((s.2.2.1 39) (Int32.toNatClampNeg ((s.1 44) - 1))) s) (fun s1 y => mf_285_183 N rc x1 y s1)) else none
theorem mr_285_169 {X : Nat → Option zz_C} {h : zz_H} (hh : 111 ≤ h.length) {d : Nat} {N : Nat} {rc : Nat → Int32 → Int32 → mS → mO} (hrc0 : ∀ {Q : Option Value → zz_H → Prop} {x1 : Int32} {x2 : Int32} {s s' : mS} {v : Option Value}, rc 0 x1 x2 s = some (s', v) → Q v (mH h s') → zz_E zp_P zt_tf zt_fd X (d + 8) zm_285 7 [(0, .ref 61), (1, .int x1), (2, .int x2)] [] (mH h s) Q) {Q : Option Value → zz_H → Prop} {x1 : Int32} {s s' : mS} {v : Option Value} (hf : mf_285_169 N rc x1 s = some (s', v)) (k : Q v (mH h s')) : zz_E zp_P zt_tf zt_fd X (d + 8) zm_285 169 [(0, .ref 61), (1, .int x1)] [] (mH h s) Q := by
  unfold mf_285_169 at hf
  obtain ⟨q0, hf⟩ := mo_if hf
  obtain ⟨s1, y, e, hf⟩ := mo_bi_ok hf
  exact mb_285_169 (d := d + 7) hh q0 (mr_282 (d := d + 7) hh e (mr_285_183 hh hrc0 hf k))
def mf_285_166 (N : Nat) (rc : Nat → Int32 → Int32 → mS → mO) (x1 : Int32) (y0 : Int32) (s : mS) : mO := if y0 = 0 then mf_285_187 N rc x1 s else mf_285_169 N rc x1 s
theorem mr_285_166 {X : Nat → Option zz_C} {h : zz_H} (hh : 111 ≤ h.length) {d : Nat} {N : Nat} {rc : Nat → Int32 → Int32 → mS → mO} (hrc0 : ∀ {Q : Option Value → zz_H → Prop} {x1 : Int32} {x2 : Int32} {s s' : mS} {v : Option Value}, rc 0 x1 x2 s = some (s', v) → Q v (mH h s') → zz_E zp_P zt_tf zt_fd X (d + 8) zm_285 7 [(0, .ref 61), (1, .int x1), (2, .int x2)] [] (mH h s) Q) {Q : Option Value → zz_H → Prop} {x1 : Int32} {y0 : Int32} {s s' : mS} {v : Option Value} (hf : mf_285_166 N rc x1 y0 s = some (s', v)) (k : Q v (mH h s')) : zz_E zp_P zt_tf zt_fd X (d + 8) zm_285 166 [(0, .ref 61), (1, .int x1)] [.int y0] (mH h s) Q := by
  unfold mf_285_166 at hf
  refine mb_285_166 hh  (fun c => ?_) (fun c => ?_)
  · rw [if_pos c] at hf
    exact mr_285_187 hh hrc0 hf k
  · rw [if_neg c] at hf
    exact mr_285_169 hh hrc0 hf k
def mf_285_161 (N : Nat) (rc : Nat → Int32 → Int32 → mS → mO) (x1 : Int32) (s : mS) : mO := mo_bi (mf_283 N 1 s) (fun s1 y => mf_285_166 N rc x1 y s1)
theorem mr_285_161 {X : Nat → Option zz_C} {h : zz_H} (hh : 111 ≤ h.length) {d : Nat} {N : Nat} {rc : Nat → Int32 → Int32 → mS → mO} (hrc0 : ∀ {Q : Option Value → zz_H → Prop} {x1 : Int32} {x2 : Int32} {s s' : mS} {v : Option Value}, rc 0 x1 x2 s = some (s', v) → Q v (mH h s') → zz_E zp_P zt_tf zt_fd X (d + 8) zm_285 7 [(0, .ref 61), (1, .int x1), (2, .int x2)] [] (mH h s) Q) {Q : Option Value → zz_H → Prop} {x1 : Int32} {s s' : mS} {v : Option Value} (hf : mf_285_161 N rc x1 s = some (s', v)) (k : Q v (mH h s')) : zz_E zp_P zt_tf zt_fd X (d + 8) zm_285 161 [(0, .ref 61), (1, .int x1)] [] (mH h s) Q := by
  unfold mf_285_161 at hf
  obtain ⟨s1, y, e, hf⟩ := mo_bi_ok hf
  exact mb_285_161 (d := d + 7) hh  (mr_283 (d := d + 7) hh e (mr_285_166 hh hrc0 hf k))
def mf_285_156 (N : Nat) (rc : Nat → Int32 → Int32 → mS → mO) (x1 : Int32) (x3 : Int32) (s : mS) : mO := if ¬ x3 = 1 then mf_285_187 N rc x1 s else mf_285_161 N rc x1 s
theorem mr_285_156 {X : Nat → Option zz_C} {h : zz_H} (hh : 111 ≤ h.length) {d : Nat} {N : Nat} {rc : Nat → Int32 → Int32 → mS → mO} (hrc0 : ∀ {Q : Option Value → zz_H → Prop} {x1 : Int32} {x2 : Int32} {s s' : mS} {v : Option Value}, rc 0 x1 x2 s = some (s', v) → Q v (mH h s') → zz_E zp_P zt_tf zt_fd X (d + 8) zm_285 7 [(0, .ref 61), (1, .int x1), (2, .int x2)] [] (mH h s) Q) {Q : Option Value → zz_H → Prop} {x1 : Int32} {x3 : Int32} {s s' : mS} {v : Option Value} (hf : mf_285_156 N rc x1 x3 s = some (s', v)) (k : Q v (mH h s')) : zz_E zp_P zt_tf zt_fd X (d + 8) zm_285 156 [(0, .ref 61), (1, .int x1), (3, .int x3)] [] (mH h s) Q := by
  unfold mf_285_156 at hf
  refine mb_285_156 hh  (fun c => ?_) (fun c => ?_)
  · rw [if_pos c] at hf
    exact mr_285_187 hh hrc0 hf k
  · rw [if_neg c] at hf
    exact mr_285_161 hh hrc0 hf k
def mf_285_152 (N : Nat) (rc : Nat → Int32 → Int32 → mS → mO) (x1 : Int32) (x3 : Int32) (s : mS) : mO := if x3 < 0 then mf_285_210 N rc x1 s else mf_285_156 N rc x1 x3 s
theorem mr_285_152 {X : Nat → Option zz_C} {h : zz_H} (hh : 111 ≤ h.length) {d : Nat} {N : Nat} {rc : Nat → Int32 → Int32 → mS → mO} (hrc0 : ∀ {Q : Option Value → zz_H → Prop} {x1 : Int32} {x2 : Int32} {s s' : mS} {v : Option Value}, rc 0 x1 x2 s = some (s', v) → Q v (mH h s') → zz_E zp_P zt_tf zt_fd X (d + 8) zm_285 7 [(0, .ref 61), (1, .int x1), (2, .int x2)] [] (mH h s) Q) {Q : Option Value → zz_H → Prop} {x1 : Int32} {x3 : Int32} {s s' : mS} {v : Option Value} (hf : mf_285_152 N rc x1 x3 s = some (s', v)) (k : Q v (mH h s')) : zz_E zp_P zt_tf zt_fd X (d + 8) zm_285 152 [(0, .ref 61), (1, .int x1), (3, .int x3)] [] (mH h s) Q := by
  unfold mf_285_152 at hf
  refine mb_285_152 hh  (fun c => ?_) (fun c => ?_)
  · rw [if_pos c] at hf
    exact mr_285_210 hh hrc0 hf k
  · rw [if_neg c] at hf
    exact mr_285_156 hh hrc0 hf k
def mf_285_149 (N : Nat) (rc : Nat → Int32 → Int32 → mS → mO) (x1 : Int32) (x3 : Int32) (y1 : Int32) (s : mS) : mO := mo_bv (mf_284 N y1 s) (fun s1 => mf_285_152 N rc x1 x3 s1)
theorem mr_285_149 {X : Nat → Option zz_C} {h : zz_H} (hh : 111 ≤ h.length) {d : Nat} {N : Nat} {rc : Nat → Int32 → Int32 → mS → mO} (hrc0 : ∀ {Q : Option Value → zz_H → Prop} {x1 : Int32} {x2 : Int32} {s s' : mS} {v : Option Value}, rc 0 x1 x2 s = some (s', v) → Q v (mH h s') → zz_E zp_P zt_tf zt_fd X (d + 8) zm_285 7 [(0, .ref 61), (1, .int x1), (2, .int x2)] [] (mH h s) Q) {Q : Option Value → zz_H → Prop} {x1 : Int32} {x3 : Int32} {y1 : Int32} {s s' : mS} {v : Option Value} (hf : mf_285_149 N rc x1 x3 y1 s = some (s', v)) (k : Q v (mH h s')) : zz_E zp_P zt_tf zt_fd X (d + 8) zm_285 149 [(0, .ref 61), (1, .int x1), (3, .int x3)] [.int y1, .ref 61] (mH h s) Q := by
  unfold mf_285_149 at hf
  obtain ⟨s1, e, hf⟩ := mo_bv_ok hf
  exact mb_285_149 (d := d + 7) hh  (mr_284 (d := d + 6) hh e (mr_285_152 hh hrc0 hf k))
def mf_285_148 (N : Nat) (rc : Nat → Int32 → Int32 → mS → mO) (x1 : Int32) (x3 : Int32) (s : mS) : mO := mf_285_149 N rc x1 x3 x3 s
theorem mr_285_148 {X : Nat → Option zz_C} {h : zz_H} (hh : 111 ≤ h.length) {d : Nat} {N : Nat} {rc : Nat → Int32 → Int32 → mS → mO} (hrc0 : ∀ {Q : Option Value → zz_H → Prop} {x1 : Int32} {x2 : Int32} {s s' : mS} {v : Option Value}, rc 0 x1 x2 s = some (s', v) → Q v (mH h s') → zz_E zp_P zt_tf zt_fd X (d + 8) zm_285 7 [(0, .ref 61), (1, .int x1), (2, .int x2)] [] (mH h s) Q) {Q : Option Value → zz_H → Prop} {x1 : Int32} {x3 : Int32} {s s' : mS} {v : Option Value} (hf : mf_285_148 N rc x1 x3 s = some (s', v)) (k : Q v (mH h s')) : zz_E zp_P zt_tf zt_fd X (d + 8) zm_285 148 [(0, .ref 61), (1, .int x1), (3, .int x3)] [.ref 61] (mH h s) Q := by
  unfold mf_285_148 at hf
  exact mb_285_148 hh  (mr_285_149 hh hrc0 hf k)
def mf_285_144 (N : Nat) (rc : Nat → Int32 → Int32 → mS → mO) (x1 : Int32) (x3 : Int32) (s : mS) : mO := mf_285_149 N rc x1 x3 2 s
theorem mr_285_144 {X : Nat → Option zz_C} {h : zz_H} (hh : 111 ≤ h.length) {d : Nat} {N : Nat} {rc : Nat → Int32 → Int32 → mS → mO} (hrc0 : ∀ {Q : Option Value → zz_H → Prop} {x1 : Int32} {x2 : Int32} {s s' : mS} {v : Option Value}, rc 0 x1 x2 s = some (s', v) → Q v (mH h s') → zz_E zp_P zt_tf zt_fd X (d + 8) zm_285 7 [(0, .ref 61), (1, .int x1), (2, .int x2)] [] (mH h s) Q) {Q : Option Value → zz_H → Prop} {x1 : Int32} {x3 : Int32} {s s' : mS} {v : Option Value} (hf : mf_285_144 N rc x1 x3 s = some (s', v)) (k : Q v (mH h s')) : zz_E zp_P zt_tf zt_fd X (d + 8) zm_285 144 [(0, .ref 61), (1, .int x1), (3, .int x3)] [.ref 61] (mH h s) Q := by
  unfold mf_285_144 at hf
  exact mb_285_144 hh  (mr_285_149 hh hrc0 hf k)
def mf_285_138 (N : Nat) (rc : Nat → Int32 → Int32 → mS → mO) (x1 : Int32) (x3 : Int32) (s : mS) : mO := if ¬ x3 = 1 then mf_285_148 N rc x1 x3 s else mf_285_144 N rc x1 x3 s
theorem mr_285_138 {X : Nat → Option zz_C} {h : zz_H} (hh : 111 ≤ h.length) {d : Nat} {N : Nat} {rc : Nat → Int32 → Int32 → mS → mO} (hrc0 : ∀ {Q : Option Value → zz_H → Prop} {x1 : Int32} {x2 : Int32} {s s' : mS} {v : Option Value}, rc 0 x1 x2 s = some (s', v) → Q v (mH h s') → zz_E zp_P zt_tf zt_fd X (d + 8) zm_285 7 [(0, .ref 61), (1, .int x1), (2, .int x2)] [] (mH h s) Q) {Q : Option Value → zz_H → Prop} {x1 : Int32} {x3 : Int32} {s s' : mS} {v : Option Value} (hf : mf_285_138 N rc x1 x3 s = some (s', v)) (k : Q v (mH h s')) : zz_E zp_P zt_tf zt_fd X (d + 8) zm_285 138 [(0, .ref 61), (1, .int x1), (3, .int x3)] [] (mH h s) Q := by
  unfold mf_285_138 at hf
  refine mb_285_138 hh  (fun c => ?_) (fun c => ?_)
  · rw [if_pos c] at hf
    exact mr_285_148 hh hrc0 hf k
  · rw [if_neg c] at hf
    exact mr_285_144 hh hrc0 hf k
def mf_285_133 (N : Nat) (rc : Nat → Int32 → Int32 → mS → mO) (x1 : Int32) (y0 : Int32) (s : mS) : mO := if y0 < 0 then mf_285_152 N rc x1 y0 s else mf_285_138 N rc x1 y0 s
theorem mr_285_133 {X : Nat → Option zz_C} {h : zz_H} (hh : 111 ≤ h.length) {d : Nat} {N : Nat} {rc : Nat → Int32 → Int32 → mS → mO} (hrc0 : ∀ {Q : Option Value → zz_H → Prop} {x1 : Int32} {x2 : Int32} {s s' : mS} {v : Option Value}, rc 0 x1 x2 s = some (s', v) → Q v (mH h s') → zz_E zp_P zt_tf zt_fd X (d + 8) zm_285 7 [(0, .ref 61), (1, .int x1), (2, .int x2)] [] (mH h s) Q) {Q : Option Value → zz_H → Prop} {x1 : Int32} {y0 : Int32} {s s' : mS} {v : Option Value} (hf : mf_285_133 N rc x1 y0 s = some (s', v)) (k : Q v (mH h s')) : zz_E zp_P zt_tf zt_fd X (d + 8) zm_285 133 [(0, .ref 61), (1, .int x1)] [.int y0] (mH h s) Q := by
  unfold mf_285_133 at hf
  refine mb_285_133 hh  (fun c => ?_) (fun c => ?_)
  · rw [if_pos c] at hf
    exact mr_285_152 hh hrc0 hf k
  · rw [if_neg c] at hf
    exact mr_285_138 hh hrc0 hf k
def mf_285_132 (N : Nat) (rc : Nat → Int32 → Int32 → mS → mO) (x1 : Int32) (s : mS) : mO := mf_285_133 N rc x1 (-1) s
theorem mr_285_132 {X : Nat → Option zz_C} {h : zz_H} (hh : 111 ≤ h.length) {d : Nat} {N : Nat} {rc : Nat → Int32 → Int32 → mS → mO} (hrc0 : ∀ {Q : Option Value → zz_H → Prop} {x1 : Int32} {x2 : Int32} {s s' : mS} {v : Option Value}, rc 0 x1 x2 s = some (s', v) → Q v (mH h s') → zz_E zp_P zt_tf zt_fd X (d + 8) zm_285 7 [(0, .ref 61), (1, .int x1), (2, .int x2)] [] (mH h s) Q) {Q : Option Value → zz_H → Prop} {x1 : Int32} {s s' : mS} {v : Option Value} (hf : mf_285_132 N rc x1 s = some (s', v)) (k : Q v (mH h s')) : zz_E zp_P zt_tf zt_fd X (d + 8) zm_285 132 [(0, .ref 61), (1, .int x1)] [] (mH h s) Q := by
  unfold mf_285_132 at hf
  exact mb_285_132 hh  (mr_285_133 hh hrc0 hf k)
def mf_285_129 (N : Nat) (rc : Nat → Int32 → Int32 → mS → mO) (x1 : Int32) (y0 : Int32) (s : mS) : mO := mf_285_133 N rc x1 y0 s
theorem mr_285_129 {X : Nat → Option zz_C} {h : zz_H} (hh : 111 ≤ h.length) {d : Nat} {N : Nat} {rc : Nat → Int32 → Int32 → mS → mO} (hrc0 : ∀ {Q : Option Value → zz_H → Prop} {x1 : Int32} {x2 : Int32} {s s' : mS} {v : Option Value}, rc 0 x1 x2 s = some (s', v) → Q v (mH h s') → zz_E zp_P zt_tf zt_fd X (d + 8) zm_285 7 [(0, .ref 61), (1, .int x1), (2, .int x2)] [] (mH h s) Q) {Q : Option Value → zz_H → Prop} {x1 : Int32} {y0 : Int32} {s s' : mS} {v : Option Value} (hf : mf_285_129 N rc x1 y0 s = some (s', v)) (k : Q v (mH h s')) : zz_E zp_P zt_tf zt_fd X (d + 8) zm_285 129 [(0, .ref 61), (1, .int x1)] [.int y0] (mH h s) Q := by
  unfold mf_285_129 at hf
  exact mb_285_129 hh  (mr_285_133 hh hrc0 hf k)
def mf_285_121 (N : Nat) (rc : Nat → Int32 → Int32 → mS → mO) (x1 : Int32) (s : mS) : mO := mo_bi (mf_282 N (Int64.toInt32 (s.2.1 7)) s) (fun s1 y => mf_285_129 N rc x1 y s1)
theorem mr_285_121 {X : Nat → Option zz_C} {h : zz_H} (hh : 111 ≤ h.length) {d : Nat} {N : Nat} {rc : Nat → Int32 → Int32 → mS → mO} (hrc0 : ∀ {Q : Option Value → zz_H → Prop} {x1 : Int32} {x2 : Int32} {s s' : mS} {v : Option Value}, rc 0 x1 x2 s = some (s', v) → Q v (mH h s') → zz_E zp_P zt_tf zt_fd X (d + 8) zm_285 7 [(0, .ref 61), (1, .int x1), (2, .int x2)] [] (mH h s) Q) {Q : Option Value → zz_H → Prop} {x1 : Int32} {s s' : mS} {v : Option Value} (hf : mf_285_121 N rc x1 s = some (s', v)) (k : Q v (mH h s')) : zz_E zp_P zt_tf zt_fd X (d + 8) zm_285 121 [(0, .ref 61), (1, .int x1)] [] (mH h s) Q := by
  unfold mf_285_121 at hf
  obtain ⟨s1, y, e, hf⟩ := mo_bi_ok hf
  exact mb_285_121 (d := d + 7) hh  (mr_282 (d := d + 7) hh e (mr_285_129 hh hrc0 hf k))
def mf_285_113 (N : Nat) (rc : Nat → Int32 → Int32 → mS → mO) (x1 : Int32) (s : mS) : mO := if ¬ (s.1 5) = 3 then mf_285_132 N rc x1 s else mf_285_121 N rc x1 s
theorem mr_285_113 {X : Nat → Option zz_C} {h : zz_H} (hh : 111 ≤ h.length) {d : Nat} {N : Nat} {rc : Nat → Int32 → Int32 → mS → mO} (hrc0 : ∀ {Q : Option Value → zz_H → Prop} {x1 : Int32} {x2 : Int32} {s s' : mS} {v : Option Value}, rc 0 x1 x2 s = some (s', v) → Q v (mH h s') → zz_E zp_P zt_tf zt_fd X (d + 8) zm_285 7 [(0, .ref 61), (1, .int x1), (2, .int x2)] [] (mH h s) Q) {Q : Option Value → zz_H → Prop} {x1 : Int32} {s s' : mS} {v : Option Value} (hf : mf_285_113 N rc x1 s = some (s', v)) (k : Q v (mH h s')) : zz_E zp_P zt_tf zt_fd X (d + 8) zm_285 113 [(0, .ref 61), (1, .int x1)] [] (mH h s) Q := by
  unfold mf_285_113 at hf
  refine mb_285_113 hh  (fun c => ?_) (fun c => ?_)
  · rw [if_pos c] at hf
    exact mr_285_132 hh hrc0 hf k
  · rw [if_neg c] at hf
    exact mr_285_121 hh hrc0 hf k
def mf_285_112 (N : Nat) (rc : Nat → Int32 → Int32 → mS → mO) (x1 : Int32) (y0 : Int32) (s : mS) : mO := mf_285_113 N rc x1 s
theorem mr_285_112 {X : Nat → Option zz_C} {h : zz_H} (hh : 111 ≤ h.length) {d : Nat} {N : Nat} {rc : Nat → Int32 → Int32 → mS → mO} (hrc0 : ∀ {Q : Option Value → zz_H → Prop} {x1 : Int32} {x2 : Int32} {s s' : mS} {v : Option Value}, rc 0 x1 x2 s = some (s', v) → Q v (mH h s') → zz_E zp_P zt_tf zt_fd X (d + 8) zm_285 7 [(0, .ref 61), (1, .int x1), (2, .int x2)] [] (mH h s) Q) {Q : Option Value → zz_H → Prop} {x1 : Int32} {y0 : Int32} {s s' : mS} {v : Option Value} (hf : mf_285_112 N rc x1 y0 s = some (s', v)) (k : Q v (mH h s')) : zz_E zp_P zt_tf zt_fd X (d + 8) zm_285 112 [(0, .ref 61), (1, .int x1)] [.int y0] (mH h s) Q := by
  unfold mf_285_112 at hf
  exact mb_285_112 hh  (mr_285_113 hh hrc0 hf k)
def mf_285_78 (N : Nat) (rc : Nat → Int32 → Int32 → mS → mO) (x1 : Int32) (s : mS) : mO := if ¬ (((s.1 44) - 1) < 0 ∨ 80 ≤ Int32.toNatClampNeg ((s.1 44) - 1)) then (if ¬ (((s.1 44) - 1) < 0 ∨ 80 ≤ Int32.toNatClampNeg ((s.1 44) - 1)) then (mo_bi (mf_271 N 4 ((s.2.2.1 39) (Int32.toNatClampNeg ((s.1 44) - 1))) 0 ((s.2.2.1 41) (Int32.toNatClampNeg ((s.1 44) - 1))) (mI s 44 ((s.1 44) - 1))) (fun s1 y => mf_285_112 N rc x1 y s1)) else none) else none
theorem mr_285_78 {X : Nat → Option zz_C} {h : zz_H} (hh : 111 ≤ h.length) {d : Nat} {N : Nat} {rc : Nat → Int32 → Int32 → mS → mO} (hrc0 : ∀ {Q : Option Value → zz_H → Prop} {x1 : Int32} {x2 : Int32} {s s' : mS} {v : Option Value}, rc 0 x1 x2 s = some (s', v) → Q v (mH h s') → zz_E zp_P zt_tf zt_fd X (d + 8) zm_285 7 [(0, .ref 61), (1, .int x1), (2, .int x2)] [] (mH h s) Q) {Q : Option Value → zz_H → Prop} {x1 : Int32} {s s' : mS} {v : Option Value} (hf : mf_285_78 N rc x1 s = some (s', v)) (k : Q v (mH h s')) : zz_E zp_P zt_tf zt_fd X (d + 8) zm_285 78 [(0, .ref 61), (1, .int x1)] [] (mH h s) Q := by
  unfold mf_285_78 at hf
  obtain ⟨q0, hf⟩ := mo_if hf
  obtain ⟨q1, hf⟩ := mo_if hf
  obtain ⟨s1, y, e, hf⟩ := mo_bi_ok hf
  exact mb_285_78 (d := d + 7) hh q0 q1 (mr_271 (d := d + 7) hh e (mr_285_112 hh hrc0 hf k))
def mf_285_75 (N : Nat) (rc : Nat → Int32 → Int32 → mS → mO) (x1 : Int32) (y0 : Int32) (s : mS) : mO := if y0 = 0 then mf_285_113 N rc x1 s else mf_285_78 N rc x1 s
theorem mr_285_75 {X : Nat → Option zz_C} {h : zz_H} (hh : 111 ≤ h.length) {d : Nat} {N : Nat} {rc : Nat → Int32 → Int32 → mS → mO} (hrc0 : ∀ {Q : Option Value → zz_H → Prop} {x1 : Int32} {x2 : Int32} {s s' : mS} {v : Option Value}, rc 0 x1 x2 s = some (s', v) → Q v (mH h s') → zz_E zp_P zt_tf zt_fd X (d + 8) zm_285 7 [(0, .ref 61), (1, .int x1), (2, .int x2)] [] (mH h s) Q) {Q : Option Value → zz_H → Prop} {x1 : Int32} {y0 : Int32} {s s' : mS} {v : Option Value} (hf : mf_285_75 N rc x1 y0 s = some (s', v)) (k : Q v (mH h s')) : zz_E zp_P zt_tf zt_fd X (d + 8) zm_285 75 [(0, .ref 61), (1, .int x1)] [.int y0] (mH h s) Q := by
  unfold mf_285_75 at hf
  refine mb_285_75 hh  (fun c => ?_) (fun c => ?_)
  · rw [if_pos c] at hf
    exact mr_285_113 hh hrc0 hf k
  · rw [if_neg c] at hf
    exact mr_285_78 hh hrc0 hf k
def mf_285_70 (N : Nat) (rc : Nat → Int32 → Int32 → mS → mO) (x1 : Int32) (s : mS) : mO := mo_bi (mf_283 N 2 s) (fun s1 y => mf_285_75 N rc x1 y s1)
theorem mr_285_70 {X : Nat → Option zz_C} {h : zz_H} (hh : 111 ≤ h.length) {d : Nat} {N : Nat} {rc : Nat → Int32 → Int32 → mS → mO} (hrc0 : ∀ {Q : Option Value → zz_H → Prop} {x1 : Int32} {x2 : Int32} {s s' : mS} {v : Option Value}, rc 0 x1 x2 s = some (s', v) → Q v (mH h s') → zz_E zp_P zt_tf zt_fd X (d + 8) zm_285 7 [(0, .ref 61), (1, .int x1), (2, .int x2)] [] (mH h s) Q) {Q : Option Value → zz_H → Prop} {x1 : Int32} {s s' : mS} {v : Option Value} (hf : mf_285_70 N rc x1 s = some (s', v)) (k : Q v (mH h s')) : zz_E zp_P zt_tf zt_fd X (d + 8) zm_285 70 [(0, .ref 61), (1, .int x1)] [] (mH h s) Q := by
  unfold mf_285_70 at hf
  obtain ⟨s1, y, e, hf⟩ := mo_bi_ok hf
  exact mb_285_70 (d := d + 7) hh  (mr_283 (d := d + 7) hh e (mr_285_75 hh hrc0 hf k))
def mf_285_65 (N : Nat) (rc : Nat → Int32 → Int32 → mS → mO) (x1 : Int32) (s : mS) : mO := rc 0 x1 0 s
theorem mr_285_65 {X : Nat → Option zz_C} {h : zz_H} (hh : 111 ≤ h.length) {d : Nat} {N : Nat} {rc : Nat → Int32 → Int32 → mS → mO} (hrc0 : ∀ {Q : Option Value → zz_H → Prop} {x1 : Int32} {x2 : Int32} {s s' : mS} {v : Option Value}, rc 0 x1 x2 s = some (s', v) → Q v (mH h s') → zz_E zp_P zt_tf zt_fd X (d + 8) zm_285 7 [(0, .ref 61), (1, .int x1), (2, .int x2)] [] (mH h s) Q) {Q : Option Value → zz_H → Prop} {x1 : Int32} {s s' : mS} {v : Option Value} (hf : mf_285_65 N rc x1 s = some (s', v)) (k : Q v (mH h s')) : zz_E zp_P zt_tf zt_fd X (d + 8) zm_285 65 [(0, .ref 61), (1, .int x1)] [] (mH h s) Q := by
  unfold mf_285_65 at hf
  exact mb_285_65 hh  (hrc0 hf k)
def mf_285_58 (N : Nat) (rc : Nat → Int32 → Int32 → mS → mO) (x1 : Int32) (x3 : Int32) (s : mS) : mO := mo_bv (mf_281 N 4 0 x3 s) (fun s1 => mf_285_65 N rc x1 s1)
theorem mr_285_58 {X : Nat → Option zz_C} {h : zz_H} (hh : 111 ≤ h.length) {d : Nat} {N : Nat} {rc : Nat → Int32 → Int32 → mS → mO} (hrc0 : ∀ {Q : Option Value → zz_H → Prop} {x1 : Int32} {x2 : Int32} {s s' : mS} {v : Option Value}, rc 0 x1 x2 s = some (s', v) → Q v (mH h s') → zz_E zp_P zt_tf zt_fd X (d + 8) zm_285 7 [(0, .ref 61), (1, .int x1), (2, .int x2)] [] (mH h s) Q) {Q : Option Value → zz_H → Prop} {x1 : Int32} {x3 : Int32} {s s' : mS} {v : Option Value} (hf : mf_285_58 N rc x1 x3 s = some (s', v)) (k : Q v (mH h s')) : zz_E zp_P zt_tf zt_fd X (d + 8) zm_285 58 [(0, .ref 61), (1, .int x1), (3, .int x3)] [] (mH h s) Q := by
  unfold mf_285_58 at hf
  obtain ⟨s1, e, hf⟩ := mo_bv_ok hf
  exact mb_285_58 (d := d + 7) hh  (mr_281 (d := d + 7) hh e (mr_285_65 hh hrc0 hf k))
def mf_285_47 (N : Nat) (rc : Nat → Int32 → Int32 → mS → mO) (x1 : Int32) (s : mS) : mO := mo_bv (mf_268 N 91 s) (fun s1 => mf_285_58 N rc x1 (s.1 6) s1)
theorem mr_285_47 {X : Nat → Option zz_C} {h : zz_H} (hh : 111 ≤ h.length) {d : Nat} {N : Nat} {rc : Nat → Int32 → Int32 → mS → mO} (hrc0 : ∀ {Q : Option Value → zz_H → Prop} {x1 : Int32} {x2 : Int32} {s s' : mS} {v : Option Value}, rc 0 x1 x2 s = some (s', v) → Q v (mH h s') → zz_E zp_P zt_tf zt_fd X (d + 8) zm_285 7 [(0, .ref 61), (1, .int x1), (2, .int x2)] [] (mH h s) Q) {Q : Option Value → zz_H → Prop} {x1 : Int32} {s s' : mS} {v : Option Value} (hf : mf_285_47 N rc x1 s = some (s', v)) (k : Q v (mH h s')) : zz_E zp_P zt_tf zt_fd X (d + 8) zm_285 47 [(0, .ref 61), (1, .int x1)] [] (mH h s) Q := by
  unfold mf_285_47 at hf
  obtain ⟨s1, e, hf⟩ := mo_bv_ok hf
  exact mb_285_47 (d := d + 7) hh  (mr_268 (d := d + 3) hh e (mr_285_58 hh hrc0 hf k))
def mf_285_44 (N : Nat) (rc : Nat → Int32 → Int32 → mS → mO) (x1 : Int32) (y0 : Int32) (s : mS) : mO := if y0 = 0 then mf_285_70 N rc x1 s else mf_285_47 N rc x1 s
theorem mr_285_44 {X : Nat → Option zz_C} {h : zz_H} (hh : 111 ≤ h.length) {d : Nat} {N : Nat} {rc : Nat → Int32 → Int32 → mS → mO} (hrc0 : ∀ {Q : Option Value → zz_H → Prop} {x1 : Int32} {x2 : Int32} {s s' : mS} {v : Option Value}, rc 0 x1 x2 s = some (s', v) → Q v (mH h s') → zz_E zp_P zt_tf zt_fd X (d + 8) zm_285 7 [(0, .ref 61), (1, .int x1), (2, .int x2)] [] (mH h s) Q) {Q : Option Value → zz_H → Prop} {x1 : Int32} {y0 : Int32} {s s' : mS} {v : Option Value} (hf : mf_285_44 N rc x1 y0 s = some (s', v)) (k : Q v (mH h s')) : zz_E zp_P zt_tf zt_fd X (d + 8) zm_285 44 [(0, .ref 61), (1, .int x1)] [.int y0] (mH h s) Q := by
  unfold mf_285_44 at hf
  refine mb_285_44 hh  (fun c => ?_) (fun c => ?_)
  · rw [if_pos c] at hf
    exact mr_285_70 hh hrc0 hf k
  · rw [if_neg c] at hf
    exact mr_285_47 hh hrc0 hf k
def mf_285_38 (N : Nat) (rc : Nat → Int32 → Int32 → mS → mO) (x1 : Int32) (s : mS) : mO := mo_bi (mf_263 N 91 s) (fun s1 y => mf_285_44 N rc x1 y s1)
theorem mr_285_38 {X : Nat → Option zz_C} {h : zz_H} (hh : 111 ≤ h.length) {d : Nat} {N : Nat} {rc : Nat → Int32 → Int32 → mS → mO} (hrc0 : ∀ {Q : Option Value → zz_H → Prop} {x1 : Int32} {x2 : Int32} {s s' : mS} {v : Option Value}, rc 0 x1 x2 s = some (s', v) → Q v (mH h s') → zz_E zp_P zt_tf zt_fd X (d + 8) zm_285 7 [(0, .ref 61), (1, .int x1), (2, .int x2)] [] (mH h s) Q) {Q : Option Value → zz_H → Prop} {x1 : Int32} {s s' : mS} {v : Option Value} (hf : mf_285_38 N rc x1 s = some (s', v)) (k : Q v (mH h s')) : zz_E zp_P zt_tf zt_fd X (d + 8) zm_285 38 [(0, .ref 61), (1, .int x1)] [] (mH h s) Q := by
  unfold mf_285_38 at hf
  obtain ⟨s1, y, e, hf⟩ := mo_bi_ok hf
  exact mb_285_38 (d := d + 7) hh  (mr_263 (d := d + 7) hh e (mr_285_44 hh hrc0 hf k))
def mf_285_30 (N : Nat) (rc : Nat → Int32 → Int32 → mS → mO) (x1 : Int32) (s : mS) : mO := if ¬ (s.1 44) = 0 then mf_285_38 N rc x1 s else mf_285_37 N  s
theorem mr_285_30 {X : Nat → Option zz_C} {h : zz_H} (hh : 111 ≤ h.length) {d : Nat} {N : Nat} {rc : Nat → Int32 → Int32 → mS → mO} (hrc0 : ∀ {Q : Option Value → zz_H → Prop} {x1 : Int32} {x2 : Int32} {s s' : mS} {v : Option Value}, rc 0 x1 x2 s = some (s', v) → Q v (mH h s') → zz_E zp_P zt_tf zt_fd X (d + 8) zm_285 7 [(0, .ref 61), (1, .int x1), (2, .int x2)] [] (mH h s) Q) {Q : Option Value → zz_H → Prop} {x1 : Int32} {s s' : mS} {v : Option Value} (hf : mf_285_30 N rc x1 s = some (s', v)) (k : Q v (mH h s')) : zz_E zp_P zt_tf zt_fd X (d + 8) zm_285 30 [(0, .ref 61), (1, .int x1)] [] (mH h s) Q := by
  unfold mf_285_30 at hf
  refine mb_285_30 hh  (fun c => ?_) (fun c => ?_)
  · rw [if_pos c] at hf
    exact mr_285_38 hh hrc0 hf k
  · rw [if_neg c] at hf
    exact mr_285_37 hh hf k
def mf_285_26 (N : Nat) (rc : Nat → Int32 → Int32 → mS → mO) (x1 : Int32) (s : mS) : mO := if x1 = 0 then mf_285_38 N rc x1 s else mf_285_30 N rc x1 s
theorem mr_285_26 {X : Nat → Option zz_C} {h : zz_H} (hh : 111 ≤ h.length) {d : Nat} {N : Nat} {rc : Nat → Int32 → Int32 → mS → mO} (hrc0 : ∀ {Q : Option Value → zz_H → Prop} {x1 : Int32} {x2 : Int32} {s s' : mS} {v : Option Value}, rc 0 x1 x2 s = some (s', v) → Q v (mH h s') → zz_E zp_P zt_tf zt_fd X (d + 8) zm_285 7 [(0, .ref 61), (1, .int x1), (2, .int x2)] [] (mH h s) Q) {Q : Option Value → zz_H → Prop} {x1 : Int32} {s s' : mS} {v : Option Value} (hf : mf_285_26 N rc x1 s = some (s', v)) (k : Q v (mH h s')) : zz_E zp_P zt_tf zt_fd X (d + 8) zm_285 26 [(0, .ref 61), (1, .int x1)] [] (mH h s) Q := by
  unfold mf_285_26 at hf
  refine mb_285_26 hh  (fun c => ?_) (fun c => ?_)
  · rw [if_pos c] at hf
    exact mr_285_38 hh hrc0 hf k
  · rw [if_neg c] at hf
    exact mr_285_30 hh hrc0 hf k
def mf_285_14 (N : Nat) (rc : Nat → Int32 → Int32 → mS → mO) (x1 : Int32) (x2 : Int32) (s : mS) : mO := if ¬ x2 = 0 then mf_285_26 N rc x1 s else mf_285_18 N rc x1 s
theorem mr_285_14 {X : Nat → Option zz_C} {h : zz_H} (hh : 111 ≤ h.length) {d : Nat} {N : Nat} {rc : Nat → Int32 → Int32 → mS → mO} (hrc0 : ∀ {Q : Option Value → zz_H → Prop} {x1 : Int32} {x2 : Int32} {s s' : mS} {v : Option Value}, rc 0 x1 x2 s = some (s', v) → Q v (mH h s') → zz_E zp_P zt_tf zt_fd X (d + 8) zm_285 7 [(0, .ref 61), (1, .int x1), (2, .int x2)] [] (mH h s) Q) {Q : Option Value → zz_H → Prop} {x1 : Int32} {x2 : Int32} {s s' : mS} {v : Option Value} (hf : mf_285_14 N rc x1 x2 s = some (s', v)) (k : Q v (mH h s')) : zz_E zp_P zt_tf zt_fd X (d + 8) zm_285 14 [(0, .ref 61), (1, .int x1), (2, .int x2)] [] (mH h s) Q := by
  unfold mf_285_14 at hf
  refine mb_285_14 hh  (fun c => ?_) (fun c => ?_)
  · rw [if_pos c] at hf
    exact mr_285_26 hh hrc0 hf k
  · rw [if_neg c] at hf
    exact mr_285_18 hh hrc0 hf k
def mf_285_7 (N : Nat) (rc : Nat → Int32 → Int32 → mS → mO) (x1 : Int32) (x2 : Int32) (s : mS) : mO := if ¬ (s.1 9) = 0 then mf_285_231 N  s else mf_285_14 N rc x1 x2 s
theorem mr_285_7 {X : Nat → Option zz_C} {h : zz_H} (hh : 111 ≤ h.length) {d : Nat} {N : Nat} {rc : Nat → Int32 → Int32 → mS → mO} (hrc0 : ∀ {Q : Option Value → zz_H → Prop} {x1 : Int32} {x2 : Int32} {s s' : mS} {v : Option Value}, rc 0 x1 x2 s = some (s', v) → Q v (mH h s') → zz_E zp_P zt_tf zt_fd X (d + 8) zm_285 7 [(0, .ref 61), (1, .int x1), (2, .int x2)] [] (mH h s) Q) {Q : Option Value → zz_H → Prop} {x1 : Int32} {x2 : Int32} {s s' : mS} {v : Option Value} (hf : mf_285_7 N rc x1 x2 s = some (s', v)) (k : Q v (mH h s')) : zz_E zp_P zt_tf zt_fd X (d + 8) zm_285 7 [(0, .ref 61), (1, .int x1), (2, .int x2)] [] (mH h s) Q := by
  unfold mf_285_7 at hf
  refine mb_285_7 hh  (fun c => ?_) (fun c => ?_)
  · rw [if_pos c] at hf
    exact mr_285_231 hh hf k
  · rw [if_neg c] at hf
    exact mr_285_14 hh hrc0 hf k
def mf_285_L3 (N : Nat) : Nat → Nat → Int32 → Int32 → mS → mO
  | 0, _, _, _, _ => none
  | n + 1, l, x1, x2, s => if l = 0 then mf_285_7 N (mf_285_L3 N n) x1 x2 s else none
theorem mr_285_L3 {X : Nat → Option zz_C} {h : zz_H} (hh : 111 ≤ h.length) {d : Nat} {N : Nat} : ∀ n : Nat, (∀ {Q : Option Value → zz_H → Prop} {x1 : Int32} {x2 : Int32} {s s' : mS} {v : Option Value}, mf_285_L3 N n 0 x1 x2 s = some (s', v) → Q v (mH h s') → zz_E zp_P zt_tf zt_fd X (d + 8) zm_285 7 [(0, .ref 61), (1, .int x1), (2, .int x2)] [] (mH h s) Q) := by
  intro n
  induction n with
  | zero => exact (fun hf _ => by cases hf)
  | succ n ih =>
    have h0 := @ih
    intro Q _ _ s s' v hf k
    unfold mf_285_L3 at hf
    rw [if_pos rfl] at hf
    exact mr_285_7 hh h0 hf k
def mf_285_0 (N : Nat) (x1 : Int32) (s : mS) : mO := mf_285_L3 N N 0 x1 0 (mI s 44 0)
theorem mr_285_0 {X : Nat → Option zz_C} {h : zz_H} (hh : 111 ≤ h.length) {d : Nat} {N : Nat} {Q : Option Value → zz_H → Prop} {x1 : Int32} {s s' : mS} {v : Option Value} (hf : mf_285_0 N x1 s = some (s', v)) (k : Q v (mH h s')) : zz_E zp_P zt_tf zt_fd X (d + 8) zm_285 0 [(0, .ref 61), (1, .int x1)] [] (mH h s) Q := by
  unfold mf_285_0 at hf
  exact mb_285_0 hh  (mr_285_L3 hh N hf k)
/-- expression -/
def mf_285 (N : Nat) (x1 : Int32) (s : mS) : mO := mf_285_0 N x1 s
theorem mr_285 {X : Nat → Option zz_C} {h : zz_H} (hh : 111 ≤ h.length) {d : Nat} {N : Nat} {Q : Option Value → zz_H → Prop} {x1 : Int32} {s s' : mS} {v : Option Value} (hf : mf_285 N x1 s = some (s', v)) (k : Q v (mH h s')) : zz_E zp_P zt_tf zt_fd X (d + 8) zm_285 0 [(0, .ref 61), (1, .int x1)] [] (mH h s) Q := by
  unfold mf_285 at hf
  exact zz_E.weak (mr_285_0 hh hf k) rfl ⟨rfl, rfl, trivial⟩
/-! puts ()V -/
theorem mb_280_0 {X : Nat → Option zz_C} {h : zz_H} (hh : 111 ≤ h.length) {s : mS} {d : Nat} {Q : Option Value → zz_H → Prop}  (k : zz_E zp_P zt_tf zt_fd X d zm_275 0 [(0, .ref 61)] [] (mH h s) (fun v h' => zz_E zp_P zt_tf zt_fd X (d + 1) zm_280 9 [(0, .ref 61), (1, .int (s.1 6))] (v.toList ++ []) h' Q)) : zz_E zp_P zt_tf zt_fd X (d + 1) zm_280 0 [(0, .ref 61)] [] (mH h s) Q := by
  refine zz_E.n 1 rfl rfl rfl ?_
  refine mE_g hh 4 (v := .int (s.1 6)) rfl rfl rfl ?_
  refine zz_E.n 5 rfl rfl rfl ?_
  refine zz_E.n 6 rfl rfl rfl ?_
  refine mE_cv hh 9 (as := []) rfl rfl (Nat.le_of_ble_eq_true rfl) (Nat.le_of_ble_eq_true rfl) rfl (Nat.le_of_ble_eq_true rfl) rfl ?_
  refine zz_E.mono k ?_
  intro v h' hE
  exact zz_E.weak hE rfl ⟨rfl, rfl, trivial⟩
theorem mb_280_9 {X : Nat → Option zz_C} {h : zz_H} (hh : 111 ≤ h.length) {s : mS} {d : Nat} {Q : Option Value → zz_H → Prop} {x1 : Int32} {y0 : Int32} (k1 : (s.1 9) ≤ 0 → zz_E zp_P zt_tf zt_fd X d zm_280 18 [(0, .ref 61), (1, .int x1), (2, .int y0)] [] (mH h s) Q) (k2 : ¬ (s.1 9) ≤ 0 → zz_E zp_P zt_tf zt_fd X d zm_280 17 [] [] (mH h s) Q) : zz_E zp_P zt_tf zt_fd X d zm_280 9 [(0, .ref 61), (1, .int x1)] [.int y0] (mH h s) Q := by
  refine zz_E.n 10 rfl rfl rfl ?_
  refine zz_E.n 11 rfl rfl rfl ?_
  refine mE_g hh 14 (v := .int (s.1 9)) rfl rfl rfl ?_
  refine zz_E.b1 18 17 (A := (s.1 9) ≤ 0) rfl rfl (by decide) rfl rfl (fun c => ?_) (fun c => ?_)
  · exact zz_E.weak (k1 c) rfl ⟨rfl, rfl, rfl, trivial⟩
  · exact zz_E.weak (k2 c) rfl trivial
theorem mb_280_17 {X : Nat → Option zz_C} {h : zz_H} (hh : 111 ≤ h.length) {s : mS} {d : Nat} {Q : Option Value → zz_H → Prop}  (k : Q none (mH h s)) : zz_E zp_P zt_tf zt_fd X d zm_280 17 [] [] (mH h s) Q := by
  refine zz_E.ret rfl rfl rfl ?_
  exact k
theorem mb_280_18 {X : Nat → Option zz_C} {h : zz_H} (hh : 111 ≤ h.length) {s : mS} {d : Nat} {Q : Option Value → zz_H → Prop} {x1 : Int32} {x2 : Int32} (k : zz_E zp_P zt_tf zt_fd X d zm_263 0 [(0, .ref 61), (1, .int 91)] [] (mH h s) (fun v h' => zz_E zp_P zt_tf zt_fd X (d + 1) zm_280 24 [(0, .ref 61), (1, .int x1), (2, .int x2)] (v.toList ++ []) h' Q)) : zz_E zp_P zt_tf zt_fd X (d + 1) zm_280 18 [(0, .ref 61), (1, .int x1), (2, .int x2)] [] (mH h s) Q := by
  refine zz_E.n 19 rfl rfl rfl ?_
  refine zz_E.c 21 (.int 91) rfl rfl rfl rfl ?_
  refine mE_cv hh 24 (as := []) rfl rfl (Nat.le_of_ble_eq_true rfl) (Nat.le_of_ble_eq_true rfl) rfl (Nat.le_of_ble_eq_true rfl) rfl ?_
  refine zz_E.mono k ?_
  intro v h' hE
  exact zz_E.weak hE rfl ⟨rfl, rfl, rfl, trivial⟩
theorem mb_280_24 {X : Nat → Option zz_C} {h : zz_H} (hh : 111 ≤ h.length) {s : mS} {d : Nat} {Q : Option Value → zz_H → Prop} {x1 : Int32} {x2 : Int32} {y0 : Int32} (k1 : ¬ y0 = 0 → zz_E zp_P zt_tf zt_fd X d zm_280 55 [(0, .ref 61), (1, .int x1), (2, .int x2)] [] (mH h s) Q) (k2 : ¬ ¬ y0 = 0 → zz_E zp_P zt_tf zt_fd X d zm_280 27 [(0, .ref 61), (1, .int x1), (2, .int x2)] [] (mH h s) Q) : zz_E zp_P zt_tf zt_fd X d zm_280 24 [(0, .ref 61), (1, .int x1), (2, .int x2)] [.int y0] (mH h s) Q := by
  refine zz_E.b1 55 27 (A := ¬ y0 = 0) rfl (zz_cond_ne _ _) (by decide) rfl rfl (fun c => ?_) (fun c => ?_)
  · exact zz_E.weak (k1 c) rfl ⟨rfl, rfl, rfl, trivial⟩
  · exact zz_E.weak (k2 c) rfl ⟨rfl, rfl, rfl, trivial⟩
theorem mb_280_27 {X : Nat → Option zz_C} {h : zz_H} (hh : 111 ≤ h.length) {s : mS} {d : Nat} {Q : Option Value → zz_H → Prop} {x1 : Int32} {x2 : Int32} (k : zz_E zp_P zt_tf zt_fd X d zm_267 0 [(0, .ref 61), (1, .int 61)] [] (mH h s) (fun v h' => zz_E zp_P zt_tf zt_fd X (d + 1) zm_280 33 [(0, .ref 61), (1, .int x1), (2, .int x2)] (v.toList ++ []) h' Q)) : zz_E zp_P zt_tf zt_fd X (d + 1) zm_280 27 [(0, .ref 61), (1, .int x1), (2, .int x2)] [] (mH h s) Q := by
  refine zz_E.n 28 rfl rfl rfl ?_
  refine zz_E.c 30 (.int 61) rfl rfl rfl rfl ?_
  refine mE_cv hh 33 (as := []) rfl rfl (Nat.le_of_ble_eq_true rfl) (Nat.le_of_ble_eq_true rfl) rfl (Nat.le_of_ble_eq_true rfl) rfl ?_
  refine zz_E.mono k ?_
  intro v h' hE
  exact zz_E.weak hE rfl ⟨rfl, rfl, rfl, trivial⟩
theorem mb_280_33 {X : Nat → Option zz_C} {h : zz_H} (hh : 111 ≤ h.length) {s : mS} {d : Nat} {Q : Option Value → zz_H → Prop} {x1 : Int32} {x2 : Int32} (k : zz_E zp_P zt_tf zt_fd X d zm_285 0 [(0, .ref 61), (1, .int 0)] [] (mH h s) (fun v h' => zz_E zp_P zt_tf zt_fd X (d + 1) zm_280 38 [(0, .ref 61), (1, .int x1), (2, .int x2)] (v.toList ++ []) h' Q)) : zz_E zp_P zt_tf zt_fd X (d + 1) zm_280 33 [(0, .ref 61), (1, .int x1), (2, .int x2)] [] (mH h s) Q := by
  refine zz_E.n 34 rfl rfl rfl ?_
  refine zz_E.c 35 (.int 0) rfl rfl rfl rfl ?_
  refine mE_cv hh 38 (as := []) rfl rfl (Nat.le_of_ble_eq_true rfl) (Nat.le_of_ble_eq_true rfl) rfl (Nat.le_of_ble_eq_true rfl) rfl ?_
  refine zz_E.mono k ?_
  intro v h' hE
  exact zz_E.weak hE rfl ⟨rfl, rfl, rfl, trivial⟩
theorem mb_280_38 {X : Nat → Option zz_C} {h : zz_H} (hh : 111 ≤ h.length) {s : mS} {d : Nat} {Q : Option Value → zz_H → Prop} {x1 : Int32} {x2 : Int32} (k : zz_E zp_P zt_tf zt_fd X d zm_267 0 [(0, .ref 61), (1, .int 59)] [] (mH h s) (fun v h' => zz_E zp_P zt_tf zt_fd X (d + 1) zm_280 44 [(0, .ref 61), (1, .int x1), (2, .int x2)] (v.toList ++ []) h' Q)) : zz_E zp_P zt_tf zt_fd X (d + 1) zm_280 38 [(0, .ref 61), (1, .int x1), (2, .int x2)] [] (mH h s) Q := by
  refine zz_E.n 39 rfl rfl rfl ?_
  refine zz_E.c 41 (.int 59) rfl rfl rfl rfl ?_
  refine mE_cv hh 44 (as := []) rfl rfl (Nat.le_of_ble_eq_true rfl) (Nat.le_of_ble_eq_true rfl) rfl (Nat.le_of_ble_eq_true rfl) rfl ?_
  refine zz_E.mono k ?_
  intro v h' hE
  exact zz_E.weak hE rfl ⟨rfl, rfl, rfl, trivial⟩
theorem mb_280_44 {X : Nat → Option zz_C} {h : zz_H} (hh : 111 ≤ h.length) {s : mS} {d : Nat} {Q : Option Value → zz_H → Prop} {x1 : Int32} {x2 : Int32} (k : zz_E zp_P zt_tf zt_fd X d zm_271 0 [(0, .ref 61), (1, .int 12), (2, .int x2), (3, .int 0), (4, .int x1)] [] (mH h s) (fun v h' => zz_E zp_P zt_tf zt_fd X (d + 1) zm_280 53 [] (v.toList ++ []) h' Q)) : zz_E zp_P zt_tf zt_fd X (d + 1) zm_280 44 [(0, .ref 61), (1, .int x1), (2, .int x2)] [] (mH h s) Q := by
  refine zz_E.n 45 rfl rfl rfl ?_
  refine zz_E.c 47 (.int 12) rfl rfl rfl rfl ?_
  refine zz_E.n 48 rfl rfl rfl ?_
  refine zz_E.c 49 (.int 0) rfl rfl rfl rfl ?_
  refine zz_E.n 50 rfl rfl rfl ?_
  refine mE_cv hh 53 (as := []) rfl rfl (Nat.le_of_ble_eq_true rfl) (Nat.le_of_ble_eq_true rfl) rfl (Nat.le_of_ble_eq_true rfl) rfl ?_
  refine zz_E.mono k ?_
  intro v h' hE
  exact zz_E.weak hE rfl trivial
theorem mb_280_53 {X : Nat → Option zz_C} {h : zz_H} (hh : 111 ≤ h.length) {s : mS} {d : Nat} {Q : Option Value → zz_H → Prop} {y0 : Int32} (k : Q none (mH h s)) : zz_E zp_P zt_tf zt_fd X d zm_280 53 [] [.int y0] (mH h s) Q := by
  refine zz_E.n 54 rfl rfl rfl ?_
  refine zz_E.ret rfl rfl rfl ?_
  exact k
theorem mb_280_55 {X : Nat → Option zz_C} {h : zz_H} (hh : 111 ≤ h.length) {s : mS} {d : Nat} {Q : Option Value → zz_H → Prop} {x1 : Int32} {x2 : Int32} (k : zz_E zp_P zt_tf zt_fd X d zm_268 0 [(0, .ref 61), (1, .int 91)] [] (mH h s) (fun v h' => zz_E zp_P zt_tf zt_fd X (d + 1) zm_280 69 [(0, .ref 61), (1, .int x1), (2, .int x2), (3, .int (s.1 6)), (4, .int (-1))] (v.toList ++ []) h' Q)) : zz_E zp_P zt_tf zt_fd X (d + 1) zm_280 55 [(0, .ref 61), (1, .int x1), (2, .int x2)] [] (mH h s) Q := by
  refine zz_E.n 56 rfl rfl rfl ?_
  refine mE_g hh 59 (v := .int (s.1 6)) rfl rfl rfl ?_
  refine zz_E.n 60 rfl rfl rfl ?_
  refine zz_E.c 61 (.int (-1)) rfl rfl rfl rfl ?_
  refine zz_E.n 63 rfl rfl rfl ?_
  refine zz_E.n 64 rfl rfl rfl ?_
  refine zz_E.c 66 (.int 91) rfl rfl rfl rfl ?_
  refine mE_cv hh 69 (as := []) rfl rfl (Nat.le_of_ble_eq_true rfl) (Nat.le_of_ble_eq_true rfl) rfl (Nat.le_of_ble_eq_true rfl) rfl ?_
  refine zz_E.mono k ?_
  intro v h' hE
  exact zz_E.weak hE rfl ⟨rfl, rfl, rfl, rfl, rfl, trivial⟩
theorem mb_280_69 {X : Nat → Option zz_C} {h : zz_H} (hh : 111 ≤ h.length) {s : mS} {d : Nat} {Q : Option Value → zz_H → Prop} {x1 : Int32} {x2 : Int32} {x3 : Int32} {x4 : Int32} (k : zz_E zp_P zt_tf zt_fd X d zm_285 0 [(0, .ref 61), (1, .int 0)] [] (mH h s) (fun v h' => zz_E zp_P zt_tf zt_fd X (d + 1) zm_280 74 [(0, .ref 61), (1, .int x1), (2, .int x2), (3, .int x3), (4, .int x4)] (v.toList ++ []) h' Q)) : zz_E zp_P zt_tf zt_fd X (d + 1) zm_280 69 [(0, .ref 61), (1, .int x1), (2, .int x2), (3, .int x3), (4, .int x4)] [] (mH h s) Q := by
  refine zz_E.n 70 rfl rfl rfl ?_
  refine zz_E.c 71 (.int 0) rfl rfl rfl rfl ?_
  refine mE_cv hh 74 (as := []) rfl rfl (Nat.le_of_ble_eq_true rfl) (Nat.le_of_ble_eq_true rfl) rfl (Nat.le_of_ble_eq_true rfl) rfl ?_
  refine zz_E.mono k ?_
  intro v h' hE
  exact zz_E.weak hE rfl ⟨rfl, rfl, rfl, rfl, rfl, trivial⟩
theorem mb_280_74 {X : Nat → Option zz_C} {h : zz_H} (hh : 111 ≤ h.length) {s : mS} {d : Nat} {Q : Option Value → zz_H → Prop} {x1 : Int32} {x2 : Int32} {x3 : Int32} {x4 : Int32} (k : zz_E zp_P zt_tf zt_fd X d zm_267 0 [(0, .ref 61), (1, .int 93)] [] (mH h s) (fun v h' => zz_E zp_P zt_tf zt_fd X (d + 1) zm_280 80 [(0, .ref 61), (1, .int x1), (2, .int x2), (3, .int x3), (4, .int x4)] (v.toList ++ []) h' Q)) : zz_E zp_P zt_tf zt_fd X (d + 1) zm_280 74 [(0, .ref 61), (1, .int x1), (2, .int x2), (3, .int x3), (4, .int x4)] [] (mH h s) Q := by
  refine zz_E.n 75 rfl rfl rfl ?_
  refine zz_E.c 77 (.int 93) rfl rfl rfl rfl ?_
  refine mE_cv hh 80 (as := []) rfl rfl (Nat.le_of_ble_eq_true rfl) (Nat.le_of_ble_eq_true rfl) rfl (Nat.le_of_ble_eq_true rfl) rfl ?_
  refine zz_E.mono k ?_
  intro v h' hE
  exact zz_E.weak hE rfl ⟨rfl, rfl, rfl, rfl, rfl, trivial⟩
theorem mb_280_80 {X : Nat → Option zz_C} {h : zz_H} (hh : 111 ≤ h.length) {s : mS} {d : Nat} {Q : Option Value → zz_H → Prop} {x1 : Int32} {x2 : Int32} {x3 : Int32} {x4 : Int32} (k1 : ¬ (s.1 9) = 0 → zz_E zp_P zt_tf zt_fd X d zm_280 119 [(0, .ref 61), (1, .int x1), (2, .int x2), (3, .int x3), (4, .int x4)] [] (mH h s) Q) (k2 : ¬ ¬ (s.1 9) = 0 → zz_E zp_P zt_tf zt_fd X d zm_280 87 [(0, .ref 61), (1, .int x1), (2, .int x2), (3, .int x3), (4, .int x4)] [] (mH h s) Q) : zz_E zp_P zt_tf zt_fd X d zm_280 80 [(0, .ref 61), (1, .int x1), (2, .int x2), (3, .int x3), (4, .int x4)] [] (mH h s) Q := by
  refine zz_E.n 81 rfl rfl rfl ?_
  refine mE_g hh 84 (v := .int (s.1 9)) rfl rfl rfl ?_
  refine zz_E.b1 119 87 (A := ¬ (s.1 9) = 0) rfl (zz_cond_ne _ _) (by decide) rfl rfl (fun c => ?_) (fun c => ?_)
  · exact zz_E.weak (k1 c) rfl ⟨rfl, rfl, rfl, rfl, rfl, trivial⟩
  · exact zz_E.weak (k2 c) rfl ⟨rfl, rfl, rfl, rfl, rfl, trivial⟩
theorem mb_280_87 {X : Nat → Option zz_C} {h : zz_H} (hh : 111 ≤ h.length) {s : mS} {d : Nat} {Q : Option Value → zz_H → Prop} {x1 : Int32} {x2 : Int32} {x3 : Int32} {x4 : Int32} (k : zz_E zp_P zt_tf zt_fd X d zm_263 0 [(0, .ref 61), (1, .int 91)] [] (mH h s) (fun v h' => zz_E zp_P zt_tf zt_fd X (d + 1) zm_280 93 [(0, .ref 61), (1, .int x1), (2, .int x2), (3, .int x3), (4, .int x4)] (v.toList ++ []) h' Q)) : zz_E zp_P zt_tf zt_fd X (d + 1) zm_280 87 [(0, .ref 61), (1, .int x1), (2, .int x2), (3, .int x3), (4, .int x4)] [] (mH h s) Q := by
  refine zz_E.n 88 rfl rfl rfl ?_
  refine zz_E.c 90 (.int 91) rfl rfl rfl rfl ?_
  refine mE_cv hh 93 (as := []) rfl rfl (Nat.le_of_ble_eq_true rfl) (Nat.le_of_ble_eq_true rfl) rfl (Nat.le_of_ble_eq_true rfl) rfl ?_
  refine zz_E.mono k ?_
  intro v h' hE
  exact zz_E.weak hE rfl ⟨rfl, rfl, rfl, rfl, rfl, trivial⟩
theorem mb_280_93 {X : Nat → Option zz_C} {h : zz_H} (hh : 111 ≤ h.length) {s : mS} {d : Nat} {Q : Option Value → zz_H → Prop} {x1 : Int32} {x2 : Int32} {x3 : Int32} {x4 : Int32} {y0 : Int32} (k1 : y0 = 0 → zz_E zp_P zt_tf zt_fd X d zm_280 119 [(0, .ref 61), (1, .int x1), (2, .int x2), (3, .int x3), (4, .int x4)] [] (mH h s) Q) (k2 : ¬ y0 = 0 → zz_E zp_P zt_tf zt_fd X d zm_280 96 [(0, .ref 61), (1, .int x1), (2, .int x2), (3, .int x3)] [] (mH h s) Q) : zz_E zp_P zt_tf zt_fd X d zm_280 93 [(0, .ref 61), (1, .int x1), (2, .int x2), (3, .int x3), (4, .int x4)] [.int y0] (mH h s) Q := by
  refine zz_E.b1 119 96 (A := y0 = 0) rfl rfl (by decide) rfl rfl (fun c => ?_) (fun c => ?_)
  · exact zz_E.weak (k1 c) rfl ⟨rfl, rfl, rfl, rfl, rfl, trivial⟩
  · exact zz_E.weak (k2 c) rfl ⟨rfl, rfl, rfl, rfl, trivial⟩
theorem mb_280_96 {X : Nat → Option zz_C} {h : zz_H} (hh : 111 ≤ h.length) {s : mS} {d : Nat} {Q : Option Value → zz_H → Prop} {x1 : Int32} {x2 : Int32} {x3 : Int32} (k : zz_E zp_P zt_tf zt_fd X d zm_268 0 [(0, .ref 61), (1, .int 91)] [] (mH h s) (fun v h' => zz_E zp_P zt_tf zt_fd X (d + 1) zm_280 108 [(0, .ref 61), (1, .int x1), (2, .int x2), (3, .int x3), (4, .int (s.1 6))] (v.toList ++ []) h' Q)) : zz_E zp_P zt_tf zt_fd X (d + 1) zm_280 96 [(0, .ref 61), (1, .int x1), (2, .int x2), (3, .int x3)] [] (mH h s) Q := by
  refine zz_E.n 97 rfl rfl rfl ?_
  refine mE_g hh 100 (v := .int (s.1 6)) rfl rfl rfl ?_
  refine zz_E.n 102 rfl rfl rfl ?_
  refine zz_E.n 103 rfl rfl rfl ?_
  refine zz_E.c 105 (.int 91) rfl rfl rfl rfl ?_
  refine mE_cv hh 108 (as := []) rfl rfl (Nat.le_of_ble_eq_true rfl) (Nat.le_of_ble_eq_true rfl) rfl (Nat.le_of_ble_eq_true rfl) rfl ?_
  refine zz_E.mono k ?_
  intro v h' hE
  exact zz_E.weak hE rfl ⟨rfl, rfl, rfl, rfl, rfl, trivial⟩
theorem mb_280_108 {X : Nat → Option zz_C} {h : zz_H} (hh : 111 ≤ h.length) {s : mS} {d : Nat} {Q : Option Value → zz_H → Prop} {x1 : Int32} {x2 : Int32} {x3 : Int32} {x4 : Int32} (k : zz_E zp_P zt_tf zt_fd X d zm_285 0 [(0, .ref 61), (1, .int 0)] [] (mH h s) (fun v h' => zz_E zp_P zt_tf zt_fd X (d + 1) zm_280 113 [(0, .ref 61), (1, .int x1), (2, .int x2), (3, .int x3), (4, .int x4)] (v.toList ++ []) h' Q)) : zz_E zp_P zt_tf zt_fd X (d + 1) zm_280 108 [(0, .ref 61), (1, .int x1), (2, .int x2), (3, .int x3), (4, .int x4)] [] (mH h s) Q := by
  refine zz_E.n 109 rfl rfl rfl ?_
  refine zz_E.c 110 (.int 0) rfl rfl rfl rfl ?_
  refine mE_cv hh 113 (as := []) rfl rfl (Nat.le_of_ble_eq_true rfl) (Nat.le_of_ble_eq_true rfl) rfl (Nat.le_of_ble_eq_true rfl) rfl ?_
  refine zz_E.mono k ?_
  intro v h' hE
  exact zz_E.weak hE rfl ⟨rfl, rfl, rfl, rfl, rfl, trivial⟩
theorem mb_280_113 {X : Nat → Option zz_C} {h : zz_H} (hh : 111 ≤ h.length) {s : mS} {d : Nat} {Q : Option Value → zz_H → Prop} {x1 : Int32} {x2 : Int32} {x3 : Int32} {x4 : Int32} (k : zz_E zp_P zt_tf zt_fd X d zm_267 0 [(0, .ref 61), (1, .int 93)] [] (mH h s) (fun v h' => zz_E zp_P zt_tf zt_fd X (d + 1) zm_280 119 [(0, .ref 61), (1, .int x1), (2, .int x2), (3, .int x3), (4, .int x4)] (v.toList ++ []) h' Q)) : zz_E zp_P zt_tf zt_fd X (d + 1) zm_280 113 [(0, .ref 61), (1, .int x1), (2, .int x2), (3, .int x3), (4, .int x4)] [] (mH h s) Q := by
  refine zz_E.n 114 rfl rfl rfl ?_
  refine zz_E.c 116 (.int 93) rfl rfl rfl rfl ?_
  refine mE_cv hh 119 (as := []) rfl rfl (Nat.le_of_ble_eq_true rfl) (Nat.le_of_ble_eq_true rfl) rfl (Nat.le_of_ble_eq_true rfl) rfl ?_
  refine zz_E.mono k ?_
  intro v h' hE
  exact zz_E.weak hE rfl ⟨rfl, rfl, rfl, rfl, rfl, trivial⟩
theorem mb_280_119 {X : Nat → Option zz_C} {h : zz_H} (hh : 111 ≤ h.length) {s : mS} {d : Nat} {Q : Option Value → zz_H → Prop} {x1 : Int32} {x2 : Int32} {x3 : Int32} {x4 : Int32} (k : zz_E zp_P zt_tf zt_fd X d zm_267 0 [(0, .ref 61), (1, .int 61)] [] (mH h s) (fun v h' => zz_E zp_P zt_tf zt_fd X (d + 1) zm_280 125 [(0, .ref 61), (1, .int x1), (2, .int x2), (3, .int x3), (4, .int x4)] (v.toList ++ []) h' Q)) : zz_E zp_P zt_tf zt_fd X (d + 1) zm_280 119 [(0, .ref 61), (1, .int x1), (2, .int x2), (3, .int x3), (4, .int x4)] [] (mH h s) Q := by
  refine zz_E.n 120 rfl rfl rfl ?_
  refine zz_E.c 122 (.int 61) rfl rfl rfl rfl ?_
  refine mE_cv hh 125 (as := []) rfl rfl (Nat.le_of_ble_eq_true rfl) (Nat.le_of_ble_eq_true rfl) rfl (Nat.le_of_ble_eq_true rfl) rfl ?_
  refine zz_E.mono k ?_
  intro v h' hE
  exact zz_E.weak hE rfl ⟨rfl, rfl, rfl, rfl, rfl, trivial⟩
theorem mb_280_125 {X : Nat → Option zz_C} {h : zz_H} (hh : 111 ≤ h.length) {s : mS} {d : Nat} {Q : Option Value → zz_H → Prop} {x1 : Int32} {x2 : Int32} {x3 : Int32} {x4 : Int32} (k : zz_E zp_P zt_tf zt_fd X d zm_285 0 [(0, .ref 61), (1, .int 0)] [] (mH h s) (fun v h' => zz_E zp_P zt_tf zt_fd X (d + 1) zm_280 130 [(0, .ref 61), (1, .int x1), (2, .int x2), (3, .int x3), (4, .int x4)] (v.toList ++ []) h' Q)) : zz_E zp_P zt_tf zt_fd X (d + 1) zm_280 125 [(0, .ref 61), (1, .int x1), (2, .int x2), (3, .int x3), (4, .int x4)] [] (mH h s) Q := by
  refine zz_E.n 126 rfl rfl rfl ?_
  refine zz_E.c 127 (.int 0) rfl rfl rfl rfl ?_
  refine mE_cv hh 130 (as := []) rfl rfl (Nat.le_of_ble_eq_true rfl) (Nat.le_of_ble_eq_true rfl) rfl (Nat.le_of_ble_eq_true rfl) rfl ?_
  refine zz_E.mono k ?_
  intro v h' hE
  exact zz_E.weak hE rfl ⟨rfl, rfl, rfl, rfl, rfl, trivial⟩
theorem mb_280_130 {X : Nat → Option zz_C} {h : zz_H} (hh : 111 ≤ h.length) {s : mS} {d : Nat} {Q : Option Value → zz_H → Prop} {x1 : Int32} {x2 : Int32} {x3 : Int32} {x4 : Int32} (k : zz_E zp_P zt_tf zt_fd X d zm_267 0 [(0, .ref 61), (1, .int 59)] [] (mH h s) (fun v h' => zz_E zp_P zt_tf zt_fd X (d + 1) zm_280 136 [(0, .ref 61), (1, .int x1), (2, .int x2), (3, .int x3), (4, .int x4)] (v.toList ++ []) h' Q)) : zz_E zp_P zt_tf zt_fd X (d + 1) zm_280 130 [(0, .ref 61), (1, .int x1), (2, .int x2), (3, .int x3), (4, .int x4)] [] (mH h s) Q := by
  refine zz_E.n 131 rfl rfl rfl ?_
  refine zz_E.c 133 (.int 59) rfl rfl rfl rfl ?_
  refine mE_cv hh 136 (as := []) rfl rfl (Nat.le_of_ble_eq_true rfl) (Nat.le_of_ble_eq_true rfl) rfl (Nat.le_of_ble_eq_true rfl) rfl ?_
  refine zz_E.mono k ?_
  intro v h' hE
  exact zz_E.weak hE rfl ⟨rfl, rfl, rfl, rfl, rfl, trivial⟩
theorem mb_280_136 {X : Nat → Option zz_C} {h : zz_H} (hh : 111 ≤ h.length) {s : mS} {d : Nat} {Q : Option Value → zz_H → Prop} {x1 : Int32} {x2 : Int32} {x3 : Int32} {x4 : Int32} (k : zz_E zp_P zt_tf zt_fd X d zm_271 0 [(0, .ref 61), (1, .int 13), (2, .int x2), (3, .int x4), (4, .int x3)] [] (mH h s) (fun v h' => zz_E zp_P zt_tf zt_fd X (d + 1) zm_280 146 [(0, .ref 61), (1, .int x1)] (v.toList ++ []) h' Q)) : zz_E zp_P zt_tf zt_fd X (d + 1) zm_280 136 [(0, .ref 61), (1, .int x1), (2, .int x2), (3, .int x3), (4, .int x4)] [] (mH h s) Q := by
  refine zz_E.n 137 rfl rfl rfl ?_
  refine zz_E.c 139 (.int 13) rfl rfl rfl rfl ?_
  refine zz_E.n 140 rfl rfl rfl ?_
  refine zz_E.n 142 rfl rfl rfl ?_
  refine zz_E.n 143 rfl rfl rfl ?_
  refine mE_cv hh 146 (as := []) rfl rfl (Nat.le_of_ble_eq_true rfl) (Nat.le_of_ble_eq_true rfl) rfl (Nat.le_of_ble_eq_true rfl) rfl ?_
  refine zz_E.mono k ?_
  intro v h' hE
  exact zz_E.weak hE rfl ⟨rfl, rfl, trivial⟩
theorem mb_280_146 {X : Nat → Option zz_C} {h : zz_H} (hh : 111 ≤ h.length) {s : mS} {d : Nat} {Q : Option Value → zz_H → Prop} {x1 : Int32} {y0 : Int32} (i155 : ¬ (y0 < 0 ∨ 8000 ≤ Int32.toNatClampNeg y0)) (k : Q none (mH h (mA s 26 (upd (s.2.2.1 26) (Int32.toNatClampNeg y0) x1)))) : zz_E zp_P zt_tf zt_fd X d zm_280 146 [(0, .ref 61), (1, .int x1)] [.int y0] (mH h s) Q := by
  refine zz_E.n 148 rfl rfl rfl ?_
  refine zz_E.n 149 rfl rfl rfl ?_
  refine mE_g hh 152 (v := .ref 74) rfl rfl rfl ?_
  refine zz_E.n 154 rfl rfl rfl ?_
  refine zz_E.n 155 rfl rfl rfl ?_
  refine mE_is hh 156 13 (f := (s.2.2.1 26)) rfl (by decide) rfl rfl i155 (mA_74 _ _) rfl ?_
  refine zz_E.ret rfl rfl rfl ?_
  exact k
def mf_280_146 (N : Nat) (x1 : Int32) (y0 : Int32) (s : mS) : mO := if ¬ (y0 < 0 ∨ 8000 ≤ Int32.toNatClampNeg y0) then (some ((mA s 26 (upd (s.2.2.1 26) (Int32.toNatClampNeg y0) x1)), none)) else none
theorem mr_280_146 {X : Nat → Option zz_C} {h : zz_H} (hh : 111 ≤ h.length) {d : Nat} {N : Nat} {Q : Option Value → zz_H → Prop} {x1 : Int32} {y0 : Int32} {s s' : mS} {v : Option Value} (hf : mf_280_146 N x1 y0 s = some (s', v)) (k : Q v (mH h s')) : zz_E zp_P zt_tf zt_fd X (d + 9) zm_280 146 [(0, .ref 61), (1, .int x1)] [.int y0] (mH h s) Q := by
  unfold mf_280_146 at hf
  obtain ⟨q0, hf⟩ := mo_if hf
  cases hf
  exact mb_280_146 hh q0 k
def mf_280_136 (N : Nat) (x1 : Int32) (x2 : Int32) (x3 : Int32) (x4 : Int32) (s : mS) : mO := mo_bi (mf_271 N 13 x2 x4 x3 s) (fun s1 y => mf_280_146 N x1 y s1)
theorem mr_280_136 {X : Nat → Option zz_C} {h : zz_H} (hh : 111 ≤ h.length) {d : Nat} {N : Nat} {Q : Option Value → zz_H → Prop} {x1 : Int32} {x2 : Int32} {x3 : Int32} {x4 : Int32} {s s' : mS} {v : Option Value} (hf : mf_280_136 N x1 x2 x3 x4 s = some (s', v)) (k : Q v (mH h s')) : zz_E zp_P zt_tf zt_fd X (d + 9) zm_280 136 [(0, .ref 61), (1, .int x1), (2, .int x2), (3, .int x3), (4, .int x4)] [] (mH h s) Q := by
  unfold mf_280_136 at hf
  obtain ⟨s1, y, e, hf⟩ := mo_bi_ok hf
  exact mb_280_136 (d := d + 8) hh  (mr_271 (d := d + 8) hh e (mr_280_146 hh hf k))
def mf_280_130 (N : Nat) (x1 : Int32) (x2 : Int32) (x3 : Int32) (x4 : Int32) (s : mS) : mO := mo_bv (mf_267 N 59 s) (fun s1 => mf_280_136 N x1 x2 x3 x4 s1)
theorem mr_280_130 {X : Nat → Option zz_C} {h : zz_H} (hh : 111 ≤ h.length) {d : Nat} {N : Nat} {Q : Option Value → zz_H → Prop} {x1 : Int32} {x2 : Int32} {x3 : Int32} {x4 : Int32} {s s' : mS} {v : Option Value} (hf : mf_280_130 N x1 x2 x3 x4 s = some (s', v)) (k : Q v (mH h s')) : zz_E zp_P zt_tf zt_fd X (d + 9) zm_280 130 [(0, .ref 61), (1, .int x1), (2, .int x2), (3, .int x3), (4, .int x4)] [] (mH h s) Q := by
  unfold mf_280_130 at hf
  obtain ⟨s1, e, hf⟩ := mo_bv_ok hf
  exact mb_280_130 (d := d + 8) hh  (mr_267 (d := d + 4) hh e (mr_280_136 hh hf k))
def mf_280_125 (N : Nat) (x1 : Int32) (x2 : Int32) (x3 : Int32) (x4 : Int32) (s : mS) : mO := mo_bv (mf_285 N 0 s) (fun s1 => mf_280_130 N x1 x2 x3 x4 s1)
theorem mr_280_125 {X : Nat → Option zz_C} {h : zz_H} (hh : 111 ≤ h.length) {d : Nat} {N : Nat} {Q : Option Value → zz_H → Prop} {x1 : Int32} {x2 : Int32} {x3 : Int32} {x4 : Int32} {s s' : mS} {v : Option Value} (hf : mf_280_125 N x1 x2 x3 x4 s = some (s', v)) (k : Q v (mH h s')) : zz_E zp_P zt_tf zt_fd X (d + 9) zm_280 125 [(0, .ref 61), (1, .int x1), (2, .int x2), (3, .int x3), (4, .int x4)] [] (mH h s) Q := by
  unfold mf_280_125 at hf
  obtain ⟨s1, e, hf⟩ := mo_bv_ok hf
  exact mb_280_125 (d := d + 8) hh  (mr_285 (d := d + 0) hh e (mr_280_130 hh hf k))
def mf_280_119 (N : Nat) (x1 : Int32) (x2 : Int32) (x3 : Int32) (x4 : Int32) (s : mS) : mO := mo_bv (mf_267 N 61 s) (fun s1 => mf_280_125 N x1 x2 x3 x4 s1)
theorem mr_280_119 {X : Nat → Option zz_C} {h : zz_H} (hh : 111 ≤ h.length) {d : Nat} {N : Nat} {Q : Option Value → zz_H → Prop} {x1 : Int32} {x2 : Int32} {x3 : Int32} {x4 : Int32} {s s' : mS} {v : Option Value} (hf : mf_280_119 N x1 x2 x3 x4 s = some (s', v)) (k : Q v (mH h s')) : zz_E zp_P zt_tf zt_fd X (d + 9) zm_280 119 [(0, .ref 61), (1, .int x1), (2, .int x2), (3, .int x3), (4, .int x4)] [] (mH h s) Q := by
  unfold mf_280_119 at hf
  obtain ⟨s1, e, hf⟩ := mo_bv_ok hf
  exact mb_280_119 (d := d + 8) hh  (mr_267 (d := d + 4) hh e (mr_280_125 hh hf k))
def mf_280_113 (N : Nat) (x1 : Int32) (x2 : Int32) (x3 : Int32) (x4 : Int32) (s : mS) : mO := mo_bv (mf_267 N 93 s) (fun s1 => mf_280_119 N x1 x2 x3 x4 s1)
theorem mr_280_113 {X : Nat → Option zz_C} {h : zz_H} (hh : 111 ≤ h.length) {d : Nat} {N : Nat} {Q : Option Value → zz_H → Prop} {x1 : Int32} {x2 : Int32} {x3 : Int32} {x4 : Int32} {s s' : mS} {v : Option Value} (hf : mf_280_113 N x1 x2 x3 x4 s = some (s', v)) (k : Q v (mH h s')) : zz_E zp_P zt_tf zt_fd X (d + 9) zm_280 113 [(0, .ref 61), (1, .int x1), (2, .int x2), (3, .int x3), (4, .int x4)] [] (mH h s) Q := by
  unfold mf_280_113 at hf
  obtain ⟨s1, e, hf⟩ := mo_bv_ok hf
  exact mb_280_113 (d := d + 8) hh  (mr_267 (d := d + 4) hh e (mr_280_119 hh hf k))
def mf_280_108 (N : Nat) (x1 : Int32) (x2 : Int32) (x3 : Int32) (x4 : Int32) (s : mS) : mO := mo_bv (mf_285 N 0 s) (fun s1 => mf_280_113 N x1 x2 x3 x4 s1)
theorem mr_280_108 {X : Nat → Option zz_C} {h : zz_H} (hh : 111 ≤ h.length) {d : Nat} {N : Nat} {Q : Option Value → zz_H → Prop} {x1 : Int32} {x2 : Int32} {x3 : Int32} {x4 : Int32} {s s' : mS} {v : Option Value} (hf : mf_280_108 N x1 x2 x3 x4 s = some (s', v)) (k : Q v (mH h s')) : zz_E zp_P zt_tf zt_fd X (d + 9) zm_280 108 [(0, .ref 61), (1, .int x1), (2, .int x2), (3, .int x3), (4, .int x4)] [] (mH h s) Q := by
  unfold mf_280_108 at hf
  obtain ⟨s1, e, hf⟩ := mo_bv_ok hf
  exact mb_280_108 (d := d + 8) hh  (mr_285 (d := d + 0) hh e (mr_280_113 hh hf k))
def mf_280_96 (N : Nat) (x1 : Int32) (x2 : Int32) (x3 : Int32) (s : mS) : mO := mo_bv (mf_268 N 91 s) (fun s1 => mf_280_108 N x1 x2 x3 (s.1 6) s1)
theorem mr_280_96 {X : Nat → Option zz_C} {h : zz_H} (hh : 111 ≤ h.length) {d : Nat} {N : Nat} {Q : Option Value → zz_H → Prop} {x1 : Int32} {x2 : Int32} {x3 : Int32} {s s' : mS} {v : Option Value} (hf : mf_280_96 N x1 x2 x3 s = some (s', v)) (k : Q v (mH h s')) : zz_E zp_P zt_tf zt_fd X (d + 9) zm_280 96 [(0, .ref 61), (1, .int x1), (2, .int x2), (3, .int x3)] [] (mH h s) Q := by
  unfold mf_280_96 at hf
  obtain ⟨s1, e, hf⟩ := mo_bv_ok hf
  exact mb_280_96 (d := d + 8) hh  (mr_268 (d := d + 4) hh e (mr_280_108 hh hf k))
def mf_280_93 (N : Nat) (x1 : Int32) (x2 : Int32) (x3 : Int32) (x4 : Int32) (y0 : Int32) (s : mS) : mO := if y0 = 0 then mf_280_119 N x1 x2 x3 x4 s else mf_280_96 N x1 x2 x3 s
theorem mr_280_93 {X : Nat → Option zz_C} {h : zz_H} (hh : 111 ≤ h.length) {d : Nat} {N : Nat} {Q : Option Value → zz_H → Prop} {x1 : Int32} {x2 : Int32} {x3 : Int32} {x4 : Int32} {y0 : Int32} {s s' : mS} {v : Option Value} (hf : mf_280_93 N x1 x2 x3 x4 y0 s = some (s', v)) (k : Q v (mH h s')) : zz_E zp_P zt_tf zt_fd X (d + 9) zm_280 93 [(0, .ref 61), (1, .int x1), (2, .int x2), (3, .int x3), (4, .int x4)] [.int y0] (mH h s) Q := by
  unfold mf_280_93 at hf
  refine mb_280_93 hh  (fun c => ?_) (fun c => ?_)
  · rw [if_pos c] at hf
    exact mr_280_119 hh hf k
  · rw [if_neg c] at hf
    exact mr_280_96 hh hf k
def mf_280_87 (N : Nat) (x1 : Int32) (x2 : Int32) (x3 : Int32) (x4 : Int32) (s : mS) : mO := mo_bi (mf_263 N 91 s) (fun s1 y => mf_280_93 N x1 x2 x3 x4 y s1)
theorem mr_280_87 {X : Nat → Option zz_C} {h : zz_H} (hh : 111 ≤ h.length) {d : Nat} {N : Nat} {Q : Option Value → zz_H → Prop} {x1 : Int32} {x2 : Int32} {x3 : Int32} {x4 : Int32} {s s' : mS} {v : Option Value} (hf : mf_280_87 N x1 x2 x3 x4 s = some (s', v)) (k : Q v (mH h s')) : zz_E zp_P zt_tf zt_fd X (d + 9) zm_280 87 [(0, .ref 61), (1, .int x1), (2, .int x2), (3, .int x3), (4, .int x4)] [] (mH h s) Q := by
  unfold mf_280_87 at hf
  obtain ⟨s1, y, e, hf⟩ := mo_bi_ok hf
  exact mb_280_87 (d := d + 8) hh  (mr_263 (d := d + 8) hh e (mr_280_93 hh hf k))
def mf_280_80 (N : Nat) (x1 : Int32) (x2 : Int32) (x3 : Int32) (x4 : Int32) (s : mS) : mO := if ¬ (s.1 9) = 0 then mf_280_119 N x1 x2 x3 x4 s else mf_280_87 N x1 x2 x3 x4 s
theorem mr_280_80 {X : Nat → Option zz_C} {h : zz_H} (hh : 111 ≤ h.length) {d : Nat} {N : Nat} {Q : Option Value → zz_H → Prop} {x1 : Int32} {x2 : Int32} {x3 : Int32} {x4 : Int32} {s s' : mS} {v : Option Value} (hf : mf_280_80 N x1 x2 x3 x4 s = some (s', v)) (k : Q v (mH h s')) : zz_E zp_P zt_tf zt_fd X (d + 9) zm_280 80 [(0, .ref 61), (1, .int x1), (2, .int x2), (3, .int x3), (4, .int x4)] [] (mH h s) Q := by
  unfold mf_280_80 at hf
  refine mb_280_80 hh  (fun c => ?_) (fun c => ?_)
  · rw [if_pos c] at hf
    exact mr_280_119 hh hf k
  · rw [if_neg c] at hf
    exact mr_280_87 hh hf k
def mf_280_74 (N : Nat) (x1 : Int32) (x2 : Int32) (x3 : Int32) (x4 : Int32) (s : mS) : mO := mo_bv (mf_267 N 93 s) (fun s1 => mf_280_80 N x1 x2 x3 x4 s1)
theorem mr_280_74 {X : Nat → Option zz_C} {h : zz_H} (hh : 111 ≤ h.length) {d : Nat} {N : Nat} {Q : Option Value → zz_H → Prop} {x1 : Int32} {x2 : Int32} {x3 : Int32} {x4 : Int32} {s s' : mS} {v : Option Value} (hf : mf_280_74 N x1 x2 x3 x4 s = some (s', v)) (k : Q v (mH h s')) : zz_E zp_P zt_tf zt_fd X (d + 9) zm_280 74 [(0, .ref 61), (1, .int x1), (2, .int x2), (3, .int x3), (4, .int x4)] [] (mH h s) Q := by
  unfold mf_280_74 at hf
  obtain ⟨s1, e, hf⟩ := mo_bv_ok hf
  exact mb_280_74 (d := d + 8) hh  (mr_267 (d := d + 4) hh e (mr_280_80 hh hf k))
def mf_280_69 (N : Nat) (x1 : Int32) (x2 : Int32) (x3 : Int32) (x4 : Int32) (s : mS) : mO := mo_bv (mf_285 N 0 s) (fun s1 => mf_280_74 N x1 x2 x3 x4 s1)
theorem mr_280_69 {X : Nat → Option zz_C} {h : zz_H} (hh : 111 ≤ h.length) {d : Nat} {N : Nat} {Q : Option Value → zz_H → Prop} {x1 : Int32} {x2 : Int32} {x3 : Int32} {x4 : Int32} {s s' : mS} {v : Option Value} (hf : mf_280_69 N x1 x2 x3 x4 s = some (s', v)) (k : Q v (mH h s')) : zz_E zp_P zt_tf zt_fd X (d + 9) zm_280 69 [(0, .ref 61), (1, .int x1), (2, .int x2), (3, .int x3), (4, .int x4)] [] (mH h s) Q := by
  unfold mf_280_69 at hf
  obtain ⟨s1, e, hf⟩ := mo_bv_ok hf
  exact mb_280_69 (d := d + 8) hh  (mr_285 (d := d + 0) hh e (mr_280_74 hh hf k))
def mf_280_55 (N : Nat) (x1 : Int32) (x2 : Int32) (s : mS) : mO := mo_bv (mf_268 N 91 s) (fun s1 => mf_280_69 N x1 x2 (s.1 6) (-1) s1)
theorem mr_280_55 {X : Nat → Option zz_C} {h : zz_H} (hh : 111 ≤ h.length) {d : Nat} {N : Nat} {Q : Option Value → zz_H → Prop} {x1 : Int32} {x2 : Int32} {s s' : mS} {v : Option Value} (hf : mf_280_55 N x1 x2 s = some (s', v)) (k : Q v (mH h s')) : zz_E zp_P zt_tf zt_fd X (d + 9) zm_280 55 [(0, .ref 61), (1, .int x1), (2, .int x2)] [] (mH h s) Q := by
  unfold mf_280_55 at hf
  obtain ⟨s1, e, hf⟩ := mo_bv_ok hf
  exact mb_280_55 (d := d + 8) hh  (mr_268 (d := d + 4) hh e (mr_280_69 hh hf k))
def mf_280_53 (N : Nat) (y0 : Int32) (s : mS) : mO := some (s, none)
theorem mr_280_53 {X : Nat → Option zz_C} {h : zz_H} (hh : 111 ≤ h.length) {d : Nat} {N : Nat} {Q : Option Value → zz_H → Prop} {y0 : Int32} {s s' : mS} {v : Option Value} (hf : mf_280_53 N y0 s = some (s', v)) (k : Q v (mH h s')) : zz_E zp_P zt_tf zt_fd X (d + 9) zm_280 53 [] [.int y0] (mH h s) Q := by
  unfold mf_280_53 at hf
  cases hf
  exact mb_280_53 hh  k
def mf_280_44 (N : Nat) (x1 : Int32) (x2 : Int32) (s : mS) : mO := mo_bi (mf_271 N 12 x2 0 x1 s) (fun s1 y => mf_280_53 N y s1)
theorem mr_280_44 {X : Nat → Option zz_C} {h : zz_H} (hh : 111 ≤ h.length) {d : Nat} {N : Nat} {Q : Option Value → zz_H → Prop} {x1 : Int32} {x2 : Int32} {s s' : mS} {v : Option Value} (hf : mf_280_44 N x1 x2 s = some (s', v)) (k : Q v (mH h s')) : zz_E zp_P zt_tf zt_fd X (d + 9) zm_280 44 [(0, .ref 61), (1, .int x1), (2, .int x2)] [] (mH h s) Q := by
  unfold mf_280_44 at hf
  obtain ⟨s1, y, e, hf⟩ := mo_bi_ok hf
  exact mb_280_44 (d := d + 8) hh  (mr_271 (d := d + 8) hh e (mr_280_53 hh hf k))
def mf_280_38 (N : Nat) (x1 : Int32) (x2 : Int32) (s : mS) : mO := mo_bv (mf_267 N 59 s) (fun s1 => mf_280_44 N x1 x2 s1)
theorem mr_280_38 {X : Nat → Option zz_C} {h : zz_H} (hh : 111 ≤ h.length) {d : Nat} {N : Nat} {Q : Option Value → zz_H → Prop} {x1 : Int32} {x2 : Int32} {s s' : mS} {v : Option Value} (hf : mf_280_38 N x1 x2 s = some (s', v)) (k : Q v (mH h s')) : zz_E zp_P zt_tf zt_fd X (d + 9) zm_280 38 [(0, .ref 61), (1, .int x1), (2, .int x2)] [] (mH h s) Q := by
  unfold mf_280_38 at hf
  obtain ⟨s1, e, hf⟩ := mo_bv_ok hf
  exact mb_280_38 (d := d + 8) hh  (mr_267 (d := d + 4) hh e (mr_280_44 hh hf k))
def mf_280_33 (N : Nat) (x1 : Int32) (x2 : Int32) (s : mS) : mO := mo_bv (mf_285 N 0 s) (fun s1 => mf_280_38 N x1 x2 s1)
theorem mr_280_33 {X : Nat → Option zz_C} {h : zz_H} (hh : 111 ≤ h.length) {d : Nat} {N : Nat} {Q : Option Value → zz_H → Prop} {x1 : Int32} {x2 : Int32} {s s' : mS} {v : Option Value} (hf : mf_280_33 N x1 x2 s = some (s', v)) (k : Q v (mH h s')) : zz_E zp_P zt_tf zt_fd X (d + 9) zm_280 33 [(0, .ref 61), (1, .int x1), (2, .int x2)] [] (mH h s) Q := by
  unfold mf_280_33 at hf
  obtain ⟨s1, e, hf⟩ := mo_bv_ok hf
  exact mb_280_33 (d := d + 8) hh  (mr_285 (d := d + 0) hh e (mr_280_38 hh hf k))
def mf_280_27 (N : Nat) (x1 : Int32) (x2 : Int32) (s : mS) : mO := mo_bv (mf_267 N 61 s) (fun s1 => mf_280_33 N x1 x2 s1)
theorem mr_280_27 {X : Nat → Option zz_C} {h : zz_H} (hh : 111 ≤ h.length) {d : Nat} {N : Nat} {Q : Option Value → zz_H → Prop} {x1 : Int32} {x2 : Int32} {s s' : mS} {v : Option Value} (hf : mf_280_27 N x1 x2 s = some (s', v)) (k : Q v (mH h s')) : zz_E zp_P zt_tf zt_fd X (d + 9) zm_280 27 [(0, .ref 61), (1, .int x1), (2, .int x2)] [] (mH h s) Q := by
  unfold mf_280_27 at hf
  obtain ⟨s1, e, hf⟩ := mo_bv_ok hf
  exact mb_280_27 (d := d + 8) hh  (mr_267 (d := d + 4) hh e (mr_280_33 hh hf k))
def mf_280_24 (N : Nat) (x1 : Int32) (x2 : Int32) (y0 : Int32) (s : mS) : mO := if ¬ y0 = 0 then mf_280_55 N x1 x2 s else mf_280_27 N x1 x2 s
theorem mr_280_24 {X : Nat → Option zz_C} {h : zz_H} (hh : 111 ≤ h.length) {d : Nat} {N : Nat} {Q : Option Value → zz_H → Prop} {x1 : Int32} {x2 : Int32} {y0 : Int32} {s s' : mS} {v : Option Value} (hf : mf_280_24 N x1 x2 y0 s = some (s', v)) (k : Q v (mH h s')) : zz_E zp_P zt_tf zt_fd X (d + 9) zm_280 24 [(0, .ref 61), (1, .int x1), (2, .int x2)] [.int y0] (mH h s) Q := by
  unfold mf_280_24 at hf
  refine mb_280_24 hh  (fun c => ?_) (fun c => ?_)
  · rw [if_pos c] at hf
    exact mr_280_55 hh hf k
  · rw [if_neg c] at hf
    exact mr_280_27 hh hf k
def mf_280_18 (N : Nat) (x1 : Int32) (x2 : Int32) (s : mS) : mO := mo_bi (mf_263 N 91 s) (fun s1 y => mf_280_24 N x1 x2 y s1)
theorem mr_280_18 {X : Nat → Option zz_C} {h : zz_H} (hh : 111 ≤ h.length) {d : Nat} {N : Nat} {Q : Option Value → zz_H → Prop} {x1 : Int32} {x2 : Int32} {s s' : mS} {v : Option Value} (hf : mf_280_18 N x1 x2 s = some (s', v)) (k : Q v (mH h s')) : zz_E zp_P zt_tf zt_fd X (d + 9) zm_280 18 [(0, .ref 61), (1, .int x1), (2, .int x2)] [] (mH h s) Q := by
  unfold mf_280_18 at hf
  obtain ⟨s1, y, e, hf⟩ := mo_bi_ok hf
  exact mb_280_18 (d := d + 8) hh  (mr_263 (d := d + 8) hh e (mr_280_24 hh hf k))
def mf_280_17 (N : Nat)  (s : mS) : mO := some (s, none)
theorem mr_280_17 {X : Nat → Option zz_C} {h : zz_H} (hh : 111 ≤ h.length) {d : Nat} {N : Nat} {Q : Option Value → zz_H → Prop}  {s s' : mS} {v : Option Value} (hf : mf_280_17 N  s = some (s', v)) (k : Q v (mH h s')) : zz_E zp_P zt_tf zt_fd X (d + 9) zm_280 17 [] [] (mH h s) Q := by
  unfold mf_280_17 at hf
  cases hf
  exact mb_280_17 hh  k
def mf_280_9 (N : Nat) (x1 : Int32) (y0 : Int32) (s : mS) : mO := if (s.1 9) ≤ 0 then mf_280_18 N x1 y0 s else mf_280_17 N  s
theorem mr_280_9 {X : Nat → Option zz_C} {h : zz_H} (hh : 111 ≤ h.length) {d : Nat} {N : Nat} {Q : Option Value → zz_H → Prop} {x1 : Int32} {y0 : Int32} {s s' : mS} {v : Option Value} (hf : mf_280_9 N x1 y0 s = some (s', v)) (k : Q v (mH h s')) : zz_E zp_P zt_tf zt_fd X (d + 9) zm_280 9 [(0, .ref 61), (1, .int x1)] [.int y0] (mH h s) Q := by
  unfold mf_280_9 at hf
  refine mb_280_9 hh  (fun c => ?_) (fun c => ?_)
  · rw [if_pos c] at hf
    exact mr_280_18 hh hf k
  · rw [if_neg c] at hf
    exact mr_280_17 hh hf k
def mf_280_0 (N : Nat)  (s : mS) : mO := mo_bi (mf_275 N  s) (fun s1 y => mf_280_9 N (s.1 6) y s1)
theorem mr_280_0 {X : Nat → Option zz_C} {h : zz_H} (hh : 111 ≤ h.length) {d : Nat} {N : Nat} {Q : Option Value → zz_H → Prop}  {s s' : mS} {v : Option Value} (hf : mf_280_0 N  s = some (s', v)) (k : Q v (mH h s')) : zz_E zp_P zt_tf zt_fd X (d + 9) zm_280 0 [(0, .ref 61)] [] (mH h s) Q := by
  unfold mf_280_0 at hf
  obtain ⟨s1, y, e, hf⟩ := mo_bi_ok hf
  exact mb_280_0 (d := d + 8) hh  (mr_275 (d := d + 4) hh e (mr_280_9 hh hf k))
/-- puts -/
def mf_280 (N : Nat)  (s : mS) : mO := mf_280_0 N  s
theorem mr_280 {X : Nat → Option zz_C} {h : zz_H} (hh : 111 ≤ h.length) {d : Nat} {N : Nat} {Q : Option Value → zz_H → Prop}  {s s' : mS} {v : Option Value} (hf : mf_280 N  s = some (s', v)) (k : Q v (mH h s')) : zz_E zp_P zt_tf zt_fd X (d + 9) zm_280 0 [(0, .ref 61)] [] (mH h s) Q := by
  unfold mf_280 at hf
  exact zz_E.weak (mr_280_0 hh hf k) rfl ⟨rfl, trivial⟩
