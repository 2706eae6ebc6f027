/-! index ()V -/
theorem mb_325_0 {X : Nat → Option zz_C} {h : zz_H} (hh : 111 ≤ h.length) {s : mS} {d : Nat} {Q : Option Value → zz_H → Prop}  (k : zz_E zp_P zt_tf zt_fd X d zm_292 0 [(0, .ref 61), (1, .int ((s.1 51) - 2))] [] (mH h s) (fun v h' => zz_E zp_P zt_tf zt_fd X (d + 1) zm_325 10 [(0, .ref 61)] (v.toList ++ []) h' Q)) : zz_E zp_P zt_tf zt_fd X (d + 1) zm_325 0 [(0, .ref 61)] [] (mH h s) Q := by
  refine zz_E.n 1 rfl rfl rfl ?_
  refine zz_E.n 2 rfl rfl rfl ?_
  refine mE_g hh 5 (v := .int (s.1 51)) rfl rfl rfl ?_
  refine zz_E.c 6 (.int 2) rfl rfl rfl rfl ?_
  refine zz_E.n 7 rfl rfl rfl ?_
  refine mE_cv hh 10 (as := []) rfl rfl (Nat.le_of_ble_eq_true rfl) (Nat.le_of_ble_eq_true rfl) rfl (Nat.le_of_ble_eq_true rfl) rfl ?_
  refine zz_E.mono k ?_
  intro v h' hE
  exact zz_E.weak hE rfl ⟨rfl, trivial⟩
theorem mb_325_10 {X : Nat → Option zz_C} {h : zz_H} (hh : 111 ≤ h.length) {s : mS} {d : Nat} {Q : Option Value → zz_H → Prop} {y0 : Int32} (k : zz_E zp_P zt_tf zt_fd X d zm_292 0 [(0, .ref 61), (1, .int ((s.1 51) - 1))] [] (mH h s) (fun v h' => zz_E zp_P zt_tf zt_fd X (d + 1) zm_325 21 [(0, .ref 61), (1, .int y0)] (v.toList ++ []) h' Q)) : zz_E zp_P zt_tf zt_fd X (d + 1) zm_325 10 [(0, .ref 61)] [.int y0] (mH h s) Q := by
  refine zz_E.n 11 rfl rfl rfl ?_
  refine zz_E.n 12 rfl rfl rfl ?_
  refine zz_E.n 13 rfl rfl rfl ?_
  refine mE_g hh 16 (v := .int (s.1 51)) rfl rfl rfl ?_
  refine zz_E.c 17 (.int 1) rfl rfl rfl rfl ?_
  refine zz_E.n 18 rfl rfl rfl ?_
  refine mE_cv hh 21 (as := []) rfl rfl (Nat.le_of_ble_eq_true rfl) (Nat.le_of_ble_eq_true rfl) rfl (Nat.le_of_ble_eq_true rfl) rfl ?_
  refine zz_E.mono k ?_
  intro v h' hE
  exact zz_E.weak hE rfl ⟨rfl, rfl, trivial⟩
theorem mb_325_21 {X : Nat → Option zz_C} {h : zz_H} (hh : 111 ≤ h.length) {s : mS} {d : Nat} {Q : Option Value → zz_H → Prop} {x1 : Int32} {y0 : Int32} (i42 : ¬ (((s.1 51) - 2) < 0 ∨ 9000 ≤ Int32.toNatClampNeg ((s.1 51) - 2))) (i52 : ¬ ((((s.1 51) - 2) + 1) < 0 ∨ 9000 ≤ Int32.toNatClampNeg (((s.1 51) - 2) + 1))) (k1 : x1 = 0 → zz_E zp_P zt_tf zt_fd X d zm_325 64 [(0, .ref 61)] [] (mH h (mI s 51 ((s.1 51) - 2))) Q) (k2 : ¬ x1 = 0 → zz_E zp_P zt_tf zt_fd X d zm_325 59 [(0, .ref 61), (1, .int x1), (2, .int y0), (3, .int ((s.1 51) - 2)), (4, .int ((s.2.2.1 50) (Int32.toNatClampNeg ((s.1 51) - 2)))), (5, .int ((s.2.2.1 50) (Int32.toNatClampNeg (((s.1 51) - 2) + 1))))] [] (mH h (mI s 51 ((s.1 51) - 2))) Q) : zz_E zp_P zt_tf zt_fd X d zm_325 21 [(0, .ref 61), (1, .int x1)] [.int y0] (mH h s) Q := by
  refine zz_E.n 22 rfl rfl rfl ?_
  refine zz_E.n 23 rfl rfl rfl ?_
  refine zz_E.n 24 rfl rfl rfl ?_
  refine mE_g hh 27 (v := .int (s.1 51)) rfl rfl rfl ?_
  refine zz_E.c 28 (.int 2) rfl rfl rfl rfl ?_
  refine zz_E.n 29 rfl rfl rfl ?_
  refine mE_p hh 32 rfl (by decide) rfl (mF_51 _ _) rfl ?_
  refine zz_E.n 33 rfl rfl rfl ?_
  refine mE_g hh 36 (v := .int ((s.1 51) - 2)) rfl rfl rfl ?_
  refine zz_E.n 37 rfl rfl rfl ?_
  refine zz_E.n 38 rfl rfl rfl ?_
  refine mE_g hh 41 (v := .ref 91) rfl rfl rfl ?_
  refine zz_E.n 42 rfl rfl rfl ?_
  refine mE_ia hh 43 30 (f := (s.2.2.1 50)) rfl (by decide) rfl rfl i42 rfl ?_
  refine zz_E.n 45 rfl rfl rfl ?_
  refine zz_E.n 46 rfl rfl rfl ?_
  refine mE_g hh 49 (v := .ref 91) rfl rfl rfl ?_
  refine zz_E.n 50 rfl rfl rfl ?_
  refine zz_E.c 51 (.int 1) rfl rfl rfl rfl ?_
  refine zz_E.n 52 rfl rfl rfl ?_
  refine mE_ia hh 53 30 (f := (s.2.2.1 50)) rfl (by decide) rfl rfl i52 rfl ?_
  refine zz_E.n 55 rfl rfl rfl ?_
  refine zz_E.n 56 rfl rfl rfl ?_
  refine zz_E.b1 64 59 (A := x1 = 0) rfl rfl (by decide) rfl rfl (fun c => ?_) (fun c => ?_)
  · exact zz_E.weak (k1 c) rfl ⟨rfl, trivial⟩
  · exact zz_E.weak (k2 c) rfl ⟨rfl, rfl, rfl, rfl, rfl, rfl, trivial⟩
theorem mb_325_59 {X : Nat → Option zz_C} {h : zz_H} (hh : 111 ≤ h.length) {s : mS} {d : Nat} {Q : Option Value → zz_H → Prop} {x1 : Int32} {x2 : Int32} {x3 : Int32} {x4 : Int32} {x5 : Int32} (k1 : x2 ≤ 1 → zz_E zp_P zt_tf zt_fd X d zm_325 74 [(0, .ref 61), (1, .int x1), (2, .int x2), (3, .int x3), (4, .int x4), (5, .int x5)] [] (mH h s) Q) (k2 : ¬ x2 ≤ 1 → zz_E zp_P zt_tf zt_fd X d zm_325 64 [(0, .ref 61)] [] (mH h s) Q) : zz_E zp_P zt_tf zt_fd X d zm_325 59 [(0, .ref 61), (1, .int x1), (2, .int x2), (3, .int x3), (4, .int x4), (5, .int x5)] [] (mH h s) Q := by
  refine zz_E.n 60 rfl rfl rfl ?_
  refine zz_E.c 61 (.int 1) rfl rfl rfl rfl ?_
  refine zz_E.b2 74 64 (A := x2 ≤ 1) rfl rfl (by decide) rfl rfl (fun c => ?_) (fun c => ?_)
  · exact zz_E.weak (k1 c) rfl ⟨rfl, rfl, rfl, rfl, rfl, rfl, trivial⟩
  · exact zz_E.weak (k2 c) rfl ⟨rfl, trivial⟩
theorem mb_325_64 {X : Nat → Option zz_C} {h : zz_H} (hh : 111 ≤ h.length) {s : mS} {d : Nat} {Q : Option Value → zz_H → Prop}  (k : zz_E zp_P zt_tf zt_fd X d zm_301 0 [(0, .ref 61), (1, .int 3), (2, .int (s.1 70))] [] (mH h s) (fun v h' => zz_E zp_P zt_tf zt_fd X (d + 1) zm_325 73 [] (v.toList ++ []) h' Q)) : zz_E zp_P zt_tf zt_fd X (d + 1) zm_325 64 [(0, .ref 61)] [] (mH h s) Q := by
  refine zz_E.n 65 rfl rfl rfl ?_
  refine zz_E.c 66 (.int 3) rfl rfl rfl rfl ?_
  refine zz_E.n 67 rfl rfl rfl ?_
  refine mE_g hh 70 (v := .int (s.1 70)) rfl rfl rfl ?_
  refine mE_cv hh 73 (as := []) rfl rfl (Nat.le_of_ble_eq_true rfl) (Nat.le_of_ble_eq_true rfl) rfl (Nat.le_of_ble_eq_true rfl) rfl ?_
  refine zz_E.mono k ?_
  intro v h' hE
  exact zz_E.weak hE rfl trivial
theorem mb_325_73 {X : Nat → Option zz_C} {h : zz_H} (hh : 111 ≤ h.length) {s : mS} {d : Nat} {Q : Option Value → zz_H → Prop}  (k : Q none (mH h s)) : zz_E zp_P zt_tf zt_fd X d zm_325 73 [] [] (mH h s) Q := by
  refine zz_E.ret rfl rfl rfl ?_
  exact k
theorem mb_325_74 {X : Nat → Option zz_C} {h : zz_H} (hh : 111 ≤ h.length) {s : mS} {d : Nat} {Q : Option Value → zz_H → Prop} {x1 : Int32} {x2 : Int32} {x3 : Int32} {x4 : Int32} {x5 : Int32} (k1 : ¬ x2 = 0 → zz_E zp_P zt_tf zt_fd X d zm_325 82 [(0, .ref 61), (1, .int x1), (2, .int x2), (3, .int x3), (4, .int x4), (5, .int x5)] [] (mH h s) Q) (k2 : ¬ ¬ x2 = 0 → zz_E zp_P zt_tf zt_fd X d zm_325 78 [(0, .ref 61), (1, .int x1), (2, .int x2), (3, .int x3), (4, .int x4), (5, .int x5)] [] (mH h s) Q) : zz_E zp_P zt_tf zt_fd X d zm_325 74 [(0, .ref 61), (1, .int x1), (2, .int x2), (3, .int x3), (4, .int x4), (5, .int x5)] [] (mH h s) Q := by
  refine zz_E.n 75 rfl rfl rfl ?_
  refine zz_E.b1 82 78 (A := ¬ x2 = 0) rfl (zz_cond_ne _ _) (by decide) rfl rfl (fun c => ?_) (fun c => ?_)
  · exact zz_E.weak (k1 c) rfl ⟨rfl, rfl, rfl, rfl, rfl, rfl, trivial⟩
  · exact zz_E.weak (k2 c) rfl ⟨rfl, rfl, rfl, rfl, rfl, rfl, trivial⟩
theorem mb_325_78 {X : Nat → Option zz_C} {h : zz_H} (hh : 111 ≤ h.length) {s : mS} {d : Nat} {Q : Option Value → zz_H → Prop} {x1 : Int32} {x2 : Int32} {x3 : Int32} {x4 : Int32} {x5 : Int32} (k : zz_E zp_P zt_tf zt_fd X d zm_325 88 [(0, .ref 61), (1, .int x1), (2, .int x2), (3, .int x3), (4, .int x4), (5, .int x5)] [.int 1] (mH h s) Q) : zz_E zp_P zt_tf zt_fd X d zm_325 78 [(0, .ref 61), (1, .int x1), (2, .int x2), (3, .int x3), (4, .int x4), (5, .int x5)] [] (mH h s) Q := by
  refine zz_E.c 79 (.int 1) rfl rfl rfl rfl ?_
  refine zz_E.n 88 rfl rfl rfl ?_
  exact zz_E.weak k rfl ⟨rfl, rfl, rfl, rfl, rfl, rfl, trivial⟩
theorem mb_325_82 {X : Nat → Option zz_C} {h : zz_H} (hh : 111 ≤ h.length) {s : mS} {d : Nat} {Q : Option Value → zz_H → Prop} {x1 : Int32} {x2 : Int32} {x3 : Int32} {x4 : Int32} {x5 : Int32} (k : zz_E zp_P zt_tf zt_fd X d zm_77 0 [(0, .ref 61), (1, .int x5)] [] (mH h s) (fun v h' => zz_E zp_P zt_tf zt_fd X (d + 1) zm_325 88 [(0, .ref 61), (1, .int x1), (2, .int x2), (3, .int x3), (4, .int x4), (5, .int x5)] (v.toList ++ []) h' Q)) : zz_E zp_P zt_tf zt_fd X (d + 1) zm_325 82 [(0, .ref 61), (1, .int x1), (2, .int x2), (3, .int x3), (4, .int x4), (5, .int x5)] [] (mH h s) Q := by
  refine zz_E.n 83 rfl rfl rfl ?_
  refine zz_E.n 85 rfl rfl rfl ?_
  refine mE_cv hh 88 (as := []) rfl rfl (Nat.le_of_ble_eq_true rfl) (Nat.le_of_ble_eq_true rfl) rfl (Nat.le_of_ble_eq_true rfl) rfl ?_
  refine zz_E.mono k ?_
  intro v h' hE
  exact zz_E.weak hE rfl ⟨rfl, rfl, rfl, rfl, rfl, rfl, trivial⟩
theorem mb_325_88 {X : Nat → Option zz_C} {h : zz_H} (hh : 111 ≤ h.length) {s : mS} {d : Nat} {Q : Option Value → zz_H → Prop} {x1 : Int32} {x2 : Int32} {x3 : Int32} {x4 : Int32} {x5 : Int32} {y0 : Int32} (k : zz_E zp_P zt_tf zt_fd X d zm_325 93 [(0, .ref 61), (1, .int x1), (2, .int x2), (3, .int x3), (4, .int x4), (5, .int x5), (6, .int y0), (7, .int 0)] [] (mH h s) Q) : zz_E zp_P zt_tf zt_fd X d zm_325 88 [(0, .ref 61), (1, .int x1), (2, .int x2), (3, .int x3), (4, .int x4), (5, .int x5)] [.int y0] (mH h s) Q := by
  refine zz_E.n 90 rfl rfl rfl ?_
  refine zz_E.c 91 (.int 0) rfl rfl rfl rfl ?_
  refine zz_E.n 93 rfl rfl rfl ?_
  exact zz_E.weak k rfl ⟨rfl, rfl, rfl, rfl, rfl, rfl, rfl, rfl, trivial⟩
theorem mb_325_93 {X : Nat → Option zz_C} {h : zz_H} (hh : 111 ≤ h.length) {s : mS} {d : Nat} {Q : Option Value → zz_H → Prop} {x1 : Int32} {x2 : Int32} {x3 : Int32} {x4 : Int32} {x5 : Int32} {x6 : Int32} {x7 : Int32} (k1 : x6 ≤ x7 → zz_E zp_P zt_tf zt_fd X d zm_325 155 [(0, .ref 61), (1, .int x1), (2, .int x2), (3, .int x3), (4, .int x4), (5, .int x5), (6, .int x6)] [] (mH h s) Q) (k2 : ¬ x6 ≤ x7 → zz_E zp_P zt_tf zt_fd X d zm_325 100 [(0, .ref 61), (1, .int x1), (2, .int x2), (3, .int x3), (4, .int x4), (5, .int x5), (6, .int x6), (7, .int x7)] [] (mH h s) Q) : zz_E zp_P zt_tf zt_fd X d zm_325 93 [(0, .ref 61), (1, .int x1), (2, .int x2), (3, .int x3), (4, .int x4), (5, .int x5), (6, .int x6), (7, .int x7)] [] (mH h s) Q := by
  refine zz_E.n 95 rfl rfl rfl ?_
  refine zz_E.n 97 rfl rfl rfl ?_
  refine zz_E.b2 155 100 (A := x6 ≤ x7) rfl rfl (by decide) rfl rfl (fun c => ?_) (fun c => ?_)
  · exact zz_E.weak (k1 c) rfl ⟨rfl, rfl, rfl, rfl, rfl, rfl, rfl, trivial⟩
  · exact zz_E.weak (k2 c) rfl ⟨rfl, rfl, rfl, rfl, rfl, rfl, rfl, rfl, trivial⟩
theorem mb_325_100 {X : Nat → Option zz_C} {h : zz_H} (hh : 111 ≤ h.length) {s : mS} {d : Nat} {Q : Option Value → zz_H → Prop} {x1 : Int32} {x2 : Int32} {x3 : Int32} {x4 : Int32} {x5 : Int32} {x6 : Int32} {x7 : Int32} (k1 : ¬ x2 = 0 → zz_E zp_P zt_tf zt_fd X d zm_325 109 [(0, .ref 61), (1, .int x1), (2, .int x2), (3, .int x3), (4, .int x4), (5, .int x5), (6, .int x6), (7, .int x7)] [] (mH h s) Q) (k2 : ¬ ¬ x2 = 0 → zz_E zp_P zt_tf zt_fd X d zm_325 104 [(0, .ref 61), (1, .int x1), (2, .int x2), (3, .int x3), (4, .int x4), (5, .int x5), (6, .int x6), (7, .int x7)] [] (mH h s) Q) : zz_E zp_P zt_tf zt_fd X d zm_325 100 [(0, .ref 61), (1, .int x1), (2, .int x2), (3, .int x3), (4, .int x4), (5, .int x5), (6, .int x6), (7, .int x7)] [] (mH h s) Q := by
  refine zz_E.n 101 rfl rfl rfl ?_
  refine zz_E.b1 109 104 (A := ¬ x2 = 0) rfl (zz_cond_ne _ _) (by decide) rfl rfl (fun c => ?_) (fun c => ?_)
  · exact zz_E.weak (k1 c) rfl ⟨rfl, rfl, rfl, rfl, rfl, rfl, rfl, rfl, trivial⟩
  · exact zz_E.weak (k2 c) rfl ⟨rfl, rfl, rfl, rfl, rfl, rfl, rfl, rfl, trivial⟩
theorem mb_325_104 {X : Nat → Option zz_C} {h : zz_H} (hh : 111 ≤ h.length) {s : mS} {d : Nat} {Q : Option Value → zz_H → Prop} {x1 : Int32} {x2 : Int32} {x3 : Int32} {x4 : Int32} {x5 : Int32} {x6 : Int32} {x7 : Int32} (k : zz_E zp_P zt_tf zt_fd X d zm_325 121 [(0, .ref 61), (1, .int x1), (2, .int x2), (3, .int x3), (4, .int x4), (5, .int x5), (6, .int x6), (7, .int x7)] [.int x5] (mH h s) Q) : zz_E zp_P zt_tf zt_fd X d zm_325 104 [(0, .ref 61), (1, .int x1), (2, .int x2), (3, .int x3), (4, .int x4), (5, .int x5), (6, .int x6), (7, .int x7)] [] (mH h s) Q := by
  refine zz_E.n 106 rfl rfl rfl ?_
  refine zz_E.n 121 rfl rfl rfl ?_
  exact zz_E.weak k rfl ⟨rfl, rfl, rfl, rfl, rfl, rfl, rfl, rfl, trivial⟩
theorem mb_325_109 {X : Nat → Option zz_C} {h : zz_H} (hh : 111 ≤ h.length) {s : mS} {d : Nat} {Q : Option Value → zz_H → Prop} {x1 : Int32} {x2 : Int32} {x3 : Int32} {x4 : Int32} {x5 : Int32} {x6 : Int32} {x7 : Int32} (i120 : ¬ (((x5 + 2) + x7) < 0 ∨ 166300 ≤ Int32.toNatClampNeg ((x5 + 2) + x7))) (k : zz_E zp_P zt_tf zt_fd X d zm_325 121 [(0, .ref 61), (1, .int x1), (2, .int x2), (3, .int x3), (4, .int x4), (5, .int x5), (6, .int x6), (7, .int x7)] [.int ((s.2.2.1 47) (Int32.toNatClampNeg ((x5 + 2) + x7)))] (mH h s) Q) : zz_E zp_P zt_tf zt_fd X d zm_325 109 [(0, .ref 61), (1, .int x1), (2, .int x2), (3, .int x3), (4, .int x4), (5, .int x5), (6, .int x6), (7, .int x7)] [] (mH h s) Q := by
  refine zz_E.n 110 rfl rfl rfl ?_
  refine mE_g hh 113 (v := .ref 89) rfl rfl rfl ?_
  refine zz_E.n 115 rfl rfl rfl ?_
  refine zz_E.c 116 (.int 2) rfl rfl rfl rfl ?_
  refine zz_E.n 117 rfl rfl rfl ?_
  refine zz_E.n 119 rfl rfl rfl ?_
  refine zz_E.n 120 rfl rfl rfl ?_
  refine mE_ia hh 121 28 (f := (s.2.2.1 47)) rfl (by decide) rfl rfl i120 rfl ?_
  exact zz_E.weak k rfl ⟨rfl, rfl, rfl, rfl, rfl, rfl, rfl, rfl, trivial⟩
theorem mb_325_121 {X : Nat → Option zz_C} {h : zz_H} (hh : 111 ≤ h.length) {s : mS} {d : Nat} {Q : Option Value → zz_H → Prop} {x1 : Int32} {x2 : Int32} {x3 : Int32} {x4 : Int32} {x5 : Int32} {x6 : Int32} {x7 : Int32} {y0 : Int32} (k1 : y0 < 0 → zz_E zp_P zt_tf zt_fd X d zm_325 139 [(0, .ref 61)] [] (mH h s) Q) (k2 : ¬ y0 < 0 → zz_E zp_P zt_tf zt_fd X d zm_325 128 [(0, .ref 61), (1, .int x1), (2, .int x2), (3, .int x3), (4, .int x4), (5, .int x5), (6, .int x6), (7, .int x7), (8, .int y0)] [] (mH h s) Q) : zz_E zp_P zt_tf zt_fd X d zm_325 121 [(0, .ref 61), (1, .int x1), (2, .int x2), (3, .int x3), (4, .int x4), (5, .int x5), (6, .int x6), (7, .int x7)] [.int y0] (mH h s) Q := by
  refine zz_E.n 123 rfl rfl rfl ?_
  refine zz_E.n 125 rfl rfl rfl ?_
  refine zz_E.b1 139 128 (A := y0 < 0) rfl rfl (by decide) rfl rfl (fun c => ?_) (fun c => ?_)
  · exact zz_E.weak (k1 c) rfl ⟨rfl, trivial⟩
  · exact zz_E.weak (k2 c) rfl ⟨rfl, rfl, rfl, rfl, rfl, rfl, rfl, rfl, rfl, trivial⟩
theorem mb_325_128 {X : Nat → Option zz_C} {h : zz_H} (hh : 111 ≤ h.length) {s : mS} {d : Nat} {Q : Option Value → zz_H → Prop} {x1 : Int32} {x2 : Int32} {x3 : Int32} {x4 : Int32} {x5 : Int32} {x6 : Int32} {x7 : Int32} {x8 : Int32} (k : zz_E zp_P zt_tf zt_fd X d zm_77 0 [(0, .ref 61), (1, .int x4)] [] (mH h s) (fun v h' => zz_E zp_P zt_tf zt_fd X (d + 1) zm_325 136 [(0, .ref 61), (1, .int x1), (2, .int x2), (3, .int x3), (4, .int x4), (5, .int x5), (6, .int x6), (7, .int x7)] (v.toList ++ [.int x8]) h' Q)) : zz_E zp_P zt_tf zt_fd X (d + 1) zm_325 128 [(0, .ref 61), (1, .int x1), (2, .int x2), (3, .int x3), (4, .int x4), (5, .int x5), (6, .int x6), (7, .int x7), (8, .int x8)] [] (mH h s) Q := by
  refine zz_E.n 130 rfl rfl rfl ?_
  refine zz_E.n 131 rfl rfl rfl ?_
  refine zz_E.n 133 rfl rfl rfl ?_
  refine mE_cv hh 136 (as := [.int x8]) rfl rfl (Nat.le_of_ble_eq_true rfl) (Nat.le_of_ble_eq_true rfl) rfl (Nat.le_of_ble_eq_true rfl) rfl ?_
  refine zz_E.mono k ?_
  intro v h' hE
  exact zz_E.weak hE rfl ⟨rfl, rfl, rfl, rfl, rfl, rfl, rfl, rfl, trivial⟩
theorem mb_325_136 {X : Nat → Option zz_C} {h : zz_H} (hh : 111 ≤ h.length) {s : mS} {d : Nat} {Q : Option Value → zz_H → Prop} {x1 : Int32} {x2 : Int32} {x3 : Int32} {x4 : Int32} {x5 : Int32} {x6 : Int32} {x7 : Int32} {y0 : Int32} {y1 : Int32} (k1 : y0 < y1 → zz_E zp_P zt_tf zt_fd X d zm_325 149 [(0, .ref 61), (1, .int x1), (2, .int x2), (3, .int x3), (4, .int x4), (5, .int x5), (6, .int x6), (7, .int x7)] [] (mH h s) Q) (k2 : ¬ y0 < y1 → zz_E zp_P zt_tf zt_fd X d zm_325 139 [(0, .ref 61)] [] (mH h s) Q) : zz_E zp_P zt_tf zt_fd X d zm_325 136 [(0, .ref 61), (1, .int x1), (2, .int x2), (3, .int x3), (4, .int x4), (5, .int x5), (6, .int x6), (7, .int x7)] [.int y1, .int y0] (mH h s) Q := by
  refine zz_E.b2 149 139 (A := y0 < y1) rfl rfl (by decide) rfl rfl (fun c => ?_) (fun c => ?_)
  · exact zz_E.weak (k1 c) rfl ⟨rfl, rfl, rfl, rfl, rfl, rfl, rfl, rfl, trivial⟩
  · exact zz_E.weak (k2 c) rfl ⟨rfl, trivial⟩
theorem mb_325_139 {X : Nat → Option zz_C} {h : zz_H} (hh : 111 ≤ h.length) {s : mS} {d : Nat} {Q : Option Value → zz_H → Prop}  (k : zz_E zp_P zt_tf zt_fd X d zm_301 0 [(0, .ref 61), (1, .int 5), (2, .int (s.1 70))] [] (mH h s) (fun v h' => zz_E zp_P zt_tf zt_fd X (d + 1) zm_325 148 [] (v.toList ++ []) h' Q)) : zz_E zp_P zt_tf zt_fd X (d + 1) zm_325 139 [(0, .ref 61)] [] (mH h s) Q := by
  refine zz_E.n 140 rfl rfl rfl ?_
  refine zz_E.c 141 (.int 5) rfl rfl rfl rfl ?_
  refine zz_E.n 142 rfl rfl rfl ?_
  refine mE_g hh 145 (v := .int (s.1 70)) rfl rfl rfl ?_
  refine mE_cv hh 148 (as := []) rfl rfl (Nat.le_of_ble_eq_true rfl) (Nat.le_of_ble_eq_true rfl) rfl (Nat.le_of_ble_eq_true rfl) rfl ?_
  refine zz_E.mono k ?_
  intro v h' hE
  exact zz_E.weak hE rfl trivial
theorem mb_325_148 {X : Nat → Option zz_C} {h : zz_H} (hh : 111 ≤ h.length) {s : mS} {d : Nat} {Q : Option Value → zz_H → Prop}  (k : Q none (mH h s)) : zz_E zp_P zt_tf zt_fd X d zm_325 148 [] [] (mH h s) Q := by
  refine zz_E.ret rfl rfl rfl ?_
  exact k
theorem mb_325_149 {X : Nat → Option zz_C} {h : zz_H} (hh : 111 ≤ h.length) {s : mS} {d : Nat} {Q : Option Value → zz_H → Prop} {x1 : Int32} {x2 : Int32} {x3 : Int32} {x4 : Int32} {x5 : Int32} {x6 : Int32} {x7 : Int32} (k : zz_E zp_P zt_tf zt_fd X d zm_325 93 [(0, .ref 61), (1, .int x1), (2, .int x2), (3, .int x3), (4, .int x4), (5, .int x5), (6, .int x6), (7, .int (x7 + 1))] [] (mH h s) Q) : zz_E zp_P zt_tf zt_fd X d zm_325 149 [(0, .ref 61), (1, .int x1), (2, .int x2), (3, .int x3), (4, .int x4), (5, .int x5), (6, .int x6), (7, .int x7)] [] (mH h s) Q := by
  refine zz_E.n 152 rfl rfl rfl ?_
  refine zz_E.n 93 rfl rfl rfl ?_
  exact zz_E.weak k rfl ⟨rfl, rfl, rfl, rfl, rfl, rfl, rfl, rfl, trivial⟩
theorem mb_325_155 {X : Nat → Option zz_C} {h : zz_H} (hh : 111 ≤ h.length) {s : mS} {d : Nat} {Q : Option Value → zz_H → Prop} {x1 : Int32} {x2 : Int32} {x3 : Int32} {x4 : Int32} {x5 : Int32} {x6 : Int32} (k1 : ¬ x2 = 0 → zz_E zp_P zt_tf zt_fd X d zm_325 193 [(0, .ref 61), (1, .int x1), (3, .int x3), (4, .int x4), (5, .int x5), (6, .int x6)] [] (mH h s) Q) (k2 : ¬ ¬ x2 = 0 → zz_E zp_P zt_tf zt_fd X d zm_325 159 [(0, .ref 61), (3, .int x3), (4, .int x4), (5, .int x5)] [] (mH h s) Q) : zz_E zp_P zt_tf zt_fd X d zm_325 155 [(0, .ref 61), (1, .int x1), (2, .int x2), (3, .int x3), (4, .int x4), (5, .int x5), (6, .int x6)] [] (mH h s) Q := by
  refine zz_E.n 156 rfl rfl rfl ?_
  refine zz_E.b1 193 159 (A := ¬ x2 = 0) rfl (zz_cond_ne _ _) (by decide) rfl rfl (fun c => ?_) (fun c => ?_)
  · exact zz_E.weak (k1 c) rfl ⟨rfl, rfl, rfl, rfl, rfl, rfl, trivial⟩
  · exact zz_E.weak (k2 c) rfl ⟨rfl, rfl, rfl, rfl, trivial⟩
theorem mb_325_159 {X : Nat → Option zz_C} {h : zz_H} (hh : 111 ≤ h.length) {s : mS} {d : Nat} {Q : Option Value → zz_H → Prop} {x3 : Int32} {x4 : Int32} {x5 : Int32} (k : zz_E zp_P zt_tf zt_fd X d zm_295 0 [(0, .ref 61), (1, .int x4), (2, .int x5)] [] (mH h s) (fun v h' => zz_E zp_P zt_tf zt_fd X (d + 1) zm_325 167 [(0, .ref 61), (3, .int x3)] (v.toList ++ []) h' Q)) : zz_E zp_P zt_tf zt_fd X (d + 1) zm_325 159 [(0, .ref 61), (3, .int x3), (4, .int x4), (5, .int x5)] [] (mH h s) Q := by
  refine zz_E.n 160 rfl rfl rfl ?_
  refine zz_E.n 162 rfl rfl rfl ?_
  refine zz_E.n 164 rfl rfl rfl ?_
  refine mE_cv hh 167 (as := []) rfl rfl (Nat.le_of_ble_eq_true rfl) (Nat.le_of_ble_eq_true rfl) rfl (Nat.le_of_ble_eq_true rfl) rfl ?_
  refine zz_E.mono k ?_
  intro v h' hE
  exact zz_E.weak hE rfl ⟨rfl, rfl, trivial⟩
theorem mb_325_167 {X : Nat → Option zz_C} {h : zz_H} (hh : 111 ≤ h.length) {s : mS} {d : Nat} {Q : Option Value → zz_H → Prop} {x3 : Int32} (i172 : ¬ (x3 < 0 ∨ 9000 ≤ Int32.toNatClampNeg x3)) (k1 : ¬ ((s.2.2.1 49) (Int32.toNatClampNeg x3)) = 0 → zz_E zp_P zt_tf zt_fd X d zm_325 177 [(0, .ref 61), (3, .int x3)] [] (mH h s) Q) (k2 : ¬ ¬ ((s.2.2.1 49) (Int32.toNatClampNeg x3)) = 0 → zz_E zp_P zt_tf zt_fd X d zm_325 176 [] [] (mH h s) Q) : zz_E zp_P zt_tf zt_fd X d zm_325 167 [(0, .ref 61), (3, .int x3)] [] (mH h s) Q := by
  refine zz_E.n 168 rfl rfl rfl ?_
  refine mE_g hh 171 (v := .ref 90) rfl rfl rfl ?_
  refine zz_E.n 172 rfl rfl rfl ?_
  refine mE_ia hh 173 29 (f := (s.2.2.1 49)) rfl (by decide) rfl rfl i172 rfl ?_
  refine zz_E.b1 177 176 (A := ¬ ((s.2.2.1 49) (Int32.toNatClampNeg x3)) = 0) rfl (zz_cond_ne _ _) (by decide) rfl rfl (fun c => ?_) (fun c => ?_)
  · exact zz_E.weak (k1 c) rfl ⟨rfl, rfl, trivial⟩
  · exact zz_E.weak (k2 c) rfl trivial
theorem mb_325_176 {X : Nat → Option zz_C} {h : zz_H} (hh : 111 ≤ h.length) {s : mS} {d : Nat} {Q : Option Value → zz_H → Prop}  (k : Q none (mH h s)) : zz_E zp_P zt_tf zt_fd X d zm_325 176 [] [] (mH h s) Q := by
  refine zz_E.ret rfl rfl rfl ?_
  exact k
theorem mb_325_177 {X : Nat → Option zz_C} {h : zz_H} (hh : 111 ≤ h.length) {s : mS} {d : Nat} {Q : Option Value → zz_H → Prop} {x3 : Int32} (i188 : ¬ (x3 < 0 ∨ 9000 ≤ Int32.toNatClampNeg x3)) (k : zz_E zp_P zt_tf zt_fd X d zm_303 0 [(0, .ref 61), (1, .int ((s.2.2.1 50) (Int32.toNatClampNeg x3)))] [] (mH h (mI s 51 x3)) (fun v h' => zz_E zp_P zt_tf zt_fd X (d + 1) zm_325 192 [] (v.toList ++ []) h' Q)) : zz_E zp_P zt_tf zt_fd X (d + 1) zm_325 177 [(0, .ref 61), (3, .int x3)] [] (mH h s) Q := by
  refine zz_E.n 178 rfl rfl rfl ?_
  refine zz_E.n 179 rfl rfl rfl ?_
  refine mE_p hh 182 rfl (by decide) rfl (mF_51 _ _) rfl ?_
  refine zz_E.n 183 rfl rfl rfl ?_
  refine zz_E.n 184 rfl rfl rfl ?_
  refine mE_g hh 187 (v := .ref 91) rfl rfl rfl ?_
  refine zz_E.n 188 rfl rfl rfl ?_
  refine mE_ia hh 189 30 (f := (s.2.2.1 50)) rfl (by decide) rfl rfl i188 rfl ?_
  refine mE_cv hh 192 (as := []) rfl rfl (Nat.le_of_ble_eq_true rfl) (Nat.le_of_ble_eq_true rfl) rfl (Nat.le_of_ble_eq_true rfl) rfl ?_
  refine zz_E.mono k ?_
  intro v h' hE
  exact zz_E.weak hE rfl trivial
theorem mb_325_192 {X : Nat → Option zz_C} {h : zz_H} (hh : 111 ≤ h.length) {s : mS} {d : Nat} {Q : Option Value → zz_H → Prop}  (k : Q none (mH h s)) : zz_E zp_P zt_tf zt_fd X d zm_325 192 [] [] (mH h s) Q := by
  refine zz_E.ret rfl rfl rfl ?_
  exact k
theorem mb_325_193 {X : Nat → Option zz_C} {h : zz_H} (hh : 111 ≤ h.length) {s : mS} {d : Nat} {Q : Option Value → zz_H → Prop} {x1 : Int32} {x3 : Int32} {x4 : Int32} {x5 : Int32} {x6 : Int32} (k : zz_E zp_P zt_tf zt_fd X d zm_325 196 [(0, .ref 61), (1, .int x1), (3, .int x3), (4, .int x4), (5, .int x5), (6, .int x6), (7, .int 0)] [] (mH h s) Q) : zz_E zp_P zt_tf zt_fd X d zm_325 193 [(0, .ref 61), (1, .int x1), (3, .int x3), (4, .int x4), (5, .int x5), (6, .int x6)] [] (mH h s) Q := by
  refine zz_E.c 194 (.int 0) rfl rfl rfl rfl ?_
  refine zz_E.n 196 rfl rfl rfl ?_
  exact zz_E.weak k rfl ⟨rfl, rfl, rfl, rfl, rfl, rfl, rfl, trivial⟩
theorem mb_325_196 {X : Nat → Option zz_C} {h : zz_H} (hh : 111 ≤ h.length) {s : mS} {d : Nat} {Q : Option Value → zz_H → Prop} {x1 : Int32} {x3 : Int32} {x4 : Int32} {x5 : Int32} {x6 : Int32} {x7 : Int32} (k1 : x6 ≤ x7 → zz_E zp_P zt_tf zt_fd X d zm_325 227 [(0, .ref 61), (1, .int x1), (3, .int x3)] [] (mH h s) Q) (k2 : ¬ x6 ≤ x7 → zz_E zp_P zt_tf zt_fd X d zm_325 203 [(0, .ref 61), (1, .int x1), (3, .int x3), (4, .int x4), (5, .int x5), (6, .int x6), (7, .int x7)] [] (mH h s) Q) : zz_E zp_P zt_tf zt_fd X d zm_325 196 [(0, .ref 61), (1, .int x1), (3, .int x3), (4, .int x4), (5, .int x5), (6, .int x6), (7, .int x7)] [] (mH h s) Q := by
  refine zz_E.n 198 rfl rfl rfl ?_
  refine zz_E.n 200 rfl rfl rfl ?_
  refine zz_E.b2 227 203 (A := x6 ≤ x7) rfl rfl (by decide) rfl rfl (fun c => ?_) (fun c => ?_)
  · exact zz_E.weak (k1 c) rfl ⟨rfl, rfl, rfl, trivial⟩
  · exact zz_E.weak (k2 c) rfl ⟨rfl, rfl, rfl, rfl, rfl, rfl, rfl, trivial⟩
theorem mb_325_203 {X : Nat → Option zz_C} {h : zz_H} (hh : 111 ≤ h.length) {s : mS} {d : Nat} {Q : Option Value → zz_H → Prop} {x1 : Int32} {x3 : Int32} {x4 : Int32} {x5 : Int32} {x6 : Int32} {x7 : Int32} (i217 : ¬ (((x5 + 2) + x7) < 0 ∨ 166300 ≤ Int32.toNatClampNeg ((x5 + 2) + x7))) (k : zz_E zp_P zt_tf zt_fd X d zm_295 0 [(0, .ref 61), (1, .int x4), (2, .int ((s.2.2.1 47) (Int32.toNatClampNeg ((x5 + 2) + x7))))] [] (mH h s) (fun v h' => zz_E zp_P zt_tf zt_fd X (d + 1) zm_325 221 [(0, .ref 61), (1, .int x1), (3, .int x3), (4, .int x4), (5, .int x5), (6, .int x6), (7, .int x7)] (v.toList ++ []) h' Q)) : zz_E zp_P zt_tf zt_fd X (d + 1) zm_325 203 [(0, .ref 61), (1, .int x1), (3, .int x3), (4, .int x4), (5, .int x5), (6, .int x6), (7, .int x7)] [] (mH h s) Q := by
  refine zz_E.n 204 rfl rfl rfl ?_
  refine zz_E.n 206 rfl rfl rfl ?_
  refine zz_E.n 207 rfl rfl rfl ?_
  refine mE_g hh 210 (v := .ref 89) rfl rfl rfl ?_
  refine zz_E.n 212 rfl rfl rfl ?_
  refine zz_E.c 213 (.int 2) rfl rfl rfl rfl ?_
  refine zz_E.n 214 rfl rfl rfl ?_
  refine zz_E.n 216 rfl rfl rfl ?_
  refine zz_E.n 217 rfl rfl rfl ?_
  refine mE_ia hh 218 28 (f := (s.2.2.1 47)) rfl (by decide) rfl rfl i217 rfl ?_
  refine mE_cv hh 221 (as := []) rfl rfl (Nat.le_of_ble_eq_true rfl) (Nat.le_of_ble_eq_true rfl) rfl (Nat.le_of_ble_eq_true rfl) rfl ?_
  refine zz_E.mono k ?_
  intro v h' hE
  exact zz_E.weak hE rfl ⟨rfl, rfl, rfl, rfl, rfl, rfl, rfl, trivial⟩
theorem mb_325_221 {X : Nat → Option zz_C} {h : zz_H} (hh : 111 ≤ h.length) {s : mS} {d : Nat} {Q : Option Value → zz_H → Prop} {x1 : Int32} {x3 : Int32} {x4 : Int32} {x5 : Int32} {x6 : Int32} {x7 : Int32} (k : zz_E zp_P zt_tf zt_fd X d zm_325 196 [(0, .ref 61), (1, .int x1), (3, .int x3), (4, .int x4), (5, .int x5), (6, .int x6), (7, .int (x7 + 1))] [] (mH h s) Q) : zz_E zp_P zt_tf zt_fd X d zm_325 221 [(0, .ref 61), (1, .int x1), (3, .int x3), (4, .int x4), (5, .int x5), (6, .int x6), (7, .int x7)] [] (mH h s) Q := by
  refine zz_E.n 224 rfl rfl rfl ?_
  refine zz_E.n 196 rfl rfl rfl ?_
  exact zz_E.weak k rfl ⟨rfl, rfl, rfl, rfl, rfl, rfl, rfl, trivial⟩
theorem mb_325_227 {X : Nat → Option zz_C} {h : zz_H} (hh : 111 ≤ h.length) {s : mS} {d : Nat} {Q : Option Value → zz_H → Prop} {x1 : Int32} {x3 : Int32} (k : zz_E zp_P zt_tf zt_fd X d zm_305 0 [(0, .ref 61), (1, .int x1), (2, .int x3)] [] (mH h s) (fun v h' => zz_E zp_P zt_tf zt_fd X (d + 1) zm_325 233 [] (v.toList ++ []) h' Q)) : zz_E zp_P zt_tf zt_fd X (d + 1) zm_325 227 [(0, .ref 61), (1, .int x1), (3, .int x3)] [] (mH h s) Q := by
  refine zz_E.n 228 rfl rfl rfl ?_
  refine zz_E.n 229 rfl rfl rfl ?_
  refine zz_E.n 230 rfl rfl rfl ?_
  refine mE_cv hh 233 (as := []) rfl rfl (Nat.le_of_ble_eq_true rfl) (Nat.le_of_ble_eq_true rfl) rfl (Nat.le_of_ble_eq_true rfl) rfl ?_
  refine zz_E.mono k ?_
  intro v h' hE
  exact zz_E.weak hE rfl trivial
theorem mb_325_233 {X : Nat → Option zz_C} {h : zz_H} (hh : 111 ≤ h.length) {s : mS} {d : Nat} {Q : Option Value → zz_H → Prop}  (k : Q none (mH h s)) : zz_E zp_P zt_tf zt_fd X d zm_325 233 [] [] (mH h s) Q := by
  refine zz_E.ret rfl rfl rfl ?_
  exact k
def mf_325_73 (N : Nat)  (s : mS) : mO := some (s, none)
theorem mr_325_73 {X : Nat → Option zz_C} {h : zz_H} (hh : 111 ≤ h.length) {d : Nat} {N : Nat} {Q : Option Value → zz_H → Prop}  {s s' : mS} {v : Option Value} (hf : mf_325_73 N  s = some (s', v)) (k : Q v (mH h s')) : zz_E zp_P zt_tf zt_fd X (d + 4) zm_325 73 [] [] (mH h s) Q := by
  unfold mf_325_73 at hf
  cases hf
  exact mb_325_73 hh  k
def mf_325_64 (N : Nat)  (s : mS) : mO := mo_bv (mf_301 N 3 (s.1 70) s) (fun s1 => mf_325_73 N  s1)
theorem mr_325_64 {X : Nat → Option zz_C} {h : zz_H} (hh : 111 ≤ h.length) {d : Nat} {N : Nat} {Q : Option Value → zz_H → Prop}  {s s' : mS} {v : Option Value} (hf : mf_325_64 N  s = some (s', v)) (k : Q v (mH h s')) : zz_E zp_P zt_tf zt_fd X (d + 4) zm_325 64 [(0, .ref 61)] [] (mH h s) Q := by
  unfold mf_325_64 at hf
  obtain ⟨s1, e, hf⟩ := mo_bv_ok hf
  exact mb_325_64 (d := d + 3) hh  (mr_301 (d := d + 3) hh e (mr_325_73 hh hf k))
def mf_325_233 (N : Nat)  (s : mS) : mO := some (s, none)
theorem mr_325_233 {X : Nat → Option zz_C} {h : zz_H} (hh : 111 ≤ h.length) {d : Nat} {N : Nat} {Q : Option Value → zz_H → Prop}  {s s' : mS} {v : Option Value} (hf : mf_325_233 N  s = some (s', v)) (k : Q v (mH h s')) : zz_E zp_P zt_tf zt_fd X (d + 4) zm_325 233 [] [] (mH h s) Q := by
  unfold mf_325_233 at hf
  cases hf
  exact mb_325_233 hh  k
def mf_325_227 (N : Nat) (x1 : Int32) (x3 : Int32) (s : mS) : mO := mo_bv (mf_305 N x1 x3 s) (fun s1 => mf_325_233 N  s1)
theorem mr_325_227 {X : Nat → Option zz_C} {h : zz_H} (hh : 111 ≤ h.length) {d : Nat} {N : Nat} {Q : Option Value → zz_H → Prop} {x1 : Int32} {x3 : Int32} {s s' : mS} {v : Option Value} (hf : mf_325_227 N x1 x3 s = some (s', v)) (k : Q v (mH h s')) : zz_E zp_P zt_tf zt_fd X (d + 4) zm_325 227 [(0, .ref 61), (1, .int x1), (3, .int x3)] [] (mH h s) Q := by
  unfold mf_325_227 at hf
  obtain ⟨s1, e, hf⟩ := mo_bv_ok hf
  exact mb_325_227 (d := d + 3) hh  (mr_305 (d := d + 0) hh e (mr_325_233 hh hf k))
def mf_325_221 (N : Nat) (rc : Nat → Int32 → Int32 → Int32 → Int32 → Int32 → Int32 → mS → mO) (x1 : Int32) (x3 : Int32) (x4 : Int32) (x5 : Int32) (x6 : Int32) (x7 : Int32) (s : mS) : mO := rc 0 x1 x3 x4 x5 x6 (x7 + 1) s
theorem mr_325_221 {X : Nat → Option zz_C} {h : zz_H} (hh : 111 ≤ h.length) {d : Nat} {N : Nat} {rc : Nat → Int32 → Int32 → Int32 → Int32 → Int32 → Int32 → mS → mO} (hrc0 : ∀ {Q : Option Value → zz_H → Prop} {x1 : Int32} {x3 : Int32} {x4 : Int32} {x5 : Int32} {x6 : Int32} {x7 : Int32} {s s' : mS} {v : Option Value}, rc 0 x1 x3 x4 x5 x6 x7 s = some (s', v) → Q v (mH h s') → zz_E zp_P zt_tf zt_fd X (d + 4) zm_325 196 [(0, .ref 61), (1, .int x1), (3, .int x3), (4, .int x4), (5, .int x5), (6, .int x6), (7, .int x7)] [] (mH h s) Q) {Q : Option Value → zz_H → Prop} {x1 : Int32} {x3 : Int32} {x4 : Int32} {x5 : Int32} {x6 : Int32} {x7 : Int32} {s s' : mS} {v : Option Value} (hf : mf_325_221 N rc x1 x3 x4 x5 x6 x7 s = some (s', v)) (k : Q v (mH h s')) : zz_E zp_P zt_tf zt_fd X (d + 4) zm_325 221 [(0, .ref 61), (1, .int x1), (3, .int x3), (4, .int x4), (5, .int x5), (6, .int x6), (7, .int x7)] [] (mH h s) Q := by
  unfold mf_325_221 at hf
  exact mb_325_221 hh  (hrc0 hf k)
def mf_325_203 (N : Nat) (rc : Nat → Int32 → Int32 → Int32 → Int32 → Int32 → Int32 → mS → mO) (x1 : Int32) (x3 : Int32) (x4 : Int32) (x5 : Int32) (x6 : Int32) (x7 : Int32) (s : mS) : mO := if ¬ (((x5 + 2) + x7) < 0 ∨ 166300 ≤ Int32.toNatClampNeg ((x5 + 2) + x7)) then (mo_bv (mf_295 N x4 ((s.2.2.1 47) (Int32.toNatClampNeg ((x5 + 2) + x7))) s) (fun s1 => mf_325_221 N rc x1 x3 x4 x5 x6 x7 s1)) else none
theorem mr_325_203 {X : Nat → Option zz_C} {h : zz_H} (hh : 111 ≤ h.length) {d : Nat} {N : Nat} {rc : Nat → Int32 → Int32 → Int32 → Int32 → Int32 → Int32 → mS → mO} (hrc0 : ∀ {Q : Option Value → zz_H → Prop} {x1 : Int32} {x3 : Int32} {x4 : Int32} {x5 : Int32} {x6 : Int32} {x7 : Int32} {s s' : mS} {v : Option Value}, rc 0 x1 x3 x4 x5 x6 x7 s = some (s', v) → Q v (mH h s') → zz_E zp_P zt_tf zt_fd X (d + 4) zm_325 196 [(0, .ref 61), (1, .int x1), (3, .int x3), (4, .int x4), (5, .int x5), (6, .int x6), (7, .int x7)] [] (mH h s) Q) {Q : Option Value → zz_H → Prop} {x1 : Int32} {x3 : Int32} {x4 : Int32} {x5 : Int32} {x6 : Int32} {x7 : Int32} {s s' : mS} {v : Option Value} (hf : mf_325_203 N rc x1 x3 x4 x5 x6 x7 s = some (s', v)) (k : Q v (mH h s')) : zz_E zp_P zt_tf zt_fd X (d + 4) zm_325 203 [(0, .ref 61), (1, .int x1), (3, .int x3), (4, .int x4), (5, .int x5), (6, .int x6), (7, .int x7)] [] (mH h s) Q := by
  unfold mf_325_203 at hf
  obtain ⟨q0, hf⟩ := mo_if hf
  obtain ⟨s1, e, hf⟩ := mo_bv_ok hf
  exact mb_325_203 (d := d + 3) hh q0 (mr_295 (d := d + 2) hh e (mr_325_221 hh hrc0 hf k))
def mf_325_196 (N : Nat) (rc : Nat → Int32 → Int32 → Int32 → Int32 → Int32 → Int32 → mS → mO) (x1 : Int32) (x3 : Int32) (x4 : Int32) (x5 : Int32) (x6 : Int32) (x7 : Int32) (s : mS) : mO := if x6 ≤ x7 then mf_325_227 N x1 x3 s else mf_325_203 N rc x1 x3 x4 x5 x6 x7 s
theorem mr_325_196 {X : Nat → Option zz_C} {h : zz_H} (hh : 111 ≤ h.length) {d : Nat} {N : Nat} {rc : Nat → Int32 → Int32 → Int32 → Int32 → Int32 → Int32 → mS → mO} (hrc0 : ∀ {Q : Option Value → zz_H → Prop} {x1 : Int32} {x3 : Int32} {x4 : Int32} {x5 : Int32} {x6 : Int32} {x7 : Int32} {s s' : mS} {v : Option Value}, rc 0 x1 x3 x4 x5 x6 x7 s = some (s', v) → Q v (mH h s') → zz_E zp_P zt_tf zt_fd X (d + 4) zm_325 196 [(0, .ref 61), (1, .int x1), (3, .int x3), (4, .int x4), (5, .int x5), (6, .int x6), (7, .int x7)] [] (mH h s) Q) {Q : Option Value → zz_H → Prop} {x1 : Int32} {x3 : Int32} {x4 : Int32} {x5 : Int32} {x6 : Int32} {x7 : Int32} {s s' : mS} {v : Option Value} (hf : mf_325_196 N rc x1 x3 x4 x5 x6 x7 s = some (s', v)) (k : Q v (mH h s')) : zz_E zp_P zt_tf zt_fd X (d + 4) zm_325 196 [(0, .ref 61), (1, .int x1), (3, .int x3), (4, .int x4), (5, .int x5), (6, .int x6), (7, .int x7)] [] (mH h s) Q := by
  unfold mf_325_196 at hf
  refine mb_325_196 hh  (fun c => ?_) (fun c => ?_)
  · rw [if_pos c] at hf
    exact mr_325_227 hh hf k
  · rw [if_neg c] at hf
    exact mr_325_203 hh hrc0 hf k
def mf_325_L4 (N : Nat) : Nat → Nat → Int32 → Int32 → Int32 → Int32 → Int32 → Int32 → mS → mO
  | 0, _, _, _, _, _, _, _, _ => none
  | n + 1, l, x1, x3, x4, x5, x6, x7, s => if l = 0 then mf_325_196 N (mf_325_L4 N n) x1 x3 x4 x5 x6 x7 s else none
theorem mr_325_L4 {X : Nat → Option zz_C} {h : zz_H} (hh : 111 ≤ h.length) {d : Nat} {N : Nat} : ∀ n : Nat, (∀ {Q : Option Value → zz_H → Prop} {x1 : Int32} {x3 : Int32} {x4 : Int32} {x5 : Int32} {x6 : Int32} {x7 : Int32} {s s' : mS} {v : Option Value}, mf_325_L4 N n 0 x1 x3 x4 x5 x6 x7 s = some (s', v) → Q v (mH h s') → zz_E zp_P zt_tf zt_fd X (d + 4) zm_325 196 [(0, .ref 61), (1, .int x1), (3, .int x3), (4, .int x4), (5, .int x5), (6, .int x6), (7, .int x7)] [] (mH h s) Q) := by
  intro n
  induction n with
  | zero => exact (fun hf _ => by cases hf)
  | succ n ih =>
    have h0 := @ih
    intro Q _ _ _ _ _ _ s s' v hf k
    unfold mf_325_L4 at hf
    rw [if_pos rfl] at hf
    exact mr_325_196 hh h0 hf k
def mf_325_193 (N : Nat) (x1 : Int32) (x3 : Int32) (x4 : Int32) (x5 : Int32) (x6 : Int32) (s : mS) : mO := mf_325_L4 N N 0 x1 x3 x4 x5 x6 0 s
theorem mr_325_193 {X : Nat → Option zz_C} {h : zz_H} (hh : 111 ≤ h.length) {d : Nat} {N : Nat} {Q : Option Value → zz_H → Prop} {x1 : Int32} {x3 : Int32} {x4 : Int32} {x5 : Int32} {x6 : Int32} {s s' : mS} {v : Option Value} (hf : mf_325_193 N x1 x3 x4 x5 x6 s = some (s', v)) (k : Q v (mH h s')) : zz_E zp_P zt_tf zt_fd X (d + 4) zm_325 193 [(0, .ref 61), (1, .int x1), (3, .int x3), (4, .int x4), (5, .int x5), (6, .int x6)] [] (mH h s) Q := by
  unfold mf_325_193 at hf
  exact mb_325_193 hh  (mr_325_L4 hh N hf k)
def mf_325_192 (N : Nat)  (s : mS) : mO := some (s, none)
theorem mr_325_192 {X : Nat → Option zz_C} {h : zz_H} (hh : 111 ≤ h.length) {d : Nat} {N : Nat} {Q : Option Value → zz_H → Prop}  {s s' : mS} {v : Option Value} (hf : mf_325_192 N  s = some (s', v)) (k : Q v (mH h s')) : zz_E zp_P zt_tf zt_fd X (d + 4) zm_325 192 [] [] (mH h s) Q := by
  unfold mf_325_192 at hf
  cases hf
  exact mb_325_192 hh  k
def mf_325_177 (N : Nat) (x3 : Int32) (s : mS) : mO := if ¬ (x3 < 0 ∨ 9000 ≤ Int32.toNatClampNeg x3) then (mo_bv (mf_303 N ((s.2.2.1 50) (Int32.toNatClampNeg x3)) (mI s 51 x3)) (fun s1 => mf_325_192 N  s1)) else none
theorem mr_325_177 {X : Nat → Option zz_C} {h : zz_H} (hh : 111 ≤ h.length) {d : Nat} {N : Nat} {Q : Option Value → zz_H → Prop} {x3 : Int32} {s s' : mS} {v : Option Value} (hf : mf_325_177 N x3 s = some (s', v)) (k : Q v (mH h s')) : zz_E zp_P zt_tf zt_fd X (d + 4) zm_325 177 [(0, .ref 61), (3, .int x3)] [] (mH h s) Q := by
  unfold mf_325_177 at hf
  obtain ⟨q0, hf⟩ := mo_if hf
  obtain ⟨s1, e, hf⟩ := mo_bv_ok hf
  exact mb_325_177 (d := d + 3) hh q0 (mr_303 (d := d + 1) hh e (mr_325_192 hh hf k))
def mf_325_176 (N : Nat)  (s : mS) : mO := some (s, none)
theorem mr_325_176 {X : Nat → Option zz_C} {h : zz_H} (hh : 111 ≤ h.length) {d : Nat} {N : Nat} {Q : Option Value → zz_H → Prop}  {s s' : mS} {v : Option Value} (hf : mf_325_176 N  s = some (s', v)) (k : Q v (mH h s')) : zz_E zp_P zt_tf zt_fd X (d + 4) zm_325 176 [] [] (mH h s) Q := by
  unfold mf_325_176 at hf
  cases hf
  exact mb_325_176 hh  k
def mf_325_167 (N : Nat) (x3 : Int32) (s : mS) : mO := if ¬ (x3 < 0 ∨ 9000 ≤ Int32.toNatClampNeg x3) then (if ¬ ((s.2.2.1 49) (Int32.toNatClampNeg x3)) = 0 then mf_325_177 N x3 s else mf_325_176 N  s) else none
theorem mr_325_167 {X : Nat → Option zz_C} {h : zz_H} (hh : 111 ≤ h.length) {d : Nat} {N : Nat} {Q : Option Value → zz_H → Prop} {x3 : Int32} {s s' : mS} {v : Option Value} (hf : mf_325_167 N x3 s = some (s', v)) (k : Q v (mH h s')) : zz_E zp_P zt_tf zt_fd X (d + 4) zm_325 167 [(0, .ref 61), (3, .int x3)] [] (mH h s) Q := by
  unfold mf_325_167 at hf
  obtain ⟨q0, hf⟩ := mo_if hf
  refine mb_325_167 hh q0 (fun c => ?_) (fun c => ?_)
  · rw [if_pos c] at hf
    exact mr_325_177 hh hf k
  · rw [if_neg c] at hf
    exact mr_325_176 hh hf k
def mf_325_159 (N : Nat) (x3 : Int32) (x4 : Int32) (x5 : Int32) (s : mS) : mO := mo_bv (mf_295 N x4 x5 s) (fun s1 => mf_325_167 N x3 s1)
theorem mr_325_159 {X : Nat → Option zz_C} {h : zz_H} (hh : 111 ≤ h.length) {d : Nat} {N : Nat} {Q : Option Value → zz_H → Prop} {x3 : Int32} {x4 : Int32} {x5 : Int32} {s s' : mS} {v : Option Value} (hf : mf_325_159 N x3 x4 x5 s = some (s', v)) (k : Q v (mH h s')) : zz_E zp_P zt_tf zt_fd X (d + 4) zm_325 159 [(0, .ref 61), (3, .int x3), (4, .int x4), (5, .int x5)] [] (mH h s) Q := by
  unfold mf_325_159 at hf
  obtain ⟨s1, e, hf⟩ := mo_bv_ok hf
  exact mb_325_159 (d := d + 3) hh  (mr_295 (d := d + 2) hh e (mr_325_167 hh hf k))
def mf_325_155 (N : Nat) (x1 : Int32) (x2 : Int32) (x3 : Int32) (x4 : Int32) (x5 : Int32) (x6 : Int32) (s : mS) : mO := if ¬ x2 = 0 then mf_325_193 N x1 x3 x4 x5 x6 s else mf_325_159 N x3 x4 x5 s
theorem mr_325_155 {X : Nat → Option zz_C} {h : zz_H} (hh : 111 ≤ h.length) {d : Nat} {N : Nat} {Q : Option Value → zz_H → Prop} {x1 : Int32} {x2 : Int32} {x3 : Int32} {x4 : Int32} {x5 : Int32} {x6 : Int32} {s s' : mS} {v : Option Value} (hf : mf_325_155 N x1 x2 x3 x4 x5 x6 s = some (s', v)) (k : Q v (mH h s')) : zz_E zp_P zt_tf zt_fd X (d + 4) zm_325 155 [(0, .ref 61), (1, .int x1), (2, .int x2), (3, .int x3), (4, .int x4), (5, .int x5), (6, .int x6)] [] (mH h s) Q := by
  unfold mf_325_155 at hf
  refine mb_325_155 hh  (fun c => ?_) (fun c => ?_)
  · rw [if_pos c] at hf
    exact mr_325_193 hh hf k
  · rw [if_neg c] at hf
    exact mr_325_159 hh hf k
def mf_325_148 (N : Nat)  (s : mS) : mO := some (s, none)
theorem mr_325_148 {X : Nat → Option zz_C} {h : zz_H} (hh : 111 ≤ h.length) {d : Nat} {N : Nat} {Q : Option Value → zz_H → Prop}  {s s' : mS} {v : Option Value} (hf : mf_325_148 N  s = some (s', v)) (k : Q v (mH h s')) : zz_E zp_P zt_tf zt_fd X (d + 4) zm_325 148 [] [] (mH h s) Q := by
  unfold mf_325_148 at hf
  cases hf
  exact mb_325_148 hh  k
def mf_325_139 (N : Nat)  (s : mS) : mO := mo_bv (mf_301 N 5 (s.1 70) s) (fun s1 => mf_325_148 N  s1)
theorem mr_325_139 {X : Nat → Option zz_C} {h : zz_H} (hh : 111 ≤ h.length) {d : Nat} {N : Nat} {Q : Option Value → zz_H → Prop}  {s s' : mS} {v : Option Value} (hf : mf_325_139 N  s = some (s', v)) (k : Q v (mH h s')) : zz_E zp_P zt_tf zt_fd X (d + 4) zm_325 139 [(0, .ref 61)] [] (mH h s) Q := by
  unfold mf_325_139 at hf
  obtain ⟨s1, e, hf⟩ := mo_bv_ok hf
  exact mb_325_139 (d := d + 3) hh  (mr_301 (d := d + 3) hh e (mr_325_148 hh hf k))
def mf_325_149 (N : Nat) (rc : Nat → Int32 → Int32 → Int32 → Int32 → Int32 → Int32 → Int32 → mS → mO) (x1 : Int32) (x2 : Int32) (x3 : Int32) (x4 : Int32) (x5 : Int32) (x6 : Int32) (x7 : Int32) (s : mS) : mO := rc 0 x1 x2 x3 x4 x5 x6 (x7 + 1) s
theorem mr_325_149 {X : Nat → Option zz_C} {h : zz_H} (hh : 111 ≤ h.length) {d : Nat} {N : Nat} {rc : Nat → Int32 → Int32 → Int32 → Int32 → Int32 → Int32 → Int32 → mS → mO} (hrc0 : ∀ {Q : Option Value → zz_H → Prop} {x1 : Int32} {x2 : Int32} {x3 : Int32} {x4 : Int32} {x5 : Int32} {x6 : Int32} {x7 : Int32} {s s' : mS} {v : Option Value}, rc 0 x1 x2 x3 x4 x5 x6 x7 s = some (s', v) → Q v (mH h s') → zz_E zp_P zt_tf zt_fd X (d + 4) zm_325 93 [(0, .ref 61), (1, .int x1), (2, .int x2), (3, .int x3), (4, .int x4), (5, .int x5), (6, .int x6), (7, .int x7)] [] (mH h s) Q) {Q : Option Value → zz_H → Prop} {x1 : Int32} {x2 : Int32} {x3 : Int32} {x4 : Int32} {x5 : Int32} {x6 : Int32} {x7 : Int32} {s s' : mS} {v : Option Value} (hf : mf_325_149 N rc x1 x2 x3 x4 x5 x6 x7 s = some (s', v)) (k : Q v (mH h s')) : zz_E zp_P zt_tf zt_fd X (d + 4) zm_325 149 [(0, .ref 61), (1, .int x1), (2, .int x2), (3, .int x3), (4, .int x4), (5, .int x5), (6, .int x6), (7, .int x7)] [] (mH h s) Q := by
  unfold mf_325_149 at hf
  exact mb_325_149 hh  (hrc0 hf k)
def mf_325_136 (N : Nat) (rc : Nat → Int32 → Int32 → Int32 → Int32 → Int32 → Int32 → Int32 → mS → mO) (x1 : Int32) (x2 : Int32) (x3 : Int32) (x4 : Int32) (x5 : Int32) (x6 : Int32) (x7 : Int32) (y0 : Int32) (y1 : Int32) (s : mS) : mO := if y0 < y1 then mf_325_149 N rc x1 x2 x3 x4 x5 x6 x7 s else mf_325_139 N  s
theorem mr_325_136 {X : Nat → Option zz_C} {h : zz_H} (hh : 111 ≤ h.length) {d : Nat} {N : Nat} {rc : Nat → Int32 → Int32 → Int32 → Int32 → Int32 → Int32 → Int32 → mS → mO} (hrc0 : ∀ {Q : Option Value → zz_H → Prop} {x1 : Int32} {x2 : Int32} {x3 : Int32} {x4 : Int32} {x5 : Int32} {x6 : Int32} {x7 : Int32} {s s' : mS} {v : Option Value}, rc 0 x1 x2 x3 x4 x5 x6 x7 s = some (s', v) → Q v (mH h s') → zz_E zp_P zt_tf zt_fd X (d + 4) zm_325 93 [(0, .ref 61), (1, .int x1), (2, .int x2), (3, .int x3), (4, .int x4), (5, .int x5), (6, .int x6), (7, .int x7)] [] (mH h s) Q) {Q : Option Value → zz_H → Prop} {x1 : Int32} {x2 : Int32} {x3 : Int32} {x4 : Int32} {x5 : Int32} {x6 : Int32} {x7 : Int32} {y0 : Int32} {y1 : Int32} {s s' : mS} {v : Option Value} (hf : mf_325_136 N rc x1 x2 x3 x4 x5 x6 x7 y0 y1 s = some (s', v)) (k : Q v (mH h s')) : zz_E zp_P zt_tf zt_fd X (d + 4) zm_325 136 [(0, .ref 61), (1, .int x1), (2, .int x2), (3, .int x3), (4, .int x4), (5, .int x5), (6, .int x6), (7, .int x7)] [.int y1, .int y0] (mH h s) Q := by
  unfold mf_325_136 at hf
  refine mb_325_136 hh  (fun c => ?_) (fun c => ?_)
  · rw [if_pos c] at hf
    exact mr_325_149 hh hrc0 hf k
  · rw [if_neg c] at hf
    exact mr_325_139 hh hf k
def mf_325_128 (N : Nat) (rc : Nat → Int32 → Int32 → Int32 → Int32 → Int32 → Int32 → Int32 → mS → mO) (x1 : Int32) (x2 : Int32) (x3 : Int32) (x4 : Int32) (x5 : Int32) (x6 : Int32) (x7 : Int32) (x8 : Int32) (s : mS) : mO := mo_bi (mf_77 N x4 s) (fun s1 y => mf_325_136 N rc x1 x2 x3 x4 x5 x6 x7 x8 y s1)
theorem mr_325_128 {X : Nat → Option zz_C} {h : zz_H} (hh : 111 ≤ h.length) {d : Nat} {N : Nat} {rc : Nat → Int32 → Int32 → Int32 → Int32 → Int32 → Int32 → Int32 → mS → mO} (hrc0 : ∀ {Q : Option Value → zz_H → Prop} {x1 : Int32} {x2 : Int32} {x3 : Int32} {x4 : Int32} {x5 : Int32} {x6 : Int32} {x7 : Int32} {s s' : mS} {v : Option Value}, rc 0 x1 x2 x3 x4 x5 x6 x7 s = some (s', v) → Q v (mH h s') → zz_E zp_P zt_tf zt_fd X (d + 4) zm_325 93 [(0, .ref 61), (1, .int x1), (2, .int x2), (3, .int x3), (4, .int x4), (5, .int x5), (6, .int x6), (7, .int x7)] [] (mH h s) Q) {Q : Option Value → zz_H → Prop} {x1 : Int32} {x2 : Int32} {x3 : Int32} {x4 : Int32} {x5 : Int32} {x6 : Int32} {x7 : Int32} {x8 : Int32} {s s' : mS} {v : Option Value} (hf : mf_325_128 N rc x1 x2 x3 x4 x5 x6 x7 x8 s = some (s', v)) (k : Q v (mH h s')) : zz_E zp_P zt_tf zt_fd X (d + 4) zm_325 128 [(0, .ref 61), (1, .int x1), (2, .int x2), (3, .int x3), (4, .int x4), (5, .int x5), (6, .int x6), (7, .int x7), (8, .int x8)] [] (mH h s) Q := by
  unfold mf_325_128 at hf
  obtain ⟨s1, y, e, hf⟩ := mo_bi_ok hf
  exact mb_325_128 (d := d + 3) hh  (mr_77 (d := d + 3) hh e (mr_325_136 hh hrc0 hf k))
def mf_325_121 (N : Nat) (rc : Nat → Int32 → Int32 → Int32 → Int32 → Int32 → Int32 → Int32 → mS → mO) (x1 : Int32) (x2 : Int32) (x3 : Int32) (x4 : Int32) (x5 : Int32) (x6 : Int32) (x7 : Int32) (y0 : Int32) (s : mS) : mO := if y0 < 0 then mf_325_139 N  s else mf_325_128 N rc x1 x2 x3 x4 x5 x6 x7 y0 s
theorem mr_325_121 {X : Nat → Option zz_C} {h : zz_H} (hh : 111 ≤ h.length) {d : Nat} {N : Nat} {rc : Nat → Int32 → Int32 → Int32 → Int32 → Int32 → Int32 → Int32 → mS → mO} (hrc0 : ∀ {Q : Option Value → zz_H → Prop} {x1 : Int32} {x2 : Int32} {x3 : Int32} {x4 : Int32} {x5 : Int32} {x6 : Int32} {x7 : Int32} {s s' : mS} {v : Option Value}, rc 0 x1 x2 x3 x4 x5 x6 x7 s = some (s', v) → Q v (mH h s') → zz_E zp_P zt_tf zt_fd X (d + 4) zm_325 93 [(0, .ref 61), (1, .int x1), (2, .int x2), (3, .int x3), (4, .int x4), (5, .int x5), (6, .int x6), (7, .int x7)] [] (mH h s) Q) {Q : Option Value → zz_H → Prop} {x1 : Int32} {x2 : Int32} {x3 : Int32} {x4 : Int32} {x5 : Int32} {x6 : Int32} {x7 : Int32} {y0 : Int32} {s s' : mS} {v : Option Value} (hf : mf_325_121 N rc x1 x2 x3 x4 x5 x6 x7 y0 s = some (s', v)) (k : Q v (mH h s')) : zz_E zp_P zt_tf zt_fd X (d + 4) zm_325 121 [(0, .ref 61), (1, .int x1), (2, .int x2), (3, .int x3), (4, .int x4), (5, .int x5), (6, .int x6), (7, .int x7)] [.int y0] (mH h s) Q := by
  unfold mf_325_121 at hf
  refine mb_325_121 hh  (fun c => ?_) (fun c => ?_)
  · rw [if_pos c] at hf
    exact mr_325_139 hh hf k
  · rw [if_neg c] at hf
    exact mr_325_128 hh hrc0 hf k
def mf_325_104 (N : Nat) (rc : Nat → Int32 → Int32 → Int32 → Int32 → Int32 → Int32 → Int32 → mS → mO) (x1 : Int32) (x2 : Int32) (x3 : Int32) (x4 : Int32) (x5 : Int32) (x6 : Int32) (x7 : Int32) (s : mS) : mO := mf_325_121 N rc x1 x2 x3 x4 x5 x6 x7 x5 s
theorem mr_325_104 {X : Nat → Option zz_C} {h : zz_H} (hh : 111 ≤ h.length) {d : Nat} {N : Nat} {rc : Nat → Int32 → Int32 → Int32 → Int32 → Int32 → Int32 → Int32 → mS → mO} (hrc0 : ∀ {Q : Option Value → zz_H → Prop} {x1 : Int32} {x2 : Int32} {x3 : Int32} {x4 : Int32} {x5 : Int32} {x6 : Int32} {x7 : Int32} {s s' : mS} {v : Option Value}, rc 0 x1 x2 x3 x4 x5 x6 x7 s = some (s', v) → Q v (mH h s') → zz_E zp_P zt_tf zt_fd X (d + 4) zm_325 93 [(0, .ref 61), (1, .int x1), (2, .int x2), (3, .int x3), (4, .int x4), (5, .int x5), (6, .int x6), (7, .int x7)] [] (mH h s) Q) {Q : Option Value → zz_H → Prop} {x1 : Int32} {x2 : Int32} {x3 : Int32} {x4 : Int32} {x5 : Int32} {x6 : Int32} {x7 : Int32} {s s' : mS} {v : Option Value} (hf : mf_325_104 N rc x1 x2 x3 x4 x5 x6 x7 s = some (s', v)) (k : Q v (mH h s')) : zz_E zp_P zt_tf zt_fd X (d + 4) zm_325 104 [(0, .ref 61), (1, .int x1), (2, .int x2), (3, .int x3), (4, .int x4), (5, .int x5), (6, .int x6), (7, .int x7)] [] (mH h s) Q := by
  unfold mf_325_104 at hf
  exact mb_325_104 hh  (mr_325_121 hh hrc0 hf k)
def mf_325_109 (N : Nat) (rc : Nat → Int32 → Int32 → Int32 → Int32 → Int32 → Int32 → Int32 → mS → mO) (x1 : Int32) (x2 : Int32) (x3 : Int32) (x4 : Int32) (x5 : Int32) (x6 : Int32) (x7 : Int32) (s : mS) : mO := if ¬ (((x5 + 2) + x7) < 0 ∨ 166300 ≤ Int32.toNatClampNeg ((x5 + 2) + x7)) then (mf_325_121 N rc x1 x2 x3 x4 x5 x6 x7 ((s.2.2.1 47) (Int32.toNatClampNeg ((x5 + 2) + x7))) s) else none
theorem mr_325_109 {X : Nat → Option zz_C} {h : zz_H} (hh : 111 ≤ h.length) {d : Nat} {N : Nat} {rc : Nat → Int32 → Int32 → Int32 → Int32 → Int32 → Int32 → Int32 → mS → mO} (hrc0 : ∀ {Q : Option Value → zz_H → Prop} {x1 : Int32} {x2 : Int32} {x3 : Int32} {x4 : Int32} {x5 : Int32} {x6 : Int32} {x7 : Int32} {s s' : mS} {v : Option Value}, rc 0 x1 x2 x3 x4 x5 x6 x7 s = some (s', v) → Q v (mH h s') → zz_E zp_P zt_tf zt_fd X (d + 4) zm_325 93 [(0, .ref 61), (1, .int x1), (2, .int x2), (3, .int x3), (4, .int x4), (5, .int x5), (6, .int x6), (7, .int x7)] [] (mH h s) Q) {Q : Option Value → zz_H → Prop} {x1 : Int32} {x2 : Int32} {x3 : Int32} {x4 : Int32} {x5 : Int32} {x6 : Int32} {x7 : Int32} {s s' : mS} {v : Option Value} (hf : mf_325_109 N rc x1 x2 x3 x4 x5 x6 x7 s = some (s', v)) (k : Q v (mH h s')) : zz_E zp_P zt_tf zt_fd X (d + 4) zm_325 109 [(0, .ref 61), (1, .int x1), (2, .int x2), (3, .int x3), (4, .int x4), (5, .int x5), (6, .int x6), (7, .int x7)] [] (mH h s) Q := by
  unfold mf_325_109 at hf
  obtain ⟨q0, hf⟩ := mo_if hf
  exact mb_325_109 hh q0 (mr_325_121 hh hrc0 hf k)
def mf_325_100 (N : Nat) (rc : Nat → Int32 → Int32 → Int32 → Int32 → Int32 → Int32 → Int32 → mS → mO) (x1 : Int32) (x2 : Int32) (x3 : Int32) (x4 : Int32) (x5 : Int32) (x6 : Int32) (x7 : Int32) (s : mS) : mO := if ¬ x2 = 0 then mf_325_109 N rc x1 x2 x3 x4 x5 x6 x7 s else mf_325_104 N rc x1 x2 x3 x4 x5 x6 x7 s
theorem mr_325_100 {X : Nat → Option zz_C} {h : zz_H} (hh : 111 ≤ h.length) {d : Nat} {N : Nat} {rc : Nat → Int32 → Int32 → Int32 → Int32 → Int32 → Int32 → Int32 → mS → mO} (hrc0 : ∀ {Q : Option Value → zz_H → Prop} {x1 : Int32} {x2 : Int32} {x3 : Int32} {x4 : Int32} {x5 : Int32} {x6 : Int32} {x7 : Int32} {s s' : mS} {v : Option Value}, rc 0 x1 x2 x3 x4 x5 x6 x7 s = some (s', v) → Q v (mH h s') → zz_E zp_P zt_tf zt_fd X (d + 4) zm_325 93 [(0, .ref 61), (1, .int x1), (2, .int x2), (3, .int x3), (4, .int x4), (5, .int x5), (6, .int x6), (7, .int x7)] [] (mH h s) Q) {Q : Option Value → zz_H → Prop} {x1 : Int32} {x2 : Int32} {x3 : Int32} {x4 : Int32} {x5 : Int32} {x6 : Int32} {x7 : Int32} {s s' : mS} {v : Option Value} (hf : mf_325_100 N rc x1 x2 x3 x4 x5 x6 x7 s = some (s', v)) (k : Q v (mH h s')) : zz_E zp_P zt_tf zt_fd X (d + 4) zm_325 100 [(0, .ref 61), (1, .int x1), (2, .int x2), (3, .int x3), (4, .int x4), (5, .int x5), (6, .int x6), (7, .int x7)] [] (mH h s) Q := by
  unfold mf_325_100 at hf
  refine mb_325_100 hh  (fun c => ?_) (fun c => ?_)
  · rw [if_pos c] at hf
    exact mr_325_109 hh hrc0 hf k
  · rw [if_neg c] at hf
    exact mr_325_104 hh hrc0 hf k
def mf_325_93 (N : Nat) (rc : Nat → Int32 → Int32 → Int32 → Int32 → Int32 → Int32 → Int32 → mS → mO) (x1 : Int32) (x2 : Int32) (x3 : Int32) (x4 : Int32) (x5 : Int32) (x6 : Int32) (x7 : Int32) (s : mS) : mO := if x6 ≤ x7 then mf_325_155 N x1 x2 x3 x4 x5 x6 s else mf_325_100 N rc x1 x2 x3 x4 x5 x6 x7 s
theorem mr_325_93 {X : Nat → Option zz_C} {h : zz_H} (hh : 111 ≤ h.length) {d : Nat} {N : Nat} {rc : Nat → Int32 → Int32 → Int32 → Int32 → Int32 → Int32 → Int32 → mS → mO} (hrc0 : ∀ {Q : Option Value → zz_H → Prop} {x1 : Int32} {x2 : Int32} {x3 : Int32} {x4 : Int32} {x5 : Int32} {x6 : Int32} {x7 : Int32} {s s' : mS} {v : Option Value}, rc 0 x1 x2 x3 x4 x5 x6 x7 s = some (s', v) → Q v (mH h s') → zz_E zp_P zt_tf zt_fd X (d + 4) zm_325 93 [(0, .ref 61), (1, .int x1), (2, .int x2), (3, .int x3), (4, .int x4), (5, .int x5), (6, .int x6), (7, .int x7)] [] (mH h s) Q) {Q : Option Value → zz_H → Prop} {x1 : Int32} {x2 : Int32} {x3 : Int32} {x4 : Int32} {x5 : Int32} {x6 : Int32} {x7 : Int32} {s s' : mS} {v : Option Value} (hf : mf_325_93 N rc x1 x2 x3 x4 x5 x6 x7 s = some (s', v)) (k : Q v (mH h s')) : zz_E zp_P zt_tf zt_fd X (d + 4) zm_325 93 [(0, .ref 61), (1, .int x1), (2, .int x2), (3, .int x3), (4, .int x4), (5, .int x5), (6, .int x6), (7, .int x7)] [] (mH h s) Q := by
  unfold mf_325_93 at hf
  refine mb_325_93 hh  (fun c => ?_) (fun c => ?_)
  · rw [if_pos c] at hf
    exact mr_325_155 hh hf k
  · rw [if_neg c] at hf
    exact mr_325_100 hh hrc0 hf k
def mf_325_L14 (N : Nat) : Nat → Nat → Int32 → Int32 → Int32 → Int32 → Int32 → Int32 → Int32 → mS → mO
  | 0, _, _, _, _, _, _, _, _, _ => none
  | n + 1, l, x1, x2, x3, x4, x5, x6, x7, s => if l = 0 then mf_325_93 N (mf_325_L14 N n) x1 x2 x3 x4 x5 x6 x7 s else none
theorem mr_325_L14 {X : Nat → Option zz_C} {h : zz_H} (hh : 111 ≤ h.length) {d : Nat} {N : Nat} : ∀ n : Nat, (∀ {Q : Option Value → zz_H → Prop} {x1 : Int32} {x2 : Int32} {x3 : Int32} {x4 : Int32} {x5 : Int32} {x6 : Int32} {x7 : Int32} {s s' : mS} {v : Option Value}, mf_325_L14 N n 0 x1 x2 x3 x4 x5 x6 x7 s = some (s', v) → Q v (mH h s') → zz_E zp_P zt_tf zt_fd X (d + 4) zm_325 93 [(0, .ref 61), (1, .int x1), (2, .int x2), (3, .int x3), (4, .int x4), (5, .int x5), (6, .int x6), (7, .int x7)] [] (mH h s) Q) := by
  intro n
  induction n with
  | zero => exact (fun hf _ => by cases hf)
  | succ n ih =>
    have h0 := @ih
    intro Q _ _ _ _ _ _ _ s s' v hf k
    unfold mf_325_L14 at hf
    rw [if_pos rfl] at hf
    exact mr_325_93 hh h0 hf k
def mf_325_88 (N : Nat) (x1 : Int32) (x2 : Int32) (x3 : Int32) (x4 : Int32) (x5 : Int32) (y0 : Int32) (s : mS) : mO := mf_325_L14 N N 0 x1 x2 x3 x4 x5 y0 0 s
theorem mr_325_88 {X : Nat → Option zz_C} {h : zz_H} (hh : 111 ≤ h.length) {d : Nat} {N : Nat} {Q : Option Value → zz_H → Prop} {x1 : Int32} {x2 : Int32} {x3 : Int32} {x4 : Int32} {x5 : Int32} {y0 : Int32} {s s' : mS} {v : Option Value} (hf : mf_325_88 N x1 x2 x3 x4 x5 y0 s = some (s', v)) (k : Q v (mH h s')) : zz_E zp_P zt_tf zt_fd X (d + 4) zm_325 88 [(0, .ref 61), (1, .int x1), (2, .int x2), (3, .int x3), (4, .int x4), (5, .int x5)] [.int y0] (mH h s) Q := by
  unfold mf_325_88 at hf
  exact mb_325_88 hh  (mr_325_L14 hh N hf k)
def mf_325_82 (N : Nat) (x1 : Int32) (x2 : Int32) (x3 : Int32) (x4 : Int32) (x5 : Int32) (s : mS) : mO := mo_bi (mf_77 N x5 s) (fun s1 y => mf_325_88 N x1 x2 x3 x4 x5 y s1)
theorem mr_325_82 {X : Nat → Option zz_C} {h : zz_H} (hh : 111 ≤ h.length) {d : Nat} {N : Nat} {Q : Option Value → zz_H → Prop} {x1 : Int32} {x2 : Int32} {x3 : Int32} {x4 : Int32} {x5 : Int32} {s s' : mS} {v : Option Value} (hf : mf_325_82 N x1 x2 x3 x4 x5 s = some (s', v)) (k : Q v (mH h s')) : zz_E zp_P zt_tf zt_fd X (d + 4) zm_325 82 [(0, .ref 61), (1, .int x1), (2, .int x2), (3, .int x3), (4, .int x4), (5, .int x5)] [] (mH h s) Q := by
  unfold mf_325_82 at hf
  obtain ⟨s1, y, e, hf⟩ := mo_bi_ok hf
  exact mb_325_82 (d := d + 3) hh  (mr_77 (d := d + 3) hh e (mr_325_88 hh hf k))
def mf_325_78 (N : Nat) (x1 : Int32) (x2 : Int32) (x3 : Int32) (x4 : Int32) (x5 : Int32) (s : mS) : mO := mf_325_88 N x1 x2 x3 x4 x5 1 s
theorem mr_325_78 {X : Nat → Option zz_C} {h : zz_H} (hh : 111 ≤ h.length) {d : Nat} {N : Nat} {Q : Option Value → zz_H → Prop} {x1 : Int32} {x2 : Int32} {x3 : Int32} {x4 : Int32} {x5 : Int32} {s s' : mS} {v : Option Value} (hf : mf_325_78 N x1 x2 x3 x4 x5 s = some (s', v)) (k : Q v (mH h s')) : zz_E zp_P zt_tf zt_fd X (d + 4) zm_325 78 [(0, .ref 61), (1, .int x1), (2, .int x2), (3, .int x3), (4, .int x4), (5, .int x5)] [] (mH h s) Q := by
  unfold mf_325_78 at hf
  exact mb_325_78 hh  (mr_325_88 hh hf k)
def mf_325_74 (N : Nat) (x1 : Int32) (x2 : Int32) (x3 : Int32) (x4 : Int32) (x5 : Int32) (s : mS) : mO := if ¬ x2 = 0 then mf_325_82 N x1 x2 x3 x4 x5 s else mf_325_78 N x1 x2 x3 x4 x5 s
theorem mr_325_74 {X : Nat → Option zz_C} {h : zz_H} (hh : 111 ≤ h.length) {d : Nat} {N : Nat} {Q : Option Value → zz_H → Prop} {x1 : Int32} {x2 : Int32} {x3 : Int32} {x4 : Int32} {x5 : Int32} {s s' : mS} {v : Option Value} (hf : mf_325_74 N x1 x2 x3 x4 x5 s = some (s', v)) (k : Q v (mH h s')) : zz_E zp_P zt_tf zt_fd X (d + 4) zm_325 74 [(0, .ref 61), (1, .int x1), (2, .int x2), (3, .int x3), (4, .int x4), (5, .int x5)] [] (mH h s) Q := by
  unfold mf_325_74 at hf
  refine mb_325_74 hh  (fun c => ?_) (fun c => ?_)
  · rw [if_pos c] at hf
    exact mr_325_82 hh hf k
  · rw [if_neg c] at hf
    exact mr_325_78 hh hf k
def mf_325_59 (N : Nat) (x1 : Int32) (x2 : Int32) (x3 : Int32) (x4 : Int32) (x5 : Int32) (s : mS) : mO := if x2 ≤ 1 then mf_325_74 N x1 x2 x3 x4 x5 s else mf_325_64 N  s
theorem mr_325_59 {X : Nat → Option zz_C} {h : zz_H} (hh : 111 ≤ h.length) {d : Nat} {N : Nat} {Q : Option Value → zz_H → Prop} {x1 : Int32} {x2 : Int32} {x3 : Int32} {x4 : Int32} {x5 : Int32} {s s' : mS} {v : Option Value} (hf : mf_325_59 N x1 x2 x3 x4 x5 s = some (s', v)) (k : Q v (mH h s')) : zz_E zp_P zt_tf zt_fd X (d + 4) zm_325 59 [(0, .ref 61), (1, .int x1), (2, .int x2), (3, .int x3), (4, .int x4), (5, .int x5)] [] (mH h s) Q := by
  unfold mf_325_59 at hf
  refine mb_325_59 hh  (fun c => ?_) (fun c => ?_)
  · rw [if_pos c] at hf
    exact mr_325_74 hh hf k
  · rw [if_neg c] at hf
    exact mr_325_64 hh hf k
def mf_325_21 (N : Nat) (x1 : Int32) (y0 : Int32) (s : mS) : mO := if ¬ (((s.1 51) - 2) < 0 ∨ 9000 ≤ Int32.toNatClampNeg ((s.1 51) - 2)) then (if ¬ ((((s.1 51) - 2) + 1) < 0 ∨ 9000 ≤ Int32.toNatClampNeg (((s.1 51) - 2) + 1)) then (if x1 = 0 then mf_325_64 N  (mI s 51 ((s.1 51) - 2)) else mf_325_59 N x1 y0 ((s.1 51) - 2) ((s.2.2.1 50) (Int32.toNatClampNeg ((s.1 51) - 2))) ((s.2.2.1 50) (Int32.toNatClampNeg (((s.1 51) - 2) + 1))) (mI s 51 ((s.1 51) - 2))) else none) else none
theorem mr_325_21 {X : Nat → Option zz_C} {h : zz_H} (hh : 111 ≤ h.length) {d : Nat} {N : Nat} {Q : Option Value → zz_H → Prop} {x1 : Int32} {y0 : Int32} {s s' : mS} {v : Option Value} (hf : mf_325_21 N x1 y0 s = some (s', v)) (k : Q v (mH h s')) : zz_E zp_P zt_tf zt_fd X (d + 4) zm_325 21 [(0, .ref 61), (1, .int x1)] [.int y0] (mH h s) Q := by
  unfold mf_325_21 at hf
  obtain ⟨q0, hf⟩ := mo_if hf
  obtain ⟨q1, hf⟩ := mo_if hf
  refine mb_325_21 hh q0 q1 (fun c => ?_) (fun c => ?_)
  · rw [if_pos c] at hf
    exact mr_325_64 hh hf k
  · rw [if_neg c] at hf
    exact mr_325_59 hh hf k
def mf_325_10 (N : Nat) (y0 : Int32) (s : mS) : mO := mo_bi (mf_292 N ((s.1 51) - 1) s) (fun s1 y => mf_325_21 N y0 y s1)
theorem mr_325_10 {X : Nat → Option zz_C} {h : zz_H} (hh : 111 ≤ h.length) {d : Nat} {N : Nat} {Q : Option Value → zz_H → Prop} {y0 : Int32} {s s' : mS} {v : Option Value} (hf : mf_325_10 N y0 s = some (s', v)) (k : Q v (mH h s')) : zz_E zp_P zt_tf zt_fd X (d + 4) zm_325 10 [(0, .ref 61)] [.int y0] (mH h s) Q := by
  unfold mf_325_10 at hf
  obtain ⟨s1, y, e, hf⟩ := mo_bi_ok hf
  exact mb_325_10 (d := d + 3) hh  (mr_292 (d := d + 3) hh e (mr_325_21 hh hf k))
def mf_325_0 (N : Nat)  (s : mS) : mO := mo_bi (mf_292 N ((s.1 51) - 2) s) (fun s1 y => mf_325_10 N y s1)
theorem mr_325_0 {X : Nat → Option zz_C} {h : zz_H} (hh : 111 ≤ h.length) {d : Nat} {N : Nat} {Q : Option Value → zz_H → Prop}  {s s' : mS} {v : Option Value} (hf : mf_325_0 N  s = some (s', v)) (k : Q v (mH h s')) : zz_E zp_P zt_tf zt_fd X (d + 4) zm_325 0 [(0, .ref 61)] [] (mH h s) Q := by
  unfold mf_325_0 at hf
  obtain ⟨s1, y, e, hf⟩ := mo_bi_ok hf
  exact mb_325_0 (d := d + 3) hh  (mr_292 (d := d + 3) hh e (mr_325_10 hh hf k))
/-- index -/
def mf_325 (N : Nat)  (s : mS) : mO := mf_325_0 N  s
theorem mr_325 {X : Nat → Option zz_C} {h : zz_H} (hh : 111 ≤ h.length) {d : Nat} {N : Nat} {Q : Option Value → zz_H → Prop}  {s s' : mS} {v : Option Value} (hf : mf_325 N  s = some (s', v)) (k : Q v (mH h s')) : zz_E zp_P zt_tf zt_fd X (d + 4) zm_325 0 [(0, .ref 61)] [] (mH h s) Q := by
  unfold mf_325 at hf
  exact zz_E.weak (mr_325_0 hh hf k) rfl ⟨rfl, trivial⟩
