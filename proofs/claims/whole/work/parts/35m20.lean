/-! shapes (III)V -/
theorem mb_335_0 {X : Nat → Option zz_C} {h : zz_H} (hh : 111 ≤ h.length) {s : mS} {d : Nat} {Q : Option Value → zz_H → Prop} {x1 : Int32} {x2 : Int32} {x3 : Int32} (i5 : ¬ (x2 < 0 ∨ 166300 ≤ Int32.toNatClampNeg x2)) (k1 : ¬ x1 = 16 → zz_E zp_P zt_tf zt_fd X d zm_335 230 [(0, .ref 61), (1, .int x1), (2, .int x2), (3, .int x3), (4, .int ((s.2.2.1 47) (Int32.toNatClampNeg x2))), (5, .int 0)] [] (mH h (mI s 51 x3)) Q) (k2 : ¬ ¬ x1 = 16 → zz_E zp_P zt_tf zt_fd X d zm_335 22 [(0, .ref 61), (2, .int x2), (3, .int x3), (4, .int ((s.2.2.1 47) (Int32.toNatClampNeg x2)))] [] (mH h (mI s 51 x3)) Q) : zz_E zp_P zt_tf zt_fd X d zm_335 0 [(0, .ref 61), (1, .int x1), (2, .int x2), (3, .int x3)] [] (mH h s) Q := by
  refine zz_E.n 1 rfl rfl rfl ?_
  refine mE_g hh 4 (v := .ref 89) rfl rfl rfl ?_
  refine zz_E.n 5 rfl rfl rfl ?_
  refine mE_ia hh 6 28 (f := (s.2.2.1 47)) rfl (by decide) rfl rfl i5 rfl ?_
  refine zz_E.n 8 rfl rfl rfl ?_
  refine zz_E.n 9 rfl rfl rfl ?_
  refine zz_E.n 10 rfl rfl rfl ?_
  refine mE_p hh 13 rfl (by decide) rfl (mF_51 _ _) rfl ?_
  refine zz_E.c 14 (.int 0) rfl rfl rfl rfl ?_
  refine zz_E.n 16 rfl rfl rfl ?_
  refine zz_E.n 17 rfl rfl rfl ?_
  refine zz_E.c 19 (.int 16) rfl rfl rfl rfl ?_
  refine zz_E.b2 230 22 (A := ¬ x1 = 16) rfl (zz_cond_ne _ _) (by decide) rfl rfl (fun c => ?_) (fun c => ?_)
  · exact zz_E.weak (k1 c) rfl ⟨rfl, rfl, rfl, rfl, rfl, rfl, trivial⟩
  · exact zz_E.weak (k2 c) rfl ⟨rfl, rfl, rfl, rfl, trivial⟩
theorem mb_335_22 {X : Nat → Option zz_C} {h : zz_H} (hh : 111 ≤ h.length) {s : mS} {d : Nat} {Q : Option Value → zz_H → Prop} {x2 : Int32} {x3 : Int32} {x4 : Int32} (k : zz_E zp_P zt_tf zt_fd X d zm_335 28 [(0, .ref 61), (2, .int x2), (3, .int x3), (4, .int x4), (6, .int 0), (7, .int 0)] [] (mH h s) Q) : zz_E zp_P zt_tf zt_fd X d zm_335 22 [(0, .ref 61), (2, .int x2), (3, .int x3), (4, .int x4)] [] (mH h s) Q := by
  refine zz_E.c 23 (.int 0) rfl rfl rfl rfl ?_
  refine zz_E.n 25 rfl rfl rfl ?_
  refine zz_E.c 26 (.int 0) rfl rfl rfl rfl ?_
  refine zz_E.n 28 rfl rfl rfl ?_
  exact zz_E.weak k rfl ⟨rfl, rfl, rfl, rfl, rfl, rfl, trivial⟩
theorem mb_335_28 {X : Nat → Option zz_C} {h : zz_H} (hh : 111 ≤ h.length) {s : mS} {d : Nat} {Q : Option Value → zz_H → Prop} {x2 : Int32} {x3 : Int32} {x4 : Int32} {x6 : Int32} {x7 : Int32} (k : zz_E zp_P zt_tf zt_fd X d zm_77 0 [(0, .ref 61), (1, .int x2)] [] (mH h s) (fun v h' => zz_E zp_P zt_tf zt_fd X (d + 1) zm_335 35 [(0, .ref 61), (2, .int x2), (3, .int x3), (4, .int x4), (6, .int x6), (7, .int x7)] (v.toList ++ [.int x7]) h' Q)) : zz_E zp_P zt_tf zt_fd X (d + 1) zm_335 28 [(0, .ref 61), (2, .int x2), (3, .int x3), (4, .int x4), (6, .int x6), (7, .int x7)] [] (mH h s) Q := by
  refine zz_E.n 30 rfl rfl rfl ?_
  refine zz_E.n 31 rfl rfl rfl ?_
  refine zz_E.n 32 rfl rfl rfl ?_
  refine mE_cv hh 35 (as := [.int x7]) rfl rfl (Nat.le_of_ble_eq_true rfl) (Nat.le_of_ble_eq_true rfl) rfl (Nat.le_of_ble_eq_true rfl) rfl ?_
  refine zz_E.mono k ?_
  intro v h' hE
  exact zz_E.weak hE rfl ⟨rfl, rfl, rfl, rfl, rfl, rfl, trivial⟩
theorem mb_335_35 {X : Nat → Option zz_C} {h : zz_H} (hh : 111 ≤ h.length) {s : mS} {d : Nat} {Q : Option Value → zz_H → Prop} {x2 : Int32} {x3 : Int32} {x4 : Int32} {x6 : Int32} {x7 : Int32} {y0 : Int32} {y1 : Int32} (k1 : y1 ≤ y0 → zz_E zp_P zt_tf zt_fd X d zm_335 123 [(0, .ref 61), (2, .int x2), (3, .int x3), (4, .int x4), (6, .int x6)] [] (mH h s) Q) (k2 : ¬ y1 ≤ y0 → zz_E zp_P zt_tf zt_fd X d zm_335 38 [(0, .ref 61), (2, .int x2), (3, .int x3), (4, .int x4), (6, .int x6), (7, .int x7)] [] (mH h s) Q) : zz_E zp_P zt_tf zt_fd X d zm_335 35 [(0, .ref 61), (2, .int x2), (3, .int x3), (4, .int x4), (6, .int x6), (7, .int x7)] [.int y1, .int y0] (mH h s) Q := by
  refine zz_E.b2 123 38 (A := y1 ≤ y0) rfl rfl (by decide) rfl rfl (fun c => ?_) (fun c => ?_)
  · exact zz_E.weak (k1 c) rfl ⟨rfl, rfl, rfl, rfl, rfl, trivial⟩
  · exact zz_E.weak (k2 c) rfl ⟨rfl, rfl, rfl, rfl, rfl, rfl, trivial⟩
theorem mb_335_38 {X : Nat → Option zz_C} {h : zz_H} (hh : 111 ≤ h.length) {s : mS} {d : Nat} {Q : Option Value → zz_H → Prop} {x2 : Int32} {x3 : Int32} {x4 : Int32} {x6 : Int32} {x7 : Int32} (k1 : ¬ x4 = 3 → zz_E zp_P zt_tf zt_fd X d zm_335 58 [(0, .ref 61), (2, .int x2), (3, .int x3), (4, .int x4), (6, .int x6), (7, .int x7)] [] (mH h s) Q) (k2 : ¬ ¬ x4 = 3 → zz_E zp_P zt_tf zt_fd X d zm_335 44 [(0, .ref 61), (2, .int x2), (3, .int x3), (4, .int x4), (6, .int x6), (7, .int x7)] [] (mH h s) Q) : zz_E zp_P zt_tf zt_fd X d zm_335 38 [(0, .ref 61), (2, .int x2), (3, .int x3), (4, .int x4), (6, .int x6), (7, .int x7)] [] (mH h s) Q := by
  refine zz_E.n 40 rfl rfl rfl ?_
  refine zz_E.c 41 (.int 3) rfl rfl rfl rfl ?_
  refine zz_E.b2 58 44 (A := ¬ x4 = 3) rfl (zz_cond_ne _ _) (by decide) rfl rfl (fun c => ?_) (fun c => ?_)
  · exact zz_E.weak (k1 c) rfl ⟨rfl, rfl, rfl, rfl, rfl, rfl, trivial⟩
  · exact zz_E.weak (k2 c) rfl ⟨rfl, rfl, rfl, rfl, rfl, rfl, trivial⟩
theorem mb_335_44 {X : Nat → Option zz_C} {h : zz_H} (hh : 111 ≤ h.length) {s : mS} {d : Nat} {Q : Option Value → zz_H → Prop} {x2 : Int32} {x3 : Int32} {x4 : Int32} {x6 : Int32} {x7 : Int32} (k : zz_E zp_P zt_tf zt_fd X d zm_293 0 [(0, .ref 61), (1, .int x2), (2, .int x7)] [] (mH h s) (fun v h' => zz_E zp_P zt_tf zt_fd X (d + 1) zm_335 51 [(0, .ref 61), (2, .int x2), (3, .int x3), (4, .int x4), (6, .int x6), (7, .int x7)] (v.toList ++ []) h' Q)) : zz_E zp_P zt_tf zt_fd X (d + 1) zm_335 44 [(0, .ref 61), (2, .int x2), (3, .int x3), (4, .int x4), (6, .int x6), (7, .int x7)] [] (mH h s) Q := by
  refine zz_E.n 45 rfl rfl rfl ?_
  refine zz_E.n 46 rfl rfl rfl ?_
  refine zz_E.n 48 rfl rfl rfl ?_
  refine mE_cv hh 51 (as := []) rfl rfl (Nat.le_of_ble_eq_true rfl) (Nat.le_of_ble_eq_true rfl) rfl (Nat.le_of_ble_eq_true rfl) rfl ?_
  refine zz_E.mono k ?_
  intro v h' hE
  exact zz_E.weak hE rfl ⟨rfl, rfl, rfl, rfl, rfl, rfl, trivial⟩
theorem mb_335_51 {X : Nat → Option zz_C} {h : zz_H} (hh : 111 ≤ h.length) {s : mS} {d : Nat} {Q : Option Value → zz_H → Prop} {x2 : Int32} {x3 : Int32} {x4 : Int32} {x6 : Int32} {x7 : Int32} {y0 : Int32} (k1 : y0 = 0 → zz_E zp_P zt_tf zt_fd X d zm_335 58 [(0, .ref 61), (2, .int x2), (3, .int x3), (4, .int x4), (6, .int x6), (7, .int x7)] [] (mH h s) Q) (k2 : ¬ y0 = 0 → zz_E zp_P zt_tf zt_fd X d zm_335 54 [(0, .ref 61), (2, .int x2), (3, .int x3), (4, .int x4), (6, .int x6), (7, .int x7)] [] (mH h s) Q) : zz_E zp_P zt_tf zt_fd X d zm_335 51 [(0, .ref 61), (2, .int x2), (3, .int x3), (4, .int x4), (6, .int x6), (7, .int x7)] [.int y0] (mH h s) Q := by
  refine zz_E.b1 58 54 (A := y0 = 0) rfl rfl (by decide) rfl rfl (fun c => ?_) (fun c => ?_)
  · exact zz_E.weak (k1 c) rfl ⟨rfl, rfl, rfl, rfl, rfl, rfl, trivial⟩
  · exact zz_E.weak (k2 c) rfl ⟨rfl, rfl, rfl, rfl, rfl, rfl, trivial⟩
theorem mb_335_54 {X : Nat → Option zz_C} {h : zz_H} (hh : 111 ≤ h.length) {s : mS} {d : Nat} {Q : Option Value → zz_H → Prop} {x2 : Int32} {x3 : Int32} {x4 : Int32} {x6 : Int32} {x7 : Int32} (k : zz_E zp_P zt_tf zt_fd X d zm_335 59 [(0, .ref 61), (2, .int x2), (3, .int x3), (4, .int x4), (6, .int x6), (7, .int x7)] [.int 1] (mH h s) Q) : zz_E zp_P zt_tf zt_fd X d zm_335 54 [(0, .ref 61), (2, .int x2), (3, .int x3), (4, .int x4), (6, .int x6), (7, .int x7)] [] (mH h s) Q := by
  refine zz_E.c 55 (.int 1) rfl rfl rfl rfl ?_
  refine zz_E.n 59 rfl rfl rfl ?_
  exact zz_E.weak k rfl ⟨rfl, rfl, rfl, rfl, rfl, rfl, trivial⟩
theorem mb_335_58 {X : Nat → Option zz_C} {h : zz_H} (hh : 111 ≤ h.length) {s : mS} {d : Nat} {Q : Option Value → zz_H → Prop} {x2 : Int32} {x3 : Int32} {x4 : Int32} {x6 : Int32} {x7 : Int32} (k : zz_E zp_P zt_tf zt_fd X d zm_335 59 [(0, .ref 61), (2, .int x2), (3, .int x3), (4, .int x4), (6, .int x6), (7, .int x7)] [.int 0] (mH h s) Q) : zz_E zp_P zt_tf zt_fd X d zm_335 58 [(0, .ref 61), (2, .int x2), (3, .int x3), (4, .int x4), (6, .int x6), (7, .int x7)] [] (mH h s) Q := by
  refine zz_E.c 59 (.int 0) rfl rfl rfl rfl ?_
  exact zz_E.weak k rfl ⟨rfl, rfl, rfl, rfl, rfl, rfl, trivial⟩
theorem mb_335_59 {X : Nat → Option zz_C} {h : zz_H} (hh : 111 ≤ h.length) {s : mS} {d : Nat} {Q : Option Value → zz_H → Prop} {x2 : Int32} {x3 : Int32} {x4 : Int32} {x6 : Int32} {x7 : Int32} {y0 : Int32} (k1 : ¬ y0 = 0 → zz_E zp_P zt_tf zt_fd X d zm_335 92 [(0, .ref 61), (2, .int x2), (3, .int x3), (4, .int x4), (6, .int x6), (7, .int x7), (8, .int y0)] [] (mH h s) Q) (k2 : ¬ ¬ y0 = 0 → zz_E zp_P zt_tf zt_fd X d zm_335 66 [(0, .ref 61), (2, .int x2), (3, .int x3), (4, .int x4), (6, .int x6), (7, .int x7), (8, .int y0)] [] (mH h s) Q) : zz_E zp_P zt_tf zt_fd X d zm_335 59 [(0, .ref 61), (2, .int x2), (3, .int x3), (4, .int x4), (6, .int x6), (7, .int x7)] [.int y0] (mH h s) Q := by
  refine zz_E.n 61 rfl rfl rfl ?_
  refine zz_E.n 63 rfl rfl rfl ?_
  refine zz_E.b1 92 66 (A := ¬ y0 = 0) rfl (zz_cond_ne _ _) (by decide) rfl rfl (fun c => ?_) (fun c => ?_)
  · exact zz_E.weak (k1 c) rfl ⟨rfl, rfl, rfl, rfl, rfl, rfl, rfl, trivial⟩
  · exact zz_E.weak (k2 c) rfl ⟨rfl, rfl, rfl, rfl, rfl, rfl, rfl, trivial⟩
theorem mb_335_66 {X : Nat → Option zz_C} {h : zz_H} (hh : 111 ≤ h.length) {s : mS} {d : Nat} {Q : Option Value → zz_H → Prop} {x2 : Int32} {x3 : Int32} {x4 : Int32} {x6 : Int32} {x7 : Int32} {x8 : Int32} (k : zz_E zp_P zt_tf zt_fd X d zm_294 0 [(0, .ref 61), (1, .int x2), (2, .int x7)] [] (mH h s) (fun v h' => zz_E zp_P zt_tf zt_fd X (d + 1) zm_335 77 [(0, .ref 61), (2, .int x2), (3, .int x3), (4, .int x4), (6, .int x6), (7, .int x7), (8, .int x8)] (v.toList ++ [.ref 89]) h' Q)) : zz_E zp_P zt_tf zt_fd X (d + 1) zm_335 66 [(0, .ref 61), (2, .int x2), (3, .int x3), (4, .int x4), (6, .int x6), (7, .int x7), (8, .int x8)] [] (mH h s) Q := by
  refine zz_E.n 67 rfl rfl rfl ?_
  refine mE_g hh 70 (v := .ref 89) rfl rfl rfl ?_
  refine zz_E.n 71 rfl rfl rfl ?_
  refine zz_E.n 72 rfl rfl rfl ?_
  refine zz_E.n 74 rfl rfl rfl ?_
  refine mE_cv hh 77 (as := [.ref 89]) rfl rfl (Nat.le_of_ble_eq_true rfl) (Nat.le_of_ble_eq_true rfl) rfl (Nat.le_of_ble_eq_true rfl) rfl ?_
  refine zz_E.mono k ?_
  intro v h' hE
  exact zz_E.weak hE rfl ⟨rfl, rfl, rfl, rfl, rfl, rfl, rfl, trivial⟩
theorem mb_335_77 {X : Nat → Option zz_C} {h : zz_H} (hh : 111 ≤ h.length) {s : mS} {d : Nat} {Q : Option Value → zz_H → Prop} {x2 : Int32} {x3 : Int32} {x4 : Int32} {x6 : Int32} {x7 : Int32} {x8 : Int32} {y1 : Int32} (i77 : ¬ (y1 < 0 ∨ 166300 ≤ Int32.toNatClampNeg y1)) (k1 : ((s.2.2.1 47) (Int32.toNatClampNeg y1)) ≤ 1 → zz_E zp_P zt_tf zt_fd X d zm_335 92 [(0, .ref 61), (2, .int x2), (3, .int x3), (4, .int x4), (6, .int x6), (7, .int x7), (8, .int x8)] [] (mH h s) Q) (k2 : ¬ ((s.2.2.1 47) (Int32.toNatClampNeg y1)) ≤ 1 → zz_E zp_P zt_tf zt_fd X d zm_335 82 [(0, .ref 61)] [] (mH h s) Q) : zz_E zp_P zt_tf zt_fd X d zm_335 77 [(0, .ref 61), (2, .int x2), (3, .int x3), (4, .int x4), (6, .int x6), (7, .int x7), (8, .int x8)] [.int y1, .ref 89] (mH h s) Q := by
  refine mE_ia hh 78 28 (f := (s.2.2.1 47)) rfl (by decide) rfl rfl i77 rfl ?_
  refine zz_E.c 79 (.int 1) rfl rfl rfl rfl ?_
  refine zz_E.b2 92 82 (A := ((s.2.2.1 47) (Int32.toNatClampNeg y1)) ≤ 1) rfl rfl (by decide) rfl rfl (fun c => ?_) (fun c => ?_)
  · exact zz_E.weak (k1 c) rfl ⟨rfl, rfl, rfl, rfl, rfl, rfl, rfl, trivial⟩
  · exact zz_E.weak (k2 c) rfl ⟨rfl, trivial⟩
theorem mb_335_82 {X : Nat → Option zz_C} {h : zz_H} (hh : 111 ≤ h.length) {s : mS} {d : Nat} {Q : Option Value → zz_H → Prop}  (k : zz_E zp_P zt_tf zt_fd X d zm_301 0 [(0, .ref 61), (1, .int 3), (2, .int (s.1 70))] [] (mH h s) (fun v h' => zz_E zp_P zt_tf zt_fd X (d + 1) zm_335 91 [] (v.toList ++ []) h' Q)) : zz_E zp_P zt_tf zt_fd X (d + 1) zm_335 82 [(0, .ref 61)] [] (mH h s) Q := by
  refine zz_E.n 83 rfl rfl rfl ?_
  refine zz_E.c 84 (.int 3) rfl rfl rfl rfl ?_
  refine zz_E.n 85 rfl rfl rfl ?_
  refine mE_g hh 88 (v := .int (s.1 70)) rfl rfl rfl ?_
  refine mE_cv hh 91 (as := []) rfl rfl (Nat.le_of_ble_eq_true rfl) (Nat.le_of_ble_eq_true rfl) rfl (Nat.le_of_ble_eq_true rfl) rfl ?_
  refine zz_E.mono k ?_
  intro v h' hE
  exact zz_E.weak hE rfl trivial
theorem mb_335_91 {X : Nat → Option zz_C} {h : zz_H} (hh : 111 ≤ h.length) {s : mS} {d : Nat} {Q : Option Value → zz_H → Prop}  (k : Q none (mH h s)) : zz_E zp_P zt_tf zt_fd X d zm_335 91 [] [] (mH h s) Q := by
  refine zz_E.ret rfl rfl rfl ?_
  exact k
theorem mb_335_92 {X : Nat → Option zz_C} {h : zz_H} (hh : 111 ≤ h.length) {s : mS} {d : Nat} {Q : Option Value → zz_H → Prop} {x2 : Int32} {x3 : Int32} {x4 : Int32} {x6 : Int32} {x7 : Int32} {x8 : Int32} (k1 : x8 = 0 → zz_E zp_P zt_tf zt_fd X d zm_335 103 [(0, .ref 61), (2, .int x2), (3, .int x3), (4, .int x4), (7, .int x7)] [.int x6] (mH h s) Q) (k2 : ¬ x8 = 0 → zz_E zp_P zt_tf zt_fd X d zm_335 99 [(0, .ref 61), (2, .int x2), (3, .int x3), (4, .int x4), (7, .int x7)] [.int x6] (mH h s) Q) : zz_E zp_P zt_tf zt_fd X d zm_335 92 [(0, .ref 61), (2, .int x2), (3, .int x3), (4, .int x4), (6, .int x6), (7, .int x7), (8, .int x8)] [] (mH h s) Q := by
  refine zz_E.n 94 rfl rfl rfl ?_
  refine zz_E.n 96 rfl rfl rfl ?_
  refine zz_E.b1 103 99 (A := x8 = 0) rfl rfl (by decide) rfl rfl (fun c => ?_) (fun c => ?_)
  · exact zz_E.weak (k1 c) rfl ⟨rfl, rfl, rfl, rfl, rfl, trivial⟩
  · exact zz_E.weak (k2 c) rfl ⟨rfl, rfl, rfl, rfl, rfl, trivial⟩
theorem mb_335_99 {X : Nat → Option zz_C} {h : zz_H} (hh : 111 ≤ h.length) {s : mS} {d : Nat} {Q : Option Value → zz_H → Prop} {x2 : Int32} {x3 : Int32} {x4 : Int32} {x7 : Int32} {y0 : Int32} (k : zz_E zp_P zt_tf zt_fd X d zm_335 114 [(0, .ref 61), (2, .int x2), (3, .int x3), (4, .int x4), (7, .int x7)] [.int 1, .int y0] (mH h s) Q) : zz_E zp_P zt_tf zt_fd X d zm_335 99 [(0, .ref 61), (2, .int x2), (3, .int x3), (4, .int x4), (7, .int x7)] [.int y0] (mH h s) Q := by
  refine zz_E.c 100 (.int 1) rfl rfl rfl rfl ?_
  refine zz_E.n 114 rfl rfl rfl ?_
  exact zz_E.weak k rfl ⟨rfl, rfl, rfl, rfl, rfl, trivial⟩
theorem mb_335_103 {X : Nat → Option zz_C} {h : zz_H} (hh : 111 ≤ h.length) {s : mS} {d : Nat} {Q : Option Value → zz_H → Prop} {x2 : Int32} {x3 : Int32} {x4 : Int32} {x7 : Int32} {y0 : Int32} (k : zz_E zp_P zt_tf zt_fd X d zm_294 0 [(0, .ref 61), (1, .int x2), (2, .int x7)] [] (mH h s) (fun v h' => zz_E zp_P zt_tf zt_fd X (d + 1) zm_335 111 [(0, .ref 61), (2, .int x2), (3, .int x3), (4, .int x4), (7, .int x7)] (v.toList ++ [.ref 61, .int y0]) h' Q)) : zz_E zp_P zt_tf zt_fd X (d + 1) zm_335 103 [(0, .ref 61), (2, .int x2), (3, .int x3), (4, .int x4), (7, .int x7)] [.int y0] (mH h s) Q := by
  refine zz_E.n 104 rfl rfl rfl ?_
  refine zz_E.n 105 rfl rfl rfl ?_
  refine zz_E.n 106 rfl rfl rfl ?_
  refine zz_E.n 108 rfl rfl rfl ?_
  refine mE_cv hh 111 (as := [.ref 61, .int y0]) rfl rfl (Nat.le_of_ble_eq_true rfl) (Nat.le_of_ble_eq_true rfl) rfl (Nat.le_of_ble_eq_true rfl) rfl ?_
  refine zz_E.mono k ?_
  intro v h' hE
  exact zz_E.weak hE rfl ⟨rfl, rfl, rfl, rfl, rfl, trivial⟩
theorem mb_335_111 {X : Nat → Option zz_C} {h : zz_H} (hh : 111 ≤ h.length) {s : mS} {d : Nat} {Q : Option Value → zz_H → Prop} {x2 : Int32} {x3 : Int32} {x4 : Int32} {x7 : Int32} {y0 : Int32} {y2 : Int32} (k : zz_E zp_P zt_tf zt_fd X d zm_77 0 [(0, .ref 61), (1, .int y2)] [] (mH h s) (fun v h' => zz_E zp_P zt_tf zt_fd X (d + 1) zm_335 114 [(0, .ref 61), (2, .int x2), (3, .int x3), (4, .int x4), (7, .int x7)] (v.toList ++ [.int y0]) h' Q)) : zz_E zp_P zt_tf zt_fd X (d + 1) zm_335 111 [(0, .ref 61), (2, .int x2), (3, .int x3), (4, .int x4), (7, .int x7)] [.int y2, .ref 61, .int y0] (mH h s) Q := by
  refine mE_cv hh 114 (as := [.int y0]) rfl rfl (Nat.le_of_ble_eq_true rfl) (Nat.le_of_ble_eq_true rfl) rfl (Nat.le_of_ble_eq_true rfl) rfl ?_
  refine zz_E.mono k ?_
  intro v h' hE
  exact zz_E.weak hE rfl ⟨rfl, rfl, rfl, rfl, rfl, trivial⟩
theorem mb_335_114 {X : Nat → Option zz_C} {h : zz_H} (hh : 111 ≤ h.length) {s : mS} {d : Nat} {Q : Option Value → zz_H → Prop} {x2 : Int32} {x3 : Int32} {x4 : Int32} {x7 : Int32} {y0 : Int32} {y1 : Int32} (k : zz_E zp_P zt_tf zt_fd X d zm_335 28 [(0, .ref 61), (2, .int x2), (3, .int x3), (4, .int x4), (6, .int (y0 + y1)), (7, .int (x7 + 1))] [] (mH h s) Q) : zz_E zp_P zt_tf zt_fd X d zm_335 114 [(0, .ref 61), (2, .int x2), (3, .int x3), (4, .int x4), (7, .int x7)] [.int y1, .int y0] (mH h s) Q := by
  refine zz_E.n 115 rfl rfl rfl ?_
  refine zz_E.n 117 rfl rfl rfl ?_
  refine zz_E.n 120 rfl rfl rfl ?_
  refine zz_E.n 28 rfl rfl rfl ?_
  exact zz_E.weak k rfl ⟨rfl, rfl, rfl, rfl, rfl, rfl, trivial⟩
theorem mb_335_123 {X : Nat → Option zz_C} {h : zz_H} (hh : 111 ≤ h.length) {s : mS} {d : Nat} {Q : Option Value → zz_H → Prop} {x2 : Int32} {x3 : Int32} {x4 : Int32} {x6 : Int32} (k1 : x6 ≤ 64 → zz_E zp_P zt_tf zt_fd X d zm_335 140 [(0, .ref 61), (2, .int x2), (3, .int x3), (4, .int x4)] [] (mH h s) Q) (k2 : ¬ x6 ≤ 64 → zz_E zp_P zt_tf zt_fd X d zm_335 130 [(0, .ref 61)] [] (mH h s) Q) : zz_E zp_P zt_tf zt_fd X d zm_335 123 [(0, .ref 61), (2, .int x2), (3, .int x3), (4, .int x4), (6, .int x6)] [] (mH h s) Q := by
  refine zz_E.n 125 rfl rfl rfl ?_
  refine zz_E.c 127 (.int 64) rfl rfl rfl rfl ?_
  refine zz_E.b2 140 130 (A := x6 ≤ 64) rfl rfl (by decide) rfl rfl (fun c => ?_) (fun c => ?_)
  · exact zz_E.weak (k1 c) rfl ⟨rfl, rfl, rfl, rfl, trivial⟩
  · exact zz_E.weak (k2 c) rfl ⟨rfl, trivial⟩
theorem mb_335_130 {X : Nat → Option zz_C} {h : zz_H} (hh : 111 ≤ h.length) {s : mS} {d : Nat} {Q : Option Value → zz_H → Prop}  (k : zz_E zp_P zt_tf zt_fd X d zm_301 0 [(0, .ref 61), (1, .int 2), (2, .int (s.1 70))] [] (mH h s) (fun v h' => zz_E zp_P zt_tf zt_fd X (d + 1) zm_335 139 [] (v.toList ++ []) h' Q)) : zz_E zp_P zt_tf zt_fd X (d + 1) zm_335 130 [(0, .ref 61)] [] (mH h s) Q := by
  refine zz_E.n 131 rfl rfl rfl ?_
  refine zz_E.c 132 (.int 2) rfl rfl rfl rfl ?_
  refine zz_E.n 133 rfl rfl rfl ?_
  refine mE_g hh 136 (v := .int (s.1 70)) rfl rfl rfl ?_
  refine mE_cv hh 139 (as := []) rfl rfl (Nat.le_of_ble_eq_true rfl) (Nat.le_of_ble_eq_true rfl) rfl (Nat.le_of_ble_eq_true rfl) rfl ?_
  refine zz_E.mono k ?_
  intro v h' hE
  exact zz_E.weak hE rfl trivial
theorem mb_335_139 {X : Nat → Option zz_C} {h : zz_H} (hh : 111 ≤ h.length) {s : mS} {d : Nat} {Q : Option Value → zz_H → Prop}  (k : Q none (mH h s)) : zz_E zp_P zt_tf zt_fd X d zm_335 139 [] [] (mH h s) Q := by
  refine zz_E.ret rfl rfl rfl ?_
  exact k
theorem mb_335_140 {X : Nat → Option zz_C} {h : zz_H} (hh : 111 ≤ h.length) {s : mS} {d : Nat} {Q : Option Value → zz_H → Prop} {x2 : Int32} {x3 : Int32} {x4 : Int32} (k : zz_E zp_P zt_tf zt_fd X d zm_335 143 [(0, .ref 61), (2, .int x2), (3, .int x3), (4, .int x4), (7, .int 0)] [] (mH h s) Q) : zz_E zp_P zt_tf zt_fd X d zm_335 140 [(0, .ref 61), (2, .int x2), (3, .int x3), (4, .int x4)] [] (mH h s) Q := by
  refine zz_E.c 141 (.int 0) rfl rfl rfl rfl ?_
  refine zz_E.n 143 rfl rfl rfl ?_
  exact zz_E.weak k rfl ⟨rfl, rfl, rfl, rfl, rfl, trivial⟩
theorem mb_335_143 {X : Nat → Option zz_C} {h : zz_H} (hh : 111 ≤ h.length) {s : mS} {d : Nat} {Q : Option Value → zz_H → Prop} {x2 : Int32} {x3 : Int32} {x4 : Int32} {x7 : Int32} (k : zz_E zp_P zt_tf zt_fd X d zm_77 0 [(0, .ref 61), (1, .int x2)] [] (mH h s) (fun v h' => zz_E zp_P zt_tf zt_fd X (d + 1) zm_335 150 [(0, .ref 61), (2, .int x2), (3, .int x3), (4, .int x4), (7, .int x7)] (v.toList ++ [.int x7]) h' Q)) : zz_E zp_P zt_tf zt_fd X (d + 1) zm_335 143 [(0, .ref 61), (2, .int x2), (3, .int x3), (4, .int x4), (7, .int x7)] [] (mH h s) Q := by
  refine zz_E.n 145 rfl rfl rfl ?_
  refine zz_E.n 146 rfl rfl rfl ?_
  refine zz_E.n 147 rfl rfl rfl ?_
  refine mE_cv hh 150 (as := [.int x7]) rfl rfl (Nat.le_of_ble_eq_true rfl) (Nat.le_of_ble_eq_true rfl) rfl (Nat.le_of_ble_eq_true rfl) rfl ?_
  refine zz_E.mono k ?_
  intro v h' hE
  exact zz_E.weak hE rfl ⟨rfl, rfl, rfl, rfl, rfl, trivial⟩
theorem mb_335_150 {X : Nat → Option zz_C} {h : zz_H} (hh : 111 ≤ h.length) {s : mS} {d : Nat} {Q : Option Value → zz_H → Prop} {x2 : Int32} {x3 : Int32} {x4 : Int32} {x7 : Int32} {y0 : Int32} {y1 : Int32} (k1 : y1 ≤ y0 → zz_E zp_P zt_tf zt_fd X d zm_335 223 [(0, .ref 61), (3, .int x3)] [] (mH h s) Q) (k2 : ¬ y1 ≤ y0 → zz_E zp_P zt_tf zt_fd X d zm_335 153 [(0, .ref 61), (2, .int x2), (3, .int x3), (4, .int x4), (7, .int x7)] [] (mH h s) Q) : zz_E zp_P zt_tf zt_fd X d zm_335 150 [(0, .ref 61), (2, .int x2), (3, .int x3), (4, .int x4), (7, .int x7)] [.int y1, .int y0] (mH h s) Q := by
  refine zz_E.b2 223 153 (A := y1 ≤ y0) rfl rfl (by decide) rfl rfl (fun c => ?_) (fun c => ?_)
  · exact zz_E.weak (k1 c) rfl ⟨rfl, rfl, trivial⟩
  · exact zz_E.weak (k2 c) rfl ⟨rfl, rfl, rfl, rfl, rfl, trivial⟩
theorem mb_335_153 {X : Nat → Option zz_C} {h : zz_H} (hh : 111 ≤ h.length) {s : mS} {d : Nat} {Q : Option Value → zz_H → Prop} {x2 : Int32} {x3 : Int32} {x4 : Int32} {x7 : Int32} (k1 : ¬ x4 = 3 → zz_E zp_P zt_tf zt_fd X d zm_335 179 [(0, .ref 61), (2, .int x2), (3, .int x3), (4, .int x4), (7, .int x7)] [] (mH h s) Q) (k2 : ¬ ¬ x4 = 3 → zz_E zp_P zt_tf zt_fd X d zm_335 159 [(0, .ref 61), (2, .int x2), (3, .int x3), (4, .int x4), (7, .int x7)] [] (mH h s) Q) : zz_E zp_P zt_tf zt_fd X d zm_335 153 [(0, .ref 61), (2, .int x2), (3, .int x3), (4, .int x4), (7, .int x7)] [] (mH h s) Q := by
  refine zz_E.n 155 rfl rfl rfl ?_
  refine zz_E.c 156 (.int 3) rfl rfl rfl rfl ?_
  refine zz_E.b2 179 159 (A := ¬ x4 = 3) rfl (zz_cond_ne _ _) (by decide) rfl rfl (fun c => ?_) (fun c => ?_)
  · exact zz_E.weak (k1 c) rfl ⟨rfl, rfl, rfl, rfl, rfl, trivial⟩
  · exact zz_E.weak (k2 c) rfl ⟨rfl, rfl, rfl, rfl, rfl, trivial⟩
theorem mb_335_159 {X : Nat → Option zz_C} {h : zz_H} (hh : 111 ≤ h.length) {s : mS} {d : Nat} {Q : Option Value → zz_H → Prop} {x2 : Int32} {x3 : Int32} {x4 : Int32} {x7 : Int32} (k : zz_E zp_P zt_tf zt_fd X d zm_293 0 [(0, .ref 61), (1, .int x2), (2, .int x7)] [] (mH h s) (fun v h' => zz_E zp_P zt_tf zt_fd X (d + 1) zm_335 166 [(0, .ref 61), (2, .int x2), (3, .int x3), (4, .int x4), (7, .int x7)] (v.toList ++ []) h' Q)) : zz_E zp_P zt_tf zt_fd X (d + 1) zm_335 159 [(0, .ref 61), (2, .int x2), (3, .int x3), (4, .int x4), (7, .int x7)] [] (mH h s) Q := by
  refine zz_E.n 160 rfl rfl rfl ?_
  refine zz_E.n 161 rfl rfl rfl ?_
  refine zz_E.n 163 rfl rfl rfl ?_
  refine mE_cv hh 166 (as := []) rfl rfl (Nat.le_of_ble_eq_true rfl) (Nat.le_of_ble_eq_true rfl) rfl (Nat.le_of_ble_eq_true rfl) rfl ?_
  refine zz_E.mono k ?_
  intro v h' hE
  exact zz_E.weak hE rfl ⟨rfl, rfl, rfl, rfl, rfl, trivial⟩
theorem mb_335_166 {X : Nat → Option zz_C} {h : zz_H} (hh : 111 ≤ h.length) {s : mS} {d : Nat} {Q : Option Value → zz_H → Prop} {x2 : Int32} {x3 : Int32} {x4 : Int32} {x7 : Int32} {y0 : Int32} (k1 : y0 = 0 → zz_E zp_P zt_tf zt_fd X d zm_335 179 [(0, .ref 61), (2, .int x2), (3, .int x3), (4, .int x4), (7, .int x7)] [] (mH h s) Q) (k2 : ¬ y0 = 0 → zz_E zp_P zt_tf zt_fd X d zm_335 169 [(0, .ref 61), (2, .int x2), (3, .int x3), (4, .int x4), (7, .int x7)] [] (mH h s) Q) : zz_E zp_P zt_tf zt_fd X d zm_335 166 [(0, .ref 61), (2, .int x2), (3, .int x3), (4, .int x4), (7, .int x7)] [.int y0] (mH h s) Q := by
  refine zz_E.b1 179 169 (A := y0 = 0) rfl rfl (by decide) rfl rfl (fun c => ?_) (fun c => ?_)
  · exact zz_E.weak (k1 c) rfl ⟨rfl, rfl, rfl, rfl, rfl, trivial⟩
  · exact zz_E.weak (k2 c) rfl ⟨rfl, rfl, rfl, rfl, rfl, trivial⟩
theorem mb_335_169 {X : Nat → Option zz_C} {h : zz_H} (hh : 111 ≤ h.length) {s : mS} {d : Nat} {Q : Option Value → zz_H → Prop} {x2 : Int32} {x3 : Int32} {x4 : Int32} {x7 : Int32} (k : zz_E zp_P zt_tf zt_fd X d zm_295 0 [(0, .ref 61), (1, .int x2), (2, .int x7)] [] (mH h s) (fun v h' => zz_E zp_P zt_tf zt_fd X (d + 1) zm_335 176 [(0, .ref 61), (2, .int x2), (3, .int x3), (4, .int x4), (7, .int x7)] (v.toList ++ []) h' Q)) : zz_E zp_P zt_tf zt_fd X (d + 1) zm_335 169 [(0, .ref 61), (2, .int x2), (3, .int x3), (4, .int x4), (7, .int x7)] [] (mH h s) Q := by
  refine zz_E.n 170 rfl rfl rfl ?_
  refine zz_E.n 171 rfl rfl rfl ?_
  refine zz_E.n 173 rfl rfl rfl ?_
  refine mE_cv hh 176 (as := []) rfl rfl (Nat.le_of_ble_eq_true rfl) (Nat.le_of_ble_eq_true rfl) rfl (Nat.le_of_ble_eq_true rfl) rfl ?_
  refine zz_E.mono k ?_
  intro v h' hE
  exact zz_E.weak hE rfl ⟨rfl, rfl, rfl, rfl, rfl, trivial⟩
theorem mb_335_176 {X : Nat → Option zz_C} {h : zz_H} (hh : 111 ≤ h.length) {s : mS} {d : Nat} {Q : Option Value → zz_H → Prop} {x2 : Int32} {x3 : Int32} {x4 : Int32} {x7 : Int32} (k : zz_E zp_P zt_tf zt_fd X d zm_335 217 [(0, .ref 61), (2, .int x2), (3, .int x3), (4, .int x4), (7, .int x7)] [] (mH h s) Q) : zz_E zp_P zt_tf zt_fd X d zm_335 176 [(0, .ref 61), (2, .int x2), (3, .int x3), (4, .int x4), (7, .int x7)] [] (mH h s) Q := by
  refine zz_E.n 217 rfl rfl rfl ?_
  exact zz_E.weak k rfl ⟨rfl, rfl, rfl, rfl, rfl, trivial⟩
theorem mb_335_179 {X : Nat → Option zz_C} {h : zz_H} (hh : 111 ≤ h.length) {s : mS} {d : Nat} {Q : Option Value → zz_H → Prop} {x2 : Int32} {x3 : Int32} {x4 : Int32} {x7 : Int32} (k : zz_E zp_P zt_tf zt_fd X d zm_335 182 [(0, .ref 61), (2, .int x2), (3, .int x3), (4, .int x4), (7, .int x7), (8, .int 0)] [] (mH h s) Q) : zz_E zp_P zt_tf zt_fd X d zm_335 179 [(0, .ref 61), (2, .int x2), (3, .int x3), (4, .int x4), (7, .int x7)] [] (mH h s) Q := by
  refine zz_E.c 180 (.int 0) rfl rfl rfl rfl ?_
  refine zz_E.n 182 rfl rfl rfl ?_
  exact zz_E.weak k rfl ⟨rfl, rfl, rfl, rfl, rfl, rfl, trivial⟩
theorem mb_335_182 {X : Nat → Option zz_C} {h : zz_H} (hh : 111 ≤ h.length) {s : mS} {d : Nat} {Q : Option Value → zz_H → Prop} {x2 : Int32} {x3 : Int32} {x4 : Int32} {x7 : Int32} {x8 : Int32} (k : zz_E zp_P zt_tf zt_fd X d zm_294 0 [(0, .ref 61), (1, .int x2), (2, .int x7)] [] (mH h s) (fun v h' => zz_E zp_P zt_tf zt_fd X (d + 1) zm_335 192 [(0, .ref 61), (2, .int x2), (3, .int x3), (4, .int x4), (7, .int x7), (8, .int x8)] (v.toList ++ [.ref 61, .int x8]) h' Q)) : zz_E zp_P zt_tf zt_fd X (d + 1) zm_335 182 [(0, .ref 61), (2, .int x2), (3, .int x3), (4, .int x4), (7, .int x7), (8, .int x8)] [] (mH h s) Q := by
  refine zz_E.n 184 rfl rfl rfl ?_
  refine zz_E.n 185 rfl rfl rfl ?_
  refine zz_E.n 186 rfl rfl rfl ?_
  refine zz_E.n 187 rfl rfl rfl ?_
  refine zz_E.n 189 rfl rfl rfl ?_
  refine mE_cv hh 192 (as := [.ref 61, .int x8]) rfl rfl (Nat.le_of_ble_eq_true rfl) (Nat.le_of_ble_eq_true rfl) rfl (Nat.le_of_ble_eq_true rfl) rfl ?_
  refine zz_E.mono k ?_
  intro v h' hE
  exact zz_E.weak hE rfl ⟨rfl, rfl, rfl, rfl, rfl, rfl, trivial⟩
theorem mb_335_192 {X : Nat → Option zz_C} {h : zz_H} (hh : 111 ≤ h.length) {s : mS} {d : Nat} {Q : Option Value → zz_H → Prop} {x2 : Int32} {x3 : Int32} {x4 : Int32} {x7 : Int32} {x8 : Int32} {y0 : Int32} {y2 : Int32} (k : zz_E zp_P zt_tf zt_fd X d zm_77 0 [(0, .ref 61), (1, .int y2)] [] (mH h s) (fun v h' => zz_E zp_P zt_tf zt_fd X (d + 1) zm_335 195 [(0, .ref 61), (2, .int x2), (3, .int x3), (4, .int x4), (7, .int x7), (8, .int x8)] (v.toList ++ [.int y0]) h' Q)) : zz_E zp_P zt_tf zt_fd X (d + 1) zm_335 192 [(0, .ref 61), (2, .int x2), (3, .int x3), (4, .int x4), (7, .int x7), (8, .int x8)] [.int y2, .ref 61, .int y0] (mH h s) Q := by
  refine mE_cv hh 195 (as := [.int y0]) rfl rfl (Nat.le_of_ble_eq_true rfl) (Nat.le_of_ble_eq_true rfl) rfl (Nat.le_of_ble_eq_true rfl) rfl ?_
  refine zz_E.mono k ?_
  intro v h' hE
  exact zz_E.weak hE rfl ⟨rfl, rfl, rfl, rfl, rfl, rfl, trivial⟩
theorem mb_335_195 {X : Nat → Option zz_C} {h : zz_H} (hh : 111 ≤ h.length) {s : mS} {d : Nat} {Q : Option Value → zz_H → Prop} {x2 : Int32} {x3 : Int32} {x4 : Int32} {x7 : Int32} {x8 : Int32} {y0 : Int32} {y1 : Int32} (k1 : y1 ≤ y0 → zz_E zp_P zt_tf zt_fd X d zm_335 217 [(0, .ref 61), (2, .int x2), (3, .int x3), (4, .int x4), (7, .int x7)] [] (mH h s) Q) (k2 : ¬ y1 ≤ y0 → zz_E zp_P zt_tf zt_fd X d zm_335 198 [(0, .ref 61), (2, .int x2), (3, .int x3), (4, .int x4), (7, .int x7), (8, .int x8)] [] (mH h s) Q) : zz_E zp_P zt_tf zt_fd X d zm_335 195 [(0, .ref 61), (2, .int x2), (3, .int x3), (4, .int x4), (7, .int x7), (8, .int x8)] [.int y1, .int y0] (mH h s) Q := by
  refine zz_E.b2 217 198 (A := y1 ≤ y0) rfl rfl (by decide) rfl rfl (fun c => ?_) (fun c => ?_)
  · exact zz_E.weak (k1 c) rfl ⟨rfl, rfl, rfl, rfl, rfl, trivial⟩
  · exact zz_E.weak (k2 c) rfl ⟨rfl, rfl, rfl, rfl, rfl, rfl, trivial⟩
theorem mb_335_198 {X : Nat → Option zz_C} {h : zz_H} (hh : 111 ≤ h.length) {s : mS} {d : Nat} {Q : Option Value → zz_H → Prop} {x2 : Int32} {x3 : Int32} {x4 : Int32} {x7 : Int32} {x8 : Int32} (k : zz_E zp_P zt_tf zt_fd X d zm_294 0 [(0, .ref 61), (1, .int x2), (2, .int x7)] [] (mH h s) (fun v h' => zz_E zp_P zt_tf zt_fd X (d + 1) zm_335 206 [(0, .ref 61), (2, .int x2), (3, .int x3), (4, .int x4), (7, .int x7), (8, .int x8)] (v.toList ++ [.ref 61]) h' Q)) : zz_E zp_P zt_tf zt_fd X (d + 1) zm_335 198 [(0, .ref 61), (2, .int x2), (3, .int x3), (4, .int x4), (7, .int x7), (8, .int x8)] [] (mH h s) Q := by
  refine zz_E.n 199 rfl rfl rfl ?_
  refine zz_E.n 200 rfl rfl rfl ?_
  refine zz_E.n 201 rfl rfl rfl ?_
  refine zz_E.n 203 rfl rfl rfl ?_
  refine mE_cv hh 206 (as := [.ref 61]) rfl rfl (Nat.le_of_ble_eq_true rfl) (Nat.le_of_ble_eq_true rfl) rfl (Nat.le_of_ble_eq_true rfl) rfl ?_
  refine zz_E.mono k ?_
  intro v h' hE
  exact zz_E.weak hE rfl ⟨rfl, rfl, rfl, rfl, rfl, rfl, trivial⟩
theorem mb_335_206 {X : Nat → Option zz_C} {h : zz_H} (hh : 111 ≤ h.length) {s : mS} {d : Nat} {Q : Option Value → zz_H → Prop} {x2 : Int32} {x3 : Int32} {x4 : Int32} {x7 : Int32} {x8 : Int32} {y1 : Int32} (k : zz_E zp_P zt_tf zt_fd X d zm_295 0 [(0, .ref 61), (1, .int y1), (2, .int x8)] [] (mH h s) (fun v h' => zz_E zp_P zt_tf zt_fd X (d + 1) zm_335 211 [(0, .ref 61), (2, .int x2), (3, .int x3), (4, .int x4), (7, .int x7), (8, .int x8)] (v.toList ++ []) h' Q)) : zz_E zp_P zt_tf zt_fd X (d + 1) zm_335 206 [(0, .ref 61), (2, .int x2), (3, .int x3), (4, .int x4), (7, .int x7), (8, .int x8)] [.int y1, .ref 61] (mH h s) Q := by
  refine zz_E.n 208 rfl rfl rfl ?_
  refine mE_cv hh 211 (as := []) rfl rfl (Nat.le_of_ble_eq_true rfl) (Nat.le_of_ble_eq_true rfl) rfl (Nat.le_of_ble_eq_true rfl) rfl ?_
  refine zz_E.mono k ?_
  intro v h' hE
  exact zz_E.weak hE rfl ⟨rfl, rfl, rfl, rfl, rfl, rfl, trivial⟩
theorem mb_335_211 {X : Nat → Option zz_C} {h : zz_H} (hh : 111 ≤ h.length) {s : mS} {d : Nat} {Q : Option Value → zz_H → Prop} {x2 : Int32} {x3 : Int32} {x4 : Int32} {x7 : Int32} {x8 : Int32} (k : zz_E zp_P zt_tf zt_fd X d zm_335 182 [(0, .ref 61), (2, .int x2), (3, .int x3), (4, .int x4), (7, .int x7), (8, .int (x8 + 1))] [] (mH h s) Q) : zz_E zp_P zt_tf zt_fd X d zm_335 211 [(0, .ref 61), (2, .int x2), (3, .int x3), (4, .int x4), (7, .int x7), (8, .int x8)] [] (mH h s) Q := by
  refine zz_E.n 214 rfl rfl rfl ?_
  refine zz_E.n 182 rfl rfl rfl ?_
  exact zz_E.weak k rfl ⟨rfl, rfl, rfl, rfl, rfl, rfl, trivial⟩
theorem mb_335_217 {X : Nat → Option zz_C} {h : zz_H} (hh : 111 ≤ h.length) {s : mS} {d : Nat} {Q : Option Value → zz_H → Prop} {x2 : Int32} {x3 : Int32} {x4 : Int32} {x7 : Int32} (k : zz_E zp_P zt_tf zt_fd X d zm_335 143 [(0, .ref 61), (2, .int x2), (3, .int x3), (4, .int x4), (7, .int (x7 + 1))] [] (mH h s) Q) : zz_E zp_P zt_tf zt_fd X d zm_335 217 [(0, .ref 61), (2, .int x2), (3, .int x3), (4, .int x4), (7, .int x7)] [] (mH h s) Q := by
  refine zz_E.n 220 rfl rfl rfl ?_
  refine zz_E.n 143 rfl rfl rfl ?_
  exact zz_E.weak k rfl ⟨rfl, rfl, rfl, rfl, rfl, trivial⟩
theorem mb_335_223 {X : Nat → Option zz_C} {h : zz_H} (hh : 111 ≤ h.length) {s : mS} {d : Nat} {Q : Option Value → zz_H → Prop} {x3 : Int32} (k : zz_E zp_P zt_tf zt_fd X d zm_305 0 [(0, .ref 61), (1, .int 1), (2, .int x3)] [] (mH h s) (fun v h' => zz_E zp_P zt_tf zt_fd X (d + 1) zm_335 229 [] (v.toList ++ []) h' Q)) : zz_E zp_P zt_tf zt_fd X (d + 1) zm_335 223 [(0, .ref 61), (3, .int x3)] [] (mH h s) Q := by
  refine zz_E.n 224 rfl rfl rfl ?_
  refine zz_E.c 225 (.int 1) rfl rfl rfl rfl ?_
  refine zz_E.n 226 rfl rfl rfl ?_
  refine mE_cv hh 229 (as := []) rfl rfl (Nat.le_of_ble_eq_true rfl) (Nat.le_of_ble_eq_true rfl) rfl (Nat.le_of_ble_eq_true rfl) rfl ?_
  refine zz_E.mono k ?_
  intro v h' hE
  exact zz_E.weak hE rfl trivial
theorem mb_335_229 {X : Nat → Option zz_C} {h : zz_H} (hh : 111 ≤ h.length) {s : mS} {d : Nat} {Q : Option Value → zz_H → Prop}  (k : Q none (mH h s)) : zz_E zp_P zt_tf zt_fd X d zm_335 229 [] [] (mH h s) Q := by
  refine zz_E.ret rfl rfl rfl ?_
  exact k
theorem mb_335_230 {X : Nat → Option zz_C} {h : zz_H} (hh : 111 ≤ h.length) {s : mS} {d : Nat} {Q : Option Value → zz_H → Prop} {x1 : Int32} {x2 : Int32} {x3 : Int32} {x4 : Int32} {x5 : Int32} (k1 : ¬ x1 = 17 → zz_E zp_P zt_tf zt_fd X d zm_335 279 [(0, .ref 61), (2, .int x2), (3, .int x3), (4, .int x4), (5, .int x5), (6, .int 0)] [] (mH h s) Q) (k2 : ¬ ¬ x1 = 17 → zz_E zp_P zt_tf zt_fd X d zm_335 239 [(0, .ref 61), (2, .int x2), (3, .int x3), (4, .int x4), (5, .int x5), (6, .int 0)] [] (mH h s) Q) : zz_E zp_P zt_tf zt_fd X d zm_335 230 [(0, .ref 61), (1, .int x1), (2, .int x2), (3, .int x3), (4, .int x4), (5, .int x5)] [] (mH h s) Q := by
  refine zz_E.c 231 (.int 0) rfl rfl rfl rfl ?_
  refine zz_E.n 233 rfl rfl rfl ?_
  refine zz_E.n 234 rfl rfl rfl ?_
  refine zz_E.c 236 (.int 17) rfl rfl rfl rfl ?_
  refine zz_E.b2 279 239 (A := ¬ x1 = 17) rfl (zz_cond_ne _ _) (by decide) rfl rfl (fun c => ?_) (fun c => ?_)
  · exact zz_E.weak (k1 c) rfl ⟨rfl, rfl, rfl, rfl, rfl, rfl, trivial⟩
  · exact zz_E.weak (k2 c) rfl ⟨rfl, rfl, rfl, rfl, rfl, rfl, trivial⟩
theorem mb_335_239 {X : Nat → Option zz_C} {h : zz_H} (hh : 111 ≤ h.length) {s : mS} {d : Nat} {Q : Option Value → zz_H → Prop} {x2 : Int32} {x3 : Int32} {x4 : Int32} {x5 : Int32} {x6 : Int32} (k : zz_E zp_P zt_tf zt_fd X d zm_335 242 [(0, .ref 61), (2, .int x2), (3, .int x3), (4, .int x4), (5, .int x5), (6, .int x6), (7, .int 0)] [] (mH h s) Q) : zz_E zp_P zt_tf zt_fd X d zm_335 239 [(0, .ref 61), (2, .int x2), (3, .int x3), (4, .int x4), (5, .int x5), (6, .int x6)] [] (mH h s) Q := by
  refine zz_E.c 240 (.int 0) rfl rfl rfl rfl ?_
  refine zz_E.n 242 rfl rfl rfl ?_
  exact zz_E.weak k rfl ⟨rfl, rfl, rfl, rfl, rfl, rfl, rfl, trivial⟩
theorem mb_335_242 {X : Nat → Option zz_C} {h : zz_H} (hh : 111 ≤ h.length) {s : mS} {d : Nat} {Q : Option Value → zz_H → Prop} {x2 : Int32} {x3 : Int32} {x4 : Int32} {x5 : Int32} {x6 : Int32} {x7 : Int32} (k : zz_E zp_P zt_tf zt_fd X d zm_77 0 [(0, .ref 61), (1, .int x2)] [] (mH h s) (fun v h' => zz_E zp_P zt_tf zt_fd X (d + 1) zm_335 249 [(0, .ref 61), (2, .int x2), (3, .int x3), (4, .int x4), (5, .int x5), (6, .int x6), (7, .int x7)] (v.toList ++ [.int x7]) h' Q)) : zz_E zp_P zt_tf zt_fd X (d + 1) zm_335 242 [(0, .ref 61), (2, .int x2), (3, .int x3), (4, .int x4), (5, .int x5), (6, .int x6), (7, .int x7)] [] (mH h s) Q := by
  refine zz_E.n 244 rfl rfl rfl ?_
  refine zz_E.n 245 rfl rfl rfl ?_
  refine zz_E.n 246 rfl rfl rfl ?_
  refine mE_cv hh 249 (as := [.int x7]) rfl rfl (Nat.le_of_ble_eq_true rfl) (Nat.le_of_ble_eq_true rfl) rfl (Nat.le_of_ble_eq_true rfl) rfl ?_
  refine zz_E.mono k ?_
  intro v h' hE
  exact zz_E.weak hE rfl ⟨rfl, rfl, rfl, rfl, rfl, rfl, rfl, trivial⟩
theorem mb_335_249 {X : Nat → Option zz_C} {h : zz_H} (hh : 111 ≤ h.length) {s : mS} {d : Nat} {Q : Option Value → zz_H → Prop} {x2 : Int32} {x3 : Int32} {x4 : Int32} {x5 : Int32} {x6 : Int32} {x7 : Int32} {y0 : Int32} {y1 : Int32} (k1 : y1 ≤ y0 → zz_E zp_P zt_tf zt_fd X d zm_335 276 [(0, .ref 61), (2, .int x2), (3, .int x3), (4, .int x4), (5, .int x5), (6, .int x6)] [] (mH h s) Q) (k2 : ¬ y1 ≤ y0 → zz_E zp_P zt_tf zt_fd X d zm_335 252 [(0, .ref 61), (2, .int x2), (3, .int x3), (4, .int x4), (5, .int x5), (6, .int x6), (7, .int x7)] [] (mH h s) Q) : zz_E zp_P zt_tf zt_fd X d zm_335 249 [(0, .ref 61), (2, .int x2), (3, .int x3), (4, .int x4), (5, .int x5), (6, .int x6), (7, .int x7)] [.int y1, .int y0] (mH h s) Q := by
  refine zz_E.b2 276 252 (A := y1 ≤ y0) rfl rfl (by decide) rfl rfl (fun c => ?_) (fun c => ?_)
  · exact zz_E.weak (k1 c) rfl ⟨rfl, rfl, rfl, rfl, rfl, rfl, trivial⟩
  · exact zz_E.weak (k2 c) rfl ⟨rfl, rfl, rfl, rfl, rfl, rfl, rfl, trivial⟩
theorem mb_335_252 {X : Nat → Option zz_C} {h : zz_H} (hh : 111 ≤ h.length) {s : mS} {d : Nat} {Q : Option Value → zz_H → Prop} {x2 : Int32} {x3 : Int32} {x4 : Int32} {x5 : Int32} {x6 : Int32} {x7 : Int32} (k : zz_E zp_P zt_tf zt_fd X d zm_294 0 [(0, .ref 61), (1, .int x2), (2, .int x7)] [] (mH h s) (fun v h' => zz_E zp_P zt_tf zt_fd X (d + 1) zm_335 262 [(0, .ref 61), (2, .int x2), (3, .int x3), (4, .int x4), (6, .int x6), (7, .int x7)] (v.toList ++ [.ref 61, .int x5]) h' Q)) : zz_E zp_P zt_tf zt_fd X (d + 1) zm_335 252 [(0, .ref 61), (2, .int x2), (3, .int x3), (4, .int x4), (5, .int x5), (6, .int x6), (7, .int x7)] [] (mH h s) Q := by
  refine zz_E.n 254 rfl rfl rfl ?_
  refine zz_E.n 255 rfl rfl rfl ?_
  refine zz_E.n 256 rfl rfl rfl ?_
  refine zz_E.n 257 rfl rfl rfl ?_
  refine zz_E.n 259 rfl rfl rfl ?_
  refine mE_cv hh 262 (as := [.ref 61, .int x5]) rfl rfl (Nat.le_of_ble_eq_true rfl) (Nat.le_of_ble_eq_true rfl) rfl (Nat.le_of_ble_eq_true rfl) rfl ?_
  refine zz_E.mono k ?_
  intro v h' hE
  exact zz_E.weak hE rfl ⟨rfl, rfl, rfl, rfl, rfl, rfl, trivial⟩
theorem mb_335_262 {X : Nat → Option zz_C} {h : zz_H} (hh : 111 ≤ h.length) {s : mS} {d : Nat} {Q : Option Value → zz_H → Prop} {x2 : Int32} {x3 : Int32} {x4 : Int32} {x6 : Int32} {x7 : Int32} {y0 : Int32} {y2 : Int32} (k : zz_E zp_P zt_tf zt_fd X d zm_77 0 [(0, .ref 61), (1, .int y2)] [] (mH h s) (fun v h' => zz_E zp_P zt_tf zt_fd X (d + 1) zm_335 265 [(0, .ref 61), (2, .int x2), (3, .int x3), (4, .int x4), (6, .int x6), (7, .int x7)] (v.toList ++ [.int y0]) h' Q)) : zz_E zp_P zt_tf zt_fd X (d + 1) zm_335 262 [(0, .ref 61), (2, .int x2), (3, .int x3), (4, .int x4), (6, .int x6), (7, .int x7)] [.int y2, .ref 61, .int y0] (mH h s) Q := by
  refine mE_cv hh 265 (as := [.int y0]) rfl rfl (Nat.le_of_ble_eq_true rfl) (Nat.le_of_ble_eq_true rfl) rfl (Nat.le_of_ble_eq_true rfl) rfl ?_
  refine zz_E.mono k ?_
  intro v h' hE
  exact zz_E.weak hE rfl ⟨rfl, rfl, rfl, rfl, rfl, rfl, trivial⟩
theorem mb_335_265 {X : Nat → Option zz_C} {h : zz_H} (hh : 111 ≤ h.length) {s : mS} {d : Nat} {Q : Option Value → zz_H → Prop} {x2 : Int32} {x3 : Int32} {x4 : Int32} {x6 : Int32} {x7 : Int32} {y0 : Int32} {y1 : Int32} (k : zz_E zp_P zt_tf zt_fd X d zm_326 0 [(0, .int y0), (1, .int y1)] [] (mH h s) (fun v h' => zz_E zp_P zt_tf zt_fd X (d + 1) zm_335 268 [(0, .ref 61), (2, .int x2), (3, .int x3), (4, .int x4), (6, .int x6), (7, .int x7)] (v.toList ++ []) h' Q)) : zz_E zp_P zt_tf zt_fd X (d + 1) zm_335 265 [(0, .ref 61), (2, .int x2), (3, .int x3), (4, .int x4), (6, .int x6), (7, .int x7)] [.int y1, .int y0] (mH h s) Q := by
  refine zz_E.cl (M' := zm_326) 268 rfl rfl (by decide) rfl rfl ⟨rfl, Nat.le_of_ble_eq_true rfl⟩ rfl ?_
  refine zz_E.mono k ?_
  intro v h' hE
  exact zz_E.weak hE rfl ⟨rfl, rfl, rfl, rfl, rfl, rfl, trivial⟩
theorem mb_335_268 {X : Nat → Option zz_C} {h : zz_H} (hh : 111 ≤ h.length) {s : mS} {d : Nat} {Q : Option Value → zz_H → Prop} {x2 : Int32} {x3 : Int32} {x4 : Int32} {x6 : Int32} {x7 : Int32} {y0 : Int32} (k : zz_E zp_P zt_tf zt_fd X d zm_335 242 [(0, .ref 61), (2, .int x2), (3, .int x3), (4, .int x4), (5, .int y0), (6, .int x6), (7, .int (x7 + 1))] [] (mH h s) Q) : zz_E zp_P zt_tf zt_fd X d zm_335 268 [(0, .ref 61), (2, .int x2), (3, .int x3), (4, .int x4), (6, .int x6), (7, .int x7)] [.int y0] (mH h s) Q := by
  refine zz_E.n 270 rfl rfl rfl ?_
  refine zz_E.n 273 rfl rfl rfl ?_
  refine zz_E.n 242 rfl rfl rfl ?_
  exact zz_E.weak k rfl ⟨rfl, rfl, rfl, rfl, rfl, rfl, rfl, trivial⟩
theorem mb_335_276 {X : Nat → Option zz_C} {h : zz_H} (hh : 111 ≤ h.length) {s : mS} {d : Nat} {Q : Option Value → zz_H → Prop} {x2 : Int32} {x3 : Int32} {x4 : Int32} {x5 : Int32} {x6 : Int32} (k : zz_E zp_P zt_tf zt_fd X d zm_335 357 [(0, .ref 61), (2, .int x2), (3, .int x3), (4, .int x4), (5, .int x5), (6, .int x6)] [] (mH h s) Q) : zz_E zp_P zt_tf zt_fd X d zm_335 276 [(0, .ref 61), (2, .int x2), (3, .int x3), (4, .int x4), (5, .int x5), (6, .int x6)] [] (mH h s) Q := by
  refine zz_E.n 357 rfl rfl rfl ?_
  exact zz_E.weak k rfl ⟨rfl, rfl, rfl, rfl, rfl, rfl, trivial⟩
theorem mb_335_279 {X : Nat → Option zz_C} {h : zz_H} (hh : 111 ≤ h.length) {s : mS} {d : Nat} {Q : Option Value → zz_H → Prop} {x2 : Int32} {x3 : Int32} {x4 : Int32} {x5 : Int32} {x6 : Int32} (k : zz_E zp_P zt_tf zt_fd X d zm_335 282 [(0, .ref 61), (2, .int x2), (3, .int x3), (4, .int x4), (5, .int x5), (6, .int x6), (7, .int 0)] [] (mH h s) Q) : zz_E zp_P zt_tf zt_fd X d zm_335 279 [(0, .ref 61), (2, .int x2), (3, .int x3), (4, .int x4), (5, .int x5), (6, .int x6)] [] (mH h s) Q := by
  refine zz_E.c 280 (.int 0) rfl rfl rfl rfl ?_
  refine zz_E.n 282 rfl rfl rfl ?_
  exact zz_E.weak k rfl ⟨rfl, rfl, rfl, rfl, rfl, rfl, rfl, trivial⟩
theorem mb_335_282 {X : Nat → Option zz_C} {h : zz_H} (hh : 111 ≤ h.length) {s : mS} {d : Nat} {Q : Option Value → zz_H → Prop} {x2 : Int32} {x3 : Int32} {x4 : Int32} {x5 : Int32} {x6 : Int32} {x7 : Int32} (k : zz_E zp_P zt_tf zt_fd X d zm_77 0 [(0, .ref 61), (1, .int x2)] [] (mH h s) (fun v h' => zz_E zp_P zt_tf zt_fd X (d + 1) zm_335 289 [(0, .ref 61), (2, .int x2), (3, .int x3), (4, .int x4), (5, .int x5), (6, .int x6), (7, .int x7)] (v.toList ++ [.int x7]) h' Q)) : zz_E zp_P zt_tf zt_fd X (d + 1) zm_335 282 [(0, .ref 61), (2, .int x2), (3, .int x3), (4, .int x4), (5, .int x5), (6, .int x6), (7, .int x7)] [] (mH h s) Q := by
  refine zz_E.n 284 rfl rfl rfl ?_
  refine zz_E.n 285 rfl rfl rfl ?_
  refine zz_E.n 286 rfl rfl rfl ?_
  refine mE_cv hh 289 (as := [.int x7]) rfl rfl (Nat.le_of_ble_eq_true rfl) (Nat.le_of_ble_eq_true rfl) rfl (Nat.le_of_ble_eq_true rfl) rfl ?_
  refine zz_E.mono k ?_
  intro v h' hE
  exact zz_E.weak hE rfl ⟨rfl, rfl, rfl, rfl, rfl, rfl, rfl, trivial⟩
theorem mb_335_289 {X : Nat → Option zz_C} {h : zz_H} (hh : 111 ≤ h.length) {s : mS} {d : Nat} {Q : Option Value → zz_H → Prop} {x2 : Int32} {x3 : Int32} {x4 : Int32} {x5 : Int32} {x6 : Int32} {x7 : Int32} {y0 : Int32} {y1 : Int32} (k1 : y1 ≤ y0 → zz_E zp_P zt_tf zt_fd X d zm_335 357 [(0, .ref 61), (2, .int x2), (3, .int x3), (4, .int x4), (5, .int x5), (6, .int x6)] [] (mH h s) Q) (k2 : ¬ y1 ≤ y0 → zz_E zp_P zt_tf zt_fd X d zm_335 292 [(0, .ref 61), (2, .int x2), (3, .int x3), (4, .int x4), (5, .int x5), (6, .int x6), (7, .int x7)] [] (mH h s) Q) : zz_E zp_P zt_tf zt_fd X d zm_335 289 [(0, .ref 61), (2, .int x2), (3, .int x3), (4, .int x4), (5, .int x5), (6, .int x6), (7, .int x7)] [.int y1, .int y0] (mH h s) Q := by
  refine zz_E.b2 357 292 (A := y1 ≤ y0) rfl rfl (by decide) rfl rfl (fun c => ?_) (fun c => ?_)
  · exact zz_E.weak (k1 c) rfl ⟨rfl, rfl, rfl, rfl, rfl, rfl, trivial⟩
  · exact zz_E.weak (k2 c) rfl ⟨rfl, rfl, rfl, rfl, rfl, rfl, rfl, trivial⟩
theorem mb_335_292 {X : Nat → Option zz_C} {h : zz_H} (hh : 111 ≤ h.length) {s : mS} {d : Nat} {Q : Option Value → zz_H → Prop} {x2 : Int32} {x3 : Int32} {x4 : Int32} {x5 : Int32} {x6 : Int32} {x7 : Int32} (i302 : ¬ (((x2 + 2) + x7) < 0 ∨ 166300 ≤ Int32.toNatClampNeg ((x2 + 2) + x7))) (k1 : ((s.2.2.1 47) (Int32.toNatClampNeg ((x2 + 2) + x7))) ≤ 19 → zz_E zp_P zt_tf zt_fd X d zm_335 319 [(0, .ref 61), (2, .int x2), (3, .int x3), (4, .int x4), (5, .int x5), (6, .int x6), (7, .int x7), (8, .int ((s.2.2.1 47) (Int32.toNatClampNeg ((x2 + 2) + x7))))] [] (mH h s) Q) (k2 : ¬ ((s.2.2.1 47) (Int32.toNatClampNeg ((x2 + 2) + x7))) ≤ 19 → zz_E zp_P zt_tf zt_fd X d zm_335 312 [(0, .ref 61), (2, .int x2), (3, .int x3), (4, .int x4), (6, .int x6), (7, .int x7), (8, .int ((s.2.2.1 47) (Int32.toNatClampNeg ((x2 + 2) + x7))))] [] (mH h s) Q) : zz_E zp_P zt_tf zt_fd X d zm_335 292 [(0, .ref 61), (2, .int x2), (3, .int x3), (4, .int x4), (5, .int x5), (6, .int x6), (7, .int x7)] [] (mH h s) Q := by
  refine zz_E.n 293 rfl rfl rfl ?_
  refine mE_g hh 296 (v := .ref 89) rfl rfl rfl ?_
  refine zz_E.n 297 rfl rfl rfl ?_
  refine zz_E.c 298 (.int 2) rfl rfl rfl rfl ?_
  refine zz_E.n 299 rfl rfl rfl ?_
  refine zz_E.n 301 rfl rfl rfl ?_
  refine zz_E.n 302 rfl rfl rfl ?_
  refine mE_ia hh 303 28 (f := (s.2.2.1 47)) rfl (by decide) rfl rfl i302 rfl ?_
  refine zz_E.n 305 rfl rfl rfl ?_
  refine zz_E.n 307 rfl rfl rfl ?_
  refine zz_E.c 309 (.int 19) rfl rfl rfl rfl ?_
  refine zz_E.b2 319 312 (A := ((s.2.2.1 47) (Int32.toNatClampNeg ((x2 + 2) + x7))) ≤ 19) rfl rfl (by decide) rfl rfl (fun c => ?_) (fun c => ?_)
  · exact zz_E.weak (k1 c) rfl ⟨rfl, rfl, rfl, rfl, rfl, rfl, rfl, rfl, trivial⟩
  · exact zz_E.weak (k2 c) rfl ⟨rfl, rfl, rfl, rfl, rfl, rfl, rfl, trivial⟩
theorem mb_335_312 {X : Nat → Option zz_C} {h : zz_H} (hh : 111 ≤ h.length) {s : mS} {d : Nat} {Q : Option Value → zz_H → Prop} {x2 : Int32} {x3 : Int32} {x4 : Int32} {x6 : Int32} {x7 : Int32} {x8 : Int32} (k : zz_E zp_P zt_tf zt_fd X d zm_335 335 [(0, .ref 61), (2, .int x2), (3, .int x3), (4, .int x4), (5, .int 21), (6, .int x6), (7, .int x7), (8, .int x8)] [] (mH h s) Q) : zz_E zp_P zt_tf zt_fd X d zm_335 312 [(0, .ref 61), (2, .int x2), (3, .int x3), (4, .int x4), (6, .int x6), (7, .int x7), (8, .int x8)] [] (mH h s) Q := by
  refine zz_E.c 314 (.int 21) rfl rfl rfl rfl ?_
  refine zz_E.n 316 rfl rfl rfl ?_
  refine zz_E.n 335 rfl rfl rfl ?_
  exact zz_E.weak k rfl ⟨rfl, rfl, rfl, rfl, rfl, rfl, rfl, rfl, trivial⟩
theorem mb_335_319 {X : Nat → Option zz_C} {h : zz_H} (hh : 111 ≤ h.length) {s : mS} {d : Nat} {Q : Option Value → zz_H → Prop} {x2 : Int32} {x3 : Int32} {x4 : Int32} {x5 : Int32} {x6 : Int32} {x7 : Int32} {x8 : Int32} (k1 : x8 < 0 → zz_E zp_P zt_tf zt_fd X d zm_335 335 [(0, .ref 61), (2, .int x2), (3, .int x3), (4, .int x4), (5, .int x5), (6, .int x6), (7, .int x7), (8, .int x8)] [] (mH h s) Q) (k2 : ¬ x8 < 0 → zz_E zp_P zt_tf zt_fd X d zm_335 324 [(0, .ref 61), (2, .int x2), (3, .int x3), (4, .int x4), (5, .int x5), (6, .int x6), (7, .int x7), (8, .int x8)] [] (mH h s) Q) : zz_E zp_P zt_tf zt_fd X d zm_335 319 [(0, .ref 61), (2, .int x2), (3, .int x3), (4, .int x4), (5, .int x5), (6, .int x6), (7, .int x7), (8, .int x8)] [] (mH h s) Q := by
  refine zz_E.n 321 rfl rfl rfl ?_
  refine zz_E.b1 335 324 (A := x8 < 0) rfl rfl (by decide) rfl rfl (fun c => ?_) (fun c => ?_)
  · exact zz_E.weak (k1 c) rfl ⟨rfl, rfl, rfl, rfl, rfl, rfl, rfl, rfl, trivial⟩
  · exact zz_E.weak (k2 c) rfl ⟨rfl, rfl, rfl, rfl, rfl, rfl, rfl, rfl, trivial⟩
theorem mb_335_324 {X : Nat → Option zz_C} {h : zz_H} (hh : 111 ≤ h.length) {s : mS} {d : Nat} {Q : Option Value → zz_H → Prop} {x2 : Int32} {x3 : Int32} {x4 : Int32} {x5 : Int32} {x6 : Int32} {x7 : Int32} {x8 : Int32} (k : zz_E zp_P zt_tf zt_fd X d zm_326 0 [(0, .int x5), (1, .int (x8 + 1))] [] (mH h s) (fun v h' => zz_E zp_P zt_tf zt_fd X (d + 1) zm_335 333 [(0, .ref 61), (2, .int x2), (3, .int x3), (4, .int x4), (6, .int x6), (7, .int x7), (8, .int x8)] (v.toList ++ []) h' Q)) : zz_E zp_P zt_tf zt_fd X (d + 1) zm_335 324 [(0, .ref 61), (2, .int x2), (3, .int x3), (4, .int x4), (5, .int x5), (6, .int x6), (7, .int x7), (8, .int x8)] [] (mH h s) Q := by
  refine zz_E.n 326 rfl rfl rfl ?_
  refine zz_E.n 328 rfl rfl rfl ?_
  refine zz_E.c 329 (.int 1) rfl rfl rfl rfl ?_
  refine zz_E.n 330 rfl rfl rfl ?_
  refine zz_E.cl (M' := zm_326) 333 rfl rfl (by decide) rfl rfl ⟨rfl, Nat.le_of_ble_eq_true rfl⟩ rfl ?_
  refine zz_E.mono k ?_
  intro v h' hE
  exact zz_E.weak hE rfl ⟨rfl, rfl, rfl, rfl, rfl, rfl, rfl, trivial⟩
theorem mb_335_333 {X : Nat → Option zz_C} {h : zz_H} (hh : 111 ≤ h.length) {s : mS} {d : Nat} {Q : Option Value → zz_H → Prop} {x2 : Int32} {x3 : Int32} {x4 : Int32} {x6 : Int32} {x7 : Int32} {x8 : Int32} {y0 : Int32} (k : zz_E zp_P zt_tf zt_fd X d zm_335 335 [(0, .ref 61), (2, .int x2), (3, .int x3), (4, .int x4), (5, .int y0), (6, .int x6), (7, .int x7), (8, .int x8)] [] (mH h s) Q) : zz_E zp_P zt_tf zt_fd X d zm_335 333 [(0, .ref 61), (2, .int x2), (3, .int x3), (4, .int x4), (6, .int x6), (7, .int x7), (8, .int x8)] [.int y0] (mH h s) Q := by
  refine zz_E.n 335 rfl rfl rfl ?_
  exact zz_E.weak k rfl ⟨rfl, rfl, rfl, rfl, rfl, rfl, rfl, rfl, trivial⟩
theorem mb_335_335 {X : Nat → Option zz_C} {h : zz_H} (hh : 111 ≤ h.length) {s : mS} {d : Nat} {Q : Option Value → zz_H → Prop} {x2 : Int32} {x3 : Int32} {x4 : Int32} {x5 : Int32} {x6 : Int32} {x7 : Int32} {x8 : Int32} (k1 : x6 ≤ x8 → zz_E zp_P zt_tf zt_fd X d zm_335 347 [(0, .ref 61), (2, .int x2), (3, .int x3), (4, .int x4), (5, .int x5), (6, .int x6), (7, .int x7)] [] (mH h s) Q) (k2 : ¬ x6 ≤ x8 → zz_E zp_P zt_tf zt_fd X d zm_335 342 [(0, .ref 61), (2, .int x2), (3, .int x3), (4, .int x4), (5, .int x5), (7, .int x7), (8, .int x8)] [] (mH h s) Q) : zz_E zp_P zt_tf zt_fd X d zm_335 335 [(0, .ref 61), (2, .int x2), (3, .int x3), (4, .int x4), (5, .int x5), (6, .int x6), (7, .int x7), (8, .int x8)] [] (mH h s) Q := by
  refine zz_E.n 337 rfl rfl rfl ?_
  refine zz_E.n 339 rfl rfl rfl ?_
  refine zz_E.b2 347 342 (A := x6 ≤ x8) rfl rfl (by decide) rfl rfl (fun c => ?_) (fun c => ?_)
  · exact zz_E.weak (k1 c) rfl ⟨rfl, rfl, rfl, rfl, rfl, rfl, rfl, trivial⟩
  · exact zz_E.weak (k2 c) rfl ⟨rfl, rfl, rfl, rfl, rfl, rfl, rfl, trivial⟩
theorem mb_335_342 {X : Nat → Option zz_C} {h : zz_H} (hh : 111 ≤ h.length) {s : mS} {d : Nat} {Q : Option Value → zz_H → Prop} {x2 : Int32} {x3 : Int32} {x4 : Int32} {x5 : Int32} {x7 : Int32} {x8 : Int32} (k : zz_E zp_P zt_tf zt_fd X d zm_335 349 [(0, .ref 61), (2, .int x2), (3, .int x3), (4, .int x4), (5, .int x5), (7, .int x7)] [.int x8] (mH h s) Q) : zz_E zp_P zt_tf zt_fd X d zm_335 342 [(0, .ref 61), (2, .int x2), (3, .int x3), (4, .int x4), (5, .int x5), (7, .int x7), (8, .int x8)] [] (mH h s) Q := by
  refine zz_E.n 344 rfl rfl rfl ?_
  refine zz_E.n 349 rfl rfl rfl ?_
  exact zz_E.weak k rfl ⟨rfl, rfl, rfl, rfl, rfl, rfl, trivial⟩
theorem mb_335_347 {X : Nat → Option zz_C} {h : zz_H} (hh : 111 ≤ h.length) {s : mS} {d : Nat} {Q : Option Value → zz_H → Prop} {x2 : Int32} {x3 : Int32} {x4 : Int32} {x5 : Int32} {x6 : Int32} {x7 : Int32} (k : zz_E zp_P zt_tf zt_fd X d zm_335 349 [(0, .ref 61), (2, .int x2), (3, .int x3), (4, .int x4), (5, .int x5), (7, .int x7)] [.int x6] (mH h s) Q) : zz_E zp_P zt_tf zt_fd X d zm_335 347 [(0, .ref 61), (2, .int x2), (3, .int x3), (4, .int x4), (5, .int x5), (6, .int x6), (7, .int x7)] [] (mH h s) Q := by
  refine zz_E.n 349 rfl rfl rfl ?_
  exact zz_E.weak k rfl ⟨rfl, rfl, rfl, rfl, rfl, rfl, trivial⟩
theorem mb_335_349 {X : Nat → Option zz_C} {h : zz_H} (hh : 111 ≤ h.length) {s : mS} {d : Nat} {Q : Option Value → zz_H → Prop} {x2 : Int32} {x3 : Int32} {x4 : Int32} {x5 : Int32} {x7 : Int32} {y0 : Int32} (k : zz_E zp_P zt_tf zt_fd X d zm_335 282 [(0, .ref 61), (2, .int x2), (3, .int x3), (4, .int x4), (5, .int x5), (6, .int y0), (7, .int (x7 + 1))] [] (mH h s) Q) : zz_E zp_P zt_tf zt_fd X d zm_335 349 [(0, .ref 61), (2, .int x2), (3, .int x3), (4, .int x4), (5, .int x5), (7, .int x7)] [.int y0] (mH h s) Q := by
  refine zz_E.n 351 rfl rfl rfl ?_
  refine zz_E.n 354 rfl rfl rfl ?_
  refine zz_E.n 282 rfl rfl rfl ?_
  exact zz_E.weak k rfl ⟨rfl, rfl, rfl, rfl, rfl, rfl, rfl, trivial⟩
theorem mb_335_357 {X : Nat → Option zz_C} {h : zz_H} (hh : 111 ≤ h.length) {s : mS} {d : Nat} {Q : Option Value → zz_H → Prop} {x2 : Int32} {x3 : Int32} {x4 : Int32} {x5 : Int32} {x6 : Int32} (k1 : 20 < x5 → zz_E zp_P zt_tf zt_fd X d zm_335 369 [(0, .ref 61), (5, .int x5)] [] (mH h s) Q) (k2 : ¬ 20 < x5 → zz_E zp_P zt_tf zt_fd X d zm_335 364 [(0, .ref 61), (2, .int x2), (3, .int x3), (4, .int x4), (5, .int x5), (6, .int x6)] [] (mH h s) Q) : zz_E zp_P zt_tf zt_fd X d zm_335 357 [(0, .ref 61), (2, .int x2), (3, .int x3), (4, .int x4), (5, .int x5), (6, .int x6)] [] (mH h s) Q := by
  refine zz_E.n 359 rfl rfl rfl ?_
  refine zz_E.c 361 (.int 20) rfl rfl rfl rfl ?_
  refine zz_E.b2 369 364 (A := 20 < x5) rfl rfl (by decide) rfl rfl (fun c => ?_) (fun c => ?_)
  · exact zz_E.weak (k1 c) rfl ⟨rfl, rfl, trivial⟩
  · exact zz_E.weak (k2 c) rfl ⟨rfl, rfl, rfl, rfl, rfl, rfl, trivial⟩
theorem mb_335_364 {X : Nat → Option zz_C} {h : zz_H} (hh : 111 ≤ h.length) {s : mS} {d : Nat} {Q : Option Value → zz_H → Prop} {x2 : Int32} {x3 : Int32} {x4 : Int32} {x5 : Int32} {x6 : Int32} (k1 : 0 ≤ x6 → zz_E zp_P zt_tf zt_fd X d zm_335 390 [(0, .ref 61), (2, .int x2), (3, .int x3), (4, .int x4), (5, .int x5)] [] (mH h s) Q) (k2 : ¬ 0 ≤ x6 → zz_E zp_P zt_tf zt_fd X d zm_335 369 [(0, .ref 61), (5, .int x5)] [] (mH h s) Q) : zz_E zp_P zt_tf zt_fd X d zm_335 364 [(0, .ref 61), (2, .int x2), (3, .int x3), (4, .int x4), (5, .int x5), (6, .int x6)] [] (mH h s) Q := by
  refine zz_E.n 366 rfl rfl rfl ?_
  refine zz_E.b1 390 369 (A := 0 ≤ x6) rfl rfl (by decide) rfl rfl (fun c => ?_) (fun c => ?_)
  · exact zz_E.weak (k1 c) rfl ⟨rfl, rfl, rfl, rfl, rfl, trivial⟩
  · exact zz_E.weak (k2 c) rfl ⟨rfl, rfl, trivial⟩
theorem mb_335_369 {X : Nat → Option zz_C} {h : zz_H} (hh : 111 ≤ h.length) {s : mS} {d : Nat} {Q : Option Value → zz_H → Prop} {x5 : Int32} (k1 : x5 ≤ 20 → zz_E zp_P zt_tf zt_fd X d zm_335 381 [(0, .ref 61)] [.ref 61] (mH h s) Q) (k2 : ¬ x5 ≤ 20 → zz_E zp_P zt_tf zt_fd X d zm_335 377 [(0, .ref 61)] [.ref 61] (mH h s) Q) : zz_E zp_P zt_tf zt_fd X d zm_335 369 [(0, .ref 61), (5, .int x5)] [] (mH h s) Q := by
  refine zz_E.n 370 rfl rfl rfl ?_
  refine zz_E.n 372 rfl rfl rfl ?_
  refine zz_E.c 374 (.int 20) rfl rfl rfl rfl ?_
  refine zz_E.b2 381 377 (A := x5 ≤ 20) rfl rfl (by decide) rfl rfl (fun c => ?_) (fun c => ?_)
  · exact zz_E.weak (k1 c) rfl ⟨rfl, trivial⟩
  · exact zz_E.weak (k2 c) rfl ⟨rfl, trivial⟩
theorem mb_335_377 {X : Nat → Option zz_C} {h : zz_H} (hh : 111 ≤ h.length) {s : mS} {d : Nat} {Q : Option Value → zz_H → Prop}  (k : zz_E zp_P zt_tf zt_fd X d zm_335 382 [(0, .ref 61)] [.int 2, .ref 61] (mH h s) Q) : zz_E zp_P zt_tf zt_fd X d zm_335 377 [(0, .ref 61)] [.ref 61] (mH h s) Q := by
  refine zz_E.c 378 (.int 2) rfl rfl rfl rfl ?_
  refine zz_E.n 382 rfl rfl rfl ?_
  exact zz_E.weak k rfl ⟨rfl, trivial⟩
theorem mb_335_381 {X : Nat → Option zz_C} {h : zz_H} (hh : 111 ≤ h.length) {s : mS} {d : Nat} {Q : Option Value → zz_H → Prop}  (k : zz_E zp_P zt_tf zt_fd X d zm_335 382 [(0, .ref 61)] [.int 1, .ref 61] (mH h s) Q) : zz_E zp_P zt_tf zt_fd X d zm_335 381 [(0, .ref 61)] [.ref 61] (mH h s) Q := by
  refine zz_E.c 382 (.int 1) rfl rfl rfl rfl ?_
  exact zz_E.weak k rfl ⟨rfl, trivial⟩
theorem mb_335_382 {X : Nat → Option zz_C} {h : zz_H} (hh : 111 ≤ h.length) {s : mS} {d : Nat} {Q : Option Value → zz_H → Prop} {y1 : Int32} (k : zz_E zp_P zt_tf zt_fd X d zm_301 0 [(0, .ref 61), (1, .int y1), (2, .int (s.1 70))] [] (mH h s) (fun v h' => zz_E zp_P zt_tf zt_fd X (d + 1) zm_335 389 [] (v.toList ++ []) h' Q)) : zz_E zp_P zt_tf zt_fd X (d + 1) zm_335 382 [(0, .ref 61)] [.int y1, .ref 61] (mH h s) Q := by
  refine zz_E.n 383 rfl rfl rfl ?_
  refine mE_g hh 386 (v := .int (s.1 70)) rfl rfl rfl ?_
  refine mE_cv hh 389 (as := []) rfl rfl (Nat.le_of_ble_eq_true rfl) (Nat.le_of_ble_eq_true rfl) rfl (Nat.le_of_ble_eq_true rfl) rfl ?_
  refine zz_E.mono k ?_
  intro v h' hE
  exact zz_E.weak hE rfl trivial
theorem mb_335_389 {X : Nat → Option zz_C} {h : zz_H} (hh : 111 ≤ h.length) {s : mS} {d : Nat} {Q : Option Value → zz_H → Prop}  (k : Q none (mH h s)) : zz_E zp_P zt_tf zt_fd X d zm_335 389 [] [] (mH h s) Q := by
  refine zz_E.ret rfl rfl rfl ?_
  exact k
theorem mb_335_390 {X : Nat → Option zz_C} {h : zz_H} (hh : 111 ≤ h.length) {s : mS} {d : Nat} {Q : Option Value → zz_H → Prop} {x2 : Int32} {x3 : Int32} {x4 : Int32} {x5 : Int32} (k : zz_E zp_P zt_tf zt_fd X d zm_335 393 [(0, .ref 61), (2, .int x2), (3, .int x3), (4, .int x4), (5, .int x5), (7, .int 0)] [] (mH h s) Q) : zz_E zp_P zt_tf zt_fd X d zm_335 390 [(0, .ref 61), (2, .int x2), (3, .int x3), (4, .int x4), (5, .int x5)] [] (mH h s) Q := by
  refine zz_E.c 391 (.int 0) rfl rfl rfl rfl ?_
  refine zz_E.n 393 rfl rfl rfl ?_
  exact zz_E.weak k rfl ⟨rfl, rfl, rfl, rfl, rfl, rfl, trivial⟩
theorem mb_335_393 {X : Nat → Option zz_C} {h : zz_H} (hh : 111 ≤ h.length) {s : mS} {d : Nat} {Q : Option Value → zz_H → Prop} {x2 : Int32} {x3 : Int32} {x4 : Int32} {x5 : Int32} {x7 : Int32} (k1 : x5 ≤ x7 → zz_E zp_P zt_tf zt_fd X d zm_335 501 [(0, .ref 61), (3, .int x3)] [] (mH h s) Q) (k2 : ¬ x5 ≤ x7 → zz_E zp_P zt_tf zt_fd X d zm_335 400 [(0, .ref 61), (2, .int x2), (3, .int x3), (4, .int x4), (5, .int x5), (7, .int x7)] [] (mH h s) Q) : zz_E zp_P zt_tf zt_fd X d zm_335 393 [(0, .ref 61), (2, .int x2), (3, .int x3), (4, .int x4), (5, .int x5), (7, .int x7)] [] (mH h s) Q := by
  refine zz_E.n 395 rfl rfl rfl ?_
  refine zz_E.n 397 rfl rfl rfl ?_
  refine zz_E.b2 501 400 (A := x5 ≤ x7) rfl rfl (by decide) rfl rfl (fun c => ?_) (fun c => ?_)
  · exact zz_E.weak (k1 c) rfl ⟨rfl, rfl, trivial⟩
  · exact zz_E.weak (k2 c) rfl ⟨rfl, rfl, rfl, rfl, rfl, rfl, trivial⟩
theorem mb_335_400 {X : Nat → Option zz_C} {h : zz_H} (hh : 111 ≤ h.length) {s : mS} {d : Nat} {Q : Option Value → zz_H → Prop} {x2 : Int32} {x3 : Int32} {x4 : Int32} {x5 : Int32} {x7 : Int32} (k : zz_E zp_P zt_tf zt_fd X d zm_335 409 [(0, .ref 61), (2, .int x2), (3, .int x3), (4, .int x4), (5, .int x5), (7, .int x7), (8, .int (s.1 51)), (9, .int 0)] [] (mH h s) Q) : zz_E zp_P zt_tf zt_fd X d zm_335 400 [(0, .ref 61), (2, .int x2), (3, .int x3), (4, .int x4), (5, .int x5), (7, .int x7)] [] (mH h s) Q := by
  refine zz_E.n 401 rfl rfl rfl ?_
  refine mE_g hh 404 (v := .int (s.1 51)) rfl rfl rfl ?_
  refine zz_E.n 406 rfl rfl rfl ?_
  refine zz_E.c 407 (.int 0) rfl rfl rfl rfl ?_
  refine zz_E.n 409 rfl rfl rfl ?_
  exact zz_E.weak k rfl ⟨rfl, rfl, rfl, rfl, rfl, rfl, rfl, rfl, trivial⟩
theorem mb_335_409 {X : Nat → Option zz_C} {h : zz_H} (hh : 111 ≤ h.length) {s : mS} {d : Nat} {Q : Option Value → zz_H → Prop} {x2 : Int32} {x3 : Int32} {x4 : Int32} {x5 : Int32} {x7 : Int32} {x8 : Int32} {x9 : Int32} (k : zz_E zp_P zt_tf zt_fd X d zm_77 0 [(0, .ref 61), (1, .int x2)] [] (mH h s) (fun v h' => zz_E zp_P zt_tf zt_fd X (d + 1) zm_335 416 [(0, .ref 61), (2, .int x2), (3, .int x3), (4, .int x4), (5, .int x5), (7, .int x7), (8, .int x8), (9, .int x9)] (v.toList ++ [.int x9]) h' Q)) : zz_E zp_P zt_tf zt_fd X (d + 1) zm_335 409 [(0, .ref 61), (2, .int x2), (3, .int x3), (4, .int x4), (5, .int x5), (7, .int x7), (8, .int x8), (9, .int x9)] [] (mH h s) Q := by
  refine zz_E.n 411 rfl rfl rfl ?_
  refine zz_E.n 412 rfl rfl rfl ?_
  refine zz_E.n 413 rfl rfl rfl ?_
  refine mE_cv hh 416 (as := [.int x9]) rfl rfl (Nat.le_of_ble_eq_true rfl) (Nat.le_of_ble_eq_true rfl) rfl (Nat.le_of_ble_eq_true rfl) rfl ?_
  refine zz_E.mono k ?_
  intro v h' hE
  exact zz_E.weak hE rfl ⟨rfl, rfl, rfl, rfl, rfl, rfl, rfl, rfl, trivial⟩
theorem mb_335_416 {X : Nat → Option zz_C} {h : zz_H} (hh : 111 ≤ h.length) {s : mS} {d : Nat} {Q : Option Value → zz_H → Prop} {x2 : Int32} {x3 : Int32} {x4 : Int32} {x5 : Int32} {x7 : Int32} {x8 : Int32} {x9 : Int32} {y0 : Int32} {y1 : Int32} (k1 : y1 ≤ y0 → zz_E zp_P zt_tf zt_fd X d zm_335 489 [(0, .ref 61), (2, .int x2), (3, .int x3), (4, .int x4), (5, .int x5), (7, .int x7), (8, .int x8)] [] (mH h s) Q) (k2 : ¬ y1 ≤ y0 → zz_E zp_P zt_tf zt_fd X d zm_335 419 [(0, .ref 61), (2, .int x2), (3, .int x3), (4, .int x4), (5, .int x5), (7, .int x7), (8, .int x8), (9, .int x9)] [] (mH h s) Q) : zz_E zp_P zt_tf zt_fd X d zm_335 416 [(0, .ref 61), (2, .int x2), (3, .int x3), (4, .int x4), (5, .int x5), (7, .int x7), (8, .int x8), (9, .int x9)] [.int y1, .int y0] (mH h s) Q := by
  refine zz_E.b2 489 419 (A := y1 ≤ y0) rfl rfl (by decide) rfl rfl (fun c => ?_) (fun c => ?_)
  · exact zz_E.weak (k1 c) rfl ⟨rfl, rfl, rfl, rfl, rfl, rfl, rfl, trivial⟩
  · exact zz_E.weak (k2 c) rfl ⟨rfl, rfl, rfl, rfl, rfl, rfl, rfl, rfl, trivial⟩
theorem mb_335_419 {X : Nat → Option zz_C} {h : zz_H} (hh : 111 ≤ h.length) {s : mS} {d : Nat} {Q : Option Value → zz_H → Prop} {x2 : Int32} {x3 : Int32} {x4 : Int32} {x5 : Int32} {x7 : Int32} {x8 : Int32} {x9 : Int32} (k1 : ¬ x4 = 1 → zz_E zp_P zt_tf zt_fd X d zm_335 448 [(0, .ref 61), (2, .int x2), (3, .int x3), (4, .int x4), (5, .int x5), (7, .int x7), (8, .int x8), (9, .int x9)] [] (mH h s) Q) (k2 : ¬ ¬ x4 = 1 → zz_E zp_P zt_tf zt_fd X d zm_335 425 [(0, .ref 61), (2, .int x2), (3, .int x3), (4, .int x4), (5, .int x5), (7, .int x7), (8, .int x8), (9, .int x9)] [] (mH h s) Q) : zz_E zp_P zt_tf zt_fd X d zm_335 419 [(0, .ref 61), (2, .int x2), (3, .int x3), (4, .int x4), (5, .int x5), (7, .int x7), (8, .int x8), (9, .int x9)] [] (mH h s) Q := by
  refine zz_E.n 421 rfl rfl rfl ?_
  refine zz_E.c 422 (.int 1) rfl rfl rfl rfl ?_
  refine zz_E.b2 448 425 (A := ¬ x4 = 1) rfl (zz_cond_ne _ _) (by decide) rfl rfl (fun c => ?_) (fun c => ?_)
  · exact zz_E.weak (k1 c) rfl ⟨rfl, rfl, rfl, rfl, rfl, rfl, rfl, rfl, trivial⟩
  · exact zz_E.weak (k2 c) rfl ⟨rfl, rfl, rfl, rfl, rfl, rfl, rfl, rfl, trivial⟩
theorem mb_335_425 {X : Nat → Option zz_C} {h : zz_H} (hh : 111 ≤ h.length) {s : mS} {d : Nat} {Q : Option Value → zz_H → Prop} {x2 : Int32} {x3 : Int32} {x4 : Int32} {x5 : Int32} {x7 : Int32} {x8 : Int32} {x9 : Int32} (i435 : ¬ (((x2 + 2) + x9) < 0 ∨ 166300 ≤ Int32.toNatClampNeg ((x2 + 2) + x9))) (k1 : ¬ ((s.2.2.1 47) (Int32.toNatClampNeg ((x2 + 2) + x9))) = x7 → zz_E zp_P zt_tf zt_fd X d zm_335 448 [(0, .ref 61), (2, .int x2), (3, .int x3), (4, .int x4), (5, .int x5), (7, .int x7), (8, .int x8), (9, .int x9)] [] (mH h s) Q) (k2 : ¬ ¬ ((s.2.2.1 47) (Int32.toNatClampNeg ((x2 + 2) + x9))) = x7 → zz_E zp_P zt_tf zt_fd X d zm_335 441 [(0, .ref 61), (2, .int x2), (3, .int x3), (4, .int x4), (5, .int x5), (7, .int x7), (8, .int x8), (9, .int x9)] [] (mH h s) Q) : zz_E zp_P zt_tf zt_fd X d zm_335 425 [(0, .ref 61), (2, .int x2), (3, .int x3), (4, .int x4), (5, .int x5), (7, .int x7), (8, .int x8), (9, .int x9)] [] (mH h s) Q := by
  refine zz_E.n 426 rfl rfl rfl ?_
  refine mE_g hh 429 (v := .ref 89) rfl rfl rfl ?_
  refine zz_E.n 430 rfl rfl rfl ?_
  refine zz_E.c 431 (.int 2) rfl rfl rfl rfl ?_
  refine zz_E.n 432 rfl rfl rfl ?_
  refine zz_E.n 434 rfl rfl rfl ?_
  refine zz_E.n 435 rfl rfl rfl ?_
  refine mE_ia hh 436 28 (f := (s.2.2.1 47)) rfl (by decide) rfl rfl i435 rfl ?_
  refine zz_E.n 438 rfl rfl rfl ?_
  refine zz_E.b2 448 441 (A := ¬ ((s.2.2.1 47) (Int32.toNatClampNeg ((x2 + 2) + x9))) = x7) rfl (zz_cond_ne _ _) (by decide) rfl rfl (fun c => ?_) (fun c => ?_)
  · exact zz_E.weak (k1 c) rfl ⟨rfl, rfl, rfl, rfl, rfl, rfl, rfl, rfl, trivial⟩
  · exact zz_E.weak (k2 c) rfl ⟨rfl, rfl, rfl, rfl, rfl, rfl, rfl, rfl, trivial⟩
theorem mb_335_441 {X : Nat → Option zz_C} {h : zz_H} (hh : 111 ≤ h.length) {s : mS} {d : Nat} {Q : Option Value → zz_H → Prop} {x2 : Int32} {x3 : Int32} {x4 : Int32} {x5 : Int32} {x7 : Int32} {x8 : Int32} {x9 : Int32} (k : zz_E zp_P zt_tf zt_fd X d zm_291 0 [(0, .ref 61), (1, .int 0), (2, .int x9)] [] (mH h s) (fun v h' => zz_E zp_P zt_tf zt_fd X (d + 1) zm_335 448 [(0, .ref 61), (2, .int x2), (3, .int x3), (4, .int x4), (5, .int x5), (7, .int x7), (8, .int x8), (9, .int x9)] (v.toList ++ []) h' Q)) : zz_E zp_P zt_tf zt_fd X (d + 1) zm_335 441 [(0, .ref 61), (2, .int x2), (3, .int x3), (4, .int x4), (5, .int x5), (7, .int x7), (8, .int x8), (9, .int x9)] [] (mH h s) Q := by
  refine zz_E.n 442 rfl rfl rfl ?_
  refine zz_E.c 443 (.int 0) rfl rfl rfl rfl ?_
  refine zz_E.n 445 rfl rfl rfl ?_
  refine mE_cv hh 448 (as := []) rfl rfl (Nat.le_of_ble_eq_true rfl) (Nat.le_of_ble_eq_true rfl) rfl (Nat.le_of_ble_eq_true rfl) rfl ?_
  refine zz_E.mono k ?_
  intro v h' hE
  exact zz_E.weak hE rfl ⟨rfl, rfl, rfl, rfl, rfl, rfl, rfl, rfl, trivial⟩
theorem mb_335_448 {X : Nat → Option zz_C} {h : zz_H} (hh : 111 ≤ h.length) {s : mS} {d : Nat} {Q : Option Value → zz_H → Prop} {x2 : Int32} {x3 : Int32} {x4 : Int32} {x5 : Int32} {x7 : Int32} {x8 : Int32} {x9 : Int32} (k1 : ¬ x4 = 2 → zz_E zp_P zt_tf zt_fd X d zm_335 483 [(0, .ref 61), (2, .int x2), (3, .int x3), (4, .int x4), (5, .int x5), (7, .int x7), (8, .int x8), (9, .int x9)] [] (mH h s) Q) (k2 : ¬ ¬ x4 = 2 → zz_E zp_P zt_tf zt_fd X d zm_335 454 [(0, .ref 61), (2, .int x2), (3, .int x3), (4, .int x4), (5, .int x5), (7, .int x7), (8, .int x8), (9, .int x9)] [] (mH h s) Q) : zz_E zp_P zt_tf zt_fd X d zm_335 448 [(0, .ref 61), (2, .int x2), (3, .int x3), (4, .int x4), (5, .int x5), (7, .int x7), (8, .int x8), (9, .int x9)] [] (mH h s) Q := by
  refine zz_E.n 450 rfl rfl rfl ?_
  refine zz_E.c 451 (.int 2) rfl rfl rfl rfl ?_
  refine zz_E.b2 483 454 (A := ¬ x4 = 2) rfl (zz_cond_ne _ _) (by decide) rfl rfl (fun c => ?_) (fun c => ?_)
  · exact zz_E.weak (k1 c) rfl ⟨rfl, rfl, rfl, rfl, rfl, rfl, rfl, rfl, trivial⟩
  · exact zz_E.weak (k2 c) rfl ⟨rfl, rfl, rfl, rfl, rfl, rfl, rfl, rfl, trivial⟩
theorem mb_335_454 {X : Nat → Option zz_C} {h : zz_H} (hh : 111 ≤ h.length) {s : mS} {d : Nat} {Q : Option Value → zz_H → Prop} {x2 : Int32} {x3 : Int32} {x4 : Int32} {x5 : Int32} {x7 : Int32} {x8 : Int32} {x9 : Int32} (k : zz_E zp_P zt_tf zt_fd X d zm_294 0 [(0, .ref 61), (1, .int x2), (2, .int x9)] [] (mH h s) (fun v h' => zz_E zp_P zt_tf zt_fd X (d + 1) zm_335 462 [(0, .ref 61), (2, .int x2), (3, .int x3), (4, .int x4), (5, .int x5), (7, .int x7), (8, .int x8), (9, .int x9)] (v.toList ++ [.ref 61]) h' Q)) : zz_E zp_P zt_tf zt_fd X (d + 1) zm_335 454 [(0, .ref 61), (2, .int x2), (3, .int x3), (4, .int x4), (5, .int x5), (7, .int x7), (8, .int x8), (9, .int x9)] [] (mH h s) Q := by
  refine zz_E.n 455 rfl rfl rfl ?_
  refine zz_E.n 456 rfl rfl rfl ?_
  refine zz_E.n 457 rfl rfl rfl ?_
  refine zz_E.n 459 rfl rfl rfl ?_
  refine mE_cv hh 462 (as := [.ref 61]) rfl rfl (Nat.le_of_ble_eq_true rfl) (Nat.le_of_ble_eq_true rfl) rfl (Nat.le_of_ble_eq_true rfl) rfl ?_
  refine zz_E.mono k ?_
  intro v h' hE
  exact zz_E.weak hE rfl ⟨rfl, rfl, rfl, rfl, rfl, rfl, rfl, rfl, trivial⟩
theorem mb_335_462 {X : Nat → Option zz_C} {h : zz_H} (hh : 111 ≤ h.length) {s : mS} {d : Nat} {Q : Option Value → zz_H → Prop} {x2 : Int32} {x3 : Int32} {x4 : Int32} {x5 : Int32} {x7 : Int32} {x8 : Int32} {x9 : Int32} {y1 : Int32} (k : zz_E zp_P zt_tf zt_fd X d zm_77 0 [(0, .ref 61), (1, .int y1)] [] (mH h s) (fun v h' => zz_E zp_P zt_tf zt_fd X (d + 1) zm_335 465 [(0, .ref 61), (2, .int x2), (3, .int x3), (4, .int x4), (5, .int x5), (7, .int x7), (8, .int x8), (9, .int x9)] (v.toList ++ []) h' Q)) : zz_E zp_P zt_tf zt_fd X (d + 1) zm_335 462 [(0, .ref 61), (2, .int x2), (3, .int x3), (4, .int x4), (5, .int x5), (7, .int x7), (8, .int x8), (9, .int x9)] [.int y1, .ref 61] (mH h s) Q := by
  refine mE_cv hh 465 (as := []) rfl rfl (Nat.le_of_ble_eq_true rfl) (Nat.le_of_ble_eq_true rfl) rfl (Nat.le_of_ble_eq_true rfl) rfl ?_
  refine zz_E.mono k ?_
  intro v h' hE
  exact zz_E.weak hE rfl ⟨rfl, rfl, rfl, rfl, rfl, rfl, rfl, rfl, trivial⟩
theorem mb_335_465 {X : Nat → Option zz_C} {h : zz_H} (hh : 111 ≤ h.length) {s : mS} {d : Nat} {Q : Option Value → zz_H → Prop} {x2 : Int32} {x3 : Int32} {x4 : Int32} {x5 : Int32} {x7 : Int32} {x8 : Int32} {x9 : Int32} {y0 : Int32} (k1 : y0 ≤ x7 → zz_E zp_P zt_tf zt_fd X d zm_335 483 [(0, .ref 61), (2, .int x2), (3, .int x3), (4, .int x4), (5, .int x5), (7, .int x7), (8, .int x8), (9, .int x9)] [] (mH h s) Q) (k2 : ¬ y0 ≤ x7 → zz_E zp_P zt_tf zt_fd X d zm_335 470 [(0, .ref 61), (2, .int x2), (3, .int x3), (4, .int x4), (5, .int x5), (7, .int x7), (8, .int x8), (9, .int x9)] [] (mH h s) Q) : zz_E zp_P zt_tf zt_fd X d zm_335 465 [(0, .ref 61), (2, .int x2), (3, .int x3), (4, .int x4), (5, .int x5), (7, .int x7), (8, .int x8), (9, .int x9)] [.int y0] (mH h s) Q := by
  refine zz_E.n 467 rfl rfl rfl ?_
  refine zz_E.b2 483 470 (A := y0 ≤ x7) rfl rfl (by decide) rfl rfl (fun c => ?_) (fun c => ?_)
  · exact zz_E.weak (k1 c) rfl ⟨rfl, rfl, rfl, rfl, rfl, rfl, rfl, rfl, trivial⟩
  · exact zz_E.weak (k2 c) rfl ⟨rfl, rfl, rfl, rfl, rfl, rfl, rfl, rfl, trivial⟩
theorem mb_335_470 {X : Nat → Option zz_C} {h : zz_H} (hh : 111 ≤ h.length) {s : mS} {d : Nat} {Q : Option Value → zz_H → Prop} {x2 : Int32} {x3 : Int32} {x4 : Int32} {x5 : Int32} {x7 : Int32} {x8 : Int32} {x9 : Int32} (k : zz_E zp_P zt_tf zt_fd X d zm_294 0 [(0, .ref 61), (1, .int x2), (2, .int x9)] [] (mH h s) (fun v h' => zz_E zp_P zt_tf zt_fd X (d + 1) zm_335 478 [(0, .ref 61), (2, .int x2), (3, .int x3), (4, .int x4), (5, .int x5), (7, .int x7), (8, .int x8), (9, .int x9)] (v.toList ++ [.ref 61]) h' Q)) : zz_E zp_P zt_tf zt_fd X (d + 1) zm_335 470 [(0, .ref 61), (2, .int x2), (3, .int x3), (4, .int x4), (5, .int x5), (7, .int x7), (8, .int x8), (9, .int x9)] [] (mH h s) Q := by
  refine zz_E.n 471 rfl rfl rfl ?_
  refine zz_E.n 472 rfl rfl rfl ?_
  refine zz_E.n 473 rfl rfl rfl ?_
  refine zz_E.n 475 rfl rfl rfl ?_
  refine mE_cv hh 478 (as := [.ref 61]) rfl rfl (Nat.le_of_ble_eq_true rfl) (Nat.le_of_ble_eq_true rfl) rfl (Nat.le_of_ble_eq_true rfl) rfl ?_
  refine zz_E.mono k ?_
  intro v h' hE
  exact zz_E.weak hE rfl ⟨rfl, rfl, rfl, rfl, rfl, rfl, rfl, rfl, trivial⟩
theorem mb_335_478 {X : Nat → Option zz_C} {h : zz_H} (hh : 111 ≤ h.length) {s : mS} {d : Nat} {Q : Option Value → zz_H → Prop} {x2 : Int32} {x3 : Int32} {x4 : Int32} {x5 : Int32} {x7 : Int32} {x8 : Int32} {x9 : Int32} {y1 : Int32} (k : zz_E zp_P zt_tf zt_fd X d zm_295 0 [(0, .ref 61), (1, .int y1), (2, .int x7)] [] (mH h s) (fun v h' => zz_E zp_P zt_tf zt_fd X (d + 1) zm_335 483 [(0, .ref 61), (2, .int x2), (3, .int x3), (4, .int x4), (5, .int x5), (7, .int x7), (8, .int x8), (9, .int x9)] (v.toList ++ []) h' Q)) : zz_E zp_P zt_tf zt_fd X (d + 1) zm_335 478 [(0, .ref 61), (2, .int x2), (3, .int x3), (4, .int x4), (5, .int x5), (7, .int x7), (8, .int x8), (9, .int x9)] [.int y1, .ref 61] (mH h s) Q := by
  refine zz_E.n 480 rfl rfl rfl ?_
  refine mE_cv hh 483 (as := []) rfl rfl (Nat.le_of_ble_eq_true rfl) (Nat.le_of_ble_eq_true rfl) rfl (Nat.le_of_ble_eq_true rfl) rfl ?_
  refine zz_E.mono k ?_
  intro v h' hE
  exact zz_E.weak hE rfl ⟨rfl, rfl, rfl, rfl, rfl, rfl, rfl, rfl, trivial⟩
theorem mb_335_483 {X : Nat → Option zz_C} {h : zz_H} (hh : 111 ≤ h.length) {s : mS} {d : Nat} {Q : Option Value → zz_H → Prop} {x2 : Int32} {x3 : Int32} {x4 : Int32} {x5 : Int32} {x7 : Int32} {x8 : Int32} {x9 : Int32} (k : zz_E zp_P zt_tf zt_fd X d zm_335 409 [(0, .ref 61), (2, .int x2), (3, .int x3), (4, .int x4), (5, .int x5), (7, .int x7), (8, .int x8), (9, .int (x9 + 1))] [] (mH h s) Q) : zz_E zp_P zt_tf zt_fd X d zm_335 483 [(0, .ref 61), (2, .int x2), (3, .int x3), (4, .int x4), (5, .int x5), (7, .int x7), (8, .int x8), (9, .int x9)] [] (mH h s) Q := by
  refine zz_E.n 486 rfl rfl rfl ?_
  refine zz_E.n 409 rfl rfl rfl ?_
  exact zz_E.weak k rfl ⟨rfl, rfl, rfl, rfl, rfl, rfl, rfl, rfl, trivial⟩
theorem mb_335_489 {X : Nat → Option zz_C} {h : zz_H} (hh : 111 ≤ h.length) {s : mS} {d : Nat} {Q : Option Value → zz_H → Prop} {x2 : Int32} {x3 : Int32} {x4 : Int32} {x5 : Int32} {x7 : Int32} {x8 : Int32} (k : zz_E zp_P zt_tf zt_fd X d zm_306 0 [(0, .ref 61), (1, .int x8)] [] (mH h s) (fun v h' => zz_E zp_P zt_tf zt_fd X (d + 1) zm_335 495 [(0, .ref 61), (2, .int x2), (3, .int x3), (4, .int x4), (5, .int x5), (7, .int x7)] (v.toList ++ []) h' Q)) : zz_E zp_P zt_tf zt_fd X (d + 1) zm_335 489 [(0, .ref 61), (2, .int x2), (3, .int x3), (4, .int x4), (5, .int x5), (7, .int x7), (8, .int x8)] [] (mH h s) Q := by
  refine zz_E.n 490 rfl rfl rfl ?_
  refine zz_E.n 492 rfl rfl rfl ?_
  refine mE_cv hh 495 (as := []) rfl rfl (Nat.le_of_ble_eq_true rfl) (Nat.le_of_ble_eq_true rfl) rfl (Nat.le_of_ble_eq_true rfl) rfl ?_
  refine zz_E.mono k ?_
  intro v h' hE
  exact zz_E.weak hE rfl ⟨rfl, rfl, rfl, rfl, rfl, rfl, trivial⟩
theorem mb_335_495 {X : Nat → Option zz_C} {h : zz_H} (hh : 111 ≤ h.length) {s : mS} {d : Nat} {Q : Option Value → zz_H → Prop} {x2 : Int32} {x3 : Int32} {x4 : Int32} {x5 : Int32} {x7 : Int32} (k : zz_E zp_P zt_tf zt_fd X d zm_335 393 [(0, .ref 61), (2, .int x2), (3, .int x3), (4, .int x4), (5, .int x5), (7, .int (x7 + 1))] [] (mH h s) Q) : zz_E zp_P zt_tf zt_fd X d zm_335 495 [(0, .ref 61), (2, .int x2), (3, .int x3), (4, .int x4), (5, .int x5), (7, .int x7)] [] (mH h s) Q := by
  refine zz_E.n 498 rfl rfl rfl ?_
  refine zz_E.n 393 rfl rfl rfl ?_
  exact zz_E.weak k rfl ⟨rfl, rfl, rfl, rfl, rfl, rfl, trivial⟩
theorem mb_335_501 {X : Nat → Option zz_C} {h : zz_H} (hh : 111 ≤ h.length) {s : mS} {d : Nat} {Q : Option Value → zz_H → Prop} {x3 : Int32} (k : zz_E zp_P zt_tf zt_fd X d zm_305 0 [(0, .ref 61), (1, .int 2), (2, .int x3)] [] (mH h s) (fun v h' => zz_E zp_P zt_tf zt_fd X (d + 1) zm_335 507 [] (v.toList ++ []) h' Q)) : zz_E zp_P zt_tf zt_fd X (d + 1) zm_335 501 [(0, .ref 61), (3, .int x3)] [] (mH h s) Q := by
  refine zz_E.n 502 rfl rfl rfl ?_
  refine zz_E.c 503 (.int 2) rfl rfl rfl rfl ?_
  refine zz_E.n 504 rfl rfl rfl ?_
  refine mE_cv hh 507 (as := []) rfl rfl (Nat.le_of_ble_eq_true rfl) (Nat.le_of_ble_eq_true rfl) rfl (Nat.le_of_ble_eq_true rfl) rfl ?_
  refine zz_E.mono k ?_
  intro v h' hE
  exact zz_E.weak hE rfl trivial
theorem mb_335_507 {X : Nat → Option zz_C} {h : zz_H} (hh : 111 ≤ h.length) {s : mS} {d : Nat} {Q : Option Value → zz_H → Prop}  (k : Q none (mH h s)) : zz_E zp_P zt_tf zt_fd X d zm_335 507 [] [] (mH h s) Q := by
  refine zz_E.ret rfl rfl rfl ?_
  exact k
def mf_335_389 (N : Nat)  (s : mS) : mO := some (s, none)
theorem mr_335_389 {X : Nat → Option zz_C} {h : zz_H} (hh : 111 ≤ h.length) {d : Nat} {N : Nat} {Q : Option Value → zz_H → Prop}  {s s' : mS} {v : Option Value} (hf : mf_335_389 N  s = some (s', v)) (k : Q v (mH h s')) : zz_E zp_P zt_tf zt_fd X (d + 4) zm_335 389 [] [] (mH h s) Q := by
  unfold mf_335_389 at hf
  cases hf
  exact mb_335_389 hh  k
def mf_335_382 (N : Nat) (y1 : Int32) (s : mS) : mO := mo_bv (mf_301 N y1 (s.1 70) s) (fun s1 => mf_335_389 N  s1)
theorem mr_335_382 {X : Nat → Option zz_C} {h : zz_H} (hh : 111 ≤ h.length) {d : Nat} {N : Nat} {Q : Option Value → zz_H → Prop} {y1 : Int32} {s s' : mS} {v : Option Value} (hf : mf_335_382 N y1 s = some (s', v)) (k : Q v (mH h s')) : zz_E zp_P zt_tf zt_fd X (d + 4) zm_335 382 [(0, .ref 61)] [.int y1, .ref 61] (mH h s) Q := by
  unfold mf_335_382 at hf
  obtain ⟨s1, e, hf⟩ := mo_bv_ok hf
  exact mb_335_382 (d := d + 3) hh  (mr_301 (d := d + 3) hh e (mr_335_389 hh hf k))
def mf_335_381 (N : Nat)  (s : mS) : mO := mf_335_382 N 1 s
theorem mr_335_381 {X : Nat → Option zz_C} {h : zz_H} (hh : 111 ≤ h.length) {d : Nat} {N : Nat} {Q : Option Value → zz_H → Prop}  {s s' : mS} {v : Option Value} (hf : mf_335_381 N  s = some (s', v)) (k : Q v (mH h s')) : zz_E zp_P zt_tf zt_fd X (d + 4) zm_335 381 [(0, .ref 61)] [.ref 61] (mH h s) Q := by
  unfold mf_335_381 at hf
  exact mb_335_381 hh  (mr_335_382 hh hf k)
def mf_335_377 (N : Nat)  (s : mS) : mO := mf_335_382 N 2 s
theorem mr_335_377 {X : Nat → Option zz_C} {h : zz_H} (hh : 111 ≤ h.length) {d : Nat} {N : Nat} {Q : Option Value → zz_H → Prop}  {s s' : mS} {v : Option Value} (hf : mf_335_377 N  s = some (s', v)) (k : Q v (mH h s')) : zz_E zp_P zt_tf zt_fd X (d + 4) zm_335 377 [(0, .ref 61)] [.ref 61] (mH h s) Q := by
  unfold mf_335_377 at hf
  exact mb_335_377 hh  (mr_335_382 hh hf k)
def mf_335_369 (N : Nat) (x5 : Int32) (s : mS) : mO := if x5 ≤ 20 then mf_335_381 N  s else mf_335_377 N  s
theorem mr_335_369 {X : Nat → Option zz_C} {h : zz_H} (hh : 111 ≤ h.length) {d : Nat} {N : Nat} {Q : Option Value → zz_H → Prop} {x5 : Int32} {s s' : mS} {v : Option Value} (hf : mf_335_369 N x5 s = some (s', v)) (k : Q v (mH h s')) : zz_E zp_P zt_tf zt_fd X (d + 4) zm_335 369 [(0, .ref 61), (5, .int x5)] [] (mH h s) Q := by
  unfold mf_335_369 at hf
  refine mb_335_369 hh  (fun c => ?_) (fun c => ?_)
  · rw [if_pos c] at hf
    exact mr_335_381 hh hf k
  · rw [if_neg c] at hf
    exact mr_335_377 hh hf k
def mf_335_507 (N : Nat)  (s : mS) : mO := some (s, none)
theorem mr_335_507 {X : Nat → Option zz_C} {h : zz_H} (hh : 111 ≤ h.length) {d : Nat} {N : Nat} {Q : Option Value → zz_H → Prop}  {s s' : mS} {v : Option Value} (hf : mf_335_507 N  s = some (s', v)) (k : Q v (mH h s')) : zz_E zp_P zt_tf zt_fd X (d + 4) zm_335 507 [] [] (mH h s) Q := by
  unfold mf_335_507 at hf
  cases hf
  exact mb_335_507 hh  k
def mf_335_501 (N : Nat) (x3 : Int32) (s : mS) : mO := mo_bv (mf_305 N 2 x3 s) (fun s1 => mf_335_507 N  s1)
theorem mr_335_501 {X : Nat → Option zz_C} {h : zz_H} (hh : 111 ≤ h.length) {d : Nat} {N : Nat} {Q : Option Value → zz_H → Prop} {x3 : Int32} {s s' : mS} {v : Option Value} (hf : mf_335_501 N x3 s = some (s', v)) (k : Q v (mH h s')) : zz_E zp_P zt_tf zt_fd X (d + 4) zm_335 501 [(0, .ref 61), (3, .int x3)] [] (mH h s) Q := by
  unfold mf_335_501 at hf
  obtain ⟨s1, e, hf⟩ := mo_bv_ok hf
  exact mb_335_501 (d := d + 3) hh  (mr_305 (d := d + 0) hh e (mr_335_507 hh hf k))
def mf_335_483 (N : Nat) (rc : Nat → Int32 → Int32 → Int32 → Int32 → Int32 → Int32 → Int32 → mS → mO) (x2 : Int32) (x3 : Int32) (x4 : Int32) (x5 : Int32) (x7 : Int32) (x8 : Int32) (x9 : Int32) (s : mS) : mO := rc 1 x2 x3 x4 x5 x7 x8 (x9 + 1) s
theorem mr_335_483 {X : Nat → Option zz_C} {h : zz_H} (hh : 111 ≤ h.length) {d : Nat} {N : Nat} {rc : Nat → Int32 → Int32 → Int32 → Int32 → Int32 → Int32 → Int32 → mS → mO} (hrc0 : ∀ {Q : Option Value → zz_H → Prop} {x2 : Int32} {x3 : Int32} {x4 : Int32} {x5 : Int32} {x7 : Int32} {s s' : mS} {v : Option Value}, rc 0 x2 x3 x4 x5 x7 0 0 s = some (s', v) → Q v (mH h s') → zz_E zp_P zt_tf zt_fd X (d + 4) zm_335 393 [(0, .ref 61), (2, .int x2), (3, .int x3), (4, .int x4), (5, .int x5), (7, .int x7)] [] (mH h s) Q) (hrc1 : ∀ {Q : Option Value → zz_H → Prop} {x2 : Int32} {x3 : Int32} {x4 : Int32} {x5 : Int32} {x7 : Int32} {x8 : Int32} {x9 : Int32} {s s' : mS} {v : Option Value}, rc 1 x2 x3 x4 x5 x7 x8 x9 s = some (s', v) → Q v (mH h s') → zz_E zp_P zt_tf zt_fd X (d + 4) zm_335 409 [(0, .ref 61), (2, .int x2), (3, .int x3), (4, .int x4), (5, .int x5), (7, .int x7), (8, .int x8), (9, .int x9)] [] (mH h s) Q) {Q : Option Value → zz_H → Prop} {x2 : Int32} {x3 : Int32} {x4 : Int32} {x5 : Int32} {x7 : Int32} {x8 : Int32} {x9 : Int32} {s s' : mS} {v : Option Value} (hf : mf_335_483 N rc x2 x3 x4 x5 x7 x8 x9 s = some (s', v)) (k : Q v (mH h s')) : zz_E zp_P zt_tf zt_fd X (d + 4) zm_335 483 [(0, .ref 61), (2, .int x2), (3, .int x3), (4, .int x4), (5, .int x5), (7, .int x7), (8, .int x8), (9, .int x9)] [] (mH h s) Q := by
  unfold mf_335_483 at hf
  exact mb_335_483 hh  (hrc1 hf k)
def mf_335_478 (N : Nat) (rc : Nat → Int32 → Int32 → Int32 → Int32 → Int32 → Int32 → Int32 → mS → mO) (x2 : Int32) (x3 : Int32) (x4 : Int32) (x5 : Int32) (x7 : Int32) (x8 : Int32) (x9 : Int32) (y1 : Int32) (s : mS) : mO := mo_bv (mf_295 N y1 x7 s) (fun s1 => mf_335_483 N rc x2 x3 x4 x5 x7 x8 x9 s1)
theorem mr_335_478 {X : Nat → Option zz_C} {h : zz_H} (hh : 111 ≤ h.length) {d : Nat} {N : Nat} {rc : Nat → Int32 → Int32 → Int32 → Int32 → Int32 → Int32 → Int32 → mS → mO} (hrc0 : ∀ {Q : Option Value → zz_H → Prop} {x2 : Int32} {x3 : Int32} {x4 : Int32} {x5 : Int32} {x7 : Int32} {s s' : mS} {v : Option Value}, rc 0 x2 x3 x4 x5 x7 0 0 s = some (s', v) → Q v (mH h s') → zz_E zp_P zt_tf zt_fd X (d + 4) zm_335 393 [(0, .ref 61), (2, .int x2), (3, .int x3), (4, .int x4), (5, .int x5), (7, .int x7)] [] (mH h s) Q) (hrc1 : ∀ {Q : Option Value → zz_H → Prop} {x2 : Int32} {x3 : Int32} {x4 : Int32} {x5 : Int32} {x7 : Int32} {x8 : Int32} {x9 : Int32} {s s' : mS} {v : Option Value}, rc 1 x2 x3 x4 x5 x7 x8 x9 s = some (s', v) → Q v (mH h s') → zz_E zp_P zt_tf zt_fd X (d + 4) zm_335 409 [(0, .ref 61), (2, .int x2), (3, .int x3), (4, .int x4), (5, .int x5), (7, .int x7), (8, .int x8), (9, .int x9)] [] (mH h s) Q) {Q : Option Value → zz_H → Prop} {x2 : Int32} {x3 : Int32} {x4 : Int32} {x5 : Int32} {x7 : Int32} {x8 : Int32} {x9 : Int32} {y1 : Int32} {s s' : mS} {v : Option Value} (hf : mf_335_478 N rc x2 x3 x4 x5 x7 x8 x9 y1 s = some (s', v)) (k : Q v (mH h s')) : zz_E zp_P zt_tf zt_fd X (d + 4) zm_335 478 [(0, .ref 61), (2, .int x2), (3, .int x3), (4, .int x4), (5, .int x5), (7, .int x7), (8, .int x8), (9, .int x9)] [.int y1, .ref 61] (mH h s) Q := by
  unfold mf_335_478 at hf
  obtain ⟨s1, e, hf⟩ := mo_bv_ok hf
  exact mb_335_478 (d := d + 3) hh  (mr_295 (d := d + 2) hh e (mr_335_483 hh hrc0 hrc1 hf k))
def mf_335_470 (N : Nat) (rc : Nat → Int32 → Int32 → Int32 → Int32 → Int32 → Int32 → Int32 → mS → mO) (x2 : Int32) (x3 : Int32) (x4 : Int32) (x5 : Int32) (x7 : Int32) (x8 : Int32) (x9 : Int32) (s : mS) : mO := mo_bi (mf_294 N x2 x9 s) (fun s1 y => mf_335_478 N rc x2 x3 x4 x5 x7 x8 x9 y s1)
theorem mr_335_470 {X : Nat → Option zz_C} {h : zz_H} (hh : 111 ≤ h.length) {d : Nat} {N : Nat} {rc : Nat → Int32 → Int32 → Int32 → Int32 → Int32 → Int32 → Int32 → mS → mO} (hrc0 : ∀ {Q : Option Value → zz_H → Prop} {x2 : Int32} {x3 : Int32} {x4 : Int32} {x5 : Int32} {x7 : Int32} {s s' : mS} {v : Option Value}, rc 0 x2 x3 x4 x5 x7 0 0 s = some (s', v) → Q v (mH h s') → zz_E zp_P zt_tf zt_fd X (d + 4) zm_335 393 [(0, .ref 61), (2, .int x2), (3, .int x3), (4, .int x4), (5, .int x5), (7, .int x7)] [] (mH h s) Q) (hrc1 : ∀ {Q : Option Value → zz_H → Prop} {x2 : Int32} {x3 : Int32} {x4 : Int32} {x5 : Int32} {x7 : Int32} {x8 : Int32} {x9 : Int32} {s s' : mS} {v : Option Value}, rc 1 x2 x3 x4 x5 x7 x8 x9 s = some (s', v) → Q v (mH h s') → zz_E zp_P zt_tf zt_fd X (d + 4) zm_335 409 [(0, .ref 61), (2, .int x2), (3, .int x3), (4, .int x4), (5, .int x5), (7, .int x7), (8, .int x8), (9, .int x9)] [] (mH h s) Q) {Q : Option Value → zz_H → Prop} {x2 : Int32} {x3 : Int32} {x4 : Int32} {x5 : Int32} {x7 : Int32} {x8 : Int32} {x9 : Int32} {s s' : mS} {v : Option Value} (hf : mf_335_470 N rc x2 x3 x4 x5 x7 x8 x9 s = some (s', v)) (k : Q v (mH h s')) : zz_E zp_P zt_tf zt_fd X (d + 4) zm_335 470 [(0, .ref 61), (2, .int x2), (3, .int x3), (4, .int x4), (5, .int x5), (7, .int x7), (8, .int x8), (9, .int x9)] [] (mH h s) Q := by
  unfold mf_335_470 at hf
  obtain ⟨s1, y, e, hf⟩ := mo_bi_ok hf
  exact mb_335_470 (d := d + 3) hh  (mr_294 (d := d + 3) hh e (mr_335_478 hh hrc0 hrc1 hf k))
def mf_335_465 (N : Nat) (rc : Nat → Int32 → Int32 → Int32 → Int32 → Int32 → Int32 → Int32 → mS → mO) (x2 : Int32) (x3 : Int32) (x4 : Int32) (x5 : Int32) (x7 : Int32) (x8 : Int32) (x9 : Int32) (y0 : Int32) (s : mS) : mO := if y0 ≤ x7 then mf_335_483 N rc x2 x3 x4 x5 x7 x8 x9 s else mf_335_470 N rc x2 x3 x4 x5 x7 x8 x9 s
theorem mr_335_465 {X : Nat → Option zz_C} {h : zz_H} (hh : 111 ≤ h.length) {d : Nat} {N : Nat} {rc : Nat → Int32 → Int32 → Int32 → Int32 → Int32 → Int32 → Int32 → mS → mO} (hrc0 : ∀ {Q : Option Value → zz_H → Prop} {x2 : Int32} {x3 : Int32} {x4 : Int32} {x5 : Int32} {x7 : Int32} {s s' : mS} {v : Option Value}, rc 0 x2 x3 x4 x5 x7 0 0 s = some (s', v) → Q v (mH h s') → zz_E zp_P zt_tf zt_fd X (d + 4) zm_335 393 [(0, .ref 61), (2, .int x2), (3, .int x3), (4, .int x4), (5, .int x5), (7, .int x7)] [] (mH h s) Q) (hrc1 : ∀ {Q : Option Value → zz_H → Prop} {x2 : Int32} {x3 : Int32} {x4 : Int32} {x5 : Int32} {x7 : Int32} {x8 : Int32} {x9 : Int32} {s s' : mS} {v : Option Value}, rc 1 x2 x3 x4 x5 x7 x8 x9 s = some (s', v) → Q v (mH h s') → zz_E zp_P zt_tf zt_fd X (d + 4) zm_335 409 [(0, .ref 61), (2, .int x2), (3, .int x3), (4, .int x4), (5, .int x5), (7, .int x7), (8, .int x8), (9, .int x9)] [] (mH h s) Q) {Q : Option Value → zz_H → Prop} {x2 : Int32} {x3 : Int32} {x4 : Int32} {x5 : Int32} {x7 : Int32} {x8 : Int32} {x9 : Int32} {y0 : Int32} {s s' : mS} {v : Option Value} (hf : mf_335_465 N rc x2 x3 x4 x5 x7 x8 x9 y0 s = some (s', v)) (k : Q v (mH h s')) : zz_E zp_P zt_tf zt_fd X (d + 4) zm_335 465 [(0, .ref 61), (2, .int x2), (3, .int x3), (4, .int x4), (5, .int x5), (7, .int x7), (8, .int x8), (9, .int x9)] [.int y0] (mH h s) Q := by
  unfold mf_335_465 at hf
  refine mb_335_465 hh  (fun c => ?_) (fun c => ?_)
  · rw [if_pos c] at hf
    exact mr_335_483 hh hrc0 hrc1 hf k
  · rw [if_neg c] at hf
    exact mr_335_470 hh hrc0 hrc1 hf k
def mf_335_462 (N : Nat) (rc : Nat → Int32 → Int32 → Int32 → Int32 → Int32 → Int32 → Int32 → mS → mO) (x2 : Int32) (x3 : Int32) (x4 : Int32) (x5 : Int32) (x7 : Int32) (x8 : Int32) (x9 : Int32) (y1 : Int32) (s : mS) : mO := mo_bi (mf_77 N y1 s) (fun s1 y => mf_335_465 N rc x2 x3 x4 x5 x7 x8 x9 y s1)
theorem mr_335_462 {X : Nat → Option zz_C} {h : zz_H} (hh : 111 ≤ h.length) {d : Nat} {N : Nat} {rc : Nat → Int32 → Int32 → Int32 → Int32 → Int32 → Int32 → Int32 → mS → mO} (hrc0 : ∀ {Q : Option Value → zz_H → Prop} {x2 : Int32} {x3 : Int32} {x4 : Int32} {x5 : Int32} {x7 : Int32} {s s' : mS} {v : Option Value}, rc 0 x2 x3 x4 x5 x7 0 0 s = some (s', v) → Q v (mH h s') → zz_E zp_P zt_tf zt_fd X (d + 4) zm_335 393 [(0, .ref 61), (2, .int x2), (3, .int x3), (4, .int x4), (5, .int x5), (7, .int x7)] [] (mH h s) Q) (hrc1 : ∀ {Q : Option Value → zz_H → Prop} {x2 : Int32} {x3 : Int32} {x4 : Int32} {x5 : Int32} {x7 : Int32} {x8 : Int32} {x9 : Int32} {s s' : mS} {v : Option Value}, rc 1 x2 x3 x4 x5 x7 x8 x9 s = some (s', v) → Q v (mH h s') → zz_E zp_P zt_tf zt_fd X (d + 4) zm_335 409 [(0, .ref 61), (2, .int x2), (3, .int x3), (4, .int x4), (5, .int x5), (7, .int x7), (8, .int x8), (9, .int x9)] [] (mH h s) Q) {Q : Option Value → zz_H → Prop} {x2 : Int32} {x3 : Int32} {x4 : Int32} {x5 : Int32} {x7 : Int32} {x8 : Int32} {x9 : Int32} {y1 : Int32} {s s' : mS} {v : Option Value} (hf : mf_335_462 N rc x2 x3 x4 x5 x7 x8 x9 y1 s = some (s', v)) (k : Q v (mH h s')) : zz_E zp_P zt_tf zt_fd X (d + 4) zm_335 462 [(0, .ref 61), (2, .int x2), (3, .int x3), (4, .int x4), (5, .int x5), (7, .int x7), (8, .int x8), (9, .int x9)] [.int y1, .ref 61] (mH h s) Q := by
  unfold mf_335_462 at hf
  obtain ⟨s1, y, e, hf⟩ := mo_bi_ok hf
  exact mb_335_462 (d := d + 3) hh  (mr_77 (d := d + 3) hh e (mr_335_465 hh hrc0 hrc1 hf k))
def mf_335_454 (N : Nat) (rc : Nat → Int32 → Int32 → Int32 → Int32 → Int32 → Int32 → Int32 → mS → mO) (x2 : Int32) (x3 : Int32) (x4 : Int32) (x5 : Int32) (x7 : Int32) (x8 : Int32) (x9 : Int32) (s : mS) : mO := mo_bi (mf_294 N x2 x9 s) (fun s1 y => mf_335_462 N rc x2 x3 x4 x5 x7 x8 x9 y s1)
theorem mr_335_454 {X : Nat → Option zz_C} {h : zz_H} (hh : 111 ≤ h.length) {d : Nat} {N : Nat} {rc : Nat → Int32 → Int32 → Int32 → Int32 → Int32 → Int32 → Int32 → mS → mO} (hrc0 : ∀ {Q : Option Value → zz_H → Prop} {x2 : Int32} {x3 : Int32} {x4 : Int32} {x5 : Int32} {x7 : Int32} {s s' : mS} {v : Option Value}, rc 0 x2 x3 x4 x5 x7 0 0 s = some (s', v) → Q v (mH h s') → zz_E zp_P zt_tf zt_fd X (d + 4) zm_335 393 [(0, .ref 61), (2, .int x2), (3, .int x3), (4, .int x4), (5, .int x5), (7, .int x7)] [] (mH h s) Q) (hrc1 : ∀ {Q : Option Value → zz_H → Prop} {x2 : Int32} {x3 : Int32} {x4 : Int32} {x5 : Int32} {x7 : Int32} {x8 : Int32} {x9 : Int32} {s s' : mS} {v : Option Value}, rc 1 x2 x3 x4 x5 x7 x8 x9 s = some (s', v) → Q v (mH h s') → zz_E zp_P zt_tf zt_fd X (d + 4) zm_335 409 [(0, .ref 61), (2, .int x2), (3, .int x3), (4, .int x4), (5, .int x5), (7, .int x7), (8, .int x8), (9, .int x9)] [] (mH h s) Q) {Q : Option Value → zz_H → Prop} {x2 : Int32} {x3 : Int32} {x4 : Int32} {x5 : Int32} {x7 : Int32} {x8 : Int32} {x9 : Int32} {s s' : mS} {v : Option Value} (hf : mf_335_454 N rc x2 x3 x4 x5 x7 x8 x9 s = some (s', v)) (k : Q v (mH h s')) : zz_E zp_P zt_tf zt_fd X (d + 4) zm_335 454 [(0, .ref 61), (2, .int x2), (3, .int x3), (4, .int x4), (5, .int x5), (7, .int x7), (8, .int x8), (9, .int x9)] [] (mH h s) Q := by
  unfold mf_335_454 at hf
  obtain ⟨s1, y, e, hf⟩ := mo_bi_ok hf
  exact mb_335_454 (d := d + 3) hh  (mr_294 (d := d + 3) hh e (mr_335_462 hh hrc0 hrc1 hf k))
def mf_335_448 (N : Nat) (rc : Nat → Int32 → Int32 → Int32 → Int32 → Int32 → Int32 → Int32 → mS → mO) (x2 : Int32) (x3 : Int32) (x4 : Int32) (x5 : Int32) (x7 : Int32) (x8 : Int32) (x9 : Int32) (s : mS) : mO := if ¬ x4 = 2 then mf_335_483 N rc x2 x3 x4 x5 x7 x8 x9 s else mf_335_454 N rc x2 x3 x4 x5 x7 x8 x9 s
theorem mr_335_448 {X : Nat → Option zz_C} {h : zz_H} (hh : 111 ≤ h.length) {d : Nat} {N : Nat} {rc : Nat → Int32 → Int32 → Int32 → Int32 → Int32 → Int32 → Int32 → mS → mO} (hrc0 : ∀ {Q : Option Value → zz_H → Prop} {x2 : Int32} {x3 : Int32} {x4 : Int32} {x5 : Int32} {x7 : Int32} {s s' : mS} {v : Option Value}, rc 0 x2 x3 x4 x5 x7 0 0 s = some (s', v) → Q v (mH h s') → zz_E zp_P zt_tf zt_fd X (d + 4) zm_335 393 [(0, .ref 61), (2, .int x2), (3, .int x3), (4, .int x4), (5, .int x5), (7, .int x7)] [] (mH h s) Q) (hrc1 : ∀ {Q : Option Value → zz_H → Prop} {x2 : Int32} {x3 : Int32} {x4 : Int32} {x5 : Int32} {x7 : Int32} {x8 : Int32} {x9 : Int32} {s s' : mS} {v : Option Value}, rc 1 x2 x3 x4 x5 x7 x8 x9 s = some (s', v) → Q v (mH h s') → zz_E zp_P zt_tf zt_fd X (d + 4) zm_335 409 [(0, .ref 61), (2, .int x2), (3, .int x3), (4, .int x4), (5, .int x5), (7, .int x7), (8, .int x8), (9, .int x9)] [] (mH h s) Q) {Q : Option Value → zz_H → Prop} {x2 : Int32} {x3 : Int32} {x4 : Int32} {x5 : Int32} {x7 : Int32} {x8 : Int32} {x9 : Int32} {s s' : mS} {v : Option Value} (hf : mf_335_448 N rc x2 x3 x4 x5 x7 x8 x9 s = some (s', v)) (k : Q v (mH h s')) : zz_E zp_P zt_tf zt_fd X (d + 4) zm_335 448 [(0, .ref 61), (2, .int x2), (3, .int x3), (4, .int x4), (5, .int x5), (7, .int x7), (8, .int x8), (9, .int x9)] [] (mH h s) Q := by
  unfold mf_335_448 at hf
  refine mb_335_448 hh  (fun c => ?_) (fun c => ?_)
  · rw [if_pos c] at hf
    exact mr_335_483 hh hrc0 hrc1 hf k
  · rw [if_neg c] at hf
    exact mr_335_454 hh hrc0 hrc1 hf k
def mf_335_441 (N : Nat) (rc : Nat → Int32 → Int32 → Int32 → Int32 → Int32 → Int32 → Int32 → mS → mO) (x2 : Int32) (x3 : Int32) (x4 : Int32) (x5 : Int32) (x7 : Int32) (x8 : Int32) (x9 : Int32) (s : mS) : mO := mo_bv (mf_291 N 0 x9 s) (fun s1 => mf_335_448 N rc x2 x3 x4 x5 x7 x8 x9 s1)
theorem mr_335_441 {X : Nat → Option zz_C} {h : zz_H} (hh : 111 ≤ h.length) {d : Nat} {N : Nat} {rc : Nat → Int32 → Int32 → Int32 → Int32 → Int32 → Int32 → Int32 → mS → mO} (hrc0 : ∀ {Q : Option Value → zz_H → Prop} {x2 : Int32} {x3 : Int32} {x4 : Int32} {x5 : Int32} {x7 : Int32} {s s' : mS} {v : Option Value}, rc 0 x2 x3 x4 x5 x7 0 0 s = some (s', v) → Q v (mH h s') → zz_E zp_P zt_tf zt_fd X (d + 4) zm_335 393 [(0, .ref 61), (2, .int x2), (3, .int x3), (4, .int x4), (5, .int x5), (7, .int x7)] [] (mH h s) Q) (hrc1 : ∀ {Q : Option Value → zz_H → Prop} {x2 : Int32} {x3 : Int32} {x4 : Int32} {x5 : Int32} {x7 : Int32} {x8 : Int32} {x9 : Int32} {s s' : mS} {v : Option Value}, rc 1 x2 x3 x4 x5 x7 x8 x9 s = some (s', v) → Q v (mH h s') → zz_E zp_P zt_tf zt_fd X (d + 4) zm_335 409 [(0, .ref 61), (2, .int x2), (3, .int x3), (4, .int x4), (5, .int x5), (7, .int x7), (8, .int x8), (9, .int x9)] [] (mH h s) Q) {Q : Option Value → zz_H → Prop} {x2 : Int32} {x3 : Int32} {x4 : Int32} {x5 : Int32} {x7 : Int32} {x8 : Int32} {x9 : Int32} {s s' : mS} {v : Option Value} (hf : mf_335_441 N rc x2 x3 x4 x5 x7 x8 x9 s = some (s', v)) (k : Q v (mH h s')) : zz_E zp_P zt_tf zt_fd X (d + 4) zm_335 441 [(0, .ref 61), (2, .int x2), (3, .int x3), (4, .int x4), (5, .int x5), (7, .int x7), (8, .int x8), (9, .int x9)] [] (mH h s) Q := by
  unfold mf_335_441 at hf
  obtain ⟨s1, e, hf⟩ := mo_bv_ok hf
  exact mb_335_441 (d := d + 3) hh  (mr_291 (d := d + 3) hh e (mr_335_448 hh hrc0 hrc1 hf k))
def mf_335_425 (N : Nat) (rc : Nat → Int32 → Int32 → Int32 → Int32 → Int32 → Int32 → Int32 → mS → mO) (x2 : Int32) (x3 : Int32) (x4 : Int32) (x5 : Int32) (x7 : Int32) (x8 : Int32) (x9 : Int32) (s : mS) : mO := if ¬ (((x2 + 2) + x9) < 0 ∨ 166300 ≤ Int32.toNatClampNeg ((x2 + 2) + x9)) then (if ¬ ((s.2.2.1 47) (Int32.toNatClampNeg ((x2 + 2) + x9))) = x7 then mf_335_448 N rc x2 x3 x4 x5 x7 x8 x9 s else mf_335_441 N rc x2 x3 x4 x5 x7 x8 x9 s) else none
theorem mr_335_425 {X : Nat → Option zz_C} {h : zz_H} (hh : 111 ≤ h.length) {d : Nat} {N : Nat} {rc : Nat → Int32 → Int32 → Int32 → Int32 → Int32 → Int32 → Int32 → mS → mO} (hrc0 : ∀ {Q : Option Value → zz_H → Prop} {x2 : Int32} {x3 : Int32} {x4 : Int32} {x5 : Int32} {x7 : Int32} {s s' : mS} {v : Option Value}, rc 0 x2 x3 x4 x5 x7 0 0 s = some (s', v) → Q v (mH h s') → zz_E zp_P zt_tf zt_fd X (d + 4) zm_335 393 [(0, .ref 61), (2, .int x2), (3, .int x3), (4, .int x4), (5, .int x5), (7, .int x7)] [] (mH h s) Q) (hrc1 : ∀ {Q : Option Value → zz_H → Prop} {x2 : Int32} {x3 : Int32} {x4 : Int32} {x5 : Int32} {x7 : Int32} {x8 : Int32} {x9 : Int32} {s s' : mS} {v : Option Value}, rc 1 x2 x3 x4 x5 x7 x8 x9 s = some (s', v) → Q v (mH h s') → zz_E zp_P zt_tf zt_fd X (d + 4) zm_335 409 [(0, .ref 61), (2, .int x2), (3, .int x3), (4, .int x4), (5, .int x5), (7, .int x7), (8, .int x8), (9, .int x9)] [] (mH h s) Q) {Q : Option Value → zz_H → Prop} {x2 : Int32} {x3 : Int32} {x4 : Int32} {x5 : Int32} {x7 : Int32} {x8 : Int32} {x9 : Int32} {s s' : mS} {v : Option Value} (hf : mf_335_425 N rc x2 x3 x4 x5 x7 x8 x9 s = some (s', v)) (k : Q v (mH h s')) : zz_E zp_P zt_tf zt_fd X (d + 4) zm_335 425 [(0, .ref 61), (2, .int x2), (3, .int x3), (4, .int x4), (5, .int x5), (7, .int x7), (8, .int x8), (9, .int x9)] [] (mH h s) Q := by
  unfold mf_335_425 at hf
  obtain ⟨q0, hf⟩ := mo_if hf
  refine mb_335_425 hh q0 (fun c => ?_) (fun c => ?_)
  · rw [if_pos c] at hf
    exact mr_335_448 hh hrc0 hrc1 hf k
  · rw [if_neg c] at hf
    exact mr_335_441 hh hrc0 hrc1 hf k
def mf_335_419 (N : Nat) (rc : Nat → Int32 → Int32 → Int32 → Int32 → Int32 → Int32 → Int32 → mS → mO) (x2 : Int32) (x3 : Int32) (x4 : Int32) (x5 : Int32) (x7 : Int32) (x8 : Int32) (x9 : Int32) (s : mS) : mO := if ¬ x4 = 1 then mf_335_448 N rc x2 x3 x4 x5 x7 x8 x9 s else mf_335_425 N rc x2 x3 x4 x5 x7 x8 x9 s
theorem mr_335_419 {X : Nat → Option zz_C} {h : zz_H} (hh : 111 ≤ h.length) {d : Nat} {N : Nat} {rc : Nat → Int32 → Int32 → Int32 → Int32 → Int32 → Int32 → Int32 → mS → mO} (hrc0 : ∀ {Q : Option Value → zz_H → Prop} {x2 : Int32} {x3 : Int32} {x4 : Int32} {x5 : Int32} {x7 : Int32} {s s' : mS} {v : Option Value}, rc 0 x2 x3 x4 x5 x7 0 0 s = some (s', v) → Q v (mH h s') → zz_E zp_P zt_tf zt_fd X (d + 4) zm_335 393 [(0, .ref 61), (2, .int x2), (3, .int x3), (4, .int x4), (5, .int x5), (7, .int x7)] [] (mH h s) Q) (hrc1 : ∀ {Q : Option Value → zz_H → Prop} {x2 : Int32} {x3 : Int32} {x4 : Int32} {x5 : Int32} {x7 : Int32} {x8 : Int32} {x9 : Int32} {s s' : mS} {v : Option Value}, rc 1 x2 x3 x4 x5 x7 x8 x9 s = some (s', v) → Q v (mH h s') → zz_E zp_P zt_tf zt_fd X (d + 4) zm_335 409 [(0, .ref 61), (2, .int x2), (3, .int x3), (4, .int x4), (5, .int x5), (7, .int x7), (8, .int x8), (9, .int x9)] [] (mH h s) Q) {Q : Option Value → zz_H → Prop} {x2 : Int32} {x3 : Int32} {x4 : Int32} {x5 : Int32} {x7 : Int32} {x8 : Int32} {x9 : Int32} {s s' : mS} {v : Option Value} (hf : mf_335_419 N rc x2 x3 x4 x5 x7 x8 x9 s = some (s', v)) (k : Q v (mH h s')) : zz_E zp_P zt_tf zt_fd X (d + 4) zm_335 419 [(0, .ref 61), (2, .int x2), (3, .int x3), (4, .int x4), (5, .int x5), (7, .int x7), (8, .int x8), (9, .int x9)] [] (mH h s) Q := by
  unfold mf_335_419 at hf
  refine mb_335_419 hh  (fun c => ?_) (fun c => ?_)
  · rw [if_pos c] at hf
    exact mr_335_448 hh hrc0 hrc1 hf k
  · rw [if_neg c] at hf
    exact mr_335_425 hh hrc0 hrc1 hf k
def mf_335_495 (N : Nat) (rc : Nat → Int32 → Int32 → Int32 → Int32 → Int32 → Int32 → Int32 → mS → mO) (x2 : Int32) (x3 : Int32) (x4 : Int32) (x5 : Int32) (x7 : Int32) (s : mS) : mO := rc 0 x2 x3 x4 x5 (x7 + 1) 0 0 s
theorem mr_335_495 {X : Nat → Option zz_C} {h : zz_H} (hh : 111 ≤ h.length) {d : Nat} {N : Nat} {rc : Nat → Int32 → Int32 → Int32 → Int32 → Int32 → Int32 → Int32 → mS → mO} (hrc0 : ∀ {Q : Option Value → zz_H → Prop} {x2 : Int32} {x3 : Int32} {x4 : Int32} {x5 : Int32} {x7 : Int32} {s s' : mS} {v : Option Value}, rc 0 x2 x3 x4 x5 x7 0 0 s = some (s', v) → Q v (mH h s') → zz_E zp_P zt_tf zt_fd X (d + 4) zm_335 393 [(0, .ref 61), (2, .int x2), (3, .int x3), (4, .int x4), (5, .int x5), (7, .int x7)] [] (mH h s) Q) (hrc1 : ∀ {Q : Option Value → zz_H → Prop} {x2 : Int32} {x3 : Int32} {x4 : Int32} {x5 : Int32} {x7 : Int32} {x8 : Int32} {x9 : Int32} {s s' : mS} {v : Option Value}, rc 1 x2 x3 x4 x5 x7 x8 x9 s = some (s', v) → Q v (mH h s') → zz_E zp_P zt_tf zt_fd X (d + 4) zm_335 409 [(0, .ref 61), (2, .int x2), (3, .int x3), (4, .int x4), (5, .int x5), (7, .int x7), (8, .int x8), (9, .int x9)] [] (mH h s) Q) {Q : Option Value → zz_H → Prop} {x2 : Int32} {x3 : Int32} {x4 : Int32} {x5 : Int32} {x7 : Int32} {s s' : mS} {v : Option Value} (hf : mf_335_495 N rc x2 x3 x4 x5 x7 s = some (s', v)) (k : Q v (mH h s')) : zz_E zp_P zt_tf zt_fd X (d + 4) zm_335 495 [(0, .ref 61), (2, .int x2), (3, .int x3), (4, .int x4), (5, .int x5), (7, .int x7)] [] (mH h s) Q := by
  unfold mf_335_495 at hf
  exact mb_335_495 hh  (hrc0 hf k)
def mf_335_489 (N : Nat) (rc : Nat → Int32 → Int32 → Int32 → Int32 → Int32 → Int32 → Int32 → mS → mO) (x2 : Int32) (x3 : Int32) (x4 : Int32) (x5 : Int32) (x7 : Int32) (x8 : Int32) (s : mS) : mO := mo_bv (mf_306 N x8 s) (fun s1 => mf_335_495 N rc x2 x3 x4 x5 x7 s1)
theorem mr_335_489 {X : Nat → Option zz_C} {h : zz_H} (hh : 111 ≤ h.length) {d : Nat} {N : Nat} {rc : Nat → Int32 → Int32 → Int32 → Int32 → Int32 → Int32 → Int32 → mS → mO} (hrc0 : ∀ {Q : Option Value → zz_H → Prop} {x2 : Int32} {x3 : Int32} {x4 : Int32} {x5 : Int32} {x7 : Int32} {s s' : mS} {v : Option Value}, rc 0 x2 x3 x4 x5 x7 0 0 s = some (s', v) → Q v (mH h s') → zz_E zp_P zt_tf zt_fd X (d + 4) zm_335 393 [(0, .ref 61), (2, .int x2), (3, .int x3), (4, .int x4), (5, .int x5), (7, .int x7)] [] (mH h s) Q) (hrc1 : ∀ {Q : Option Value → zz_H → Prop} {x2 : Int32} {x3 : Int32} {x4 : Int32} {x5 : Int32} {x7 : Int32} {x8 : Int32} {x9 : Int32} {s s' : mS} {v : Option Value}, rc 1 x2 x3 x4 x5 x7 x8 x9 s = some (s', v) → Q v (mH h s') → zz_E zp_P zt_tf zt_fd X (d + 4) zm_335 409 [(0, .ref 61), (2, .int x2), (3, .int x3), (4, .int x4), (5, .int x5), (7, .int x7), (8, .int x8), (9, .int x9)] [] (mH h s) Q) {Q : Option Value → zz_H → Prop} {x2 : Int32} {x3 : Int32} {x4 : Int32} {x5 : Int32} {x7 : Int32} {x8 : Int32} {s s' : mS} {v : Option Value} (hf : mf_335_489 N rc x2 x3 x4 x5 x7 x8 s = some (s', v)) (k : Q v (mH h s')) : zz_E zp_P zt_tf zt_fd X (d + 4) zm_335 489 [(0, .ref 61), (2, .int x2), (3, .int x3), (4, .int x4), (5, .int x5), (7, .int x7), (8, .int x8)] [] (mH h s) Q := by
  unfold mf_335_489 at hf
  obtain ⟨s1, e, hf⟩ := mo_bv_ok hf
  exact mb_335_489 (d := d + 3) hh  (mr_306 (d := d + 2) hh e (mr_335_495 hh hrc0 hrc1 hf k))
def mf_335_416 (N : Nat) (rc : Nat → Int32 → Int32 → Int32 → Int32 → Int32 → Int32 → Int32 → mS → mO) (x2 : Int32) (x3 : Int32) (x4 : Int32) (x5 : Int32) (x7 : Int32) (x8 : Int32) (x9 : Int32) (y0 : Int32) (y1 : Int32) (s : mS) : mO := if y1 ≤ y0 then mf_335_489 N rc x2 x3 x4 x5 x7 x8 s else mf_335_419 N rc x2 x3 x4 x5 x7 x8 x9 s
theorem mr_335_416 {X : Nat → Option zz_C} {h : zz_H} (hh : 111 ≤ h.length) {d : Nat} {N : Nat} {rc : Nat → Int32 → Int32 → Int32 → Int32 → Int32 → Int32 → Int32 → mS → mO} (hrc0 : ∀ {Q : Option Value → zz_H → Prop} {x2 : Int32} {x3 : Int32} {x4 : Int32} {x5 : Int32} {x7 : Int32} {s s' : mS} {v : Option Value}, rc 0 x2 x3 x4 x5 x7 0 0 s = some (s', v) → Q v (mH h s') → zz_E zp_P zt_tf zt_fd X (d + 4) zm_335 393 [(0, .ref 61), (2, .int x2), (3, .int x3), (4, .int x4), (5, .int x5), (7, .int x7)] [] (mH h s) Q) (hrc1 : ∀ {Q : Option Value → zz_H → Prop} {x2 : Int32} {x3 : Int32} {x4 : Int32} {x5 : Int32} {x7 : Int32} {x8 : Int32} {x9 : Int32} {s s' : mS} {v : Option Value}, rc 1 x2 x3 x4 x5 x7 x8 x9 s = some (s', v) → Q v (mH h s') → zz_E zp_P zt_tf zt_fd X (d + 4) zm_335 409 [(0, .ref 61), (2, .int x2), (3, .int x3), (4, .int x4), (5, .int x5), (7, .int x7), (8, .int x8), (9, .int x9)] [] (mH h s) Q) {Q : Option Value → zz_H → Prop} {x2 : Int32} {x3 : Int32} {x4 : Int32} {x5 : Int32} {x7 : Int32} {x8 : Int32} {x9 : Int32} {y0 : Int32} {y1 : Int32} {s s' : mS} {v : Option Value} (hf : mf_335_416 N rc x2 x3 x4 x5 x7 x8 x9 y0 y1 s = some (s', v)) (k : Q v (mH h s')) : zz_E zp_P zt_tf zt_fd X (d + 4) zm_335 416 [(0, .ref 61), (2, .int x2), (3, .int x3), (4, .int x4), (5, .int x5), (7, .int x7), (8, .int x8), (9, .int x9)] [.int y1, .int y0] (mH h s) Q := by
  unfold mf_335_416 at hf
  refine mb_335_416 hh  (fun c => ?_) (fun c => ?_)
  · rw [if_pos c] at hf
    exact mr_335_489 hh hrc0 hrc1 hf k
  · rw [if_neg c] at hf
    exact mr_335_419 hh hrc0 hrc1 hf k
def mf_335_409 (N : Nat) (rc : Nat → Int32 → Int32 → Int32 → Int32 → Int32 → Int32 → Int32 → mS → mO) (x2 : Int32) (x3 : Int32) (x4 : Int32) (x5 : Int32) (x7 : Int32) (x8 : Int32) (x9 : Int32) (s : mS) : mO := mo_bi (mf_77 N x2 s) (fun s1 y => mf_335_416 N rc x2 x3 x4 x5 x7 x8 x9 x9 y s1)
theorem mr_335_409 {X : Nat → Option zz_C} {h : zz_H} (hh : 111 ≤ h.length) {d : Nat} {N : Nat} {rc : Nat → Int32 → Int32 → Int32 → Int32 → Int32 → Int32 → Int32 → mS → mO} (hrc0 : ∀ {Q : Option Value → zz_H → Prop} {x2 : Int32} {x3 : Int32} {x4 : Int32} {x5 : Int32} {x7 : Int32} {s s' : mS} {v : Option Value}, rc 0 x2 x3 x4 x5 x7 0 0 s = some (s', v) → Q v (mH h s') → zz_E zp_P zt_tf zt_fd X (d + 4) zm_335 393 [(0, .ref 61), (2, .int x2), (3, .int x3), (4, .int x4), (5, .int x5), (7, .int x7)] [] (mH h s) Q) (hrc1 : ∀ {Q : Option Value → zz_H → Prop} {x2 : Int32} {x3 : Int32} {x4 : Int32} {x5 : Int32} {x7 : Int32} {x8 : Int32} {x9 : Int32} {s s' : mS} {v : Option Value}, rc 1 x2 x3 x4 x5 x7 x8 x9 s = some (s', v) → Q v (mH h s') → zz_E zp_P zt_tf zt_fd X (d + 4) zm_335 409 [(0, .ref 61), (2, .int x2), (3, .int x3), (4, .int x4), (5, .int x5), (7, .int x7), (8, .int x8), (9, .int x9)] [] (mH h s) Q) {Q : Option Value → zz_H → Prop} {x2 : Int32} {x3 : Int32} {x4 : Int32} {x5 : Int32} {x7 : Int32} {x8 : Int32} {x9 : Int32} {s s' : mS} {v : Option Value} (hf : mf_335_409 N rc x2 x3 x4 x5 x7 x8 x9 s = some (s', v)) (k : Q v (mH h s')) : zz_E zp_P zt_tf zt_fd X (d + 4) zm_335 409 [(0, .ref 61), (2, .int x2), (3, .int x3), (4, .int x4), (5, .int x5), (7, .int x7), (8, .int x8), (9, .int x9)] [] (mH h s) Q := by
  unfold mf_335_409 at hf
  obtain ⟨s1, y, e, hf⟩ := mo_bi_ok hf
  exact mb_335_409 (d := d + 3) hh  (mr_77 (d := d + 3) hh e (mr_335_416 hh hrc0 hrc1 hf k))
def mf_335_400 (N : Nat) (rc : Nat → Int32 → Int32 → Int32 → Int32 → Int32 → Int32 → Int32 → mS → mO) (x2 : Int32) (x3 : Int32) (x4 : Int32) (x5 : Int32) (x7 : Int32) (s : mS) : mO := rc 1 x2 x3 x4 x5 x7 (s.1 51) 0 s
theorem mr_335_400 {X : Nat → Option zz_C} {h : zz_H} (hh : 111 ≤ h.length) {d : Nat} {N : Nat} {rc : Nat → Int32 → Int32 → Int32 → Int32 → Int32 → Int32 → Int32 → mS → mO} (hrc0 : ∀ {Q : Option Value → zz_H → Prop} {x2 : Int32} {x3 : Int32} {x4 : Int32} {x5 : Int32} {x7 : Int32} {s s' : mS} {v : Option Value}, rc 0 x2 x3 x4 x5 x7 0 0 s = some (s', v) → Q v (mH h s') → zz_E zp_P zt_tf zt_fd X (d + 4) zm_335 393 [(0, .ref 61), (2, .int x2), (3, .int x3), (4, .int x4), (5, .int x5), (7, .int x7)] [] (mH h s) Q) (hrc1 : ∀ {Q : Option Value → zz_H → Prop} {x2 : Int32} {x3 : Int32} {x4 : Int32} {x5 : Int32} {x7 : Int32} {x8 : Int32} {x9 : Int32} {s s' : mS} {v : Option Value}, rc 1 x2 x3 x4 x5 x7 x8 x9 s = some (s', v) → Q v (mH h s') → zz_E zp_P zt_tf zt_fd X (d + 4) zm_335 409 [(0, .ref 61), (2, .int x2), (3, .int x3), (4, .int x4), (5, .int x5), (7, .int x7), (8, .int x8), (9, .int x9)] [] (mH h s) Q) {Q : Option Value → zz_H → Prop} {x2 : Int32} {x3 : Int32} {x4 : Int32} {x5 : Int32} {x7 : Int32} {s s' : mS} {v : Option Value} (hf : mf_335_400 N rc x2 x3 x4 x5 x7 s = some (s', v)) (k : Q v (mH h s')) : zz_E zp_P zt_tf zt_fd X (d + 4) zm_335 400 [(0, .ref 61), (2, .int x2), (3, .int x3), (4, .int x4), (5, .int x5), (7, .int x7)] [] (mH h s) Q := by
  unfold mf_335_400 at hf
  exact mb_335_400 hh  (hrc1 hf k)
def mf_335_393 (N : Nat) (rc : Nat → Int32 → Int32 → Int32 → Int32 → Int32 → Int32 → Int32 → mS → mO) (x2 : Int32) (x3 : Int32) (x4 : Int32) (x5 : Int32) (x7 : Int32) (s : mS) : mO := if x5 ≤ x7 then mf_335_501 N x3 s else mf_335_400 N rc x2 x3 x4 x5 x7 s
theorem mr_335_393 {X : Nat → Option zz_C} {h : zz_H} (hh : 111 ≤ h.length) {d : Nat} {N : Nat} {rc : Nat → Int32 → Int32 → Int32 → Int32 → Int32 → Int32 → Int32 → mS → mO} (hrc0 : ∀ {Q : Option Value → zz_H → Prop} {x2 : Int32} {x3 : Int32} {x4 : Int32} {x5 : Int32} {x7 : Int32} {s s' : mS} {v : Option Value}, rc 0 x2 x3 x4 x5 x7 0 0 s = some (s', v) → Q v (mH h s') → zz_E zp_P zt_tf zt_fd X (d + 4) zm_335 393 [(0, .ref 61), (2, .int x2), (3, .int x3), (4, .int x4), (5, .int x5), (7, .int x7)] [] (mH h s) Q) (hrc1 : ∀ {Q : Option Value → zz_H → Prop} {x2 : Int32} {x3 : Int32} {x4 : Int32} {x5 : Int32} {x7 : Int32} {x8 : Int32} {x9 : Int32} {s s' : mS} {v : Option Value}, rc 1 x2 x3 x4 x5 x7 x8 x9 s = some (s', v) → Q v (mH h s') → zz_E zp_P zt_tf zt_fd X (d + 4) zm_335 409 [(0, .ref 61), (2, .int x2), (3, .int x3), (4, .int x4), (5, .int x5), (7, .int x7), (8, .int x8), (9, .int x9)] [] (mH h s) Q) {Q : Option Value → zz_H → Prop} {x2 : Int32} {x3 : Int32} {x4 : Int32} {x5 : Int32} {x7 : Int32} {s s' : mS} {v : Option Value} (hf : mf_335_393 N rc x2 x3 x4 x5 x7 s = some (s', v)) (k : Q v (mH h s')) : zz_E zp_P zt_tf zt_fd X (d + 4) zm_335 393 [(0, .ref 61), (2, .int x2), (3, .int x3), (4, .int x4), (5, .int x5), (7, .int x7)] [] (mH h s) Q := by
  unfold mf_335_393 at hf
  refine mb_335_393 hh  (fun c => ?_) (fun c => ?_)
  · rw [if_pos c] at hf
    exact mr_335_501 hh hf k
  · rw [if_neg c] at hf
    exact mr_335_400 hh hrc0 hrc1 hf k
def mf_335_L7 (N : Nat) : Nat → Nat → Int32 → Int32 → Int32 → Int32 → Int32 → Int32 → Int32 → mS → mO
  | 0, _, _, _, _, _, _, _, _, _ => none
  | n + 1, l, x2, x3, x4, x5, x7, x8, x9, s => if l = 0 then mf_335_393 N (mf_335_L7 N n) x2 x3 x4 x5 x7 s else if l = 1 then mf_335_409 N (mf_335_L7 N n) x2 x3 x4 x5 x7 x8 x9 s else none
theorem mr_335_L7 {X : Nat → Option zz_C} {h : zz_H} (hh : 111 ≤ h.length) {d : Nat} {N : Nat} : ∀ n : Nat, (∀ {Q : Option Value → zz_H → Prop} {x2 : Int32} {x3 : Int32} {x4 : Int32} {x5 : Int32} {x7 : Int32} {s s' : mS} {v : Option Value}, mf_335_L7 N n 0 x2 x3 x4 x5 x7 0 0 s = some (s', v) → Q v (mH h s') → zz_E zp_P zt_tf zt_fd X (d + 4) zm_335 393 [(0, .ref 61), (2, .int x2), (3, .int x3), (4, .int x4), (5, .int x5), (7, .int x7)] [] (mH h s) Q) ∧ (∀ {Q : Option Value → zz_H → Prop} {x2 : Int32} {x3 : Int32} {x4 : Int32} {x5 : Int32} {x7 : Int32} {x8 : Int32} {x9 : Int32} {s s' : mS} {v : Option Value}, mf_335_L7 N n 1 x2 x3 x4 x5 x7 x8 x9 s = some (s', v) → Q v (mH h s') → zz_E zp_P zt_tf zt_fd X (d + 4) zm_335 409 [(0, .ref 61), (2, .int x2), (3, .int x3), (4, .int x4), (5, .int x5), (7, .int x7), (8, .int x8), (9, .int x9)] [] (mH h s) Q) := by
  intro n
  induction n with
  | zero => exact ⟨(fun hf _ => by cases hf), (fun hf _ => by cases hf)⟩
  | succ n ih =>
    obtain ⟨h0, h1⟩ := ih
    refine ⟨?_, ?_⟩
    · intro Q _ _ _ _ _ s s' v hf k
      unfold mf_335_L7 at hf
      rw [if_pos rfl] at hf
      exact mr_335_393 hh h0 h1 hf k
    · intro Q _ _ _ _ _ _ _ s s' v hf k
      unfold mf_335_L7 at hf
      rw [if_neg (by decide)] at hf
      rw [if_pos rfl] at hf
      exact mr_335_409 hh h0 h1 hf k
def mf_335_390 (N : Nat) (x2 : Int32) (x3 : Int32) (x4 : Int32) (x5 : Int32) (s : mS) : mO := mf_335_L7 N N 0 x2 x3 x4 x5 0 0 0 s
theorem mr_335_390 {X : Nat → Option zz_C} {h : zz_H} (hh : 111 ≤ h.length) {d : Nat} {N : Nat} {Q : Option Value → zz_H → Prop} {x2 : Int32} {x3 : Int32} {x4 : Int32} {x5 : Int32} {s s' : mS} {v : Option Value} (hf : mf_335_390 N x2 x3 x4 x5 s = some (s', v)) (k : Q v (mH h s')) : zz_E zp_P zt_tf zt_fd X (d + 4) zm_335 390 [(0, .ref 61), (2, .int x2), (3, .int x3), (4, .int x4), (5, .int x5)] [] (mH h s) Q := by
  unfold mf_335_390 at hf
  exact mb_335_390 hh  ((mr_335_L7 hh N).1 hf k)
def mf_335_364 (N : Nat) (x2 : Int32) (x3 : Int32) (x4 : Int32) (x5 : Int32) (x6 : Int32) (s : mS) : mO := if 0 ≤ x6 then mf_335_390 N x2 x3 x4 x5 s else mf_335_369 N x5 s
theorem mr_335_364 {X : Nat → Option zz_C} {h : zz_H} (hh : 111 ≤ h.length) {d : Nat} {N : Nat} {Q : Option Value → zz_H → Prop} {x2 : Int32} {x3 : Int32} {x4 : Int32} {x5 : Int32} {x6 : Int32} {s s' : mS} {v : Option Value} (hf : mf_335_364 N x2 x3 x4 x5 x6 s = some (s', v)) (k : Q v (mH h s')) : zz_E zp_P zt_tf zt_fd X (d + 4) zm_335 364 [(0, .ref 61), (2, .int x2), (3, .int x3), (4, .int x4), (5, .int x5), (6, .int x6)] [] (mH h s) Q := by
  unfold mf_335_364 at hf
  refine mb_335_364 hh  (fun c => ?_) (fun c => ?_)
  · rw [if_pos c] at hf
    exact mr_335_390 hh hf k
  · rw [if_neg c] at hf
    exact mr_335_369 hh hf k
def mf_335_357 (N : Nat) (x2 : Int32) (x3 : Int32) (x4 : Int32) (x5 : Int32) (x6 : Int32) (s : mS) : mO := if 20 < x5 then mf_335_369 N x5 s else mf_335_364 N x2 x3 x4 x5 x6 s
theorem mr_335_357 {X : Nat → Option zz_C} {h : zz_H} (hh : 111 ≤ h.length) {d : Nat} {N : Nat} {Q : Option Value → zz_H → Prop} {x2 : Int32} {x3 : Int32} {x4 : Int32} {x5 : Int32} {x6 : Int32} {s s' : mS} {v : Option Value} (hf : mf_335_357 N x2 x3 x4 x5 x6 s = some (s', v)) (k : Q v (mH h s')) : zz_E zp_P zt_tf zt_fd X (d + 4) zm_335 357 [(0, .ref 61), (2, .int x2), (3, .int x3), (4, .int x4), (5, .int x5), (6, .int x6)] [] (mH h s) Q := by
  unfold mf_335_357 at hf
  refine mb_335_357 hh  (fun c => ?_) (fun c => ?_)
  · rw [if_pos c] at hf
    exact mr_335_369 hh hf k
  · rw [if_neg c] at hf
    exact mr_335_364 hh hf k
def mf_335_349 (N : Nat) (rc : Nat → Int32 → Int32 → Int32 → Int32 → Int32 → Int32 → mS → mO) (x2 : Int32) (x3 : Int32) (x4 : Int32) (x5 : Int32) (x7 : Int32) (y0 : Int32) (s : mS) : mO := rc 0 x2 x3 x4 x5 y0 (x7 + 1) s
theorem mr_335_349 {X : Nat → Option zz_C} {h : zz_H} (hh : 111 ≤ h.length) {d : Nat} {N : Nat} {rc : Nat → Int32 → Int32 → Int32 → Int32 → Int32 → Int32 → mS → mO} (hrc0 : ∀ {Q : Option Value → zz_H → Prop} {x2 : Int32} {x3 : Int32} {x4 : Int32} {x5 : Int32} {x6 : Int32} {x7 : Int32} {s s' : mS} {v : Option Value}, rc 0 x2 x3 x4 x5 x6 x7 s = some (s', v) → Q v (mH h s') → zz_E zp_P zt_tf zt_fd X (d + 4) zm_335 282 [(0, .ref 61), (2, .int x2), (3, .int x3), (4, .int x4), (5, .int x5), (6, .int x6), (7, .int x7)] [] (mH h s) Q) {Q : Option Value → zz_H → Prop} {x2 : Int32} {x3 : Int32} {x4 : Int32} {x5 : Int32} {x7 : Int32} {y0 : Int32} {s s' : mS} {v : Option Value} (hf : mf_335_349 N rc x2 x3 x4 x5 x7 y0 s = some (s', v)) (k : Q v (mH h s')) : zz_E zp_P zt_tf zt_fd X (d + 4) zm_335 349 [(0, .ref 61), (2, .int x2), (3, .int x3), (4, .int x4), (5, .int x5), (7, .int x7)] [.int y0] (mH h s) Q := by
  unfold mf_335_349 at hf
  exact mb_335_349 hh  (hrc0 hf k)
def mf_335_347 (N : Nat) (rc : Nat → Int32 → Int32 → Int32 → Int32 → Int32 → Int32 → mS → mO) (x2 : Int32) (x3 : Int32) (x4 : Int32) (x5 : Int32) (x6 : Int32) (x7 : Int32) (s : mS) : mO := mf_335_349 N rc x2 x3 x4 x5 x7 x6 s
theorem mr_335_347 {X : Nat → Option zz_C} {h : zz_H} (hh : 111 ≤ h.length) {d : Nat} {N : Nat} {rc : Nat → Int32 → Int32 → Int32 → Int32 → Int32 → Int32 → mS → mO} (hrc0 : ∀ {Q : Option Value → zz_H → Prop} {x2 : Int32} {x3 : Int32} {x4 : Int32} {x5 : Int32} {x6 : Int32} {x7 : Int32} {s s' : mS} {v : Option Value}, rc 0 x2 x3 x4 x5 x6 x7 s = some (s', v) → Q v (mH h s') → zz_E zp_P zt_tf zt_fd X (d + 4) zm_335 282 [(0, .ref 61), (2, .int x2), (3, .int x3), (4, .int x4), (5, .int x5), (6, .int x6), (7, .int x7)] [] (mH h s) Q) {Q : Option Value → zz_H → Prop} {x2 : Int32} {x3 : Int32} {x4 : Int32} {x5 : Int32} {x6 : Int32} {x7 : Int32} {s s' : mS} {v : Option Value} (hf : mf_335_347 N rc x2 x3 x4 x5 x6 x7 s = some (s', v)) (k : Q v (mH h s')) : zz_E zp_P zt_tf zt_fd X (d + 4) zm_335 347 [(0, .ref 61), (2, .int x2), (3, .int x3), (4, .int x4), (5, .int x5), (6, .int x6), (7, .int x7)] [] (mH h s) Q := by
  unfold mf_335_347 at hf
  exact mb_335_347 hh  (mr_335_349 hh hrc0 hf k)
def mf_335_342 (N : Nat) (rc : Nat → Int32 → Int32 → Int32 → Int32 → Int32 → Int32 → mS → mO) (x2 : Int32) (x3 : Int32) (x4 : Int32) (x5 : Int32) (x7 : Int32) (x8 : Int32) (s : mS) : mO := mf_335_349 N rc x2 x3 x4 x5 x7 x8 s
theorem mr_335_342 {X : Nat → Option zz_C} {h : zz_H} (hh : 111 ≤ h.length) {d : Nat} {N : Nat} {rc : Nat → Int32 → Int32 → Int32 → Int32 → Int32 → Int32 → mS → mO} (hrc0 : ∀ {Q : Option Value → zz_H → Prop} {x2 : Int32} {x3 : Int32} {x4 : Int32} {x5 : Int32} {x6 : Int32} {x7 : Int32} {s s' : mS} {v : Option Value}, rc 0 x2 x3 x4 x5 x6 x7 s = some (s', v) → Q v (mH h s') → zz_E zp_P zt_tf zt_fd X (d + 4) zm_335 282 [(0, .ref 61), (2, .int x2), (3, .int x3), (4, .int x4), (5, .int x5), (6, .int x6), (7, .int x7)] [] (mH h s) Q) {Q : Option Value → zz_H → Prop} {x2 : Int32} {x3 : Int32} {x4 : Int32} {x5 : Int32} {x7 : Int32} {x8 : Int32} {s s' : mS} {v : Option Value} (hf : mf_335_342 N rc x2 x3 x4 x5 x7 x8 s = some (s', v)) (k : Q v (mH h s')) : zz_E zp_P zt_tf zt_fd X (d + 4) zm_335 342 [(0, .ref 61), (2, .int x2), (3, .int x3), (4, .int x4), (5, .int x5), (7, .int x7), (8, .int x8)] [] (mH h s) Q := by
  unfold mf_335_342 at hf
  exact mb_335_342 hh  (mr_335_349 hh hrc0 hf k)
def mf_335_335 (N : Nat) (rc : Nat → Int32 → Int32 → Int32 → Int32 → Int32 → Int32 → mS → mO) (x2 : Int32) (x3 : Int32) (x4 : Int32) (x5 : Int32) (x6 : Int32) (x7 : Int32) (x8 : Int32) (s : mS) : mO := if x6 ≤ x8 then mf_335_347 N rc x2 x3 x4 x5 x6 x7 s else mf_335_342 N rc x2 x3 x4 x5 x7 x8 s
theorem mr_335_335 {X : Nat → Option zz_C} {h : zz_H} (hh : 111 ≤ h.length) {d : Nat} {N : Nat} {rc : Nat → Int32 → Int32 → Int32 → Int32 → Int32 → Int32 → mS → mO} (hrc0 : ∀ {Q : Option Value → zz_H → Prop} {x2 : Int32} {x3 : Int32} {x4 : Int32} {x5 : Int32} {x6 : Int32} {x7 : Int32} {s s' : mS} {v : Option Value}, rc 0 x2 x3 x4 x5 x6 x7 s = some (s', v) → Q v (mH h s') → zz_E zp_P zt_tf zt_fd X (d + 4) zm_335 282 [(0, .ref 61), (2, .int x2), (3, .int x3), (4, .int x4), (5, .int x5), (6, .int x6), (7, .int x7)] [] (mH h s) Q) {Q : Option Value → zz_H → Prop} {x2 : Int32} {x3 : Int32} {x4 : Int32} {x5 : Int32} {x6 : Int32} {x7 : Int32} {x8 : Int32} {s s' : mS} {v : Option Value} (hf : mf_335_335 N rc x2 x3 x4 x5 x6 x7 x8 s = some (s', v)) (k : Q v (mH h s')) : zz_E zp_P zt_tf zt_fd X (d + 4) zm_335 335 [(0, .ref 61), (2, .int x2), (3, .int x3), (4, .int x4), (5, .int x5), (6, .int x6), (7, .int x7), (8, .int x8)] [] (mH h s) Q := by
  unfold mf_335_335 at hf
  refine mb_335_335 hh  (fun c => ?_) (fun c => ?_)
  · rw [if_pos c] at hf
    exact mr_335_347 hh hrc0 hf k
  · rw [if_neg c] at hf
    exact mr_335_342 hh hrc0 hf k
def mf_335_312 (N : Nat) (rc : Nat → Int32 → Int32 → Int32 → Int32 → Int32 → Int32 → mS → mO) (x2 : Int32) (x3 : Int32) (x4 : Int32) (x6 : Int32) (x7 : Int32) (x8 : Int32) (s : mS) : mO := mf_335_335 N rc x2 x3 x4 21 x6 x7 x8 s
theorem mr_335_312 {X : Nat → Option zz_C} {h : zz_H} (hh : 111 ≤ h.length) {d : Nat} {N : Nat} {rc : Nat → Int32 → Int32 → Int32 → Int32 → Int32 → Int32 → mS → mO} (hrc0 : ∀ {Q : Option Value → zz_H → Prop} {x2 : Int32} {x3 : Int32} {x4 : Int32} {x5 : Int32} {x6 : Int32} {x7 : Int32} {s s' : mS} {v : Option Value}, rc 0 x2 x3 x4 x5 x6 x7 s = some (s', v) → Q v (mH h s') → zz_E zp_P zt_tf zt_fd X (d + 4) zm_335 282 [(0, .ref 61), (2, .int x2), (3, .int x3), (4, .int x4), (5, .int x5), (6, .int x6), (7, .int x7)] [] (mH h s) Q) {Q : Option Value → zz_H → Prop} {x2 : Int32} {x3 : Int32} {x4 : Int32} {x6 : Int32} {x7 : Int32} {x8 : Int32} {s s' : mS} {v : Option Value} (hf : mf_335_312 N rc x2 x3 x4 x6 x7 x8 s = some (s', v)) (k : Q v (mH h s')) : zz_E zp_P zt_tf zt_fd X (d + 4) zm_335 312 [(0, .ref 61), (2, .int x2), (3, .int x3), (4, .int x4), (6, .int x6), (7, .int x7), (8, .int x8)] [] (mH h s) Q := by
  unfold mf_335_312 at hf
  exact mb_335_312 hh  (mr_335_335 hh hrc0 hf k)
def mf_335_333 (N : Nat) (rc : Nat → Int32 → Int32 → Int32 → Int32 → Int32 → Int32 → mS → mO) (x2 : Int32) (x3 : Int32) (x4 : Int32) (x6 : Int32) (x7 : Int32) (x8 : Int32) (y0 : Int32) (s : mS) : mO := mf_335_335 N rc x2 x3 x4 y0 x6 x7 x8 s
theorem mr_335_333 {X : Nat → Option zz_C} {h : zz_H} (hh : 111 ≤ h.length) {d : Nat} {N : Nat} {rc : Nat → Int32 → Int32 → Int32 → Int32 → Int32 → Int32 → mS → mO} (hrc0 : ∀ {Q : Option Value → zz_H → Prop} {x2 : Int32} {x3 : Int32} {x4 : Int32} {x5 : Int32} {x6 : Int32} {x7 : Int32} {s s' : mS} {v : Option Value}, rc 0 x2 x3 x4 x5 x6 x7 s = some (s', v) → Q v (mH h s') → zz_E zp_P zt_tf zt_fd X (d + 4) zm_335 282 [(0, .ref 61), (2, .int x2), (3, .int x3), (4, .int x4), (5, .int x5), (6, .int x6), (7, .int x7)] [] (mH h s) Q) {Q : Option Value → zz_H → Prop} {x2 : Int32} {x3 : Int32} {x4 : Int32} {x6 : Int32} {x7 : Int32} {x8 : Int32} {y0 : Int32} {s s' : mS} {v : Option Value} (hf : mf_335_333 N rc x2 x3 x4 x6 x7 x8 y0 s = some (s', v)) (k : Q v (mH h s')) : zz_E zp_P zt_tf zt_fd X (d + 4) zm_335 333 [(0, .ref 61), (2, .int x2), (3, .int x3), (4, .int x4), (6, .int x6), (7, .int x7), (8, .int x8)] [.int y0] (mH h s) Q := by
  unfold mf_335_333 at hf
  exact mb_335_333 hh  (mr_335_335 hh hrc0 hf k)
def mf_335_324 (N : Nat) (rc : Nat → Int32 → Int32 → Int32 → Int32 → Int32 → Int32 → mS → mO) (x2 : Int32) (x3 : Int32) (x4 : Int32) (x5 : Int32) (x6 : Int32) (x7 : Int32) (x8 : Int32) (s : mS) : mO := mo_bi (mf_326 N x5 (x8 + 1) s) (fun s1 y => mf_335_333 N rc x2 x3 x4 x6 x7 x8 y s1)
theorem mr_335_324 {X : Nat → Option zz_C} {h : zz_H} (hh : 111 ≤ h.length) {d : Nat} {N : Nat} {rc : Nat → Int32 → Int32 → Int32 → Int32 → Int32 → Int32 → mS → mO} (hrc0 : ∀ {Q : Option Value → zz_H → Prop} {x2 : Int32} {x3 : Int32} {x4 : Int32} {x5 : Int32} {x6 : Int32} {x7 : Int32} {s s' : mS} {v : Option Value}, rc 0 x2 x3 x4 x5 x6 x7 s = some (s', v) → Q v (mH h s') → zz_E zp_P zt_tf zt_fd X (d + 4) zm_335 282 [(0, .ref 61), (2, .int x2), (3, .int x3), (4, .int x4), (5, .int x5), (6, .int x6), (7, .int x7)] [] (mH h s) Q) {Q : Option Value → zz_H → Prop} {x2 : Int32} {x3 : Int32} {x4 : Int32} {x5 : Int32} {x6 : Int32} {x7 : Int32} {x8 : Int32} {s s' : mS} {v : Option Value} (hf : mf_335_324 N rc x2 x3 x4 x5 x6 x7 x8 s = some (s', v)) (k : Q v (mH h s')) : zz_E zp_P zt_tf zt_fd X (d + 4) zm_335 324 [(0, .ref 61), (2, .int x2), (3, .int x3), (4, .int x4), (5, .int x5), (6, .int x6), (7, .int x7), (8, .int x8)] [] (mH h s) Q := by
  unfold mf_335_324 at hf
  obtain ⟨s1, y, e, hf⟩ := mo_bi_ok hf
  exact mb_335_324 (d := d + 3) hh  (mr_326 (d := d + 3) hh e (mr_335_333 hh hrc0 hf k))
def mf_335_319 (N : Nat) (rc : Nat → Int32 → Int32 → Int32 → Int32 → Int32 → Int32 → mS → mO) (x2 : Int32) (x3 : Int32) (x4 : Int32) (x5 : Int32) (x6 : Int32) (x7 : Int32) (x8 : Int32) (s : mS) : mO := if x8 < 0 then mf_335_335 N rc x2 x3 x4 x5 x6 x7 x8 s else mf_335_324 N rc x2 x3 x4 x5 x6 x7 x8 s
theorem mr_335_319 {X : Nat → Option zz_C} {h : zz_H} (hh : 111 ≤ h.length) {d : Nat} {N : Nat} {rc : Nat → Int32 → Int32 → Int32 → Int32 → Int32 → Int32 → mS → mO} (hrc0 : ∀ {Q : Option Value → zz_H → Prop} {x2 : Int32} {x3 : Int32} {x4 : Int32} {x5 : Int32} {x6 : Int32} {x7 : Int32} {s s' : mS} {v : Option Value}, rc 0 x2 x3 x4 x5 x6 x7 s = some (s', v) → Q v (mH h s') → zz_E zp_P zt_tf zt_fd X (d + 4) zm_335 282 [(0, .ref 61), (2, .int x2), (3, .int x3), (4, .int x4), (5, .int x5), (6, .int x6), (7, .int x7)] [] (mH h s) Q) {Q : Option Value → zz_H → Prop} {x2 : Int32} {x3 : Int32} {x4 : Int32} {x5 : Int32} {x6 : Int32} {x7 : Int32} {x8 : Int32} {s s' : mS} {v : Option Value} (hf : mf_335_319 N rc x2 x3 x4 x5 x6 x7 x8 s = some (s', v)) (k : Q v (mH h s')) : zz_E zp_P zt_tf zt_fd X (d + 4) zm_335 319 [(0, .ref 61), (2, .int x2), (3, .int x3), (4, .int x4), (5, .int x5), (6, .int x6), (7, .int x7), (8, .int x8)] [] (mH h s) Q := by
  unfold mf_335_319 at hf
  refine mb_335_319 hh  (fun c => ?_) (fun c => ?_)
  · rw [if_pos c] at hf
    exact mr_335_335 hh hrc0 hf k
  · rw [if_neg c] at hf
    exact mr_335_324 hh hrc0 hf k
def mf_335_292 (N : Nat) (rc : Nat → Int32 → Int32 → Int32 → Int32 → Int32 → Int32 → mS → mO) (x2 : Int32) (x3 : Int32) (x4 : Int32) (x5 : Int32) (x6 : Int32) (x7 : Int32) (s : mS) : mO := if ¬ (((x2 + 2) + x7) < 0 ∨ 166300 ≤ Int32.toNatClampNeg ((x2 + 2) + x7)) then (if ((s.2.2.1 47) (Int32.toNatClampNeg ((x2 + 2) + x7))) ≤ 19 then mf_335_319 N rc x2 x3 x4 x5 x6 x7 ((s.2.2.1 47) (Int32.toNatClampNeg ((x2 + 2) + x7))) s else mf_335_312 N rc x2 x3 x4 x6 x7 ((s.2.2.1 47) (Int32.toNatClampNeg ((x2 + 2) + x7))) s) else none
theorem mr_335_292 {X : Nat → Option zz_C} {h : zz_H} (hh : 111 ≤ h.length) {d : Nat} {N : Nat} {rc : Nat → Int32 → Int32 → Int32 → Int32 → Int32 → Int32 → mS → mO} (hrc0 : ∀ {Q : Option Value → zz_H → Prop} {x2 : Int32} {x3 : Int32} {x4 : Int32} {x5 : Int32} {x6 : Int32} {x7 : Int32} {s s' : mS} {v : Option Value}, rc 0 x2 x3 x4 x5 x6 x7 s = some (s', v) → Q v (mH h s') → zz_E zp_P zt_tf zt_fd X (d + 4) zm_335 282 [(0, .ref 61), (2, .int x2), (3, .int x3), (4, .int x4), (5, .int x5), (6, .int x6), (7, .int x7)] [] (mH h s) Q) {Q : Option Value → zz_H → Prop} {x2 : Int32} {x3 : Int32} {x4 : Int32} {x5 : Int32} {x6 : Int32} {x7 : Int32} {s s' : mS} {v : Option Value} (hf : mf_335_292 N rc x2 x3 x4 x5 x6 x7 s = some (s', v)) (k : Q v (mH h s')) : zz_E zp_P zt_tf zt_fd X (d + 4) zm_335 292 [(0, .ref 61), (2, .int x2), (3, .int x3), (4, .int x4), (5, .int x5), (6, .int x6), (7, .int x7)] [] (mH h s) Q := by
  unfold mf_335_292 at hf
  obtain ⟨q0, hf⟩ := mo_if hf
  refine mb_335_292 hh q0 (fun c => ?_) (fun c => ?_)
  · rw [if_pos c] at hf
    exact mr_335_319 hh hrc0 hf k
  · rw [if_neg c] at hf
    exact mr_335_312 hh hrc0 hf k
def mf_335_289 (N : Nat) (rc : Nat → Int32 → Int32 → Int32 → Int32 → Int32 → Int32 → mS → mO) (x2 : Int32) (x3 : Int32) (x4 : Int32) (x5 : Int32) (x6 : Int32) (x7 : Int32) (y0 : Int32) (y1 : Int32) (s : mS) : mO := if y1 ≤ y0 then mf_335_357 N x2 x3 x4 x5 x6 s else mf_335_292 N rc x2 x3 x4 x5 x6 x7 s
theorem mr_335_289 {X : Nat → Option zz_C} {h : zz_H} (hh : 111 ≤ h.length) {d : Nat} {N : Nat} {rc : Nat → Int32 → Int32 → Int32 → Int32 → Int32 → Int32 → mS → mO} (hrc0 : ∀ {Q : Option Value → zz_H → Prop} {x2 : Int32} {x3 : Int32} {x4 : Int32} {x5 : Int32} {x6 : Int32} {x7 : Int32} {s s' : mS} {v : Option Value}, rc 0 x2 x3 x4 x5 x6 x7 s = some (s', v) → Q v (mH h s') → zz_E zp_P zt_tf zt_fd X (d + 4) zm_335 282 [(0, .ref 61), (2, .int x2), (3, .int x3), (4, .int x4), (5, .int x5), (6, .int x6), (7, .int x7)] [] (mH h s) Q) {Q : Option Value → zz_H → Prop} {x2 : Int32} {x3 : Int32} {x4 : Int32} {x5 : Int32} {x6 : Int32} {x7 : Int32} {y0 : Int32} {y1 : Int32} {s s' : mS} {v : Option Value} (hf : mf_335_289 N rc x2 x3 x4 x5 x6 x7 y0 y1 s = some (s', v)) (k : Q v (mH h s')) : zz_E zp_P zt_tf zt_fd X (d + 4) zm_335 289 [(0, .ref 61), (2, .int x2), (3, .int x3), (4, .int x4), (5, .int x5), (6, .int x6), (7, .int x7)] [.int y1, .int y0] (mH h s) Q := by
  unfold mf_335_289 at hf
  refine mb_335_289 hh  (fun c => ?_) (fun c => ?_)
  · rw [if_pos c] at hf
    exact mr_335_357 hh hf k
  · rw [if_neg c] at hf
    exact mr_335_292 hh hrc0 hf k
def mf_335_282 (N : Nat) (rc : Nat → Int32 → Int32 → Int32 → Int32 → Int32 → Int32 → mS → mO) (x2 : Int32) (x3 : Int32) (x4 : Int32) (x5 : Int32) (x6 : Int32) (x7 : Int32) (s : mS) : mO := mo_bi (mf_77 N x2 s) (fun s1 y => mf_335_289 N rc x2 x3 x4 x5 x6 x7 x7 y s1)
theorem mr_335_282 {X : Nat → Option zz_C} {h : zz_H} (hh : 111 ≤ h.length) {d : Nat} {N : Nat} {rc : Nat → Int32 → Int32 → Int32 → Int32 → Int32 → Int32 → mS → mO} (hrc0 : ∀ {Q : Option Value → zz_H → Prop} {x2 : Int32} {x3 : Int32} {x4 : Int32} {x5 : Int32} {x6 : Int32} {x7 : Int32} {s s' : mS} {v : Option Value}, rc 0 x2 x3 x4 x5 x6 x7 s = some (s', v) → Q v (mH h s') → zz_E zp_P zt_tf zt_fd X (d + 4) zm_335 282 [(0, .ref 61), (2, .int x2), (3, .int x3), (4, .int x4), (5, .int x5), (6, .int x6), (7, .int x7)] [] (mH h s) Q) {Q : Option Value → zz_H → Prop} {x2 : Int32} {x3 : Int32} {x4 : Int32} {x5 : Int32} {x6 : Int32} {x7 : Int32} {s s' : mS} {v : Option Value} (hf : mf_335_282 N rc x2 x3 x4 x5 x6 x7 s = some (s', v)) (k : Q v (mH h s')) : zz_E zp_P zt_tf zt_fd X (d + 4) zm_335 282 [(0, .ref 61), (2, .int x2), (3, .int x3), (4, .int x4), (5, .int x5), (6, .int x6), (7, .int x7)] [] (mH h s) Q := by
  unfold mf_335_282 at hf
  obtain ⟨s1, y, e, hf⟩ := mo_bi_ok hf
  exact mb_335_282 (d := d + 3) hh  (mr_77 (d := d + 3) hh e (mr_335_289 hh hrc0 hf k))
def mf_335_L11 (N : Nat) : Nat → Nat → Int32 → Int32 → Int32 → Int32 → Int32 → Int32 → mS → mO
  | 0, _, _, _, _, _, _, _, _ => none
  | n + 1, l, x2, x3, x4, x5, x6, x7, s => if l = 0 then mf_335_282 N (mf_335_L11 N n) x2 x3 x4 x5 x6 x7 s else none
theorem mr_335_L11 {X : Nat → Option zz_C} {h : zz_H} (hh : 111 ≤ h.length) {d : Nat} {N : Nat} : ∀ n : Nat, (∀ {Q : Option Value → zz_H → Prop} {x2 : Int32} {x3 : Int32} {x4 : Int32} {x5 : Int32} {x6 : Int32} {x7 : Int32} {s s' : mS} {v : Option Value}, mf_335_L11 N n 0 x2 x3 x4 x5 x6 x7 s = some (s', v) → Q v (mH h s') → zz_E zp_P zt_tf zt_fd X (d + 4) zm_335 282 [(0, .ref 61), (2, .int x2), (3, .int x3), (4, .int x4), (5, .int x5), (6, .int x6), (7, .int x7)] [] (mH h s) Q) := by
  intro n
  induction n with
  | zero => exact (fun hf _ => by cases hf)
  | succ n ih =>
    have h0 := @ih
    intro Q _ _ _ _ _ _ s s' v hf k
    unfold mf_335_L11 at hf
    rw [if_pos rfl] at hf
    exact mr_335_282 hh h0 hf k
def mf_335_279 (N : Nat) (x2 : Int32) (x3 : Int32) (x4 : Int32) (x5 : Int32) (x6 : Int32) (s : mS) : mO := mf_335_L11 N N 0 x2 x3 x4 x5 x6 0 s
theorem mr_335_279 {X : Nat → Option zz_C} {h : zz_H} (hh : 111 ≤ h.length) {d : Nat} {N : Nat} {Q : Option Value → zz_H → Prop} {x2 : Int32} {x3 : Int32} {x4 : Int32} {x5 : Int32} {x6 : Int32} {s s' : mS} {v : Option Value} (hf : mf_335_279 N x2 x3 x4 x5 x6 s = some (s', v)) (k : Q v (mH h s')) : zz_E zp_P zt_tf zt_fd X (d + 4) zm_335 279 [(0, .ref 61), (2, .int x2), (3, .int x3), (4, .int x4), (5, .int x5), (6, .int x6)] [] (mH h s) Q := by
  unfold mf_335_279 at hf
  exact mb_335_279 hh  (mr_335_L11 hh N hf k)
def mf_335_276 (N : Nat) (x2 : Int32) (x3 : Int32) (x4 : Int32) (x5 : Int32) (x6 : Int32) (s : mS) : mO := mf_335_357 N x2 x3 x4 x5 x6 s
theorem mr_335_276 {X : Nat → Option zz_C} {h : zz_H} (hh : 111 ≤ h.length) {d : Nat} {N : Nat} {Q : Option Value → zz_H → Prop} {x2 : Int32} {x3 : Int32} {x4 : Int32} {x5 : Int32} {x6 : Int32} {s s' : mS} {v : Option Value} (hf : mf_335_276 N x2 x3 x4 x5 x6 s = some (s', v)) (k : Q v (mH h s')) : zz_E zp_P zt_tf zt_fd X (d + 4) zm_335 276 [(0, .ref 61), (2, .int x2), (3, .int x3), (4, .int x4), (5, .int x5), (6, .int x6)] [] (mH h s) Q := by
  unfold mf_335_276 at hf
  exact mb_335_276 hh  (mr_335_357 hh hf k)
def mf_335_268 (N : Nat) (rc : Nat → Int32 → Int32 → Int32 → Int32 → Int32 → Int32 → mS → mO) (x2 : Int32) (x3 : Int32) (x4 : Int32) (x6 : Int32) (x7 : Int32) (y0 : Int32) (s : mS) : mO := rc 0 x2 x3 x4 y0 x6 (x7 + 1) s
theorem mr_335_268 {X : Nat → Option zz_C} {h : zz_H} (hh : 111 ≤ h.length) {d : Nat} {N : Nat} {rc : Nat → Int32 → Int32 → Int32 → Int32 → Int32 → Int32 → mS → mO} (hrc0 : ∀ {Q : Option Value → zz_H → Prop} {x2 : Int32} {x3 : Int32} {x4 : Int32} {x5 : Int32} {x6 : Int32} {x7 : Int32} {s s' : mS} {v : Option Value}, rc 0 x2 x3 x4 x5 x6 x7 s = some (s', v) → Q v (mH h s') → zz_E zp_P zt_tf zt_fd X (d + 4) zm_335 242 [(0, .ref 61), (2, .int x2), (3, .int x3), (4, .int x4), (5, .int x5), (6, .int x6), (7, .int x7)] [] (mH h s) Q) {Q : Option Value → zz_H → Prop} {x2 : Int32} {x3 : Int32} {x4 : Int32} {x6 : Int32} {x7 : Int32} {y0 : Int32} {s s' : mS} {v : Option Value} (hf : mf_335_268 N rc x2 x3 x4 x6 x7 y0 s = some (s', v)) (k : Q v (mH h s')) : zz_E zp_P zt_tf zt_fd X (d + 4) zm_335 268 [(0, .ref 61), (2, .int x2), (3, .int x3), (4, .int x4), (6, .int x6), (7, .int x7)] [.int y0] (mH h s) Q := by
  unfold mf_335_268 at hf
  exact mb_335_268 hh  (hrc0 hf k)
def mf_335_265 (N : Nat) (rc : Nat → Int32 → Int32 → Int32 → Int32 → Int32 → Int32 → mS → mO) (x2 : Int32) (x3 : Int32) (x4 : Int32) (x6 : Int32) (x7 : Int32) (y0 : Int32) (y1 : Int32) (s : mS) : mO := mo_bi (mf_326 N y0 y1 s) (fun s1 y => mf_335_268 N rc x2 x3 x4 x6 x7 y s1)
theorem mr_335_265 {X : Nat → Option zz_C} {h : zz_H} (hh : 111 ≤ h.length) {d : Nat} {N : Nat} {rc : Nat → Int32 → Int32 → Int32 → Int32 → Int32 → Int32 → mS → mO} (hrc0 : ∀ {Q : Option Value → zz_H → Prop} {x2 : Int32} {x3 : Int32} {x4 : Int32} {x5 : Int32} {x6 : Int32} {x7 : Int32} {s s' : mS} {v : Option Value}, rc 0 x2 x3 x4 x5 x6 x7 s = some (s', v) → Q v (mH h s') → zz_E zp_P zt_tf zt_fd X (d + 4) zm_335 242 [(0, .ref 61), (2, .int x2), (3, .int x3), (4, .int x4), (5, .int x5), (6, .int x6), (7, .int x7)] [] (mH h s) Q) {Q : Option Value → zz_H → Prop} {x2 : Int32} {x3 : Int32} {x4 : Int32} {x6 : Int32} {x7 : Int32} {y0 : Int32} {y1 : Int32} {s s' : mS} {v : Option Value} (hf : mf_335_265 N rc x2 x3 x4 x6 x7 y0 y1 s = some (s', v)) (k : Q v (mH h s')) : zz_E zp_P zt_tf zt_fd X (d + 4) zm_335 265 [(0, .ref 61), (2, .int x2), (3, .int x3), (4, .int x4), (6, .int x6), (7, .int x7)] [.int y1, .int y0] (mH h s) Q := by
  unfold mf_335_265 at hf
  obtain ⟨s1, y, e, hf⟩ := mo_bi_ok hf
  exact mb_335_265 (d := d + 3) hh  (mr_326 (d := d + 3) hh e (mr_335_268 hh hrc0 hf k))
def mf_335_262 (N : Nat) (rc : Nat → Int32 → Int32 → Int32 → Int32 → Int32 → Int32 → mS → mO) (x2 : Int32) (x3 : Int32) (x4 : Int32) (x6 : Int32) (x7 : Int32) (y0 : Int32) (y2 : Int32) (s : mS) : mO := mo_bi (mf_77 N y2 s) (fun s1 y => mf_335_265 N rc x2 x3 x4 x6 x7 y0 y s1)
theorem mr_335_262 {X : Nat → Option zz_C} {h : zz_H} (hh : 111 ≤ h.length) {d : Nat} {N : Nat} {rc : Nat → Int32 → Int32 → Int32 → Int32 → Int32 → Int32 → mS → mO} (hrc0 : ∀ {Q : Option Value → zz_H → Prop} {x2 : Int32} {x3 : Int32} {x4 : Int32} {x5 : Int32} {x6 : Int32} {x7 : Int32} {s s' : mS} {v : Option Value}, rc 0 x2 x3 x4 x5 x6 x7 s = some (s', v) → Q v (mH h s') → zz_E zp_P zt_tf zt_fd X (d + 4) zm_335 242 [(0, .ref 61), (2, .int x2), (3, .int x3), (4, .int x4), (5, .int x5), (6, .int x6), (7, .int x7)] [] (mH h s) Q) {Q : Option Value → zz_H → Prop} {x2 : Int32} {x3 : Int32} {x4 : Int32} {x6 : Int32} {x7 : Int32} {y0 : Int32} {y2 : Int32} {s s' : mS} {v : Option Value} (hf : mf_335_262 N rc x2 x3 x4 x6 x7 y0 y2 s = some (s', v)) (k : Q v (mH h s')) : zz_E zp_P zt_tf zt_fd X (d + 4) zm_335 262 [(0, .ref 61), (2, .int x2), (3, .int x3), (4, .int x4), (6, .int x6), (7, .int x7)] [.int y2, .ref 61, .int y0] (mH h s) Q := by
  unfold mf_335_262 at hf
  obtain ⟨s1, y, e, hf⟩ := mo_bi_ok hf
  exact mb_335_262 (d := d + 3) hh  (mr_77 (d := d + 3) hh e (mr_335_265 hh hrc0 hf k))
def mf_335_252 (N : Nat) (rc : Nat → Int32 → Int32 → Int32 → Int32 → Int32 → Int32 → mS → mO) (x2 : Int32) (x3 : Int32) (x4 : Int32) (x5 : Int32) (x6 : Int32) (x7 : Int32) (s : mS) : mO := mo_bi (mf_294 N x2 x7 s) (fun s1 y => mf_335_262 N rc x2 x3 x4 x6 x7 x5 y s1)
theorem mr_335_252 {X : Nat → Option zz_C} {h : zz_H} (hh : 111 ≤ h.length) {d : Nat} {N : Nat} {rc : Nat → Int32 → Int32 → Int32 → Int32 → Int32 → Int32 → mS → mO} (hrc0 : ∀ {Q : Option Value → zz_H → Prop} {x2 : Int32} {x3 : Int32} {x4 : Int32} {x5 : Int32} {x6 : Int32} {x7 : Int32} {s s' : mS} {v : Option Value}, rc 0 x2 x3 x4 x5 x6 x7 s = some (s', v) → Q v (mH h s') → zz_E zp_P zt_tf zt_fd X (d + 4) zm_335 242 [(0, .ref 61), (2, .int x2), (3, .int x3), (4, .int x4), (5, .int x5), (6, .int x6), (7, .int x7)] [] (mH h s) Q) {Q : Option Value → zz_H → Prop} {x2 : Int32} {x3 : Int32} {x4 : Int32} {x5 : Int32} {x6 : Int32} {x7 : Int32} {s s' : mS} {v : Option Value} (hf : mf_335_252 N rc x2 x3 x4 x5 x6 x7 s = some (s', v)) (k : Q v (mH h s')) : zz_E zp_P zt_tf zt_fd X (d + 4) zm_335 252 [(0, .ref 61), (2, .int x2), (3, .int x3), (4, .int x4), (5, .int x5), (6, .int x6), (7, .int x7)] [] (mH h s) Q := by
  unfold mf_335_252 at hf
  obtain ⟨s1, y, e, hf⟩ := mo_bi_ok hf
  exact mb_335_252 (d := d + 3) hh  (mr_294 (d := d + 3) hh e (mr_335_262 hh hrc0 hf k))
def mf_335_249 (N : Nat) (rc : Nat → Int32 → Int32 → Int32 → Int32 → Int32 → Int32 → mS → mO) (x2 : Int32) (x3 : Int32) (x4 : Int32) (x5 : Int32) (x6 : Int32) (x7 : Int32) (y0 : Int32) (y1 : Int32) (s : mS) : mO := if y1 ≤ y0 then mf_335_276 N x2 x3 x4 x5 x6 s else mf_335_252 N rc x2 x3 x4 x5 x6 x7 s
theorem mr_335_249 {X : Nat → Option zz_C} {h : zz_H} (hh : 111 ≤ h.length) {d : Nat} {N : Nat} {rc : Nat → Int32 → Int32 → Int32 → Int32 → Int32 → Int32 → mS → mO} (hrc0 : ∀ {Q : Option Value → zz_H → Prop} {x2 : Int32} {x3 : Int32} {x4 : Int32} {x5 : Int32} {x6 : Int32} {x7 : Int32} {s s' : mS} {v : Option Value}, rc 0 x2 x3 x4 x5 x6 x7 s = some (s', v) → Q v (mH h s') → zz_E zp_P zt_tf zt_fd X (d + 4) zm_335 242 [(0, .ref 61), (2, .int x2), (3, .int x3), (4, .int x4), (5, .int x5), (6, .int x6), (7, .int x7)] [] (mH h s) Q) {Q : Option Value → zz_H → Prop} {x2 : Int32} {x3 : Int32} {x4 : Int32} {x5 : Int32} {x6 : Int32} {x7 : Int32} {y0 : Int32} {y1 : Int32} {s s' : mS} {v : Option Value} (hf : mf_335_249 N rc x2 x3 x4 x5 x6 x7 y0 y1 s = some (s', v)) (k : Q v (mH h s')) : zz_E zp_P zt_tf zt_fd X (d + 4) zm_335 249 [(0, .ref 61), (2, .int x2), (3, .int x3), (4, .int x4), (5, .int x5), (6, .int x6), (7, .int x7)] [.int y1, .int y0] (mH h s) Q := by
  unfold mf_335_249 at hf
  refine mb_335_249 hh  (fun c => ?_) (fun c => ?_)
  · rw [if_pos c] at hf
    exact mr_335_276 hh hf k
  · rw [if_neg c] at hf
    exact mr_335_252 hh hrc0 hf k
def mf_335_242 (N : Nat) (rc : Nat → Int32 → Int32 → Int32 → Int32 → Int32 → Int32 → mS → mO) (x2 : Int32) (x3 : Int32) (x4 : Int32) (x5 : Int32) (x6 : Int32) (x7 : Int32) (s : mS) : mO := mo_bi (mf_77 N x2 s) (fun s1 y => mf_335_249 N rc x2 x3 x4 x5 x6 x7 x7 y s1)
theorem mr_335_242 {X : Nat → Option zz_C} {h : zz_H} (hh : 111 ≤ h.length) {d : Nat} {N : Nat} {rc : Nat → Int32 → Int32 → Int32 → Int32 → Int32 → Int32 → mS → mO} (hrc0 : ∀ {Q : Option Value → zz_H → Prop} {x2 : Int32} {x3 : Int32} {x4 : Int32} {x5 : Int32} {x6 : Int32} {x7 : Int32} {s s' : mS} {v : Option Value}, rc 0 x2 x3 x4 x5 x6 x7 s = some (s', v) → Q v (mH h s') → zz_E zp_P zt_tf zt_fd X (d + 4) zm_335 242 [(0, .ref 61), (2, .int x2), (3, .int x3), (4, .int x4), (5, .int x5), (6, .int x6), (7, .int x7)] [] (mH h s) Q) {Q : Option Value → zz_H → Prop} {x2 : Int32} {x3 : Int32} {x4 : Int32} {x5 : Int32} {x6 : Int32} {x7 : Int32} {s s' : mS} {v : Option Value} (hf : mf_335_242 N rc x2 x3 x4 x5 x6 x7 s = some (s', v)) (k : Q v (mH h s')) : zz_E zp_P zt_tf zt_fd X (d + 4) zm_335 242 [(0, .ref 61), (2, .int x2), (3, .int x3), (4, .int x4), (5, .int x5), (6, .int x6), (7, .int x7)] [] (mH h s) Q := by
  unfold mf_335_242 at hf
  obtain ⟨s1, y, e, hf⟩ := mo_bi_ok hf
  exact mb_335_242 (d := d + 3) hh  (mr_77 (d := d + 3) hh e (mr_335_249 hh hrc0 hf k))
def mf_335_L14 (N : Nat) : Nat → Nat → Int32 → Int32 → Int32 → Int32 → Int32 → Int32 → mS → mO
  | 0, _, _, _, _, _, _, _, _ => none
  | n + 1, l, x2, x3, x4, x5, x6, x7, s => if l = 0 then mf_335_242 N (mf_335_L14 N n) x2 x3 x4 x5 x6 x7 s else none
theorem mr_335_L14 {X : Nat → Option zz_C} {h : zz_H} (hh : 111 ≤ h.length) {d : Nat} {N : Nat} : ∀ n : Nat, (∀ {Q : Option Value → zz_H → Prop} {x2 : Int32} {x3 : Int32} {x4 : Int32} {x5 : Int32} {x6 : Int32} {x7 : Int32} {s s' : mS} {v : Option Value}, mf_335_L14 N n 0 x2 x3 x4 x5 x6 x7 s = some (s', v) → Q v (mH h s') → zz_E zp_P zt_tf zt_fd X (d + 4) zm_335 242 [(0, .ref 61), (2, .int x2), (3, .int x3), (4, .int x4), (5, .int x5), (6, .int x6), (7, .int x7)] [] (mH h s) Q) := by
  intro n
  induction n with
  | zero => exact (fun hf _ => by cases hf)
  | succ n ih =>
    have h0 := @ih
    intro Q _ _ _ _ _ _ s s' v hf k
    unfold mf_335_L14 at hf
    rw [if_pos rfl] at hf
    exact mr_335_242 hh h0 hf k
def mf_335_239 (N : Nat) (x2 : Int32) (x3 : Int32) (x4 : Int32) (x5 : Int32) (x6 : Int32) (s : mS) : mO := mf_335_L14 N N 0 x2 x3 x4 x5 x6 0 s
theorem mr_335_239 {X : Nat → Option zz_C} {h : zz_H} (hh : 111 ≤ h.length) {d : Nat} {N : Nat} {Q : Option Value → zz_H → Prop} {x2 : Int32} {x3 : Int32} {x4 : Int32} {x5 : Int32} {x6 : Int32} {s s' : mS} {v : Option Value} (hf : mf_335_239 N x2 x3 x4 x5 x6 s = some (s', v)) (k : Q v (mH h s')) : zz_E zp_P zt_tf zt_fd X (d + 4) zm_335 239 [(0, .ref 61), (2, .int x2), (3, .int x3), (4, .int x4), (5, .int x5), (6, .int x6)] [] (mH h s) Q := by
  unfold mf_335_239 at hf
  exact mb_335_239 hh  (mr_335_L14 hh N hf k)
def mf_335_230 (N : Nat) (x1 : Int32) (x2 : Int32) (x3 : Int32) (x4 : Int32) (x5 : Int32) (s : mS) : mO := if ¬ x1 = 17 then mf_335_279 N x2 x3 x4 x5 0 s else mf_335_239 N x2 x3 x4 x5 0 s
theorem mr_335_230 {X : Nat → Option zz_C} {h : zz_H} (hh : 111 ≤ h.length) {d : Nat} {N : Nat} {Q : Option Value → zz_H → Prop} {x1 : Int32} {x2 : Int32} {x3 : Int32} {x4 : Int32} {x5 : Int32} {s s' : mS} {v : Option Value} (hf : mf_335_230 N x1 x2 x3 x4 x5 s = some (s', v)) (k : Q v (mH h s')) : zz_E zp_P zt_tf zt_fd X (d + 4) zm_335 230 [(0, .ref 61), (1, .int x1), (2, .int x2), (3, .int x3), (4, .int x4), (5, .int x5)] [] (mH h s) Q := by
  unfold mf_335_230 at hf
  refine mb_335_230 hh  (fun c => ?_) (fun c => ?_)
  · rw [if_pos c] at hf
    exact mr_335_279 hh hf k
  · rw [if_neg c] at hf
    exact mr_335_239 hh hf k
def mf_335_229 (N : Nat)  (s : mS) : mO := some (s, none)
theorem mr_335_229 {X : Nat → Option zz_C} {h : zz_H} (hh : 111 ≤ h.length) {d : Nat} {N : Nat} {Q : Option Value → zz_H → Prop}  {s s' : mS} {v : Option Value} (hf : mf_335_229 N  s = some (s', v)) (k : Q v (mH h s')) : zz_E zp_P zt_tf zt_fd X (d + 4) zm_335 229 [] [] (mH h s) Q := by
  unfold mf_335_229 at hf
  cases hf
  exact mb_335_229 hh  k
def mf_335_223 (N : Nat) (x3 : Int32) (s : mS) : mO := mo_bv (mf_305 N 1 x3 s) (fun s1 => mf_335_229 N  s1)
theorem mr_335_223 {X : Nat → Option zz_C} {h : zz_H} (hh : 111 ≤ h.length) {d : Nat} {N : Nat} {Q : Option Value → zz_H → Prop} {x3 : Int32} {s s' : mS} {v : Option Value} (hf : mf_335_223 N x3 s = some (s', v)) (k : Q v (mH h s')) : zz_E zp_P zt_tf zt_fd X (d + 4) zm_335 223 [(0, .ref 61), (3, .int x3)] [] (mH h s) Q := by
  unfold mf_335_223 at hf
  obtain ⟨s1, e, hf⟩ := mo_bv_ok hf
  exact mb_335_223 (d := d + 3) hh  (mr_305 (d := d + 0) hh e (mr_335_229 hh hf k))
def mf_335_217 (N : Nat) (rc : Nat → Int32 → Int32 → Int32 → Int32 → Int32 → mS → mO) (x2 : Int32) (x3 : Int32) (x4 : Int32) (x7 : Int32) (s : mS) : mO := rc 0 x2 x3 x4 (x7 + 1) 0 s
theorem mr_335_217 {X : Nat → Option zz_C} {h : zz_H} (hh : 111 ≤ h.length) {d : Nat} {N : Nat} {rc : Nat → Int32 → Int32 → Int32 → Int32 → Int32 → mS → mO} (hrc0 : ∀ {Q : Option Value → zz_H → Prop} {x2 : Int32} {x3 : Int32} {x4 : Int32} {x7 : Int32} {s s' : mS} {v : Option Value}, rc 0 x2 x3 x4 x7 0 s = some (s', v) → Q v (mH h s') → zz_E zp_P zt_tf zt_fd X (d + 4) zm_335 143 [(0, .ref 61), (2, .int x2), (3, .int x3), (4, .int x4), (7, .int x7)] [] (mH h s) Q) (hrc1 : ∀ {Q : Option Value → zz_H → Prop} {x2 : Int32} {x3 : Int32} {x4 : Int32} {x7 : Int32} {x8 : Int32} {s s' : mS} {v : Option Value}, rc 1 x2 x3 x4 x7 x8 s = some (s', v) → Q v (mH h s') → zz_E zp_P zt_tf zt_fd X (d + 4) zm_335 182 [(0, .ref 61), (2, .int x2), (3, .int x3), (4, .int x4), (7, .int x7), (8, .int x8)] [] (mH h s) Q) {Q : Option Value → zz_H → Prop} {x2 : Int32} {x3 : Int32} {x4 : Int32} {x7 : Int32} {s s' : mS} {v : Option Value} (hf : mf_335_217 N rc x2 x3 x4 x7 s = some (s', v)) (k : Q v (mH h s')) : zz_E zp_P zt_tf zt_fd X (d + 4) zm_335 217 [(0, .ref 61), (2, .int x2), (3, .int x3), (4, .int x4), (7, .int x7)] [] (mH h s) Q := by
  unfold mf_335_217 at hf
  exact mb_335_217 hh  (hrc0 hf k)
def mf_335_176 (N : Nat) (rc : Nat → Int32 → Int32 → Int32 → Int32 → Int32 → mS → mO) (x2 : Int32) (x3 : Int32) (x4 : Int32) (x7 : Int32) (s : mS) : mO := mf_335_217 N rc x2 x3 x4 x7 s
theorem mr_335_176 {X : Nat → Option zz_C} {h : zz_H} (hh : 111 ≤ h.length) {d : Nat} {N : Nat} {rc : Nat → Int32 → Int32 → Int32 → Int32 → Int32 → mS → mO} (hrc0 : ∀ {Q : Option Value → zz_H → Prop} {x2 : Int32} {x3 : Int32} {x4 : Int32} {x7 : Int32} {s s' : mS} {v : Option Value}, rc 0 x2 x3 x4 x7 0 s = some (s', v) → Q v (mH h s') → zz_E zp_P zt_tf zt_fd X (d + 4) zm_335 143 [(0, .ref 61), (2, .int x2), (3, .int x3), (4, .int x4), (7, .int x7)] [] (mH h s) Q) (hrc1 : ∀ {Q : Option Value → zz_H → Prop} {x2 : Int32} {x3 : Int32} {x4 : Int32} {x7 : Int32} {x8 : Int32} {s s' : mS} {v : Option Value}, rc 1 x2 x3 x4 x7 x8 s = some (s', v) → Q v (mH h s') → zz_E zp_P zt_tf zt_fd X (d + 4) zm_335 182 [(0, .ref 61), (2, .int x2), (3, .int x3), (4, .int x4), (7, .int x7), (8, .int x8)] [] (mH h s) Q) {Q : Option Value → zz_H → Prop} {x2 : Int32} {x3 : Int32} {x4 : Int32} {x7 : Int32} {s s' : mS} {v : Option Value} (hf : mf_335_176 N rc x2 x3 x4 x7 s = some (s', v)) (k : Q v (mH h s')) : zz_E zp_P zt_tf zt_fd X (d + 4) zm_335 176 [(0, .ref 61), (2, .int x2), (3, .int x3), (4, .int x4), (7, .int x7)] [] (mH h s) Q := by
  unfold mf_335_176 at hf
  exact mb_335_176 hh  (mr_335_217 hh hrc0 hrc1 hf k)
def mf_335_169 (N : Nat) (rc : Nat → Int32 → Int32 → Int32 → Int32 → Int32 → mS → mO) (x2 : Int32) (x3 : Int32) (x4 : Int32) (x7 : Int32) (s : mS) : mO := mo_bv (mf_295 N x2 x7 s) (fun s1 => mf_335_176 N rc x2 x3 x4 x7 s1)
theorem mr_335_169 {X : Nat → Option zz_C} {h : zz_H} (hh : 111 ≤ h.length) {d : Nat} {N : Nat} {rc : Nat → Int32 → Int32 → Int32 → Int32 → Int32 → mS → mO} (hrc0 : ∀ {Q : Option Value → zz_H → Prop} {x2 : Int32} {x3 : Int32} {x4 : Int32} {x7 : Int32} {s s' : mS} {v : Option Value}, rc 0 x2 x3 x4 x7 0 s = some (s', v) → Q v (mH h s') → zz_E zp_P zt_tf zt_fd X (d + 4) zm_335 143 [(0, .ref 61), (2, .int x2), (3, .int x3), (4, .int x4), (7, .int x7)] [] (mH h s) Q) (hrc1 : ∀ {Q : Option Value → zz_H → Prop} {x2 : Int32} {x3 : Int32} {x4 : Int32} {x7 : Int32} {x8 : Int32} {s s' : mS} {v : Option Value}, rc 1 x2 x3 x4 x7 x8 s = some (s', v) → Q v (mH h s') → zz_E zp_P zt_tf zt_fd X (d + 4) zm_335 182 [(0, .ref 61), (2, .int x2), (3, .int x3), (4, .int x4), (7, .int x7), (8, .int x8)] [] (mH h s) Q) {Q : Option Value → zz_H → Prop} {x2 : Int32} {x3 : Int32} {x4 : Int32} {x7 : Int32} {s s' : mS} {v : Option Value} (hf : mf_335_169 N rc x2 x3 x4 x7 s = some (s', v)) (k : Q v (mH h s')) : zz_E zp_P zt_tf zt_fd X (d + 4) zm_335 169 [(0, .ref 61), (2, .int x2), (3, .int x3), (4, .int x4), (7, .int x7)] [] (mH h s) Q := by
  unfold mf_335_169 at hf
  obtain ⟨s1, e, hf⟩ := mo_bv_ok hf
  exact mb_335_169 (d := d + 3) hh  (mr_295 (d := d + 2) hh e (mr_335_176 hh hrc0 hrc1 hf k))
def mf_335_179 (N : Nat) (rc : Nat → Int32 → Int32 → Int32 → Int32 → Int32 → mS → mO) (x2 : Int32) (x3 : Int32) (x4 : Int32) (x7 : Int32) (s : mS) : mO := rc 1 x2 x3 x4 x7 0 s
theorem mr_335_179 {X : Nat → Option zz_C} {h : zz_H} (hh : 111 ≤ h.length) {d : Nat} {N : Nat} {rc : Nat → Int32 → Int32 → Int32 → Int32 → Int32 → mS → mO} (hrc0 : ∀ {Q : Option Value → zz_H → Prop} {x2 : Int32} {x3 : Int32} {x4 : Int32} {x7 : Int32} {s s' : mS} {v : Option Value}, rc 0 x2 x3 x4 x7 0 s = some (s', v) → Q v (mH h s') → zz_E zp_P zt_tf zt_fd X (d + 4) zm_335 143 [(0, .ref 61), (2, .int x2), (3, .int x3), (4, .int x4), (7, .int x7)] [] (mH h s) Q) (hrc1 : ∀ {Q : Option Value → zz_H → Prop} {x2 : Int32} {x3 : Int32} {x4 : Int32} {x7 : Int32} {x8 : Int32} {s s' : mS} {v : Option Value}, rc 1 x2 x3 x4 x7 x8 s = some (s', v) → Q v (mH h s') → zz_E zp_P zt_tf zt_fd X (d + 4) zm_335 182 [(0, .ref 61), (2, .int x2), (3, .int x3), (4, .int x4), (7, .int x7), (8, .int x8)] [] (mH h s) Q) {Q : Option Value → zz_H → Prop} {x2 : Int32} {x3 : Int32} {x4 : Int32} {x7 : Int32} {s s' : mS} {v : Option Value} (hf : mf_335_179 N rc x2 x3 x4 x7 s = some (s', v)) (k : Q v (mH h s')) : zz_E zp_P zt_tf zt_fd X (d + 4) zm_335 179 [(0, .ref 61), (2, .int x2), (3, .int x3), (4, .int x4), (7, .int x7)] [] (mH h s) Q := by
  unfold mf_335_179 at hf
  exact mb_335_179 hh  (hrc1 hf k)
def mf_335_166 (N : Nat) (rc : Nat → Int32 → Int32 → Int32 → Int32 → Int32 → mS → mO) (x2 : Int32) (x3 : Int32) (x4 : Int32) (x7 : Int32) (y0 : Int32) (s : mS) : mO := if y0 = 0 then mf_335_179 N rc x2 x3 x4 x7 s else mf_335_169 N rc x2 x3 x4 x7 s
theorem mr_335_166 {X : Nat → Option zz_C} {h : zz_H} (hh : 111 ≤ h.length) {d : Nat} {N : Nat} {rc : Nat → Int32 → Int32 → Int32 → Int32 → Int32 → mS → mO} (hrc0 : ∀ {Q : Option Value → zz_H → Prop} {x2 : Int32} {x3 : Int32} {x4 : Int32} {x7 : Int32} {s s' : mS} {v : Option Value}, rc 0 x2 x3 x4 x7 0 s = some (s', v) → Q v (mH h s') → zz_E zp_P zt_tf zt_fd X (d + 4) zm_335 143 [(0, .ref 61), (2, .int x2), (3, .int x3), (4, .int x4), (7, .int x7)] [] (mH h s) Q) (hrc1 : ∀ {Q : Option Value → zz_H → Prop} {x2 : Int32} {x3 : Int32} {x4 : Int32} {x7 : Int32} {x8 : Int32} {s s' : mS} {v : Option Value}, rc 1 x2 x3 x4 x7 x8 s = some (s', v) → Q v (mH h s') → zz_E zp_P zt_tf zt_fd X (d + 4) zm_335 182 [(0, .ref 61), (2, .int x2), (3, .int x3), (4, .int x4), (7, .int x7), (8, .int x8)] [] (mH h s) Q) {Q : Option Value → zz_H → Prop} {x2 : Int32} {x3 : Int32} {x4 : Int32} {x7 : Int32} {y0 : Int32} {s s' : mS} {v : Option Value} (hf : mf_335_166 N rc x2 x3 x4 x7 y0 s = some (s', v)) (k : Q v (mH h s')) : zz_E zp_P zt_tf zt_fd X (d + 4) zm_335 166 [(0, .ref 61), (2, .int x2), (3, .int x3), (4, .int x4), (7, .int x7)] [.int y0] (mH h s) Q := by
  unfold mf_335_166 at hf
  refine mb_335_166 hh  (fun c => ?_) (fun c => ?_)
  · rw [if_pos c] at hf
    exact mr_335_179 hh hrc0 hrc1 hf k
  · rw [if_neg c] at hf
    exact mr_335_169 hh hrc0 hrc1 hf k
def mf_335_159 (N : Nat) (rc : Nat → Int32 → Int32 → Int32 → Int32 → Int32 → mS → mO) (x2 : Int32) (x3 : Int32) (x4 : Int32) (x7 : Int32) (s : mS) : mO := mo_bi (mf_293 N x2 x7 s) (fun s1 y => mf_335_166 N rc x2 x3 x4 x7 y s1)
theorem mr_335_159 {X : Nat → Option zz_C} {h : zz_H} (hh : 111 ≤ h.length) {d : Nat} {N : Nat} {rc : Nat → Int32 → Int32 → Int32 → Int32 → Int32 → mS → mO} (hrc0 : ∀ {Q : Option Value → zz_H → Prop} {x2 : Int32} {x3 : Int32} {x4 : Int32} {x7 : Int32} {s s' : mS} {v : Option Value}, rc 0 x2 x3 x4 x7 0 s = some (s', v) → Q v (mH h s') → zz_E zp_P zt_tf zt_fd X (d + 4) zm_335 143 [(0, .ref 61), (2, .int x2), (3, .int x3), (4, .int x4), (7, .int x7)] [] (mH h s) Q) (hrc1 : ∀ {Q : Option Value → zz_H → Prop} {x2 : Int32} {x3 : Int32} {x4 : Int32} {x7 : Int32} {x8 : Int32} {s s' : mS} {v : Option Value}, rc 1 x2 x3 x4 x7 x8 s = some (s', v) → Q v (mH h s') → zz_E zp_P zt_tf zt_fd X (d + 4) zm_335 182 [(0, .ref 61), (2, .int x2), (3, .int x3), (4, .int x4), (7, .int x7), (8, .int x8)] [] (mH h s) Q) {Q : Option Value → zz_H → Prop} {x2 : Int32} {x3 : Int32} {x4 : Int32} {x7 : Int32} {s s' : mS} {v : Option Value} (hf : mf_335_159 N rc x2 x3 x4 x7 s = some (s', v)) (k : Q v (mH h s')) : zz_E zp_P zt_tf zt_fd X (d + 4) zm_335 159 [(0, .ref 61), (2, .int x2), (3, .int x3), (4, .int x4), (7, .int x7)] [] (mH h s) Q := by
  unfold mf_335_159 at hf
  obtain ⟨s1, y, e, hf⟩ := mo_bi_ok hf
  exact mb_335_159 (d := d + 3) hh  (mr_293 (d := d + 3) hh e (mr_335_166 hh hrc0 hrc1 hf k))
def mf_335_211 (N : Nat) (rc : Nat → Int32 → Int32 → Int32 → Int32 → Int32 → mS → mO) (x2 : Int32) (x3 : Int32) (x4 : Int32) (x7 : Int32) (x8 : Int32) (s : mS) : mO := rc 1 x2 x3 x4 x7 (x8 + 1) s
theorem mr_335_211 {X : Nat → Option zz_C} {h : zz_H} (hh : 111 ≤ h.length) {d : Nat} {N : Nat} {rc : Nat → Int32 → Int32 → Int32 → Int32 → Int32 → mS → mO} (hrc0 : ∀ {Q : Option Value → zz_H → Prop} {x2 : Int32} {x3 : Int32} {x4 : Int32} {x7 : Int32} {s s' : mS} {v : Option Value}, rc 0 x2 x3 x4 x7 0 s = some (s', v) → Q v (mH h s') → zz_E zp_P zt_tf zt_fd X (d + 4) zm_335 143 [(0, .ref 61), (2, .int x2), (3, .int x3), (4, .int x4), (7, .int x7)] [] (mH h s) Q) (hrc1 : ∀ {Q : Option Value → zz_H → Prop} {x2 : Int32} {x3 : Int32} {x4 : Int32} {x7 : Int32} {x8 : Int32} {s s' : mS} {v : Option Value}, rc 1 x2 x3 x4 x7 x8 s = some (s', v) → Q v (mH h s') → zz_E zp_P zt_tf zt_fd X (d + 4) zm_335 182 [(0, .ref 61), (2, .int x2), (3, .int x3), (4, .int x4), (7, .int x7), (8, .int x8)] [] (mH h s) Q) {Q : Option Value → zz_H → Prop} {x2 : Int32} {x3 : Int32} {x4 : Int32} {x7 : Int32} {x8 : Int32} {s s' : mS} {v : Option Value} (hf : mf_335_211 N rc x2 x3 x4 x7 x8 s = some (s', v)) (k : Q v (mH h s')) : zz_E zp_P zt_tf zt_fd X (d + 4) zm_335 211 [(0, .ref 61), (2, .int x2), (3, .int x3), (4, .int x4), (7, .int x7), (8, .int x8)] [] (mH h s) Q := by
  unfold mf_335_211 at hf
  exact mb_335_211 hh  (hrc1 hf k)
def mf_335_206 (N : Nat) (rc : Nat → Int32 → Int32 → Int32 → Int32 → Int32 → mS → mO) (x2 : Int32) (x3 : Int32) (x4 : Int32) (x7 : Int32) (x8 : Int32) (y1 : Int32) (s : mS) : mO := mo_bv (mf_295 N y1 x8 s) (fun s1 => mf_335_211 N rc x2 x3 x4 x7 x8 s1)
theorem mr_335_206 {X : Nat → Option zz_C} {h : zz_H} (hh : 111 ≤ h.length) {d : Nat} {N : Nat} {rc : Nat → Int32 → Int32 → Int32 → Int32 → Int32 → mS → mO} (hrc0 : ∀ {Q : Option Value → zz_H → Prop} {x2 : Int32} {x3 : Int32} {x4 : Int32} {x7 : Int32} {s s' : mS} {v : Option Value}, rc 0 x2 x3 x4 x7 0 s = some (s', v) → Q v (mH h s') → zz_E zp_P zt_tf zt_fd X (d + 4) zm_335 143 [(0, .ref 61), (2, .int x2), (3, .int x3), (4, .int x4), (7, .int x7)] [] (mH h s) Q) (hrc1 : ∀ {Q : Option Value → zz_H → Prop} {x2 : Int32} {x3 : Int32} {x4 : Int32} {x7 : Int32} {x8 : Int32} {s s' : mS} {v : Option Value}, rc 1 x2 x3 x4 x7 x8 s = some (s', v) → Q v (mH h s') → zz_E zp_P zt_tf zt_fd X (d + 4) zm_335 182 [(0, .ref 61), (2, .int x2), (3, .int x3), (4, .int x4), (7, .int x7), (8, .int x8)] [] (mH h s) Q) {Q : Option Value → zz_H → Prop} {x2 : Int32} {x3 : Int32} {x4 : Int32} {x7 : Int32} {x8 : Int32} {y1 : Int32} {s s' : mS} {v : Option Value} (hf : mf_335_206 N rc x2 x3 x4 x7 x8 y1 s = some (s', v)) (k : Q v (mH h s')) : zz_E zp_P zt_tf zt_fd X (d + 4) zm_335 206 [(0, .ref 61), (2, .int x2), (3, .int x3), (4, .int x4), (7, .int x7), (8, .int x8)] [.int y1, .ref 61] (mH h s) Q := by
  unfold mf_335_206 at hf
  obtain ⟨s1, e, hf⟩ := mo_bv_ok hf
  exact mb_335_206 (d := d + 3) hh  (mr_295 (d := d + 2) hh e (mr_335_211 hh hrc0 hrc1 hf k))
def mf_335_198 (N : Nat) (rc : Nat → Int32 → Int32 → Int32 → Int32 → Int32 → mS → mO) (x2 : Int32) (x3 : Int32) (x4 : Int32) (x7 : Int32) (x8 : Int32) (s : mS) : mO := mo_bi (mf_294 N x2 x7 s) (fun s1 y => mf_335_206 N rc x2 x3 x4 x7 x8 y s1)
theorem mr_335_198 {X : Nat → Option zz_C} {h : zz_H} (hh : 111 ≤ h.length) {d : Nat} {N : Nat} {rc : Nat → Int32 → Int32 → Int32 → Int32 → Int32 → mS → mO} (hrc0 : ∀ {Q : Option Value → zz_H → Prop} {x2 : Int32} {x3 : Int32} {x4 : Int32} {x7 : Int32} {s s' : mS} {v : Option Value}, rc 0 x2 x3 x4 x7 0 s = some (s', v) → Q v (mH h s') → zz_E zp_P zt_tf zt_fd X (d + 4) zm_335 143 [(0, .ref 61), (2, .int x2), (3, .int x3), (4, .int x4), (7, .int x7)] [] (mH h s) Q) (hrc1 : ∀ {Q : Option Value → zz_H → Prop} {x2 : Int32} {x3 : Int32} {x4 : Int32} {x7 : Int32} {x8 : Int32} {s s' : mS} {v : Option Value}, rc 1 x2 x3 x4 x7 x8 s = some (s', v) → Q v (mH h s') → zz_E zp_P zt_tf zt_fd X (d + 4) zm_335 182 [(0, .ref 61), (2, .int x2), (3, .int x3), (4, .int x4), (7, .int x7), (8, .int x8)] [] (mH h s) Q) {Q : Option Value → zz_H → Prop} {x2 : Int32} {x3 : Int32} {x4 : Int32} {x7 : Int32} {x8 : Int32} {s s' : mS} {v : Option Value} (hf : mf_335_198 N rc x2 x3 x4 x7 x8 s = some (s', v)) (k : Q v (mH h s')) : zz_E zp_P zt_tf zt_fd X (d + 4) zm_335 198 [(0, .ref 61), (2, .int x2), (3, .int x3), (4, .int x4), (7, .int x7), (8, .int x8)] [] (mH h s) Q := by
  unfold mf_335_198 at hf
  obtain ⟨s1, y, e, hf⟩ := mo_bi_ok hf
  exact mb_335_198 (d := d + 3) hh  (mr_294 (d := d + 3) hh e (mr_335_206 hh hrc0 hrc1 hf k))
def mf_335_195 (N : Nat) (rc : Nat → Int32 → Int32 → Int32 → Int32 → Int32 → mS → mO) (x2 : Int32) (x3 : Int32) (x4 : Int32) (x7 : Int32) (x8 : Int32) (y0 : Int32) (y1 : Int32) (s : mS) : mO := if y1 ≤ y0 then mf_335_217 N rc x2 x3 x4 x7 s else mf_335_198 N rc x2 x3 x4 x7 x8 s
theorem mr_335_195 {X : Nat → Option zz_C} {h : zz_H} (hh : 111 ≤ h.length) {d : Nat} {N : Nat} {rc : Nat → Int32 → Int32 → Int32 → Int32 → Int32 → mS → mO} (hrc0 : ∀ {Q : Option Value → zz_H → Prop} {x2 : Int32} {x3 : Int32} {x4 : Int32} {x7 : Int32} {s s' : mS} {v : Option Value}, rc 0 x2 x3 x4 x7 0 s = some (s', v) → Q v (mH h s') → zz_E zp_P zt_tf zt_fd X (d + 4) zm_335 143 [(0, .ref 61), (2, .int x2), (3, .int x3), (4, .int x4), (7, .int x7)] [] (mH h s) Q) (hrc1 : ∀ {Q : Option Value → zz_H → Prop} {x2 : Int32} {x3 : Int32} {x4 : Int32} {x7 : Int32} {x8 : Int32} {s s' : mS} {v : Option Value}, rc 1 x2 x3 x4 x7 x8 s = some (s', v) → Q v (mH h s') → zz_E zp_P zt_tf zt_fd X (d + 4) zm_335 182 [(0, .ref 61), (2, .int x2), (3, .int x3), (4, .int x4), (7, .int x7), (8, .int x8)] [] (mH h s) Q) {Q : Option Value → zz_H → Prop} {x2 : Int32} {x3 : Int32} {x4 : Int32} {x7 : Int32} {x8 : Int32} {y0 : Int32} {y1 : Int32} {s s' : mS} {v : Option Value} (hf : mf_335_195 N rc x2 x3 x4 x7 x8 y0 y1 s = some (s', v)) (k : Q v (mH h s')) : zz_E zp_P zt_tf zt_fd X (d + 4) zm_335 195 [(0, .ref 61), (2, .int x2), (3, .int x3), (4, .int x4), (7, .int x7), (8, .int x8)] [.int y1, .int y0] (mH h s) Q := by
  unfold mf_335_195 at hf
  refine mb_335_195 hh  (fun c => ?_) (fun c => ?_)
  · rw [if_pos c] at hf
    exact mr_335_217 hh hrc0 hrc1 hf k
  · rw [if_neg c] at hf
    exact mr_335_198 hh hrc0 hrc1 hf k
def mf_335_192 (N : Nat) (rc : Nat → Int32 → Int32 → Int32 → Int32 → Int32 → mS → mO) (x2 : Int32) (x3 : Int32) (x4 : Int32) (x7 : Int32) (x8 : Int32) (y0 : Int32) (y2 : Int32) (s : mS) : mO := mo_bi (mf_77 N y2 s) (fun s1 y => mf_335_195 N rc x2 x3 x4 x7 x8 y0 y s1)
theorem mr_335_192 {X : Nat → Option zz_C} {h : zz_H} (hh : 111 ≤ h.length) {d : Nat} {N : Nat} {rc : Nat → Int32 → Int32 → Int32 → Int32 → Int32 → mS → mO} (hrc0 : ∀ {Q : Option Value → zz_H → Prop} {x2 : Int32} {x3 : Int32} {x4 : Int32} {x7 : Int32} {s s' : mS} {v : Option Value}, rc 0 x2 x3 x4 x7 0 s = some (s', v) → Q v (mH h s') → zz_E zp_P zt_tf zt_fd X (d + 4) zm_335 143 [(0, .ref 61), (2, .int x2), (3, .int x3), (4, .int x4), (7, .int x7)] [] (mH h s) Q) (hrc1 : ∀ {Q : Option Value → zz_H → Prop} {x2 : Int32} {x3 : Int32} {x4 : Int32} {x7 : Int32} {x8 : Int32} {s s' : mS} {v : Option Value}, rc 1 x2 x3 x4 x7 x8 s = some (s', v) → Q v (mH h s') → zz_E zp_P zt_tf zt_fd X (d + 4) zm_335 182 [(0, .ref 61), (2, .int x2), (3, .int x3), (4, .int x4), (7, .int x7), (8, .int x8)] [] (mH h s) Q) {Q : Option Value → zz_H → Prop} {x2 : Int32} {x3 : Int32} {x4 : Int32} {x7 : Int32} {x8 : Int32} {y0 : Int32} {y2 : Int32} {s s' : mS} {v : Option Value} (hf : mf_335_192 N rc x2 x3 x4 x7 x8 y0 y2 s = some (s', v)) (k : Q v (mH h s')) : zz_E zp_P zt_tf zt_fd X (d + 4) zm_335 192 [(0, .ref 61), (2, .int x2), (3, .int x3), (4, .int x4), (7, .int x7), (8, .int x8)] [.int y2, .ref 61, .int y0] (mH h s) Q := by
  unfold mf_335_192 at hf
  obtain ⟨s1, y, e, hf⟩ := mo_bi_ok hf
  exact mb_335_192 (d := d + 3) hh  (mr_77 (d := d + 3) hh e (mr_335_195 hh hrc0 hrc1 hf k))
def mf_335_182 (N : Nat) (rc : Nat → Int32 → Int32 → Int32 → Int32 → Int32 → mS → mO) (x2 : Int32) (x3 : Int32) (x4 : Int32) (x7 : Int32) (x8 : Int32) (s : mS) : mO := mo_bi (mf_294 N x2 x7 s) (fun s1 y => mf_335_192 N rc x2 x3 x4 x7 x8 x8 y s1)
theorem mr_335_182 {X : Nat → Option zz_C} {h : zz_H} (hh : 111 ≤ h.length) {d : Nat} {N : Nat} {rc : Nat → Int32 → Int32 → Int32 → Int32 → Int32 → mS → mO} (hrc0 : ∀ {Q : Option Value → zz_H → Prop} {x2 : Int32} {x3 : Int32} {x4 : Int32} {x7 : Int32} {s s' : mS} {v : Option Value}, rc 0 x2 x3 x4 x7 0 s = some (s', v) → Q v (mH h s') → zz_E zp_P zt_tf zt_fd X (d + 4) zm_335 143 [(0, .ref 61), (2, .int x2), (3, .int x3), (4, .int x4), (7, .int x7)] [] (mH h s) Q) (hrc1 : ∀ {Q : Option Value → zz_H → Prop} {x2 : Int32} {x3 : Int32} {x4 : Int32} {x7 : Int32} {x8 : Int32} {s s' : mS} {v : Option Value}, rc 1 x2 x3 x4 x7 x8 s = some (s', v) → Q v (mH h s') → zz_E zp_P zt_tf zt_fd X (d + 4) zm_335 182 [(0, .ref 61), (2, .int x2), (3, .int x3), (4, .int x4), (7, .int x7), (8, .int x8)] [] (mH h s) Q) {Q : Option Value → zz_H → Prop} {x2 : Int32} {x3 : Int32} {x4 : Int32} {x7 : Int32} {x8 : Int32} {s s' : mS} {v : Option Value} (hf : mf_335_182 N rc x2 x3 x4 x7 x8 s = some (s', v)) (k : Q v (mH h s')) : zz_E zp_P zt_tf zt_fd X (d + 4) zm_335 182 [(0, .ref 61), (2, .int x2), (3, .int x3), (4, .int x4), (7, .int x7), (8, .int x8)] [] (mH h s) Q := by
  unfold mf_335_182 at hf
  obtain ⟨s1, y, e, hf⟩ := mo_bi_ok hf
  exact mb_335_182 (d := d + 3) hh  (mr_294 (d := d + 3) hh e (mr_335_192 hh hrc0 hrc1 hf k))
def mf_335_153 (N : Nat) (rc : Nat → Int32 → Int32 → Int32 → Int32 → Int32 → mS → mO) (x2 : Int32) (x3 : Int32) (x4 : Int32) (x7 : Int32) (s : mS) : mO := if ¬ x4 = 3 then mf_335_179 N rc x2 x3 x4 x7 s else mf_335_159 N rc x2 x3 x4 x7 s
theorem mr_335_153 {X : Nat → Option zz_C} {h : zz_H} (hh : 111 ≤ h.length) {d : Nat} {N : Nat} {rc : Nat → Int32 → Int32 → Int32 → Int32 → Int32 → mS → mO} (hrc0 : ∀ {Q : Option Value → zz_H → Prop} {x2 : Int32} {x3 : Int32} {x4 : Int32} {x7 : Int32} {s s' : mS} {v : Option Value}, rc 0 x2 x3 x4 x7 0 s = some (s', v) → Q v (mH h s') → zz_E zp_P zt_tf zt_fd X (d + 4) zm_335 143 [(0, .ref 61), (2, .int x2), (3, .int x3), (4, .int x4), (7, .int x7)] [] (mH h s) Q) (hrc1 : ∀ {Q : Option Value → zz_H → Prop} {x2 : Int32} {x3 : Int32} {x4 : Int32} {x7 : Int32} {x8 : Int32} {s s' : mS} {v : Option Value}, rc 1 x2 x3 x4 x7 x8 s = some (s', v) → Q v (mH h s') → zz_E zp_P zt_tf zt_fd X (d + 4) zm_335 182 [(0, .ref 61), (2, .int x2), (3, .int x3), (4, .int x4), (7, .int x7), (8, .int x8)] [] (mH h s) Q) {Q : Option Value → zz_H → Prop} {x2 : Int32} {x3 : Int32} {x4 : Int32} {x7 : Int32} {s s' : mS} {v : Option Value} (hf : mf_335_153 N rc x2 x3 x4 x7 s = some (s', v)) (k : Q v (mH h s')) : zz_E zp_P zt_tf zt_fd X (d + 4) zm_335 153 [(0, .ref 61), (2, .int x2), (3, .int x3), (4, .int x4), (7, .int x7)] [] (mH h s) Q := by
  unfold mf_335_153 at hf
  refine mb_335_153 hh  (fun c => ?_) (fun c => ?_)
  · rw [if_pos c] at hf
    exact mr_335_179 hh hrc0 hrc1 hf k
  · rw [if_neg c] at hf
    exact mr_335_159 hh hrc0 hrc1 hf k
def mf_335_150 (N : Nat) (rc : Nat → Int32 → Int32 → Int32 → Int32 → Int32 → mS → mO) (x2 : Int32) (x3 : Int32) (x4 : Int32) (x7 : Int32) (y0 : Int32) (y1 : Int32) (s : mS) : mO := if y1 ≤ y0 then mf_335_223 N x3 s else mf_335_153 N rc x2 x3 x4 x7 s
theorem mr_335_150 {X : Nat → Option zz_C} {h : zz_H} (hh : 111 ≤ h.length) {d : Nat} {N : Nat} {rc : Nat → Int32 → Int32 → Int32 → Int32 → Int32 → mS → mO} (hrc0 : ∀ {Q : Option Value → zz_H → Prop} {x2 : Int32} {x3 : Int32} {x4 : Int32} {x7 : Int32} {s s' : mS} {v : Option Value}, rc 0 x2 x3 x4 x7 0 s = some (s', v) → Q v (mH h s') → zz_E zp_P zt_tf zt_fd X (d + 4) zm_335 143 [(0, .ref 61), (2, .int x2), (3, .int x3), (4, .int x4), (7, .int x7)] [] (mH h s) Q) (hrc1 : ∀ {Q : Option Value → zz_H → Prop} {x2 : Int32} {x3 : Int32} {x4 : Int32} {x7 : Int32} {x8 : Int32} {s s' : mS} {v : Option Value}, rc 1 x2 x3 x4 x7 x8 s = some (s', v) → Q v (mH h s') → zz_E zp_P zt_tf zt_fd X (d + 4) zm_335 182 [(0, .ref 61), (2, .int x2), (3, .int x3), (4, .int x4), (7, .int x7), (8, .int x8)] [] (mH h s) Q) {Q : Option Value → zz_H → Prop} {x2 : Int32} {x3 : Int32} {x4 : Int32} {x7 : Int32} {y0 : Int32} {y1 : Int32} {s s' : mS} {v : Option Value} (hf : mf_335_150 N rc x2 x3 x4 x7 y0 y1 s = some (s', v)) (k : Q v (mH h s')) : zz_E zp_P zt_tf zt_fd X (d + 4) zm_335 150 [(0, .ref 61), (2, .int x2), (3, .int x3), (4, .int x4), (7, .int x7)] [.int y1, .int y0] (mH h s) Q := by
  unfold mf_335_150 at hf
  refine mb_335_150 hh  (fun c => ?_) (fun c => ?_)
  · rw [if_pos c] at hf
    exact mr_335_223 hh hf k
  · rw [if_neg c] at hf
    exact mr_335_153 hh hrc0 hrc1 hf k
def mf_335_143 (N : Nat) (rc : Nat → Int32 → Int32 → Int32 → Int32 → Int32 → mS → mO) (x2 : Int32) (x3 : Int32) (x4 : Int32) (x7 : Int32) (s : mS) : mO := mo_bi (mf_77 N x2 s) (fun s1 y => mf_335_150 N rc x2 x3 x4 x7 x7 y s1)
theorem mr_335_143 {X : Nat → Option zz_C} {h : zz_H} (hh : 111 ≤ h.length) {d : Nat} {N : Nat} {rc : Nat → Int32 → Int32 → Int32 → Int32 → Int32 → mS → mO} (hrc0 : ∀ {Q : Option Value → zz_H → Prop} {x2 : Int32} {x3 : Int32} {x4 : Int32} {x7 : Int32} {s s' : mS} {v : Option Value}, rc 0 x2 x3 x4 x7 0 s = some (s', v) → Q v (mH h s') → zz_E zp_P zt_tf zt_fd X (d + 4) zm_335 143 [(0, .ref 61), (2, .int x2), (3, .int x3), (4, .int x4), (7, .int x7)] [] (mH h s) Q) (hrc1 : ∀ {Q : Option Value → zz_H → Prop} {x2 : Int32} {x3 : Int32} {x4 : Int32} {x7 : Int32} {x8 : Int32} {s s' : mS} {v : Option Value}, rc 1 x2 x3 x4 x7 x8 s = some (s', v) → Q v (mH h s') → zz_E zp_P zt_tf zt_fd X (d + 4) zm_335 182 [(0, .ref 61), (2, .int x2), (3, .int x3), (4, .int x4), (7, .int x7), (8, .int x8)] [] (mH h s) Q) {Q : Option Value → zz_H → Prop} {x2 : Int32} {x3 : Int32} {x4 : Int32} {x7 : Int32} {s s' : mS} {v : Option Value} (hf : mf_335_143 N rc x2 x3 x4 x7 s = some (s', v)) (k : Q v (mH h s')) : zz_E zp_P zt_tf zt_fd X (d + 4) zm_335 143 [(0, .ref 61), (2, .int x2), (3, .int x3), (4, .int x4), (7, .int x7)] [] (mH h s) Q := by
  unfold mf_335_143 at hf
  obtain ⟨s1, y, e, hf⟩ := mo_bi_ok hf
  exact mb_335_143 (d := d + 3) hh  (mr_77 (d := d + 3) hh e (mr_335_150 hh hrc0 hrc1 hf k))
def mf_335_L19 (N : Nat) : Nat → Nat → Int32 → Int32 → Int32 → Int32 → Int32 → mS → mO
  | 0, _, _, _, _, _, _, _ => none
  | n + 1, l, x2, x3, x4, x7, x8, s => if l = 0 then mf_335_143 N (mf_335_L19 N n) x2 x3 x4 x7 s else if l = 1 then mf_335_182 N (mf_335_L19 N n) x2 x3 x4 x7 x8 s else none
theorem mr_335_L19 {X : Nat → Option zz_C} {h : zz_H} (hh : 111 ≤ h.length) {d : Nat} {N : Nat} : ∀ n : Nat, (∀ {Q : Option Value → zz_H → Prop} {x2 : Int32} {x3 : Int32} {x4 : Int32} {x7 : Int32} {s s' : mS} {v : Option Value}, mf_335_L19 N n 0 x2 x3 x4 x7 0 s = some (s', v) → Q v (mH h s') → zz_E zp_P zt_tf zt_fd X (d + 4) zm_335 143 [(0, .ref 61), (2, .int x2), (3, .int x3), (4, .int x4), (7, .int x7)] [] (mH h s) Q) ∧ (∀ {Q : Option Value → zz_H → Prop} {x2 : Int32} {x3 : Int32} {x4 : Int32} {x7 : Int32} {x8 : Int32} {s s' : mS} {v : Option Value}, mf_335_L19 N n 1 x2 x3 x4 x7 x8 s = some (s', v) → Q v (mH h s') → zz_E zp_P zt_tf zt_fd X (d + 4) zm_335 182 [(0, .ref 61), (2, .int x2), (3, .int x3), (4, .int x4), (7, .int x7), (8, .int x8)] [] (mH h s) Q) := by
  intro n
  induction n with
  | zero => exact ⟨(fun hf _ => by cases hf), (fun hf _ => by cases hf)⟩
  | succ n ih =>
    obtain ⟨h0, h1⟩ := ih
    refine ⟨?_, ?_⟩
    · intro Q _ _ _ _ s s' v hf k
      unfold mf_335_L19 at hf
      rw [if_pos rfl] at hf
      exact mr_335_143 hh h0 h1 hf k
    · intro Q _ _ _ _ _ s s' v hf k
      unfold mf_335_L19 at hf
      rw [if_neg (by decide)] at hf
      rw [if_pos rfl] at hf
      exact mr_335_182 hh h0 h1 hf k
def mf_335_140 (N : Nat) (x2 : Int32) (x3 : Int32) (x4 : Int32) (s : mS) : mO := mf_335_L19 N N 0 x2 x3 x4 0 0 s
theorem mr_335_140 {X : Nat → Option zz_C} {h : zz_H} (hh : 111 ≤ h.length) {d : Nat} {N : Nat} {Q : Option Value → zz_H → Prop} {x2 : Int32} {x3 : Int32} {x4 : Int32} {s s' : mS} {v : Option Value} (hf : mf_335_140 N x2 x3 x4 s = some (s', v)) (k : Q v (mH h s')) : zz_E zp_P zt_tf zt_fd X (d + 4) zm_335 140 [(0, .ref 61), (2, .int x2), (3, .int x3), (4, .int x4)] [] (mH h s) Q := by
  unfold mf_335_140 at hf
  exact mb_335_140 hh  ((mr_335_L19 hh N).1 hf k)
def mf_335_139 (N : Nat)  (s : mS) : mO := some (s, none)
theorem mr_335_139 {X : Nat → Option zz_C} {h : zz_H} (hh : 111 ≤ h.length) {d : Nat} {N : Nat} {Q : Option Value → zz_H → Prop}  {s s' : mS} {v : Option Value} (hf : mf_335_139 N  s = some (s', v)) (k : Q v (mH h s')) : zz_E zp_P zt_tf zt_fd X (d + 4) zm_335 139 [] [] (mH h s) Q := by
  unfold mf_335_139 at hf
  cases hf
  exact mb_335_139 hh  k
def mf_335_130 (N : Nat)  (s : mS) : mO := mo_bv (mf_301 N 2 (s.1 70) s) (fun s1 => mf_335_139 N  s1)
theorem mr_335_130 {X : Nat → Option zz_C} {h : zz_H} (hh : 111 ≤ h.length) {d : Nat} {N : Nat} {Q : Option Value → zz_H → Prop}  {s s' : mS} {v : Option Value} (hf : mf_335_130 N  s = some (s', v)) (k : Q v (mH h s')) : zz_E zp_P zt_tf zt_fd X (d + 4) zm_335 130 [(0, .ref 61)] [] (mH h s) Q := by
  unfold mf_335_130 at hf
  obtain ⟨s1, e, hf⟩ := mo_bv_ok hf
  exact mb_335_130 (d := d + 3) hh  (mr_301 (d := d + 3) hh e (mr_335_139 hh hf k))
def mf_335_123 (N : Nat) (x2 : Int32) (x3 : Int32) (x4 : Int32) (x6 : Int32) (s : mS) : mO := if x6 ≤ 64 then mf_335_140 N x2 x3 x4 s else mf_335_130 N  s
theorem mr_335_123 {X : Nat → Option zz_C} {h : zz_H} (hh : 111 ≤ h.length) {d : Nat} {N : Nat} {Q : Option Value → zz_H → Prop} {x2 : Int32} {x3 : Int32} {x4 : Int32} {x6 : Int32} {s s' : mS} {v : Option Value} (hf : mf_335_123 N x2 x3 x4 x6 s = some (s', v)) (k : Q v (mH h s')) : zz_E zp_P zt_tf zt_fd X (d + 4) zm_335 123 [(0, .ref 61), (2, .int x2), (3, .int x3), (4, .int x4), (6, .int x6)] [] (mH h s) Q := by
  unfold mf_335_123 at hf
  refine mb_335_123 hh  (fun c => ?_) (fun c => ?_)
  · rw [if_pos c] at hf
    exact mr_335_140 hh hf k
  · rw [if_neg c] at hf
    exact mr_335_130 hh hf k
def mf_335_91 (N : Nat)  (s : mS) : mO := some (s, none)
theorem mr_335_91 {X : Nat → Option zz_C} {h : zz_H} (hh : 111 ≤ h.length) {d : Nat} {N : Nat} {Q : Option Value → zz_H → Prop}  {s s' : mS} {v : Option Value} (hf : mf_335_91 N  s = some (s', v)) (k : Q v (mH h s')) : zz_E zp_P zt_tf zt_fd X (d + 4) zm_335 91 [] [] (mH h s) Q := by
  unfold mf_335_91 at hf
  cases hf
  exact mb_335_91 hh  k
def mf_335_82 (N : Nat)  (s : mS) : mO := mo_bv (mf_301 N 3 (s.1 70) s) (fun s1 => mf_335_91 N  s1)
theorem mr_335_82 {X : Nat → Option zz_C} {h : zz_H} (hh : 111 ≤ h.length) {d : Nat} {N : Nat} {Q : Option Value → zz_H → Prop}  {s s' : mS} {v : Option Value} (hf : mf_335_82 N  s = some (s', v)) (k : Q v (mH h s')) : zz_E zp_P zt_tf zt_fd X (d + 4) zm_335 82 [(0, .ref 61)] [] (mH h s) Q := by
  unfold mf_335_82 at hf
  obtain ⟨s1, e, hf⟩ := mo_bv_ok hf
  exact mb_335_82 (d := d + 3) hh  (mr_301 (d := d + 3) hh e (mr_335_91 hh hf k))
def mf_335_114 (N : Nat) (rc : Nat → Int32 → Int32 → Int32 → Int32 → Int32 → mS → mO) (x2 : Int32) (x3 : Int32) (x4 : Int32) (x7 : Int32) (y0 : Int32) (y1 : Int32) (s : mS) : mO := rc 0 x2 x3 x4 (y0 + y1) (x7 + 1) s
theorem mr_335_114 {X : Nat → Option zz_C} {h : zz_H} (hh : 111 ≤ h.length) {d : Nat} {N : Nat} {rc : Nat → Int32 → Int32 → Int32 → Int32 → Int32 → mS → mO} (hrc0 : ∀ {Q : Option Value → zz_H → Prop} {x2 : Int32} {x3 : Int32} {x4 : Int32} {x6 : Int32} {x7 : Int32} {s s' : mS} {v : Option Value}, rc 0 x2 x3 x4 x6 x7 s = some (s', v) → Q v (mH h s') → zz_E zp_P zt_tf zt_fd X (d + 4) zm_335 28 [(0, .ref 61), (2, .int x2), (3, .int x3), (4, .int x4), (6, .int x6), (7, .int x7)] [] (mH h s) Q) {Q : Option Value → zz_H → Prop} {x2 : Int32} {x3 : Int32} {x4 : Int32} {x7 : Int32} {y0 : Int32} {y1 : Int32} {s s' : mS} {v : Option Value} (hf : mf_335_114 N rc x2 x3 x4 x7 y0 y1 s = some (s', v)) (k : Q v (mH h s')) : zz_E zp_P zt_tf zt_fd X (d + 4) zm_335 114 [(0, .ref 61), (2, .int x2), (3, .int x3), (4, .int x4), (7, .int x7)] [.int y1, .int y0] (mH h s) Q := by
  unfold mf_335_114 at hf
  exact mb_335_114 hh  (hrc0 hf k)
def mf_335_111 (N : Nat) (rc : Nat → Int32 → Int32 → Int32 → Int32 → Int32 → mS → mO) (x2 : Int32) (x3 : Int32) (x4 : Int32) (x7 : Int32) (y0 : Int32) (y2 : Int32) (s : mS) : mO := mo_bi (mf_77 N y2 s) (fun s1 y => mf_335_114 N rc x2 x3 x4 x7 y0 y s1)
theorem mr_335_111 {X : Nat → Option zz_C} {h : zz_H} (hh : 111 ≤ h.length) {d : Nat} {N : Nat} {rc : Nat → Int32 → Int32 → Int32 → Int32 → Int32 → mS → mO} (hrc0 : ∀ {Q : Option Value → zz_H → Prop} {x2 : Int32} {x3 : Int32} {x4 : Int32} {x6 : Int32} {x7 : Int32} {s s' : mS} {v : Option Value}, rc 0 x2 x3 x4 x6 x7 s = some (s', v) → Q v (mH h s') → zz_E zp_P zt_tf zt_fd X (d + 4) zm_335 28 [(0, .ref 61), (2, .int x2), (3, .int x3), (4, .int x4), (6, .int x6), (7, .int x7)] [] (mH h s) Q) {Q : Option Value → zz_H → Prop} {x2 : Int32} {x3 : Int32} {x4 : Int32} {x7 : Int32} {y0 : Int32} {y2 : Int32} {s s' : mS} {v : Option Value} (hf : mf_335_111 N rc x2 x3 x4 x7 y0 y2 s = some (s', v)) (k : Q v (mH h s')) : zz_E zp_P zt_tf zt_fd X (d + 4) zm_335 111 [(0, .ref 61), (2, .int x2), (3, .int x3), (4, .int x4), (7, .int x7)] [.int y2, .ref 61, .int y0] (mH h s) Q := by
  unfold mf_335_111 at hf
  obtain ⟨s1, y, e, hf⟩ := mo_bi_ok hf
  exact mb_335_111 (d := d + 3) hh  (mr_77 (d := d + 3) hh e (mr_335_114 hh hrc0 hf k))
def mf_335_103 (N : Nat) (rc : Nat → Int32 → Int32 → Int32 → Int32 → Int32 → mS → mO) (x2 : Int32) (x3 : Int32) (x4 : Int32) (x7 : Int32) (y0 : Int32) (s : mS) : mO := mo_bi (mf_294 N x2 x7 s) (fun s1 y => mf_335_111 N rc x2 x3 x4 x7 y0 y s1)
theorem mr_335_103 {X : Nat → Option zz_C} {h : zz_H} (hh : 111 ≤ h.length) {d : Nat} {N : Nat} {rc : Nat → Int32 → Int32 → Int32 → Int32 → Int32 → mS → mO} (hrc0 : ∀ {Q : Option Value → zz_H → Prop} {x2 : Int32} {x3 : Int32} {x4 : Int32} {x6 : Int32} {x7 : Int32} {s s' : mS} {v : Option Value}, rc 0 x2 x3 x4 x6 x7 s = some (s', v) → Q v (mH h s') → zz_E zp_P zt_tf zt_fd X (d + 4) zm_335 28 [(0, .ref 61), (2, .int x2), (3, .int x3), (4, .int x4), (6, .int x6), (7, .int x7)] [] (mH h s) Q) {Q : Option Value → zz_H → Prop} {x2 : Int32} {x3 : Int32} {x4 : Int32} {x7 : Int32} {y0 : Int32} {s s' : mS} {v : Option Value} (hf : mf_335_103 N rc x2 x3 x4 x7 y0 s = some (s', v)) (k : Q v (mH h s')) : zz_E zp_P zt_tf zt_fd X (d + 4) zm_335 103 [(0, .ref 61), (2, .int x2), (3, .int x3), (4, .int x4), (7, .int x7)] [.int y0] (mH h s) Q := by
  unfold mf_335_103 at hf
  obtain ⟨s1, y, e, hf⟩ := mo_bi_ok hf
  exact mb_335_103 (d := d + 3) hh  (mr_294 (d := d + 3) hh e (mr_335_111 hh hrc0 hf k))
def mf_335_99 (N : Nat) (rc : Nat → Int32 → Int32 → Int32 → Int32 → Int32 → mS → mO) (x2 : Int32) (x3 : Int32) (x4 : Int32) (x7 : Int32) (y0 : Int32) (s : mS) : mO := mf_335_114 N rc x2 x3 x4 x7 y0 1 s
theorem mr_335_99 {X : Nat → Option zz_C} {h : zz_H} (hh : 111 ≤ h.length) {d : Nat} {N : Nat} {rc : Nat → Int32 → Int32 → Int32 → Int32 → Int32 → mS → mO} (hrc0 : ∀ {Q : Option Value → zz_H → Prop} {x2 : Int32} {x3 : Int32} {x4 : Int32} {x6 : Int32} {x7 : Int32} {s s' : mS} {v : Option Value}, rc 0 x2 x3 x4 x6 x7 s = some (s', v) → Q v (mH h s') → zz_E zp_P zt_tf zt_fd X (d + 4) zm_335 28 [(0, .ref 61), (2, .int x2), (3, .int x3), (4, .int x4), (6, .int x6), (7, .int x7)] [] (mH h s) Q) {Q : Option Value → zz_H → Prop} {x2 : Int32} {x3 : Int32} {x4 : Int32} {x7 : Int32} {y0 : Int32} {s s' : mS} {v : Option Value} (hf : mf_335_99 N rc x2 x3 x4 x7 y0 s = some (s', v)) (k : Q v (mH h s')) : zz_E zp_P zt_tf zt_fd X (d + 4) zm_335 99 [(0, .ref 61), (2, .int x2), (3, .int x3), (4, .int x4), (7, .int x7)] [.int y0] (mH h s) Q := by
  unfold mf_335_99 at hf
  exact mb_335_99 hh  (mr_335_114 hh hrc0 hf k)
def mf_335_92 (N : Nat) (rc : Nat → Int32 → Int32 → Int32 → Int32 → Int32 → mS → mO) (x2 : Int32) (x3 : Int32) (x4 : Int32) (x6 : Int32) (x7 : Int32) (x8 : Int32) (s : mS) : mO := if x8 = 0 then mf_335_103 N rc x2 x3 x4 x7 x6 s else mf_335_99 N rc x2 x3 x4 x7 x6 s
theorem mr_335_92 {X : Nat → Option zz_C} {h : zz_H} (hh : 111 ≤ h.length) {d : Nat} {N : Nat} {rc : Nat → Int32 → Int32 → Int32 → Int32 → Int32 → mS → mO} (hrc0 : ∀ {Q : Option Value → zz_H → Prop} {x2 : Int32} {x3 : Int32} {x4 : Int32} {x6 : Int32} {x7 : Int32} {s s' : mS} {v : Option Value}, rc 0 x2 x3 x4 x6 x7 s = some (s', v) → Q v (mH h s') → zz_E zp_P zt_tf zt_fd X (d + 4) zm_335 28 [(0, .ref 61), (2, .int x2), (3, .int x3), (4, .int x4), (6, .int x6), (7, .int x7)] [] (mH h s) Q) {Q : Option Value → zz_H → Prop} {x2 : Int32} {x3 : Int32} {x4 : Int32} {x6 : Int32} {x7 : Int32} {x8 : Int32} {s s' : mS} {v : Option Value} (hf : mf_335_92 N rc x2 x3 x4 x6 x7 x8 s = some (s', v)) (k : Q v (mH h s')) : zz_E zp_P zt_tf zt_fd X (d + 4) zm_335 92 [(0, .ref 61), (2, .int x2), (3, .int x3), (4, .int x4), (6, .int x6), (7, .int x7), (8, .int x8)] [] (mH h s) Q := by
  unfold mf_335_92 at hf
  refine mb_335_92 hh  (fun c => ?_) (fun c => ?_)
  · rw [if_pos c] at hf
    exact mr_335_103 hh hrc0 hf k
  · rw [if_neg c] at hf
    exact mr_335_99 hh hrc0 hf k
def mf_335_77 (N : Nat) (rc : Nat → Int32 → Int32 → Int32 → Int32 → Int32 → mS → mO) (x2 : Int32) (x3 : Int32) (x4 : Int32) (x6 : Int32) (x7 : Int32) (x8 : Int32) (y1 : Int32) (s : mS) : mO := if ¬ (y1 < 0 ∨ 166300 ≤ Int32.toNatClampNeg y1) then (if ((s.2.2.1 47) (Int32.toNatClampNeg y1)) ≤ 1 then mf_335_92 N rc x2 x3 x4 x6 x7 x8 s else mf_335_82 N  s) else none
theorem mr_335_77 {X : Nat → Option zz_C} {h : zz_H} (hh : 111 ≤ h.length) {d : Nat} {N : Nat} {rc : Nat → Int32 → Int32 → Int32 → Int32 → Int32 → mS → mO} (hrc0 : ∀ {Q : Option Value → zz_H → Prop} {x2 : Int32} {x3 : Int32} {x4 : Int32} {x6 : Int32} {x7 : Int32} {s s' : mS} {v : Option Value}, rc 0 x2 x3 x4 x6 x7 s = some (s', v) → Q v (mH h s') → zz_E zp_P zt_tf zt_fd X (d + 4) zm_335 28 [(0, .ref 61), (2, .int x2), (3, .int x3), (4, .int x4), (6, .int x6), (7, .int x7)] [] (mH h s) Q) {Q : Option Value → zz_H → Prop} {x2 : Int32} {x3 : Int32} {x4 : Int32} {x6 : Int32} {x7 : Int32} {x8 : Int32} {y1 : Int32} {s s' : mS} {v : Option Value} (hf : mf_335_77 N rc x2 x3 x4 x6 x7 x8 y1 s = some (s', v)) (k : Q v (mH h s')) : zz_E zp_P zt_tf zt_fd X (d + 4) zm_335 77 [(0, .ref 61), (2, .int x2), (3, .int x3), (4, .int x4), (6, .int x6), (7, .int x7), (8, .int x8)] [.int y1, .ref 89] (mH h s) Q := by
  unfold mf_335_77 at hf
  obtain ⟨q0, hf⟩ := mo_if hf
  refine mb_335_77 hh q0 (fun c => ?_) (fun c => ?_)
  · rw [if_pos c] at hf
    exact mr_335_92 hh hrc0 hf k
  · rw [if_neg c] at hf
    exact mr_335_82 hh hf k
def mf_335_66 (N : Nat) (rc : Nat → Int32 → Int32 → Int32 → Int32 → Int32 → mS → mO) (x2 : Int32) (x3 : Int32) (x4 : Int32) (x6 : Int32) (x7 : Int32) (x8 : Int32) (s : mS) : mO := mo_bi (mf_294 N x2 x7 s) (fun s1 y => mf_335_77 N rc x2 x3 x4 x6 x7 x8 y s1)
theorem mr_335_66 {X : Nat → Option zz_C} {h : zz_H} (hh : 111 ≤ h.length) {d : Nat} {N : Nat} {rc : Nat → Int32 → Int32 → Int32 → Int32 → Int32 → mS → mO} (hrc0 : ∀ {Q : Option Value → zz_H → Prop} {x2 : Int32} {x3 : Int32} {x4 : Int32} {x6 : Int32} {x7 : Int32} {s s' : mS} {v : Option Value}, rc 0 x2 x3 x4 x6 x7 s = some (s', v) → Q v (mH h s') → zz_E zp_P zt_tf zt_fd X (d + 4) zm_335 28 [(0, .ref 61), (2, .int x2), (3, .int x3), (4, .int x4), (6, .int x6), (7, .int x7)] [] (mH h s) Q) {Q : Option Value → zz_H → Prop} {x2 : Int32} {x3 : Int32} {x4 : Int32} {x6 : Int32} {x7 : Int32} {x8 : Int32} {s s' : mS} {v : Option Value} (hf : mf_335_66 N rc x2 x3 x4 x6 x7 x8 s = some (s', v)) (k : Q v (mH h s')) : zz_E zp_P zt_tf zt_fd X (d + 4) zm_335 66 [(0, .ref 61), (2, .int x2), (3, .int x3), (4, .int x4), (6, .int x6), (7, .int x7), (8, .int x8)] [] (mH h s) Q := by
  unfold mf_335_66 at hf
  obtain ⟨s1, y, e, hf⟩ := mo_bi_ok hf
  exact mb_335_66 (d := d + 3) hh  (mr_294 (d := d + 3) hh e (mr_335_77 hh hrc0 hf k))
def mf_335_59 (N : Nat) (rc : Nat → Int32 → Int32 → Int32 → Int32 → Int32 → mS → mO) (x2 : Int32) (x3 : Int32) (x4 : Int32) (x6 : Int32) (x7 : Int32) (y0 : Int32) (s : mS) : mO := if ¬ y0 = 0 then mf_335_92 N rc x2 x3 x4 x6 x7 y0 s else mf_335_66 N rc x2 x3 x4 x6 x7 y0 s
theorem mr_335_59 {X : Nat → Option zz_C} {h : zz_H} (hh : 111 ≤ h.length) {d : Nat} {N : Nat} {rc : Nat → Int32 → Int32 → Int32 → Int32 → Int32 → mS → mO} (hrc0 : ∀ {Q : Option Value → zz_H → Prop} {x2 : Int32} {x3 : Int32} {x4 : Int32} {x6 : Int32} {x7 : Int32} {s s' : mS} {v : Option Value}, rc 0 x2 x3 x4 x6 x7 s = some (s', v) → Q v (mH h s') → zz_E zp_P zt_tf zt_fd X (d + 4) zm_335 28 [(0, .ref 61), (2, .int x2), (3, .int x3), (4, .int x4), (6, .int x6), (7, .int x7)] [] (mH h s) Q) {Q : Option Value → zz_H → Prop} {x2 : Int32} {x3 : Int32} {x4 : Int32} {x6 : Int32} {x7 : Int32} {y0 : Int32} {s s' : mS} {v : Option Value} (hf : mf_335_59 N rc x2 x3 x4 x6 x7 y0 s = some (s', v)) (k : Q v (mH h s')) : zz_E zp_P zt_tf zt_fd X (d + 4) zm_335 59 [(0, .ref 61), (2, .int x2), (3, .int x3), (4, .int x4), (6, .int x6), (7, .int x7)] [.int y0] (mH h s) Q := by
  unfold mf_335_59 at hf
  refine mb_335_59 hh  (fun c => ?_) (fun c => ?_)
  · rw [if_pos c] at hf
    exact mr_335_92 hh hrc0 hf k
  · rw [if_neg c] at hf
    exact mr_335_66 hh hrc0 hf k
def mf_335_54 (N : Nat) (rc : Nat → Int32 → Int32 → Int32 → Int32 → Int32 → mS → mO) (x2 : Int32) (x3 : Int32) (x4 : Int32) (x6 : Int32) (x7 : Int32) (s : mS) : mO := mf_335_59 N rc x2 x3 x4 x6 x7 1 s
theorem mr_335_54 {X : Nat → Option zz_C} {h : zz_H} (hh : 111 ≤ h.length) {d : Nat} {N : Nat} {rc : Nat → Int32 → Int32 → Int32 → Int32 → Int32 → mS → mO} (hrc0 : ∀ {Q : Option Value → zz_H → Prop} {x2 : Int32} {x3 : Int32} {x4 : Int32} {x6 : Int32} {x7 : Int32} {s s' : mS} {v : Option Value}, rc 0 x2 x3 x4 x6 x7 s = some (s', v) → Q v (mH h s') → zz_E zp_P zt_tf zt_fd X (d + 4) zm_335 28 [(0, .ref 61), (2, .int x2), (3, .int x3), (4, .int x4), (6, .int x6), (7, .int x7)] [] (mH h s) Q) {Q : Option Value → zz_H → Prop} {x2 : Int32} {x3 : Int32} {x4 : Int32} {x6 : Int32} {x7 : Int32} {s s' : mS} {v : Option Value} (hf : mf_335_54 N rc x2 x3 x4 x6 x7 s = some (s', v)) (k : Q v (mH h s')) : zz_E zp_P zt_tf zt_fd X (d + 4) zm_335 54 [(0, .ref 61), (2, .int x2), (3, .int x3), (4, .int x4), (6, .int x6), (7, .int x7)] [] (mH h s) Q := by
  unfold mf_335_54 at hf
  exact mb_335_54 hh  (mr_335_59 hh hrc0 hf k)
def mf_335_58 (N : Nat) (rc : Nat → Int32 → Int32 → Int32 → Int32 → Int32 → mS → mO) (x2 : Int32) (x3 : Int32) (x4 : Int32) (x6 : Int32) (x7 : Int32) (s : mS) : mO := mf_335_59 N rc x2 x3 x4 x6 x7 0 s
theorem mr_335_58 {X : Nat → Option zz_C} {h : zz_H} (hh : 111 ≤ h.length) {d : Nat} {N : Nat} {rc : Nat → Int32 → Int32 → Int32 → Int32 → Int32 → mS → mO} (hrc0 : ∀ {Q : Option Value → zz_H → Prop} {x2 : Int32} {x3 : Int32} {x4 : Int32} {x6 : Int32} {x7 : Int32} {s s' : mS} {v : Option Value}, rc 0 x2 x3 x4 x6 x7 s = some (s', v) → Q v (mH h s') → zz_E zp_P zt_tf zt_fd X (d + 4) zm_335 28 [(0, .ref 61), (2, .int x2), (3, .int x3), (4, .int x4), (6, .int x6), (7, .int x7)] [] (mH h s) Q) {Q : Option Value → zz_H → Prop} {x2 : Int32} {x3 : Int32} {x4 : Int32} {x6 : Int32} {x7 : Int32} {s s' : mS} {v : Option Value} (hf : mf_335_58 N rc x2 x3 x4 x6 x7 s = some (s', v)) (k : Q v (mH h s')) : zz_E zp_P zt_tf zt_fd X (d + 4) zm_335 58 [(0, .ref 61), (2, .int x2), (3, .int x3), (4, .int x4), (6, .int x6), (7, .int x7)] [] (mH h s) Q := by
  unfold mf_335_58 at hf
  exact mb_335_58 hh  (mr_335_59 hh hrc0 hf k)
def mf_335_51 (N : Nat) (rc : Nat → Int32 → Int32 → Int32 → Int32 → Int32 → mS → mO) (x2 : Int32) (x3 : Int32) (x4 : Int32) (x6 : Int32) (x7 : Int32) (y0 : Int32) (s : mS) : mO := if y0 = 0 then mf_335_58 N rc x2 x3 x4 x6 x7 s else mf_335_54 N rc x2 x3 x4 x6 x7 s
theorem mr_335_51 {X : Nat → Option zz_C} {h : zz_H} (hh : 111 ≤ h.length) {d : Nat} {N : Nat} {rc : Nat → Int32 → Int32 → Int32 → Int32 → Int32 → mS → mO} (hrc0 : ∀ {Q : Option Value → zz_H → Prop} {x2 : Int32} {x3 : Int32} {x4 : Int32} {x6 : Int32} {x7 : Int32} {s s' : mS} {v : Option Value}, rc 0 x2 x3 x4 x6 x7 s = some (s', v) → Q v (mH h s') → zz_E zp_P zt_tf zt_fd X (d + 4) zm_335 28 [(0, .ref 61), (2, .int x2), (3, .int x3), (4, .int x4), (6, .int x6), (7, .int x7)] [] (mH h s) Q) {Q : Option Value → zz_H → Prop} {x2 : Int32} {x3 : Int32} {x4 : Int32} {x6 : Int32} {x7 : Int32} {y0 : Int32} {s s' : mS} {v : Option Value} (hf : mf_335_51 N rc x2 x3 x4 x6 x7 y0 s = some (s', v)) (k : Q v (mH h s')) : zz_E zp_P zt_tf zt_fd X (d + 4) zm_335 51 [(0, .ref 61), (2, .int x2), (3, .int x3), (4, .int x4), (6, .int x6), (7, .int x7)] [.int y0] (mH h s) Q := by
  unfold mf_335_51 at hf
  refine mb_335_51 hh  (fun c => ?_) (fun c => ?_)
  · rw [if_pos c] at hf
    exact mr_335_58 hh hrc0 hf k
  · rw [if_neg c] at hf
    exact mr_335_54 hh hrc0 hf k
def mf_335_44 (N : Nat) (rc : Nat → Int32 → Int32 → Int32 → Int32 → Int32 → mS → mO) (x2 : Int32) (x3 : Int32) (x4 : Int32) (x6 : Int32) (x7 : Int32) (s : mS) : mO := mo_bi (mf_293 N x2 x7 s) (fun s1 y => mf_335_51 N rc x2 x3 x4 x6 x7 y s1)
theorem mr_335_44 {X : Nat → Option zz_C} {h : zz_H} (hh : 111 ≤ h.length) {d : Nat} {N : Nat} {rc : Nat → Int32 → Int32 → Int32 → Int32 → Int32 → mS → mO} (hrc0 : ∀ {Q : Option Value → zz_H → Prop} {x2 : Int32} {x3 : Int32} {x4 : Int32} {x6 : Int32} {x7 : Int32} {s s' : mS} {v : Option Value}, rc 0 x2 x3 x4 x6 x7 s = some (s', v) → Q v (mH h s') → zz_E zp_P zt_tf zt_fd X (d + 4) zm_335 28 [(0, .ref 61), (2, .int x2), (3, .int x3), (4, .int x4), (6, .int x6), (7, .int x7)] [] (mH h s) Q) {Q : Option Value → zz_H → Prop} {x2 : Int32} {x3 : Int32} {x4 : Int32} {x6 : Int32} {x7 : Int32} {s s' : mS} {v : Option Value} (hf : mf_335_44 N rc x2 x3 x4 x6 x7 s = some (s', v)) (k : Q v (mH h s')) : zz_E zp_P zt_tf zt_fd X (d + 4) zm_335 44 [(0, .ref 61), (2, .int x2), (3, .int x3), (4, .int x4), (6, .int x6), (7, .int x7)] [] (mH h s) Q := by
  unfold mf_335_44 at hf
  obtain ⟨s1, y, e, hf⟩ := mo_bi_ok hf
  exact mb_335_44 (d := d + 3) hh  (mr_293 (d := d + 3) hh e (mr_335_51 hh hrc0 hf k))
def mf_335_38 (N : Nat) (rc : Nat → Int32 → Int32 → Int32 → Int32 → Int32 → mS → mO) (x2 : Int32) (x3 : Int32) (x4 : Int32) (x6 : Int32) (x7 : Int32) (s : mS) : mO := if ¬ x4 = 3 then mf_335_58 N rc x2 x3 x4 x6 x7 s else mf_335_44 N rc x2 x3 x4 x6 x7 s
theorem mr_335_38 {X : Nat → Option zz_C} {h : zz_H} (hh : 111 ≤ h.length) {d : Nat} {N : Nat} {rc : Nat → Int32 → Int32 → Int32 → Int32 → Int32 → mS → mO} (hrc0 : ∀ {Q : Option Value → zz_H → Prop} {x2 : Int32} {x3 : Int32} {x4 : Int32} {x6 : Int32} {x7 : Int32} {s s' : mS} {v : Option Value}, rc 0 x2 x3 x4 x6 x7 s = some (s', v) → Q v (mH h s') → zz_E zp_P zt_tf zt_fd X (d + 4) zm_335 28 [(0, .ref 61), (2, .int x2), (3, .int x3), (4, .int x4), (6, .int x6), (7, .int x7)] [] (mH h s) Q) {Q : Option Value → zz_H → Prop} {x2 : Int32} {x3 : Int32} {x4 : Int32} {x6 : Int32} {x7 : Int32} {s s' : mS} {v : Option Value} (hf : mf_335_38 N rc x2 x3 x4 x6 x7 s = some (s', v)) (k : Q v (mH h s')) : zz_E zp_P zt_tf zt_fd X (d + 4) zm_335 38 [(0, .ref 61), (2, .int x2), (3, .int x3), (4, .int x4), (6, .int x6), (7, .int x7)] [] (mH h s) Q := by
  unfold mf_335_38 at hf
  refine mb_335_38 hh  (fun c => ?_) (fun c => ?_)
  · rw [if_pos c] at hf
    exact mr_335_58 hh hrc0 hf k
  · rw [if_neg c] at hf
    exact mr_335_44 hh hrc0 hf k
def mf_335_35 (N : Nat) (rc : Nat → Int32 → Int32 → Int32 → Int32 → Int32 → mS → mO) (x2 : Int32) (x3 : Int32) (x4 : Int32) (x6 : Int32) (x7 : Int32) (y0 : Int32) (y1 : Int32) (s : mS) : mO := if y1 ≤ y0 then mf_335_123 N x2 x3 x4 x6 s else mf_335_38 N rc x2 x3 x4 x6 x7 s
theorem mr_335_35 {X : Nat → Option zz_C} {h : zz_H} (hh : 111 ≤ h.length) {d : Nat} {N : Nat} {rc : Nat → Int32 → Int32 → Int32 → Int32 → Int32 → mS → mO} (hrc0 : ∀ {Q : Option Value → zz_H → Prop} {x2 : Int32} {x3 : Int32} {x4 : Int32} {x6 : Int32} {x7 : Int32} {s s' : mS} {v : Option Value}, rc 0 x2 x3 x4 x6 x7 s = some (s', v) → Q v (mH h s') → zz_E zp_P zt_tf zt_fd X (d + 4) zm_335 28 [(0, .ref 61), (2, .int x2), (3, .int x3), (4, .int x4), (6, .int x6), (7, .int x7)] [] (mH h s) Q) {Q : Option Value → zz_H → Prop} {x2 : Int32} {x3 : Int32} {x4 : Int32} {x6 : Int32} {x7 : Int32} {y0 : Int32} {y1 : Int32} {s s' : mS} {v : Option Value} (hf : mf_335_35 N rc x2 x3 x4 x6 x7 y0 y1 s = some (s', v)) (k : Q v (mH h s')) : zz_E zp_P zt_tf zt_fd X (d + 4) zm_335 35 [(0, .ref 61), (2, .int x2), (3, .int x3), (4, .int x4), (6, .int x6), (7, .int x7)] [.int y1, .int y0] (mH h s) Q := by
  unfold mf_335_35 at hf
  refine mb_335_35 hh  (fun c => ?_) (fun c => ?_)
  · rw [if_pos c] at hf
    exact mr_335_123 hh hf k
  · rw [if_neg c] at hf
    exact mr_335_38 hh hrc0 hf k
def mf_335_28 (N : Nat) (rc : Nat → Int32 → Int32 → Int32 → Int32 → Int32 → mS → mO) (x2 : Int32) (x3 : Int32) (x4 : Int32) (x6 : Int32) (x7 : Int32) (s : mS) : mO := mo_bi (mf_77 N x2 s) (fun s1 y => mf_335_35 N rc x2 x3 x4 x6 x7 x7 y s1)
theorem mr_335_28 {X : Nat → Option zz_C} {h : zz_H} (hh : 111 ≤ h.length) {d : Nat} {N : Nat} {rc : Nat → Int32 → Int32 → Int32 → Int32 → Int32 → mS → mO} (hrc0 : ∀ {Q : Option Value → zz_H → Prop} {x2 : Int32} {x3 : Int32} {x4 : Int32} {x6 : Int32} {x7 : Int32} {s s' : mS} {v : Option Value}, rc 0 x2 x3 x4 x6 x7 s = some (s', v) → Q v (mH h s') → zz_E zp_P zt_tf zt_fd X (d + 4) zm_335 28 [(0, .ref 61), (2, .int x2), (3, .int x3), (4, .int x4), (6, .int x6), (7, .int x7)] [] (mH h s) Q) {Q : Option Value → zz_H → Prop} {x2 : Int32} {x3 : Int32} {x4 : Int32} {x6 : Int32} {x7 : Int32} {s s' : mS} {v : Option Value} (hf : mf_335_28 N rc x2 x3 x4 x6 x7 s = some (s', v)) (k : Q v (mH h s')) : zz_E zp_P zt_tf zt_fd X (d + 4) zm_335 28 [(0, .ref 61), (2, .int x2), (3, .int x3), (4, .int x4), (6, .int x6), (7, .int x7)] [] (mH h s) Q := by
  unfold mf_335_28 at hf
  obtain ⟨s1, y, e, hf⟩ := mo_bi_ok hf
  exact mb_335_28 (d := d + 3) hh  (mr_77 (d := d + 3) hh e (mr_335_35 hh hrc0 hf k))
def mf_335_L26 (N : Nat) : Nat → Nat → Int32 → Int32 → Int32 → Int32 → Int32 → mS → mO
  | 0, _, _, _, _, _, _, _ => none
  | n + 1, l, x2, x3, x4, x6, x7, s => if l = 0 then mf_335_28 N (mf_335_L26 N n) x2 x3 x4 x6 x7 s else none
theorem mr_335_L26 {X : Nat → Option zz_C} {h : zz_H} (hh : 111 ≤ h.length) {d : Nat} {N : Nat} : ∀ n : Nat, (∀ {Q : Option Value → zz_H → Prop} {x2 : Int32} {x3 : Int32} {x4 : Int32} {x6 : Int32} {x7 : Int32} {s s' : mS} {v : Option Value}, mf_335_L26 N n 0 x2 x3 x4 x6 x7 s = some (s', v) → Q v (mH h s') → zz_E zp_P zt_tf zt_fd X (d + 4) zm_335 28 [(0, .ref 61), (2, .int x2), (3, .int x3), (4, .int x4), (6, .int x6), (7, .int x7)] [] (mH h s) Q) := by
  intro n
  induction n with
  | zero => exact (fun hf _ => by cases hf)
  | succ n ih =>
    have h0 := @ih
    intro Q _ _ _ _ _ s s' v hf k
    unfold mf_335_L26 at hf
    rw [if_pos rfl] at hf
    exact mr_335_28 hh h0 hf k
def mf_335_22 (N : Nat) (x2 : Int32) (x3 : Int32) (x4 : Int32) (s : mS) : mO := mf_335_L26 N N 0 x2 x3 x4 0 0 s
theorem mr_335_22 {X : Nat → Option zz_C} {h : zz_H} (hh : 111 ≤ h.length) {d : Nat} {N : Nat} {Q : Option Value → zz_H → Prop} {x2 : Int32} {x3 : Int32} {x4 : Int32} {s s' : mS} {v : Option Value} (hf : mf_335_22 N x2 x3 x4 s = some (s', v)) (k : Q v (mH h s')) : zz_E zp_P zt_tf zt_fd X (d + 4) zm_335 22 [(0, .ref 61), (2, .int x2), (3, .int x3), (4, .int x4)] [] (mH h s) Q := by
  unfold mf_335_22 at hf
  exact mb_335_22 hh  (mr_335_L26 hh N hf k)
def mf_335_0 (N : Nat) (x1 : Int32) (x2 : Int32) (x3 : Int32) (s : mS) : mO := if ¬ (x2 < 0 ∨ 166300 ≤ Int32.toNatClampNeg x2) then (if ¬ x1 = 16 then mf_335_230 N x1 x2 x3 ((s.2.2.1 47) (Int32.toNatClampNeg x2)) 0 (mI s 51 x3) else mf_335_22 N x2 x3 ((s.2.2.1 47) (Int32.toNatClampNeg x2)) (mI s 51 x3)) else none
theorem mr_335_0 {X : Nat → Option zz_C} {h : zz_H} (hh : 111 ≤ h.length) {d : Nat} {N : Nat} {Q : Option Value → zz_H → Prop} {x1 : Int32} {x2 : Int32} {x3 : Int32} {s s' : mS} {v : Option Value} (hf : mf_335_0 N x1 x2 x3 s = some (s', v)) (k : Q v (mH h s')) : zz_E zp_P zt_tf zt_fd X (d + 4) zm_335 0 [(0, .ref 61), (1, .int x1), (2, .int x2), (3, .int x3)] [] (mH h s) Q := by
  unfold mf_335_0 at hf
  obtain ⟨q0, hf⟩ := mo_if hf
  refine mb_335_0 hh q0 (fun c => ?_) (fun c => ?_)
  · rw [if_pos c] at hf
    exact mr_335_230 hh hf k
  · rw [if_neg c] at hf
    exact mr_335_22 hh hf k
/-- shapes -/
def mf_335 (N : Nat) (x1 : Int32) (x2 : Int32) (x3 : Int32) (s : mS) : mO := mf_335_0 N x1 x2 x3 s
theorem mr_335 {X : Nat → Option zz_C} {h : zz_H} (hh : 111 ≤ h.length) {d : Nat} {N : Nat} {Q : Option Value → zz_H → Prop} {x1 : Int32} {x2 : Int32} {x3 : Int32} {s s' : mS} {v : Option Value} (hf : mf_335 N x1 x2 x3 s = some (s', v)) (k : Q v (mH h s')) : zz_E zp_P zt_tf zt_fd X (d + 4) zm_335 0 [(0, .ref 61), (1, .int x1), (2, .int x2), (3, .int x3)] [] (mH h s) Q := by
  unfold mf_335 at hf
  exact zz_E.weak (mr_335_0 hh hf k) rfl ⟨rfl, rfl, rfl, rfl, trivial⟩
