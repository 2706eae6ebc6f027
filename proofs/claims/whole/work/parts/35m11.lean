/-! builds (II)V -/
theorem mb_305_0 {X : Nat → Option zz_C} {h : zz_H} (hh : 111 ≤ h.length) {s : mS} {d : Nat} {Q : Option Value → zz_H → Prop} {x1 : Int32} {x2 : Int32} (k1 : ¬ x1 = 1 → zz_E zp_P zt_tf zt_fd X d zm_305 21 [(0, .ref 61), (1, .int x1), (2, .int x2), (3, .int ((s.1 51) - x2)), (4, .int 0)] [.int ((s.1 51) - x2)] (mH h s) Q) (k2 : ¬ ¬ x1 = 1 → zz_E zp_P zt_tf zt_fd X d zm_305 16 [(0, .ref 61), (1, .int x1), (2, .int x2), (3, .int ((s.1 51) - x2)), (4, .int 0)] [.int ((s.1 51) - x2)] (mH h s) Q) : zz_E zp_P zt_tf zt_fd X d zm_305 0 [(0, .ref 61), (1, .int x1), (2, .int x2)] [] (mH h s) Q := by
  refine zz_E.n 1 rfl rfl rfl ?_
  refine mE_g hh 4 (v := .int (s.1 51)) rfl rfl rfl ?_
  refine zz_E.n 5 rfl rfl rfl ?_
  refine zz_E.n 6 rfl rfl rfl ?_
  refine zz_E.n 7 rfl rfl rfl ?_
  refine zz_E.c 8 (.int 0) rfl rfl rfl rfl ?_
  refine zz_E.n 10 rfl rfl rfl ?_
  refine zz_E.n 11 rfl rfl rfl ?_
  refine zz_E.n 12 rfl rfl rfl ?_
  refine zz_E.c 13 (.int 1) rfl rfl rfl rfl ?_
  refine zz_E.b2 21 16 (A := ¬ x1 = 1) rfl (zz_cond_ne _ _) (by decide) rfl rfl (fun c => ?_) (fun c => ?_)
  · exact zz_E.weak (k1 c) rfl ⟨rfl, rfl, rfl, rfl, rfl, trivial⟩
  · exact zz_E.weak (k2 c) rfl ⟨rfl, rfl, rfl, rfl, rfl, trivial⟩
theorem mb_305_16 {X : Nat → Option zz_C} {h : zz_H} (hh : 111 ≤ h.length) {s : mS} {d : Nat} {Q : Option Value → zz_H → Prop} {x1 : Int32} {x2 : Int32} {x3 : Int32} {x4 : Int32} {y0 : Int32} (k : zz_E zp_P zt_tf zt_fd X d zm_305 23 [(0, .ref 61), (1, .int x1), (2, .int x2), (3, .int x3), (4, .int x4)] [.int 64, .int y0] (mH h s) Q) : zz_E zp_P zt_tf zt_fd X d zm_305 16 [(0, .ref 61), (1, .int x1), (2, .int x2), (3, .int x3), (4, .int x4)] [.int y0] (mH h s) Q := by
  refine zz_E.c 18 (.int 64) rfl rfl rfl rfl ?_
  refine zz_E.n 23 rfl rfl rfl ?_
  exact zz_E.weak k rfl ⟨rfl, rfl, rfl, rfl, rfl, trivial⟩
theorem mb_305_21 {X : Nat → Option zz_C} {h : zz_H} (hh : 111 ≤ h.length) {s : mS} {d : Nat} {Q : Option Value → zz_H → Prop} {x1 : Int32} {x2 : Int32} {x3 : Int32} {x4 : Int32} {y0 : Int32} (k : zz_E zp_P zt_tf zt_fd X d zm_305 23 [(0, .ref 61), (1, .int x1), (2, .int x2), (3, .int x3), (4, .int x4)] [.int 20, .int y0] (mH h s) Q) : zz_E zp_P zt_tf zt_fd X d zm_305 21 [(0, .ref 61), (1, .int x1), (2, .int x2), (3, .int x3), (4, .int x4)] [.int y0] (mH h s) Q := by
  refine zz_E.c 23 (.int 20) rfl rfl rfl rfl ?_
  exact zz_E.weak k rfl ⟨rfl, rfl, rfl, rfl, rfl, trivial⟩
theorem mb_305_23 {X : Nat → Option zz_C} {h : zz_H} (hh : 111 ≤ h.length) {s : mS} {d : Nat} {Q : Option Value → zz_H → Prop} {x1 : Int32} {x2 : Int32} {x3 : Int32} {x4 : Int32} {y0 : Int32} {y1 : Int32} (k1 : y0 ≤ y1 → zz_E zp_P zt_tf zt_fd X d zm_305 30 [(0, .ref 61), (1, .int x1), (2, .int x2), (3, .int x3), (4, .int x4)] [] (mH h s) Q) (k2 : ¬ y0 ≤ y1 → zz_E zp_P zt_tf zt_fd X d zm_305 26 [(0, .ref 61), (1, .int x1), (2, .int x2), (3, .int x3), (4, .int x4)] [] (mH h s) Q) : zz_E zp_P zt_tf zt_fd X d zm_305 23 [(0, .ref 61), (1, .int x1), (2, .int x2), (3, .int x3), (4, .int x4)] [.int y1, .int y0] (mH h s) Q := by
  refine zz_E.b2 30 26 (A := y0 ≤ y1) rfl rfl (by decide) rfl rfl (fun c => ?_) (fun c => ?_)
  · exact zz_E.weak (k1 c) rfl ⟨rfl, rfl, rfl, rfl, rfl, trivial⟩
  · exact zz_E.weak (k2 c) rfl ⟨rfl, rfl, rfl, rfl, rfl, trivial⟩
theorem mb_305_26 {X : Nat → Option zz_C} {h : zz_H} (hh : 111 ≤ h.length) {s : mS} {d : Nat} {Q : Option Value → zz_H → Prop} {x1 : Int32} {x2 : Int32} {x3 : Int32} {x4 : Int32} (k : zz_E zp_P zt_tf zt_fd X d zm_305 31 [(0, .ref 61), (1, .int x1), (2, .int x2), (3, .int x3), (4, .int x4)] [.int 1] (mH h s) Q) : zz_E zp_P zt_tf zt_fd X d zm_305 26 [(0, .ref 61), (1, .int x1), (2, .int x2), (3, .int x3), (4, .int x4)] [] (mH h s) Q := by
  refine zz_E.c 27 (.int 1) rfl rfl rfl rfl ?_
  refine zz_E.n 31 rfl rfl rfl ?_
  exact zz_E.weak k rfl ⟨rfl, rfl, rfl, rfl, rfl, trivial⟩
theorem mb_305_30 {X : Nat → Option zz_C} {h : zz_H} (hh : 111 ≤ h.length) {s : mS} {d : Nat} {Q : Option Value → zz_H → Prop} {x1 : Int32} {x2 : Int32} {x3 : Int32} {x4 : Int32} (k : zz_E zp_P zt_tf zt_fd X d zm_305 31 [(0, .ref 61), (1, .int x1), (2, .int x2), (3, .int x3), (4, .int x4)] [.int 0] (mH h s) Q) : zz_E zp_P zt_tf zt_fd X d zm_305 30 [(0, .ref 61), (1, .int x1), (2, .int x2), (3, .int x3), (4, .int x4)] [] (mH h s) Q := by
  refine zz_E.c 31 (.int 0) rfl rfl rfl rfl ?_
  exact zz_E.weak k rfl ⟨rfl, rfl, rfl, rfl, rfl, trivial⟩
theorem mb_305_31 {X : Nat → Option zz_C} {h : zz_H} (hh : 111 ≤ h.length) {s : mS} {d : Nat} {Q : Option Value → zz_H → Prop} {x1 : Int32} {x2 : Int32} {x3 : Int32} {x4 : Int32} {y0 : Int32} (k : zz_E zp_P zt_tf zt_fd X d zm_305 36 [(0, .ref 61), (1, .int x1), (2, .int x2), (3, .int x3), (4, .int x4), (5, .int y0), (6, .int x2)] [] (mH h s) Q) : zz_E zp_P zt_tf zt_fd X d zm_305 31 [(0, .ref 61), (1, .int x1), (2, .int x2), (3, .int x3), (4, .int x4)] [.int y0] (mH h s) Q := by
  refine zz_E.n 33 rfl rfl rfl ?_
  refine zz_E.n 34 rfl rfl rfl ?_
  refine zz_E.n 36 rfl rfl rfl ?_
  exact zz_E.weak k rfl ⟨rfl, rfl, rfl, rfl, rfl, rfl, rfl, trivial⟩
theorem mb_305_36 {X : Nat → Option zz_C} {h : zz_H} (hh : 111 ≤ h.length) {s : mS} {d : Nat} {Q : Option Value → zz_H → Prop} {x1 : Int32} {x2 : Int32} {x3 : Int32} {x4 : Int32} {x5 : Int32} {x6 : Int32} (k1 : (s.1 51) ≤ x6 → zz_E zp_P zt_tf zt_fd X d zm_305 72 [(0, .ref 61), (1, .int x1), (2, .int x2), (3, .int x3), (4, .int x4), (5, .int x5)] [] (mH h s) Q) (k2 : ¬ (s.1 51) ≤ x6 → zz_E zp_P zt_tf zt_fd X d zm_305 45 [(0, .ref 61), (1, .int x1), (2, .int x2), (3, .int x3), (4, .int x4), (5, .int x5), (6, .int x6)] [] (mH h s) Q) : zz_E zp_P zt_tf zt_fd X d zm_305 36 [(0, .ref 61), (1, .int x1), (2, .int x2), (3, .int x3), (4, .int x4), (5, .int x5), (6, .int x6)] [] (mH h s) Q := by
  refine zz_E.n 38 rfl rfl rfl ?_
  refine zz_E.n 39 rfl rfl rfl ?_
  refine mE_g hh 42 (v := .int (s.1 51)) rfl rfl rfl ?_
  refine zz_E.b2 72 45 (A := (s.1 51) ≤ x6) rfl rfl (by decide) rfl rfl (fun c => ?_) (fun c => ?_)
  · exact zz_E.weak (k1 c) rfl ⟨rfl, rfl, rfl, rfl, rfl, rfl, trivial⟩
  · exact zz_E.weak (k2 c) rfl ⟨rfl, rfl, rfl, rfl, rfl, rfl, rfl, trivial⟩
theorem mb_305_45 {X : Nat → Option zz_C} {h : zz_H} (hh : 111 ≤ h.length) {s : mS} {d : Nat} {Q : Option Value → zz_H → Prop} {x1 : Int32} {x2 : Int32} {x3 : Int32} {x4 : Int32} {x5 : Int32} {x6 : Int32} (k1 : ¬ x1 = 2 → zz_E zp_P zt_tf zt_fd X d zm_305 72 [(0, .ref 61), (1, .int x1), (2, .int x2), (3, .int x3), (4, .int x4), (5, .int x5)] [] (mH h s) Q) (k2 : ¬ ¬ x1 = 2 → zz_E zp_P zt_tf zt_fd X d zm_305 50 [(0, .ref 61), (1, .int x1), (2, .int x2), (3, .int x3), (4, .int x4), (5, .int x5), (6, .int x6)] [] (mH h s) Q) : zz_E zp_P zt_tf zt_fd X d zm_305 45 [(0, .ref 61), (1, .int x1), (2, .int x2), (3, .int x3), (4, .int x4), (5, .int x5), (6, .int x6)] [] (mH h s) Q := by
  refine zz_E.n 46 rfl rfl rfl ?_
  refine zz_E.c 47 (.int 2) rfl rfl rfl rfl ?_
  refine zz_E.b2 72 50 (A := ¬ x1 = 2) rfl (zz_cond_ne _ _) (by decide) rfl rfl (fun c => ?_) (fun c => ?_)
  · exact zz_E.weak (k1 c) rfl ⟨rfl, rfl, rfl, rfl, rfl, rfl, trivial⟩
  · exact zz_E.weak (k2 c) rfl ⟨rfl, rfl, rfl, rfl, rfl, rfl, rfl, trivial⟩
theorem mb_305_50 {X : Nat → Option zz_C} {h : zz_H} (hh : 111 ≤ h.length) {s : mS} {d : Nat} {Q : Option Value → zz_H → Prop} {x1 : Int32} {x2 : Int32} {x3 : Int32} {x4 : Int32} {x5 : Int32} {x6 : Int32} (i59 : ¬ (x6 < 0 ∨ 9000 ≤ Int32.toNatClampNeg x6)) (k : zz_E zp_P zt_tf zt_fd X d zm_77 0 [(0, .ref 61), (1, .int ((s.2.2.1 50) (Int32.toNatClampNeg x6)))] [] (mH h s) (fun v h' => zz_E zp_P zt_tf zt_fd X (d + 1) zm_305 63 [(0, .ref 61), (1, .int x1), (2, .int x2), (3, .int x3), (5, .int x5), (6, .int x6)] (v.toList ++ [.int x4]) h' Q)) : zz_E zp_P zt_tf zt_fd X (d + 1) zm_305 50 [(0, .ref 61), (1, .int x1), (2, .int x2), (3, .int x3), (4, .int x4), (5, .int x5), (6, .int x6)] [] (mH h s) Q := by
  refine zz_E.n 52 rfl rfl rfl ?_
  refine zz_E.n 53 rfl rfl rfl ?_
  refine zz_E.n 54 rfl rfl rfl ?_
  refine mE_g hh 57 (v := .ref 91) rfl rfl rfl ?_
  refine zz_E.n 59 rfl rfl rfl ?_
  refine mE_ia hh 60 30 (f := (s.2.2.1 50)) rfl (by decide) rfl rfl i59 rfl ?_
  refine mE_cv hh 63 (as := [.int x4]) rfl rfl (Nat.le_of_ble_eq_true rfl) (Nat.le_of_ble_eq_true rfl) rfl (Nat.le_of_ble_eq_true rfl) rfl ?_
  refine zz_E.mono k ?_
  intro v h' hE
  exact zz_E.weak hE rfl ⟨rfl, rfl, rfl, rfl, rfl, rfl, trivial⟩
theorem mb_305_63 {X : Nat → Option zz_C} {h : zz_H} (hh : 111 ≤ h.length) {s : mS} {d : Nat} {Q : Option Value → zz_H → Prop} {x1 : Int32} {x2 : Int32} {x3 : Int32} {x5 : Int32} {x6 : Int32} {y0 : Int32} {y1 : Int32} (k : zz_E zp_P zt_tf zt_fd X d zm_305 36 [(0, .ref 61), (1, .int x1), (2, .int x2), (3, .int x3), (4, .int (y0 + y1)), (5, .int x5), (6, .int (x6 + 1))] [] (mH h s) Q) : zz_E zp_P zt_tf zt_fd X d zm_305 63 [(0, .ref 61), (1, .int x1), (2, .int x2), (3, .int x3), (5, .int x5), (6, .int x6)] [.int y1, .int y0] (mH h s) Q := by
  refine zz_E.n 64 rfl rfl rfl ?_
  refine zz_E.n 66 rfl rfl rfl ?_
  refine zz_E.n 69 rfl rfl rfl ?_
  refine zz_E.n 36 rfl rfl rfl ?_
  exact zz_E.weak k rfl ⟨rfl, rfl, rfl, rfl, rfl, rfl, rfl, trivial⟩
theorem mb_305_72 {X : Nat → Option zz_C} {h : zz_H} (hh : 111 ≤ h.length) {s : mS} {d : Nat} {Q : Option Value → zz_H → Prop} {x1 : Int32} {x2 : Int32} {x3 : Int32} {x4 : Int32} {x5 : Int32} (k1 : ¬ x5 = 0 → zz_E zp_P zt_tf zt_fd X d zm_305 85 [(0, .ref 61), (1, .int x1), (2, .int x2), (3, .int x3)] [] (mH h s) Q) (k2 : ¬ ¬ x5 = 0 → zz_E zp_P zt_tf zt_fd X d zm_305 77 [(0, .ref 61), (1, .int x1), (2, .int x2), (3, .int x3), (4, .int x4)] [] (mH h s) Q) : zz_E zp_P zt_tf zt_fd X d zm_305 72 [(0, .ref 61), (1, .int x1), (2, .int x2), (3, .int x3), (4, .int x4), (5, .int x5)] [] (mH h s) Q := by
  refine zz_E.n 74 rfl rfl rfl ?_
  refine zz_E.b1 85 77 (A := ¬ x5 = 0) rfl (zz_cond_ne _ _) (by decide) rfl rfl (fun c => ?_) (fun c => ?_)
  · exact zz_E.weak (k1 c) rfl ⟨rfl, rfl, rfl, rfl, trivial⟩
  · exact zz_E.weak (k2 c) rfl ⟨rfl, rfl, rfl, rfl, rfl, trivial⟩
theorem mb_305_77 {X : Nat → Option zz_C} {h : zz_H} (hh : 111 ≤ h.length) {s : mS} {d : Nat} {Q : Option Value → zz_H → Prop} {x1 : Int32} {x2 : Int32} {x3 : Int32} {x4 : Int32} (k1 : x4 ≤ 200 → zz_E zp_P zt_tf zt_fd X d zm_305 89 [(0, .ref 61), (1, .int x1), (2, .int x2), (3, .int x3)] [] (mH h s) Q) (k2 : ¬ x4 ≤ 200 → zz_E zp_P zt_tf zt_fd X d zm_305 85 [(0, .ref 61), (1, .int x1), (2, .int x2), (3, .int x3)] [] (mH h s) Q) : zz_E zp_P zt_tf zt_fd X d zm_305 77 [(0, .ref 61), (1, .int x1), (2, .int x2), (3, .int x3), (4, .int x4)] [] (mH h s) Q := by
  refine zz_E.n 79 rfl rfl rfl ?_
  refine zz_E.c 82 (.int 200) rfl rfl rfl rfl ?_
  refine zz_E.b2 89 85 (A := x4 ≤ 200) rfl rfl (by decide) rfl rfl (fun c => ?_) (fun c => ?_)
  · exact zz_E.weak (k1 c) rfl ⟨rfl, rfl, rfl, rfl, trivial⟩
  · exact zz_E.weak (k2 c) rfl ⟨rfl, rfl, rfl, rfl, trivial⟩
theorem mb_305_85 {X : Nat → Option zz_C} {h : zz_H} (hh : 111 ≤ h.length) {s : mS} {d : Nat} {Q : Option Value → zz_H → Prop} {x1 : Int32} {x2 : Int32} {x3 : Int32} (k : zz_E zp_P zt_tf zt_fd X d zm_305 90 [(0, .ref 61), (1, .int x1), (2, .int x2), (3, .int x3)] [.int 1] (mH h s) Q) : zz_E zp_P zt_tf zt_fd X d zm_305 85 [(0, .ref 61), (1, .int x1), (2, .int x2), (3, .int x3)] [] (mH h s) Q := by
  refine zz_E.c 86 (.int 1) rfl rfl rfl rfl ?_
  refine zz_E.n 90 rfl rfl rfl ?_
  exact zz_E.weak k rfl ⟨rfl, rfl, rfl, rfl, trivial⟩
theorem mb_305_89 {X : Nat → Option zz_C} {h : zz_H} (hh : 111 ≤ h.length) {s : mS} {d : Nat} {Q : Option Value → zz_H → Prop} {x1 : Int32} {x2 : Int32} {x3 : Int32} (k : zz_E zp_P zt_tf zt_fd X d zm_305 90 [(0, .ref 61), (1, .int x1), (2, .int x2), (3, .int x3)] [.int 0] (mH h s) Q) : zz_E zp_P zt_tf zt_fd X d zm_305 89 [(0, .ref 61), (1, .int x1), (2, .int x2), (3, .int x3)] [] (mH h s) Q := by
  refine zz_E.c 90 (.int 0) rfl rfl rfl rfl ?_
  exact zz_E.weak k rfl ⟨rfl, rfl, rfl, rfl, trivial⟩
theorem mb_305_90 {X : Nat → Option zz_C} {h : zz_H} (hh : 111 ≤ h.length) {s : mS} {d : Nat} {Q : Option Value → zz_H → Prop} {x1 : Int32} {x2 : Int32} {x3 : Int32} {y0 : Int32} (k : zz_E zp_P zt_tf zt_fd X d zm_305 101 [(0, .ref 61), (1, .int x1), (2, .int x2), (3, .int x3), (5, .int y0), (6, .int 0), (7, .int 1), (8, .int x2)] [] (mH h s) Q) : zz_E zp_P zt_tf zt_fd X d zm_305 90 [(0, .ref 61), (1, .int x1), (2, .int x2), (3, .int x3)] [.int y0] (mH h s) Q := by
  refine zz_E.n 92 rfl rfl rfl ?_
  refine zz_E.c 93 (.int 0) rfl rfl rfl rfl ?_
  refine zz_E.n 95 rfl rfl rfl ?_
  refine zz_E.c 96 (.int 1) rfl rfl rfl rfl ?_
  refine zz_E.n 98 rfl rfl rfl ?_
  refine zz_E.n 99 rfl rfl rfl ?_
  refine zz_E.n 101 rfl rfl rfl ?_
  exact zz_E.weak k rfl ⟨rfl, rfl, rfl, rfl, rfl, rfl, rfl, rfl, trivial⟩
theorem mb_305_101 {X : Nat → Option zz_C} {h : zz_H} (hh : 111 ≤ h.length) {s : mS} {d : Nat} {Q : Option Value → zz_H → Prop} {x1 : Int32} {x2 : Int32} {x3 : Int32} {x5 : Int32} {x6 : Int32} {x7 : Int32} {x8 : Int32} (k1 : (s.1 51) ≤ x8 → zz_E zp_P zt_tf zt_fd X d zm_305 187 [(0, .ref 61), (1, .int x1), (2, .int x2), (3, .int x3), (5, .int x5), (6, .int x6), (7, .int x7)] [] (mH h s) Q) (k2 : ¬ (s.1 51) ≤ x8 → zz_E zp_P zt_tf zt_fd X d zm_305 110 [(0, .ref 61), (1, .int x1), (2, .int x2), (3, .int x3), (5, .int x5), (6, .int x6), (7, .int x7), (8, .int x8)] [] (mH h s) Q) : zz_E zp_P zt_tf zt_fd X d zm_305 101 [(0, .ref 61), (1, .int x1), (2, .int x2), (3, .int x3), (5, .int x5), (6, .int x6), (7, .int x7), (8, .int x8)] [] (mH h s) Q := by
  refine zz_E.n 103 rfl rfl rfl ?_
  refine zz_E.n 104 rfl rfl rfl ?_
  refine mE_g hh 107 (v := .int (s.1 51)) rfl rfl rfl ?_
  refine zz_E.b2 187 110 (A := (s.1 51) ≤ x8) rfl rfl (by decide) rfl rfl (fun c => ?_) (fun c => ?_)
  · exact zz_E.weak (k1 c) rfl ⟨rfl, rfl, rfl, rfl, rfl, rfl, rfl, trivial⟩
  · exact zz_E.weak (k2 c) rfl ⟨rfl, rfl, rfl, rfl, rfl, rfl, rfl, rfl, trivial⟩
theorem mb_305_110 {X : Nat → Option zz_C} {h : zz_H} (hh : 111 ≤ h.length) {s : mS} {d : Nat} {Q : Option Value → zz_H → Prop} {x1 : Int32} {x2 : Int32} {x3 : Int32} {x5 : Int32} {x6 : Int32} {x7 : Int32} {x8 : Int32} (k1 : ¬ x1 = 3 → zz_E zp_P zt_tf zt_fd X d zm_305 187 [(0, .ref 61), (1, .int x1), (2, .int x2), (3, .int x3), (5, .int x5), (6, .int x6), (7, .int x7)] [] (mH h s) Q) (k2 : ¬ ¬ x1 = 3 → zz_E zp_P zt_tf zt_fd X d zm_305 115 [(0, .ref 61), (1, .int x1), (2, .int x2), (3, .int x3), (5, .int x5), (6, .int x6), (7, .int x7), (8, .int x8)] [] (mH h s) Q) : zz_E zp_P zt_tf zt_fd X d zm_305 110 [(0, .ref 61), (1, .int x1), (2, .int x2), (3, .int x3), (5, .int x5), (6, .int x6), (7, .int x7), (8, .int x8)] [] (mH h s) Q := by
  refine zz_E.n 111 rfl rfl rfl ?_
  refine zz_E.c 112 (.int 3) rfl rfl rfl rfl ?_
  refine zz_E.b2 187 115 (A := ¬ x1 = 3) rfl (zz_cond_ne _ _) (by decide) rfl rfl (fun c => ?_) (fun c => ?_)
  · exact zz_E.weak (k1 c) rfl ⟨rfl, rfl, rfl, rfl, rfl, rfl, rfl, trivial⟩
  · exact zz_E.weak (k2 c) rfl ⟨rfl, rfl, rfl, rfl, rfl, rfl, rfl, rfl, trivial⟩
theorem mb_305_115 {X : Nat → Option zz_C} {h : zz_H} (hh : 111 ≤ h.length) {s : mS} {d : Nat} {Q : Option Value → zz_H → Prop} {x1 : Int32} {x2 : Int32} {x3 : Int32} {x5 : Int32} {x6 : Int32} {x7 : Int32} {x8 : Int32} (k1 : ¬ x5 = 0 → zz_E zp_P zt_tf zt_fd X d zm_305 187 [(0, .ref 61), (1, .int x1), (2, .int x2), (3, .int x3), (5, .int x5), (6, .int x6), (7, .int x7)] [] (mH h s) Q) (k2 : ¬ ¬ x5 = 0 → zz_E zp_P zt_tf zt_fd X d zm_305 120 [(0, .ref 61), (1, .int x1), (2, .int x2), (3, .int x3), (5, .int x5), (6, .int x6), (7, .int x7), (8, .int x8)] [] (mH h s) Q) : zz_E zp_P zt_tf zt_fd X d zm_305 115 [(0, .ref 61), (1, .int x1), (2, .int x2), (3, .int x3), (5, .int x5), (6, .int x6), (7, .int x7), (8, .int x8)] [] (mH h s) Q := by
  refine zz_E.n 117 rfl rfl rfl ?_
  refine zz_E.b1 187 120 (A := ¬ x5 = 0) rfl (zz_cond_ne _ _) (by decide) rfl rfl (fun c => ?_) (fun c => ?_)
  · exact zz_E.weak (k1 c) rfl ⟨rfl, rfl, rfl, rfl, rfl, rfl, rfl, trivial⟩
  · exact zz_E.weak (k2 c) rfl ⟨rfl, rfl, rfl, rfl, rfl, rfl, rfl, rfl, trivial⟩
theorem mb_305_120 {X : Nat → Option zz_C} {h : zz_H} (hh : 111 ≤ h.length) {s : mS} {d : Nat} {Q : Option Value → zz_H → Prop} {x1 : Int32} {x2 : Int32} {x3 : Int32} {x5 : Int32} {x6 : Int32} {x7 : Int32} {x8 : Int32} (i136 : ¬ (x8 < 0 ∨ 9000 ≤ Int32.toNatClampNeg x8)) (k1 : ¬ ((s.2.2.1 49) (Int32.toNatClampNeg x8)) = 1 → zz_E zp_P zt_tf zt_fd X d zm_305 152 [(0, .ref 61), (1, .int x1), (2, .int x2), (3, .int x3), (5, .int x5), (6, .int x6), (7, .int x7), (8, .int x8)] [] (mH h (mI (mI s 56 0) 57 1)) Q) (k2 : ¬ ¬ ((s.2.2.1 49) (Int32.toNatClampNeg x8)) = 1 → zz_E zp_P zt_tf zt_fd X d zm_305 141 [(0, .ref 61), (1, .int x1), (2, .int x2), (3, .int x3), (5, .int x5), (6, .int x6), (7, .int x7), (8, .int x8)] [] (mH h (mI (mI s 56 0) 57 1)) Q) : zz_E zp_P zt_tf zt_fd X d zm_305 120 [(0, .ref 61), (1, .int x1), (2, .int x2), (3, .int x3), (5, .int x5), (6, .int x6), (7, .int x7), (8, .int x8)] [] (mH h s) Q := by
  refine zz_E.n 121 rfl rfl rfl ?_
  refine zz_E.c 122 (.int 0) rfl rfl rfl rfl ?_
  refine mE_p hh 125 rfl (by decide) rfl (mF_56 _ _) rfl ?_
  refine zz_E.n 126 rfl rfl rfl ?_
  refine zz_E.c 127 (.int 1) rfl rfl rfl rfl ?_
  refine mE_p hh 130 rfl (by decide) rfl (mF_57 _ _) rfl ?_
  refine zz_E.n 131 rfl rfl rfl ?_
  refine mE_g hh 134 (v := .ref 90) rfl rfl rfl ?_
  refine zz_E.n 136 rfl rfl rfl ?_
  refine mE_ia hh 137 29 (f := (s.2.2.1 49)) rfl (by decide) rfl rfl i136 rfl ?_
  refine zz_E.c 138 (.int 1) rfl rfl rfl rfl ?_
  refine zz_E.b2 152 141 (A := ¬ ((s.2.2.1 49) (Int32.toNatClampNeg x8)) = 1) rfl (zz_cond_ne _ _) (by decide) rfl rfl (fun c => ?_) (fun c => ?_)
  · exact zz_E.weak (k1 c) rfl ⟨rfl, rfl, rfl, rfl, rfl, rfl, rfl, rfl, trivial⟩
  · exact zz_E.weak (k2 c) rfl ⟨rfl, rfl, rfl, rfl, rfl, rfl, rfl, rfl, trivial⟩
theorem mb_305_141 {X : Nat → Option zz_C} {h : zz_H} (hh : 111 ≤ h.length) {s : mS} {d : Nat} {Q : Option Value → zz_H → Prop} {x1 : Int32} {x2 : Int32} {x3 : Int32} {x5 : Int32} {x6 : Int32} {x7 : Int32} {x8 : Int32} (i148 : ¬ (x8 < 0 ∨ 9000 ≤ Int32.toNatClampNeg x8)) (k : zz_E zp_P zt_tf zt_fd X d zm_298 0 [(0, .ref 61), (1, .int ((s.2.2.1 50) (Int32.toNatClampNeg x8)))] [] (mH h s) (fun v h' => zz_E zp_P zt_tf zt_fd X (d + 1) zm_305 152 [(0, .ref 61), (1, .int x1), (2, .int x2), (3, .int x3), (5, .int x5), (6, .int x6), (7, .int x7), (8, .int x8)] (v.toList ++ []) h' Q)) : zz_E zp_P zt_tf zt_fd X (d + 1) zm_305 141 [(0, .ref 61), (1, .int x1), (2, .int x2), (3, .int x3), (5, .int x5), (6, .int x6), (7, .int x7), (8, .int x8)] [] (mH h s) Q := by
  refine zz_E.n 142 rfl rfl rfl ?_
  refine zz_E.n 143 rfl rfl rfl ?_
  refine mE_g hh 146 (v := .ref 91) rfl rfl rfl ?_
  refine zz_E.n 148 rfl rfl rfl ?_
  refine mE_ia hh 149 30 (f := (s.2.2.1 50)) rfl (by decide) rfl rfl i148 rfl ?_
  refine mE_cv hh 152 (as := []) rfl rfl (Nat.le_of_ble_eq_true rfl) (Nat.le_of_ble_eq_true rfl) rfl (Nat.le_of_ble_eq_true rfl) rfl ?_
  refine zz_E.mono k ?_
  intro v h' hE
  exact zz_E.weak hE rfl ⟨rfl, rfl, rfl, rfl, rfl, rfl, rfl, rfl, trivial⟩
theorem mb_305_152 {X : Nat → Option zz_C} {h : zz_H} (hh : 111 ≤ h.length) {s : mS} {d : Nat} {Q : Option Value → zz_H → Prop} {x1 : Int32} {x2 : Int32} {x3 : Int32} {x5 : Int32} {x6 : Int32} {x7 : Int32} {x8 : Int32} (k1 : (s.1 56) ≤ x6 → zz_E zp_P zt_tf zt_fd X d zm_305 168 [(0, .ref 61), (1, .int x1), (2, .int x2), (3, .int x3), (5, .int x5), (6, .int x6), (7, .int x7), (8, .int x8)] [] (mH h s) Q) (k2 : ¬ (s.1 56) ≤ x6 → zz_E zp_P zt_tf zt_fd X d zm_305 161 [(0, .ref 61), (1, .int x1), (2, .int x2), (3, .int x3), (5, .int x5), (7, .int x7), (8, .int x8)] [] (mH h s) Q) : zz_E zp_P zt_tf zt_fd X d zm_305 152 [(0, .ref 61), (1, .int x1), (2, .int x2), (3, .int x3), (5, .int x5), (6, .int x6), (7, .int x7), (8, .int x8)] [] (mH h s) Q := by
  refine zz_E.n 153 rfl rfl rfl ?_
  refine mE_g hh 156 (v := .int (s.1 56)) rfl rfl rfl ?_
  refine zz_E.n 158 rfl rfl rfl ?_
  refine zz_E.b2 168 161 (A := (s.1 56) ≤ x6) rfl rfl (by decide) rfl rfl (fun c => ?_) (fun c => ?_)
  · exact zz_E.weak (k1 c) rfl ⟨rfl, rfl, rfl, rfl, rfl, rfl, rfl, rfl, trivial⟩
  · exact zz_E.weak (k2 c) rfl ⟨rfl, rfl, rfl, rfl, rfl, rfl, rfl, trivial⟩
theorem mb_305_161 {X : Nat → Option zz_C} {h : zz_H} (hh : 111 ≤ h.length) {s : mS} {d : Nat} {Q : Option Value → zz_H → Prop} {x1 : Int32} {x2 : Int32} {x3 : Int32} {x5 : Int32} {x7 : Int32} {x8 : Int32} (k : zz_E zp_P zt_tf zt_fd X d zm_305 170 [(0, .ref 61), (1, .int x1), (2, .int x2), (3, .int x3), (5, .int x5), (7, .int x7), (8, .int x8)] [.int (s.1 56)] (mH h s) Q) : zz_E zp_P zt_tf zt_fd X d zm_305 161 [(0, .ref 61), (1, .int x1), (2, .int x2), (3, .int x3), (5, .int x5), (7, .int x7), (8, .int x8)] [] (mH h s) Q := by
  refine zz_E.n 162 rfl rfl rfl ?_
  refine mE_g hh 165 (v := .int (s.1 56)) rfl rfl rfl ?_
  refine zz_E.n 170 rfl rfl rfl ?_
  exact zz_E.weak k rfl ⟨rfl, rfl, rfl, rfl, rfl, rfl, rfl, trivial⟩
theorem mb_305_168 {X : Nat → Option zz_C} {h : zz_H} (hh : 111 ≤ h.length) {s : mS} {d : Nat} {Q : Option Value → zz_H → Prop} {x1 : Int32} {x2 : Int32} {x3 : Int32} {x5 : Int32} {x6 : Int32} {x7 : Int32} {x8 : Int32} (k : zz_E zp_P zt_tf zt_fd X d zm_305 170 [(0, .ref 61), (1, .int x1), (2, .int x2), (3, .int x3), (5, .int x5), (7, .int x7), (8, .int x8)] [.int x6] (mH h s) Q) : zz_E zp_P zt_tf zt_fd X d zm_305 168 [(0, .ref 61), (1, .int x1), (2, .int x2), (3, .int x3), (5, .int x5), (6, .int x6), (7, .int x7), (8, .int x8)] [] (mH h s) Q := by
  refine zz_E.n 170 rfl rfl rfl ?_
  exact zz_E.weak k rfl ⟨rfl, rfl, rfl, rfl, rfl, rfl, rfl, trivial⟩
theorem mb_305_170 {X : Nat → Option zz_C} {h : zz_H} (hh : 111 ≤ h.length) {s : mS} {d : Nat} {Q : Option Value → zz_H → Prop} {x1 : Int32} {x2 : Int32} {x3 : Int32} {x5 : Int32} {x7 : Int32} {x8 : Int32} {y0 : Int32} (k : zz_E zp_P zt_tf zt_fd X d zm_305 101 [(0, .ref 61), (1, .int x1), (2, .int x2), (3, .int x3), (5, .int x5), (6, .int y0), (7, .int (x7 + (s.1 57))), (8, .int (x8 + 1))] [] (mH h s) Q) : zz_E zp_P zt_tf zt_fd X d zm_305 170 [(0, .ref 61), (1, .int x1), (2, .int x2), (3, .int x3), (5, .int x5), (7, .int x7), (8, .int x8)] [.int y0] (mH h s) Q := by
  refine zz_E.n 172 rfl rfl rfl ?_
  refine zz_E.n 174 rfl rfl rfl ?_
  refine zz_E.n 175 rfl rfl rfl ?_
  refine mE_g hh 178 (v := .int (s.1 57)) rfl rfl rfl ?_
  refine zz_E.n 179 rfl rfl rfl ?_
  refine zz_E.n 181 rfl rfl rfl ?_
  refine zz_E.n 184 rfl rfl rfl ?_
  refine zz_E.n 101 rfl rfl rfl ?_
  exact zz_E.weak k rfl ⟨rfl, rfl, rfl, rfl, rfl, rfl, rfl, rfl, trivial⟩
theorem mb_305_187 {X : Nat → Option zz_C} {h : zz_H} (hh : 111 ≤ h.length) {s : mS} {d : Nat} {Q : Option Value → zz_H → Prop} {x1 : Int32} {x2 : Int32} {x3 : Int32} {x5 : Int32} {x6 : Int32} {x7 : Int32} (k1 : ¬ x5 = 0 → zz_E zp_P zt_tf zt_fd X d zm_305 206 [(0, .ref 61), (1, .int x1), (2, .int x2), (3, .int x3)] [] (mH h s) Q) (k2 : ¬ ¬ x5 = 0 → zz_E zp_P zt_tf zt_fd X d zm_305 192 [(0, .ref 61), (1, .int x1), (2, .int x2), (3, .int x3), (6, .int x6), (7, .int x7)] [] (mH h s) Q) : zz_E zp_P zt_tf zt_fd X d zm_305 187 [(0, .ref 61), (1, .int x1), (2, .int x2), (3, .int x3), (5, .int x5), (6, .int x6), (7, .int x7)] [] (mH h s) Q := by
  refine zz_E.n 189 rfl rfl rfl ?_
  refine zz_E.b1 206 192 (A := ¬ x5 = 0) rfl (zz_cond_ne _ _) (by decide) rfl rfl (fun c => ?_) (fun c => ?_)
  · exact zz_E.weak (k1 c) rfl ⟨rfl, rfl, rfl, rfl, trivial⟩
  · exact zz_E.weak (k2 c) rfl ⟨rfl, rfl, rfl, rfl, rfl, rfl, trivial⟩
theorem mb_305_192 {X : Nat → Option zz_C} {h : zz_H} (hh : 111 ≤ h.length) {s : mS} {d : Nat} {Q : Option Value → zz_H → Prop} {x1 : Int32} {x2 : Int32} {x3 : Int32} {x6 : Int32} {x7 : Int32} (k1 : 3 < x6 → zz_E zp_P zt_tf zt_fd X d zm_305 206 [(0, .ref 61), (1, .int x1), (2, .int x2), (3, .int x3)] [] (mH h s) Q) (k2 : ¬ 3 < x6 → zz_E zp_P zt_tf zt_fd X d zm_305 198 [(0, .ref 61), (1, .int x1), (2, .int x2), (3, .int x3), (7, .int x7)] [] (mH h s) Q) : zz_E zp_P zt_tf zt_fd X d zm_305 192 [(0, .ref 61), (1, .int x1), (2, .int x2), (3, .int x3), (6, .int x6), (7, .int x7)] [] (mH h s) Q := by
  refine zz_E.n 194 rfl rfl rfl ?_
  refine zz_E.c 195 (.int 3) rfl rfl rfl rfl ?_
  refine zz_E.b2 206 198 (A := 3 < x6) rfl rfl (by decide) rfl rfl (fun c => ?_) (fun c => ?_)
  · exact zz_E.weak (k1 c) rfl ⟨rfl, rfl, rfl, rfl, trivial⟩
  · exact zz_E.weak (k2 c) rfl ⟨rfl, rfl, rfl, rfl, rfl, trivial⟩
theorem mb_305_198 {X : Nat → Option zz_C} {h : zz_H} (hh : 111 ≤ h.length) {s : mS} {d : Nat} {Q : Option Value → zz_H → Prop} {x1 : Int32} {x2 : Int32} {x3 : Int32} {x7 : Int32} (k1 : x7 ≤ 600 → zz_E zp_P zt_tf zt_fd X d zm_305 210 [(0, .ref 61), (1, .int x1), (2, .int x2), (3, .int x3)] [] (mH h s) Q) (k2 : ¬ x7 ≤ 600 → zz_E zp_P zt_tf zt_fd X d zm_305 206 [(0, .ref 61), (1, .int x1), (2, .int x2), (3, .int x3)] [] (mH h s) Q) : zz_E zp_P zt_tf zt_fd X d zm_305 198 [(0, .ref 61), (1, .int x1), (2, .int x2), (3, .int x3), (7, .int x7)] [] (mH h s) Q := by
  refine zz_E.n 200 rfl rfl rfl ?_
  refine zz_E.c 203 (.int 600) rfl rfl rfl rfl ?_
  refine zz_E.b2 210 206 (A := x7 ≤ 600) rfl rfl (by decide) rfl rfl (fun c => ?_) (fun c => ?_)
  · exact zz_E.weak (k1 c) rfl ⟨rfl, rfl, rfl, rfl, trivial⟩
  · exact zz_E.weak (k2 c) rfl ⟨rfl, rfl, rfl, rfl, trivial⟩
theorem mb_305_206 {X : Nat → Option zz_C} {h : zz_H} (hh : 111 ≤ h.length) {s : mS} {d : Nat} {Q : Option Value → zz_H → Prop} {x1 : Int32} {x2 : Int32} {x3 : Int32} (k : zz_E zp_P zt_tf zt_fd X d zm_305 211 [(0, .ref 61), (1, .int x1), (2, .int x2), (3, .int x3)] [.int 1] (mH h s) Q) : zz_E zp_P zt_tf zt_fd X d zm_305 206 [(0, .ref 61), (1, .int x1), (2, .int x2), (3, .int x3)] [] (mH h s) Q := by
  refine zz_E.c 207 (.int 1) rfl rfl rfl rfl ?_
  refine zz_E.n 211 rfl rfl rfl ?_
  exact zz_E.weak k rfl ⟨rfl, rfl, rfl, rfl, trivial⟩
theorem mb_305_210 {X : Nat → Option zz_C} {h : zz_H} (hh : 111 ≤ h.length) {s : mS} {d : Nat} {Q : Option Value → zz_H → Prop} {x1 : Int32} {x2 : Int32} {x3 : Int32} (k : zz_E zp_P zt_tf zt_fd X d zm_305 211 [(0, .ref 61), (1, .int x1), (2, .int x2), (3, .int x3)] [.int 0] (mH h s) Q) : zz_E zp_P zt_tf zt_fd X d zm_305 210 [(0, .ref 61), (1, .int x1), (2, .int x2), (3, .int x3)] [] (mH h s) Q := by
  refine zz_E.c 211 (.int 0) rfl rfl rfl rfl ?_
  exact zz_E.weak k rfl ⟨rfl, rfl, rfl, rfl, trivial⟩
theorem mb_305_211 {X : Nat → Option zz_C} {h : zz_H} (hh : 111 ≤ h.length) {s : mS} {d : Nat} {Q : Option Value → zz_H → Prop} {x1 : Int32} {x2 : Int32} {x3 : Int32} {y0 : Int32} (k1 : y0 = 0 → zz_E zp_P zt_tf zt_fd X d zm_305 228 [(0, .ref 61), (1, .int x1), (2, .int x2), (3, .int x3)] [] (mH h s) Q) (k2 : ¬ y0 = 0 → zz_E zp_P zt_tf zt_fd X d zm_305 218 [(0, .ref 61)] [] (mH h s) Q) : zz_E zp_P zt_tf zt_fd X d zm_305 211 [(0, .ref 61), (1, .int x1), (2, .int x2), (3, .int x3)] [.int y0] (mH h s) Q := by
  refine zz_E.n 213 rfl rfl rfl ?_
  refine zz_E.n 215 rfl rfl rfl ?_
  refine zz_E.b1 228 218 (A := y0 = 0) rfl rfl (by decide) rfl rfl (fun c => ?_) (fun c => ?_)
  · exact zz_E.weak (k1 c) rfl ⟨rfl, rfl, rfl, rfl, trivial⟩
  · exact zz_E.weak (k2 c) rfl ⟨rfl, trivial⟩
theorem mb_305_218 {X : Nat → Option zz_C} {h : zz_H} (hh : 111 ≤ h.length) {s : mS} {d : Nat} {Q : Option Value → zz_H → Prop}  (k : zz_E zp_P zt_tf zt_fd X d zm_301 0 [(0, .ref 61), (1, .int 2), (2, .int (s.1 70))] [] (mH h s) (fun v h' => zz_E zp_P zt_tf zt_fd X (d + 1) zm_305 227 [] (v.toList ++ []) h' Q)) : zz_E zp_P zt_tf zt_fd X (d + 1) zm_305 218 [(0, .ref 61)] [] (mH h s) Q := by
  refine zz_E.n 219 rfl rfl rfl ?_
  refine zz_E.c 220 (.int 2) rfl rfl rfl rfl ?_
  refine zz_E.n 221 rfl rfl rfl ?_
  refine mE_g hh 224 (v := .int (s.1 70)) rfl rfl rfl ?_
  refine mE_cv hh 227 (as := []) rfl rfl (Nat.le_of_ble_eq_true rfl) (Nat.le_of_ble_eq_true rfl) rfl (Nat.le_of_ble_eq_true rfl) rfl ?_
  refine zz_E.mono k ?_
  intro v h' hE
  exact zz_E.weak hE rfl trivial
theorem mb_305_227 {X : Nat → Option zz_C} {h : zz_H} (hh : 111 ≤ h.length) {s : mS} {d : Nat} {Q : Option Value → zz_H → Prop}  (k : Q none (mH h s)) : zz_E zp_P zt_tf zt_fd X d zm_305 227 [] [] (mH h s) Q := by
  refine zz_E.ret rfl rfl rfl ?_
  exact k
theorem mb_305_228 {X : Nat → Option zz_C} {h : zz_H} (hh : 111 ≤ h.length) {s : mS} {d : Nat} {Q : Option Value → zz_H → Prop} {x1 : Int32} {x2 : Int32} {x3 : Int32} (k : zz_E zp_P zt_tf zt_fd X d zm_304 0 [(0, .ref 61), (1, .int x1), (2, .int x3)] [] (mH h s) (fun v h' => zz_E zp_P zt_tf zt_fd X (d + 1) zm_305 234 [(0, .ref 61), (1, .int x1), (2, .int x2)] (v.toList ++ []) h' Q)) : zz_E zp_P zt_tf zt_fd X (d + 1) zm_305 228 [(0, .ref 61), (1, .int x1), (2, .int x2), (3, .int x3)] [] (mH h s) Q := by
  refine zz_E.n 229 rfl rfl rfl ?_
  refine zz_E.n 230 rfl rfl rfl ?_
  refine zz_E.n 231 rfl rfl rfl ?_
  refine mE_cv hh 234 (as := []) rfl rfl (Nat.le_of_ble_eq_true rfl) (Nat.le_of_ble_eq_true rfl) rfl (Nat.le_of_ble_eq_true rfl) rfl ?_
  refine zz_E.mono k ?_
  intro v h' hE
  exact zz_E.weak hE rfl ⟨rfl, rfl, rfl, trivial⟩
theorem mb_305_234 {X : Nat → Option zz_C} {h : zz_H} (hh : 111 ≤ h.length) {s : mS} {d : Nat} {Q : Option Value → zz_H → Prop} {x1 : Int32} {x2 : Int32} {y0 : Int32} (k : zz_E zp_P zt_tf zt_fd X d zm_305 239 [(0, .ref 61), (1, .int x1), (2, .int x2), (8, .int y0), (9, .int x2)] [] (mH h s) Q) : zz_E zp_P zt_tf zt_fd X d zm_305 234 [(0, .ref 61), (1, .int x1), (2, .int x2)] [.int y0] (mH h s) Q := by
  refine zz_E.n 236 rfl rfl rfl ?_
  refine zz_E.n 237 rfl rfl rfl ?_
  refine zz_E.n 239 rfl rfl rfl ?_
  exact zz_E.weak k rfl ⟨rfl, rfl, rfl, rfl, rfl, trivial⟩
theorem mb_305_239 {X : Nat → Option zz_C} {h : zz_H} (hh : 111 ≤ h.length) {s : mS} {d : Nat} {Q : Option Value → zz_H → Prop} {x1 : Int32} {x2 : Int32} {x8 : Int32} {x9 : Int32} (k1 : (s.1 51) ≤ x9 → zz_E zp_P zt_tf zt_fd X d zm_305 335 [(0, .ref 61), (2, .int x2), (8, .int x8)] [] (mH h s) Q) (k2 : ¬ (s.1 51) ≤ x9 → zz_E zp_P zt_tf zt_fd X d zm_305 248 [(0, .ref 61), (1, .int x1), (2, .int x2), (8, .int x8), (9, .int x9)] [] (mH h s) Q) : zz_E zp_P zt_tf zt_fd X d zm_305 239 [(0, .ref 61), (1, .int x1), (2, .int x2), (8, .int x8), (9, .int x9)] [] (mH h s) Q := by
  refine zz_E.n 241 rfl rfl rfl ?_
  refine zz_E.n 242 rfl rfl rfl ?_
  refine mE_g hh 245 (v := .int (s.1 51)) rfl rfl rfl ?_
  refine zz_E.b2 335 248 (A := (s.1 51) ≤ x9) rfl rfl (by decide) rfl rfl (fun c => ?_) (fun c => ?_)
  · exact zz_E.weak (k1 c) rfl ⟨rfl, rfl, rfl, trivial⟩
  · exact zz_E.weak (k2 c) rfl ⟨rfl, rfl, rfl, rfl, rfl, trivial⟩
theorem mb_305_248 {X : Nat → Option zz_C} {h : zz_H} (hh : 111 ≤ h.length) {s : mS} {d : Nat} {Q : Option Value → zz_H → Prop} {x1 : Int32} {x2 : Int32} {x8 : Int32} {x9 : Int32} (k1 : ¬ x1 = 3 → zz_E zp_P zt_tf zt_fd X d zm_305 279 [(0, .ref 61), (1, .int x1), (2, .int x2), (8, .int x8), (9, .int x9)] [] (mH h s) Q) (k2 : ¬ ¬ x1 = 3 → zz_E zp_P zt_tf zt_fd X d zm_305 253 [(0, .ref 61), (1, .int x1), (2, .int x2), (8, .int x8), (9, .int x9)] [] (mH h s) Q) : zz_E zp_P zt_tf zt_fd X d zm_305 248 [(0, .ref 61), (1, .int x1), (2, .int x2), (8, .int x8), (9, .int x9)] [] (mH h s) Q := by
  refine zz_E.n 249 rfl rfl rfl ?_
  refine zz_E.c 250 (.int 3) rfl rfl rfl rfl ?_
  refine zz_E.b2 279 253 (A := ¬ x1 = 3) rfl (zz_cond_ne _ _) (by decide) rfl rfl (fun c => ?_) (fun c => ?_)
  · exact zz_E.weak (k1 c) rfl ⟨rfl, rfl, rfl, rfl, rfl, trivial⟩
  · exact zz_E.weak (k2 c) rfl ⟨rfl, rfl, rfl, rfl, rfl, trivial⟩
theorem mb_305_253 {X : Nat → Option zz_C} {h : zz_H} (hh : 111 ≤ h.length) {s : mS} {d : Nat} {Q : Option Value → zz_H → Prop} {x1 : Int32} {x2 : Int32} {x8 : Int32} {x9 : Int32} (i267 : ¬ (x9 < 0 ∨ 9000 ≤ Int32.toNatClampNeg x9)) (i268 : ¬ ((s.1 48) < 0 ∨ 166300 ≤ Int32.toNatClampNeg (s.1 48))) (k : zz_E zp_P zt_tf zt_fd X d zm_305 279 [(0, .ref 61), (1, .int x1), (2, .int x2), (8, .int x8), (9, .int x9)] [] (mH h (mI (mA s 47 (upd (s.2.2.1 47) (Int32.toNatClampNeg (s.1 48)) ((s.2.2.1 49) (Int32.toNatClampNeg x9)))) 48 ((s.1 48) + 1))) Q) : zz_E zp_P zt_tf zt_fd X d zm_305 253 [(0, .ref 61), (1, .int x1), (2, .int x2), (8, .int x8), (9, .int x9)] [] (mH h s) Q := by
  refine zz_E.n 254 rfl rfl rfl ?_
  refine mE_g hh 257 (v := .ref 89) rfl rfl rfl ?_
  refine zz_E.n 258 rfl rfl rfl ?_
  refine mE_g hh 261 (v := .int (s.1 48)) rfl rfl rfl ?_
  refine zz_E.n 262 rfl rfl rfl ?_
  refine mE_g hh 265 (v := .ref 90) rfl rfl rfl ?_
  refine zz_E.n 267 rfl rfl rfl ?_
  refine mE_ia hh 268 29 (f := (s.2.2.1 49)) rfl (by decide) rfl rfl i267 rfl ?_
  refine mE_is hh 269 28 (f := (s.2.2.1 47)) rfl (by decide) rfl rfl i268 (mA_89 _ _) rfl ?_
  refine zz_E.n 270 rfl rfl rfl ?_
  refine zz_E.n 271 rfl rfl rfl ?_
  refine mE_g hh 274 (v := .int (s.1 48)) rfl rfl rfl ?_
  refine zz_E.c 275 (.int 1) rfl rfl rfl rfl ?_
  refine zz_E.n 276 rfl rfl rfl ?_
  refine mE_p hh 279 rfl (by decide) rfl (mF_48 _ _) rfl ?_
  exact zz_E.weak k rfl ⟨rfl, rfl, rfl, rfl, rfl, trivial⟩
theorem mb_305_279 {X : Nat → Option zz_C} {h : zz_H} (hh : 111 ≤ h.length) {s : mS} {d : Nat} {Q : Option Value → zz_H → Prop} {x1 : Int32} {x2 : Int32} {x8 : Int32} {x9 : Int32} (i293 : ¬ (x9 < 0 ∨ 9000 ≤ Int32.toNatClampNeg x9)) (k1 : ¬ ((s.2.2.1 49) (Int32.toNatClampNeg x9)) = 1 → zz_E zp_P zt_tf zt_fd X d zm_305 311 [(0, .ref 61), (1, .int x1), (2, .int x2), (8, .int x8), (9, .int x9)] [.int (s.1 48), .ref 89] (mH h s) Q) (k2 : ¬ ¬ ((s.2.2.1 49) (Int32.toNatClampNeg x9)) = 1 → zz_E zp_P zt_tf zt_fd X d zm_305 298 [(0, .ref 61), (1, .int x1), (2, .int x2), (8, .int x8), (9, .int x9)] [.int (s.1 48), .ref 89] (mH h s) Q) : zz_E zp_P zt_tf zt_fd X d zm_305 279 [(0, .ref 61), (1, .int x1), (2, .int x2), (8, .int x8), (9, .int x9)] [] (mH h s) Q := by
  refine zz_E.n 280 rfl rfl rfl ?_
  refine mE_g hh 283 (v := .ref 89) rfl rfl rfl ?_
  refine zz_E.n 284 rfl rfl rfl ?_
  refine mE_g hh 287 (v := .int (s.1 48)) rfl rfl rfl ?_
  refine zz_E.n 288 rfl rfl rfl ?_
  refine mE_g hh 291 (v := .ref 90) rfl rfl rfl ?_
  refine zz_E.n 293 rfl rfl rfl ?_
  refine mE_ia hh 294 29 (f := (s.2.2.1 49)) rfl (by decide) rfl rfl i293 rfl ?_
  refine zz_E.c 295 (.int 1) rfl rfl rfl rfl ?_
  refine zz_E.b2 311 298 (A := ¬ ((s.2.2.1 49) (Int32.toNatClampNeg x9)) = 1) rfl (zz_cond_ne _ _) (by decide) rfl rfl (fun c => ?_) (fun c => ?_)
  · exact zz_E.weak (k1 c) rfl ⟨rfl, rfl, rfl, rfl, rfl, trivial⟩
  · exact zz_E.weak (k2 c) rfl ⟨rfl, rfl, rfl, rfl, rfl, trivial⟩
theorem mb_305_298 {X : Nat → Option zz_C} {h : zz_H} (hh : 111 ≤ h.length) {s : mS} {d : Nat} {Q : Option Value → zz_H → Prop} {x1 : Int32} {x2 : Int32} {x8 : Int32} {x9 : Int32} {y1 : Int32} (i304 : ¬ (x9 < 0 ∨ 9000 ≤ Int32.toNatClampNeg x9)) (k : zz_E zp_P zt_tf zt_fd X d zm_305 318 [(0, .ref 61), (1, .int x1), (2, .int x2), (8, .int x8), (9, .int x9)] [.int (((s.2.2.1 50) (Int32.toNatClampNeg x9)) - x8), .int y1, .ref 89] (mH h s) Q) : zz_E zp_P zt_tf zt_fd X d zm_305 298 [(0, .ref 61), (1, .int x1), (2, .int x2), (8, .int x8), (9, .int x9)] [.int y1, .ref 89] (mH h s) Q := by
  refine zz_E.n 299 rfl rfl rfl ?_
  refine mE_g hh 302 (v := .ref 91) rfl rfl rfl ?_
  refine zz_E.n 304 rfl rfl rfl ?_
  refine mE_ia hh 305 30 (f := (s.2.2.1 50)) rfl (by decide) rfl rfl i304 rfl ?_
  refine zz_E.n 307 rfl rfl rfl ?_
  refine zz_E.n 308 rfl rfl rfl ?_
  refine zz_E.n 318 rfl rfl rfl ?_
  exact zz_E.weak k rfl ⟨rfl, rfl, rfl, rfl, rfl, trivial⟩
theorem mb_305_311 {X : Nat → Option zz_C} {h : zz_H} (hh : 111 ≤ h.length) {s : mS} {d : Nat} {Q : Option Value → zz_H → Prop} {x1 : Int32} {x2 : Int32} {x8 : Int32} {x9 : Int32} {y1 : Int32} (i317 : ¬ (x9 < 0 ∨ 9000 ≤ Int32.toNatClampNeg x9)) (k : zz_E zp_P zt_tf zt_fd X d zm_305 318 [(0, .ref 61), (1, .int x1), (2, .int x2), (8, .int x8), (9, .int x9)] [.int ((s.2.2.1 50) (Int32.toNatClampNeg x9)), .int y1, .ref 89] (mH h s) Q) : zz_E zp_P zt_tf zt_fd X d zm_305 311 [(0, .ref 61), (1, .int x1), (2, .int x2), (8, .int x8), (9, .int x9)] [.int y1, .ref 89] (mH h s) Q := by
  refine zz_E.n 312 rfl rfl rfl ?_
  refine mE_g hh 315 (v := .ref 91) rfl rfl rfl ?_
  refine zz_E.n 317 rfl rfl rfl ?_
  refine mE_ia hh 318 30 (f := (s.2.2.1 50)) rfl (by decide) rfl rfl i317 rfl ?_
  exact zz_E.weak k rfl ⟨rfl, rfl, rfl, rfl, rfl, trivial⟩
theorem mb_305_318 {X : Nat → Option zz_C} {h : zz_H} (hh : 111 ≤ h.length) {s : mS} {d : Nat} {Q : Option Value → zz_H → Prop} {x1 : Int32} {x2 : Int32} {x8 : Int32} {x9 : Int32} {y1 : Int32} {y2 : Int32} (i318 : ¬ (y1 < 0 ∨ 166300 ≤ Int32.toNatClampNeg y1)) (k : zz_E zp_P zt_tf zt_fd X d zm_305 239 [(0, .ref 61), (1, .int x1), (2, .int x2), (8, .int x8), (9, .int (x9 + 1))] [] (mH h (mI (mA s 47 (upd (s.2.2.1 47) (Int32.toNatClampNeg y1) y2)) 48 ((s.1 48) + 1))) Q) : zz_E zp_P zt_tf zt_fd X d zm_305 318 [(0, .ref 61), (1, .int x1), (2, .int x2), (8, .int x8), (9, .int x9)] [.int y2, .int y1, .ref 89] (mH h s) Q := by
  refine mE_is hh 319 28 (f := (s.2.2.1 47)) rfl (by decide) rfl rfl i318 (mA_89 _ _) rfl ?_
  refine zz_E.n 320 rfl rfl rfl ?_
  refine zz_E.n 321 rfl rfl rfl ?_
  refine mE_g hh 324 (v := .int (s.1 48)) rfl rfl rfl ?_
  refine zz_E.c 325 (.int 1) rfl rfl rfl rfl ?_
  refine zz_E.n 326 rfl rfl rfl ?_
  refine mE_p hh 329 rfl (by decide) rfl (mF_48 _ _) rfl ?_
  refine zz_E.n 332 rfl rfl rfl ?_
  refine zz_E.n 239 rfl rfl rfl ?_
  exact zz_E.weak k rfl ⟨rfl, rfl, rfl, rfl, rfl, trivial⟩
theorem mb_305_335 {X : Nat → Option zz_C} {h : zz_H} (hh : 111 ≤ h.length) {s : mS} {d : Nat} {Q : Option Value → zz_H → Prop} {x2 : Int32} {x8 : Int32} (k : zz_E zp_P zt_tf zt_fd X d zm_303 0 [(0, .ref 61), (1, .int x8)] [] (mH h (mI s 51 x2)) (fun v h' => zz_E zp_P zt_tf zt_fd X (d + 1) zm_305 346 [] (v.toList ++ []) h' Q)) : zz_E zp_P zt_tf zt_fd X (d + 1) zm_305 335 [(0, .ref 61), (2, .int x2), (8, .int x8)] [] (mH h s) Q := by
  refine zz_E.n 336 rfl rfl rfl ?_
  refine zz_E.n 337 rfl rfl rfl ?_
  refine mE_p hh 340 rfl (by decide) rfl (mF_51 _ _) rfl ?_
  refine zz_E.n 341 rfl rfl rfl ?_
  refine zz_E.n 343 rfl rfl rfl ?_
  refine mE_cv hh 346 (as := []) rfl rfl (Nat.le_of_ble_eq_true rfl) (Nat.le_of_ble_eq_true rfl) rfl (Nat.le_of_ble_eq_true rfl) rfl ?_
  refine zz_E.mono k ?_
  intro v h' hE
  exact zz_E.weak hE rfl trivial
theorem mb_305_346 {X : Nat → Option zz_C} {h : zz_H} (hh : 111 ≤ h.length) {s : mS} {d : Nat} {Q : Option Value → zz_H → Prop}  (k : Q none (mH h s)) : zz_E zp_P zt_tf zt_fd X d zm_305 346 [] [] (mH h s) Q := by
  refine zz_E.ret rfl rfl rfl ?_
  exact k
def mf_305_346 (N : Nat)  (s : mS) : mO := some (s, none)
theorem mr_305_346 {X : Nat → Option zz_C} {h : zz_H} (hh : 111 ≤ h.length) {d : Nat} {N : Nat} {Q : Option Value → zz_H → Prop}  {s s' : mS} {v : Option Value} (hf : mf_305_346 N  s = some (s', v)) (k : Q v (mH h s')) : zz_E zp_P zt_tf zt_fd X (d + 3) zm_305 346 [] [] (mH h s) Q := by
  unfold mf_305_346 at hf
  cases hf
  exact mb_305_346 hh  k
def mf_305_335 (N : Nat) (x2 : Int32) (x8 : Int32) (s : mS) : mO := mo_bv (mf_303 N x8 (mI s 51 x2)) (fun s1 => mf_305_346 N  s1)
theorem mr_305_335 {X : Nat → Option zz_C} {h : zz_H} (hh : 111 ≤ h.length) {d : Nat} {N : Nat} {Q : Option Value → zz_H → Prop} {x2 : Int32} {x8 : Int32} {s s' : mS} {v : Option Value} (hf : mf_305_335 N x2 x8 s = some (s', v)) (k : Q v (mH h s')) : zz_E zp_P zt_tf zt_fd X (d + 3) zm_305 335 [(0, .ref 61), (2, .int x2), (8, .int x8)] [] (mH h s) Q := by
  unfold mf_305_335 at hf
  obtain ⟨s1, e, hf⟩ := mo_bv_ok hf
  exact mb_305_335 (d := d + 2) hh  (mr_303 (d := d + 0) hh e (mr_305_346 hh hf k))
def mf_305_318 (N : Nat) (rc : Nat → Int32 → Int32 → Int32 → Int32 → mS → mO) (x1 : Int32) (x2 : Int32) (x8 : Int32) (x9 : Int32) (y1 : Int32) (y2 : Int32) (s : mS) : mO := if ¬ (y1 < 0 ∨ 166300 ≤ Int32.toNatClampNeg y1) then (rc 0 x1 x2 x8 (x9 + 1) (mI (mA s 47 (upd (s.2.2.1 47) (Int32.toNatClampNeg y1) y2)) 48 ((s.1 48) + 1))) else none
theorem mr_305_318 {X : Nat → Option zz_C} {h : zz_H} (hh : 111 ≤ h.length) {d : Nat} {N : Nat} {rc : Nat → Int32 → Int32 → Int32 → Int32 → mS → mO} (hrc0 : ∀ {Q : Option Value → zz_H → Prop} {x1 : Int32} {x2 : Int32} {x8 : Int32} {x9 : Int32} {s s' : mS} {v : Option Value}, rc 0 x1 x2 x8 x9 s = some (s', v) → Q v (mH h s') → zz_E zp_P zt_tf zt_fd X (d + 3) zm_305 239 [(0, .ref 61), (1, .int x1), (2, .int x2), (8, .int x8), (9, .int x9)] [] (mH h s) Q) {Q : Option Value → zz_H → Prop} {x1 : Int32} {x2 : Int32} {x8 : Int32} {x9 : Int32} {y1 : Int32} {y2 : Int32} {s s' : mS} {v : Option Value} (hf : mf_305_318 N rc x1 x2 x8 x9 y1 y2 s = some (s', v)) (k : Q v (mH h s')) : zz_E zp_P zt_tf zt_fd X (d + 3) zm_305 318 [(0, .ref 61), (1, .int x1), (2, .int x2), (8, .int x8), (9, .int x9)] [.int y2, .int y1, .ref 89] (mH h s) Q := by
  unfold mf_305_318 at hf
  obtain ⟨q0, hf⟩ := mo_if hf
  exact mb_305_318 hh q0 (hrc0 hf k)
def mf_305_311 (N : Nat) (rc : Nat → Int32 → Int32 → Int32 → Int32 → mS → mO) (x1 : Int32) (x2 : Int32) (x8 : Int32) (x9 : Int32) (y1 : Int32) (s : mS) : mO := if ¬ (x9 < 0 ∨ 9000 ≤ Int32.toNatClampNeg x9) then (mf_305_318 N rc x1 x2 x8 x9 y1 ((s.2.2.1 50) (Int32.toNatClampNeg x9)) s) else none
theorem mr_305_311 {X : Nat → Option zz_C} {h : zz_H} (hh : 111 ≤ h.length) {d : Nat} {N : Nat} {rc : Nat → Int32 → Int32 → Int32 → Int32 → mS → mO} (hrc0 : ∀ {Q : Option Value → zz_H → Prop} {x1 : Int32} {x2 : Int32} {x8 : Int32} {x9 : Int32} {s s' : mS} {v : Option Value}, rc 0 x1 x2 x8 x9 s = some (s', v) → Q v (mH h s') → zz_E zp_P zt_tf zt_fd X (d + 3) zm_305 239 [(0, .ref 61), (1, .int x1), (2, .int x2), (8, .int x8), (9, .int x9)] [] (mH h s) Q) {Q : Option Value → zz_H → Prop} {x1 : Int32} {x2 : Int32} {x8 : Int32} {x9 : Int32} {y1 : Int32} {s s' : mS} {v : Option Value} (hf : mf_305_311 N rc x1 x2 x8 x9 y1 s = some (s', v)) (k : Q v (mH h s')) : zz_E zp_P zt_tf zt_fd X (d + 3) zm_305 311 [(0, .ref 61), (1, .int x1), (2, .int x2), (8, .int x8), (9, .int x9)] [.int y1, .ref 89] (mH h s) Q := by
  unfold mf_305_311 at hf
  obtain ⟨q0, hf⟩ := mo_if hf
  exact mb_305_311 hh q0 (mr_305_318 hh hrc0 hf k)
def mf_305_298 (N : Nat) (rc : Nat → Int32 → Int32 → Int32 → Int32 → mS → mO) (x1 : Int32) (x2 : Int32) (x8 : Int32) (x9 : Int32) (y1 : Int32) (s : mS) : mO := if ¬ (x9 < 0 ∨ 9000 ≤ Int32.toNatClampNeg x9) then (mf_305_318 N rc x1 x2 x8 x9 y1 (((s.2.2.1 50) (Int32.toNatClampNeg x9)) - x8) s) else none
theorem mr_305_298 {X : Nat → Option zz_C} {h : zz_H} (hh : 111 ≤ h.length) {d : Nat} {N : Nat} {rc : Nat → Int32 → Int32 → Int32 → Int32 → mS → mO} (hrc0 : ∀ {Q : Option Value → zz_H → Prop} {x1 : Int32} {x2 : Int32} {x8 : Int32} {x9 : Int32} {s s' : mS} {v : Option Value}, rc 0 x1 x2 x8 x9 s = some (s', v) → Q v (mH h s') → zz_E zp_P zt_tf zt_fd X (d + 3) zm_305 239 [(0, .ref 61), (1, .int x1), (2, .int x2), (8, .int x8), (9, .int x9)] [] (mH h s) Q) {Q : Option Value → zz_H → Prop} {x1 : Int32} {x2 : Int32} {x8 : Int32} {x9 : Int32} {y1 : Int32} {s s' : mS} {v : Option Value} (hf : mf_305_298 N rc x1 x2 x8 x9 y1 s = some (s', v)) (k : Q v (mH h s')) : zz_E zp_P zt_tf zt_fd X (d + 3) zm_305 298 [(0, .ref 61), (1, .int x1), (2, .int x2), (8, .int x8), (9, .int x9)] [.int y1, .ref 89] (mH h s) Q := by
  unfold mf_305_298 at hf
  obtain ⟨q0, hf⟩ := mo_if hf
  exact mb_305_298 hh q0 (mr_305_318 hh hrc0 hf k)
def mf_305_279 (N : Nat) (rc : Nat → Int32 → Int32 → Int32 → Int32 → mS → mO) (x1 : Int32) (x2 : Int32) (x8 : Int32) (x9 : Int32) (s : mS) : mO := if ¬ (x9 < 0 ∨ 9000 ≤ Int32.toNatClampNeg x9) then (if ¬ ((s.2.2.1 49) (Int32.toNatClampNeg x9)) = 1 then mf_305_311 N rc x1 x2 x8 x9 (s.1 48) s else mf_305_298 N rc x1 x2 x8 x9 (s.1 48) s) else none
theorem mr_305_279 {X : Nat → Option zz_C} {h : zz_H} (hh : 111 ≤ h.length) {d : Nat} {N : Nat} {rc : Nat → Int32 → Int32 → Int32 → Int32 → mS → mO} (hrc0 : ∀ {Q : Option Value → zz_H → Prop} {x1 : Int32} {x2 : Int32} {x8 : Int32} {x9 : Int32} {s s' : mS} {v : Option Value}, rc 0 x1 x2 x8 x9 s = some (s', v) → Q v (mH h s') → zz_E zp_P zt_tf zt_fd X (d + 3) zm_305 239 [(0, .ref 61), (1, .int x1), (2, .int x2), (8, .int x8), (9, .int x9)] [] (mH h s) Q) {Q : Option Value → zz_H → Prop} {x1 : Int32} {x2 : Int32} {x8 : Int32} {x9 : Int32} {s s' : mS} {v : Option Value} (hf : mf_305_279 N rc x1 x2 x8 x9 s = some (s', v)) (k : Q v (mH h s')) : zz_E zp_P zt_tf zt_fd X (d + 3) zm_305 279 [(0, .ref 61), (1, .int x1), (2, .int x2), (8, .int x8), (9, .int x9)] [] (mH h s) Q := by
  unfold mf_305_279 at hf
  obtain ⟨q0, hf⟩ := mo_if hf
  refine mb_305_279 hh q0 (fun c => ?_) (fun c => ?_)
  · rw [if_pos c] at hf
    exact mr_305_311 hh hrc0 hf k
  · rw [if_neg c] at hf
    exact mr_305_298 hh hrc0 hf k
def mf_305_253 (N : Nat) (rc : Nat → Int32 → Int32 → Int32 → Int32 → mS → mO) (x1 : Int32) (x2 : Int32) (x8 : Int32) (x9 : Int32) (s : mS) : mO := if ¬ (x9 < 0 ∨ 9000 ≤ Int32.toNatClampNeg x9) then (if ¬ ((s.1 48) < 0 ∨ 166300 ≤ Int32.toNatClampNeg (s.1 48)) then (mf_305_279 N rc x1 x2 x8 x9 (mI (mA s 47 (upd (s.2.2.1 47) (Int32.toNatClampNeg (s.1 48)) ((s.2.2.1 49) (Int32.toNatClampNeg x9)))) 48 ((s.1 48) + 1))) else none) else none
theorem mr_305_253 {X : Nat → Option zz_C} {h : zz_H} (hh : 111 ≤ h.length) {d : Nat} {N : Nat} {rc : Nat → Int32 → Int32 → Int32 → Int32 → mS → mO} (hrc0 : ∀ {Q : Option Value → zz_H → Prop} {x1 : Int32} {x2 : Int32} {x8 : Int32} {x9 : Int32} {s s' : mS} {v : Option Value}, rc 0 x1 x2 x8 x9 s = some (s', v) → Q v (mH h s') → zz_E zp_P zt_tf zt_fd X (d + 3) zm_305 239 [(0, .ref 61), (1, .int x1), (2, .int x2), (8, .int x8), (9, .int x9)] [] (mH h s) Q) {Q : Option Value → zz_H → Prop} {x1 : Int32} {x2 : Int32} {x8 : Int32} {x9 : Int32} {s s' : mS} {v : Option Value} (hf : mf_305_253 N rc x1 x2 x8 x9 s = some (s', v)) (k : Q v (mH h s')) : zz_E zp_P zt_tf zt_fd X (d + 3) zm_305 253 [(0, .ref 61), (1, .int x1), (2, .int x2), (8, .int x8), (9, .int x9)] [] (mH h s) Q := by
  unfold mf_305_253 at hf
  obtain ⟨q0, hf⟩ := mo_if hf
  obtain ⟨q1, hf⟩ := mo_if hf
  exact mb_305_253 hh q0 q1 (mr_305_279 hh hrc0 hf k)
def mf_305_248 (N : Nat) (rc : Nat → Int32 → Int32 → Int32 → Int32 → mS → mO) (x1 : Int32) (x2 : Int32) (x8 : Int32) (x9 : Int32) (s : mS) : mO := if ¬ x1 = 3 then mf_305_279 N rc x1 x2 x8 x9 s else mf_305_253 N rc x1 x2 x8 x9 s
theorem mr_305_248 {X : Nat → Option zz_C} {h : zz_H} (hh : 111 ≤ h.length) {d : Nat} {N : Nat} {rc : Nat → Int32 → Int32 → Int32 → Int32 → mS → mO} (hrc0 : ∀ {Q : Option Value → zz_H → Prop} {x1 : Int32} {x2 : Int32} {x8 : Int32} {x9 : Int32} {s s' : mS} {v : Option Value}, rc 0 x1 x2 x8 x9 s = some (s', v) → Q v (mH h s') → zz_E zp_P zt_tf zt_fd X (d + 3) zm_305 239 [(0, .ref 61), (1, .int x1), (2, .int x2), (8, .int x8), (9, .int x9)] [] (mH h s) Q) {Q : Option Value → zz_H → Prop} {x1 : Int32} {x2 : Int32} {x8 : Int32} {x9 : Int32} {s s' : mS} {v : Option Value} (hf : mf_305_248 N rc x1 x2 x8 x9 s = some (s', v)) (k : Q v (mH h s')) : zz_E zp_P zt_tf zt_fd X (d + 3) zm_305 248 [(0, .ref 61), (1, .int x1), (2, .int x2), (8, .int x8), (9, .int x9)] [] (mH h s) Q := by
  unfold mf_305_248 at hf
  refine mb_305_248 hh  (fun c => ?_) (fun c => ?_)
  · rw [if_pos c] at hf
    exact mr_305_279 hh hrc0 hf k
  · rw [if_neg c] at hf
    exact mr_305_253 hh hrc0 hf k
def mf_305_239 (N : Nat) (rc : Nat → Int32 → Int32 → Int32 → Int32 → mS → mO) (x1 : Int32) (x2 : Int32) (x8 : Int32) (x9 : Int32) (s : mS) : mO := if (s.1 51) ≤ x9 then mf_305_335 N x2 x8 s else mf_305_248 N rc x1 x2 x8 x9 s
theorem mr_305_239 {X : Nat → Option zz_C} {h : zz_H} (hh : 111 ≤ h.length) {d : Nat} {N : Nat} {rc : Nat → Int32 → Int32 → Int32 → Int32 → mS → mO} (hrc0 : ∀ {Q : Option Value → zz_H → Prop} {x1 : Int32} {x2 : Int32} {x8 : Int32} {x9 : Int32} {s s' : mS} {v : Option Value}, rc 0 x1 x2 x8 x9 s = some (s', v) → Q v (mH h s') → zz_E zp_P zt_tf zt_fd X (d + 3) zm_305 239 [(0, .ref 61), (1, .int x1), (2, .int x2), (8, .int x8), (9, .int x9)] [] (mH h s) Q) {Q : Option Value → zz_H → Prop} {x1 : Int32} {x2 : Int32} {x8 : Int32} {x9 : Int32} {s s' : mS} {v : Option Value} (hf : mf_305_239 N rc x1 x2 x8 x9 s = some (s', v)) (k : Q v (mH h s')) : zz_E zp_P zt_tf zt_fd X (d + 3) zm_305 239 [(0, .ref 61), (1, .int x1), (2, .int x2), (8, .int x8), (9, .int x9)] [] (mH h s) Q := by
  unfold mf_305_239 at hf
  refine mb_305_239 hh  (fun c => ?_) (fun c => ?_)
  · rw [if_pos c] at hf
    exact mr_305_335 hh hf k
  · rw [if_neg c] at hf
    exact mr_305_248 hh hrc0 hf k
def mf_305_L2 (N : Nat) : Nat → Nat → Int32 → Int32 → Int32 → Int32 → mS → mO
  | 0, _, _, _, _, _, _ => none
  | n + 1, l, x1, x2, x8, x9, s => if l = 0 then mf_305_239 N (mf_305_L2 N n) x1 x2 x8 x9 s else none
theorem mr_305_L2 {X : Nat → Option zz_C} {h : zz_H} (hh : 111 ≤ h.length) {d : Nat} {N : Nat} : ∀ n : Nat, (∀ {Q : Option Value → zz_H → Prop} {x1 : Int32} {x2 : Int32} {x8 : Int32} {x9 : Int32} {s s' : mS} {v : Option Value}, mf_305_L2 N n 0 x1 x2 x8 x9 s = some (s', v) → Q v (mH h s') → zz_E zp_P zt_tf zt_fd X (d + 3) zm_305 239 [(0, .ref 61), (1, .int x1), (2, .int x2), (8, .int x8), (9, .int x9)] [] (mH h s) Q) := by
  intro n
  induction n with
  | zero => exact (fun hf _ => by cases hf)
  | succ n ih =>
    have h0 := @ih
    intro Q _ _ _ _ s s' v hf k
    unfold mf_305_L2 at hf
    rw [if_pos rfl] at hf
    exact mr_305_239 hh h0 hf k
def mf_305_234 (N : Nat) (x1 : Int32) (x2 : Int32) (y0 : Int32) (s : mS) : mO := mf_305_L2 N N 0 x1 x2 y0 x2 s
theorem mr_305_234 {X : Nat → Option zz_C} {h : zz_H} (hh : 111 ≤ h.length) {d : Nat} {N : Nat} {Q : Option Value → zz_H → Prop} {x1 : Int32} {x2 : Int32} {y0 : Int32} {s s' : mS} {v : Option Value} (hf : mf_305_234 N x1 x2 y0 s = some (s', v)) (k : Q v (mH h s')) : zz_E zp_P zt_tf zt_fd X (d + 3) zm_305 234 [(0, .ref 61), (1, .int x1), (2, .int x2)] [.int y0] (mH h s) Q := by
  unfold mf_305_234 at hf
  exact mb_305_234 hh  (mr_305_L2 hh N hf k)
def mf_305_228 (N : Nat) (x1 : Int32) (x2 : Int32) (x3 : Int32) (s : mS) : mO := mo_bi (mf_304 N x1 x3 s) (fun s1 y => mf_305_234 N x1 x2 y s1)
theorem mr_305_228 {X : Nat → Option zz_C} {h : zz_H} (hh : 111 ≤ h.length) {d : Nat} {N : Nat} {Q : Option Value → zz_H → Prop} {x1 : Int32} {x2 : Int32} {x3 : Int32} {s s' : mS} {v : Option Value} (hf : mf_305_228 N x1 x2 x3 s = some (s', v)) (k : Q v (mH h s')) : zz_E zp_P zt_tf zt_fd X (d + 3) zm_305 228 [(0, .ref 61), (1, .int x1), (2, .int x2), (3, .int x3)] [] (mH h s) Q := by
  unfold mf_305_228 at hf
  obtain ⟨s1, y, e, hf⟩ := mo_bi_ok hf
  exact mb_305_228 (d := d + 2) hh  (mr_304 (d := d + 2) hh e (mr_305_234 hh hf k))
def mf_305_227 (N : Nat)  (s : mS) : mO := some (s, none)
theorem mr_305_227 {X : Nat → Option zz_C} {h : zz_H} (hh : 111 ≤ h.length) {d : Nat} {N : Nat} {Q : Option Value → zz_H → Prop}  {s s' : mS} {v : Option Value} (hf : mf_305_227 N  s = some (s', v)) (k : Q v (mH h s')) : zz_E zp_P zt_tf zt_fd X (d + 3) zm_305 227 [] [] (mH h s) Q := by
  unfold mf_305_227 at hf
  cases hf
  exact mb_305_227 hh  k
def mf_305_218 (N : Nat)  (s : mS) : mO := mo_bv (mf_301 N 2 (s.1 70) s) (fun s1 => mf_305_227 N  s1)
theorem mr_305_218 {X : Nat → Option zz_C} {h : zz_H} (hh : 111 ≤ h.length) {d : Nat} {N : Nat} {Q : Option Value → zz_H → Prop}  {s s' : mS} {v : Option Value} (hf : mf_305_218 N  s = some (s', v)) (k : Q v (mH h s')) : zz_E zp_P zt_tf zt_fd X (d + 3) zm_305 218 [(0, .ref 61)] [] (mH h s) Q := by
  unfold mf_305_218 at hf
  obtain ⟨s1, e, hf⟩ := mo_bv_ok hf
  exact mb_305_218 (d := d + 2) hh  (mr_301 (d := d + 2) hh e (mr_305_227 hh hf k))
def mf_305_211 (N : Nat) (x1 : Int32) (x2 : Int32) (x3 : Int32) (y0 : Int32) (s : mS) : mO := if y0 = 0 then mf_305_228 N x1 x2 x3 s else mf_305_218 N  s
theorem mr_305_211 {X : Nat → Option zz_C} {h : zz_H} (hh : 111 ≤ h.length) {d : Nat} {N : Nat} {Q : Option Value → zz_H → Prop} {x1 : Int32} {x2 : Int32} {x3 : Int32} {y0 : Int32} {s s' : mS} {v : Option Value} (hf : mf_305_211 N x1 x2 x3 y0 s = some (s', v)) (k : Q v (mH h s')) : zz_E zp_P zt_tf zt_fd X (d + 3) zm_305 211 [(0, .ref 61), (1, .int x1), (2, .int x2), (3, .int x3)] [.int y0] (mH h s) Q := by
  unfold mf_305_211 at hf
  refine mb_305_211 hh  (fun c => ?_) (fun c => ?_)
  · rw [if_pos c] at hf
    exact mr_305_228 hh hf k
  · rw [if_neg c] at hf
    exact mr_305_218 hh hf k
def mf_305_206 (N : Nat) (x1 : Int32) (x2 : Int32) (x3 : Int32) (s : mS) : mO := mf_305_211 N x1 x2 x3 1 s
theorem mr_305_206 {X : Nat → Option zz_C} {h : zz_H} (hh : 111 ≤ h.length) {d : Nat} {N : Nat} {Q : Option Value → zz_H → Prop} {x1 : Int32} {x2 : Int32} {x3 : Int32} {s s' : mS} {v : Option Value} (hf : mf_305_206 N x1 x2 x3 s = some (s', v)) (k : Q v (mH h s')) : zz_E zp_P zt_tf zt_fd X (d + 3) zm_305 206 [(0, .ref 61), (1, .int x1), (2, .int x2), (3, .int x3)] [] (mH h s) Q := by
  unfold mf_305_206 at hf
  exact mb_305_206 hh  (mr_305_211 hh hf k)
def mf_305_210 (N : Nat) (x1 : Int32) (x2 : Int32) (x3 : Int32) (s : mS) : mO := mf_305_211 N x1 x2 x3 0 s
theorem mr_305_210 {X : Nat → Option zz_C} {h : zz_H} (hh : 111 ≤ h.length) {d : Nat} {N : Nat} {Q : Option Value → zz_H → Prop} {x1 : Int32} {x2 : Int32} {x3 : Int32} {s s' : mS} {v : Option Value} (hf : mf_305_210 N x1 x2 x3 s = some (s', v)) (k : Q v (mH h s')) : zz_E zp_P zt_tf zt_fd X (d + 3) zm_305 210 [(0, .ref 61), (1, .int x1), (2, .int x2), (3, .int x3)] [] (mH h s) Q := by
  unfold mf_305_210 at hf
  exact mb_305_210 hh  (mr_305_211 hh hf k)
def mf_305_198 (N : Nat) (x1 : Int32) (x2 : Int32) (x3 : Int32) (x7 : Int32) (s : mS) : mO := if x7 ≤ 600 then mf_305_210 N x1 x2 x3 s else mf_305_206 N x1 x2 x3 s
theorem mr_305_198 {X : Nat → Option zz_C} {h : zz_H} (hh : 111 ≤ h.length) {d : Nat} {N : Nat} {Q : Option Value → zz_H → Prop} {x1 : Int32} {x2 : Int32} {x3 : Int32} {x7 : Int32} {s s' : mS} {v : Option Value} (hf : mf_305_198 N x1 x2 x3 x7 s = some (s', v)) (k : Q v (mH h s')) : zz_E zp_P zt_tf zt_fd X (d + 3) zm_305 198 [(0, .ref 61), (1, .int x1), (2, .int x2), (3, .int x3), (7, .int x7)] [] (mH h s) Q := by
  unfold mf_305_198 at hf
  refine mb_305_198 hh  (fun c => ?_) (fun c => ?_)
  · rw [if_pos c] at hf
    exact mr_305_210 hh hf k
  · rw [if_neg c] at hf
    exact mr_305_206 hh hf k
def mf_305_192 (N : Nat) (x1 : Int32) (x2 : Int32) (x3 : Int32) (x6 : Int32) (x7 : Int32) (s : mS) : mO := if 3 < x6 then mf_305_206 N x1 x2 x3 s else mf_305_198 N x1 x2 x3 x7 s
theorem mr_305_192 {X : Nat → Option zz_C} {h : zz_H} (hh : 111 ≤ h.length) {d : Nat} {N : Nat} {Q : Option Value → zz_H → Prop} {x1 : Int32} {x2 : Int32} {x3 : Int32} {x6 : Int32} {x7 : Int32} {s s' : mS} {v : Option Value} (hf : mf_305_192 N x1 x2 x3 x6 x7 s = some (s', v)) (k : Q v (mH h s')) : zz_E zp_P zt_tf zt_fd X (d + 3) zm_305 192 [(0, .ref 61), (1, .int x1), (2, .int x2), (3, .int x3), (6, .int x6), (7, .int x7)] [] (mH h s) Q := by
  unfold mf_305_192 at hf
  refine mb_305_192 hh  (fun c => ?_) (fun c => ?_)
  · rw [if_pos c] at hf
    exact mr_305_206 hh hf k
  · rw [if_neg c] at hf
    exact mr_305_198 hh hf k
def mf_305_187 (N : Nat) (x1 : Int32) (x2 : Int32) (x3 : Int32) (x5 : Int32) (x6 : Int32) (x7 : Int32) (s : mS) : mO := if ¬ x5 = 0 then mf_305_206 N x1 x2 x3 s else mf_305_192 N x1 x2 x3 x6 x7 s
theorem mr_305_187 {X : Nat → Option zz_C} {h : zz_H} (hh : 111 ≤ h.length) {d : Nat} {N : Nat} {Q : Option Value → zz_H → Prop} {x1 : Int32} {x2 : Int32} {x3 : Int32} {x5 : Int32} {x6 : Int32} {x7 : Int32} {s s' : mS} {v : Option Value} (hf : mf_305_187 N x1 x2 x3 x5 x6 x7 s = some (s', v)) (k : Q v (mH h s')) : zz_E zp_P zt_tf zt_fd X (d + 3) zm_305 187 [(0, .ref 61), (1, .int x1), (2, .int x2), (3, .int x3), (5, .int x5), (6, .int x6), (7, .int x7)] [] (mH h s) Q := by
  unfold mf_305_187 at hf
  refine mb_305_187 hh  (fun c => ?_) (fun c => ?_)
  · rw [if_pos c] at hf
    exact mr_305_206 hh hf k
  · rw [if_neg c] at hf
    exact mr_305_192 hh hf k
def mf_305_170 (N : Nat) (rc : Nat → Int32 → Int32 → Int32 → Int32 → Int32 → Int32 → Int32 → mS → mO) (x1 : Int32) (x2 : Int32) (x3 : Int32) (x5 : Int32) (x7 : Int32) (x8 : Int32) (y0 : Int32) (s : mS) : mO := rc 0 x1 x2 x3 x5 y0 (x7 + (s.1 57)) (x8 + 1) s
theorem mr_305_170 {X : Nat → Option zz_C} {h : zz_H} (hh : 111 ≤ h.length) {d : Nat} {N : Nat} {rc : Nat → Int32 → Int32 → Int32 → Int32 → Int32 → Int32 → Int32 → mS → mO} (hrc0 : ∀ {Q : Option Value → zz_H → Prop} {x1 : Int32} {x2 : Int32} {x3 : Int32} {x5 : Int32} {x6 : Int32} {x7 : Int32} {x8 : Int32} {s s' : mS} {v : Option Value}, rc 0 x1 x2 x3 x5 x6 x7 x8 s = some (s', v) → Q v (mH h s') → zz_E zp_P zt_tf zt_fd X (d + 3) zm_305 101 [(0, .ref 61), (1, .int x1), (2, .int x2), (3, .int x3), (5, .int x5), (6, .int x6), (7, .int x7), (8, .int x8)] [] (mH h s) Q) {Q : Option Value → zz_H → Prop} {x1 : Int32} {x2 : Int32} {x3 : Int32} {x5 : Int32} {x7 : Int32} {x8 : Int32} {y0 : Int32} {s s' : mS} {v : Option Value} (hf : mf_305_170 N rc x1 x2 x3 x5 x7 x8 y0 s = some (s', v)) (k : Q v (mH h s')) : zz_E zp_P zt_tf zt_fd X (d + 3) zm_305 170 [(0, .ref 61), (1, .int x1), (2, .int x2), (3, .int x3), (5, .int x5), (7, .int x7), (8, .int x8)] [.int y0] (mH h s) Q := by
  unfold mf_305_170 at hf
  exact mb_305_170 hh  (hrc0 hf k)
def mf_305_168 (N : Nat) (rc : Nat → Int32 → Int32 → Int32 → Int32 → Int32 → Int32 → Int32 → mS → mO) (x1 : Int32) (x2 : Int32) (x3 : Int32) (x5 : Int32) (x6 : Int32) (x7 : Int32) (x8 : Int32) (s : mS) : mO := mf_305_170 N rc x1 x2 x3 x5 x7 x8 x6 s
theorem mr_305_168 {X : Nat → Option zz_C} {h : zz_H} (hh : 111 ≤ h.length) {d : Nat} {N : Nat} {rc : Nat → Int32 → Int32 → Int32 → Int32 → Int32 → Int32 → Int32 → mS → mO} (hrc0 : ∀ {Q : Option Value → zz_H → Prop} {x1 : Int32} {x2 : Int32} {x3 : Int32} {x5 : Int32} {x6 : Int32} {x7 : Int32} {x8 : Int32} {s s' : mS} {v : Option Value}, rc 0 x1 x2 x3 x5 x6 x7 x8 s = some (s', v) → Q v (mH h s') → zz_E zp_P zt_tf zt_fd X (d + 3) zm_305 101 [(0, .ref 61), (1, .int x1), (2, .int x2), (3, .int x3), (5, .int x5), (6, .int x6), (7, .int x7), (8, .int x8)] [] (mH h s) Q) {Q : Option Value → zz_H → Prop} {x1 : Int32} {x2 : Int32} {x3 : Int32} {x5 : Int32} {x6 : Int32} {x7 : Int32} {x8 : Int32} {s s' : mS} {v : Option Value} (hf : mf_305_168 N rc x1 x2 x3 x5 x6 x7 x8 s = some (s', v)) (k : Q v (mH h s')) : zz_E zp_P zt_tf zt_fd X (d + 3) zm_305 168 [(0, .ref 61), (1, .int x1), (2, .int x2), (3, .int x3), (5, .int x5), (6, .int x6), (7, .int x7), (8, .int x8)] [] (mH h s) Q := by
  unfold mf_305_168 at hf
  exact mb_305_168 hh  (mr_305_170 hh hrc0 hf k)
def mf_305_161 (N : Nat) (rc : Nat → Int32 → Int32 → Int32 → Int32 → Int32 → Int32 → Int32 → mS → mO) (x1 : Int32) (x2 : Int32) (x3 : Int32) (x5 : Int32) (x7 : Int32) (x8 : Int32) (s : mS) : mO := mf_305_170 N rc x1 x2 x3 x5 x7 x8 (s.1 56) s
theorem mr_305_161 {X : Nat → Option zz_C} {h : zz_H} (hh : 111 ≤ h.length) {d : Nat} {N : Nat} {rc : Nat → Int32 → Int32 → Int32 → Int32 → Int32 → Int32 → Int32 → mS → mO} (hrc0 : ∀ {Q : Option Value → zz_H → Prop} {x1 : Int32} {x2 : Int32} {x3 : Int32} {x5 : Int32} {x6 : Int32} {x7 : Int32} {x8 : Int32} {s s' : mS} {v : Option Value}, rc 0 x1 x2 x3 x5 x6 x7 x8 s = some (s', v) → Q v (mH h s') → zz_E zp_P zt_tf zt_fd X (d + 3) zm_305 101 [(0, .ref 61), (1, .int x1), (2, .int x2), (3, .int x3), (5, .int x5), (6, .int x6), (7, .int x7), (8, .int x8)] [] (mH h s) Q) {Q : Option Value → zz_H → Prop} {x1 : Int32} {x2 : Int32} {x3 : Int32} {x5 : Int32} {x7 : Int32} {x8 : Int32} {s s' : mS} {v : Option Value} (hf : mf_305_161 N rc x1 x2 x3 x5 x7 x8 s = some (s', v)) (k : Q v (mH h s')) : zz_E zp_P zt_tf zt_fd X (d + 3) zm_305 161 [(0, .ref 61), (1, .int x1), (2, .int x2), (3, .int x3), (5, .int x5), (7, .int x7), (8, .int x8)] [] (mH h s) Q := by
  unfold mf_305_161 at hf
  exact mb_305_161 hh  (mr_305_170 hh hrc0 hf k)
def mf_305_152 (N : Nat) (rc : Nat → Int32 → Int32 → Int32 → Int32 → Int32 → Int32 → Int32 → mS → mO) (x1 : Int32) (x2 : Int32) (x3 : Int32) (x5 : Int32) (x6 : Int32) (x7 : Int32) (x8 : Int32) (s : mS) : mO := if (s.1 56) ≤ x6 then mf_305_168 N rc x1 x2 x3 x5 x6 x7 x8 s else mf_305_161 N rc x1 x2 x3 x5 x7 x8 s
theorem mr_305_152 {X : Nat → Option zz_C} {h : zz_H} (hh : 111 ≤ h.length) {d : Nat} {N : Nat} {rc : Nat → Int32 → Int32 → Int32 → Int32 → Int32 → Int32 → Int32 → mS → mO} (hrc0 : ∀ {Q : Option Value → zz_H → Prop} {x1 : Int32} {x2 : Int32} {x3 : Int32} {x5 : Int32} {x6 : Int32} {x7 : Int32} {x8 : Int32} {s s' : mS} {v : Option Value}, rc 0 x1 x2 x3 x5 x6 x7 x8 s = some (s', v) → Q v (mH h s') → zz_E zp_P zt_tf zt_fd X (d + 3) zm_305 101 [(0, .ref 61), (1, .int x1), (2, .int x2), (3, .int x3), (5, .int x5), (6, .int x6), (7, .int x7), (8, .int x8)] [] (mH h s) Q) {Q : Option Value → zz_H → Prop} {x1 : Int32} {x2 : Int32} {x3 : Int32} {x5 : Int32} {x6 : Int32} {x7 : Int32} {x8 : Int32} {s s' : mS} {v : Option Value} (hf : mf_305_152 N rc x1 x2 x3 x5 x6 x7 x8 s = some (s', v)) (k : Q v (mH h s')) : zz_E zp_P zt_tf zt_fd X (d + 3) zm_305 152 [(0, .ref 61), (1, .int x1), (2, .int x2), (3, .int x3), (5, .int x5), (6, .int x6), (7, .int x7), (8, .int x8)] [] (mH h s) Q := by
  unfold mf_305_152 at hf
  refine mb_305_152 hh  (fun c => ?_) (fun c => ?_)
  · rw [if_pos c] at hf
    exact mr_305_168 hh hrc0 hf k
  · rw [if_neg c] at hf
    exact mr_305_161 hh hrc0 hf k
def mf_305_141 (N : Nat) (rc : Nat → Int32 → Int32 → Int32 → Int32 → Int32 → Int32 → Int32 → mS → mO) (x1 : Int32) (x2 : Int32) (x3 : Int32) (x5 : Int32) (x6 : Int32) (x7 : Int32) (x8 : Int32) (s : mS) : mO := if ¬ (x8 < 0 ∨ 9000 ≤ Int32.toNatClampNeg x8) then (mo_bv (mf_298 N ((s.2.2.1 50) (Int32.toNatClampNeg x8)) s) (fun s1 => mf_305_152 N rc x1 x2 x3 x5 x6 x7 x8 s1)) else none
theorem mr_305_141 {X : Nat → Option zz_C} {h : zz_H} (hh : 111 ≤ h.length) {d : Nat} {N : Nat} {rc : Nat → Int32 → Int32 → Int32 → Int32 → Int32 → Int32 → Int32 → mS → mO} (hrc0 : ∀ {Q : Option Value → zz_H → Prop} {x1 : Int32} {x2 : Int32} {x3 : Int32} {x5 : Int32} {x6 : Int32} {x7 : Int32} {x8 : Int32} {s s' : mS} {v : Option Value}, rc 0 x1 x2 x3 x5 x6 x7 x8 s = some (s', v) → Q v (mH h s') → zz_E zp_P zt_tf zt_fd X (d + 3) zm_305 101 [(0, .ref 61), (1, .int x1), (2, .int x2), (3, .int x3), (5, .int x5), (6, .int x6), (7, .int x7), (8, .int x8)] [] (mH h s) Q) {Q : Option Value → zz_H → Prop} {x1 : Int32} {x2 : Int32} {x3 : Int32} {x5 : Int32} {x6 : Int32} {x7 : Int32} {x8 : Int32} {s s' : mS} {v : Option Value} (hf : mf_305_141 N rc x1 x2 x3 x5 x6 x7 x8 s = some (s', v)) (k : Q v (mH h s')) : zz_E zp_P zt_tf zt_fd X (d + 3) zm_305 141 [(0, .ref 61), (1, .int x1), (2, .int x2), (3, .int x3), (5, .int x5), (6, .int x6), (7, .int x7), (8, .int x8)] [] (mH h s) Q := by
  unfold mf_305_141 at hf
  obtain ⟨q0, hf⟩ := mo_if hf
  obtain ⟨s1, e, hf⟩ := mo_bv_ok hf
  exact mb_305_141 (d := d + 2) hh q0 (mr_298 (d := d + 0) hh e (mr_305_152 hh hrc0 hf k))
def mf_305_120 (N : Nat) (rc : Nat → Int32 → Int32 → Int32 → Int32 → Int32 → Int32 → Int32 → mS → mO) (x1 : Int32) (x2 : Int32) (x3 : Int32) (x5 : Int32) (x6 : Int32) (x7 : Int32) (x8 : Int32) (s : mS) : mO := if ¬ (x8 < 0 ∨ 9000 ≤ Int32.toNatClampNeg x8) then (if ¬ ((s.2.2.1 49) (Int32.toNatClampNeg x8)) = 1 then mf_305_152 N rc x1 x2 x3 x5 x6 x7 x8 (mI (mI s 56 0) 57 1) else mf_305_141 N rc x1 x2 x3 x5 x6 x7 x8 (mI (mI s 56 0) 57 1)) else none
theorem mr_305_120 {X : Nat → Option zz_C} {h : zz_H} (hh : 111 ≤ h.length) {d : Nat} {N : Nat} {rc : Nat → Int32 → Int32 → Int32 → Int32 → Int32 → Int32 → Int32 → mS → mO} (hrc0 : ∀ {Q : Option Value → zz_H → Prop} {x1 : Int32} {x2 : Int32} {x3 : Int32} {x5 : Int32} {x6 : Int32} {x7 : Int32} {x8 : Int32} {s s' : mS} {v : Option Value}, rc 0 x1 x2 x3 x5 x6 x7 x8 s = some (s', v) → Q v (mH h s') → zz_E zp_P zt_tf zt_fd X (d + 3) zm_305 101 [(0, .ref 61), (1, .int x1), (2, .int x2), (3, .int x3), (5, .int x5), (6, .int x6), (7, .int x7), (8, .int x8)] [] (mH h s) Q) {Q : Option Value → zz_H → Prop} {x1 : Int32} {x2 : Int32} {x3 : Int32} {x5 : Int32} {x6 : Int32} {x7 : Int32} {x8 : Int32} {s s' : mS} {v : Option Value} (hf : mf_305_120 N rc x1 x2 x3 x5 x6 x7 x8 s = some (s', v)) (k : Q v (mH h s')) : zz_E zp_P zt_tf zt_fd X (d + 3) zm_305 120 [(0, .ref 61), (1, .int x1), (2, .int x2), (3, .int x3), (5, .int x5), (6, .int x6), (7, .int x7), (8, .int x8)] [] (mH h s) Q := by
  unfold mf_305_120 at hf
  obtain ⟨q0, hf⟩ := mo_if hf
  refine mb_305_120 hh q0 (fun c => ?_) (fun c => ?_)
  · rw [if_pos c] at hf
    exact mr_305_152 hh hrc0 hf k
  · rw [if_neg c] at hf
    exact mr_305_141 hh hrc0 hf k
def mf_305_115 (N : Nat) (rc : Nat → Int32 → Int32 → Int32 → Int32 → Int32 → Int32 → Int32 → mS → mO) (x1 : Int32) (x2 : Int32) (x3 : Int32) (x5 : Int32) (x6 : Int32) (x7 : Int32) (x8 : Int32) (s : mS) : mO := if ¬ x5 = 0 then mf_305_187 N x1 x2 x3 x5 x6 x7 s else mf_305_120 N rc x1 x2 x3 x5 x6 x7 x8 s
theorem mr_305_115 {X : Nat → Option zz_C} {h : zz_H} (hh : 111 ≤ h.length) {d : Nat} {N : Nat} {rc : Nat → Int32 → Int32 → Int32 → Int32 → Int32 → Int32 → Int32 → mS → mO} (hrc0 : ∀ {Q : Option Value → zz_H → Prop} {x1 : Int32} {x2 : Int32} {x3 : Int32} {x5 : Int32} {x6 : Int32} {x7 : Int32} {x8 : Int32} {s s' : mS} {v : Option Value}, rc 0 x1 x2 x3 x5 x6 x7 x8 s = some (s', v) → Q v (mH h s') → zz_E zp_P zt_tf zt_fd X (d + 3) zm_305 101 [(0, .ref 61), (1, .int x1), (2, .int x2), (3, .int x3), (5, .int x5), (6, .int x6), (7, .int x7), (8, .int x8)] [] (mH h s) Q) {Q : Option Value → zz_H → Prop} {x1 : Int32} {x2 : Int32} {x3 : Int32} {x5 : Int32} {x6 : Int32} {x7 : Int32} {x8 : Int32} {s s' : mS} {v : Option Value} (hf : mf_305_115 N rc x1 x2 x3 x5 x6 x7 x8 s = some (s', v)) (k : Q v (mH h s')) : zz_E zp_P zt_tf zt_fd X (d + 3) zm_305 115 [(0, .ref 61), (1, .int x1), (2, .int x2), (3, .int x3), (5, .int x5), (6, .int x6), (7, .int x7), (8, .int x8)] [] (mH h s) Q := by
  unfold mf_305_115 at hf
  refine mb_305_115 hh  (fun c => ?_) (fun c => ?_)
  · rw [if_pos c] at hf
    exact mr_305_187 hh hf k
  · rw [if_neg c] at hf
    exact mr_305_120 hh hrc0 hf k
def mf_305_110 (N : Nat) (rc : Nat → Int32 → Int32 → Int32 → Int32 → Int32 → Int32 → Int32 → mS → mO) (x1 : Int32) (x2 : Int32) (x3 : Int32) (x5 : Int32) (x6 : Int32) (x7 : Int32) (x8 : Int32) (s : mS) : mO := if ¬ x1 = 3 then mf_305_187 N x1 x2 x3 x5 x6 x7 s else mf_305_115 N rc x1 x2 x3 x5 x6 x7 x8 s
theorem mr_305_110 {X : Nat → Option zz_C} {h : zz_H} (hh : 111 ≤ h.length) {d : Nat} {N : Nat} {rc : Nat → Int32 → Int32 → Int32 → Int32 → Int32 → Int32 → Int32 → mS → mO} (hrc0 : ∀ {Q : Option Value → zz_H → Prop} {x1 : Int32} {x2 : Int32} {x3 : Int32} {x5 : Int32} {x6 : Int32} {x7 : Int32} {x8 : Int32} {s s' : mS} {v : Option Value}, rc 0 x1 x2 x3 x5 x6 x7 x8 s = some (s', v) → Q v (mH h s') → zz_E zp_P zt_tf zt_fd X (d + 3) zm_305 101 [(0, .ref 61), (1, .int x1), (2, .int x2), (3, .int x3), (5, .int x5), (6, .int x6), (7, .int x7), (8, .int x8)] [] (mH h s) Q) {Q : Option Value → zz_H → Prop} {x1 : Int32} {x2 : Int32} {x3 : Int32} {x5 : Int32} {x6 : Int32} {x7 : Int32} {x8 : Int32} {s s' : mS} {v : Option Value} (hf : mf_305_110 N rc x1 x2 x3 x5 x6 x7 x8 s = some (s', v)) (k : Q v (mH h s')) : zz_E zp_P zt_tf zt_fd X (d + 3) zm_305 110 [(0, .ref 61), (1, .int x1), (2, .int x2), (3, .int x3), (5, .int x5), (6, .int x6), (7, .int x7), (8, .int x8)] [] (mH h s) Q := by
  unfold mf_305_110 at hf
  refine mb_305_110 hh  (fun c => ?_) (fun c => ?_)
  · rw [if_pos c] at hf
    exact mr_305_187 hh hf k
  · rw [if_neg c] at hf
    exact mr_305_115 hh hrc0 hf k
def mf_305_101 (N : Nat) (rc : Nat → Int32 → Int32 → Int32 → Int32 → Int32 → Int32 → Int32 → mS → mO) (x1 : Int32) (x2 : Int32) (x3 : Int32) (x5 : Int32) (x6 : Int32) (x7 : Int32) (x8 : Int32) (s : mS) : mO := if (s.1 51) ≤ x8 then mf_305_187 N x1 x2 x3 x5 x6 x7 s else mf_305_110 N rc x1 x2 x3 x5 x6 x7 x8 s
theorem mr_305_101 {X : Nat → Option zz_C} {h : zz_H} (hh : 111 ≤ h.length) {d : Nat} {N : Nat} {rc : Nat → Int32 → Int32 → Int32 → Int32 → Int32 → Int32 → Int32 → mS → mO} (hrc0 : ∀ {Q : Option Value → zz_H → Prop} {x1 : Int32} {x2 : Int32} {x3 : Int32} {x5 : Int32} {x6 : Int32} {x7 : Int32} {x8 : Int32} {s s' : mS} {v : Option Value}, rc 0 x1 x2 x3 x5 x6 x7 x8 s = some (s', v) → Q v (mH h s') → zz_E zp_P zt_tf zt_fd X (d + 3) zm_305 101 [(0, .ref 61), (1, .int x1), (2, .int x2), (3, .int x3), (5, .int x5), (6, .int x6), (7, .int x7), (8, .int x8)] [] (mH h s) Q) {Q : Option Value → zz_H → Prop} {x1 : Int32} {x2 : Int32} {x3 : Int32} {x5 : Int32} {x6 : Int32} {x7 : Int32} {x8 : Int32} {s s' : mS} {v : Option Value} (hf : mf_305_101 N rc x1 x2 x3 x5 x6 x7 x8 s = some (s', v)) (k : Q v (mH h s')) : zz_E zp_P zt_tf zt_fd X (d + 3) zm_305 101 [(0, .ref 61), (1, .int x1), (2, .int x2), (3, .int x3), (5, .int x5), (6, .int x6), (7, .int x7), (8, .int x8)] [] (mH h s) Q := by
  unfold mf_305_101 at hf
  refine mb_305_101 hh  (fun c => ?_) (fun c => ?_)
  · rw [if_pos c] at hf
    exact mr_305_187 hh hf k
  · rw [if_neg c] at hf
    exact mr_305_110 hh hrc0 hf k
def mf_305_L13 (N : Nat) : Nat → Nat → Int32 → Int32 → Int32 → Int32 → Int32 → Int32 → Int32 → mS → mO
  | 0, _, _, _, _, _, _, _, _, _ => none
  | n + 1, l, x1, x2, x3, x5, x6, x7, x8, s => if l = 0 then mf_305_101 N (mf_305_L13 N n) x1 x2 x3 x5 x6 x7 x8 s else none
theorem mr_305_L13 {X : Nat → Option zz_C} {h : zz_H} (hh : 111 ≤ h.length) {d : Nat} {N : Nat} : ∀ n : Nat, (∀ {Q : Option Value → zz_H → Prop} {x1 : Int32} {x2 : Int32} {x3 : Int32} {x5 : Int32} {x6 : Int32} {x7 : Int32} {x8 : Int32} {s s' : mS} {v : Option Value}, mf_305_L13 N n 0 x1 x2 x3 x5 x6 x7 x8 s = some (s', v) → Q v (mH h s') → zz_E zp_P zt_tf zt_fd X (d + 3) zm_305 101 [(0, .ref 61), (1, .int x1), (2, .int x2), (3, .int x3), (5, .int x5), (6, .int x6), (7, .int x7), (8, .int x8)] [] (mH h s) Q) := by
  intro n
  induction n with
  | zero => exact (fun hf _ => by cases hf)
  | succ n ih =>
    have h0 := @ih
    intro Q _ _ _ _ _ _ _ s s' v hf k
    unfold mf_305_L13 at hf
    rw [if_pos rfl] at hf
    exact mr_305_101 hh h0 hf k
def mf_305_90 (N : Nat) (x1 : Int32) (x2 : Int32) (x3 : Int32) (y0 : Int32) (s : mS) : mO := mf_305_L13 N N 0 x1 x2 x3 y0 0 1 x2 s
theorem mr_305_90 {X : Nat → Option zz_C} {h : zz_H} (hh : 111 ≤ h.length) {d : Nat} {N : Nat} {Q : Option Value → zz_H → Prop} {x1 : Int32} {x2 : Int32} {x3 : Int32} {y0 : Int32} {s s' : mS} {v : Option Value} (hf : mf_305_90 N x1 x2 x3 y0 s = some (s', v)) (k : Q v (mH h s')) : zz_E zp_P zt_tf zt_fd X (d + 3) zm_305 90 [(0, .ref 61), (1, .int x1), (2, .int x2), (3, .int x3)] [.int y0] (mH h s) Q := by
  unfold mf_305_90 at hf
  exact mb_305_90 hh  (mr_305_L13 hh N hf k)
def mf_305_85 (N : Nat) (x1 : Int32) (x2 : Int32) (x3 : Int32) (s : mS) : mO := mf_305_90 N x1 x2 x3 1 s
theorem mr_305_85 {X : Nat → Option zz_C} {h : zz_H} (hh : 111 ≤ h.length) {d : Nat} {N : Nat} {Q : Option Value → zz_H → Prop} {x1 : Int32} {x2 : Int32} {x3 : Int32} {s s' : mS} {v : Option Value} (hf : mf_305_85 N x1 x2 x3 s = some (s', v)) (k : Q v (mH h s')) : zz_E zp_P zt_tf zt_fd X (d + 3) zm_305 85 [(0, .ref 61), (1, .int x1), (2, .int x2), (3, .int x3)] [] (mH h s) Q := by
  unfold mf_305_85 at hf
  exact mb_305_85 hh  (mr_305_90 hh hf k)
def mf_305_89 (N : Nat) (x1 : Int32) (x2 : Int32) (x3 : Int32) (s : mS) : mO := mf_305_90 N x1 x2 x3 0 s
theorem mr_305_89 {X : Nat → Option zz_C} {h : zz_H} (hh : 111 ≤ h.length) {d : Nat} {N : Nat} {Q : Option Value → zz_H → Prop} {x1 : Int32} {x2 : Int32} {x3 : Int32} {s s' : mS} {v : Option Value} (hf : mf_305_89 N x1 x2 x3 s = some (s', v)) (k : Q v (mH h s')) : zz_E zp_P zt_tf zt_fd X (d + 3) zm_305 89 [(0, .ref 61), (1, .int x1), (2, .int x2), (3, .int x3)] [] (mH h s) Q := by
  unfold mf_305_89 at hf
  exact mb_305_89 hh  (mr_305_90 hh hf k)
def mf_305_77 (N : Nat) (x1 : Int32) (x2 : Int32) (x3 : Int32) (x4 : Int32) (s : mS) : mO := if x4 ≤ 200 then mf_305_89 N x1 x2 x3 s else mf_305_85 N x1 x2 x3 s
theorem mr_305_77 {X : Nat → Option zz_C} {h : zz_H} (hh : 111 ≤ h.length) {d : Nat} {N : Nat} {Q : Option Value → zz_H → Prop} {x1 : Int32} {x2 : Int32} {x3 : Int32} {x4 : Int32} {s s' : mS} {v : Option Value} (hf : mf_305_77 N x1 x2 x3 x4 s = some (s', v)) (k : Q v (mH h s')) : zz_E zp_P zt_tf zt_fd X (d + 3) zm_305 77 [(0, .ref 61), (1, .int x1), (2, .int x2), (3, .int x3), (4, .int x4)] [] (mH h s) Q := by
  unfold mf_305_77 at hf
  refine mb_305_77 hh  (fun c => ?_) (fun c => ?_)
  · rw [if_pos c] at hf
    exact mr_305_89 hh hf k
  · rw [if_neg c] at hf
    exact mr_305_85 hh hf k
def mf_305_72 (N : Nat) (x1 : Int32) (x2 : Int32) (x3 : Int32) (x4 : Int32) (x5 : Int32) (s : mS) : mO := if ¬ x5 = 0 then mf_305_85 N x1 x2 x3 s else mf_305_77 N x1 x2 x3 x4 s
theorem mr_305_72 {X : Nat → Option zz_C} {h : zz_H} (hh : 111 ≤ h.length) {d : Nat} {N : Nat} {Q : Option Value → zz_H → Prop} {x1 : Int32} {x2 : Int32} {x3 : Int32} {x4 : Int32} {x5 : Int32} {s s' : mS} {v : Option Value} (hf : mf_305_72 N x1 x2 x3 x4 x5 s = some (s', v)) (k : Q v (mH h s')) : zz_E zp_P zt_tf zt_fd X (d + 3) zm_305 72 [(0, .ref 61), (1, .int x1), (2, .int x2), (3, .int x3), (4, .int x4), (5, .int x5)] [] (mH h s) Q := by
  unfold mf_305_72 at hf
  refine mb_305_72 hh  (fun c => ?_) (fun c => ?_)
  · rw [if_pos c] at hf
    exact mr_305_85 hh hf k
  · rw [if_neg c] at hf
    exact mr_305_77 hh hf k
def mf_305_63 (N : Nat) (rc : Nat → Int32 → Int32 → Int32 → Int32 → Int32 → Int32 → mS → mO) (x1 : Int32) (x2 : Int32) (x3 : Int32) (x5 : Int32) (x6 : Int32) (y0 : Int32) (y1 : Int32) (s : mS) : mO := rc 0 x1 x2 x3 (y0 + y1) x5 (x6 + 1) s
theorem mr_305_63 {X : Nat → Option zz_C} {h : zz_H} (hh : 111 ≤ h.length) {d : Nat} {N : Nat} {rc : Nat → Int32 → Int32 → Int32 → Int32 → Int32 → Int32 → mS → mO} (hrc0 : ∀ {Q : Option Value → zz_H → Prop} {x1 : Int32} {x2 : Int32} {x3 : Int32} {x4 : Int32} {x5 : Int32} {x6 : Int32} {s s' : mS} {v : Option Value}, rc 0 x1 x2 x3 x4 x5 x6 s = some (s', v) → Q v (mH h s') → zz_E zp_P zt_tf zt_fd X (d + 3) zm_305 36 [(0, .ref 61), (1, .int x1), (2, .int x2), (3, .int x3), (4, .int x4), (5, .int x5), (6, .int x6)] [] (mH h s) Q) {Q : Option Value → zz_H → Prop} {x1 : Int32} {x2 : Int32} {x3 : Int32} {x5 : Int32} {x6 : Int32} {y0 : Int32} {y1 : Int32} {s s' : mS} {v : Option Value} (hf : mf_305_63 N rc x1 x2 x3 x5 x6 y0 y1 s = some (s', v)) (k : Q v (mH h s')) : zz_E zp_P zt_tf zt_fd X (d + 3) zm_305 63 [(0, .ref 61), (1, .int x1), (2, .int x2), (3, .int x3), (5, .int x5), (6, .int x6)] [.int y1, .int y0] (mH h s) Q := by
  unfold mf_305_63 at hf
  exact mb_305_63 hh  (hrc0 hf k)
def mf_305_50 (N : Nat) (rc : Nat → Int32 → Int32 → Int32 → Int32 → Int32 → Int32 → mS → mO) (x1 : Int32) (x2 : Int32) (x3 : Int32) (x4 : Int32) (x5 : Int32) (x6 : Int32) (s : mS) : mO := if ¬ (x6 < 0 ∨ 9000 ≤ Int32.toNatClampNeg x6) then (mo_bi (mf_77 N ((s.2.2.1 50) (Int32.toNatClampNeg x6)) s) (fun s1 y => mf_305_63 N rc x1 x2 x3 x5 x6 x4 y s1)) else none
theorem mr_305_50 {X : Nat → Option zz_C} {h : zz_H} (hh : 111 ≤ h.length) {d : Nat} {N : Nat} {rc : Nat → Int32 → Int32 → Int32 → Int32 → Int32 → Int32 → mS → mO} (hrc0 : ∀ {Q : Option Value → zz_H → Prop} {x1 : Int32} {x2 : Int32} {x3 : Int32} {x4 : Int32} {x5 : Int32} {x6 : Int32} {s s' : mS} {v : Option Value}, rc 0 x1 x2 x3 x4 x5 x6 s = some (s', v) → Q v (mH h s') → zz_E zp_P zt_tf zt_fd X (d + 3) zm_305 36 [(0, .ref 61), (1, .int x1), (2, .int x2), (3, .int x3), (4, .int x4), (5, .int x5), (6, .int x6)] [] (mH h s) Q) {Q : Option Value → zz_H → Prop} {x1 : Int32} {x2 : Int32} {x3 : Int32} {x4 : Int32} {x5 : Int32} {x6 : Int32} {s s' : mS} {v : Option Value} (hf : mf_305_50 N rc x1 x2 x3 x4 x5 x6 s = some (s', v)) (k : Q v (mH h s')) : zz_E zp_P zt_tf zt_fd X (d + 3) zm_305 50 [(0, .ref 61), (1, .int x1), (2, .int x2), (3, .int x3), (4, .int x4), (5, .int x5), (6, .int x6)] [] (mH h s) Q := by
  unfold mf_305_50 at hf
  obtain ⟨q0, hf⟩ := mo_if hf
  obtain ⟨s1, y, e, hf⟩ := mo_bi_ok hf
  exact mb_305_50 (d := d + 2) hh q0 (mr_77 (d := d + 2) hh e (mr_305_63 hh hrc0 hf k))
def mf_305_45 (N : Nat) (rc : Nat → Int32 → Int32 → Int32 → Int32 → Int32 → Int32 → mS → mO) (x1 : Int32) (x2 : Int32) (x3 : Int32) (x4 : Int32) (x5 : Int32) (x6 : Int32) (s : mS) : mO := if ¬ x1 = 2 then mf_305_72 N x1 x2 x3 x4 x5 s else mf_305_50 N rc x1 x2 x3 x4 x5 x6 s
theorem mr_305_45 {X : Nat → Option zz_C} {h : zz_H} (hh : 111 ≤ h.length) {d : Nat} {N : Nat} {rc : Nat → Int32 → Int32 → Int32 → Int32 → Int32 → Int32 → mS → mO} (hrc0 : ∀ {Q : Option Value → zz_H → Prop} {x1 : Int32} {x2 : Int32} {x3 : Int32} {x4 : Int32} {x5 : Int32} {x6 : Int32} {s s' : mS} {v : Option Value}, rc 0 x1 x2 x3 x4 x5 x6 s = some (s', v) → Q v (mH h s') → zz_E zp_P zt_tf zt_fd X (d + 3) zm_305 36 [(0, .ref 61), (1, .int x1), (2, .int x2), (3, .int x3), (4, .int x4), (5, .int x5), (6, .int x6)] [] (mH h s) Q) {Q : Option Value → zz_H → Prop} {x1 : Int32} {x2 : Int32} {x3 : Int32} {x4 : Int32} {x5 : Int32} {x6 : Int32} {s s' : mS} {v : Option Value} (hf : mf_305_45 N rc x1 x2 x3 x4 x5 x6 s = some (s', v)) (k : Q v (mH h s')) : zz_E zp_P zt_tf zt_fd X (d + 3) zm_305 45 [(0, .ref 61), (1, .int x1), (2, .int x2), (3, .int x3), (4, .int x4), (5, .int x5), (6, .int x6)] [] (mH h s) Q := by
  unfold mf_305_45 at hf
  refine mb_305_45 hh  (fun c => ?_) (fun c => ?_)
  · rw [if_pos c] at hf
    exact mr_305_72 hh hf k
  · rw [if_neg c] at hf
    exact mr_305_50 hh hrc0 hf k
def mf_305_36 (N : Nat) (rc : Nat → Int32 → Int32 → Int32 → Int32 → Int32 → Int32 → mS → mO) (x1 : Int32) (x2 : Int32) (x3 : Int32) (x4 : Int32) (x5 : Int32) (x6 : Int32) (s : mS) : mO := if (s.1 51) ≤ x6 then mf_305_72 N x1 x2 x3 x4 x5 s else mf_305_45 N rc x1 x2 x3 x4 x5 x6 s
theorem mr_305_36 {X : Nat → Option zz_C} {h : zz_H} (hh : 111 ≤ h.length) {d : Nat} {N : Nat} {rc : Nat → Int32 → Int32 → Int32 → Int32 → Int32 → Int32 → mS → mO} (hrc0 : ∀ {Q : Option Value → zz_H → Prop} {x1 : Int32} {x2 : Int32} {x3 : Int32} {x4 : Int32} {x5 : Int32} {x6 : Int32} {s s' : mS} {v : Option Value}, rc 0 x1 x2 x3 x4 x5 x6 s = some (s', v) → Q v (mH h s') → zz_E zp_P zt_tf zt_fd X (d + 3) zm_305 36 [(0, .ref 61), (1, .int x1), (2, .int x2), (3, .int x3), (4, .int x4), (5, .int x5), (6, .int x6)] [] (mH h s) Q) {Q : Option Value → zz_H → Prop} {x1 : Int32} {x2 : Int32} {x3 : Int32} {x4 : Int32} {x5 : Int32} {x6 : Int32} {s s' : mS} {v : Option Value} (hf : mf_305_36 N rc x1 x2 x3 x4 x5 x6 s = some (s', v)) (k : Q v (mH h s')) : zz_E zp_P zt_tf zt_fd X (d + 3) zm_305 36 [(0, .ref 61), (1, .int x1), (2, .int x2), (3, .int x3), (4, .int x4), (5, .int x5), (6, .int x6)] [] (mH h s) Q := by
  unfold mf_305_36 at hf
  refine mb_305_36 hh  (fun c => ?_) (fun c => ?_)
  · rw [if_pos c] at hf
    exact mr_305_72 hh hf k
  · rw [if_neg c] at hf
    exact mr_305_45 hh hrc0 hf k
def mf_305_L19 (N : Nat) : Nat → Nat → Int32 → Int32 → Int32 → Int32 → Int32 → Int32 → mS → mO
  | 0, _, _, _, _, _, _, _, _ => none
  | n + 1, l, x1, x2, x3, x4, x5, x6, s => if l = 0 then mf_305_36 N (mf_305_L19 N n) x1 x2 x3 x4 x5 x6 s else none
theorem mr_305_L19 {X : Nat → Option zz_C} {h : zz_H} (hh : 111 ≤ h.length) {d : Nat} {N : Nat} : ∀ n : Nat, (∀ {Q : Option Value → zz_H → Prop} {x1 : Int32} {x2 : Int32} {x3 : Int32} {x4 : Int32} {x5 : Int32} {x6 : Int32} {s s' : mS} {v : Option Value}, mf_305_L19 N n 0 x1 x2 x3 x4 x5 x6 s = some (s', v) → Q v (mH h s') → zz_E zp_P zt_tf zt_fd X (d + 3) zm_305 36 [(0, .ref 61), (1, .int x1), (2, .int x2), (3, .int x3), (4, .int x4), (5, .int x5), (6, .int x6)] [] (mH h s) Q) := by
  intro n
  induction n with
  | zero => exact (fun hf _ => by cases hf)
  | succ n ih =>
    have h0 := @ih
    intro Q _ _ _ _ _ _ s s' v hf k
    unfold mf_305_L19 at hf
    rw [if_pos rfl] at hf
    exact mr_305_36 hh h0 hf k
def mf_305_31 (N : Nat) (x1 : Int32) (x2 : Int32) (x3 : Int32) (x4 : Int32) (y0 : Int32) (s : mS) : mO := mf_305_L19 N N 0 x1 x2 x3 x4 y0 x2 s
theorem mr_305_31 {X : Nat → Option zz_C} {h : zz_H} (hh : 111 ≤ h.length) {d : Nat} {N : Nat} {Q : Option Value → zz_H → Prop} {x1 : Int32} {x2 : Int32} {x3 : Int32} {x4 : Int32} {y0 : Int32} {s s' : mS} {v : Option Value} (hf : mf_305_31 N x1 x2 x3 x4 y0 s = some (s', v)) (k : Q v (mH h s')) : zz_E zp_P zt_tf zt_fd X (d + 3) zm_305 31 [(0, .ref 61), (1, .int x1), (2, .int x2), (3, .int x3), (4, .int x4)] [.int y0] (mH h s) Q := by
  unfold mf_305_31 at hf
  exact mb_305_31 hh  (mr_305_L19 hh N hf k)
def mf_305_30 (N : Nat) (x1 : Int32) (x2 : Int32) (x3 : Int32) (x4 : Int32) (s : mS) : mO := mf_305_31 N x1 x2 x3 x4 0 s
theorem mr_305_30 {X : Nat → Option zz_C} {h : zz_H} (hh : 111 ≤ h.length) {d : Nat} {N : Nat} {Q : Option Value → zz_H → Prop} {x1 : Int32} {x2 : Int32} {x3 : Int32} {x4 : Int32} {s s' : mS} {v : Option Value} (hf : mf_305_30 N x1 x2 x3 x4 s = some (s', v)) (k : Q v (mH h s')) : zz_E zp_P zt_tf zt_fd X (d + 3) zm_305 30 [(0, .ref 61), (1, .int x1), (2, .int x2), (3, .int x3), (4, .int x4)] [] (mH h s) Q := by
  unfold mf_305_30 at hf
  exact mb_305_30 hh  (mr_305_31 hh hf k)
def mf_305_26 (N : Nat) (x1 : Int32) (x2 : Int32) (x3 : Int32) (x4 : Int32) (s : mS) : mO := mf_305_31 N x1 x2 x3 x4 1 s
theorem mr_305_26 {X : Nat → Option zz_C} {h : zz_H} (hh : 111 ≤ h.length) {d : Nat} {N : Nat} {Q : Option Value → zz_H → Prop} {x1 : Int32} {x2 : Int32} {x3 : Int32} {x4 : Int32} {s s' : mS} {v : Option Value} (hf : mf_305_26 N x1 x2 x3 x4 s = some (s', v)) (k : Q v (mH h s')) : zz_E zp_P zt_tf zt_fd X (d + 3) zm_305 26 [(0, .ref 61), (1, .int x1), (2, .int x2), (3, .int x3), (4, .int x4)] [] (mH h s) Q := by
  unfold mf_305_26 at hf
  exact mb_305_26 hh  (mr_305_31 hh hf k)
def mf_305_23 (N : Nat) (x1 : Int32) (x2 : Int32) (x3 : Int32) (x4 : Int32) (y0 : Int32) (y1 : Int32) (s : mS) : mO := if y0 ≤ y1 then mf_305_30 N x1 x2 x3 x4 s else mf_305_26 N x1 x2 x3 x4 s
theorem mr_305_23 {X : Nat → Option zz_C} {h : zz_H} (hh : 111 ≤ h.length) {d : Nat} {N : Nat} {Q : Option Value → zz_H → Prop} {x1 : Int32} {x2 : Int32} {x3 : Int32} {x4 : Int32} {y0 : Int32} {y1 : Int32} {s s' : mS} {v : Option Value} (hf : mf_305_23 N x1 x2 x3 x4 y0 y1 s = some (s', v)) (k : Q v (mH h s')) : zz_E zp_P zt_tf zt_fd X (d + 3) zm_305 23 [(0, .ref 61), (1, .int x1), (2, .int x2), (3, .int x3), (4, .int x4)] [.int y1, .int y0] (mH h s) Q := by
  unfold mf_305_23 at hf
  refine mb_305_23 hh  (fun c => ?_) (fun c => ?_)
  · rw [if_pos c] at hf
    exact mr_305_30 hh hf k
  · rw [if_neg c] at hf
    exact mr_305_26 hh hf k
def mf_305_21 (N : Nat) (x1 : Int32) (x2 : Int32) (x3 : Int32) (x4 : Int32) (y0 : Int32) (s : mS) : mO := mf_305_23 N x1 x2 x3 x4 y0 20 s
theorem mr_305_21 {X : Nat → Option zz_C} {h : zz_H} (hh : 111 ≤ h.length) {d : Nat} {N : Nat} {Q : Option Value → zz_H → Prop} {x1 : Int32} {x2 : Int32} {x3 : Int32} {x4 : Int32} {y0 : Int32} {s s' : mS} {v : Option Value} (hf : mf_305_21 N x1 x2 x3 x4 y0 s = some (s', v)) (k : Q v (mH h s')) : zz_E zp_P zt_tf zt_fd X (d + 3) zm_305 21 [(0, .ref 61), (1, .int x1), (2, .int x2), (3, .int x3), (4, .int x4)] [.int y0] (mH h s) Q := by
  unfold mf_305_21 at hf
  exact mb_305_21 hh  (mr_305_23 hh hf k)
def mf_305_16 (N : Nat) (x1 : Int32) (x2 : Int32) (x3 : Int32) (x4 : Int32) (y0 : Int32) (s : mS) : mO := mf_305_23 N x1 x2 x3 x4 y0 64 s
theorem mr_305_16 {X : Nat → Option zz_C} {h : zz_H} (hh : 111 ≤ h.length) {d : Nat} {N : Nat} {Q : Option Value → zz_H → Prop} {x1 : Int32} {x2 : Int32} {x3 : Int32} {x4 : Int32} {y0 : Int32} {s s' : mS} {v : Option Value} (hf : mf_305_16 N x1 x2 x3 x4 y0 s = some (s', v)) (k : Q v (mH h s')) : zz_E zp_P zt_tf zt_fd X (d + 3) zm_305 16 [(0, .ref 61), (1, .int x1), (2, .int x2), (3, .int x3), (4, .int x4)] [.int y0] (mH h s) Q := by
  unfold mf_305_16 at hf
  exact mb_305_16 hh  (mr_305_23 hh hf k)
def mf_305_0 (N : Nat) (x1 : Int32) (x2 : Int32) (s : mS) : mO := if ¬ x1 = 1 then mf_305_21 N x1 x2 ((s.1 51) - x2) 0 ((s.1 51) - x2) s else mf_305_16 N x1 x2 ((s.1 51) - x2) 0 ((s.1 51) - x2) s
theorem mr_305_0 {X : Nat → Option zz_C} {h : zz_H} (hh : 111 ≤ h.length) {d : Nat} {N : Nat} {Q : Option Value → zz_H → Prop} {x1 : Int32} {x2 : Int32} {s s' : mS} {v : Option Value} (hf : mf_305_0 N x1 x2 s = some (s', v)) (k : Q v (mH h s')) : zz_E zp_P zt_tf zt_fd X (d + 3) zm_305 0 [(0, .ref 61), (1, .int x1), (2, .int x2)] [] (mH h s) Q := by
  unfold mf_305_0 at hf
  refine mb_305_0 hh  (fun c => ?_) (fun c => ?_)
  · rw [if_pos c] at hf
    exact mr_305_21 hh hf k
  · rw [if_neg c] at hf
    exact mr_305_16 hh hf k
/-- builds -/
def mf_305 (N : Nat) (x1 : Int32) (x2 : Int32) (s : mS) : mO := mf_305_0 N x1 x2 s
theorem mr_305 {X : Nat → Option zz_C} {h : zz_H} (hh : 111 ≤ h.length) {d : Nat} {N : Nat} {Q : Option Value → zz_H → Prop} {x1 : Int32} {x2 : Int32} {s s' : mS} {v : Option Value} (hf : mf_305 N x1 x2 s = some (s', v)) (k : Q v (mH h s')) : zz_E zp_P zt_tf zt_fd X (d + 3) zm_305 0 [(0, .ref 61), (1, .int x1), (2, .int x2)] [] (mH h s) Q := by
  unfold mf_305 at hf
  exact zz_E.weak (mr_305_0 hh hf k) rfl ⟨rfl, rfl, rfl, trivial⟩
/-! rowOf (I)V -/
theorem mb_306_0 {X : Nat → Option zz_C} {h : zz_H} (hh : 111 ≤ h.length) {s : mS} {d : Nat} {Q : Option Value → zz_H → Prop} {x1 : Int32} (k : zz_E zp_P zt_tf zt_fd X d zm_304 0 [(0, .ref 61), (1, .int 1), (2, .int ((s.1 51) - x1))] [] (mH h s) (fun v h' => zz_E zp_P zt_tf zt_fd X (d + 1) zm_306 11 [(0, .ref 61), (1, .int x1)] (v.toList ++ []) h' Q)) : zz_E zp_P zt_tf zt_fd X (d + 1) zm_306 0 [(0, .ref 61), (1, .int x1)] [] (mH h s) Q := by
  refine zz_E.n 1 rfl rfl rfl ?_
  refine zz_E.c 2 (.int 1) rfl rfl rfl rfl ?_
  refine zz_E.n 3 rfl rfl rfl ?_
  refine mE_g hh 6 (v := .int (s.1 51)) rfl rfl rfl ?_
  refine zz_E.n 7 rfl rfl rfl ?_
  refine zz_E.n 8 rfl rfl rfl ?_
  refine mE_cv hh 11 (as := []) rfl rfl (Nat.le_of_ble_eq_true rfl) (Nat.le_of_ble_eq_true rfl) rfl (Nat.le_of_ble_eq_true rfl) rfl ?_
  refine zz_E.mono k ?_
  intro v h' hE
  exact zz_E.weak hE rfl ⟨rfl, rfl, trivial⟩
theorem mb_306_11 {X : Nat → Option zz_C} {h : zz_H} (hh : 111 ≤ h.length) {s : mS} {d : Nat} {Q : Option Value → zz_H → Prop} {x1 : Int32} {y0 : Int32} (k : zz_E zp_P zt_tf zt_fd X d zm_306 14 [(0, .ref 61), (1, .int x1), (2, .int y0), (3, .int x1)] [] (mH h s) Q) : zz_E zp_P zt_tf zt_fd X d zm_306 11 [(0, .ref 61), (1, .int x1)] [.int y0] (mH h s) Q := by
  refine zz_E.n 12 rfl rfl rfl ?_
  refine zz_E.n 13 rfl rfl rfl ?_
  refine zz_E.n 14 rfl rfl rfl ?_
  exact zz_E.weak k rfl ⟨rfl, rfl, rfl, rfl, trivial⟩
theorem mb_306_14 {X : Nat → Option zz_C} {h : zz_H} (hh : 111 ≤ h.length) {s : mS} {d : Nat} {Q : Option Value → zz_H → Prop} {x1 : Int32} {x2 : Int32} {x3 : Int32} (k1 : (s.1 51) ≤ x3 → zz_E zp_P zt_tf zt_fd X d zm_306 53 [(0, .ref 61), (1, .int x1), (2, .int x2)] [] (mH h s) Q) (k2 : ¬ (s.1 51) ≤ x3 → zz_E zp_P zt_tf zt_fd X d zm_306 22 [(0, .ref 61), (1, .int x1), (2, .int x2), (3, .int x3)] [] (mH h s) Q) : zz_E zp_P zt_tf zt_fd X d zm_306 14 [(0, .ref 61), (1, .int x1), (2, .int x2), (3, .int x3)] [] (mH h s) Q := by
  refine zz_E.n 15 rfl rfl rfl ?_
  refine zz_E.n 16 rfl rfl rfl ?_
  refine mE_g hh 19 (v := .int (s.1 51)) rfl rfl rfl ?_
  refine zz_E.b2 53 22 (A := (s.1 51) ≤ x3) rfl rfl (by decide) rfl rfl (fun c => ?_) (fun c => ?_)
  · exact zz_E.weak (k1 c) rfl ⟨rfl, rfl, rfl, trivial⟩
  · exact zz_E.weak (k2 c) rfl ⟨rfl, rfl, rfl, rfl, trivial⟩
theorem mb_306_22 {X : Nat → Option zz_C} {h : zz_H} (hh : 111 ≤ h.length) {s : mS} {d : Nat} {Q : Option Value → zz_H → Prop} {x1 : Int32} {x2 : Int32} {x3 : Int32} (i35 : ¬ (x3 < 0 ∨ 9000 ≤ Int32.toNatClampNeg x3)) (i36 : ¬ ((s.1 48) < 0 ∨ 166300 ≤ Int32.toNatClampNeg (s.1 48))) (k : zz_E zp_P zt_tf zt_fd X d zm_306 14 [(0, .ref 61), (1, .int x1), (2, .int x2), (3, .int (x3 + 1))] [] (mH h (mI (mA s 47 (upd (s.2.2.1 47) (Int32.toNatClampNeg (s.1 48)) ((s.2.2.1 50) (Int32.toNatClampNeg x3)))) 48 ((s.1 48) + 1))) Q) : zz_E zp_P zt_tf zt_fd X d zm_306 22 [(0, .ref 61), (1, .int x1), (2, .int x2), (3, .int x3)] [] (mH h s) Q := by
  refine zz_E.n 23 rfl rfl rfl ?_
  refine mE_g hh 26 (v := .ref 89) rfl rfl rfl ?_
  refine zz_E.n 27 rfl rfl rfl ?_
  refine mE_g hh 30 (v := .int (s.1 48)) rfl rfl rfl ?_
  refine zz_E.n 31 rfl rfl rfl ?_
  refine mE_g hh 34 (v := .ref 91) rfl rfl rfl ?_
  refine zz_E.n 35 rfl rfl rfl ?_
  refine mE_ia hh 36 30 (f := (s.2.2.1 50)) rfl (by decide) rfl rfl i35 rfl ?_
  refine mE_is hh 37 28 (f := (s.2.2.1 47)) rfl (by decide) rfl rfl i36 (mA_89 _ _) rfl ?_
  refine zz_E.n 38 rfl rfl rfl ?_
  refine zz_E.n 39 rfl rfl rfl ?_
  refine mE_g hh 42 (v := .int (s.1 48)) rfl rfl rfl ?_
  refine zz_E.c 43 (.int 1) rfl rfl rfl rfl ?_
  refine zz_E.n 44 rfl rfl rfl ?_
  refine mE_p hh 47 rfl (by decide) rfl (mF_48 _ _) rfl ?_
  refine zz_E.n 50 rfl rfl rfl ?_
  refine zz_E.n 14 rfl rfl rfl ?_
  exact zz_E.weak k rfl ⟨rfl, rfl, rfl, rfl, trivial⟩
theorem mb_306_53 {X : Nat → Option zz_C} {h : zz_H} (hh : 111 ≤ h.length) {s : mS} {d : Nat} {Q : Option Value → zz_H → Prop} {x1 : Int32} {x2 : Int32} (k : zz_E zp_P zt_tf zt_fd X d zm_291 0 [(0, .ref 61), (1, .int 1), (2, .int x2)] [] (mH h (mI s 51 x1)) (fun v h' => zz_E zp_P zt_tf zt_fd X (d + 1) zm_306 64 [] (v.toList ++ []) h' Q)) : zz_E zp_P zt_tf zt_fd X (d + 1) zm_306 53 [(0, .ref 61), (1, .int x1), (2, .int x2)] [] (mH h s) Q := by
  refine zz_E.n 54 rfl rfl rfl ?_
  refine zz_E.n 55 rfl rfl rfl ?_
  refine mE_p hh 58 rfl (by decide) rfl (mF_51 _ _) rfl ?_
  refine zz_E.n 59 rfl rfl rfl ?_
  refine zz_E.c 60 (.int 1) rfl rfl rfl rfl ?_
  refine zz_E.n 61 rfl rfl rfl ?_
  refine mE_cv hh 64 (as := []) rfl rfl (Nat.le_of_ble_eq_true rfl) (Nat.le_of_ble_eq_true rfl) rfl (Nat.le_of_ble_eq_true rfl) rfl ?_
  refine zz_E.mono k ?_
  intro v h' hE
  exact zz_E.weak hE rfl trivial
theorem mb_306_64 {X : Nat → Option zz_C} {h : zz_H} (hh : 111 ≤ h.length) {s : mS} {d : Nat} {Q : Option Value → zz_H → Prop}  (k : Q none (mH h s)) : zz_E zp_P zt_tf zt_fd X d zm_306 64 [] [] (mH h s) Q := by
  refine zz_E.ret rfl rfl rfl ?_
  exact k
def mf_306_64 (N : Nat)  (s : mS) : mO := some (s, none)
theorem mr_306_64 {X : Nat → Option zz_C} {h : zz_H} (hh : 111 ≤ h.length) {d : Nat} {N : Nat} {Q : Option Value → zz_H → Prop}  {s s' : mS} {v : Option Value} (hf : mf_306_64 N  s = some (s', v)) (k : Q v (mH h s')) : zz_E zp_P zt_tf zt_fd X (d + 1) zm_306 64 [] [] (mH h s) Q := by
  unfold mf_306_64 at hf
  cases hf
  exact mb_306_64 hh  k
def mf_306_53 (N : Nat) (x1 : Int32) (x2 : Int32) (s : mS) : mO := mo_bv (mf_291 N 1 x2 (mI s 51 x1)) (fun s1 => mf_306_64 N  s1)
theorem mr_306_53 {X : Nat → Option zz_C} {h : zz_H} (hh : 111 ≤ h.length) {d : Nat} {N : Nat} {Q : Option Value → zz_H → Prop} {x1 : Int32} {x2 : Int32} {s s' : mS} {v : Option Value} (hf : mf_306_53 N x1 x2 s = some (s', v)) (k : Q v (mH h s')) : zz_E zp_P zt_tf zt_fd X (d + 1) zm_306 53 [(0, .ref 61), (1, .int x1), (2, .int x2)] [] (mH h s) Q := by
  unfold mf_306_53 at hf
  obtain ⟨s1, e, hf⟩ := mo_bv_ok hf
  exact mb_306_53 (d := d + 0) hh  (mr_291 (d := d + 0) hh e (mr_306_64 hh hf k))
def mf_306_22 (N : Nat) (rc : Nat → Int32 → Int32 → Int32 → mS → mO) (x1 : Int32) (x2 : Int32) (x3 : Int32) (s : mS) : mO := if ¬ (x3 < 0 ∨ 9000 ≤ Int32.toNatClampNeg x3) then (if ¬ ((s.1 48) < 0 ∨ 166300 ≤ Int32.toNatClampNeg (s.1 48)) then (rc 0 x1 x2 (x3 + 1) (mI (mA s 47 (upd (s.2.2.1 47) (Int32.toNatClampNeg (s.1 48)) ((s.2.2.1 50) (Int32.toNatClampNeg x3)))) 48 ((s.1 48) + 1))) else none) else none
theorem mr_306_22 {X : Nat → Option zz_C} {h : zz_H} (hh : 111 ≤ h.length) {d : Nat} {N : Nat} {rc : Nat → Int32 → Int32 → Int32 → mS → mO} (hrc0 : ∀ {Q : Option Value → zz_H → Prop} {x1 : Int32} {x2 : Int32} {x3 : Int32} {s s' : mS} {v : Option Value}, rc 0 x1 x2 x3 s = some (s', v) → Q v (mH h s') → zz_E zp_P zt_tf zt_fd X (d + 1) zm_306 14 [(0, .ref 61), (1, .int x1), (2, .int x2), (3, .int x3)] [] (mH h s) Q) {Q : Option Value → zz_H → Prop} {x1 : Int32} {x2 : Int32} {x3 : Int32} {s s' : mS} {v : Option Value} (hf : mf_306_22 N rc x1 x2 x3 s = some (s', v)) (k : Q v (mH h s')) : zz_E zp_P zt_tf zt_fd X (d + 1) zm_306 22 [(0, .ref 61), (1, .int x1), (2, .int x2), (3, .int x3)] [] (mH h s) Q := by
  unfold mf_306_22 at hf
  obtain ⟨q0, hf⟩ := mo_if hf
  obtain ⟨q1, hf⟩ := mo_if hf
  exact mb_306_22 hh q0 q1 (hrc0 hf k)
def mf_306_14 (N : Nat) (rc : Nat → Int32 → Int32 → Int32 → mS → mO) (x1 : Int32) (x2 : Int32) (x3 : Int32) (s : mS) : mO := if (s.1 51) ≤ x3 then mf_306_53 N x1 x2 s else mf_306_22 N rc x1 x2 x3 s
theorem mr_306_14 {X : Nat → Option zz_C} {h : zz_H} (hh : 111 ≤ h.length) {d : Nat} {N : Nat} {rc : Nat → Int32 → Int32 → Int32 → mS → mO} (hrc0 : ∀ {Q : Option Value → zz_H → Prop} {x1 : Int32} {x2 : Int32} {x3 : Int32} {s s' : mS} {v : Option Value}, rc 0 x1 x2 x3 s = some (s', v) → Q v (mH h s') → zz_E zp_P zt_tf zt_fd X (d + 1) zm_306 14 [(0, .ref 61), (1, .int x1), (2, .int x2), (3, .int x3)] [] (mH h s) Q) {Q : Option Value → zz_H → Prop} {x1 : Int32} {x2 : Int32} {x3 : Int32} {s s' : mS} {v : Option Value} (hf : mf_306_14 N rc x1 x2 x3 s = some (s', v)) (k : Q v (mH h s')) : zz_E zp_P zt_tf zt_fd X (d + 1) zm_306 14 [(0, .ref 61), (1, .int x1), (2, .int x2), (3, .int x3)] [] (mH h s) Q := by
  unfold mf_306_14 at hf
  refine mb_306_14 hh  (fun c => ?_) (fun c => ?_)
  · rw [if_pos c] at hf
    exact mr_306_53 hh hf k
  · rw [if_neg c] at hf
    exact mr_306_22 hh hrc0 hf k
def mf_306_L2 (N : Nat) : Nat → Nat → Int32 → Int32 → Int32 → mS → mO
  | 0, _, _, _, _, _ => none
  | n + 1, l, x1, x2, x3, s => if l = 0 then mf_306_14 N (mf_306_L2 N n) x1 x2 x3 s else none
theorem mr_306_L2 {X : Nat → Option zz_C} {h : zz_H} (hh : 111 ≤ h.length) {d : Nat} {N : Nat} : ∀ n : Nat, (∀ {Q : Option Value → zz_H → Prop} {x1 : Int32} {x2 : Int32} {x3 : Int32} {s s' : mS} {v : Option Value}, mf_306_L2 N n 0 x1 x2 x3 s = some (s', v) → Q v (mH h s') → zz_E zp_P zt_tf zt_fd X (d + 1) zm_306 14 [(0, .ref 61), (1, .int x1), (2, .int x2), (3, .int x3)] [] (mH h s) Q) := by
  intro n
  induction n with
  | zero => exact (fun hf _ => by cases hf)
  | succ n ih =>
    have h0 := @ih
    intro Q _ _ _ s s' v hf k
    unfold mf_306_L2 at hf
    rw [if_pos rfl] at hf
    exact mr_306_14 hh h0 hf k
def mf_306_11 (N : Nat) (x1 : Int32) (y0 : Int32) (s : mS) : mO := mf_306_L2 N N 0 x1 y0 x1 s
theorem mr_306_11 {X : Nat → Option zz_C} {h : zz_H} (hh : 111 ≤ h.length) {d : Nat} {N : Nat} {Q : Option Value → zz_H → Prop} {x1 : Int32} {y0 : Int32} {s s' : mS} {v : Option Value} (hf : mf_306_11 N x1 y0 s = some (s', v)) (k : Q v (mH h s')) : zz_E zp_P zt_tf zt_fd X (d + 1) zm_306 11 [(0, .ref 61), (1, .int x1)] [.int y0] (mH h s) Q := by
  unfold mf_306_11 at hf
  exact mb_306_11 hh  (mr_306_L2 hh N hf k)
def mf_306_0 (N : Nat) (x1 : Int32) (s : mS) : mO := mo_bi (mf_304 N 1 ((s.1 51) - x1) s) (fun s1 y => mf_306_11 N x1 y s1)
theorem mr_306_0 {X : Nat → Option zz_C} {h : zz_H} (hh : 111 ≤ h.length) {d : Nat} {N : Nat} {Q : Option Value → zz_H → Prop} {x1 : Int32} {s s' : mS} {v : Option Value} (hf : mf_306_0 N x1 s = some (s', v)) (k : Q v (mH h s')) : zz_E zp_P zt_tf zt_fd X (d + 1) zm_306 0 [(0, .ref 61), (1, .int x1)] [] (mH h s) Q := by
  unfold mf_306_0 at hf
  obtain ⟨s1, y, e, hf⟩ := mo_bi_ok hf
  exact mb_306_0 (d := d + 0) hh  (mr_304 (d := d + 0) hh e (mr_306_11 hh hf k))
/-- rowOf -/
def mf_306 (N : Nat) (x1 : Int32) (s : mS) : mO := mf_306_0 N x1 s
theorem mr_306 {X : Nat → Option zz_C} {h : zz_H} (hh : 111 ≤ h.length) {d : Nat} {N : Nat} {Q : Option Value → zz_H → Prop} {x1 : Int32} {s s' : mS} {v : Option Value} (hf : mf_306 N x1 s = some (s', v)) (k : Q v (mH h s')) : zz_E zp_P zt_tf zt_fd X (d + 1) zm_306 0 [(0, .ref 61), (1, .int x1)] [] (mH h s) Q := by
  unfold mf_306 at hf
  exact zz_E.weak (mr_306_0 hh hf k) rfl ⟨rfl, rfl, trivial⟩
/-! act (III)I -/
theorem mb_319_0 {X : Nat → Option zz_C} {h : zz_H} (hh : 111 ≤ h.length) {s : mS} {d : Nat} {Q : Option Value → zz_H → Prop} {x0 : Int32} {x1 : Int32} {x2 : Int32} (c37 : x0 = 37 → zz_E zp_P zt_tf zt_fd X d zm_319 124 [(1, .int x1), (2, .int x2)] [] (mH h s) Q) (c38 : x0 = 38 → zz_E zp_P zt_tf zt_fd X d zm_319 128 [(1, .int x1), (2, .int x2)] [] (mH h s) Q) (c42 : x0 = 42 → zz_E zp_P zt_tf zt_fd X d zm_319 116 [(1, .int x1), (2, .int x2)] [] (mH h s) Q) (c43 : x0 = 43 → zz_E zp_P zt_tf zt_fd X d zm_319 108 [(1, .int x1), (2, .int x2)] [] (mH h s) Q) (c45 : x0 = 45 → zz_E zp_P zt_tf zt_fd X d zm_319 112 [(1, .int x1), (2, .int x2)] [] (mH h s) Q) (c47 : x0 = 47 → zz_E zp_P zt_tf zt_fd X d zm_319 120 [(1, .int x1), (2, .int x2)] [] (mH h s) Q) (c60 : x0 = 60 → zz_E zp_P zt_tf zt_fd X d zm_319 158 [(1, .int x1), (2, .int x2)] [] (mH h s) Q) (c62 : x0 = 62 → zz_E zp_P zt_tf zt_fd X d zm_319 180 [(1, .int x1), (2, .int x2)] [] (mH h s) Q) (c124 : x0 = 124 → zz_E zp_P zt_tf zt_fd X d zm_319 132 [(1, .int x1), (2, .int x2)] [] (mH h s) Q) (c256 : x0 = 256 → zz_E zp_P zt_tf zt_fd X d zm_319 136 [(1, .int x1), (2, .int x2)] [] (mH h s) Q) (c257 : x0 = 257 → zz_E zp_P zt_tf zt_fd X d zm_319 147 [(1, .int x1), (2, .int x2)] [] (mH h s) Q) (c258 : x0 = 258 → zz_E zp_P zt_tf zt_fd X d zm_319 169 [(1, .int x1), (2, .int x2)] [] (mH h s) Q) (kd : (¬ x0 = 37 ∧ ¬ x0 = 38 ∧ ¬ x0 = 42 ∧ ¬ x0 = 43 ∧ ¬ x0 = 45 ∧ ¬ x0 = 47 ∧ ¬ x0 = 60 ∧ ¬ x0 = 62 ∧ ¬ x0 = 124 ∧ ¬ x0 = 256 ∧ ¬ x0 = 257 ∧ ¬ x0 = 258) → zz_E zp_P zt_tf zt_fd X d zm_319 191 [(1, .int x1), (2, .int x2)] [] (mH h s) Q) : zz_E zp_P zt_tf zt_fd X d zm_319 0 [(0, .int x0), (1, .int x1), (2, .int x2)] [] (mH h s) Q := by
  refine zz_E.n 1 rfl rfl rfl ?_
  by_cases e37 : x0 = 37
  · exact zz_E.lk 124 123 rfl (by rw [e37]; rfl) (by decide) (by decide) rfl (zz_E.weak (c37 e37) rfl ⟨rfl, rfl, trivial⟩)
  by_cases e38 : x0 = 38
  · exact zz_E.lk 128 127 rfl (by rw [e38]; rfl) (by decide) (by decide) rfl (zz_E.weak (c38 e38) rfl ⟨rfl, rfl, trivial⟩)
  by_cases e42 : x0 = 42
  · exact zz_E.lk 116 115 rfl (by rw [e42]; rfl) (by decide) (by decide) rfl (zz_E.weak (c42 e42) rfl ⟨rfl, rfl, trivial⟩)
  by_cases e43 : x0 = 43
  · exact zz_E.lk 108 107 rfl (by rw [e43]; rfl) (by decide) (by decide) rfl (zz_E.weak (c43 e43) rfl ⟨rfl, rfl, trivial⟩)
  by_cases e45 : x0 = 45
  · exact zz_E.lk 112 111 rfl (by rw [e45]; rfl) (by decide) (by decide) rfl (zz_E.weak (c45 e45) rfl ⟨rfl, rfl, trivial⟩)
  by_cases e47 : x0 = 47
  · exact zz_E.lk 120 119 rfl (by rw [e47]; rfl) (by decide) (by decide) rfl (zz_E.weak (c47 e47) rfl ⟨rfl, rfl, trivial⟩)
  by_cases e60 : x0 = 60
  · exact zz_E.lk 158 157 rfl (by rw [e60]; rfl) (by decide) (by decide) rfl (zz_E.weak (c60 e60) rfl ⟨rfl, rfl, trivial⟩)
  by_cases e62 : x0 = 62
  · exact zz_E.lk 180 179 rfl (by rw [e62]; rfl) (by decide) (by decide) rfl (zz_E.weak (c62 e62) rfl ⟨rfl, rfl, trivial⟩)
  by_cases e124 : x0 = 124
  · exact zz_E.lk 132 131 rfl (by rw [e124]; rfl) (by decide) (by decide) rfl (zz_E.weak (c124 e124) rfl ⟨rfl, rfl, trivial⟩)
  by_cases e256 : x0 = 256
  · exact zz_E.lk 136 135 rfl (by rw [e256]; rfl) (by decide) (by decide) rfl (zz_E.weak (c256 e256) rfl ⟨rfl, rfl, trivial⟩)
  by_cases e257 : x0 = 257
  · exact zz_E.lk 147 146 rfl (by rw [e257]; rfl) (by decide) (by decide) rfl (zz_E.weak (c257 e257) rfl ⟨rfl, rfl, trivial⟩)
  by_cases e258 : x0 = 258
  · exact zz_E.lk 169 168 rfl (by rw [e258]; rfl) (by decide) (by decide) rfl (zz_E.weak (c258 e258) rfl ⟨rfl, rfl, trivial⟩)
  refine zz_E.lk 191 190 rfl ?_ (by decide) (by decide) rfl (zz_E.weak (kd ⟨e37, e38, e42, e43, e45, e47, e60, e62, e124, e256, e257, e258⟩) rfl ⟨rfl, rfl, trivial⟩)
  refine (if_neg (fun q => e37 (Int32.toInt_inj.mp (q.symm.trans rfl)))).trans ?_
  refine (if_neg (fun q => e38 (Int32.toInt_inj.mp (q.symm.trans rfl)))).trans ?_
  refine (if_neg (fun q => e42 (Int32.toInt_inj.mp (q.symm.trans rfl)))).trans ?_
  refine (if_neg (fun q => e43 (Int32.toInt_inj.mp (q.symm.trans rfl)))).trans ?_
  refine (if_neg (fun q => e45 (Int32.toInt_inj.mp (q.symm.trans rfl)))).trans ?_
  refine (if_neg (fun q => e47 (Int32.toInt_inj.mp (q.symm.trans rfl)))).trans ?_
  refine (if_neg (fun q => e60 (Int32.toInt_inj.mp (q.symm.trans rfl)))).trans ?_
  refine (if_neg (fun q => e62 (Int32.toInt_inj.mp (q.symm.trans rfl)))).trans ?_
  refine (if_neg (fun q => e124 (Int32.toInt_inj.mp (q.symm.trans rfl)))).trans ?_
  refine (if_neg (fun q => e256 (Int32.toInt_inj.mp (q.symm.trans rfl)))).trans ?_
  refine (if_neg (fun q => e257 (Int32.toInt_inj.mp (q.symm.trans rfl)))).trans ?_
  refine (if_neg (fun q => e258 (Int32.toInt_inj.mp (q.symm.trans rfl)))).trans ?_
  rfl
theorem mb_319_108 {X : Nat → Option zz_C} {h : zz_H} (hh : 111 ≤ h.length) {s : mS} {d : Nat} {Q : Option Value → zz_H → Prop} {x1 : Int32} {x2 : Int32} (k : Q (some (.int (x1 + x2))) (mH h s)) : zz_E zp_P zt_tf zt_fd X d zm_319 108 [(1, .int x1), (2, .int x2)] [] (mH h s) Q := by
  refine zz_E.n 109 rfl rfl rfl ?_
  refine zz_E.n 110 rfl rfl rfl ?_
  refine zz_E.n 111 rfl rfl rfl ?_
  refine zz_E.ret rfl rfl rfl ?_
  exact k
theorem mb_319_112 {X : Nat → Option zz_C} {h : zz_H} (hh : 111 ≤ h.length) {s : mS} {d : Nat} {Q : Option Value → zz_H → Prop} {x1 : Int32} {x2 : Int32} (k : Q (some (.int (x1 - x2))) (mH h s)) : zz_E zp_P zt_tf zt_fd X d zm_319 112 [(1, .int x1), (2, .int x2)] [] (mH h s) Q := by
  refine zz_E.n 113 rfl rfl rfl ?_
  refine zz_E.n 114 rfl rfl rfl ?_
  refine zz_E.n 115 rfl rfl rfl ?_
  refine zz_E.ret rfl rfl rfl ?_
  exact k
theorem mb_319_116 {X : Nat → Option zz_C} {h : zz_H} (hh : 111 ≤ h.length) {s : mS} {d : Nat} {Q : Option Value → zz_H → Prop} {x1 : Int32} {x2 : Int32} (k : Q (some (.int (x1 * x2))) (mH h s)) : zz_E zp_P zt_tf zt_fd X d zm_319 116 [(1, .int x1), (2, .int x2)] [] (mH h s) Q := by
  refine zz_E.n 117 rfl rfl rfl ?_
  refine zz_E.n 118 rfl rfl rfl ?_
  refine zz_E.n 119 rfl rfl rfl ?_
  refine zz_E.ret rfl rfl rfl ?_
  exact k
theorem mb_319_120 {X : Nat → Option zz_C} {h : zz_H} (hh : 111 ≤ h.length) {s : mS} {d : Nat} {Q : Option Value → zz_H → Prop} {x1 : Int32} {x2 : Int32} (z122 : ¬ (x2 : Int32) = 0) (k : Q (some (.int (x1 / x2))) (mH h s)) : zz_E zp_P zt_tf zt_fd X d zm_319 120 [(1, .int x1), (2, .int x2)] [] (mH h s) Q := by
  refine zz_E.n 121 rfl rfl rfl ?_
  refine zz_E.n 122 rfl rfl rfl ?_
  refine zz_E.idv 123 rfl z122 rfl ?_
  refine zz_E.ret rfl rfl rfl ?_
  exact k
theorem mb_319_124 {X : Nat → Option zz_C} {h : zz_H} (hh : 111 ≤ h.length) {s : mS} {d : Nat} {Q : Option Value → zz_H → Prop} {x1 : Int32} {x2 : Int32} (z126 : ¬ (x2 : Int32) = 0) (k : Q (some (.int (x1 - x1 / x2 * x2))) (mH h s)) : zz_E zp_P zt_tf zt_fd X d zm_319 124 [(1, .int x1), (2, .int x2)] [] (mH h s) Q := by
  refine zz_E.n 125 rfl rfl rfl ?_
  refine zz_E.n 126 rfl rfl rfl ?_
  refine zz_E.idr 127 rfl z126 rfl ?_
  refine zz_E.ret rfl rfl rfl ?_
  exact k
theorem mb_319_128 {X : Nat → Option zz_C} {h : zz_H} (hh : 111 ≤ h.length) {s : mS} {d : Nat} {Q : Option Value → zz_H → Prop} {x1 : Int32} {x2 : Int32} (k : Q (some (.int (x1 &&& x2))) (mH h s)) : zz_E zp_P zt_tf zt_fd X d zm_319 128 [(1, .int x1), (2, .int x2)] [] (mH h s) Q := by
  refine zz_E.n 129 rfl rfl rfl ?_
  refine zz_E.n 130 rfl rfl rfl ?_
  refine zz_E.n 131 rfl rfl rfl ?_
  refine zz_E.ret rfl rfl rfl ?_
  exact k
theorem mb_319_132 {X : Nat → Option zz_C} {h : zz_H} (hh : 111 ≤ h.length) {s : mS} {d : Nat} {Q : Option Value → zz_H → Prop} {x1 : Int32} {x2 : Int32} (k : Q (some (.int (x1 ||| x2))) (mH h s)) : zz_E zp_P zt_tf zt_fd X d zm_319 132 [(1, .int x1), (2, .int x2)] [] (mH h s) Q := by
  refine zz_E.n 133 rfl rfl rfl ?_
  refine zz_E.n 134 rfl rfl rfl ?_
  refine zz_E.n 135 rfl rfl rfl ?_
  refine zz_E.ret rfl rfl rfl ?_
  exact k
theorem mb_319_136 {X : Nat → Option zz_C} {h : zz_H} (hh : 111 ≤ h.length) {s : mS} {d : Nat} {Q : Option Value → zz_H → Prop} {x1 : Int32} {x2 : Int32} (k1 : ¬ x1 = x2 → zz_E zp_P zt_tf zt_fd X d zm_319 145 [] [] (mH h s) Q) (k2 : ¬ ¬ x1 = x2 → zz_E zp_P zt_tf zt_fd X d zm_319 141 [] [] (mH h s) Q) : zz_E zp_P zt_tf zt_fd X d zm_319 136 [(1, .int x1), (2, .int x2)] [] (mH h s) Q := by
  refine zz_E.n 137 rfl rfl rfl ?_
  refine zz_E.n 138 rfl rfl rfl ?_
  refine zz_E.b2 145 141 (A := ¬ x1 = x2) rfl (zz_cond_ne _ _) (by decide) rfl rfl (fun c => ?_) (fun c => ?_)
  · exact zz_E.weak (k1 c) rfl trivial
  · exact zz_E.weak (k2 c) rfl trivial
theorem mb_319_141 {X : Nat → Option zz_C} {h : zz_H} (hh : 111 ≤ h.length) {s : mS} {d : Nat} {Q : Option Value → zz_H → Prop}  (k : zz_E zp_P zt_tf zt_fd X d zm_319 146 [] [.int 1] (mH h s) Q) : zz_E zp_P zt_tf zt_fd X d zm_319 141 [] [] (mH h s) Q := by
  refine zz_E.c 142 (.int 1) rfl rfl rfl rfl ?_
  refine zz_E.n 146 rfl rfl rfl ?_
  exact zz_E.weak k rfl trivial
theorem mb_319_145 {X : Nat → Option zz_C} {h : zz_H} (hh : 111 ≤ h.length) {s : mS} {d : Nat} {Q : Option Value → zz_H → Prop}  (k : zz_E zp_P zt_tf zt_fd X d zm_319 146 [] [.int 0] (mH h s) Q) : zz_E zp_P zt_tf zt_fd X d zm_319 145 [] [] (mH h s) Q := by
  refine zz_E.c 146 (.int 0) rfl rfl rfl rfl ?_
  exact zz_E.weak k rfl trivial
theorem mb_319_146 {X : Nat → Option zz_C} {h : zz_H} (hh : 111 ≤ h.length) {s : mS} {d : Nat} {Q : Option Value → zz_H → Prop} {y0 : Int32} (k : Q (some (.int y0)) (mH h s)) : zz_E zp_P zt_tf zt_fd X d zm_319 146 [] [.int y0] (mH h s) Q := by
  refine zz_E.ret rfl rfl rfl ?_
  exact k
theorem mb_319_147 {X : Nat → Option zz_C} {h : zz_H} (hh : 111 ≤ h.length) {s : mS} {d : Nat} {Q : Option Value → zz_H → Prop} {x1 : Int32} {x2 : Int32} (k1 : x1 = x2 → zz_E zp_P zt_tf zt_fd X d zm_319 156 [] [] (mH h s) Q) (k2 : ¬ x1 = x2 → zz_E zp_P zt_tf zt_fd X d zm_319 152 [] [] (mH h s) Q) : zz_E zp_P zt_tf zt_fd X d zm_319 147 [(1, .int x1), (2, .int x2)] [] (mH h s) Q := by
  refine zz_E.n 148 rfl rfl rfl ?_
  refine zz_E.n 149 rfl rfl rfl ?_
  refine zz_E.b2 156 152 (A := x1 = x2) rfl rfl (by decide) rfl rfl (fun c => ?_) (fun c => ?_)
  · exact zz_E.weak (k1 c) rfl trivial
  · exact zz_E.weak (k2 c) rfl trivial
theorem mb_319_152 {X : Nat → Option zz_C} {h : zz_H} (hh : 111 ≤ h.length) {s : mS} {d : Nat} {Q : Option Value → zz_H → Prop}  (k : zz_E zp_P zt_tf zt_fd X d zm_319 157 [] [.int 1] (mH h s) Q) : zz_E zp_P zt_tf zt_fd X d zm_319 152 [] [] (mH h s) Q := by
  refine zz_E.c 153 (.int 1) rfl rfl rfl rfl ?_
  refine zz_E.n 157 rfl rfl rfl ?_
  exact zz_E.weak k rfl trivial
theorem mb_319_156 {X : Nat → Option zz_C} {h : zz_H} (hh : 111 ≤ h.length) {s : mS} {d : Nat} {Q : Option Value → zz_H → Prop}  (k : zz_E zp_P zt_tf zt_fd X d zm_319 157 [] [.int 0] (mH h s) Q) : zz_E zp_P zt_tf zt_fd X d zm_319 156 [] [] (mH h s) Q := by
  refine zz_E.c 157 (.int 0) rfl rfl rfl rfl ?_
  exact zz_E.weak k rfl trivial
theorem mb_319_157 {X : Nat → Option zz_C} {h : zz_H} (hh : 111 ≤ h.length) {s : mS} {d : Nat} {Q : Option Value → zz_H → Prop} {y0 : Int32} (k : Q (some (.int y0)) (mH h s)) : zz_E zp_P zt_tf zt_fd X d zm_319 157 [] [.int y0] (mH h s) Q := by
  refine zz_E.ret rfl rfl rfl ?_
  exact k
theorem mb_319_158 {X : Nat → Option zz_C} {h : zz_H} (hh : 111 ≤ h.length) {s : mS} {d : Nat} {Q : Option Value → zz_H → Prop} {x1 : Int32} {x2 : Int32} (k1 : x2 ≤ x1 → zz_E zp_P zt_tf zt_fd X d zm_319 167 [] [] (mH h s) Q) (k2 : ¬ x2 ≤ x1 → zz_E zp_P zt_tf zt_fd X d zm_319 163 [] [] (mH h s) Q) : zz_E zp_P zt_tf zt_fd X d zm_319 158 [(1, .int x1), (2, .int x2)] [] (mH h s) Q := by
  refine zz_E.n 159 rfl rfl rfl ?_
  refine zz_E.n 160 rfl rfl rfl ?_
  refine zz_E.b2 167 163 (A := x2 ≤ x1) rfl rfl (by decide) rfl rfl (fun c => ?_) (fun c => ?_)
  · exact zz_E.weak (k1 c) rfl trivial
  · exact zz_E.weak (k2 c) rfl trivial
theorem mb_319_163 {X : Nat → Option zz_C} {h : zz_H} (hh : 111 ≤ h.length) {s : mS} {d : Nat} {Q : Option Value → zz_H → Prop}  (k : zz_E zp_P zt_tf zt_fd X d zm_319 168 [] [.int 1] (mH h s) Q) : zz_E zp_P zt_tf zt_fd X d zm_319 163 [] [] (mH h s) Q := by
  refine zz_E.c 164 (.int 1) rfl rfl rfl rfl ?_
  refine zz_E.n 168 rfl rfl rfl ?_
  exact zz_E.weak k rfl trivial
theorem mb_319_167 {X : Nat → Option zz_C} {h : zz_H} (hh : 111 ≤ h.length) {s : mS} {d : Nat} {Q : Option Value → zz_H → Prop}  (k : zz_E zp_P zt_tf zt_fd X d zm_319 168 [] [.int 0] (mH h s) Q) : zz_E zp_P zt_tf zt_fd X d zm_319 167 [] [] (mH h s) Q := by
  refine zz_E.c 168 (.int 0) rfl rfl rfl rfl ?_
  exact zz_E.weak k rfl trivial
theorem mb_319_168 {X : Nat → Option zz_C} {h : zz_H} (hh : 111 ≤ h.length) {s : mS} {d : Nat} {Q : Option Value → zz_H → Prop} {y0 : Int32} (k : Q (some (.int y0)) (mH h s)) : zz_E zp_P zt_tf zt_fd X d zm_319 168 [] [.int y0] (mH h s) Q := by
  refine zz_E.ret rfl rfl rfl ?_
  exact k
theorem mb_319_169 {X : Nat → Option zz_C} {h : zz_H} (hh : 111 ≤ h.length) {s : mS} {d : Nat} {Q : Option Value → zz_H → Prop} {x1 : Int32} {x2 : Int32} (k1 : x2 < x1 → zz_E zp_P zt_tf zt_fd X d zm_319 178 [] [] (mH h s) Q) (k2 : ¬ x2 < x1 → zz_E zp_P zt_tf zt_fd X d zm_319 174 [] [] (mH h s) Q) : zz_E zp_P zt_tf zt_fd X d zm_319 169 [(1, .int x1), (2, .int x2)] [] (mH h s) Q := by
  refine zz_E.n 170 rfl rfl rfl ?_
  refine zz_E.n 171 rfl rfl rfl ?_
  refine zz_E.b2 178 174 (A := x2 < x1) rfl rfl (by decide) rfl rfl (fun c => ?_) (fun c => ?_)
  · exact zz_E.weak (k1 c) rfl trivial
  · exact zz_E.weak (k2 c) rfl trivial
theorem mb_319_174 {X : Nat → Option zz_C} {h : zz_H} (hh : 111 ≤ h.length) {s : mS} {d : Nat} {Q : Option Value → zz_H → Prop}  (k : zz_E zp_P zt_tf zt_fd X d zm_319 179 [] [.int 1] (mH h s) Q) : zz_E zp_P zt_tf zt_fd X d zm_319 174 [] [] (mH h s) Q := by
  refine zz_E.c 175 (.int 1) rfl rfl rfl rfl ?_
  refine zz_E.n 179 rfl rfl rfl ?_
  exact zz_E.weak k rfl trivial
theorem mb_319_178 {X : Nat → Option zz_C} {h : zz_H} (hh : 111 ≤ h.length) {s : mS} {d : Nat} {Q : Option Value → zz_H → Prop}  (k : zz_E zp_P zt_tf zt_fd X d zm_319 179 [] [.int 0] (mH h s) Q) : zz_E zp_P zt_tf zt_fd X d zm_319 178 [] [] (mH h s) Q := by
  refine zz_E.c 179 (.int 0) rfl rfl rfl rfl ?_
  exact zz_E.weak k rfl trivial
theorem mb_319_179 {X : Nat → Option zz_C} {h : zz_H} (hh : 111 ≤ h.length) {s : mS} {d : Nat} {Q : Option Value → zz_H → Prop} {y0 : Int32} (k : Q (some (.int y0)) (mH h s)) : zz_E zp_P zt_tf zt_fd X d zm_319 179 [] [.int y0] (mH h s) Q := by
  refine zz_E.ret rfl rfl rfl ?_
  exact k
theorem mb_319_180 {X : Nat → Option zz_C} {h : zz_H} (hh : 111 ≤ h.length) {s : mS} {d : Nat} {Q : Option Value → zz_H → Prop} {x1 : Int32} {x2 : Int32} (k1 : x1 ≤ x2 → zz_E zp_P zt_tf zt_fd X d zm_319 189 [] [] (mH h s) Q) (k2 : ¬ x1 ≤ x2 → zz_E zp_P zt_tf zt_fd X d zm_319 185 [] [] (mH h s) Q) : zz_E zp_P zt_tf zt_fd X d zm_319 180 [(1, .int x1), (2, .int x2)] [] (mH h s) Q := by
  refine zz_E.n 181 rfl rfl rfl ?_
  refine zz_E.n 182 rfl rfl rfl ?_
  refine zz_E.b2 189 185 (A := x1 ≤ x2) rfl rfl (by decide) rfl rfl (fun c => ?_) (fun c => ?_)
  · exact zz_E.weak (k1 c) rfl trivial
  · exact zz_E.weak (k2 c) rfl trivial
theorem mb_319_185 {X : Nat → Option zz_C} {h : zz_H} (hh : 111 ≤ h.length) {s : mS} {d : Nat} {Q : Option Value → zz_H → Prop}  (k : zz_E zp_P zt_tf zt_fd X d zm_319 190 [] [.int 1] (mH h s) Q) : zz_E zp_P zt_tf zt_fd X d zm_319 185 [] [] (mH h s) Q := by
  refine zz_E.c 186 (.int 1) rfl rfl rfl rfl ?_
  refine zz_E.n 190 rfl rfl rfl ?_
  exact zz_E.weak k rfl trivial
theorem mb_319_189 {X : Nat → Option zz_C} {h : zz_H} (hh : 111 ≤ h.length) {s : mS} {d : Nat} {Q : Option Value → zz_H → Prop}  (k : zz_E zp_P zt_tf zt_fd X d zm_319 190 [] [.int 0] (mH h s) Q) : zz_E zp_P zt_tf zt_fd X d zm_319 189 [] [] (mH h s) Q := by
  refine zz_E.c 190 (.int 0) rfl rfl rfl rfl ?_
  exact zz_E.weak k rfl trivial
theorem mb_319_190 {X : Nat → Option zz_C} {h : zz_H} (hh : 111 ≤ h.length) {s : mS} {d : Nat} {Q : Option Value → zz_H → Prop} {y0 : Int32} (k : Q (some (.int y0)) (mH h s)) : zz_E zp_P zt_tf zt_fd X d zm_319 190 [] [.int y0] (mH h s) Q := by
  refine zz_E.ret rfl rfl rfl ?_
  exact k
theorem mb_319_191 {X : Nat → Option zz_C} {h : zz_H} (hh : 111 ≤ h.length) {s : mS} {d : Nat} {Q : Option Value → zz_H → Prop} {x1 : Int32} {x2 : Int32} (k1 : x1 < x2 → zz_E zp_P zt_tf zt_fd X d zm_319 200 [] [] (mH h s) Q) (k2 : ¬ x1 < x2 → zz_E zp_P zt_tf zt_fd X d zm_319 196 [] [] (mH h s) Q) : zz_E zp_P zt_tf zt_fd X d zm_319 191 [(1, .int x1), (2, .int x2)] [] (mH h s) Q := by
  refine zz_E.n 192 rfl rfl rfl ?_
  refine zz_E.n 193 rfl rfl rfl ?_
  refine zz_E.b2 200 196 (A := x1 < x2) rfl rfl (by decide) rfl rfl (fun c => ?_) (fun c => ?_)
  · exact zz_E.weak (k1 c) rfl trivial
  · exact zz_E.weak (k2 c) rfl trivial
theorem mb_319_196 {X : Nat → Option zz_C} {h : zz_H} (hh : 111 ≤ h.length) {s : mS} {d : Nat} {Q : Option Value → zz_H → Prop}  (k : zz_E zp_P zt_tf zt_fd X d zm_319 201 [] [.int 1] (mH h s) Q) : zz_E zp_P zt_tf zt_fd X d zm_319 196 [] [] (mH h s) Q := by
  refine zz_E.c 197 (.int 1) rfl rfl rfl rfl ?_
  refine zz_E.n 201 rfl rfl rfl ?_
  exact zz_E.weak k rfl trivial
theorem mb_319_200 {X : Nat → Option zz_C} {h : zz_H} (hh : 111 ≤ h.length) {s : mS} {d : Nat} {Q : Option Value → zz_H → Prop}  (k : zz_E zp_P zt_tf zt_fd X d zm_319 201 [] [.int 0] (mH h s) Q) : zz_E zp_P zt_tf zt_fd X d zm_319 200 [] [] (mH h s) Q := by
  refine zz_E.c 201 (.int 0) rfl rfl rfl rfl ?_
  exact zz_E.weak k rfl trivial
theorem mb_319_201 {X : Nat → Option zz_C} {h : zz_H} (hh : 111 ≤ h.length) {s : mS} {d : Nat} {Q : Option Value → zz_H → Prop} {y0 : Int32} (k : Q (some (.int y0)) (mH h s)) : zz_E zp_P zt_tf zt_fd X d zm_319 201 [] [.int y0] (mH h s) Q := by
  refine zz_E.ret rfl rfl rfl ?_
  exact k
def mf_319_124 (N : Nat) (x1 : Int32) (x2 : Int32) (s : mS) : mO := if ¬ (x2 : Int32) = 0 then (some (s, (some (.int (x1 - x1 / x2 * x2))))) else none
theorem mr_319_124 {X : Nat → Option zz_C} {h : zz_H} (hh : 111 ≤ h.length) {d : Nat} {N : Nat} {Q : Option Value → zz_H → Prop} {x1 : Int32} {x2 : Int32} {s s' : mS} {v : Option Value} (hf : mf_319_124 N x1 x2 s = some (s', v)) (k : Q v (mH h s')) : zz_E zp_P zt_tf zt_fd X (d + 0) zm_319 124 [(1, .int x1), (2, .int x2)] [] (mH h s) Q := by
  unfold mf_319_124 at hf
  obtain ⟨q0, hf⟩ := mo_if hf
  cases hf
  exact mb_319_124 hh q0 k
def mf_319_128 (N : Nat) (x1 : Int32) (x2 : Int32) (s : mS) : mO := some (s, (some (.int (x1 &&& x2))))
theorem mr_319_128 {X : Nat → Option zz_C} {h : zz_H} (hh : 111 ≤ h.length) {d : Nat} {N : Nat} {Q : Option Value → zz_H → Prop} {x1 : Int32} {x2 : Int32} {s s' : mS} {v : Option Value} (hf : mf_319_128 N x1 x2 s = some (s', v)) (k : Q v (mH h s')) : zz_E zp_P zt_tf zt_fd X (d + 0) zm_319 128 [(1, .int x1), (2, .int x2)] [] (mH h s) Q := by
  unfold mf_319_128 at hf
  cases hf
  exact mb_319_128 hh  k
def mf_319_116 (N : Nat) (x1 : Int32) (x2 : Int32) (s : mS) : mO := some (s, (some (.int (x1 * x2))))
theorem mr_319_116 {X : Nat → Option zz_C} {h : zz_H} (hh : 111 ≤ h.length) {d : Nat} {N : Nat} {Q : Option Value → zz_H → Prop} {x1 : Int32} {x2 : Int32} {s s' : mS} {v : Option Value} (hf : mf_319_116 N x1 x2 s = some (s', v)) (k : Q v (mH h s')) : zz_E zp_P zt_tf zt_fd X (d + 0) zm_319 116 [(1, .int x1), (2, .int x2)] [] (mH h s) Q := by
  unfold mf_319_116 at hf
  cases hf
  exact mb_319_116 hh  k
def mf_319_108 (N : Nat) (x1 : Int32) (x2 : Int32) (s : mS) : mO := some (s, (some (.int (x1 + x2))))
theorem mr_319_108 {X : Nat → Option zz_C} {h : zz_H} (hh : 111 ≤ h.length) {d : Nat} {N : Nat} {Q : Option Value → zz_H → Prop} {x1 : Int32} {x2 : Int32} {s s' : mS} {v : Option Value} (hf : mf_319_108 N x1 x2 s = some (s', v)) (k : Q v (mH h s')) : zz_E zp_P zt_tf zt_fd X (d + 0) zm_319 108 [(1, .int x1), (2, .int x2)] [] (mH h s) Q := by
  unfold mf_319_108 at hf
  cases hf
  exact mb_319_108 hh  k
def mf_319_112 (N : Nat) (x1 : Int32) (x2 : Int32) (s : mS) : mO := some (s, (some (.int (x1 - x2))))
theorem mr_319_112 {X : Nat → Option zz_C} {h : zz_H} (hh : 111 ≤ h.length) {d : Nat} {N : Nat} {Q : Option Value → zz_H → Prop} {x1 : Int32} {x2 : Int32} {s s' : mS} {v : Option Value} (hf : mf_319_112 N x1 x2 s = some (s', v)) (k : Q v (mH h s')) : zz_E zp_P zt_tf zt_fd X (d + 0) zm_319 112 [(1, .int x1), (2, .int x2)] [] (mH h s) Q := by
  unfold mf_319_112 at hf
  cases hf
  exact mb_319_112 hh  k
def mf_319_120 (N : Nat) (x1 : Int32) (x2 : Int32) (s : mS) : mO := if ¬ (x2 : Int32) = 0 then (some (s, (some (.int (x1 / x2))))) else none
theorem mr_319_120 {X : Nat → Option zz_C} {h : zz_H} (hh : 111 ≤ h.length) {d : Nat} {N : Nat} {Q : Option Value → zz_H → Prop} {x1 : Int32} {x2 : Int32} {s s' : mS} {v : Option Value} (hf : mf_319_120 N x1 x2 s = some (s', v)) (k : Q v (mH h s')) : zz_E zp_P zt_tf zt_fd X (d + 0) zm_319 120 [(1, .int x1), (2, .int x2)] [] (mH h s) Q := by
  unfold mf_319_120 at hf
  obtain ⟨q0, hf⟩ := mo_if hf
  cases hf
  exact mb_319_120 hh q0 k
def mf_319_168 (N : Nat) (y0 : Int32) (s : mS) : mO := some (s, (some (.int y0)))
theorem mr_319_168 {X : Nat → Option zz_C} {h : zz_H} (hh : 111 ≤ h.length) {d : Nat} {N : Nat} {Q : Option Value → zz_H → Prop} {y0 : Int32} {s s' : mS} {v : Option Value} (hf : mf_319_168 N y0 s = some (s', v)) (k : Q v (mH h s')) : zz_E zp_P zt_tf zt_fd X (d + 0) zm_319 168 [] [.int y0] (mH h s) Q := by
  unfold mf_319_168 at hf
  cases hf
  exact mb_319_168 hh  k
def mf_319_167 (N : Nat)  (s : mS) : mO := mf_319_168 N 0 s
theorem mr_319_167 {X : Nat → Option zz_C} {h : zz_H} (hh : 111 ≤ h.length) {d : Nat} {N : Nat} {Q : Option Value → zz_H → Prop}  {s s' : mS} {v : Option Value} (hf : mf_319_167 N  s = some (s', v)) (k : Q v (mH h s')) : zz_E zp_P zt_tf zt_fd X (d + 0) zm_319 167 [] [] (mH h s) Q := by
  unfold mf_319_167 at hf
  exact mb_319_167 hh  (mr_319_168 hh hf k)
def mf_319_163 (N : Nat)  (s : mS) : mO := mf_319_168 N 1 s
theorem mr_319_163 {X : Nat → Option zz_C} {h : zz_H} (hh : 111 ≤ h.length) {d : Nat} {N : Nat} {Q : Option Value → zz_H → Prop}  {s s' : mS} {v : Option Value} (hf : mf_319_163 N  s = some (s', v)) (k : Q v (mH h s')) : zz_E zp_P zt_tf zt_fd X (d + 0) zm_319 163 [] [] (mH h s) Q := by
  unfold mf_319_163 at hf
  exact mb_319_163 hh  (mr_319_168 hh hf k)
def mf_319_158 (N : Nat) (x1 : Int32) (x2 : Int32) (s : mS) : mO := if x2 ≤ x1 then mf_319_167 N  s else mf_319_163 N  s
theorem mr_319_158 {X : Nat → Option zz_C} {h : zz_H} (hh : 111 ≤ h.length) {d : Nat} {N : Nat} {Q : Option Value → zz_H → Prop} {x1 : Int32} {x2 : Int32} {s s' : mS} {v : Option Value} (hf : mf_319_158 N x1 x2 s = some (s', v)) (k : Q v (mH h s')) : zz_E zp_P zt_tf zt_fd X (d + 0) zm_319 158 [(1, .int x1), (2, .int x2)] [] (mH h s) Q := by
  unfold mf_319_158 at hf
  refine mb_319_158 hh  (fun c => ?_) (fun c => ?_)
  · rw [if_pos c] at hf
    exact mr_319_167 hh hf k
  · rw [if_neg c] at hf
    exact mr_319_163 hh hf k
def mf_319_190 (N : Nat) (y0 : Int32) (s : mS) : mO := some (s, (some (.int y0)))
theorem mr_319_190 {X : Nat → Option zz_C} {h : zz_H} (hh : 111 ≤ h.length) {d : Nat} {N : Nat} {Q : Option Value → zz_H → Prop} {y0 : Int32} {s s' : mS} {v : Option Value} (hf : mf_319_190 N y0 s = some (s', v)) (k : Q v (mH h s')) : zz_E zp_P zt_tf zt_fd X (d + 0) zm_319 190 [] [.int y0] (mH h s) Q := by
  unfold mf_319_190 at hf
  cases hf
  exact mb_319_190 hh  k
def mf_319_189 (N : Nat)  (s : mS) : mO := mf_319_190 N 0 s
theorem mr_319_189 {X : Nat → Option zz_C} {h : zz_H} (hh : 111 ≤ h.length) {d : Nat} {N : Nat} {Q : Option Value → zz_H → Prop}  {s s' : mS} {v : Option Value} (hf : mf_319_189 N  s = some (s', v)) (k : Q v (mH h s')) : zz_E zp_P zt_tf zt_fd X (d + 0) zm_319 189 [] [] (mH h s) Q := by
  unfold mf_319_189 at hf
  exact mb_319_189 hh  (mr_319_190 hh hf k)
def mf_319_185 (N : Nat)  (s : mS) : mO := mf_319_190 N 1 s
theorem mr_319_185 {X : Nat → Option zz_C} {h : zz_H} (hh : 111 ≤ h.length) {d : Nat} {N : Nat} {Q : Option Value → zz_H → Prop}  {s s' : mS} {v : Option Value} (hf : mf_319_185 N  s = some (s', v)) (k : Q v (mH h s')) : zz_E zp_P zt_tf zt_fd X (d + 0) zm_319 185 [] [] (mH h s) Q := by
  unfold mf_319_185 at hf
  exact mb_319_185 hh  (mr_319_190 hh hf k)
def mf_319_180 (N : Nat) (x1 : Int32) (x2 : Int32) (s : mS) : mO := if x1 ≤ x2 then mf_319_189 N  s else mf_319_185 N  s
theorem mr_319_180 {X : Nat → Option zz_C} {h : zz_H} (hh : 111 ≤ h.length) {d : Nat} {N : Nat} {Q : Option Value → zz_H → Prop} {x1 : Int32} {x2 : Int32} {s s' : mS} {v : Option Value} (hf : mf_319_180 N x1 x2 s = some (s', v)) (k : Q v (mH h s')) : zz_E zp_P zt_tf zt_fd X (d + 0) zm_319 180 [(1, .int x1), (2, .int x2)] [] (mH h s) Q := by
  unfold mf_319_180 at hf
  refine mb_319_180 hh  (fun c => ?_) (fun c => ?_)
  · rw [if_pos c] at hf
    exact mr_319_189 hh hf k
  · rw [if_neg c] at hf
    exact mr_319_185 hh hf k
def mf_319_132 (N : Nat) (x1 : Int32) (x2 : Int32) (s : mS) : mO := some (s, (some (.int (x1 ||| x2))))
theorem mr_319_132 {X : Nat → Option zz_C} {h : zz_H} (hh : 111 ≤ h.length) {d : Nat} {N : Nat} {Q : Option Value → zz_H → Prop} {x1 : Int32} {x2 : Int32} {s s' : mS} {v : Option Value} (hf : mf_319_132 N x1 x2 s = some (s', v)) (k : Q v (mH h s')) : zz_E zp_P zt_tf zt_fd X (d + 0) zm_319 132 [(1, .int x1), (2, .int x2)] [] (mH h s) Q := by
  unfold mf_319_132 at hf
  cases hf
  exact mb_319_132 hh  k
def mf_319_146 (N : Nat) (y0 : Int32) (s : mS) : mO := some (s, (some (.int y0)))
theorem mr_319_146 {X : Nat → Option zz_C} {h : zz_H} (hh : 111 ≤ h.length) {d : Nat} {N : Nat} {Q : Option Value → zz_H → Prop} {y0 : Int32} {s s' : mS} {v : Option Value} (hf : mf_319_146 N y0 s = some (s', v)) (k : Q v (mH h s')) : zz_E zp_P zt_tf zt_fd X (d + 0) zm_319 146 [] [.int y0] (mH h s) Q := by
  unfold mf_319_146 at hf
  cases hf
  exact mb_319_146 hh  k
def mf_319_145 (N : Nat)  (s : mS) : mO := mf_319_146 N 0 s
theorem mr_319_145 {X : Nat → Option zz_C} {h : zz_H} (hh : 111 ≤ h.length) {d : Nat} {N : Nat} {Q : Option Value → zz_H → Prop}  {s s' : mS} {v : Option Value} (hf : mf_319_145 N  s = some (s', v)) (k : Q v (mH h s')) : zz_E zp_P zt_tf zt_fd X (d + 0) zm_319 145 [] [] (mH h s) Q := by
  unfold mf_319_145 at hf
  exact mb_319_145 hh  (mr_319_146 hh hf k)
def mf_319_141 (N : Nat)  (s : mS) : mO := mf_319_146 N 1 s
theorem mr_319_141 {X : Nat → Option zz_C} {h : zz_H} (hh : 111 ≤ h.length) {d : Nat} {N : Nat} {Q : Option Value → zz_H → Prop}  {s s' : mS} {v : Option Value} (hf : mf_319_141 N  s = some (s', v)) (k : Q v (mH h s')) : zz_E zp_P zt_tf zt_fd X (d + 0) zm_319 141 [] [] (mH h s) Q := by
  unfold mf_319_141 at hf
  exact mb_319_141 hh  (mr_319_146 hh hf k)
def mf_319_136 (N : Nat) (x1 : Int32) (x2 : Int32) (s : mS) : mO := if ¬ x1 = x2 then mf_319_145 N  s else mf_319_141 N  s
theorem mr_319_136 {X : Nat → Option zz_C} {h : zz_H} (hh : 111 ≤ h.length) {d : Nat} {N : Nat} {Q : Option Value → zz_H → Prop} {x1 : Int32} {x2 : Int32} {s s' : mS} {v : Option Value} (hf : mf_319_136 N x1 x2 s = some (s', v)) (k : Q v (mH h s')) : zz_E zp_P zt_tf zt_fd X (d + 0) zm_319 136 [(1, .int x1), (2, .int x2)] [] (mH h s) Q := by
  unfold mf_319_136 at hf
  refine mb_319_136 hh  (fun c => ?_) (fun c => ?_)
  · rw [if_pos c] at hf
    exact mr_319_145 hh hf k
  · rw [if_neg c] at hf
    exact mr_319_141 hh hf k
def mf_319_157 (N : Nat) (y0 : Int32) (s : mS) : mO := some (s, (some (.int y0)))
theorem mr_319_157 {X : Nat → Option zz_C} {h : zz_H} (hh : 111 ≤ h.length) {d : Nat} {N : Nat} {Q : Option Value → zz_H → Prop} {y0 : Int32} {s s' : mS} {v : Option Value} (hf : mf_319_157 N y0 s = some (s', v)) (k : Q v (mH h s')) : zz_E zp_P zt_tf zt_fd X (d + 0) zm_319 157 [] [.int y0] (mH h s) Q := by
  unfold mf_319_157 at hf
  cases hf
  exact mb_319_157 hh  k
def mf_319_156 (N : Nat)  (s : mS) : mO := mf_319_157 N 0 s
theorem mr_319_156 {X : Nat → Option zz_C} {h : zz_H} (hh : 111 ≤ h.length) {d : Nat} {N : Nat} {Q : Option Value → zz_H → Prop}  {s s' : mS} {v : Option Value} (hf : mf_319_156 N  s = some (s', v)) (k : Q v (mH h s')) : zz_E zp_P zt_tf zt_fd X (d + 0) zm_319 156 [] [] (mH h s) Q := by
  unfold mf_319_156 at hf
  exact mb_319_156 hh  (mr_319_157 hh hf k)
def mf_319_152 (N : Nat)  (s : mS) : mO := mf_319_157 N 1 s
theorem mr_319_152 {X : Nat → Option zz_C} {h : zz_H} (hh : 111 ≤ h.length) {d : Nat} {N : Nat} {Q : Option Value → zz_H → Prop}  {s s' : mS} {v : Option Value} (hf : mf_319_152 N  s = some (s', v)) (k : Q v (mH h s')) : zz_E zp_P zt_tf zt_fd X (d + 0) zm_319 152 [] [] (mH h s) Q := by
  unfold mf_319_152 at hf
  exact mb_319_152 hh  (mr_319_157 hh hf k)
def mf_319_147 (N : Nat) (x1 : Int32) (x2 : Int32) (s : mS) : mO := if x1 = x2 then mf_319_156 N  s else mf_319_152 N  s
theorem mr_319_147 {X : Nat → Option zz_C} {h : zz_H} (hh : 111 ≤ h.length) {d : Nat} {N : Nat} {Q : Option Value → zz_H → Prop} {x1 : Int32} {x2 : Int32} {s s' : mS} {v : Option Value} (hf : mf_319_147 N x1 x2 s = some (s', v)) (k : Q v (mH h s')) : zz_E zp_P zt_tf zt_fd X (d + 0) zm_319 147 [(1, .int x1), (2, .int x2)] [] (mH h s) Q := by
  unfold mf_319_147 at hf
  refine mb_319_147 hh  (fun c => ?_) (fun c => ?_)
  · rw [if_pos c] at hf
    exact mr_319_156 hh hf k
  · rw [if_neg c] at hf
    exact mr_319_152 hh hf k
def mf_319_179 (N : Nat) (y0 : Int32) (s : mS) : mO := some (s, (some (.int y0)))
theorem mr_319_179 {X : Nat → Option zz_C} {h : zz_H} (hh : 111 ≤ h.length) {d : Nat} {N : Nat} {Q : Option Value → zz_H → Prop} {y0 : Int32} {s s' : mS} {v : Option Value} (hf : mf_319_179 N y0 s = some (s', v)) (k : Q v (mH h s')) : zz_E zp_P zt_tf zt_fd X (d + 0) zm_319 179 [] [.int y0] (mH h s) Q := by
  unfold mf_319_179 at hf
  cases hf
  exact mb_319_179 hh  k
def mf_319_178 (N : Nat)  (s : mS) : mO := mf_319_179 N 0 s
theorem mr_319_178 {X : Nat → Option zz_C} {h : zz_H} (hh : 111 ≤ h.length) {d : Nat} {N : Nat} {Q : Option Value → zz_H → Prop}  {s s' : mS} {v : Option Value} (hf : mf_319_178 N  s = some (s', v)) (k : Q v (mH h s')) : zz_E zp_P zt_tf zt_fd X (d + 0) zm_319 178 [] [] (mH h s) Q := by
  unfold mf_319_178 at hf
  exact mb_319_178 hh  (mr_319_179 hh hf k)
def mf_319_174 (N : Nat)  (s : mS) : mO := mf_319_179 N 1 s
theorem mr_319_174 {X : Nat → Option zz_C} {h : zz_H} (hh : 111 ≤ h.length) {d : Nat} {N : Nat} {Q : Option Value → zz_H → Prop}  {s s' : mS} {v : Option Value} (hf : mf_319_174 N  s = some (s', v)) (k : Q v (mH h s')) : zz_E zp_P zt_tf zt_fd X (d + 0) zm_319 174 [] [] (mH h s) Q := by
  unfold mf_319_174 at hf
  exact mb_319_174 hh  (mr_319_179 hh hf k)
def mf_319_169 (N : Nat) (x1 : Int32) (x2 : Int32) (s : mS) : mO := if x2 < x1 then mf_319_178 N  s else mf_319_174 N  s
theorem mr_319_169 {X : Nat → Option zz_C} {h : zz_H} (hh : 111 ≤ h.length) {d : Nat} {N : Nat} {Q : Option Value → zz_H → Prop} {x1 : Int32} {x2 : Int32} {s s' : mS} {v : Option Value} (hf : mf_319_169 N x1 x2 s = some (s', v)) (k : Q v (mH h s')) : zz_E zp_P zt_tf zt_fd X (d + 0) zm_319 169 [(1, .int x1), (2, .int x2)] [] (mH h s) Q := by
  unfold mf_319_169 at hf
  refine mb_319_169 hh  (fun c => ?_) (fun c => ?_)
  · rw [if_pos c] at hf
    exact mr_319_178 hh hf k
  · rw [if_neg c] at hf
    exact mr_319_174 hh hf k
def mf_319_201 (N : Nat) (y0 : Int32) (s : mS) : mO := some (s, (some (.int y0)))
theorem mr_319_201 {X : Nat → Option zz_C} {h : zz_H} (hh : 111 ≤ h.length) {d : Nat} {N : Nat} {Q : Option Value → zz_H → Prop} {y0 : Int32} {s s' : mS} {v : Option Value} (hf : mf_319_201 N y0 s = some (s', v)) (k : Q v (mH h s')) : zz_E zp_P zt_tf zt_fd X (d + 0) zm_319 201 [] [.int y0] (mH h s) Q := by
  unfold mf_319_201 at hf
  cases hf
  exact mb_319_201 hh  k
def mf_319_200 (N : Nat)  (s : mS) : mO := mf_319_201 N 0 s
theorem mr_319_200 {X : Nat → Option zz_C} {h : zz_H} (hh : 111 ≤ h.length) {d : Nat} {N : Nat} {Q : Option Value → zz_H → Prop}  {s s' : mS} {v : Option Value} (hf : mf_319_200 N  s = some (s', v)) (k : Q v (mH h s')) : zz_E zp_P zt_tf zt_fd X (d + 0) zm_319 200 [] [] (mH h s) Q := by
  unfold mf_319_200 at hf
  exact mb_319_200 hh  (mr_319_201 hh hf k)
def mf_319_196 (N : Nat)  (s : mS) : mO := mf_319_201 N 1 s
theorem mr_319_196 {X : Nat → Option zz_C} {h : zz_H} (hh : 111 ≤ h.length) {d : Nat} {N : Nat} {Q : Option Value → zz_H → Prop}  {s s' : mS} {v : Option Value} (hf : mf_319_196 N  s = some (s', v)) (k : Q v (mH h s')) : zz_E zp_P zt_tf zt_fd X (d + 0) zm_319 196 [] [] (mH h s) Q := by
  unfold mf_319_196 at hf
  exact mb_319_196 hh  (mr_319_201 hh hf k)
def mf_319_191 (N : Nat) (x1 : Int32) (x2 : Int32) (s : mS) : mO := if x1 < x2 then mf_319_200 N  s else mf_319_196 N  s
theorem mr_319_191 {X : Nat → Option zz_C} {h : zz_H} (hh : 111 ≤ h.length) {d : Nat} {N : Nat} {Q : Option Value → zz_H → Prop} {x1 : Int32} {x2 : Int32} {s s' : mS} {v : Option Value} (hf : mf_319_191 N x1 x2 s = some (s', v)) (k : Q v (mH h s')) : zz_E zp_P zt_tf zt_fd X (d + 0) zm_319 191 [(1, .int x1), (2, .int x2)] [] (mH h s) Q := by
  unfold mf_319_191 at hf
  refine mb_319_191 hh  (fun c => ?_) (fun c => ?_)
  · rw [if_pos c] at hf
    exact mr_319_200 hh hf k
  · rw [if_neg c] at hf
    exact mr_319_196 hh hf k
def mf_319_0 (N : Nat) (x0 : Int32) (x1 : Int32) (x2 : Int32) (s : mS) : mO := if x0 = 37 then mf_319_124 N x1 x2 s else if x0 = 38 then mf_319_128 N x1 x2 s else if x0 = 42 then mf_319_116 N x1 x2 s else if x0 = 43 then mf_319_108 N x1 x2 s else if x0 = 45 then mf_319_112 N x1 x2 s else if x0 = 47 then mf_319_120 N x1 x2 s else if x0 = 60 then mf_319_158 N x1 x2 s else if x0 = 62 then mf_319_180 N x1 x2 s else if x0 = 124 then mf_319_132 N x1 x2 s else if x0 = 256 then mf_319_136 N x1 x2 s else if x0 = 257 then mf_319_147 N x1 x2 s else if x0 = 258 then mf_319_169 N x1 x2 s else mf_319_191 N x1 x2 s
theorem mr_319_0 {X : Nat → Option zz_C} {h : zz_H} (hh : 111 ≤ h.length) {d : Nat} {N : Nat} {Q : Option Value → zz_H → Prop} {x0 : Int32} {x1 : Int32} {x2 : Int32} {s s' : mS} {v : Option Value} (hf : mf_319_0 N x0 x1 x2 s = some (s', v)) (k : Q v (mH h s')) : zz_E zp_P zt_tf zt_fd X (d + 0) zm_319 0 [(0, .int x0), (1, .int x1), (2, .int x2)] [] (mH h s) Q := by
  unfold mf_319_0 at hf
  refine mb_319_0 hh  (fun c => ?_) (fun c => ?_) (fun c => ?_) (fun c => ?_) (fun c => ?_) (fun c => ?_) (fun c => ?_) (fun c => ?_) (fun c => ?_) (fun c => ?_) (fun c => ?_) (fun c => ?_) (fun c => ?_)
  · skip
    rw [if_pos c] at hf
    exact mr_319_124 hh hf k
  · rw [if_neg (by rw [c]; decide)] at hf
    rw [if_pos c] at hf
    exact mr_319_128 hh hf k
  · rw [if_neg (by rw [c]; decide)] at hf
    rw [if_neg (by rw [c]; decide)] at hf
    rw [if_pos c] at hf
    exact mr_319_116 hh hf k
  · rw [if_neg (by rw [c]; decide)] at hf
    rw [if_neg (by rw [c]; decide)] at hf
    rw [if_neg (by rw [c]; decide)] at hf
    rw [if_pos c] at hf
    exact mr_319_108 hh hf k
  · rw [if_neg (by rw [c]; decide)] at hf
    rw [if_neg (by rw [c]; decide)] at hf
    rw [if_neg (by rw [c]; decide)] at hf
    rw [if_neg (by rw [c]; decide)] at hf
    rw [if_pos c] at hf
    exact mr_319_112 hh hf k
  · rw [if_neg (by rw [c]; decide)] at hf
    rw [if_neg (by rw [c]; decide)] at hf
    rw [if_neg (by rw [c]; decide)] at hf
    rw [if_neg (by rw [c]; decide)] at hf
    rw [if_neg (by rw [c]; decide)] at hf
    rw [if_pos c] at hf
    exact mr_319_120 hh hf k
  · rw [if_neg (by rw [c]; decide)] at hf
    rw [if_neg (by rw [c]; decide)] at hf
    rw [if_neg (by rw [c]; decide)] at hf
    rw [if_neg (by rw [c]; decide)] at hf
    rw [if_neg (by rw [c]; decide)] at hf
    rw [if_neg (by rw [c]; decide)] at hf
    rw [if_pos c] at hf
    exact mr_319_158 hh hf k
  · rw [if_neg (by rw [c]; decide)] at hf
    rw [if_neg (by rw [c]; decide)] at hf
    rw [if_neg (by rw [c]; decide)] at hf
    rw [if_neg (by rw [c]; decide)] at hf
    rw [if_neg (by rw [c]; decide)] at hf
    rw [if_neg (by rw [c]; decide)] at hf
    rw [if_neg (by rw [c]; decide)] at hf
    rw [if_pos c] at hf
    exact mr_319_180 hh hf k
  · rw [if_neg (by rw [c]; decide)] at hf
    rw [if_neg (by rw [c]; decide)] at hf
    rw [if_neg (by rw [c]; decide)] at hf
    rw [if_neg (by rw [c]; decide)] at hf
    rw [if_neg (by rw [c]; decide)] at hf
    rw [if_neg (by rw [c]; decide)] at hf
    rw [if_neg (by rw [c]; decide)] at hf
    rw [if_neg (by rw [c]; decide)] at hf
    rw [if_pos c] at hf
    exact mr_319_132 hh hf k
  · rw [if_neg (by rw [c]; decide)] at hf
    rw [if_neg (by rw [c]; decide)] at hf
    rw [if_neg (by rw [c]; decide)] at hf
    rw [if_neg (by rw [c]; decide)] at hf
    rw [if_neg (by rw [c]; decide)] at hf
    rw [if_neg (by rw [c]; decide)] at hf
    rw [if_neg (by rw [c]; decide)] at hf
    rw [if_neg (by rw [c]; decide)] at hf
    rw [if_neg (by rw [c]; decide)] at hf
    rw [if_pos c] at hf
    exact mr_319_136 hh hf k
  · rw [if_neg (by rw [c]; decide)] at hf
    rw [if_neg (by rw [c]; decide)] at hf
    rw [if_neg (by rw [c]; decide)] at hf
    rw [if_neg (by rw [c]; decide)] at hf
    rw [if_neg (by rw [c]; decide)] at hf
    rw [if_neg (by rw [c]; decide)] at hf
    rw [if_neg (by rw [c]; decide)] at hf
    rw [if_neg (by rw [c]; decide)] at hf
    rw [if_neg (by rw [c]; decide)] at hf
    rw [if_neg (by rw [c]; decide)] at hf
    rw [if_pos c] at hf
    exact mr_319_147 hh hf k
  · rw [if_neg (by rw [c]; decide)] at hf
    rw [if_neg (by rw [c]; decide)] at hf
    rw [if_neg (by rw [c]; decide)] at hf
    rw [if_neg (by rw [c]; decide)] at hf
    rw [if_neg (by rw [c]; decide)] at hf
    rw [if_neg (by rw [c]; decide)] at hf
    rw [if_neg (by rw [c]; decide)] at hf
    rw [if_neg (by rw [c]; decide)] at hf
    rw [if_neg (by rw [c]; decide)] at hf
    rw [if_neg (by rw [c]; decide)] at hf
    rw [if_neg (by rw [c]; decide)] at hf
    rw [if_pos c] at hf
    exact mr_319_169 hh hf k
  · skip
    rw [if_neg c.1] at hf
    rw [if_neg c.2.1] at hf
    rw [if_neg c.2.2.1] at hf
    rw [if_neg c.2.2.2.1] at hf
    rw [if_neg c.2.2.2.2.1] at hf
    rw [if_neg c.2.2.2.2.2.1] at hf
    rw [if_neg c.2.2.2.2.2.2.1] at hf
    rw [if_neg c.2.2.2.2.2.2.2.1] at hf
    rw [if_neg c.2.2.2.2.2.2.2.2.1] at hf
    rw [if_neg c.2.2.2.2.2.2.2.2.2.1] at hf
    rw [if_neg c.2.2.2.2.2.2.2.2.2.2.1] at hf
    rw [if_neg c.2.2.2.2.2.2.2.2.2.2.2] at hf
    exact mr_319_191 hh hf k
/-- act -/
def mf_319 (N : Nat) (x0 : Int32) (x1 : Int32) (x2 : Int32) (s : mS) : mO := mf_319_0 N x0 x1 x2 s
theorem mr_319 {X : Nat → Option zz_C} {h : zz_H} (hh : 111 ≤ h.length) {d : Nat} {N : Nat} {Q : Option Value → zz_H → Prop} {x0 : Int32} {x1 : Int32} {x2 : Int32} {s s' : mS} {v : Option Value} (hf : mf_319 N x0 x1 x2 s = some (s', v)) (k : Q v (mH h s')) : zz_E zp_P zt_tf zt_fd X (d + 0) zm_319 0 [(0, .int x0), (1, .int x1), (2, .int x2)] [] (mH h s) Q := by
  unfold mf_319 at hf
  exact zz_E.weak (mr_319_0 hh hf k) rfl ⟨rfl, rfl, rfl, trivial⟩
