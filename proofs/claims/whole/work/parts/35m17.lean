/-! makes (IIII)V -/
theorem mb_330_0 {X : Nat → Option zz_C} {h : zz_H} (hh : 111 ≤ h.length) {s : mS} {d : Nat} {Q : Option Value → zz_H → Prop} {x1 : Int32} {x2 : Int32} {x3 : Int32} {x4 : Int32} (k1 : 2 ≤ x1 → zz_E zp_P zt_tf zt_fd X d zm_330 14 [(0, .ref 61), (1, .int x1), (2, .int x2), (3, .int x3), (4, .int x4), (5, .int x2)] [.int x2] (mH h s) Q) (k2 : ¬ 2 ≤ x1 → zz_E zp_P zt_tf zt_fd X d zm_330 9 [(0, .ref 61), (1, .int x1), (2, .int x2), (3, .int x3), (4, .int x4), (5, .int x2)] [.int x2] (mH h s) Q) : zz_E zp_P zt_tf zt_fd X d zm_330 0 [(0, .ref 61), (1, .int x1), (2, .int x2), (3, .int x3), (4, .int x4)] [] (mH h s) Q := by
  refine zz_E.n 1 rfl rfl rfl ?_
  refine zz_E.n 3 rfl rfl rfl ?_
  refine zz_E.n 4 rfl rfl rfl ?_
  refine zz_E.n 5 rfl rfl rfl ?_
  refine zz_E.c 6 (.int 2) rfl rfl rfl rfl ?_
  refine zz_E.b2 14 9 (A := 2 ≤ x1) rfl rfl (by decide) rfl rfl (fun c => ?_) (fun c => ?_)
  · exact zz_E.weak (k1 c) rfl ⟨rfl, rfl, rfl, rfl, rfl, rfl, trivial⟩
  · exact zz_E.weak (k2 c) rfl ⟨rfl, rfl, rfl, rfl, rfl, rfl, trivial⟩
theorem mb_330_9 {X : Nat → Option zz_C} {h : zz_H} (hh : 111 ≤ h.length) {s : mS} {d : Nat} {Q : Option Value → zz_H → Prop} {x1 : Int32} {x2 : Int32} {x3 : Int32} {x4 : Int32} {x5 : Int32} {y0 : Int32} (k : zz_E zp_P zt_tf zt_fd X d zm_330 16 [(0, .ref 61), (1, .int x1), (2, .int x2), (3, .int x3), (4, .int x4), (5, .int x5)] [.int 64, .int y0] (mH h s) Q) : zz_E zp_P zt_tf zt_fd X d zm_330 9 [(0, .ref 61), (1, .int x1), (2, .int x2), (3, .int x3), (4, .int x4), (5, .int x5)] [.int y0] (mH h s) Q := by
  refine zz_E.c 11 (.int 64) rfl rfl rfl rfl ?_
  refine zz_E.n 16 rfl rfl rfl ?_
  exact zz_E.weak k rfl ⟨rfl, rfl, rfl, rfl, rfl, rfl, trivial⟩
theorem mb_330_14 {X : Nat → Option zz_C} {h : zz_H} (hh : 111 ≤ h.length) {s : mS} {d : Nat} {Q : Option Value → zz_H → Prop} {x1 : Int32} {x2 : Int32} {x3 : Int32} {x4 : Int32} {x5 : Int32} {y0 : Int32} (k : zz_E zp_P zt_tf zt_fd X d zm_330 16 [(0, .ref 61), (1, .int x1), (2, .int x2), (3, .int x3), (4, .int x4), (5, .int x5)] [.int 20, .int y0] (mH h s) Q) : zz_E zp_P zt_tf zt_fd X d zm_330 14 [(0, .ref 61), (1, .int x1), (2, .int x2), (3, .int x3), (4, .int x4), (5, .int x5)] [.int y0] (mH h s) Q := by
  refine zz_E.c 16 (.int 20) rfl rfl rfl rfl ?_
  exact zz_E.weak k rfl ⟨rfl, rfl, rfl, rfl, rfl, rfl, trivial⟩
theorem mb_330_16 {X : Nat → Option zz_C} {h : zz_H} (hh : 111 ≤ h.length) {s : mS} {d : Nat} {Q : Option Value → zz_H → Prop} {x1 : Int32} {x2 : Int32} {x3 : Int32} {x4 : Int32} {x5 : Int32} {y0 : Int32} {y1 : Int32} (k1 : y0 ≤ y1 → zz_E zp_P zt_tf zt_fd X d zm_330 23 [(0, .ref 61), (1, .int x1), (2, .int x2), (3, .int x3), (4, .int x4), (5, .int x5)] [] (mH h s) Q) (k2 : ¬ y0 ≤ y1 → zz_E zp_P zt_tf zt_fd X d zm_330 19 [(0, .ref 61), (1, .int x1), (2, .int x2), (3, .int x3), (4, .int x4), (5, .int x5)] [] (mH h s) Q) : zz_E zp_P zt_tf zt_fd X d zm_330 16 [(0, .ref 61), (1, .int x1), (2, .int x2), (3, .int x3), (4, .int x4), (5, .int x5)] [.int y1, .int y0] (mH h s) Q := by
  refine zz_E.b2 23 19 (A := y0 ≤ y1) rfl rfl (by decide) rfl rfl (fun c => ?_) (fun c => ?_)
  · exact zz_E.weak (k1 c) rfl ⟨rfl, rfl, rfl, rfl, rfl, rfl, trivial⟩
  · exact zz_E.weak (k2 c) rfl ⟨rfl, rfl, rfl, rfl, rfl, rfl, trivial⟩
theorem mb_330_19 {X : Nat → Option zz_C} {h : zz_H} (hh : 111 ≤ h.length) {s : mS} {d : Nat} {Q : Option Value → zz_H → Prop} {x1 : Int32} {x2 : Int32} {x3 : Int32} {x4 : Int32} {x5 : Int32} (k : zz_E zp_P zt_tf zt_fd X d zm_330 24 [(0, .ref 61), (1, .int x1), (2, .int x2), (3, .int x3), (4, .int x4), (5, .int x5)] [.int 1] (mH h s) Q) : zz_E zp_P zt_tf zt_fd X d zm_330 19 [(0, .ref 61), (1, .int x1), (2, .int x2), (3, .int x3), (4, .int x4), (5, .int x5)] [] (mH h s) Q := by
  refine zz_E.c 20 (.int 1) rfl rfl rfl rfl ?_
  refine zz_E.n 24 rfl rfl rfl ?_
  exact zz_E.weak k rfl ⟨rfl, rfl, rfl, rfl, rfl, rfl, trivial⟩
theorem mb_330_23 {X : Nat → Option zz_C} {h : zz_H} (hh : 111 ≤ h.length) {s : mS} {d : Nat} {Q : Option Value → zz_H → Prop} {x1 : Int32} {x2 : Int32} {x3 : Int32} {x4 : Int32} {x5 : Int32} (k : zz_E zp_P zt_tf zt_fd X d zm_330 24 [(0, .ref 61), (1, .int x1), (2, .int x2), (3, .int x3), (4, .int x4), (5, .int x5)] [.int 0] (mH h s) Q) : zz_E zp_P zt_tf zt_fd X d zm_330 23 [(0, .ref 61), (1, .int x1), (2, .int x2), (3, .int x3), (4, .int x4), (5, .int x5)] [] (mH h s) Q := by
  refine zz_E.c 24 (.int 0) rfl rfl rfl rfl ?_
  exact zz_E.weak k rfl ⟨rfl, rfl, rfl, rfl, rfl, rfl, trivial⟩
theorem mb_330_24 {X : Nat → Option zz_C} {h : zz_H} (hh : 111 ≤ h.length) {s : mS} {d : Nat} {Q : Option Value → zz_H → Prop} {x1 : Int32} {x2 : Int32} {x3 : Int32} {x4 : Int32} {x5 : Int32} {y0 : Int32} (k1 : ¬ x1 = 3 → zz_E zp_P zt_tf zt_fd X d zm_330 81 [(0, .ref 61), (1, .int x1), (2, .int x2), (3, .int x3), (4, .int x4), (5, .int x5), (6, .int y0)] [] (mH h s) Q) (k2 : ¬ ¬ x1 = 3 → zz_E zp_P zt_tf zt_fd X d zm_330 31 [(0, .ref 61), (1, .int x1), (2, .int x2), (3, .int x3), (4, .int x4), (6, .int y0)] [] (mH h s) Q) : zz_E zp_P zt_tf zt_fd X d zm_330 24 [(0, .ref 61), (1, .int x1), (2, .int x2), (3, .int x3), (4, .int x4), (5, .int x5)] [.int y0] (mH h s) Q := by
  refine zz_E.n 26 rfl rfl rfl ?_
  refine zz_E.n 27 rfl rfl rfl ?_
  refine zz_E.c 28 (.int 3) rfl rfl rfl rfl ?_
  refine zz_E.b2 81 31 (A := ¬ x1 = 3) rfl (zz_cond_ne _ _) (by decide) rfl rfl (fun c => ?_) (fun c => ?_)
  · exact zz_E.weak (k1 c) rfl ⟨rfl, rfl, rfl, rfl, rfl, rfl, rfl, trivial⟩
  · exact zz_E.weak (k2 c) rfl ⟨rfl, rfl, rfl, rfl, rfl, rfl, trivial⟩
theorem mb_330_31 {X : Nat → Option zz_C} {h : zz_H} (hh : 111 ≤ h.length) {s : mS} {d : Nat} {Q : Option Value → zz_H → Prop} {x1 : Int32} {x2 : Int32} {x3 : Int32} {x4 : Int32} {x6 : Int32} (k1 : ¬ x6 = 0 → zz_E zp_P zt_tf zt_fd X d zm_330 62 [(0, .ref 61), (1, .int x1), (2, .int x2), (3, .int x3), (4, .int x4)] [] (mH h s) Q) (k2 : ¬ ¬ x6 = 0 → zz_E zp_P zt_tf zt_fd X d zm_330 36 [(0, .ref 61), (1, .int x1), (2, .int x2), (3, .int x3), (4, .int x4)] [] (mH h s) Q) : zz_E zp_P zt_tf zt_fd X d zm_330 31 [(0, .ref 61), (1, .int x1), (2, .int x2), (3, .int x3), (4, .int x4), (6, .int x6)] [] (mH h s) Q := by
  refine zz_E.n 33 rfl rfl rfl ?_
  refine zz_E.b1 62 36 (A := ¬ x6 = 0) rfl (zz_cond_ne _ _) (by decide) rfl rfl (fun c => ?_) (fun c => ?_)
  · exact zz_E.weak (k1 c) rfl ⟨rfl, rfl, rfl, rfl, rfl, trivial⟩
  · exact zz_E.weak (k2 c) rfl ⟨rfl, rfl, rfl, rfl, rfl, trivial⟩
theorem mb_330_36 {X : Nat → Option zz_C} {h : zz_H} (hh : 111 ≤ h.length) {s : mS} {d : Nat} {Q : Option Value → zz_H → Prop} {x1 : Int32} {x2 : Int32} {x3 : Int32} {x4 : Int32} (k1 : 64 < x3 → zz_E zp_P zt_tf zt_fd X d zm_330 62 [(0, .ref 61), (1, .int x1), (2, .int x2), (3, .int x3), (4, .int x4)] [] (mH h s) Q) (k2 : ¬ 64 < x3 → zz_E zp_P zt_tf zt_fd X d zm_330 42 [(0, .ref 61), (1, .int x1), (2, .int x2), (3, .int x3), (4, .int x4)] [] (mH h s) Q) : zz_E zp_P zt_tf zt_fd X d zm_330 36 [(0, .ref 61), (1, .int x1), (2, .int x2), (3, .int x3), (4, .int x4)] [] (mH h s) Q := by
  refine zz_E.n 37 rfl rfl rfl ?_
  refine zz_E.c 39 (.int 64) rfl rfl rfl rfl ?_
  refine zz_E.b2 62 42 (A := 64 < x3) rfl rfl (by decide) rfl rfl (fun c => ?_) (fun c => ?_)
  · exact zz_E.weak (k1 c) rfl ⟨rfl, rfl, rfl, rfl, rfl, trivial⟩
  · exact zz_E.weak (k2 c) rfl ⟨rfl, rfl, rfl, rfl, rfl, trivial⟩
theorem mb_330_42 {X : Nat → Option zz_C} {h : zz_H} (hh : 111 ≤ h.length) {s : mS} {d : Nat} {Q : Option Value → zz_H → Prop} {x1 : Int32} {x2 : Int32} {x3 : Int32} {x4 : Int32} (k1 : x2 < 0 → zz_E zp_P zt_tf zt_fd X d zm_330 66 [(0, .ref 61), (1, .int x1), (2, .int x2), (3, .int x3), (4, .int x4)] [] (mH h s) Q) (k2 : ¬ x2 < 0 → zz_E zp_P zt_tf zt_fd X d zm_330 46 [(0, .ref 61), (1, .int x1), (2, .int x2), (3, .int x3), (4, .int x4)] [] (mH h s) Q) : zz_E zp_P zt_tf zt_fd X d zm_330 42 [(0, .ref 61), (1, .int x1), (2, .int x2), (3, .int x3), (4, .int x4)] [] (mH h s) Q := by
  refine zz_E.n 43 rfl rfl rfl ?_
  refine zz_E.b1 66 46 (A := x2 < 0) rfl rfl (by decide) rfl rfl (fun c => ?_) (fun c => ?_)
  · exact zz_E.weak (k1 c) rfl ⟨rfl, rfl, rfl, rfl, rfl, trivial⟩
  · exact zz_E.weak (k2 c) rfl ⟨rfl, rfl, rfl, rfl, rfl, trivial⟩
theorem mb_330_46 {X : Nat → Option zz_C} {h : zz_H} (hh : 111 ≤ h.length) {s : mS} {d : Nat} {Q : Option Value → zz_H → Prop} {x1 : Int32} {x2 : Int32} {x3 : Int32} {x4 : Int32} (k1 : x3 < 0 → zz_E zp_P zt_tf zt_fd X d zm_330 66 [(0, .ref 61), (1, .int x1), (2, .int x2), (3, .int x3), (4, .int x4)] [] (mH h s) Q) (k2 : ¬ x3 < 0 → zz_E zp_P zt_tf zt_fd X d zm_330 50 [(0, .ref 61), (1, .int x1), (2, .int x2), (3, .int x3), (4, .int x4)] [] (mH h s) Q) : zz_E zp_P zt_tf zt_fd X d zm_330 46 [(0, .ref 61), (1, .int x1), (2, .int x2), (3, .int x3), (4, .int x4)] [] (mH h s) Q := by
  refine zz_E.n 47 rfl rfl rfl ?_
  refine zz_E.b1 66 50 (A := x3 < 0) rfl rfl (by decide) rfl rfl (fun c => ?_) (fun c => ?_)
  · exact zz_E.weak (k1 c) rfl ⟨rfl, rfl, rfl, rfl, rfl, trivial⟩
  · exact zz_E.weak (k2 c) rfl ⟨rfl, rfl, rfl, rfl, rfl, trivial⟩
theorem mb_330_50 {X : Nat → Option zz_C} {h : zz_H} (hh : 111 ≤ h.length) {s : mS} {d : Nat} {Q : Option Value → zz_H → Prop} {x1 : Int32} {x2 : Int32} {x3 : Int32} {x4 : Int32} (k1 : (lg_cmp ((Int32.toInt64 x2) * (Int32.toInt64 x3)) 200) ≤ 0 → zz_E zp_P zt_tf zt_fd X d zm_330 66 [(0, .ref 61), (1, .int x1), (2, .int x2), (3, .int x3), (4, .int x4)] [] (mH h s) Q) (k2 : ¬ (lg_cmp ((Int32.toInt64 x2) * (Int32.toInt64 x3)) 200) ≤ 0 → zz_E zp_P zt_tf zt_fd X d zm_330 62 [(0, .ref 61), (1, .int x1), (2, .int x2), (3, .int x3), (4, .int x4)] [] (mH h s) Q) : zz_E zp_P zt_tf zt_fd X d zm_330 50 [(0, .ref 61), (1, .int x1), (2, .int x2), (3, .int x3), (4, .int x4)] [] (mH h s) Q := by
  refine zz_E.n 51 rfl rfl rfl ?_
  refine zz_E.n 52 rfl rfl rfl ?_
  refine zz_E.n 53 rfl rfl rfl ?_
  refine zz_E.n 54 rfl rfl rfl ?_
  refine zz_E.n 55 rfl rfl rfl ?_
  refine zz_E.c 58 (.long 200) rfl rfl rfl rfl ?_
  refine zz_E.n 59 rfl rfl rfl ?_
  refine zz_E.b1 66 62 (A := (lg_cmp ((Int32.toInt64 x2) * (Int32.toInt64 x3)) 200) ≤ 0) rfl rfl (by decide) rfl rfl (fun c => ?_) (fun c => ?_)
  · exact zz_E.weak (k1 c) rfl ⟨rfl, rfl, rfl, rfl, rfl, trivial⟩
  · exact zz_E.weak (k2 c) rfl ⟨rfl, rfl, rfl, rfl, rfl, trivial⟩
theorem mb_330_62 {X : Nat → Option zz_C} {h : zz_H} (hh : 111 ≤ h.length) {s : mS} {d : Nat} {Q : Option Value → zz_H → Prop} {x1 : Int32} {x2 : Int32} {x3 : Int32} {x4 : Int32} (k : zz_E zp_P zt_tf zt_fd X d zm_330 67 [(0, .ref 61), (1, .int x1), (2, .int x2), (3, .int x3), (4, .int x4)] [.int 1] (mH h s) Q) : zz_E zp_P zt_tf zt_fd X d zm_330 62 [(0, .ref 61), (1, .int x1), (2, .int x2), (3, .int x3), (4, .int x4)] [] (mH h s) Q := by
  refine zz_E.c 63 (.int 1) rfl rfl rfl rfl ?_
  refine zz_E.n 67 rfl rfl rfl ?_
  exact zz_E.weak k rfl ⟨rfl, rfl, rfl, rfl, rfl, trivial⟩
theorem mb_330_66 {X : Nat → Option zz_C} {h : zz_H} (hh : 111 ≤ h.length) {s : mS} {d : Nat} {Q : Option Value → zz_H → Prop} {x1 : Int32} {x2 : Int32} {x3 : Int32} {x4 : Int32} (k : zz_E zp_P zt_tf zt_fd X d zm_330 67 [(0, .ref 61), (1, .int x1), (2, .int x2), (3, .int x3), (4, .int x4)] [.int 0] (mH h s) Q) : zz_E zp_P zt_tf zt_fd X d zm_330 66 [(0, .ref 61), (1, .int x1), (2, .int x2), (3, .int x3), (4, .int x4)] [] (mH h s) Q := by
  refine zz_E.c 67 (.int 0) rfl rfl rfl rfl ?_
  exact zz_E.weak k rfl ⟨rfl, rfl, rfl, rfl, rfl, trivial⟩
theorem mb_330_67 {X : Nat → Option zz_C} {h : zz_H} (hh : 111 ≤ h.length) {s : mS} {d : Nat} {Q : Option Value → zz_H → Prop} {x1 : Int32} {x2 : Int32} {x3 : Int32} {x4 : Int32} {y0 : Int32} (k1 : x3 ≤ x2 → zz_E zp_P zt_tf zt_fd X d zm_330 78 [(0, .ref 61), (1, .int x1), (2, .int x2), (3, .int x3), (4, .int x4), (6, .int y0)] [] (mH h s) Q) (k2 : ¬ x3 ≤ x2 → zz_E zp_P zt_tf zt_fd X d zm_330 74 [(0, .ref 61), (1, .int x1), (2, .int x2), (3, .int x3), (4, .int x4), (6, .int y0)] [] (mH h s) Q) : zz_E zp_P zt_tf zt_fd X d zm_330 67 [(0, .ref 61), (1, .int x1), (2, .int x2), (3, .int x3), (4, .int x4)] [.int y0] (mH h s) Q := by
  refine zz_E.n 69 rfl rfl rfl ?_
  refine zz_E.n 70 rfl rfl rfl ?_
  refine zz_E.n 71 rfl rfl rfl ?_
  refine zz_E.b2 78 74 (A := x3 ≤ x2) rfl rfl (by decide) rfl rfl (fun c => ?_) (fun c => ?_)
  · exact zz_E.weak (k1 c) rfl ⟨rfl, rfl, rfl, rfl, rfl, rfl, trivial⟩
  · exact zz_E.weak (k2 c) rfl ⟨rfl, rfl, rfl, rfl, rfl, rfl, trivial⟩
theorem mb_330_74 {X : Nat → Option zz_C} {h : zz_H} (hh : 111 ≤ h.length) {s : mS} {d : Nat} {Q : Option Value → zz_H → Prop} {x1 : Int32} {x2 : Int32} {x3 : Int32} {x4 : Int32} {x6 : Int32} (k : zz_E zp_P zt_tf zt_fd X d zm_330 79 [(0, .ref 61), (1, .int x1), (2, .int x2), (3, .int x3), (4, .int x4), (6, .int x6)] [.int x2] (mH h s) Q) : zz_E zp_P zt_tf zt_fd X d zm_330 74 [(0, .ref 61), (1, .int x1), (2, .int x2), (3, .int x3), (4, .int x4), (6, .int x6)] [] (mH h s) Q := by
  refine zz_E.n 75 rfl rfl rfl ?_
  refine zz_E.n 79 rfl rfl rfl ?_
  exact zz_E.weak k rfl ⟨rfl, rfl, rfl, rfl, rfl, rfl, trivial⟩
theorem mb_330_78 {X : Nat → Option zz_C} {h : zz_H} (hh : 111 ≤ h.length) {s : mS} {d : Nat} {Q : Option Value → zz_H → Prop} {x1 : Int32} {x2 : Int32} {x3 : Int32} {x4 : Int32} {x6 : Int32} (k : zz_E zp_P zt_tf zt_fd X d zm_330 79 [(0, .ref 61), (1, .int x1), (2, .int x2), (3, .int x3), (4, .int x4), (6, .int x6)] [.int x3] (mH h s) Q) : zz_E zp_P zt_tf zt_fd X d zm_330 78 [(0, .ref 61), (1, .int x1), (2, .int x2), (3, .int x3), (4, .int x4), (6, .int x6)] [] (mH h s) Q := by
  refine zz_E.n 79 rfl rfl rfl ?_
  exact zz_E.weak k rfl ⟨rfl, rfl, rfl, rfl, rfl, rfl, trivial⟩
theorem mb_330_79 {X : Nat → Option zz_C} {h : zz_H} (hh : 111 ≤ h.length) {s : mS} {d : Nat} {Q : Option Value → zz_H → Prop} {x1 : Int32} {x2 : Int32} {x3 : Int32} {x4 : Int32} {x6 : Int32} {y0 : Int32} (k : zz_E zp_P zt_tf zt_fd X d zm_330 81 [(0, .ref 61), (1, .int x1), (2, .int x2), (3, .int x3), (4, .int x4), (5, .int y0), (6, .int x6)] [] (mH h s) Q) : zz_E zp_P zt_tf zt_fd X d zm_330 79 [(0, .ref 61), (1, .int x1), (2, .int x2), (3, .int x3), (4, .int x4), (6, .int x6)] [.int y0] (mH h s) Q := by
  refine zz_E.n 81 rfl rfl rfl ?_
  exact zz_E.weak k rfl ⟨rfl, rfl, rfl, rfl, rfl, rfl, rfl, trivial⟩
theorem mb_330_81 {X : Nat → Option zz_C} {h : zz_H} (hh : 111 ≤ h.length) {s : mS} {d : Nat} {Q : Option Value → zz_H → Prop} {x1 : Int32} {x2 : Int32} {x3 : Int32} {x4 : Int32} {x5 : Int32} {x6 : Int32} (k1 : ¬ x1 = 4 → zz_E zp_P zt_tf zt_fd X d zm_330 219 [(0, .ref 61), (1, .int x1), (2, .int x2), (3, .int x3), (4, .int x4), (5, .int x5), (6, .int x6)] [] (mH h s) Q) (k2 : ¬ ¬ x1 = 4 → zz_E zp_P zt_tf zt_fd X d zm_330 86 [(0, .ref 61), (1, .int x1), (2, .int x2), (3, .int x3), (4, .int x4)] [] (mH h s) Q) : zz_E zp_P zt_tf zt_fd X d zm_330 81 [(0, .ref 61), (1, .int x1), (2, .int x2), (3, .int x3), (4, .int x4), (5, .int x5), (6, .int x6)] [] (mH h s) Q := by
  refine zz_E.n 82 rfl rfl rfl ?_
  refine zz_E.c 83 (.int 4) rfl rfl rfl rfl ?_
  refine zz_E.b2 219 86 (A := ¬ x1 = 4) rfl (zz_cond_ne _ _) (by decide) rfl rfl (fun c => ?_) (fun c => ?_)
  · exact zz_E.weak (k1 c) rfl ⟨rfl, rfl, rfl, rfl, rfl, rfl, rfl, trivial⟩
  · exact zz_E.weak (k2 c) rfl ⟨rfl, rfl, rfl, rfl, rfl, trivial⟩
theorem mb_330_86 {X : Nat → Option zz_C} {h : zz_H} (hh : 111 ≤ h.length) {s : mS} {d : Nat} {Q : Option Value → zz_H → Prop} {x1 : Int32} {x2 : Int32} {x3 : Int32} {x4 : Int32} (k : zz_E zp_P zt_tf zt_fd X d zm_77 0 [(0, .ref 61), (1, .int x2)] [] (mH h s) (fun v h' => zz_E zp_P zt_tf zt_fd X (d + 1) zm_330 94 [(0, .ref 61), (1, .int x1), (2, .int x2), (3, .int x3), (4, .int x4), (7, .int 0)] (v.toList ++ []) h' Q)) : zz_E zp_P zt_tf zt_fd X (d + 1) zm_330 86 [(0, .ref 61), (1, .int x1), (2, .int x2), (3, .int x3), (4, .int x4)] [] (mH h s) Q := by
  refine zz_E.c 87 (.int 0) rfl rfl rfl rfl ?_
  refine zz_E.n 89 rfl rfl rfl ?_
  refine zz_E.n 90 rfl rfl rfl ?_
  refine zz_E.n 91 rfl rfl rfl ?_
  refine mE_cv hh 94 (as := []) rfl rfl (Nat.le_of_ble_eq_true rfl) (Nat.le_of_ble_eq_true rfl) rfl (Nat.le_of_ble_eq_true rfl) rfl ?_
  refine zz_E.mono k ?_
  intro v h' hE
  exact zz_E.weak hE rfl ⟨rfl, rfl, rfl, rfl, rfl, rfl, trivial⟩
theorem mb_330_94 {X : Nat → Option zz_C} {h : zz_H} (hh : 111 ≤ h.length) {s : mS} {d : Nat} {Q : Option Value → zz_H → Prop} {x1 : Int32} {x2 : Int32} {x3 : Int32} {x4 : Int32} {x7 : Int32} {y0 : Int32} (k1 : y0 ≤ 20 → zz_E zp_P zt_tf zt_fd X d zm_330 103 [(0, .ref 61), (1, .int x1), (2, .int x2), (3, .int x3), (4, .int x4), (7, .int x7)] [] (mH h s) Q) (k2 : ¬ y0 ≤ 20 → zz_E zp_P zt_tf zt_fd X d zm_330 99 [(0, .ref 61), (1, .int x1), (2, .int x2), (3, .int x3), (4, .int x4), (7, .int x7)] [] (mH h s) Q) : zz_E zp_P zt_tf zt_fd X d zm_330 94 [(0, .ref 61), (1, .int x1), (2, .int x2), (3, .int x3), (4, .int x4), (7, .int x7)] [.int y0] (mH h s) Q := by
  refine zz_E.c 96 (.int 20) rfl rfl rfl rfl ?_
  refine zz_E.b2 103 99 (A := y0 ≤ 20) rfl rfl (by decide) rfl rfl (fun c => ?_) (fun c => ?_)
  · exact zz_E.weak (k1 c) rfl ⟨rfl, rfl, rfl, rfl, rfl, rfl, trivial⟩
  · exact zz_E.weak (k2 c) rfl ⟨rfl, rfl, rfl, rfl, rfl, rfl, trivial⟩
theorem mb_330_99 {X : Nat → Option zz_C} {h : zz_H} (hh : 111 ≤ h.length) {s : mS} {d : Nat} {Q : Option Value → zz_H → Prop} {x1 : Int32} {x2 : Int32} {x3 : Int32} {x4 : Int32} {x7 : Int32} (k : zz_E zp_P zt_tf zt_fd X d zm_330 104 [(0, .ref 61), (1, .int x1), (2, .int x2), (3, .int x3), (4, .int x4), (7, .int x7)] [.int 1] (mH h s) Q) : zz_E zp_P zt_tf zt_fd X d zm_330 99 [(0, .ref 61), (1, .int x1), (2, .int x2), (3, .int x3), (4, .int x4), (7, .int x7)] [] (mH h s) Q := by
  refine zz_E.c 100 (.int 1) rfl rfl rfl rfl ?_
  refine zz_E.n 104 rfl rfl rfl ?_
  exact zz_E.weak k rfl ⟨rfl, rfl, rfl, rfl, rfl, rfl, trivial⟩
theorem mb_330_103 {X : Nat → Option zz_C} {h : zz_H} (hh : 111 ≤ h.length) {s : mS} {d : Nat} {Q : Option Value → zz_H → Prop} {x1 : Int32} {x2 : Int32} {x3 : Int32} {x4 : Int32} {x7 : Int32} (k : zz_E zp_P zt_tf zt_fd X d zm_330 104 [(0, .ref 61), (1, .int x1), (2, .int x2), (3, .int x3), (4, .int x4), (7, .int x7)] [.int 0] (mH h s) Q) : zz_E zp_P zt_tf zt_fd X d zm_330 103 [(0, .ref 61), (1, .int x1), (2, .int x2), (3, .int x3), (4, .int x4), (7, .int x7)] [] (mH h s) Q := by
  refine zz_E.c 104 (.int 0) rfl rfl rfl rfl ?_
  exact zz_E.weak k rfl ⟨rfl, rfl, rfl, rfl, rfl, rfl, trivial⟩
theorem mb_330_104 {X : Nat → Option zz_C} {h : zz_H} (hh : 111 ≤ h.length) {s : mS} {d : Nat} {Q : Option Value → zz_H → Prop} {x1 : Int32} {x2 : Int32} {x3 : Int32} {x4 : Int32} {x7 : Int32} {y0 : Int32} (k : zz_E zp_P zt_tf zt_fd X d zm_330 112 [(0, .ref 61), (1, .int x1), (2, .int x2), (3, .int x3), (4, .int x4), (5, .int 0), (6, .int y0), (7, .int x7), (8, .int 0)] [] (mH h s) Q) : zz_E zp_P zt_tf zt_fd X d zm_330 104 [(0, .ref 61), (1, .int x1), (2, .int x2), (3, .int x3), (4, .int x4), (7, .int x7)] [.int y0] (mH h s) Q := by
  refine zz_E.n 106 rfl rfl rfl ?_
  refine zz_E.c 107 (.int 0) rfl rfl rfl rfl ?_
  refine zz_E.n 109 rfl rfl rfl ?_
  refine zz_E.c 110 (.int 0) rfl rfl rfl rfl ?_
  refine zz_E.n 112 rfl rfl rfl ?_
  exact zz_E.weak k rfl ⟨rfl, rfl, rfl, rfl, rfl, rfl, rfl, rfl, rfl, trivial⟩
theorem mb_330_112 {X : Nat → Option zz_C} {h : zz_H} (hh : 111 ≤ h.length) {s : mS} {d : Nat} {Q : Option Value → zz_H → Prop} {x1 : Int32} {x2 : Int32} {x3 : Int32} {x4 : Int32} {x5 : Int32} {x6 : Int32} {x7 : Int32} {x8 : Int32} (k : zz_E zp_P zt_tf zt_fd X d zm_77 0 [(0, .ref 61), (1, .int x2)] [] (mH h s) (fun v h' => zz_E zp_P zt_tf zt_fd X (d + 1) zm_330 119 [(0, .ref 61), (1, .int x1), (2, .int x2), (3, .int x3), (4, .int x4), (5, .int x5), (6, .int x6), (7, .int x7), (8, .int x8)] (v.toList ++ [.int x8]) h' Q)) : zz_E zp_P zt_tf zt_fd X (d + 1) zm_330 112 [(0, .ref 61), (1, .int x1), (2, .int x2), (3, .int x3), (4, .int x4), (5, .int x5), (6, .int x6), (7, .int x7), (8, .int x8)] [] (mH h s) Q := by
  refine zz_E.n 114 rfl rfl rfl ?_
  refine zz_E.n 115 rfl rfl rfl ?_
  refine zz_E.n 116 rfl rfl rfl ?_
  refine mE_cv hh 119 (as := [.int x8]) rfl rfl (Nat.le_of_ble_eq_true rfl) (Nat.le_of_ble_eq_true rfl) rfl (Nat.le_of_ble_eq_true rfl) rfl ?_
  refine zz_E.mono k ?_
  intro v h' hE
  exact zz_E.weak hE rfl ⟨rfl, rfl, rfl, rfl, rfl, rfl, rfl, rfl, rfl, trivial⟩
theorem mb_330_119 {X : Nat → Option zz_C} {h : zz_H} (hh : 111 ≤ h.length) {s : mS} {d : Nat} {Q : Option Value → zz_H → Prop} {x1 : Int32} {x2 : Int32} {x3 : Int32} {x4 : Int32} {x5 : Int32} {x6 : Int32} {x7 : Int32} {x8 : Int32} {y0 : Int32} {y1 : Int32} (k1 : y1 ≤ y0 → zz_E zp_P zt_tf zt_fd X d zm_330 199 [(0, .ref 61), (1, .int x1), (2, .int x2), (3, .int x3), (4, .int x4), (5, .int x5), (6, .int x6), (7, .int x7)] [] (mH h s) Q) (k2 : ¬ y1 ≤ y0 → zz_E zp_P zt_tf zt_fd X d zm_330 122 [(0, .ref 61), (1, .int x1), (2, .int x2), (3, .int x3), (4, .int x4), (5, .int x5), (6, .int x6), (7, .int x7), (8, .int x8)] [] (mH h s) Q) : zz_E zp_P zt_tf zt_fd X d zm_330 119 [(0, .ref 61), (1, .int x1), (2, .int x2), (3, .int x3), (4, .int x4), (5, .int x5), (6, .int x6), (7, .int x7), (8, .int x8)] [.int y1, .int y0] (mH h s) Q := by
  refine zz_E.b2 199 122 (A := y1 ≤ y0) rfl rfl (by decide) rfl rfl (fun c => ?_) (fun c => ?_)
  · exact zz_E.weak (k1 c) rfl ⟨rfl, rfl, rfl, rfl, rfl, rfl, rfl, rfl, trivial⟩
  · exact zz_E.weak (k2 c) rfl ⟨rfl, rfl, rfl, rfl, rfl, rfl, rfl, rfl, rfl, trivial⟩
theorem mb_330_122 {X : Nat → Option zz_C} {h : zz_H} (hh : 111 ≤ h.length) {s : mS} {d : Nat} {Q : Option Value → zz_H → Prop} {x1 : Int32} {x2 : Int32} {x3 : Int32} {x4 : Int32} {x5 : Int32} {x6 : Int32} {x7 : Int32} {x8 : Int32} (k1 : ¬ x6 = 0 → zz_E zp_P zt_tf zt_fd X d zm_330 199 [(0, .ref 61), (1, .int x1), (2, .int x2), (3, .int x3), (4, .int x4), (5, .int x5), (6, .int x6), (7, .int x7)] [] (mH h s) Q) (k2 : ¬ ¬ x6 = 0 → zz_E zp_P zt_tf zt_fd X d zm_330 127 [(0, .ref 61), (1, .int x1), (2, .int x2), (3, .int x3), (4, .int x4), (5, .int x5), (7, .int x7), (8, .int x8)] [] (mH h s) Q) : zz_E zp_P zt_tf zt_fd X d zm_330 122 [(0, .ref 61), (1, .int x1), (2, .int x2), (3, .int x3), (4, .int x4), (5, .int x5), (6, .int x6), (7, .int x7), (8, .int x8)] [] (mH h s) Q := by
  refine zz_E.n 124 rfl rfl rfl ?_
  refine zz_E.b1 199 127 (A := ¬ x6 = 0) rfl (zz_cond_ne _ _) (by decide) rfl rfl (fun c => ?_) (fun c => ?_)
  · exact zz_E.weak (k1 c) rfl ⟨rfl, rfl, rfl, rfl, rfl, rfl, rfl, rfl, trivial⟩
  · exact zz_E.weak (k2 c) rfl ⟨rfl, rfl, rfl, rfl, rfl, rfl, rfl, rfl, trivial⟩
theorem mb_330_127 {X : Nat → Option zz_C} {h : zz_H} (hh : 111 ≤ h.length) {s : mS} {d : Nat} {Q : Option Value → zz_H → Prop} {x1 : Int32} {x2 : Int32} {x3 : Int32} {x4 : Int32} {x5 : Int32} {x7 : Int32} {x8 : Int32} (i137 : ¬ (((x2 + 2) + x8) < 0 ∨ 166300 ≤ Int32.toNatClampNeg ((x2 + 2) + x8))) (k1 : ((s.2.2.1 47) (Int32.toNatClampNeg ((x2 + 2) + x8))) ≤ 64 → zz_E zp_P zt_tf zt_fd X d zm_330 151 [(0, .ref 61), (1, .int x1), (2, .int x2), (3, .int x3), (4, .int x4), (5, .int x5), (7, .int x7), (8, .int x8), (9, .int ((s.2.2.1 47) (Int32.toNatClampNeg ((x2 + 2) + x8))))] [] (mH h s) Q) (k2 : ¬ ((s.2.2.1 47) (Int32.toNatClampNeg ((x2 + 2) + x8))) ≤ 64 → zz_E zp_P zt_tf zt_fd X d zm_330 147 [(0, .ref 61), (1, .int x1), (2, .int x2), (3, .int x3), (4, .int x4), (5, .int x5), (7, .int x7), (8, .int x8), (9, .int ((s.2.2.1 47) (Int32.toNatClampNeg ((x2 + 2) + x8))))] [] (mH h s) Q) : zz_E zp_P zt_tf zt_fd X d zm_330 127 [(0, .ref 61), (1, .int x1), (2, .int x2), (3, .int x3), (4, .int x4), (5, .int x5), (7, .int x7), (8, .int x8)] [] (mH h s) Q := by
  refine zz_E.n 128 rfl rfl rfl ?_
  refine mE_g hh 131 (v := .ref 89) rfl rfl rfl ?_
  refine zz_E.n 132 rfl rfl rfl ?_
  refine zz_E.c 133 (.int 2) rfl rfl rfl rfl ?_
  refine zz_E.n 134 rfl rfl rfl ?_
  refine zz_E.n 136 rfl rfl rfl ?_
  refine zz_E.n 137 rfl rfl rfl ?_
  refine mE_ia hh 138 28 (f := (s.2.2.1 47)) rfl (by decide) rfl rfl i137 rfl ?_
  refine zz_E.n 140 rfl rfl rfl ?_
  refine zz_E.n 142 rfl rfl rfl ?_
  refine zz_E.c 144 (.int 64) rfl rfl rfl rfl ?_
  refine zz_E.b2 151 147 (A := ((s.2.2.1 47) (Int32.toNatClampNeg ((x2 + 2) + x8))) ≤ 64) rfl rfl (by decide) rfl rfl (fun c => ?_) (fun c => ?_)
  · exact zz_E.weak (k1 c) rfl ⟨rfl, rfl, rfl, rfl, rfl, rfl, rfl, rfl, rfl, trivial⟩
  · exact zz_E.weak (k2 c) rfl ⟨rfl, rfl, rfl, rfl, rfl, rfl, rfl, rfl, rfl, trivial⟩
theorem mb_330_147 {X : Nat → Option zz_C} {h : zz_H} (hh : 111 ≤ h.length) {s : mS} {d : Nat} {Q : Option Value → zz_H → Prop} {x1 : Int32} {x2 : Int32} {x3 : Int32} {x4 : Int32} {x5 : Int32} {x7 : Int32} {x8 : Int32} {x9 : Int32} (k : zz_E zp_P zt_tf zt_fd X d zm_330 152 [(0, .ref 61), (1, .int x1), (2, .int x2), (3, .int x3), (4, .int x4), (5, .int x5), (7, .int x7), (8, .int x8), (9, .int x9)] [.int 1] (mH h s) Q) : zz_E zp_P zt_tf zt_fd X d zm_330 147 [(0, .ref 61), (1, .int x1), (2, .int x2), (3, .int x3), (4, .int x4), (5, .int x5), (7, .int x7), (8, .int x8), (9, .int x9)] [] (mH h s) Q := by
  refine zz_E.c 148 (.int 1) rfl rfl rfl rfl ?_
  refine zz_E.n 152 rfl rfl rfl ?_
  exact zz_E.weak k rfl ⟨rfl, rfl, rfl, rfl, rfl, rfl, rfl, rfl, rfl, trivial⟩
theorem mb_330_151 {X : Nat → Option zz_C} {h : zz_H} (hh : 111 ≤ h.length) {s : mS} {d : Nat} {Q : Option Value → zz_H → Prop} {x1 : Int32} {x2 : Int32} {x3 : Int32} {x4 : Int32} {x5 : Int32} {x7 : Int32} {x8 : Int32} {x9 : Int32} (k : zz_E zp_P zt_tf zt_fd X d zm_330 152 [(0, .ref 61), (1, .int x1), (2, .int x2), (3, .int x3), (4, .int x4), (5, .int x5), (7, .int x7), (8, .int x8), (9, .int x9)] [.int 0] (mH h s) Q) : zz_E zp_P zt_tf zt_fd X d zm_330 151 [(0, .ref 61), (1, .int x1), (2, .int x2), (3, .int x3), (4, .int x4), (5, .int x5), (7, .int x7), (8, .int x8), (9, .int x9)] [] (mH h s) Q := by
  refine zz_E.c 152 (.int 0) rfl rfl rfl rfl ?_
  exact zz_E.weak k rfl ⟨rfl, rfl, rfl, rfl, rfl, rfl, rfl, rfl, rfl, trivial⟩
theorem mb_330_152 {X : Nat → Option zz_C} {h : zz_H} (hh : 111 ≤ h.length) {s : mS} {d : Nat} {Q : Option Value → zz_H → Prop} {x1 : Int32} {x2 : Int32} {x3 : Int32} {x4 : Int32} {x5 : Int32} {x7 : Int32} {x8 : Int32} {x9 : Int32} {y0 : Int32} (k1 : x9 ≤ 0 → zz_E zp_P zt_tf zt_fd X d zm_330 173 [(0, .ref 61), (1, .int x1), (2, .int x2), (3, .int x3), (4, .int x4), (5, .int x5), (6, .int y0), (8, .int x8), (9, .int x9)] [.int x7] (mH h s) Q) (k2 : ¬ x9 ≤ 0 → zz_E zp_P zt_tf zt_fd X d zm_330 161 [(0, .ref 61), (1, .int x1), (2, .int x2), (3, .int x3), (4, .int x4), (5, .int x5), (6, .int y0), (8, .int x8), (9, .int x9)] [.int x7] (mH h s) Q) : zz_E zp_P zt_tf zt_fd X d zm_330 152 [(0, .ref 61), (1, .int x1), (2, .int x2), (3, .int x3), (4, .int x4), (5, .int x5), (7, .int x7), (8, .int x8), (9, .int x9)] [.int y0] (mH h s) Q := by
  refine zz_E.n 154 rfl rfl rfl ?_
  refine zz_E.n 156 rfl rfl rfl ?_
  refine zz_E.n 158 rfl rfl rfl ?_
  refine zz_E.b1 173 161 (A := x9 ≤ 0) rfl rfl (by decide) rfl rfl (fun c => ?_) (fun c => ?_)
  · exact zz_E.weak (k1 c) rfl ⟨rfl, rfl, rfl, rfl, rfl, rfl, rfl, rfl, rfl, trivial⟩
  · exact zz_E.weak (k2 c) rfl ⟨rfl, rfl, rfl, rfl, rfl, rfl, rfl, rfl, rfl, trivial⟩
theorem mb_330_161 {X : Nat → Option zz_C} {h : zz_H} (hh : 111 ≤ h.length) {s : mS} {d : Nat} {Q : Option Value → zz_H → Prop} {x1 : Int32} {x2 : Int32} {x3 : Int32} {x4 : Int32} {x5 : Int32} {x6 : Int32} {x8 : Int32} {x9 : Int32} {y0 : Int32} (k1 : 64 < x9 → zz_E zp_P zt_tf zt_fd X d zm_330 173 [(0, .ref 61), (1, .int x1), (2, .int x2), (3, .int x3), (4, .int x4), (5, .int x5), (6, .int x6), (8, .int x8), (9, .int x9)] [.int y0] (mH h s) Q) (k2 : ¬ 64 < x9 → zz_E zp_P zt_tf zt_fd X d zm_330 168 [(0, .ref 61), (1, .int x1), (2, .int x2), (3, .int x3), (4, .int x4), (5, .int x5), (6, .int x6), (8, .int x8), (9, .int x9)] [.int y0] (mH h s) Q) : zz_E zp_P zt_tf zt_fd X d zm_330 161 [(0, .ref 61), (1, .int x1), (2, .int x2), (3, .int x3), (4, .int x4), (5, .int x5), (6, .int x6), (8, .int x8), (9, .int x9)] [.int y0] (mH h s) Q := by
  refine zz_E.n 163 rfl rfl rfl ?_
  refine zz_E.c 165 (.int 64) rfl rfl rfl rfl ?_
  refine zz_E.b2 173 168 (A := 64 < x9) rfl rfl (by decide) rfl rfl (fun c => ?_) (fun c => ?_)
  · exact zz_E.weak (k1 c) rfl ⟨rfl, rfl, rfl, rfl, rfl, rfl, rfl, rfl, rfl, trivial⟩
  · exact zz_E.weak (k2 c) rfl ⟨rfl, rfl, rfl, rfl, rfl, rfl, rfl, rfl, rfl, trivial⟩
theorem mb_330_168 {X : Nat → Option zz_C} {h : zz_H} (hh : 111 ≤ h.length) {s : mS} {d : Nat} {Q : Option Value → zz_H → Prop} {x1 : Int32} {x2 : Int32} {x3 : Int32} {x4 : Int32} {x5 : Int32} {x6 : Int32} {x8 : Int32} {x9 : Int32} {y0 : Int32} (k : zz_E zp_P zt_tf zt_fd X d zm_330 174 [(0, .ref 61), (1, .int x1), (2, .int x2), (3, .int x3), (4, .int x4), (5, .int x5), (6, .int x6), (8, .int x8), (9, .int x9)] [.int x9, .int y0] (mH h s) Q) : zz_E zp_P zt_tf zt_fd X d zm_330 168 [(0, .ref 61), (1, .int x1), (2, .int x2), (3, .int x3), (4, .int x4), (5, .int x5), (6, .int x6), (8, .int x8), (9, .int x9)] [.int y0] (mH h s) Q := by
  refine zz_E.n 170 rfl rfl rfl ?_
  refine zz_E.n 174 rfl rfl rfl ?_
  exact zz_E.weak k rfl ⟨rfl, rfl, rfl, rfl, rfl, rfl, rfl, rfl, rfl, trivial⟩
theorem mb_330_173 {X : Nat → Option zz_C} {h : zz_H} (hh : 111 ≤ h.length) {s : mS} {d : Nat} {Q : Option Value → zz_H → Prop} {x1 : Int32} {x2 : Int32} {x3 : Int32} {x4 : Int32} {x5 : Int32} {x6 : Int32} {x8 : Int32} {x9 : Int32} {y0 : Int32} (k : zz_E zp_P zt_tf zt_fd X d zm_330 174 [(0, .ref 61), (1, .int x1), (2, .int x2), (3, .int x3), (4, .int x4), (5, .int x5), (6, .int x6), (8, .int x8), (9, .int x9)] [.int 0, .int y0] (mH h s) Q) : zz_E zp_P zt_tf zt_fd X d zm_330 173 [(0, .ref 61), (1, .int x1), (2, .int x2), (3, .int x3), (4, .int x4), (5, .int x5), (6, .int x6), (8, .int x8), (9, .int x9)] [.int y0] (mH h s) Q := by
  refine zz_E.c 174 (.int 0) rfl rfl rfl rfl ?_
  exact zz_E.weak k rfl ⟨rfl, rfl, rfl, rfl, rfl, rfl, rfl, rfl, rfl, trivial⟩
theorem mb_330_174 {X : Nat → Option zz_C} {h : zz_H} (hh : 111 ≤ h.length) {s : mS} {d : Nat} {Q : Option Value → zz_H → Prop} {x1 : Int32} {x2 : Int32} {x3 : Int32} {x4 : Int32} {x5 : Int32} {x6 : Int32} {x8 : Int32} {x9 : Int32} {y0 : Int32} {y1 : Int32} (k1 : x5 ≤ x9 → zz_E zp_P zt_tf zt_fd X d zm_330 189 [(0, .ref 61), (1, .int x1), (2, .int x2), (3, .int x3), (4, .int x4), (5, .int x5), (6, .int x6), (7, .int (y0 + y1)), (8, .int x8)] [] (mH h s) Q) (k2 : ¬ x5 ≤ x9 → zz_E zp_P zt_tf zt_fd X d zm_330 184 [(0, .ref 61), (1, .int x1), (2, .int x2), (3, .int x3), (4, .int x4), (6, .int x6), (7, .int (y0 + y1)), (8, .int x8), (9, .int x9)] [] (mH h s) Q) : zz_E zp_P zt_tf zt_fd X d zm_330 174 [(0, .ref 61), (1, .int x1), (2, .int x2), (3, .int x3), (4, .int x4), (5, .int x5), (6, .int x6), (8, .int x8), (9, .int x9)] [.int y1, .int y0] (mH h s) Q := by
  refine zz_E.n 175 rfl rfl rfl ?_
  refine zz_E.n 177 rfl rfl rfl ?_
  refine zz_E.n 179 rfl rfl rfl ?_
  refine zz_E.n 181 rfl rfl rfl ?_
  refine zz_E.b2 189 184 (A := x5 ≤ x9) rfl rfl (by decide) rfl rfl (fun c => ?_) (fun c => ?_)
  · exact zz_E.weak (k1 c) rfl ⟨rfl, rfl, rfl, rfl, rfl, rfl, rfl, rfl, rfl, trivial⟩
  · exact zz_E.weak (k2 c) rfl ⟨rfl, rfl, rfl, rfl, rfl, rfl, rfl, rfl, rfl, trivial⟩
theorem mb_330_184 {X : Nat → Option zz_C} {h : zz_H} (hh : 111 ≤ h.length) {s : mS} {d : Nat} {Q : Option Value → zz_H → Prop} {x1 : Int32} {x2 : Int32} {x3 : Int32} {x4 : Int32} {x6 : Int32} {x7 : Int32} {x8 : Int32} {x9 : Int32} (k : zz_E zp_P zt_tf zt_fd X d zm_330 191 [(0, .ref 61), (1, .int x1), (2, .int x2), (3, .int x3), (4, .int x4), (6, .int x6), (7, .int x7), (8, .int x8)] [.int x9] (mH h s) Q) : zz_E zp_P zt_tf zt_fd X d zm_330 184 [(0, .ref 61), (1, .int x1), (2, .int x2), (3, .int x3), (4, .int x4), (6, .int x6), (7, .int x7), (8, .int x8), (9, .int x9)] [] (mH h s) Q := by
  refine zz_E.n 186 rfl rfl rfl ?_
  refine zz_E.n 191 rfl rfl rfl ?_
  exact zz_E.weak k rfl ⟨rfl, rfl, rfl, rfl, rfl, rfl, rfl, rfl, trivial⟩
theorem mb_330_189 {X : Nat → Option zz_C} {h : zz_H} (hh : 111 ≤ h.length) {s : mS} {d : Nat} {Q : Option Value → zz_H → Prop} {x1 : Int32} {x2 : Int32} {x3 : Int32} {x4 : Int32} {x5 : Int32} {x6 : Int32} {x7 : Int32} {x8 : Int32} (k : zz_E zp_P zt_tf zt_fd X d zm_330 191 [(0, .ref 61), (1, .int x1), (2, .int x2), (3, .int x3), (4, .int x4), (6, .int x6), (7, .int x7), (8, .int x8)] [.int x5] (mH h s) Q) : zz_E zp_P zt_tf zt_fd X d zm_330 189 [(0, .ref 61), (1, .int x1), (2, .int x2), (3, .int x3), (4, .int x4), (5, .int x5), (6, .int x6), (7, .int x7), (8, .int x8)] [] (mH h s) Q := by
  refine zz_E.n 191 rfl rfl rfl ?_
  exact zz_E.weak k rfl ⟨rfl, rfl, rfl, rfl, rfl, rfl, rfl, rfl, trivial⟩
theorem mb_330_191 {X : Nat → Option zz_C} {h : zz_H} (hh : 111 ≤ h.length) {s : mS} {d : Nat} {Q : Option Value → zz_H → Prop} {x1 : Int32} {x2 : Int32} {x3 : Int32} {x4 : Int32} {x6 : Int32} {x7 : Int32} {x8 : Int32} {y0 : Int32} (k : zz_E zp_P zt_tf zt_fd X d zm_330 112 [(0, .ref 61), (1, .int x1), (2, .int x2), (3, .int x3), (4, .int x4), (5, .int y0), (6, .int x6), (7, .int x7), (8, .int (x8 + 1))] [] (mH h s) Q) : zz_E zp_P zt_tf zt_fd X d zm_330 191 [(0, .ref 61), (1, .int x1), (2, .int x2), (3, .int x3), (4, .int x4), (6, .int x6), (7, .int x7), (8, .int x8)] [.int y0] (mH h s) Q := by
  refine zz_E.n 193 rfl rfl rfl ?_
  refine zz_E.n 196 rfl rfl rfl ?_
  refine zz_E.n 112 rfl rfl rfl ?_
  exact zz_E.weak k rfl ⟨rfl, rfl, rfl, rfl, rfl, rfl, rfl, rfl, rfl, trivial⟩
theorem mb_330_199 {X : Nat → Option zz_C} {h : zz_H} (hh : 111 ≤ h.length) {s : mS} {d : Nat} {Q : Option Value → zz_H → Prop} {x1 : Int32} {x2 : Int32} {x3 : Int32} {x4 : Int32} {x5 : Int32} {x6 : Int32} {x7 : Int32} (k1 : ¬ x6 = 0 → zz_E zp_P zt_tf zt_fd X d zm_330 212 [(0, .ref 61), (1, .int x1), (2, .int x2), (3, .int x3), (4, .int x4), (5, .int x5)] [] (mH h s) Q) (k2 : ¬ ¬ x6 = 0 → zz_E zp_P zt_tf zt_fd X d zm_330 204 [(0, .ref 61), (1, .int x1), (2, .int x2), (3, .int x3), (4, .int x4), (5, .int x5), (7, .int x7)] [] (mH h s) Q) : zz_E zp_P zt_tf zt_fd X d zm_330 199 [(0, .ref 61), (1, .int x1), (2, .int x2), (3, .int x3), (4, .int x4), (5, .int x5), (6, .int x6), (7, .int x7)] [] (mH h s) Q := by
  refine zz_E.n 201 rfl rfl rfl ?_
  refine zz_E.b1 212 204 (A := ¬ x6 = 0) rfl (zz_cond_ne _ _) (by decide) rfl rfl (fun c => ?_) (fun c => ?_)
  · exact zz_E.weak (k1 c) rfl ⟨rfl, rfl, rfl, rfl, rfl, rfl, trivial⟩
  · exact zz_E.weak (k2 c) rfl ⟨rfl, rfl, rfl, rfl, rfl, rfl, rfl, trivial⟩
theorem mb_330_204 {X : Nat → Option zz_C} {h : zz_H} (hh : 111 ≤ h.length) {s : mS} {d : Nat} {Q : Option Value → zz_H → Prop} {x1 : Int32} {x2 : Int32} {x3 : Int32} {x4 : Int32} {x5 : Int32} {x7 : Int32} (k1 : x7 ≤ 200 → zz_E zp_P zt_tf zt_fd X d zm_330 216 [(0, .ref 61), (1, .int x1), (2, .int x2), (3, .int x3), (4, .int x4), (5, .int x5)] [] (mH h s) Q) (k2 : ¬ x7 ≤ 200 → zz_E zp_P zt_tf zt_fd X d zm_330 212 [(0, .ref 61), (1, .int x1), (2, .int x2), (3, .int x3), (4, .int x4), (5, .int x5)] [] (mH h s) Q) : zz_E zp_P zt_tf zt_fd X d zm_330 204 [(0, .ref 61), (1, .int x1), (2, .int x2), (3, .int x3), (4, .int x4), (5, .int x5), (7, .int x7)] [] (mH h s) Q := by
  refine zz_E.n 206 rfl rfl rfl ?_
  refine zz_E.c 209 (.int 200) rfl rfl rfl rfl ?_
  refine zz_E.b2 216 212 (A := x7 ≤ 200) rfl rfl (by decide) rfl rfl (fun c => ?_) (fun c => ?_)
  · exact zz_E.weak (k1 c) rfl ⟨rfl, rfl, rfl, rfl, rfl, rfl, trivial⟩
  · exact zz_E.weak (k2 c) rfl ⟨rfl, rfl, rfl, rfl, rfl, rfl, trivial⟩
theorem mb_330_212 {X : Nat → Option zz_C} {h : zz_H} (hh : 111 ≤ h.length) {s : mS} {d : Nat} {Q : Option Value → zz_H → Prop} {x1 : Int32} {x2 : Int32} {x3 : Int32} {x4 : Int32} {x5 : Int32} (k : zz_E zp_P zt_tf zt_fd X d zm_330 217 [(0, .ref 61), (1, .int x1), (2, .int x2), (3, .int x3), (4, .int x4), (5, .int x5)] [.int 1] (mH h s) Q) : zz_E zp_P zt_tf zt_fd X d zm_330 212 [(0, .ref 61), (1, .int x1), (2, .int x2), (3, .int x3), (4, .int x4), (5, .int x5)] [] (mH h s) Q := by
  refine zz_E.c 213 (.int 1) rfl rfl rfl rfl ?_
  refine zz_E.n 217 rfl rfl rfl ?_
  exact zz_E.weak k rfl ⟨rfl, rfl, rfl, rfl, rfl, rfl, trivial⟩
theorem mb_330_216 {X : Nat → Option zz_C} {h : zz_H} (hh : 111 ≤ h.length) {s : mS} {d : Nat} {Q : Option Value → zz_H → Prop} {x1 : Int32} {x2 : Int32} {x3 : Int32} {x4 : Int32} {x5 : Int32} (k : zz_E zp_P zt_tf zt_fd X d zm_330 217 [(0, .ref 61), (1, .int x1), (2, .int x2), (3, .int x3), (4, .int x4), (5, .int x5)] [.int 0] (mH h s) Q) : zz_E zp_P zt_tf zt_fd X d zm_330 216 [(0, .ref 61), (1, .int x1), (2, .int x2), (3, .int x3), (4, .int x4), (5, .int x5)] [] (mH h s) Q := by
  refine zz_E.c 217 (.int 0) rfl rfl rfl rfl ?_
  exact zz_E.weak k rfl ⟨rfl, rfl, rfl, rfl, rfl, rfl, trivial⟩
theorem mb_330_217 {X : Nat → Option zz_C} {h : zz_H} (hh : 111 ≤ h.length) {s : mS} {d : Nat} {Q : Option Value → zz_H → Prop} {x1 : Int32} {x2 : Int32} {x3 : Int32} {x4 : Int32} {x5 : Int32} {y0 : Int32} (k : zz_E zp_P zt_tf zt_fd X d zm_330 219 [(0, .ref 61), (1, .int x1), (2, .int x2), (3, .int x3), (4, .int x4), (5, .int x5), (6, .int y0)] [] (mH h s) Q) : zz_E zp_P zt_tf zt_fd X d zm_330 217 [(0, .ref 61), (1, .int x1), (2, .int x2), (3, .int x3), (4, .int x4), (5, .int x5)] [.int y0] (mH h s) Q := by
  refine zz_E.n 219 rfl rfl rfl ?_
  exact zz_E.weak k rfl ⟨rfl, rfl, rfl, rfl, rfl, rfl, rfl, trivial⟩
theorem mb_330_219 {X : Nat → Option zz_C} {h : zz_H} (hh : 111 ≤ h.length) {s : mS} {d : Nat} {Q : Option Value → zz_H → Prop} {x1 : Int32} {x2 : Int32} {x3 : Int32} {x4 : Int32} {x5 : Int32} {x6 : Int32} (k1 : ¬ x6 = 0 → zz_E zp_P zt_tf zt_fd X d zm_330 229 [(0, .ref 61), (6, .int x6)] [] (mH h s) Q) (k2 : ¬ ¬ x6 = 0 → zz_E zp_P zt_tf zt_fd X d zm_330 224 [(0, .ref 61), (1, .int x1), (2, .int x2), (3, .int x3), (4, .int x4), (5, .int x5), (6, .int x6)] [] (mH h s) Q) : zz_E zp_P zt_tf zt_fd X d zm_330 219 [(0, .ref 61), (1, .int x1), (2, .int x2), (3, .int x3), (4, .int x4), (5, .int x5), (6, .int x6)] [] (mH h s) Q := by
  refine zz_E.n 221 rfl rfl rfl ?_
  refine zz_E.b1 229 224 (A := ¬ x6 = 0) rfl (zz_cond_ne _ _) (by decide) rfl rfl (fun c => ?_) (fun c => ?_)
  · exact zz_E.weak (k1 c) rfl ⟨rfl, rfl, trivial⟩
  · exact zz_E.weak (k2 c) rfl ⟨rfl, rfl, rfl, rfl, rfl, rfl, rfl, trivial⟩
theorem mb_330_224 {X : Nat → Option zz_C} {h : zz_H} (hh : 111 ≤ h.length) {s : mS} {d : Nat} {Q : Option Value → zz_H → Prop} {x1 : Int32} {x2 : Int32} {x3 : Int32} {x4 : Int32} {x5 : Int32} {x6 : Int32} (k1 : 0 ≤ x5 → zz_E zp_P zt_tf zt_fd X d zm_330 248 [(0, .ref 61), (1, .int x1), (2, .int x2), (3, .int x3), (4, .int x4)] [] (mH h s) Q) (k2 : ¬ 0 ≤ x5 → zz_E zp_P zt_tf zt_fd X d zm_330 229 [(0, .ref 61), (6, .int x6)] [] (mH h s) Q) : zz_E zp_P zt_tf zt_fd X d zm_330 224 [(0, .ref 61), (1, .int x1), (2, .int x2), (3, .int x3), (4, .int x4), (5, .int x5), (6, .int x6)] [] (mH h s) Q := by
  refine zz_E.n 226 rfl rfl rfl ?_
  refine zz_E.b1 248 229 (A := 0 ≤ x5) rfl rfl (by decide) rfl rfl (fun c => ?_) (fun c => ?_)
  · exact zz_E.weak (k1 c) rfl ⟨rfl, rfl, rfl, rfl, rfl, trivial⟩
  · exact zz_E.weak (k2 c) rfl ⟨rfl, rfl, trivial⟩
theorem mb_330_229 {X : Nat → Option zz_C} {h : zz_H} (hh : 111 ≤ h.length) {s : mS} {d : Nat} {Q : Option Value → zz_H → Prop} {x6 : Int32} (k1 : x6 = 0 → zz_E zp_P zt_tf zt_fd X d zm_330 239 [(0, .ref 61)] [.ref 61] (mH h s) Q) (k2 : ¬ x6 = 0 → zz_E zp_P zt_tf zt_fd X d zm_330 235 [(0, .ref 61)] [.ref 61] (mH h s) Q) : zz_E zp_P zt_tf zt_fd X d zm_330 229 [(0, .ref 61), (6, .int x6)] [] (mH h s) Q := by
  refine zz_E.n 230 rfl rfl rfl ?_
  refine zz_E.n 232 rfl rfl rfl ?_
  refine zz_E.b1 239 235 (A := x6 = 0) rfl rfl (by decide) rfl rfl (fun c => ?_) (fun c => ?_)
  · exact zz_E.weak (k1 c) rfl ⟨rfl, trivial⟩
  · exact zz_E.weak (k2 c) rfl ⟨rfl, trivial⟩
theorem mb_330_235 {X : Nat → Option zz_C} {h : zz_H} (hh : 111 ≤ h.length) {s : mS} {d : Nat} {Q : Option Value → zz_H → Prop}  (k : zz_E zp_P zt_tf zt_fd X d zm_330 240 [(0, .ref 61)] [.int 2, .ref 61] (mH h s) Q) : zz_E zp_P zt_tf zt_fd X d zm_330 235 [(0, .ref 61)] [.ref 61] (mH h s) Q := by
  refine zz_E.c 236 (.int 2) rfl rfl rfl rfl ?_
  refine zz_E.n 240 rfl rfl rfl ?_
  exact zz_E.weak k rfl ⟨rfl, trivial⟩
theorem mb_330_239 {X : Nat → Option zz_C} {h : zz_H} (hh : 111 ≤ h.length) {s : mS} {d : Nat} {Q : Option Value → zz_H → Prop}  (k : zz_E zp_P zt_tf zt_fd X d zm_330 240 [(0, .ref 61)] [.int 1, .ref 61] (mH h s) Q) : zz_E zp_P zt_tf zt_fd X d zm_330 239 [(0, .ref 61)] [.ref 61] (mH h s) Q := by
  refine zz_E.c 240 (.int 1) rfl rfl rfl rfl ?_
  exact zz_E.weak k rfl ⟨rfl, trivial⟩
theorem mb_330_240 {X : Nat → Option zz_C} {h : zz_H} (hh : 111 ≤ h.length) {s : mS} {d : Nat} {Q : Option Value → zz_H → Prop} {y1 : Int32} (k : zz_E zp_P zt_tf zt_fd X d zm_301 0 [(0, .ref 61), (1, .int y1), (2, .int (s.1 70))] [] (mH h s) (fun v h' => zz_E zp_P zt_tf zt_fd X (d + 1) zm_330 247 [] (v.toList ++ []) h' Q)) : zz_E zp_P zt_tf zt_fd X (d + 1) zm_330 240 [(0, .ref 61)] [.int y1, .ref 61] (mH h s) Q := by
  refine zz_E.n 241 rfl rfl rfl ?_
  refine mE_g hh 244 (v := .int (s.1 70)) rfl rfl rfl ?_
  refine mE_cv hh 247 (as := []) rfl rfl (Nat.le_of_ble_eq_true rfl) (Nat.le_of_ble_eq_true rfl) rfl (Nat.le_of_ble_eq_true rfl) rfl ?_
  refine zz_E.mono k ?_
  intro v h' hE
  exact zz_E.weak hE rfl trivial
theorem mb_330_247 {X : Nat → Option zz_C} {h : zz_H} (hh : 111 ≤ h.length) {s : mS} {d : Nat} {Q : Option Value → zz_H → Prop}  (k : Q none (mH h s)) : zz_E zp_P zt_tf zt_fd X d zm_330 247 [] [] (mH h s) Q := by
  refine zz_E.ret rfl rfl rfl ?_
  exact k
theorem mb_330_248 {X : Nat → Option zz_C} {h : zz_H} (hh : 111 ≤ h.length) {s : mS} {d : Nat} {Q : Option Value → zz_H → Prop} {x1 : Int32} {x2 : Int32} {x3 : Int32} {x4 : Int32} (k1 : 3 ≤ x1 → zz_E zp_P zt_tf zt_fd X d zm_330 307 [(0, .ref 61), (1, .int x1), (2, .int x2), (3, .int x3), (4, .int x4)] [] (mH h (mI s 51 x4)) Q) (k2 : ¬ 3 ≤ x1 → zz_E zp_P zt_tf zt_fd X d zm_330 259 [(0, .ref 61), (1, .int x1), (2, .int x2), (4, .int x4)] [] (mH h (mI s 51 x4)) Q) : zz_E zp_P zt_tf zt_fd X d zm_330 248 [(0, .ref 61), (1, .int x1), (2, .int x2), (3, .int x3), (4, .int x4)] [] (mH h s) Q := by
  refine zz_E.n 249 rfl rfl rfl ?_
  refine zz_E.n 251 rfl rfl rfl ?_
  refine mE_p hh 254 rfl (by decide) rfl (mF_51 _ _) rfl ?_
  refine zz_E.n 255 rfl rfl rfl ?_
  refine zz_E.c 256 (.int 3) rfl rfl rfl rfl ?_
  refine zz_E.b2 307 259 (A := 3 ≤ x1) rfl rfl (by decide) rfl rfl (fun c => ?_) (fun c => ?_)
  · exact zz_E.weak (k1 c) rfl ⟨rfl, rfl, rfl, rfl, rfl, trivial⟩
  · exact zz_E.weak (k2 c) rfl ⟨rfl, rfl, rfl, rfl, trivial⟩
theorem mb_330_259 {X : Nat → Option zz_C} {h : zz_H} (hh : 111 ≤ h.length) {s : mS} {d : Nat} {Q : Option Value → zz_H → Prop} {x1 : Int32} {x2 : Int32} {x4 : Int32} (k : zz_E zp_P zt_tf zt_fd X d zm_330 262 [(0, .ref 61), (1, .int x1), (2, .int x2), (4, .int x4), (7, .int 0)] [] (mH h s) Q) : zz_E zp_P zt_tf zt_fd X d zm_330 259 [(0, .ref 61), (1, .int x1), (2, .int x2), (4, .int x4)] [] (mH h s) Q := by
  refine zz_E.c 260 (.int 0) rfl rfl rfl rfl ?_
  refine zz_E.n 262 rfl rfl rfl ?_
  exact zz_E.weak k rfl ⟨rfl, rfl, rfl, rfl, rfl, trivial⟩
theorem mb_330_262 {X : Nat → Option zz_C} {h : zz_H} (hh : 111 ≤ h.length) {s : mS} {d : Nat} {Q : Option Value → zz_H → Prop} {x1 : Int32} {x2 : Int32} {x4 : Int32} {x7 : Int32} (k1 : x2 ≤ x7 → zz_E zp_P zt_tf zt_fd X d zm_330 290 [(0, .ref 61), (1, .int x1), (4, .int x4)] [] (mH h s) Q) (k2 : ¬ x2 ≤ x7 → zz_E zp_P zt_tf zt_fd X d zm_330 268 [(0, .ref 61), (1, .int x1), (2, .int x2), (4, .int x4), (7, .int x7)] [] (mH h s) Q) : zz_E zp_P zt_tf zt_fd X d zm_330 262 [(0, .ref 61), (1, .int x1), (2, .int x2), (4, .int x4), (7, .int x7)] [] (mH h s) Q := by
  refine zz_E.n 264 rfl rfl rfl ?_
  refine zz_E.n 265 rfl rfl rfl ?_
  refine zz_E.b2 290 268 (A := x2 ≤ x7) rfl rfl (by decide) rfl rfl (fun c => ?_) (fun c => ?_)
  · exact zz_E.weak (k1 c) rfl ⟨rfl, rfl, rfl, trivial⟩
  · exact zz_E.weak (k2 c) rfl ⟨rfl, rfl, rfl, rfl, rfl, trivial⟩
theorem mb_330_268 {X : Nat → Option zz_C} {h : zz_H} (hh : 111 ≤ h.length) {s : mS} {d : Nat} {Q : Option Value → zz_H → Prop} {x1 : Int32} {x2 : Int32} {x4 : Int32} {x7 : Int32} (k1 : ¬ x1 = 1 → zz_E zp_P zt_tf zt_fd X d zm_330 280 [(0, .ref 61), (1, .int x1), (2, .int x2), (4, .int x4), (7, .int x7)] [.int 0, .ref 61] (mH h s) Q) (k2 : ¬ ¬ x1 = 1 → zz_E zp_P zt_tf zt_fd X d zm_330 275 [(0, .ref 61), (1, .int x1), (2, .int x2), (4, .int x4), (7, .int x7)] [.int 0, .ref 61] (mH h s) Q) : zz_E zp_P zt_tf zt_fd X d zm_330 268 [(0, .ref 61), (1, .int x1), (2, .int x2), (4, .int x4), (7, .int x7)] [] (mH h s) Q := by
  refine zz_E.n 269 rfl rfl rfl ?_
  refine zz_E.c 270 (.int 0) rfl rfl rfl rfl ?_
  refine zz_E.n 271 rfl rfl rfl ?_
  refine zz_E.c 272 (.int 1) rfl rfl rfl rfl ?_
  refine zz_E.b2 280 275 (A := ¬ x1 = 1) rfl (zz_cond_ne _ _) (by decide) rfl rfl (fun c => ?_) (fun c => ?_)
  · exact zz_E.weak (k1 c) rfl ⟨rfl, rfl, rfl, rfl, rfl, trivial⟩
  · exact zz_E.weak (k2 c) rfl ⟨rfl, rfl, rfl, rfl, rfl, trivial⟩
theorem mb_330_275 {X : Nat → Option zz_C} {h : zz_H} (hh : 111 ≤ h.length) {s : mS} {d : Nat} {Q : Option Value → zz_H → Prop} {x1 : Int32} {x2 : Int32} {x4 : Int32} {x7 : Int32} {y1 : Int32} (k : zz_E zp_P zt_tf zt_fd X d zm_330 281 [(0, .ref 61), (1, .int x1), (2, .int x2), (4, .int x4), (7, .int x7)] [.int x7, .int y1, .ref 61] (mH h s) Q) : zz_E zp_P zt_tf zt_fd X d zm_330 275 [(0, .ref 61), (1, .int x1), (2, .int x2), (4, .int x4), (7, .int x7)] [.int y1, .ref 61] (mH h s) Q := by
  refine zz_E.n 277 rfl rfl rfl ?_
  refine zz_E.n 281 rfl rfl rfl ?_
  exact zz_E.weak k rfl ⟨rfl, rfl, rfl, rfl, rfl, trivial⟩
theorem mb_330_280 {X : Nat → Option zz_C} {h : zz_H} (hh : 111 ≤ h.length) {s : mS} {d : Nat} {Q : Option Value → zz_H → Prop} {x1 : Int32} {x2 : Int32} {x4 : Int32} {x7 : Int32} {y1 : Int32} (k : zz_E zp_P zt_tf zt_fd X d zm_330 281 [(0, .ref 61), (1, .int x1), (2, .int x2), (4, .int x4), (7, .int x7)] [.int 0, .int y1, .ref 61] (mH h s) Q) : zz_E zp_P zt_tf zt_fd X d zm_330 280 [(0, .ref 61), (1, .int x1), (2, .int x2), (4, .int x4), (7, .int x7)] [.int y1, .ref 61] (mH h s) Q := by
  refine zz_E.c 281 (.int 0) rfl rfl rfl rfl ?_
  exact zz_E.weak k rfl ⟨rfl, rfl, rfl, rfl, rfl, trivial⟩
theorem mb_330_281 {X : Nat → Option zz_C} {h : zz_H} (hh : 111 ≤ h.length) {s : mS} {d : Nat} {Q : Option Value → zz_H → Prop} {x1 : Int32} {x2 : Int32} {x4 : Int32} {x7 : Int32} {y1 : Int32} {y2 : Int32} (k : zz_E zp_P zt_tf zt_fd X d zm_291 0 [(0, .ref 61), (1, .int y1), (2, .int y2)] [] (mH h s) (fun v h' => zz_E zp_P zt_tf zt_fd X (d + 1) zm_330 284 [(0, .ref 61), (1, .int x1), (2, .int x2), (4, .int x4), (7, .int x7)] (v.toList ++ []) h' Q)) : zz_E zp_P zt_tf zt_fd X (d + 1) zm_330 281 [(0, .ref 61), (1, .int x1), (2, .int x2), (4, .int x4), (7, .int x7)] [.int y2, .int y1, .ref 61] (mH h s) Q := by
  refine mE_cv hh 284 (as := []) rfl rfl (Nat.le_of_ble_eq_true rfl) (Nat.le_of_ble_eq_true rfl) rfl (Nat.le_of_ble_eq_true rfl) rfl ?_
  refine zz_E.mono k ?_
  intro v h' hE
  exact zz_E.weak hE rfl ⟨rfl, rfl, rfl, rfl, rfl, trivial⟩
theorem mb_330_284 {X : Nat → Option zz_C} {h : zz_H} (hh : 111 ≤ h.length) {s : mS} {d : Nat} {Q : Option Value → zz_H → Prop} {x1 : Int32} {x2 : Int32} {x4 : Int32} {x7 : Int32} (k : zz_E zp_P zt_tf zt_fd X d zm_330 262 [(0, .ref 61), (1, .int x1), (2, .int x2), (4, .int x4), (7, .int (x7 + 1))] [] (mH h s) Q) : zz_E zp_P zt_tf zt_fd X d zm_330 284 [(0, .ref 61), (1, .int x1), (2, .int x2), (4, .int x4), (7, .int x7)] [] (mH h s) Q := by
  refine zz_E.n 287 rfl rfl rfl ?_
  refine zz_E.n 262 rfl rfl rfl ?_
  exact zz_E.weak k rfl ⟨rfl, rfl, rfl, rfl, rfl, trivial⟩
theorem mb_330_290 {X : Nat → Option zz_C} {h : zz_H} (hh : 111 ≤ h.length) {s : mS} {d : Nat} {Q : Option Value → zz_H → Prop} {x1 : Int32} {x4 : Int32} (k1 : ¬ x1 = 2 → zz_E zp_P zt_tf zt_fd X d zm_330 300 [(4, .int x4)] [.ref 61] (mH h s) Q) (k2 : ¬ ¬ x1 = 2 → zz_E zp_P zt_tf zt_fd X d zm_330 296 [(4, .int x4)] [.ref 61] (mH h s) Q) : zz_E zp_P zt_tf zt_fd X d zm_330 290 [(0, .ref 61), (1, .int x1), (4, .int x4)] [] (mH h s) Q := by
  refine zz_E.n 291 rfl rfl rfl ?_
  refine zz_E.n 292 rfl rfl rfl ?_
  refine zz_E.c 293 (.int 2) rfl rfl rfl rfl ?_
  refine zz_E.b2 300 296 (A := ¬ x1 = 2) rfl (zz_cond_ne _ _) (by decide) rfl rfl (fun c => ?_) (fun c => ?_)
  · exact zz_E.weak (k1 c) rfl ⟨rfl, trivial⟩
  · exact zz_E.weak (k2 c) rfl ⟨rfl, trivial⟩
theorem mb_330_296 {X : Nat → Option zz_C} {h : zz_H} (hh : 111 ≤ h.length) {s : mS} {d : Nat} {Q : Option Value → zz_H → Prop} {x4 : Int32} (k : zz_E zp_P zt_tf zt_fd X d zm_330 301 [(4, .int x4)] [.int 3, .ref 61] (mH h s) Q) : zz_E zp_P zt_tf zt_fd X d zm_330 296 [(4, .int x4)] [.ref 61] (mH h s) Q := by
  refine zz_E.c 297 (.int 3) rfl rfl rfl rfl ?_
  refine zz_E.n 301 rfl rfl rfl ?_
  exact zz_E.weak k rfl ⟨rfl, trivial⟩
theorem mb_330_300 {X : Nat → Option zz_C} {h : zz_H} (hh : 111 ≤ h.length) {s : mS} {d : Nat} {Q : Option Value → zz_H → Prop} {x4 : Int32} (k : zz_E zp_P zt_tf zt_fd X d zm_330 301 [(4, .int x4)] [.int 1, .ref 61] (mH h s) Q) : zz_E zp_P zt_tf zt_fd X d zm_330 300 [(4, .int x4)] [.ref 61] (mH h s) Q := by
  refine zz_E.c 301 (.int 1) rfl rfl rfl rfl ?_
  exact zz_E.weak k rfl ⟨rfl, trivial⟩
theorem mb_330_301 {X : Nat → Option zz_C} {h : zz_H} (hh : 111 ≤ h.length) {s : mS} {d : Nat} {Q : Option Value → zz_H → Prop} {x4 : Int32} {y1 : Int32} (k : zz_E zp_P zt_tf zt_fd X d zm_305 0 [(0, .ref 61), (1, .int y1), (2, .int x4)] [] (mH h s) (fun v h' => zz_E zp_P zt_tf zt_fd X (d + 1) zm_330 306 [] (v.toList ++ []) h' Q)) : zz_E zp_P zt_tf zt_fd X (d + 1) zm_330 301 [(4, .int x4)] [.int y1, .ref 61] (mH h s) Q := by
  refine zz_E.n 303 rfl rfl rfl ?_
  refine mE_cv hh 306 (as := []) rfl rfl (Nat.le_of_ble_eq_true rfl) (Nat.le_of_ble_eq_true rfl) rfl (Nat.le_of_ble_eq_true rfl) rfl ?_
  refine zz_E.mono k ?_
  intro v h' hE
  exact zz_E.weak hE rfl trivial
theorem mb_330_306 {X : Nat → Option zz_C} {h : zz_H} (hh : 111 ≤ h.length) {s : mS} {d : Nat} {Q : Option Value → zz_H → Prop}  (k : Q none (mH h s)) : zz_E zp_P zt_tf zt_fd X d zm_330 306 [] [] (mH h s) Q := by
  refine zz_E.ret rfl rfl rfl ?_
  exact k
theorem mb_330_307 {X : Nat → Option zz_C} {h : zz_H} (hh : 111 ≤ h.length) {s : mS} {d : Nat} {Q : Option Value → zz_H → Prop} {x1 : Int32} {x2 : Int32} {x3 : Int32} {x4 : Int32} (k1 : ¬ x1 = 3 → zz_E zp_P zt_tf zt_fd X d zm_330 316 [(0, .ref 61), (1, .int x1), (2, .int x2), (3, .int x3), (4, .int x4)] [] (mH h s) Q) (k2 : ¬ ¬ x1 = 3 → zz_E zp_P zt_tf zt_fd X d zm_330 312 [(0, .ref 61), (1, .int x1), (2, .int x2), (3, .int x3), (4, .int x4)] [] (mH h s) Q) : zz_E zp_P zt_tf zt_fd X d zm_330 307 [(0, .ref 61), (1, .int x1), (2, .int x2), (3, .int x3), (4, .int x4)] [] (mH h s) Q := by
  refine zz_E.n 308 rfl rfl rfl ?_
  refine zz_E.c 309 (.int 3) rfl rfl rfl rfl ?_
  refine zz_E.b2 316 312 (A := ¬ x1 = 3) rfl (zz_cond_ne _ _) (by decide) rfl rfl (fun c => ?_) (fun c => ?_)
  · exact zz_E.weak (k1 c) rfl ⟨rfl, rfl, rfl, rfl, rfl, trivial⟩
  · exact zz_E.weak (k2 c) rfl ⟨rfl, rfl, rfl, rfl, rfl, trivial⟩
theorem mb_330_312 {X : Nat → Option zz_C} {h : zz_H} (hh : 111 ≤ h.length) {s : mS} {d : Nat} {Q : Option Value → zz_H → Prop} {x1 : Int32} {x2 : Int32} {x3 : Int32} {x4 : Int32} (k : zz_E zp_P zt_tf zt_fd X d zm_330 321 [(0, .ref 61), (1, .int x1), (2, .int x2), (3, .int x3), (4, .int x4)] [.int x2] (mH h s) Q) : zz_E zp_P zt_tf zt_fd X d zm_330 312 [(0, .ref 61), (1, .int x1), (2, .int x2), (3, .int x3), (4, .int x4)] [] (mH h s) Q := by
  refine zz_E.n 313 rfl rfl rfl ?_
  refine zz_E.n 321 rfl rfl rfl ?_
  exact zz_E.weak k rfl ⟨rfl, rfl, rfl, rfl, rfl, trivial⟩
theorem mb_330_316 {X : Nat → Option zz_C} {h : zz_H} (hh : 111 ≤ h.length) {s : mS} {d : Nat} {Q : Option Value → zz_H → Prop} {x1 : Int32} {x2 : Int32} {x3 : Int32} {x4 : Int32} (k : zz_E zp_P zt_tf zt_fd X d zm_77 0 [(0, .ref 61), (1, .int x2)] [] (mH h s) (fun v h' => zz_E zp_P zt_tf zt_fd X (d + 1) zm_330 321 [(0, .ref 61), (1, .int x1), (2, .int x2), (3, .int x3), (4, .int x4)] (v.toList ++ []) h' Q)) : zz_E zp_P zt_tf zt_fd X (d + 1) zm_330 316 [(0, .ref 61), (1, .int x1), (2, .int x2), (3, .int x3), (4, .int x4)] [] (mH h s) Q := by
  refine zz_E.n 317 rfl rfl rfl ?_
  refine zz_E.n 318 rfl rfl rfl ?_
  refine mE_cv hh 321 (as := []) rfl rfl (Nat.le_of_ble_eq_true rfl) (Nat.le_of_ble_eq_true rfl) rfl (Nat.le_of_ble_eq_true rfl) rfl ?_
  refine zz_E.mono k ?_
  intro v h' hE
  exact zz_E.weak hE rfl ⟨rfl, rfl, rfl, rfl, rfl, trivial⟩
theorem mb_330_321 {X : Nat → Option zz_C} {h : zz_H} (hh : 111 ≤ h.length) {s : mS} {d : Nat} {Q : Option Value → zz_H → Prop} {x1 : Int32} {x2 : Int32} {x3 : Int32} {x4 : Int32} {y0 : Int32} (k : zz_E zp_P zt_tf zt_fd X d zm_330 326 [(0, .ref 61), (1, .int x1), (2, .int x2), (3, .int x3), (4, .int x4), (7, .int y0), (8, .int 0)] [] (mH h s) Q) : zz_E zp_P zt_tf zt_fd X d zm_330 321 [(0, .ref 61), (1, .int x1), (2, .int x2), (3, .int x3), (4, .int x4)] [.int y0] (mH h s) Q := by
  refine zz_E.n 323 rfl rfl rfl ?_
  refine zz_E.c 324 (.int 0) rfl rfl rfl rfl ?_
  refine zz_E.n 326 rfl rfl rfl ?_
  exact zz_E.weak k rfl ⟨rfl, rfl, rfl, rfl, rfl, rfl, rfl, trivial⟩
theorem mb_330_326 {X : Nat → Option zz_C} {h : zz_H} (hh : 111 ≤ h.length) {s : mS} {d : Nat} {Q : Option Value → zz_H → Prop} {x1 : Int32} {x2 : Int32} {x3 : Int32} {x4 : Int32} {x7 : Int32} {x8 : Int32} (k1 : x7 ≤ x8 → zz_E zp_P zt_tf zt_fd X d zm_330 375 [(0, .ref 61), (4, .int x4)] [] (mH h s) Q) (k2 : ¬ x7 ≤ x8 → zz_E zp_P zt_tf zt_fd X d zm_330 333 [(0, .ref 61), (1, .int x1), (2, .int x2), (3, .int x3), (4, .int x4), (7, .int x7), (8, .int x8)] [] (mH h s) Q) : zz_E zp_P zt_tf zt_fd X d zm_330 326 [(0, .ref 61), (1, .int x1), (2, .int x2), (3, .int x3), (4, .int x4), (7, .int x7), (8, .int x8)] [] (mH h s) Q := by
  refine zz_E.n 328 rfl rfl rfl ?_
  refine zz_E.n 330 rfl rfl rfl ?_
  refine zz_E.b2 375 333 (A := x7 ≤ x8) rfl rfl (by decide) rfl rfl (fun c => ?_) (fun c => ?_)
  · exact zz_E.weak (k1 c) rfl ⟨rfl, rfl, trivial⟩
  · exact zz_E.weak (k2 c) rfl ⟨rfl, rfl, rfl, rfl, rfl, rfl, rfl, trivial⟩
theorem mb_330_333 {X : Nat → Option zz_C} {h : zz_H} (hh : 111 ≤ h.length) {s : mS} {d : Nat} {Q : Option Value → zz_H → Prop} {x1 : Int32} {x2 : Int32} {x3 : Int32} {x4 : Int32} {x7 : Int32} {x8 : Int32} (k1 : ¬ x1 = 3 → zz_E zp_P zt_tf zt_fd X d zm_330 349 [(0, .ref 61), (1, .int x1), (2, .int x2), (3, .int x3), (4, .int x4), (7, .int x7), (8, .int x8), (9, .int (s.1 51))] [.ref 61] (mH h s) Q) (k2 : ¬ ¬ x1 = 3 → zz_E zp_P zt_tf zt_fd X d zm_330 345 [(0, .ref 61), (1, .int x1), (2, .int x2), (3, .int x3), (4, .int x4), (7, .int x7), (8, .int x8), (9, .int (s.1 51))] [.ref 61] (mH h s) Q) : zz_E zp_P zt_tf zt_fd X d zm_330 333 [(0, .ref 61), (1, .int x1), (2, .int x2), (3, .int x3), (4, .int x4), (7, .int x7), (8, .int x8)] [] (mH h s) Q := by
  refine zz_E.n 334 rfl rfl rfl ?_
  refine mE_g hh 337 (v := .int (s.1 51)) rfl rfl rfl ?_
  refine zz_E.n 339 rfl rfl rfl ?_
  refine zz_E.n 340 rfl rfl rfl ?_
  refine zz_E.n 341 rfl rfl rfl ?_
  refine zz_E.c 342 (.int 3) rfl rfl rfl rfl ?_
  refine zz_E.b2 349 345 (A := ¬ x1 = 3) rfl (zz_cond_ne _ _) (by decide) rfl rfl (fun c => ?_) (fun c => ?_)
  · exact zz_E.weak (k1 c) rfl ⟨rfl, rfl, rfl, rfl, rfl, rfl, rfl, rfl, trivial⟩
  · exact zz_E.weak (k2 c) rfl ⟨rfl, rfl, rfl, rfl, rfl, rfl, rfl, rfl, trivial⟩
theorem mb_330_345 {X : Nat → Option zz_C} {h : zz_H} (hh : 111 ≤ h.length) {s : mS} {d : Nat} {Q : Option Value → zz_H → Prop} {x1 : Int32} {x2 : Int32} {x3 : Int32} {x4 : Int32} {x7 : Int32} {x8 : Int32} {x9 : Int32} (k : zz_E zp_P zt_tf zt_fd X d zm_330 360 [(0, .ref 61), (1, .int x1), (2, .int x2), (3, .int x3), (4, .int x4), (7, .int x7), (8, .int x8), (9, .int x9)] [.int x3, .ref 61] (mH h s) Q) : zz_E zp_P zt_tf zt_fd X d zm_330 345 [(0, .ref 61), (1, .int x1), (2, .int x2), (3, .int x3), (4, .int x4), (7, .int x7), (8, .int x8), (9, .int x9)] [.ref 61] (mH h s) Q := by
  refine zz_E.n 346 rfl rfl rfl ?_
  refine zz_E.n 360 rfl rfl rfl ?_
  exact zz_E.weak k rfl ⟨rfl, rfl, rfl, rfl, rfl, rfl, rfl, rfl, trivial⟩
theorem mb_330_349 {X : Nat → Option zz_C} {h : zz_H} (hh : 111 ≤ h.length) {s : mS} {d : Nat} {Q : Option Value → zz_H → Prop} {x1 : Int32} {x2 : Int32} {x3 : Int32} {x4 : Int32} {x7 : Int32} {x8 : Int32} {x9 : Int32} (i359 : ¬ (((x2 + 2) + x8) < 0 ∨ 166300 ≤ Int32.toNatClampNeg ((x2 + 2) + x8))) (k : zz_E zp_P zt_tf zt_fd X d zm_330 360 [(0, .ref 61), (1, .int x1), (2, .int x2), (3, .int x3), (4, .int x4), (7, .int x7), (8, .int x8), (9, .int x9)] [.int ((s.2.2.1 47) (Int32.toNatClampNeg ((x2 + 2) + x8))), .ref 61] (mH h s) Q) : zz_E zp_P zt_tf zt_fd X d zm_330 349 [(0, .ref 61), (1, .int x1), (2, .int x2), (3, .int x3), (4, .int x4), (7, .int x7), (8, .int x8), (9, .int x9)] [.ref 61] (mH h s) Q := by
  refine zz_E.n 350 rfl rfl rfl ?_
  refine mE_g hh 353 (v := .ref 89) rfl rfl rfl ?_
  refine zz_E.n 354 rfl rfl rfl ?_
  refine zz_E.c 355 (.int 2) rfl rfl rfl rfl ?_
  refine zz_E.n 356 rfl rfl rfl ?_
  refine zz_E.n 358 rfl rfl rfl ?_
  refine zz_E.n 359 rfl rfl rfl ?_
  refine mE_ia hh 360 28 (f := (s.2.2.1 47)) rfl (by decide) rfl rfl i359 rfl ?_
  exact zz_E.weak k rfl ⟨rfl, rfl, rfl, rfl, rfl, rfl, rfl, rfl, trivial⟩
theorem mb_330_360 {X : Nat → Option zz_C} {h : zz_H} (hh : 111 ≤ h.length) {s : mS} {d : Nat} {Q : Option Value → zz_H → Prop} {x1 : Int32} {x2 : Int32} {x3 : Int32} {x4 : Int32} {x7 : Int32} {x8 : Int32} {x9 : Int32} {y1 : Int32} (k : zz_E zp_P zt_tf zt_fd X d zm_329 0 [(0, .ref 61), (1, .int y1)] [] (mH h s) (fun v h' => zz_E zp_P zt_tf zt_fd X (d + 1) zm_330 363 [(0, .ref 61), (1, .int x1), (2, .int x2), (3, .int x3), (4, .int x4), (7, .int x7), (8, .int x8), (9, .int x9)] (v.toList ++ []) h' Q)) : zz_E zp_P zt_tf zt_fd X (d + 1) zm_330 360 [(0, .ref 61), (1, .int x1), (2, .int x2), (3, .int x3), (4, .int x4), (7, .int x7), (8, .int x8), (9, .int x9)] [.int y1, .ref 61] (mH h s) Q := by
  refine mE_cv hh 363 (as := []) rfl rfl (Nat.le_of_ble_eq_true rfl) (Nat.le_of_ble_eq_true rfl) rfl (Nat.le_of_ble_eq_true rfl) rfl ?_
  refine zz_E.mono k ?_
  intro v h' hE
  exact zz_E.weak hE rfl ⟨rfl, rfl, rfl, rfl, rfl, rfl, rfl, rfl, trivial⟩
theorem mb_330_363 {X : Nat → Option zz_C} {h : zz_H} (hh : 111 ≤ h.length) {s : mS} {d : Nat} {Q : Option Value → zz_H → Prop} {x1 : Int32} {x2 : Int32} {x3 : Int32} {x4 : Int32} {x7 : Int32} {x8 : Int32} {x9 : Int32} (k : zz_E zp_P zt_tf zt_fd X d zm_306 0 [(0, .ref 61), (1, .int x9)] [] (mH h s) (fun v h' => zz_E zp_P zt_tf zt_fd X (d + 1) zm_330 369 [(0, .ref 61), (1, .int x1), (2, .int x2), (3, .int x3), (4, .int x4), (7, .int x7), (8, .int x8)] (v.toList ++ []) h' Q)) : zz_E zp_P zt_tf zt_fd X (d + 1) zm_330 363 [(0, .ref 61), (1, .int x1), (2, .int x2), (3, .int x3), (4, .int x4), (7, .int x7), (8, .int x8), (9, .int x9)] [] (mH h s) Q := by
  refine zz_E.n 364 rfl rfl rfl ?_
  refine zz_E.n 366 rfl rfl rfl ?_
  refine mE_cv hh 369 (as := []) rfl rfl (Nat.le_of_ble_eq_true rfl) (Nat.le_of_ble_eq_true rfl) rfl (Nat.le_of_ble_eq_true rfl) rfl ?_
  refine zz_E.mono k ?_
  intro v h' hE
  exact zz_E.weak hE rfl ⟨rfl, rfl, rfl, rfl, rfl, rfl, rfl, trivial⟩
theorem mb_330_369 {X : Nat → Option zz_C} {h : zz_H} (hh : 111 ≤ h.length) {s : mS} {d : Nat} {Q : Option Value → zz_H → Prop} {x1 : Int32} {x2 : Int32} {x3 : Int32} {x4 : Int32} {x7 : Int32} {x8 : Int32} (k : zz_E zp_P zt_tf zt_fd X d zm_330 326 [(0, .ref 61), (1, .int x1), (2, .int x2), (3, .int x3), (4, .int x4), (7, .int x7), (8, .int (x8 + 1))] [] (mH h s) Q) : zz_E zp_P zt_tf zt_fd X d zm_330 369 [(0, .ref 61), (1, .int x1), (2, .int x2), (3, .int x3), (4, .int x4), (7, .int x7), (8, .int x8)] [] (mH h s) Q := by
  refine zz_E.n 372 rfl rfl rfl ?_
  refine zz_E.n 326 rfl rfl rfl ?_
  exact zz_E.weak k rfl ⟨rfl, rfl, rfl, rfl, rfl, rfl, rfl, trivial⟩
theorem mb_330_375 {X : Nat → Option zz_C} {h : zz_H} (hh : 111 ≤ h.length) {s : mS} {d : Nat} {Q : Option Value → zz_H → Prop} {x4 : Int32} (k : zz_E zp_P zt_tf zt_fd X d zm_305 0 [(0, .ref 61), (1, .int 2), (2, .int x4)] [] (mH h s) (fun v h' => zz_E zp_P zt_tf zt_fd X (d + 1) zm_330 382 [] (v.toList ++ []) h' Q)) : zz_E zp_P zt_tf zt_fd X (d + 1) zm_330 375 [(0, .ref 61), (4, .int x4)] [] (mH h s) Q := by
  refine zz_E.n 376 rfl rfl rfl ?_
  refine zz_E.c 377 (.int 2) rfl rfl rfl rfl ?_
  refine zz_E.n 379 rfl rfl rfl ?_
  refine mE_cv hh 382 (as := []) rfl rfl (Nat.le_of_ble_eq_true rfl) (Nat.le_of_ble_eq_true rfl) rfl (Nat.le_of_ble_eq_true rfl) rfl ?_
  refine zz_E.mono k ?_
  intro v h' hE
  exact zz_E.weak hE rfl trivial
theorem mb_330_382 {X : Nat → Option zz_C} {h : zz_H} (hh : 111 ≤ h.length) {s : mS} {d : Nat} {Q : Option Value → zz_H → Prop}  (k : Q none (mH h s)) : zz_E zp_P zt_tf zt_fd X d zm_330 382 [] [] (mH h s) Q := by
  refine zz_E.ret rfl rfl rfl ?_
  exact k
def mf_330_247 (N : Nat)  (s : mS) : mO := some (s, none)
theorem mr_330_247 {X : Nat → Option zz_C} {h : zz_H} (hh : 111 ≤ h.length) {d : Nat} {N : Nat} {Q : Option Value → zz_H → Prop}  {s s' : mS} {v : Option Value} (hf : mf_330_247 N  s = some (s', v)) (k : Q v (mH h s')) : zz_E zp_P zt_tf zt_fd X (d + 4) zm_330 247 [] [] (mH h s) Q := by
  unfold mf_330_247 at hf
  cases hf
  exact mb_330_247 hh  k
def mf_330_240 (N : Nat) (y1 : Int32) (s : mS) : mO := mo_bv (mf_301 N y1 (s.1 70) s) (fun s1 => mf_330_247 N  s1)
theorem mr_330_240 {X : Nat → Option zz_C} {h : zz_H} (hh : 111 ≤ h.length) {d : Nat} {N : Nat} {Q : Option Value → zz_H → Prop} {y1 : Int32} {s s' : mS} {v : Option Value} (hf : mf_330_240 N y1 s = some (s', v)) (k : Q v (mH h s')) : zz_E zp_P zt_tf zt_fd X (d + 4) zm_330 240 [(0, .ref 61)] [.int y1, .ref 61] (mH h s) Q := by
  unfold mf_330_240 at hf
  obtain ⟨s1, e, hf⟩ := mo_bv_ok hf
  exact mb_330_240 (d := d + 3) hh  (mr_301 (d := d + 3) hh e (mr_330_247 hh hf k))
def mf_330_239 (N : Nat)  (s : mS) : mO := mf_330_240 N 1 s
theorem mr_330_239 {X : Nat → Option zz_C} {h : zz_H} (hh : 111 ≤ h.length) {d : Nat} {N : Nat} {Q : Option Value → zz_H → Prop}  {s s' : mS} {v : Option Value} (hf : mf_330_239 N  s = some (s', v)) (k : Q v (mH h s')) : zz_E zp_P zt_tf zt_fd X (d + 4) zm_330 239 [(0, .ref 61)] [.ref 61] (mH h s) Q := by
  unfold mf_330_239 at hf
  exact mb_330_239 hh  (mr_330_240 hh hf k)
def mf_330_235 (N : Nat)  (s : mS) : mO := mf_330_240 N 2 s
theorem mr_330_235 {X : Nat → Option zz_C} {h : zz_H} (hh : 111 ≤ h.length) {d : Nat} {N : Nat} {Q : Option Value → zz_H → Prop}  {s s' : mS} {v : Option Value} (hf : mf_330_235 N  s = some (s', v)) (k : Q v (mH h s')) : zz_E zp_P zt_tf zt_fd X (d + 4) zm_330 235 [(0, .ref 61)] [.ref 61] (mH h s) Q := by
  unfold mf_330_235 at hf
  exact mb_330_235 hh  (mr_330_240 hh hf k)
def mf_330_229 (N : Nat) (x6 : Int32) (s : mS) : mO := if x6 = 0 then mf_330_239 N  s else mf_330_235 N  s
theorem mr_330_229 {X : Nat → Option zz_C} {h : zz_H} (hh : 111 ≤ h.length) {d : Nat} {N : Nat} {Q : Option Value → zz_H → Prop} {x6 : Int32} {s s' : mS} {v : Option Value} (hf : mf_330_229 N x6 s = some (s', v)) (k : Q v (mH h s')) : zz_E zp_P zt_tf zt_fd X (d + 4) zm_330 229 [(0, .ref 61), (6, .int x6)] [] (mH h s) Q := by
  unfold mf_330_229 at hf
  refine mb_330_229 hh  (fun c => ?_) (fun c => ?_)
  · rw [if_pos c] at hf
    exact mr_330_239 hh hf k
  · rw [if_neg c] at hf
    exact mr_330_235 hh hf k
def mf_330_382 (N : Nat)  (s : mS) : mO := some (s, none)
theorem mr_330_382 {X : Nat → Option zz_C} {h : zz_H} (hh : 111 ≤ h.length) {d : Nat} {N : Nat} {Q : Option Value → zz_H → Prop}  {s s' : mS} {v : Option Value} (hf : mf_330_382 N  s = some (s', v)) (k : Q v (mH h s')) : zz_E zp_P zt_tf zt_fd X (d + 4) zm_330 382 [] [] (mH h s) Q := by
  unfold mf_330_382 at hf
  cases hf
  exact mb_330_382 hh  k
def mf_330_375 (N : Nat) (x4 : Int32) (s : mS) : mO := mo_bv (mf_305 N 2 x4 s) (fun s1 => mf_330_382 N  s1)
theorem mr_330_375 {X : Nat → Option zz_C} {h : zz_H} (hh : 111 ≤ h.length) {d : Nat} {N : Nat} {Q : Option Value → zz_H → Prop} {x4 : Int32} {s s' : mS} {v : Option Value} (hf : mf_330_375 N x4 s = some (s', v)) (k : Q v (mH h s')) : zz_E zp_P zt_tf zt_fd X (d + 4) zm_330 375 [(0, .ref 61), (4, .int x4)] [] (mH h s) Q := by
  unfold mf_330_375 at hf
  obtain ⟨s1, e, hf⟩ := mo_bv_ok hf
  exact mb_330_375 (d := d + 3) hh  (mr_305 (d := d + 0) hh e (mr_330_382 hh hf k))
def mf_330_369 (N : Nat) (rc : Nat → Int32 → Int32 → Int32 → Int32 → Int32 → Int32 → mS → mO) (x1 : Int32) (x2 : Int32) (x3 : Int32) (x4 : Int32) (x7 : Int32) (x8 : Int32) (s : mS) : mO := rc 0 x1 x2 x3 x4 x7 (x8 + 1) s
theorem mr_330_369 {X : Nat → Option zz_C} {h : zz_H} (hh : 111 ≤ h.length) {d : Nat} {N : Nat} {rc : Nat → Int32 → Int32 → Int32 → Int32 → Int32 → Int32 → mS → mO} (hrc0 : ∀ {Q : Option Value → zz_H → Prop} {x1 : Int32} {x2 : Int32} {x3 : Int32} {x4 : Int32} {x7 : Int32} {x8 : Int32} {s s' : mS} {v : Option Value}, rc 0 x1 x2 x3 x4 x7 x8 s = some (s', v) → Q v (mH h s') → zz_E zp_P zt_tf zt_fd X (d + 4) zm_330 326 [(0, .ref 61), (1, .int x1), (2, .int x2), (3, .int x3), (4, .int x4), (7, .int x7), (8, .int x8)] [] (mH h s) Q) {Q : Option Value → zz_H → Prop} {x1 : Int32} {x2 : Int32} {x3 : Int32} {x4 : Int32} {x7 : Int32} {x8 : Int32} {s s' : mS} {v : Option Value} (hf : mf_330_369 N rc x1 x2 x3 x4 x7 x8 s = some (s', v)) (k : Q v (mH h s')) : zz_E zp_P zt_tf zt_fd X (d + 4) zm_330 369 [(0, .ref 61), (1, .int x1), (2, .int x2), (3, .int x3), (4, .int x4), (7, .int x7), (8, .int x8)] [] (mH h s) Q := by
  unfold mf_330_369 at hf
  exact mb_330_369 hh  (hrc0 hf k)
def mf_330_363 (N : Nat) (rc : Nat → Int32 → Int32 → Int32 → Int32 → Int32 → Int32 → mS → mO) (x1 : Int32) (x2 : Int32) (x3 : Int32) (x4 : Int32) (x7 : Int32) (x8 : Int32) (x9 : Int32) (s : mS) : mO := mo_bv (mf_306 N x9 s) (fun s1 => mf_330_369 N rc x1 x2 x3 x4 x7 x8 s1)
theorem mr_330_363 {X : Nat → Option zz_C} {h : zz_H} (hh : 111 ≤ h.length) {d : Nat} {N : Nat} {rc : Nat → Int32 → Int32 → Int32 → Int32 → Int32 → Int32 → mS → mO} (hrc0 : ∀ {Q : Option Value → zz_H → Prop} {x1 : Int32} {x2 : Int32} {x3 : Int32} {x4 : Int32} {x7 : Int32} {x8 : Int32} {s s' : mS} {v : Option Value}, rc 0 x1 x2 x3 x4 x7 x8 s = some (s', v) → Q v (mH h s') → zz_E zp_P zt_tf zt_fd X (d + 4) zm_330 326 [(0, .ref 61), (1, .int x1), (2, .int x2), (3, .int x3), (4, .int x4), (7, .int x7), (8, .int x8)] [] (mH h s) Q) {Q : Option Value → zz_H → Prop} {x1 : Int32} {x2 : Int32} {x3 : Int32} {x4 : Int32} {x7 : Int32} {x8 : Int32} {x9 : Int32} {s s' : mS} {v : Option Value} (hf : mf_330_363 N rc x1 x2 x3 x4 x7 x8 x9 s = some (s', v)) (k : Q v (mH h s')) : zz_E zp_P zt_tf zt_fd X (d + 4) zm_330 363 [(0, .ref 61), (1, .int x1), (2, .int x2), (3, .int x3), (4, .int x4), (7, .int x7), (8, .int x8), (9, .int x9)] [] (mH h s) Q := by
  unfold mf_330_363 at hf
  obtain ⟨s1, e, hf⟩ := mo_bv_ok hf
  exact mb_330_363 (d := d + 3) hh  (mr_306 (d := d + 2) hh e (mr_330_369 hh hrc0 hf k))
def mf_330_360 (N : Nat) (rc : Nat → Int32 → Int32 → Int32 → Int32 → Int32 → Int32 → mS → mO) (x1 : Int32) (x2 : Int32) (x3 : Int32) (x4 : Int32) (x7 : Int32) (x8 : Int32) (x9 : Int32) (y1 : Int32) (s : mS) : mO := mo_bv (mf_329 N y1 s) (fun s1 => mf_330_363 N rc x1 x2 x3 x4 x7 x8 x9 s1)
theorem mr_330_360 {X : Nat → Option zz_C} {h : zz_H} (hh : 111 ≤ h.length) {d : Nat} {N : Nat} {rc : Nat → Int32 → Int32 → Int32 → Int32 → Int32 → Int32 → mS → mO} (hrc0 : ∀ {Q : Option Value → zz_H → Prop} {x1 : Int32} {x2 : Int32} {x3 : Int32} {x4 : Int32} {x7 : Int32} {x8 : Int32} {s s' : mS} {v : Option Value}, rc 0 x1 x2 x3 x4 x7 x8 s = some (s', v) → Q v (mH h s') → zz_E zp_P zt_tf zt_fd X (d + 4) zm_330 326 [(0, .ref 61), (1, .int x1), (2, .int x2), (3, .int x3), (4, .int x4), (7, .int x7), (8, .int x8)] [] (mH h s) Q) {Q : Option Value → zz_H → Prop} {x1 : Int32} {x2 : Int32} {x3 : Int32} {x4 : Int32} {x7 : Int32} {x8 : Int32} {x9 : Int32} {y1 : Int32} {s s' : mS} {v : Option Value} (hf : mf_330_360 N rc x1 x2 x3 x4 x7 x8 x9 y1 s = some (s', v)) (k : Q v (mH h s')) : zz_E zp_P zt_tf zt_fd X (d + 4) zm_330 360 [(0, .ref 61), (1, .int x1), (2, .int x2), (3, .int x3), (4, .int x4), (7, .int x7), (8, .int x8), (9, .int x9)] [.int y1, .ref 61] (mH h s) Q := by
  unfold mf_330_360 at hf
  obtain ⟨s1, e, hf⟩ := mo_bv_ok hf
  exact mb_330_360 (d := d + 3) hh  (mr_329 (d := d + 2) hh e (mr_330_363 hh hrc0 hf k))
def mf_330_345 (N : Nat) (rc : Nat → Int32 → Int32 → Int32 → Int32 → Int32 → Int32 → mS → mO) (x1 : Int32) (x2 : Int32) (x3 : Int32) (x4 : Int32) (x7 : Int32) (x8 : Int32) (x9 : Int32) (s : mS) : mO := mf_330_360 N rc x1 x2 x3 x4 x7 x8 x9 x3 s
theorem mr_330_345 {X : Nat → Option zz_C} {h : zz_H} (hh : 111 ≤ h.length) {d : Nat} {N : Nat} {rc : Nat → Int32 → Int32 → Int32 → Int32 → Int32 → Int32 → mS → mO} (hrc0 : ∀ {Q : Option Value → zz_H → Prop} {x1 : Int32} {x2 : Int32} {x3 : Int32} {x4 : Int32} {x7 : Int32} {x8 : Int32} {s s' : mS} {v : Option Value}, rc 0 x1 x2 x3 x4 x7 x8 s = some (s', v) → Q v (mH h s') → zz_E zp_P zt_tf zt_fd X (d + 4) zm_330 326 [(0, .ref 61), (1, .int x1), (2, .int x2), (3, .int x3), (4, .int x4), (7, .int x7), (8, .int x8)] [] (mH h s) Q) {Q : Option Value → zz_H → Prop} {x1 : Int32} {x2 : Int32} {x3 : Int32} {x4 : Int32} {x7 : Int32} {x8 : Int32} {x9 : Int32} {s s' : mS} {v : Option Value} (hf : mf_330_345 N rc x1 x2 x3 x4 x7 x8 x9 s = some (s', v)) (k : Q v (mH h s')) : zz_E zp_P zt_tf zt_fd X (d + 4) zm_330 345 [(0, .ref 61), (1, .int x1), (2, .int x2), (3, .int x3), (4, .int x4), (7, .int x7), (8, .int x8), (9, .int x9)] [.ref 61] (mH h s) Q := by
  unfold mf_330_345 at hf
  exact mb_330_345 hh  (mr_330_360 hh hrc0 hf k)
def mf_330_349 (N : Nat) (rc : Nat → Int32 → Int32 → Int32 → Int32 → Int32 → Int32 → mS → mO) (x1 : Int32) (x2 : Int32) (x3 : Int32) (x4 : Int32) (x7 : Int32) (x8 : Int32) (x9 : Int32) (s : mS) : mO := if ¬ (((x2 + 2) + x8) < 0 ∨ 166300 ≤ Int32.toNatClampNeg ((x2 + 2) + x8)) then (mf_330_360 N rc x1 x2 x3 x4 x7 x8 x9 ((s.2.2.1 47) (Int32.toNatClampNeg ((x2 + 2) + x8))) s) else none
theorem mr_330_349 {X : Nat → Option zz_C} {h : zz_H} (hh : 111 ≤ h.length) {d : Nat} {N : Nat} {rc : Nat → Int32 → Int32 → Int32 → Int32 → Int32 → Int32 → mS → mO} (hrc0 : ∀ {Q : Option Value → zz_H → Prop} {x1 : Int32} {x2 : Int32} {x3 : Int32} {x4 : Int32} {x7 : Int32} {x8 : Int32} {s s' : mS} {v : Option Value}, rc 0 x1 x2 x3 x4 x7 x8 s = some (s', v) → Q v (mH h s') → zz_E zp_P zt_tf zt_fd X (d + 4) zm_330 326 [(0, .ref 61), (1, .int x1), (2, .int x2), (3, .int x3), (4, .int x4), (7, .int x7), (8, .int x8)] [] (mH h s) Q) {Q : Option Value → zz_H → Prop} {x1 : Int32} {x2 : Int32} {x3 : Int32} {x4 : Int32} {x7 : Int32} {x8 : Int32} {x9 : Int32} {s s' : mS} {v : Option Value} (hf : mf_330_349 N rc x1 x2 x3 x4 x7 x8 x9 s = some (s', v)) (k : Q v (mH h s')) : zz_E zp_P zt_tf zt_fd X (d + 4) zm_330 349 [(0, .ref 61), (1, .int x1), (2, .int x2), (3, .int x3), (4, .int x4), (7, .int x7), (8, .int x8), (9, .int x9)] [.ref 61] (mH h s) Q := by
  unfold mf_330_349 at hf
  obtain ⟨q0, hf⟩ := mo_if hf
  exact mb_330_349 hh q0 (mr_330_360 hh hrc0 hf k)
def mf_330_333 (N : Nat) (rc : Nat → Int32 → Int32 → Int32 → Int32 → Int32 → Int32 → mS → mO) (x1 : Int32) (x2 : Int32) (x3 : Int32) (x4 : Int32) (x7 : Int32) (x8 : Int32) (s : mS) : mO := if ¬ x1 = 3 then mf_330_349 N rc x1 x2 x3 x4 x7 x8 (s.1 51) s else mf_330_345 N rc x1 x2 x3 x4 x7 x8 (s.1 51) s
theorem mr_330_333 {X : Nat → Option zz_C} {h : zz_H} (hh : 111 ≤ h.length) {d : Nat} {N : Nat} {rc : Nat → Int32 → Int32 → Int32 → Int32 → Int32 → Int32 → mS → mO} (hrc0 : ∀ {Q : Option Value → zz_H → Prop} {x1 : Int32} {x2 : Int32} {x3 : Int32} {x4 : Int32} {x7 : Int32} {x8 : Int32} {s s' : mS} {v : Option Value}, rc 0 x1 x2 x3 x4 x7 x8 s = some (s', v) → Q v (mH h s') → zz_E zp_P zt_tf zt_fd X (d + 4) zm_330 326 [(0, .ref 61), (1, .int x1), (2, .int x2), (3, .int x3), (4, .int x4), (7, .int x7), (8, .int x8)] [] (mH h s) Q) {Q : Option Value → zz_H → Prop} {x1 : Int32} {x2 : Int32} {x3 : Int32} {x4 : Int32} {x7 : Int32} {x8 : Int32} {s s' : mS} {v : Option Value} (hf : mf_330_333 N rc x1 x2 x3 x4 x7 x8 s = some (s', v)) (k : Q v (mH h s')) : zz_E zp_P zt_tf zt_fd X (d + 4) zm_330 333 [(0, .ref 61), (1, .int x1), (2, .int x2), (3, .int x3), (4, .int x4), (7, .int x7), (8, .int x8)] [] (mH h s) Q := by
  unfold mf_330_333 at hf
  refine mb_330_333 hh  (fun c => ?_) (fun c => ?_)
  · rw [if_pos c] at hf
    exact mr_330_349 hh hrc0 hf k
  · rw [if_neg c] at hf
    exact mr_330_345 hh hrc0 hf k
def mf_330_326 (N : Nat) (rc : Nat → Int32 → Int32 → Int32 → Int32 → Int32 → Int32 → mS → mO) (x1 : Int32) (x2 : Int32) (x3 : Int32) (x4 : Int32) (x7 : Int32) (x8 : Int32) (s : mS) : mO := if x7 ≤ x8 then mf_330_375 N x4 s else mf_330_333 N rc x1 x2 x3 x4 x7 x8 s
theorem mr_330_326 {X : Nat → Option zz_C} {h : zz_H} (hh : 111 ≤ h.length) {d : Nat} {N : Nat} {rc : Nat → Int32 → Int32 → Int32 → Int32 → Int32 → Int32 → mS → mO} (hrc0 : ∀ {Q : Option Value → zz_H → Prop} {x1 : Int32} {x2 : Int32} {x3 : Int32} {x4 : Int32} {x7 : Int32} {x8 : Int32} {s s' : mS} {v : Option Value}, rc 0 x1 x2 x3 x4 x7 x8 s = some (s', v) → Q v (mH h s') → zz_E zp_P zt_tf zt_fd X (d + 4) zm_330 326 [(0, .ref 61), (1, .int x1), (2, .int x2), (3, .int x3), (4, .int x4), (7, .int x7), (8, .int x8)] [] (mH h s) Q) {Q : Option Value → zz_H → Prop} {x1 : Int32} {x2 : Int32} {x3 : Int32} {x4 : Int32} {x7 : Int32} {x8 : Int32} {s s' : mS} {v : Option Value} (hf : mf_330_326 N rc x1 x2 x3 x4 x7 x8 s = some (s', v)) (k : Q v (mH h s')) : zz_E zp_P zt_tf zt_fd X (d + 4) zm_330 326 [(0, .ref 61), (1, .int x1), (2, .int x2), (3, .int x3), (4, .int x4), (7, .int x7), (8, .int x8)] [] (mH h s) Q := by
  unfold mf_330_326 at hf
  refine mb_330_326 hh  (fun c => ?_) (fun c => ?_)
  · rw [if_pos c] at hf
    exact mr_330_375 hh hf k
  · rw [if_neg c] at hf
    exact mr_330_333 hh hrc0 hf k
def mf_330_L7 (N : Nat) : Nat → Nat → Int32 → Int32 → Int32 → Int32 → Int32 → Int32 → mS → mO
  | 0, _, _, _, _, _, _, _, _ => none
  | n + 1, l, x1, x2, x3, x4, x7, x8, s => if l = 0 then mf_330_326 N (mf_330_L7 N n) x1 x2 x3 x4 x7 x8 s else none
theorem mr_330_L7 {X : Nat → Option zz_C} {h : zz_H} (hh : 111 ≤ h.length) {d : Nat} {N : Nat} : ∀ n : Nat, (∀ {Q : Option Value → zz_H → Prop} {x1 : Int32} {x2 : Int32} {x3 : Int32} {x4 : Int32} {x7 : Int32} {x8 : Int32} {s s' : mS} {v : Option Value}, mf_330_L7 N n 0 x1 x2 x3 x4 x7 x8 s = some (s', v) → Q v (mH h s') → zz_E zp_P zt_tf zt_fd X (d + 4) zm_330 326 [(0, .ref 61), (1, .int x1), (2, .int x2), (3, .int x3), (4, .int x4), (7, .int x7), (8, .int x8)] [] (mH h s) Q) := by
  intro n
  induction n with
  | zero => exact (fun hf _ => by cases hf)
  | succ n ih =>
    have h0 := @ih
    intro Q _ _ _ _ _ _ s s' v hf k
    unfold mf_330_L7 at hf
    rw [if_pos rfl] at hf
    exact mr_330_326 hh h0 hf k
def mf_330_321 (N : Nat) (x1 : Int32) (x2 : Int32) (x3 : Int32) (x4 : Int32) (y0 : Int32) (s : mS) : mO := mf_330_L7 N N 0 x1 x2 x3 x4 y0 0 s
theorem mr_330_321 {X : Nat → Option zz_C} {h : zz_H} (hh : 111 ≤ h.length) {d : Nat} {N : Nat} {Q : Option Value → zz_H → Prop} {x1 : Int32} {x2 : Int32} {x3 : Int32} {x4 : Int32} {y0 : Int32} {s s' : mS} {v : Option Value} (hf : mf_330_321 N x1 x2 x3 x4 y0 s = some (s', v)) (k : Q v (mH h s')) : zz_E zp_P zt_tf zt_fd X (d + 4) zm_330 321 [(0, .ref 61), (1, .int x1), (2, .int x2), (3, .int x3), (4, .int x4)] [.int y0] (mH h s) Q := by
  unfold mf_330_321 at hf
  exact mb_330_321 hh  (mr_330_L7 hh N hf k)
def mf_330_316 (N : Nat) (x1 : Int32) (x2 : Int32) (x3 : Int32) (x4 : Int32) (s : mS) : mO := mo_bi (mf_77 N x2 s) (fun s1 y => mf_330_321 N x1 x2 x3 x4 y s1)
theorem mr_330_316 {X : Nat → Option zz_C} {h : zz_H} (hh : 111 ≤ h.length) {d : Nat} {N : Nat} {Q : Option Value → zz_H → Prop} {x1 : Int32} {x2 : Int32} {x3 : Int32} {x4 : Int32} {s s' : mS} {v : Option Value} (hf : mf_330_316 N x1 x2 x3 x4 s = some (s', v)) (k : Q v (mH h s')) : zz_E zp_P zt_tf zt_fd X (d + 4) zm_330 316 [(0, .ref 61), (1, .int x1), (2, .int x2), (3, .int x3), (4, .int x4)] [] (mH h s) Q := by
  unfold mf_330_316 at hf
  obtain ⟨s1, y, e, hf⟩ := mo_bi_ok hf
  exact mb_330_316 (d := d + 3) hh  (mr_77 (d := d + 3) hh e (mr_330_321 hh hf k))
def mf_330_312 (N : Nat) (x1 : Int32) (x2 : Int32) (x3 : Int32) (x4 : Int32) (s : mS) : mO := mf_330_321 N x1 x2 x3 x4 x2 s
theorem mr_330_312 {X : Nat → Option zz_C} {h : zz_H} (hh : 111 ≤ h.length) {d : Nat} {N : Nat} {Q : Option Value → zz_H → Prop} {x1 : Int32} {x2 : Int32} {x3 : Int32} {x4 : Int32} {s s' : mS} {v : Option Value} (hf : mf_330_312 N x1 x2 x3 x4 s = some (s', v)) (k : Q v (mH h s')) : zz_E zp_P zt_tf zt_fd X (d + 4) zm_330 312 [(0, .ref 61), (1, .int x1), (2, .int x2), (3, .int x3), (4, .int x4)] [] (mH h s) Q := by
  unfold mf_330_312 at hf
  exact mb_330_312 hh  (mr_330_321 hh hf k)
def mf_330_307 (N : Nat) (x1 : Int32) (x2 : Int32) (x3 : Int32) (x4 : Int32) (s : mS) : mO := if ¬ x1 = 3 then mf_330_316 N x1 x2 x3 x4 s else mf_330_312 N x1 x2 x3 x4 s
theorem mr_330_307 {X : Nat → Option zz_C} {h : zz_H} (hh : 111 ≤ h.length) {d : Nat} {N : Nat} {Q : Option Value → zz_H → Prop} {x1 : Int32} {x2 : Int32} {x3 : Int32} {x4 : Int32} {s s' : mS} {v : Option Value} (hf : mf_330_307 N x1 x2 x3 x4 s = some (s', v)) (k : Q v (mH h s')) : zz_E zp_P zt_tf zt_fd X (d + 4) zm_330 307 [(0, .ref 61), (1, .int x1), (2, .int x2), (3, .int x3), (4, .int x4)] [] (mH h s) Q := by
  unfold mf_330_307 at hf
  refine mb_330_307 hh  (fun c => ?_) (fun c => ?_)
  · rw [if_pos c] at hf
    exact mr_330_316 hh hf k
  · rw [if_neg c] at hf
    exact mr_330_312 hh hf k
def mf_330_306 (N : Nat)  (s : mS) : mO := some (s, none)
theorem mr_330_306 {X : Nat → Option zz_C} {h : zz_H} (hh : 111 ≤ h.length) {d : Nat} {N : Nat} {Q : Option Value → zz_H → Prop}  {s s' : mS} {v : Option Value} (hf : mf_330_306 N  s = some (s', v)) (k : Q v (mH h s')) : zz_E zp_P zt_tf zt_fd X (d + 4) zm_330 306 [] [] (mH h s) Q := by
  unfold mf_330_306 at hf
  cases hf
  exact mb_330_306 hh  k
def mf_330_301 (N : Nat) (x4 : Int32) (y1 : Int32) (s : mS) : mO := mo_bv (mf_305 N y1 x4 s) (fun s1 => mf_330_306 N  s1)
theorem mr_330_301 {X : Nat → Option zz_C} {h : zz_H} (hh : 111 ≤ h.length) {d : Nat} {N : Nat} {Q : Option Value → zz_H → Prop} {x4 : Int32} {y1 : Int32} {s s' : mS} {v : Option Value} (hf : mf_330_301 N x4 y1 s = some (s', v)) (k : Q v (mH h s')) : zz_E zp_P zt_tf zt_fd X (d + 4) zm_330 301 [(4, .int x4)] [.int y1, .ref 61] (mH h s) Q := by
  unfold mf_330_301 at hf
  obtain ⟨s1, e, hf⟩ := mo_bv_ok hf
  exact mb_330_301 (d := d + 3) hh  (mr_305 (d := d + 0) hh e (mr_330_306 hh hf k))
def mf_330_300 (N : Nat) (x4 : Int32) (s : mS) : mO := mf_330_301 N x4 1 s
theorem mr_330_300 {X : Nat → Option zz_C} {h : zz_H} (hh : 111 ≤ h.length) {d : Nat} {N : Nat} {Q : Option Value → zz_H → Prop} {x4 : Int32} {s s' : mS} {v : Option Value} (hf : mf_330_300 N x4 s = some (s', v)) (k : Q v (mH h s')) : zz_E zp_P zt_tf zt_fd X (d + 4) zm_330 300 [(4, .int x4)] [.ref 61] (mH h s) Q := by
  unfold mf_330_300 at hf
  exact mb_330_300 hh  (mr_330_301 hh hf k)
def mf_330_296 (N : Nat) (x4 : Int32) (s : mS) : mO := mf_330_301 N x4 3 s
theorem mr_330_296 {X : Nat → Option zz_C} {h : zz_H} (hh : 111 ≤ h.length) {d : Nat} {N : Nat} {Q : Option Value → zz_H → Prop} {x4 : Int32} {s s' : mS} {v : Option Value} (hf : mf_330_296 N x4 s = some (s', v)) (k : Q v (mH h s')) : zz_E zp_P zt_tf zt_fd X (d + 4) zm_330 296 [(4, .int x4)] [.ref 61] (mH h s) Q := by
  unfold mf_330_296 at hf
  exact mb_330_296 hh  (mr_330_301 hh hf k)
def mf_330_290 (N : Nat) (x1 : Int32) (x4 : Int32) (s : mS) : mO := if ¬ x1 = 2 then mf_330_300 N x4 s else mf_330_296 N x4 s
theorem mr_330_290 {X : Nat → Option zz_C} {h : zz_H} (hh : 111 ≤ h.length) {d : Nat} {N : Nat} {Q : Option Value → zz_H → Prop} {x1 : Int32} {x4 : Int32} {s s' : mS} {v : Option Value} (hf : mf_330_290 N x1 x4 s = some (s', v)) (k : Q v (mH h s')) : zz_E zp_P zt_tf zt_fd X (d + 4) zm_330 290 [(0, .ref 61), (1, .int x1), (4, .int x4)] [] (mH h s) Q := by
  unfold mf_330_290 at hf
  refine mb_330_290 hh  (fun c => ?_) (fun c => ?_)
  · rw [if_pos c] at hf
    exact mr_330_300 hh hf k
  · rw [if_neg c] at hf
    exact mr_330_296 hh hf k
def mf_330_284 (N : Nat) (rc : Nat → Int32 → Int32 → Int32 → Int32 → mS → mO) (x1 : Int32) (x2 : Int32) (x4 : Int32) (x7 : Int32) (s : mS) : mO := rc 0 x1 x2 x4 (x7 + 1) s
theorem mr_330_284 {X : Nat → Option zz_C} {h : zz_H} (hh : 111 ≤ h.length) {d : Nat} {N : Nat} {rc : Nat → Int32 → Int32 → Int32 → Int32 → mS → mO} (hrc0 : ∀ {Q : Option Value → zz_H → Prop} {x1 : Int32} {x2 : Int32} {x4 : Int32} {x7 : Int32} {s s' : mS} {v : Option Value}, rc 0 x1 x2 x4 x7 s = some (s', v) → Q v (mH h s') → zz_E zp_P zt_tf zt_fd X (d + 4) zm_330 262 [(0, .ref 61), (1, .int x1), (2, .int x2), (4, .int x4), (7, .int x7)] [] (mH h s) Q) {Q : Option Value → zz_H → Prop} {x1 : Int32} {x2 : Int32} {x4 : Int32} {x7 : Int32} {s s' : mS} {v : Option Value} (hf : mf_330_284 N rc x1 x2 x4 x7 s = some (s', v)) (k : Q v (mH h s')) : zz_E zp_P zt_tf zt_fd X (d + 4) zm_330 284 [(0, .ref 61), (1, .int x1), (2, .int x2), (4, .int x4), (7, .int x7)] [] (mH h s) Q := by
  unfold mf_330_284 at hf
  exact mb_330_284 hh  (hrc0 hf k)
def mf_330_281 (N : Nat) (rc : Nat → Int32 → Int32 → Int32 → Int32 → mS → mO) (x1 : Int32) (x2 : Int32) (x4 : Int32) (x7 : Int32) (y1 : Int32) (y2 : Int32) (s : mS) : mO := mo_bv (mf_291 N y1 y2 s) (fun s1 => mf_330_284 N rc x1 x2 x4 x7 s1)
theorem mr_330_281 {X : Nat → Option zz_C} {h : zz_H} (hh : 111 ≤ h.length) {d : Nat} {N : Nat} {rc : Nat → Int32 → Int32 → Int32 → Int32 → mS → mO} (hrc0 : ∀ {Q : Option Value → zz_H → Prop} {x1 : Int32} {x2 : Int32} {x4 : Int32} {x7 : Int32} {s s' : mS} {v : Option Value}, rc 0 x1 x2 x4 x7 s = some (s', v) → Q v (mH h s') → zz_E zp_P zt_tf zt_fd X (d + 4) zm_330 262 [(0, .ref 61), (1, .int x1), (2, .int x2), (4, .int x4), (7, .int x7)] [] (mH h s) Q) {Q : Option Value → zz_H → Prop} {x1 : Int32} {x2 : Int32} {x4 : Int32} {x7 : Int32} {y1 : Int32} {y2 : Int32} {s s' : mS} {v : Option Value} (hf : mf_330_281 N rc x1 x2 x4 x7 y1 y2 s = some (s', v)) (k : Q v (mH h s')) : zz_E zp_P zt_tf zt_fd X (d + 4) zm_330 281 [(0, .ref 61), (1, .int x1), (2, .int x2), (4, .int x4), (7, .int x7)] [.int y2, .int y1, .ref 61] (mH h s) Q := by
  unfold mf_330_281 at hf
  obtain ⟨s1, e, hf⟩ := mo_bv_ok hf
  exact mb_330_281 (d := d + 3) hh  (mr_291 (d := d + 3) hh e (mr_330_284 hh hrc0 hf k))
def mf_330_275 (N : Nat) (rc : Nat → Int32 → Int32 → Int32 → Int32 → mS → mO) (x1 : Int32) (x2 : Int32) (x4 : Int32) (x7 : Int32) (y1 : Int32) (s : mS) : mO := mf_330_281 N rc x1 x2 x4 x7 y1 x7 s
theorem mr_330_275 {X : Nat → Option zz_C} {h : zz_H} (hh : 111 ≤ h.length) {d : Nat} {N : Nat} {rc : Nat → Int32 → Int32 → Int32 → Int32 → mS → mO} (hrc0 : ∀ {Q : Option Value → zz_H → Prop} {x1 : Int32} {x2 : Int32} {x4 : Int32} {x7 : Int32} {s s' : mS} {v : Option Value}, rc 0 x1 x2 x4 x7 s = some (s', v) → Q v (mH h s') → zz_E zp_P zt_tf zt_fd X (d + 4) zm_330 262 [(0, .ref 61), (1, .int x1), (2, .int x2), (4, .int x4), (7, .int x7)] [] (mH h s) Q) {Q : Option Value → zz_H → Prop} {x1 : Int32} {x2 : Int32} {x4 : Int32} {x7 : Int32} {y1 : Int32} {s s' : mS} {v : Option Value} (hf : mf_330_275 N rc x1 x2 x4 x7 y1 s = some (s', v)) (k : Q v (mH h s')) : zz_E zp_P zt_tf zt_fd X (d + 4) zm_330 275 [(0, .ref 61), (1, .int x1), (2, .int x2), (4, .int x4), (7, .int x7)] [.int y1, .ref 61] (mH h s) Q := by
  unfold mf_330_275 at hf
  exact mb_330_275 hh  (mr_330_281 hh hrc0 hf k)
def mf_330_280 (N : Nat) (rc : Nat → Int32 → Int32 → Int32 → Int32 → mS → mO) (x1 : Int32) (x2 : Int32) (x4 : Int32) (x7 : Int32) (y1 : Int32) (s : mS) : mO := mf_330_281 N rc x1 x2 x4 x7 y1 0 s
theorem mr_330_280 {X : Nat → Option zz_C} {h : zz_H} (hh : 111 ≤ h.length) {d : Nat} {N : Nat} {rc : Nat → Int32 → Int32 → Int32 → Int32 → mS → mO} (hrc0 : ∀ {Q : Option Value → zz_H → Prop} {x1 : Int32} {x2 : Int32} {x4 : Int32} {x7 : Int32} {s s' : mS} {v : Option Value}, rc 0 x1 x2 x4 x7 s = some (s', v) → Q v (mH h s') → zz_E zp_P zt_tf zt_fd X (d + 4) zm_330 262 [(0, .ref 61), (1, .int x1), (2, .int x2), (4, .int x4), (7, .int x7)] [] (mH h s) Q) {Q : Option Value → zz_H → Prop} {x1 : Int32} {x2 : Int32} {x4 : Int32} {x7 : Int32} {y1 : Int32} {s s' : mS} {v : Option Value} (hf : mf_330_280 N rc x1 x2 x4 x7 y1 s = some (s', v)) (k : Q v (mH h s')) : zz_E zp_P zt_tf zt_fd X (d + 4) zm_330 280 [(0, .ref 61), (1, .int x1), (2, .int x2), (4, .int x4), (7, .int x7)] [.int y1, .ref 61] (mH h s) Q := by
  unfold mf_330_280 at hf
  exact mb_330_280 hh  (mr_330_281 hh hrc0 hf k)
def mf_330_268 (N : Nat) (rc : Nat → Int32 → Int32 → Int32 → Int32 → mS → mO) (x1 : Int32) (x2 : Int32) (x4 : Int32) (x7 : Int32) (s : mS) : mO := if ¬ x1 = 1 then mf_330_280 N rc x1 x2 x4 x7 0 s else mf_330_275 N rc x1 x2 x4 x7 0 s
theorem mr_330_268 {X : Nat → Option zz_C} {h : zz_H} (hh : 111 ≤ h.length) {d : Nat} {N : Nat} {rc : Nat → Int32 → Int32 → Int32 → Int32 → mS → mO} (hrc0 : ∀ {Q : Option Value → zz_H → Prop} {x1 : Int32} {x2 : Int32} {x4 : Int32} {x7 : Int32} {s s' : mS} {v : Option Value}, rc 0 x1 x2 x4 x7 s = some (s', v) → Q v (mH h s') → zz_E zp_P zt_tf zt_fd X (d + 4) zm_330 262 [(0, .ref 61), (1, .int x1), (2, .int x2), (4, .int x4), (7, .int x7)] [] (mH h s) Q) {Q : Option Value → zz_H → Prop} {x1 : Int32} {x2 : Int32} {x4 : Int32} {x7 : Int32} {s s' : mS} {v : Option Value} (hf : mf_330_268 N rc x1 x2 x4 x7 s = some (s', v)) (k : Q v (mH h s')) : zz_E zp_P zt_tf zt_fd X (d + 4) zm_330 268 [(0, .ref 61), (1, .int x1), (2, .int x2), (4, .int x4), (7, .int x7)] [] (mH h s) Q := by
  unfold mf_330_268 at hf
  refine mb_330_268 hh  (fun c => ?_) (fun c => ?_)
  · rw [if_pos c] at hf
    exact mr_330_280 hh hrc0 hf k
  · rw [if_neg c] at hf
    exact mr_330_275 hh hrc0 hf k
def mf_330_262 (N : Nat) (rc : Nat → Int32 → Int32 → Int32 → Int32 → mS → mO) (x1 : Int32) (x2 : Int32) (x4 : Int32) (x7 : Int32) (s : mS) : mO := if x2 ≤ x7 then mf_330_290 N x1 x4 s else mf_330_268 N rc x1 x2 x4 x7 s
theorem mr_330_262 {X : Nat → Option zz_C} {h : zz_H} (hh : 111 ≤ h.length) {d : Nat} {N : Nat} {rc : Nat → Int32 → Int32 → Int32 → Int32 → mS → mO} (hrc0 : ∀ {Q : Option Value → zz_H → Prop} {x1 : Int32} {x2 : Int32} {x4 : Int32} {x7 : Int32} {s s' : mS} {v : Option Value}, rc 0 x1 x2 x4 x7 s = some (s', v) → Q v (mH h s') → zz_E zp_P zt_tf zt_fd X (d + 4) zm_330 262 [(0, .ref 61), (1, .int x1), (2, .int x2), (4, .int x4), (7, .int x7)] [] (mH h s) Q) {Q : Option Value → zz_H → Prop} {x1 : Int32} {x2 : Int32} {x4 : Int32} {x7 : Int32} {s s' : mS} {v : Option Value} (hf : mf_330_262 N rc x1 x2 x4 x7 s = some (s', v)) (k : Q v (mH h s')) : zz_E zp_P zt_tf zt_fd X (d + 4) zm_330 262 [(0, .ref 61), (1, .int x1), (2, .int x2), (4, .int x4), (7, .int x7)] [] (mH h s) Q := by
  unfold mf_330_262 at hf
  refine mb_330_262 hh  (fun c => ?_) (fun c => ?_)
  · rw [if_pos c] at hf
    exact mr_330_290 hh hf k
  · rw [if_neg c] at hf
    exact mr_330_268 hh hrc0 hf k
def mf_330_L17 (N : Nat) : Nat → Nat → Int32 → Int32 → Int32 → Int32 → mS → mO
  | 0, _, _, _, _, _, _ => none
  | n + 1, l, x1, x2, x4, x7, s => if l = 0 then mf_330_262 N (mf_330_L17 N n) x1 x2 x4 x7 s else none
theorem mr_330_L17 {X : Nat → Option zz_C} {h : zz_H} (hh : 111 ≤ h.length) {d : Nat} {N : Nat} : ∀ n : Nat, (∀ {Q : Option Value → zz_H → Prop} {x1 : Int32} {x2 : Int32} {x4 : Int32} {x7 : Int32} {s s' : mS} {v : Option Value}, mf_330_L17 N n 0 x1 x2 x4 x7 s = some (s', v) → Q v (mH h s') → zz_E zp_P zt_tf zt_fd X (d + 4) zm_330 262 [(0, .ref 61), (1, .int x1), (2, .int x2), (4, .int x4), (7, .int x7)] [] (mH h s) Q) := by
  intro n
  induction n with
  | zero => exact (fun hf _ => by cases hf)
  | succ n ih =>
    have h0 := @ih
    intro Q _ _ _ _ s s' v hf k
    unfold mf_330_L17 at hf
    rw [if_pos rfl] at hf
    exact mr_330_262 hh h0 hf k
def mf_330_259 (N : Nat) (x1 : Int32) (x2 : Int32) (x4 : Int32) (s : mS) : mO := mf_330_L17 N N 0 x1 x2 x4 0 s
theorem mr_330_259 {X : Nat → Option zz_C} {h : zz_H} (hh : 111 ≤ h.length) {d : Nat} {N : Nat} {Q : Option Value → zz_H → Prop} {x1 : Int32} {x2 : Int32} {x4 : Int32} {s s' : mS} {v : Option Value} (hf : mf_330_259 N x1 x2 x4 s = some (s', v)) (k : Q v (mH h s')) : zz_E zp_P zt_tf zt_fd X (d + 4) zm_330 259 [(0, .ref 61), (1, .int x1), (2, .int x2), (4, .int x4)] [] (mH h s) Q := by
  unfold mf_330_259 at hf
  exact mb_330_259 hh  (mr_330_L17 hh N hf k)
def mf_330_248 (N : Nat) (x1 : Int32) (x2 : Int32) (x3 : Int32) (x4 : Int32) (s : mS) : mO := if 3 ≤ x1 then mf_330_307 N x1 x2 x3 x4 (mI s 51 x4) else mf_330_259 N x1 x2 x4 (mI s 51 x4)
theorem mr_330_248 {X : Nat → Option zz_C} {h : zz_H} (hh : 111 ≤ h.length) {d : Nat} {N : Nat} {Q : Option Value → zz_H → Prop} {x1 : Int32} {x2 : Int32} {x3 : Int32} {x4 : Int32} {s s' : mS} {v : Option Value} (hf : mf_330_248 N x1 x2 x3 x4 s = some (s', v)) (k : Q v (mH h s')) : zz_E zp_P zt_tf zt_fd X (d + 4) zm_330 248 [(0, .ref 61), (1, .int x1), (2, .int x2), (3, .int x3), (4, .int x4)] [] (mH h s) Q := by
  unfold mf_330_248 at hf
  refine mb_330_248 hh  (fun c => ?_) (fun c => ?_)
  · rw [if_pos c] at hf
    exact mr_330_307 hh hf k
  · rw [if_neg c] at hf
    exact mr_330_259 hh hf k
def mf_330_224 (N : Nat) (x1 : Int32) (x2 : Int32) (x3 : Int32) (x4 : Int32) (x5 : Int32) (x6 : Int32) (s : mS) : mO := if 0 ≤ x5 then mf_330_248 N x1 x2 x3 x4 s else mf_330_229 N x6 s
theorem mr_330_224 {X : Nat → Option zz_C} {h : zz_H} (hh : 111 ≤ h.length) {d : Nat} {N : Nat} {Q : Option Value → zz_H → Prop} {x1 : Int32} {x2 : Int32} {x3 : Int32} {x4 : Int32} {x5 : Int32} {x6 : Int32} {s s' : mS} {v : Option Value} (hf : mf_330_224 N x1 x2 x3 x4 x5 x6 s = some (s', v)) (k : Q v (mH h s')) : zz_E zp_P zt_tf zt_fd X (d + 4) zm_330 224 [(0, .ref 61), (1, .int x1), (2, .int x2), (3, .int x3), (4, .int x4), (5, .int x5), (6, .int x6)] [] (mH h s) Q := by
  unfold mf_330_224 at hf
  refine mb_330_224 hh  (fun c => ?_) (fun c => ?_)
  · rw [if_pos c] at hf
    exact mr_330_248 hh hf k
  · rw [if_neg c] at hf
    exact mr_330_229 hh hf k
def mf_330_219 (N : Nat) (x1 : Int32) (x2 : Int32) (x3 : Int32) (x4 : Int32) (x5 : Int32) (x6 : Int32) (s : mS) : mO := if ¬ x6 = 0 then mf_330_229 N x6 s else mf_330_224 N x1 x2 x3 x4 x5 x6 s
theorem mr_330_219 {X : Nat → Option zz_C} {h : zz_H} (hh : 111 ≤ h.length) {d : Nat} {N : Nat} {Q : Option Value → zz_H → Prop} {x1 : Int32} {x2 : Int32} {x3 : Int32} {x4 : Int32} {x5 : Int32} {x6 : Int32} {s s' : mS} {v : Option Value} (hf : mf_330_219 N x1 x2 x3 x4 x5 x6 s = some (s', v)) (k : Q v (mH h s')) : zz_E zp_P zt_tf zt_fd X (d + 4) zm_330 219 [(0, .ref 61), (1, .int x1), (2, .int x2), (3, .int x3), (4, .int x4), (5, .int x5), (6, .int x6)] [] (mH h s) Q := by
  unfold mf_330_219 at hf
  refine mb_330_219 hh  (fun c => ?_) (fun c => ?_)
  · rw [if_pos c] at hf
    exact mr_330_229 hh hf k
  · rw [if_neg c] at hf
    exact mr_330_224 hh hf k
def mf_330_217 (N : Nat) (x1 : Int32) (x2 : Int32) (x3 : Int32) (x4 : Int32) (x5 : Int32) (y0 : Int32) (s : mS) : mO := mf_330_219 N x1 x2 x3 x4 x5 y0 s
theorem mr_330_217 {X : Nat → Option zz_C} {h : zz_H} (hh : 111 ≤ h.length) {d : Nat} {N : Nat} {Q : Option Value → zz_H → Prop} {x1 : Int32} {x2 : Int32} {x3 : Int32} {x4 : Int32} {x5 : Int32} {y0 : Int32} {s s' : mS} {v : Option Value} (hf : mf_330_217 N x1 x2 x3 x4 x5 y0 s = some (s', v)) (k : Q v (mH h s')) : zz_E zp_P zt_tf zt_fd X (d + 4) zm_330 217 [(0, .ref 61), (1, .int x1), (2, .int x2), (3, .int x3), (4, .int x4), (5, .int x5)] [.int y0] (mH h s) Q := by
  unfold mf_330_217 at hf
  exact mb_330_217 hh  (mr_330_219 hh hf k)
def mf_330_212 (N : Nat) (x1 : Int32) (x2 : Int32) (x3 : Int32) (x4 : Int32) (x5 : Int32) (s : mS) : mO := mf_330_217 N x1 x2 x3 x4 x5 1 s
theorem mr_330_212 {X : Nat → Option zz_C} {h : zz_H} (hh : 111 ≤ h.length) {d : Nat} {N : Nat} {Q : Option Value → zz_H → Prop} {x1 : Int32} {x2 : Int32} {x3 : Int32} {x4 : Int32} {x5 : Int32} {s s' : mS} {v : Option Value} (hf : mf_330_212 N x1 x2 x3 x4 x5 s = some (s', v)) (k : Q v (mH h s')) : zz_E zp_P zt_tf zt_fd X (d + 4) zm_330 212 [(0, .ref 61), (1, .int x1), (2, .int x2), (3, .int x3), (4, .int x4), (5, .int x5)] [] (mH h s) Q := by
  unfold mf_330_212 at hf
  exact mb_330_212 hh  (mr_330_217 hh hf k)
def mf_330_216 (N : Nat) (x1 : Int32) (x2 : Int32) (x3 : Int32) (x4 : Int32) (x5 : Int32) (s : mS) : mO := mf_330_217 N x1 x2 x3 x4 x5 0 s
theorem mr_330_216 {X : Nat → Option zz_C} {h : zz_H} (hh : 111 ≤ h.length) {d : Nat} {N : Nat} {Q : Option Value → zz_H → Prop} {x1 : Int32} {x2 : Int32} {x3 : Int32} {x4 : Int32} {x5 : Int32} {s s' : mS} {v : Option Value} (hf : mf_330_216 N x1 x2 x3 x4 x5 s = some (s', v)) (k : Q v (mH h s')) : zz_E zp_P zt_tf zt_fd X (d + 4) zm_330 216 [(0, .ref 61), (1, .int x1), (2, .int x2), (3, .int x3), (4, .int x4), (5, .int x5)] [] (mH h s) Q := by
  unfold mf_330_216 at hf
  exact mb_330_216 hh  (mr_330_217 hh hf k)
def mf_330_204 (N : Nat) (x1 : Int32) (x2 : Int32) (x3 : Int32) (x4 : Int32) (x5 : Int32) (x7 : Int32) (s : mS) : mO := if x7 ≤ 200 then mf_330_216 N x1 x2 x3 x4 x5 s else mf_330_212 N x1 x2 x3 x4 x5 s
theorem mr_330_204 {X : Nat → Option zz_C} {h : zz_H} (hh : 111 ≤ h.length) {d : Nat} {N : Nat} {Q : Option Value → zz_H → Prop} {x1 : Int32} {x2 : Int32} {x3 : Int32} {x4 : Int32} {x5 : Int32} {x7 : Int32} {s s' : mS} {v : Option Value} (hf : mf_330_204 N x1 x2 x3 x4 x5 x7 s = some (s', v)) (k : Q v (mH h s')) : zz_E zp_P zt_tf zt_fd X (d + 4) zm_330 204 [(0, .ref 61), (1, .int x1), (2, .int x2), (3, .int x3), (4, .int x4), (5, .int x5), (7, .int x7)] [] (mH h s) Q := by
  unfold mf_330_204 at hf
  refine mb_330_204 hh  (fun c => ?_) (fun c => ?_)
  · rw [if_pos c] at hf
    exact mr_330_216 hh hf k
  · rw [if_neg c] at hf
    exact mr_330_212 hh hf k
def mf_330_199 (N : Nat) (x1 : Int32) (x2 : Int32) (x3 : Int32) (x4 : Int32) (x5 : Int32) (x6 : Int32) (x7 : Int32) (s : mS) : mO := if ¬ x6 = 0 then mf_330_212 N x1 x2 x3 x4 x5 s else mf_330_204 N x1 x2 x3 x4 x5 x7 s
theorem mr_330_199 {X : Nat → Option zz_C} {h : zz_H} (hh : 111 ≤ h.length) {d : Nat} {N : Nat} {Q : Option Value → zz_H → Prop} {x1 : Int32} {x2 : Int32} {x3 : Int32} {x4 : Int32} {x5 : Int32} {x6 : Int32} {x7 : Int32} {s s' : mS} {v : Option Value} (hf : mf_330_199 N x1 x2 x3 x4 x5 x6 x7 s = some (s', v)) (k : Q v (mH h s')) : zz_E zp_P zt_tf zt_fd X (d + 4) zm_330 199 [(0, .ref 61), (1, .int x1), (2, .int x2), (3, .int x3), (4, .int x4), (5, .int x5), (6, .int x6), (7, .int x7)] [] (mH h s) Q := by
  unfold mf_330_199 at hf
  refine mb_330_199 hh  (fun c => ?_) (fun c => ?_)
  · rw [if_pos c] at hf
    exact mr_330_212 hh hf k
  · rw [if_neg c] at hf
    exact mr_330_204 hh hf k
def mf_330_191 (N : Nat) (rc : Nat → Int32 → Int32 → Int32 → Int32 → Int32 → Int32 → Int32 → Int32 → mS → mO) (x1 : Int32) (x2 : Int32) (x3 : Int32) (x4 : Int32) (x6 : Int32) (x7 : Int32) (x8 : Int32) (y0 : Int32) (s : mS) : mO := rc 0 x1 x2 x3 x4 y0 x6 x7 (x8 + 1) s
theorem mr_330_191 {X : Nat → Option zz_C} {h : zz_H} (hh : 111 ≤ h.length) {d : Nat} {N : Nat} {rc : Nat → Int32 → Int32 → Int32 → Int32 → Int32 → Int32 → Int32 → Int32 → mS → mO} (hrc0 : ∀ {Q : Option Value → zz_H → Prop} {x1 : Int32} {x2 : Int32} {x3 : Int32} {x4 : Int32} {x5 : Int32} {x6 : Int32} {x7 : Int32} {x8 : Int32} {s s' : mS} {v : Option Value}, rc 0 x1 x2 x3 x4 x5 x6 x7 x8 s = some (s', v) → Q v (mH h s') → zz_E zp_P zt_tf zt_fd X (d + 4) zm_330 112 [(0, .ref 61), (1, .int x1), (2, .int x2), (3, .int x3), (4, .int x4), (5, .int x5), (6, .int x6), (7, .int x7), (8, .int x8)] [] (mH h s) Q) {Q : Option Value → zz_H → Prop} {x1 : Int32} {x2 : Int32} {x3 : Int32} {x4 : Int32} {x6 : Int32} {x7 : Int32} {x8 : Int32} {y0 : Int32} {s s' : mS} {v : Option Value} (hf : mf_330_191 N rc x1 x2 x3 x4 x6 x7 x8 y0 s = some (s', v)) (k : Q v (mH h s')) : zz_E zp_P zt_tf zt_fd X (d + 4) zm_330 191 [(0, .ref 61), (1, .int x1), (2, .int x2), (3, .int x3), (4, .int x4), (6, .int x6), (7, .int x7), (8, .int x8)] [.int y0] (mH h s) Q := by
  unfold mf_330_191 at hf
  exact mb_330_191 hh  (hrc0 hf k)
def mf_330_189 (N : Nat) (rc : Nat → Int32 → Int32 → Int32 → Int32 → Int32 → Int32 → Int32 → Int32 → mS → mO) (x1 : Int32) (x2 : Int32) (x3 : Int32) (x4 : Int32) (x5 : Int32) (x6 : Int32) (x7 : Int32) (x8 : Int32) (s : mS) : mO := mf_330_191 N rc x1 x2 x3 x4 x6 x7 x8 x5 s
theorem mr_330_189 {X : Nat → Option zz_C} {h : zz_H} (hh : 111 ≤ h.length) {d : Nat} {N : Nat} {rc : Nat → Int32 → Int32 → Int32 → Int32 → Int32 → Int32 → Int32 → Int32 → mS → mO} (hrc0 : ∀ {Q : Option Value → zz_H → Prop} {x1 : Int32} {x2 : Int32} {x3 : Int32} {x4 : Int32} {x5 : Int32} {x6 : Int32} {x7 : Int32} {x8 : Int32} {s s' : mS} {v : Option Value}, rc 0 x1 x2 x3 x4 x5 x6 x7 x8 s = some (s', v) → Q v (mH h s') → zz_E zp_P zt_tf zt_fd X (d + 4) zm_330 112 [(0, .ref 61), (1, .int x1), (2, .int x2), (3, .int x3), (4, .int x4), (5, .int x5), (6, .int x6), (7, .int x7), (8, .int x8)] [] (mH h s) Q) {Q : Option Value → zz_H → Prop} {x1 : Int32} {x2 : Int32} {x3 : Int32} {x4 : Int32} {x5 : Int32} {x6 : Int32} {x7 : Int32} {x8 : Int32} {s s' : mS} {v : Option Value} (hf : mf_330_189 N rc x1 x2 x3 x4 x5 x6 x7 x8 s = some (s', v)) (k : Q v (mH h s')) : zz_E zp_P zt_tf zt_fd X (d + 4) zm_330 189 [(0, .ref 61), (1, .int x1), (2, .int x2), (3, .int x3), (4, .int x4), (5, .int x5), (6, .int x6), (7, .int x7), (8, .int x8)] [] (mH h s) Q := by
  unfold mf_330_189 at hf
  exact mb_330_189 hh  (mr_330_191 hh hrc0 hf k)
def mf_330_184 (N : Nat) (rc : Nat → Int32 → Int32 → Int32 → Int32 → Int32 → Int32 → Int32 → Int32 → mS → mO) (x1 : Int32) (x2 : Int32) (x3 : Int32) (x4 : Int32) (x6 : Int32) (x7 : Int32) (x8 : Int32) (x9 : Int32) (s : mS) : mO := mf_330_191 N rc x1 x2 x3 x4 x6 x7 x8 x9 s
theorem mr_330_184 {X : Nat → Option zz_C} {h : zz_H} (hh : 111 ≤ h.length) {d : Nat} {N : Nat} {rc : Nat → Int32 → Int32 → Int32 → Int32 → Int32 → Int32 → Int32 → Int32 → mS → mO} (hrc0 : ∀ {Q : Option Value → zz_H → Prop} {x1 : Int32} {x2 : Int32} {x3 : Int32} {x4 : Int32} {x5 : Int32} {x6 : Int32} {x7 : Int32} {x8 : Int32} {s s' : mS} {v : Option Value}, rc 0 x1 x2 x3 x4 x5 x6 x7 x8 s = some (s', v) → Q v (mH h s') → zz_E zp_P zt_tf zt_fd X (d + 4) zm_330 112 [(0, .ref 61), (1, .int x1), (2, .int x2), (3, .int x3), (4, .int x4), (5, .int x5), (6, .int x6), (7, .int x7), (8, .int x8)] [] (mH h s) Q) {Q : Option Value → zz_H → Prop} {x1 : Int32} {x2 : Int32} {x3 : Int32} {x4 : Int32} {x6 : Int32} {x7 : Int32} {x8 : Int32} {x9 : Int32} {s s' : mS} {v : Option Value} (hf : mf_330_184 N rc x1 x2 x3 x4 x6 x7 x8 x9 s = some (s', v)) (k : Q v (mH h s')) : zz_E zp_P zt_tf zt_fd X (d + 4) zm_330 184 [(0, .ref 61), (1, .int x1), (2, .int x2), (3, .int x3), (4, .int x4), (6, .int x6), (7, .int x7), (8, .int x8), (9, .int x9)] [] (mH h s) Q := by
  unfold mf_330_184 at hf
  exact mb_330_184 hh  (mr_330_191 hh hrc0 hf k)
def mf_330_174 (N : Nat) (rc : Nat → Int32 → Int32 → Int32 → Int32 → Int32 → Int32 → Int32 → Int32 → mS → mO) (x1 : Int32) (x2 : Int32) (x3 : Int32) (x4 : Int32) (x5 : Int32) (x6 : Int32) (x8 : Int32) (x9 : Int32) (y0 : Int32) (y1 : Int32) (s : mS) : mO := if x5 ≤ x9 then mf_330_189 N rc x1 x2 x3 x4 x5 x6 (y0 + y1) x8 s else mf_330_184 N rc x1 x2 x3 x4 x6 (y0 + y1) x8 x9 s
theorem mr_330_174 {X : Nat → Option zz_C} {h : zz_H} (hh : 111 ≤ h.length) {d : Nat} {N : Nat} {rc : Nat → Int32 → Int32 → Int32 → Int32 → Int32 → Int32 → Int32 → Int32 → mS → mO} (hrc0 : ∀ {Q : Option Value → zz_H → Prop} {x1 : Int32} {x2 : Int32} {x3 : Int32} {x4 : Int32} {x5 : Int32} {x6 : Int32} {x7 : Int32} {x8 : Int32} {s s' : mS} {v : Option Value}, rc 0 x1 x2 x3 x4 x5 x6 x7 x8 s = some (s', v) → Q v (mH h s') → zz_E zp_P zt_tf zt_fd X (d + 4) zm_330 112 [(0, .ref 61), (1, .int x1), (2, .int x2), (3, .int x3), (4, .int x4), (5, .int x5), (6, .int x6), (7, .int x7), (8, .int x8)] [] (mH h s) Q) {Q : Option Value → zz_H → Prop} {x1 : Int32} {x2 : Int32} {x3 : Int32} {x4 : Int32} {x5 : Int32} {x6 : Int32} {x8 : Int32} {x9 : Int32} {y0 : Int32} {y1 : Int32} {s s' : mS} {v : Option Value} (hf : mf_330_174 N rc x1 x2 x3 x4 x5 x6 x8 x9 y0 y1 s = some (s', v)) (k : Q v (mH h s')) : zz_E zp_P zt_tf zt_fd X (d + 4) zm_330 174 [(0, .ref 61), (1, .int x1), (2, .int x2), (3, .int x3), (4, .int x4), (5, .int x5), (6, .int x6), (8, .int x8), (9, .int x9)] [.int y1, .int y0] (mH h s) Q := by
  unfold mf_330_174 at hf
  refine mb_330_174 hh  (fun c => ?_) (fun c => ?_)
  · rw [if_pos c] at hf
    exact mr_330_189 hh hrc0 hf k
  · rw [if_neg c] at hf
    exact mr_330_184 hh hrc0 hf k
def mf_330_173 (N : Nat) (rc : Nat → Int32 → Int32 → Int32 → Int32 → Int32 → Int32 → Int32 → Int32 → mS → mO) (x1 : Int32) (x2 : Int32) (x3 : Int32) (x4 : Int32) (x5 : Int32) (x6 : Int32) (x8 : Int32) (x9 : Int32) (y0 : Int32) (s : mS) : mO := mf_330_174 N rc x1 x2 x3 x4 x5 x6 x8 x9 y0 0 s
theorem mr_330_173 {X : Nat → Option zz_C} {h : zz_H} (hh : 111 ≤ h.length) {d : Nat} {N : Nat} {rc : Nat → Int32 → Int32 → Int32 → Int32 → Int32 → Int32 → Int32 → Int32 → mS → mO} (hrc0 : ∀ {Q : Option Value → zz_H → Prop} {x1 : Int32} {x2 : Int32} {x3 : Int32} {x4 : Int32} {x5 : Int32} {x6 : Int32} {x7 : Int32} {x8 : Int32} {s s' : mS} {v : Option Value}, rc 0 x1 x2 x3 x4 x5 x6 x7 x8 s = some (s', v) → Q v (mH h s') → zz_E zp_P zt_tf zt_fd X (d + 4) zm_330 112 [(0, .ref 61), (1, .int x1), (2, .int x2), (3, .int x3), (4, .int x4), (5, .int x5), (6, .int x6), (7, .int x7), (8, .int x8)] [] (mH h s) Q) {Q : Option Value → zz_H → Prop} {x1 : Int32} {x2 : Int32} {x3 : Int32} {x4 : Int32} {x5 : Int32} {x6 : Int32} {x8 : Int32} {x9 : Int32} {y0 : Int32} {s s' : mS} {v : Option Value} (hf : mf_330_173 N rc x1 x2 x3 x4 x5 x6 x8 x9 y0 s = some (s', v)) (k : Q v (mH h s')) : zz_E zp_P zt_tf zt_fd X (d + 4) zm_330 173 [(0, .ref 61), (1, .int x1), (2, .int x2), (3, .int x3), (4, .int x4), (5, .int x5), (6, .int x6), (8, .int x8), (9, .int x9)] [.int y0] (mH h s) Q := by
  unfold mf_330_173 at hf
  exact mb_330_173 hh  (mr_330_174 hh hrc0 hf k)
def mf_330_168 (N : Nat) (rc : Nat → Int32 → Int32 → Int32 → Int32 → Int32 → Int32 → Int32 → Int32 → mS → mO) (x1 : Int32) (x2 : Int32) (x3 : Int32) (x4 : Int32) (x5 : Int32) (x6 : Int32) (x8 : Int32) (x9 : Int32) (y0 : Int32) (s : mS) : mO := mf_330_174 N rc x1 x2 x3 x4 x5 x6 x8 x9 y0 x9 s
theorem mr_330_168 {X : Nat → Option zz_C} {h : zz_H} (hh : 111 ≤ h.length) {d : Nat} {N : Nat} {rc : Nat → Int32 → Int32 → Int32 → Int32 → Int32 → Int32 → Int32 → Int32 → mS → mO} (hrc0 : ∀ {Q : Option Value → zz_H → Prop} {x1 : Int32} {x2 : Int32} {x3 : Int32} {x4 : Int32} {x5 : Int32} {x6 : Int32} {x7 : Int32} {x8 : Int32} {s s' : mS} {v : Option Value}, rc 0 x1 x2 x3 x4 x5 x6 x7 x8 s = some (s', v) → Q v (mH h s') → zz_E zp_P zt_tf zt_fd X (d + 4) zm_330 112 [(0, .ref 61), (1, .int x1), (2, .int x2), (3, .int x3), (4, .int x4), (5, .int x5), (6, .int x6), (7, .int x7), (8, .int x8)] [] (mH h s) Q) {Q : Option Value → zz_H → Prop} {x1 : Int32} {x2 : Int32} {x3 : Int32} {x4 : Int32} {x5 : Int32} {x6 : Int32} {x8 : Int32} {x9 : Int32} {y0 : Int32} {s s' : mS} {v : Option Value} (hf : mf_330_168 N rc x1 x2 x3 x4 x5 x6 x8 x9 y0 s = some (s', v)) (k : Q v (mH h s')) : zz_E zp_P zt_tf zt_fd X (d + 4) zm_330 168 [(0, .ref 61), (1, .int x1), (2, .int x2), (3, .int x3), (4, .int x4), (5, .int x5), (6, .int x6), (8, .int x8), (9, .int x9)] [.int y0] (mH h s) Q := by
  unfold mf_330_168 at hf
  exact mb_330_168 hh  (mr_330_174 hh hrc0 hf k)
def mf_330_161 (N : Nat) (rc : Nat → Int32 → Int32 → Int32 → Int32 → Int32 → Int32 → Int32 → Int32 → mS → mO) (x1 : Int32) (x2 : Int32) (x3 : Int32) (x4 : Int32) (x5 : Int32) (x6 : Int32) (x8 : Int32) (x9 : Int32) (y0 : Int32) (s : mS) : mO := if 64 < x9 then mf_330_173 N rc x1 x2 x3 x4 x5 x6 x8 x9 y0 s else mf_330_168 N rc x1 x2 x3 x4 x5 x6 x8 x9 y0 s
theorem mr_330_161 {X : Nat → Option zz_C} {h : zz_H} (hh : 111 ≤ h.length) {d : Nat} {N : Nat} {rc : Nat → Int32 → Int32 → Int32 → Int32 → Int32 → Int32 → Int32 → Int32 → mS → mO} (hrc0 : ∀ {Q : Option Value → zz_H → Prop} {x1 : Int32} {x2 : Int32} {x3 : Int32} {x4 : Int32} {x5 : Int32} {x6 : Int32} {x7 : Int32} {x8 : Int32} {s s' : mS} {v : Option Value}, rc 0 x1 x2 x3 x4 x5 x6 x7 x8 s = some (s', v) → Q v (mH h s') → zz_E zp_P zt_tf zt_fd X (d + 4) zm_330 112 [(0, .ref 61), (1, .int x1), (2, .int x2), (3, .int x3), (4, .int x4), (5, .int x5), (6, .int x6), (7, .int x7), (8, .int x8)] [] (mH h s) Q) {Q : Option Value → zz_H → Prop} {x1 : Int32} {x2 : Int32} {x3 : Int32} {x4 : Int32} {x5 : Int32} {x6 : Int32} {x8 : Int32} {x9 : Int32} {y0 : Int32} {s s' : mS} {v : Option Value} (hf : mf_330_161 N rc x1 x2 x3 x4 x5 x6 x8 x9 y0 s = some (s', v)) (k : Q v (mH h s')) : zz_E zp_P zt_tf zt_fd X (d + 4) zm_330 161 [(0, .ref 61), (1, .int x1), (2, .int x2), (3, .int x3), (4, .int x4), (5, .int x5), (6, .int x6), (8, .int x8), (9, .int x9)] [.int y0] (mH h s) Q := by
  unfold mf_330_161 at hf
  refine mb_330_161 hh  (fun c => ?_) (fun c => ?_)
  · rw [if_pos c] at hf
    exact mr_330_173 hh hrc0 hf k
  · rw [if_neg c] at hf
    exact mr_330_168 hh hrc0 hf k
def mf_330_152 (N : Nat) (rc : Nat → Int32 → Int32 → Int32 → Int32 → Int32 → Int32 → Int32 → Int32 → mS → mO) (x1 : Int32) (x2 : Int32) (x3 : Int32) (x4 : Int32) (x5 : Int32) (x7 : Int32) (x8 : Int32) (x9 : Int32) (y0 : Int32) (s : mS) : mO := if x9 ≤ 0 then mf_330_173 N rc x1 x2 x3 x4 x5 y0 x8 x9 x7 s else mf_330_161 N rc x1 x2 x3 x4 x5 y0 x8 x9 x7 s
theorem mr_330_152 {X : Nat → Option zz_C} {h : zz_H} (hh : 111 ≤ h.length) {d : Nat} {N : Nat} {rc : Nat → Int32 → Int32 → Int32 → Int32 → Int32 → Int32 → Int32 → Int32 → mS → mO} (hrc0 : ∀ {Q : Option Value → zz_H → Prop} {x1 : Int32} {x2 : Int32} {x3 : Int32} {x4 : Int32} {x5 : Int32} {x6 : Int32} {x7 : Int32} {x8 : Int32} {s s' : mS} {v : Option Value}, rc 0 x1 x2 x3 x4 x5 x6 x7 x8 s = some (s', v) → Q v (mH h s') → zz_E zp_P zt_tf zt_fd X (d + 4) zm_330 112 [(0, .ref 61), (1, .int x1), (2, .int x2), (3, .int x3), (4, .int x4), (5, .int x5), (6, .int x6), (7, .int x7), (8, .int x8)] [] (mH h s) Q) {Q : Option Value → zz_H → Prop} {x1 : Int32} {x2 : Int32} {x3 : Int32} {x4 : Int32} {x5 : Int32} {x7 : Int32} {x8 : Int32} {x9 : Int32} {y0 : Int32} {s s' : mS} {v : Option Value} (hf : mf_330_152 N rc x1 x2 x3 x4 x5 x7 x8 x9 y0 s = some (s', v)) (k : Q v (mH h s')) : zz_E zp_P zt_tf zt_fd X (d + 4) zm_330 152 [(0, .ref 61), (1, .int x1), (2, .int x2), (3, .int x3), (4, .int x4), (5, .int x5), (7, .int x7), (8, .int x8), (9, .int x9)] [.int y0] (mH h s) Q := by
  unfold mf_330_152 at hf
  refine mb_330_152 hh  (fun c => ?_) (fun c => ?_)
  · rw [if_pos c] at hf
    exact mr_330_173 hh hrc0 hf k
  · rw [if_neg c] at hf
    exact mr_330_161 hh hrc0 hf k
def mf_330_147 (N : Nat) (rc : Nat → Int32 → Int32 → Int32 → Int32 → Int32 → Int32 → Int32 → Int32 → mS → mO) (x1 : Int32) (x2 : Int32) (x3 : Int32) (x4 : Int32) (x5 : Int32) (x7 : Int32) (x8 : Int32) (x9 : Int32) (s : mS) : mO := mf_330_152 N rc x1 x2 x3 x4 x5 x7 x8 x9 1 s
theorem mr_330_147 {X : Nat → Option zz_C} {h : zz_H} (hh : 111 ≤ h.length) {d : Nat} {N : Nat} {rc : Nat → Int32 → Int32 → Int32 → Int32 → Int32 → Int32 → Int32 → Int32 → mS → mO} (hrc0 : ∀ {Q : Option Value → zz_H → Prop} {x1 : Int32} {x2 : Int32} {x3 : Int32} {x4 : Int32} {x5 : Int32} {x6 : Int32} {x7 : Int32} {x8 : Int32} {s s' : mS} {v : Option Value}, rc 0 x1 x2 x3 x4 x5 x6 x7 x8 s = some (s', v) → Q v (mH h s') → zz_E zp_P zt_tf zt_fd X (d + 4) zm_330 112 [(0, .ref 61), (1, .int x1), (2, .int x2), (3, .int x3), (4, .int x4), (5, .int x5), (6, .int x6), (7, .int x7), (8, .int x8)] [] (mH h s) Q) {Q : Option Value → zz_H → Prop} {x1 : Int32} {x2 : Int32} {x3 : Int32} {x4 : Int32} {x5 : Int32} {x7 : Int32} {x8 : Int32} {x9 : Int32} {s s' : mS} {v : Option Value} (hf : mf_330_147 N rc x1 x2 x3 x4 x5 x7 x8 x9 s = some (s', v)) (k : Q v (mH h s')) : zz_E zp_P zt_tf zt_fd X (d + 4) zm_330 147 [(0, .ref 61), (1, .int x1), (2, .int x2), (3, .int x3), (4, .int x4), (5, .int x5), (7, .int x7), (8, .int x8), (9, .int x9)] [] (mH h s) Q := by
  unfold mf_330_147 at hf
  exact mb_330_147 hh  (mr_330_152 hh hrc0 hf k)
def mf_330_151 (N : Nat) (rc : Nat → Int32 → Int32 → Int32 → Int32 → Int32 → Int32 → Int32 → Int32 → mS → mO) (x1 : Int32) (x2 : Int32) (x3 : Int32) (x4 : Int32) (x5 : Int32) (x7 : Int32) (x8 : Int32) (x9 : Int32) (s : mS) : mO := mf_330_152 N rc x1 x2 x3 x4 x5 x7 x8 x9 0 s
theorem mr_330_151 {X : Nat → Option zz_C} {h : zz_H} (hh : 111 ≤ h.length) {d : Nat} {N : Nat} {rc : Nat → Int32 → Int32 → Int32 → Int32 → Int32 → Int32 → Int32 → Int32 → mS → mO} (hrc0 : ∀ {Q : Option Value → zz_H → Prop} {x1 : Int32} {x2 : Int32} {x3 : Int32} {x4 : Int32} {x5 : Int32} {x6 : Int32} {x7 : Int32} {x8 : Int32} {s s' : mS} {v : Option Value}, rc 0 x1 x2 x3 x4 x5 x6 x7 x8 s = some (s', v) → Q v (mH h s') → zz_E zp_P zt_tf zt_fd X (d + 4) zm_330 112 [(0, .ref 61), (1, .int x1), (2, .int x2), (3, .int x3), (4, .int x4), (5, .int x5), (6, .int x6), (7, .int x7), (8, .int x8)] [] (mH h s) Q) {Q : Option Value → zz_H → Prop} {x1 : Int32} {x2 : Int32} {x3 : Int32} {x4 : Int32} {x5 : Int32} {x7 : Int32} {x8 : Int32} {x9 : Int32} {s s' : mS} {v : Option Value} (hf : mf_330_151 N rc x1 x2 x3 x4 x5 x7 x8 x9 s = some (s', v)) (k : Q v (mH h s')) : zz_E zp_P zt_tf zt_fd X (d + 4) zm_330 151 [(0, .ref 61), (1, .int x1), (2, .int x2), (3, .int x3), (4, .int x4), (5, .int x5), (7, .int x7), (8, .int x8), (9, .int x9)] [] (mH h s) Q := by
  unfold mf_330_151 at hf
  exact mb_330_151 hh  (mr_330_152 hh hrc0 hf k)
def mf_330_127 (N : Nat) (rc : Nat → Int32 → Int32 → Int32 → Int32 → Int32 → Int32 → Int32 → Int32 → mS → mO) (x1 : Int32) (x2 : Int32) (x3 : Int32) (x4 : Int32) (x5 : Int32) (x7 : Int32) (x8 : Int32) (s : mS) : mO := if ¬ (((x2 + 2) + x8) < 0 ∨ 166300 ≤ Int32.toNatClampNeg ((x2 + 2) + x8)) then (if ((s.2.2.1 47) (Int32.toNatClampNeg ((x2 + 2) + x8))) ≤ 64 then mf_330_151 N rc x1 x2 x3 x4 x5 x7 x8 ((s.2.2.1 47) (Int32.toNatClampNeg ((x2 + 2) + x8))) s else mf_330_147 N rc x1 x2 x3 x4 x5 x7 x8 ((s.2.2.1 47) (Int32.toNatClampNeg ((x2 + 2) + x8))) s) else none
theorem mr_330_127 {X : Nat → Option zz_C} {h : zz_H} (hh : 111 ≤ h.length) {d : Nat} {N : Nat} {rc : Nat → Int32 → Int32 → Int32 → Int32 → Int32 → Int32 → Int32 → Int32 → mS → mO} (hrc0 : ∀ {Q : Option Value → zz_H → Prop} {x1 : Int32} {x2 : Int32} {x3 : Int32} {x4 : Int32} {x5 : Int32} {x6 : Int32} {x7 : Int32} {x8 : Int32} {s s' : mS} {v : Option Value}, rc 0 x1 x2 x3 x4 x5 x6 x7 x8 s = some (s', v) → Q v (mH h s') → zz_E zp_P zt_tf zt_fd X (d + 4) zm_330 112 [(0, .ref 61), (1, .int x1), (2, .int x2), (3, .int x3), (4, .int x4), (5, .int x5), (6, .int x6), (7, .int x7), (8, .int x8)] [] (mH h s) Q) {Q : Option Value → zz_H → Prop} {x1 : Int32} {x2 : Int32} {x3 : Int32} {x4 : Int32} {x5 : Int32} {x7 : Int32} {x8 : Int32} {s s' : mS} {v : Option Value} (hf : mf_330_127 N rc x1 x2 x3 x4 x5 x7 x8 s = some (s', v)) (k : Q v (mH h s')) : zz_E zp_P zt_tf zt_fd X (d + 4) zm_330 127 [(0, .ref 61), (1, .int x1), (2, .int x2), (3, .int x3), (4, .int x4), (5, .int x5), (7, .int x7), (8, .int x8)] [] (mH h s) Q := by
  unfold mf_330_127 at hf
  obtain ⟨q0, hf⟩ := mo_if hf
  refine mb_330_127 hh q0 (fun c => ?_) (fun c => ?_)
  · rw [if_pos c] at hf
    exact mr_330_151 hh hrc0 hf k
  · rw [if_neg c] at hf
    exact mr_330_147 hh hrc0 hf k
def mf_330_122 (N : Nat) (rc : Nat → Int32 → Int32 → Int32 → Int32 → Int32 → Int32 → Int32 → Int32 → mS → mO) (x1 : Int32) (x2 : Int32) (x3 : Int32) (x4 : Int32) (x5 : Int32) (x6 : Int32) (x7 : Int32) (x8 : Int32) (s : mS) : mO := if ¬ x6 = 0 then mf_330_199 N x1 x2 x3 x4 x5 x6 x7 s else mf_330_127 N rc x1 x2 x3 x4 x5 x7 x8 s
theorem mr_330_122 {X : Nat → Option zz_C} {h : zz_H} (hh : 111 ≤ h.length) {d : Nat} {N : Nat} {rc : Nat → Int32 → Int32 → Int32 → Int32 → Int32 → Int32 → Int32 → Int32 → mS → mO} (hrc0 : ∀ {Q : Option Value → zz_H → Prop} {x1 : Int32} {x2 : Int32} {x3 : Int32} {x4 : Int32} {x5 : Int32} {x6 : Int32} {x7 : Int32} {x8 : Int32} {s s' : mS} {v : Option Value}, rc 0 x1 x2 x3 x4 x5 x6 x7 x8 s = some (s', v) → Q v (mH h s') → zz_E zp_P zt_tf zt_fd X (d + 4) zm_330 112 [(0, .ref 61), (1, .int x1), (2, .int x2), (3, .int x3), (4, .int x4), (5, .int x5), (6, .int x6), (7, .int x7), (8, .int x8)] [] (mH h s) Q) {Q : Option Value → zz_H → Prop} {x1 : Int32} {x2 : Int32} {x3 : Int32} {x4 : Int32} {x5 : Int32} {x6 : Int32} {x7 : Int32} {x8 : Int32} {s s' : mS} {v : Option Value} (hf : mf_330_122 N rc x1 x2 x3 x4 x5 x6 x7 x8 s = some (s', v)) (k : Q v (mH h s')) : zz_E zp_P zt_tf zt_fd X (d + 4) zm_330 122 [(0, .ref 61), (1, .int x1), (2, .int x2), (3, .int x3), (4, .int x4), (5, .int x5), (6, .int x6), (7, .int x7), (8, .int x8)] [] (mH h s) Q := by
  unfold mf_330_122 at hf
  refine mb_330_122 hh  (fun c => ?_) (fun c => ?_)
  · rw [if_pos c] at hf
    exact mr_330_199 hh hf k
  · rw [if_neg c] at hf
    exact mr_330_127 hh hrc0 hf k
def mf_330_119 (N : Nat) (rc : Nat → Int32 → Int32 → Int32 → Int32 → Int32 → Int32 → Int32 → Int32 → mS → mO) (x1 : Int32) (x2 : Int32) (x3 : Int32) (x4 : Int32) (x5 : Int32) (x6 : Int32) (x7 : Int32) (x8 : Int32) (y0 : Int32) (y1 : Int32) (s : mS) : mO := if y1 ≤ y0 then mf_330_199 N x1 x2 x3 x4 x5 x6 x7 s else mf_330_122 N rc x1 x2 x3 x4 x5 x6 x7 x8 s
theorem mr_330_119 {X : Nat → Option zz_C} {h : zz_H} (hh : 111 ≤ h.length) {d : Nat} {N : Nat} {rc : Nat → Int32 → Int32 → Int32 → Int32 → Int32 → Int32 → Int32 → Int32 → mS → mO} (hrc0 : ∀ {Q : Option Value → zz_H → Prop} {x1 : Int32} {x2 : Int32} {x3 : Int32} {x4 : Int32} {x5 : Int32} {x6 : Int32} {x7 : Int32} {x8 : Int32} {s s' : mS} {v : Option Value}, rc 0 x1 x2 x3 x4 x5 x6 x7 x8 s = some (s', v) → Q v (mH h s') → zz_E zp_P zt_tf zt_fd X (d + 4) zm_330 112 [(0, .ref 61), (1, .int x1), (2, .int x2), (3, .int x3), (4, .int x4), (5, .int x5), (6, .int x6), (7, .int x7), (8, .int x8)] [] (mH h s) Q) {Q : Option Value → zz_H → Prop} {x1 : Int32} {x2 : Int32} {x3 : Int32} {x4 : Int32} {x5 : Int32} {x6 : Int32} {x7 : Int32} {x8 : Int32} {y0 : Int32} {y1 : Int32} {s s' : mS} {v : Option Value} (hf : mf_330_119 N rc x1 x2 x3 x4 x5 x6 x7 x8 y0 y1 s = some (s', v)) (k : Q v (mH h s')) : zz_E zp_P zt_tf zt_fd X (d + 4) zm_330 119 [(0, .ref 61), (1, .int x1), (2, .int x2), (3, .int x3), (4, .int x4), (5, .int x5), (6, .int x6), (7, .int x7), (8, .int x8)] [.int y1, .int y0] (mH h s) Q := by
  unfold mf_330_119 at hf
  refine mb_330_119 hh  (fun c => ?_) (fun c => ?_)
  · rw [if_pos c] at hf
    exact mr_330_199 hh hf k
  · rw [if_neg c] at hf
    exact mr_330_122 hh hrc0 hf k
def mf_330_112 (N : Nat) (rc : Nat → Int32 → Int32 → Int32 → Int32 → Int32 → Int32 → Int32 → Int32 → mS → mO) (x1 : Int32) (x2 : Int32) (x3 : Int32) (x4 : Int32) (x5 : Int32) (x6 : Int32) (x7 : Int32) (x8 : Int32) (s : mS) : mO := mo_bi (mf_77 N x2 s) (fun s1 y => mf_330_119 N rc x1 x2 x3 x4 x5 x6 x7 x8 x8 y s1)
theorem mr_330_112 {X : Nat → Option zz_C} {h : zz_H} (hh : 111 ≤ h.length) {d : Nat} {N : Nat} {rc : Nat → Int32 → Int32 → Int32 → Int32 → Int32 → Int32 → Int32 → Int32 → mS → mO} (hrc0 : ∀ {Q : Option Value → zz_H → Prop} {x1 : Int32} {x2 : Int32} {x3 : Int32} {x4 : Int32} {x5 : Int32} {x6 : Int32} {x7 : Int32} {x8 : Int32} {s s' : mS} {v : Option Value}, rc 0 x1 x2 x3 x4 x5 x6 x7 x8 s = some (s', v) → Q v (mH h s') → zz_E zp_P zt_tf zt_fd X (d + 4) zm_330 112 [(0, .ref 61), (1, .int x1), (2, .int x2), (3, .int x3), (4, .int x4), (5, .int x5), (6, .int x6), (7, .int x7), (8, .int x8)] [] (mH h s) Q) {Q : Option Value → zz_H → Prop} {x1 : Int32} {x2 : Int32} {x3 : Int32} {x4 : Int32} {x5 : Int32} {x6 : Int32} {x7 : Int32} {x8 : Int32} {s s' : mS} {v : Option Value} (hf : mf_330_112 N rc x1 x2 x3 x4 x5 x6 x7 x8 s = some (s', v)) (k : Q v (mH h s')) : zz_E zp_P zt_tf zt_fd X (d + 4) zm_330 112 [(0, .ref 61), (1, .int x1), (2, .int x2), (3, .int x3), (4, .int x4), (5, .int x5), (6, .int x6), (7, .int x7), (8, .int x8)] [] (mH h s) Q := by
  unfold mf_330_112 at hf
  obtain ⟨s1, y, e, hf⟩ := mo_bi_ok hf
  exact mb_330_112 (d := d + 3) hh  (mr_77 (d := d + 3) hh e (mr_330_119 hh hrc0 hf k))
def mf_330_L27 (N : Nat) : Nat → Nat → Int32 → Int32 → Int32 → Int32 → Int32 → Int32 → Int32 → Int32 → mS → mO
  | 0, _, _, _, _, _, _, _, _, _, _ => none
  | n + 1, l, x1, x2, x3, x4, x5, x6, x7, x8, s => if l = 0 then mf_330_112 N (mf_330_L27 N n) x1 x2 x3 x4 x5 x6 x7 x8 s else none
theorem mr_330_L27 {X : Nat → Option zz_C} {h : zz_H} (hh : 111 ≤ h.length) {d : Nat} {N : Nat} : ∀ n : Nat, (∀ {Q : Option Value → zz_H → Prop} {x1 : Int32} {x2 : Int32} {x3 : Int32} {x4 : Int32} {x5 : Int32} {x6 : Int32} {x7 : Int32} {x8 : Int32} {s s' : mS} {v : Option Value}, mf_330_L27 N n 0 x1 x2 x3 x4 x5 x6 x7 x8 s = some (s', v) → Q v (mH h s') → zz_E zp_P zt_tf zt_fd X (d + 4) zm_330 112 [(0, .ref 61), (1, .int x1), (2, .int x2), (3, .int x3), (4, .int x4), (5, .int x5), (6, .int x6), (7, .int x7), (8, .int x8)] [] (mH h s) Q) := by
  intro n
  induction n with
  | zero => exact (fun hf _ => by cases hf)
  | succ n ih =>
    have h0 := @ih
    intro Q _ _ _ _ _ _ _ _ s s' v hf k
    unfold mf_330_L27 at hf
    rw [if_pos rfl] at hf
    exact mr_330_112 hh h0 hf k
def mf_330_104 (N : Nat) (x1 : Int32) (x2 : Int32) (x3 : Int32) (x4 : Int32) (x7 : Int32) (y0 : Int32) (s : mS) : mO := mf_330_L27 N N 0 x1 x2 x3 x4 0 y0 x7 0 s
theorem mr_330_104 {X : Nat → Option zz_C} {h : zz_H} (hh : 111 ≤ h.length) {d : Nat} {N : Nat} {Q : Option Value → zz_H → Prop} {x1 : Int32} {x2 : Int32} {x3 : Int32} {x4 : Int32} {x7 : Int32} {y0 : Int32} {s s' : mS} {v : Option Value} (hf : mf_330_104 N x1 x2 x3 x4 x7 y0 s = some (s', v)) (k : Q v (mH h s')) : zz_E zp_P zt_tf zt_fd X (d + 4) zm_330 104 [(0, .ref 61), (1, .int x1), (2, .int x2), (3, .int x3), (4, .int x4), (7, .int x7)] [.int y0] (mH h s) Q := by
  unfold mf_330_104 at hf
  exact mb_330_104 hh  (mr_330_L27 hh N hf k)
def mf_330_103 (N : Nat) (x1 : Int32) (x2 : Int32) (x3 : Int32) (x4 : Int32) (x7 : Int32) (s : mS) : mO := mf_330_104 N x1 x2 x3 x4 x7 0 s
theorem mr_330_103 {X : Nat → Option zz_C} {h : zz_H} (hh : 111 ≤ h.length) {d : Nat} {N : Nat} {Q : Option Value → zz_H → Prop} {x1 : Int32} {x2 : Int32} {x3 : Int32} {x4 : Int32} {x7 : Int32} {s s' : mS} {v : Option Value} (hf : mf_330_103 N x1 x2 x3 x4 x7 s = some (s', v)) (k : Q v (mH h s')) : zz_E zp_P zt_tf zt_fd X (d + 4) zm_330 103 [(0, .ref 61), (1, .int x1), (2, .int x2), (3, .int x3), (4, .int x4), (7, .int x7)] [] (mH h s) Q := by
  unfold mf_330_103 at hf
  exact mb_330_103 hh  (mr_330_104 hh hf k)
def mf_330_99 (N : Nat) (x1 : Int32) (x2 : Int32) (x3 : Int32) (x4 : Int32) (x7 : Int32) (s : mS) : mO := mf_330_104 N x1 x2 x3 x4 x7 1 s
theorem mr_330_99 {X : Nat → Option zz_C} {h : zz_H} (hh : 111 ≤ h.length) {d : Nat} {N : Nat} {Q : Option Value → zz_H → Prop} {x1 : Int32} {x2 : Int32} {x3 : Int32} {x4 : Int32} {x7 : Int32} {s s' : mS} {v : Option Value} (hf : mf_330_99 N x1 x2 x3 x4 x7 s = some (s', v)) (k : Q v (mH h s')) : zz_E zp_P zt_tf zt_fd X (d + 4) zm_330 99 [(0, .ref 61), (1, .int x1), (2, .int x2), (3, .int x3), (4, .int x4), (7, .int x7)] [] (mH h s) Q := by
  unfold mf_330_99 at hf
  exact mb_330_99 hh  (mr_330_104 hh hf k)
def mf_330_94 (N : Nat) (x1 : Int32) (x2 : Int32) (x3 : Int32) (x4 : Int32) (x7 : Int32) (y0 : Int32) (s : mS) : mO := if y0 ≤ 20 then mf_330_103 N x1 x2 x3 x4 x7 s else mf_330_99 N x1 x2 x3 x4 x7 s
theorem mr_330_94 {X : Nat → Option zz_C} {h : zz_H} (hh : 111 ≤ h.length) {d : Nat} {N : Nat} {Q : Option Value → zz_H → Prop} {x1 : Int32} {x2 : Int32} {x3 : Int32} {x4 : Int32} {x7 : Int32} {y0 : Int32} {s s' : mS} {v : Option Value} (hf : mf_330_94 N x1 x2 x3 x4 x7 y0 s = some (s', v)) (k : Q v (mH h s')) : zz_E zp_P zt_tf zt_fd X (d + 4) zm_330 94 [(0, .ref 61), (1, .int x1), (2, .int x2), (3, .int x3), (4, .int x4), (7, .int x7)] [.int y0] (mH h s) Q := by
  unfold mf_330_94 at hf
  refine mb_330_94 hh  (fun c => ?_) (fun c => ?_)
  · rw [if_pos c] at hf
    exact mr_330_103 hh hf k
  · rw [if_neg c] at hf
    exact mr_330_99 hh hf k
def mf_330_86 (N : Nat) (x1 : Int32) (x2 : Int32) (x3 : Int32) (x4 : Int32) (s : mS) : mO := mo_bi (mf_77 N x2 s) (fun s1 y => mf_330_94 N x1 x2 x3 x4 0 y s1)
theorem mr_330_86 {X : Nat → Option zz_C} {h : zz_H} (hh : 111 ≤ h.length) {d : Nat} {N : Nat} {Q : Option Value → zz_H → Prop} {x1 : Int32} {x2 : Int32} {x3 : Int32} {x4 : Int32} {s s' : mS} {v : Option Value} (hf : mf_330_86 N x1 x2 x3 x4 s = some (s', v)) (k : Q v (mH h s')) : zz_E zp_P zt_tf zt_fd X (d + 4) zm_330 86 [(0, .ref 61), (1, .int x1), (2, .int x2), (3, .int x3), (4, .int x4)] [] (mH h s) Q := by
  unfold mf_330_86 at hf
  obtain ⟨s1, y, e, hf⟩ := mo_bi_ok hf
  exact mb_330_86 (d := d + 3) hh  (mr_77 (d := d + 3) hh e (mr_330_94 hh hf k))
def mf_330_81 (N : Nat) (x1 : Int32) (x2 : Int32) (x3 : Int32) (x4 : Int32) (x5 : Int32) (x6 : Int32) (s : mS) : mO := if ¬ x1 = 4 then mf_330_219 N x1 x2 x3 x4 x5 x6 s else mf_330_86 N x1 x2 x3 x4 s
theorem mr_330_81 {X : Nat → Option zz_C} {h : zz_H} (hh : 111 ≤ h.length) {d : Nat} {N : Nat} {Q : Option Value → zz_H → Prop} {x1 : Int32} {x2 : Int32} {x3 : Int32} {x4 : Int32} {x5 : Int32} {x6 : Int32} {s s' : mS} {v : Option Value} (hf : mf_330_81 N x1 x2 x3 x4 x5 x6 s = some (s', v)) (k : Q v (mH h s')) : zz_E zp_P zt_tf zt_fd X (d + 4) zm_330 81 [(0, .ref 61), (1, .int x1), (2, .int x2), (3, .int x3), (4, .int x4), (5, .int x5), (6, .int x6)] [] (mH h s) Q := by
  unfold mf_330_81 at hf
  refine mb_330_81 hh  (fun c => ?_) (fun c => ?_)
  · rw [if_pos c] at hf
    exact mr_330_219 hh hf k
  · rw [if_neg c] at hf
    exact mr_330_86 hh hf k
def mf_330_79 (N : Nat) (x1 : Int32) (x2 : Int32) (x3 : Int32) (x4 : Int32) (x6 : Int32) (y0 : Int32) (s : mS) : mO := mf_330_81 N x1 x2 x3 x4 y0 x6 s
theorem mr_330_79 {X : Nat → Option zz_C} {h : zz_H} (hh : 111 ≤ h.length) {d : Nat} {N : Nat} {Q : Option Value → zz_H → Prop} {x1 : Int32} {x2 : Int32} {x3 : Int32} {x4 : Int32} {x6 : Int32} {y0 : Int32} {s s' : mS} {v : Option Value} (hf : mf_330_79 N x1 x2 x3 x4 x6 y0 s = some (s', v)) (k : Q v (mH h s')) : zz_E zp_P zt_tf zt_fd X (d + 4) zm_330 79 [(0, .ref 61), (1, .int x1), (2, .int x2), (3, .int x3), (4, .int x4), (6, .int x6)] [.int y0] (mH h s) Q := by
  unfold mf_330_79 at hf
  exact mb_330_79 hh  (mr_330_81 hh hf k)
def mf_330_78 (N : Nat) (x1 : Int32) (x2 : Int32) (x3 : Int32) (x4 : Int32) (x6 : Int32) (s : mS) : mO := mf_330_79 N x1 x2 x3 x4 x6 x3 s
theorem mr_330_78 {X : Nat → Option zz_C} {h : zz_H} (hh : 111 ≤ h.length) {d : Nat} {N : Nat} {Q : Option Value → zz_H → Prop} {x1 : Int32} {x2 : Int32} {x3 : Int32} {x4 : Int32} {x6 : Int32} {s s' : mS} {v : Option Value} (hf : mf_330_78 N x1 x2 x3 x4 x6 s = some (s', v)) (k : Q v (mH h s')) : zz_E zp_P zt_tf zt_fd X (d + 4) zm_330 78 [(0, .ref 61), (1, .int x1), (2, .int x2), (3, .int x3), (4, .int x4), (6, .int x6)] [] (mH h s) Q := by
  unfold mf_330_78 at hf
  exact mb_330_78 hh  (mr_330_79 hh hf k)
def mf_330_74 (N : Nat) (x1 : Int32) (x2 : Int32) (x3 : Int32) (x4 : Int32) (x6 : Int32) (s : mS) : mO := mf_330_79 N x1 x2 x3 x4 x6 x2 s
theorem mr_330_74 {X : Nat → Option zz_C} {h : zz_H} (hh : 111 ≤ h.length) {d : Nat} {N : Nat} {Q : Option Value → zz_H → Prop} {x1 : Int32} {x2 : Int32} {x3 : Int32} {x4 : Int32} {x6 : Int32} {s s' : mS} {v : Option Value} (hf : mf_330_74 N x1 x2 x3 x4 x6 s = some (s', v)) (k : Q v (mH h s')) : zz_E zp_P zt_tf zt_fd X (d + 4) zm_330 74 [(0, .ref 61), (1, .int x1), (2, .int x2), (3, .int x3), (4, .int x4), (6, .int x6)] [] (mH h s) Q := by
  unfold mf_330_74 at hf
  exact mb_330_74 hh  (mr_330_79 hh hf k)
def mf_330_67 (N : Nat) (x1 : Int32) (x2 : Int32) (x3 : Int32) (x4 : Int32) (y0 : Int32) (s : mS) : mO := if x3 ≤ x2 then mf_330_78 N x1 x2 x3 x4 y0 s else mf_330_74 N x1 x2 x3 x4 y0 s
theorem mr_330_67 {X : Nat → Option zz_C} {h : zz_H} (hh : 111 ≤ h.length) {d : Nat} {N : Nat} {Q : Option Value → zz_H → Prop} {x1 : Int32} {x2 : Int32} {x3 : Int32} {x4 : Int32} {y0 : Int32} {s s' : mS} {v : Option Value} (hf : mf_330_67 N x1 x2 x3 x4 y0 s = some (s', v)) (k : Q v (mH h s')) : zz_E zp_P zt_tf zt_fd X (d + 4) zm_330 67 [(0, .ref 61), (1, .int x1), (2, .int x2), (3, .int x3), (4, .int x4)] [.int y0] (mH h s) Q := by
  unfold mf_330_67 at hf
  refine mb_330_67 hh  (fun c => ?_) (fun c => ?_)
  · rw [if_pos c] at hf
    exact mr_330_78 hh hf k
  · rw [if_neg c] at hf
    exact mr_330_74 hh hf k
def mf_330_62 (N : Nat) (x1 : Int32) (x2 : Int32) (x3 : Int32) (x4 : Int32) (s : mS) : mO := mf_330_67 N x1 x2 x3 x4 1 s
theorem mr_330_62 {X : Nat → Option zz_C} {h : zz_H} (hh : 111 ≤ h.length) {d : Nat} {N : Nat} {Q : Option Value → zz_H → Prop} {x1 : Int32} {x2 : Int32} {x3 : Int32} {x4 : Int32} {s s' : mS} {v : Option Value} (hf : mf_330_62 N x1 x2 x3 x4 s = some (s', v)) (k : Q v (mH h s')) : zz_E zp_P zt_tf zt_fd X (d + 4) zm_330 62 [(0, .ref 61), (1, .int x1), (2, .int x2), (3, .int x3), (4, .int x4)] [] (mH h s) Q := by
  unfold mf_330_62 at hf
  exact mb_330_62 hh  (mr_330_67 hh hf k)
def mf_330_66 (N : Nat) (x1 : Int32) (x2 : Int32) (x3 : Int32) (x4 : Int32) (s : mS) : mO := mf_330_67 N x1 x2 x3 x4 0 s
theorem mr_330_66 {X : Nat → Option zz_C} {h : zz_H} (hh : 111 ≤ h.length) {d : Nat} {N : Nat} {Q : Option Value → zz_H → Prop} {x1 : Int32} {x2 : Int32} {x3 : Int32} {x4 : Int32} {s s' : mS} {v : Option Value} (hf : mf_330_66 N x1 x2 x3 x4 s = some (s', v)) (k : Q v (mH h s')) : zz_E zp_P zt_tf zt_fd X (d + 4) zm_330 66 [(0, .ref 61), (1, .int x1), (2, .int x2), (3, .int x3), (4, .int x4)] [] (mH h s) Q := by
  unfold mf_330_66 at hf
  exact mb_330_66 hh  (mr_330_67 hh hf k)
def mf_330_50 (N : Nat) (x1 : Int32) (x2 : Int32) (x3 : Int32) (x4 : Int32) (s : mS) : mO := if (lg_cmp ((Int32.toInt64 x2) * (Int32.toInt64 x3)) 200) ≤ 0 then mf_330_66 N x1 x2 x3 x4 s else mf_330_62 N x1 x2 x3 x4 s
theorem mr_330_50 {X : Nat → Option zz_C} {h : zz_H} (hh : 111 ≤ h.length) {d : Nat} {N : Nat} {Q : Option Value → zz_H → Prop} {x1 : Int32} {x2 : Int32} {x3 : Int32} {x4 : Int32} {s s' : mS} {v : Option Value} (hf : mf_330_50 N x1 x2 x3 x4 s = some (s', v)) (k : Q v (mH h s')) : zz_E zp_P zt_tf zt_fd X (d + 4) zm_330 50 [(0, .ref 61), (1, .int x1), (2, .int x2), (3, .int x3), (4, .int x4)] [] (mH h s) Q := by
  unfold mf_330_50 at hf
  refine mb_330_50 hh  (fun c => ?_) (fun c => ?_)
  · rw [if_pos c] at hf
    exact mr_330_66 hh hf k
  · rw [if_neg c] at hf
    exact mr_330_62 hh hf k
def mf_330_46 (N : Nat) (x1 : Int32) (x2 : Int32) (x3 : Int32) (x4 : Int32) (s : mS) : mO := if x3 < 0 then mf_330_66 N x1 x2 x3 x4 s else mf_330_50 N x1 x2 x3 x4 s
theorem mr_330_46 {X : Nat → Option zz_C} {h : zz_H} (hh : 111 ≤ h.length) {d : Nat} {N : Nat} {Q : Option Value → zz_H → Prop} {x1 : Int32} {x2 : Int32} {x3 : Int32} {x4 : Int32} {s s' : mS} {v : Option Value} (hf : mf_330_46 N x1 x2 x3 x4 s = some (s', v)) (k : Q v (mH h s')) : zz_E zp_P zt_tf zt_fd X (d + 4) zm_330 46 [(0, .ref 61), (1, .int x1), (2, .int x2), (3, .int x3), (4, .int x4)] [] (mH h s) Q := by
  unfold mf_330_46 at hf
  refine mb_330_46 hh  (fun c => ?_) (fun c => ?_)
  · rw [if_pos c] at hf
    exact mr_330_66 hh hf k
  · rw [if_neg c] at hf
    exact mr_330_50 hh hf k
def mf_330_42 (N : Nat) (x1 : Int32) (x2 : Int32) (x3 : Int32) (x4 : Int32) (s : mS) : mO := if x2 < 0 then mf_330_66 N x1 x2 x3 x4 s else mf_330_46 N x1 x2 x3 x4 s
theorem mr_330_42 {X : Nat → Option zz_C} {h : zz_H} (hh : 111 ≤ h.length) {d : Nat} {N : Nat} {Q : Option Value → zz_H → Prop} {x1 : Int32} {x2 : Int32} {x3 : Int32} {x4 : Int32} {s s' : mS} {v : Option Value} (hf : mf_330_42 N x1 x2 x3 x4 s = some (s', v)) (k : Q v (mH h s')) : zz_E zp_P zt_tf zt_fd X (d + 4) zm_330 42 [(0, .ref 61), (1, .int x1), (2, .int x2), (3, .int x3), (4, .int x4)] [] (mH h s) Q := by
  unfold mf_330_42 at hf
  refine mb_330_42 hh  (fun c => ?_) (fun c => ?_)
  · rw [if_pos c] at hf
    exact mr_330_66 hh hf k
  · rw [if_neg c] at hf
    exact mr_330_46 hh hf k
def mf_330_36 (N : Nat) (x1 : Int32) (x2 : Int32) (x3 : Int32) (x4 : Int32) (s : mS) : mO := if 64 < x3 then mf_330_62 N x1 x2 x3 x4 s else mf_330_42 N x1 x2 x3 x4 s
theorem mr_330_36 {X : Nat → Option zz_C} {h : zz_H} (hh : 111 ≤ h.length) {d : Nat} {N : Nat} {Q : Option Value → zz_H → Prop} {x1 : Int32} {x2 : Int32} {x3 : Int32} {x4 : Int32} {s s' : mS} {v : Option Value} (hf : mf_330_36 N x1 x2 x3 x4 s = some (s', v)) (k : Q v (mH h s')) : zz_E zp_P zt_tf zt_fd X (d + 4) zm_330 36 [(0, .ref 61), (1, .int x1), (2, .int x2), (3, .int x3), (4, .int x4)] [] (mH h s) Q := by
  unfold mf_330_36 at hf
  refine mb_330_36 hh  (fun c => ?_) (fun c => ?_)
  · rw [if_pos c] at hf
    exact mr_330_62 hh hf k
  · rw [if_neg c] at hf
    exact mr_330_42 hh hf k
def mf_330_31 (N : Nat) (x1 : Int32) (x2 : Int32) (x3 : Int32) (x4 : Int32) (x6 : Int32) (s : mS) : mO := if ¬ x6 = 0 then mf_330_62 N x1 x2 x3 x4 s else mf_330_36 N x1 x2 x3 x4 s
theorem mr_330_31 {X : Nat → Option zz_C} {h : zz_H} (hh : 111 ≤ h.length) {d : Nat} {N : Nat} {Q : Option Value → zz_H → Prop} {x1 : Int32} {x2 : Int32} {x3 : Int32} {x4 : Int32} {x6 : Int32} {s s' : mS} {v : Option Value} (hf : mf_330_31 N x1 x2 x3 x4 x6 s = some (s', v)) (k : Q v (mH h s')) : zz_E zp_P zt_tf zt_fd X (d + 4) zm_330 31 [(0, .ref 61), (1, .int x1), (2, .int x2), (3, .int x3), (4, .int x4), (6, .int x6)] [] (mH h s) Q := by
  unfold mf_330_31 at hf
  refine mb_330_31 hh  (fun c => ?_) (fun c => ?_)
  · rw [if_pos c] at hf
    exact mr_330_62 hh hf k
  · rw [if_neg c] at hf
    exact mr_330_36 hh hf k
def mf_330_24 (N : Nat) (x1 : Int32) (x2 : Int32) (x3 : Int32) (x4 : Int32) (x5 : Int32) (y0 : Int32) (s : mS) : mO := if ¬ x1 = 3 then mf_330_81 N x1 x2 x3 x4 x5 y0 s else mf_330_31 N x1 x2 x3 x4 y0 s
theorem mr_330_24 {X : Nat → Option zz_C} {h : zz_H} (hh : 111 ≤ h.length) {d : Nat} {N : Nat} {Q : Option Value → zz_H → Prop} {x1 : Int32} {x2 : Int32} {x3 : Int32} {x4 : Int32} {x5 : Int32} {y0 : Int32} {s s' : mS} {v : Option Value} (hf : mf_330_24 N x1 x2 x3 x4 x5 y0 s = some (s', v)) (k : Q v (mH h s')) : zz_E zp_P zt_tf zt_fd X (d + 4) zm_330 24 [(0, .ref 61), (1, .int x1), (2, .int x2), (3, .int x3), (4, .int x4), (5, .int x5)] [.int y0] (mH h s) Q := by
  unfold mf_330_24 at hf
  refine mb_330_24 hh  (fun c => ?_) (fun c => ?_)
  · rw [if_pos c] at hf
    exact mr_330_81 hh hf k
  · rw [if_neg c] at hf
    exact mr_330_31 hh hf k
def mf_330_23 (N : Nat) (x1 : Int32) (x2 : Int32) (x3 : Int32) (x4 : Int32) (x5 : Int32) (s : mS) : mO := mf_330_24 N x1 x2 x3 x4 x5 0 s
theorem mr_330_23 {X : Nat → Option zz_C} {h : zz_H} (hh : 111 ≤ h.length) {d : Nat} {N : Nat} {Q : Option Value → zz_H → Prop} {x1 : Int32} {x2 : Int32} {x3 : Int32} {x4 : Int32} {x5 : Int32} {s s' : mS} {v : Option Value} (hf : mf_330_23 N x1 x2 x3 x4 x5 s = some (s', v)) (k : Q v (mH h s')) : zz_E zp_P zt_tf zt_fd X (d + 4) zm_330 23 [(0, .ref 61), (1, .int x1), (2, .int x2), (3, .int x3), (4, .int x4), (5, .int x5)] [] (mH h s) Q := by
  unfold mf_330_23 at hf
  exact mb_330_23 hh  (mr_330_24 hh hf k)
def mf_330_19 (N : Nat) (x1 : Int32) (x2 : Int32) (x3 : Int32) (x4 : Int32) (x5 : Int32) (s : mS) : mO := mf_330_24 N x1 x2 x3 x4 x5 1 s
theorem mr_330_19 {X : Nat → Option zz_C} {h : zz_H} (hh : 111 ≤ h.length) {d : Nat} {N : Nat} {Q : Option Value → zz_H → Prop} {x1 : Int32} {x2 : Int32} {x3 : Int32} {x4 : Int32} {x5 : Int32} {s s' : mS} {v : Option Value} (hf : mf_330_19 N x1 x2 x3 x4 x5 s = some (s', v)) (k : Q v (mH h s')) : zz_E zp_P zt_tf zt_fd X (d + 4) zm_330 19 [(0, .ref 61), (1, .int x1), (2, .int x2), (3, .int x3), (4, .int x4), (5, .int x5)] [] (mH h s) Q := by
  unfold mf_330_19 at hf
  exact mb_330_19 hh  (mr_330_24 hh hf k)
def mf_330_16 (N : Nat) (x1 : Int32) (x2 : Int32) (x3 : Int32) (x4 : Int32) (x5 : Int32) (y0 : Int32) (y1 : Int32) (s : mS) : mO := if y0 ≤ y1 then mf_330_23 N x1 x2 x3 x4 x5 s else mf_330_19 N x1 x2 x3 x4 x5 s
theorem mr_330_16 {X : Nat → Option zz_C} {h : zz_H} (hh : 111 ≤ h.length) {d : Nat} {N : Nat} {Q : Option Value → zz_H → Prop} {x1 : Int32} {x2 : Int32} {x3 : Int32} {x4 : Int32} {x5 : Int32} {y0 : Int32} {y1 : Int32} {s s' : mS} {v : Option Value} (hf : mf_330_16 N x1 x2 x3 x4 x5 y0 y1 s = some (s', v)) (k : Q v (mH h s')) : zz_E zp_P zt_tf zt_fd X (d + 4) zm_330 16 [(0, .ref 61), (1, .int x1), (2, .int x2), (3, .int x3), (4, .int x4), (5, .int x5)] [.int y1, .int y0] (mH h s) Q := by
  unfold mf_330_16 at hf
  refine mb_330_16 hh  (fun c => ?_) (fun c => ?_)
  · rw [if_pos c] at hf
    exact mr_330_23 hh hf k
  · rw [if_neg c] at hf
    exact mr_330_19 hh hf k
def mf_330_14 (N : Nat) (x1 : Int32) (x2 : Int32) (x3 : Int32) (x4 : Int32) (x5 : Int32) (y0 : Int32) (s : mS) : mO := mf_330_16 N x1 x2 x3 x4 x5 y0 20 s
theorem mr_330_14 {X : Nat → Option zz_C} {h : zz_H} (hh : 111 ≤ h.length) {d : Nat} {N : Nat} {Q : Option Value → zz_H → Prop} {x1 : Int32} {x2 : Int32} {x3 : Int32} {x4 : Int32} {x5 : Int32} {y0 : Int32} {s s' : mS} {v : Option Value} (hf : mf_330_14 N x1 x2 x3 x4 x5 y0 s = some (s', v)) (k : Q v (mH h s')) : zz_E zp_P zt_tf zt_fd X (d + 4) zm_330 14 [(0, .ref 61), (1, .int x1), (2, .int x2), (3, .int x3), (4, .int x4), (5, .int x5)] [.int y0] (mH h s) Q := by
  unfold mf_330_14 at hf
  exact mb_330_14 hh  (mr_330_16 hh hf k)
def mf_330_9 (N : Nat) (x1 : Int32) (x2 : Int32) (x3 : Int32) (x4 : Int32) (x5 : Int32) (y0 : Int32) (s : mS) : mO := mf_330_16 N x1 x2 x3 x4 x5 y0 64 s
theorem mr_330_9 {X : Nat → Option zz_C} {h : zz_H} (hh : 111 ≤ h.length) {d : Nat} {N : Nat} {Q : Option Value → zz_H → Prop} {x1 : Int32} {x2 : Int32} {x3 : Int32} {x4 : Int32} {x5 : Int32} {y0 : Int32} {s s' : mS} {v : Option Value} (hf : mf_330_9 N x1 x2 x3 x4 x5 y0 s = some (s', v)) (k : Q v (mH h s')) : zz_E zp_P zt_tf zt_fd X (d + 4) zm_330 9 [(0, .ref 61), (1, .int x1), (2, .int x2), (3, .int x3), (4, .int x4), (5, .int x5)] [.int y0] (mH h s) Q := by
  unfold mf_330_9 at hf
  exact mb_330_9 hh  (mr_330_16 hh hf k)
def mf_330_0 (N : Nat) (x1 : Int32) (x2 : Int32) (x3 : Int32) (x4 : Int32) (s : mS) : mO := if 2 ≤ x1 then mf_330_14 N x1 x2 x3 x4 x2 x2 s else mf_330_9 N x1 x2 x3 x4 x2 x2 s
theorem mr_330_0 {X : Nat → Option zz_C} {h : zz_H} (hh : 111 ≤ h.length) {d : Nat} {N : Nat} {Q : Option Value → zz_H → Prop} {x1 : Int32} {x2 : Int32} {x3 : Int32} {x4 : Int32} {s s' : mS} {v : Option Value} (hf : mf_330_0 N x1 x2 x3 x4 s = some (s', v)) (k : Q v (mH h s')) : zz_E zp_P zt_tf zt_fd X (d + 4) zm_330 0 [(0, .ref 61), (1, .int x1), (2, .int x2), (3, .int x3), (4, .int x4)] [] (mH h s) Q := by
  unfold mf_330_0 at hf
  refine mb_330_0 hh  (fun c => ?_) (fun c => ?_)
  · rw [if_pos c] at hf
    exact mr_330_14 hh hf k
  · rw [if_neg c] at hf
    exact mr_330_9 hh hf k
/-- makes -/
def mf_330 (N : Nat) (x1 : Int32) (x2 : Int32) (x3 : Int32) (x4 : Int32) (s : mS) : mO := mf_330_0 N x1 x2 x3 x4 s
theorem mr_330 {X : Nat → Option zz_C} {h : zz_H} (hh : 111 ≤ h.length) {d : Nat} {N : Nat} {Q : Option Value → zz_H → Prop} {x1 : Int32} {x2 : Int32} {x3 : Int32} {x4 : Int32} {s s' : mS} {v : Option Value} (hf : mf_330 N x1 x2 x3 x4 s = some (s', v)) (k : Q v (mH h s')) : zz_E zp_P zt_tf zt_fd X (d + 4) zm_330 0 [(0, .ref 61), (1, .int x1), (2, .int x2), (3, .int x3), (4, .int x4)] [] (mH h s) Q := by
  unfold mf_330 at hf
  exact zz_E.weak (mr_330_0 hh hf k) rfl ⟨rfl, rfl, rfl, rfl, rfl, trivial⟩
