/-! cut (III)V -/
theorem mb_339_0 {X : Nat → Option zz_C} {h : zz_H} (hh : 111 ≤ h.length) {s : mS} {d : Nat} {Q : Option Value → zz_H → Prop} {x1 : Int32} {x2 : Int32} {x3 : Int32} (k : zz_E zp_P zt_tf zt_fd X d zm_77 0 [(0, .ref 61), (1, .int x2)] [] (mH h s) (fun v h' => zz_E zp_P zt_tf zt_fd X (d + 1) zm_339 5 [(0, .ref 61), (1, .int x1), (2, .int x2), (3, .int x3)] (v.toList ++ []) h' Q)) : zz_E zp_P zt_tf zt_fd X (d + 1) zm_339 0 [(0, .ref 61), (1, .int x1), (2, .int x2), (3, .int x3)] [] (mH h s) Q := by
  refine zz_E.n 1 rfl rfl rfl ?_
  refine zz_E.n 2 rfl rfl rfl ?_
  refine mE_cv hh 5 (as := []) rfl rfl (Nat.le_of_ble_eq_true rfl) (Nat.le_of_ble_eq_true rfl) rfl (Nat.le_of_ble_eq_true rfl) rfl ?_
  refine zz_E.mono k ?_
  intro v h' hE
  exact zz_E.weak hE rfl ⟨rfl, rfl, rfl, rfl, trivial⟩
theorem mb_339_5 {X : Nat → Option zz_C} {h : zz_H} (hh : 111 ≤ h.length) {s : mS} {d : Nat} {Q : Option Value → zz_H → Prop} {x1 : Int32} {x2 : Int32} {x3 : Int32} {y0 : Int32} (k : zz_E zp_P zt_tf zt_fd X d zm_339 16 [(0, .ref 61), (1, .int x1), (2, .int x2), (3, .int x3), (4, .int y0), (5, .long 0), (7, .int 0), (8, .int 0)] [] (mH h s) Q) : zz_E zp_P zt_tf zt_fd X d zm_339 5 [(0, .ref 61), (1, .int x1), (2, .int x2), (3, .int x3)] [.int y0] (mH h s) Q := by
  refine zz_E.n 7 rfl rfl rfl ?_
  refine zz_E.c 8 (.long 0) rfl rfl rfl rfl ?_
  refine zz_E.n 10 rfl rfl rfl ?_
  refine zz_E.c 11 (.int 0) rfl rfl rfl rfl ?_
  refine zz_E.n 13 rfl rfl rfl ?_
  refine zz_E.c 14 (.int 0) rfl rfl rfl rfl ?_
  refine zz_E.n 16 rfl rfl rfl ?_
  exact zz_E.weak k rfl ⟨rfl, rfl, rfl, rfl, rfl, rfl, rfl, rfl, trivial⟩
theorem mb_339_16 {X : Nat → Option zz_C} {h : zz_H} (hh : 111 ≤ h.length) {s : mS} {d : Nat} {Q : Option Value → zz_H → Prop} {x1 : Int32} {x2 : Int32} {x3 : Int32} {x4 : Int32} {x5 : Int64} {x7 : Int32} {x8 : Int32} (k1 : x4 ≤ x8 → zz_E zp_P zt_tf zt_fd X d zm_339 72 [(0, .ref 61), (1, .int x1), (2, .int x2), (3, .int x3), (4, .int x4), (5, .long x5), (7, .int x7)] [] (mH h s) Q) (k2 : ¬ x4 ≤ x8 → zz_E zp_P zt_tf zt_fd X d zm_339 23 [(0, .ref 61), (1, .int x1), (2, .int x2), (3, .int x3), (4, .int x4), (5, .long x5), (7, .int x7), (8, .int x8)] [] (mH h s) Q) : zz_E zp_P zt_tf zt_fd X d zm_339 16 [(0, .ref 61), (1, .int x1), (2, .int x2), (3, .int x3), (4, .int x4), (5, .long x5), (7, .int x7), (8, .int x8)] [] (mH h s) Q := by
  refine zz_E.n 18 rfl rfl rfl ?_
  refine zz_E.n 20 rfl rfl rfl ?_
  refine zz_E.b2 72 23 (A := x4 ≤ x8) rfl rfl (by decide) rfl rfl (fun c => ?_) (fun c => ?_)
  · exact zz_E.weak (k1 c) rfl ⟨rfl, rfl, rfl, rfl, rfl, rfl, rfl, trivial⟩
  · exact zz_E.weak (k2 c) rfl ⟨rfl, rfl, rfl, rfl, rfl, rfl, rfl, rfl, trivial⟩
theorem mb_339_23 {X : Nat → Option zz_C} {h : zz_H} (hh : 111 ≤ h.length) {s : mS} {d : Nat} {Q : Option Value → zz_H → Prop} {x1 : Int32} {x2 : Int32} {x3 : Int32} {x4 : Int32} {x5 : Int64} {x7 : Int32} {x8 : Int32} (i35 : ¬ (((x2 + 2) + x8) < 0 ∨ 166300 ≤ Int32.toNatClampNeg ((x2 + 2) + x8))) (k1 : ¬ x7 = 0 → zz_E zp_P zt_tf zt_fd X d zm_339 59 [(0, .ref 61), (1, .int x1), (2, .int x2), (3, .int x3), (4, .int x4), (5, .long (x5 + (Int32.toInt64 ((s.2.2.1 47) (Int32.toNatClampNeg ((x2 + 2) + x8)))))), (8, .int x8)] [] (mH h s) Q) (k2 : ¬ ¬ x7 = 0 → zz_E zp_P zt_tf zt_fd X d zm_339 45 [(0, .ref 61), (1, .int x1), (2, .int x2), (3, .int x3), (4, .int x4), (5, .long (x5 + (Int32.toInt64 ((s.2.2.1 47) (Int32.toNatClampNeg ((x2 + 2) + x8)))))), (8, .int x8)] [] (mH h s) Q) : zz_E zp_P zt_tf zt_fd X d zm_339 23 [(0, .ref 61), (1, .int x1), (2, .int x2), (3, .int x3), (4, .int x4), (5, .long x5), (7, .int x7), (8, .int x8)] [] (mH h s) Q := by
  refine zz_E.n 25 rfl rfl rfl ?_
  refine zz_E.n 26 rfl rfl rfl ?_
  refine mE_g hh 29 (v := .ref 89) rfl rfl rfl ?_
  refine zz_E.n 30 rfl rfl rfl ?_
  refine zz_E.c 31 (.int 2) rfl rfl rfl rfl ?_
  refine zz_E.n 32 rfl rfl rfl ?_
  refine zz_E.n 34 rfl rfl rfl ?_
  refine zz_E.n 35 rfl rfl rfl ?_
  refine mE_ia hh 36 28 (f := (s.2.2.1 47)) rfl (by decide) rfl rfl i35 rfl ?_
  refine zz_E.n 37 rfl rfl rfl ?_
  refine zz_E.n 38 rfl rfl rfl ?_
  refine zz_E.n 40 rfl rfl rfl ?_
  refine zz_E.n 42 rfl rfl rfl ?_
  refine zz_E.b1 59 45 (A := ¬ x7 = 0) rfl (zz_cond_ne _ _) (by decide) rfl rfl (fun c => ?_) (fun c => ?_)
  · exact zz_E.weak (k1 c) rfl ⟨rfl, rfl, rfl, rfl, rfl, rfl, rfl, trivial⟩
  · exact zz_E.weak (k2 c) rfl ⟨rfl, rfl, rfl, rfl, rfl, rfl, rfl, trivial⟩
theorem mb_339_45 {X : Nat → Option zz_C} {h : zz_H} (hh : 111 ≤ h.length) {s : mS} {d : Nat} {Q : Option Value → zz_H → Prop} {x1 : Int32} {x2 : Int32} {x3 : Int32} {x4 : Int32} {x5 : Int64} {x8 : Int32} (i55 : ¬ (((x2 + 2) + x8) < 0 ∨ 166300 ≤ Int32.toNatClampNeg ((x2 + 2) + x8))) (k1 : 0 ≤ ((s.2.2.1 47) (Int32.toNatClampNeg ((x2 + 2) + x8))) → zz_E zp_P zt_tf zt_fd X d zm_339 63 [(0, .ref 61), (1, .int x1), (2, .int x2), (3, .int x3), (4, .int x4), (5, .long x5), (8, .int x8)] [] (mH h s) Q) (k2 : ¬ 0 ≤ ((s.2.2.1 47) (Int32.toNatClampNeg ((x2 + 2) + x8))) → zz_E zp_P zt_tf zt_fd X d zm_339 59 [(0, .ref 61), (1, .int x1), (2, .int x2), (3, .int x3), (4, .int x4), (5, .long x5), (8, .int x8)] [] (mH h s) Q) : zz_E zp_P zt_tf zt_fd X d zm_339 45 [(0, .ref 61), (1, .int x1), (2, .int x2), (3, .int x3), (4, .int x4), (5, .long x5), (8, .int x8)] [] (mH h s) Q := by
  refine zz_E.n 46 rfl rfl rfl ?_
  refine mE_g hh 49 (v := .ref 89) rfl rfl rfl ?_
  refine zz_E.n 50 rfl rfl rfl ?_
  refine zz_E.c 51 (.int 2) rfl rfl rfl rfl ?_
  refine zz_E.n 52 rfl rfl rfl ?_
  refine zz_E.n 54 rfl rfl rfl ?_
  refine zz_E.n 55 rfl rfl rfl ?_
  refine mE_ia hh 56 28 (f := (s.2.2.1 47)) rfl (by decide) rfl rfl i55 rfl ?_
  refine zz_E.b1 63 59 (A := 0 ≤ ((s.2.2.1 47) (Int32.toNatClampNeg ((x2 + 2) + x8)))) rfl rfl (by decide) rfl rfl (fun c => ?_) (fun c => ?_)
  · exact zz_E.weak (k1 c) rfl ⟨rfl, rfl, rfl, rfl, rfl, rfl, rfl, trivial⟩
  · exact zz_E.weak (k2 c) rfl ⟨rfl, rfl, rfl, rfl, rfl, rfl, rfl, trivial⟩
theorem mb_339_59 {X : Nat → Option zz_C} {h : zz_H} (hh : 111 ≤ h.length) {s : mS} {d : Nat} {Q : Option Value → zz_H → Prop} {x1 : Int32} {x2 : Int32} {x3 : Int32} {x4 : Int32} {x5 : Int64} {x8 : Int32} (k : zz_E zp_P zt_tf zt_fd X d zm_339 64 [(0, .ref 61), (1, .int x1), (2, .int x2), (3, .int x3), (4, .int x4), (5, .long x5), (8, .int x8)] [.int 1] (mH h s) Q) : zz_E zp_P zt_tf zt_fd X d zm_339 59 [(0, .ref 61), (1, .int x1), (2, .int x2), (3, .int x3), (4, .int x4), (5, .long x5), (8, .int x8)] [] (mH h s) Q := by
  refine zz_E.c 60 (.int 1) rfl rfl rfl rfl ?_
  refine zz_E.n 64 rfl rfl rfl ?_
  exact zz_E.weak k rfl ⟨rfl, rfl, rfl, rfl, rfl, rfl, rfl, trivial⟩
theorem mb_339_63 {X : Nat → Option zz_C} {h : zz_H} (hh : 111 ≤ h.length) {s : mS} {d : Nat} {Q : Option Value → zz_H → Prop} {x1 : Int32} {x2 : Int32} {x3 : Int32} {x4 : Int32} {x5 : Int64} {x8 : Int32} (k : zz_E zp_P zt_tf zt_fd X d zm_339 64 [(0, .ref 61), (1, .int x1), (2, .int x2), (3, .int x3), (4, .int x4), (5, .long x5), (8, .int x8)] [.int 0] (mH h s) Q) : zz_E zp_P zt_tf zt_fd X d zm_339 63 [(0, .ref 61), (1, .int x1), (2, .int x2), (3, .int x3), (4, .int x4), (5, .long x5), (8, .int x8)] [] (mH h s) Q := by
  refine zz_E.c 64 (.int 0) rfl rfl rfl rfl ?_
  exact zz_E.weak k rfl ⟨rfl, rfl, rfl, rfl, rfl, rfl, rfl, trivial⟩
theorem mb_339_64 {X : Nat → Option zz_C} {h : zz_H} (hh : 111 ≤ h.length) {s : mS} {d : Nat} {Q : Option Value → zz_H → Prop} {x1 : Int32} {x2 : Int32} {x3 : Int32} {x4 : Int32} {x5 : Int64} {x8 : Int32} {y0 : Int32} (k : zz_E zp_P zt_tf zt_fd X d zm_339 16 [(0, .ref 61), (1, .int x1), (2, .int x2), (3, .int x3), (4, .int x4), (5, .long x5), (7, .int y0), (8, .int (x8 + 1))] [] (mH h s) Q) : zz_E zp_P zt_tf zt_fd X d zm_339 64 [(0, .ref 61), (1, .int x1), (2, .int x2), (3, .int x3), (4, .int x4), (5, .long x5), (8, .int x8)] [.int y0] (mH h s) Q := by
  refine zz_E.n 66 rfl rfl rfl ?_
  refine zz_E.n 69 rfl rfl rfl ?_
  refine zz_E.n 16 rfl rfl rfl ?_
  exact zz_E.weak k rfl ⟨rfl, rfl, rfl, rfl, rfl, rfl, rfl, rfl, trivial⟩
theorem mb_339_72 {X : Nat → Option zz_C} {h : zz_H} (hh : 111 ≤ h.length) {s : mS} {d : Nat} {Q : Option Value → zz_H → Prop} {x1 : Int32} {x2 : Int32} {x3 : Int32} {x4 : Int32} {x5 : Int64} {x7 : Int32} (k1 : 20 < x4 → zz_E zp_P zt_tf zt_fd X d zm_339 96 [(0, .ref 61), (4, .int x4), (7, .int x7)] [] (mH h s) Q) (k2 : ¬ 20 < x4 → zz_E zp_P zt_tf zt_fd X d zm_339 79 [(0, .ref 61), (1, .int x1), (2, .int x2), (3, .int x3), (4, .int x4), (5, .long x5), (7, .int x7)] [] (mH h s) Q) : zz_E zp_P zt_tf zt_fd X d zm_339 72 [(0, .ref 61), (1, .int x1), (2, .int x2), (3, .int x3), (4, .int x4), (5, .long x5), (7, .int x7)] [] (mH h s) Q := by
  refine zz_E.n 74 rfl rfl rfl ?_
  refine zz_E.c 76 (.int 20) rfl rfl rfl rfl ?_
  refine zz_E.b2 96 79 (A := 20 < x4) rfl rfl (by decide) rfl rfl (fun c => ?_) (fun c => ?_)
  · exact zz_E.weak (k1 c) rfl ⟨rfl, rfl, rfl, trivial⟩
  · exact zz_E.weak (k2 c) rfl ⟨rfl, rfl, rfl, rfl, rfl, rfl, rfl, trivial⟩
theorem mb_339_79 {X : Nat → Option zz_C} {h : zz_H} (hh : 111 ≤ h.length) {s : mS} {d : Nat} {Q : Option Value → zz_H → Prop} {x1 : Int32} {x2 : Int32} {x3 : Int32} {x4 : Int32} {x5 : Int64} {x7 : Int32} (k1 : ¬ x7 = 0 → zz_E zp_P zt_tf zt_fd X d zm_339 96 [(0, .ref 61), (4, .int x4), (7, .int x7)] [] (mH h s) Q) (k2 : ¬ ¬ x7 = 0 → zz_E zp_P zt_tf zt_fd X d zm_339 84 [(0, .ref 61), (1, .int x1), (2, .int x2), (3, .int x3), (4, .int x4), (5, .long x5), (7, .int x7)] [] (mH h s) Q) : zz_E zp_P zt_tf zt_fd X d zm_339 79 [(0, .ref 61), (1, .int x1), (2, .int x2), (3, .int x3), (4, .int x4), (5, .long x5), (7, .int x7)] [] (mH h s) Q := by
  refine zz_E.n 81 rfl rfl rfl ?_
  refine zz_E.b1 96 84 (A := ¬ x7 = 0) rfl (zz_cond_ne _ _) (by decide) rfl rfl (fun c => ?_) (fun c => ?_)
  · exact zz_E.weak (k1 c) rfl ⟨rfl, rfl, rfl, trivial⟩
  · exact zz_E.weak (k2 c) rfl ⟨rfl, rfl, rfl, rfl, rfl, rfl, rfl, trivial⟩
theorem mb_339_84 {X : Nat → Option zz_C} {h : zz_H} (hh : 111 ≤ h.length) {s : mS} {d : Nat} {Q : Option Value → zz_H → Prop} {x1 : Int32} {x2 : Int32} {x3 : Int32} {x4 : Int32} {x5 : Int64} {x7 : Int32} (k : zz_E zp_P zt_tf zt_fd X d zm_77 0 [(0, .ref 61), (1, .int x1)] [] (mH h s) (fun v h' => zz_E zp_P zt_tf zt_fd X (d + 1) zm_339 91 [(0, .ref 61), (1, .int x1), (2, .int x2), (3, .int x3), (4, .int x4), (7, .int x7)] (v.toList ++ [.long x5]) h' Q)) : zz_E zp_P zt_tf zt_fd X (d + 1) zm_339 84 [(0, .ref 61), (1, .int x1), (2, .int x2), (3, .int x3), (4, .int x4), (5, .long x5), (7, .int x7)] [] (mH h s) Q := by
  refine zz_E.n 86 rfl rfl rfl ?_
  refine zz_E.n 87 rfl rfl rfl ?_
  refine zz_E.n 88 rfl rfl rfl ?_
  refine mE_cv hh 91 (as := [.long x5]) rfl rfl (Nat.le_of_ble_eq_true rfl) (Nat.le_of_ble_eq_true rfl) rfl (Nat.le_of_ble_eq_true rfl) rfl ?_
  refine zz_E.mono k ?_
  intro v h' hE
  exact zz_E.weak hE rfl ⟨rfl, rfl, rfl, rfl, rfl, rfl, trivial⟩
theorem mb_339_91 {X : Nat → Option zz_C} {h : zz_H} (hh : 111 ≤ h.length) {s : mS} {d : Nat} {Q : Option Value → zz_H → Prop} {x1 : Int32} {x2 : Int32} {x3 : Int32} {x4 : Int32} {x7 : Int32} {y0 : Int64} {y1 : Int32} (k1 : (lg_cmp y0 (Int32.toInt64 y1)) = 0 → zz_E zp_P zt_tf zt_fd X d zm_339 126 [(0, .ref 61), (1, .int x1), (2, .int x2), (3, .int x3), (4, .int x4)] [] (mH h s) Q) (k2 : ¬ (lg_cmp y0 (Int32.toInt64 y1)) = 0 → zz_E zp_P zt_tf zt_fd X d zm_339 96 [(0, .ref 61), (4, .int x4), (7, .int x7)] [] (mH h s) Q) : zz_E zp_P zt_tf zt_fd X d zm_339 91 [(0, .ref 61), (1, .int x1), (2, .int x2), (3, .int x3), (4, .int x4), (7, .int x7)] [.int y1, .long y0] (mH h s) Q := by
  refine zz_E.n 92 rfl rfl rfl ?_
  refine zz_E.n 93 rfl rfl rfl ?_
  refine zz_E.b1 126 96 (A := (lg_cmp y0 (Int32.toInt64 y1)) = 0) rfl rfl (by decide) rfl rfl (fun c => ?_) (fun c => ?_)
  · exact zz_E.weak (k1 c) rfl ⟨rfl, rfl, rfl, rfl, rfl, trivial⟩
  · exact zz_E.weak (k2 c) rfl ⟨rfl, rfl, rfl, trivial⟩
theorem mb_339_96 {X : Nat → Option zz_C} {h : zz_H} (hh : 111 ≤ h.length) {s : mS} {d : Nat} {Q : Option Value → zz_H → Prop} {x4 : Int32} {x7 : Int32} (k1 : x4 ≤ 20 → zz_E zp_P zt_tf zt_fd X d zm_339 108 [(0, .ref 61), (7, .int x7)] [.ref 61] (mH h s) Q) (k2 : ¬ x4 ≤ 20 → zz_E zp_P zt_tf zt_fd X d zm_339 104 [(0, .ref 61)] [.ref 61] (mH h s) Q) : zz_E zp_P zt_tf zt_fd X d zm_339 96 [(0, .ref 61), (4, .int x4), (7, .int x7)] [] (mH h s) Q := by
  refine zz_E.n 97 rfl rfl rfl ?_
  refine zz_E.n 99 rfl rfl rfl ?_
  refine zz_E.c 101 (.int 20) rfl rfl rfl rfl ?_
  refine zz_E.b2 108 104 (A := x4 ≤ 20) rfl rfl (by decide) rfl rfl (fun c => ?_) (fun c => ?_)
  · exact zz_E.weak (k1 c) rfl ⟨rfl, rfl, trivial⟩
  · exact zz_E.weak (k2 c) rfl ⟨rfl, trivial⟩
theorem mb_339_104 {X : Nat → Option zz_C} {h : zz_H} (hh : 111 ≤ h.length) {s : mS} {d : Nat} {Q : Option Value → zz_H → Prop}  (k : zz_E zp_P zt_tf zt_fd X d zm_339 118 [(0, .ref 61)] [.int 2, .ref 61] (mH h s) Q) : zz_E zp_P zt_tf zt_fd X d zm_339 104 [(0, .ref 61)] [.ref 61] (mH h s) Q := by
  refine zz_E.c 105 (.int 2) rfl rfl rfl rfl ?_
  refine zz_E.n 118 rfl rfl rfl ?_
  exact zz_E.weak k rfl ⟨rfl, trivial⟩
theorem mb_339_108 {X : Nat → Option zz_C} {h : zz_H} (hh : 111 ≤ h.length) {s : mS} {d : Nat} {Q : Option Value → zz_H → Prop} {x7 : Int32} (k1 : x7 = 0 → zz_E zp_P zt_tf zt_fd X d zm_339 117 [(0, .ref 61)] [.ref 61] (mH h s) Q) (k2 : ¬ x7 = 0 → zz_E zp_P zt_tf zt_fd X d zm_339 113 [(0, .ref 61)] [.ref 61] (mH h s) Q) : zz_E zp_P zt_tf zt_fd X d zm_339 108 [(0, .ref 61), (7, .int x7)] [.ref 61] (mH h s) Q := by
  refine zz_E.n 110 rfl rfl rfl ?_
  refine zz_E.b1 117 113 (A := x7 = 0) rfl rfl (by decide) rfl rfl (fun c => ?_) (fun c => ?_)
  · exact zz_E.weak (k1 c) rfl ⟨rfl, trivial⟩
  · exact zz_E.weak (k2 c) rfl ⟨rfl, trivial⟩
theorem mb_339_113 {X : Nat → Option zz_C} {h : zz_H} (hh : 111 ≤ h.length) {s : mS} {d : Nat} {Q : Option Value → zz_H → Prop}  (k : zz_E zp_P zt_tf zt_fd X d zm_339 118 [(0, .ref 61)] [.int 1, .ref 61] (mH h s) Q) : zz_E zp_P zt_tf zt_fd X d zm_339 113 [(0, .ref 61)] [.ref 61] (mH h s) Q := by
  refine zz_E.c 114 (.int 1) rfl rfl rfl rfl ?_
  refine zz_E.n 118 rfl rfl rfl ?_
  exact zz_E.weak k rfl ⟨rfl, trivial⟩
theorem mb_339_117 {X : Nat → Option zz_C} {h : zz_H} (hh : 111 ≤ h.length) {s : mS} {d : Nat} {Q : Option Value → zz_H → Prop}  (k : zz_E zp_P zt_tf zt_fd X d zm_339 118 [(0, .ref 61)] [.int 4, .ref 61] (mH h s) Q) : zz_E zp_P zt_tf zt_fd X d zm_339 117 [(0, .ref 61)] [.ref 61] (mH h s) Q := by
  refine zz_E.c 118 (.int 4) rfl rfl rfl rfl ?_
  exact zz_E.weak k rfl ⟨rfl, trivial⟩
theorem mb_339_118 {X : Nat → Option zz_C} {h : zz_H} (hh : 111 ≤ h.length) {s : mS} {d : Nat} {Q : Option Value → zz_H → Prop} {y1 : Int32} (k : zz_E zp_P zt_tf zt_fd X d zm_301 0 [(0, .ref 61), (1, .int y1), (2, .int (s.1 70))] [] (mH h s) (fun v h' => zz_E zp_P zt_tf zt_fd X (d + 1) zm_339 125 [] (v.toList ++ []) h' Q)) : zz_E zp_P zt_tf zt_fd X (d + 1) zm_339 118 [(0, .ref 61)] [.int y1, .ref 61] (mH h s) Q := by
  refine zz_E.n 119 rfl rfl rfl ?_
  refine mE_g hh 122 (v := .int (s.1 70)) rfl rfl rfl ?_
  refine mE_cv hh 125 (as := []) rfl rfl (Nat.le_of_ble_eq_true rfl) (Nat.le_of_ble_eq_true rfl) rfl (Nat.le_of_ble_eq_true rfl) rfl ?_
  refine zz_E.mono k ?_
  intro v h' hE
  exact zz_E.weak hE rfl trivial
theorem mb_339_125 {X : Nat → Option zz_C} {h : zz_H} (hh : 111 ≤ h.length) {s : mS} {d : Nat} {Q : Option Value → zz_H → Prop}  (k : Q none (mH h s)) : zz_E zp_P zt_tf zt_fd X d zm_339 125 [] [] (mH h s) Q := by
  refine zz_E.ret rfl rfl rfl ?_
  exact k
theorem mb_339_126 {X : Nat → Option zz_C} {h : zz_H} (hh : 111 ≤ h.length) {s : mS} {d : Nat} {Q : Option Value → zz_H → Prop} {x1 : Int32} {x2 : Int32} {x3 : Int32} {x4 : Int32} (k : zz_E zp_P zt_tf zt_fd X d zm_339 137 [(0, .ref 61), (1, .int x1), (2, .int x2), (3, .int x3), (4, .int x4), (8, .int 0), (9, .int 0)] [] (mH h (mI s 51 x3)) Q) : zz_E zp_P zt_tf zt_fd X d zm_339 126 [(0, .ref 61), (1, .int x1), (2, .int x2), (3, .int x3), (4, .int x4)] [] (mH h s) Q := by
  refine zz_E.n 127 rfl rfl rfl ?_
  refine zz_E.n 128 rfl rfl rfl ?_
  refine mE_p hh 131 rfl (by decide) rfl (mF_51 _ _) rfl ?_
  refine zz_E.c 132 (.int 0) rfl rfl rfl rfl ?_
  refine zz_E.n 134 rfl rfl rfl ?_
  refine zz_E.c 135 (.int 0) rfl rfl rfl rfl ?_
  refine zz_E.n 137 rfl rfl rfl ?_
  exact zz_E.weak k rfl ⟨rfl, rfl, rfl, rfl, rfl, rfl, rfl, trivial⟩
theorem mb_339_137 {X : Nat → Option zz_C} {h : zz_H} (hh : 111 ≤ h.length) {s : mS} {d : Nat} {Q : Option Value → zz_H → Prop} {x1 : Int32} {x2 : Int32} {x3 : Int32} {x4 : Int32} {x8 : Int32} {x9 : Int32} (k1 : x4 ≤ x9 → zz_E zp_P zt_tf zt_fd X d zm_339 198 [(0, .ref 61), (3, .int x3)] [] (mH h s) Q) (k2 : ¬ x4 ≤ x9 → zz_E zp_P zt_tf zt_fd X d zm_339 144 [(0, .ref 61), (1, .int x1), (2, .int x2), (3, .int x3), (4, .int x4), (8, .int x8), (9, .int x9)] [] (mH h s) Q) : zz_E zp_P zt_tf zt_fd X d zm_339 137 [(0, .ref 61), (1, .int x1), (2, .int x2), (3, .int x3), (4, .int x4), (8, .int x8), (9, .int x9)] [] (mH h s) Q := by
  refine zz_E.n 139 rfl rfl rfl ?_
  refine zz_E.n 141 rfl rfl rfl ?_
  refine zz_E.b2 198 144 (A := x4 ≤ x9) rfl rfl (by decide) rfl rfl (fun c => ?_) (fun c => ?_)
  · exact zz_E.weak (k1 c) rfl ⟨rfl, rfl, trivial⟩
  · exact zz_E.weak (k2 c) rfl ⟨rfl, rfl, rfl, rfl, rfl, rfl, rfl, trivial⟩
theorem mb_339_144 {X : Nat → Option zz_C} {h : zz_H} (hh : 111 ≤ h.length) {s : mS} {d : Nat} {Q : Option Value → zz_H → Prop} {x1 : Int32} {x2 : Int32} {x3 : Int32} {x4 : Int32} {x8 : Int32} {x9 : Int32} (i162 : ¬ (((x2 + 2) + x9) < 0 ∨ 166300 ≤ Int32.toNatClampNeg ((x2 + 2) + x9))) (k : zz_E zp_P zt_tf zt_fd X d zm_339 166 [(0, .ref 61), (1, .int x1), (2, .int x2), (3, .int x3), (4, .int x4), (8, .int x8), (9, .int x9), (10, .int (s.1 51)), (11, .int (x8 + ((s.2.2.1 47) (Int32.toNatClampNeg ((x2 + 2) + x9)))))] [] (mH h s) Q) : zz_E zp_P zt_tf zt_fd X d zm_339 144 [(0, .ref 61), (1, .int x1), (2, .int x2), (3, .int x3), (4, .int x4), (8, .int x8), (9, .int x9)] [] (mH h s) Q := by
  refine zz_E.n 145 rfl rfl rfl ?_
  refine mE_g hh 148 (v := .int (s.1 51)) rfl rfl rfl ?_
  refine zz_E.n 150 rfl rfl rfl ?_
  refine zz_E.n 152 rfl rfl rfl ?_
  refine zz_E.n 153 rfl rfl rfl ?_
  refine mE_g hh 156 (v := .ref 89) rfl rfl rfl ?_
  refine zz_E.n 157 rfl rfl rfl ?_
  refine zz_E.c 158 (.int 2) rfl rfl rfl rfl ?_
  refine zz_E.n 159 rfl rfl rfl ?_
  refine zz_E.n 161 rfl rfl rfl ?_
  refine zz_E.n 162 rfl rfl rfl ?_
  refine mE_ia hh 163 28 (f := (s.2.2.1 47)) rfl (by decide) rfl rfl i162 rfl ?_
  refine zz_E.n 164 rfl rfl rfl ?_
  refine zz_E.n 166 rfl rfl rfl ?_
  exact zz_E.weak k rfl ⟨rfl, rfl, rfl, rfl, rfl, rfl, rfl, rfl, rfl, trivial⟩
theorem mb_339_166 {X : Nat → Option zz_C} {h : zz_H} (hh : 111 ≤ h.length) {s : mS} {d : Nat} {Q : Option Value → zz_H → Prop} {x1 : Int32} {x2 : Int32} {x3 : Int32} {x4 : Int32} {x8 : Int32} {x9 : Int32} {x10 : Int32} {x11 : Int32} (k1 : x11 ≤ x8 → zz_E zp_P zt_tf zt_fd X d zm_339 186 [(0, .ref 61), (1, .int x1), (2, .int x2), (3, .int x3), (4, .int x4), (8, .int x8), (9, .int x9), (10, .int x10)] [] (mH h s) Q) (k2 : ¬ x11 ≤ x8 → zz_E zp_P zt_tf zt_fd X d zm_339 173 [(0, .ref 61), (1, .int x1), (2, .int x2), (3, .int x3), (4, .int x4), (8, .int x8), (9, .int x9), (10, .int x10), (11, .int x11)] [] (mH h s) Q) : zz_E zp_P zt_tf zt_fd X d zm_339 166 [(0, .ref 61), (1, .int x1), (2, .int x2), (3, .int x3), (4, .int x4), (8, .int x8), (9, .int x9), (10, .int x10), (11, .int x11)] [] (mH h s) Q := by
  refine zz_E.n 168 rfl rfl rfl ?_
  refine zz_E.n 170 rfl rfl rfl ?_
  refine zz_E.b2 186 173 (A := x11 ≤ x8) rfl rfl (by decide) rfl rfl (fun c => ?_) (fun c => ?_)
  · exact zz_E.weak (k1 c) rfl ⟨rfl, rfl, rfl, rfl, rfl, rfl, rfl, rfl, trivial⟩
  · exact zz_E.weak (k2 c) rfl ⟨rfl, rfl, rfl, rfl, rfl, rfl, rfl, rfl, rfl, trivial⟩
theorem mb_339_173 {X : Nat → Option zz_C} {h : zz_H} (hh : 111 ≤ h.length) {s : mS} {d : Nat} {Q : Option Value → zz_H → Prop} {x1 : Int32} {x2 : Int32} {x3 : Int32} {x4 : Int32} {x8 : Int32} {x9 : Int32} {x10 : Int32} {x11 : Int32} (k : zz_E zp_P zt_tf zt_fd X d zm_295 0 [(0, .ref 61), (1, .int x1), (2, .int x8)] [] (mH h s) (fun v h' => zz_E zp_P zt_tf zt_fd X (d + 1) zm_339 180 [(0, .ref 61), (1, .int x1), (2, .int x2), (3, .int x3), (4, .int x4), (8, .int x8), (9, .int x9), (10, .int x10), (11, .int x11)] (v.toList ++ []) h' Q)) : zz_E zp_P zt_tf zt_fd X (d + 1) zm_339 173 [(0, .ref 61), (1, .int x1), (2, .int x2), (3, .int x3), (4, .int x4), (8, .int x8), (9, .int x9), (10, .int x10), (11, .int x11)] [] (mH h s) Q := by
  refine zz_E.n 174 rfl rfl rfl ?_
  refine zz_E.n 175 rfl rfl rfl ?_
  refine zz_E.n 177 rfl rfl rfl ?_
  refine mE_cv hh 180 (as := []) rfl rfl (Nat.le_of_ble_eq_true rfl) (Nat.le_of_ble_eq_true rfl) rfl (Nat.le_of_ble_eq_true rfl) rfl ?_
  refine zz_E.mono k ?_
  intro v h' hE
  exact zz_E.weak hE rfl ⟨rfl, rfl, rfl, rfl, rfl, rfl, rfl, rfl, rfl, trivial⟩
theorem mb_339_180 {X : Nat → Option zz_C} {h : zz_H} (hh : 111 ≤ h.length) {s : mS} {d : Nat} {Q : Option Value → zz_H → Prop} {x1 : Int32} {x2 : Int32} {x3 : Int32} {x4 : Int32} {x8 : Int32} {x9 : Int32} {x10 : Int32} {x11 : Int32} (k : zz_E zp_P zt_tf zt_fd X d zm_339 166 [(0, .ref 61), (1, .int x1), (2, .int x2), (3, .int x3), (4, .int x4), (8, .int (x8 + 1)), (9, .int x9), (10, .int x10), (11, .int x11)] [] (mH h s) Q) : zz_E zp_P zt_tf zt_fd X d zm_339 180 [(0, .ref 61), (1, .int x1), (2, .int x2), (3, .int x3), (4, .int x4), (8, .int x8), (9, .int x9), (10, .int x10), (11, .int x11)] [] (mH h s) Q := by
  refine zz_E.n 183 rfl rfl rfl ?_
  refine zz_E.n 166 rfl rfl rfl ?_
  exact zz_E.weak k rfl ⟨rfl, rfl, rfl, rfl, rfl, rfl, rfl, rfl, rfl, trivial⟩
theorem mb_339_186 {X : Nat → Option zz_C} {h : zz_H} (hh : 111 ≤ h.length) {s : mS} {d : Nat} {Q : Option Value → zz_H → Prop} {x1 : Int32} {x2 : Int32} {x3 : Int32} {x4 : Int32} {x8 : Int32} {x9 : Int32} {x10 : Int32} (k : zz_E zp_P zt_tf zt_fd X d zm_306 0 [(0, .ref 61), (1, .int x10)] [] (mH h s) (fun v h' => zz_E zp_P zt_tf zt_fd X (d + 1) zm_339 192 [(0, .ref 61), (1, .int x1), (2, .int x2), (3, .int x3), (4, .int x4), (8, .int x8), (9, .int x9)] (v.toList ++ []) h' Q)) : zz_E zp_P zt_tf zt_fd X (d + 1) zm_339 186 [(0, .ref 61), (1, .int x1), (2, .int x2), (3, .int x3), (4, .int x4), (8, .int x8), (9, .int x9), (10, .int x10)] [] (mH h s) Q := by
  refine zz_E.n 187 rfl rfl rfl ?_
  refine zz_E.n 189 rfl rfl rfl ?_
  refine mE_cv hh 192 (as := []) rfl rfl (Nat.le_of_ble_eq_true rfl) (Nat.le_of_ble_eq_true rfl) rfl (Nat.le_of_ble_eq_true rfl) rfl ?_
  refine zz_E.mono k ?_
  intro v h' hE
  exact zz_E.weak hE rfl ⟨rfl, rfl, rfl, rfl, rfl, rfl, rfl, trivial⟩
theorem mb_339_192 {X : Nat → Option zz_C} {h : zz_H} (hh : 111 ≤ h.length) {s : mS} {d : Nat} {Q : Option Value → zz_H → Prop} {x1 : Int32} {x2 : Int32} {x3 : Int32} {x4 : Int32} {x8 : Int32} {x9 : Int32} (k : zz_E zp_P zt_tf zt_fd X d zm_339 137 [(0, .ref 61), (1, .int x1), (2, .int x2), (3, .int x3), (4, .int x4), (8, .int x8), (9, .int (x9 + 1))] [] (mH h s) Q) : zz_E zp_P zt_tf zt_fd X d zm_339 192 [(0, .ref 61), (1, .int x1), (2, .int x2), (3, .int x3), (4, .int x4), (8, .int x8), (9, .int x9)] [] (mH h s) Q := by
  refine zz_E.n 195 rfl rfl rfl ?_
  refine zz_E.n 137 rfl rfl rfl ?_
  exact zz_E.weak k rfl ⟨rfl, rfl, rfl, rfl, rfl, rfl, rfl, trivial⟩
theorem mb_339_198 {X : Nat → Option zz_C} {h : zz_H} (hh : 111 ≤ h.length) {s : mS} {d : Nat} {Q : Option Value → zz_H → Prop} {x3 : Int32} (k : zz_E zp_P zt_tf zt_fd X d zm_305 0 [(0, .ref 61), (1, .int 2), (2, .int x3)] [] (mH h s) (fun v h' => zz_E zp_P zt_tf zt_fd X (d + 1) zm_339 204 [] (v.toList ++ []) h' Q)) : zz_E zp_P zt_tf zt_fd X (d + 1) zm_339 198 [(0, .ref 61), (3, .int x3)] [] (mH h s) Q := by
  refine zz_E.n 199 rfl rfl rfl ?_
  refine zz_E.c 200 (.int 2) rfl rfl rfl rfl ?_
  refine zz_E.n 201 rfl rfl rfl ?_
  refine mE_cv hh 204 (as := []) rfl rfl (Nat.le_of_ble_eq_true rfl) (Nat.le_of_ble_eq_true rfl) rfl (Nat.le_of_ble_eq_true rfl) rfl ?_
  refine zz_E.mono k ?_
  intro v h' hE
  exact zz_E.weak hE rfl trivial
theorem mb_339_204 {X : Nat → Option zz_C} {h : zz_H} (hh : 111 ≤ h.length) {s : mS} {d : Nat} {Q : Option Value → zz_H → Prop}  (k : Q none (mH h s)) : zz_E zp_P zt_tf zt_fd X d zm_339 204 [] [] (mH h s) Q := by
  refine zz_E.ret rfl rfl rfl ?_
  exact k
def mf_339_125 (N : Nat)  (s : mS) : mO := some (s, none)
theorem mr_339_125 {X : Nat → Option zz_C} {h : zz_H} (hh : 111 ≤ h.length) {d : Nat} {N : Nat} {Q : Option Value → zz_H → Prop}  {s s' : mS} {v : Option Value} (hf : mf_339_125 N  s = some (s', v)) (k : Q v (mH h s')) : zz_E zp_P zt_tf zt_fd X (d + 4) zm_339 125 [] [] (mH h s) Q := by
  unfold mf_339_125 at hf
  cases hf
  exact mb_339_125 hh  k
def mf_339_118 (N : Nat) (y1 : Int32) (s : mS) : mO := mo_bv (mf_301 N y1 (s.1 70) s) (fun s1 => mf_339_125 N  s1)
theorem mr_339_118 {X : Nat → Option zz_C} {h : zz_H} (hh : 111 ≤ h.length) {d : Nat} {N : Nat} {Q : Option Value → zz_H → Prop} {y1 : Int32} {s s' : mS} {v : Option Value} (hf : mf_339_118 N y1 s = some (s', v)) (k : Q v (mH h s')) : zz_E zp_P zt_tf zt_fd X (d + 4) zm_339 118 [(0, .ref 61)] [.int y1, .ref 61] (mH h s) Q := by
  unfold mf_339_118 at hf
  obtain ⟨s1, e, hf⟩ := mo_bv_ok hf
  exact mb_339_118 (d := d + 3) hh  (mr_301 (d := d + 3) hh e (mr_339_125 hh hf k))
def mf_339_117 (N : Nat)  (s : mS) : mO := mf_339_118 N 4 s
theorem mr_339_117 {X : Nat → Option zz_C} {h : zz_H} (hh : 111 ≤ h.length) {d : Nat} {N : Nat} {Q : Option Value → zz_H → Prop}  {s s' : mS} {v : Option Value} (hf : mf_339_117 N  s = some (s', v)) (k : Q v (mH h s')) : zz_E zp_P zt_tf zt_fd X (d + 4) zm_339 117 [(0, .ref 61)] [.ref 61] (mH h s) Q := by
  unfold mf_339_117 at hf
  exact mb_339_117 hh  (mr_339_118 hh hf k)
def mf_339_113 (N : Nat)  (s : mS) : mO := mf_339_118 N 1 s
theorem mr_339_113 {X : Nat → Option zz_C} {h : zz_H} (hh : 111 ≤ h.length) {d : Nat} {N : Nat} {Q : Option Value → zz_H → Prop}  {s s' : mS} {v : Option Value} (hf : mf_339_113 N  s = some (s', v)) (k : Q v (mH h s')) : zz_E zp_P zt_tf zt_fd X (d + 4) zm_339 113 [(0, .ref 61)] [.ref 61] (mH h s) Q := by
  unfold mf_339_113 at hf
  exact mb_339_113 hh  (mr_339_118 hh hf k)
def mf_339_108 (N : Nat) (x7 : Int32) (s : mS) : mO := if x7 = 0 then mf_339_117 N  s else mf_339_113 N  s
theorem mr_339_108 {X : Nat → Option zz_C} {h : zz_H} (hh : 111 ≤ h.length) {d : Nat} {N : Nat} {Q : Option Value → zz_H → Prop} {x7 : Int32} {s s' : mS} {v : Option Value} (hf : mf_339_108 N x7 s = some (s', v)) (k : Q v (mH h s')) : zz_E zp_P zt_tf zt_fd X (d + 4) zm_339 108 [(0, .ref 61), (7, .int x7)] [.ref 61] (mH h s) Q := by
  unfold mf_339_108 at hf
  refine mb_339_108 hh  (fun c => ?_) (fun c => ?_)
  · rw [if_pos c] at hf
    exact mr_339_117 hh hf k
  · rw [if_neg c] at hf
    exact mr_339_113 hh hf k
def mf_339_104 (N : Nat)  (s : mS) : mO := mf_339_118 N 2 s
theorem mr_339_104 {X : Nat → Option zz_C} {h : zz_H} (hh : 111 ≤ h.length) {d : Nat} {N : Nat} {Q : Option Value → zz_H → Prop}  {s s' : mS} {v : Option Value} (hf : mf_339_104 N  s = some (s', v)) (k : Q v (mH h s')) : zz_E zp_P zt_tf zt_fd X (d + 4) zm_339 104 [(0, .ref 61)] [.ref 61] (mH h s) Q := by
  unfold mf_339_104 at hf
  exact mb_339_104 hh  (mr_339_118 hh hf k)
def mf_339_96 (N : Nat) (x4 : Int32) (x7 : Int32) (s : mS) : mO := if x4 ≤ 20 then mf_339_108 N x7 s else mf_339_104 N  s
theorem mr_339_96 {X : Nat → Option zz_C} {h : zz_H} (hh : 111 ≤ h.length) {d : Nat} {N : Nat} {Q : Option Value → zz_H → Prop} {x4 : Int32} {x7 : Int32} {s s' : mS} {v : Option Value} (hf : mf_339_96 N x4 x7 s = some (s', v)) (k : Q v (mH h s')) : zz_E zp_P zt_tf zt_fd X (d + 4) zm_339 96 [(0, .ref 61), (4, .int x4), (7, .int x7)] [] (mH h s) Q := by
  unfold mf_339_96 at hf
  refine mb_339_96 hh  (fun c => ?_) (fun c => ?_)
  · rw [if_pos c] at hf
    exact mr_339_108 hh hf k
  · rw [if_neg c] at hf
    exact mr_339_104 hh hf k
def mf_339_204 (N : Nat)  (s : mS) : mO := some (s, none)
theorem mr_339_204 {X : Nat → Option zz_C} {h : zz_H} (hh : 111 ≤ h.length) {d : Nat} {N : Nat} {Q : Option Value → zz_H → Prop}  {s s' : mS} {v : Option Value} (hf : mf_339_204 N  s = some (s', v)) (k : Q v (mH h s')) : zz_E zp_P zt_tf zt_fd X (d + 4) zm_339 204 [] [] (mH h s) Q := by
  unfold mf_339_204 at hf
  cases hf
  exact mb_339_204 hh  k
def mf_339_198 (N : Nat) (x3 : Int32) (s : mS) : mO := mo_bv (mf_305 N 2 x3 s) (fun s1 => mf_339_204 N  s1)
theorem mr_339_198 {X : Nat → Option zz_C} {h : zz_H} (hh : 111 ≤ h.length) {d : Nat} {N : Nat} {Q : Option Value → zz_H → Prop} {x3 : Int32} {s s' : mS} {v : Option Value} (hf : mf_339_198 N x3 s = some (s', v)) (k : Q v (mH h s')) : zz_E zp_P zt_tf zt_fd X (d + 4) zm_339 198 [(0, .ref 61), (3, .int x3)] [] (mH h s) Q := by
  unfold mf_339_198 at hf
  obtain ⟨s1, e, hf⟩ := mo_bv_ok hf
  exact mb_339_198 (d := d + 3) hh  (mr_305 (d := d + 0) hh e (mr_339_204 hh hf k))
def mf_339_180 (N : Nat) (rc : Nat → Int32 → Int32 → Int32 → Int32 → Int32 → Int32 → Int32 → Int32 → mS → mO) (x1 : Int32) (x2 : Int32) (x3 : Int32) (x4 : Int32) (x8 : Int32) (x9 : Int32) (x10 : Int32) (x11 : Int32) (s : mS) : mO := rc 1 x1 x10 x11 x2 x3 x4 (x8 + 1) x9 s
theorem mr_339_180 {X : Nat → Option zz_C} {h : zz_H} (hh : 111 ≤ h.length) {d : Nat} {N : Nat} {rc : Nat → Int32 → Int32 → Int32 → Int32 → Int32 → Int32 → Int32 → Int32 → mS → mO} (hrc0 : ∀ {Q : Option Value → zz_H → Prop} {x1 : Int32} {x2 : Int32} {x3 : Int32} {x4 : Int32} {x8 : Int32} {x9 : Int32} {s s' : mS} {v : Option Value}, rc 0 x1 0 0 x2 x3 x4 x8 x9 s = some (s', v) → Q v (mH h s') → zz_E zp_P zt_tf zt_fd X (d + 4) zm_339 137 [(0, .ref 61), (1, .int x1), (2, .int x2), (3, .int x3), (4, .int x4), (8, .int x8), (9, .int x9)] [] (mH h s) Q) (hrc1 : ∀ {Q : Option Value → zz_H → Prop} {x1 : Int32} {x2 : Int32} {x3 : Int32} {x4 : Int32} {x8 : Int32} {x9 : Int32} {x10 : Int32} {x11 : Int32} {s s' : mS} {v : Option Value}, rc 1 x1 x10 x11 x2 x3 x4 x8 x9 s = some (s', v) → Q v (mH h s') → zz_E zp_P zt_tf zt_fd X (d + 4) zm_339 166 [(0, .ref 61), (1, .int x1), (2, .int x2), (3, .int x3), (4, .int x4), (8, .int x8), (9, .int x9), (10, .int x10), (11, .int x11)] [] (mH h s) Q) {Q : Option Value → zz_H → Prop} {x1 : Int32} {x2 : Int32} {x3 : Int32} {x4 : Int32} {x8 : Int32} {x9 : Int32} {x10 : Int32} {x11 : Int32} {s s' : mS} {v : Option Value} (hf : mf_339_180 N rc x1 x2 x3 x4 x8 x9 x10 x11 s = some (s', v)) (k : Q v (mH h s')) : zz_E zp_P zt_tf zt_fd X (d + 4) zm_339 180 [(0, .ref 61), (1, .int x1), (2, .int x2), (3, .int x3), (4, .int x4), (8, .int x8), (9, .int x9), (10, .int x10), (11, .int x11)] [] (mH h s) Q := by
  unfold mf_339_180 at hf
  exact mb_339_180 hh  (hrc1 hf k)
def mf_339_173 (N : Nat) (rc : Nat → Int32 → Int32 → Int32 → Int32 → Int32 → Int32 → Int32 → Int32 → mS → mO) (x1 : Int32) (x2 : Int32) (x3 : Int32) (x4 : Int32) (x8 : Int32) (x9 : Int32) (x10 : Int32) (x11 : Int32) (s : mS) : mO := mo_bv (mf_295 N x1 x8 s) (fun s1 => mf_339_180 N rc x1 x2 x3 x4 x8 x9 x10 x11 s1)
theorem mr_339_173 {X : Nat → Option zz_C} {h : zz_H} (hh : 111 ≤ h.length) {d : Nat} {N : Nat} {rc : Nat → Int32 → Int32 → Int32 → Int32 → Int32 → Int32 → Int32 → Int32 → mS → mO} (hrc0 : ∀ {Q : Option Value → zz_H → Prop} {x1 : Int32} {x2 : Int32} {x3 : Int32} {x4 : Int32} {x8 : Int32} {x9 : Int32} {s s' : mS} {v : Option Value}, rc 0 x1 0 0 x2 x3 x4 x8 x9 s = some (s', v) → Q v (mH h s') → zz_E zp_P zt_tf zt_fd X (d + 4) zm_339 137 [(0, .ref 61), (1, .int x1), (2, .int x2), (3, .int x3), (4, .int x4), (8, .int x8), (9, .int x9)] [] (mH h s) Q) (hrc1 : ∀ {Q : Option Value → zz_H → Prop} {x1 : Int32} {x2 : Int32} {x3 : Int32} {x4 : Int32} {x8 : Int32} {x9 : Int32} {x10 : Int32} {x11 : Int32} {s s' : mS} {v : Option Value}, rc 1 x1 x10 x11 x2 x3 x4 x8 x9 s = some (s', v) → Q v (mH h s') → zz_E zp_P zt_tf zt_fd X (d + 4) zm_339 166 [(0, .ref 61), (1, .int x1), (2, .int x2), (3, .int x3), (4, .int x4), (8, .int x8), (9, .int x9), (10, .int x10), (11, .int x11)] [] (mH h s) Q) {Q : Option Value → zz_H → Prop} {x1 : Int32} {x2 : Int32} {x3 : Int32} {x4 : Int32} {x8 : Int32} {x9 : Int32} {x10 : Int32} {x11 : Int32} {s s' : mS} {v : Option Value} (hf : mf_339_173 N rc x1 x2 x3 x4 x8 x9 x10 x11 s = some (s', v)) (k : Q v (mH h s')) : zz_E zp_P zt_tf zt_fd X (d + 4) zm_339 173 [(0, .ref 61), (1, .int x1), (2, .int x2), (3, .int x3), (4, .int x4), (8, .int x8), (9, .int x9), (10, .int x10), (11, .int x11)] [] (mH h s) Q := by
  unfold mf_339_173 at hf
  obtain ⟨s1, e, hf⟩ := mo_bv_ok hf
  exact mb_339_173 (d := d + 3) hh  (mr_295 (d := d + 2) hh e (mr_339_180 hh hrc0 hrc1 hf k))
def mf_339_192 (N : Nat) (rc : Nat → Int32 → Int32 → Int32 → Int32 → Int32 → Int32 → Int32 → Int32 → mS → mO) (x1 : Int32) (x2 : Int32) (x3 : Int32) (x4 : Int32) (x8 : Int32) (x9 : Int32) (s : mS) : mO := rc 0 x1 0 0 x2 x3 x4 x8 (x9 + 1) s
theorem mr_339_192 {X : Nat → Option zz_C} {h : zz_H} (hh : 111 ≤ h.length) {d : Nat} {N : Nat} {rc : Nat → Int32 → Int32 → Int32 → Int32 → Int32 → Int32 → Int32 → Int32 → mS → mO} (hrc0 : ∀ {Q : Option Value → zz_H → Prop} {x1 : Int32} {x2 : Int32} {x3 : Int32} {x4 : Int32} {x8 : Int32} {x9 : Int32} {s s' : mS} {v : Option Value}, rc 0 x1 0 0 x2 x3 x4 x8 x9 s = some (s', v) → Q v (mH h s') → zz_E zp_P zt_tf zt_fd X (d + 4) zm_339 137 [(0, .ref 61), (1, .int x1), (2, .int x2), (3, .int x3), (4, .int x4), (8, .int x8), (9, .int x9)] [] (mH h s) Q) (hrc1 : ∀ {Q : Option Value → zz_H → Prop} {x1 : Int32} {x2 : Int32} {x3 : Int32} {x4 : Int32} {x8 : Int32} {x9 : Int32} {x10 : Int32} {x11 : Int32} {s s' : mS} {v : Option Value}, rc 1 x1 x10 x11 x2 x3 x4 x8 x9 s = some (s', v) → Q v (mH h s') → zz_E zp_P zt_tf zt_fd X (d + 4) zm_339 166 [(0, .ref 61), (1, .int x1), (2, .int x2), (3, .int x3), (4, .int x4), (8, .int x8), (9, .int x9), (10, .int x10), (11, .int x11)] [] (mH h s) Q) {Q : Option Value → zz_H → Prop} {x1 : Int32} {x2 : Int32} {x3 : Int32} {x4 : Int32} {x8 : Int32} {x9 : Int32} {s s' : mS} {v : Option Value} (hf : mf_339_192 N rc x1 x2 x3 x4 x8 x9 s = some (s', v)) (k : Q v (mH h s')) : zz_E zp_P zt_tf zt_fd X (d + 4) zm_339 192 [(0, .ref 61), (1, .int x1), (2, .int x2), (3, .int x3), (4, .int x4), (8, .int x8), (9, .int x9)] [] (mH h s) Q := by
  unfold mf_339_192 at hf
  exact mb_339_192 hh  (hrc0 hf k)
def mf_339_186 (N : Nat) (rc : Nat → Int32 → Int32 → Int32 → Int32 → Int32 → Int32 → Int32 → Int32 → mS → mO) (x1 : Int32) (x2 : Int32) (x3 : Int32) (x4 : Int32) (x8 : Int32) (x9 : Int32) (x10 : Int32) (s : mS) : mO := mo_bv (mf_306 N x10 s) (fun s1 => mf_339_192 N rc x1 x2 x3 x4 x8 x9 s1)
theorem mr_339_186 {X : Nat → Option zz_C} {h : zz_H} (hh : 111 ≤ h.length) {d : Nat} {N : Nat} {rc : Nat → Int32 → Int32 → Int32 → Int32 → Int32 → Int32 → Int32 → Int32 → mS → mO} (hrc0 : ∀ {Q : Option Value → zz_H → Prop} {x1 : Int32} {x2 : Int32} {x3 : Int32} {x4 : Int32} {x8 : Int32} {x9 : Int32} {s s' : mS} {v : Option Value}, rc 0 x1 0 0 x2 x3 x4 x8 x9 s = some (s', v) → Q v (mH h s') → zz_E zp_P zt_tf zt_fd X (d + 4) zm_339 137 [(0, .ref 61), (1, .int x1), (2, .int x2), (3, .int x3), (4, .int x4), (8, .int x8), (9, .int x9)] [] (mH h s) Q) (hrc1 : ∀ {Q : Option Value → zz_H → Prop} {x1 : Int32} {x2 : Int32} {x3 : Int32} {x4 : Int32} {x8 : Int32} {x9 : Int32} {x10 : Int32} {x11 : Int32} {s s' : mS} {v : Option Value}, rc 1 x1 x10 x11 x2 x3 x4 x8 x9 s = some (s', v) → Q v (mH h s') → zz_E zp_P zt_tf zt_fd X (d + 4) zm_339 166 [(0, .ref 61), (1, .int x1), (2, .int x2), (3, .int x3), (4, .int x4), (8, .int x8), (9, .int x9), (10, .int x10), (11, .int x11)] [] (mH h s) Q) {Q : Option Value → zz_H → Prop} {x1 : Int32} {x2 : Int32} {x3 : Int32} {x4 : Int32} {x8 : Int32} {x9 : Int32} {x10 : Int32} {s s' : mS} {v : Option Value} (hf : mf_339_186 N rc x1 x2 x3 x4 x8 x9 x10 s = some (s', v)) (k : Q v (mH h s')) : zz_E zp_P zt_tf zt_fd X (d + 4) zm_339 186 [(0, .ref 61), (1, .int x1), (2, .int x2), (3, .int x3), (4, .int x4), (8, .int x8), (9, .int x9), (10, .int x10)] [] (mH h s) Q := by
  unfold mf_339_186 at hf
  obtain ⟨s1, e, hf⟩ := mo_bv_ok hf
  exact mb_339_186 (d := d + 3) hh  (mr_306 (d := d + 2) hh e (mr_339_192 hh hrc0 hrc1 hf k))
def mf_339_166 (N : Nat) (rc : Nat → Int32 → Int32 → Int32 → Int32 → Int32 → Int32 → Int32 → Int32 → mS → mO) (x1 : Int32) (x2 : Int32) (x3 : Int32) (x4 : Int32) (x8 : Int32) (x9 : Int32) (x10 : Int32) (x11 : Int32) (s : mS) : mO := if x11 ≤ x8 then mf_339_186 N rc x1 x2 x3 x4 x8 x9 x10 s else mf_339_173 N rc x1 x2 x3 x4 x8 x9 x10 x11 s
theorem mr_339_166 {X : Nat → Option zz_C} {h : zz_H} (hh : 111 ≤ h.length) {d : Nat} {N : Nat} {rc : Nat → Int32 → Int32 → Int32 → Int32 → Int32 → Int32 → Int32 → Int32 → mS → mO} (hrc0 : ∀ {Q : Option Value → zz_H → Prop} {x1 : Int32} {x2 : Int32} {x3 : Int32} {x4 : Int32} {x8 : Int32} {x9 : Int32} {s s' : mS} {v : Option Value}, rc 0 x1 0 0 x2 x3 x4 x8 x9 s = some (s', v) → Q v (mH h s') → zz_E zp_P zt_tf zt_fd X (d + 4) zm_339 137 [(0, .ref 61), (1, .int x1), (2, .int x2), (3, .int x3), (4, .int x4), (8, .int x8), (9, .int x9)] [] (mH h s) Q) (hrc1 : ∀ {Q : Option Value → zz_H → Prop} {x1 : Int32} {x2 : Int32} {x3 : Int32} {x4 : Int32} {x8 : Int32} {x9 : Int32} {x10 : Int32} {x11 : Int32} {s s' : mS} {v : Option Value}, rc 1 x1 x10 x11 x2 x3 x4 x8 x9 s = some (s', v) → Q v (mH h s') → zz_E zp_P zt_tf zt_fd X (d + 4) zm_339 166 [(0, .ref 61), (1, .int x1), (2, .int x2), (3, .int x3), (4, .int x4), (8, .int x8), (9, .int x9), (10, .int x10), (11, .int x11)] [] (mH h s) Q) {Q : Option Value → zz_H → Prop} {x1 : Int32} {x2 : Int32} {x3 : Int32} {x4 : Int32} {x8 : Int32} {x9 : Int32} {x10 : Int32} {x11 : Int32} {s s' : mS} {v : Option Value} (hf : mf_339_166 N rc x1 x2 x3 x4 x8 x9 x10 x11 s = some (s', v)) (k : Q v (mH h s')) : zz_E zp_P zt_tf zt_fd X (d + 4) zm_339 166 [(0, .ref 61), (1, .int x1), (2, .int x2), (3, .int x3), (4, .int x4), (8, .int x8), (9, .int x9), (10, .int x10), (11, .int x11)] [] (mH h s) Q := by
  unfold mf_339_166 at hf
  refine mb_339_166 hh  (fun c => ?_) (fun c => ?_)
  · rw [if_pos c] at hf
    exact mr_339_186 hh hrc0 hrc1 hf k
  · rw [if_neg c] at hf
    exact mr_339_173 hh hrc0 hrc1 hf k
def mf_339_144 (N : Nat) (rc : Nat → Int32 → Int32 → Int32 → Int32 → Int32 → Int32 → Int32 → Int32 → mS → mO) (x1 : Int32) (x2 : Int32) (x3 : Int32) (x4 : Int32) (x8 : Int32) (x9 : Int32) (s : mS) : mO := if ¬ (((x2 + 2) + x9) < 0 ∨ 166300 ≤ Int32.toNatClampNeg ((x2 + 2) + x9)) then (rc 1 x1 (s.1 51) (x8 + ((s.2.2.1 47) (Int32.toNatClampNeg ((x2 + 2) + x9)))) x2 x3 x4 x8 x9 s) else none
theorem mr_339_144 {X : Nat → Option zz_C} {h : zz_H} (hh : 111 ≤ h.length) {d : Nat} {N : Nat} {rc : Nat → Int32 → Int32 → Int32 → Int32 → Int32 → Int32 → Int32 → Int32 → mS → mO} (hrc0 : ∀ {Q : Option Value → zz_H → Prop} {x1 : Int32} {x2 : Int32} {x3 : Int32} {x4 : Int32} {x8 : Int32} {x9 : Int32} {s s' : mS} {v : Option Value}, rc 0 x1 0 0 x2 x3 x4 x8 x9 s = some (s', v) → Q v (mH h s') → zz_E zp_P zt_tf zt_fd X (d + 4) zm_339 137 [(0, .ref 61), (1, .int x1), (2, .int x2), (3, .int x3), (4, .int x4), (8, .int x8), (9, .int x9)] [] (mH h s) Q) (hrc1 : ∀ {Q : Option Value → zz_H → Prop} {x1 : Int32} {x2 : Int32} {x3 : Int32} {x4 : Int32} {x8 : Int32} {x9 : Int32} {x10 : Int32} {x11 : Int32} {s s' : mS} {v : Option Value}, rc 1 x1 x10 x11 x2 x3 x4 x8 x9 s = some (s', v) → Q v (mH h s') → zz_E zp_P zt_tf zt_fd X (d + 4) zm_339 166 [(0, .ref 61), (1, .int x1), (2, .int x2), (3, .int x3), (4, .int x4), (8, .int x8), (9, .int x9), (10, .int x10), (11, .int x11)] [] (mH h s) Q) {Q : Option Value → zz_H → Prop} {x1 : Int32} {x2 : Int32} {x3 : Int32} {x4 : Int32} {x8 : Int32} {x9 : Int32} {s s' : mS} {v : Option Value} (hf : mf_339_144 N rc x1 x2 x3 x4 x8 x9 s = some (s', v)) (k : Q v (mH h s')) : zz_E zp_P zt_tf zt_fd X (d + 4) zm_339 144 [(0, .ref 61), (1, .int x1), (2, .int x2), (3, .int x3), (4, .int x4), (8, .int x8), (9, .int x9)] [] (mH h s) Q := by
  unfold mf_339_144 at hf
  obtain ⟨q0, hf⟩ := mo_if hf
  exact mb_339_144 hh q0 (hrc1 hf k)
def mf_339_137 (N : Nat) (rc : Nat → Int32 → Int32 → Int32 → Int32 → Int32 → Int32 → Int32 → Int32 → mS → mO) (x1 : Int32) (x2 : Int32) (x3 : Int32) (x4 : Int32) (x8 : Int32) (x9 : Int32) (s : mS) : mO := if x4 ≤ x9 then mf_339_198 N x3 s else mf_339_144 N rc x1 x2 x3 x4 x8 x9 s
theorem mr_339_137 {X : Nat → Option zz_C} {h : zz_H} (hh : 111 ≤ h.length) {d : Nat} {N : Nat} {rc : Nat → Int32 → Int32 → Int32 → Int32 → Int32 → Int32 → Int32 → Int32 → mS → mO} (hrc0 : ∀ {Q : Option Value → zz_H → Prop} {x1 : Int32} {x2 : Int32} {x3 : Int32} {x4 : Int32} {x8 : Int32} {x9 : Int32} {s s' : mS} {v : Option Value}, rc 0 x1 0 0 x2 x3 x4 x8 x9 s = some (s', v) → Q v (mH h s') → zz_E zp_P zt_tf zt_fd X (d + 4) zm_339 137 [(0, .ref 61), (1, .int x1), (2, .int x2), (3, .int x3), (4, .int x4), (8, .int x8), (9, .int x9)] [] (mH h s) Q) (hrc1 : ∀ {Q : Option Value → zz_H → Prop} {x1 : Int32} {x2 : Int32} {x3 : Int32} {x4 : Int32} {x8 : Int32} {x9 : Int32} {x10 : Int32} {x11 : Int32} {s s' : mS} {v : Option Value}, rc 1 x1 x10 x11 x2 x3 x4 x8 x9 s = some (s', v) → Q v (mH h s') → zz_E zp_P zt_tf zt_fd X (d + 4) zm_339 166 [(0, .ref 61), (1, .int x1), (2, .int x2), (3, .int x3), (4, .int x4), (8, .int x8), (9, .int x9), (10, .int x10), (11, .int x11)] [] (mH h s) Q) {Q : Option Value → zz_H → Prop} {x1 : Int32} {x2 : Int32} {x3 : Int32} {x4 : Int32} {x8 : Int32} {x9 : Int32} {s s' : mS} {v : Option Value} (hf : mf_339_137 N rc x1 x2 x3 x4 x8 x9 s = some (s', v)) (k : Q v (mH h s')) : zz_E zp_P zt_tf zt_fd X (d + 4) zm_339 137 [(0, .ref 61), (1, .int x1), (2, .int x2), (3, .int x3), (4, .int x4), (8, .int x8), (9, .int x9)] [] (mH h s) Q := by
  unfold mf_339_137 at hf
  refine mb_339_137 hh  (fun c => ?_) (fun c => ?_)
  · rw [if_pos c] at hf
    exact mr_339_198 hh hf k
  · rw [if_neg c] at hf
    exact mr_339_144 hh hrc0 hrc1 hf k
def mf_339_L9 (N : Nat) : Nat → Nat → Int32 → Int32 → Int32 → Int32 → Int32 → Int32 → Int32 → Int32 → mS → mO
  | 0, _, _, _, _, _, _, _, _, _, _ => none
  | n + 1, l, x1, x10, x11, x2, x3, x4, x8, x9, s => if l = 0 then mf_339_137 N (mf_339_L9 N n) x1 x2 x3 x4 x8 x9 s else if l = 1 then mf_339_166 N (mf_339_L9 N n) x1 x2 x3 x4 x8 x9 x10 x11 s else none
theorem mr_339_L9 {X : Nat → Option zz_C} {h : zz_H} (hh : 111 ≤ h.length) {d : Nat} {N : Nat} : ∀ n : Nat, (∀ {Q : Option Value → zz_H → Prop} {x1 : Int32} {x2 : Int32} {x3 : Int32} {x4 : Int32} {x8 : Int32} {x9 : Int32} {s s' : mS} {v : Option Value}, mf_339_L9 N n 0 x1 0 0 x2 x3 x4 x8 x9 s = some (s', v) → Q v (mH h s') → zz_E zp_P zt_tf zt_fd X (d + 4) zm_339 137 [(0, .ref 61), (1, .int x1), (2, .int x2), (3, .int x3), (4, .int x4), (8, .int x8), (9, .int x9)] [] (mH h s) Q) ∧ (∀ {Q : Option Value → zz_H → Prop} {x1 : Int32} {x2 : Int32} {x3 : Int32} {x4 : Int32} {x8 : Int32} {x9 : Int32} {x10 : Int32} {x11 : Int32} {s s' : mS} {v : Option Value}, mf_339_L9 N n 1 x1 x10 x11 x2 x3 x4 x8 x9 s = some (s', v) → Q v (mH h s') → zz_E zp_P zt_tf zt_fd X (d + 4) zm_339 166 [(0, .ref 61), (1, .int x1), (2, .int x2), (3, .int x3), (4, .int x4), (8, .int x8), (9, .int x9), (10, .int x10), (11, .int x11)] [] (mH h s) Q) := by
  intro n
  induction n with
  | zero => exact ⟨(fun hf _ => by cases hf), (fun hf _ => by cases hf)⟩
  | succ n ih =>
    obtain ⟨h0, h1⟩ := ih
    refine ⟨?_, ?_⟩
    · intro Q _ _ _ _ _ _ s s' v hf k
      unfold mf_339_L9 at hf
      rw [if_pos rfl] at hf
      exact mr_339_137 hh h0 h1 hf k
    · intro Q _ _ _ _ _ _ _ _ s s' v hf k
      unfold mf_339_L9 at hf
      rw [if_neg (by decide)] at hf
      rw [if_pos rfl] at hf
      exact mr_339_166 hh h0 h1 hf k
def mf_339_126 (N : Nat) (x1 : Int32) (x2 : Int32) (x3 : Int32) (x4 : Int32) (s : mS) : mO := mf_339_L9 N N 0 x1 0 0 x2 x3 x4 0 0 (mI s 51 x3)
theorem mr_339_126 {X : Nat → Option zz_C} {h : zz_H} (hh : 111 ≤ h.length) {d : Nat} {N : Nat} {Q : Option Value → zz_H → Prop} {x1 : Int32} {x2 : Int32} {x3 : Int32} {x4 : Int32} {s s' : mS} {v : Option Value} (hf : mf_339_126 N x1 x2 x3 x4 s = some (s', v)) (k : Q v (mH h s')) : zz_E zp_P zt_tf zt_fd X (d + 4) zm_339 126 [(0, .ref 61), (1, .int x1), (2, .int x2), (3, .int x3), (4, .int x4)] [] (mH h s) Q := by
  unfold mf_339_126 at hf
  exact mb_339_126 hh  ((mr_339_L9 hh N).1 hf k)
def mf_339_91 (N : Nat) (x1 : Int32) (x2 : Int32) (x3 : Int32) (x4 : Int32) (x7 : Int32) (y0 : Int64) (y1 : Int32) (s : mS) : mO := if (lg_cmp y0 (Int32.toInt64 y1)) = 0 then mf_339_126 N x1 x2 x3 x4 s else mf_339_96 N x4 x7 s
theorem mr_339_91 {X : Nat → Option zz_C} {h : zz_H} (hh : 111 ≤ h.length) {d : Nat} {N : Nat} {Q : Option Value → zz_H → Prop} {x1 : Int32} {x2 : Int32} {x3 : Int32} {x4 : Int32} {x7 : Int32} {y0 : Int64} {y1 : Int32} {s s' : mS} {v : Option Value} (hf : mf_339_91 N x1 x2 x3 x4 x7 y0 y1 s = some (s', v)) (k : Q v (mH h s')) : zz_E zp_P zt_tf zt_fd X (d + 4) zm_339 91 [(0, .ref 61), (1, .int x1), (2, .int x2), (3, .int x3), (4, .int x4), (7, .int x7)] [.int y1, .long y0] (mH h s) Q := by
  unfold mf_339_91 at hf
  refine mb_339_91 hh  (fun c => ?_) (fun c => ?_)
  · rw [if_pos c] at hf
    exact mr_339_126 hh hf k
  · rw [if_neg c] at hf
    exact mr_339_96 hh hf k
def mf_339_84 (N : Nat) (x1 : Int32) (x2 : Int32) (x3 : Int32) (x4 : Int32) (x5 : Int64) (x7 : Int32) (s : mS) : mO := mo_bi (mf_77 N x1 s) (fun s1 y => mf_339_91 N x1 x2 x3 x4 x7 x5 y s1)
theorem mr_339_84 {X : Nat → Option zz_C} {h : zz_H} (hh : 111 ≤ h.length) {d : Nat} {N : Nat} {Q : Option Value → zz_H → Prop} {x1 : Int32} {x2 : Int32} {x3 : Int32} {x4 : Int32} {x5 : Int64} {x7 : Int32} {s s' : mS} {v : Option Value} (hf : mf_339_84 N x1 x2 x3 x4 x5 x7 s = some (s', v)) (k : Q v (mH h s')) : zz_E zp_P zt_tf zt_fd X (d + 4) zm_339 84 [(0, .ref 61), (1, .int x1), (2, .int x2), (3, .int x3), (4, .int x4), (5, .long x5), (7, .int x7)] [] (mH h s) Q := by
  unfold mf_339_84 at hf
  obtain ⟨s1, y, e, hf⟩ := mo_bi_ok hf
  exact mb_339_84 (d := d + 3) hh  (mr_77 (d := d + 3) hh e (mr_339_91 hh hf k))
def mf_339_79 (N : Nat) (x1 : Int32) (x2 : Int32) (x3 : Int32) (x4 : Int32) (x5 : Int64) (x7 : Int32) (s : mS) : mO := if ¬ x7 = 0 then mf_339_96 N x4 x7 s else mf_339_84 N x1 x2 x3 x4 x5 x7 s
theorem mr_339_79 {X : Nat → Option zz_C} {h : zz_H} (hh : 111 ≤ h.length) {d : Nat} {N : Nat} {Q : Option Value → zz_H → Prop} {x1 : Int32} {x2 : Int32} {x3 : Int32} {x4 : Int32} {x5 : Int64} {x7 : Int32} {s s' : mS} {v : Option Value} (hf : mf_339_79 N x1 x2 x3 x4 x5 x7 s = some (s', v)) (k : Q v (mH h s')) : zz_E zp_P zt_tf zt_fd X (d + 4) zm_339 79 [(0, .ref 61), (1, .int x1), (2, .int x2), (3, .int x3), (4, .int x4), (5, .long x5), (7, .int x7)] [] (mH h s) Q := by
  unfold mf_339_79 at hf
  refine mb_339_79 hh  (fun c => ?_) (fun c => ?_)
  · rw [if_pos c] at hf
    exact mr_339_96 hh hf k
  · rw [if_neg c] at hf
    exact mr_339_84 hh hf k
def mf_339_72 (N : Nat) (x1 : Int32) (x2 : Int32) (x3 : Int32) (x4 : Int32) (x5 : Int64) (x7 : Int32) (s : mS) : mO := if 20 < x4 then mf_339_96 N x4 x7 s else mf_339_79 N x1 x2 x3 x4 x5 x7 s
theorem mr_339_72 {X : Nat → Option zz_C} {h : zz_H} (hh : 111 ≤ h.length) {d : Nat} {N : Nat} {Q : Option Value → zz_H → Prop} {x1 : Int32} {x2 : Int32} {x3 : Int32} {x4 : Int32} {x5 : Int64} {x7 : Int32} {s s' : mS} {v : Option Value} (hf : mf_339_72 N x1 x2 x3 x4 x5 x7 s = some (s', v)) (k : Q v (mH h s')) : zz_E zp_P zt_tf zt_fd X (d + 4) zm_339 72 [(0, .ref 61), (1, .int x1), (2, .int x2), (3, .int x3), (4, .int x4), (5, .long x5), (7, .int x7)] [] (mH h s) Q := by
  unfold mf_339_72 at hf
  refine mb_339_72 hh  (fun c => ?_) (fun c => ?_)
  · rw [if_pos c] at hf
    exact mr_339_96 hh hf k
  · rw [if_neg c] at hf
    exact mr_339_79 hh hf k
def mf_339_64 (N : Nat) (rc : Nat → Int32 → Int32 → Int32 → Int32 → Int64 → Int32 → Int32 → mS → mO) (x1 : Int32) (x2 : Int32) (x3 : Int32) (x4 : Int32) (x5 : Int64) (x8 : Int32) (y0 : Int32) (s : mS) : mO := rc 0 x1 x2 x3 x4 x5 y0 (x8 + 1) s
theorem mr_339_64 {X : Nat → Option zz_C} {h : zz_H} (hh : 111 ≤ h.length) {d : Nat} {N : Nat} {rc : Nat → Int32 → Int32 → Int32 → Int32 → Int64 → Int32 → Int32 → mS → mO} (hrc0 : ∀ {Q : Option Value → zz_H → Prop} {x1 : Int32} {x2 : Int32} {x3 : Int32} {x4 : Int32} {x5 : Int64} {x7 : Int32} {x8 : Int32} {s s' : mS} {v : Option Value}, rc 0 x1 x2 x3 x4 x5 x7 x8 s = some (s', v) → Q v (mH h s') → zz_E zp_P zt_tf zt_fd X (d + 4) zm_339 16 [(0, .ref 61), (1, .int x1), (2, .int x2), (3, .int x3), (4, .int x4), (5, .long x5), (7, .int x7), (8, .int x8)] [] (mH h s) Q) {Q : Option Value → zz_H → Prop} {x1 : Int32} {x2 : Int32} {x3 : Int32} {x4 : Int32} {x5 : Int64} {x8 : Int32} {y0 : Int32} {s s' : mS} {v : Option Value} (hf : mf_339_64 N rc x1 x2 x3 x4 x5 x8 y0 s = some (s', v)) (k : Q v (mH h s')) : zz_E zp_P zt_tf zt_fd X (d + 4) zm_339 64 [(0, .ref 61), (1, .int x1), (2, .int x2), (3, .int x3), (4, .int x4), (5, .long x5), (8, .int x8)] [.int y0] (mH h s) Q := by
  unfold mf_339_64 at hf
  exact mb_339_64 hh  (hrc0 hf k)
def mf_339_63 (N : Nat) (rc : Nat → Int32 → Int32 → Int32 → Int32 → Int64 → Int32 → Int32 → mS → mO) (x1 : Int32) (x2 : Int32) (x3 : Int32) (x4 : Int32) (x5 : Int64) (x8 : Int32) (s : mS) : mO := mf_339_64 N rc x1 x2 x3 x4 x5 x8 0 s
theorem mr_339_63 {X : Nat → Option zz_C} {h : zz_H} (hh : 111 ≤ h.length) {d : Nat} {N : Nat} {rc : Nat → Int32 → Int32 → Int32 → Int32 → Int64 → Int32 → Int32 → mS → mO} (hrc0 : ∀ {Q : Option Value → zz_H → Prop} {x1 : Int32} {x2 : Int32} {x3 : Int32} {x4 : Int32} {x5 : Int64} {x7 : Int32} {x8 : Int32} {s s' : mS} {v : Option Value}, rc 0 x1 x2 x3 x4 x5 x7 x8 s = some (s', v) → Q v (mH h s') → zz_E zp_P zt_tf zt_fd X (d + 4) zm_339 16 [(0, .ref 61), (1, .int x1), (2, .int x2), (3, .int x3), (4, .int x4), (5, .long x5), (7, .int x7), (8, .int x8)] [] (mH h s) Q) {Q : Option Value → zz_H → Prop} {x1 : Int32} {x2 : Int32} {x3 : Int32} {x4 : Int32} {x5 : Int64} {x8 : Int32} {s s' : mS} {v : Option Value} (hf : mf_339_63 N rc x1 x2 x3 x4 x5 x8 s = some (s', v)) (k : Q v (mH h s')) : zz_E zp_P zt_tf zt_fd X (d + 4) zm_339 63 [(0, .ref 61), (1, .int x1), (2, .int x2), (3, .int x3), (4, .int x4), (5, .long x5), (8, .int x8)] [] (mH h s) Q := by
  unfold mf_339_63 at hf
  exact mb_339_63 hh  (mr_339_64 hh hrc0 hf k)
def mf_339_59 (N : Nat) (rc : Nat → Int32 → Int32 → Int32 → Int32 → Int64 → Int32 → Int32 → mS → mO) (x1 : Int32) (x2 : Int32) (x3 : Int32) (x4 : Int32) (x5 : Int64) (x8 : Int32) (s : mS) : mO := mf_339_64 N rc x1 x2 x3 x4 x5 x8 1 s
theorem mr_339_59 {X : Nat → Option zz_C} {h : zz_H} (hh : 111 ≤ h.length) {d : Nat} {N : Nat} {rc : Nat → Int32 → Int32 → Int32 → Int32 → Int64 → Int32 → Int32 → mS → mO} (hrc0 : ∀ {Q : Option Value → zz_H → Prop} {x1 : Int32} {x2 : Int32} {x3 : Int32} {x4 : Int32} {x5 : Int64} {x7 : Int32} {x8 : Int32} {s s' : mS} {v : Option Value}, rc 0 x1 x2 x3 x4 x5 x7 x8 s = some (s', v) → Q v (mH h s') → zz_E zp_P zt_tf zt_fd X (d + 4) zm_339 16 [(0, .ref 61), (1, .int x1), (2, .int x2), (3, .int x3), (4, .int x4), (5, .long x5), (7, .int x7), (8, .int x8)] [] (mH h s) Q) {Q : Option Value → zz_H → Prop} {x1 : Int32} {x2 : Int32} {x3 : Int32} {x4 : Int32} {x5 : Int64} {x8 : Int32} {s s' : mS} {v : Option Value} (hf : mf_339_59 N rc x1 x2 x3 x4 x5 x8 s = some (s', v)) (k : Q v (mH h s')) : zz_E zp_P zt_tf zt_fd X (d + 4) zm_339 59 [(0, .ref 61), (1, .int x1), (2, .int x2), (3, .int x3), (4, .int x4), (5, .long x5), (8, .int x8)] [] (mH h s) Q := by
  unfold mf_339_59 at hf
  exact mb_339_59 hh  (mr_339_64 hh hrc0 hf k)
def mf_339_45 (N : Nat) (rc : Nat → Int32 → Int32 → Int32 → Int32 → Int64 → Int32 → Int32 → mS → mO) (x1 : Int32) (x2 : Int32) (x3 : Int32) (x4 : Int32) (x5 : Int64) (x8 : Int32) (s : mS) : mO := if ¬ (((x2 + 2) + x8) < 0 ∨ 166300 ≤ Int32.toNatClampNeg ((x2 + 2) + x8)) then (if 0 ≤ ((s.2.2.1 47) (Int32.toNatClampNeg ((x2 + 2) + x8))) then mf_339_63 N rc x1 x2 x3 x4 x5 x8 s else mf_339_59 N rc x1 x2 x3 x4 x5 x8 s) else none
theorem mr_339_45 {X : Nat → Option zz_C} {h : zz_H} (hh : 111 ≤ h.length) {d : Nat} {N : Nat} {rc : Nat → Int32 → Int32 → Int32 → Int32 → Int64 → Int32 → Int32 → mS → mO} (hrc0 : ∀ {Q : Option Value → zz_H → Prop} {x1 : Int32} {x2 : Int32} {x3 : Int32} {x4 : Int32} {x5 : Int64} {x7 : Int32} {x8 : Int32} {s s' : mS} {v : Option Value}, rc 0 x1 x2 x3 x4 x5 x7 x8 s = some (s', v) → Q v (mH h s') → zz_E zp_P zt_tf zt_fd X (d + 4) zm_339 16 [(0, .ref 61), (1, .int x1), (2, .int x2), (3, .int x3), (4, .int x4), (5, .long x5), (7, .int x7), (8, .int x8)] [] (mH h s) Q) {Q : Option Value → zz_H → Prop} {x1 : Int32} {x2 : Int32} {x3 : Int32} {x4 : Int32} {x5 : Int64} {x8 : Int32} {s s' : mS} {v : Option Value} (hf : mf_339_45 N rc x1 x2 x3 x4 x5 x8 s = some (s', v)) (k : Q v (mH h s')) : zz_E zp_P zt_tf zt_fd X (d + 4) zm_339 45 [(0, .ref 61), (1, .int x1), (2, .int x2), (3, .int x3), (4, .int x4), (5, .long x5), (8, .int x8)] [] (mH h s) Q := by
  unfold mf_339_45 at hf
  obtain ⟨q0, hf⟩ := mo_if hf
  refine mb_339_45 hh q0 (fun c => ?_) (fun c => ?_)
  · rw [if_pos c] at hf
    exact mr_339_63 hh hrc0 hf k
  · rw [if_neg c] at hf
    exact mr_339_59 hh hrc0 hf k
def mf_339_23 (N : Nat) (rc : Nat → Int32 → Int32 → Int32 → Int32 → Int64 → Int32 → Int32 → mS → mO) (x1 : Int32) (x2 : Int32) (x3 : Int32) (x4 : Int32) (x5 : Int64) (x7 : Int32) (x8 : Int32) (s : mS) : mO := if ¬ (((x2 + 2) + x8) < 0 ∨ 166300 ≤ Int32.toNatClampNeg ((x2 + 2) + x8)) then (if ¬ x7 = 0 then mf_339_59 N rc x1 x2 x3 x4 (x5 + (Int32.toInt64 ((s.2.2.1 47) (Int32.toNatClampNeg ((x2 + 2) + x8))))) x8 s else mf_339_45 N rc x1 x2 x3 x4 (x5 + (Int32.toInt64 ((s.2.2.1 47) (Int32.toNatClampNeg ((x2 + 2) + x8))))) x8 s) else none
theorem mr_339_23 {X : Nat → Option zz_C} {h : zz_H} (hh : 111 ≤ h.length) {d : Nat} {N : Nat} {rc : Nat → Int32 → Int32 → Int32 → Int32 → Int64 → Int32 → Int32 → mS → mO} (hrc0 : ∀ {Q : Option Value → zz_H → Prop} {x1 : Int32} {x2 : Int32} {x3 : Int32} {x4 : Int32} {x5 : Int64} {x7 : Int32} {x8 : Int32} {s s' : mS} {v : Option Value}, rc 0 x1 x2 x3 x4 x5 x7 x8 s = some (s', v) → Q v (mH h s') → zz_E zp_P zt_tf zt_fd X (d + 4) zm_339 16 [(0, .ref 61), (1, .int x1), (2, .int x2), (3, .int x3), (4, .int x4), (5, .long x5), (7, .int x7), (8, .int x8)] [] (mH h s) Q) {Q : Option Value → zz_H → Prop} {x1 : Int32} {x2 : Int32} {x3 : Int32} {x4 : Int32} {x5 : Int64} {x7 : Int32} {x8 : Int32} {s s' : mS} {v : Option Value} (hf : mf_339_23 N rc x1 x2 x3 x4 x5 x7 x8 s = some (s', v)) (k : Q v (mH h s')) : zz_E zp_P zt_tf zt_fd X (d + 4) zm_339 23 [(0, .ref 61), (1, .int x1), (2, .int x2), (3, .int x3), (4, .int x4), (5, .long x5), (7, .int x7), (8, .int x8)] [] (mH h s) Q := by
  unfold mf_339_23 at hf
  obtain ⟨q0, hf⟩ := mo_if hf
  refine mb_339_23 hh q0 (fun c => ?_) (fun c => ?_)
  · rw [if_pos c] at hf
    exact mr_339_59 hh hrc0 hf k
  · rw [if_neg c] at hf
    exact mr_339_45 hh hrc0 hf k
def mf_339_16 (N : Nat) (rc : Nat → Int32 → Int32 → Int32 → Int32 → Int64 → Int32 → Int32 → mS → mO) (x1 : Int32) (x2 : Int32) (x3 : Int32) (x4 : Int32) (x5 : Int64) (x7 : Int32) (x8 : Int32) (s : mS) : mO := if x4 ≤ x8 then mf_339_72 N x1 x2 x3 x4 x5 x7 s else mf_339_23 N rc x1 x2 x3 x4 x5 x7 x8 s
theorem mr_339_16 {X : Nat → Option zz_C} {h : zz_H} (hh : 111 ≤ h.length) {d : Nat} {N : Nat} {rc : Nat → Int32 → Int32 → Int32 → Int32 → Int64 → Int32 → Int32 → mS → mO} (hrc0 : ∀ {Q : Option Value → zz_H → Prop} {x1 : Int32} {x2 : Int32} {x3 : Int32} {x4 : Int32} {x5 : Int64} {x7 : Int32} {x8 : Int32} {s s' : mS} {v : Option Value}, rc 0 x1 x2 x3 x4 x5 x7 x8 s = some (s', v) → Q v (mH h s') → zz_E zp_P zt_tf zt_fd X (d + 4) zm_339 16 [(0, .ref 61), (1, .int x1), (2, .int x2), (3, .int x3), (4, .int x4), (5, .long x5), (7, .int x7), (8, .int x8)] [] (mH h s) Q) {Q : Option Value → zz_H → Prop} {x1 : Int32} {x2 : Int32} {x3 : Int32} {x4 : Int32} {x5 : Int64} {x7 : Int32} {x8 : Int32} {s s' : mS} {v : Option Value} (hf : mf_339_16 N rc x1 x2 x3 x4 x5 x7 x8 s = some (s', v)) (k : Q v (mH h s')) : zz_E zp_P zt_tf zt_fd X (d + 4) zm_339 16 [(0, .ref 61), (1, .int x1), (2, .int x2), (3, .int x3), (4, .int x4), (5, .long x5), (7, .int x7), (8, .int x8)] [] (mH h s) Q := by
  unfold mf_339_16 at hf
  refine mb_339_16 hh  (fun c => ?_) (fun c => ?_)
  · rw [if_pos c] at hf
    exact mr_339_72 hh hf k
  · rw [if_neg c] at hf
    exact mr_339_23 hh hrc0 hf k
def mf_339_L15 (N : Nat) : Nat → Nat → Int32 → Int32 → Int32 → Int32 → Int64 → Int32 → Int32 → mS → mO
  | 0, _, _, _, _, _, _, _, _, _ => none
  | n + 1, l, x1, x2, x3, x4, x5, x7, x8, s => if l = 0 then mf_339_16 N (mf_339_L15 N n) x1 x2 x3 x4 x5 x7 x8 s else none
theorem mr_339_L15 {X : Nat → Option zz_C} {h : zz_H} (hh : 111 ≤ h.length) {d : Nat} {N : Nat} : ∀ n : Nat, (∀ {Q : Option Value → zz_H → Prop} {x1 : Int32} {x2 : Int32} {x3 : Int32} {x4 : Int32} {x5 : Int64} {x7 : Int32} {x8 : Int32} {s s' : mS} {v : Option Value}, mf_339_L15 N n 0 x1 x2 x3 x4 x5 x7 x8 s = some (s', v) → Q v (mH h s') → zz_E zp_P zt_tf zt_fd X (d + 4) zm_339 16 [(0, .ref 61), (1, .int x1), (2, .int x2), (3, .int x3), (4, .int x4), (5, .long x5), (7, .int x7), (8, .int x8)] [] (mH h s) Q) := by
  intro n
  induction n with
  | zero => exact (fun hf _ => by cases hf)
  | succ n ih =>
    have h0 := @ih
    intro Q _ _ _ _ _ _ _ s s' v hf k
    unfold mf_339_L15 at hf
    rw [if_pos rfl] at hf
    exact mr_339_16 hh h0 hf k
def mf_339_5 (N : Nat) (x1 : Int32) (x2 : Int32) (x3 : Int32) (y0 : Int32) (s : mS) : mO := mf_339_L15 N N 0 x1 x2 x3 y0 0 0 0 s
theorem mr_339_5 {X : Nat → Option zz_C} {h : zz_H} (hh : 111 ≤ h.length) {d : Nat} {N : Nat} {Q : Option Value → zz_H → Prop} {x1 : Int32} {x2 : Int32} {x3 : Int32} {y0 : Int32} {s s' : mS} {v : Option Value} (hf : mf_339_5 N x1 x2 x3 y0 s = some (s', v)) (k : Q v (mH h s')) : zz_E zp_P zt_tf zt_fd X (d + 4) zm_339 5 [(0, .ref 61), (1, .int x1), (2, .int x2), (3, .int x3)] [.int y0] (mH h s) Q := by
  unfold mf_339_5 at hf
  exact mb_339_5 hh  (mr_339_L15 hh N hf k)
def mf_339_0 (N : Nat) (x1 : Int32) (x2 : Int32) (x3 : Int32) (s : mS) : mO := mo_bi (mf_77 N x2 s) (fun s1 y => mf_339_5 N x1 x2 x3 y s1)
theorem mr_339_0 {X : Nat → Option zz_C} {h : zz_H} (hh : 111 ≤ h.length) {d : Nat} {N : Nat} {Q : Option Value → zz_H → Prop} {x1 : Int32} {x2 : Int32} {x3 : Int32} {s s' : mS} {v : Option Value} (hf : mf_339_0 N x1 x2 x3 s = some (s', v)) (k : Q v (mH h s')) : zz_E zp_P zt_tf zt_fd X (d + 4) zm_339 0 [(0, .ref 61), (1, .int x1), (2, .int x2), (3, .int x3)] [] (mH h s) Q := by
  unfold mf_339_0 at hf
  obtain ⟨s1, y, e, hf⟩ := mo_bi_ok hf
  exact mb_339_0 (d := d + 3) hh  (mr_77 (d := d + 3) hh e (mr_339_5 hh hf k))
/-- cut -/
def mf_339 (N : Nat) (x1 : Int32) (x2 : Int32) (x3 : Int32) (s : mS) : mO := mf_339_0 N x1 x2 x3 s
theorem mr_339 {X : Nat → Option zz_C} {h : zz_H} (hh : 111 ≤ h.length) {d : Nat} {N : Nat} {Q : Option Value → zz_H → Prop} {x1 : Int32} {x2 : Int32} {x3 : Int32} {s s' : mS} {v : Option Value} (hf : mf_339 N x1 x2 x3 s = some (s', v)) (k : Q v (mH h s')) : zz_E zp_P zt_tf zt_fd X (d + 4) zm_339 0 [(0, .ref 61), (1, .int x1), (2, .int x2), (3, .int x3)] [] (mH h s) Q := by
  unfold mf_339 at hf
  exact zz_E.weak (mr_339_0 hh hf k) rfl ⟨rfl, rfl, rfl, rfl, trivial⟩
/-! pick (III)V -/
theorem mb_340_0 {X : Nat → Option zz_C} {h : zz_H} (hh : 111 ≤ h.length) {s : mS} {d : Nat} {Q : Option Value → zz_H → Prop} {x1 : Int32} {x2 : Int32} {x3 : Int32} (i5 : ¬ (x1 < 0 ∨ 166300 ≤ Int32.toNatClampNeg x1)) (k : zz_E zp_P zt_tf zt_fd X d zm_77 0 [(0, .ref 61), (1, .int x1)] [] (mH h s) (fun v h' => zz_E zp_P zt_tf zt_fd X (d + 1) zm_340 13 [(0, .ref 61), (1, .int x1), (2, .int x2), (3, .int x3), (4, .int ((s.2.2.1 47) (Int32.toNatClampNeg x1)))] (v.toList ++ []) h' Q)) : zz_E zp_P zt_tf zt_fd X (d + 1) zm_340 0 [(0, .ref 61), (1, .int x1), (2, .int x2), (3, .int x3)] [] (mH h s) Q := by
  refine zz_E.n 1 rfl rfl rfl ?_
  refine mE_g hh 4 (v := .ref 89) rfl rfl rfl ?_
  refine zz_E.n 5 rfl rfl rfl ?_
  refine mE_ia hh 6 28 (f := (s.2.2.1 47)) rfl (by decide) rfl rfl i5 rfl ?_
  refine zz_E.n 8 rfl rfl rfl ?_
  refine zz_E.n 9 rfl rfl rfl ?_
  refine zz_E.n 10 rfl rfl rfl ?_
  refine mE_cv hh 13 (as := []) rfl rfl (Nat.le_of_ble_eq_true rfl) (Nat.le_of_ble_eq_true rfl) rfl (Nat.le_of_ble_eq_true rfl) rfl ?_
  refine zz_E.mono k ?_
  intro v h' hE
  exact zz_E.weak hE rfl ⟨rfl, rfl, rfl, rfl, rfl, trivial⟩
theorem mb_340_13 {X : Nat → Option zz_C} {h : zz_H} (hh : 111 ≤ h.length) {s : mS} {d : Nat} {Q : Option Value → zz_H → Prop} {x1 : Int32} {x2 : Int32} {x3 : Int32} {x4 : Int32} {y0 : Int32} (k : zz_E zp_P zt_tf zt_fd X d zm_77 0 [(0, .ref 61), (1, .int x2)] [] (mH h s) (fun v h' => zz_E zp_P zt_tf zt_fd X (d + 1) zm_340 18 [(0, .ref 61), (1, .int x1), (2, .int x2), (3, .int x3), (4, .int x4)] (v.toList ++ [.int y0]) h' Q)) : zz_E zp_P zt_tf zt_fd X (d + 1) zm_340 13 [(0, .ref 61), (1, .int x1), (2, .int x2), (3, .int x3), (4, .int x4)] [.int y0] (mH h s) Q := by
  refine zz_E.n 14 rfl rfl rfl ?_
  refine zz_E.n 15 rfl rfl rfl ?_
  refine mE_cv hh 18 (as := [.int y0]) rfl rfl (Nat.le_of_ble_eq_true rfl) (Nat.le_of_ble_eq_true rfl) rfl (Nat.le_of_ble_eq_true rfl) rfl ?_
  refine zz_E.mono k ?_
  intro v h' hE
  exact zz_E.weak hE rfl ⟨rfl, rfl, rfl, rfl, rfl, trivial⟩
theorem mb_340_18 {X : Nat → Option zz_C} {h : zz_H} (hh : 111 ≤ h.length) {s : mS} {d : Nat} {Q : Option Value → zz_H → Prop} {x1 : Int32} {x2 : Int32} {x3 : Int32} {x4 : Int32} {y0 : Int32} {y1 : Int32} (k1 : y0 = y1 → zz_E zp_P zt_tf zt_fd X d zm_340 31 [(0, .ref 61), (1, .int x1), (2, .int x2), (3, .int x3), (4, .int x4)] [] (mH h s) Q) (k2 : ¬ y0 = y1 → zz_E zp_P zt_tf zt_fd X d zm_340 21 [(0, .ref 61)] [] (mH h s) Q) : zz_E zp_P zt_tf zt_fd X d zm_340 18 [(0, .ref 61), (1, .int x1), (2, .int x2), (3, .int x3), (4, .int x4)] [.int y1, .int y0] (mH h s) Q := by
  refine zz_E.b2 31 21 (A := y0 = y1) rfl rfl (by decide) rfl rfl (fun c => ?_) (fun c => ?_)
  · exact zz_E.weak (k1 c) rfl ⟨rfl, rfl, rfl, rfl, rfl, trivial⟩
  · exact zz_E.weak (k2 c) rfl ⟨rfl, trivial⟩
theorem mb_340_21 {X : Nat → Option zz_C} {h : zz_H} (hh : 111 ≤ h.length) {s : mS} {d : Nat} {Q : Option Value → zz_H → Prop}  (k : zz_E zp_P zt_tf zt_fd X d zm_301 0 [(0, .ref 61), (1, .int 4), (2, .int (s.1 70))] [] (mH h s) (fun v h' => zz_E zp_P zt_tf zt_fd X (d + 1) zm_340 30 [] (v.toList ++ []) h' Q)) : zz_E zp_P zt_tf zt_fd X (d + 1) zm_340 21 [(0, .ref 61)] [] (mH h s) Q := by
  refine zz_E.n 22 rfl rfl rfl ?_
  refine zz_E.c 23 (.int 4) rfl rfl rfl rfl ?_
  refine zz_E.n 24 rfl rfl rfl ?_
  refine mE_g hh 27 (v := .int (s.1 70)) rfl rfl rfl ?_
  refine mE_cv hh 30 (as := []) rfl rfl (Nat.le_of_ble_eq_true rfl) (Nat.le_of_ble_eq_true rfl) rfl (Nat.le_of_ble_eq_true rfl) rfl ?_
  refine zz_E.mono k ?_
  intro v h' hE
  exact zz_E.weak hE rfl trivial
theorem mb_340_30 {X : Nat → Option zz_C} {h : zz_H} (hh : 111 ≤ h.length) {s : mS} {d : Nat} {Q : Option Value → zz_H → Prop}  (k : Q none (mH h s)) : zz_E zp_P zt_tf zt_fd X d zm_340 30 [] [] (mH h s) Q := by
  refine zz_E.ret rfl rfl rfl ?_
  exact k
theorem mb_340_31 {X : Nat → Option zz_C} {h : zz_H} (hh : 111 ≤ h.length) {s : mS} {d : Nat} {Q : Option Value → zz_H → Prop} {x1 : Int32} {x2 : Int32} {x3 : Int32} {x4 : Int32} (k : zz_E zp_P zt_tf zt_fd X d zm_340 39 [(0, .ref 61), (1, .int x1), (2, .int x2), (3, .int x3), (4, .int x4), (5, .int 0)] [] (mH h (mI s 51 x3)) Q) : zz_E zp_P zt_tf zt_fd X d zm_340 31 [(0, .ref 61), (1, .int x1), (2, .int x2), (3, .int x3), (4, .int x4)] [] (mH h s) Q := by
  refine zz_E.n 32 rfl rfl rfl ?_
  refine zz_E.n 33 rfl rfl rfl ?_
  refine mE_p hh 36 rfl (by decide) rfl (mF_51 _ _) rfl ?_
  refine zz_E.c 37 (.int 0) rfl rfl rfl rfl ?_
  refine zz_E.n 39 rfl rfl rfl ?_
  exact zz_E.weak k rfl ⟨rfl, rfl, rfl, rfl, rfl, rfl, trivial⟩
theorem mb_340_39 {X : Nat → Option zz_C} {h : zz_H} (hh : 111 ≤ h.length) {s : mS} {d : Nat} {Q : Option Value → zz_H → Prop} {x1 : Int32} {x2 : Int32} {x3 : Int32} {x4 : Int32} {x5 : Int32} (k : zz_E zp_P zt_tf zt_fd X d zm_77 0 [(0, .ref 61), (1, .int x1)] [] (mH h s) (fun v h' => zz_E zp_P zt_tf zt_fd X (d + 1) zm_340 46 [(0, .ref 61), (1, .int x1), (2, .int x2), (3, .int x3), (4, .int x4), (5, .int x5)] (v.toList ++ [.int x5]) h' Q)) : zz_E zp_P zt_tf zt_fd X (d + 1) zm_340 39 [(0, .ref 61), (1, .int x1), (2, .int x2), (3, .int x3), (4, .int x4), (5, .int x5)] [] (mH h s) Q := by
  refine zz_E.n 41 rfl rfl rfl ?_
  refine zz_E.n 42 rfl rfl rfl ?_
  refine zz_E.n 43 rfl rfl rfl ?_
  refine mE_cv hh 46 (as := [.int x5]) rfl rfl (Nat.le_of_ble_eq_true rfl) (Nat.le_of_ble_eq_true rfl) rfl (Nat.le_of_ble_eq_true rfl) rfl ?_
  refine zz_E.mono k ?_
  intro v h' hE
  exact zz_E.weak hE rfl ⟨rfl, rfl, rfl, rfl, rfl, rfl, trivial⟩
theorem mb_340_46 {X : Nat → Option zz_C} {h : zz_H} (hh : 111 ≤ h.length) {s : mS} {d : Nat} {Q : Option Value → zz_H → Prop} {x1 : Int32} {x2 : Int32} {x3 : Int32} {x4 : Int32} {x5 : Int32} {y0 : Int32} {y1 : Int32} (k1 : y1 ≤ y0 → zz_E zp_P zt_tf zt_fd X d zm_340 76 [(0, .ref 61), (3, .int x3), (4, .int x4)] [] (mH h s) Q) (k2 : ¬ y1 ≤ y0 → zz_E zp_P zt_tf zt_fd X d zm_340 49 [(0, .ref 61), (1, .int x1), (2, .int x2), (3, .int x3), (4, .int x4), (5, .int x5)] [] (mH h s) Q) : zz_E zp_P zt_tf zt_fd X d zm_340 46 [(0, .ref 61), (1, .int x1), (2, .int x2), (3, .int x3), (4, .int x4), (5, .int x5)] [.int y1, .int y0] (mH h s) Q := by
  refine zz_E.b2 76 49 (A := y1 ≤ y0) rfl rfl (by decide) rfl rfl (fun c => ?_) (fun c => ?_)
  · exact zz_E.weak (k1 c) rfl ⟨rfl, rfl, rfl, trivial⟩
  · exact zz_E.weak (k2 c) rfl ⟨rfl, rfl, rfl, rfl, rfl, rfl, trivial⟩
theorem mb_340_49 {X : Nat → Option zz_C} {h : zz_H} (hh : 111 ≤ h.length) {s : mS} {d : Nat} {Q : Option Value → zz_H → Prop} {x1 : Int32} {x2 : Int32} {x3 : Int32} {x4 : Int32} {x5 : Int32} (i59 : ¬ (((x2 + 2) + x5) < 0 ∨ 166300 ≤ Int32.toNatClampNeg ((x2 + 2) + x5))) (k1 : ((s.2.2.1 47) (Int32.toNatClampNeg ((x2 + 2) + x5))) = 0 → zz_E zp_P zt_tf zt_fd X d zm_340 70 [(0, .ref 61), (1, .int x1), (2, .int x2), (3, .int x3), (4, .int x4), (5, .int x5)] [] (mH h s) Q) (k2 : ¬ ((s.2.2.1 47) (Int32.toNatClampNeg ((x2 + 2) + x5))) = 0 → zz_E zp_P zt_tf zt_fd X d zm_340 63 [(0, .ref 61), (1, .int x1), (2, .int x2), (3, .int x3), (4, .int x4), (5, .int x5)] [] (mH h s) Q) : zz_E zp_P zt_tf zt_fd X d zm_340 49 [(0, .ref 61), (1, .int x1), (2, .int x2), (3, .int x3), (4, .int x4), (5, .int x5)] [] (mH h s) Q := by
  refine zz_E.n 50 rfl rfl rfl ?_
  refine mE_g hh 53 (v := .ref 89) rfl rfl rfl ?_
  refine zz_E.n 54 rfl rfl rfl ?_
  refine zz_E.c 55 (.int 2) rfl rfl rfl rfl ?_
  refine zz_E.n 56 rfl rfl rfl ?_
  refine zz_E.n 58 rfl rfl rfl ?_
  refine zz_E.n 59 rfl rfl rfl ?_
  refine mE_ia hh 60 28 (f := (s.2.2.1 47)) rfl (by decide) rfl rfl i59 rfl ?_
  refine zz_E.b1 70 63 (A := ((s.2.2.1 47) (Int32.toNatClampNeg ((x2 + 2) + x5))) = 0) rfl rfl (by decide) rfl rfl (fun c => ?_) (fun c => ?_)
  · exact zz_E.weak (k1 c) rfl ⟨rfl, rfl, rfl, rfl, rfl, rfl, trivial⟩
  · exact zz_E.weak (k2 c) rfl ⟨rfl, rfl, rfl, rfl, rfl, rfl, trivial⟩
theorem mb_340_63 {X : Nat → Option zz_C} {h : zz_H} (hh : 111 ≤ h.length) {s : mS} {d : Nat} {Q : Option Value → zz_H → Prop} {x1 : Int32} {x2 : Int32} {x3 : Int32} {x4 : Int32} {x5 : Int32} (k : zz_E zp_P zt_tf zt_fd X d zm_295 0 [(0, .ref 61), (1, .int x1), (2, .int x5)] [] (mH h s) (fun v h' => zz_E zp_P zt_tf zt_fd X (d + 1) zm_340 70 [(0, .ref 61), (1, .int x1), (2, .int x2), (3, .int x3), (4, .int x4), (5, .int x5)] (v.toList ++ []) h' Q)) : zz_E zp_P zt_tf zt_fd X (d + 1) zm_340 63 [(0, .ref 61), (1, .int x1), (2, .int x2), (3, .int x3), (4, .int x4), (5, .int x5)] [] (mH h s) Q := by
  refine zz_E.n 64 rfl rfl rfl ?_
  refine zz_E.n 65 rfl rfl rfl ?_
  refine zz_E.n 67 rfl rfl rfl ?_
  refine mE_cv hh 70 (as := []) rfl rfl (Nat.le_of_ble_eq_true rfl) (Nat.le_of_ble_eq_true rfl) rfl (Nat.le_of_ble_eq_true rfl) rfl ?_
  refine zz_E.mono k ?_
  intro v h' hE
  exact zz_E.weak hE rfl ⟨rfl, rfl, rfl, rfl, rfl, rfl, trivial⟩
theorem mb_340_70 {X : Nat → Option zz_C} {h : zz_H} (hh : 111 ≤ h.length) {s : mS} {d : Nat} {Q : Option Value → zz_H → Prop} {x1 : Int32} {x2 : Int32} {x3 : Int32} {x4 : Int32} {x5 : Int32} (k : zz_E zp_P zt_tf zt_fd X d zm_340 39 [(0, .ref 61), (1, .int x1), (2, .int x2), (3, .int x3), (4, .int x4), (5, .int (x5 + 1))] [] (mH h s) Q) : zz_E zp_P zt_tf zt_fd X d zm_340 70 [(0, .ref 61), (1, .int x1), (2, .int x2), (3, .int x3), (4, .int x4), (5, .int x5)] [] (mH h s) Q := by
  refine zz_E.n 73 rfl rfl rfl ?_
  refine zz_E.n 39 rfl rfl rfl ?_
  exact zz_E.weak k rfl ⟨rfl, rfl, rfl, rfl, rfl, rfl, trivial⟩
theorem mb_340_76 {X : Nat → Option zz_C} {h : zz_H} (hh : 111 ≤ h.length) {s : mS} {d : Nat} {Q : Option Value → zz_H → Prop} {x3 : Int32} {x4 : Int32} (k : zz_E zp_P zt_tf zt_fd X d zm_305 0 [(0, .ref 61), (1, .int x4), (2, .int x3)] [] (mH h s) (fun v h' => zz_E zp_P zt_tf zt_fd X (d + 1) zm_340 83 [] (v.toList ++ []) h' Q)) : zz_E zp_P zt_tf zt_fd X (d + 1) zm_340 76 [(0, .ref 61), (3, .int x3), (4, .int x4)] [] (mH h s) Q := by
  refine zz_E.n 77 rfl rfl rfl ?_
  refine zz_E.n 79 rfl rfl rfl ?_
  refine zz_E.n 80 rfl rfl rfl ?_
  refine mE_cv hh 83 (as := []) rfl rfl (Nat.le_of_ble_eq_true rfl) (Nat.le_of_ble_eq_true rfl) rfl (Nat.le_of_ble_eq_true rfl) rfl ?_
  refine zz_E.mono k ?_
  intro v h' hE
  exact zz_E.weak hE rfl trivial
theorem mb_340_83 {X : Nat → Option zz_C} {h : zz_H} (hh : 111 ≤ h.length) {s : mS} {d : Nat} {Q : Option Value → zz_H → Prop}  (k : Q none (mH h s)) : zz_E zp_P zt_tf zt_fd X d zm_340 83 [] [] (mH h s) Q := by
  refine zz_E.ret rfl rfl rfl ?_
  exact k
def mf_340_83 (N : Nat)  (s : mS) : mO := some (s, none)
theorem mr_340_83 {X : Nat → Option zz_C} {h : zz_H} (hh : 111 ≤ h.length) {d : Nat} {N : Nat} {Q : Option Value → zz_H → Prop}  {s s' : mS} {v : Option Value} (hf : mf_340_83 N  s = some (s', v)) (k : Q v (mH h s')) : zz_E zp_P zt_tf zt_fd X (d + 4) zm_340 83 [] [] (mH h s) Q := by
  unfold mf_340_83 at hf
  cases hf
  exact mb_340_83 hh  k
def mf_340_76 (N : Nat) (x3 : Int32) (x4 : Int32) (s : mS) : mO := mo_bv (mf_305 N x4 x3 s) (fun s1 => mf_340_83 N  s1)
theorem mr_340_76 {X : Nat → Option zz_C} {h : zz_H} (hh : 111 ≤ h.length) {d : Nat} {N : Nat} {Q : Option Value → zz_H → Prop} {x3 : Int32} {x4 : Int32} {s s' : mS} {v : Option Value} (hf : mf_340_76 N x3 x4 s = some (s', v)) (k : Q v (mH h s')) : zz_E zp_P zt_tf zt_fd X (d + 4) zm_340 76 [(0, .ref 61), (3, .int x3), (4, .int x4)] [] (mH h s) Q := by
  unfold mf_340_76 at hf
  obtain ⟨s1, e, hf⟩ := mo_bv_ok hf
  exact mb_340_76 (d := d + 3) hh  (mr_305 (d := d + 0) hh e (mr_340_83 hh hf k))
def mf_340_70 (N : Nat) (rc : Nat → Int32 → Int32 → Int32 → Int32 → Int32 → mS → mO) (x1 : Int32) (x2 : Int32) (x3 : Int32) (x4 : Int32) (x5 : Int32) (s : mS) : mO := rc 0 x1 x2 x3 x4 (x5 + 1) s
theorem mr_340_70 {X : Nat → Option zz_C} {h : zz_H} (hh : 111 ≤ h.length) {d : Nat} {N : Nat} {rc : Nat → Int32 → Int32 → Int32 → Int32 → Int32 → mS → mO} (hrc0 : ∀ {Q : Option Value → zz_H → Prop} {x1 : Int32} {x2 : Int32} {x3 : Int32} {x4 : Int32} {x5 : Int32} {s s' : mS} {v : Option Value}, rc 0 x1 x2 x3 x4 x5 s = some (s', v) → Q v (mH h s') → zz_E zp_P zt_tf zt_fd X (d + 4) zm_340 39 [(0, .ref 61), (1, .int x1), (2, .int x2), (3, .int x3), (4, .int x4), (5, .int x5)] [] (mH h s) Q) {Q : Option Value → zz_H → Prop} {x1 : Int32} {x2 : Int32} {x3 : Int32} {x4 : Int32} {x5 : Int32} {s s' : mS} {v : Option Value} (hf : mf_340_70 N rc x1 x2 x3 x4 x5 s = some (s', v)) (k : Q v (mH h s')) : zz_E zp_P zt_tf zt_fd X (d + 4) zm_340 70 [(0, .ref 61), (1, .int x1), (2, .int x2), (3, .int x3), (4, .int x4), (5, .int x5)] [] (mH h s) Q := by
  unfold mf_340_70 at hf
  exact mb_340_70 hh  (hrc0 hf k)
def mf_340_63 (N : Nat) (rc : Nat → Int32 → Int32 → Int32 → Int32 → Int32 → mS → mO) (x1 : Int32) (x2 : Int32) (x3 : Int32) (x4 : Int32) (x5 : Int32) (s : mS) : mO := mo_bv (mf_295 N x1 x5 s) (fun s1 => mf_340_70 N rc x1 x2 x3 x4 x5 s1)
theorem mr_340_63 {X : Nat → Option zz_C} {h : zz_H} (hh : 111 ≤ h.length) {d : Nat} {N : Nat} {rc : Nat → Int32 → Int32 → Int32 → Int32 → Int32 → mS → mO} (hrc0 : ∀ {Q : Option Value → zz_H → Prop} {x1 : Int32} {x2 : Int32} {x3 : Int32} {x4 : Int32} {x5 : Int32} {s s' : mS} {v : Option Value}, rc 0 x1 x2 x3 x4 x5 s = some (s', v) → Q v (mH h s') → zz_E zp_P zt_tf zt_fd X (d + 4) zm_340 39 [(0, .ref 61), (1, .int x1), (2, .int x2), (3, .int x3), (4, .int x4), (5, .int x5)] [] (mH h s) Q) {Q : Option Value → zz_H → Prop} {x1 : Int32} {x2 : Int32} {x3 : Int32} {x4 : Int32} {x5 : Int32} {s s' : mS} {v : Option Value} (hf : mf_340_63 N rc x1 x2 x3 x4 x5 s = some (s', v)) (k : Q v (mH h s')) : zz_E zp_P zt_tf zt_fd X (d + 4) zm_340 63 [(0, .ref 61), (1, .int x1), (2, .int x2), (3, .int x3), (4, .int x4), (5, .int x5)] [] (mH h s) Q := by
  unfold mf_340_63 at hf
  obtain ⟨s1, e, hf⟩ := mo_bv_ok hf
  exact mb_340_63 (d := d + 3) hh  (mr_295 (d := d + 2) hh e (mr_340_70 hh hrc0 hf k))
def mf_340_49 (N : Nat) (rc : Nat → Int32 → Int32 → Int32 → Int32 → Int32 → mS → mO) (x1 : Int32) (x2 : Int32) (x3 : Int32) (x4 : Int32) (x5 : Int32) (s : mS) : mO := if ¬ (((x2 + 2) + x5) < 0 ∨ 166300 ≤ Int32.toNatClampNeg ((x2 + 2) + x5)) then (if ((s.2.2.1 47) (Int32.toNatClampNeg ((x2 + 2) + x5))) = 0 then mf_340_70 N rc x1 x2 x3 x4 x5 s else mf_340_63 N rc x1 x2 x3 x4 x5 s) else none
theorem mr_340_49 {X : Nat → Option zz_C} {h : zz_H} (hh : 111 ≤ h.length) {d : Nat} {N : Nat} {rc : Nat → Int32 → Int32 → Int32 → Int32 → Int32 → mS → mO} (hrc0 : ∀ {Q : Option Value → zz_H → Prop} {x1 : Int32} {x2 : Int32} {x3 : Int32} {x4 : Int32} {x5 : Int32} {s s' : mS} {v : Option Value}, rc 0 x1 x2 x3 x4 x5 s = some (s', v) → Q v (mH h s') → zz_E zp_P zt_tf zt_fd X (d + 4) zm_340 39 [(0, .ref 61), (1, .int x1), (2, .int x2), (3, .int x3), (4, .int x4), (5, .int x5)] [] (mH h s) Q) {Q : Option Value → zz_H → Prop} {x1 : Int32} {x2 : Int32} {x3 : Int32} {x4 : Int32} {x5 : Int32} {s s' : mS} {v : Option Value} (hf : mf_340_49 N rc x1 x2 x3 x4 x5 s = some (s', v)) (k : Q v (mH h s')) : zz_E zp_P zt_tf zt_fd X (d + 4) zm_340 49 [(0, .ref 61), (1, .int x1), (2, .int x2), (3, .int x3), (4, .int x4), (5, .int x5)] [] (mH h s) Q := by
  unfold mf_340_49 at hf
  obtain ⟨q0, hf⟩ := mo_if hf
  refine mb_340_49 hh q0 (fun c => ?_) (fun c => ?_)
  · rw [if_pos c] at hf
    exact mr_340_70 hh hrc0 hf k
  · rw [if_neg c] at hf
    exact mr_340_63 hh hrc0 hf k
def mf_340_46 (N : Nat) (rc : Nat → Int32 → Int32 → Int32 → Int32 → Int32 → mS → mO) (x1 : Int32) (x2 : Int32) (x3 : Int32) (x4 : Int32) (x5 : Int32) (y0 : Int32) (y1 : Int32) (s : mS) : mO := if y1 ≤ y0 then mf_340_76 N x3 x4 s else mf_340_49 N rc x1 x2 x3 x4 x5 s
theorem mr_340_46 {X : Nat → Option zz_C} {h : zz_H} (hh : 111 ≤ h.length) {d : Nat} {N : Nat} {rc : Nat → Int32 → Int32 → Int32 → Int32 → Int32 → mS → mO} (hrc0 : ∀ {Q : Option Value → zz_H → Prop} {x1 : Int32} {x2 : Int32} {x3 : Int32} {x4 : Int32} {x5 : Int32} {s s' : mS} {v : Option Value}, rc 0 x1 x2 x3 x4 x5 s = some (s', v) → Q v (mH h s') → zz_E zp_P zt_tf zt_fd X (d + 4) zm_340 39 [(0, .ref 61), (1, .int x1), (2, .int x2), (3, .int x3), (4, .int x4), (5, .int x5)] [] (mH h s) Q) {Q : Option Value → zz_H → Prop} {x1 : Int32} {x2 : Int32} {x3 : Int32} {x4 : Int32} {x5 : Int32} {y0 : Int32} {y1 : Int32} {s s' : mS} {v : Option Value} (hf : mf_340_46 N rc x1 x2 x3 x4 x5 y0 y1 s = some (s', v)) (k : Q v (mH h s')) : zz_E zp_P zt_tf zt_fd X (d + 4) zm_340 46 [(0, .ref 61), (1, .int x1), (2, .int x2), (3, .int x3), (4, .int x4), (5, .int x5)] [.int y1, .int y0] (mH h s) Q := by
  unfold mf_340_46 at hf
  refine mb_340_46 hh  (fun c => ?_) (fun c => ?_)
  · rw [if_pos c] at hf
    exact mr_340_76 hh hf k
  · rw [if_neg c] at hf
    exact mr_340_49 hh hrc0 hf k
def mf_340_39 (N : Nat) (rc : Nat → Int32 → Int32 → Int32 → Int32 → Int32 → mS → mO) (x1 : Int32) (x2 : Int32) (x3 : Int32) (x4 : Int32) (x5 : Int32) (s : mS) : mO := mo_bi (mf_77 N x1 s) (fun s1 y => mf_340_46 N rc x1 x2 x3 x4 x5 x5 y s1)
theorem mr_340_39 {X : Nat → Option zz_C} {h : zz_H} (hh : 111 ≤ h.length) {d : Nat} {N : Nat} {rc : Nat → Int32 → Int32 → Int32 → Int32 → Int32 → mS → mO} (hrc0 : ∀ {Q : Option Value → zz_H → Prop} {x1 : Int32} {x2 : Int32} {x3 : Int32} {x4 : Int32} {x5 : Int32} {s s' : mS} {v : Option Value}, rc 0 x1 x2 x3 x4 x5 s = some (s', v) → Q v (mH h s') → zz_E zp_P zt_tf zt_fd X (d + 4) zm_340 39 [(0, .ref 61), (1, .int x1), (2, .int x2), (3, .int x3), (4, .int x4), (5, .int x5)] [] (mH h s) Q) {Q : Option Value → zz_H → Prop} {x1 : Int32} {x2 : Int32} {x3 : Int32} {x4 : Int32} {x5 : Int32} {s s' : mS} {v : Option Value} (hf : mf_340_39 N rc x1 x2 x3 x4 x5 s = some (s', v)) (k : Q v (mH h s')) : zz_E zp_P zt_tf zt_fd X (d + 4) zm_340 39 [(0, .ref 61), (1, .int x1), (2, .int x2), (3, .int x3), (4, .int x4), (5, .int x5)] [] (mH h s) Q := by
  unfold mf_340_39 at hf
  obtain ⟨s1, y, e, hf⟩ := mo_bi_ok hf
  exact mb_340_39 (d := d + 3) hh  (mr_77 (d := d + 3) hh e (mr_340_46 hh hrc0 hf k))
def mf_340_L2 (N : Nat) : Nat → Nat → Int32 → Int32 → Int32 → Int32 → Int32 → mS → mO
  | 0, _, _, _, _, _, _, _ => none
  | n + 1, l, x1, x2, x3, x4, x5, s => if l = 0 then mf_340_39 N (mf_340_L2 N n) x1 x2 x3 x4 x5 s else none
theorem mr_340_L2 {X : Nat → Option zz_C} {h : zz_H} (hh : 111 ≤ h.length) {d : Nat} {N : Nat} : ∀ n : Nat, (∀ {Q : Option Value → zz_H → Prop} {x1 : Int32} {x2 : Int32} {x3 : Int32} {x4 : Int32} {x5 : Int32} {s s' : mS} {v : Option Value}, mf_340_L2 N n 0 x1 x2 x3 x4 x5 s = some (s', v) → Q v (mH h s') → zz_E zp_P zt_tf zt_fd X (d + 4) zm_340 39 [(0, .ref 61), (1, .int x1), (2, .int x2), (3, .int x3), (4, .int x4), (5, .int x5)] [] (mH h s) Q) := by
  intro n
  induction n with
  | zero => exact (fun hf _ => by cases hf)
  | succ n ih =>
    have h0 := @ih
    intro Q _ _ _ _ _ s s' v hf k
    unfold mf_340_L2 at hf
    rw [if_pos rfl] at hf
    exact mr_340_39 hh h0 hf k
def mf_340_31 (N : Nat) (x1 : Int32) (x2 : Int32) (x3 : Int32) (x4 : Int32) (s : mS) : mO := mf_340_L2 N N 0 x1 x2 x3 x4 0 (mI s 51 x3)
theorem mr_340_31 {X : Nat → Option zz_C} {h : zz_H} (hh : 111 ≤ h.length) {d : Nat} {N : Nat} {Q : Option Value → zz_H → Prop} {x1 : Int32} {x2 : Int32} {x3 : Int32} {x4 : Int32} {s s' : mS} {v : Option Value} (hf : mf_340_31 N x1 x2 x3 x4 s = some (s', v)) (k : Q v (mH h s')) : zz_E zp_P zt_tf zt_fd X (d + 4) zm_340 31 [(0, .ref 61), (1, .int x1), (2, .int x2), (3, .int x3), (4, .int x4)] [] (mH h s) Q := by
  unfold mf_340_31 at hf
  exact mb_340_31 hh  (mr_340_L2 hh N hf k)
def mf_340_30 (N : Nat)  (s : mS) : mO := some (s, none)
theorem mr_340_30 {X : Nat → Option zz_C} {h : zz_H} (hh : 111 ≤ h.length) {d : Nat} {N : Nat} {Q : Option Value → zz_H → Prop}  {s s' : mS} {v : Option Value} (hf : mf_340_30 N  s = some (s', v)) (k : Q v (mH h s')) : zz_E zp_P zt_tf zt_fd X (d + 4) zm_340 30 [] [] (mH h s) Q := by
  unfold mf_340_30 at hf
  cases hf
  exact mb_340_30 hh  k
def mf_340_21 (N : Nat)  (s : mS) : mO := mo_bv (mf_301 N 4 (s.1 70) s) (fun s1 => mf_340_30 N  s1)
theorem mr_340_21 {X : Nat → Option zz_C} {h : zz_H} (hh : 111 ≤ h.length) {d : Nat} {N : Nat} {Q : Option Value → zz_H → Prop}  {s s' : mS} {v : Option Value} (hf : mf_340_21 N  s = some (s', v)) (k : Q v (mH h s')) : zz_E zp_P zt_tf zt_fd X (d + 4) zm_340 21 [(0, .ref 61)] [] (mH h s) Q := by
  unfold mf_340_21 at hf
  obtain ⟨s1, e, hf⟩ := mo_bv_ok hf
  exact mb_340_21 (d := d + 3) hh  (mr_301 (d := d + 3) hh e (mr_340_30 hh hf k))
def mf_340_18 (N : Nat) (x1 : Int32) (x2 : Int32) (x3 : Int32) (x4 : Int32) (y0 : Int32) (y1 : Int32) (s : mS) : mO := if y0 = y1 then mf_340_31 N x1 x2 x3 x4 s else mf_340_21 N  s
theorem mr_340_18 {X : Nat → Option zz_C} {h : zz_H} (hh : 111 ≤ h.length) {d : Nat} {N : Nat} {Q : Option Value → zz_H → Prop} {x1 : Int32} {x2 : Int32} {x3 : Int32} {x4 : Int32} {y0 : Int32} {y1 : Int32} {s s' : mS} {v : Option Value} (hf : mf_340_18 N x1 x2 x3 x4 y0 y1 s = some (s', v)) (k : Q v (mH h s')) : zz_E zp_P zt_tf zt_fd X (d + 4) zm_340 18 [(0, .ref 61), (1, .int x1), (2, .int x2), (3, .int x3), (4, .int x4)] [.int y1, .int y0] (mH h s) Q := by
  unfold mf_340_18 at hf
  refine mb_340_18 hh  (fun c => ?_) (fun c => ?_)
  · rw [if_pos c] at hf
    exact mr_340_31 hh hf k
  · rw [if_neg c] at hf
    exact mr_340_21 hh hf k
def mf_340_13 (N : Nat) (x1 : Int32) (x2 : Int32) (x3 : Int32) (x4 : Int32) (y0 : Int32) (s : mS) : mO := mo_bi (mf_77 N x2 s) (fun s1 y => mf_340_18 N x1 x2 x3 x4 y0 y s1)
theorem mr_340_13 {X : Nat → Option zz_C} {h : zz_H} (hh : 111 ≤ h.length) {d : Nat} {N : Nat} {Q : Option Value → zz_H → Prop} {x1 : Int32} {x2 : Int32} {x3 : Int32} {x4 : Int32} {y0 : Int32} {s s' : mS} {v : Option Value} (hf : mf_340_13 N x1 x2 x3 x4 y0 s = some (s', v)) (k : Q v (mH h s')) : zz_E zp_P zt_tf zt_fd X (d + 4) zm_340 13 [(0, .ref 61), (1, .int x1), (2, .int x2), (3, .int x3), (4, .int x4)] [.int y0] (mH h s) Q := by
  unfold mf_340_13 at hf
  obtain ⟨s1, y, e, hf⟩ := mo_bi_ok hf
  exact mb_340_13 (d := d + 3) hh  (mr_77 (d := d + 3) hh e (mr_340_18 hh hf k))
def mf_340_0 (N : Nat) (x1 : Int32) (x2 : Int32) (x3 : Int32) (s : mS) : mO := if ¬ (x1 < 0 ∨ 166300 ≤ Int32.toNatClampNeg x1) then (mo_bi (mf_77 N x1 s) (fun s1 y => mf_340_13 N x1 x2 x3 ((s.2.2.1 47) (Int32.toNatClampNeg x1)) y s1)) else none
theorem mr_340_0 {X : Nat → Option zz_C} {h : zz_H} (hh : 111 ≤ h.length) {d : Nat} {N : Nat} {Q : Option Value → zz_H → Prop} {x1 : Int32} {x2 : Int32} {x3 : Int32} {s s' : mS} {v : Option Value} (hf : mf_340_0 N x1 x2 x3 s = some (s', v)) (k : Q v (mH h s')) : zz_E zp_P zt_tf zt_fd X (d + 4) zm_340 0 [(0, .ref 61), (1, .int x1), (2, .int x2), (3, .int x3)] [] (mH h s) Q := by
  unfold mf_340_0 at hf
  obtain ⟨q0, hf⟩ := mo_if hf
  obtain ⟨s1, y, e, hf⟩ := mo_bi_ok hf
  exact mb_340_0 (d := d + 3) hh q0 (mr_77 (d := d + 3) hh e (mr_340_13 hh hf k))
/-- pick -/
def mf_340 (N : Nat) (x1 : Int32) (x2 : Int32) (x3 : Int32) (s : mS) : mO := mf_340_0 N x1 x2 x3 s
theorem mr_340 {X : Nat → Option zz_C} {h : zz_H} (hh : 111 ≤ h.length) {d : Nat} {N : Nat} {Q : Option Value → zz_H → Prop} {x1 : Int32} {x2 : Int32} {x3 : Int32} {s s' : mS} {v : Option Value} (hf : mf_340 N x1 x2 x3 s = some (s', v)) (k : Q v (mH h s')) : zz_E zp_P zt_tf zt_fd X (d + 4) zm_340 0 [(0, .ref 61), (1, .int x1), (2, .int x2), (3, .int x3)] [] (mH h s) Q := by
  unfold mf_340 at hf
  exact zz_E.weak (mr_340_0 hh hf k) rfl ⟨rfl, rfl, rfl, rfl, trivial⟩
/-! findIn (II)I -/
theorem mb_341_0 {X : Nat → Option zz_C} {h : zz_H} (hh : 111 ≤ h.length) {s : mS} {d : Nat} {Q : Option Value → zz_H → Prop} {x1 : Int32} {x2 : Int32} (k : zz_E zp_P zt_tf zt_fd X d zm_341 2 [(0, .ref 61), (1, .int x1), (2, .int x2), (3, .int 0)] [] (mH h s) Q) : zz_E zp_P zt_tf zt_fd X d zm_341 0 [(0, .ref 61), (1, .int x1), (2, .int x2)] [] (mH h s) Q := by
  refine zz_E.c 1 (.int 0) rfl rfl rfl rfl ?_
  refine zz_E.n 2 rfl rfl rfl ?_
  exact zz_E.weak k rfl ⟨rfl, rfl, rfl, rfl, trivial⟩
theorem mb_341_2 {X : Nat → Option zz_C} {h : zz_H} (hh : 111 ≤ h.length) {s : mS} {d : Nat} {Q : Option Value → zz_H → Prop} {x1 : Int32} {x2 : Int32} {x3 : Int32} (k : zz_E zp_P zt_tf zt_fd X d zm_77 0 [(0, .ref 61), (1, .int x1)] [] (mH h s) (fun v h' => zz_E zp_P zt_tf zt_fd X (d + 1) zm_341 8 [(0, .ref 61), (1, .int x1), (2, .int x2), (3, .int x3)] (v.toList ++ [.int x3]) h' Q)) : zz_E zp_P zt_tf zt_fd X (d + 1) zm_341 2 [(0, .ref 61), (1, .int x1), (2, .int x2), (3, .int x3)] [] (mH h s) Q := by
  refine zz_E.n 3 rfl rfl rfl ?_
  refine zz_E.n 4 rfl rfl rfl ?_
  refine zz_E.n 5 rfl rfl rfl ?_
  refine mE_cv hh 8 (as := [.int x3]) rfl rfl (Nat.le_of_ble_eq_true rfl) (Nat.le_of_ble_eq_true rfl) rfl (Nat.le_of_ble_eq_true rfl) rfl ?_
  refine zz_E.mono k ?_
  intro v h' hE
  exact zz_E.weak hE rfl ⟨rfl, rfl, rfl, rfl, trivial⟩
theorem mb_341_8 {X : Nat → Option zz_C} {h : zz_H} (hh : 111 ≤ h.length) {s : mS} {d : Nat} {Q : Option Value → zz_H → Prop} {x1 : Int32} {x2 : Int32} {x3 : Int32} {y0 : Int32} {y1 : Int32} (k1 : y1 ≤ y0 → zz_E zp_P zt_tf zt_fd X d zm_341 33 [] [] (mH h s) Q) (k2 : ¬ y1 ≤ y0 → zz_E zp_P zt_tf zt_fd X d zm_341 11 [(0, .ref 61), (1, .int x1), (2, .int x2), (3, .int x3)] [] (mH h s) Q) : zz_E zp_P zt_tf zt_fd X d zm_341 8 [(0, .ref 61), (1, .int x1), (2, .int x2), (3, .int x3)] [.int y1, .int y0] (mH h s) Q := by
  refine zz_E.b2 33 11 (A := y1 ≤ y0) rfl rfl (by decide) rfl rfl (fun c => ?_) (fun c => ?_)
  · exact zz_E.weak (k1 c) rfl trivial
  · exact zz_E.weak (k2 c) rfl ⟨rfl, rfl, rfl, rfl, trivial⟩
theorem mb_341_11 {X : Nat → Option zz_C} {h : zz_H} (hh : 111 ≤ h.length) {s : mS} {d : Nat} {Q : Option Value → zz_H → Prop} {x1 : Int32} {x2 : Int32} {x3 : Int32} (i20 : ¬ (((x1 + 2) + x3) < 0 ∨ 166300 ≤ Int32.toNatClampNeg ((x1 + 2) + x3))) (k1 : ¬ ((s.2.2.1 47) (Int32.toNatClampNeg ((x1 + 2) + x3))) = x2 → zz_E zp_P zt_tf zt_fd X d zm_341 27 [(0, .ref 61), (1, .int x1), (2, .int x2), (3, .int x3)] [] (mH h s) Q) (k2 : ¬ ¬ ((s.2.2.1 47) (Int32.toNatClampNeg ((x1 + 2) + x3))) = x2 → zz_E zp_P zt_tf zt_fd X d zm_341 25 [(3, .int x3)] [] (mH h s) Q) : zz_E zp_P zt_tf zt_fd X d zm_341 11 [(0, .ref 61), (1, .int x1), (2, .int x2), (3, .int x3)] [] (mH h s) Q := by
  refine zz_E.n 12 rfl rfl rfl ?_
  refine mE_g hh 15 (v := .ref 89) rfl rfl rfl ?_
  refine zz_E.n 16 rfl rfl rfl ?_
  refine zz_E.c 17 (.int 2) rfl rfl rfl rfl ?_
  refine zz_E.n 18 rfl rfl rfl ?_
  refine zz_E.n 19 rfl rfl rfl ?_
  refine zz_E.n 20 rfl rfl rfl ?_
  refine mE_ia hh 21 28 (f := (s.2.2.1 47)) rfl (by decide) rfl rfl i20 rfl ?_
  refine zz_E.n 22 rfl rfl rfl ?_
  refine zz_E.b2 27 25 (A := ¬ ((s.2.2.1 47) (Int32.toNatClampNeg ((x1 + 2) + x3))) = x2) rfl (zz_cond_ne _ _) (by decide) rfl rfl (fun c => ?_) (fun c => ?_)
  · exact zz_E.weak (k1 c) rfl ⟨rfl, rfl, rfl, rfl, trivial⟩
  · exact zz_E.weak (k2 c) rfl ⟨rfl, trivial⟩
theorem mb_341_25 {X : Nat → Option zz_C} {h : zz_H} (hh : 111 ≤ h.length) {s : mS} {d : Nat} {Q : Option Value → zz_H → Prop} {x3 : Int32} (k : Q (some (.int x3)) (mH h s)) : zz_E zp_P zt_tf zt_fd X d zm_341 25 [(3, .int x3)] [] (mH h s) Q := by
  refine zz_E.n 26 rfl rfl rfl ?_
  refine zz_E.ret rfl rfl rfl ?_
  exact k
theorem mb_341_27 {X : Nat → Option zz_C} {h : zz_H} (hh : 111 ≤ h.length) {s : mS} {d : Nat} {Q : Option Value → zz_H → Prop} {x1 : Int32} {x2 : Int32} {x3 : Int32} (k : zz_E zp_P zt_tf zt_fd X d zm_341 2 [(0, .ref 61), (1, .int x1), (2, .int x2), (3, .int (x3 + 1))] [] (mH h s) Q) : zz_E zp_P zt_tf zt_fd X d zm_341 27 [(0, .ref 61), (1, .int x1), (2, .int x2), (3, .int x3)] [] (mH h s) Q := by
  refine zz_E.n 30 rfl rfl rfl ?_
  refine zz_E.n 2 rfl rfl rfl ?_
  exact zz_E.weak k rfl ⟨rfl, rfl, rfl, rfl, trivial⟩
theorem mb_341_33 {X : Nat → Option zz_C} {h : zz_H} (hh : 111 ≤ h.length) {s : mS} {d : Nat} {Q : Option Value → zz_H → Prop}  (k : Q (some (.int (-1))) (mH h s)) : zz_E zp_P zt_tf zt_fd X d zm_341 33 [] [] (mH h s) Q := by
  refine zz_E.c 34 (.int (-1)) rfl rfl rfl rfl ?_
  refine zz_E.ret rfl rfl rfl ?_
  exact k
def mf_341_33 (N : Nat)  (s : mS) : mO := some (s, (some (.int (-1))))
theorem mr_341_33 {X : Nat → Option zz_C} {h : zz_H} (hh : 111 ≤ h.length) {d : Nat} {N : Nat} {Q : Option Value → zz_H → Prop}  {s s' : mS} {v : Option Value} (hf : mf_341_33 N  s = some (s', v)) (k : Q v (mH h s')) : zz_E zp_P zt_tf zt_fd X (d + 1) zm_341 33 [] [] (mH h s) Q := by
  unfold mf_341_33 at hf
  cases hf
  exact mb_341_33 hh  k
def mf_341_25 (N : Nat) (x3 : Int32) (s : mS) : mO := some (s, (some (.int x3)))
theorem mr_341_25 {X : Nat → Option zz_C} {h : zz_H} (hh : 111 ≤ h.length) {d : Nat} {N : Nat} {Q : Option Value → zz_H → Prop} {x3 : Int32} {s s' : mS} {v : Option Value} (hf : mf_341_25 N x3 s = some (s', v)) (k : Q v (mH h s')) : zz_E zp_P zt_tf zt_fd X (d + 1) zm_341 25 [(3, .int x3)] [] (mH h s) Q := by
  unfold mf_341_25 at hf
  cases hf
  exact mb_341_25 hh  k
def mf_341_27 (N : Nat) (rc : Nat → Int32 → Int32 → Int32 → mS → mO) (x1 : Int32) (x2 : Int32) (x3 : Int32) (s : mS) : mO := rc 0 x1 x2 (x3 + 1) s
theorem mr_341_27 {X : Nat → Option zz_C} {h : zz_H} (hh : 111 ≤ h.length) {d : Nat} {N : Nat} {rc : Nat → Int32 → Int32 → Int32 → mS → mO} (hrc0 : ∀ {Q : Option Value → zz_H → Prop} {x1 : Int32} {x2 : Int32} {x3 : Int32} {s s' : mS} {v : Option Value}, rc 0 x1 x2 x3 s = some (s', v) → Q v (mH h s') → zz_E zp_P zt_tf zt_fd X (d + 1) zm_341 2 [(0, .ref 61), (1, .int x1), (2, .int x2), (3, .int x3)] [] (mH h s) Q) {Q : Option Value → zz_H → Prop} {x1 : Int32} {x2 : Int32} {x3 : Int32} {s s' : mS} {v : Option Value} (hf : mf_341_27 N rc x1 x2 x3 s = some (s', v)) (k : Q v (mH h s')) : zz_E zp_P zt_tf zt_fd X (d + 1) zm_341 27 [(0, .ref 61), (1, .int x1), (2, .int x2), (3, .int x3)] [] (mH h s) Q := by
  unfold mf_341_27 at hf
  exact mb_341_27 hh  (hrc0 hf k)
def mf_341_11 (N : Nat) (rc : Nat → Int32 → Int32 → Int32 → mS → mO) (x1 : Int32) (x2 : Int32) (x3 : Int32) (s : mS) : mO := if ¬ (((x1 + 2) + x3) < 0 ∨ 166300 ≤ Int32.toNatClampNeg ((x1 + 2) + x3)) then (if ¬ ((s.2.2.1 47) (Int32.toNatClampNeg ((x1 + 2) + x3))) = x2 then mf_341_27 N rc x1 x2 x3 s else mf_341_25 N x3 s) else none
theorem mr_341_11 {X : Nat → Option zz_C} {h : zz_H} (hh : 111 ≤ h.length) {d : Nat} {N : Nat} {rc : Nat → Int32 → Int32 → Int32 → mS → mO} (hrc0 : ∀ {Q : Option Value → zz_H → Prop} {x1 : Int32} {x2 : Int32} {x3 : Int32} {s s' : mS} {v : Option Value}, rc 0 x1 x2 x3 s = some (s', v) → Q v (mH h s') → zz_E zp_P zt_tf zt_fd X (d + 1) zm_341 2 [(0, .ref 61), (1, .int x1), (2, .int x2), (3, .int x3)] [] (mH h s) Q) {Q : Option Value → zz_H → Prop} {x1 : Int32} {x2 : Int32} {x3 : Int32} {s s' : mS} {v : Option Value} (hf : mf_341_11 N rc x1 x2 x3 s = some (s', v)) (k : Q v (mH h s')) : zz_E zp_P zt_tf zt_fd X (d + 1) zm_341 11 [(0, .ref 61), (1, .int x1), (2, .int x2), (3, .int x3)] [] (mH h s) Q := by
  unfold mf_341_11 at hf
  obtain ⟨q0, hf⟩ := mo_if hf
  refine mb_341_11 hh q0 (fun c => ?_) (fun c => ?_)
  · rw [if_pos c] at hf
    exact mr_341_27 hh hrc0 hf k
  · rw [if_neg c] at hf
    exact mr_341_25 hh hf k
def mf_341_8 (N : Nat) (rc : Nat → Int32 → Int32 → Int32 → mS → mO) (x1 : Int32) (x2 : Int32) (x3 : Int32) (y0 : Int32) (y1 : Int32) (s : mS) : mO := if y1 ≤ y0 then mf_341_33 N  s else mf_341_11 N rc x1 x2 x3 s
theorem mr_341_8 {X : Nat → Option zz_C} {h : zz_H} (hh : 111 ≤ h.length) {d : Nat} {N : Nat} {rc : Nat → Int32 → Int32 → Int32 → mS → mO} (hrc0 : ∀ {Q : Option Value → zz_H → Prop} {x1 : Int32} {x2 : Int32} {x3 : Int32} {s s' : mS} {v : Option Value}, rc 0 x1 x2 x3 s = some (s', v) → Q v (mH h s') → zz_E zp_P zt_tf zt_fd X (d + 1) zm_341 2 [(0, .ref 61), (1, .int x1), (2, .int x2), (3, .int x3)] [] (mH h s) Q) {Q : Option Value → zz_H → Prop} {x1 : Int32} {x2 : Int32} {x3 : Int32} {y0 : Int32} {y1 : Int32} {s s' : mS} {v : Option Value} (hf : mf_341_8 N rc x1 x2 x3 y0 y1 s = some (s', v)) (k : Q v (mH h s')) : zz_E zp_P zt_tf zt_fd X (d + 1) zm_341 8 [(0, .ref 61), (1, .int x1), (2, .int x2), (3, .int x3)] [.int y1, .int y0] (mH h s) Q := by
  unfold mf_341_8 at hf
  refine mb_341_8 hh  (fun c => ?_) (fun c => ?_)
  · rw [if_pos c] at hf
    exact mr_341_33 hh hf k
  · rw [if_neg c] at hf
    exact mr_341_11 hh hrc0 hf k
def mf_341_2 (N : Nat) (rc : Nat → Int32 → Int32 → Int32 → mS → mO) (x1 : Int32) (x2 : Int32) (x3 : Int32) (s : mS) : mO := mo_bi (mf_77 N x1 s) (fun s1 y => mf_341_8 N rc x1 x2 x3 x3 y s1)
theorem mr_341_2 {X : Nat → Option zz_C} {h : zz_H} (hh : 111 ≤ h.length) {d : Nat} {N : Nat} {rc : Nat → Int32 → Int32 → Int32 → mS → mO} (hrc0 : ∀ {Q : Option Value → zz_H → Prop} {x1 : Int32} {x2 : Int32} {x3 : Int32} {s s' : mS} {v : Option Value}, rc 0 x1 x2 x3 s = some (s', v) → Q v (mH h s') → zz_E zp_P zt_tf zt_fd X (d + 1) zm_341 2 [(0, .ref 61), (1, .int x1), (2, .int x2), (3, .int x3)] [] (mH h s) Q) {Q : Option Value → zz_H → Prop} {x1 : Int32} {x2 : Int32} {x3 : Int32} {s s' : mS} {v : Option Value} (hf : mf_341_2 N rc x1 x2 x3 s = some (s', v)) (k : Q v (mH h s')) : zz_E zp_P zt_tf zt_fd X (d + 1) zm_341 2 [(0, .ref 61), (1, .int x1), (2, .int x2), (3, .int x3)] [] (mH h s) Q := by
  unfold mf_341_2 at hf
  obtain ⟨s1, y, e, hf⟩ := mo_bi_ok hf
  exact mb_341_2 (d := d + 0) hh  (mr_77 (d := d + 0) hh e (mr_341_8 hh hrc0 hf k))
def mf_341_L2 (N : Nat) : Nat → Nat → Int32 → Int32 → Int32 → mS → mO
  | 0, _, _, _, _, _ => none
  | n + 1, l, x1, x2, x3, s => if l = 0 then mf_341_2 N (mf_341_L2 N n) x1 x2 x3 s else none
theorem mr_341_L2 {X : Nat → Option zz_C} {h : zz_H} (hh : 111 ≤ h.length) {d : Nat} {N : Nat} : ∀ n : Nat, (∀ {Q : Option Value → zz_H → Prop} {x1 : Int32} {x2 : Int32} {x3 : Int32} {s s' : mS} {v : Option Value}, mf_341_L2 N n 0 x1 x2 x3 s = some (s', v) → Q v (mH h s') → zz_E zp_P zt_tf zt_fd X (d + 1) zm_341 2 [(0, .ref 61), (1, .int x1), (2, .int x2), (3, .int x3)] [] (mH h s) Q) := by
  intro n
  induction n with
  | zero => exact (fun hf _ => by cases hf)
  | succ n ih =>
    have h0 := @ih
    intro Q _ _ _ s s' v hf k
    unfold mf_341_L2 at hf
    rw [if_pos rfl] at hf
    exact mr_341_2 hh h0 hf k
def mf_341_0 (N : Nat) (x1 : Int32) (x2 : Int32) (s : mS) : mO := mf_341_L2 N N 0 x1 x2 0 s
theorem mr_341_0 {X : Nat → Option zz_C} {h : zz_H} (hh : 111 ≤ h.length) {d : Nat} {N : Nat} {Q : Option Value → zz_H → Prop} {x1 : Int32} {x2 : Int32} {s s' : mS} {v : Option Value} (hf : mf_341_0 N x1 x2 s = some (s', v)) (k : Q v (mH h s')) : zz_E zp_P zt_tf zt_fd X (d + 1) zm_341 0 [(0, .ref 61), (1, .int x1), (2, .int x2)] [] (mH h s) Q := by
  unfold mf_341_0 at hf
  exact mb_341_0 hh  (mr_341_L2 hh N hf k)
/-- findIn -/
def mf_341 (N : Nat) (x1 : Int32) (x2 : Int32) (s : mS) : mO := mf_341_0 N x1 x2 s
theorem mr_341 {X : Nat → Option zz_C} {h : zz_H} (hh : 111 ≤ h.length) {d : Nat} {N : Nat} {Q : Option Value → zz_H → Prop} {x1 : Int32} {x2 : Int32} {s s' : mS} {v : Option Value} (hf : mf_341 N x1 x2 s = some (s', v)) (k : Q v (mH h s')) : zz_E zp_P zt_tf zt_fd X (d + 1) zm_341 0 [(0, .ref 61), (1, .int x1), (2, .int x2)] [] (mH h s) Q := by
  unfold mf_341 at hf
  exact zz_E.weak (mr_341_0 hh hf k) rfl ⟨rfl, rfl, rfl, trivial⟩
