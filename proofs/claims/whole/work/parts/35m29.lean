/-! lay (III)V -/
theorem mb_75_0 {X : Nat → Option zz_C} {h : zz_H} (hh : 111 ≤ h.length) {s : mS} {d : Nat} {Q : Option Value → zz_H → Prop} {x1 : Int32} {x2 : Int32} {x3 : Int32} (k1 : ¬ x1 = 2 → zz_E zp_P zt_tf zt_fd X d zm_75 13 [(0, .ref 61), (1, .int x1), (2, .int x2), (3, .int x3)] [] (mH h s) Q) (k2 : ¬ ¬ x1 = 2 → zz_E zp_P zt_tf zt_fd X d zm_75 5 [(0, .ref 61), (3, .int x3)] [] (mH h s) Q) : zz_E zp_P zt_tf zt_fd X d zm_75 0 [(0, .ref 61), (1, .int x1), (2, .int x2), (3, .int x3)] [] (mH h s) Q := by
  refine zz_E.n 1 rfl rfl rfl ?_
  refine zz_E.c 2 (.int 2) rfl rfl rfl rfl ?_
  refine zz_E.b2 13 5 (A := ¬ x1 = 2) rfl (zz_cond_ne _ _) (by decide) rfl rfl (fun c => ?_) (fun c => ?_)
  · exact zz_E.weak (k1 c) rfl ⟨rfl, rfl, rfl, rfl, trivial⟩
  · exact zz_E.weak (k2 c) rfl ⟨rfl, rfl, trivial⟩
theorem mb_75_5 {X : Nat → Option zz_C} {h : zz_H} (hh : 111 ≤ h.length) {s : mS} {d : Nat} {Q : Option Value → zz_H → Prop} {x3 : Int32} (i11 : ¬ (x3 < 0 ∨ 166300 ≤ Int32.toNatClampNeg x3)) (k : Q none (mH h (mA s 47 (upd (s.2.2.1 47) (Int32.toNatClampNeg x3) (-1))))) : zz_E zp_P zt_tf zt_fd X d zm_75 5 [(0, .ref 61), (3, .int x3)] [] (mH h s) Q := by
  refine zz_E.n 6 rfl rfl rfl ?_
  refine mE_g hh 9 (v := .ref 89) rfl rfl rfl ?_
  refine zz_E.n 10 rfl rfl rfl ?_
  refine zz_E.c 11 (.int (-1)) rfl rfl rfl rfl ?_
  refine mE_is hh 12 28 (f := (s.2.2.1 47)) rfl (by decide) rfl rfl i11 (mA_89 _ _) rfl ?_
  refine zz_E.ret rfl rfl rfl ?_
  exact k
theorem mb_75_13 {X : Nat → Option zz_C} {h : zz_H} (hh : 111 ≤ h.length) {s : mS} {d : Nat} {Q : Option Value → zz_H → Prop} {x1 : Int32} {x2 : Int32} {x3 : Int32} (k1 : ¬ x1 = 0 → zz_E zp_P zt_tf zt_fd X d zm_75 34 [(0, .ref 61), (2, .int x2), (3, .int x3)] [] (mH h s) Q) (k2 : ¬ ¬ x1 = 0 → zz_E zp_P zt_tf zt_fd X d zm_75 17 [(0, .ref 61), (2, .int x2), (3, .int x3)] [] (mH h s) Q) : zz_E zp_P zt_tf zt_fd X d zm_75 13 [(0, .ref 61), (1, .int x1), (2, .int x2), (3, .int x3)] [] (mH h s) Q := by
  refine zz_E.n 14 rfl rfl rfl ?_
  refine zz_E.b1 34 17 (A := ¬ x1 = 0) rfl (zz_cond_ne _ _) (by decide) rfl rfl (fun c => ?_) (fun c => ?_)
  · exact zz_E.weak (k1 c) rfl ⟨rfl, rfl, rfl, trivial⟩
  · exact zz_E.weak (k2 c) rfl ⟨rfl, rfl, rfl, trivial⟩
theorem mb_75_17 {X : Nat → Option zz_C} {h : zz_H} (hh : 111 ≤ h.length) {s : mS} {d : Nat} {Q : Option Value → zz_H → Prop} {x2 : Int32} {x3 : Int32} (i23 : ¬ (x3 < 0 ∨ 166300 ≤ Int32.toNatClampNeg x3)) (i32 : ¬ ((x3 + 1) < 0 ∨ 166300 ≤ Int32.toNatClampNeg (x3 + 1))) (k : Q none (mH h (mA (mA s 47 (upd (s.2.2.1 47) (Int32.toNatClampNeg x3) 0)) 47 (upd (upd (s.2.2.1 47) (Int32.toNatClampNeg x3) 0) (Int32.toNatClampNeg (x3 + 1)) x2)))) : zz_E zp_P zt_tf zt_fd X d zm_75 17 [(0, .ref 61), (2, .int x2), (3, .int x3)] [] (mH h s) Q := by
  refine zz_E.n 18 rfl rfl rfl ?_
  refine mE_g hh 21 (v := .ref 89) rfl rfl rfl ?_
  refine zz_E.n 22 rfl rfl rfl ?_
  refine zz_E.c 23 (.int 0) rfl rfl rfl rfl ?_
  refine mE_is hh 24 28 (f := (s.2.2.1 47)) rfl (by decide) rfl rfl i23 (mA_89 _ _) rfl ?_
  refine zz_E.n 25 rfl rfl rfl ?_
  refine mE_g hh 28 (v := .ref 89) rfl rfl rfl ?_
  refine zz_E.n 29 rfl rfl rfl ?_
  refine zz_E.c 30 (.int 1) rfl rfl rfl rfl ?_
  refine zz_E.n 31 rfl rfl rfl ?_
  refine zz_E.n 32 rfl rfl rfl ?_
  refine mE_is hh 33 28 (f := (upd (s.2.2.1 47) (Int32.toNatClampNeg x3) 0)) rfl (by decide) rfl rfl i32 (mA_89 _ _) rfl ?_
  refine zz_E.ret rfl rfl rfl ?_
  exact k
theorem mb_75_34 {X : Nat → Option zz_C} {h : zz_H} (hh : 111 ≤ h.length) {s : mS} {d : Nat} {Q : Option Value → zz_H → Prop} {x2 : Int32} {x3 : Int32} (k : zz_E zp_P zt_tf zt_fd X d zm_300 0 [(0, .ref 61), (1, .int x2)] [] (mH h s) (fun v h' => zz_E zp_P zt_tf zt_fd X (d + 1) zm_75 43 [(0, .ref 61), (2, .int x2), (3, .int x3), (4, .int 1)] (v.toList ++ [.int x3]) h' Q)) : zz_E zp_P zt_tf zt_fd X (d + 1) zm_75 34 [(0, .ref 61), (2, .int x2), (3, .int x3)] [] (mH h s) Q := by
  refine zz_E.c 35 (.int 1) rfl rfl rfl rfl ?_
  refine zz_E.n 37 rfl rfl rfl ?_
  refine zz_E.n 38 rfl rfl rfl ?_
  refine zz_E.n 39 rfl rfl rfl ?_
  refine zz_E.n 40 rfl rfl rfl ?_
  refine mE_cv hh 43 (as := [.int x3]) rfl rfl (Nat.le_of_ble_eq_true rfl) (Nat.le_of_ble_eq_true rfl) rfl (Nat.le_of_ble_eq_true rfl) rfl ?_
  refine zz_E.mono k ?_
  intro v h' hE
  exact zz_E.weak hE rfl ⟨rfl, rfl, rfl, rfl, trivial⟩
theorem mb_75_43 {X : Nat → Option zz_C} {h : zz_H} (hh : 111 ≤ h.length) {s : mS} {d : Nat} {Q : Option Value → zz_H → Prop} {x2 : Int32} {x3 : Int32} {x4 : Int32} {y0 : Int32} {y1 : Int32} (i52 : ¬ ((0 : Int32) < 0 ∨ 700 ≤ Int32.toNatClampNeg (0 : Int32))) (i59 : ¬ ((0 : Int32) < 0 ∨ 700 ≤ Int32.toNatClampNeg (0 : Int32))) (k : zz_E zp_P zt_tf zt_fd X d zm_75 63 [(0, .ref 61), (4, .int x4), (5, .int (y0 + y1)), (6, .int 0)] [] (mH h (mA (mA s 58 (upd (s.2.2.1 58) (Int32.toNatClampNeg (0 : Int32)) x2)) 59 (upd (s.2.2.1 59) (Int32.toNatClampNeg (0 : Int32)) x3))) Q) : zz_E zp_P zt_tf zt_fd X d zm_75 43 [(0, .ref 61), (2, .int x2), (3, .int x3), (4, .int x4)] [.int y1, .int y0] (mH h s) Q := by
  refine zz_E.n 44 rfl rfl rfl ?_
  refine zz_E.n 46 rfl rfl rfl ?_
  refine zz_E.n 47 rfl rfl rfl ?_
  refine mE_g hh 50 (v := .ref 95) rfl rfl rfl ?_
  refine zz_E.c 51 (.int 0) rfl rfl rfl rfl ?_
  refine zz_E.n 52 rfl rfl rfl ?_
  refine mE_is hh 53 34 (f := (s.2.2.1 58)) rfl (by decide) rfl rfl i52 (mA_95 _ _) rfl ?_
  refine zz_E.n 54 rfl rfl rfl ?_
  refine mE_g hh 57 (v := .ref 96) rfl rfl rfl ?_
  refine zz_E.c 58 (.int 0) rfl rfl rfl rfl ?_
  refine zz_E.n 59 rfl rfl rfl ?_
  refine mE_is hh 60 35 (f := (s.2.2.1 59)) rfl (by decide) rfl rfl i59 (mA_96 _ _) rfl ?_
  refine zz_E.c 61 (.int 0) rfl rfl rfl rfl ?_
  refine zz_E.n 63 rfl rfl rfl ?_
  exact zz_E.weak k rfl ⟨rfl, rfl, rfl, rfl, trivial⟩
theorem mb_75_63 {X : Nat → Option zz_C} {h : zz_H} (hh : 111 ≤ h.length) {s : mS} {d : Nat} {Q : Option Value → zz_H → Prop} {x4 : Int32} {x5 : Int32} {x6 : Int32} (k1 : x4 ≤ x6 → zz_E zp_P zt_tf zt_fd X d zm_75 273 [] [] (mH h s) Q) (k2 : ¬ x4 ≤ x6 → zz_E zp_P zt_tf zt_fd X d zm_75 70 [(0, .ref 61), (4, .int x4), (5, .int x5), (6, .int x6)] [] (mH h s) Q) : zz_E zp_P zt_tf zt_fd X d zm_75 63 [(0, .ref 61), (4, .int x4), (5, .int x5), (6, .int x6)] [] (mH h s) Q := by
  refine zz_E.n 65 rfl rfl rfl ?_
  refine zz_E.n 67 rfl rfl rfl ?_
  refine zz_E.b2 273 70 (A := x4 ≤ x6) rfl rfl (by decide) rfl rfl (fun c => ?_) (fun c => ?_)
  · exact zz_E.weak (k1 c) rfl trivial
  · exact zz_E.weak (k2 c) rfl ⟨rfl, rfl, rfl, rfl, trivial⟩
theorem mb_75_70 {X : Nat → Option zz_C} {h : zz_H} (hh : 111 ≤ h.length) {s : mS} {d : Nat} {Q : Option Value → zz_H → Prop} {x4 : Int32} {x5 : Int32} {x6 : Int32} (i76 : ¬ (x6 < 0 ∨ 700 ≤ Int32.toNatClampNeg x6)) (i85 : ¬ (x6 < 0 ∨ 700 ≤ Int32.toNatClampNeg x6)) (k : zz_E zp_P zt_tf zt_fd X d zm_300 0 [(0, .ref 61), (1, .int ((s.2.2.1 58) (Int32.toNatClampNeg x6)))] [] (mH h s) (fun v h' => zz_E zp_P zt_tf zt_fd X (d + 1) zm_75 94 [(0, .ref 61), (4, .int x4), (5, .int x5), (6, .int x6), (7, .int ((s.2.2.1 58) (Int32.toNatClampNeg x6))), (8, .int ((s.2.2.1 59) (Int32.toNatClampNeg x6)))] (v.toList ++ []) h' Q)) : zz_E zp_P zt_tf zt_fd X (d + 1) zm_75 70 [(0, .ref 61), (4, .int x4), (5, .int x5), (6, .int x6)] [] (mH h s) Q := by
  refine zz_E.n 71 rfl rfl rfl ?_
  refine mE_g hh 74 (v := .ref 95) rfl rfl rfl ?_
  refine zz_E.n 76 rfl rfl rfl ?_
  refine mE_ia hh 77 34 (f := (s.2.2.1 58)) rfl (by decide) rfl rfl i76 rfl ?_
  refine zz_E.n 79 rfl rfl rfl ?_
  refine zz_E.n 80 rfl rfl rfl ?_
  refine mE_g hh 83 (v := .ref 96) rfl rfl rfl ?_
  refine zz_E.n 85 rfl rfl rfl ?_
  refine mE_ia hh 86 35 (f := (s.2.2.1 59)) rfl (by decide) rfl rfl i85 rfl ?_
  refine zz_E.n 88 rfl rfl rfl ?_
  refine zz_E.n 89 rfl rfl rfl ?_
  refine zz_E.n 91 rfl rfl rfl ?_
  refine mE_cv hh 94 (as := []) rfl rfl (Nat.le_of_ble_eq_true rfl) (Nat.le_of_ble_eq_true rfl) rfl (Nat.le_of_ble_eq_true rfl) rfl ?_
  refine zz_E.mono k ?_
  intro v h' hE
  exact zz_E.weak hE rfl ⟨rfl, rfl, rfl, rfl, rfl, rfl, trivial⟩
theorem mb_75_94 {X : Nat → Option zz_C} {h : zz_H} (hh : 111 ≤ h.length) {s : mS} {d : Nat} {Q : Option Value → zz_H → Prop} {x4 : Int32} {x5 : Int32} {x6 : Int32} {x7 : Int32} {x8 : Int32} {y0 : Int32} (k : zz_E zp_P zt_tf zt_fd X d zm_75 99 [(0, .ref 61), (4, .int x4), (5, .int x5), (6, .int x6), (7, .int x7), (8, .int x8), (9, .int y0), (10, .int 0)] [] (mH h s) Q) : zz_E zp_P zt_tf zt_fd X d zm_75 94 [(0, .ref 61), (4, .int x4), (5, .int x5), (6, .int x6), (7, .int x7), (8, .int x8)] [.int y0] (mH h s) Q := by
  refine zz_E.n 96 rfl rfl rfl ?_
  refine zz_E.c 97 (.int 0) rfl rfl rfl rfl ?_
  refine zz_E.n 99 rfl rfl rfl ?_
  exact zz_E.weak k rfl ⟨rfl, rfl, rfl, rfl, rfl, rfl, rfl, rfl, trivial⟩
theorem mb_75_99 {X : Nat → Option zz_C} {h : zz_H} (hh : 111 ≤ h.length) {s : mS} {d : Nat} {Q : Option Value → zz_H → Prop} {x4 : Int32} {x5 : Int32} {x6 : Int32} {x7 : Int32} {x8 : Int32} {x9 : Int32} {x10 : Int32} (k1 : x9 ≤ x10 → zz_E zp_P zt_tf zt_fd X d zm_75 132 [(0, .ref 61), (4, .int x4), (5, .int x5), (6, .int x6), (7, .int x7), (8, .int x8)] [] (mH h s) Q) (k2 : ¬ x9 ≤ x10 → zz_E zp_P zt_tf zt_fd X d zm_75 106 [(0, .ref 61), (4, .int x4), (5, .int x5), (6, .int x6), (7, .int x7), (8, .int x8), (9, .int x9), (10, .int x10)] [] (mH h s) Q) : zz_E zp_P zt_tf zt_fd X d zm_75 99 [(0, .ref 61), (4, .int x4), (5, .int x5), (6, .int x6), (7, .int x7), (8, .int x8), (9, .int x9), (10, .int x10)] [] (mH h s) Q := by
  refine zz_E.n 101 rfl rfl rfl ?_
  refine zz_E.n 103 rfl rfl rfl ?_
  refine zz_E.b2 132 106 (A := x9 ≤ x10) rfl rfl (by decide) rfl rfl (fun c => ?_) (fun c => ?_)
  · exact zz_E.weak (k1 c) rfl ⟨rfl, rfl, rfl, rfl, rfl, rfl, trivial⟩
  · exact zz_E.weak (k2 c) rfl ⟨rfl, rfl, rfl, rfl, rfl, rfl, rfl, rfl, trivial⟩
theorem mb_75_106 {X : Nat → Option zz_C} {h : zz_H} (hh : 111 ≤ h.length) {s : mS} {d : Nat} {Q : Option Value → zz_H → Prop} {x4 : Int32} {x5 : Int32} {x6 : Int32} {x7 : Int32} {x8 : Int32} {x9 : Int32} {x10 : Int32} (i124 : ¬ ((x7 + x10) < 0 ∨ 166300 ≤ Int32.toNatClampNeg (x7 + x10))) (i125 : ¬ ((x8 + x10) < 0 ∨ 166300 ≤ Int32.toNatClampNeg (x8 + x10))) (k : zz_E zp_P zt_tf zt_fd X d zm_75 99 [(0, .ref 61), (4, .int x4), (5, .int x5), (6, .int x6), (7, .int x7), (8, .int x8), (9, .int x9), (10, .int (x10 + 1))] [] (mH h (mA s 47 (upd (s.2.2.1 47) (Int32.toNatClampNeg (x8 + x10)) ((s.2.2.1 47) (Int32.toNatClampNeg (x7 + x10)))))) Q) : zz_E zp_P zt_tf zt_fd X d zm_75 106 [(0, .ref 61), (4, .int x4), (5, .int x5), (6, .int x6), (7, .int x7), (8, .int x8), (9, .int x9), (10, .int x10)] [] (mH h s) Q := by
  refine zz_E.n 107 rfl rfl rfl ?_
  refine mE_g hh 110 (v := .ref 89) rfl rfl rfl ?_
  refine zz_E.n 112 rfl rfl rfl ?_
  refine zz_E.n 114 rfl rfl rfl ?_
  refine zz_E.n 115 rfl rfl rfl ?_
  refine zz_E.n 116 rfl rfl rfl ?_
  refine mE_g hh 119 (v := .ref 89) rfl rfl rfl ?_
  refine zz_E.n 121 rfl rfl rfl ?_
  refine zz_E.n 123 rfl rfl rfl ?_
  refine zz_E.n 124 rfl rfl rfl ?_
  refine mE_ia hh 125 28 (f := (s.2.2.1 47)) rfl (by decide) rfl rfl i124 rfl ?_
  refine mE_is hh 126 28 (f := (s.2.2.1 47)) rfl (by decide) rfl rfl i125 (mA_89 _ _) rfl ?_
  refine zz_E.n 129 rfl rfl rfl ?_
  refine zz_E.n 99 rfl rfl rfl ?_
  exact zz_E.weak k rfl ⟨rfl, rfl, rfl, rfl, rfl, rfl, rfl, rfl, trivial⟩
theorem mb_75_132 {X : Nat → Option zz_C} {h : zz_H} (hh : 111 ≤ h.length) {s : mS} {d : Nat} {Q : Option Value → zz_H → Prop} {x4 : Int32} {x5 : Int32} {x6 : Int32} {x7 : Int32} {x8 : Int32} (k : zz_E zp_P zt_tf zt_fd X d zm_75 135 [(0, .ref 61), (4, .int x4), (5, .int x5), (6, .int x6), (7, .int x7), (8, .int x8), (10, .int 0)] [] (mH h s) Q) : zz_E zp_P zt_tf zt_fd X d zm_75 132 [(0, .ref 61), (4, .int x4), (5, .int x5), (6, .int x6), (7, .int x7), (8, .int x8)] [] (mH h s) Q := by
  refine zz_E.c 133 (.int 0) rfl rfl rfl rfl ?_
  refine zz_E.n 135 rfl rfl rfl ?_
  exact zz_E.weak k rfl ⟨rfl, rfl, rfl, rfl, rfl, rfl, rfl, trivial⟩
theorem mb_75_135 {X : Nat → Option zz_C} {h : zz_H} (hh : 111 ≤ h.length) {s : mS} {d : Nat} {Q : Option Value → zz_H → Prop} {x4 : Int32} {x5 : Int32} {x6 : Int32} {x7 : Int32} {x8 : Int32} {x10 : Int32} (k : zz_E zp_P zt_tf zt_fd X d zm_77 0 [(0, .ref 61), (1, .int x7)] [] (mH h s) (fun v h' => zz_E zp_P zt_tf zt_fd X (d + 1) zm_75 143 [(0, .ref 61), (4, .int x4), (5, .int x5), (6, .int x6), (7, .int x7), (8, .int x8), (10, .int x10)] (v.toList ++ [.int x10]) h' Q)) : zz_E zp_P zt_tf zt_fd X (d + 1) zm_75 135 [(0, .ref 61), (4, .int x4), (5, .int x5), (6, .int x6), (7, .int x7), (8, .int x8), (10, .int x10)] [] (mH h s) Q := by
  refine zz_E.n 137 rfl rfl rfl ?_
  refine zz_E.n 138 rfl rfl rfl ?_
  refine zz_E.n 140 rfl rfl rfl ?_
  refine mE_cv hh 143 (as := [.int x10]) rfl rfl (Nat.le_of_ble_eq_true rfl) (Nat.le_of_ble_eq_true rfl) rfl (Nat.le_of_ble_eq_true rfl) rfl ?_
  refine zz_E.mono k ?_
  intro v h' hE
  exact zz_E.weak hE rfl ⟨rfl, rfl, rfl, rfl, rfl, rfl, rfl, trivial⟩
theorem mb_75_143 {X : Nat → Option zz_C} {h : zz_H} (hh : 111 ≤ h.length) {s : mS} {d : Nat} {Q : Option Value → zz_H → Prop} {x4 : Int32} {x5 : Int32} {x6 : Int32} {x7 : Int32} {x8 : Int32} {x10 : Int32} {y0 : Int32} {y1 : Int32} (k1 : y1 ≤ y0 → zz_E zp_P zt_tf zt_fd X d zm_75 267 [(0, .ref 61), (4, .int x4), (5, .int x5), (6, .int x6)] [] (mH h s) Q) (k2 : ¬ y1 ≤ y0 → zz_E zp_P zt_tf zt_fd X d zm_75 146 [(0, .ref 61), (4, .int x4), (5, .int x5), (6, .int x6), (7, .int x7), (8, .int x8), (10, .int x10)] [] (mH h s) Q) : zz_E zp_P zt_tf zt_fd X d zm_75 143 [(0, .ref 61), (4, .int x4), (5, .int x5), (6, .int x6), (7, .int x7), (8, .int x8), (10, .int x10)] [.int y1, .int y0] (mH h s) Q := by
  refine zz_E.b2 267 146 (A := y1 ≤ y0) rfl rfl (by decide) rfl rfl (fun c => ?_) (fun c => ?_)
  · exact zz_E.weak (k1 c) rfl ⟨rfl, rfl, rfl, rfl, trivial⟩
  · exact zz_E.weak (k2 c) rfl ⟨rfl, rfl, rfl, rfl, rfl, rfl, rfl, trivial⟩
theorem mb_75_146 {X : Nat → Option zz_C} {h : zz_H} (hh : 111 ≤ h.length) {s : mS} {d : Nat} {Q : Option Value → zz_H → Prop} {x4 : Int32} {x5 : Int32} {x6 : Int32} {x7 : Int32} {x8 : Int32} {x10 : Int32} (i152 : ¬ (x7 < 0 ∨ 166300 ≤ Int32.toNatClampNeg x7)) (k1 : ((s.2.2.1 47) (Int32.toNatClampNeg x7)) = 1 → zz_E zp_P zt_tf zt_fd X d zm_75 267 [(0, .ref 61), (4, .int x4), (5, .int x5), (6, .int x6)] [] (mH h s) Q) (k2 : ¬ ((s.2.2.1 47) (Int32.toNatClampNeg x7)) = 1 → zz_E zp_P zt_tf zt_fd X d zm_75 157 [(0, .ref 61), (4, .int x4), (5, .int x5), (6, .int x6), (7, .int x7), (8, .int x8), (10, .int x10)] [] (mH h s) Q) : zz_E zp_P zt_tf zt_fd X d zm_75 146 [(0, .ref 61), (4, .int x4), (5, .int x5), (6, .int x6), (7, .int x7), (8, .int x8), (10, .int x10)] [] (mH h s) Q := by
  refine zz_E.n 147 rfl rfl rfl ?_
  refine mE_g hh 150 (v := .ref 89) rfl rfl rfl ?_
  refine zz_E.n 152 rfl rfl rfl ?_
  refine mE_ia hh 153 28 (f := (s.2.2.1 47)) rfl (by decide) rfl rfl i152 rfl ?_
  refine zz_E.c 154 (.int 1) rfl rfl rfl rfl ?_
  refine zz_E.b2 267 157 (A := ((s.2.2.1 47) (Int32.toNatClampNeg x7)) = 1) rfl rfl (by decide) rfl rfl (fun c => ?_) (fun c => ?_)
  · exact zz_E.weak (k1 c) rfl ⟨rfl, rfl, rfl, rfl, trivial⟩
  · exact zz_E.weak (k2 c) rfl ⟨rfl, rfl, rfl, rfl, rfl, rfl, rfl, trivial⟩
theorem mb_75_157 {X : Nat → Option zz_C} {h : zz_H} (hh : 111 ≤ h.length) {s : mS} {d : Nat} {Q : Option Value → zz_H → Prop} {x4 : Int32} {x5 : Int32} {x6 : Int32} {x7 : Int32} {x8 : Int32} {x10 : Int32} (i163 : ¬ (x7 < 0 ∨ 166300 ≤ Int32.toNatClampNeg x7)) (k1 : ¬ ((s.2.2.1 47) (Int32.toNatClampNeg x7)) = 3 → zz_E zp_P zt_tf zt_fd X d zm_75 182 [(0, .ref 61), (4, .int x4), (5, .int x5), (6, .int x6), (7, .int x7), (8, .int x8), (10, .int x10)] [] (mH h s) Q) (k2 : ¬ ¬ ((s.2.2.1 47) (Int32.toNatClampNeg x7)) = 3 → zz_E zp_P zt_tf zt_fd X d zm_75 168 [(0, .ref 61), (4, .int x4), (5, .int x5), (6, .int x6), (7, .int x7), (8, .int x8), (10, .int x10)] [] (mH h s) Q) : zz_E zp_P zt_tf zt_fd X d zm_75 157 [(0, .ref 61), (4, .int x4), (5, .int x5), (6, .int x6), (7, .int x7), (8, .int x8), (10, .int x10)] [] (mH h s) Q := by
  refine zz_E.n 158 rfl rfl rfl ?_
  refine mE_g hh 161 (v := .ref 89) rfl rfl rfl ?_
  refine zz_E.n 163 rfl rfl rfl ?_
  refine mE_ia hh 164 28 (f := (s.2.2.1 47)) rfl (by decide) rfl rfl i163 rfl ?_
  refine zz_E.c 165 (.int 3) rfl rfl rfl rfl ?_
  refine zz_E.b2 182 168 (A := ¬ ((s.2.2.1 47) (Int32.toNatClampNeg x7)) = 3) rfl (zz_cond_ne _ _) (by decide) rfl rfl (fun c => ?_) (fun c => ?_)
  · exact zz_E.weak (k1 c) rfl ⟨rfl, rfl, rfl, rfl, rfl, rfl, rfl, trivial⟩
  · exact zz_E.weak (k2 c) rfl ⟨rfl, rfl, rfl, rfl, rfl, rfl, rfl, trivial⟩
theorem mb_75_168 {X : Nat → Option zz_C} {h : zz_H} (hh : 111 ≤ h.length) {s : mS} {d : Nat} {Q : Option Value → zz_H → Prop} {x4 : Int32} {x5 : Int32} {x6 : Int32} {x7 : Int32} {x8 : Int32} {x10 : Int32} (k : zz_E zp_P zt_tf zt_fd X d zm_293 0 [(0, .ref 61), (1, .int x7), (2, .int x10)] [] (mH h s) (fun v h' => zz_E zp_P zt_tf zt_fd X (d + 1) zm_75 176 [(0, .ref 61), (4, .int x4), (5, .int x5), (6, .int x6), (7, .int x7), (8, .int x8), (10, .int x10)] (v.toList ++ []) h' Q)) : zz_E zp_P zt_tf zt_fd X (d + 1) zm_75 168 [(0, .ref 61), (4, .int x4), (5, .int x5), (6, .int x6), (7, .int x7), (8, .int x8), (10, .int x10)] [] (mH h s) Q := by
  refine zz_E.n 169 rfl rfl rfl ?_
  refine zz_E.n 171 rfl rfl rfl ?_
  refine zz_E.n 173 rfl rfl rfl ?_
  refine mE_cv hh 176 (as := []) rfl rfl (Nat.le_of_ble_eq_true rfl) (Nat.le_of_ble_eq_true rfl) rfl (Nat.le_of_ble_eq_true rfl) rfl ?_
  refine zz_E.mono k ?_
  intro v h' hE
  exact zz_E.weak hE rfl ⟨rfl, rfl, rfl, rfl, rfl, rfl, rfl, trivial⟩
theorem mb_75_176 {X : Nat → Option zz_C} {h : zz_H} (hh : 111 ≤ h.length) {s : mS} {d : Nat} {Q : Option Value → zz_H → Prop} {x4 : Int32} {x5 : Int32} {x6 : Int32} {x7 : Int32} {x8 : Int32} {x10 : Int32} {y0 : Int32} (k1 : y0 = 0 → zz_E zp_P zt_tf zt_fd X d zm_75 182 [(0, .ref 61), (4, .int x4), (5, .int x5), (6, .int x6), (7, .int x7), (8, .int x8), (10, .int x10)] [] (mH h s) Q) (k2 : ¬ y0 = 0 → zz_E zp_P zt_tf zt_fd X d zm_75 179 [(0, .ref 61), (4, .int x4), (5, .int x5), (6, .int x6), (7, .int x7), (8, .int x8), (10, .int x10)] [] (mH h s) Q) : zz_E zp_P zt_tf zt_fd X d zm_75 176 [(0, .ref 61), (4, .int x4), (5, .int x5), (6, .int x6), (7, .int x7), (8, .int x8), (10, .int x10)] [.int y0] (mH h s) Q := by
  refine zz_E.b1 182 179 (A := y0 = 0) rfl rfl (by decide) rfl rfl (fun c => ?_) (fun c => ?_)
  · exact zz_E.weak (k1 c) rfl ⟨rfl, rfl, rfl, rfl, rfl, rfl, rfl, trivial⟩
  · exact zz_E.weak (k2 c) rfl ⟨rfl, rfl, rfl, rfl, rfl, rfl, rfl, trivial⟩
theorem mb_75_179 {X : Nat → Option zz_C} {h : zz_H} (hh : 111 ≤ h.length) {s : mS} {d : Nat} {Q : Option Value → zz_H → Prop} {x4 : Int32} {x5 : Int32} {x6 : Int32} {x7 : Int32} {x8 : Int32} {x10 : Int32} (k : zz_E zp_P zt_tf zt_fd X d zm_75 261 [(0, .ref 61), (4, .int x4), (5, .int x5), (6, .int x6), (7, .int x7), (8, .int x8), (10, .int x10)] [] (mH h s) Q) : zz_E zp_P zt_tf zt_fd X d zm_75 179 [(0, .ref 61), (4, .int x4), (5, .int x5), (6, .int x6), (7, .int x7), (8, .int x8), (10, .int x10)] [] (mH h s) Q := by
  refine zz_E.n 261 rfl rfl rfl ?_
  exact zz_E.weak k rfl ⟨rfl, rfl, rfl, rfl, rfl, rfl, rfl, trivial⟩
theorem mb_75_182 {X : Nat → Option zz_C} {h : zz_H} (hh : 111 ≤ h.length) {s : mS} {d : Nat} {Q : Option Value → zz_H → Prop} {x4 : Int32} {x5 : Int32} {x6 : Int32} {x7 : Int32} {x8 : Int32} {x10 : Int32} (k : zz_E zp_P zt_tf zt_fd X d zm_294 0 [(0, .ref 61), (1, .int x7), (2, .int x10)] [] (mH h s) (fun v h' => zz_E zp_P zt_tf zt_fd X (d + 1) zm_75 190 [(0, .ref 61), (4, .int x4), (5, .int x5), (6, .int x6), (7, .int x7), (8, .int x8), (10, .int x10)] (v.toList ++ []) h' Q)) : zz_E zp_P zt_tf zt_fd X (d + 1) zm_75 182 [(0, .ref 61), (4, .int x4), (5, .int x5), (6, .int x6), (7, .int x7), (8, .int x8), (10, .int x10)] [] (mH h s) Q := by
  refine zz_E.n 183 rfl rfl rfl ?_
  refine zz_E.n 185 rfl rfl rfl ?_
  refine zz_E.n 187 rfl rfl rfl ?_
  refine mE_cv hh 190 (as := []) rfl rfl (Nat.le_of_ble_eq_true rfl) (Nat.le_of_ble_eq_true rfl) rfl (Nat.le_of_ble_eq_true rfl) rfl ?_
  refine zz_E.mono k ?_
  intro v h' hE
  exact zz_E.weak hE rfl ⟨rfl, rfl, rfl, rfl, rfl, rfl, rfl, trivial⟩
theorem mb_75_190 {X : Nat → Option zz_C} {h : zz_H} (hh : 111 ≤ h.length) {s : mS} {d : Nat} {Q : Option Value → zz_H → Prop} {x4 : Int32} {x5 : Int32} {x6 : Int32} {x7 : Int32} {x8 : Int32} {x10 : Int32} {y0 : Int32} (i200 : ¬ (x4 < 0 ∨ 700 ≤ Int32.toNatClampNeg x4)) (i209 : ¬ (x4 < 0 ∨ 700 ≤ Int32.toNatClampNeg x4)) (i225 : ¬ (x7 < 0 ∨ 166300 ≤ Int32.toNatClampNeg x7)) (k1 : ¬ ((s.2.2.1 47) (Int32.toNatClampNeg x7)) = 2 → zz_E zp_P zt_tf zt_fd X d zm_75 237 [(0, .ref 61), (4, .int (x4 + 1)), (5, .int x5), (6, .int x6), (7, .int x7), (8, .int x8), (10, .int x10), (11, .int y0)] [.int x8, .ref 89] (mH h (mA (mA s 58 (upd (s.2.2.1 58) (Int32.toNatClampNeg x4) y0)) 59 (upd (s.2.2.1 59) (Int32.toNatClampNeg x4) x5))) Q) (k2 : ¬ ¬ ((s.2.2.1 47) (Int32.toNatClampNeg x7)) = 2 → zz_E zp_P zt_tf zt_fd X d zm_75 230 [(0, .ref 61), (4, .int (x4 + 1)), (5, .int x5), (6, .int x6), (7, .int x7), (8, .int x8), (10, .int x10), (11, .int y0)] [.int x8, .ref 89] (mH h (mA (mA s 58 (upd (s.2.2.1 58) (Int32.toNatClampNeg x4) y0)) 59 (upd (s.2.2.1 59) (Int32.toNatClampNeg x4) x5))) Q) : zz_E zp_P zt_tf zt_fd X d zm_75 190 [(0, .ref 61), (4, .int x4), (5, .int x5), (6, .int x6), (7, .int x7), (8, .int x8), (10, .int x10)] [.int y0] (mH h s) Q := by
  refine zz_E.n 192 rfl rfl rfl ?_
  refine zz_E.n 193 rfl rfl rfl ?_
  refine mE_g hh 196 (v := .ref 95) rfl rfl rfl ?_
  refine zz_E.n 198 rfl rfl rfl ?_
  refine zz_E.n 200 rfl rfl rfl ?_
  refine mE_is hh 201 34 (f := (s.2.2.1 58)) rfl (by decide) rfl rfl i200 (mA_95 _ _) rfl ?_
  refine zz_E.n 202 rfl rfl rfl ?_
  refine mE_g hh 205 (v := .ref 96) rfl rfl rfl ?_
  refine zz_E.n 207 rfl rfl rfl ?_
  refine zz_E.n 209 rfl rfl rfl ?_
  refine mE_is hh 210 35 (f := (s.2.2.1 59)) rfl (by decide) rfl rfl i209 (mA_96 _ _) rfl ?_
  refine zz_E.n 213 rfl rfl rfl ?_
  refine zz_E.n 214 rfl rfl rfl ?_
  refine mE_g hh 217 (v := .ref 89) rfl rfl rfl ?_
  refine zz_E.n 219 rfl rfl rfl ?_
  refine zz_E.n 220 rfl rfl rfl ?_
  refine mE_g hh 223 (v := .ref 89) rfl rfl rfl ?_
  refine zz_E.n 225 rfl rfl rfl ?_
  refine mE_ia hh 226 28 (f := (s.2.2.1 47)) rfl (by decide) rfl rfl i225 rfl ?_
  refine zz_E.c 227 (.int 2) rfl rfl rfl rfl ?_
  refine zz_E.b2 237 230 (A := ¬ ((s.2.2.1 47) (Int32.toNatClampNeg x7)) = 2) rfl (zz_cond_ne _ _) (by decide) rfl rfl (fun c => ?_) (fun c => ?_)
  · exact zz_E.weak (k1 c) rfl ⟨rfl, rfl, rfl, rfl, rfl, rfl, rfl, rfl, trivial⟩
  · exact zz_E.weak (k2 c) rfl ⟨rfl, rfl, rfl, rfl, rfl, rfl, rfl, rfl, trivial⟩
theorem mb_75_230 {X : Nat → Option zz_C} {h : zz_H} (hh : 111 ≤ h.length) {s : mS} {d : Nat} {Q : Option Value → zz_H → Prop} {x4 : Int32} {x5 : Int32} {x6 : Int32} {x7 : Int32} {x8 : Int32} {x10 : Int32} {x11 : Int32} {y1 : Int32} (k : zz_E zp_P zt_tf zt_fd X d zm_75 243 [(0, .ref 61), (4, .int x4), (5, .int x5), (6, .int x6), (7, .int x7), (8, .int x8), (10, .int x10), (11, .int x11)] [.int (2 + x10), .int y1, .ref 89] (mH h s) Q) : zz_E zp_P zt_tf zt_fd X d zm_75 230 [(0, .ref 61), (4, .int x4), (5, .int x5), (6, .int x6), (7, .int x7), (8, .int x8), (10, .int x10), (11, .int x11)] [.int y1, .ref 89] (mH h s) Q := by
  refine zz_E.c 231 (.int 2) rfl rfl rfl rfl ?_
  refine zz_E.n 233 rfl rfl rfl ?_
  refine zz_E.n 234 rfl rfl rfl ?_
  refine zz_E.n 243 rfl rfl rfl ?_
  exact zz_E.weak k rfl ⟨rfl, rfl, rfl, rfl, rfl, rfl, rfl, rfl, trivial⟩
theorem mb_75_237 {X : Nat → Option zz_C} {h : zz_H} (hh : 111 ≤ h.length) {s : mS} {d : Nat} {Q : Option Value → zz_H → Prop} {x4 : Int32} {x5 : Int32} {x6 : Int32} {x7 : Int32} {x8 : Int32} {x10 : Int32} {x11 : Int32} {y1 : Int32} (k : zz_E zp_P zt_tf zt_fd X d zm_75 243 [(0, .ref 61), (4, .int x4), (5, .int x5), (6, .int x6), (7, .int x7), (8, .int x8), (10, .int x10), (11, .int x11)] [.int (3 + (2 * x10)), .int y1, .ref 89] (mH h s) Q) : zz_E zp_P zt_tf zt_fd X d zm_75 237 [(0, .ref 61), (4, .int x4), (5, .int x5), (6, .int x6), (7, .int x7), (8, .int x8), (10, .int x10), (11, .int x11)] [.int y1, .ref 89] (mH h s) Q := by
  refine zz_E.c 238 (.int 3) rfl rfl rfl rfl ?_
  refine zz_E.c 239 (.int 2) rfl rfl rfl rfl ?_
  refine zz_E.n 241 rfl rfl rfl ?_
  refine zz_E.n 242 rfl rfl rfl ?_
  refine zz_E.n 243 rfl rfl rfl ?_
  exact zz_E.weak k rfl ⟨rfl, rfl, rfl, rfl, rfl, rfl, rfl, rfl, trivial⟩
theorem mb_75_243 {X : Nat → Option zz_C} {h : zz_H} (hh : 111 ≤ h.length) {s : mS} {d : Nat} {Q : Option Value → zz_H → Prop} {x4 : Int32} {x5 : Int32} {x6 : Int32} {x7 : Int32} {x8 : Int32} {x10 : Int32} {x11 : Int32} {y1 : Int32} {y2 : Int32} (i249 : ¬ ((y1 + y2) < 0 ∨ 166300 ≤ Int32.toNatClampNeg (y1 + y2))) (k : zz_E zp_P zt_tf zt_fd X d zm_300 0 [(0, .ref 61), (1, .int x11)] [] (mH h (mA s 47 (upd (s.2.2.1 47) (Int32.toNatClampNeg (y1 + y2)) (x5 - x8)))) (fun v h' => zz_E zp_P zt_tf zt_fd X (d + 1) zm_75 258 [(0, .ref 61), (4, .int x4), (6, .int x6), (7, .int x7), (8, .int x8), (10, .int x10)] (v.toList ++ [.int x5]) h' Q)) : zz_E zp_P zt_tf zt_fd X (d + 1) zm_75 243 [(0, .ref 61), (4, .int x4), (5, .int x5), (6, .int x6), (7, .int x7), (8, .int x8), (10, .int x10), (11, .int x11)] [.int y2, .int y1, .ref 89] (mH h s) Q := by
  refine zz_E.n 244 rfl rfl rfl ?_
  refine zz_E.n 246 rfl rfl rfl ?_
  refine zz_E.n 248 rfl rfl rfl ?_
  refine zz_E.n 249 rfl rfl rfl ?_
  refine mE_is hh 250 28 (f := (s.2.2.1 47)) rfl (by decide) rfl rfl i249 (mA_89 _ _) rfl ?_
  refine zz_E.n 252 rfl rfl rfl ?_
  refine zz_E.n 253 rfl rfl rfl ?_
  refine zz_E.n 255 rfl rfl rfl ?_
  refine mE_cv hh 258 (as := [.int x5]) rfl rfl (Nat.le_of_ble_eq_true rfl) (Nat.le_of_ble_eq_true rfl) rfl (Nat.le_of_ble_eq_true rfl) rfl ?_
  refine zz_E.mono k ?_
  intro v h' hE
  exact zz_E.weak hE rfl ⟨rfl, rfl, rfl, rfl, rfl, rfl, trivial⟩
theorem mb_75_258 {X : Nat → Option zz_C} {h : zz_H} (hh : 111 ≤ h.length) {s : mS} {d : Nat} {Q : Option Value → zz_H → Prop} {x4 : Int32} {x6 : Int32} {x7 : Int32} {x8 : Int32} {x10 : Int32} {y0 : Int32} {y1 : Int32} (k : zz_E zp_P zt_tf zt_fd X d zm_75 261 [(0, .ref 61), (4, .int x4), (5, .int (y0 + y1)), (6, .int x6), (7, .int x7), (8, .int x8), (10, .int x10)] [] (mH h s) Q) : zz_E zp_P zt_tf zt_fd X d zm_75 258 [(0, .ref 61), (4, .int x4), (6, .int x6), (7, .int x7), (8, .int x8), (10, .int x10)] [.int y1, .int y0] (mH h s) Q := by
  refine zz_E.n 259 rfl rfl rfl ?_
  refine zz_E.n 261 rfl rfl rfl ?_
  exact zz_E.weak k rfl ⟨rfl, rfl, rfl, rfl, rfl, rfl, rfl, trivial⟩
theorem mb_75_261 {X : Nat → Option zz_C} {h : zz_H} (hh : 111 ≤ h.length) {s : mS} {d : Nat} {Q : Option Value → zz_H → Prop} {x4 : Int32} {x5 : Int32} {x6 : Int32} {x7 : Int32} {x8 : Int32} {x10 : Int32} (k : zz_E zp_P zt_tf zt_fd X d zm_75 135 [(0, .ref 61), (4, .int x4), (5, .int x5), (6, .int x6), (7, .int x7), (8, .int x8), (10, .int (x10 + 1))] [] (mH h s) Q) : zz_E zp_P zt_tf zt_fd X d zm_75 261 [(0, .ref 61), (4, .int x4), (5, .int x5), (6, .int x6), (7, .int x7), (8, .int x8), (10, .int x10)] [] (mH h s) Q := by
  refine zz_E.n 264 rfl rfl rfl ?_
  refine zz_E.n 135 rfl rfl rfl ?_
  exact zz_E.weak k rfl ⟨rfl, rfl, rfl, rfl, rfl, rfl, rfl, trivial⟩
theorem mb_75_267 {X : Nat → Option zz_C} {h : zz_H} (hh : 111 ≤ h.length) {s : mS} {d : Nat} {Q : Option Value → zz_H → Prop} {x4 : Int32} {x5 : Int32} {x6 : Int32} (k : zz_E zp_P zt_tf zt_fd X d zm_75 63 [(0, .ref 61), (4, .int x4), (5, .int x5), (6, .int (x6 + 1))] [] (mH h s) Q) : zz_E zp_P zt_tf zt_fd X d zm_75 267 [(0, .ref 61), (4, .int x4), (5, .int x5), (6, .int x6)] [] (mH h s) Q := by
  refine zz_E.n 270 rfl rfl rfl ?_
  refine zz_E.n 63 rfl rfl rfl ?_
  exact zz_E.weak k rfl ⟨rfl, rfl, rfl, rfl, trivial⟩
theorem mb_75_273 {X : Nat → Option zz_C} {h : zz_H} (hh : 111 ≤ h.length) {s : mS} {d : Nat} {Q : Option Value → zz_H → Prop}  (k : Q none (mH h s)) : zz_E zp_P zt_tf zt_fd X d zm_75 273 [] [] (mH h s) Q := by
  refine zz_E.ret rfl rfl rfl ?_
  exact k
def mf_75_273 (N : Nat)  (s : mS) : mO := some (s, none)
theorem mr_75_273 {X : Nat → Option zz_C} {h : zz_H} (hh : 111 ≤ h.length) {d : Nat} {N : Nat} {Q : Option Value → zz_H → Prop}  {s s' : mS} {v : Option Value} (hf : mf_75_273 N  s = some (s', v)) (k : Q v (mH h s')) : zz_E zp_P zt_tf zt_fd X (d + 2) zm_75 273 [] [] (mH h s) Q := by
  unfold mf_75_273 at hf
  cases hf
  exact mb_75_273 hh  k
def mf_75_106 (N : Nat) (rc : Nat → Int32 → Int32 → Int32 → Int32 → Int32 → Int32 → Int32 → mS → mO) (x4 : Int32) (x5 : Int32) (x6 : Int32) (x7 : Int32) (x8 : Int32) (x9 : Int32) (x10 : Int32) (s : mS) : mO := if ¬ ((x7 + x10) < 0 ∨ 166300 ≤ Int32.toNatClampNeg (x7 + x10)) then (if ¬ ((x8 + x10) < 0 ∨ 166300 ≤ Int32.toNatClampNeg (x8 + x10)) then (rc 2 (x10 + 1) x4 x5 x6 x7 x8 x9 (mA s 47 (upd (s.2.2.1 47) (Int32.toNatClampNeg (x8 + x10)) ((s.2.2.1 47) (Int32.toNatClampNeg (x7 + x10)))))) else none) else none
theorem mr_75_106 {X : Nat → Option zz_C} {h : zz_H} (hh : 111 ≤ h.length) {d : Nat} {N : Nat} {rc : Nat → Int32 → Int32 → Int32 → Int32 → Int32 → Int32 → Int32 → mS → mO} (hrc0 : ∀ {Q : Option Value → zz_H → Prop} {x4 : Int32} {x5 : Int32} {x6 : Int32} {s s' : mS} {v : Option Value}, rc 0 0 x4 x5 x6 0 0 0 s = some (s', v) → Q v (mH h s') → zz_E zp_P zt_tf zt_fd X (d + 2) zm_75 63 [(0, .ref 61), (4, .int x4), (5, .int x5), (6, .int x6)] [] (mH h s) Q) (hrc1 : ∀ {Q : Option Value → zz_H → Prop} {x4 : Int32} {x5 : Int32} {x6 : Int32} {x7 : Int32} {x8 : Int32} {x10 : Int32} {s s' : mS} {v : Option Value}, rc 1 x10 x4 x5 x6 x7 x8 0 s = some (s', v) → Q v (mH h s') → zz_E zp_P zt_tf zt_fd X (d + 2) zm_75 135 [(0, .ref 61), (4, .int x4), (5, .int x5), (6, .int x6), (7, .int x7), (8, .int x8), (10, .int x10)] [] (mH h s) Q) (hrc2 : ∀ {Q : Option Value → zz_H → Prop} {x4 : Int32} {x5 : Int32} {x6 : Int32} {x7 : Int32} {x8 : Int32} {x9 : Int32} {x10 : Int32} {s s' : mS} {v : Option Value}, rc 2 x10 x4 x5 x6 x7 x8 x9 s = some (s', v) → Q v (mH h s') → zz_E zp_P zt_tf zt_fd X (d + 2) zm_75 99 [(0, .ref 61), (4, .int x4), (5, .int x5), (6, .int x6), (7, .int x7), (8, .int x8), (9, .int x9), (10, .int x10)] [] (mH h s) Q) {Q : Option Value → zz_H → Prop} {x4 : Int32} {x5 : Int32} {x6 : Int32} {x7 : Int32} {x8 : Int32} {x9 : Int32} {x10 : Int32} {s s' : mS} {v : Option Value} (hf : mf_75_106 N rc x4 x5 x6 x7 x8 x9 x10 s = some (s', v)) (k : Q v (mH h s')) : zz_E zp_P zt_tf zt_fd X (d + 2) zm_75 106 [(0, .ref 61), (4, .int x4), (5, .int x5), (6, .int x6), (7, .int x7), (8, .int x8), (9, .int x9), (10, .int x10)] [] (mH h s) Q := by
  unfold mf_75_106 at hf
  obtain ⟨q0, hf⟩ := mo_if hf
  obtain ⟨q1, hf⟩ := mo_if hf
  exact mb_75_106 hh q0 q1 (hrc2 hf k)
def mf_75_261 (N : Nat) (rc : Nat → Int32 → Int32 → Int32 → Int32 → Int32 → Int32 → Int32 → mS → mO) (x4 : Int32) (x5 : Int32) (x6 : Int32) (x7 : Int32) (x8 : Int32) (x10 : Int32) (s : mS) : mO := rc 1 (x10 + 1) x4 x5 x6 x7 x8 0 s
theorem mr_75_261 {X : Nat → Option zz_C} {h : zz_H} (hh : 111 ≤ h.length) {d : Nat} {N : Nat} {rc : Nat → Int32 → Int32 → Int32 → Int32 → Int32 → Int32 → Int32 → mS → mO} (hrc0 : ∀ {Q : Option Value → zz_H → Prop} {x4 : Int32} {x5 : Int32} {x6 : Int32} {s s' : mS} {v : Option Value}, rc 0 0 x4 x5 x6 0 0 0 s = some (s', v) → Q v (mH h s') → zz_E zp_P zt_tf zt_fd X (d + 2) zm_75 63 [(0, .ref 61), (4, .int x4), (5, .int x5), (6, .int x6)] [] (mH h s) Q) (hrc1 : ∀ {Q : Option Value → zz_H → Prop} {x4 : Int32} {x5 : Int32} {x6 : Int32} {x7 : Int32} {x8 : Int32} {x10 : Int32} {s s' : mS} {v : Option Value}, rc 1 x10 x4 x5 x6 x7 x8 0 s = some (s', v) → Q v (mH h s') → zz_E zp_P zt_tf zt_fd X (d + 2) zm_75 135 [(0, .ref 61), (4, .int x4), (5, .int x5), (6, .int x6), (7, .int x7), (8, .int x8), (10, .int x10)] [] (mH h s) Q) (hrc2 : ∀ {Q : Option Value → zz_H → Prop} {x4 : Int32} {x5 : Int32} {x6 : Int32} {x7 : Int32} {x8 : Int32} {x9 : Int32} {x10 : Int32} {s s' : mS} {v : Option Value}, rc 2 x10 x4 x5 x6 x7 x8 x9 s = some (s', v) → Q v (mH h s') → zz_E zp_P zt_tf zt_fd X (d + 2) zm_75 99 [(0, .ref 61), (4, .int x4), (5, .int x5), (6, .int x6), (7, .int x7), (8, .int x8), (9, .int x9), (10, .int x10)] [] (mH h s) Q) {Q : Option Value → zz_H → Prop} {x4 : Int32} {x5 : Int32} {x6 : Int32} {x7 : Int32} {x8 : Int32} {x10 : Int32} {s s' : mS} {v : Option Value} (hf : mf_75_261 N rc x4 x5 x6 x7 x8 x10 s = some (s', v)) (k : Q v (mH h s')) : zz_E zp_P zt_tf zt_fd X (d + 2) zm_75 261 [(0, .ref 61), (4, .int x4), (5, .int x5), (6, .int x6), (7, .int x7), (8, .int x8), (10, .int x10)] [] (mH h s) Q := by
  unfold mf_75_261 at hf
  exact mb_75_261 hh  (hrc1 hf k)
def mf_75_179 (N : Nat) (rc : Nat → Int32 → Int32 → Int32 → Int32 → Int32 → Int32 → Int32 → mS → mO) (x4 : Int32) (x5 : Int32) (x6 : Int32) (x7 : Int32) (x8 : Int32) (x10 : Int32) (s : mS) : mO := mf_75_261 N rc x4 x5 x6 x7 x8 x10 s
theorem mr_75_179 {X : Nat → Option zz_C} {h : zz_H} (hh : 111 ≤ h.length) {d : Nat} {N : Nat} {rc : Nat → Int32 → Int32 → Int32 → Int32 → Int32 → Int32 → Int32 → mS → mO} (hrc0 : ∀ {Q : Option Value → zz_H → Prop} {x4 : Int32} {x5 : Int32} {x6 : Int32} {s s' : mS} {v : Option Value}, rc 0 0 x4 x5 x6 0 0 0 s = some (s', v) → Q v (mH h s') → zz_E zp_P zt_tf zt_fd X (d + 2) zm_75 63 [(0, .ref 61), (4, .int x4), (5, .int x5), (6, .int x6)] [] (mH h s) Q) (hrc1 : ∀ {Q : Option Value → zz_H → Prop} {x4 : Int32} {x5 : Int32} {x6 : Int32} {x7 : Int32} {x8 : Int32} {x10 : Int32} {s s' : mS} {v : Option Value}, rc 1 x10 x4 x5 x6 x7 x8 0 s = some (s', v) → Q v (mH h s') → zz_E zp_P zt_tf zt_fd X (d + 2) zm_75 135 [(0, .ref 61), (4, .int x4), (5, .int x5), (6, .int x6), (7, .int x7), (8, .int x8), (10, .int x10)] [] (mH h s) Q) (hrc2 : ∀ {Q : Option Value → zz_H → Prop} {x4 : Int32} {x5 : Int32} {x6 : Int32} {x7 : Int32} {x8 : Int32} {x9 : Int32} {x10 : Int32} {s s' : mS} {v : Option Value}, rc 2 x10 x4 x5 x6 x7 x8 x9 s = some (s', v) → Q v (mH h s') → zz_E zp_P zt_tf zt_fd X (d + 2) zm_75 99 [(0, .ref 61), (4, .int x4), (5, .int x5), (6, .int x6), (7, .int x7), (8, .int x8), (9, .int x9), (10, .int x10)] [] (mH h s) Q) {Q : Option Value → zz_H → Prop} {x4 : Int32} {x5 : Int32} {x6 : Int32} {x7 : Int32} {x8 : Int32} {x10 : Int32} {s s' : mS} {v : Option Value} (hf : mf_75_179 N rc x4 x5 x6 x7 x8 x10 s = some (s', v)) (k : Q v (mH h s')) : zz_E zp_P zt_tf zt_fd X (d + 2) zm_75 179 [(0, .ref 61), (4, .int x4), (5, .int x5), (6, .int x6), (7, .int x7), (8, .int x8), (10, .int x10)] [] (mH h s) Q := by
  unfold mf_75_179 at hf
  exact mb_75_179 hh  (mr_75_261 hh hrc0 hrc1 hrc2 hf k)
def mf_75_258 (N : Nat) (rc : Nat → Int32 → Int32 → Int32 → Int32 → Int32 → Int32 → Int32 → mS → mO) (x4 : Int32) (x6 : Int32) (x7 : Int32) (x8 : Int32) (x10 : Int32) (y0 : Int32) (y1 : Int32) (s : mS) : mO := mf_75_261 N rc x4 (y0 + y1) x6 x7 x8 x10 s
theorem mr_75_258 {X : Nat → Option zz_C} {h : zz_H} (hh : 111 ≤ h.length) {d : Nat} {N : Nat} {rc : Nat → Int32 → Int32 → Int32 → Int32 → Int32 → Int32 → Int32 → mS → mO} (hrc0 : ∀ {Q : Option Value → zz_H → Prop} {x4 : Int32} {x5 : Int32} {x6 : Int32} {s s' : mS} {v : Option Value}, rc 0 0 x4 x5 x6 0 0 0 s = some (s', v) → Q v (mH h s') → zz_E zp_P zt_tf zt_fd X (d + 2) zm_75 63 [(0, .ref 61), (4, .int x4), (5, .int x5), (6, .int x6)] [] (mH h s) Q) (hrc1 : ∀ {Q : Option Value → zz_H → Prop} {x4 : Int32} {x5 : Int32} {x6 : Int32} {x7 : Int32} {x8 : Int32} {x10 : Int32} {s s' : mS} {v : Option Value}, rc 1 x10 x4 x5 x6 x7 x8 0 s = some (s', v) → Q v (mH h s') → zz_E zp_P zt_tf zt_fd X (d + 2) zm_75 135 [(0, .ref 61), (4, .int x4), (5, .int x5), (6, .int x6), (7, .int x7), (8, .int x8), (10, .int x10)] [] (mH h s) Q) (hrc2 : ∀ {Q : Option Value → zz_H → Prop} {x4 : Int32} {x5 : Int32} {x6 : Int32} {x7 : Int32} {x8 : Int32} {x9 : Int32} {x10 : Int32} {s s' : mS} {v : Option Value}, rc 2 x10 x4 x5 x6 x7 x8 x9 s = some (s', v) → Q v (mH h s') → zz_E zp_P zt_tf zt_fd X (d + 2) zm_75 99 [(0, .ref 61), (4, .int x4), (5, .int x5), (6, .int x6), (7, .int x7), (8, .int x8), (9, .int x9), (10, .int x10)] [] (mH h s) Q) {Q : Option Value → zz_H → Prop} {x4 : Int32} {x6 : Int32} {x7 : Int32} {x8 : Int32} {x10 : Int32} {y0 : Int32} {y1 : Int32} {s s' : mS} {v : Option Value} (hf : mf_75_258 N rc x4 x6 x7 x8 x10 y0 y1 s = some (s', v)) (k : Q v (mH h s')) : zz_E zp_P zt_tf zt_fd X (d + 2) zm_75 258 [(0, .ref 61), (4, .int x4), (6, .int x6), (7, .int x7), (8, .int x8), (10, .int x10)] [.int y1, .int y0] (mH h s) Q := by
  unfold mf_75_258 at hf
  exact mb_75_258 hh  (mr_75_261 hh hrc0 hrc1 hrc2 hf k)
def mf_75_243 (N : Nat) (rc : Nat → Int32 → Int32 → Int32 → Int32 → Int32 → Int32 → Int32 → mS → mO) (x4 : Int32) (x5 : Int32) (x6 : Int32) (x7 : Int32) (x8 : Int32) (x10 : Int32) (x11 : Int32) (y1 : Int32) (y2 : Int32) (s : mS) : mO := if ¬ ((y1 + y2) < 0 ∨ 166300 ≤ Int32.toNatClampNeg (y1 + y2)) then (mo_bi (mf_300 N x11 (mA s 47 (upd (s.2.2.1 47) (Int32.toNatClampNeg (y1 + y2)) (x5 - x8)))) (fun s1 y => mf_75_258 N rc x4 x6 x7 x8 x10 x5 y s1)) else none
theorem mr_75_243 {X : Nat → Option zz_C} {h : zz_H} (hh : 111 ≤ h.length) {d : Nat} {N : Nat} {rc : Nat → Int32 → Int32 → Int32 → Int32 → Int32 → Int32 → Int32 → mS → mO} (hrc0 : ∀ {Q : Option Value → zz_H → Prop} {x4 : Int32} {x5 : Int32} {x6 : Int32} {s s' : mS} {v : Option Value}, rc 0 0 x4 x5 x6 0 0 0 s = some (s', v) → Q v (mH h s') → zz_E zp_P zt_tf zt_fd X (d + 2) zm_75 63 [(0, .ref 61), (4, .int x4), (5, .int x5), (6, .int x6)] [] (mH h s) Q) (hrc1 : ∀ {Q : Option Value → zz_H → Prop} {x4 : Int32} {x5 : Int32} {x6 : Int32} {x7 : Int32} {x8 : Int32} {x10 : Int32} {s s' : mS} {v : Option Value}, rc 1 x10 x4 x5 x6 x7 x8 0 s = some (s', v) → Q v (mH h s') → zz_E zp_P zt_tf zt_fd X (d + 2) zm_75 135 [(0, .ref 61), (4, .int x4), (5, .int x5), (6, .int x6), (7, .int x7), (8, .int x8), (10, .int x10)] [] (mH h s) Q) (hrc2 : ∀ {Q : Option Value → zz_H → Prop} {x4 : Int32} {x5 : Int32} {x6 : Int32} {x7 : Int32} {x8 : Int32} {x9 : Int32} {x10 : Int32} {s s' : mS} {v : Option Value}, rc 2 x10 x4 x5 x6 x7 x8 x9 s = some (s', v) → Q v (mH h s') → zz_E zp_P zt_tf zt_fd X (d + 2) zm_75 99 [(0, .ref 61), (4, .int x4), (5, .int x5), (6, .int x6), (7, .int x7), (8, .int x8), (9, .int x9), (10, .int x10)] [] (mH h s) Q) {Q : Option Value → zz_H → Prop} {x4 : Int32} {x5 : Int32} {x6 : Int32} {x7 : Int32} {x8 : Int32} {x10 : Int32} {x11 : Int32} {y1 : Int32} {y2 : Int32} {s s' : mS} {v : Option Value} (hf : mf_75_243 N rc x4 x5 x6 x7 x8 x10 x11 y1 y2 s = some (s', v)) (k : Q v (mH h s')) : zz_E zp_P zt_tf zt_fd X (d + 2) zm_75 243 [(0, .ref 61), (4, .int x4), (5, .int x5), (6, .int x6), (7, .int x7), (8, .int x8), (10, .int x10), (11, .int x11)] [.int y2, .int y1, .ref 89] (mH h s) Q := by
  unfold mf_75_243 at hf
  obtain ⟨q0, hf⟩ := mo_if hf
  obtain ⟨s1, y, e, hf⟩ := mo_bi_ok hf
  exact mb_75_243 (d := d + 1) hh q0 (mr_300 (d := d + 0) hh e (mr_75_258 hh hrc0 hrc1 hrc2 hf k))
def mf_75_237 (N : Nat) (rc : Nat → Int32 → Int32 → Int32 → Int32 → Int32 → Int32 → Int32 → mS → mO) (x4 : Int32) (x5 : Int32) (x6 : Int32) (x7 : Int32) (x8 : Int32) (x10 : Int32) (x11 : Int32) (y1 : Int32) (s : mS) : mO := mf_75_243 N rc x4 x5 x6 x7 x8 x10 x11 y1 (3 + (2 * x10)) s
theorem mr_75_237 {X : Nat → Option zz_C} {h : zz_H} (hh : 111 ≤ h.length) {d : Nat} {N : Nat} {rc : Nat → Int32 → Int32 → Int32 → Int32 → Int32 → Int32 → Int32 → mS → mO} (hrc0 : ∀ {Q : Option Value → zz_H → Prop} {x4 : Int32} {x5 : Int32} {x6 : Int32} {s s' : mS} {v : Option Value}, rc 0 0 x4 x5 x6 0 0 0 s = some (s', v) → Q v (mH h s') → zz_E zp_P zt_tf zt_fd X (d + 2) zm_75 63 [(0, .ref 61), (4, .int x4), (5, .int x5), (6, .int x6)] [] (mH h s) Q) (hrc1 : ∀ {Q : Option Value → zz_H → Prop} {x4 : Int32} {x5 : Int32} {x6 : Int32} {x7 : Int32} {x8 : Int32} {x10 : Int32} {s s' : mS} {v : Option Value}, rc 1 x10 x4 x5 x6 x7 x8 0 s = some (s', v) → Q v (mH h s') → zz_E zp_P zt_tf zt_fd X (d + 2) zm_75 135 [(0, .ref 61), (4, .int x4), (5, .int x5), (6, .int x6), (7, .int x7), (8, .int x8), (10, .int x10)] [] (mH h s) Q) (hrc2 : ∀ {Q : Option Value → zz_H → Prop} {x4 : Int32} {x5 : Int32} {x6 : Int32} {x7 : Int32} {x8 : Int32} {x9 : Int32} {x10 : Int32} {s s' : mS} {v : Option Value}, rc 2 x10 x4 x5 x6 x7 x8 x9 s = some (s', v) → Q v (mH h s') → zz_E zp_P zt_tf zt_fd X (d + 2) zm_75 99 [(0, .ref 61), (4, .int x4), (5, .int x5), (6, .int x6), (7, .int x7), (8, .int x8), (9, .int x9), (10, .int x10)] [] (mH h s) Q) {Q : Option Value → zz_H → Prop} {x4 : Int32} {x5 : Int32} {x6 : Int32} {x7 : Int32} {x8 : Int32} {x10 : Int32} {x11 : Int32} {y1 : Int32} {s s' : mS} {v : Option Value} (hf : mf_75_237 N rc x4 x5 x6 x7 x8 x10 x11 y1 s = some (s', v)) (k : Q v (mH h s')) : zz_E zp_P zt_tf zt_fd X (d + 2) zm_75 237 [(0, .ref 61), (4, .int x4), (5, .int x5), (6, .int x6), (7, .int x7), (8, .int x8), (10, .int x10), (11, .int x11)] [.int y1, .ref 89] (mH h s) Q := by
  unfold mf_75_237 at hf
  exact mb_75_237 hh  (mr_75_243 hh hrc0 hrc1 hrc2 hf k)
def mf_75_230 (N : Nat) (rc : Nat → Int32 → Int32 → Int32 → Int32 → Int32 → Int32 → Int32 → mS → mO) (x4 : Int32) (x5 : Int32) (x6 : Int32) (x7 : Int32) (x8 : Int32) (x10 : Int32) (x11 : Int32) (y1 : Int32) (s : mS) : mO := mf_75_243 N rc x4 x5 x6 x7 x8 x10 x11 y1 (2 + x10) s
theorem mr_75_230 {X : Nat → Option zz_C} {h : zz_H} (hh : 111 ≤ h.length) {d : Nat} {N : Nat} {rc : Nat → Int32 → Int32 → Int32 → Int32 → Int32 → Int32 → Int32 → mS → mO} (hrc0 : ∀ {Q : Option Value → zz_H → Prop} {x4 : Int32} {x5 : Int32} {x6 : Int32} {s s' : mS} {v : Option Value}, rc 0 0 x4 x5 x6 0 0 0 s = some (s', v) → Q v (mH h s') → zz_E zp_P zt_tf zt_fd X (d + 2) zm_75 63 [(0, .ref 61), (4, .int x4), (5, .int x5), (6, .int x6)] [] (mH h s) Q) (hrc1 : ∀ {Q : Option Value → zz_H → Prop} {x4 : Int32} {x5 : Int32} {x6 : Int32} {x7 : Int32} {x8 : Int32} {x10 : Int32} {s s' : mS} {v : Option Value}, rc 1 x10 x4 x5 x6 x7 x8 0 s = some (s', v) → Q v (mH h s') → zz_E zp_P zt_tf zt_fd X (d + 2) zm_75 135 [(0, .ref 61), (4, .int x4), (5, .int x5), (6, .int x6), (7, .int x7), (8, .int x8), (10, .int x10)] [] (mH h s) Q) (hrc2 : ∀ {Q : Option Value → zz_H → Prop} {x4 : Int32} {x5 : Int32} {x6 : Int32} {x7 : Int32} {x8 : Int32} {x9 : Int32} {x10 : Int32} {s s' : mS} {v : Option Value}, rc 2 x10 x4 x5 x6 x7 x8 x9 s = some (s', v) → Q v (mH h s') → zz_E zp_P zt_tf zt_fd X (d + 2) zm_75 99 [(0, .ref 61), (4, .int x4), (5, .int x5), (6, .int x6), (7, .int x7), (8, .int x8), (9, .int x9), (10, .int x10)] [] (mH h s) Q) {Q : Option Value → zz_H → Prop} {x4 : Int32} {x5 : Int32} {x6 : Int32} {x7 : Int32} {x8 : Int32} {x10 : Int32} {x11 : Int32} {y1 : Int32} {s s' : mS} {v : Option Value} (hf : mf_75_230 N rc x4 x5 x6 x7 x8 x10 x11 y1 s = some (s', v)) (k : Q v (mH h s')) : zz_E zp_P zt_tf zt_fd X (d + 2) zm_75 230 [(0, .ref 61), (4, .int x4), (5, .int x5), (6, .int x6), (7, .int x7), (8, .int x8), (10, .int x10), (11, .int x11)] [.int y1, .ref 89] (mH h s) Q := by
  unfold mf_75_230 at hf
  exact mb_75_230 hh  (mr_75_243 hh hrc0 hrc1 hrc2 hf k)
def mf_75_190 (N : Nat) (rc : Nat → Int32 → Int32 → Int32 → Int32 → Int32 → Int32 → Int32 → mS → mO) (x4 : Int32) (x5 : Int32) (x6 : Int32) (x7 : Int32) (x8 : Int32) (x10 : Int32) (y0 : Int32) (s : mS) : mO := if ¬ (x4 < 0 ∨ 700 ≤ Int32.toNatClampNeg x4) then (if ¬ (x4 < 0 ∨ 700 ≤ Int32.toNatClampNeg x4) then (if ¬ (x7 < 0 ∨ 166300 ≤ Int32.toNatClampNeg x7) then (if ¬ ((s.2.2.1 47) (Int32.toNatClampNeg x7)) = 2 then mf_75_237 N rc (x4 + 1) x5 x6 x7 x8 x10 y0 x8 (mA (mA s 58 (upd (s.2.2.1 58) (Int32.toNatClampNeg x4) y0)) 59 (upd (s.2.2.1 59) (Int32.toNatClampNeg x4) x5)) else mf_75_230 N rc (x4 + 1) x5 x6 x7 x8 x10 y0 x8 (mA (mA s 58 (upd (s.2.2.1 58) (Int32.toNatClampNeg x4) y0)) 59 (upd (s.2.2.1 59) (Int32.toNatClampNeg x4) x5))) else none) else none) else none
theorem mr_75_190 {X : Nat → Option zz_C} {h : zz_H} (hh : 111 ≤ h.length) {d : Nat} {N : Nat} {rc : Nat → Int32 → Int32 → Int32 → Int32 → Int32 → Int32 → Int32 → mS → mO} (hrc0 : ∀ {Q : Option Value → zz_H → Prop} {x4 : Int32} {x5 : Int32} {x6 : Int32} {s s' : mS} {v : Option Value}, rc 0 0 x4 x5 x6 0 0 0 s = some (s', v) → Q v (mH h s') → zz_E zp_P zt_tf zt_fd X (d + 2) zm_75 63 [(0, .ref 61), (4, .int x4), (5, .int x5), (6, .int x6)] [] (mH h s) Q) (hrc1 : ∀ {Q : Option Value → zz_H → Prop} {x4 : Int32} {x5 : Int32} {x6 : Int32} {x7 : Int32} {x8 : Int32} {x10 : Int32} {s s' : mS} {v : Option Value}, rc 1 x10 x4 x5 x6 x7 x8 0 s = some (s', v) → Q v (mH h s') → zz_E zp_P zt_tf zt_fd X (d + 2) zm_75 135 [(0, .ref 61), (4, .int x4), (5, .int x5), (6, .int x6), (7, .int x7), (8, .int x8), (10, .int x10)] [] (mH h s) Q) (hrc2 : ∀ {Q : Option Value → zz_H → Prop} {x4 : Int32} {x5 : Int32} {x6 : Int32} {x7 : Int32} {x8 : Int32} {x9 : Int32} {x10 : Int32} {s s' : mS} {v : Option Value}, rc 2 x10 x4 x5 x6 x7 x8 x9 s = some (s', v) → Q v (mH h s') → zz_E zp_P zt_tf zt_fd X (d + 2) zm_75 99 [(0, .ref 61), (4, .int x4), (5, .int x5), (6, .int x6), (7, .int x7), (8, .int x8), (9, .int x9), (10, .int x10)] [] (mH h s) Q) {Q : Option Value → zz_H → Prop} {x4 : Int32} {x5 : Int32} {x6 : Int32} {x7 : Int32} {x8 : Int32} {x10 : Int32} {y0 : Int32} {s s' : mS} {v : Option Value} (hf : mf_75_190 N rc x4 x5 x6 x7 x8 x10 y0 s = some (s', v)) (k : Q v (mH h s')) : zz_E zp_P zt_tf zt_fd X (d + 2) zm_75 190 [(0, .ref 61), (4, .int x4), (5, .int x5), (6, .int x6), (7, .int x7), (8, .int x8), (10, .int x10)] [.int y0] (mH h s) Q := by
  unfold mf_75_190 at hf
  obtain ⟨q0, hf⟩ := mo_if hf
  obtain ⟨q1, hf⟩ := mo_if hf
  obtain ⟨q2, hf⟩ := mo_if hf
  refine mb_75_190 hh q0 q1 q2 (fun c => ?_) (fun c => ?_)
  · rw [if_pos c] at hf
    exact mr_75_237 hh hrc0 hrc1 hrc2 hf k
  · rw [if_neg c] at hf
    exact mr_75_230 hh hrc0 hrc1 hrc2 hf k
def mf_75_182 (N : Nat) (rc : Nat → Int32 → Int32 → Int32 → Int32 → Int32 → Int32 → Int32 → mS → mO) (x4 : Int32) (x5 : Int32) (x6 : Int32) (x7 : Int32) (x8 : Int32) (x10 : Int32) (s : mS) : mO := mo_bi (mf_294 N x7 x10 s) (fun s1 y => mf_75_190 N rc x4 x5 x6 x7 x8 x10 y s1)
theorem mr_75_182 {X : Nat → Option zz_C} {h : zz_H} (hh : 111 ≤ h.length) {d : Nat} {N : Nat} {rc : Nat → Int32 → Int32 → Int32 → Int32 → Int32 → Int32 → Int32 → mS → mO} (hrc0 : ∀ {Q : Option Value → zz_H → Prop} {x4 : Int32} {x5 : Int32} {x6 : Int32} {s s' : mS} {v : Option Value}, rc 0 0 x4 x5 x6 0 0 0 s = some (s', v) → Q v (mH h s') → zz_E zp_P zt_tf zt_fd X (d + 2) zm_75 63 [(0, .ref 61), (4, .int x4), (5, .int x5), (6, .int x6)] [] (mH h s) Q) (hrc1 : ∀ {Q : Option Value → zz_H → Prop} {x4 : Int32} {x5 : Int32} {x6 : Int32} {x7 : Int32} {x8 : Int32} {x10 : Int32} {s s' : mS} {v : Option Value}, rc 1 x10 x4 x5 x6 x7 x8 0 s = some (s', v) → Q v (mH h s') → zz_E zp_P zt_tf zt_fd X (d + 2) zm_75 135 [(0, .ref 61), (4, .int x4), (5, .int x5), (6, .int x6), (7, .int x7), (8, .int x8), (10, .int x10)] [] (mH h s) Q) (hrc2 : ∀ {Q : Option Value → zz_H → Prop} {x4 : Int32} {x5 : Int32} {x6 : Int32} {x7 : Int32} {x8 : Int32} {x9 : Int32} {x10 : Int32} {s s' : mS} {v : Option Value}, rc 2 x10 x4 x5 x6 x7 x8 x9 s = some (s', v) → Q v (mH h s') → zz_E zp_P zt_tf zt_fd X (d + 2) zm_75 99 [(0, .ref 61), (4, .int x4), (5, .int x5), (6, .int x6), (7, .int x7), (8, .int x8), (9, .int x9), (10, .int x10)] [] (mH h s) Q) {Q : Option Value → zz_H → Prop} {x4 : Int32} {x5 : Int32} {x6 : Int32} {x7 : Int32} {x8 : Int32} {x10 : Int32} {s s' : mS} {v : Option Value} (hf : mf_75_182 N rc x4 x5 x6 x7 x8 x10 s = some (s', v)) (k : Q v (mH h s')) : zz_E zp_P zt_tf zt_fd X (d + 2) zm_75 182 [(0, .ref 61), (4, .int x4), (5, .int x5), (6, .int x6), (7, .int x7), (8, .int x8), (10, .int x10)] [] (mH h s) Q := by
  unfold mf_75_182 at hf
  obtain ⟨s1, y, e, hf⟩ := mo_bi_ok hf
  exact mb_75_182 (d := d + 1) hh  (mr_294 (d := d + 1) hh e (mr_75_190 hh hrc0 hrc1 hrc2 hf k))
def mf_75_176 (N : Nat) (rc : Nat → Int32 → Int32 → Int32 → Int32 → Int32 → Int32 → Int32 → mS → mO) (x4 : Int32) (x5 : Int32) (x6 : Int32) (x7 : Int32) (x8 : Int32) (x10 : Int32) (y0 : Int32) (s : mS) : mO := if y0 = 0 then mf_75_182 N rc x4 x5 x6 x7 x8 x10 s else mf_75_179 N rc x4 x5 x6 x7 x8 x10 s
theorem mr_75_176 {X : Nat → Option zz_C} {h : zz_H} (hh : 111 ≤ h.length) {d : Nat} {N : Nat} {rc : Nat → Int32 → Int32 → Int32 → Int32 → Int32 → Int32 → Int32 → mS → mO} (hrc0 : ∀ {Q : Option Value → zz_H → Prop} {x4 : Int32} {x5 : Int32} {x6 : Int32} {s s' : mS} {v : Option Value}, rc 0 0 x4 x5 x6 0 0 0 s = some (s', v) → Q v (mH h s') → zz_E zp_P zt_tf zt_fd X (d + 2) zm_75 63 [(0, .ref 61), (4, .int x4), (5, .int x5), (6, .int x6)] [] (mH h s) Q) (hrc1 : ∀ {Q : Option Value → zz_H → Prop} {x4 : Int32} {x5 : Int32} {x6 : Int32} {x7 : Int32} {x8 : Int32} {x10 : Int32} {s s' : mS} {v : Option Value}, rc 1 x10 x4 x5 x6 x7 x8 0 s = some (s', v) → Q v (mH h s') → zz_E zp_P zt_tf zt_fd X (d + 2) zm_75 135 [(0, .ref 61), (4, .int x4), (5, .int x5), (6, .int x6), (7, .int x7), (8, .int x8), (10, .int x10)] [] (mH h s) Q) (hrc2 : ∀ {Q : Option Value → zz_H → Prop} {x4 : Int32} {x5 : Int32} {x6 : Int32} {x7 : Int32} {x8 : Int32} {x9 : Int32} {x10 : Int32} {s s' : mS} {v : Option Value}, rc 2 x10 x4 x5 x6 x7 x8 x9 s = some (s', v) → Q v (mH h s') → zz_E zp_P zt_tf zt_fd X (d + 2) zm_75 99 [(0, .ref 61), (4, .int x4), (5, .int x5), (6, .int x6), (7, .int x7), (8, .int x8), (9, .int x9), (10, .int x10)] [] (mH h s) Q) {Q : Option Value → zz_H → Prop} {x4 : Int32} {x5 : Int32} {x6 : Int32} {x7 : Int32} {x8 : Int32} {x10 : Int32} {y0 : Int32} {s s' : mS} {v : Option Value} (hf : mf_75_176 N rc x4 x5 x6 x7 x8 x10 y0 s = some (s', v)) (k : Q v (mH h s')) : zz_E zp_P zt_tf zt_fd X (d + 2) zm_75 176 [(0, .ref 61), (4, .int x4), (5, .int x5), (6, .int x6), (7, .int x7), (8, .int x8), (10, .int x10)] [.int y0] (mH h s) Q := by
  unfold mf_75_176 at hf
  refine mb_75_176 hh  (fun c => ?_) (fun c => ?_)
  · rw [if_pos c] at hf
    exact mr_75_182 hh hrc0 hrc1 hrc2 hf k
  · rw [if_neg c] at hf
    exact mr_75_179 hh hrc0 hrc1 hrc2 hf k
def mf_75_168 (N : Nat) (rc : Nat → Int32 → Int32 → Int32 → Int32 → Int32 → Int32 → Int32 → mS → mO) (x4 : Int32) (x5 : Int32) (x6 : Int32) (x7 : Int32) (x8 : Int32) (x10 : Int32) (s : mS) : mO := mo_bi (mf_293 N x7 x10 s) (fun s1 y => mf_75_176 N rc x4 x5 x6 x7 x8 x10 y s1)
theorem mr_75_168 {X : Nat → Option zz_C} {h : zz_H} (hh : 111 ≤ h.length) {d : Nat} {N : Nat} {rc : Nat → Int32 → Int32 → Int32 → Int32 → Int32 → Int32 → Int32 → mS → mO} (hrc0 : ∀ {Q : Option Value → zz_H → Prop} {x4 : Int32} {x5 : Int32} {x6 : Int32} {s s' : mS} {v : Option Value}, rc 0 0 x4 x5 x6 0 0 0 s = some (s', v) → Q v (mH h s') → zz_E zp_P zt_tf zt_fd X (d + 2) zm_75 63 [(0, .ref 61), (4, .int x4), (5, .int x5), (6, .int x6)] [] (mH h s) Q) (hrc1 : ∀ {Q : Option Value → zz_H → Prop} {x4 : Int32} {x5 : Int32} {x6 : Int32} {x7 : Int32} {x8 : Int32} {x10 : Int32} {s s' : mS} {v : Option Value}, rc 1 x10 x4 x5 x6 x7 x8 0 s = some (s', v) → Q v (mH h s') → zz_E zp_P zt_tf zt_fd X (d + 2) zm_75 135 [(0, .ref 61), (4, .int x4), (5, .int x5), (6, .int x6), (7, .int x7), (8, .int x8), (10, .int x10)] [] (mH h s) Q) (hrc2 : ∀ {Q : Option Value → zz_H → Prop} {x4 : Int32} {x5 : Int32} {x6 : Int32} {x7 : Int32} {x8 : Int32} {x9 : Int32} {x10 : Int32} {s s' : mS} {v : Option Value}, rc 2 x10 x4 x5 x6 x7 x8 x9 s = some (s', v) → Q v (mH h s') → zz_E zp_P zt_tf zt_fd X (d + 2) zm_75 99 [(0, .ref 61), (4, .int x4), (5, .int x5), (6, .int x6), (7, .int x7), (8, .int x8), (9, .int x9), (10, .int x10)] [] (mH h s) Q) {Q : Option Value → zz_H → Prop} {x4 : Int32} {x5 : Int32} {x6 : Int32} {x7 : Int32} {x8 : Int32} {x10 : Int32} {s s' : mS} {v : Option Value} (hf : mf_75_168 N rc x4 x5 x6 x7 x8 x10 s = some (s', v)) (k : Q v (mH h s')) : zz_E zp_P zt_tf zt_fd X (d + 2) zm_75 168 [(0, .ref 61), (4, .int x4), (5, .int x5), (6, .int x6), (7, .int x7), (8, .int x8), (10, .int x10)] [] (mH h s) Q := by
  unfold mf_75_168 at hf
  obtain ⟨s1, y, e, hf⟩ := mo_bi_ok hf
  exact mb_75_168 (d := d + 1) hh  (mr_293 (d := d + 1) hh e (mr_75_176 hh hrc0 hrc1 hrc2 hf k))
def mf_75_157 (N : Nat) (rc : Nat → Int32 → Int32 → Int32 → Int32 → Int32 → Int32 → Int32 → mS → mO) (x4 : Int32) (x5 : Int32) (x6 : Int32) (x7 : Int32) (x8 : Int32) (x10 : Int32) (s : mS) : mO := if ¬ (x7 < 0 ∨ 166300 ≤ Int32.toNatClampNeg x7) then (if ¬ ((s.2.2.1 47) (Int32.toNatClampNeg x7)) = 3 then mf_75_182 N rc x4 x5 x6 x7 x8 x10 s else mf_75_168 N rc x4 x5 x6 x7 x8 x10 s) else none
theorem mr_75_157 {X : Nat → Option zz_C} {h : zz_H} (hh : 111 ≤ h.length) {d : Nat} {N : Nat} {rc : Nat → Int32 → Int32 → Int32 → Int32 → Int32 → Int32 → Int32 → mS → mO} (hrc0 : ∀ {Q : Option Value → zz_H → Prop} {x4 : Int32} {x5 : Int32} {x6 : Int32} {s s' : mS} {v : Option Value}, rc 0 0 x4 x5 x6 0 0 0 s = some (s', v) → Q v (mH h s') → zz_E zp_P zt_tf zt_fd X (d + 2) zm_75 63 [(0, .ref 61), (4, .int x4), (5, .int x5), (6, .int x6)] [] (mH h s) Q) (hrc1 : ∀ {Q : Option Value → zz_H → Prop} {x4 : Int32} {x5 : Int32} {x6 : Int32} {x7 : Int32} {x8 : Int32} {x10 : Int32} {s s' : mS} {v : Option Value}, rc 1 x10 x4 x5 x6 x7 x8 0 s = some (s', v) → Q v (mH h s') → zz_E zp_P zt_tf zt_fd X (d + 2) zm_75 135 [(0, .ref 61), (4, .int x4), (5, .int x5), (6, .int x6), (7, .int x7), (8, .int x8), (10, .int x10)] [] (mH h s) Q) (hrc2 : ∀ {Q : Option Value → zz_H → Prop} {x4 : Int32} {x5 : Int32} {x6 : Int32} {x7 : Int32} {x8 : Int32} {x9 : Int32} {x10 : Int32} {s s' : mS} {v : Option Value}, rc 2 x10 x4 x5 x6 x7 x8 x9 s = some (s', v) → Q v (mH h s') → zz_E zp_P zt_tf zt_fd X (d + 2) zm_75 99 [(0, .ref 61), (4, .int x4), (5, .int x5), (6, .int x6), (7, .int x7), (8, .int x8), (9, .int x9), (10, .int x10)] [] (mH h s) Q) {Q : Option Value → zz_H → Prop} {x4 : Int32} {x5 : Int32} {x6 : Int32} {x7 : Int32} {x8 : Int32} {x10 : Int32} {s s' : mS} {v : Option Value} (hf : mf_75_157 N rc x4 x5 x6 x7 x8 x10 s = some (s', v)) (k : Q v (mH h s')) : zz_E zp_P zt_tf zt_fd X (d + 2) zm_75 157 [(0, .ref 61), (4, .int x4), (5, .int x5), (6, .int x6), (7, .int x7), (8, .int x8), (10, .int x10)] [] (mH h s) Q := by
  unfold mf_75_157 at hf
  obtain ⟨q0, hf⟩ := mo_if hf
  refine mb_75_157 hh q0 (fun c => ?_) (fun c => ?_)
  · rw [if_pos c] at hf
    exact mr_75_182 hh hrc0 hrc1 hrc2 hf k
  · rw [if_neg c] at hf
    exact mr_75_168 hh hrc0 hrc1 hrc2 hf k
def mf_75_267 (N : Nat) (rc : Nat → Int32 → Int32 → Int32 → Int32 → Int32 → Int32 → Int32 → mS → mO) (x4 : Int32) (x5 : Int32) (x6 : Int32) (s : mS) : mO := rc 0 0 x4 x5 (x6 + 1) 0 0 0 s
theorem mr_75_267 {X : Nat → Option zz_C} {h : zz_H} (hh : 111 ≤ h.length) {d : Nat} {N : Nat} {rc : Nat → Int32 → Int32 → Int32 → Int32 → Int32 → Int32 → Int32 → mS → mO} (hrc0 : ∀ {Q : Option Value → zz_H → Prop} {x4 : Int32} {x5 : Int32} {x6 : Int32} {s s' : mS} {v : Option Value}, rc 0 0 x4 x5 x6 0 0 0 s = some (s', v) → Q v (mH h s') → zz_E zp_P zt_tf zt_fd X (d + 2) zm_75 63 [(0, .ref 61), (4, .int x4), (5, .int x5), (6, .int x6)] [] (mH h s) Q) (hrc1 : ∀ {Q : Option Value → zz_H → Prop} {x4 : Int32} {x5 : Int32} {x6 : Int32} {x7 : Int32} {x8 : Int32} {x10 : Int32} {s s' : mS} {v : Option Value}, rc 1 x10 x4 x5 x6 x7 x8 0 s = some (s', v) → Q v (mH h s') → zz_E zp_P zt_tf zt_fd X (d + 2) zm_75 135 [(0, .ref 61), (4, .int x4), (5, .int x5), (6, .int x6), (7, .int x7), (8, .int x8), (10, .int x10)] [] (mH h s) Q) (hrc2 : ∀ {Q : Option Value → zz_H → Prop} {x4 : Int32} {x5 : Int32} {x6 : Int32} {x7 : Int32} {x8 : Int32} {x9 : Int32} {x10 : Int32} {s s' : mS} {v : Option Value}, rc 2 x10 x4 x5 x6 x7 x8 x9 s = some (s', v) → Q v (mH h s') → zz_E zp_P zt_tf zt_fd X (d + 2) zm_75 99 [(0, .ref 61), (4, .int x4), (5, .int x5), (6, .int x6), (7, .int x7), (8, .int x8), (9, .int x9), (10, .int x10)] [] (mH h s) Q) {Q : Option Value → zz_H → Prop} {x4 : Int32} {x5 : Int32} {x6 : Int32} {s s' : mS} {v : Option Value} (hf : mf_75_267 N rc x4 x5 x6 s = some (s', v)) (k : Q v (mH h s')) : zz_E zp_P zt_tf zt_fd X (d + 2) zm_75 267 [(0, .ref 61), (4, .int x4), (5, .int x5), (6, .int x6)] [] (mH h s) Q := by
  unfold mf_75_267 at hf
  exact mb_75_267 hh  (hrc0 hf k)
def mf_75_146 (N : Nat) (rc : Nat → Int32 → Int32 → Int32 → Int32 → Int32 → Int32 → Int32 → mS → mO) (x4 : Int32) (x5 : Int32) (x6 : Int32) (x7 : Int32) (x8 : Int32) (x10 : Int32) (s : mS) : mO := if ¬ (x7 < 0 ∨ 166300 ≤ Int32.toNatClampNeg x7) then (if ((s.2.2.1 47) (Int32.toNatClampNeg x7)) = 1 then mf_75_267 N rc x4 x5 x6 s else mf_75_157 N rc x4 x5 x6 x7 x8 x10 s) else none
theorem mr_75_146 {X : Nat → Option zz_C} {h : zz_H} (hh : 111 ≤ h.length) {d : Nat} {N : Nat} {rc : Nat → Int32 → Int32 → Int32 → Int32 → Int32 → Int32 → Int32 → mS → mO} (hrc0 : ∀ {Q : Option Value → zz_H → Prop} {x4 : Int32} {x5 : Int32} {x6 : Int32} {s s' : mS} {v : Option Value}, rc 0 0 x4 x5 x6 0 0 0 s = some (s', v) → Q v (mH h s') → zz_E zp_P zt_tf zt_fd X (d + 2) zm_75 63 [(0, .ref 61), (4, .int x4), (5, .int x5), (6, .int x6)] [] (mH h s) Q) (hrc1 : ∀ {Q : Option Value → zz_H → Prop} {x4 : Int32} {x5 : Int32} {x6 : Int32} {x7 : Int32} {x8 : Int32} {x10 : Int32} {s s' : mS} {v : Option Value}, rc 1 x10 x4 x5 x6 x7 x8 0 s = some (s', v) → Q v (mH h s') → zz_E zp_P zt_tf zt_fd X (d + 2) zm_75 135 [(0, .ref 61), (4, .int x4), (5, .int x5), (6, .int x6), (7, .int x7), (8, .int x8), (10, .int x10)] [] (mH h s) Q) (hrc2 : ∀ {Q : Option Value → zz_H → Prop} {x4 : Int32} {x5 : Int32} {x6 : Int32} {x7 : Int32} {x8 : Int32} {x9 : Int32} {x10 : Int32} {s s' : mS} {v : Option Value}, rc 2 x10 x4 x5 x6 x7 x8 x9 s = some (s', v) → Q v (mH h s') → zz_E zp_P zt_tf zt_fd X (d + 2) zm_75 99 [(0, .ref 61), (4, .int x4), (5, .int x5), (6, .int x6), (7, .int x7), (8, .int x8), (9, .int x9), (10, .int x10)] [] (mH h s) Q) {Q : Option Value → zz_H → Prop} {x4 : Int32} {x5 : Int32} {x6 : Int32} {x7 : Int32} {x8 : Int32} {x10 : Int32} {s s' : mS} {v : Option Value} (hf : mf_75_146 N rc x4 x5 x6 x7 x8 x10 s = some (s', v)) (k : Q v (mH h s')) : zz_E zp_P zt_tf zt_fd X (d + 2) zm_75 146 [(0, .ref 61), (4, .int x4), (5, .int x5), (6, .int x6), (7, .int x7), (8, .int x8), (10, .int x10)] [] (mH h s) Q := by
  unfold mf_75_146 at hf
  obtain ⟨q0, hf⟩ := mo_if hf
  refine mb_75_146 hh q0 (fun c => ?_) (fun c => ?_)
  · rw [if_pos c] at hf
    exact mr_75_267 hh hrc0 hrc1 hrc2 hf k
  · rw [if_neg c] at hf
    exact mr_75_157 hh hrc0 hrc1 hrc2 hf k
def mf_75_143 (N : Nat) (rc : Nat → Int32 → Int32 → Int32 → Int32 → Int32 → Int32 → Int32 → mS → mO) (x4 : Int32) (x5 : Int32) (x6 : Int32) (x7 : Int32) (x8 : Int32) (x10 : Int32) (y0 : Int32) (y1 : Int32) (s : mS) : mO := if y1 ≤ y0 then mf_75_267 N rc x4 x5 x6 s else mf_75_146 N rc x4 x5 x6 x7 x8 x10 s
theorem mr_75_143 {X : Nat → Option zz_C} {h : zz_H} (hh : 111 ≤ h.length) {d : Nat} {N : Nat} {rc : Nat → Int32 → Int32 → Int32 → Int32 → Int32 → Int32 → Int32 → mS → mO} (hrc0 : ∀ {Q : Option Value → zz_H → Prop} {x4 : Int32} {x5 : Int32} {x6 : Int32} {s s' : mS} {v : Option Value}, rc 0 0 x4 x5 x6 0 0 0 s = some (s', v) → Q v (mH h s') → zz_E zp_P zt_tf zt_fd X (d + 2) zm_75 63 [(0, .ref 61), (4, .int x4), (5, .int x5), (6, .int x6)] [] (mH h s) Q) (hrc1 : ∀ {Q : Option Value → zz_H → Prop} {x4 : Int32} {x5 : Int32} {x6 : Int32} {x7 : Int32} {x8 : Int32} {x10 : Int32} {s s' : mS} {v : Option Value}, rc 1 x10 x4 x5 x6 x7 x8 0 s = some (s', v) → Q v (mH h s') → zz_E zp_P zt_tf zt_fd X (d + 2) zm_75 135 [(0, .ref 61), (4, .int x4), (5, .int x5), (6, .int x6), (7, .int x7), (8, .int x8), (10, .int x10)] [] (mH h s) Q) (hrc2 : ∀ {Q : Option Value → zz_H → Prop} {x4 : Int32} {x5 : Int32} {x6 : Int32} {x7 : Int32} {x8 : Int32} {x9 : Int32} {x10 : Int32} {s s' : mS} {v : Option Value}, rc 2 x10 x4 x5 x6 x7 x8 x9 s = some (s', v) → Q v (mH h s') → zz_E zp_P zt_tf zt_fd X (d + 2) zm_75 99 [(0, .ref 61), (4, .int x4), (5, .int x5), (6, .int x6), (7, .int x7), (8, .int x8), (9, .int x9), (10, .int x10)] [] (mH h s) Q) {Q : Option Value → zz_H → Prop} {x4 : Int32} {x5 : Int32} {x6 : Int32} {x7 : Int32} {x8 : Int32} {x10 : Int32} {y0 : Int32} {y1 : Int32} {s s' : mS} {v : Option Value} (hf : mf_75_143 N rc x4 x5 x6 x7 x8 x10 y0 y1 s = some (s', v)) (k : Q v (mH h s')) : zz_E zp_P zt_tf zt_fd X (d + 2) zm_75 143 [(0, .ref 61), (4, .int x4), (5, .int x5), (6, .int x6), (7, .int x7), (8, .int x8), (10, .int x10)] [.int y1, .int y0] (mH h s) Q := by
  unfold mf_75_143 at hf
  refine mb_75_143 hh  (fun c => ?_) (fun c => ?_)
  · rw [if_pos c] at hf
    exact mr_75_267 hh hrc0 hrc1 hrc2 hf k
  · rw [if_neg c] at hf
    exact mr_75_146 hh hrc0 hrc1 hrc2 hf k
def mf_75_135 (N : Nat) (rc : Nat → Int32 → Int32 → Int32 → Int32 → Int32 → Int32 → Int32 → mS → mO) (x4 : Int32) (x5 : Int32) (x6 : Int32) (x7 : Int32) (x8 : Int32) (x10 : Int32) (s : mS) : mO := mo_bi (mf_77 N x7 s) (fun s1 y => mf_75_143 N rc x4 x5 x6 x7 x8 x10 x10 y s1)
theorem mr_75_135 {X : Nat → Option zz_C} {h : zz_H} (hh : 111 ≤ h.length) {d : Nat} {N : Nat} {rc : Nat → Int32 → Int32 → Int32 → Int32 → Int32 → Int32 → Int32 → mS → mO} (hrc0 : ∀ {Q : Option Value → zz_H → Prop} {x4 : Int32} {x5 : Int32} {x6 : Int32} {s s' : mS} {v : Option Value}, rc 0 0 x4 x5 x6 0 0 0 s = some (s', v) → Q v (mH h s') → zz_E zp_P zt_tf zt_fd X (d + 2) zm_75 63 [(0, .ref 61), (4, .int x4), (5, .int x5), (6, .int x6)] [] (mH h s) Q) (hrc1 : ∀ {Q : Option Value → zz_H → Prop} {x4 : Int32} {x5 : Int32} {x6 : Int32} {x7 : Int32} {x8 : Int32} {x10 : Int32} {s s' : mS} {v : Option Value}, rc 1 x10 x4 x5 x6 x7 x8 0 s = some (s', v) → Q v (mH h s') → zz_E zp_P zt_tf zt_fd X (d + 2) zm_75 135 [(0, .ref 61), (4, .int x4), (5, .int x5), (6, .int x6), (7, .int x7), (8, .int x8), (10, .int x10)] [] (mH h s) Q) (hrc2 : ∀ {Q : Option Value → zz_H → Prop} {x4 : Int32} {x5 : Int32} {x6 : Int32} {x7 : Int32} {x8 : Int32} {x9 : Int32} {x10 : Int32} {s s' : mS} {v : Option Value}, rc 2 x10 x4 x5 x6 x7 x8 x9 s = some (s', v) → Q v (mH h s') → zz_E zp_P zt_tf zt_fd X (d + 2) zm_75 99 [(0, .ref 61), (4, .int x4), (5, .int x5), (6, .int x6), (7, .int x7), (8, .int x8), (9, .int x9), (10, .int x10)] [] (mH h s) Q) {Q : Option Value → zz_H → Prop} {x4 : Int32} {x5 : Int32} {x6 : Int32} {x7 : Int32} {x8 : Int32} {x10 : Int32} {s s' : mS} {v : Option Value} (hf : mf_75_135 N rc x4 x5 x6 x7 x8 x10 s = some (s', v)) (k : Q v (mH h s')) : zz_E zp_P zt_tf zt_fd X (d + 2) zm_75 135 [(0, .ref 61), (4, .int x4), (5, .int x5), (6, .int x6), (7, .int x7), (8, .int x8), (10, .int x10)] [] (mH h s) Q := by
  unfold mf_75_135 at hf
  obtain ⟨s1, y, e, hf⟩ := mo_bi_ok hf
  exact mb_75_135 (d := d + 1) hh  (mr_77 (d := d + 1) hh e (mr_75_143 hh hrc0 hrc1 hrc2 hf k))
def mf_75_132 (N : Nat) (rc : Nat → Int32 → Int32 → Int32 → Int32 → Int32 → Int32 → Int32 → mS → mO) (x4 : Int32) (x5 : Int32) (x6 : Int32) (x7 : Int32) (x8 : Int32) (s : mS) : mO := rc 1 0 x4 x5 x6 x7 x8 0 s
theorem mr_75_132 {X : Nat → Option zz_C} {h : zz_H} (hh : 111 ≤ h.length) {d : Nat} {N : Nat} {rc : Nat → Int32 → Int32 → Int32 → Int32 → Int32 → Int32 → Int32 → mS → mO} (hrc0 : ∀ {Q : Option Value → zz_H → Prop} {x4 : Int32} {x5 : Int32} {x6 : Int32} {s s' : mS} {v : Option Value}, rc 0 0 x4 x5 x6 0 0 0 s = some (s', v) → Q v (mH h s') → zz_E zp_P zt_tf zt_fd X (d + 2) zm_75 63 [(0, .ref 61), (4, .int x4), (5, .int x5), (6, .int x6)] [] (mH h s) Q) (hrc1 : ∀ {Q : Option Value → zz_H → Prop} {x4 : Int32} {x5 : Int32} {x6 : Int32} {x7 : Int32} {x8 : Int32} {x10 : Int32} {s s' : mS} {v : Option Value}, rc 1 x10 x4 x5 x6 x7 x8 0 s = some (s', v) → Q v (mH h s') → zz_E zp_P zt_tf zt_fd X (d + 2) zm_75 135 [(0, .ref 61), (4, .int x4), (5, .int x5), (6, .int x6), (7, .int x7), (8, .int x8), (10, .int x10)] [] (mH h s) Q) (hrc2 : ∀ {Q : Option Value → zz_H → Prop} {x4 : Int32} {x5 : Int32} {x6 : Int32} {x7 : Int32} {x8 : Int32} {x9 : Int32} {x10 : Int32} {s s' : mS} {v : Option Value}, rc 2 x10 x4 x5 x6 x7 x8 x9 s = some (s', v) → Q v (mH h s') → zz_E zp_P zt_tf zt_fd X (d + 2) zm_75 99 [(0, .ref 61), (4, .int x4), (5, .int x5), (6, .int x6), (7, .int x7), (8, .int x8), (9, .int x9), (10, .int x10)] [] (mH h s) Q) {Q : Option Value → zz_H → Prop} {x4 : Int32} {x5 : Int32} {x6 : Int32} {x7 : Int32} {x8 : Int32} {s s' : mS} {v : Option Value} (hf : mf_75_132 N rc x4 x5 x6 x7 x8 s = some (s', v)) (k : Q v (mH h s')) : zz_E zp_P zt_tf zt_fd X (d + 2) zm_75 132 [(0, .ref 61), (4, .int x4), (5, .int x5), (6, .int x6), (7, .int x7), (8, .int x8)] [] (mH h s) Q := by
  unfold mf_75_132 at hf
  exact mb_75_132 hh  (hrc1 hf k)
def mf_75_99 (N : Nat) (rc : Nat → Int32 → Int32 → Int32 → Int32 → Int32 → Int32 → Int32 → mS → mO) (x4 : Int32) (x5 : Int32) (x6 : Int32) (x7 : Int32) (x8 : Int32) (x9 : Int32) (x10 : Int32) (s : mS) : mO := if x9 ≤ x10 then mf_75_132 N rc x4 x5 x6 x7 x8 s else mf_75_106 N rc x4 x5 x6 x7 x8 x9 x10 s
theorem mr_75_99 {X : Nat → Option zz_C} {h : zz_H} (hh : 111 ≤ h.length) {d : Nat} {N : Nat} {rc : Nat → Int32 → Int32 → Int32 → Int32 → Int32 → Int32 → Int32 → mS → mO} (hrc0 : ∀ {Q : Option Value → zz_H → Prop} {x4 : Int32} {x5 : Int32} {x6 : Int32} {s s' : mS} {v : Option Value}, rc 0 0 x4 x5 x6 0 0 0 s = some (s', v) → Q v (mH h s') → zz_E zp_P zt_tf zt_fd X (d + 2) zm_75 63 [(0, .ref 61), (4, .int x4), (5, .int x5), (6, .int x6)] [] (mH h s) Q) (hrc1 : ∀ {Q : Option Value → zz_H → Prop} {x4 : Int32} {x5 : Int32} {x6 : Int32} {x7 : Int32} {x8 : Int32} {x10 : Int32} {s s' : mS} {v : Option Value}, rc 1 x10 x4 x5 x6 x7 x8 0 s = some (s', v) → Q v (mH h s') → zz_E zp_P zt_tf zt_fd X (d + 2) zm_75 135 [(0, .ref 61), (4, .int x4), (5, .int x5), (6, .int x6), (7, .int x7), (8, .int x8), (10, .int x10)] [] (mH h s) Q) (hrc2 : ∀ {Q : Option Value → zz_H → Prop} {x4 : Int32} {x5 : Int32} {x6 : Int32} {x7 : Int32} {x8 : Int32} {x9 : Int32} {x10 : Int32} {s s' : mS} {v : Option Value}, rc 2 x10 x4 x5 x6 x7 x8 x9 s = some (s', v) → Q v (mH h s') → zz_E zp_P zt_tf zt_fd X (d + 2) zm_75 99 [(0, .ref 61), (4, .int x4), (5, .int x5), (6, .int x6), (7, .int x7), (8, .int x8), (9, .int x9), (10, .int x10)] [] (mH h s) Q) {Q : Option Value → zz_H → Prop} {x4 : Int32} {x5 : Int32} {x6 : Int32} {x7 : Int32} {x8 : Int32} {x9 : Int32} {x10 : Int32} {s s' : mS} {v : Option Value} (hf : mf_75_99 N rc x4 x5 x6 x7 x8 x9 x10 s = some (s', v)) (k : Q v (mH h s')) : zz_E zp_P zt_tf zt_fd X (d + 2) zm_75 99 [(0, .ref 61), (4, .int x4), (5, .int x5), (6, .int x6), (7, .int x7), (8, .int x8), (9, .int x9), (10, .int x10)] [] (mH h s) Q := by
  unfold mf_75_99 at hf
  refine mb_75_99 hh  (fun c => ?_) (fun c => ?_)
  · rw [if_pos c] at hf
    exact mr_75_132 hh hrc0 hrc1 hrc2 hf k
  · rw [if_neg c] at hf
    exact mr_75_106 hh hrc0 hrc1 hrc2 hf k
def mf_75_94 (N : Nat) (rc : Nat → Int32 → Int32 → Int32 → Int32 → Int32 → Int32 → Int32 → mS → mO) (x4 : Int32) (x5 : Int32) (x6 : Int32) (x7 : Int32) (x8 : Int32) (y0 : Int32) (s : mS) : mO := rc 2 0 x4 x5 x6 x7 x8 y0 s
theorem mr_75_94 {X : Nat → Option zz_C} {h : zz_H} (hh : 111 ≤ h.length) {d : Nat} {N : Nat} {rc : Nat → Int32 → Int32 → Int32 → Int32 → Int32 → Int32 → Int32 → mS → mO} (hrc0 : ∀ {Q : Option Value → zz_H → Prop} {x4 : Int32} {x5 : Int32} {x6 : Int32} {s s' : mS} {v : Option Value}, rc 0 0 x4 x5 x6 0 0 0 s = some (s', v) → Q v (mH h s') → zz_E zp_P zt_tf zt_fd X (d + 2) zm_75 63 [(0, .ref 61), (4, .int x4), (5, .int x5), (6, .int x6)] [] (mH h s) Q) (hrc1 : ∀ {Q : Option Value → zz_H → Prop} {x4 : Int32} {x5 : Int32} {x6 : Int32} {x7 : Int32} {x8 : Int32} {x10 : Int32} {s s' : mS} {v : Option Value}, rc 1 x10 x4 x5 x6 x7 x8 0 s = some (s', v) → Q v (mH h s') → zz_E zp_P zt_tf zt_fd X (d + 2) zm_75 135 [(0, .ref 61), (4, .int x4), (5, .int x5), (6, .int x6), (7, .int x7), (8, .int x8), (10, .int x10)] [] (mH h s) Q) (hrc2 : ∀ {Q : Option Value → zz_H → Prop} {x4 : Int32} {x5 : Int32} {x6 : Int32} {x7 : Int32} {x8 : Int32} {x9 : Int32} {x10 : Int32} {s s' : mS} {v : Option Value}, rc 2 x10 x4 x5 x6 x7 x8 x9 s = some (s', v) → Q v (mH h s') → zz_E zp_P zt_tf zt_fd X (d + 2) zm_75 99 [(0, .ref 61), (4, .int x4), (5, .int x5), (6, .int x6), (7, .int x7), (8, .int x8), (9, .int x9), (10, .int x10)] [] (mH h s) Q) {Q : Option Value → zz_H → Prop} {x4 : Int32} {x5 : Int32} {x6 : Int32} {x7 : Int32} {x8 : Int32} {y0 : Int32} {s s' : mS} {v : Option Value} (hf : mf_75_94 N rc x4 x5 x6 x7 x8 y0 s = some (s', v)) (k : Q v (mH h s')) : zz_E zp_P zt_tf zt_fd X (d + 2) zm_75 94 [(0, .ref 61), (4, .int x4), (5, .int x5), (6, .int x6), (7, .int x7), (8, .int x8)] [.int y0] (mH h s) Q := by
  unfold mf_75_94 at hf
  exact mb_75_94 hh  (hrc2 hf k)
def mf_75_70 (N : Nat) (rc : Nat → Int32 → Int32 → Int32 → Int32 → Int32 → Int32 → Int32 → mS → mO) (x4 : Int32) (x5 : Int32) (x6 : Int32) (s : mS) : mO := if ¬ (x6 < 0 ∨ 700 ≤ Int32.toNatClampNeg x6) then (if ¬ (x6 < 0 ∨ 700 ≤ Int32.toNatClampNeg x6) then (mo_bi (mf_300 N ((s.2.2.1 58) (Int32.toNatClampNeg x6)) s) (fun s1 y => mf_75_94 N rc x4 x5 x6 ((s.2.2.1 58) (Int32.toNatClampNeg x6)) ((s.2.2.1 59) (Int32.toNatClampNeg x6)) y s1)) else none) else none
theorem mr_75_70 {X : Nat → Option zz_C} {h : zz_H} (hh : 111 ≤ h.length) {d : Nat} {N : Nat} {rc : Nat → Int32 → Int32 → Int32 → Int32 → Int32 → Int32 → Int32 → mS → mO} (hrc0 : ∀ {Q : Option Value → zz_H → Prop} {x4 : Int32} {x5 : Int32} {x6 : Int32} {s s' : mS} {v : Option Value}, rc 0 0 x4 x5 x6 0 0 0 s = some (s', v) → Q v (mH h s') → zz_E zp_P zt_tf zt_fd X (d + 2) zm_75 63 [(0, .ref 61), (4, .int x4), (5, .int x5), (6, .int x6)] [] (mH h s) Q) (hrc1 : ∀ {Q : Option Value → zz_H → Prop} {x4 : Int32} {x5 : Int32} {x6 : Int32} {x7 : Int32} {x8 : Int32} {x10 : Int32} {s s' : mS} {v : Option Value}, rc 1 x10 x4 x5 x6 x7 x8 0 s = some (s', v) → Q v (mH h s') → zz_E zp_P zt_tf zt_fd X (d + 2) zm_75 135 [(0, .ref 61), (4, .int x4), (5, .int x5), (6, .int x6), (7, .int x7), (8, .int x8), (10, .int x10)] [] (mH h s) Q) (hrc2 : ∀ {Q : Option Value → zz_H → Prop} {x4 : Int32} {x5 : Int32} {x6 : Int32} {x7 : Int32} {x8 : Int32} {x9 : Int32} {x10 : Int32} {s s' : mS} {v : Option Value}, rc 2 x10 x4 x5 x6 x7 x8 x9 s = some (s', v) → Q v (mH h s') → zz_E zp_P zt_tf zt_fd X (d + 2) zm_75 99 [(0, .ref 61), (4, .int x4), (5, .int x5), (6, .int x6), (7, .int x7), (8, .int x8), (9, .int x9), (10, .int x10)] [] (mH h s) Q) {Q : Option Value → zz_H → Prop} {x4 : Int32} {x5 : Int32} {x6 : Int32} {s s' : mS} {v : Option Value} (hf : mf_75_70 N rc x4 x5 x6 s = some (s', v)) (k : Q v (mH h s')) : zz_E zp_P zt_tf zt_fd X (d + 2) zm_75 70 [(0, .ref 61), (4, .int x4), (5, .int x5), (6, .int x6)] [] (mH h s) Q := by
  unfold mf_75_70 at hf
  obtain ⟨q0, hf⟩ := mo_if hf
  obtain ⟨q1, hf⟩ := mo_if hf
  obtain ⟨s1, y, e, hf⟩ := mo_bi_ok hf
  exact mb_75_70 (d := d + 1) hh q0 q1 (mr_300 (d := d + 0) hh e (mr_75_94 hh hrc0 hrc1 hrc2 hf k))
def mf_75_63 (N : Nat) (rc : Nat → Int32 → Int32 → Int32 → Int32 → Int32 → Int32 → Int32 → mS → mO) (x4 : Int32) (x5 : Int32) (x6 : Int32) (s : mS) : mO := if x4 ≤ x6 then mf_75_273 N  s else mf_75_70 N rc x4 x5 x6 s
theorem mr_75_63 {X : Nat → Option zz_C} {h : zz_H} (hh : 111 ≤ h.length) {d : Nat} {N : Nat} {rc : Nat → Int32 → Int32 → Int32 → Int32 → Int32 → Int32 → Int32 → mS → mO} (hrc0 : ∀ {Q : Option Value → zz_H → Prop} {x4 : Int32} {x5 : Int32} {x6 : Int32} {s s' : mS} {v : Option Value}, rc 0 0 x4 x5 x6 0 0 0 s = some (s', v) → Q v (mH h s') → zz_E zp_P zt_tf zt_fd X (d + 2) zm_75 63 [(0, .ref 61), (4, .int x4), (5, .int x5), (6, .int x6)] [] (mH h s) Q) (hrc1 : ∀ {Q : Option Value → zz_H → Prop} {x4 : Int32} {x5 : Int32} {x6 : Int32} {x7 : Int32} {x8 : Int32} {x10 : Int32} {s s' : mS} {v : Option Value}, rc 1 x10 x4 x5 x6 x7 x8 0 s = some (s', v) → Q v (mH h s') → zz_E zp_P zt_tf zt_fd X (d + 2) zm_75 135 [(0, .ref 61), (4, .int x4), (5, .int x5), (6, .int x6), (7, .int x7), (8, .int x8), (10, .int x10)] [] (mH h s) Q) (hrc2 : ∀ {Q : Option Value → zz_H → Prop} {x4 : Int32} {x5 : Int32} {x6 : Int32} {x7 : Int32} {x8 : Int32} {x9 : Int32} {x10 : Int32} {s s' : mS} {v : Option Value}, rc 2 x10 x4 x5 x6 x7 x8 x9 s = some (s', v) → Q v (mH h s') → zz_E zp_P zt_tf zt_fd X (d + 2) zm_75 99 [(0, .ref 61), (4, .int x4), (5, .int x5), (6, .int x6), (7, .int x7), (8, .int x8), (9, .int x9), (10, .int x10)] [] (mH h s) Q) {Q : Option Value → zz_H → Prop} {x4 : Int32} {x5 : Int32} {x6 : Int32} {s s' : mS} {v : Option Value} (hf : mf_75_63 N rc x4 x5 x6 s = some (s', v)) (k : Q v (mH h s')) : zz_E zp_P zt_tf zt_fd X (d + 2) zm_75 63 [(0, .ref 61), (4, .int x4), (5, .int x5), (6, .int x6)] [] (mH h s) Q := by
  unfold mf_75_63 at hf
  refine mb_75_63 hh  (fun c => ?_) (fun c => ?_)
  · rw [if_pos c] at hf
    exact mr_75_273 hh hf k
  · rw [if_neg c] at hf
    exact mr_75_70 hh hrc0 hrc1 hrc2 hf k
def mf_75_L1 (N : Nat) : Nat → Nat → Int32 → Int32 → Int32 → Int32 → Int32 → Int32 → Int32 → mS → mO
  | 0, _, _, _, _, _, _, _, _, _ => none
  | n + 1, l, x10, x4, x5, x6, x7, x8, x9, s => if l = 0 then mf_75_63 N (mf_75_L1 N n) x4 x5 x6 s else if l = 1 then mf_75_135 N (mf_75_L1 N n) x4 x5 x6 x7 x8 x10 s else if l = 2 then mf_75_99 N (mf_75_L1 N n) x4 x5 x6 x7 x8 x9 x10 s else none
theorem mr_75_L1 {X : Nat → Option zz_C} {h : zz_H} (hh : 111 ≤ h.length) {d : Nat} {N : Nat} : ∀ n : Nat, (∀ {Q : Option Value → zz_H → Prop} {x4 : Int32} {x5 : Int32} {x6 : Int32} {s s' : mS} {v : Option Value}, mf_75_L1 N n 0 0 x4 x5 x6 0 0 0 s = some (s', v) → Q v (mH h s') → zz_E zp_P zt_tf zt_fd X (d + 2) zm_75 63 [(0, .ref 61), (4, .int x4), (5, .int x5), (6, .int x6)] [] (mH h s) Q) ∧ (∀ {Q : Option Value → zz_H → Prop} {x4 : Int32} {x5 : Int32} {x6 : Int32} {x7 : Int32} {x8 : Int32} {x10 : Int32} {s s' : mS} {v : Option Value}, mf_75_L1 N n 1 x10 x4 x5 x6 x7 x8 0 s = some (s', v) → Q v (mH h s') → zz_E zp_P zt_tf zt_fd X (d + 2) zm_75 135 [(0, .ref 61), (4, .int x4), (5, .int x5), (6, .int x6), (7, .int x7), (8, .int x8), (10, .int x10)] [] (mH h s) Q) ∧ (∀ {Q : Option Value → zz_H → Prop} {x4 : Int32} {x5 : Int32} {x6 : Int32} {x7 : Int32} {x8 : Int32} {x9 : Int32} {x10 : Int32} {s s' : mS} {v : Option Value}, mf_75_L1 N n 2 x10 x4 x5 x6 x7 x8 x9 s = some (s', v) → Q v (mH h s') → zz_E zp_P zt_tf zt_fd X (d + 2) zm_75 99 [(0, .ref 61), (4, .int x4), (5, .int x5), (6, .int x6), (7, .int x7), (8, .int x8), (9, .int x9), (10, .int x10)] [] (mH h s) Q) := by
  intro n
  induction n with
  | zero => exact ⟨(fun hf _ => by cases hf), (fun hf _ => by cases hf), (fun hf _ => by cases hf)⟩
  | succ n ih =>
    obtain ⟨h0, h1, h2⟩ := ih
    refine ⟨?_, ?_, ?_⟩
    · intro Q _ _ _ s s' v hf k
      unfold mf_75_L1 at hf
      rw [if_pos rfl] at hf
      exact mr_75_63 hh h0 h1 h2 hf k
    · intro Q _ _ _ _ _ _ s s' v hf k
      unfold mf_75_L1 at hf
      rw [if_neg (by decide)] at hf
      rw [if_pos rfl] at hf
      exact mr_75_135 hh h0 h1 h2 hf k
    · intro Q _ _ _ _ _ _ _ s s' v hf k
      unfold mf_75_L1 at hf
      rw [if_neg (by decide)] at hf
      rw [if_neg (by decide)] at hf
      rw [if_pos rfl] at hf
      exact mr_75_99 hh h0 h1 h2 hf k
def mf_75_43 (N : Nat) (x2 : Int32) (x3 : Int32) (x4 : Int32) (y0 : Int32) (y1 : Int32) (s : mS) : mO := if ¬ ((0 : Int32) < 0 ∨ 700 ≤ Int32.toNatClampNeg (0 : Int32)) then (if ¬ ((0 : Int32) < 0 ∨ 700 ≤ Int32.toNatClampNeg (0 : Int32)) then (mf_75_L1 N N 0 0 x4 (y0 + y1) 0 0 0 0 (mA (mA s 58 (upd (s.2.2.1 58) (Int32.toNatClampNeg (0 : Int32)) x2)) 59 (upd (s.2.2.1 59) (Int32.toNatClampNeg (0 : Int32)) x3))) else none) else none
theorem mr_75_43 {X : Nat → Option zz_C} {h : zz_H} (hh : 111 ≤ h.length) {d : Nat} {N : Nat} {Q : Option Value → zz_H → Prop} {x2 : Int32} {x3 : Int32} {x4 : Int32} {y0 : Int32} {y1 : Int32} {s s' : mS} {v : Option Value} (hf : mf_75_43 N x2 x3 x4 y0 y1 s = some (s', v)) (k : Q v (mH h s')) : zz_E zp_P zt_tf zt_fd X (d + 2) zm_75 43 [(0, .ref 61), (2, .int x2), (3, .int x3), (4, .int x4)] [.int y1, .int y0] (mH h s) Q := by
  unfold mf_75_43 at hf
  obtain ⟨q0, hf⟩ := mo_if hf
  obtain ⟨q1, hf⟩ := mo_if hf
  exact mb_75_43 hh q0 q1 ((mr_75_L1 hh N).1 hf k)
def mf_75_34 (N : Nat) (x2 : Int32) (x3 : Int32) (s : mS) : mO := mo_bi (mf_300 N x2 s) (fun s1 y => mf_75_43 N x2 x3 1 x3 y s1)
theorem mr_75_34 {X : Nat → Option zz_C} {h : zz_H} (hh : 111 ≤ h.length) {d : Nat} {N : Nat} {Q : Option Value → zz_H → Prop} {x2 : Int32} {x3 : Int32} {s s' : mS} {v : Option Value} (hf : mf_75_34 N x2 x3 s = some (s', v)) (k : Q v (mH h s')) : zz_E zp_P zt_tf zt_fd X (d + 2) zm_75 34 [(0, .ref 61), (2, .int x2), (3, .int x3)] [] (mH h s) Q := by
  unfold mf_75_34 at hf
  obtain ⟨s1, y, e, hf⟩ := mo_bi_ok hf
  exact mb_75_34 (d := d + 1) hh  (mr_300 (d := d + 0) hh e (mr_75_43 hh hf k))
def mf_75_17 (N : Nat) (x2 : Int32) (x3 : Int32) (s : mS) : mO := if ¬ (x3 < 0 ∨ 166300 ≤ Int32.toNatClampNeg x3) then (if ¬ ((x3 + 1) < 0 ∨ 166300 ≤ Int32.toNatClampNeg (x3 + 1)) then (some ((mA (mA s 47 (upd (s.2.2.1 47) (Int32.toNatClampNeg x3) 0)) 47 (upd (upd (s.2.2.1 47) (Int32.toNatClampNeg x3) 0) (Int32.toNatClampNeg (x3 + 1)) x2)), none)) else none) else none
theorem mr_75_17 {X : Nat → Option zz_C} {h : zz_H} (hh : 111 ≤ h.length) {d : Nat} {N : Nat} {Q : Option Value → zz_H → Prop} {x2 : Int32} {x3 : Int32} {s s' : mS} {v : Option Value} (hf : mf_75_17 N x2 x3 s = some (s', v)) (k : Q v (mH h s')) : zz_E zp_P zt_tf zt_fd X (d + 2) zm_75 17 [(0, .ref 61), (2, .int x2), (3, .int x3)] [] (mH h s) Q := by
  unfold mf_75_17 at hf
  obtain ⟨q0, hf⟩ := mo_if hf
  obtain ⟨q1, hf⟩ := mo_if hf
  cases hf
  exact mb_75_17 hh q0 q1 k
def mf_75_13 (N : Nat) (x1 : Int32) (x2 : Int32) (x3 : Int32) (s : mS) : mO := if ¬ x1 = 0 then mf_75_34 N x2 x3 s else mf_75_17 N x2 x3 s
theorem mr_75_13 {X : Nat → Option zz_C} {h : zz_H} (hh : 111 ≤ h.length) {d : Nat} {N : Nat} {Q : Option Value → zz_H → Prop} {x1 : Int32} {x2 : Int32} {x3 : Int32} {s s' : mS} {v : Option Value} (hf : mf_75_13 N x1 x2 x3 s = some (s', v)) (k : Q v (mH h s')) : zz_E zp_P zt_tf zt_fd X (d + 2) zm_75 13 [(0, .ref 61), (1, .int x1), (2, .int x2), (3, .int x3)] [] (mH h s) Q := by
  unfold mf_75_13 at hf
  refine mb_75_13 hh  (fun c => ?_) (fun c => ?_)
  · rw [if_pos c] at hf
    exact mr_75_34 hh hf k
  · rw [if_neg c] at hf
    exact mr_75_17 hh hf k
def mf_75_5 (N : Nat) (x3 : Int32) (s : mS) : mO := if ¬ (x3 < 0 ∨ 166300 ≤ Int32.toNatClampNeg x3) then (some ((mA s 47 (upd (s.2.2.1 47) (Int32.toNatClampNeg x3) (-1))), none)) else none
theorem mr_75_5 {X : Nat → Option zz_C} {h : zz_H} (hh : 111 ≤ h.length) {d : Nat} {N : Nat} {Q : Option Value → zz_H → Prop} {x3 : Int32} {s s' : mS} {v : Option Value} (hf : mf_75_5 N x3 s = some (s', v)) (k : Q v (mH h s')) : zz_E zp_P zt_tf zt_fd X (d + 2) zm_75 5 [(0, .ref 61), (3, .int x3)] [] (mH h s) Q := by
  unfold mf_75_5 at hf
  obtain ⟨q0, hf⟩ := mo_if hf
  cases hf
  exact mb_75_5 hh q0 k
def mf_75_0 (N : Nat) (x1 : Int32) (x2 : Int32) (x3 : Int32) (s : mS) : mO := if ¬ x1 = 2 then mf_75_13 N x1 x2 x3 s else mf_75_5 N x3 s
theorem mr_75_0 {X : Nat → Option zz_C} {h : zz_H} (hh : 111 ≤ h.length) {d : Nat} {N : Nat} {Q : Option Value → zz_H → Prop} {x1 : Int32} {x2 : Int32} {x3 : Int32} {s s' : mS} {v : Option Value} (hf : mf_75_0 N x1 x2 x3 s = some (s', v)) (k : Q v (mH h s')) : zz_E zp_P zt_tf zt_fd X (d + 2) zm_75 0 [(0, .ref 61), (1, .int x1), (2, .int x2), (3, .int x3)] [] (mH h s) Q := by
  unfold mf_75_0 at hf
  refine mb_75_0 hh  (fun c => ?_) (fun c => ?_)
  · rw [if_pos c] at hf
    exact mr_75_13 hh hf k
  · rw [if_neg c] at hf
    exact mr_75_5 hh hf k
/-- lay -/
def mf_75 (N : Nat) (x1 : Int32) (x2 : Int32) (x3 : Int32) (s : mS) : mO := mf_75_0 N x1 x2 x3 s
theorem mr_75 {X : Nat → Option zz_C} {h : zz_H} (hh : 111 ≤ h.length) {d : Nat} {N : Nat} {Q : Option Value → zz_H → Prop} {x1 : Int32} {x2 : Int32} {x3 : Int32} {s s' : mS} {v : Option Value} (hf : mf_75 N x1 x2 x3 s = some (s', v)) (k : Q v (mH h s')) : zz_E zp_P zt_tf zt_fd X (d + 2) zm_75 0 [(0, .ref 61), (1, .int x1), (2, .int x2), (3, .int x3)] [] (mH h s) Q := by
  unfold mf_75 at hf
  exact zz_E.weak (mr_75_0 hh hf k) rfl ⟨rfl, rfl, rfl, rfl, trivial⟩
/-! copy (II)V -/
theorem mb_84_0 {X : Nat → Option zz_C} {h : zz_H} (hh : 111 ≤ h.length) {s : mS} {d : Nat} {Q : Option Value → zz_H → Prop} {x1 : Int32} {x2 : Int32} (i6 : ¬ (x1 < 0 ∨ 166300 ≤ Int32.toNatClampNeg x1)) (k1 : ¬ ((s.2.2.1 47) (Int32.toNatClampNeg x1)) = (-1) → zz_E zp_P zt_tf zt_fd X d zm_84 15 [(0, .ref 61), (1, .int x1), (2, .int x2)] [.ref 61] (mH h s) Q) (k2 : ¬ ¬ ((s.2.2.1 47) (Int32.toNatClampNeg x1)) = (-1) → zz_E zp_P zt_tf zt_fd X d zm_84 11 [(0, .ref 61), (1, .int x1), (2, .int x2)] [.ref 61] (mH h s) Q) : zz_E zp_P zt_tf zt_fd X d zm_84 0 [(0, .ref 61), (1, .int x1), (2, .int x2)] [] (mH h s) Q := by
  refine zz_E.n 1 rfl rfl rfl ?_
  refine zz_E.n 2 rfl rfl rfl ?_
  refine mE_g hh 5 (v := .ref 89) rfl rfl rfl ?_
  refine zz_E.n 6 rfl rfl rfl ?_
  refine mE_ia hh 7 28 (f := (s.2.2.1 47)) rfl (by decide) rfl rfl i6 rfl ?_
  refine zz_E.c 8 (.int (-1)) rfl rfl rfl rfl ?_
  refine zz_E.b2 15 11 (A := ¬ ((s.2.2.1 47) (Int32.toNatClampNeg x1)) = (-1)) rfl (zz_cond_ne _ _) (by decide) rfl rfl (fun c => ?_) (fun c => ?_)
  · exact zz_E.weak (k1 c) rfl ⟨rfl, rfl, rfl, trivial⟩
  · exact zz_E.weak (k2 c) rfl ⟨rfl, rfl, rfl, trivial⟩
theorem mb_84_11 {X : Nat → Option zz_C} {h : zz_H} (hh : 111 ≤ h.length) {s : mS} {d : Nat} {Q : Option Value → zz_H → Prop} {x1 : Int32} {x2 : Int32} (k : zz_E zp_P zt_tf zt_fd X d zm_84 29 [(0, .ref 61), (1, .int x1), (2, .int x2)] [.int 2, .ref 61] (mH h s) Q) : zz_E zp_P zt_tf zt_fd X d zm_84 11 [(0, .ref 61), (1, .int x1), (2, .int x2)] [.ref 61] (mH h s) Q := by
  refine zz_E.c 12 (.int 2) rfl rfl rfl rfl ?_
  refine zz_E.n 29 rfl rfl rfl ?_
  exact zz_E.weak k rfl ⟨rfl, rfl, rfl, trivial⟩
theorem mb_84_15 {X : Nat → Option zz_C} {h : zz_H} (hh : 111 ≤ h.length) {s : mS} {d : Nat} {Q : Option Value → zz_H → Prop} {x1 : Int32} {x2 : Int32} (i20 : ¬ (x1 < 0 ∨ 166300 ≤ Int32.toNatClampNeg x1)) (k1 : ¬ ((s.2.2.1 47) (Int32.toNatClampNeg x1)) = 0 → zz_E zp_P zt_tf zt_fd X d zm_84 28 [(0, .ref 61), (1, .int x1), (2, .int x2)] [.ref 61] (mH h s) Q) (k2 : ¬ ¬ ((s.2.2.1 47) (Int32.toNatClampNeg x1)) = 0 → zz_E zp_P zt_tf zt_fd X d zm_84 24 [(0, .ref 61), (1, .int x1), (2, .int x2)] [.ref 61] (mH h s) Q) : zz_E zp_P zt_tf zt_fd X d zm_84 15 [(0, .ref 61), (1, .int x1), (2, .int x2)] [.ref 61] (mH h s) Q := by
  refine zz_E.n 16 rfl rfl rfl ?_
  refine mE_g hh 19 (v := .ref 89) rfl rfl rfl ?_
  refine zz_E.n 20 rfl rfl rfl ?_
  refine mE_ia hh 21 28 (f := (s.2.2.1 47)) rfl (by decide) rfl rfl i20 rfl ?_
  refine zz_E.b1 28 24 (A := ¬ ((s.2.2.1 47) (Int32.toNatClampNeg x1)) = 0) rfl (zz_cond_ne _ _) (by decide) rfl rfl (fun c => ?_) (fun c => ?_)
  · exact zz_E.weak (k1 c) rfl ⟨rfl, rfl, rfl, trivial⟩
  · exact zz_E.weak (k2 c) rfl ⟨rfl, rfl, rfl, trivial⟩
theorem mb_84_24 {X : Nat → Option zz_C} {h : zz_H} (hh : 111 ≤ h.length) {s : mS} {d : Nat} {Q : Option Value → zz_H → Prop} {x1 : Int32} {x2 : Int32} (k : zz_E zp_P zt_tf zt_fd X d zm_84 29 [(0, .ref 61), (1, .int x1), (2, .int x2)] [.int 0, .ref 61] (mH h s) Q) : zz_E zp_P zt_tf zt_fd X d zm_84 24 [(0, .ref 61), (1, .int x1), (2, .int x2)] [.ref 61] (mH h s) Q := by
  refine zz_E.c 25 (.int 0) rfl rfl rfl rfl ?_
  refine zz_E.n 29 rfl rfl rfl ?_
  exact zz_E.weak k rfl ⟨rfl, rfl, rfl, trivial⟩
theorem mb_84_28 {X : Nat → Option zz_C} {h : zz_H} (hh : 111 ≤ h.length) {s : mS} {d : Nat} {Q : Option Value → zz_H → Prop} {x1 : Int32} {x2 : Int32} (k : zz_E zp_P zt_tf zt_fd X d zm_84 29 [(0, .ref 61), (1, .int x1), (2, .int x2)] [.int 1, .ref 61] (mH h s) Q) : zz_E zp_P zt_tf zt_fd X d zm_84 28 [(0, .ref 61), (1, .int x1), (2, .int x2)] [.ref 61] (mH h s) Q := by
  refine zz_E.c 29 (.int 1) rfl rfl rfl rfl ?_
  exact zz_E.weak k rfl ⟨rfl, rfl, rfl, trivial⟩
theorem mb_84_29 {X : Nat → Option zz_C} {h : zz_H} (hh : 111 ≤ h.length) {s : mS} {d : Nat} {Q : Option Value → zz_H → Prop} {x1 : Int32} {x2 : Int32} {y1 : Int32} (i34 : ¬ (x1 < 0 ∨ 166300 ≤ Int32.toNatClampNeg x1)) (k1 : ¬ ((s.2.2.1 47) (Int32.toNatClampNeg x1)) = 0 → zz_E zp_P zt_tf zt_fd X d zm_84 49 [(1, .int x1), (2, .int x2)] [.int y1, .ref 61] (mH h s) Q) (k2 : ¬ ¬ ((s.2.2.1 47) (Int32.toNatClampNeg x1)) = 0 → zz_E zp_P zt_tf zt_fd X d zm_84 38 [(0, .ref 61), (1, .int x1), (2, .int x2)] [.int y1, .ref 61] (mH h s) Q) : zz_E zp_P zt_tf zt_fd X d zm_84 29 [(0, .ref 61), (1, .int x1), (2, .int x2)] [.int y1, .ref 61] (mH h s) Q := by
  refine zz_E.n 30 rfl rfl rfl ?_
  refine mE_g hh 33 (v := .ref 89) rfl rfl rfl ?_
  refine zz_E.n 34 rfl rfl rfl ?_
  refine mE_ia hh 35 28 (f := (s.2.2.1 47)) rfl (by decide) rfl rfl i34 rfl ?_
  refine zz_E.b1 49 38 (A := ¬ ((s.2.2.1 47) (Int32.toNatClampNeg x1)) = 0) rfl (zz_cond_ne _ _) (by decide) rfl rfl (fun c => ?_) (fun c => ?_)
  · exact zz_E.weak (k1 c) rfl ⟨rfl, rfl, trivial⟩
  · exact zz_E.weak (k2 c) rfl ⟨rfl, rfl, rfl, trivial⟩
theorem mb_84_38 {X : Nat → Option zz_C} {h : zz_H} (hh : 111 ≤ h.length) {s : mS} {d : Nat} {Q : Option Value → zz_H → Prop} {x1 : Int32} {x2 : Int32} {y1 : Int32} (i45 : ¬ ((x1 + 1) < 0 ∨ 166300 ≤ Int32.toNatClampNeg (x1 + 1))) (k : zz_E zp_P zt_tf zt_fd X d zm_84 50 [(2, .int x2)] [.int ((s.2.2.1 47) (Int32.toNatClampNeg (x1 + 1))), .int y1, .ref 61] (mH h s) Q) : zz_E zp_P zt_tf zt_fd X d zm_84 38 [(0, .ref 61), (1, .int x1), (2, .int x2)] [.int y1, .ref 61] (mH h s) Q := by
  refine zz_E.n 39 rfl rfl rfl ?_
  refine mE_g hh 42 (v := .ref 89) rfl rfl rfl ?_
  refine zz_E.n 43 rfl rfl rfl ?_
  refine zz_E.c 44 (.int 1) rfl rfl rfl rfl ?_
  refine zz_E.n 45 rfl rfl rfl ?_
  refine mE_ia hh 46 28 (f := (s.2.2.1 47)) rfl (by decide) rfl rfl i45 rfl ?_
  refine zz_E.n 50 rfl rfl rfl ?_
  exact zz_E.weak k rfl ⟨rfl, trivial⟩
theorem mb_84_49 {X : Nat → Option zz_C} {h : zz_H} (hh : 111 ≤ h.length) {s : mS} {d : Nat} {Q : Option Value → zz_H → Prop} {x1 : Int32} {x2 : Int32} {y1 : Int32} (k : zz_E zp_P zt_tf zt_fd X d zm_84 50 [(2, .int x2)] [.int x1, .int y1, .ref 61] (mH h s) Q) : zz_E zp_P zt_tf zt_fd X d zm_84 49 [(1, .int x1), (2, .int x2)] [.int y1, .ref 61] (mH h s) Q := by
  refine zz_E.n 50 rfl rfl rfl ?_
  exact zz_E.weak k rfl ⟨rfl, trivial⟩
theorem mb_84_50 {X : Nat → Option zz_C} {h : zz_H} (hh : 111 ≤ h.length) {s : mS} {d : Nat} {Q : Option Value → zz_H → Prop} {x2 : Int32} {y1 : Int32} {y2 : Int32} (k : zz_E zp_P zt_tf zt_fd X d zm_75 0 [(0, .ref 61), (1, .int y1), (2, .int y2), (3, .int x2)] [] (mH h s) (fun v h' => zz_E zp_P zt_tf zt_fd X (d + 1) zm_84 54 [] (v.toList ++ []) h' Q)) : zz_E zp_P zt_tf zt_fd X (d + 1) zm_84 50 [(2, .int x2)] [.int y2, .int y1, .ref 61] (mH h s) Q := by
  refine zz_E.n 51 rfl rfl rfl ?_
  refine mE_cv hh 54 (as := []) rfl rfl (Nat.le_of_ble_eq_true rfl) (Nat.le_of_ble_eq_true rfl) rfl (Nat.le_of_ble_eq_true rfl) rfl ?_
  refine zz_E.mono k ?_
  intro v h' hE
  exact zz_E.weak hE rfl trivial
theorem mb_84_54 {X : Nat → Option zz_C} {h : zz_H} (hh : 111 ≤ h.length) {s : mS} {d : Nat} {Q : Option Value → zz_H → Prop}  (k : Q none (mH h s)) : zz_E zp_P zt_tf zt_fd X d zm_84 54 [] [] (mH h s) Q := by
  refine zz_E.ret rfl rfl rfl ?_
  exact k
def mf_84_54 (N : Nat)  (s : mS) : mO := some (s, none)
theorem mr_84_54 {X : Nat → Option zz_C} {h : zz_H} (hh : 111 ≤ h.length) {d : Nat} {N : Nat} {Q : Option Value → zz_H → Prop}  {s s' : mS} {v : Option Value} (hf : mf_84_54 N  s = some (s', v)) (k : Q v (mH h s')) : zz_E zp_P zt_tf zt_fd X (d + 3) zm_84 54 [] [] (mH h s) Q := by
  unfold mf_84_54 at hf
  cases hf
  exact mb_84_54 hh  k
def mf_84_50 (N : Nat) (x2 : Int32) (y1 : Int32) (y2 : Int32) (s : mS) : mO := mo_bv (mf_75 N y1 y2 x2 s) (fun s1 => mf_84_54 N  s1)
theorem mr_84_50 {X : Nat → Option zz_C} {h : zz_H} (hh : 111 ≤ h.length) {d : Nat} {N : Nat} {Q : Option Value → zz_H → Prop} {x2 : Int32} {y1 : Int32} {y2 : Int32} {s s' : mS} {v : Option Value} (hf : mf_84_50 N x2 y1 y2 s = some (s', v)) (k : Q v (mH h s')) : zz_E zp_P zt_tf zt_fd X (d + 3) zm_84 50 [(2, .int x2)] [.int y2, .int y1, .ref 61] (mH h s) Q := by
  unfold mf_84_50 at hf
  obtain ⟨s1, e, hf⟩ := mo_bv_ok hf
  exact mb_84_50 (d := d + 2) hh  (mr_75 (d := d + 0) hh e (mr_84_54 hh hf k))
def mf_84_49 (N : Nat) (x1 : Int32) (x2 : Int32) (y1 : Int32) (s : mS) : mO := mf_84_50 N x2 y1 x1 s
theorem mr_84_49 {X : Nat → Option zz_C} {h : zz_H} (hh : 111 ≤ h.length) {d : Nat} {N : Nat} {Q : Option Value → zz_H → Prop} {x1 : Int32} {x2 : Int32} {y1 : Int32} {s s' : mS} {v : Option Value} (hf : mf_84_49 N x1 x2 y1 s = some (s', v)) (k : Q v (mH h s')) : zz_E zp_P zt_tf zt_fd X (d + 3) zm_84 49 [(1, .int x1), (2, .int x2)] [.int y1, .ref 61] (mH h s) Q := by
  unfold mf_84_49 at hf
  exact mb_84_49 hh  (mr_84_50 hh hf k)
def mf_84_38 (N : Nat) (x1 : Int32) (x2 : Int32) (y1 : Int32) (s : mS) : mO := if ¬ ((x1 + 1) < 0 ∨ 166300 ≤ Int32.toNatClampNeg (x1 + 1)) then (mf_84_50 N x2 y1 ((s.2.2.1 47) (Int32.toNatClampNeg (x1 + 1))) s) else none
theorem mr_84_38 {X : Nat → Option zz_C} {h : zz_H} (hh : 111 ≤ h.length) {d : Nat} {N : Nat} {Q : Option Value → zz_H → Prop} {x1 : Int32} {x2 : Int32} {y1 : Int32} {s s' : mS} {v : Option Value} (hf : mf_84_38 N x1 x2 y1 s = some (s', v)) (k : Q v (mH h s')) : zz_E zp_P zt_tf zt_fd X (d + 3) zm_84 38 [(0, .ref 61), (1, .int x1), (2, .int x2)] [.int y1, .ref 61] (mH h s) Q := by
  unfold mf_84_38 at hf
  obtain ⟨q0, hf⟩ := mo_if hf
  exact mb_84_38 hh q0 (mr_84_50 hh hf k)
def mf_84_29 (N : Nat) (x1 : Int32) (x2 : Int32) (y1 : Int32) (s : mS) : mO := if ¬ (x1 < 0 ∨ 166300 ≤ Int32.toNatClampNeg x1) then (if ¬ ((s.2.2.1 47) (Int32.toNatClampNeg x1)) = 0 then mf_84_49 N x1 x2 y1 s else mf_84_38 N x1 x2 y1 s) else none
theorem mr_84_29 {X : Nat → Option zz_C} {h : zz_H} (hh : 111 ≤ h.length) {d : Nat} {N : Nat} {Q : Option Value → zz_H → Prop} {x1 : Int32} {x2 : Int32} {y1 : Int32} {s s' : mS} {v : Option Value} (hf : mf_84_29 N x1 x2 y1 s = some (s', v)) (k : Q v (mH h s')) : zz_E zp_P zt_tf zt_fd X (d + 3) zm_84 29 [(0, .ref 61), (1, .int x1), (2, .int x2)] [.int y1, .ref 61] (mH h s) Q := by
  unfold mf_84_29 at hf
  obtain ⟨q0, hf⟩ := mo_if hf
  refine mb_84_29 hh q0 (fun c => ?_) (fun c => ?_)
  · rw [if_pos c] at hf
    exact mr_84_49 hh hf k
  · rw [if_neg c] at hf
    exact mr_84_38 hh hf k
def mf_84_28 (N : Nat) (x1 : Int32) (x2 : Int32) (s : mS) : mO := mf_84_29 N x1 x2 1 s
theorem mr_84_28 {X : Nat → Option zz_C} {h : zz_H} (hh : 111 ≤ h.length) {d : Nat} {N : Nat} {Q : Option Value → zz_H → Prop} {x1 : Int32} {x2 : Int32} {s s' : mS} {v : Option Value} (hf : mf_84_28 N x1 x2 s = some (s', v)) (k : Q v (mH h s')) : zz_E zp_P zt_tf zt_fd X (d + 3) zm_84 28 [(0, .ref 61), (1, .int x1), (2, .int x2)] [.ref 61] (mH h s) Q := by
  unfold mf_84_28 at hf
  exact mb_84_28 hh  (mr_84_29 hh hf k)
def mf_84_24 (N : Nat) (x1 : Int32) (x2 : Int32) (s : mS) : mO := mf_84_29 N x1 x2 0 s
theorem mr_84_24 {X : Nat → Option zz_C} {h : zz_H} (hh : 111 ≤ h.length) {d : Nat} {N : Nat} {Q : Option Value → zz_H → Prop} {x1 : Int32} {x2 : Int32} {s s' : mS} {v : Option Value} (hf : mf_84_24 N x1 x2 s = some (s', v)) (k : Q v (mH h s')) : zz_E zp_P zt_tf zt_fd X (d + 3) zm_84 24 [(0, .ref 61), (1, .int x1), (2, .int x2)] [.ref 61] (mH h s) Q := by
  unfold mf_84_24 at hf
  exact mb_84_24 hh  (mr_84_29 hh hf k)
def mf_84_15 (N : Nat) (x1 : Int32) (x2 : Int32) (s : mS) : mO := if ¬ (x1 < 0 ∨ 166300 ≤ Int32.toNatClampNeg x1) then (if ¬ ((s.2.2.1 47) (Int32.toNatClampNeg x1)) = 0 then mf_84_28 N x1 x2 s else mf_84_24 N x1 x2 s) else none
theorem mr_84_15 {X : Nat → Option zz_C} {h : zz_H} (hh : 111 ≤ h.length) {d : Nat} {N : Nat} {Q : Option Value → zz_H → Prop} {x1 : Int32} {x2 : Int32} {s s' : mS} {v : Option Value} (hf : mf_84_15 N x1 x2 s = some (s', v)) (k : Q v (mH h s')) : zz_E zp_P zt_tf zt_fd X (d + 3) zm_84 15 [(0, .ref 61), (1, .int x1), (2, .int x2)] [.ref 61] (mH h s) Q := by
  unfold mf_84_15 at hf
  obtain ⟨q0, hf⟩ := mo_if hf
  refine mb_84_15 hh q0 (fun c => ?_) (fun c => ?_)
  · rw [if_pos c] at hf
    exact mr_84_28 hh hf k
  · rw [if_neg c] at hf
    exact mr_84_24 hh hf k
def mf_84_11 (N : Nat) (x1 : Int32) (x2 : Int32) (s : mS) : mO := mf_84_29 N x1 x2 2 s
theorem mr_84_11 {X : Nat → Option zz_C} {h : zz_H} (hh : 111 ≤ h.length) {d : Nat} {N : Nat} {Q : Option Value → zz_H → Prop} {x1 : Int32} {x2 : Int32} {s s' : mS} {v : Option Value} (hf : mf_84_11 N x1 x2 s = some (s', v)) (k : Q v (mH h s')) : zz_E zp_P zt_tf zt_fd X (d + 3) zm_84 11 [(0, .ref 61), (1, .int x1), (2, .int x2)] [.ref 61] (mH h s) Q := by
  unfold mf_84_11 at hf
  exact mb_84_11 hh  (mr_84_29 hh hf k)
def mf_84_0 (N : Nat) (x1 : Int32) (x2 : Int32) (s : mS) : mO := if ¬ (x1 < 0 ∨ 166300 ≤ Int32.toNatClampNeg x1) then (if ¬ ((s.2.2.1 47) (Int32.toNatClampNeg x1)) = (-1) then mf_84_15 N x1 x2 s else mf_84_11 N x1 x2 s) else none
theorem mr_84_0 {X : Nat → Option zz_C} {h : zz_H} (hh : 111 ≤ h.length) {d : Nat} {N : Nat} {Q : Option Value → zz_H → Prop} {x1 : Int32} {x2 : Int32} {s s' : mS} {v : Option Value} (hf : mf_84_0 N x1 x2 s = some (s', v)) (k : Q v (mH h s')) : zz_E zp_P zt_tf zt_fd X (d + 3) zm_84 0 [(0, .ref 61), (1, .int x1), (2, .int x2)] [] (mH h s) Q := by
  unfold mf_84_0 at hf
  obtain ⟨q0, hf⟩ := mo_if hf
  refine mb_84_0 hh q0 (fun c => ?_) (fun c => ?_)
  · rw [if_pos c] at hf
    exact mr_84_15 hh hf k
  · rw [if_neg c] at hf
    exact mr_84_11 hh hf k
/-- copy -/
def mf_84 (N : Nat) (x1 : Int32) (x2 : Int32) (s : mS) : mO := mf_84_0 N x1 x2 s
theorem mr_84 {X : Nat → Option zz_C} {h : zz_H} (hh : 111 ≤ h.length) {d : Nat} {N : Nat} {Q : Option Value → zz_H → Prop} {x1 : Int32} {x2 : Int32} {s s' : mS} {v : Option Value} (hf : mf_84 N x1 x2 s = some (s', v)) (k : Q v (mH h s')) : zz_E zp_P zt_tf zt_fd X (d + 3) zm_84 0 [(0, .ref 61), (1, .int x1), (2, .int x2)] [] (mH h s) Q := by
  unfold mf_84 at hf
  exact zz_E.weak (mr_84_0 hh hf k) rfl ⟨rfl, rfl, rfl, trivial⟩
