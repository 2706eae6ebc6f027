/-! putAt (I)V -/
theorem mb_318_0 {X : Nat → Option zz_C} {h : zz_H} (hh : 111 ≤ h.length) {s : mS} {d : Nat} {Q : Option Value → zz_H → Prop} {x1 : Int32} (i5 : ¬ (x1 < 0 ∨ 8000 ≤ Int32.toNatClampNeg x1)) (k1 : ((s.2.2.1 25) (Int32.toNatClampNeg x1)) = (-1) → zz_E zp_P zt_tf zt_fd X d zm_318 14 [(0, .ref 61), (1, .int x1)] [] (mH h s) Q) (k2 : ¬ ((s.2.2.1 25) (Int32.toNatClampNeg x1)) = (-1) → zz_E zp_P zt_tf zt_fd X d zm_318 10 [(0, .ref 61), (1, .int x1)] [] (mH h s) Q) : zz_E zp_P zt_tf zt_fd X d zm_318 0 [(0, .ref 61), (1, .int x1)] [] (mH h s) Q := by
  refine zz_E.n 1 rfl rfl rfl ?_
  refine mE_g hh 4 (v := .ref 73) rfl rfl rfl ?_
  refine zz_E.n 5 rfl rfl rfl ?_
  refine mE_ia hh 6 12 (f := (s.2.2.1 25)) rfl (by decide) rfl rfl i5 rfl ?_
  refine zz_E.c 7 (.int (-1)) rfl rfl rfl rfl ?_
  refine zz_E.b2 14 10 (A := ((s.2.2.1 25) (Int32.toNatClampNeg x1)) = (-1)) rfl rfl (by decide) rfl rfl (fun c => ?_) (fun c => ?_)
  · exact zz_E.weak (k1 c) rfl ⟨rfl, rfl, trivial⟩
  · exact zz_E.weak (k2 c) rfl ⟨rfl, rfl, trivial⟩
theorem mb_318_10 {X : Nat → Option zz_C} {h : zz_H} (hh : 111 ≤ h.length) {s : mS} {d : Nat} {Q : Option Value → zz_H → Prop} {x1 : Int32} (k : zz_E zp_P zt_tf zt_fd X d zm_318 15 [(0, .ref 61), (1, .int x1)] [.int 1] (mH h s) Q) : zz_E zp_P zt_tf zt_fd X d zm_318 10 [(0, .ref 61), (1, .int x1)] [] (mH h s) Q := by
  refine zz_E.c 11 (.int 1) rfl rfl rfl rfl ?_
  refine zz_E.n 15 rfl rfl rfl ?_
  exact zz_E.weak k rfl ⟨rfl, rfl, trivial⟩
theorem mb_318_14 {X : Nat → Option zz_C} {h : zz_H} (hh : 111 ≤ h.length) {s : mS} {d : Nat} {Q : Option Value → zz_H → Prop} {x1 : Int32} (k : zz_E zp_P zt_tf zt_fd X d zm_318 15 [(0, .ref 61), (1, .int x1)] [.int 0] (mH h s) Q) : zz_E zp_P zt_tf zt_fd X d zm_318 14 [(0, .ref 61), (1, .int x1)] [] (mH h s) Q := by
  refine zz_E.c 15 (.int 0) rfl rfl rfl rfl ?_
  exact zz_E.weak k rfl ⟨rfl, rfl, trivial⟩
theorem mb_318_15 {X : Nat → Option zz_C} {h : zz_H} (hh : 111 ≤ h.length) {s : mS} {d : Nat} {Q : Option Value → zz_H → Prop} {x1 : Int32} {y0 : Int32} (i21 : ¬ (x1 < 0 ∨ 8000 ≤ Int32.toNatClampNeg x1)) (k1 : y0 = 0 → zz_E zp_P zt_tf zt_fd X d zm_318 44 [(0, .ref 61), (1, .int x1), (2, .int y0), (3, .int ((s.2.2.1 24) (Int32.toNatClampNeg x1))), (4, .int ((s.1 51) - 1))] [] (mH h s) Q) (k2 : ¬ y0 = 0 → zz_E zp_P zt_tf zt_fd X d zm_318 35 [(0, .ref 61), (1, .int x1), (2, .int y0), (3, .int ((s.2.2.1 24) (Int32.toNatClampNeg x1))), (4, .int ((s.1 51) - 1))] [] (mH h s) Q) : zz_E zp_P zt_tf zt_fd X d zm_318 15 [(0, .ref 61), (1, .int x1)] [.int y0] (mH h s) Q := by
  refine zz_E.n 16 rfl rfl rfl ?_
  refine zz_E.n 17 rfl rfl rfl ?_
  refine mE_g hh 20 (v := .ref 72) rfl rfl rfl ?_
  refine zz_E.n 21 rfl rfl rfl ?_
  refine mE_ia hh 22 11 (f := (s.2.2.1 24)) rfl (by decide) rfl rfl i21 rfl ?_
  refine zz_E.n 23 rfl rfl rfl ?_
  refine zz_E.n 24 rfl rfl rfl ?_
  refine mE_g hh 27 (v := .int (s.1 51)) rfl rfl rfl ?_
  refine zz_E.c 28 (.int 1) rfl rfl rfl rfl ?_
  refine zz_E.n 29 rfl rfl rfl ?_
  refine zz_E.n 31 rfl rfl rfl ?_
  refine zz_E.n 32 rfl rfl rfl ?_
  refine zz_E.b1 44 35 (A := y0 = 0) rfl rfl (by decide) rfl rfl (fun c => ?_) (fun c => ?_)
  · exact zz_E.weak (k1 c) rfl ⟨rfl, rfl, rfl, rfl, rfl, trivial⟩
  · exact zz_E.weak (k2 c) rfl ⟨rfl, rfl, rfl, rfl, rfl, trivial⟩
theorem mb_318_35 {X : Nat → Option zz_C} {h : zz_H} (hh : 111 ≤ h.length) {s : mS} {d : Nat} {Q : Option Value → zz_H → Prop} {x1 : Int32} {x2 : Int32} {x3 : Int32} {x4 : Int32} (k : zz_E zp_P zt_tf zt_fd X d zm_318 50 [(0, .ref 61), (1, .int x1), (2, .int x2), (3, .int x3), (4, .int x4)] [.int ((s.1 51) - 3)] (mH h s) Q) : zz_E zp_P zt_tf zt_fd X d zm_318 35 [(0, .ref 61), (1, .int x1), (2, .int x2), (3, .int x3), (4, .int x4)] [] (mH h s) Q := by
  refine zz_E.n 36 rfl rfl rfl ?_
  refine mE_g hh 39 (v := .int (s.1 51)) rfl rfl rfl ?_
  refine zz_E.c 40 (.int 3) rfl rfl rfl rfl ?_
  refine zz_E.n 41 rfl rfl rfl ?_
  refine zz_E.n 50 rfl rfl rfl ?_
  exact zz_E.weak k rfl ⟨rfl, rfl, rfl, rfl, rfl, trivial⟩
theorem mb_318_44 {X : Nat → Option zz_C} {h : zz_H} (hh : 111 ≤ h.length) {s : mS} {d : Nat} {Q : Option Value → zz_H → Prop} {x1 : Int32} {x2 : Int32} {x3 : Int32} {x4 : Int32} (k : zz_E zp_P zt_tf zt_fd X d zm_318 50 [(0, .ref 61), (1, .int x1), (2, .int x2), (3, .int x3), (4, .int x4)] [.int ((s.1 51) - 2)] (mH h s) Q) : zz_E zp_P zt_tf zt_fd X d zm_318 44 [(0, .ref 61), (1, .int x1), (2, .int x2), (3, .int x3), (4, .int x4)] [] (mH h s) Q := by
  refine zz_E.n 45 rfl rfl rfl ?_
  refine mE_g hh 48 (v := .int (s.1 51)) rfl rfl rfl ?_
  refine zz_E.c 49 (.int 2) rfl rfl rfl rfl ?_
  refine zz_E.n 50 rfl rfl rfl ?_
  exact zz_E.weak k rfl ⟨rfl, rfl, rfl, rfl, rfl, trivial⟩
theorem mb_318_50 {X : Nat → Option zz_C} {h : zz_H} (hh : 111 ≤ h.length) {s : mS} {d : Nat} {Q : Option Value → zz_H → Prop} {x1 : Int32} {x2 : Int32} {x3 : Int32} {x4 : Int32} {y0 : Int32} (k : zz_E zp_P zt_tf zt_fd X d zm_308 0 [(0, .ref 61), (1, .int x3)] [] (mH h (mI s 51 y0)) (fun v h' => zz_E zp_P zt_tf zt_fd X (d + 1) zm_318 63 [(0, .ref 61), (1, .int x1), (2, .int x2), (3, .int x3), (4, .int x4), (5, .int y0)] (v.toList ++ []) h' Q)) : zz_E zp_P zt_tf zt_fd X (d + 1) zm_318 50 [(0, .ref 61), (1, .int x1), (2, .int x2), (3, .int x3), (4, .int x4)] [.int y0] (mH h s) Q := by
  refine zz_E.n 52 rfl rfl rfl ?_
  refine zz_E.n 53 rfl rfl rfl ?_
  refine zz_E.n 55 rfl rfl rfl ?_
  refine mE_p hh 58 rfl (by decide) rfl (mF_51 _ _) rfl ?_
  refine zz_E.n 59 rfl rfl rfl ?_
  refine zz_E.n 60 rfl rfl rfl ?_
  refine mE_cv hh 63 (as := []) rfl rfl (Nat.le_of_ble_eq_true rfl) (Nat.le_of_ble_eq_true rfl) rfl (Nat.le_of_ble_eq_true rfl) rfl ?_
  refine zz_E.mono k ?_
  intro v h' hE
  exact zz_E.weak hE rfl ⟨rfl, rfl, rfl, rfl, rfl, rfl, trivial⟩
theorem mb_318_63 {X : Nat → Option zz_C} {h : zz_H} (hh : 111 ≤ h.length) {s : mS} {d : Nat} {Q : Option Value → zz_H → Prop} {x1 : Int32} {x2 : Int32} {x3 : Int32} {x4 : Int32} {x5 : Int32} {y0 : Int32} (k1 : ¬ y0 = 2 → zz_E zp_P zt_tf zt_fd X d zm_318 80 [(0, .ref 61), (1, .int x1), (2, .int x2), (3, .int x3), (4, .int x4), (5, .int x5)] [] (mH h s) Q) (k2 : ¬ ¬ y0 = 2 → zz_E zp_P zt_tf zt_fd X d zm_318 67 [(0, .ref 61), (1, .int x1)] [] (mH h s) Q) : zz_E zp_P zt_tf zt_fd X d zm_318 63 [(0, .ref 61), (1, .int x1), (2, .int x2), (3, .int x3), (4, .int x4), (5, .int x5)] [.int y0] (mH h s) Q := by
  refine zz_E.c 64 (.int 2) rfl rfl rfl rfl ?_
  refine zz_E.b2 80 67 (A := ¬ y0 = 2) rfl (zz_cond_ne _ _) (by decide) rfl rfl (fun c => ?_) (fun c => ?_)
  · exact zz_E.weak (k1 c) rfl ⟨rfl, rfl, rfl, rfl, rfl, rfl, trivial⟩
  · exact zz_E.weak (k2 c) rfl ⟨rfl, rfl, trivial⟩
theorem mb_318_67 {X : Nat → Option zz_C} {h : zz_H} (hh : 111 ≤ h.length) {s : mS} {d : Nat} {Q : Option Value → zz_H → Prop} {x1 : Int32} (i75 : ¬ (x1 < 0 ∨ 8000 ≤ Int32.toNatClampNeg x1)) (k : zz_E zp_P zt_tf zt_fd X d zm_301 0 [(0, .ref 61), (1, .int 7), (2, .int ((s.2.2.1 26) (Int32.toNatClampNeg x1)))] [] (mH h s) (fun v h' => zz_E zp_P zt_tf zt_fd X (d + 1) zm_318 79 [] (v.toList ++ []) h' Q)) : zz_E zp_P zt_tf zt_fd X (d + 1) zm_318 67 [(0, .ref 61), (1, .int x1)] [] (mH h s) Q := by
  refine zz_E.n 68 rfl rfl rfl ?_
  refine zz_E.c 70 (.int 7) rfl rfl rfl rfl ?_
  refine zz_E.n 71 rfl rfl rfl ?_
  refine mE_g hh 74 (v := .ref 74) rfl rfl rfl ?_
  refine zz_E.n 75 rfl rfl rfl ?_
  refine mE_ia hh 76 13 (f := (s.2.2.1 26)) rfl (by decide) rfl rfl i75 rfl ?_
  refine mE_cv hh 79 (as := []) rfl rfl (Nat.le_of_ble_eq_true rfl) (Nat.le_of_ble_eq_true rfl) rfl (Nat.le_of_ble_eq_true rfl) rfl ?_
  refine zz_E.mono k ?_
  intro v h' hE
  exact zz_E.weak hE rfl trivial
theorem mb_318_79 {X : Nat → Option zz_C} {h : zz_H} (hh : 111 ≤ h.length) {s : mS} {d : Nat} {Q : Option Value → zz_H → Prop}  (k : Q none (mH h s)) : zz_E zp_P zt_tf zt_fd X d zm_318 79 [] [] (mH h s) Q := by
  refine zz_E.ret rfl rfl rfl ?_
  exact k
theorem mb_318_80 {X : Nat → Option zz_C} {h : zz_H} (hh : 111 ≤ h.length) {s : mS} {d : Nat} {Q : Option Value → zz_H → Prop} {x1 : Int32} {x2 : Int32} {x3 : Int32} {x4 : Int32} {x5 : Int32} (k : zz_E zp_P zt_tf zt_fd X d zm_309 0 [(0, .ref 61), (1, .int x3)] [] (mH h s) (fun v h' => zz_E zp_P zt_tf zt_fd X (d + 1) zm_318 85 [(0, .ref 61), (1, .int x1), (2, .int x2), (3, .int x3), (4, .int x4), (5, .int x5)] (v.toList ++ []) h' Q)) : zz_E zp_P zt_tf zt_fd X (d + 1) zm_318 80 [(0, .ref 61), (1, .int x1), (2, .int x2), (3, .int x3), (4, .int x4), (5, .int x5)] [] (mH h s) Q := by
  refine zz_E.n 81 rfl rfl rfl ?_
  refine zz_E.n 82 rfl rfl rfl ?_
  refine mE_cv hh 85 (as := []) rfl rfl (Nat.le_of_ble_eq_true rfl) (Nat.le_of_ble_eq_true rfl) rfl (Nat.le_of_ble_eq_true rfl) rfl ?_
  refine zz_E.mono k ?_
  intro v h' hE
  exact zz_E.weak hE rfl ⟨rfl, rfl, rfl, rfl, rfl, rfl, trivial⟩
theorem mb_318_85 {X : Nat → Option zz_C} {h : zz_H} (hh : 111 ≤ h.length) {s : mS} {d : Nat} {Q : Option Value → zz_H → Prop} {x1 : Int32} {x2 : Int32} {x3 : Int32} {x4 : Int32} {x5 : Int32} {y0 : Int32} (k : zz_E zp_P zt_tf zt_fd X d zm_308 0 [(0, .ref 61), (1, .int x3)] [] (mH h s) (fun v h' => zz_E zp_P zt_tf zt_fd X (d + 1) zm_318 92 [(0, .ref 61), (1, .int x1), (2, .int x2), (3, .int x3), (4, .int x4), (5, .int x5), (6, .int y0)] (v.toList ++ []) h' Q)) : zz_E zp_P zt_tf zt_fd X (d + 1) zm_318 85 [(0, .ref 61), (1, .int x1), (2, .int x2), (3, .int x3), (4, .int x4), (5, .int x5)] [.int y0] (mH h s) Q := by
  refine zz_E.n 87 rfl rfl rfl ?_
  refine zz_E.n 88 rfl rfl rfl ?_
  refine zz_E.n 89 rfl rfl rfl ?_
  refine mE_cv hh 92 (as := []) rfl rfl (Nat.le_of_ble_eq_true rfl) (Nat.le_of_ble_eq_true rfl) rfl (Nat.le_of_ble_eq_true rfl) rfl ?_
  refine zz_E.mono k ?_
  intro v h' hE
  exact zz_E.weak hE rfl ⟨rfl, rfl, rfl, rfl, rfl, rfl, rfl, trivial⟩
theorem mb_318_92 {X : Nat → Option zz_C} {h : zz_H} (hh : 111 ≤ h.length) {s : mS} {d : Nat} {Q : Option Value → zz_H → Prop} {x1 : Int32} {x2 : Int32} {x3 : Int32} {x4 : Int32} {x5 : Int32} {x6 : Int32} {y0 : Int32} (k1 : ¬ y0 = 0 → zz_E zp_P zt_tf zt_fd X d zm_318 99 [(0, .ref 61), (1, .int x1), (2, .int x2), (3, .int x3), (4, .int x4), (5, .int x5), (6, .int x6)] [] (mH h s) Q) (k2 : ¬ ¬ y0 = 0 → zz_E zp_P zt_tf zt_fd X d zm_318 95 [(0, .ref 61), (1, .int x1), (2, .int x2), (3, .int x3), (4, .int x4), (5, .int x5), (6, .int x6)] [] (mH h s) Q) : zz_E zp_P zt_tf zt_fd X d zm_318 92 [(0, .ref 61), (1, .int x1), (2, .int x2), (3, .int x3), (4, .int x4), (5, .int x5), (6, .int x6)] [.int y0] (mH h s) Q := by
  refine zz_E.b1 99 95 (A := ¬ y0 = 0) rfl (zz_cond_ne _ _) (by decide) rfl rfl (fun c => ?_) (fun c => ?_)
  · exact zz_E.weak (k1 c) rfl ⟨rfl, rfl, rfl, rfl, rfl, rfl, rfl, trivial⟩
  · exact zz_E.weak (k2 c) rfl ⟨rfl, rfl, rfl, rfl, rfl, rfl, rfl, trivial⟩
theorem mb_318_95 {X : Nat → Option zz_C} {h : zz_H} (hh : 111 ≤ h.length) {s : mS} {d : Nat} {Q : Option Value → zz_H → Prop} {x1 : Int32} {x2 : Int32} {x3 : Int32} {x4 : Int32} {x5 : Int32} {x6 : Int32} (k : zz_E zp_P zt_tf zt_fd X d zm_318 106 [(0, .ref 61), (1, .int x1), (2, .int x2), (3, .int x3), (4, .int x4), (5, .int x5), (6, .int x6)] [.int 0] (mH h s) Q) : zz_E zp_P zt_tf zt_fd X d zm_318 95 [(0, .ref 61), (1, .int x1), (2, .int x2), (3, .int x3), (4, .int x4), (5, .int x5), (6, .int x6)] [] (mH h s) Q := by
  refine zz_E.c 96 (.int 0) rfl rfl rfl rfl ?_
  refine zz_E.n 106 rfl rfl rfl ?_
  exact zz_E.weak k rfl ⟨rfl, rfl, rfl, rfl, rfl, rfl, rfl, trivial⟩
theorem mb_318_99 {X : Nat → Option zz_C} {h : zz_H} (hh : 111 ≤ h.length) {s : mS} {d : Nat} {Q : Option Value → zz_H → Prop} {x1 : Int32} {x2 : Int32} {x3 : Int32} {x4 : Int32} {x5 : Int32} {x6 : Int32} (i105 : ¬ (x6 < 0 ∨ 166300 ≤ Int32.toNatClampNeg x6)) (k : zz_E zp_P zt_tf zt_fd X d zm_318 106 [(0, .ref 61), (1, .int x1), (2, .int x2), (3, .int x3), (4, .int x4), (5, .int x5), (6, .int x6)] [.int ((s.2.2.1 47) (Int32.toNatClampNeg x6))] (mH h s) Q) : zz_E zp_P zt_tf zt_fd X d zm_318 99 [(0, .ref 61), (1, .int x1), (2, .int x2), (3, .int x3), (4, .int x4), (5, .int x5), (6, .int x6)] [] (mH h s) Q := by
  refine zz_E.n 100 rfl rfl rfl ?_
  refine mE_g hh 103 (v := .ref 89) rfl rfl rfl ?_
  refine zz_E.n 105 rfl rfl rfl ?_
  refine mE_ia hh 106 28 (f := (s.2.2.1 47)) rfl (by decide) rfl rfl i105 rfl ?_
  exact zz_E.weak k rfl ⟨rfl, rfl, rfl, rfl, rfl, rfl, rfl, trivial⟩
theorem mb_318_106 {X : Nat → Option zz_C} {h : zz_H} (hh : 111 ≤ h.length) {s : mS} {d : Nat} {Q : Option Value → zz_H → Prop} {x1 : Int32} {x2 : Int32} {x3 : Int32} {x4 : Int32} {x5 : Int32} {x6 : Int32} {y0 : Int32} (k1 : y0 ≤ 0 → zz_E zp_P zt_tf zt_fd X d zm_318 127 [(0, .ref 61), (1, .int x1), (2, .int x2), (3, .int x3), (4, .int x4), (5, .int x5), (6, .int x6), (7, .int y0)] [] (mH h s) Q) (k2 : ¬ y0 ≤ 0 → zz_E zp_P zt_tf zt_fd X d zm_318 113 [(0, .ref 61), (1, .int x1), (2, .int x2), (3, .int x3), (4, .int x4), (5, .int x5), (6, .int x6), (7, .int y0)] [] (mH h s) Q) : zz_E zp_P zt_tf zt_fd X d zm_318 106 [(0, .ref 61), (1, .int x1), (2, .int x2), (3, .int x3), (4, .int x4), (5, .int x5), (6, .int x6)] [.int y0] (mH h s) Q := by
  refine zz_E.n 108 rfl rfl rfl ?_
  refine zz_E.n 110 rfl rfl rfl ?_
  refine zz_E.b1 127 113 (A := y0 ≤ 0) rfl rfl (by decide) rfl rfl (fun c => ?_) (fun c => ?_)
  · exact zz_E.weak (k1 c) rfl ⟨rfl, rfl, rfl, rfl, rfl, rfl, rfl, rfl, trivial⟩
  · exact zz_E.weak (k2 c) rfl ⟨rfl, rfl, rfl, rfl, rfl, rfl, rfl, rfl, trivial⟩
theorem mb_318_113 {X : Nat → Option zz_C} {h : zz_H} (hh : 111 ≤ h.length) {s : mS} {d : Nat} {Q : Option Value → zz_H → Prop} {x1 : Int32} {x2 : Int32} {x3 : Int32} {x4 : Int32} {x5 : Int32} {x6 : Int32} {x7 : Int32} (i119 : ¬ (x5 < 0 ∨ 9000 ≤ Int32.toNatClampNeg x5)) (k1 : ¬ ((s.2.2.1 49) (Int32.toNatClampNeg x5)) = 0 → zz_E zp_P zt_tf zt_fd X d zm_318 127 [(0, .ref 61), (1, .int x1), (2, .int x2), (3, .int x3), (4, .int x4), (5, .int x5), (6, .int x6), (7, .int x7)] [] (mH h s) Q) (k2 : ¬ ¬ ((s.2.2.1 49) (Int32.toNatClampNeg x5)) = 0 → zz_E zp_P zt_tf zt_fd X d zm_318 123 [(0, .ref 61), (1, .int x1), (2, .int x2), (3, .int x3), (4, .int x4), (5, .int x5), (6, .int x6), (7, .int x7)] [] (mH h s) Q) : zz_E zp_P zt_tf zt_fd X d zm_318 113 [(0, .ref 61), (1, .int x1), (2, .int x2), (3, .int x3), (4, .int x4), (5, .int x5), (6, .int x6), (7, .int x7)] [] (mH h s) Q := by
  refine zz_E.n 114 rfl rfl rfl ?_
  refine mE_g hh 117 (v := .ref 90) rfl rfl rfl ?_
  refine zz_E.n 119 rfl rfl rfl ?_
  refine mE_ia hh 120 29 (f := (s.2.2.1 49)) rfl (by decide) rfl rfl i119 rfl ?_
  refine zz_E.b1 127 123 (A := ¬ ((s.2.2.1 49) (Int32.toNatClampNeg x5)) = 0) rfl (zz_cond_ne _ _) (by decide) rfl rfl (fun c => ?_) (fun c => ?_)
  · exact zz_E.weak (k1 c) rfl ⟨rfl, rfl, rfl, rfl, rfl, rfl, rfl, rfl, trivial⟩
  · exact zz_E.weak (k2 c) rfl ⟨rfl, rfl, rfl, rfl, rfl, rfl, rfl, rfl, trivial⟩
theorem mb_318_123 {X : Nat → Option zz_C} {h : zz_H} (hh : 111 ≤ h.length) {s : mS} {d : Nat} {Q : Option Value → zz_H → Prop} {x1 : Int32} {x2 : Int32} {x3 : Int32} {x4 : Int32} {x5 : Int32} {x6 : Int32} {x7 : Int32} (k : zz_E zp_P zt_tf zt_fd X d zm_318 128 [(0, .ref 61), (1, .int x1), (2, .int x2), (3, .int x3), (4, .int x4), (5, .int x5), (6, .int x6), (7, .int x7)] [.int 1] (mH h s) Q) : zz_E zp_P zt_tf zt_fd X d zm_318 123 [(0, .ref 61), (1, .int x1), (2, .int x2), (3, .int x3), (4, .int x4), (5, .int x5), (6, .int x6), (7, .int x7)] [] (mH h s) Q := by
  refine zz_E.c 124 (.int 1) rfl rfl rfl rfl ?_
  refine zz_E.n 128 rfl rfl rfl ?_
  exact zz_E.weak k rfl ⟨rfl, rfl, rfl, rfl, rfl, rfl, rfl, rfl, trivial⟩
theorem mb_318_127 {X : Nat → Option zz_C} {h : zz_H} (hh : 111 ≤ h.length) {s : mS} {d : Nat} {Q : Option Value → zz_H → Prop} {x1 : Int32} {x2 : Int32} {x3 : Int32} {x4 : Int32} {x5 : Int32} {x6 : Int32} {x7 : Int32} (k : zz_E zp_P zt_tf zt_fd X d zm_318 128 [(0, .ref 61), (1, .int x1), (2, .int x2), (3, .int x3), (4, .int x4), (5, .int x5), (6, .int x6), (7, .int x7)] [.int 0] (mH h s) Q) : zz_E zp_P zt_tf zt_fd X d zm_318 127 [(0, .ref 61), (1, .int x1), (2, .int x2), (3, .int x3), (4, .int x4), (5, .int x5), (6, .int x6), (7, .int x7)] [] (mH h s) Q := by
  refine zz_E.c 128 (.int 0) rfl rfl rfl rfl ?_
  exact zz_E.weak k rfl ⟨rfl, rfl, rfl, rfl, rfl, rfl, rfl, rfl, trivial⟩
theorem mb_318_128 {X : Nat → Option zz_C} {h : zz_H} (hh : 111 ≤ h.length) {s : mS} {d : Nat} {Q : Option Value → zz_H → Prop} {x1 : Int32} {x2 : Int32} {x3 : Int32} {x4 : Int32} {x5 : Int32} {x6 : Int32} {x7 : Int32} {y0 : Int32} (k1 : x2 = 0 → zz_E zp_P zt_tf zt_fd X d zm_318 177 [(0, .ref 61), (1, .int x1), (2, .int x2), (3, .int x3), (4, .int x4), (5, .int x5), (6, .int x6), (7, .int x7), (8, .int y0)] [] (mH h s) Q) (k2 : ¬ x2 = 0 → zz_E zp_P zt_tf zt_fd X d zm_318 134 [(0, .ref 61), (1, .int x1), (2, .int x2), (3, .int x3), (4, .int x4), (5, .int x5), (6, .int x6), (7, .int x7), (8, .int y0)] [] (mH h s) Q) : zz_E zp_P zt_tf zt_fd X d zm_318 128 [(0, .ref 61), (1, .int x1), (2, .int x2), (3, .int x3), (4, .int x4), (5, .int x5), (6, .int x6), (7, .int x7)] [.int y0] (mH h s) Q := by
  refine zz_E.n 130 rfl rfl rfl ?_
  refine zz_E.n 131 rfl rfl rfl ?_
  refine zz_E.b1 177 134 (A := x2 = 0) rfl rfl (by decide) rfl rfl (fun c => ?_) (fun c => ?_)
  · exact zz_E.weak (k1 c) rfl ⟨rfl, rfl, rfl, rfl, rfl, rfl, rfl, rfl, rfl, trivial⟩
  · exact zz_E.weak (k2 c) rfl ⟨rfl, rfl, rfl, rfl, rfl, rfl, rfl, rfl, rfl, trivial⟩
theorem mb_318_134 {X : Nat → Option zz_C} {h : zz_H} (hh : 111 ≤ h.length) {s : mS} {d : Nat} {Q : Option Value → zz_H → Prop} {x1 : Int32} {x2 : Int32} {x3 : Int32} {x4 : Int32} {x5 : Int32} {x6 : Int32} {x7 : Int32} {x8 : Int32} (k1 : x8 = 0 → zz_E zp_P zt_tf zt_fd X d zm_318 171 [(0, .ref 61), (1, .int x1), (2, .int x2), (3, .int x3), (4, .int x4), (5, .int x5), (6, .int x6), (7, .int x7)] [] (mH h s) Q) (k2 : ¬ x8 = 0 → zz_E zp_P zt_tf zt_fd X d zm_318 139 [(0, .ref 61), (1, .int x1), (2, .int x2), (3, .int x3), (4, .int x4), (5, .int x5), (6, .int x6), (7, .int x7)] [] (mH h s) Q) : zz_E zp_P zt_tf zt_fd X d zm_318 134 [(0, .ref 61), (1, .int x1), (2, .int x2), (3, .int x3), (4, .int x4), (5, .int x5), (6, .int x6), (7, .int x7), (8, .int x8)] [] (mH h s) Q := by
  refine zz_E.n 136 rfl rfl rfl ?_
  refine zz_E.b1 171 139 (A := x8 = 0) rfl rfl (by decide) rfl rfl (fun c => ?_) (fun c => ?_)
  · exact zz_E.weak (k1 c) rfl ⟨rfl, rfl, rfl, rfl, rfl, rfl, rfl, rfl, trivial⟩
  · exact zz_E.weak (k2 c) rfl ⟨rfl, rfl, rfl, rfl, rfl, rfl, rfl, rfl, trivial⟩
theorem mb_318_139 {X : Nat → Option zz_C} {h : zz_H} (hh : 111 ≤ h.length) {s : mS} {d : Nat} {Q : Option Value → zz_H → Prop} {x1 : Int32} {x2 : Int32} {x3 : Int32} {x4 : Int32} {x5 : Int32} {x6 : Int32} {x7 : Int32} (k1 : ¬ x7 = 2 → zz_E zp_P zt_tf zt_fd X d zm_318 171 [(0, .ref 61), (1, .int x1), (2, .int x2), (3, .int x3), (4, .int x4), (5, .int x5), (6, .int x6), (7, .int x7)] [] (mH h s) Q) (k2 : ¬ ¬ x7 = 2 → zz_E zp_P zt_tf zt_fd X d zm_318 145 [(0, .ref 61), (1, .int x1), (2, .int x2), (3, .int x3), (4, .int x4), (5, .int x5), (6, .int x6), (7, .int x7)] [] (mH h s) Q) : zz_E zp_P zt_tf zt_fd X d zm_318 139 [(0, .ref 61), (1, .int x1), (2, .int x2), (3, .int x3), (4, .int x4), (5, .int x5), (6, .int x6), (7, .int x7)] [] (mH h s) Q := by
  refine zz_E.n 141 rfl rfl rfl ?_
  refine zz_E.c 142 (.int 2) rfl rfl rfl rfl ?_
  refine zz_E.b2 171 145 (A := ¬ x7 = 2) rfl (zz_cond_ne _ _) (by decide) rfl rfl (fun c => ?_) (fun c => ?_)
  · exact zz_E.weak (k1 c) rfl ⟨rfl, rfl, rfl, rfl, rfl, rfl, rfl, rfl, trivial⟩
  · exact zz_E.weak (k2 c) rfl ⟨rfl, rfl, rfl, rfl, rfl, rfl, rfl, rfl, trivial⟩
theorem mb_318_145 {X : Nat → Option zz_C} {h : zz_H} (hh : 111 ≤ h.length) {s : mS} {d : Nat} {Q : Option Value → zz_H → Prop} {x1 : Int32} {x2 : Int32} {x3 : Int32} {x4 : Int32} {x5 : Int32} {x6 : Int32} {x7 : Int32} (i153 : ¬ ((x5 + 1) < 0 ∨ 9000 ≤ Int32.toNatClampNeg (x5 + 1))) (k1 : ¬ ((s.2.2.1 49) (Int32.toNatClampNeg (x5 + 1))) = 0 → zz_E zp_P zt_tf zt_fd X d zm_318 171 [(0, .ref 61), (1, .int x1), (2, .int x2), (3, .int x3), (4, .int x4), (5, .int x5), (6, .int x6), (7, .int x7)] [] (mH h s) Q) (k2 : ¬ ¬ ((s.2.2.1 49) (Int32.toNatClampNeg (x5 + 1))) = 0 → zz_E zp_P zt_tf zt_fd X d zm_318 157 [(0, .ref 61), (1, .int x1), (2, .int x2), (3, .int x3), (4, .int x4), (5, .int x5), (6, .int x6), (7, .int x7)] [] (mH h s) Q) : zz_E zp_P zt_tf zt_fd X d zm_318 145 [(0, .ref 61), (1, .int x1), (2, .int x2), (3, .int x3), (4, .int x4), (5, .int x5), (6, .int x6), (7, .int x7)] [] (mH h s) Q := by
  refine zz_E.n 146 rfl rfl rfl ?_
  refine mE_g hh 149 (v := .ref 90) rfl rfl rfl ?_
  refine zz_E.n 151 rfl rfl rfl ?_
  refine zz_E.c 152 (.int 1) rfl rfl rfl rfl ?_
  refine zz_E.n 153 rfl rfl rfl ?_
  refine mE_ia hh 154 29 (f := (s.2.2.1 49)) rfl (by decide) rfl rfl i153 rfl ?_
  refine zz_E.b1 171 157 (A := ¬ ((s.2.2.1 49) (Int32.toNatClampNeg (x5 + 1))) = 0) rfl (zz_cond_ne _ _) (by decide) rfl rfl (fun c => ?_) (fun c => ?_)
  · exact zz_E.weak (k1 c) rfl ⟨rfl, rfl, rfl, rfl, rfl, rfl, rfl, rfl, trivial⟩
  · exact zz_E.weak (k2 c) rfl ⟨rfl, rfl, rfl, rfl, rfl, rfl, rfl, rfl, trivial⟩
theorem mb_318_157 {X : Nat → Option zz_C} {h : zz_H} (hh : 111 ≤ h.length) {s : mS} {d : Nat} {Q : Option Value → zz_H → Prop} {x1 : Int32} {x2 : Int32} {x3 : Int32} {x4 : Int32} {x5 : Int32} {x6 : Int32} {x7 : Int32} (i163 : ¬ (x4 < 0 ∨ 9000 ≤ Int32.toNatClampNeg x4)) (k1 : ¬ ((s.2.2.1 49) (Int32.toNatClampNeg x4)) = 0 → zz_E zp_P zt_tf zt_fd X d zm_318 171 [(0, .ref 61), (1, .int x1), (2, .int x2), (3, .int x3), (4, .int x4), (5, .int x5), (6, .int x6), (7, .int x7)] [] (mH h s) Q) (k2 : ¬ ¬ ((s.2.2.1 49) (Int32.toNatClampNeg x4)) = 0 → zz_E zp_P zt_tf zt_fd X d zm_318 167 [(0, .ref 61), (1, .int x1), (2, .int x2), (3, .int x3), (4, .int x4), (5, .int x5), (6, .int x6), (7, .int x7)] [] (mH h s) Q) : zz_E zp_P zt_tf zt_fd X d zm_318 157 [(0, .ref 61), (1, .int x1), (2, .int x2), (3, .int x3), (4, .int x4), (5, .int x5), (6, .int x6), (7, .int x7)] [] (mH h s) Q := by
  refine zz_E.n 158 rfl rfl rfl ?_
  refine mE_g hh 161 (v := .ref 90) rfl rfl rfl ?_
  refine zz_E.n 163 rfl rfl rfl ?_
  refine mE_ia hh 164 29 (f := (s.2.2.1 49)) rfl (by decide) rfl rfl i163 rfl ?_
  refine zz_E.b1 171 167 (A := ¬ ((s.2.2.1 49) (Int32.toNatClampNeg x4)) = 0) rfl (zz_cond_ne _ _) (by decide) rfl rfl (fun c => ?_) (fun c => ?_)
  · exact zz_E.weak (k1 c) rfl ⟨rfl, rfl, rfl, rfl, rfl, rfl, rfl, rfl, trivial⟩
  · exact zz_E.weak (k2 c) rfl ⟨rfl, rfl, rfl, rfl, rfl, rfl, rfl, rfl, trivial⟩
theorem mb_318_167 {X : Nat → Option zz_C} {h : zz_H} (hh : 111 ≤ h.length) {s : mS} {d : Nat} {Q : Option Value → zz_H → Prop} {x1 : Int32} {x2 : Int32} {x3 : Int32} {x4 : Int32} {x5 : Int32} {x6 : Int32} {x7 : Int32} (k : zz_E zp_P zt_tf zt_fd X d zm_318 172 [(0, .ref 61), (1, .int x1), (2, .int x2), (3, .int x3), (4, .int x4), (5, .int x5), (6, .int x6), (7, .int x7)] [.int 1] (mH h s) Q) : zz_E zp_P zt_tf zt_fd X d zm_318 167 [(0, .ref 61), (1, .int x1), (2, .int x2), (3, .int x3), (4, .int x4), (5, .int x5), (6, .int x6), (7, .int x7)] [] (mH h s) Q := by
  refine zz_E.c 168 (.int 1) rfl rfl rfl rfl ?_
  refine zz_E.n 172 rfl rfl rfl ?_
  exact zz_E.weak k rfl ⟨rfl, rfl, rfl, rfl, rfl, rfl, rfl, rfl, trivial⟩
theorem mb_318_171 {X : Nat → Option zz_C} {h : zz_H} (hh : 111 ≤ h.length) {s : mS} {d : Nat} {Q : Option Value → zz_H → Prop} {x1 : Int32} {x2 : Int32} {x3 : Int32} {x4 : Int32} {x5 : Int32} {x6 : Int32} {x7 : Int32} (k : zz_E zp_P zt_tf zt_fd X d zm_318 172 [(0, .ref 61), (1, .int x1), (2, .int x2), (3, .int x3), (4, .int x4), (5, .int x5), (6, .int x6), (7, .int x7)] [.int 0] (mH h s) Q) : zz_E zp_P zt_tf zt_fd X d zm_318 171 [(0, .ref 61), (1, .int x1), (2, .int x2), (3, .int x3), (4, .int x4), (5, .int x5), (6, .int x6), (7, .int x7)] [] (mH h s) Q := by
  refine zz_E.c 172 (.int 0) rfl rfl rfl rfl ?_
  exact zz_E.weak k rfl ⟨rfl, rfl, rfl, rfl, rfl, rfl, rfl, rfl, trivial⟩
theorem mb_318_172 {X : Nat → Option zz_C} {h : zz_H} (hh : 111 ≤ h.length) {s : mS} {d : Nat} {Q : Option Value → zz_H → Prop} {x1 : Int32} {x2 : Int32} {x3 : Int32} {x4 : Int32} {x5 : Int32} {x6 : Int32} {x7 : Int32} {y0 : Int32} (k : zz_E zp_P zt_tf zt_fd X d zm_318 236 [(0, .ref 61), (1, .int x1), (2, .int x2), (3, .int x3), (4, .int x4), (5, .int x5), (6, .int x6), (7, .int x7), (8, .int y0)] [] (mH h s) Q) : zz_E zp_P zt_tf zt_fd X d zm_318 172 [(0, .ref 61), (1, .int x1), (2, .int x2), (3, .int x3), (4, .int x4), (5, .int x5), (6, .int x6), (7, .int x7)] [.int y0] (mH h s) Q := by
  refine zz_E.n 174 rfl rfl rfl ?_
  refine zz_E.n 236 rfl rfl rfl ?_
  exact zz_E.weak k rfl ⟨rfl, rfl, rfl, rfl, rfl, rfl, rfl, rfl, rfl, trivial⟩
theorem mb_318_177 {X : Nat → Option zz_C} {h : zz_H} (hh : 111 ≤ h.length) {s : mS} {d : Nat} {Q : Option Value → zz_H → Prop} {x1 : Int32} {x2 : Int32} {x3 : Int32} {x4 : Int32} {x5 : Int32} {x6 : Int32} {x7 : Int32} {x8 : Int32} (k1 : ¬ x7 = 1 → zz_E zp_P zt_tf zt_fd X d zm_318 208 [(0, .ref 61), (1, .int x1), (2, .int x2), (3, .int x3), (4, .int x4), (5, .int x5), (6, .int x6), (7, .int x7), (8, .int x8)] [] (mH h s) Q) (k2 : ¬ ¬ x7 = 1 → zz_E zp_P zt_tf zt_fd X d zm_318 183 [(0, .ref 61), (1, .int x1), (2, .int x2), (3, .int x3), (4, .int x4), (5, .int x5), (6, .int x6), (7, .int x7), (8, .int x8)] [] (mH h s) Q) : zz_E zp_P zt_tf zt_fd X d zm_318 177 [(0, .ref 61), (1, .int x1), (2, .int x2), (3, .int x3), (4, .int x4), (5, .int x5), (6, .int x6), (7, .int x7), (8, .int x8)] [] (mH h s) Q := by
  refine zz_E.n 179 rfl rfl rfl ?_
  refine zz_E.c 180 (.int 1) rfl rfl rfl rfl ?_
  refine zz_E.b2 208 183 (A := ¬ x7 = 1) rfl (zz_cond_ne _ _) (by decide) rfl rfl (fun c => ?_) (fun c => ?_)
  · exact zz_E.weak (k1 c) rfl ⟨rfl, rfl, rfl, rfl, rfl, rfl, rfl, rfl, rfl, trivial⟩
  · exact zz_E.weak (k2 c) rfl ⟨rfl, rfl, rfl, rfl, rfl, rfl, rfl, rfl, rfl, trivial⟩
theorem mb_318_183 {X : Nat → Option zz_C} {h : zz_H} (hh : 111 ≤ h.length) {s : mS} {d : Nat} {Q : Option Value → zz_H → Prop} {x1 : Int32} {x2 : Int32} {x3 : Int32} {x4 : Int32} {x5 : Int32} {x6 : Int32} {x7 : Int32} {x8 : Int32} (k1 : x8 = 0 → zz_E zp_P zt_tf zt_fd X d zm_318 202 [(0, .ref 61), (1, .int x1), (2, .int x2), (3, .int x3), (4, .int x4), (5, .int x5), (6, .int x6), (7, .int x7)] [] (mH h s) Q) (k2 : ¬ x8 = 0 → zz_E zp_P zt_tf zt_fd X d zm_318 188 [(0, .ref 61), (1, .int x1), (2, .int x2), (3, .int x3), (4, .int x4), (5, .int x5), (6, .int x6), (7, .int x7)] [] (mH h s) Q) : zz_E zp_P zt_tf zt_fd X d zm_318 183 [(0, .ref 61), (1, .int x1), (2, .int x2), (3, .int x3), (4, .int x4), (5, .int x5), (6, .int x6), (7, .int x7), (8, .int x8)] [] (mH h s) Q := by
  refine zz_E.n 185 rfl rfl rfl ?_
  refine zz_E.b1 202 188 (A := x8 = 0) rfl rfl (by decide) rfl rfl (fun c => ?_) (fun c => ?_)
  · exact zz_E.weak (k1 c) rfl ⟨rfl, rfl, rfl, rfl, rfl, rfl, rfl, rfl, trivial⟩
  · exact zz_E.weak (k2 c) rfl ⟨rfl, rfl, rfl, rfl, rfl, rfl, rfl, rfl, trivial⟩
theorem mb_318_188 {X : Nat → Option zz_C} {h : zz_H} (hh : 111 ≤ h.length) {s : mS} {d : Nat} {Q : Option Value → zz_H → Prop} {x1 : Int32} {x2 : Int32} {x3 : Int32} {x4 : Int32} {x5 : Int32} {x6 : Int32} {x7 : Int32} (i194 : ¬ (x4 < 0 ∨ 9000 ≤ Int32.toNatClampNeg x4)) (k1 : ¬ ((s.2.2.1 49) (Int32.toNatClampNeg x4)) = 0 → zz_E zp_P zt_tf zt_fd X d zm_318 202 [(0, .ref 61), (1, .int x1), (2, .int x2), (3, .int x3), (4, .int x4), (5, .int x5), (6, .int x6), (7, .int x7)] [] (mH h s) Q) (k2 : ¬ ¬ ((s.2.2.1 49) (Int32.toNatClampNeg x4)) = 0 → zz_E zp_P zt_tf zt_fd X d zm_318 198 [(0, .ref 61), (1, .int x1), (2, .int x2), (3, .int x3), (4, .int x4), (5, .int x5), (6, .int x6), (7, .int x7)] [] (mH h s) Q) : zz_E zp_P zt_tf zt_fd X d zm_318 188 [(0, .ref 61), (1, .int x1), (2, .int x2), (3, .int x3), (4, .int x4), (5, .int x5), (6, .int x6), (7, .int x7)] [] (mH h s) Q := by
  refine zz_E.n 189 rfl rfl rfl ?_
  refine mE_g hh 192 (v := .ref 90) rfl rfl rfl ?_
  refine zz_E.n 194 rfl rfl rfl ?_
  refine mE_ia hh 195 29 (f := (s.2.2.1 49)) rfl (by decide) rfl rfl i194 rfl ?_
  refine zz_E.b1 202 198 (A := ¬ ((s.2.2.1 49) (Int32.toNatClampNeg x4)) = 0) rfl (zz_cond_ne _ _) (by decide) rfl rfl (fun c => ?_) (fun c => ?_)
  · exact zz_E.weak (k1 c) rfl ⟨rfl, rfl, rfl, rfl, rfl, rfl, rfl, rfl, trivial⟩
  · exact zz_E.weak (k2 c) rfl ⟨rfl, rfl, rfl, rfl, rfl, rfl, rfl, rfl, trivial⟩
theorem mb_318_198 {X : Nat → Option zz_C} {h : zz_H} (hh : 111 ≤ h.length) {s : mS} {d : Nat} {Q : Option Value → zz_H → Prop} {x1 : Int32} {x2 : Int32} {x3 : Int32} {x4 : Int32} {x5 : Int32} {x6 : Int32} {x7 : Int32} (k : zz_E zp_P zt_tf zt_fd X d zm_318 203 [(0, .ref 61), (1, .int x1), (2, .int x2), (3, .int x3), (4, .int x4), (5, .int x5), (6, .int x6), (7, .int x7)] [.int 1] (mH h s) Q) : zz_E zp_P zt_tf zt_fd X d zm_318 198 [(0, .ref 61), (1, .int x1), (2, .int x2), (3, .int x3), (4, .int x4), (5, .int x5), (6, .int x6), (7, .int x7)] [] (mH h s) Q := by
  refine zz_E.c 199 (.int 1) rfl rfl rfl rfl ?_
  refine zz_E.n 203 rfl rfl rfl ?_
  exact zz_E.weak k rfl ⟨rfl, rfl, rfl, rfl, rfl, rfl, rfl, rfl, trivial⟩
theorem mb_318_202 {X : Nat → Option zz_C} {h : zz_H} (hh : 111 ≤ h.length) {s : mS} {d : Nat} {Q : Option Value → zz_H → Prop} {x1 : Int32} {x2 : Int32} {x3 : Int32} {x4 : Int32} {x5 : Int32} {x6 : Int32} {x7 : Int32} (k : zz_E zp_P zt_tf zt_fd X d zm_318 203 [(0, .ref 61), (1, .int x1), (2, .int x2), (3, .int x3), (4, .int x4), (5, .int x5), (6, .int x6), (7, .int x7)] [.int 0] (mH h s) Q) : zz_E zp_P zt_tf zt_fd X d zm_318 202 [(0, .ref 61), (1, .int x1), (2, .int x2), (3, .int x3), (4, .int x4), (5, .int x5), (6, .int x6), (7, .int x7)] [] (mH h s) Q := by
  refine zz_E.c 203 (.int 0) rfl rfl rfl rfl ?_
  exact zz_E.weak k rfl ⟨rfl, rfl, rfl, rfl, rfl, rfl, rfl, rfl, trivial⟩
theorem mb_318_203 {X : Nat → Option zz_C} {h : zz_H} (hh : 111 ≤ h.length) {s : mS} {d : Nat} {Q : Option Value → zz_H → Prop} {x1 : Int32} {x2 : Int32} {x3 : Int32} {x4 : Int32} {x5 : Int32} {x6 : Int32} {x7 : Int32} {y0 : Int32} (k : zz_E zp_P zt_tf zt_fd X d zm_318 236 [(0, .ref 61), (1, .int x1), (2, .int x2), (3, .int x3), (4, .int x4), (5, .int x5), (6, .int x6), (7, .int x7), (8, .int y0)] [] (mH h s) Q) : zz_E zp_P zt_tf zt_fd X d zm_318 203 [(0, .ref 61), (1, .int x1), (2, .int x2), (3, .int x3), (4, .int x4), (5, .int x5), (6, .int x6), (7, .int x7)] [.int y0] (mH h s) Q := by
  refine zz_E.n 205 rfl rfl rfl ?_
  refine zz_E.n 236 rfl rfl rfl ?_
  exact zz_E.weak k rfl ⟨rfl, rfl, rfl, rfl, rfl, rfl, rfl, rfl, rfl, trivial⟩
theorem mb_318_208 {X : Nat → Option zz_C} {h : zz_H} (hh : 111 ≤ h.length) {s : mS} {d : Nat} {Q : Option Value → zz_H → Prop} {x1 : Int32} {x2 : Int32} {x3 : Int32} {x4 : Int32} {x5 : Int32} {x6 : Int32} {x7 : Int32} {x8 : Int32} (k1 : ¬ x7 = 2 → zz_E zp_P zt_tf zt_fd X d zm_318 236 [(0, .ref 61), (1, .int x1), (2, .int x2), (3, .int x3), (4, .int x4), (5, .int x5), (6, .int x6), (7, .int x7), (8, .int x8)] [] (mH h s) Q) (k2 : ¬ ¬ x7 = 2 → zz_E zp_P zt_tf zt_fd X d zm_318 214 [(0, .ref 61), (1, .int x1), (2, .int x2), (3, .int x3), (4, .int x4), (5, .int x5), (6, .int x6), (7, .int x7), (8, .int x8)] [] (mH h s) Q) : zz_E zp_P zt_tf zt_fd X d zm_318 208 [(0, .ref 61), (1, .int x1), (2, .int x2), (3, .int x3), (4, .int x4), (5, .int x5), (6, .int x6), (7, .int x7), (8, .int x8)] [] (mH h s) Q := by
  refine zz_E.n 210 rfl rfl rfl ?_
  refine zz_E.c 211 (.int 2) rfl rfl rfl rfl ?_
  refine zz_E.b2 236 214 (A := ¬ x7 = 2) rfl (zz_cond_ne _ _) (by decide) rfl rfl (fun c => ?_) (fun c => ?_)
  · exact zz_E.weak (k1 c) rfl ⟨rfl, rfl, rfl, rfl, rfl, rfl, rfl, rfl, rfl, trivial⟩
  · exact zz_E.weak (k2 c) rfl ⟨rfl, rfl, rfl, rfl, rfl, rfl, rfl, rfl, rfl, trivial⟩
theorem mb_318_214 {X : Nat → Option zz_C} {h : zz_H} (hh : 111 ≤ h.length) {s : mS} {d : Nat} {Q : Option Value → zz_H → Prop} {x1 : Int32} {x2 : Int32} {x3 : Int32} {x4 : Int32} {x5 : Int32} {x6 : Int32} {x7 : Int32} {x8 : Int32} (k1 : x8 = 0 → zz_E zp_P zt_tf zt_fd X d zm_318 233 [(0, .ref 61), (1, .int x1), (2, .int x2), (3, .int x3), (4, .int x4), (5, .int x5), (6, .int x6), (7, .int x7)] [] (mH h s) Q) (k2 : ¬ x8 = 0 → zz_E zp_P zt_tf zt_fd X d zm_318 219 [(0, .ref 61), (1, .int x1), (2, .int x2), (3, .int x3), (4, .int x4), (5, .int x5), (6, .int x6), (7, .int x7)] [] (mH h s) Q) : zz_E zp_P zt_tf zt_fd X d zm_318 214 [(0, .ref 61), (1, .int x1), (2, .int x2), (3, .int x3), (4, .int x4), (5, .int x5), (6, .int x6), (7, .int x7), (8, .int x8)] [] (mH h s) Q := by
  refine zz_E.n 216 rfl rfl rfl ?_
  refine zz_E.b1 233 219 (A := x8 = 0) rfl rfl (by decide) rfl rfl (fun c => ?_) (fun c => ?_)
  · exact zz_E.weak (k1 c) rfl ⟨rfl, rfl, rfl, rfl, rfl, rfl, rfl, rfl, trivial⟩
  · exact zz_E.weak (k2 c) rfl ⟨rfl, rfl, rfl, rfl, rfl, rfl, rfl, rfl, trivial⟩
theorem mb_318_219 {X : Nat → Option zz_C} {h : zz_H} (hh : 111 ≤ h.length) {s : mS} {d : Nat} {Q : Option Value → zz_H → Prop} {x1 : Int32} {x2 : Int32} {x3 : Int32} {x4 : Int32} {x5 : Int32} {x6 : Int32} {x7 : Int32} (k : zz_E zp_P zt_tf zt_fd X d zm_292 0 [(0, .ref 61), (1, .int x4)] [] (mH h s) (fun v h' => zz_E zp_P zt_tf zt_fd X (d + 1) zm_318 225 [(0, .ref 61), (1, .int x1), (2, .int x2), (3, .int x3), (4, .int x4), (5, .int x5), (6, .int x6), (7, .int x7)] (v.toList ++ []) h' Q)) : zz_E zp_P zt_tf zt_fd X (d + 1) zm_318 219 [(0, .ref 61), (1, .int x1), (2, .int x2), (3, .int x3), (4, .int x4), (5, .int x5), (6, .int x6), (7, .int x7)] [] (mH h s) Q := by
  refine zz_E.n 220 rfl rfl rfl ?_
  refine zz_E.n 222 rfl rfl rfl ?_
  refine mE_cv hh 225 (as := []) rfl rfl (Nat.le_of_ble_eq_true rfl) (Nat.le_of_ble_eq_true rfl) rfl (Nat.le_of_ble_eq_true rfl) rfl ?_
  refine zz_E.mono k ?_
  intro v h' hE
  exact zz_E.weak hE rfl ⟨rfl, rfl, rfl, rfl, rfl, rfl, rfl, rfl, trivial⟩
theorem mb_318_225 {X : Nat → Option zz_C} {h : zz_H} (hh : 111 ≤ h.length) {s : mS} {d : Nat} {Q : Option Value → zz_H → Prop} {x1 : Int32} {x2 : Int32} {x3 : Int32} {x4 : Int32} {x5 : Int32} {x6 : Int32} {x7 : Int32} {y0 : Int32} (k1 : ¬ y0 = 1 → zz_E zp_P zt_tf zt_fd X d zm_318 233 [(0, .ref 61), (1, .int x1), (2, .int x2), (3, .int x3), (4, .int x4), (5, .int x5), (6, .int x6), (7, .int x7)] [] (mH h s) Q) (k2 : ¬ ¬ y0 = 1 → zz_E zp_P zt_tf zt_fd X d zm_318 229 [(0, .ref 61), (1, .int x1), (2, .int x2), (3, .int x3), (4, .int x4), (5, .int x5), (6, .int x6), (7, .int x7)] [] (mH h s) Q) : zz_E zp_P zt_tf zt_fd X d zm_318 225 [(0, .ref 61), (1, .int x1), (2, .int x2), (3, .int x3), (4, .int x4), (5, .int x5), (6, .int x6), (7, .int x7)] [.int y0] (mH h s) Q := by
  refine zz_E.c 226 (.int 1) rfl rfl rfl rfl ?_
  refine zz_E.b2 233 229 (A := ¬ y0 = 1) rfl (zz_cond_ne _ _) (by decide) rfl rfl (fun c => ?_) (fun c => ?_)
  · exact zz_E.weak (k1 c) rfl ⟨rfl, rfl, rfl, rfl, rfl, rfl, rfl, rfl, trivial⟩
  · exact zz_E.weak (k2 c) rfl ⟨rfl, rfl, rfl, rfl, rfl, rfl, rfl, rfl, trivial⟩
theorem mb_318_229 {X : Nat → Option zz_C} {h : zz_H} (hh : 111 ≤ h.length) {s : mS} {d : Nat} {Q : Option Value → zz_H → Prop} {x1 : Int32} {x2 : Int32} {x3 : Int32} {x4 : Int32} {x5 : Int32} {x6 : Int32} {x7 : Int32} (k : zz_E zp_P zt_tf zt_fd X d zm_318 234 [(0, .ref 61), (1, .int x1), (2, .int x2), (3, .int x3), (4, .int x4), (5, .int x5), (6, .int x6), (7, .int x7)] [.int 1] (mH h s) Q) : zz_E zp_P zt_tf zt_fd X d zm_318 229 [(0, .ref 61), (1, .int x1), (2, .int x2), (3, .int x3), (4, .int x4), (5, .int x5), (6, .int x6), (7, .int x7)] [] (mH h s) Q := by
  refine zz_E.c 230 (.int 1) rfl rfl rfl rfl ?_
  refine zz_E.n 234 rfl rfl rfl ?_
  exact zz_E.weak k rfl ⟨rfl, rfl, rfl, rfl, rfl, rfl, rfl, rfl, trivial⟩
theorem mb_318_233 {X : Nat → Option zz_C} {h : zz_H} (hh : 111 ≤ h.length) {s : mS} {d : Nat} {Q : Option Value → zz_H → Prop} {x1 : Int32} {x2 : Int32} {x3 : Int32} {x4 : Int32} {x5 : Int32} {x6 : Int32} {x7 : Int32} (k : zz_E zp_P zt_tf zt_fd X d zm_318 234 [(0, .ref 61), (1, .int x1), (2, .int x2), (3, .int x3), (4, .int x4), (5, .int x5), (6, .int x6), (7, .int x7)] [.int 0] (mH h s) Q) : zz_E zp_P zt_tf zt_fd X d zm_318 233 [(0, .ref 61), (1, .int x1), (2, .int x2), (3, .int x3), (4, .int x4), (5, .int x5), (6, .int x6), (7, .int x7)] [] (mH h s) Q := by
  refine zz_E.c 234 (.int 0) rfl rfl rfl rfl ?_
  exact zz_E.weak k rfl ⟨rfl, rfl, rfl, rfl, rfl, rfl, rfl, rfl, trivial⟩
theorem mb_318_234 {X : Nat → Option zz_C} {h : zz_H} (hh : 111 ≤ h.length) {s : mS} {d : Nat} {Q : Option Value → zz_H → Prop} {x1 : Int32} {x2 : Int32} {x3 : Int32} {x4 : Int32} {x5 : Int32} {x6 : Int32} {x7 : Int32} {y0 : Int32} (k : zz_E zp_P zt_tf zt_fd X d zm_318 236 [(0, .ref 61), (1, .int x1), (2, .int x2), (3, .int x3), (4, .int x4), (5, .int x5), (6, .int x6), (7, .int x7), (8, .int y0)] [] (mH h s) Q) : zz_E zp_P zt_tf zt_fd X d zm_318 234 [(0, .ref 61), (1, .int x1), (2, .int x2), (3, .int x3), (4, .int x4), (5, .int x5), (6, .int x6), (7, .int x7)] [.int y0] (mH h s) Q := by
  refine zz_E.n 236 rfl rfl rfl ?_
  exact zz_E.weak k rfl ⟨rfl, rfl, rfl, rfl, rfl, rfl, rfl, rfl, rfl, trivial⟩
theorem mb_318_236 {X : Nat → Option zz_C} {h : zz_H} (hh : 111 ≤ h.length) {s : mS} {d : Nat} {Q : Option Value → zz_H → Prop} {x1 : Int32} {x2 : Int32} {x3 : Int32} {x4 : Int32} {x5 : Int32} {x6 : Int32} {x7 : Int32} {x8 : Int32} (k1 : ¬ x8 = 0 → zz_E zp_P zt_tf zt_fd X d zm_318 251 [(0, .ref 61), (1, .int x1), (2, .int x2), (3, .int x3), (4, .int x4), (5, .int x5), (6, .int x6), (7, .int x7)] [] (mH h s) Q) (k2 : ¬ ¬ x8 = 0 → zz_E zp_P zt_tf zt_fd X d zm_318 241 [(0, .ref 61)] [] (mH h s) Q) : zz_E zp_P zt_tf zt_fd X d zm_318 236 [(0, .ref 61), (1, .int x1), (2, .int x2), (3, .int x3), (4, .int x4), (5, .int x5), (6, .int x6), (7, .int x7), (8, .int x8)] [] (mH h s) Q := by
  refine zz_E.n 238 rfl rfl rfl ?_
  refine zz_E.b1 251 241 (A := ¬ x8 = 0) rfl (zz_cond_ne _ _) (by decide) rfl rfl (fun c => ?_) (fun c => ?_)
  · exact zz_E.weak (k1 c) rfl ⟨rfl, rfl, rfl, rfl, rfl, rfl, rfl, rfl, trivial⟩
  · exact zz_E.weak (k2 c) rfl ⟨rfl, trivial⟩
theorem mb_318_241 {X : Nat → Option zz_C} {h : zz_H} (hh : 111 ≤ h.length) {s : mS} {d : Nat} {Q : Option Value → zz_H → Prop}  (k : zz_E zp_P zt_tf zt_fd X d zm_301 0 [(0, .ref 61), (1, .int 3), (2, .int (s.1 70))] [] (mH h s) (fun v h' => zz_E zp_P zt_tf zt_fd X (d + 1) zm_318 250 [] (v.toList ++ []) h' Q)) : zz_E zp_P zt_tf zt_fd X (d + 1) zm_318 241 [(0, .ref 61)] [] (mH h s) Q := by
  refine zz_E.n 242 rfl rfl rfl ?_
  refine zz_E.c 243 (.int 3) rfl rfl rfl rfl ?_
  refine zz_E.n 244 rfl rfl rfl ?_
  refine mE_g hh 247 (v := .int (s.1 70)) rfl rfl rfl ?_
  refine mE_cv hh 250 (as := []) rfl rfl (Nat.le_of_ble_eq_true rfl) (Nat.le_of_ble_eq_true rfl) rfl (Nat.le_of_ble_eq_true rfl) rfl ?_
  refine zz_E.mono k ?_
  intro v h' hE
  exact zz_E.weak hE rfl trivial
theorem mb_318_250 {X : Nat → Option zz_C} {h : zz_H} (hh : 111 ≤ h.length) {s : mS} {d : Nat} {Q : Option Value → zz_H → Prop}  (k : Q none (mH h s)) : zz_E zp_P zt_tf zt_fd X d zm_318 250 [] [] (mH h s) Q := by
  refine zz_E.ret rfl rfl rfl ?_
  exact k
theorem mb_318_251 {X : Nat → Option zz_C} {h : zz_H} (hh : 111 ≤ h.length) {s : mS} {d : Nat} {Q : Option Value → zz_H → Prop} {x1 : Int32} {x2 : Int32} {x3 : Int32} {x4 : Int32} {x5 : Int32} {x6 : Int32} {x7 : Int32} (i257 : ¬ (x5 < 0 ∨ 9000 ≤ Int32.toNatClampNeg x5)) (k1 : ((s.2.2.1 50) (Int32.toNatClampNeg x5)) < 0 → zz_E zp_P zt_tf zt_fd X d zm_318 276 [(0, .ref 61)] [] (mH h s) Q) (k2 : ¬ ((s.2.2.1 50) (Int32.toNatClampNeg x5)) < 0 → zz_E zp_P zt_tf zt_fd X d zm_318 265 [(0, .ref 61), (1, .int x1), (2, .int x2), (3, .int x3), (4, .int x4), (5, .int x5), (6, .int x6), (7, .int x7), (9, .int ((s.2.2.1 50) (Int32.toNatClampNeg x5)))] [] (mH h s) Q) : zz_E zp_P zt_tf zt_fd X d zm_318 251 [(0, .ref 61), (1, .int x1), (2, .int x2), (3, .int x3), (4, .int x4), (5, .int x5), (6, .int x6), (7, .int x7)] [] (mH h s) Q := by
  refine zz_E.n 252 rfl rfl rfl ?_
  refine mE_g hh 255 (v := .ref 91) rfl rfl rfl ?_
  refine zz_E.n 257 rfl rfl rfl ?_
  refine mE_ia hh 258 30 (f := (s.2.2.1 50)) rfl (by decide) rfl rfl i257 rfl ?_
  refine zz_E.n 260 rfl rfl rfl ?_
  refine zz_E.n 262 rfl rfl rfl ?_
  refine zz_E.b1 276 265 (A := ((s.2.2.1 50) (Int32.toNatClampNeg x5)) < 0) rfl rfl (by decide) rfl rfl (fun c => ?_) (fun c => ?_)
  · exact zz_E.weak (k1 c) rfl ⟨rfl, trivial⟩
  · exact zz_E.weak (k2 c) rfl ⟨rfl, rfl, rfl, rfl, rfl, rfl, rfl, rfl, rfl, trivial⟩
theorem mb_318_265 {X : Nat → Option zz_C} {h : zz_H} (hh : 111 ≤ h.length) {s : mS} {d : Nat} {Q : Option Value → zz_H → Prop} {x1 : Int32} {x2 : Int32} {x3 : Int32} {x4 : Int32} {x5 : Int32} {x6 : Int32} {x7 : Int32} {x9 : Int32} (k : zz_E zp_P zt_tf zt_fd X d zm_77 0 [(0, .ref 61), (1, .int x6)] [] (mH h s) (fun v h' => zz_E zp_P zt_tf zt_fd X (d + 1) zm_318 273 [(0, .ref 61), (1, .int x1), (2, .int x2), (3, .int x3), (4, .int x4), (5, .int x5), (6, .int x6), (7, .int x7), (9, .int x9)] (v.toList ++ [.int x9]) h' Q)) : zz_E zp_P zt_tf zt_fd X (d + 1) zm_318 265 [(0, .ref 61), (1, .int x1), (2, .int x2), (3, .int x3), (4, .int x4), (5, .int x5), (6, .int x6), (7, .int x7), (9, .int x9)] [] (mH h s) Q := by
  refine zz_E.n 267 rfl rfl rfl ?_
  refine zz_E.n 268 rfl rfl rfl ?_
  refine zz_E.n 270 rfl rfl rfl ?_
  refine mE_cv hh 273 (as := [.int x9]) rfl rfl (Nat.le_of_ble_eq_true rfl) (Nat.le_of_ble_eq_true rfl) rfl (Nat.le_of_ble_eq_true rfl) rfl ?_
  refine zz_E.mono k ?_
  intro v h' hE
  exact zz_E.weak hE rfl ⟨rfl, rfl, rfl, rfl, rfl, rfl, rfl, rfl, rfl, trivial⟩
theorem mb_318_273 {X : Nat → Option zz_C} {h : zz_H} (hh : 111 ≤ h.length) {s : mS} {d : Nat} {Q : Option Value → zz_H → Prop} {x1 : Int32} {x2 : Int32} {x3 : Int32} {x4 : Int32} {x5 : Int32} {x6 : Int32} {x7 : Int32} {x9 : Int32} {y0 : Int32} {y1 : Int32} (k1 : y0 < y1 → zz_E zp_P zt_tf zt_fd X d zm_318 286 [(0, .ref 61), (1, .int x1), (2, .int x2), (3, .int x3), (4, .int x4), (5, .int x5), (6, .int x6), (7, .int x7), (9, .int x9)] [] (mH h s) Q) (k2 : ¬ y0 < y1 → zz_E zp_P zt_tf zt_fd X d zm_318 276 [(0, .ref 61)] [] (mH h s) Q) : zz_E zp_P zt_tf zt_fd X d zm_318 273 [(0, .ref 61), (1, .int x1), (2, .int x2), (3, .int x3), (4, .int x4), (5, .int x5), (6, .int x6), (7, .int x7), (9, .int x9)] [.int y1, .int y0] (mH h s) Q := by
  refine zz_E.b2 286 276 (A := y0 < y1) rfl rfl (by decide) rfl rfl (fun c => ?_) (fun c => ?_)
  · exact zz_E.weak (k1 c) rfl ⟨rfl, rfl, rfl, rfl, rfl, rfl, rfl, rfl, rfl, trivial⟩
  · exact zz_E.weak (k2 c) rfl ⟨rfl, trivial⟩
theorem mb_318_276 {X : Nat → Option zz_C} {h : zz_H} (hh : 111 ≤ h.length) {s : mS} {d : Nat} {Q : Option Value → zz_H → Prop}  (k : zz_E zp_P zt_tf zt_fd X d zm_301 0 [(0, .ref 61), (1, .int 5), (2, .int (s.1 70))] [] (mH h s) (fun v h' => zz_E zp_P zt_tf zt_fd X (d + 1) zm_318 285 [] (v.toList ++ []) h' Q)) : zz_E zp_P zt_tf zt_fd X (d + 1) zm_318 276 [(0, .ref 61)] [] (mH h s) Q := by
  refine zz_E.n 277 rfl rfl rfl ?_
  refine zz_E.c 278 (.int 5) rfl rfl rfl rfl ?_
  refine zz_E.n 279 rfl rfl rfl ?_
  refine mE_g hh 282 (v := .int (s.1 70)) rfl rfl rfl ?_
  refine mE_cv hh 285 (as := []) rfl rfl (Nat.le_of_ble_eq_true rfl) (Nat.le_of_ble_eq_true rfl) rfl (Nat.le_of_ble_eq_true rfl) rfl ?_
  refine zz_E.mono k ?_
  intro v h' hE
  exact zz_E.weak hE rfl trivial
theorem mb_318_285 {X : Nat → Option zz_C} {h : zz_H} (hh : 111 ≤ h.length) {s : mS} {d : Nat} {Q : Option Value → zz_H → Prop}  (k : Q none (mH h s)) : zz_E zp_P zt_tf zt_fd X d zm_318 285 [] [] (mH h s) Q := by
  refine zz_E.ret rfl rfl rfl ?_
  exact k
theorem mb_318_286 {X : Nat → Option zz_C} {h : zz_H} (hh : 111 ≤ h.length) {s : mS} {d : Nat} {Q : Option Value → zz_H → Prop} {x1 : Int32} {x2 : Int32} {x3 : Int32} {x4 : Int32} {x5 : Int32} {x6 : Int32} {x7 : Int32} {x9 : Int32} (i292 : ¬ (x4 < 0 ∨ 9000 ≤ Int32.toNatClampNeg x4)) (i301 : ¬ (x4 < 0 ∨ 9000 ≤ Int32.toNatClampNeg x4)) (k1 : x2 = 0 → zz_E zp_P zt_tf zt_fd X d zm_318 430 [(0, .ref 61), (3, .int x3), (5, .int x5), (6, .int x6), (7, .int x7), (9, .int x9), (10, .int ((s.2.2.1 49) (Int32.toNatClampNeg x4))), (11, .int ((s.2.2.1 50) (Int32.toNatClampNeg x4)))] [] (mH h s) Q) (k2 : ¬ x2 = 0 → zz_E zp_P zt_tf zt_fd X d zm_318 308 [(0, .ref 61), (1, .int x1), (3, .int x3), (5, .int x5), (6, .int x6), (7, .int x7), (9, .int x9), (11, .int ((s.2.2.1 50) (Int32.toNatClampNeg x4)))] [] (mH h s) Q) : zz_E zp_P zt_tf zt_fd X d zm_318 286 [(0, .ref 61), (1, .int x1), (2, .int x2), (3, .int x3), (4, .int x4), (5, .int x5), (6, .int x6), (7, .int x7), (9, .int x9)] [] (mH h s) Q := by
  refine zz_E.n 287 rfl rfl rfl ?_
  refine mE_g hh 290 (v := .ref 90) rfl rfl rfl ?_
  refine zz_E.n 292 rfl rfl rfl ?_
  refine mE_ia hh 293 29 (f := (s.2.2.1 49)) rfl (by decide) rfl rfl i292 rfl ?_
  refine zz_E.n 295 rfl rfl rfl ?_
  refine zz_E.n 296 rfl rfl rfl ?_
  refine mE_g hh 299 (v := .ref 91) rfl rfl rfl ?_
  refine zz_E.n 301 rfl rfl rfl ?_
  refine mE_ia hh 302 30 (f := (s.2.2.1 50)) rfl (by decide) rfl rfl i301 rfl ?_
  refine zz_E.n 304 rfl rfl rfl ?_
  refine zz_E.n 305 rfl rfl rfl ?_
  refine zz_E.b1 430 308 (A := x2 = 0) rfl rfl (by decide) rfl rfl (fun c => ?_) (fun c => ?_)
  · exact zz_E.weak (k1 c) rfl ⟨rfl, rfl, rfl, rfl, rfl, rfl, rfl, rfl, trivial⟩
  · exact zz_E.weak (k2 c) rfl ⟨rfl, rfl, rfl, rfl, rfl, rfl, rfl, rfl, trivial⟩
theorem mb_318_308 {X : Nat → Option zz_C} {h : zz_H} (hh : 111 ≤ h.length) {s : mS} {d : Nat} {Q : Option Value → zz_H → Prop} {x1 : Int32} {x3 : Int32} {x5 : Int32} {x6 : Int32} {x7 : Int32} {x9 : Int32} {x11 : Int32} (k : zz_E zp_P zt_tf zt_fd X d zm_294 0 [(0, .ref 61), (1, .int x6), (2, .int x9)] [] (mH h s) (fun v h' => zz_E zp_P zt_tf zt_fd X (d + 1) zm_318 316 [(0, .ref 61), (1, .int x1), (3, .int x3), (5, .int x5), (6, .int x6), (7, .int x7), (9, .int x9), (11, .int x11)] (v.toList ++ []) h' Q)) : zz_E zp_P zt_tf zt_fd X (d + 1) zm_318 308 [(0, .ref 61), (1, .int x1), (3, .int x3), (5, .int x5), (6, .int x6), (7, .int x7), (9, .int x9), (11, .int x11)] [] (mH h s) Q := by
  refine zz_E.n 309 rfl rfl rfl ?_
  refine zz_E.n 311 rfl rfl rfl ?_
  refine zz_E.n 313 rfl rfl rfl ?_
  refine mE_cv hh 316 (as := []) rfl rfl (Nat.le_of_ble_eq_true rfl) (Nat.le_of_ble_eq_true rfl) rfl (Nat.le_of_ble_eq_true rfl) rfl ?_
  refine zz_E.mono k ?_
  intro v h' hE
  exact zz_E.weak hE rfl ⟨rfl, rfl, rfl, rfl, rfl, rfl, rfl, rfl, trivial⟩
theorem mb_318_316 {X : Nat → Option zz_C} {h : zz_H} (hh : 111 ≤ h.length) {s : mS} {d : Nat} {Q : Option Value → zz_H → Prop} {x1 : Int32} {x3 : Int32} {x5 : Int32} {x6 : Int32} {x7 : Int32} {x9 : Int32} {x11 : Int32} {y0 : Int32} (i326 : ¬ ((x5 + 1) < 0 ∨ 9000 ≤ Int32.toNatClampNeg (x5 + 1))) (k1 : ((s.2.2.1 50) (Int32.toNatClampNeg (x5 + 1))) < 0 → zz_E zp_P zt_tf zt_fd X d zm_318 345 [(0, .ref 61), (1, .int x1)] [] (mH h s) Q) (k2 : ¬ ((s.2.2.1 50) (Int32.toNatClampNeg (x5 + 1))) < 0 → zz_E zp_P zt_tf zt_fd X d zm_318 334 [(0, .ref 61), (1, .int x1), (3, .int x3), (5, .int x5), (6, .int x6), (7, .int x7), (9, .int x9), (11, .int x11), (12, .int y0), (13, .int ((s.2.2.1 50) (Int32.toNatClampNeg (x5 + 1))))] [] (mH h s) Q) : zz_E zp_P zt_tf zt_fd X d zm_318 316 [(0, .ref 61), (1, .int x1), (3, .int x3), (5, .int x5), (6, .int x6), (7, .int x7), (9, .int x9), (11, .int x11)] [.int y0] (mH h s) Q := by
  refine zz_E.n 318 rfl rfl rfl ?_
  refine zz_E.n 319 rfl rfl rfl ?_
  refine mE_g hh 322 (v := .ref 91) rfl rfl rfl ?_
  refine zz_E.n 324 rfl rfl rfl ?_
  refine zz_E.c 325 (.int 1) rfl rfl rfl rfl ?_
  refine zz_E.n 326 rfl rfl rfl ?_
  refine mE_ia hh 327 30 (f := (s.2.2.1 50)) rfl (by decide) rfl rfl i326 rfl ?_
  refine zz_E.n 329 rfl rfl rfl ?_
  refine zz_E.n 331 rfl rfl rfl ?_
  refine zz_E.b1 345 334 (A := ((s.2.2.1 50) (Int32.toNatClampNeg (x5 + 1))) < 0) rfl rfl (by decide) rfl rfl (fun c => ?_) (fun c => ?_)
  · exact zz_E.weak (k1 c) rfl ⟨rfl, rfl, trivial⟩
  · exact zz_E.weak (k2 c) rfl ⟨rfl, rfl, rfl, rfl, rfl, rfl, rfl, rfl, rfl, rfl, trivial⟩
theorem mb_318_334 {X : Nat → Option zz_C} {h : zz_H} (hh : 111 ≤ h.length) {s : mS} {d : Nat} {Q : Option Value → zz_H → Prop} {x1 : Int32} {x3 : Int32} {x5 : Int32} {x6 : Int32} {x7 : Int32} {x9 : Int32} {x11 : Int32} {x12 : Int32} {x13 : Int32} (k : zz_E zp_P zt_tf zt_fd X d zm_77 0 [(0, .ref 61), (1, .int x12)] [] (mH h s) (fun v h' => zz_E zp_P zt_tf zt_fd X (d + 1) zm_318 342 [(0, .ref 61), (1, .int x1), (3, .int x3), (5, .int x5), (6, .int x6), (7, .int x7), (9, .int x9), (11, .int x11), (12, .int x12), (13, .int x13)] (v.toList ++ [.int x13]) h' Q)) : zz_E zp_P zt_tf zt_fd X (d + 1) zm_318 334 [(0, .ref 61), (1, .int x1), (3, .int x3), (5, .int x5), (6, .int x6), (7, .int x7), (9, .int x9), (11, .int x11), (12, .int x12), (13, .int x13)] [] (mH h s) Q := by
  refine zz_E.n 336 rfl rfl rfl ?_
  refine zz_E.n 337 rfl rfl rfl ?_
  refine zz_E.n 339 rfl rfl rfl ?_
  refine mE_cv hh 342 (as := [.int x13]) rfl rfl (Nat.le_of_ble_eq_true rfl) (Nat.le_of_ble_eq_true rfl) rfl (Nat.le_of_ble_eq_true rfl) rfl ?_
  refine zz_E.mono k ?_
  intro v h' hE
  exact zz_E.weak hE rfl ⟨rfl, rfl, rfl, rfl, rfl, rfl, rfl, rfl, rfl, rfl, trivial⟩
theorem mb_318_342 {X : Nat → Option zz_C} {h : zz_H} (hh : 111 ≤ h.length) {s : mS} {d : Nat} {Q : Option Value → zz_H → Prop} {x1 : Int32} {x3 : Int32} {x5 : Int32} {x6 : Int32} {x7 : Int32} {x9 : Int32} {x11 : Int32} {x12 : Int32} {x13 : Int32} {y0 : Int32} {y1 : Int32} (k1 : y0 < y1 → zz_E zp_P zt_tf zt_fd X d zm_318 357 [(0, .ref 61), (3, .int x3), (5, .int x5), (6, .int x6), (7, .int x7), (9, .int x9), (11, .int x11), (12, .int x12), (13, .int x13)] [] (mH h s) Q) (k2 : ¬ y0 < y1 → zz_E zp_P zt_tf zt_fd X d zm_318 345 [(0, .ref 61), (1, .int x1)] [] (mH h s) Q) : zz_E zp_P zt_tf zt_fd X d zm_318 342 [(0, .ref 61), (1, .int x1), (3, .int x3), (5, .int x5), (6, .int x6), (7, .int x7), (9, .int x9), (11, .int x11), (12, .int x12), (13, .int x13)] [.int y1, .int y0] (mH h s) Q := by
  refine zz_E.b2 357 345 (A := y0 < y1) rfl rfl (by decide) rfl rfl (fun c => ?_) (fun c => ?_)
  · exact zz_E.weak (k1 c) rfl ⟨rfl, rfl, rfl, rfl, rfl, rfl, rfl, rfl, rfl, trivial⟩
  · exact zz_E.weak (k2 c) rfl ⟨rfl, rfl, trivial⟩
theorem mb_318_345 {X : Nat → Option zz_C} {h : zz_H} (hh : 111 ≤ h.length) {s : mS} {d : Nat} {Q : Option Value → zz_H → Prop} {x1 : Int32} (i352 : ¬ (x1 < 0 ∨ 8000 ≤ Int32.toNatClampNeg x1)) (k : zz_E zp_P zt_tf zt_fd X d zm_301 0 [(0, .ref 61), (1, .int 5), (2, .int ((s.2.2.1 25) (Int32.toNatClampNeg x1)))] [] (mH h s) (fun v h' => zz_E zp_P zt_tf zt_fd X (d + 1) zm_318 356 [] (v.toList ++ []) h' Q)) : zz_E zp_P zt_tf zt_fd X (d + 1) zm_318 345 [(0, .ref 61), (1, .int x1)] [] (mH h s) Q := by
  refine zz_E.n 346 rfl rfl rfl ?_
  refine zz_E.c 347 (.int 5) rfl rfl rfl rfl ?_
  refine zz_E.n 348 rfl rfl rfl ?_
  refine mE_g hh 351 (v := .ref 73) rfl rfl rfl ?_
  refine zz_E.n 352 rfl rfl rfl ?_
  refine mE_ia hh 353 12 (f := (s.2.2.1 25)) rfl (by decide) rfl rfl i352 rfl ?_
  refine mE_cv hh 356 (as := []) rfl rfl (Nat.le_of_ble_eq_true rfl) (Nat.le_of_ble_eq_true rfl) rfl (Nat.le_of_ble_eq_true rfl) rfl ?_
  refine zz_E.mono k ?_
  intro v h' hE
  exact zz_E.weak hE rfl trivial
theorem mb_318_356 {X : Nat → Option zz_C} {h : zz_H} (hh : 111 ≤ h.length) {s : mS} {d : Nat} {Q : Option Value → zz_H → Prop}  (k : Q none (mH h s)) : zz_E zp_P zt_tf zt_fd X d zm_318 356 [] [] (mH h s) Q := by
  refine zz_E.ret rfl rfl rfl ?_
  exact k
theorem mb_318_357 {X : Nat → Option zz_C} {h : zz_H} (hh : 111 ≤ h.length) {s : mS} {d : Nat} {Q : Option Value → zz_H → Prop} {x3 : Int32} {x5 : Int32} {x6 : Int32} {x7 : Int32} {x9 : Int32} {x11 : Int32} {x12 : Int32} {x13 : Int32} (k : zz_E zp_P zt_tf zt_fd X d zm_318 360 [(0, .ref 61), (3, .int x3), (5, .int x5), (6, .int x6), (7, .int x7), (9, .int x9), (11, .int x11), (12, .int x12), (13, .int x13), (14, .int 0)] [] (mH h s) Q) : zz_E zp_P zt_tf zt_fd X d zm_318 357 [(0, .ref 61), (3, .int x3), (5, .int x5), (6, .int x6), (7, .int x7), (9, .int x9), (11, .int x11), (12, .int x12), (13, .int x13)] [] (mH h s) Q := by
  refine zz_E.c 358 (.int 0) rfl rfl rfl rfl ?_
  refine zz_E.n 360 rfl rfl rfl ?_
  exact zz_E.weak k rfl ⟨rfl, rfl, rfl, rfl, rfl, rfl, rfl, rfl, rfl, rfl, trivial⟩
theorem mb_318_360 {X : Nat → Option zz_C} {h : zz_H} (hh : 111 ≤ h.length) {s : mS} {d : Nat} {Q : Option Value → zz_H → Prop} {x3 : Int32} {x5 : Int32} {x6 : Int32} {x7 : Int32} {x9 : Int32} {x11 : Int32} {x12 : Int32} {x13 : Int32} {x14 : Int32} (k : zz_E zp_P zt_tf zt_fd X d zm_77 0 [(0, .ref 61), (1, .int x12)] [] (mH h s) (fun v h' => zz_E zp_P zt_tf zt_fd X (d + 1) zm_318 368 [(0, .ref 61), (3, .int x3), (5, .int x5), (6, .int x6), (7, .int x7), (9, .int x9), (11, .int x11), (12, .int x12), (13, .int x13), (14, .int x14)] (v.toList ++ [.int x14]) h' Q)) : zz_E zp_P zt_tf zt_fd X (d + 1) zm_318 360 [(0, .ref 61), (3, .int x3), (5, .int x5), (6, .int x6), (7, .int x7), (9, .int x9), (11, .int x11), (12, .int x12), (13, .int x13), (14, .int x14)] [] (mH h s) Q := by
  refine zz_E.n 362 rfl rfl rfl ?_
  refine zz_E.n 363 rfl rfl rfl ?_
  refine zz_E.n 365 rfl rfl rfl ?_
  refine mE_cv hh 368 (as := [.int x14]) rfl rfl (Nat.le_of_ble_eq_true rfl) (Nat.le_of_ble_eq_true rfl) rfl (Nat.le_of_ble_eq_true rfl) rfl ?_
  refine zz_E.mono k ?_
  intro v h' hE
  exact zz_E.weak hE rfl ⟨rfl, rfl, rfl, rfl, rfl, rfl, rfl, rfl, rfl, rfl, trivial⟩
theorem mb_318_368 {X : Nat → Option zz_C} {h : zz_H} (hh : 111 ≤ h.length) {s : mS} {d : Nat} {Q : Option Value → zz_H → Prop} {x3 : Int32} {x5 : Int32} {x6 : Int32} {x7 : Int32} {x9 : Int32} {x11 : Int32} {x12 : Int32} {x13 : Int32} {x14 : Int32} {y0 : Int32} {y1 : Int32} (k1 : y1 ≤ y0 → zz_E zp_P zt_tf zt_fd X d zm_318 406 [(0, .ref 61), (3, .int x3), (5, .int x5), (6, .int x6), (7, .int x7), (9, .int x9)] [] (mH h s) Q) (k2 : ¬ y1 ≤ y0 → zz_E zp_P zt_tf zt_fd X d zm_318 371 [(0, .ref 61), (3, .int x3), (5, .int x5), (6, .int x6), (7, .int x7), (9, .int x9), (11, .int x11), (12, .int x12), (13, .int x13), (14, .int x14)] [] (mH h s) Q) : zz_E zp_P zt_tf zt_fd X d zm_318 368 [(0, .ref 61), (3, .int x3), (5, .int x5), (6, .int x6), (7, .int x7), (9, .int x9), (11, .int x11), (12, .int x12), (13, .int x13), (14, .int x14)] [.int y1, .int y0] (mH h s) Q := by
  refine zz_E.b2 406 371 (A := y1 ≤ y0) rfl rfl (by decide) rfl rfl (fun c => ?_) (fun c => ?_)
  · exact zz_E.weak (k1 c) rfl ⟨rfl, rfl, rfl, rfl, rfl, rfl, trivial⟩
  · exact zz_E.weak (k2 c) rfl ⟨rfl, rfl, rfl, rfl, rfl, rfl, rfl, rfl, rfl, rfl, trivial⟩
theorem mb_318_371 {X : Nat → Option zz_C} {h : zz_H} (hh : 111 ≤ h.length) {s : mS} {d : Nat} {Q : Option Value → zz_H → Prop} {x3 : Int32} {x5 : Int32} {x6 : Int32} {x7 : Int32} {x9 : Int32} {x11 : Int32} {x12 : Int32} {x13 : Int32} {x14 : Int32} (k1 : ¬ x14 = x13 → zz_E zp_P zt_tf zt_fd X d zm_318 385 [(0, .ref 61), (3, .int x3), (5, .int x5), (6, .int x6), (7, .int x7), (9, .int x9), (11, .int x11), (12, .int x12), (13, .int x13), (14, .int x14)] [.int 0, .ref 61] (mH h s) Q) (k2 : ¬ ¬ x14 = x13 → zz_E zp_P zt_tf zt_fd X d zm_318 380 [(0, .ref 61), (3, .int x3), (5, .int x5), (6, .int x6), (7, .int x7), (9, .int x9), (11, .int x11), (12, .int x12), (13, .int x13), (14, .int x14)] [.int 0, .ref 61] (mH h s) Q) : zz_E zp_P zt_tf zt_fd X d zm_318 371 [(0, .ref 61), (3, .int x3), (5, .int x5), (6, .int x6), (7, .int x7), (9, .int x9), (11, .int x11), (12, .int x12), (13, .int x13), (14, .int x14)] [] (mH h s) Q := by
  refine zz_E.n 372 rfl rfl rfl ?_
  refine zz_E.c 373 (.int 0) rfl rfl rfl rfl ?_
  refine zz_E.n 375 rfl rfl rfl ?_
  refine zz_E.n 377 rfl rfl rfl ?_
  refine zz_E.b2 385 380 (A := ¬ x14 = x13) rfl (zz_cond_ne _ _) (by decide) rfl rfl (fun c => ?_) (fun c => ?_)
  · exact zz_E.weak (k1 c) rfl ⟨rfl, rfl, rfl, rfl, rfl, rfl, rfl, rfl, rfl, rfl, trivial⟩
  · exact zz_E.weak (k2 c) rfl ⟨rfl, rfl, rfl, rfl, rfl, rfl, rfl, rfl, rfl, rfl, trivial⟩
theorem mb_318_380 {X : Nat → Option zz_C} {h : zz_H} (hh : 111 ≤ h.length) {s : mS} {d : Nat} {Q : Option Value → zz_H → Prop} {x3 : Int32} {x5 : Int32} {x6 : Int32} {x7 : Int32} {x9 : Int32} {x11 : Int32} {x12 : Int32} {x13 : Int32} {x14 : Int32} {y1 : Int32} (k : zz_E zp_P zt_tf zt_fd X d zm_318 397 [(0, .ref 61), (3, .int x3), (5, .int x5), (6, .int x6), (7, .int x7), (9, .int x9), (11, .int x11), (12, .int x12), (13, .int x13), (14, .int x14)] [.int x11, .int y1, .ref 61] (mH h s) Q) : zz_E zp_P zt_tf zt_fd X d zm_318 380 [(0, .ref 61), (3, .int x3), (5, .int x5), (6, .int x6), (7, .int x7), (9, .int x9), (11, .int x11), (12, .int x12), (13, .int x13), (14, .int x14)] [.int y1, .ref 61] (mH h s) Q := by
  refine zz_E.n 382 rfl rfl rfl ?_
  refine zz_E.n 397 rfl rfl rfl ?_
  exact zz_E.weak k rfl ⟨rfl, rfl, rfl, rfl, rfl, rfl, rfl, rfl, rfl, rfl, trivial⟩
theorem mb_318_385 {X : Nat → Option zz_C} {h : zz_H} (hh : 111 ≤ h.length) {s : mS} {d : Nat} {Q : Option Value → zz_H → Prop} {x3 : Int32} {x5 : Int32} {x6 : Int32} {x7 : Int32} {x9 : Int32} {x11 : Int32} {x12 : Int32} {x13 : Int32} {x14 : Int32} {y1 : Int32} (i396 : ¬ (((x12 + 2) + x14) < 0 ∨ 166300 ≤ Int32.toNatClampNeg ((x12 + 2) + x14))) (k : zz_E zp_P zt_tf zt_fd X d zm_318 397 [(0, .ref 61), (3, .int x3), (5, .int x5), (6, .int x6), (7, .int x7), (9, .int x9), (11, .int x11), (12, .int x12), (13, .int x13), (14, .int x14)] [.int ((s.2.2.1 47) (Int32.toNatClampNeg ((x12 + 2) + x14))), .int y1, .ref 61] (mH h s) Q) : zz_E zp_P zt_tf zt_fd X d zm_318 385 [(0, .ref 61), (3, .int x3), (5, .int x5), (6, .int x6), (7, .int x7), (9, .int x9), (11, .int x11), (12, .int x12), (13, .int x13), (14, .int x14)] [.int y1, .ref 61] (mH h s) Q := by
  refine zz_E.n 386 rfl rfl rfl ?_
  refine mE_g hh 389 (v := .ref 89) rfl rfl rfl ?_
  refine zz_E.n 391 rfl rfl rfl ?_
  refine zz_E.c 392 (.int 2) rfl rfl rfl rfl ?_
  refine zz_E.n 393 rfl rfl rfl ?_
  refine zz_E.n 395 rfl rfl rfl ?_
  refine zz_E.n 396 rfl rfl rfl ?_
  refine mE_ia hh 397 28 (f := (s.2.2.1 47)) rfl (by decide) rfl rfl i396 rfl ?_
  exact zz_E.weak k rfl ⟨rfl, rfl, rfl, rfl, rfl, rfl, rfl, rfl, rfl, rfl, trivial⟩
theorem mb_318_397 {X : Nat → Option zz_C} {h : zz_H} (hh : 111 ≤ h.length) {s : mS} {d : Nat} {Q : Option Value → zz_H → Prop} {x3 : Int32} {x5 : Int32} {x6 : Int32} {x7 : Int32} {x9 : Int32} {x11 : Int32} {x12 : Int32} {x13 : Int32} {x14 : Int32} {y1 : Int32} {y2 : Int32} (k : zz_E zp_P zt_tf zt_fd X d zm_291 0 [(0, .ref 61), (1, .int y1), (2, .int y2)] [] (mH h s) (fun v h' => zz_E zp_P zt_tf zt_fd X (d + 1) zm_318 400 [(0, .ref 61), (3, .int x3), (5, .int x5), (6, .int x6), (7, .int x7), (9, .int x9), (11, .int x11), (12, .int x12), (13, .int x13), (14, .int x14)] (v.toList ++ []) h' Q)) : zz_E zp_P zt_tf zt_fd X (d + 1) zm_318 397 [(0, .ref 61), (3, .int x3), (5, .int x5), (6, .int x6), (7, .int x7), (9, .int x9), (11, .int x11), (12, .int x12), (13, .int x13), (14, .int x14)] [.int y2, .int y1, .ref 61] (mH h s) Q := by
  refine mE_cv hh 400 (as := []) rfl rfl (Nat.le_of_ble_eq_true rfl) (Nat.le_of_ble_eq_true rfl) rfl (Nat.le_of_ble_eq_true rfl) rfl ?_
  refine zz_E.mono k ?_
  intro v h' hE
  exact zz_E.weak hE rfl ⟨rfl, rfl, rfl, rfl, rfl, rfl, rfl, rfl, rfl, rfl, trivial⟩
theorem mb_318_400 {X : Nat → Option zz_C} {h : zz_H} (hh : 111 ≤ h.length) {s : mS} {d : Nat} {Q : Option Value → zz_H → Prop} {x3 : Int32} {x5 : Int32} {x6 : Int32} {x7 : Int32} {x9 : Int32} {x11 : Int32} {x12 : Int32} {x13 : Int32} {x14 : Int32} (k : zz_E zp_P zt_tf zt_fd X d zm_318 360 [(0, .ref 61), (3, .int x3), (5, .int x5), (6, .int x6), (7, .int x7), (9, .int x9), (11, .int x11), (12, .int x12), (13, .int x13), (14, .int (x14 + 1))] [] (mH h s) Q) : zz_E zp_P zt_tf zt_fd X d zm_318 400 [(0, .ref 61), (3, .int x3), (5, .int x5), (6, .int x6), (7, .int x7), (9, .int x9), (11, .int x11), (12, .int x12), (13, .int x13), (14, .int x14)] [] (mH h s) Q := by
  refine zz_E.n 403 rfl rfl rfl ?_
  refine zz_E.n 360 rfl rfl rfl ?_
  exact zz_E.weak k rfl ⟨rfl, rfl, rfl, rfl, rfl, rfl, rfl, rfl, rfl, rfl, trivial⟩
theorem mb_318_406 {X : Nat → Option zz_C} {h : zz_H} (hh : 111 ≤ h.length) {s : mS} {d : Nat} {Q : Option Value → zz_H → Prop} {x3 : Int32} {x5 : Int32} {x6 : Int32} {x7 : Int32} {x9 : Int32} (k : zz_E zp_P zt_tf zt_fd X d zm_306 0 [(0, .ref 61), (1, .int x5)] [] (mH h s) (fun v h' => zz_E zp_P zt_tf zt_fd X (d + 1) zm_318 412 [(0, .ref 61), (3, .int x3), (5, .int x5), (6, .int x6), (7, .int x7), (9, .int x9)] (v.toList ++ []) h' Q)) : zz_E zp_P zt_tf zt_fd X (d + 1) zm_318 406 [(0, .ref 61), (3, .int x3), (5, .int x5), (6, .int x6), (7, .int x7), (9, .int x9)] [] (mH h s) Q := by
  refine zz_E.n 407 rfl rfl rfl ?_
  refine zz_E.n 409 rfl rfl rfl ?_
  refine mE_cv hh 412 (as := []) rfl rfl (Nat.le_of_ble_eq_true rfl) (Nat.le_of_ble_eq_true rfl) rfl (Nat.le_of_ble_eq_true rfl) rfl ?_
  refine zz_E.mono k ?_
  intro v h' hE
  exact zz_E.weak hE rfl ⟨rfl, rfl, rfl, rfl, rfl, rfl, trivial⟩
theorem mb_318_412 {X : Nat → Option zz_C} {h : zz_H} (hh : 111 ≤ h.length) {s : mS} {d : Nat} {Q : Option Value → zz_H → Prop} {x3 : Int32} {x5 : Int32} {x6 : Int32} {x7 : Int32} {x9 : Int32} (i427 : ¬ (x5 < 0 ∨ 9000 ≤ Int32.toNatClampNeg x5)) (k : zz_E zp_P zt_tf zt_fd X d zm_318 430 [(0, .ref 61), (3, .int x3), (5, .int x5), (6, .int x6), (7, .int x7), (9, .int x9), (10, .int 1), (11, .int ((s.2.2.1 50) (Int32.toNatClampNeg x5)))] [] (mH h (mI s 51 x5)) Q) : zz_E zp_P zt_tf zt_fd X d zm_318 412 [(0, .ref 61), (3, .int x3), (5, .int x5), (6, .int x6), (7, .int x7), (9, .int x9)] [] (mH h s) Q := by
  refine zz_E.n 413 rfl rfl rfl ?_
  refine zz_E.n 415 rfl rfl rfl ?_
  refine mE_p hh 418 rfl (by decide) rfl (mF_51 _ _) rfl ?_
  refine zz_E.c 419 (.int 1) rfl rfl rfl rfl ?_
  refine zz_E.n 421 rfl rfl rfl ?_
  refine zz_E.n 422 rfl rfl rfl ?_
  refine mE_g hh 425 (v := .ref 91) rfl rfl rfl ?_
  refine zz_E.n 427 rfl rfl rfl ?_
  refine mE_ia hh 428 30 (f := (s.2.2.1 50)) rfl (by decide) rfl rfl i427 rfl ?_
  refine zz_E.n 430 rfl rfl rfl ?_
  exact zz_E.weak k rfl ⟨rfl, rfl, rfl, rfl, rfl, rfl, rfl, rfl, trivial⟩
theorem mb_318_430 {X : Nat → Option zz_C} {h : zz_H} (hh : 111 ≤ h.length) {s : mS} {d : Nat} {Q : Option Value → zz_H → Prop} {x3 : Int32} {x5 : Int32} {x6 : Int32} {x7 : Int32} {x9 : Int32} {x10 : Int32} {x11 : Int32} (k : zz_E zp_P zt_tf zt_fd X d zm_318 433 [(0, .ref 61), (3, .int x3), (5, .int x5), (6, .int x6), (7, .int x7), (9, .int x9), (10, .int x10), (11, .int x11), (12, .int 0)] [] (mH h s) Q) : zz_E zp_P zt_tf zt_fd X d zm_318 430 [(0, .ref 61), (3, .int x3), (5, .int x5), (6, .int x6), (7, .int x7), (9, .int x9), (10, .int x10), (11, .int x11)] [] (mH h s) Q := by
  refine zz_E.c 431 (.int 0) rfl rfl rfl rfl ?_
  refine zz_E.n 433 rfl rfl rfl ?_
  exact zz_E.weak k rfl ⟨rfl, rfl, rfl, rfl, rfl, rfl, rfl, rfl, rfl, trivial⟩
theorem mb_318_433 {X : Nat → Option zz_C} {h : zz_H} (hh : 111 ≤ h.length) {s : mS} {d : Nat} {Q : Option Value → zz_H → Prop} {x3 : Int32} {x5 : Int32} {x6 : Int32} {x7 : Int32} {x9 : Int32} {x10 : Int32} {x11 : Int32} {x12 : Int32} (k : zz_E zp_P zt_tf zt_fd X d zm_77 0 [(0, .ref 61), (1, .int x6)] [] (mH h s) (fun v h' => zz_E zp_P zt_tf zt_fd X (d + 1) zm_318 441 [(0, .ref 61), (3, .int x3), (5, .int x5), (6, .int x6), (7, .int x7), (9, .int x9), (10, .int x10), (11, .int x11), (12, .int x12)] (v.toList ++ [.int x12]) h' Q)) : zz_E zp_P zt_tf zt_fd X (d + 1) zm_318 433 [(0, .ref 61), (3, .int x3), (5, .int x5), (6, .int x6), (7, .int x7), (9, .int x9), (10, .int x10), (11, .int x11), (12, .int x12)] [] (mH h s) Q := by
  refine zz_E.n 435 rfl rfl rfl ?_
  refine zz_E.n 436 rfl rfl rfl ?_
  refine zz_E.n 438 rfl rfl rfl ?_
  refine mE_cv hh 441 (as := [.int x12]) rfl rfl (Nat.le_of_ble_eq_true rfl) (Nat.le_of_ble_eq_true rfl) rfl (Nat.le_of_ble_eq_true rfl) rfl ?_
  refine zz_E.mono k ?_
  intro v h' hE
  exact zz_E.weak hE rfl ⟨rfl, rfl, rfl, rfl, rfl, rfl, rfl, rfl, rfl, trivial⟩
theorem mb_318_441 {X : Nat → Option zz_C} {h : zz_H} (hh : 111 ≤ h.length) {s : mS} {d : Nat} {Q : Option Value → zz_H → Prop} {x3 : Int32} {x5 : Int32} {x6 : Int32} {x7 : Int32} {x9 : Int32} {x10 : Int32} {x11 : Int32} {x12 : Int32} {y0 : Int32} {y1 : Int32} (k1 : y1 ≤ y0 → zz_E zp_P zt_tf zt_fd X d zm_318 476 [(0, .ref 61), (3, .int x3), (5, .int x5), (7, .int x7)] [] (mH h s) Q) (k2 : ¬ y1 ≤ y0 → zz_E zp_P zt_tf zt_fd X d zm_318 444 [(0, .ref 61), (3, .int x3), (5, .int x5), (6, .int x6), (7, .int x7), (9, .int x9), (10, .int x10), (11, .int x11), (12, .int x12)] [] (mH h s) Q) : zz_E zp_P zt_tf zt_fd X d zm_318 441 [(0, .ref 61), (3, .int x3), (5, .int x5), (6, .int x6), (7, .int x7), (9, .int x9), (10, .int x10), (11, .int x11), (12, .int x12)] [.int y1, .int y0] (mH h s) Q := by
  refine zz_E.b2 476 444 (A := y1 ≤ y0) rfl rfl (by decide) rfl rfl (fun c => ?_) (fun c => ?_)
  · exact zz_E.weak (k1 c) rfl ⟨rfl, rfl, rfl, rfl, trivial⟩
  · exact zz_E.weak (k2 c) rfl ⟨rfl, rfl, rfl, rfl, rfl, rfl, rfl, rfl, rfl, trivial⟩
theorem mb_318_444 {X : Nat → Option zz_C} {h : zz_H} (hh : 111 ≤ h.length) {s : mS} {d : Nat} {Q : Option Value → zz_H → Prop} {x3 : Int32} {x5 : Int32} {x6 : Int32} {x7 : Int32} {x9 : Int32} {x10 : Int32} {x11 : Int32} {x12 : Int32} (k1 : ¬ x12 = x9 → zz_E zp_P zt_tf zt_fd X d zm_318 462 [(0, .ref 61), (3, .int x3), (5, .int x5), (6, .int x6), (7, .int x7), (9, .int x9), (10, .int x10), (11, .int x11), (12, .int x12)] [] (mH h s) Q) (k2 : ¬ ¬ x12 = x9 → zz_E zp_P zt_tf zt_fd X d zm_318 451 [(0, .ref 61), (3, .int x3), (5, .int x5), (6, .int x6), (7, .int x7), (9, .int x9), (10, .int x10), (11, .int x11), (12, .int x12)] [] (mH h s) Q) : zz_E zp_P zt_tf zt_fd X d zm_318 444 [(0, .ref 61), (3, .int x3), (5, .int x5), (6, .int x6), (7, .int x7), (9, .int x9), (10, .int x10), (11, .int x11), (12, .int x12)] [] (mH h s) Q := by
  refine zz_E.n 446 rfl rfl rfl ?_
  refine zz_E.n 448 rfl rfl rfl ?_
  refine zz_E.b2 462 451 (A := ¬ x12 = x9) rfl (zz_cond_ne _ _) (by decide) rfl rfl (fun c => ?_) (fun c => ?_)
  · exact zz_E.weak (k1 c) rfl ⟨rfl, rfl, rfl, rfl, rfl, rfl, rfl, rfl, rfl, trivial⟩
  · exact zz_E.weak (k2 c) rfl ⟨rfl, rfl, rfl, rfl, rfl, rfl, rfl, rfl, rfl, trivial⟩
theorem mb_318_451 {X : Nat → Option zz_C} {h : zz_H} (hh : 111 ≤ h.length) {s : mS} {d : Nat} {Q : Option Value → zz_H → Prop} {x3 : Int32} {x5 : Int32} {x6 : Int32} {x7 : Int32} {x9 : Int32} {x10 : Int32} {x11 : Int32} {x12 : Int32} (k : zz_E zp_P zt_tf zt_fd X d zm_291 0 [(0, .ref 61), (1, .int x10), (2, .int x11)] [] (mH h s) (fun v h' => zz_E zp_P zt_tf zt_fd X (d + 1) zm_318 459 [(0, .ref 61), (3, .int x3), (5, .int x5), (6, .int x6), (7, .int x7), (9, .int x9), (10, .int x10), (11, .int x11), (12, .int x12)] (v.toList ++ []) h' Q)) : zz_E zp_P zt_tf zt_fd X (d + 1) zm_318 451 [(0, .ref 61), (3, .int x3), (5, .int x5), (6, .int x6), (7, .int x7), (9, .int x9), (10, .int x10), (11, .int x11), (12, .int x12)] [] (mH h s) Q := by
  refine zz_E.n 452 rfl rfl rfl ?_
  refine zz_E.n 454 rfl rfl rfl ?_
  refine zz_E.n 456 rfl rfl rfl ?_
  refine mE_cv hh 459 (as := []) rfl rfl (Nat.le_of_ble_eq_true rfl) (Nat.le_of_ble_eq_true rfl) rfl (Nat.le_of_ble_eq_true rfl) rfl ?_
  refine zz_E.mono k ?_
  intro v h' hE
  exact zz_E.weak hE rfl ⟨rfl, rfl, rfl, rfl, rfl, rfl, rfl, rfl, rfl, trivial⟩
theorem mb_318_459 {X : Nat → Option zz_C} {h : zz_H} (hh : 111 ≤ h.length) {s : mS} {d : Nat} {Q : Option Value → zz_H → Prop} {x3 : Int32} {x5 : Int32} {x6 : Int32} {x7 : Int32} {x9 : Int32} {x10 : Int32} {x11 : Int32} {x12 : Int32} (k : zz_E zp_P zt_tf zt_fd X d zm_318 470 [(0, .ref 61), (3, .int x3), (5, .int x5), (6, .int x6), (7, .int x7), (9, .int x9), (10, .int x10), (11, .int x11), (12, .int x12)] [] (mH h s) Q) : zz_E zp_P zt_tf zt_fd X d zm_318 459 [(0, .ref 61), (3, .int x3), (5, .int x5), (6, .int x6), (7, .int x7), (9, .int x9), (10, .int x10), (11, .int x11), (12, .int x12)] [] (mH h s) Q := by
  refine zz_E.n 470 rfl rfl rfl ?_
  exact zz_E.weak k rfl ⟨rfl, rfl, rfl, rfl, rfl, rfl, rfl, rfl, rfl, trivial⟩
theorem mb_318_462 {X : Nat → Option zz_C} {h : zz_H} (hh : 111 ≤ h.length) {s : mS} {d : Nat} {Q : Option Value → zz_H → Prop} {x3 : Int32} {x5 : Int32} {x6 : Int32} {x7 : Int32} {x9 : Int32} {x10 : Int32} {x11 : Int32} {x12 : Int32} (k : zz_E zp_P zt_tf zt_fd X d zm_295 0 [(0, .ref 61), (1, .int x6), (2, .int x12)] [] (mH h s) (fun v h' => zz_E zp_P zt_tf zt_fd X (d + 1) zm_318 470 [(0, .ref 61), (3, .int x3), (5, .int x5), (6, .int x6), (7, .int x7), (9, .int x9), (10, .int x10), (11, .int x11), (12, .int x12)] (v.toList ++ []) h' Q)) : zz_E zp_P zt_tf zt_fd X (d + 1) zm_318 462 [(0, .ref 61), (3, .int x3), (5, .int x5), (6, .int x6), (7, .int x7), (9, .int x9), (10, .int x10), (11, .int x11), (12, .int x12)] [] (mH h s) Q := by
  refine zz_E.n 463 rfl rfl rfl ?_
  refine zz_E.n 465 rfl rfl rfl ?_
  refine zz_E.n 467 rfl rfl rfl ?_
  refine mE_cv hh 470 (as := []) rfl rfl (Nat.le_of_ble_eq_true rfl) (Nat.le_of_ble_eq_true rfl) rfl (Nat.le_of_ble_eq_true rfl) rfl ?_
  refine zz_E.mono k ?_
  intro v h' hE
  exact zz_E.weak hE rfl ⟨rfl, rfl, rfl, rfl, rfl, rfl, rfl, rfl, rfl, trivial⟩
theorem mb_318_470 {X : Nat → Option zz_C} {h : zz_H} (hh : 111 ≤ h.length) {s : mS} {d : Nat} {Q : Option Value → zz_H → Prop} {x3 : Int32} {x5 : Int32} {x6 : Int32} {x7 : Int32} {x9 : Int32} {x10 : Int32} {x11 : Int32} {x12 : Int32} (k : zz_E zp_P zt_tf zt_fd X d zm_318 433 [(0, .ref 61), (3, .int x3), (5, .int x5), (6, .int x6), (7, .int x7), (9, .int x9), (10, .int x10), (11, .int x11), (12, .int (x12 + 1))] [] (mH h s) Q) : zz_E zp_P zt_tf zt_fd X d zm_318 470 [(0, .ref 61), (3, .int x3), (5, .int x5), (6, .int x6), (7, .int x7), (9, .int x9), (10, .int x10), (11, .int x11), (12, .int x12)] [] (mH h s) Q := by
  refine zz_E.n 473 rfl rfl rfl ?_
  refine zz_E.n 433 rfl rfl rfl ?_
  exact zz_E.weak k rfl ⟨rfl, rfl, rfl, rfl, rfl, rfl, rfl, rfl, rfl, trivial⟩
theorem mb_318_476 {X : Nat → Option zz_C} {h : zz_H} (hh : 111 ≤ h.length) {s : mS} {d : Nat} {Q : Option Value → zz_H → Prop} {x3 : Int32} {x5 : Int32} {x7 : Int32} (k : zz_E zp_P zt_tf zt_fd X d zm_305 0 [(0, .ref 61), (1, .int x7), (2, .int x5)] [] (mH h s) (fun v h' => zz_E zp_P zt_tf zt_fd X (d + 1) zm_318 484 [(0, .ref 61), (3, .int x3), (5, .int x5)] (v.toList ++ []) h' Q)) : zz_E zp_P zt_tf zt_fd X (d + 1) zm_318 476 [(0, .ref 61), (3, .int x3), (5, .int x5), (7, .int x7)] [] (mH h s) Q := by
  refine zz_E.n 477 rfl rfl rfl ?_
  refine zz_E.n 479 rfl rfl rfl ?_
  refine zz_E.n 481 rfl rfl rfl ?_
  refine mE_cv hh 484 (as := []) rfl rfl (Nat.le_of_ble_eq_true rfl) (Nat.le_of_ble_eq_true rfl) rfl (Nat.le_of_ble_eq_true rfl) rfl ?_
  refine zz_E.mono k ?_
  intro v h' hE
  exact zz_E.weak hE rfl ⟨rfl, rfl, rfl, trivial⟩
theorem mb_318_484 {X : Nat → Option zz_C} {h : zz_H} (hh : 111 ≤ h.length) {s : mS} {d : Nat} {Q : Option Value → zz_H → Prop} {x3 : Int32} {x5 : Int32} (k1 : ¬ (s.1 66) = 0 → zz_E zp_P zt_tf zt_fd X d zm_318 510 [] [] (mH h (mI s 51 x5)) Q) (k2 : ¬ ¬ (s.1 66) = 0 → zz_E zp_P zt_tf zt_fd X d zm_318 497 [(0, .ref 61), (3, .int x3), (5, .int x5)] [] (mH h (mI s 51 x5)) Q) : zz_E zp_P zt_tf zt_fd X d zm_318 484 [(0, .ref 61), (3, .int x3), (5, .int x5)] [] (mH h s) Q := by
  refine zz_E.n 485 rfl rfl rfl ?_
  refine zz_E.n 487 rfl rfl rfl ?_
  refine mE_p hh 490 rfl (by decide) rfl (mF_51 _ _) rfl ?_
  refine zz_E.n 491 rfl rfl rfl ?_
  refine mE_g hh 494 (v := .int (s.1 66)) rfl rfl rfl ?_
  refine zz_E.b1 510 497 (A := ¬ (s.1 66) = 0) rfl (zz_cond_ne _ _) (by decide) rfl rfl (fun c => ?_) (fun c => ?_)
  · exact zz_E.weak (k1 c) rfl trivial
  · exact zz_E.weak (k2 c) rfl ⟨rfl, rfl, rfl, trivial⟩
theorem mb_318_497 {X : Nat → Option zz_C} {h : zz_H} (hh : 111 ≤ h.length) {s : mS} {d : Nat} {Q : Option Value → zz_H → Prop} {x3 : Int32} {x5 : Int32} (i506 : ¬ (x5 < 0 ∨ 9000 ≤ Int32.toNatClampNeg x5)) (k : zz_E zp_P zt_tf zt_fd X d zm_307 0 [(0, .ref 61), (1, .int x3), (2, .int 1), (3, .int ((s.2.2.1 50) (Int32.toNatClampNeg x5)))] [] (mH h s) (fun v h' => zz_E zp_P zt_tf zt_fd X (d + 1) zm_318 510 [] (v.toList ++ []) h' Q)) : zz_E zp_P zt_tf zt_fd X (d + 1) zm_318 497 [(0, .ref 61), (3, .int x3), (5, .int x5)] [] (mH h s) Q := by
  refine zz_E.n 498 rfl rfl rfl ?_
  refine zz_E.n 499 rfl rfl rfl ?_
  refine zz_E.c 500 (.int 1) rfl rfl rfl rfl ?_
  refine zz_E.n 501 rfl rfl rfl ?_
  refine mE_g hh 504 (v := .ref 91) rfl rfl rfl ?_
  refine zz_E.n 506 rfl rfl rfl ?_
  refine mE_ia hh 507 30 (f := (s.2.2.1 50)) rfl (by decide) rfl rfl i506 rfl ?_
  refine mE_cv hh 510 (as := []) rfl rfl (Nat.le_of_ble_eq_true rfl) (Nat.le_of_ble_eq_true rfl) rfl (Nat.le_of_ble_eq_true rfl) rfl ?_
  refine zz_E.mono k ?_
  intro v h' hE
  exact zz_E.weak hE rfl trivial
theorem mb_318_510 {X : Nat → Option zz_C} {h : zz_H} (hh : 111 ≤ h.length) {s : mS} {d : Nat} {Q : Option Value → zz_H → Prop}  (k : Q none (mH h s)) : zz_E zp_P zt_tf zt_fd X d zm_318 510 [] [] (mH h s) Q := by
  refine zz_E.ret rfl rfl rfl ?_
  exact k
def mf_318_285 (N : Nat)  (s : mS) : mO := some (s, none)
theorem mr_318_285 {X : Nat → Option zz_C} {h : zz_H} (hh : 111 ≤ h.length) {d : Nat} {N : Nat} {Q : Option Value → zz_H → Prop}  {s s' : mS} {v : Option Value} (hf : mf_318_285 N  s = some (s', v)) (k : Q v (mH h s')) : zz_E zp_P zt_tf zt_fd X (d + 4) zm_318 285 [] [] (mH h s) Q := by
  unfold mf_318_285 at hf
  cases hf
  exact mb_318_285 hh  k
def mf_318_276 (N : Nat)  (s : mS) : mO := mo_bv (mf_301 N 5 (s.1 70) s) (fun s1 => mf_318_285 N  s1)
theorem mr_318_276 {X : Nat → Option zz_C} {h : zz_H} (hh : 111 ≤ h.length) {d : Nat} {N : Nat} {Q : Option Value → zz_H → Prop}  {s s' : mS} {v : Option Value} (hf : mf_318_276 N  s = some (s', v)) (k : Q v (mH h s')) : zz_E zp_P zt_tf zt_fd X (d + 4) zm_318 276 [(0, .ref 61)] [] (mH h s) Q := by
  unfold mf_318_276 at hf
  obtain ⟨s1, e, hf⟩ := mo_bv_ok hf
  exact mb_318_276 (d := d + 3) hh  (mr_301 (d := d + 3) hh e (mr_318_285 hh hf k))
def mf_318_510 (N : Nat)  (s : mS) : mO := some (s, none)
theorem mr_318_510 {X : Nat → Option zz_C} {h : zz_H} (hh : 111 ≤ h.length) {d : Nat} {N : Nat} {Q : Option Value → zz_H → Prop}  {s s' : mS} {v : Option Value} (hf : mf_318_510 N  s = some (s', v)) (k : Q v (mH h s')) : zz_E zp_P zt_tf zt_fd X (d + 4) zm_318 510 [] [] (mH h s) Q := by
  unfold mf_318_510 at hf
  cases hf
  exact mb_318_510 hh  k
def mf_318_497 (N : Nat) (x3 : Int32) (x5 : Int32) (s : mS) : mO := if ¬ (x5 < 0 ∨ 9000 ≤ Int32.toNatClampNeg x5) then (mo_bv (mf_307 N x3 1 ((s.2.2.1 50) (Int32.toNatClampNeg x5)) s) (fun s1 => mf_318_510 N  s1)) else none
theorem mr_318_497 {X : Nat → Option zz_C} {h : zz_H} (hh : 111 ≤ h.length) {d : Nat} {N : Nat} {Q : Option Value → zz_H → Prop} {x3 : Int32} {x5 : Int32} {s s' : mS} {v : Option Value} (hf : mf_318_497 N x3 x5 s = some (s', v)) (k : Q v (mH h s')) : zz_E zp_P zt_tf zt_fd X (d + 4) zm_318 497 [(0, .ref 61), (3, .int x3), (5, .int x5)] [] (mH h s) Q := by
  unfold mf_318_497 at hf
  obtain ⟨q0, hf⟩ := mo_if hf
  obtain ⟨s1, e, hf⟩ := mo_bv_ok hf
  exact mb_318_497 (d := d + 3) hh q0 (mr_307 (d := d + 3) hh e (mr_318_510 hh hf k))
def mf_318_484 (N : Nat) (x3 : Int32) (x5 : Int32) (s : mS) : mO := if ¬ (s.1 66) = 0 then mf_318_510 N  (mI s 51 x5) else mf_318_497 N x3 x5 (mI s 51 x5)
theorem mr_318_484 {X : Nat → Option zz_C} {h : zz_H} (hh : 111 ≤ h.length) {d : Nat} {N : Nat} {Q : Option Value → zz_H → Prop} {x3 : Int32} {x5 : Int32} {s s' : mS} {v : Option Value} (hf : mf_318_484 N x3 x5 s = some (s', v)) (k : Q v (mH h s')) : zz_E zp_P zt_tf zt_fd X (d + 4) zm_318 484 [(0, .ref 61), (3, .int x3), (5, .int x5)] [] (mH h s) Q := by
  unfold mf_318_484 at hf
  refine mb_318_484 hh  (fun c => ?_) (fun c => ?_)
  · rw [if_pos c] at hf
    exact mr_318_510 hh hf k
  · rw [if_neg c] at hf
    exact mr_318_497 hh hf k
def mf_318_476 (N : Nat) (x3 : Int32) (x5 : Int32) (x7 : Int32) (s : mS) : mO := mo_bv (mf_305 N x7 x5 s) (fun s1 => mf_318_484 N x3 x5 s1)
theorem mr_318_476 {X : Nat → Option zz_C} {h : zz_H} (hh : 111 ≤ h.length) {d : Nat} {N : Nat} {Q : Option Value → zz_H → Prop} {x3 : Int32} {x5 : Int32} {x7 : Int32} {s s' : mS} {v : Option Value} (hf : mf_318_476 N x3 x5 x7 s = some (s', v)) (k : Q v (mH h s')) : zz_E zp_P zt_tf zt_fd X (d + 4) zm_318 476 [(0, .ref 61), (3, .int x3), (5, .int x5), (7, .int x7)] [] (mH h s) Q := by
  unfold mf_318_476 at hf
  obtain ⟨s1, e, hf⟩ := mo_bv_ok hf
  exact mb_318_476 (d := d + 3) hh  (mr_305 (d := d + 0) hh e (mr_318_484 hh hf k))
def mf_318_470 (N : Nat) (rc : Nat → Int32 → Int32 → Int32 → Int32 → Int32 → Int32 → Int32 → Int32 → mS → mO) (x3 : Int32) (x5 : Int32) (x6 : Int32) (x7 : Int32) (x9 : Int32) (x10 : Int32) (x11 : Int32) (x12 : Int32) (s : mS) : mO := rc 0 x10 x11 (x12 + 1) x3 x5 x6 x7 x9 s
theorem mr_318_470 {X : Nat → Option zz_C} {h : zz_H} (hh : 111 ≤ h.length) {d : Nat} {N : Nat} {rc : Nat → Int32 → Int32 → Int32 → Int32 → Int32 → Int32 → Int32 → Int32 → mS → mO} (hrc0 : ∀ {Q : Option Value → zz_H → Prop} {x3 : Int32} {x5 : Int32} {x6 : Int32} {x7 : Int32} {x9 : Int32} {x10 : Int32} {x11 : Int32} {x12 : Int32} {s s' : mS} {v : Option Value}, rc 0 x10 x11 x12 x3 x5 x6 x7 x9 s = some (s', v) → Q v (mH h s') → zz_E zp_P zt_tf zt_fd X (d + 4) zm_318 433 [(0, .ref 61), (3, .int x3), (5, .int x5), (6, .int x6), (7, .int x7), (9, .int x9), (10, .int x10), (11, .int x11), (12, .int x12)] [] (mH h s) Q) {Q : Option Value → zz_H → Prop} {x3 : Int32} {x5 : Int32} {x6 : Int32} {x7 : Int32} {x9 : Int32} {x10 : Int32} {x11 : Int32} {x12 : Int32} {s s' : mS} {v : Option Value} (hf : mf_318_470 N rc x3 x5 x6 x7 x9 x10 x11 x12 s = some (s', v)) (k : Q v (mH h s')) : zz_E zp_P zt_tf zt_fd X (d + 4) zm_318 470 [(0, .ref 61), (3, .int x3), (5, .int x5), (6, .int x6), (7, .int x7), (9, .int x9), (10, .int x10), (11, .int x11), (12, .int x12)] [] (mH h s) Q := by
  unfold mf_318_470 at hf
  exact mb_318_470 hh  (hrc0 hf k)
def mf_318_459 (N : Nat) (rc : Nat → Int32 → Int32 → Int32 → Int32 → Int32 → Int32 → Int32 → Int32 → mS → mO) (x3 : Int32) (x5 : Int32) (x6 : Int32) (x7 : Int32) (x9 : Int32) (x10 : Int32) (x11 : Int32) (x12 : Int32) (s : mS) : mO := mf_318_470 N rc x3 x5 x6 x7 x9 x10 x11 x12 s
theorem mr_318_459 {X : Nat → Option zz_C} {h : zz_H} (hh : 111 ≤ h.length) {d : Nat} {N : Nat} {rc : Nat → Int32 → Int32 → Int32 → Int32 → Int32 → Int32 → Int32 → Int32 → mS → mO} (hrc0 : ∀ {Q : Option Value → zz_H → Prop} {x3 : Int32} {x5 : Int32} {x6 : Int32} {x7 : Int32} {x9 : Int32} {x10 : Int32} {x11 : Int32} {x12 : Int32} {s s' : mS} {v : Option Value}, rc 0 x10 x11 x12 x3 x5 x6 x7 x9 s = some (s', v) → Q v (mH h s') → zz_E zp_P zt_tf zt_fd X (d + 4) zm_318 433 [(0, .ref 61), (3, .int x3), (5, .int x5), (6, .int x6), (7, .int x7), (9, .int x9), (10, .int x10), (11, .int x11), (12, .int x12)] [] (mH h s) Q) {Q : Option Value → zz_H → Prop} {x3 : Int32} {x5 : Int32} {x6 : Int32} {x7 : Int32} {x9 : Int32} {x10 : Int32} {x11 : Int32} {x12 : Int32} {s s' : mS} {v : Option Value} (hf : mf_318_459 N rc x3 x5 x6 x7 x9 x10 x11 x12 s = some (s', v)) (k : Q v (mH h s')) : zz_E zp_P zt_tf zt_fd X (d + 4) zm_318 459 [(0, .ref 61), (3, .int x3), (5, .int x5), (6, .int x6), (7, .int x7), (9, .int x9), (10, .int x10), (11, .int x11), (12, .int x12)] [] (mH h s) Q := by
  unfold mf_318_459 at hf
  exact mb_318_459 hh  (mr_318_470 hh hrc0 hf k)
def mf_318_451 (N : Nat) (rc : Nat → Int32 → Int32 → Int32 → Int32 → Int32 → Int32 → Int32 → Int32 → mS → mO) (x3 : Int32) (x5 : Int32) (x6 : Int32) (x7 : Int32) (x9 : Int32) (x10 : Int32) (x11 : Int32) (x12 : Int32) (s : mS) : mO := mo_bv (mf_291 N x10 x11 s) (fun s1 => mf_318_459 N rc x3 x5 x6 x7 x9 x10 x11 x12 s1)
theorem mr_318_451 {X : Nat → Option zz_C} {h : zz_H} (hh : 111 ≤ h.length) {d : Nat} {N : Nat} {rc : Nat → Int32 → Int32 → Int32 → Int32 → Int32 → Int32 → Int32 → Int32 → mS → mO} (hrc0 : ∀ {Q : Option Value → zz_H → Prop} {x3 : Int32} {x5 : Int32} {x6 : Int32} {x7 : Int32} {x9 : Int32} {x10 : Int32} {x11 : Int32} {x12 : Int32} {s s' : mS} {v : Option Value}, rc 0 x10 x11 x12 x3 x5 x6 x7 x9 s = some (s', v) → Q v (mH h s') → zz_E zp_P zt_tf zt_fd X (d + 4) zm_318 433 [(0, .ref 61), (3, .int x3), (5, .int x5), (6, .int x6), (7, .int x7), (9, .int x9), (10, .int x10), (11, .int x11), (12, .int x12)] [] (mH h s) Q) {Q : Option Value → zz_H → Prop} {x3 : Int32} {x5 : Int32} {x6 : Int32} {x7 : Int32} {x9 : Int32} {x10 : Int32} {x11 : Int32} {x12 : Int32} {s s' : mS} {v : Option Value} (hf : mf_318_451 N rc x3 x5 x6 x7 x9 x10 x11 x12 s = some (s', v)) (k : Q v (mH h s')) : zz_E zp_P zt_tf zt_fd X (d + 4) zm_318 451 [(0, .ref 61), (3, .int x3), (5, .int x5), (6, .int x6), (7, .int x7), (9, .int x9), (10, .int x10), (11, .int x11), (12, .int x12)] [] (mH h s) Q := by
  unfold mf_318_451 at hf
  obtain ⟨s1, e, hf⟩ := mo_bv_ok hf
  exact mb_318_451 (d := d + 3) hh  (mr_291 (d := d + 3) hh e (mr_318_459 hh hrc0 hf k))
def mf_318_462 (N : Nat) (rc : Nat → Int32 → Int32 → Int32 → Int32 → Int32 → Int32 → Int32 → Int32 → mS → mO) (x3 : Int32) (x5 : Int32) (x6 : Int32) (x7 : Int32) (x9 : Int32) (x10 : Int32) (x11 : Int32) (x12 : Int32) (s : mS) : mO := mo_bv (mf_295 N x6 x12 s) (fun s1 => mf_318_470 N rc x3 x5 x6 x7 x9 x10 x11 x12 s1)
theorem mr_318_462 {X : Nat → Option zz_C} {h : zz_H} (hh : 111 ≤ h.length) {d : Nat} {N : Nat} {rc : Nat → Int32 → Int32 → Int32 → Int32 → Int32 → Int32 → Int32 → Int32 → mS → mO} (hrc0 : ∀ {Q : Option Value → zz_H → Prop} {x3 : Int32} {x5 : Int32} {x6 : Int32} {x7 : Int32} {x9 : Int32} {x10 : Int32} {x11 : Int32} {x12 : Int32} {s s' : mS} {v : Option Value}, rc 0 x10 x11 x12 x3 x5 x6 x7 x9 s = some (s', v) → Q v (mH h s') → zz_E zp_P zt_tf zt_fd X (d + 4) zm_318 433 [(0, .ref 61), (3, .int x3), (5, .int x5), (6, .int x6), (7, .int x7), (9, .int x9), (10, .int x10), (11, .int x11), (12, .int x12)] [] (mH h s) Q) {Q : Option Value → zz_H → Prop} {x3 : Int32} {x5 : Int32} {x6 : Int32} {x7 : Int32} {x9 : Int32} {x10 : Int32} {x11 : Int32} {x12 : Int32} {s s' : mS} {v : Option Value} (hf : mf_318_462 N rc x3 x5 x6 x7 x9 x10 x11 x12 s = some (s', v)) (k : Q v (mH h s')) : zz_E zp_P zt_tf zt_fd X (d + 4) zm_318 462 [(0, .ref 61), (3, .int x3), (5, .int x5), (6, .int x6), (7, .int x7), (9, .int x9), (10, .int x10), (11, .int x11), (12, .int x12)] [] (mH h s) Q := by
  unfold mf_318_462 at hf
  obtain ⟨s1, e, hf⟩ := mo_bv_ok hf
  exact mb_318_462 (d := d + 3) hh  (mr_295 (d := d + 2) hh e (mr_318_470 hh hrc0 hf k))
def mf_318_444 (N : Nat) (rc : Nat → Int32 → Int32 → Int32 → Int32 → Int32 → Int32 → Int32 → Int32 → mS → mO) (x3 : Int32) (x5 : Int32) (x6 : Int32) (x7 : Int32) (x9 : Int32) (x10 : Int32) (x11 : Int32) (x12 : Int32) (s : mS) : mO := if ¬ x12 = x9 then mf_318_462 N rc x3 x5 x6 x7 x9 x10 x11 x12 s else mf_318_451 N rc x3 x5 x6 x7 x9 x10 x11 x12 s
theorem mr_318_444 {X : Nat → Option zz_C} {h : zz_H} (hh : 111 ≤ h.length) {d : Nat} {N : Nat} {rc : Nat → Int32 → Int32 → Int32 → Int32 → Int32 → Int32 → Int32 → Int32 → mS → mO} (hrc0 : ∀ {Q : Option Value → zz_H → Prop} {x3 : Int32} {x5 : Int32} {x6 : Int32} {x7 : Int32} {x9 : Int32} {x10 : Int32} {x11 : Int32} {x12 : Int32} {s s' : mS} {v : Option Value}, rc 0 x10 x11 x12 x3 x5 x6 x7 x9 s = some (s', v) → Q v (mH h s') → zz_E zp_P zt_tf zt_fd X (d + 4) zm_318 433 [(0, .ref 61), (3, .int x3), (5, .int x5), (6, .int x6), (7, .int x7), (9, .int x9), (10, .int x10), (11, .int x11), (12, .int x12)] [] (mH h s) Q) {Q : Option Value → zz_H → Prop} {x3 : Int32} {x5 : Int32} {x6 : Int32} {x7 : Int32} {x9 : Int32} {x10 : Int32} {x11 : Int32} {x12 : Int32} {s s' : mS} {v : Option Value} (hf : mf_318_444 N rc x3 x5 x6 x7 x9 x10 x11 x12 s = some (s', v)) (k : Q v (mH h s')) : zz_E zp_P zt_tf zt_fd X (d + 4) zm_318 444 [(0, .ref 61), (3, .int x3), (5, .int x5), (6, .int x6), (7, .int x7), (9, .int x9), (10, .int x10), (11, .int x11), (12, .int x12)] [] (mH h s) Q := by
  unfold mf_318_444 at hf
  refine mb_318_444 hh  (fun c => ?_) (fun c => ?_)
  · rw [if_pos c] at hf
    exact mr_318_462 hh hrc0 hf k
  · rw [if_neg c] at hf
    exact mr_318_451 hh hrc0 hf k
def mf_318_441 (N : Nat) (rc : Nat → Int32 → Int32 → Int32 → Int32 → Int32 → Int32 → Int32 → Int32 → mS → mO) (x3 : Int32) (x5 : Int32) (x6 : Int32) (x7 : Int32) (x9 : Int32) (x10 : Int32) (x11 : Int32) (x12 : Int32) (y0 : Int32) (y1 : Int32) (s : mS) : mO := if y1 ≤ y0 then mf_318_476 N x3 x5 x7 s else mf_318_444 N rc x3 x5 x6 x7 x9 x10 x11 x12 s
theorem mr_318_441 {X : Nat → Option zz_C} {h : zz_H} (hh : 111 ≤ h.length) {d : Nat} {N : Nat} {rc : Nat → Int32 → Int32 → Int32 → Int32 → Int32 → Int32 → Int32 → Int32 → mS → mO} (hrc0 : ∀ {Q : Option Value → zz_H → Prop} {x3 : Int32} {x5 : Int32} {x6 : Int32} {x7 : Int32} {x9 : Int32} {x10 : Int32} {x11 : Int32} {x12 : Int32} {s s' : mS} {v : Option Value}, rc 0 x10 x11 x12 x3 x5 x6 x7 x9 s = some (s', v) → Q v (mH h s') → zz_E zp_P zt_tf zt_fd X (d + 4) zm_318 433 [(0, .ref 61), (3, .int x3), (5, .int x5), (6, .int x6), (7, .int x7), (9, .int x9), (10, .int x10), (11, .int x11), (12, .int x12)] [] (mH h s) Q) {Q : Option Value → zz_H → Prop} {x3 : Int32} {x5 : Int32} {x6 : Int32} {x7 : Int32} {x9 : Int32} {x10 : Int32} {x11 : Int32} {x12 : Int32} {y0 : Int32} {y1 : Int32} {s s' : mS} {v : Option Value} (hf : mf_318_441 N rc x3 x5 x6 x7 x9 x10 x11 x12 y0 y1 s = some (s', v)) (k : Q v (mH h s')) : zz_E zp_P zt_tf zt_fd X (d + 4) zm_318 441 [(0, .ref 61), (3, .int x3), (5, .int x5), (6, .int x6), (7, .int x7), (9, .int x9), (10, .int x10), (11, .int x11), (12, .int x12)] [.int y1, .int y0] (mH h s) Q := by
  unfold mf_318_441 at hf
  refine mb_318_441 hh  (fun c => ?_) (fun c => ?_)
  · rw [if_pos c] at hf
    exact mr_318_476 hh hf k
  · rw [if_neg c] at hf
    exact mr_318_444 hh hrc0 hf k
def mf_318_433 (N : Nat) (rc : Nat → Int32 → Int32 → Int32 → Int32 → Int32 → Int32 → Int32 → Int32 → mS → mO) (x3 : Int32) (x5 : Int32) (x6 : Int32) (x7 : Int32) (x9 : Int32) (x10 : Int32) (x11 : Int32) (x12 : Int32) (s : mS) : mO := mo_bi (mf_77 N x6 s) (fun s1 y => mf_318_441 N rc x3 x5 x6 x7 x9 x10 x11 x12 x12 y s1)
theorem mr_318_433 {X : Nat → Option zz_C} {h : zz_H} (hh : 111 ≤ h.length) {d : Nat} {N : Nat} {rc : Nat → Int32 → Int32 → Int32 → Int32 → Int32 → Int32 → Int32 → Int32 → mS → mO} (hrc0 : ∀ {Q : Option Value → zz_H → Prop} {x3 : Int32} {x5 : Int32} {x6 : Int32} {x7 : Int32} {x9 : Int32} {x10 : Int32} {x11 : Int32} {x12 : Int32} {s s' : mS} {v : Option Value}, rc 0 x10 x11 x12 x3 x5 x6 x7 x9 s = some (s', v) → Q v (mH h s') → zz_E zp_P zt_tf zt_fd X (d + 4) zm_318 433 [(0, .ref 61), (3, .int x3), (5, .int x5), (6, .int x6), (7, .int x7), (9, .int x9), (10, .int x10), (11, .int x11), (12, .int x12)] [] (mH h s) Q) {Q : Option Value → zz_H → Prop} {x3 : Int32} {x5 : Int32} {x6 : Int32} {x7 : Int32} {x9 : Int32} {x10 : Int32} {x11 : Int32} {x12 : Int32} {s s' : mS} {v : Option Value} (hf : mf_318_433 N rc x3 x5 x6 x7 x9 x10 x11 x12 s = some (s', v)) (k : Q v (mH h s')) : zz_E zp_P zt_tf zt_fd X (d + 4) zm_318 433 [(0, .ref 61), (3, .int x3), (5, .int x5), (6, .int x6), (7, .int x7), (9, .int x9), (10, .int x10), (11, .int x11), (12, .int x12)] [] (mH h s) Q := by
  unfold mf_318_433 at hf
  obtain ⟨s1, y, e, hf⟩ := mo_bi_ok hf
  exact mb_318_433 (d := d + 3) hh  (mr_77 (d := d + 3) hh e (mr_318_441 hh hrc0 hf k))
def mf_318_L6 (N : Nat) : Nat → Nat → Int32 → Int32 → Int32 → Int32 → Int32 → Int32 → Int32 → Int32 → mS → mO
  | 0, _, _, _, _, _, _, _, _, _, _ => none
  | n + 1, l, x10, x11, x12, x3, x5, x6, x7, x9, s => if l = 0 then mf_318_433 N (mf_318_L6 N n) x3 x5 x6 x7 x9 x10 x11 x12 s else none
theorem mr_318_L6 {X : Nat → Option zz_C} {h : zz_H} (hh : 111 ≤ h.length) {d : Nat} {N : Nat} : ∀ n : Nat, (∀ {Q : Option Value → zz_H → Prop} {x3 : Int32} {x5 : Int32} {x6 : Int32} {x7 : Int32} {x9 : Int32} {x10 : Int32} {x11 : Int32} {x12 : Int32} {s s' : mS} {v : Option Value}, mf_318_L6 N n 0 x10 x11 x12 x3 x5 x6 x7 x9 s = some (s', v) → Q v (mH h s') → zz_E zp_P zt_tf zt_fd X (d + 4) zm_318 433 [(0, .ref 61), (3, .int x3), (5, .int x5), (6, .int x6), (7, .int x7), (9, .int x9), (10, .int x10), (11, .int x11), (12, .int x12)] [] (mH h s) Q) := by
  intro n
  induction n with
  | zero => exact (fun hf _ => by cases hf)
  | succ n ih =>
    have h0 := @ih
    intro Q _ _ _ _ _ _ _ _ s s' v hf k
    unfold mf_318_L6 at hf
    rw [if_pos rfl] at hf
    exact mr_318_433 hh h0 hf k
def mf_318_430 (N : Nat) (x3 : Int32) (x5 : Int32) (x6 : Int32) (x7 : Int32) (x9 : Int32) (x10 : Int32) (x11 : Int32) (s : mS) : mO := mf_318_L6 N N 0 x10 x11 0 x3 x5 x6 x7 x9 s
theorem mr_318_430 {X : Nat → Option zz_C} {h : zz_H} (hh : 111 ≤ h.length) {d : Nat} {N : Nat} {Q : Option Value → zz_H → Prop} {x3 : Int32} {x5 : Int32} {x6 : Int32} {x7 : Int32} {x9 : Int32} {x10 : Int32} {x11 : Int32} {s s' : mS} {v : Option Value} (hf : mf_318_430 N x3 x5 x6 x7 x9 x10 x11 s = some (s', v)) (k : Q v (mH h s')) : zz_E zp_P zt_tf zt_fd X (d + 4) zm_318 430 [(0, .ref 61), (3, .int x3), (5, .int x5), (6, .int x6), (7, .int x7), (9, .int x9), (10, .int x10), (11, .int x11)] [] (mH h s) Q := by
  unfold mf_318_430 at hf
  exact mb_318_430 hh  (mr_318_L6 hh N hf k)
def mf_318_356 (N : Nat)  (s : mS) : mO := some (s, none)
theorem mr_318_356 {X : Nat → Option zz_C} {h : zz_H} (hh : 111 ≤ h.length) {d : Nat} {N : Nat} {Q : Option Value → zz_H → Prop}  {s s' : mS} {v : Option Value} (hf : mf_318_356 N  s = some (s', v)) (k : Q v (mH h s')) : zz_E zp_P zt_tf zt_fd X (d + 4) zm_318 356 [] [] (mH h s) Q := by
  unfold mf_318_356 at hf
  cases hf
  exact mb_318_356 hh  k
def mf_318_345 (N : Nat) (x1 : Int32) (s : mS) : mO := if ¬ (x1 < 0 ∨ 8000 ≤ Int32.toNatClampNeg x1) then (mo_bv (mf_301 N 5 ((s.2.2.1 25) (Int32.toNatClampNeg x1)) s) (fun s1 => mf_318_356 N  s1)) else none
theorem mr_318_345 {X : Nat → Option zz_C} {h : zz_H} (hh : 111 ≤ h.length) {d : Nat} {N : Nat} {Q : Option Value → zz_H → Prop} {x1 : Int32} {s s' : mS} {v : Option Value} (hf : mf_318_345 N x1 s = some (s', v)) (k : Q v (mH h s')) : zz_E zp_P zt_tf zt_fd X (d + 4) zm_318 345 [(0, .ref 61), (1, .int x1)] [] (mH h s) Q := by
  unfold mf_318_345 at hf
  obtain ⟨q0, hf⟩ := mo_if hf
  obtain ⟨s1, e, hf⟩ := mo_bv_ok hf
  exact mb_318_345 (d := d + 3) hh q0 (mr_301 (d := d + 3) hh e (mr_318_356 hh hf k))
def mf_318_412 (N : Nat) (x3 : Int32) (x5 : Int32) (x6 : Int32) (x7 : Int32) (x9 : Int32) (s : mS) : mO := if ¬ (x5 < 0 ∨ 9000 ≤ Int32.toNatClampNeg x5) then (mf_318_430 N x3 x5 x6 x7 x9 1 ((s.2.2.1 50) (Int32.toNatClampNeg x5)) (mI s 51 x5)) else none
theorem mr_318_412 {X : Nat → Option zz_C} {h : zz_H} (hh : 111 ≤ h.length) {d : Nat} {N : Nat} {Q : Option Value → zz_H → Prop} {x3 : Int32} {x5 : Int32} {x6 : Int32} {x7 : Int32} {x9 : Int32} {s s' : mS} {v : Option Value} (hf : mf_318_412 N x3 x5 x6 x7 x9 s = some (s', v)) (k : Q v (mH h s')) : zz_E zp_P zt_tf zt_fd X (d + 4) zm_318 412 [(0, .ref 61), (3, .int x3), (5, .int x5), (6, .int x6), (7, .int x7), (9, .int x9)] [] (mH h s) Q := by
  unfold mf_318_412 at hf
  obtain ⟨q0, hf⟩ := mo_if hf
  exact mb_318_412 hh q0 (mr_318_430 hh hf k)
def mf_318_406 (N : Nat) (x3 : Int32) (x5 : Int32) (x6 : Int32) (x7 : Int32) (x9 : Int32) (s : mS) : mO := mo_bv (mf_306 N x5 s) (fun s1 => mf_318_412 N x3 x5 x6 x7 x9 s1)
theorem mr_318_406 {X : Nat → Option zz_C} {h : zz_H} (hh : 111 ≤ h.length) {d : Nat} {N : Nat} {Q : Option Value → zz_H → Prop} {x3 : Int32} {x5 : Int32} {x6 : Int32} {x7 : Int32} {x9 : Int32} {s s' : mS} {v : Option Value} (hf : mf_318_406 N x3 x5 x6 x7 x9 s = some (s', v)) (k : Q v (mH h s')) : zz_E zp_P zt_tf zt_fd X (d + 4) zm_318 406 [(0, .ref 61), (3, .int x3), (5, .int x5), (6, .int x6), (7, .int x7), (9, .int x9)] [] (mH h s) Q := by
  unfold mf_318_406 at hf
  obtain ⟨s1, e, hf⟩ := mo_bv_ok hf
  exact mb_318_406 (d := d + 3) hh  (mr_306 (d := d + 2) hh e (mr_318_412 hh hf k))
def mf_318_400 (N : Nat) (rc : Nat → Int32 → Int32 → Int32 → Int32 → Int32 → Int32 → Int32 → Int32 → Int32 → mS → mO) (x3 : Int32) (x5 : Int32) (x6 : Int32) (x7 : Int32) (x9 : Int32) (x11 : Int32) (x12 : Int32) (x13 : Int32) (x14 : Int32) (s : mS) : mO := rc 0 x11 x12 x13 (x14 + 1) x3 x5 x6 x7 x9 s
theorem mr_318_400 {X : Nat → Option zz_C} {h : zz_H} (hh : 111 ≤ h.length) {d : Nat} {N : Nat} {rc : Nat → Int32 → Int32 → Int32 → Int32 → Int32 → Int32 → Int32 → Int32 → Int32 → mS → mO} (hrc0 : ∀ {Q : Option Value → zz_H → Prop} {x3 : Int32} {x5 : Int32} {x6 : Int32} {x7 : Int32} {x9 : Int32} {x11 : Int32} {x12 : Int32} {x13 : Int32} {x14 : Int32} {s s' : mS} {v : Option Value}, rc 0 x11 x12 x13 x14 x3 x5 x6 x7 x9 s = some (s', v) → Q v (mH h s') → zz_E zp_P zt_tf zt_fd X (d + 4) zm_318 360 [(0, .ref 61), (3, .int x3), (5, .int x5), (6, .int x6), (7, .int x7), (9, .int x9), (11, .int x11), (12, .int x12), (13, .int x13), (14, .int x14)] [] (mH h s) Q) {Q : Option Value → zz_H → Prop} {x3 : Int32} {x5 : Int32} {x6 : Int32} {x7 : Int32} {x9 : Int32} {x11 : Int32} {x12 : Int32} {x13 : Int32} {x14 : Int32} {s s' : mS} {v : Option Value} (hf : mf_318_400 N rc x3 x5 x6 x7 x9 x11 x12 x13 x14 s = some (s', v)) (k : Q v (mH h s')) : zz_E zp_P zt_tf zt_fd X (d + 4) zm_318 400 [(0, .ref 61), (3, .int x3), (5, .int x5), (6, .int x6), (7, .int x7), (9, .int x9), (11, .int x11), (12, .int x12), (13, .int x13), (14, .int x14)] [] (mH h s) Q := by
  unfold mf_318_400 at hf
  exact mb_318_400 hh  (hrc0 hf k)
def mf_318_397 (N : Nat) (rc : Nat → Int32 → Int32 → Int32 → Int32 → Int32 → Int32 → Int32 → Int32 → Int32 → mS → mO) (x3 : Int32) (x5 : Int32) (x6 : Int32) (x7 : Int32) (x9 : Int32) (x11 : Int32) (x12 : Int32) (x13 : Int32) (x14 : Int32) (y1 : Int32) (y2 : Int32) (s : mS) : mO := mo_bv (mf_291 N y1 y2 s) (fun s1 => mf_318_400 N rc x3 x5 x6 x7 x9 x11 x12 x13 x14 s1)
theorem mr_318_397 {X : Nat → Option zz_C} {h : zz_H} (hh : 111 ≤ h.length) {d : Nat} {N : Nat} {rc : Nat → Int32 → Int32 → Int32 → Int32 → Int32 → Int32 → Int32 → Int32 → Int32 → mS → mO} (hrc0 : ∀ {Q : Option Value → zz_H → Prop} {x3 : Int32} {x5 : Int32} {x6 : Int32} {x7 : Int32} {x9 : Int32} {x11 : Int32} {x12 : Int32} {x13 : Int32} {x14 : Int32} {s s' : mS} {v : Option Value}, rc 0 x11 x12 x13 x14 x3 x5 x6 x7 x9 s = some (s', v) → Q v (mH h s') → zz_E zp_P zt_tf zt_fd X (d + 4) zm_318 360 [(0, .ref 61), (3, .int x3), (5, .int x5), (6, .int x6), (7, .int x7), (9, .int x9), (11, .int x11), (12, .int x12), (13, .int x13), (14, .int x14)] [] (mH h s) Q) {Q : Option Value → zz_H → Prop} {x3 : Int32} {x5 : Int32} {x6 : Int32} {x7 : Int32} {x9 : Int32} {x11 : Int32} {x12 : Int32} {x13 : Int32} {x14 : Int32} {y1 : Int32} {y2 : Int32} {s s' : mS} {v : Option Value} (hf : mf_318_397 N rc x3 x5 x6 x7 x9 x11 x12 x13 x14 y1 y2 s = some (s', v)) (k : Q v (mH h s')) : zz_E zp_P zt_tf zt_fd X (d + 4) zm_318 397 [(0, .ref 61), (3, .int x3), (5, .int x5), (6, .int x6), (7, .int x7), (9, .int x9), (11, .int x11), (12, .int x12), (13, .int x13), (14, .int x14)] [.int y2, .int y1, .ref 61] (mH h s) Q := by
  unfold mf_318_397 at hf
  obtain ⟨s1, e, hf⟩ := mo_bv_ok hf
  exact mb_318_397 (d := d + 3) hh  (mr_291 (d := d + 3) hh e (mr_318_400 hh hrc0 hf k))
def mf_318_380 (N : Nat) (rc : Nat → Int32 → Int32 → Int32 → Int32 → Int32 → Int32 → Int32 → Int32 → Int32 → mS → mO) (x3 : Int32) (x5 : Int32) (x6 : Int32) (x7 : Int32) (x9 : Int32) (x11 : Int32) (x12 : Int32) (x13 : Int32) (x14 : Int32) (y1 : Int32) (s : mS) : mO := mf_318_397 N rc x3 x5 x6 x7 x9 x11 x12 x13 x14 y1 x11 s
theorem mr_318_380 {X : Nat → Option zz_C} {h : zz_H} (hh : 111 ≤ h.length) {d : Nat} {N : Nat} {rc : Nat → Int32 → Int32 → Int32 → Int32 → Int32 → Int32 → Int32 → Int32 → Int32 → mS → mO} (hrc0 : ∀ {Q : Option Value → zz_H → Prop} {x3 : Int32} {x5 : Int32} {x6 : Int32} {x7 : Int32} {x9 : Int32} {x11 : Int32} {x12 : Int32} {x13 : Int32} {x14 : Int32} {s s' : mS} {v : Option Value}, rc 0 x11 x12 x13 x14 x3 x5 x6 x7 x9 s = some (s', v) → Q v (mH h s') → zz_E zp_P zt_tf zt_fd X (d + 4) zm_318 360 [(0, .ref 61), (3, .int x3), (5, .int x5), (6, .int x6), (7, .int x7), (9, .int x9), (11, .int x11), (12, .int x12), (13, .int x13), (14, .int x14)] [] (mH h s) Q) {Q : Option Value → zz_H → Prop} {x3 : Int32} {x5 : Int32} {x6 : Int32} {x7 : Int32} {x9 : Int32} {x11 : Int32} {x12 : Int32} {x13 : Int32} {x14 : Int32} {y1 : Int32} {s s' : mS} {v : Option Value} (hf : mf_318_380 N rc x3 x5 x6 x7 x9 x11 x12 x13 x14 y1 s = some (s', v)) (k : Q v (mH h s')) : zz_E zp_P zt_tf zt_fd X (d + 4) zm_318 380 [(0, .ref 61), (3, .int x3), (5, .int x5), (6, .int x6), (7, .int x7), (9, .int x9), (11, .int x11), (12, .int x12), (13, .int x13), (14, .int x14)] [.int y1, .ref 61] (mH h s) Q := by
  unfold mf_318_380 at hf
  exact mb_318_380 hh  (mr_318_397 hh hrc0 hf k)
def mf_318_385 (N : Nat) (rc : Nat → Int32 → Int32 → Int32 → Int32 → Int32 → Int32 → Int32 → Int32 → Int32 → mS → mO) (x3 : Int32) (x5 : Int32) (x6 : Int32) (x7 : Int32) (x9 : Int32) (x11 : Int32) (x12 : Int32) (x13 : Int32) (x14 : Int32) (y1 : Int32) (s : mS) : mO := if ¬ (((x12 + 2) + x14) < 0 ∨ 166300 ≤ Int32.toNatClampNeg ((x12 + 2) + x14)) then (mf_318_397 N rc x3 x5 x6 x7 x9 x11 x12 x13 x14 y1 ((s.2.2.1 47) (Int32.toNatClampNeg ((x12 + 2) + x14))) s) else none
theorem mr_318_385 {X : Nat → Option zz_C} {h : zz_H} (hh : 111 ≤ h.length) {d : Nat} {N : Nat} {rc : Nat → Int32 → Int32 → Int32 → Int32 → Int32 → Int32 → Int32 → Int32 → Int32 → mS → mO} (hrc0 : ∀ {Q : Option Value → zz_H → Prop} {x3 : Int32} {x5 : Int32} {x6 : Int32} {x7 : Int32} {x9 : Int32} {x11 : Int32} {x12 : Int32} {x13 : Int32} {x14 : Int32} {s s' : mS} {v : Option Value}, rc 0 x11 x12 x13 x14 x3 x5 x6 x7 x9 s = some (s', v) → Q v (mH h s') → zz_E zp_P zt_tf zt_fd X (d + 4) zm_318 360 [(0, .ref 61), (3, .int x3), (5, .int x5), (6, .int x6), (7, .int x7), (9, .int x9), (11, .int x11), (12, .int x12), (13, .int x13), (14, .int x14)] [] (mH h s) Q) {Q : Option Value → zz_H → Prop} {x3 : Int32} {x5 : Int32} {x6 : Int32} {x7 : Int32} {x9 : Int32} {x11 : Int32} {x12 : Int32} {x13 : Int32} {x14 : Int32} {y1 : Int32} {s s' : mS} {v : Option Value} (hf : mf_318_385 N rc x3 x5 x6 x7 x9 x11 x12 x13 x14 y1 s = some (s', v)) (k : Q v (mH h s')) : zz_E zp_P zt_tf zt_fd X (d + 4) zm_318 385 [(0, .ref 61), (3, .int x3), (5, .int x5), (6, .int x6), (7, .int x7), (9, .int x9), (11, .int x11), (12, .int x12), (13, .int x13), (14, .int x14)] [.int y1, .ref 61] (mH h s) Q := by
  unfold mf_318_385 at hf
  obtain ⟨q0, hf⟩ := mo_if hf
  exact mb_318_385 hh q0 (mr_318_397 hh hrc0 hf k)
def mf_318_371 (N : Nat) (rc : Nat → Int32 → Int32 → Int32 → Int32 → Int32 → Int32 → Int32 → Int32 → Int32 → mS → mO) (x3 : Int32) (x5 : Int32) (x6 : Int32) (x7 : Int32) (x9 : Int32) (x11 : Int32) (x12 : Int32) (x13 : Int32) (x14 : Int32) (s : mS) : mO := if ¬ x14 = x13 then mf_318_385 N rc x3 x5 x6 x7 x9 x11 x12 x13 x14 0 s else mf_318_380 N rc x3 x5 x6 x7 x9 x11 x12 x13 x14 0 s
theorem mr_318_371 {X : Nat → Option zz_C} {h : zz_H} (hh : 111 ≤ h.length) {d : Nat} {N : Nat} {rc : Nat → Int32 → Int32 → Int32 → Int32 → Int32 → Int32 → Int32 → Int32 → Int32 → mS → mO} (hrc0 : ∀ {Q : Option Value → zz_H → Prop} {x3 : Int32} {x5 : Int32} {x6 : Int32} {x7 : Int32} {x9 : Int32} {x11 : Int32} {x12 : Int32} {x13 : Int32} {x14 : Int32} {s s' : mS} {v : Option Value}, rc 0 x11 x12 x13 x14 x3 x5 x6 x7 x9 s = some (s', v) → Q v (mH h s') → zz_E zp_P zt_tf zt_fd X (d + 4) zm_318 360 [(0, .ref 61), (3, .int x3), (5, .int x5), (6, .int x6), (7, .int x7), (9, .int x9), (11, .int x11), (12, .int x12), (13, .int x13), (14, .int x14)] [] (mH h s) Q) {Q : Option Value → zz_H → Prop} {x3 : Int32} {x5 : Int32} {x6 : Int32} {x7 : Int32} {x9 : Int32} {x11 : Int32} {x12 : Int32} {x13 : Int32} {x14 : Int32} {s s' : mS} {v : Option Value} (hf : mf_318_371 N rc x3 x5 x6 x7 x9 x11 x12 x13 x14 s = some (s', v)) (k : Q v (mH h s')) : zz_E zp_P zt_tf zt_fd X (d + 4) zm_318 371 [(0, .ref 61), (3, .int x3), (5, .int x5), (6, .int x6), (7, .int x7), (9, .int x9), (11, .int x11), (12, .int x12), (13, .int x13), (14, .int x14)] [] (mH h s) Q := by
  unfold mf_318_371 at hf
  refine mb_318_371 hh  (fun c => ?_) (fun c => ?_)
  · rw [if_pos c] at hf
    exact mr_318_385 hh hrc0 hf k
  · rw [if_neg c] at hf
    exact mr_318_380 hh hrc0 hf k
def mf_318_368 (N : Nat) (rc : Nat → Int32 → Int32 → Int32 → Int32 → Int32 → Int32 → Int32 → Int32 → Int32 → mS → mO) (x3 : Int32) (x5 : Int32) (x6 : Int32) (x7 : Int32) (x9 : Int32) (x11 : Int32) (x12 : Int32) (x13 : Int32) (x14 : Int32) (y0 : Int32) (y1 : Int32) (s : mS) : mO := if y1 ≤ y0 then mf_318_406 N x3 x5 x6 x7 x9 s else mf_318_371 N rc x3 x5 x6 x7 x9 x11 x12 x13 x14 s
theorem mr_318_368 {X : Nat → Option zz_C} {h : zz_H} (hh : 111 ≤ h.length) {d : Nat} {N : Nat} {rc : Nat → Int32 → Int32 → Int32 → Int32 → Int32 → Int32 → Int32 → Int32 → Int32 → mS → mO} (hrc0 : ∀ {Q : Option Value → zz_H → Prop} {x3 : Int32} {x5 : Int32} {x6 : Int32} {x7 : Int32} {x9 : Int32} {x11 : Int32} {x12 : Int32} {x13 : Int32} {x14 : Int32} {s s' : mS} {v : Option Value}, rc 0 x11 x12 x13 x14 x3 x5 x6 x7 x9 s = some (s', v) → Q v (mH h s') → zz_E zp_P zt_tf zt_fd X (d + 4) zm_318 360 [(0, .ref 61), (3, .int x3), (5, .int x5), (6, .int x6), (7, .int x7), (9, .int x9), (11, .int x11), (12, .int x12), (13, .int x13), (14, .int x14)] [] (mH h s) Q) {Q : Option Value → zz_H → Prop} {x3 : Int32} {x5 : Int32} {x6 : Int32} {x7 : Int32} {x9 : Int32} {x11 : Int32} {x12 : Int32} {x13 : Int32} {x14 : Int32} {y0 : Int32} {y1 : Int32} {s s' : mS} {v : Option Value} (hf : mf_318_368 N rc x3 x5 x6 x7 x9 x11 x12 x13 x14 y0 y1 s = some (s', v)) (k : Q v (mH h s')) : zz_E zp_P zt_tf zt_fd X (d + 4) zm_318 368 [(0, .ref 61), (3, .int x3), (5, .int x5), (6, .int x6), (7, .int x7), (9, .int x9), (11, .int x11), (12, .int x12), (13, .int x13), (14, .int x14)] [.int y1, .int y0] (mH h s) Q := by
  unfold mf_318_368 at hf
  refine mb_318_368 hh  (fun c => ?_) (fun c => ?_)
  · rw [if_pos c] at hf
    exact mr_318_406 hh hf k
  · rw [if_neg c] at hf
    exact mr_318_371 hh hrc0 hf k
def mf_318_360 (N : Nat) (rc : Nat → Int32 → Int32 → Int32 → Int32 → Int32 → Int32 → Int32 → Int32 → Int32 → mS → mO) (x3 : Int32) (x5 : Int32) (x6 : Int32) (x7 : Int32) (x9 : Int32) (x11 : Int32) (x12 : Int32) (x13 : Int32) (x14 : Int32) (s : mS) : mO := mo_bi (mf_77 N x12 s) (fun s1 y => mf_318_368 N rc x3 x5 x6 x7 x9 x11 x12 x13 x14 x14 y s1)
theorem mr_318_360 {X : Nat → Option zz_C} {h : zz_H} (hh : 111 ≤ h.length) {d : Nat} {N : Nat} {rc : Nat → Int32 → Int32 → Int32 → Int32 → Int32 → Int32 → Int32 → Int32 → Int32 → mS → mO} (hrc0 : ∀ {Q : Option Value → zz_H → Prop} {x3 : Int32} {x5 : Int32} {x6 : Int32} {x7 : Int32} {x9 : Int32} {x11 : Int32} {x12 : Int32} {x13 : Int32} {x14 : Int32} {s s' : mS} {v : Option Value}, rc 0 x11 x12 x13 x14 x3 x5 x6 x7 x9 s = some (s', v) → Q v (mH h s') → zz_E zp_P zt_tf zt_fd X (d + 4) zm_318 360 [(0, .ref 61), (3, .int x3), (5, .int x5), (6, .int x6), (7, .int x7), (9, .int x9), (11, .int x11), (12, .int x12), (13, .int x13), (14, .int x14)] [] (mH h s) Q) {Q : Option Value → zz_H → Prop} {x3 : Int32} {x5 : Int32} {x6 : Int32} {x7 : Int32} {x9 : Int32} {x11 : Int32} {x12 : Int32} {x13 : Int32} {x14 : Int32} {s s' : mS} {v : Option Value} (hf : mf_318_360 N rc x3 x5 x6 x7 x9 x11 x12 x13 x14 s = some (s', v)) (k : Q v (mH h s')) : zz_E zp_P zt_tf zt_fd X (d + 4) zm_318 360 [(0, .ref 61), (3, .int x3), (5, .int x5), (6, .int x6), (7, .int x7), (9, .int x9), (11, .int x11), (12, .int x12), (13, .int x13), (14, .int x14)] [] (mH h s) Q := by
  unfold mf_318_360 at hf
  obtain ⟨s1, y, e, hf⟩ := mo_bi_ok hf
  exact mb_318_360 (d := d + 3) hh  (mr_77 (d := d + 3) hh e (mr_318_368 hh hrc0 hf k))
def mf_318_L12 (N : Nat) : Nat → Nat → Int32 → Int32 → Int32 → Int32 → Int32 → Int32 → Int32 → Int32 → Int32 → mS → mO
  | 0, _, _, _, _, _, _, _, _, _, _, _ => none
  | n + 1, l, x11, x12, x13, x14, x3, x5, x6, x7, x9, s => if l = 0 then mf_318_360 N (mf_318_L12 N n) x3 x5 x6 x7 x9 x11 x12 x13 x14 s else none
theorem mr_318_L12 {X : Nat → Option zz_C} {h : zz_H} (hh : 111 ≤ h.length) {d : Nat} {N : Nat} : ∀ n : Nat, (∀ {Q : Option Value → zz_H → Prop} {x3 : Int32} {x5 : Int32} {x6 : Int32} {x7 : Int32} {x9 : Int32} {x11 : Int32} {x12 : Int32} {x13 : Int32} {x14 : Int32} {s s' : mS} {v : Option Value}, mf_318_L12 N n 0 x11 x12 x13 x14 x3 x5 x6 x7 x9 s = some (s', v) → Q v (mH h s') → zz_E zp_P zt_tf zt_fd X (d + 4) zm_318 360 [(0, .ref 61), (3, .int x3), (5, .int x5), (6, .int x6), (7, .int x7), (9, .int x9), (11, .int x11), (12, .int x12), (13, .int x13), (14, .int x14)] [] (mH h s) Q) := by
  intro n
  induction n with
  | zero => exact (fun hf _ => by cases hf)
  | succ n ih =>
    have h0 := @ih
    intro Q _ _ _ _ _ _ _ _ _ s s' v hf k
    unfold mf_318_L12 at hf
    rw [if_pos rfl] at hf
    exact mr_318_360 hh h0 hf k
def mf_318_357 (N : Nat) (x3 : Int32) (x5 : Int32) (x6 : Int32) (x7 : Int32) (x9 : Int32) (x11 : Int32) (x12 : Int32) (x13 : Int32) (s : mS) : mO := mf_318_L12 N N 0 x11 x12 x13 0 x3 x5 x6 x7 x9 s
theorem mr_318_357 {X : Nat → Option zz_C} {h : zz_H} (hh : 111 ≤ h.length) {d : Nat} {N : Nat} {Q : Option Value → zz_H → Prop} {x3 : Int32} {x5 : Int32} {x6 : Int32} {x7 : Int32} {x9 : Int32} {x11 : Int32} {x12 : Int32} {x13 : Int32} {s s' : mS} {v : Option Value} (hf : mf_318_357 N x3 x5 x6 x7 x9 x11 x12 x13 s = some (s', v)) (k : Q v (mH h s')) : zz_E zp_P zt_tf zt_fd X (d + 4) zm_318 357 [(0, .ref 61), (3, .int x3), (5, .int x5), (6, .int x6), (7, .int x7), (9, .int x9), (11, .int x11), (12, .int x12), (13, .int x13)] [] (mH h s) Q := by
  unfold mf_318_357 at hf
  exact mb_318_357 hh  (mr_318_L12 hh N hf k)
def mf_318_342 (N : Nat) (x1 : Int32) (x3 : Int32) (x5 : Int32) (x6 : Int32) (x7 : Int32) (x9 : Int32) (x11 : Int32) (x12 : Int32) (x13 : Int32) (y0 : Int32) (y1 : Int32) (s : mS) : mO := if y0 < y1 then mf_318_357 N x3 x5 x6 x7 x9 x11 x12 x13 s else mf_318_345 N x1 s
theorem mr_318_342 {X : Nat → Option zz_C} {h : zz_H} (hh : 111 ≤ h.length) {d : Nat} {N : Nat} {Q : Option Value → zz_H → Prop} {x1 : Int32} {x3 : Int32} {x5 : Int32} {x6 : Int32} {x7 : Int32} {x9 : Int32} {x11 : Int32} {x12 : Int32} {x13 : Int32} {y0 : Int32} {y1 : Int32} {s s' : mS} {v : Option Value} (hf : mf_318_342 N x1 x3 x5 x6 x7 x9 x11 x12 x13 y0 y1 s = some (s', v)) (k : Q v (mH h s')) : zz_E zp_P zt_tf zt_fd X (d + 4) zm_318 342 [(0, .ref 61), (1, .int x1), (3, .int x3), (5, .int x5), (6, .int x6), (7, .int x7), (9, .int x9), (11, .int x11), (12, .int x12), (13, .int x13)] [.int y1, .int y0] (mH h s) Q := by
  unfold mf_318_342 at hf
  refine mb_318_342 hh  (fun c => ?_) (fun c => ?_)
  · rw [if_pos c] at hf
    exact mr_318_357 hh hf k
  · rw [if_neg c] at hf
    exact mr_318_345 hh hf k
def mf_318_334 (N : Nat) (x1 : Int32) (x3 : Int32) (x5 : Int32) (x6 : Int32) (x7 : Int32) (x9 : Int32) (x11 : Int32) (x12 : Int32) (x13 : Int32) (s : mS) : mO := mo_bi (mf_77 N x12 s) (fun s1 y => mf_318_342 N x1 x3 x5 x6 x7 x9 x11 x12 x13 x13 y s1)
theorem mr_318_334 {X : Nat → Option zz_C} {h : zz_H} (hh : 111 ≤ h.length) {d : Nat} {N : Nat} {Q : Option Value → zz_H → Prop} {x1 : Int32} {x3 : Int32} {x5 : Int32} {x6 : Int32} {x7 : Int32} {x9 : Int32} {x11 : Int32} {x12 : Int32} {x13 : Int32} {s s' : mS} {v : Option Value} (hf : mf_318_334 N x1 x3 x5 x6 x7 x9 x11 x12 x13 s = some (s', v)) (k : Q v (mH h s')) : zz_E zp_P zt_tf zt_fd X (d + 4) zm_318 334 [(0, .ref 61), (1, .int x1), (3, .int x3), (5, .int x5), (6, .int x6), (7, .int x7), (9, .int x9), (11, .int x11), (12, .int x12), (13, .int x13)] [] (mH h s) Q := by
  unfold mf_318_334 at hf
  obtain ⟨s1, y, e, hf⟩ := mo_bi_ok hf
  exact mb_318_334 (d := d + 3) hh  (mr_77 (d := d + 3) hh e (mr_318_342 hh hf k))
def mf_318_316 (N : Nat) (x1 : Int32) (x3 : Int32) (x5 : Int32) (x6 : Int32) (x7 : Int32) (x9 : Int32) (x11 : Int32) (y0 : Int32) (s : mS) : mO := if ¬ ((x5 + 1) < 0 ∨ 9000 ≤ Int32.toNatClampNeg (x5 + 1)) then (if ((s.2.2.1 50) (Int32.toNatClampNeg (x5 + 1))) < 0 then mf_318_345 N x1 s else mf_318_334 N x1 x3 x5 x6 x7 x9 x11 y0 ((s.2.2.1 50) (Int32.toNatClampNeg (x5 + 1))) s) else none
theorem mr_318_316 {X : Nat → Option zz_C} {h : zz_H} (hh : 111 ≤ h.length) {d : Nat} {N : Nat} {Q : Option Value → zz_H → Prop} {x1 : Int32} {x3 : Int32} {x5 : Int32} {x6 : Int32} {x7 : Int32} {x9 : Int32} {x11 : Int32} {y0 : Int32} {s s' : mS} {v : Option Value} (hf : mf_318_316 N x1 x3 x5 x6 x7 x9 x11 y0 s = some (s', v)) (k : Q v (mH h s')) : zz_E zp_P zt_tf zt_fd X (d + 4) zm_318 316 [(0, .ref 61), (1, .int x1), (3, .int x3), (5, .int x5), (6, .int x6), (7, .int x7), (9, .int x9), (11, .int x11)] [.int y0] (mH h s) Q := by
  unfold mf_318_316 at hf
  obtain ⟨q0, hf⟩ := mo_if hf
  refine mb_318_316 hh q0 (fun c => ?_) (fun c => ?_)
  · rw [if_pos c] at hf
    exact mr_318_345 hh hf k
  · rw [if_neg c] at hf
    exact mr_318_334 hh hf k
def mf_318_308 (N : Nat) (x1 : Int32) (x3 : Int32) (x5 : Int32) (x6 : Int32) (x7 : Int32) (x9 : Int32) (x11 : Int32) (s : mS) : mO := mo_bi (mf_294 N x6 x9 s) (fun s1 y => mf_318_316 N x1 x3 x5 x6 x7 x9 x11 y s1)
theorem mr_318_308 {X : Nat → Option zz_C} {h : zz_H} (hh : 111 ≤ h.length) {d : Nat} {N : Nat} {Q : Option Value → zz_H → Prop} {x1 : Int32} {x3 : Int32} {x5 : Int32} {x6 : Int32} {x7 : Int32} {x9 : Int32} {x11 : Int32} {s s' : mS} {v : Option Value} (hf : mf_318_308 N x1 x3 x5 x6 x7 x9 x11 s = some (s', v)) (k : Q v (mH h s')) : zz_E zp_P zt_tf zt_fd X (d + 4) zm_318 308 [(0, .ref 61), (1, .int x1), (3, .int x3), (5, .int x5), (6, .int x6), (7, .int x7), (9, .int x9), (11, .int x11)] [] (mH h s) Q := by
  unfold mf_318_308 at hf
  obtain ⟨s1, y, e, hf⟩ := mo_bi_ok hf
  exact mb_318_308 (d := d + 3) hh  (mr_294 (d := d + 3) hh e (mr_318_316 hh hf k))
def mf_318_286 (N : Nat) (x1 : Int32) (x2 : Int32) (x3 : Int32) (x4 : Int32) (x5 : Int32) (x6 : Int32) (x7 : Int32) (x9 : Int32) (s : mS) : mO := if ¬ (x4 < 0 ∨ 9000 ≤ Int32.toNatClampNeg x4) then (if ¬ (x4 < 0 ∨ 9000 ≤ Int32.toNatClampNeg x4) then (if x2 = 0 then mf_318_430 N x3 x5 x6 x7 x9 ((s.2.2.1 49) (Int32.toNatClampNeg x4)) ((s.2.2.1 50) (Int32.toNatClampNeg x4)) s else mf_318_308 N x1 x3 x5 x6 x7 x9 ((s.2.2.1 50) (Int32.toNatClampNeg x4)) s) else none) else none
theorem mr_318_286 {X : Nat → Option zz_C} {h : zz_H} (hh : 111 ≤ h.length) {d : Nat} {N : Nat} {Q : Option Value → zz_H → Prop} {x1 : Int32} {x2 : Int32} {x3 : Int32} {x4 : Int32} {x5 : Int32} {x6 : Int32} {x7 : Int32} {x9 : Int32} {s s' : mS} {v : Option Value} (hf : mf_318_286 N x1 x2 x3 x4 x5 x6 x7 x9 s = some (s', v)) (k : Q v (mH h s')) : zz_E zp_P zt_tf zt_fd X (d + 4) zm_318 286 [(0, .ref 61), (1, .int x1), (2, .int x2), (3, .int x3), (4, .int x4), (5, .int x5), (6, .int x6), (7, .int x7), (9, .int x9)] [] (mH h s) Q := by
  unfold mf_318_286 at hf
  obtain ⟨q0, hf⟩ := mo_if hf
  obtain ⟨q1, hf⟩ := mo_if hf
  refine mb_318_286 hh q0 q1 (fun c => ?_) (fun c => ?_)
  · rw [if_pos c] at hf
    exact mr_318_430 hh hf k
  · rw [if_neg c] at hf
    exact mr_318_308 hh hf k
def mf_318_273 (N : Nat) (x1 : Int32) (x2 : Int32) (x3 : Int32) (x4 : Int32) (x5 : Int32) (x6 : Int32) (x7 : Int32) (x9 : Int32) (y0 : Int32) (y1 : Int32) (s : mS) : mO := if y0 < y1 then mf_318_286 N x1 x2 x3 x4 x5 x6 x7 x9 s else mf_318_276 N  s
theorem mr_318_273 {X : Nat → Option zz_C} {h : zz_H} (hh : 111 ≤ h.length) {d : Nat} {N : Nat} {Q : Option Value → zz_H → Prop} {x1 : Int32} {x2 : Int32} {x3 : Int32} {x4 : Int32} {x5 : Int32} {x6 : Int32} {x7 : Int32} {x9 : Int32} {y0 : Int32} {y1 : Int32} {s s' : mS} {v : Option Value} (hf : mf_318_273 N x1 x2 x3 x4 x5 x6 x7 x9 y0 y1 s = some (s', v)) (k : Q v (mH h s')) : zz_E zp_P zt_tf zt_fd X (d + 4) zm_318 273 [(0, .ref 61), (1, .int x1), (2, .int x2), (3, .int x3), (4, .int x4), (5, .int x5), (6, .int x6), (7, .int x7), (9, .int x9)] [.int y1, .int y0] (mH h s) Q := by
  unfold mf_318_273 at hf
  refine mb_318_273 hh  (fun c => ?_) (fun c => ?_)
  · rw [if_pos c] at hf
    exact mr_318_286 hh hf k
  · rw [if_neg c] at hf
    exact mr_318_276 hh hf k
def mf_318_265 (N : Nat) (x1 : Int32) (x2 : Int32) (x3 : Int32) (x4 : Int32) (x5 : Int32) (x6 : Int32) (x7 : Int32) (x9 : Int32) (s : mS) : mO := mo_bi (mf_77 N x6 s) (fun s1 y => mf_318_273 N x1 x2 x3 x4 x5 x6 x7 x9 x9 y s1)
theorem mr_318_265 {X : Nat → Option zz_C} {h : zz_H} (hh : 111 ≤ h.length) {d : Nat} {N : Nat} {Q : Option Value → zz_H → Prop} {x1 : Int32} {x2 : Int32} {x3 : Int32} {x4 : Int32} {x5 : Int32} {x6 : Int32} {x7 : Int32} {x9 : Int32} {s s' : mS} {v : Option Value} (hf : mf_318_265 N x1 x2 x3 x4 x5 x6 x7 x9 s = some (s', v)) (k : Q v (mH h s')) : zz_E zp_P zt_tf zt_fd X (d + 4) zm_318 265 [(0, .ref 61), (1, .int x1), (2, .int x2), (3, .int x3), (4, .int x4), (5, .int x5), (6, .int x6), (7, .int x7), (9, .int x9)] [] (mH h s) Q := by
  unfold mf_318_265 at hf
  obtain ⟨s1, y, e, hf⟩ := mo_bi_ok hf
  exact mb_318_265 (d := d + 3) hh  (mr_77 (d := d + 3) hh e (mr_318_273 hh hf k))
def mf_318_251 (N : Nat) (x1 : Int32) (x2 : Int32) (x3 : Int32) (x4 : Int32) (x5 : Int32) (x6 : Int32) (x7 : Int32) (s : mS) : mO := if ¬ (x5 < 0 ∨ 9000 ≤ Int32.toNatClampNeg x5) then (if ((s.2.2.1 50) (Int32.toNatClampNeg x5)) < 0 then mf_318_276 N  s else mf_318_265 N x1 x2 x3 x4 x5 x6 x7 ((s.2.2.1 50) (Int32.toNatClampNeg x5)) s) else none
theorem mr_318_251 {X : Nat → Option zz_C} {h : zz_H} (hh : 111 ≤ h.length) {d : Nat} {N : Nat} {Q : Option Value → zz_H → Prop} {x1 : Int32} {x2 : Int32} {x3 : Int32} {x4 : Int32} {x5 : Int32} {x6 : Int32} {x7 : Int32} {s s' : mS} {v : Option Value} (hf : mf_318_251 N x1 x2 x3 x4 x5 x6 x7 s = some (s', v)) (k : Q v (mH h s')) : zz_E zp_P zt_tf zt_fd X (d + 4) zm_318 251 [(0, .ref 61), (1, .int x1), (2, .int x2), (3, .int x3), (4, .int x4), (5, .int x5), (6, .int x6), (7, .int x7)] [] (mH h s) Q := by
  unfold mf_318_251 at hf
  obtain ⟨q0, hf⟩ := mo_if hf
  refine mb_318_251 hh q0 (fun c => ?_) (fun c => ?_)
  · rw [if_pos c] at hf
    exact mr_318_276 hh hf k
  · rw [if_neg c] at hf
    exact mr_318_265 hh hf k
def mf_318_250 (N : Nat)  (s : mS) : mO := some (s, none)
theorem mr_318_250 {X : Nat → Option zz_C} {h : zz_H} (hh : 111 ≤ h.length) {d : Nat} {N : Nat} {Q : Option Value → zz_H → Prop}  {s s' : mS} {v : Option Value} (hf : mf_318_250 N  s = some (s', v)) (k : Q v (mH h s')) : zz_E zp_P zt_tf zt_fd X (d + 4) zm_318 250 [] [] (mH h s) Q := by
  unfold mf_318_250 at hf
  cases hf
  exact mb_318_250 hh  k
def mf_318_241 (N : Nat)  (s : mS) : mO := mo_bv (mf_301 N 3 (s.1 70) s) (fun s1 => mf_318_250 N  s1)
theorem mr_318_241 {X : Nat → Option zz_C} {h : zz_H} (hh : 111 ≤ h.length) {d : Nat} {N : Nat} {Q : Option Value → zz_H → Prop}  {s s' : mS} {v : Option Value} (hf : mf_318_241 N  s = some (s', v)) (k : Q v (mH h s')) : zz_E zp_P zt_tf zt_fd X (d + 4) zm_318 241 [(0, .ref 61)] [] (mH h s) Q := by
  unfold mf_318_241 at hf
  obtain ⟨s1, e, hf⟩ := mo_bv_ok hf
  exact mb_318_241 (d := d + 3) hh  (mr_301 (d := d + 3) hh e (mr_318_250 hh hf k))
def mf_318_236 (N : Nat) (x1 : Int32) (x2 : Int32) (x3 : Int32) (x4 : Int32) (x5 : Int32) (x6 : Int32) (x7 : Int32) (x8 : Int32) (s : mS) : mO := if ¬ x8 = 0 then mf_318_251 N x1 x2 x3 x4 x5 x6 x7 s else mf_318_241 N  s
theorem mr_318_236 {X : Nat → Option zz_C} {h : zz_H} (hh : 111 ≤ h.length) {d : Nat} {N : Nat} {Q : Option Value → zz_H → Prop} {x1 : Int32} {x2 : Int32} {x3 : Int32} {x4 : Int32} {x5 : Int32} {x6 : Int32} {x7 : Int32} {x8 : Int32} {s s' : mS} {v : Option Value} (hf : mf_318_236 N x1 x2 x3 x4 x5 x6 x7 x8 s = some (s', v)) (k : Q v (mH h s')) : zz_E zp_P zt_tf zt_fd X (d + 4) zm_318 236 [(0, .ref 61), (1, .int x1), (2, .int x2), (3, .int x3), (4, .int x4), (5, .int x5), (6, .int x6), (7, .int x7), (8, .int x8)] [] (mH h s) Q := by
  unfold mf_318_236 at hf
  refine mb_318_236 hh  (fun c => ?_) (fun c => ?_)
  · rw [if_pos c] at hf
    exact mr_318_251 hh hf k
  · rw [if_neg c] at hf
    exact mr_318_241 hh hf k
def mf_318_234 (N : Nat) (x1 : Int32) (x2 : Int32) (x3 : Int32) (x4 : Int32) (x5 : Int32) (x6 : Int32) (x7 : Int32) (y0 : Int32) (s : mS) : mO := mf_318_236 N x1 x2 x3 x4 x5 x6 x7 y0 s
theorem mr_318_234 {X : Nat → Option zz_C} {h : zz_H} (hh : 111 ≤ h.length) {d : Nat} {N : Nat} {Q : Option Value → zz_H → Prop} {x1 : Int32} {x2 : Int32} {x3 : Int32} {x4 : Int32} {x5 : Int32} {x6 : Int32} {x7 : Int32} {y0 : Int32} {s s' : mS} {v : Option Value} (hf : mf_318_234 N x1 x2 x3 x4 x5 x6 x7 y0 s = some (s', v)) (k : Q v (mH h s')) : zz_E zp_P zt_tf zt_fd X (d + 4) zm_318 234 [(0, .ref 61), (1, .int x1), (2, .int x2), (3, .int x3), (4, .int x4), (5, .int x5), (6, .int x6), (7, .int x7)] [.int y0] (mH h s) Q := by
  unfold mf_318_234 at hf
  exact mb_318_234 hh  (mr_318_236 hh hf k)
def mf_318_233 (N : Nat) (x1 : Int32) (x2 : Int32) (x3 : Int32) (x4 : Int32) (x5 : Int32) (x6 : Int32) (x7 : Int32) (s : mS) : mO := mf_318_234 N x1 x2 x3 x4 x5 x6 x7 0 s
theorem mr_318_233 {X : Nat → Option zz_C} {h : zz_H} (hh : 111 ≤ h.length) {d : Nat} {N : Nat} {Q : Option Value → zz_H → Prop} {x1 : Int32} {x2 : Int32} {x3 : Int32} {x4 : Int32} {x5 : Int32} {x6 : Int32} {x7 : Int32} {s s' : mS} {v : Option Value} (hf : mf_318_233 N x1 x2 x3 x4 x5 x6 x7 s = some (s', v)) (k : Q v (mH h s')) : zz_E zp_P zt_tf zt_fd X (d + 4) zm_318 233 [(0, .ref 61), (1, .int x1), (2, .int x2), (3, .int x3), (4, .int x4), (5, .int x5), (6, .int x6), (7, .int x7)] [] (mH h s) Q := by
  unfold mf_318_233 at hf
  exact mb_318_233 hh  (mr_318_234 hh hf k)
def mf_318_229 (N : Nat) (x1 : Int32) (x2 : Int32) (x3 : Int32) (x4 : Int32) (x5 : Int32) (x6 : Int32) (x7 : Int32) (s : mS) : mO := mf_318_234 N x1 x2 x3 x4 x5 x6 x7 1 s
theorem mr_318_229 {X : Nat → Option zz_C} {h : zz_H} (hh : 111 ≤ h.length) {d : Nat} {N : Nat} {Q : Option Value → zz_H → Prop} {x1 : Int32} {x2 : Int32} {x3 : Int32} {x4 : Int32} {x5 : Int32} {x6 : Int32} {x7 : Int32} {s s' : mS} {v : Option Value} (hf : mf_318_229 N x1 x2 x3 x4 x5 x6 x7 s = some (s', v)) (k : Q v (mH h s')) : zz_E zp_P zt_tf zt_fd X (d + 4) zm_318 229 [(0, .ref 61), (1, .int x1), (2, .int x2), (3, .int x3), (4, .int x4), (5, .int x5), (6, .int x6), (7, .int x7)] [] (mH h s) Q := by
  unfold mf_318_229 at hf
  exact mb_318_229 hh  (mr_318_234 hh hf k)
def mf_318_225 (N : Nat) (x1 : Int32) (x2 : Int32) (x3 : Int32) (x4 : Int32) (x5 : Int32) (x6 : Int32) (x7 : Int32) (y0 : Int32) (s : mS) : mO := if ¬ y0 = 1 then mf_318_233 N x1 x2 x3 x4 x5 x6 x7 s else mf_318_229 N x1 x2 x3 x4 x5 x6 x7 s
theorem mr_318_225 {X : Nat → Option zz_C} {h : zz_H} (hh : 111 ≤ h.length) {d : Nat} {N : Nat} {Q : Option Value → zz_H → Prop} {x1 : Int32} {x2 : Int32} {x3 : Int32} {x4 : Int32} {x5 : Int32} {x6 : Int32} {x7 : Int32} {y0 : Int32} {s s' : mS} {v : Option Value} (hf : mf_318_225 N x1 x2 x3 x4 x5 x6 x7 y0 s = some (s', v)) (k : Q v (mH h s')) : zz_E zp_P zt_tf zt_fd X (d + 4) zm_318 225 [(0, .ref 61), (1, .int x1), (2, .int x2), (3, .int x3), (4, .int x4), (5, .int x5), (6, .int x6), (7, .int x7)] [.int y0] (mH h s) Q := by
  unfold mf_318_225 at hf
  refine mb_318_225 hh  (fun c => ?_) (fun c => ?_)
  · rw [if_pos c] at hf
    exact mr_318_233 hh hf k
  · rw [if_neg c] at hf
    exact mr_318_229 hh hf k
def mf_318_219 (N : Nat) (x1 : Int32) (x2 : Int32) (x3 : Int32) (x4 : Int32) (x5 : Int32) (x6 : Int32) (x7 : Int32) (s : mS) : mO := mo_bi (mf_292 N x4 s) (fun s1 y => mf_318_225 N x1 x2 x3 x4 x5 x6 x7 y s1)
theorem mr_318_219 {X : Nat → Option zz_C} {h : zz_H} (hh : 111 ≤ h.length) {d : Nat} {N : Nat} {Q : Option Value → zz_H → Prop} {x1 : Int32} {x2 : Int32} {x3 : Int32} {x4 : Int32} {x5 : Int32} {x6 : Int32} {x7 : Int32} {s s' : mS} {v : Option Value} (hf : mf_318_219 N x1 x2 x3 x4 x5 x6 x7 s = some (s', v)) (k : Q v (mH h s')) : zz_E zp_P zt_tf zt_fd X (d + 4) zm_318 219 [(0, .ref 61), (1, .int x1), (2, .int x2), (3, .int x3), (4, .int x4), (5, .int x5), (6, .int x6), (7, .int x7)] [] (mH h s) Q := by
  unfold mf_318_219 at hf
  obtain ⟨s1, y, e, hf⟩ := mo_bi_ok hf
  exact mb_318_219 (d := d + 3) hh  (mr_292 (d := d + 3) hh e (mr_318_225 hh hf k))
def mf_318_214 (N : Nat) (x1 : Int32) (x2 : Int32) (x3 : Int32) (x4 : Int32) (x5 : Int32) (x6 : Int32) (x7 : Int32) (x8 : Int32) (s : mS) : mO := if x8 = 0 then mf_318_233 N x1 x2 x3 x4 x5 x6 x7 s else mf_318_219 N x1 x2 x3 x4 x5 x6 x7 s
theorem mr_318_214 {X : Nat → Option zz_C} {h : zz_H} (hh : 111 ≤ h.length) {d : Nat} {N : Nat} {Q : Option Value → zz_H → Prop} {x1 : Int32} {x2 : Int32} {x3 : Int32} {x4 : Int32} {x5 : Int32} {x6 : Int32} {x7 : Int32} {x8 : Int32} {s s' : mS} {v : Option Value} (hf : mf_318_214 N x1 x2 x3 x4 x5 x6 x7 x8 s = some (s', v)) (k : Q v (mH h s')) : zz_E zp_P zt_tf zt_fd X (d + 4) zm_318 214 [(0, .ref 61), (1, .int x1), (2, .int x2), (3, .int x3), (4, .int x4), (5, .int x5), (6, .int x6), (7, .int x7), (8, .int x8)] [] (mH h s) Q := by
  unfold mf_318_214 at hf
  refine mb_318_214 hh  (fun c => ?_) (fun c => ?_)
  · rw [if_pos c] at hf
    exact mr_318_233 hh hf k
  · rw [if_neg c] at hf
    exact mr_318_219 hh hf k
def mf_318_208 (N : Nat) (x1 : Int32) (x2 : Int32) (x3 : Int32) (x4 : Int32) (x5 : Int32) (x6 : Int32) (x7 : Int32) (x8 : Int32) (s : mS) : mO := if ¬ x7 = 2 then mf_318_236 N x1 x2 x3 x4 x5 x6 x7 x8 s else mf_318_214 N x1 x2 x3 x4 x5 x6 x7 x8 s
theorem mr_318_208 {X : Nat → Option zz_C} {h : zz_H} (hh : 111 ≤ h.length) {d : Nat} {N : Nat} {Q : Option Value → zz_H → Prop} {x1 : Int32} {x2 : Int32} {x3 : Int32} {x4 : Int32} {x5 : Int32} {x6 : Int32} {x7 : Int32} {x8 : Int32} {s s' : mS} {v : Option Value} (hf : mf_318_208 N x1 x2 x3 x4 x5 x6 x7 x8 s = some (s', v)) (k : Q v (mH h s')) : zz_E zp_P zt_tf zt_fd X (d + 4) zm_318 208 [(0, .ref 61), (1, .int x1), (2, .int x2), (3, .int x3), (4, .int x4), (5, .int x5), (6, .int x6), (7, .int x7), (8, .int x8)] [] (mH h s) Q := by
  unfold mf_318_208 at hf
  refine mb_318_208 hh  (fun c => ?_) (fun c => ?_)
  · rw [if_pos c] at hf
    exact mr_318_236 hh hf k
  · rw [if_neg c] at hf
    exact mr_318_214 hh hf k
def mf_318_203 (N : Nat) (x1 : Int32) (x2 : Int32) (x3 : Int32) (x4 : Int32) (x5 : Int32) (x6 : Int32) (x7 : Int32) (y0 : Int32) (s : mS) : mO := mf_318_236 N x1 x2 x3 x4 x5 x6 x7 y0 s
theorem mr_318_203 {X : Nat → Option zz_C} {h : zz_H} (hh : 111 ≤ h.length) {d : Nat} {N : Nat} {Q : Option Value → zz_H → Prop} {x1 : Int32} {x2 : Int32} {x3 : Int32} {x4 : Int32} {x5 : Int32} {x6 : Int32} {x7 : Int32} {y0 : Int32} {s s' : mS} {v : Option Value} (hf : mf_318_203 N x1 x2 x3 x4 x5 x6 x7 y0 s = some (s', v)) (k : Q v (mH h s')) : zz_E zp_P zt_tf zt_fd X (d + 4) zm_318 203 [(0, .ref 61), (1, .int x1), (2, .int x2), (3, .int x3), (4, .int x4), (5, .int x5), (6, .int x6), (7, .int x7)] [.int y0] (mH h s) Q := by
  unfold mf_318_203 at hf
  exact mb_318_203 hh  (mr_318_236 hh hf k)
def mf_318_202 (N : Nat) (x1 : Int32) (x2 : Int32) (x3 : Int32) (x4 : Int32) (x5 : Int32) (x6 : Int32) (x7 : Int32) (s : mS) : mO := mf_318_203 N x1 x2 x3 x4 x5 x6 x7 0 s
theorem mr_318_202 {X : Nat → Option zz_C} {h : zz_H} (hh : 111 ≤ h.length) {d : Nat} {N : Nat} {Q : Option Value → zz_H → Prop} {x1 : Int32} {x2 : Int32} {x3 : Int32} {x4 : Int32} {x5 : Int32} {x6 : Int32} {x7 : Int32} {s s' : mS} {v : Option Value} (hf : mf_318_202 N x1 x2 x3 x4 x5 x6 x7 s = some (s', v)) (k : Q v (mH h s')) : zz_E zp_P zt_tf zt_fd X (d + 4) zm_318 202 [(0, .ref 61), (1, .int x1), (2, .int x2), (3, .int x3), (4, .int x4), (5, .int x5), (6, .int x6), (7, .int x7)] [] (mH h s) Q := by
  unfold mf_318_202 at hf
  exact mb_318_202 hh  (mr_318_203 hh hf k)
def mf_318_198 (N : Nat) (x1 : Int32) (x2 : Int32) (x3 : Int32) (x4 : Int32) (x5 : Int32) (x6 : Int32) (x7 : Int32) (s : mS) : mO := mf_318_203 N x1 x2 x3 x4 x5 x6 x7 1 s
theorem mr_318_198 {X : Nat → Option zz_C} {h : zz_H} (hh : 111 ≤ h.length) {d : Nat} {N : Nat} {Q : Option Value → zz_H → Prop} {x1 : Int32} {x2 : Int32} {x3 : Int32} {x4 : Int32} {x5 : Int32} {x6 : Int32} {x7 : Int32} {s s' : mS} {v : Option Value} (hf : mf_318_198 N x1 x2 x3 x4 x5 x6 x7 s = some (s', v)) (k : Q v (mH h s')) : zz_E zp_P zt_tf zt_fd X (d + 4) zm_318 198 [(0, .ref 61), (1, .int x1), (2, .int x2), (3, .int x3), (4, .int x4), (5, .int x5), (6, .int x6), (7, .int x7)] [] (mH h s) Q := by
  unfold mf_318_198 at hf
  exact mb_318_198 hh  (mr_318_203 hh hf k)
def mf_318_188 (N : Nat) (x1 : Int32) (x2 : Int32) (x3 : Int32) (x4 : Int32) (x5 : Int32) (x6 : Int32) (x7 : Int32) (s : mS) : mO := if ¬ (x4 < 0 ∨ 9000 ≤ Int32.toNatClampNeg x4) then (if ¬ ((s.2.2.1 49) (Int32.toNatClampNeg x4)) = 0 then mf_318_202 N x1 x2 x3 x4 x5 x6 x7 s else mf_318_198 N x1 x2 x3 x4 x5 x6 x7 s) else none
theorem mr_318_188 {X : Nat → Option zz_C} {h : zz_H} (hh : 111 ≤ h.length) {d : Nat} {N : Nat} {Q : Option Value → zz_H → Prop} {x1 : Int32} {x2 : Int32} {x3 : Int32} {x4 : Int32} {x5 : Int32} {x6 : Int32} {x7 : Int32} {s s' : mS} {v : Option Value} (hf : mf_318_188 N x1 x2 x3 x4 x5 x6 x7 s = some (s', v)) (k : Q v (mH h s')) : zz_E zp_P zt_tf zt_fd X (d + 4) zm_318 188 [(0, .ref 61), (1, .int x1), (2, .int x2), (3, .int x3), (4, .int x4), (5, .int x5), (6, .int x6), (7, .int x7)] [] (mH h s) Q := by
  unfold mf_318_188 at hf
  obtain ⟨q0, hf⟩ := mo_if hf
  refine mb_318_188 hh q0 (fun c => ?_) (fun c => ?_)
  · rw [if_pos c] at hf
    exact mr_318_202 hh hf k
  · rw [if_neg c] at hf
    exact mr_318_198 hh hf k
def mf_318_183 (N : Nat) (x1 : Int32) (x2 : Int32) (x3 : Int32) (x4 : Int32) (x5 : Int32) (x6 : Int32) (x7 : Int32) (x8 : Int32) (s : mS) : mO := if x8 = 0 then mf_318_202 N x1 x2 x3 x4 x5 x6 x7 s else mf_318_188 N x1 x2 x3 x4 x5 x6 x7 s
theorem mr_318_183 {X : Nat → Option zz_C} {h : zz_H} (hh : 111 ≤ h.length) {d : Nat} {N : Nat} {Q : Option Value → zz_H → Prop} {x1 : Int32} {x2 : Int32} {x3 : Int32} {x4 : Int32} {x5 : Int32} {x6 : Int32} {x7 : Int32} {x8 : Int32} {s s' : mS} {v : Option Value} (hf : mf_318_183 N x1 x2 x3 x4 x5 x6 x7 x8 s = some (s', v)) (k : Q v (mH h s')) : zz_E zp_P zt_tf zt_fd X (d + 4) zm_318 183 [(0, .ref 61), (1, .int x1), (2, .int x2), (3, .int x3), (4, .int x4), (5, .int x5), (6, .int x6), (7, .int x7), (8, .int x8)] [] (mH h s) Q := by
  unfold mf_318_183 at hf
  refine mb_318_183 hh  (fun c => ?_) (fun c => ?_)
  · rw [if_pos c] at hf
    exact mr_318_202 hh hf k
  · rw [if_neg c] at hf
    exact mr_318_188 hh hf k
def mf_318_177 (N : Nat) (x1 : Int32) (x2 : Int32) (x3 : Int32) (x4 : Int32) (x5 : Int32) (x6 : Int32) (x7 : Int32) (x8 : Int32) (s : mS) : mO := if ¬ x7 = 1 then mf_318_208 N x1 x2 x3 x4 x5 x6 x7 x8 s else mf_318_183 N x1 x2 x3 x4 x5 x6 x7 x8 s
theorem mr_318_177 {X : Nat → Option zz_C} {h : zz_H} (hh : 111 ≤ h.length) {d : Nat} {N : Nat} {Q : Option Value → zz_H → Prop} {x1 : Int32} {x2 : Int32} {x3 : Int32} {x4 : Int32} {x5 : Int32} {x6 : Int32} {x7 : Int32} {x8 : Int32} {s s' : mS} {v : Option Value} (hf : mf_318_177 N x1 x2 x3 x4 x5 x6 x7 x8 s = some (s', v)) (k : Q v (mH h s')) : zz_E zp_P zt_tf zt_fd X (d + 4) zm_318 177 [(0, .ref 61), (1, .int x1), (2, .int x2), (3, .int x3), (4, .int x4), (5, .int x5), (6, .int x6), (7, .int x7), (8, .int x8)] [] (mH h s) Q := by
  unfold mf_318_177 at hf
  refine mb_318_177 hh  (fun c => ?_) (fun c => ?_)
  · rw [if_pos c] at hf
    exact mr_318_208 hh hf k
  · rw [if_neg c] at hf
    exact mr_318_183 hh hf k
def mf_318_172 (N : Nat) (x1 : Int32) (x2 : Int32) (x3 : Int32) (x4 : Int32) (x5 : Int32) (x6 : Int32) (x7 : Int32) (y0 : Int32) (s : mS) : mO := mf_318_236 N x1 x2 x3 x4 x5 x6 x7 y0 s
theorem mr_318_172 {X : Nat → Option zz_C} {h : zz_H} (hh : 111 ≤ h.length) {d : Nat} {N : Nat} {Q : Option Value → zz_H → Prop} {x1 : Int32} {x2 : Int32} {x3 : Int32} {x4 : Int32} {x5 : Int32} {x6 : Int32} {x7 : Int32} {y0 : Int32} {s s' : mS} {v : Option Value} (hf : mf_318_172 N x1 x2 x3 x4 x5 x6 x7 y0 s = some (s', v)) (k : Q v (mH h s')) : zz_E zp_P zt_tf zt_fd X (d + 4) zm_318 172 [(0, .ref 61), (1, .int x1), (2, .int x2), (3, .int x3), (4, .int x4), (5, .int x5), (6, .int x6), (7, .int x7)] [.int y0] (mH h s) Q := by
  unfold mf_318_172 at hf
  exact mb_318_172 hh  (mr_318_236 hh hf k)
def mf_318_171 (N : Nat) (x1 : Int32) (x2 : Int32) (x3 : Int32) (x4 : Int32) (x5 : Int32) (x6 : Int32) (x7 : Int32) (s : mS) : mO := mf_318_172 N x1 x2 x3 x4 x5 x6 x7 0 s
theorem mr_318_171 {X : Nat → Option zz_C} {h : zz_H} (hh : 111 ≤ h.length) {d : Nat} {N : Nat} {Q : Option Value → zz_H → Prop} {x1 : Int32} {x2 : Int32} {x3 : Int32} {x4 : Int32} {x5 : Int32} {x6 : Int32} {x7 : Int32} {s s' : mS} {v : Option Value} (hf : mf_318_171 N x1 x2 x3 x4 x5 x6 x7 s = some (s', v)) (k : Q v (mH h s')) : zz_E zp_P zt_tf zt_fd X (d + 4) zm_318 171 [(0, .ref 61), (1, .int x1), (2, .int x2), (3, .int x3), (4, .int x4), (5, .int x5), (6, .int x6), (7, .int x7)] [] (mH h s) Q := by
  unfold mf_318_171 at hf
  exact mb_318_171 hh  (mr_318_172 hh hf k)
def mf_318_167 (N : Nat) (x1 : Int32) (x2 : Int32) (x3 : Int32) (x4 : Int32) (x5 : Int32) (x6 : Int32) (x7 : Int32) (s : mS) : mO := mf_318_172 N x1 x2 x3 x4 x5 x6 x7 1 s
theorem mr_318_167 {X : Nat → Option zz_C} {h : zz_H} (hh : 111 ≤ h.length) {d : Nat} {N : Nat} {Q : Option Value → zz_H → Prop} {x1 : Int32} {x2 : Int32} {x3 : Int32} {x4 : Int32} {x5 : Int32} {x6 : Int32} {x7 : Int32} {s s' : mS} {v : Option Value} (hf : mf_318_167 N x1 x2 x3 x4 x5 x6 x7 s = some (s', v)) (k : Q v (mH h s')) : zz_E zp_P zt_tf zt_fd X (d + 4) zm_318 167 [(0, .ref 61), (1, .int x1), (2, .int x2), (3, .int x3), (4, .int x4), (5, .int x5), (6, .int x6), (7, .int x7)] [] (mH h s) Q := by
  unfold mf_318_167 at hf
  exact mb_318_167 hh  (mr_318_172 hh hf k)
def mf_318_157 (N : Nat) (x1 : Int32) (x2 : Int32) (x3 : Int32) (x4 : Int32) (x5 : Int32) (x6 : Int32) (x7 : Int32) (s : mS) : mO := if ¬ (x4 < 0 ∨ 9000 ≤ Int32.toNatClampNeg x4) then (if ¬ ((s.2.2.1 49) (Int32.toNatClampNeg x4)) = 0 then mf_318_171 N x1 x2 x3 x4 x5 x6 x7 s else mf_318_167 N x1 x2 x3 x4 x5 x6 x7 s) else none
theorem mr_318_157 {X : Nat → Option zz_C} {h : zz_H} (hh : 111 ≤ h.length) {d : Nat} {N : Nat} {Q : Option Value → zz_H → Prop} {x1 : Int32} {x2 : Int32} {x3 : Int32} {x4 : Int32} {x5 : Int32} {x6 : Int32} {x7 : Int32} {s s' : mS} {v : Option Value} (hf : mf_318_157 N x1 x2 x3 x4 x5 x6 x7 s = some (s', v)) (k : Q v (mH h s')) : zz_E zp_P zt_tf zt_fd X (d + 4) zm_318 157 [(0, .ref 61), (1, .int x1), (2, .int x2), (3, .int x3), (4, .int x4), (5, .int x5), (6, .int x6), (7, .int x7)] [] (mH h s) Q := by
  unfold mf_318_157 at hf
  obtain ⟨q0, hf⟩ := mo_if hf
  refine mb_318_157 hh q0 (fun c => ?_) (fun c => ?_)
  · rw [if_pos c] at hf
    exact mr_318_171 hh hf k
  · rw [if_neg c] at hf
    exact mr_318_167 hh hf k
def mf_318_145 (N : Nat) (x1 : Int32) (x2 : Int32) (x3 : Int32) (x4 : Int32) (x5 : Int32) (x6 : Int32) (x7 : Int32) (s : mS) : mO := if ¬ ((x5 + 1) < 0 ∨ 9000 ≤ Int32.toNatClampNeg (x5 + 1)) then (if ¬ ((s.2.2.1 49) (Int32.toNatClampNeg (x5 + 1))) = 0 then mf_318_171 N x1 x2 x3 x4 x5 x6 x7 s else mf_318_157 N x1 x2 x3 x4 x5 x6 x7 s) else none
theorem mr_318_145 {X : Nat → Option zz_C} {h : zz_H} (hh : 111 ≤ h.length) {d : Nat} {N : Nat} {Q : Option Value → zz_H → Prop} {x1 : Int32} {x2 : Int32} {x3 : Int32} {x4 : Int32} {x5 : Int32} {x6 : Int32} {x7 : Int32} {s s' : mS} {v : Option Value} (hf : mf_318_145 N x1 x2 x3 x4 x5 x6 x7 s = some (s', v)) (k : Q v (mH h s')) : zz_E zp_P zt_tf zt_fd X (d + 4) zm_318 145 [(0, .ref 61), (1, .int x1), (2, .int x2), (3, .int x3), (4, .int x4), (5, .int x5), (6, .int x6), (7, .int x7)] [] (mH h s) Q := by
  unfold mf_318_145 at hf
  obtain ⟨q0, hf⟩ := mo_if hf
  refine mb_318_145 hh q0 (fun c => ?_) (fun c => ?_)
  · rw [if_pos c] at hf
    exact mr_318_171 hh hf k
  · rw [if_neg c] at hf
    exact mr_318_157 hh hf k
def mf_318_139 (N : Nat) (x1 : Int32) (x2 : Int32) (x3 : Int32) (x4 : Int32) (x5 : Int32) (x6 : Int32) (x7 : Int32) (s : mS) : mO := if ¬ x7 = 2 then mf_318_171 N x1 x2 x3 x4 x5 x6 x7 s else mf_318_145 N x1 x2 x3 x4 x5 x6 x7 s
theorem mr_318_139 {X : Nat → Option zz_C} {h : zz_H} (hh : 111 ≤ h.length) {d : Nat} {N : Nat} {Q : Option Value → zz_H → Prop} {x1 : Int32} {x2 : Int32} {x3 : Int32} {x4 : Int32} {x5 : Int32} {x6 : Int32} {x7 : Int32} {s s' : mS} {v : Option Value} (hf : mf_318_139 N x1 x2 x3 x4 x5 x6 x7 s = some (s', v)) (k : Q v (mH h s')) : zz_E zp_P zt_tf zt_fd X (d + 4) zm_318 139 [(0, .ref 61), (1, .int x1), (2, .int x2), (3, .int x3), (4, .int x4), (5, .int x5), (6, .int x6), (7, .int x7)] [] (mH h s) Q := by
  unfold mf_318_139 at hf
  refine mb_318_139 hh  (fun c => ?_) (fun c => ?_)
  · rw [if_pos c] at hf
    exact mr_318_171 hh hf k
  · rw [if_neg c] at hf
    exact mr_318_145 hh hf k
def mf_318_134 (N : Nat) (x1 : Int32) (x2 : Int32) (x3 : Int32) (x4 : Int32) (x5 : Int32) (x6 : Int32) (x7 : Int32) (x8 : Int32) (s : mS) : mO := if x8 = 0 then mf_318_171 N x1 x2 x3 x4 x5 x6 x7 s else mf_318_139 N x1 x2 x3 x4 x5 x6 x7 s
theorem mr_318_134 {X : Nat → Option zz_C} {h : zz_H} (hh : 111 ≤ h.length) {d : Nat} {N : Nat} {Q : Option Value → zz_H → Prop} {x1 : Int32} {x2 : Int32} {x3 : Int32} {x4 : Int32} {x5 : Int32} {x6 : Int32} {x7 : Int32} {x8 : Int32} {s s' : mS} {v : Option Value} (hf : mf_318_134 N x1 x2 x3 x4 x5 x6 x7 x8 s = some (s', v)) (k : Q v (mH h s')) : zz_E zp_P zt_tf zt_fd X (d + 4) zm_318 134 [(0, .ref 61), (1, .int x1), (2, .int x2), (3, .int x3), (4, .int x4), (5, .int x5), (6, .int x6), (7, .int x7), (8, .int x8)] [] (mH h s) Q := by
  unfold mf_318_134 at hf
  refine mb_318_134 hh  (fun c => ?_) (fun c => ?_)
  · rw [if_pos c] at hf
    exact mr_318_171 hh hf k
  · rw [if_neg c] at hf
    exact mr_318_139 hh hf k
def mf_318_128 (N : Nat) (x1 : Int32) (x2 : Int32) (x3 : Int32) (x4 : Int32) (x5 : Int32) (x6 : Int32) (x7 : Int32) (y0 : Int32) (s : mS) : mO := if x2 = 0 then mf_318_177 N x1 x2 x3 x4 x5 x6 x7 y0 s else mf_318_134 N x1 x2 x3 x4 x5 x6 x7 y0 s
theorem mr_318_128 {X : Nat → Option zz_C} {h : zz_H} (hh : 111 ≤ h.length) {d : Nat} {N : Nat} {Q : Option Value → zz_H → Prop} {x1 : Int32} {x2 : Int32} {x3 : Int32} {x4 : Int32} {x5 : Int32} {x6 : Int32} {x7 : Int32} {y0 : Int32} {s s' : mS} {v : Option Value} (hf : mf_318_128 N x1 x2 x3 x4 x5 x6 x7 y0 s = some (s', v)) (k : Q v (mH h s')) : zz_E zp_P zt_tf zt_fd X (d + 4) zm_318 128 [(0, .ref 61), (1, .int x1), (2, .int x2), (3, .int x3), (4, .int x4), (5, .int x5), (6, .int x6), (7, .int x7)] [.int y0] (mH h s) Q := by
  unfold mf_318_128 at hf
  refine mb_318_128 hh  (fun c => ?_) (fun c => ?_)
  · rw [if_pos c] at hf
    exact mr_318_177 hh hf k
  · rw [if_neg c] at hf
    exact mr_318_134 hh hf k
def mf_318_127 (N : Nat) (x1 : Int32) (x2 : Int32) (x3 : Int32) (x4 : Int32) (x5 : Int32) (x6 : Int32) (x7 : Int32) (s : mS) : mO := mf_318_128 N x1 x2 x3 x4 x5 x6 x7 0 s
theorem mr_318_127 {X : Nat → Option zz_C} {h : zz_H} (hh : 111 ≤ h.length) {d : Nat} {N : Nat} {Q : Option Value → zz_H → Prop} {x1 : Int32} {x2 : Int32} {x3 : Int32} {x4 : Int32} {x5 : Int32} {x6 : Int32} {x7 : Int32} {s s' : mS} {v : Option Value} (hf : mf_318_127 N x1 x2 x3 x4 x5 x6 x7 s = some (s', v)) (k : Q v (mH h s')) : zz_E zp_P zt_tf zt_fd X (d + 4) zm_318 127 [(0, .ref 61), (1, .int x1), (2, .int x2), (3, .int x3), (4, .int x4), (5, .int x5), (6, .int x6), (7, .int x7)] [] (mH h s) Q := by
  unfold mf_318_127 at hf
  exact mb_318_127 hh  (mr_318_128 hh hf k)
def mf_318_123 (N : Nat) (x1 : Int32) (x2 : Int32) (x3 : Int32) (x4 : Int32) (x5 : Int32) (x6 : Int32) (x7 : Int32) (s : mS) : mO := mf_318_128 N x1 x2 x3 x4 x5 x6 x7 1 s
theorem mr_318_123 {X : Nat → Option zz_C} {h : zz_H} (hh : 111 ≤ h.length) {d : Nat} {N : Nat} {Q : Option Value → zz_H → Prop} {x1 : Int32} {x2 : Int32} {x3 : Int32} {x4 : Int32} {x5 : Int32} {x6 : Int32} {x7 : Int32} {s s' : mS} {v : Option Value} (hf : mf_318_123 N x1 x2 x3 x4 x5 x6 x7 s = some (s', v)) (k : Q v (mH h s')) : zz_E zp_P zt_tf zt_fd X (d + 4) zm_318 123 [(0, .ref 61), (1, .int x1), (2, .int x2), (3, .int x3), (4, .int x4), (5, .int x5), (6, .int x6), (7, .int x7)] [] (mH h s) Q := by
  unfold mf_318_123 at hf
  exact mb_318_123 hh  (mr_318_128 hh hf k)
def mf_318_113 (N : Nat) (x1 : Int32) (x2 : Int32) (x3 : Int32) (x4 : Int32) (x5 : Int32) (x6 : Int32) (x7 : Int32) (s : mS) : mO := if ¬ (x5 < 0 ∨ 9000 ≤ Int32.toNatClampNeg x5) then (if ¬ ((s.2.2.1 49) (Int32.toNatClampNeg x5)) = 0 then mf_318_127 N x1 x2 x3 x4 x5 x6 x7 s else mf_318_123 N x1 x2 x3 x4 x5 x6 x7 s) else none
theorem mr_318_113 {X : Nat → Option zz_C} {h : zz_H} (hh : 111 ≤ h.length) {d : Nat} {N : Nat} {Q : Option Value → zz_H → Prop} {x1 : Int32} {x2 : Int32} {x3 : Int32} {x4 : Int32} {x5 : Int32} {x6 : Int32} {x7 : Int32} {s s' : mS} {v : Option Value} (hf : mf_318_113 N x1 x2 x3 x4 x5 x6 x7 s = some (s', v)) (k : Q v (mH h s')) : zz_E zp_P zt_tf zt_fd X (d + 4) zm_318 113 [(0, .ref 61), (1, .int x1), (2, .int x2), (3, .int x3), (4, .int x4), (5, .int x5), (6, .int x6), (7, .int x7)] [] (mH h s) Q := by
  unfold mf_318_113 at hf
  obtain ⟨q0, hf⟩ := mo_if hf
  refine mb_318_113 hh q0 (fun c => ?_) (fun c => ?_)
  · rw [if_pos c] at hf
    exact mr_318_127 hh hf k
  · rw [if_neg c] at hf
    exact mr_318_123 hh hf k
def mf_318_106 (N : Nat) (x1 : Int32) (x2 : Int32) (x3 : Int32) (x4 : Int32) (x5 : Int32) (x6 : Int32) (y0 : Int32) (s : mS) : mO := if y0 ≤ 0 then mf_318_127 N x1 x2 x3 x4 x5 x6 y0 s else mf_318_113 N x1 x2 x3 x4 x5 x6 y0 s
theorem mr_318_106 {X : Nat → Option zz_C} {h : zz_H} (hh : 111 ≤ h.length) {d : Nat} {N : Nat} {Q : Option Value → zz_H → Prop} {x1 : Int32} {x2 : Int32} {x3 : Int32} {x4 : Int32} {x5 : Int32} {x6 : Int32} {y0 : Int32} {s s' : mS} {v : Option Value} (hf : mf_318_106 N x1 x2 x3 x4 x5 x6 y0 s = some (s', v)) (k : Q v (mH h s')) : zz_E zp_P zt_tf zt_fd X (d + 4) zm_318 106 [(0, .ref 61), (1, .int x1), (2, .int x2), (3, .int x3), (4, .int x4), (5, .int x5), (6, .int x6)] [.int y0] (mH h s) Q := by
  unfold mf_318_106 at hf
  refine mb_318_106 hh  (fun c => ?_) (fun c => ?_)
  · rw [if_pos c] at hf
    exact mr_318_127 hh hf k
  · rw [if_neg c] at hf
    exact mr_318_113 hh hf k
def mf_318_99 (N : Nat) (x1 : Int32) (x2 : Int32) (x3 : Int32) (x4 : Int32) (x5 : Int32) (x6 : Int32) (s : mS) : mO := if ¬ (x6 < 0 ∨ 166300 ≤ Int32.toNatClampNeg x6) then (mf_318_106 N x1 x2 x3 x4 x5 x6 ((s.2.2.1 47) (Int32.toNatClampNeg x6)) s) else none
theorem mr_318_99 {X : Nat → Option zz_C} {h : zz_H} (hh : 111 ≤ h.length) {d : Nat} {N : Nat} {Q : Option Value → zz_H → Prop} {x1 : Int32} {x2 : Int32} {x3 : Int32} {x4 : Int32} {x5 : Int32} {x6 : Int32} {s s' : mS} {v : Option Value} (hf : mf_318_99 N x1 x2 x3 x4 x5 x6 s = some (s', v)) (k : Q v (mH h s')) : zz_E zp_P zt_tf zt_fd X (d + 4) zm_318 99 [(0, .ref 61), (1, .int x1), (2, .int x2), (3, .int x3), (4, .int x4), (5, .int x5), (6, .int x6)] [] (mH h s) Q := by
  unfold mf_318_99 at hf
  obtain ⟨q0, hf⟩ := mo_if hf
  exact mb_318_99 hh q0 (mr_318_106 hh hf k)
def mf_318_95 (N : Nat) (x1 : Int32) (x2 : Int32) (x3 : Int32) (x4 : Int32) (x5 : Int32) (x6 : Int32) (s : mS) : mO := mf_318_106 N x1 x2 x3 x4 x5 x6 0 s
theorem mr_318_95 {X : Nat → Option zz_C} {h : zz_H} (hh : 111 ≤ h.length) {d : Nat} {N : Nat} {Q : Option Value → zz_H → Prop} {x1 : Int32} {x2 : Int32} {x3 : Int32} {x4 : Int32} {x5 : Int32} {x6 : Int32} {s s' : mS} {v : Option Value} (hf : mf_318_95 N x1 x2 x3 x4 x5 x6 s = some (s', v)) (k : Q v (mH h s')) : zz_E zp_P zt_tf zt_fd X (d + 4) zm_318 95 [(0, .ref 61), (1, .int x1), (2, .int x2), (3, .int x3), (4, .int x4), (5, .int x5), (6, .int x6)] [] (mH h s) Q := by
  unfold mf_318_95 at hf
  exact mb_318_95 hh  (mr_318_106 hh hf k)
def mf_318_92 (N : Nat) (x1 : Int32) (x2 : Int32) (x3 : Int32) (x4 : Int32) (x5 : Int32) (x6 : Int32) (y0 : Int32) (s : mS) : mO := if ¬ y0 = 0 then mf_318_99 N x1 x2 x3 x4 x5 x6 s else mf_318_95 N x1 x2 x3 x4 x5 x6 s
theorem mr_318_92 {X : Nat → Option zz_C} {h : zz_H} (hh : 111 ≤ h.length) {d : Nat} {N : Nat} {Q : Option Value → zz_H → Prop} {x1 : Int32} {x2 : Int32} {x3 : Int32} {x4 : Int32} {x5 : Int32} {x6 : Int32} {y0 : Int32} {s s' : mS} {v : Option Value} (hf : mf_318_92 N x1 x2 x3 x4 x5 x6 y0 s = some (s', v)) (k : Q v (mH h s')) : zz_E zp_P zt_tf zt_fd X (d + 4) zm_318 92 [(0, .ref 61), (1, .int x1), (2, .int x2), (3, .int x3), (4, .int x4), (5, .int x5), (6, .int x6)] [.int y0] (mH h s) Q := by
  unfold mf_318_92 at hf
  refine mb_318_92 hh  (fun c => ?_) (fun c => ?_)
  · rw [if_pos c] at hf
    exact mr_318_99 hh hf k
  · rw [if_neg c] at hf
    exact mr_318_95 hh hf k
def mf_318_85 (N : Nat) (x1 : Int32) (x2 : Int32) (x3 : Int32) (x4 : Int32) (x5 : Int32) (y0 : Int32) (s : mS) : mO := mo_bi (mf_308 N x3 s) (fun s1 y => mf_318_92 N x1 x2 x3 x4 x5 y0 y s1)
theorem mr_318_85 {X : Nat → Option zz_C} {h : zz_H} (hh : 111 ≤ h.length) {d : Nat} {N : Nat} {Q : Option Value → zz_H → Prop} {x1 : Int32} {x2 : Int32} {x3 : Int32} {x4 : Int32} {x5 : Int32} {y0 : Int32} {s s' : mS} {v : Option Value} (hf : mf_318_85 N x1 x2 x3 x4 x5 y0 s = some (s', v)) (k : Q v (mH h s')) : zz_E zp_P zt_tf zt_fd X (d + 4) zm_318 85 [(0, .ref 61), (1, .int x1), (2, .int x2), (3, .int x3), (4, .int x4), (5, .int x5)] [.int y0] (mH h s) Q := by
  unfold mf_318_85 at hf
  obtain ⟨s1, y, e, hf⟩ := mo_bi_ok hf
  exact mb_318_85 (d := d + 3) hh  (mr_308 (d := d + 3) hh e (mr_318_92 hh hf k))
def mf_318_80 (N : Nat) (x1 : Int32) (x2 : Int32) (x3 : Int32) (x4 : Int32) (x5 : Int32) (s : mS) : mO := mo_bi (mf_309 N x3 s) (fun s1 y => mf_318_85 N x1 x2 x3 x4 x5 y s1)
theorem mr_318_80 {X : Nat → Option zz_C} {h : zz_H} (hh : 111 ≤ h.length) {d : Nat} {N : Nat} {Q : Option Value → zz_H → Prop} {x1 : Int32} {x2 : Int32} {x3 : Int32} {x4 : Int32} {x5 : Int32} {s s' : mS} {v : Option Value} (hf : mf_318_80 N x1 x2 x3 x4 x5 s = some (s', v)) (k : Q v (mH h s')) : zz_E zp_P zt_tf zt_fd X (d + 4) zm_318 80 [(0, .ref 61), (1, .int x1), (2, .int x2), (3, .int x3), (4, .int x4), (5, .int x5)] [] (mH h s) Q := by
  unfold mf_318_80 at hf
  obtain ⟨s1, y, e, hf⟩ := mo_bi_ok hf
  exact mb_318_80 (d := d + 3) hh  (mr_309 (d := d + 3) hh e (mr_318_85 hh hf k))
def mf_318_79 (N : Nat)  (s : mS) : mO := some (s, none)
theorem mr_318_79 {X : Nat → Option zz_C} {h : zz_H} (hh : 111 ≤ h.length) {d : Nat} {N : Nat} {Q : Option Value → zz_H → Prop}  {s s' : mS} {v : Option Value} (hf : mf_318_79 N  s = some (s', v)) (k : Q v (mH h s')) : zz_E zp_P zt_tf zt_fd X (d + 4) zm_318 79 [] [] (mH h s) Q := by
  unfold mf_318_79 at hf
  cases hf
  exact mb_318_79 hh  k
def mf_318_67 (N : Nat) (x1 : Int32) (s : mS) : mO := if ¬ (x1 < 0 ∨ 8000 ≤ Int32.toNatClampNeg x1) then (mo_bv (mf_301 N 7 ((s.2.2.1 26) (Int32.toNatClampNeg x1)) s) (fun s1 => mf_318_79 N  s1)) else none
theorem mr_318_67 {X : Nat → Option zz_C} {h : zz_H} (hh : 111 ≤ h.length) {d : Nat} {N : Nat} {Q : Option Value → zz_H → Prop} {x1 : Int32} {s s' : mS} {v : Option Value} (hf : mf_318_67 N x1 s = some (s', v)) (k : Q v (mH h s')) : zz_E zp_P zt_tf zt_fd X (d + 4) zm_318 67 [(0, .ref 61), (1, .int x1)] [] (mH h s) Q := by
  unfold mf_318_67 at hf
  obtain ⟨q0, hf⟩ := mo_if hf
  obtain ⟨s1, e, hf⟩ := mo_bv_ok hf
  exact mb_318_67 (d := d + 3) hh q0 (mr_301 (d := d + 3) hh e (mr_318_79 hh hf k))
def mf_318_63 (N : Nat) (x1 : Int32) (x2 : Int32) (x3 : Int32) (x4 : Int32) (x5 : Int32) (y0 : Int32) (s : mS) : mO := if ¬ y0 = 2 then mf_318_80 N x1 x2 x3 x4 x5 s else mf_318_67 N x1 s
theorem mr_318_63 {X : Nat → Option zz_C} {h : zz_H} (hh : 111 ≤ h.length) {d : Nat} {N : Nat} {Q : Option Value → zz_H → Prop} {x1 : Int32} {x2 : Int32} {x3 : Int32} {x4 : Int32} {x5 : Int32} {y0 : Int32} {s s' : mS} {v : Option Value} (hf : mf_318_63 N x1 x2 x3 x4 x5 y0 s = some (s', v)) (k : Q v (mH h s')) : zz_E zp_P zt_tf zt_fd X (d + 4) zm_318 63 [(0, .ref 61), (1, .int x1), (2, .int x2), (3, .int x3), (4, .int x4), (5, .int x5)] [.int y0] (mH h s) Q := by
  unfold mf_318_63 at hf
  refine mb_318_63 hh  (fun c => ?_) (fun c => ?_)
  · rw [if_pos c] at hf
    exact mr_318_80 hh hf k
  · rw [if_neg c] at hf
    exact mr_318_67 hh hf k
def mf_318_50 (N : Nat) (x1 : Int32) (x2 : Int32) (x3 : Int32) (x4 : Int32) (y0 : Int32) (s : mS) : mO := mo_bi (mf_308 N x3 (mI s 51 y0)) (fun s1 y => mf_318_63 N x1 x2 x3 x4 y0 y s1)
theorem mr_318_50 {X : Nat → Option zz_C} {h : zz_H} (hh : 111 ≤ h.length) {d : Nat} {N : Nat} {Q : Option Value → zz_H → Prop} {x1 : Int32} {x2 : Int32} {x3 : Int32} {x4 : Int32} {y0 : Int32} {s s' : mS} {v : Option Value} (hf : mf_318_50 N x1 x2 x3 x4 y0 s = some (s', v)) (k : Q v (mH h s')) : zz_E zp_P zt_tf zt_fd X (d + 4) zm_318 50 [(0, .ref 61), (1, .int x1), (2, .int x2), (3, .int x3), (4, .int x4)] [.int y0] (mH h s) Q := by
  unfold mf_318_50 at hf
  obtain ⟨s1, y, e, hf⟩ := mo_bi_ok hf
  exact mb_318_50 (d := d + 3) hh  (mr_308 (d := d + 3) hh e (mr_318_63 hh hf k))
def mf_318_44 (N : Nat) (x1 : Int32) (x2 : Int32) (x3 : Int32) (x4 : Int32) (s : mS) : mO := mf_318_50 N x1 x2 x3 x4 ((s.1 51) - 2) s
theorem mr_318_44 {X : Nat → Option zz_C} {h : zz_H} (hh : 111 ≤ h.length) {d : Nat} {N : Nat} {Q : Option Value → zz_H → Prop} {x1 : Int32} {x2 : Int32} {x3 : Int32} {x4 : Int32} {s s' : mS} {v : Option Value} (hf : mf_318_44 N x1 x2 x3 x4 s = some (s', v)) (k : Q v (mH h s')) : zz_E zp_P zt_tf zt_fd X (d + 4) zm_318 44 [(0, .ref 61), (1, .int x1), (2, .int x2), (3, .int x3), (4, .int x4)] [] (mH h s) Q := by
  unfold mf_318_44 at hf
  exact mb_318_44 hh  (mr_318_50 hh hf k)
def mf_318_35 (N : Nat) (x1 : Int32) (x2 : Int32) (x3 : Int32) (x4 : Int32) (s : mS) : mO := mf_318_50 N x1 x2 x3 x4 ((s.1 51) - 3) s
theorem mr_318_35 {X : Nat → Option zz_C} {h : zz_H} (hh : 111 ≤ h.length) {d : Nat} {N : Nat} {Q : Option Value → zz_H → Prop} {x1 : Int32} {x2 : Int32} {x3 : Int32} {x4 : Int32} {s s' : mS} {v : Option Value} (hf : mf_318_35 N x1 x2 x3 x4 s = some (s', v)) (k : Q v (mH h s')) : zz_E zp_P zt_tf zt_fd X (d + 4) zm_318 35 [(0, .ref 61), (1, .int x1), (2, .int x2), (3, .int x3), (4, .int x4)] [] (mH h s) Q := by
  unfold mf_318_35 at hf
  exact mb_318_35 hh  (mr_318_50 hh hf k)
def mf_318_15 (N : Nat) (x1 : Int32) (y0 : Int32) (s : mS) : mO := if ¬ (x1 < 0 ∨ 8000 ≤ Int32.toNatClampNeg x1) then (if y0 = 0 then mf_318_44 N x1 y0 ((s.2.2.1 24) (Int32.toNatClampNeg x1)) ((s.1 51) - 1) s else mf_318_35 N x1 y0 ((s.2.2.1 24) (Int32.toNatClampNeg x1)) ((s.1 51) - 1) s) else none
theorem mr_318_15 {X : Nat → Option zz_C} {h : zz_H} (hh : 111 ≤ h.length) {d : Nat} {N : Nat} {Q : Option Value → zz_H → Prop} {x1 : Int32} {y0 : Int32} {s s' : mS} {v : Option Value} (hf : mf_318_15 N x1 y0 s = some (s', v)) (k : Q v (mH h s')) : zz_E zp_P zt_tf zt_fd X (d + 4) zm_318 15 [(0, .ref 61), (1, .int x1)] [.int y0] (mH h s) Q := by
  unfold mf_318_15 at hf
  obtain ⟨q0, hf⟩ := mo_if hf
  refine mb_318_15 hh q0 (fun c => ?_) (fun c => ?_)
  · rw [if_pos c] at hf
    exact mr_318_44 hh hf k
  · rw [if_neg c] at hf
    exact mr_318_35 hh hf k
def mf_318_14 (N : Nat) (x1 : Int32) (s : mS) : mO := mf_318_15 N x1 0 s
theorem mr_318_14 {X : Nat → Option zz_C} {h : zz_H} (hh : 111 ≤ h.length) {d : Nat} {N : Nat} {Q : Option Value → zz_H → Prop} {x1 : Int32} {s s' : mS} {v : Option Value} (hf : mf_318_14 N x1 s = some (s', v)) (k : Q v (mH h s')) : zz_E zp_P zt_tf zt_fd X (d + 4) zm_318 14 [(0, .ref 61), (1, .int x1)] [] (mH h s) Q := by
  unfold mf_318_14 at hf
  exact mb_318_14 hh  (mr_318_15 hh hf k)
def mf_318_10 (N : Nat) (x1 : Int32) (s : mS) : mO := mf_318_15 N x1 1 s
theorem mr_318_10 {X : Nat → Option zz_C} {h : zz_H} (hh : 111 ≤ h.length) {d : Nat} {N : Nat} {Q : Option Value → zz_H → Prop} {x1 : Int32} {s s' : mS} {v : Option Value} (hf : mf_318_10 N x1 s = some (s', v)) (k : Q v (mH h s')) : zz_E zp_P zt_tf zt_fd X (d + 4) zm_318 10 [(0, .ref 61), (1, .int x1)] [] (mH h s) Q := by
  unfold mf_318_10 at hf
  exact mb_318_10 hh  (mr_318_15 hh hf k)
def mf_318_0 (N : Nat) (x1 : Int32) (s : mS) : mO := if ¬ (x1 < 0 ∨ 8000 ≤ Int32.toNatClampNeg x1) then (if ((s.2.2.1 25) (Int32.toNatClampNeg x1)) = (-1) then mf_318_14 N x1 s else mf_318_10 N x1 s) else none
theorem mr_318_0 {X : Nat → Option zz_C} {h : zz_H} (hh : 111 ≤ h.length) {d : Nat} {N : Nat} {Q : Option Value → zz_H → Prop} {x1 : Int32} {s s' : mS} {v : Option Value} (hf : mf_318_0 N x1 s = some (s', v)) (k : Q v (mH h s')) : zz_E zp_P zt_tf zt_fd X (d + 4) zm_318 0 [(0, .ref 61), (1, .int x1)] [] (mH h s) Q := by
  unfold mf_318_0 at hf
  obtain ⟨q0, hf⟩ := mo_if hf
  refine mb_318_0 hh q0 (fun c => ?_) (fun c => ?_)
  · rw [if_pos c] at hf
    exact mr_318_14 hh hf k
  · rw [if_neg c] at hf
    exact mr_318_10 hh hf k
/-- putAt -/
def mf_318 (N : Nat) (x1 : Int32) (s : mS) : mO := mf_318_0 N x1 s
theorem mr_318 {X : Nat → Option zz_C} {h : zz_H} (hh : 111 ≤ h.length) {d : Nat} {N : Nat} {Q : Option Value → zz_H → Prop} {x1 : Int32} {s s' : mS} {v : Option Value} (hf : mf_318 N x1 s = some (s', v)) (k : Q v (mH h s')) : zz_E zp_P zt_tf zt_fd X (d + 4) zm_318 0 [(0, .ref 61), (1, .int x1)] [] (mH h s) Q := by
  unfold mf_318 at hf
  exact zz_E.weak (mr_318_0 hh hf k) rfl ⟨rfl, rfl, trivial⟩
