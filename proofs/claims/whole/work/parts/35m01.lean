/-! token (I)V -/
theorem mb_60_0 {X : Nat → Option zz_C} {h : zz_H} (hh : 111 ≤ h.length) {s : mS} {d : Nat} {Q : Option Value → zz_H → Prop} {x1 : Int32} (k : zz_E zp_P zt_tf zt_fd X d zm_61 0 [(0, .ref 61), (1, .int x1)] [] (mH h s) (fun v h' => zz_E zp_P zt_tf zt_fd X (d + 1) zm_60 6 [(0, .ref 61)] (v.toList ++ [.ref 61]) h' Q)) : zz_E zp_P zt_tf zt_fd X (d + 1) zm_60 0 [(0, .ref 61), (1, .int x1)] [] (mH h s) Q := by
  refine zz_E.n 1 rfl rfl rfl ?_
  refine zz_E.n 2 rfl rfl rfl ?_
  refine zz_E.n 3 rfl rfl rfl ?_
  refine mE_cv hh 6 (as := [.ref 61]) rfl rfl (Nat.le_of_ble_eq_true rfl) (Nat.le_of_ble_eq_true rfl) rfl (Nat.le_of_ble_eq_true rfl) rfl ?_
  refine zz_E.mono k ?_
  intro v h' hE
  exact zz_E.weak hE rfl ⟨rfl, trivial⟩
theorem mb_60_6 {X : Nat → Option zz_C} {h : zz_H} (hh : 111 ≤ h.length) {s : mS} {d : Nat} {Q : Option Value → zz_H → Prop} {y1 : Int32} (k : zz_E zp_P zt_tf zt_fd X d zm_62 0 [(0, .ref 61), (1, .int y1)] [] (mH h (mL (mI s 6 y1) 7 0)) (fun v h' => zz_E zp_P zt_tf zt_fd X (d + 1) zm_60 22 [(0, .ref 61)] (v.toList ++ []) h' Q)) : zz_E zp_P zt_tf zt_fd X (d + 1) zm_60 6 [(0, .ref 61)] [.int y1, .ref 61] (mH h s) Q := by
  refine mE_p hh 9 rfl (by decide) rfl (mF_6 _ _) rfl ?_
  refine zz_E.n 10 rfl rfl rfl ?_
  refine zz_E.c 11 (.long 0) rfl rfl rfl rfl ?_
  refine mE_p hh 14 rfl (by decide) rfl (mF_7 _ _) rfl ?_
  refine zz_E.n 15 rfl rfl rfl ?_
  refine zz_E.n 16 rfl rfl rfl ?_
  refine mE_g hh 19 (v := .int y1) rfl rfl rfl ?_
  refine mE_cv hh 22 (as := []) rfl rfl (Nat.le_of_ble_eq_true rfl) (Nat.le_of_ble_eq_true rfl) rfl (Nat.le_of_ble_eq_true rfl) rfl ?_
  refine zz_E.mono k ?_
  intro v h' hE
  exact zz_E.weak hE rfl ⟨rfl, trivial⟩
theorem mb_60_22 {X : Nat → Option zz_C} {h : zz_H} (hh : 111 ≤ h.length) {s : mS} {d : Nat} {Q : Option Value → zz_H → Prop} {y0 : Int32} (k1 : (s.1 6) < (s.1 4) → zz_E zp_P zt_tf zt_fd X d zm_60 47 [(0, .ref 61), (2, .int y0), (3, .int (s.1 6))] [] (mH h s) Q) (k2 : ¬ (s.1 6) < (s.1 4) → zz_E zp_P zt_tf zt_fd X d zm_60 39 [(0, .ref 61), (3, .int (s.1 6))] [] (mH h s) Q) : zz_E zp_P zt_tf zt_fd X d zm_60 22 [(0, .ref 61)] [.int y0] (mH h s) Q := by
  refine zz_E.n 23 rfl rfl rfl ?_
  refine zz_E.n 24 rfl rfl rfl ?_
  refine mE_g hh 27 (v := .int (s.1 6)) rfl rfl rfl ?_
  refine zz_E.n 28 rfl rfl rfl ?_
  refine zz_E.n 29 rfl rfl rfl ?_
  refine mE_g hh 32 (v := .int (s.1 6)) rfl rfl rfl ?_
  refine zz_E.n 33 rfl rfl rfl ?_
  refine mE_g hh 36 (v := .int (s.1 4)) rfl rfl rfl ?_
  refine zz_E.b2 47 39 (A := (s.1 6) < (s.1 4)) rfl rfl (by decide) rfl rfl (fun c => ?_) (fun c => ?_)
  · exact zz_E.weak (k1 c) rfl ⟨rfl, rfl, rfl, trivial⟩
  · exact zz_E.weak (k2 c) rfl ⟨rfl, rfl, trivial⟩
theorem mb_60_39 {X : Nat → Option zz_C} {h : zz_H} (hh : 111 ≤ h.length) {s : mS} {d : Nat} {Q : Option Value → zz_H → Prop} {x3 : Int32} (k : zz_E zp_P zt_tf zt_fd X d zm_60 226 [(0, .ref 61), (3, .int x3)] [] (mH h (mI s 5 0)) Q) : zz_E zp_P zt_tf zt_fd X d zm_60 39 [(0, .ref 61), (3, .int x3)] [] (mH h s) Q := by
  refine zz_E.n 40 rfl rfl rfl ?_
  refine zz_E.c 41 (.int 0) rfl rfl rfl rfl ?_
  refine mE_p hh 44 rfl (by decide) rfl (mF_5 _ _) rfl ?_
  refine zz_E.n 226 rfl rfl rfl ?_
  exact zz_E.weak k rfl ⟨rfl, rfl, trivial⟩
theorem mb_60_47 {X : Nat → Option zz_C} {h : zz_H} (hh : 111 ≤ h.length) {s : mS} {d : Nat} {Q : Option Value → zz_H → Prop} {x2 : Int32} {x3 : Int32} (k : zz_E zp_P zt_tf zt_fd X d zm_257 0 [(0, .int x2)] [] (mH h s) (fun v h' => zz_E zp_P zt_tf zt_fd X (d + 1) zm_60 51 [(0, .ref 61), (2, .int x2), (3, .int x3)] (v.toList ++ []) h' Q)) : zz_E zp_P zt_tf zt_fd X (d + 1) zm_60 47 [(0, .ref 61), (2, .int x2), (3, .int x3)] [] (mH h s) Q := by
  refine zz_E.n 48 rfl rfl rfl ?_
  refine zz_E.cl (M' := zm_257) 51 rfl rfl (by decide) rfl rfl ⟨rfl, Nat.le_of_ble_eq_true rfl⟩ rfl ?_
  refine zz_E.mono k ?_
  intro v h' hE
  exact zz_E.weak hE rfl ⟨rfl, rfl, rfl, trivial⟩
theorem mb_60_51 {X : Nat → Option zz_C} {h : zz_H} (hh : 111 ≤ h.length) {s : mS} {d : Nat} {Q : Option Value → zz_H → Prop} {x2 : Int32} {x3 : Int32} {y0 : Int32} (k1 : y0 = 0 → zz_E zp_P zt_tf zt_fd X d zm_60 128 [(0, .ref 61), (2, .int x2), (3, .int x3)] [] (mH h s) Q) (k2 : ¬ y0 = 0 → zz_E zp_P zt_tf zt_fd X d zm_60 54 [(0, .ref 61), (3, .int x3)] [] (mH h s) Q) : zz_E zp_P zt_tf zt_fd X d zm_60 51 [(0, .ref 61), (2, .int x2), (3, .int x3)] [.int y0] (mH h s) Q := by
  refine zz_E.b1 128 54 (A := y0 = 0) rfl rfl (by decide) rfl rfl (fun c => ?_) (fun c => ?_)
  · exact zz_E.weak (k1 c) rfl ⟨rfl, rfl, rfl, trivial⟩
  · exact zz_E.weak (k2 c) rfl ⟨rfl, rfl, trivial⟩
theorem mb_60_54 {X : Nat → Option zz_C} {h : zz_H} (hh : 111 ≤ h.length) {s : mS} {d : Nat} {Q : Option Value → zz_H → Prop} {x3 : Int32} (k : zz_E zp_P zt_tf zt_fd X d zm_62 0 [(0, .ref 61), (1, .int x3)] [] (mH h s) (fun v h' => zz_E zp_P zt_tf zt_fd X (d + 1) zm_60 59 [(0, .ref 61), (3, .int x3)] (v.toList ++ []) h' Q)) : zz_E zp_P zt_tf zt_fd X (d + 1) zm_60 54 [(0, .ref 61), (3, .int x3)] [] (mH h s) Q := by
  refine zz_E.n 55 rfl rfl rfl ?_
  refine zz_E.n 56 rfl rfl rfl ?_
  refine mE_cv hh 59 (as := []) rfl rfl (Nat.le_of_ble_eq_true rfl) (Nat.le_of_ble_eq_true rfl) rfl (Nat.le_of_ble_eq_true rfl) rfl ?_
  refine zz_E.mono k ?_
  intro v h' hE
  exact zz_E.weak hE rfl ⟨rfl, rfl, trivial⟩
theorem mb_60_59 {X : Nat → Option zz_C} {h : zz_H} (hh : 111 ≤ h.length) {s : mS} {d : Nat} {Q : Option Value → zz_H → Prop} {x3 : Int32} {y0 : Int32} (k : zz_E zp_P zt_tf zt_fd X d zm_257 0 [(0, .int y0)] [] (mH h s) (fun v h' => zz_E zp_P zt_tf zt_fd X (d + 1) zm_60 62 [(0, .ref 61), (3, .int x3)] (v.toList ++ []) h' Q)) : zz_E zp_P zt_tf zt_fd X (d + 1) zm_60 59 [(0, .ref 61), (3, .int x3)] [.int y0] (mH h s) Q := by
  refine zz_E.cl (M' := zm_257) 62 rfl rfl (by decide) rfl rfl ⟨rfl, Nat.le_of_ble_eq_true rfl⟩ rfl ?_
  refine zz_E.mono k ?_
  intro v h' hE
  exact zz_E.weak hE rfl ⟨rfl, rfl, trivial⟩
theorem mb_60_62 {X : Nat → Option zz_C} {h : zz_H} (hh : 111 ≤ h.length) {s : mS} {d : Nat} {Q : Option Value → zz_H → Prop} {x3 : Int32} {y0 : Int32} (k1 : y0 = 0 → zz_E zp_P zt_tf zt_fd X d zm_60 105 [(0, .ref 61), (3, .int x3)] [] (mH h s) Q) (k2 : ¬ y0 = 0 → zz_E zp_P zt_tf zt_fd X d zm_60 65 [(0, .ref 61), (3, .int x3)] [] (mH h s) Q) : zz_E zp_P zt_tf zt_fd X d zm_60 62 [(0, .ref 61), (3, .int x3)] [.int y0] (mH h s) Q := by
  refine zz_E.b1 105 65 (A := y0 = 0) rfl rfl (by decide) rfl rfl (fun c => ?_) (fun c => ?_)
  · exact zz_E.weak (k1 c) rfl ⟨rfl, rfl, trivial⟩
  · exact zz_E.weak (k2 c) rfl ⟨rfl, rfl, trivial⟩
theorem mb_60_65 {X : Nat → Option zz_C} {h : zz_H} (hh : 111 ≤ h.length) {s : mS} {d : Nat} {Q : Option Value → zz_H → Prop} {x3 : Int32} (k1 : 8 ≤ (x3 - (s.1 6)) → zz_E zp_P zt_tf zt_fd X d zm_60 99 [(0, .ref 61), (3, .int x3)] [] (mH h s) Q) (k2 : ¬ 8 ≤ (x3 - (s.1 6)) → zz_E zp_P zt_tf zt_fd X d zm_60 76 [(0, .ref 61), (3, .int x3)] [] (mH h s) Q) : zz_E zp_P zt_tf zt_fd X d zm_60 65 [(0, .ref 61), (3, .int x3)] [] (mH h s) Q := by
  refine zz_E.n 66 rfl rfl rfl ?_
  refine zz_E.n 67 rfl rfl rfl ?_
  refine mE_g hh 70 (v := .int (s.1 6)) rfl rfl rfl ?_
  refine zz_E.n 71 rfl rfl rfl ?_
  refine zz_E.c 73 (.int 8) rfl rfl rfl rfl ?_
  refine zz_E.b2 99 76 (A := 8 ≤ (x3 - (s.1 6))) rfl rfl (by decide) rfl rfl (fun c => ?_) (fun c => ?_)
  · exact zz_E.weak (k1 c) rfl ⟨rfl, rfl, trivial⟩
  · exact zz_E.weak (k2 c) rfl ⟨rfl, rfl, trivial⟩
theorem mb_60_76 {X : Nat → Option zz_C} {h : zz_H} (hh : 111 ≤ h.length) {s : mS} {d : Nat} {Q : Option Value → zz_H → Prop} {x3 : Int32} (k : zz_E zp_P zt_tf zt_fd X d zm_62 0 [(0, .ref 61), (1, .int x3)] [] (mH h s) (fun v h' => zz_E zp_P zt_tf zt_fd X (d + 1) zm_60 90 [(0, .ref 61), (3, .int x3)] (v.toList ++ [.long (27 * (s.2.1 7)), .ref 61]) h' Q)) : zz_E zp_P zt_tf zt_fd X (d + 1) zm_60 76 [(0, .ref 61), (3, .int x3)] [] (mH h s) Q := by
  refine zz_E.n 77 rfl rfl rfl ?_
  refine zz_E.c 80 (.long 27) rfl rfl rfl rfl ?_
  refine zz_E.n 81 rfl rfl rfl ?_
  refine mE_g hh 84 (v := .long (s.2.1 7)) rfl rfl rfl ?_
  refine zz_E.n 85 rfl rfl rfl ?_
  refine zz_E.n 86 rfl rfl rfl ?_
  refine zz_E.n 87 rfl rfl rfl ?_
  refine mE_cv hh 90 (as := [.long (27 * (s.2.1 7)), .ref 61]) rfl rfl (Nat.le_of_ble_eq_true rfl) (Nat.le_of_ble_eq_true rfl) rfl (Nat.le_of_ble_eq_true rfl) rfl ?_
  refine zz_E.mono k ?_
  intro v h' hE
  exact zz_E.weak hE rfl ⟨rfl, rfl, trivial⟩
theorem mb_60_90 {X : Nat → Option zz_C} {h : zz_H} (hh : 111 ≤ h.length) {s : mS} {d : Nat} {Q : Option Value → zz_H → Prop} {x3 : Int32} {y1 : Int64} {y2 : Int32} (k : zz_E zp_P zt_tf zt_fd X d zm_60 99 [(0, .ref 61), (3, .int x3)] [] (mH h (mL s 7 ((y1 + (Int32.toInt64 y2)) - 96))) Q) : zz_E zp_P zt_tf zt_fd X d zm_60 90 [(0, .ref 61), (3, .int x3)] [.int y2, .long y1, .ref 61] (mH h s) Q := by
  refine zz_E.n 91 rfl rfl rfl ?_
  refine zz_E.n 92 rfl rfl rfl ?_
  refine zz_E.c 95 (.long 96) rfl rfl rfl rfl ?_
  refine zz_E.n 96 rfl rfl rfl ?_
  refine mE_p hh 99 rfl (by decide) rfl (mF_7 _ _) rfl ?_
  exact zz_E.weak k rfl ⟨rfl, rfl, trivial⟩
theorem mb_60_99 {X : Nat → Option zz_C} {h : zz_H} (hh : 111 ≤ h.length) {s : mS} {d : Nat} {Q : Option Value → zz_H → Prop} {x3 : Int32} (k : zz_E zp_P zt_tf zt_fd X d zm_60 54 [(0, .ref 61), (3, .int (x3 + 1))] [] (mH h s) Q) : zz_E zp_P zt_tf zt_fd X d zm_60 99 [(0, .ref 61), (3, .int x3)] [] (mH h s) Q := by
  refine zz_E.n 102 rfl rfl rfl ?_
  refine zz_E.n 54 rfl rfl rfl ?_
  exact zz_E.weak k rfl ⟨rfl, rfl, trivial⟩
theorem mb_60_105 {X : Nat → Option zz_C} {h : zz_H} (hh : 111 ≤ h.length) {s : mS} {d : Nat} {Q : Option Value → zz_H → Prop} {x3 : Int32} (k1 : (x3 - (s.1 6)) ≤ 8 → zz_E zp_P zt_tf zt_fd X d zm_60 121 [(0, .ref 61), (3, .int x3)] [.ref 61] (mH h s) Q) (k2 : ¬ (x3 - (s.1 6)) ≤ 8 → zz_E zp_P zt_tf zt_fd X d zm_60 117 [(0, .ref 61), (3, .int x3)] [.ref 61] (mH h s) Q) : zz_E zp_P zt_tf zt_fd X d zm_60 105 [(0, .ref 61), (3, .int x3)] [] (mH h s) Q := by
  refine zz_E.n 106 rfl rfl rfl ?_
  refine zz_E.n 107 rfl rfl rfl ?_
  refine zz_E.n 108 rfl rfl rfl ?_
  refine mE_g hh 111 (v := .int (s.1 6)) rfl rfl rfl ?_
  refine zz_E.n 112 rfl rfl rfl ?_
  refine zz_E.c 114 (.int 8) rfl rfl rfl rfl ?_
  refine zz_E.b2 121 117 (A := (x3 - (s.1 6)) ≤ 8) rfl rfl (by decide) rfl rfl (fun c => ?_) (fun c => ?_)
  · exact zz_E.weak (k1 c) rfl ⟨rfl, rfl, trivial⟩
  · exact zz_E.weak (k2 c) rfl ⟨rfl, rfl, trivial⟩
theorem mb_60_117 {X : Nat → Option zz_C} {h : zz_H} (hh : 111 ≤ h.length) {s : mS} {d : Nat} {Q : Option Value → zz_H → Prop} {x3 : Int32} (k : zz_E zp_P zt_tf zt_fd X d zm_60 122 [(0, .ref 61), (3, .int x3)] [.int 4, .ref 61] (mH h s) Q) : zz_E zp_P zt_tf zt_fd X d zm_60 117 [(0, .ref 61), (3, .int x3)] [.ref 61] (mH h s) Q := by
  refine zz_E.c 118 (.int 4) rfl rfl rfl rfl ?_
  refine zz_E.n 122 rfl rfl rfl ?_
  exact zz_E.weak k rfl ⟨rfl, rfl, trivial⟩
theorem mb_60_121 {X : Nat → Option zz_C} {h : zz_H} (hh : 111 ≤ h.length) {s : mS} {d : Nat} {Q : Option Value → zz_H → Prop} {x3 : Int32} (k : zz_E zp_P zt_tf zt_fd X d zm_60 122 [(0, .ref 61), (3, .int x3)] [.int 1, .ref 61] (mH h s) Q) : zz_E zp_P zt_tf zt_fd X d zm_60 121 [(0, .ref 61), (3, .int x3)] [.ref 61] (mH h s) Q := by
  refine zz_E.c 122 (.int 1) rfl rfl rfl rfl ?_
  exact zz_E.weak k rfl ⟨rfl, rfl, trivial⟩
theorem mb_60_122 {X : Nat → Option zz_C} {h : zz_H} (hh : 111 ≤ h.length) {s : mS} {d : Nat} {Q : Option Value → zz_H → Prop} {x3 : Int32} {y1 : Int32} (k : zz_E zp_P zt_tf zt_fd X d zm_60 226 [(0, .ref 61), (3, .int x3)] [] (mH h (mI s 5 y1)) Q) : zz_E zp_P zt_tf zt_fd X d zm_60 122 [(0, .ref 61), (3, .int x3)] [.int y1, .ref 61] (mH h s) Q := by
  refine mE_p hh 125 rfl (by decide) rfl (mF_5 _ _) rfl ?_
  refine zz_E.n 226 rfl rfl rfl ?_
  exact zz_E.weak k rfl ⟨rfl, rfl, trivial⟩
theorem mb_60_128 {X : Nat → Option zz_C} {h : zz_H} (hh : 111 ≤ h.length) {s : mS} {d : Nat} {Q : Option Value → zz_H → Prop} {x2 : Int32} {x3 : Int32} (k : zz_E zp_P zt_tf zt_fd X d zm_258 0 [(0, .int x2)] [] (mH h s) (fun v h' => zz_E zp_P zt_tf zt_fd X (d + 1) zm_60 132 [(0, .ref 61), (2, .int x2), (3, .int x3)] (v.toList ++ []) h' Q)) : zz_E zp_P zt_tf zt_fd X (d + 1) zm_60 128 [(0, .ref 61), (2, .int x2), (3, .int x3)] [] (mH h s) Q := by
  refine zz_E.n 129 rfl rfl rfl ?_
  refine zz_E.cl (M' := zm_258) 132 rfl rfl (by decide) rfl rfl ⟨rfl, Nat.le_of_ble_eq_true rfl⟩ rfl ?_
  refine zz_E.mono k ?_
  intro v h' hE
  exact zz_E.weak hE rfl ⟨rfl, rfl, rfl, trivial⟩
theorem mb_60_132 {X : Nat → Option zz_C} {h : zz_H} (hh : 111 ≤ h.length) {s : mS} {d : Nat} {Q : Option Value → zz_H → Prop} {x2 : Int32} {x3 : Int32} {y0 : Int32} (k1 : y0 = 0 → zz_E zp_P zt_tf zt_fd X d zm_60 220 [(0, .ref 61), (2, .int x2)] [] (mH h s) Q) (k2 : ¬ y0 = 0 → zz_E zp_P zt_tf zt_fd X d zm_60 135 [(0, .ref 61), (3, .int x3)] [] (mH h s) Q) : zz_E zp_P zt_tf zt_fd X d zm_60 132 [(0, .ref 61), (2, .int x2), (3, .int x3)] [.int y0] (mH h s) Q := by
  refine zz_E.b1 220 135 (A := y0 = 0) rfl rfl (by decide) rfl rfl (fun c => ?_) (fun c => ?_)
  · exact zz_E.weak (k1 c) rfl ⟨rfl, rfl, trivial⟩
  · exact zz_E.weak (k2 c) rfl ⟨rfl, rfl, trivial⟩
theorem mb_60_135 {X : Nat → Option zz_C} {h : zz_H} (hh : 111 ≤ h.length) {s : mS} {d : Nat} {Q : Option Value → zz_H → Prop} {x3 : Int32} (k : zz_E zp_P zt_tf zt_fd X d zm_62 0 [(0, .ref 61), (1, .int x3)] [] (mH h s) (fun v h' => zz_E zp_P zt_tf zt_fd X (d + 1) zm_60 140 [(0, .ref 61), (3, .int x3)] (v.toList ++ []) h' Q)) : zz_E zp_P zt_tf zt_fd X (d + 1) zm_60 135 [(0, .ref 61), (3, .int x3)] [] (mH h s) Q := by
  refine zz_E.n 136 rfl rfl rfl ?_
  refine zz_E.n 137 rfl rfl rfl ?_
  refine mE_cv hh 140 (as := []) rfl rfl (Nat.le_of_ble_eq_true rfl) (Nat.le_of_ble_eq_true rfl) rfl (Nat.le_of_ble_eq_true rfl) rfl ?_
  refine zz_E.mono k ?_
  intro v h' hE
  exact zz_E.weak hE rfl ⟨rfl, rfl, trivial⟩
theorem mb_60_140 {X : Nat → Option zz_C} {h : zz_H} (hh : 111 ≤ h.length) {s : mS} {d : Nat} {Q : Option Value → zz_H → Prop} {x3 : Int32} {y0 : Int32} (k : zz_E zp_P zt_tf zt_fd X d zm_258 0 [(0, .int y0)] [] (mH h s) (fun v h' => zz_E zp_P zt_tf zt_fd X (d + 1) zm_60 143 [(0, .ref 61), (3, .int x3)] (v.toList ++ []) h' Q)) : zz_E zp_P zt_tf zt_fd X (d + 1) zm_60 140 [(0, .ref 61), (3, .int x3)] [.int y0] (mH h s) Q := by
  refine zz_E.cl (M' := zm_258) 143 rfl rfl (by decide) rfl rfl ⟨rfl, Nat.le_of_ble_eq_true rfl⟩ rfl ?_
  refine zz_E.mono k ?_
  intro v h' hE
  exact zz_E.weak hE rfl ⟨rfl, rfl, trivial⟩
theorem mb_60_143 {X : Nat → Option zz_C} {h : zz_H} (hh : 111 ≤ h.length) {s : mS} {d : Nat} {Q : Option Value → zz_H → Prop} {x3 : Int32} {y0 : Int32} (k1 : y0 = 0 → zz_E zp_P zt_tf zt_fd X d zm_60 186 [(0, .ref 61), (3, .int x3)] [] (mH h s) Q) (k2 : ¬ y0 = 0 → zz_E zp_P zt_tf zt_fd X d zm_60 146 [(0, .ref 61), (3, .int x3)] [] (mH h s) Q) : zz_E zp_P zt_tf zt_fd X d zm_60 143 [(0, .ref 61), (3, .int x3)] [.int y0] (mH h s) Q := by
  refine zz_E.b1 186 146 (A := y0 = 0) rfl rfl (by decide) rfl rfl (fun c => ?_) (fun c => ?_)
  · exact zz_E.weak (k1 c) rfl ⟨rfl, rfl, trivial⟩
  · exact zz_E.weak (k2 c) rfl ⟨rfl, rfl, trivial⟩
theorem mb_60_146 {X : Nat → Option zz_C} {h : zz_H} (hh : 111 ≤ h.length) {s : mS} {d : Nat} {Q : Option Value → zz_H → Prop} {x3 : Int32} (k1 : 10 ≤ (x3 - (s.1 6)) → zz_E zp_P zt_tf zt_fd X d zm_60 180 [(0, .ref 61), (3, .int x3)] [] (mH h s) Q) (k2 : ¬ 10 ≤ (x3 - (s.1 6)) → zz_E zp_P zt_tf zt_fd X d zm_60 157 [(0, .ref 61), (3, .int x3)] [] (mH h s) Q) : zz_E zp_P zt_tf zt_fd X d zm_60 146 [(0, .ref 61), (3, .int x3)] [] (mH h s) Q := by
  refine zz_E.n 147 rfl rfl rfl ?_
  refine zz_E.n 148 rfl rfl rfl ?_
  refine mE_g hh 151 (v := .int (s.1 6)) rfl rfl rfl ?_
  refine zz_E.n 152 rfl rfl rfl ?_
  refine zz_E.c 154 (.int 10) rfl rfl rfl rfl ?_
  refine zz_E.b2 180 157 (A := 10 ≤ (x3 - (s.1 6))) rfl rfl (by decide) rfl rfl (fun c => ?_) (fun c => ?_)
  · exact zz_E.weak (k1 c) rfl ⟨rfl, rfl, trivial⟩
  · exact zz_E.weak (k2 c) rfl ⟨rfl, rfl, trivial⟩
theorem mb_60_157 {X : Nat → Option zz_C} {h : zz_H} (hh : 111 ≤ h.length) {s : mS} {d : Nat} {Q : Option Value → zz_H → Prop} {x3 : Int32} (k : zz_E zp_P zt_tf zt_fd X d zm_62 0 [(0, .ref 61), (1, .int x3)] [] (mH h s) (fun v h' => zz_E zp_P zt_tf zt_fd X (d + 1) zm_60 171 [(0, .ref 61), (3, .int x3)] (v.toList ++ [.long (10 * (s.2.1 7)), .ref 61]) h' Q)) : zz_E zp_P zt_tf zt_fd X (d + 1) zm_60 157 [(0, .ref 61), (3, .int x3)] [] (mH h s) Q := by
  refine zz_E.n 158 rfl rfl rfl ?_
  refine zz_E.c 161 (.long 10) rfl rfl rfl rfl ?_
  refine zz_E.n 162 rfl rfl rfl ?_
  refine mE_g hh 165 (v := .long (s.2.1 7)) rfl rfl rfl ?_
  refine zz_E.n 166 rfl rfl rfl ?_
  refine zz_E.n 167 rfl rfl rfl ?_
  refine zz_E.n 168 rfl rfl rfl ?_
  refine mE_cv hh 171 (as := [.long (10 * (s.2.1 7)), .ref 61]) rfl rfl (Nat.le_of_ble_eq_true rfl) (Nat.le_of_ble_eq_true rfl) rfl (Nat.le_of_ble_eq_true rfl) rfl ?_
  refine zz_E.mono k ?_
  intro v h' hE
  exact zz_E.weak hE rfl ⟨rfl, rfl, trivial⟩
theorem mb_60_171 {X : Nat → Option zz_C} {h : zz_H} (hh : 111 ≤ h.length) {s : mS} {d : Nat} {Q : Option Value → zz_H → Prop} {x3 : Int32} {y1 : Int64} {y2 : Int32} (k : zz_E zp_P zt_tf zt_fd X d zm_60 180 [(0, .ref 61), (3, .int x3)] [] (mH h (mL s 7 ((y1 + (Int32.toInt64 y2)) - 48))) Q) : zz_E zp_P zt_tf zt_fd X d zm_60 171 [(0, .ref 61), (3, .int x3)] [.int y2, .long y1, .ref 61] (mH h s) Q := by
  refine zz_E.n 172 rfl rfl rfl ?_
  refine zz_E.n 173 rfl rfl rfl ?_
  refine zz_E.c 176 (.long 48) rfl rfl rfl rfl ?_
  refine zz_E.n 177 rfl rfl rfl ?_
  refine mE_p hh 180 rfl (by decide) rfl (mF_7 _ _) rfl ?_
  exact zz_E.weak k rfl ⟨rfl, rfl, trivial⟩
theorem mb_60_180 {X : Nat → Option zz_C} {h : zz_H} (hh : 111 ≤ h.length) {s : mS} {d : Nat} {Q : Option Value → zz_H → Prop} {x3 : Int32} (k : zz_E zp_P zt_tf zt_fd X d zm_60 135 [(0, .ref 61), (3, .int (x3 + 1))] [] (mH h s) Q) : zz_E zp_P zt_tf zt_fd X d zm_60 180 [(0, .ref 61), (3, .int x3)] [] (mH h s) Q := by
  refine zz_E.n 183 rfl rfl rfl ?_
  refine zz_E.n 135 rfl rfl rfl ?_
  exact zz_E.weak k rfl ⟨rfl, rfl, trivial⟩
theorem mb_60_186 {X : Nat → Option zz_C} {h : zz_H} (hh : 111 ≤ h.length) {s : mS} {d : Nat} {Q : Option Value → zz_H → Prop} {x3 : Int32} (k1 : 10 < (x3 - (s.1 6)) → zz_E zp_P zt_tf zt_fd X d zm_60 209 [(0, .ref 61), (3, .int x3)] [.ref 61] (mH h s) Q) (k2 : ¬ 10 < (x3 - (s.1 6)) → zz_E zp_P zt_tf zt_fd X d zm_60 198 [(0, .ref 61), (3, .int x3)] [.ref 61] (mH h s) Q) : zz_E zp_P zt_tf zt_fd X d zm_60 186 [(0, .ref 61), (3, .int x3)] [] (mH h s) Q := by
  refine zz_E.n 187 rfl rfl rfl ?_
  refine zz_E.n 188 rfl rfl rfl ?_
  refine zz_E.n 189 rfl rfl rfl ?_
  refine mE_g hh 192 (v := .int (s.1 6)) rfl rfl rfl ?_
  refine zz_E.n 193 rfl rfl rfl ?_
  refine zz_E.c 195 (.int 10) rfl rfl rfl rfl ?_
  refine zz_E.b2 209 198 (A := 10 < (x3 - (s.1 6))) rfl rfl (by decide) rfl rfl (fun c => ?_) (fun c => ?_)
  · exact zz_E.weak (k1 c) rfl ⟨rfl, rfl, trivial⟩
  · exact zz_E.weak (k2 c) rfl ⟨rfl, rfl, trivial⟩
theorem mb_60_198 {X : Nat → Option zz_C} {h : zz_H} (hh : 111 ≤ h.length) {s : mS} {d : Nat} {Q : Option Value → zz_H → Prop} {x3 : Int32} (k1 : (lg_cmp (s.2.1 7) 2147483647) ≤ 0 → zz_E zp_P zt_tf zt_fd X d zm_60 213 [(0, .ref 61), (3, .int x3)] [.ref 61] (mH h s) Q) (k2 : ¬ (lg_cmp (s.2.1 7) 2147483647) ≤ 0 → zz_E zp_P zt_tf zt_fd X d zm_60 209 [(0, .ref 61), (3, .int x3)] [.ref 61] (mH h s) Q) : zz_E zp_P zt_tf zt_fd X d zm_60 198 [(0, .ref 61), (3, .int x3)] [.ref 61] (mH h s) Q := by
  refine zz_E.n 199 rfl rfl rfl ?_
  refine mE_g hh 202 (v := .long (s.2.1 7)) rfl rfl rfl ?_
  refine zz_E.c 205 (.long 2147483647) rfl rfl rfl rfl ?_
  refine zz_E.n 206 rfl rfl rfl ?_
  refine zz_E.b1 213 209 (A := (lg_cmp (s.2.1 7) 2147483647) ≤ 0) rfl rfl (by decide) rfl rfl (fun c => ?_) (fun c => ?_)
  · exact zz_E.weak (k1 c) rfl ⟨rfl, rfl, trivial⟩
  · exact zz_E.weak (k2 c) rfl ⟨rfl, rfl, trivial⟩
theorem mb_60_209 {X : Nat → Option zz_C} {h : zz_H} (hh : 111 ≤ h.length) {s : mS} {d : Nat} {Q : Option Value → zz_H → Prop} {x3 : Int32} (k : zz_E zp_P zt_tf zt_fd X d zm_60 214 [(0, .ref 61), (3, .int x3)] [.int 4, .ref 61] (mH h s) Q) : zz_E zp_P zt_tf zt_fd X d zm_60 209 [(0, .ref 61), (3, .int x3)] [.ref 61] (mH h s) Q := by
  refine zz_E.c 210 (.int 4) rfl rfl rfl rfl ?_
  refine zz_E.n 214 rfl rfl rfl ?_
  exact zz_E.weak k rfl ⟨rfl, rfl, trivial⟩
theorem mb_60_213 {X : Nat → Option zz_C} {h : zz_H} (hh : 111 ≤ h.length) {s : mS} {d : Nat} {Q : Option Value → zz_H → Prop} {x3 : Int32} (k : zz_E zp_P zt_tf zt_fd X d zm_60 214 [(0, .ref 61), (3, .int x3)] [.int 2, .ref 61] (mH h s) Q) : zz_E zp_P zt_tf zt_fd X d zm_60 213 [(0, .ref 61), (3, .int x3)] [.ref 61] (mH h s) Q := by
  refine zz_E.c 214 (.int 2) rfl rfl rfl rfl ?_
  exact zz_E.weak k rfl ⟨rfl, rfl, trivial⟩
theorem mb_60_214 {X : Nat → Option zz_C} {h : zz_H} (hh : 111 ≤ h.length) {s : mS} {d : Nat} {Q : Option Value → zz_H → Prop} {x3 : Int32} {y1 : Int32} (k : zz_E zp_P zt_tf zt_fd X d zm_60 226 [(0, .ref 61), (3, .int x3)] [] (mH h (mI s 5 y1)) Q) : zz_E zp_P zt_tf zt_fd X d zm_60 214 [(0, .ref 61), (3, .int x3)] [.int y1, .ref 61] (mH h s) Q := by
  refine mE_p hh 217 rfl (by decide) rfl (mF_5 _ _) rfl ?_
  refine zz_E.n 226 rfl rfl rfl ?_
  exact zz_E.weak k rfl ⟨rfl, rfl, trivial⟩
theorem mb_60_220 {X : Nat → Option zz_C} {h : zz_H} (hh : 111 ≤ h.length) {s : mS} {d : Nat} {Q : Option Value → zz_H → Prop} {x2 : Int32} (k : zz_E zp_P zt_tf zt_fd X d zm_259 0 [(0, .ref 61), (1, .int x2)] [] (mH h s) (fun v h' => zz_E zp_P zt_tf zt_fd X (d + 1) zm_60 225 [(0, .ref 61)] (v.toList ++ []) h' Q)) : zz_E zp_P zt_tf zt_fd X (d + 1) zm_60 220 [(0, .ref 61), (2, .int x2)] [] (mH h s) Q := by
  refine zz_E.n 221 rfl rfl rfl ?_
  refine zz_E.n 222 rfl rfl rfl ?_
  refine mE_cv hh 225 (as := []) rfl rfl (Nat.le_of_ble_eq_true rfl) (Nat.le_of_ble_eq_true rfl) rfl (Nat.le_of_ble_eq_true rfl) rfl ?_
  refine zz_E.mono k ?_
  intro v h' hE
  exact zz_E.weak hE rfl ⟨rfl, trivial⟩
theorem mb_60_225 {X : Nat → Option zz_C} {h : zz_H} (hh : 111 ≤ h.length) {s : mS} {d : Nat} {Q : Option Value → zz_H → Prop} {y0 : Int32} (k : zz_E zp_P zt_tf zt_fd X d zm_60 226 [(0, .ref 61), (3, .int y0)] [] (mH h s) Q) : zz_E zp_P zt_tf zt_fd X d zm_60 225 [(0, .ref 61)] [.int y0] (mH h s) Q := by
  refine zz_E.n 226 rfl rfl rfl ?_
  exact zz_E.weak k rfl ⟨rfl, rfl, trivial⟩
theorem mb_60_226 {X : Nat → Option zz_C} {h : zz_H} (hh : 111 ≤ h.length) {s : mS} {d : Nat} {Q : Option Value → zz_H → Prop} {x3 : Int32} (k : Q none (mH h (mI s 8 x3))) : zz_E zp_P zt_tf zt_fd X d zm_60 226 [(0, .ref 61), (3, .int x3)] [] (mH h s) Q := by
  refine zz_E.n 227 rfl rfl rfl ?_
  refine zz_E.n 228 rfl rfl rfl ?_
  refine mE_p hh 231 rfl (by decide) rfl (mF_8 _ _) rfl ?_
  refine zz_E.ret rfl rfl rfl ?_
  exact k
def mf_60_226 (N : Nat) (x3 : Int32) (s : mS) : mO := some ((mI s 8 x3), none)
theorem mr_60_226 {X : Nat → Option zz_C} {h : zz_H} (hh : 111 ≤ h.length) {d : Nat} {N : Nat} {Q : Option Value → zz_H → Prop} {x3 : Int32} {s s' : mS} {v : Option Value} (hf : mf_60_226 N x3 s = some (s', v)) (k : Q v (mH h s')) : zz_E zp_P zt_tf zt_fd X (d + 2) zm_60 226 [(0, .ref 61), (3, .int x3)] [] (mH h s) Q := by
  unfold mf_60_226 at hf
  cases hf
  exact mb_60_226 hh  k
def mf_60_225 (N : Nat) (y0 : Int32) (s : mS) : mO := mf_60_226 N y0 s
theorem mr_60_225 {X : Nat → Option zz_C} {h : zz_H} (hh : 111 ≤ h.length) {d : Nat} {N : Nat} {Q : Option Value → zz_H → Prop} {y0 : Int32} {s s' : mS} {v : Option Value} (hf : mf_60_225 N y0 s = some (s', v)) (k : Q v (mH h s')) : zz_E zp_P zt_tf zt_fd X (d + 2) zm_60 225 [(0, .ref 61)] [.int y0] (mH h s) Q := by
  unfold mf_60_225 at hf
  exact mb_60_225 hh  (mr_60_226 hh hf k)
def mf_60_220 (N : Nat) (x2 : Int32) (s : mS) : mO := mo_bi (mf_259 N x2 s) (fun s1 y => mf_60_225 N y s1)
theorem mr_60_220 {X : Nat → Option zz_C} {h : zz_H} (hh : 111 ≤ h.length) {d : Nat} {N : Nat} {Q : Option Value → zz_H → Prop} {x2 : Int32} {s s' : mS} {v : Option Value} (hf : mf_60_220 N x2 s = some (s', v)) (k : Q v (mH h s')) : zz_E zp_P zt_tf zt_fd X (d + 2) zm_60 220 [(0, .ref 61), (2, .int x2)] [] (mH h s) Q := by
  unfold mf_60_220 at hf
  obtain ⟨s1, y, e, hf⟩ := mo_bi_ok hf
  exact mb_60_220 (d := d + 1) hh  (mr_259 (d := d + 0) hh e (mr_60_225 hh hf k))
def mf_60_214 (N : Nat) (x3 : Int32) (y1 : Int32) (s : mS) : mO := mf_60_226 N x3 (mI s 5 y1)
theorem mr_60_214 {X : Nat → Option zz_C} {h : zz_H} (hh : 111 ≤ h.length) {d : Nat} {N : Nat} {Q : Option Value → zz_H → Prop} {x3 : Int32} {y1 : Int32} {s s' : mS} {v : Option Value} (hf : mf_60_214 N x3 y1 s = some (s', v)) (k : Q v (mH h s')) : zz_E zp_P zt_tf zt_fd X (d + 2) zm_60 214 [(0, .ref 61), (3, .int x3)] [.int y1, .ref 61] (mH h s) Q := by
  unfold mf_60_214 at hf
  exact mb_60_214 hh  (mr_60_226 hh hf k)
def mf_60_209 (N : Nat) (x3 : Int32) (s : mS) : mO := mf_60_214 N x3 4 s
theorem mr_60_209 {X : Nat → Option zz_C} {h : zz_H} (hh : 111 ≤ h.length) {d : Nat} {N : Nat} {Q : Option Value → zz_H → Prop} {x3 : Int32} {s s' : mS} {v : Option Value} (hf : mf_60_209 N x3 s = some (s', v)) (k : Q v (mH h s')) : zz_E zp_P zt_tf zt_fd X (d + 2) zm_60 209 [(0, .ref 61), (3, .int x3)] [.ref 61] (mH h s) Q := by
  unfold mf_60_209 at hf
  exact mb_60_209 hh  (mr_60_214 hh hf k)
def mf_60_213 (N : Nat) (x3 : Int32) (s : mS) : mO := mf_60_214 N x3 2 s
theorem mr_60_213 {X : Nat → Option zz_C} {h : zz_H} (hh : 111 ≤ h.length) {d : Nat} {N : Nat} {Q : Option Value → zz_H → Prop} {x3 : Int32} {s s' : mS} {v : Option Value} (hf : mf_60_213 N x3 s = some (s', v)) (k : Q v (mH h s')) : zz_E zp_P zt_tf zt_fd X (d + 2) zm_60 213 [(0, .ref 61), (3, .int x3)] [.ref 61] (mH h s) Q := by
  unfold mf_60_213 at hf
  exact mb_60_213 hh  (mr_60_214 hh hf k)
def mf_60_198 (N : Nat) (x3 : Int32) (s : mS) : mO := if (lg_cmp (s.2.1 7) 2147483647) ≤ 0 then mf_60_213 N x3 s else mf_60_209 N x3 s
theorem mr_60_198 {X : Nat → Option zz_C} {h : zz_H} (hh : 111 ≤ h.length) {d : Nat} {N : Nat} {Q : Option Value → zz_H → Prop} {x3 : Int32} {s s' : mS} {v : Option Value} (hf : mf_60_198 N x3 s = some (s', v)) (k : Q v (mH h s')) : zz_E zp_P zt_tf zt_fd X (d + 2) zm_60 198 [(0, .ref 61), (3, .int x3)] [.ref 61] (mH h s) Q := by
  unfold mf_60_198 at hf
  refine mb_60_198 hh  (fun c => ?_) (fun c => ?_)
  · rw [if_pos c] at hf
    exact mr_60_213 hh hf k
  · rw [if_neg c] at hf
    exact mr_60_209 hh hf k
def mf_60_186 (N : Nat) (x3 : Int32) (s : mS) : mO := if 10 < (x3 - (s.1 6)) then mf_60_209 N x3 s else mf_60_198 N x3 s
theorem mr_60_186 {X : Nat → Option zz_C} {h : zz_H} (hh : 111 ≤ h.length) {d : Nat} {N : Nat} {Q : Option Value → zz_H → Prop} {x3 : Int32} {s s' : mS} {v : Option Value} (hf : mf_60_186 N x3 s = some (s', v)) (k : Q v (mH h s')) : zz_E zp_P zt_tf zt_fd X (d + 2) zm_60 186 [(0, .ref 61), (3, .int x3)] [] (mH h s) Q := by
  unfold mf_60_186 at hf
  refine mb_60_186 hh  (fun c => ?_) (fun c => ?_)
  · rw [if_pos c] at hf
    exact mr_60_209 hh hf k
  · rw [if_neg c] at hf
    exact mr_60_198 hh hf k
def mf_60_180 (N : Nat) (rc : Nat → Int32 → mS → mO) (x3 : Int32) (s : mS) : mO := rc 0 (x3 + 1) s
theorem mr_60_180 {X : Nat → Option zz_C} {h : zz_H} (hh : 111 ≤ h.length) {d : Nat} {N : Nat} {rc : Nat → Int32 → mS → mO} (hrc0 : ∀ {Q : Option Value → zz_H → Prop} {x3 : Int32} {s s' : mS} {v : Option Value}, rc 0 x3 s = some (s', v) → Q v (mH h s') → zz_E zp_P zt_tf zt_fd X (d + 2) zm_60 135 [(0, .ref 61), (3, .int x3)] [] (mH h s) Q) {Q : Option Value → zz_H → Prop} {x3 : Int32} {s s' : mS} {v : Option Value} (hf : mf_60_180 N rc x3 s = some (s', v)) (k : Q v (mH h s')) : zz_E zp_P zt_tf zt_fd X (d + 2) zm_60 180 [(0, .ref 61), (3, .int x3)] [] (mH h s) Q := by
  unfold mf_60_180 at hf
  exact mb_60_180 hh  (hrc0 hf k)
def mf_60_171 (N : Nat) (rc : Nat → Int32 → mS → mO) (x3 : Int32) (y1 : Int64) (y2 : Int32) (s : mS) : mO := mf_60_180 N rc x3 (mL s 7 ((y1 + (Int32.toInt64 y2)) - 48))
theorem mr_60_171 {X : Nat → Option zz_C} {h : zz_H} (hh : 111 ≤ h.length) {d : Nat} {N : Nat} {rc : Nat → Int32 → mS → mO} (hrc0 : ∀ {Q : Option Value → zz_H → Prop} {x3 : Int32} {s s' : mS} {v : Option Value}, rc 0 x3 s = some (s', v) → Q v (mH h s') → zz_E zp_P zt_tf zt_fd X (d + 2) zm_60 135 [(0, .ref 61), (3, .int x3)] [] (mH h s) Q) {Q : Option Value → zz_H → Prop} {x3 : Int32} {y1 : Int64} {y2 : Int32} {s s' : mS} {v : Option Value} (hf : mf_60_171 N rc x3 y1 y2 s = some (s', v)) (k : Q v (mH h s')) : zz_E zp_P zt_tf zt_fd X (d + 2) zm_60 171 [(0, .ref 61), (3, .int x3)] [.int y2, .long y1, .ref 61] (mH h s) Q := by
  unfold mf_60_171 at hf
  exact mb_60_171 hh  (mr_60_180 hh hrc0 hf k)
def mf_60_157 (N : Nat) (rc : Nat → Int32 → mS → mO) (x3 : Int32) (s : mS) : mO := mo_bi (mf_62 N x3 s) (fun s1 y => mf_60_171 N rc x3 (10 * (s.2.1 7)) y s1)
theorem mr_60_157 {X : Nat → Option zz_C} {h : zz_H} (hh : 111 ≤ h.length) {d : Nat} {N : Nat} {rc : Nat → Int32 → mS → mO} (hrc0 : ∀ {Q : Option Value → zz_H → Prop} {x3 : Int32} {s s' : mS} {v : Option Value}, rc 0 x3 s = some (s', v) → Q v (mH h s') → zz_E zp_P zt_tf zt_fd X (d + 2) zm_60 135 [(0, .ref 61), (3, .int x3)] [] (mH h s) Q) {Q : Option Value → zz_H → Prop} {x3 : Int32} {s s' : mS} {v : Option Value} (hf : mf_60_157 N rc x3 s = some (s', v)) (k : Q v (mH h s')) : zz_E zp_P zt_tf zt_fd X (d + 2) zm_60 157 [(0, .ref 61), (3, .int x3)] [] (mH h s) Q := by
  unfold mf_60_157 at hf
  obtain ⟨s1, y, e, hf⟩ := mo_bi_ok hf
  exact mb_60_157 (d := d + 1) hh  (mr_62 (d := d + 1) hh e (mr_60_171 hh hrc0 hf k))
def mf_60_146 (N : Nat) (rc : Nat → Int32 → mS → mO) (x3 : Int32) (s : mS) : mO := if 10 ≤ (x3 - (s.1 6)) then mf_60_180 N rc x3 s else mf_60_157 N rc x3 s
theorem mr_60_146 {X : Nat → Option zz_C} {h : zz_H} (hh : 111 ≤ h.length) {d : Nat} {N : Nat} {rc : Nat → Int32 → mS → mO} (hrc0 : ∀ {Q : Option Value → zz_H → Prop} {x3 : Int32} {s s' : mS} {v : Option Value}, rc 0 x3 s = some (s', v) → Q v (mH h s') → zz_E zp_P zt_tf zt_fd X (d + 2) zm_60 135 [(0, .ref 61), (3, .int x3)] [] (mH h s) Q) {Q : Option Value → zz_H → Prop} {x3 : Int32} {s s' : mS} {v : Option Value} (hf : mf_60_146 N rc x3 s = some (s', v)) (k : Q v (mH h s')) : zz_E zp_P zt_tf zt_fd X (d + 2) zm_60 146 [(0, .ref 61), (3, .int x3)] [] (mH h s) Q := by
  unfold mf_60_146 at hf
  refine mb_60_146 hh  (fun c => ?_) (fun c => ?_)
  · rw [if_pos c] at hf
    exact mr_60_180 hh hrc0 hf k
  · rw [if_neg c] at hf
    exact mr_60_157 hh hrc0 hf k
def mf_60_143 (N : Nat) (rc : Nat → Int32 → mS → mO) (x3 : Int32) (y0 : Int32) (s : mS) : mO := if y0 = 0 then mf_60_186 N x3 s else mf_60_146 N rc x3 s
theorem mr_60_143 {X : Nat → Option zz_C} {h : zz_H} (hh : 111 ≤ h.length) {d : Nat} {N : Nat} {rc : Nat → Int32 → mS → mO} (hrc0 : ∀ {Q : Option Value → zz_H → Prop} {x3 : Int32} {s s' : mS} {v : Option Value}, rc 0 x3 s = some (s', v) → Q v (mH h s') → zz_E zp_P zt_tf zt_fd X (d + 2) zm_60 135 [(0, .ref 61), (3, .int x3)] [] (mH h s) Q) {Q : Option Value → zz_H → Prop} {x3 : Int32} {y0 : Int32} {s s' : mS} {v : Option Value} (hf : mf_60_143 N rc x3 y0 s = some (s', v)) (k : Q v (mH h s')) : zz_E zp_P zt_tf zt_fd X (d + 2) zm_60 143 [(0, .ref 61), (3, .int x3)] [.int y0] (mH h s) Q := by
  unfold mf_60_143 at hf
  refine mb_60_143 hh  (fun c => ?_) (fun c => ?_)
  · rw [if_pos c] at hf
    exact mr_60_186 hh hf k
  · rw [if_neg c] at hf
    exact mr_60_146 hh hrc0 hf k
def mf_60_140 (N : Nat) (rc : Nat → Int32 → mS → mO) (x3 : Int32) (y0 : Int32) (s : mS) : mO := mo_bi (mf_258 N y0 s) (fun s1 y => mf_60_143 N rc x3 y s1)
theorem mr_60_140 {X : Nat → Option zz_C} {h : zz_H} (hh : 111 ≤ h.length) {d : Nat} {N : Nat} {rc : Nat → Int32 → mS → mO} (hrc0 : ∀ {Q : Option Value → zz_H → Prop} {x3 : Int32} {s s' : mS} {v : Option Value}, rc 0 x3 s = some (s', v) → Q v (mH h s') → zz_E zp_P zt_tf zt_fd X (d + 2) zm_60 135 [(0, .ref 61), (3, .int x3)] [] (mH h s) Q) {Q : Option Value → zz_H → Prop} {x3 : Int32} {y0 : Int32} {s s' : mS} {v : Option Value} (hf : mf_60_140 N rc x3 y0 s = some (s', v)) (k : Q v (mH h s')) : zz_E zp_P zt_tf zt_fd X (d + 2) zm_60 140 [(0, .ref 61), (3, .int x3)] [.int y0] (mH h s) Q := by
  unfold mf_60_140 at hf
  obtain ⟨s1, y, e, hf⟩ := mo_bi_ok hf
  exact mb_60_140 (d := d + 1) hh  (mr_258 (d := d + 1) hh e (mr_60_143 hh hrc0 hf k))
def mf_60_135 (N : Nat) (rc : Nat → Int32 → mS → mO) (x3 : Int32) (s : mS) : mO := mo_bi (mf_62 N x3 s) (fun s1 y => mf_60_140 N rc x3 y s1)
theorem mr_60_135 {X : Nat → Option zz_C} {h : zz_H} (hh : 111 ≤ h.length) {d : Nat} {N : Nat} {rc : Nat → Int32 → mS → mO} (hrc0 : ∀ {Q : Option Value → zz_H → Prop} {x3 : Int32} {s s' : mS} {v : Option Value}, rc 0 x3 s = some (s', v) → Q v (mH h s') → zz_E zp_P zt_tf zt_fd X (d + 2) zm_60 135 [(0, .ref 61), (3, .int x3)] [] (mH h s) Q) {Q : Option Value → zz_H → Prop} {x3 : Int32} {s s' : mS} {v : Option Value} (hf : mf_60_135 N rc x3 s = some (s', v)) (k : Q v (mH h s')) : zz_E zp_P zt_tf zt_fd X (d + 2) zm_60 135 [(0, .ref 61), (3, .int x3)] [] (mH h s) Q := by
  unfold mf_60_135 at hf
  obtain ⟨s1, y, e, hf⟩ := mo_bi_ok hf
  exact mb_60_135 (d := d + 1) hh  (mr_62 (d := d + 1) hh e (mr_60_140 hh hrc0 hf k))
def mf_60_L8 (N : Nat) : Nat → Nat → Int32 → mS → mO
  | 0, _, _, _ => none
  | n + 1, l, x3, s => if l = 0 then mf_60_135 N (mf_60_L8 N n) x3 s else none
theorem mr_60_L8 {X : Nat → Option zz_C} {h : zz_H} (hh : 111 ≤ h.length) {d : Nat} {N : Nat} : ∀ n : Nat, (∀ {Q : Option Value → zz_H → Prop} {x3 : Int32} {s s' : mS} {v : Option Value}, mf_60_L8 N n 0 x3 s = some (s', v) → Q v (mH h s') → zz_E zp_P zt_tf zt_fd X (d + 2) zm_60 135 [(0, .ref 61), (3, .int x3)] [] (mH h s) Q) := by
  intro n
  induction n with
  | zero => exact (fun hf _ => by cases hf)
  | succ n ih =>
    have h0 := @ih
    intro Q _ s s' v hf k
    unfold mf_60_L8 at hf
    rw [if_pos rfl] at hf
    exact mr_60_135 hh h0 hf k
def mf_60_132 (N : Nat) (x2 : Int32) (x3 : Int32) (y0 : Int32) (s : mS) : mO := if y0 = 0 then mf_60_220 N x2 s else mf_60_L8 N N 0 x3 s
theorem mr_60_132 {X : Nat → Option zz_C} {h : zz_H} (hh : 111 ≤ h.length) {d : Nat} {N : Nat} {Q : Option Value → zz_H → Prop} {x2 : Int32} {x3 : Int32} {y0 : Int32} {s s' : mS} {v : Option Value} (hf : mf_60_132 N x2 x3 y0 s = some (s', v)) (k : Q v (mH h s')) : zz_E zp_P zt_tf zt_fd X (d + 2) zm_60 132 [(0, .ref 61), (2, .int x2), (3, .int x3)] [.int y0] (mH h s) Q := by
  unfold mf_60_132 at hf
  refine mb_60_132 hh  (fun c => ?_) (fun c => ?_)
  · rw [if_pos c] at hf
    exact mr_60_220 hh hf k
  · rw [if_neg c] at hf
    exact mr_60_L8 hh N hf k
def mf_60_128 (N : Nat) (x2 : Int32) (x3 : Int32) (s : mS) : mO := mo_bi (mf_258 N x2 s) (fun s1 y => mf_60_132 N x2 x3 y s1)
theorem mr_60_128 {X : Nat → Option zz_C} {h : zz_H} (hh : 111 ≤ h.length) {d : Nat} {N : Nat} {Q : Option Value → zz_H → Prop} {x2 : Int32} {x3 : Int32} {s s' : mS} {v : Option Value} (hf : mf_60_128 N x2 x3 s = some (s', v)) (k : Q v (mH h s')) : zz_E zp_P zt_tf zt_fd X (d + 2) zm_60 128 [(0, .ref 61), (2, .int x2), (3, .int x3)] [] (mH h s) Q := by
  unfold mf_60_128 at hf
  obtain ⟨s1, y, e, hf⟩ := mo_bi_ok hf
  exact mb_60_128 (d := d + 1) hh  (mr_258 (d := d + 1) hh e (mr_60_132 hh hf k))
def mf_60_122 (N : Nat) (x3 : Int32) (y1 : Int32) (s : mS) : mO := mf_60_226 N x3 (mI s 5 y1)
theorem mr_60_122 {X : Nat → Option zz_C} {h : zz_H} (hh : 111 ≤ h.length) {d : Nat} {N : Nat} {Q : Option Value → zz_H → Prop} {x3 : Int32} {y1 : Int32} {s s' : mS} {v : Option Value} (hf : mf_60_122 N x3 y1 s = some (s', v)) (k : Q v (mH h s')) : zz_E zp_P zt_tf zt_fd X (d + 2) zm_60 122 [(0, .ref 61), (3, .int x3)] [.int y1, .ref 61] (mH h s) Q := by
  unfold mf_60_122 at hf
  exact mb_60_122 hh  (mr_60_226 hh hf k)
def mf_60_121 (N : Nat) (x3 : Int32) (s : mS) : mO := mf_60_122 N x3 1 s
theorem mr_60_121 {X : Nat → Option zz_C} {h : zz_H} (hh : 111 ≤ h.length) {d : Nat} {N : Nat} {Q : Option Value → zz_H → Prop} {x3 : Int32} {s s' : mS} {v : Option Value} (hf : mf_60_121 N x3 s = some (s', v)) (k : Q v (mH h s')) : zz_E zp_P zt_tf zt_fd X (d + 2) zm_60 121 [(0, .ref 61), (3, .int x3)] [.ref 61] (mH h s) Q := by
  unfold mf_60_121 at hf
  exact mb_60_121 hh  (mr_60_122 hh hf k)
def mf_60_117 (N : Nat) (x3 : Int32) (s : mS) : mO := mf_60_122 N x3 4 s
theorem mr_60_117 {X : Nat → Option zz_C} {h : zz_H} (hh : 111 ≤ h.length) {d : Nat} {N : Nat} {Q : Option Value → zz_H → Prop} {x3 : Int32} {s s' : mS} {v : Option Value} (hf : mf_60_117 N x3 s = some (s', v)) (k : Q v (mH h s')) : zz_E zp_P zt_tf zt_fd X (d + 2) zm_60 117 [(0, .ref 61), (3, .int x3)] [.ref 61] (mH h s) Q := by
  unfold mf_60_117 at hf
  exact mb_60_117 hh  (mr_60_122 hh hf k)
def mf_60_105 (N : Nat) (x3 : Int32) (s : mS) : mO := if (x3 - (s.1 6)) ≤ 8 then mf_60_121 N x3 s else mf_60_117 N x3 s
theorem mr_60_105 {X : Nat → Option zz_C} {h : zz_H} (hh : 111 ≤ h.length) {d : Nat} {N : Nat} {Q : Option Value → zz_H → Prop} {x3 : Int32} {s s' : mS} {v : Option Value} (hf : mf_60_105 N x3 s = some (s', v)) (k : Q v (mH h s')) : zz_E zp_P zt_tf zt_fd X (d + 2) zm_60 105 [(0, .ref 61), (3, .int x3)] [] (mH h s) Q := by
  unfold mf_60_105 at hf
  refine mb_60_105 hh  (fun c => ?_) (fun c => ?_)
  · rw [if_pos c] at hf
    exact mr_60_121 hh hf k
  · rw [if_neg c] at hf
    exact mr_60_117 hh hf k
def mf_60_99 (N : Nat) (rc : Nat → Int32 → mS → mO) (x3 : Int32) (s : mS) : mO := rc 0 (x3 + 1) s
theorem mr_60_99 {X : Nat → Option zz_C} {h : zz_H} (hh : 111 ≤ h.length) {d : Nat} {N : Nat} {rc : Nat → Int32 → mS → mO} (hrc0 : ∀ {Q : Option Value → zz_H → Prop} {x3 : Int32} {s s' : mS} {v : Option Value}, rc 0 x3 s = some (s', v) → Q v (mH h s') → zz_E zp_P zt_tf zt_fd X (d + 2) zm_60 54 [(0, .ref 61), (3, .int x3)] [] (mH h s) Q) {Q : Option Value → zz_H → Prop} {x3 : Int32} {s s' : mS} {v : Option Value} (hf : mf_60_99 N rc x3 s = some (s', v)) (k : Q v (mH h s')) : zz_E zp_P zt_tf zt_fd X (d + 2) zm_60 99 [(0, .ref 61), (3, .int x3)] [] (mH h s) Q := by
  unfold mf_60_99 at hf
  exact mb_60_99 hh  (hrc0 hf k)
def mf_60_90 (N : Nat) (rc : Nat → Int32 → mS → mO) (x3 : Int32) (y1 : Int64) (y2 : Int32) (s : mS) : mO := mf_60_99 N rc x3 (mL s 7 ((y1 + (Int32.toInt64 y2)) - 96))
theorem mr_60_90 {X : Nat → Option zz_C} {h : zz_H} (hh : 111 ≤ h.length) {d : Nat} {N : Nat} {rc : Nat → Int32 → mS → mO} (hrc0 : ∀ {Q : Option Value → zz_H → Prop} {x3 : Int32} {s s' : mS} {v : Option Value}, rc 0 x3 s = some (s', v) → Q v (mH h s') → zz_E zp_P zt_tf zt_fd X (d + 2) zm_60 54 [(0, .ref 61), (3, .int x3)] [] (mH h s) Q) {Q : Option Value → zz_H → Prop} {x3 : Int32} {y1 : Int64} {y2 : Int32} {s s' : mS} {v : Option Value} (hf : mf_60_90 N rc x3 y1 y2 s = some (s', v)) (k : Q v (mH h s')) : zz_E zp_P zt_tf zt_fd X (d + 2) zm_60 90 [(0, .ref 61), (3, .int x3)] [.int y2, .long y1, .ref 61] (mH h s) Q := by
  unfold mf_60_90 at hf
  exact mb_60_90 hh  (mr_60_99 hh hrc0 hf k)
def mf_60_76 (N : Nat) (rc : Nat → Int32 → mS → mO) (x3 : Int32) (s : mS) : mO := mo_bi (mf_62 N x3 s) (fun s1 y => mf_60_90 N rc x3 (27 * (s.2.1 7)) y s1)
theorem mr_60_76 {X : Nat → Option zz_C} {h : zz_H} (hh : 111 ≤ h.length) {d : Nat} {N : Nat} {rc : Nat → Int32 → mS → mO} (hrc0 : ∀ {Q : Option Value → zz_H → Prop} {x3 : Int32} {s s' : mS} {v : Option Value}, rc 0 x3 s = some (s', v) → Q v (mH h s') → zz_E zp_P zt_tf zt_fd X (d + 2) zm_60 54 [(0, .ref 61), (3, .int x3)] [] (mH h s) Q) {Q : Option Value → zz_H → Prop} {x3 : Int32} {s s' : mS} {v : Option Value} (hf : mf_60_76 N rc x3 s = some (s', v)) (k : Q v (mH h s')) : zz_E zp_P zt_tf zt_fd X (d + 2) zm_60 76 [(0, .ref 61), (3, .int x3)] [] (mH h s) Q := by
  unfold mf_60_76 at hf
  obtain ⟨s1, y, e, hf⟩ := mo_bi_ok hf
  exact mb_60_76 (d := d + 1) hh  (mr_62 (d := d + 1) hh e (mr_60_90 hh hrc0 hf k))
def mf_60_65 (N : Nat) (rc : Nat → Int32 → mS → mO) (x3 : Int32) (s : mS) : mO := if 8 ≤ (x3 - (s.1 6)) then mf_60_99 N rc x3 s else mf_60_76 N rc x3 s
theorem mr_60_65 {X : Nat → Option zz_C} {h : zz_H} (hh : 111 ≤ h.length) {d : Nat} {N : Nat} {rc : Nat → Int32 → mS → mO} (hrc0 : ∀ {Q : Option Value → zz_H → Prop} {x3 : Int32} {s s' : mS} {v : Option Value}, rc 0 x3 s = some (s', v) → Q v (mH h s') → zz_E zp_P zt_tf zt_fd X (d + 2) zm_60 54 [(0, .ref 61), (3, .int x3)] [] (mH h s) Q) {Q : Option Value → zz_H → Prop} {x3 : Int32} {s s' : mS} {v : Option Value} (hf : mf_60_65 N rc x3 s = some (s', v)) (k : Q v (mH h s')) : zz_E zp_P zt_tf zt_fd X (d + 2) zm_60 65 [(0, .ref 61), (3, .int x3)] [] (mH h s) Q := by
  unfold mf_60_65 at hf
  refine mb_60_65 hh  (fun c => ?_) (fun c => ?_)
  · rw [if_pos c] at hf
    exact mr_60_99 hh hrc0 hf k
  · rw [if_neg c] at hf
    exact mr_60_76 hh hrc0 hf k
def mf_60_62 (N : Nat) (rc : Nat → Int32 → mS → mO) (x3 : Int32) (y0 : Int32) (s : mS) : mO := if y0 = 0 then mf_60_105 N x3 s else mf_60_65 N rc x3 s
theorem mr_60_62 {X : Nat → Option zz_C} {h : zz_H} (hh : 111 ≤ h.length) {d : Nat} {N : Nat} {rc : Nat → Int32 → mS → mO} (hrc0 : ∀ {Q : Option Value → zz_H → Prop} {x3 : Int32} {s s' : mS} {v : Option Value}, rc 0 x3 s = some (s', v) → Q v (mH h s') → zz_E zp_P zt_tf zt_fd X (d + 2) zm_60 54 [(0, .ref 61), (3, .int x3)] [] (mH h s) Q) {Q : Option Value → zz_H → Prop} {x3 : Int32} {y0 : Int32} {s s' : mS} {v : Option Value} (hf : mf_60_62 N rc x3 y0 s = some (s', v)) (k : Q v (mH h s')) : zz_E zp_P zt_tf zt_fd X (d + 2) zm_60 62 [(0, .ref 61), (3, .int x3)] [.int y0] (mH h s) Q := by
  unfold mf_60_62 at hf
  refine mb_60_62 hh  (fun c => ?_) (fun c => ?_)
  · rw [if_pos c] at hf
    exact mr_60_105 hh hf k
  · rw [if_neg c] at hf
    exact mr_60_65 hh hrc0 hf k
def mf_60_59 (N : Nat) (rc : Nat → Int32 → mS → mO) (x3 : Int32) (y0 : Int32) (s : mS) : mO := mo_bi (mf_257 N y0 s) (fun s1 y => mf_60_62 N rc x3 y s1)
theorem mr_60_59 {X : Nat → Option zz_C} {h : zz_H} (hh : 111 ≤ h.length) {d : Nat} {N : Nat} {rc : Nat → Int32 → mS → mO} (hrc0 : ∀ {Q : Option Value → zz_H → Prop} {x3 : Int32} {s s' : mS} {v : Option Value}, rc 0 x3 s = some (s', v) → Q v (mH h s') → zz_E zp_P zt_tf zt_fd X (d + 2) zm_60 54 [(0, .ref 61), (3, .int x3)] [] (mH h s) Q) {Q : Option Value → zz_H → Prop} {x3 : Int32} {y0 : Int32} {s s' : mS} {v : Option Value} (hf : mf_60_59 N rc x3 y0 s = some (s', v)) (k : Q v (mH h s')) : zz_E zp_P zt_tf zt_fd X (d + 2) zm_60 59 [(0, .ref 61), (3, .int x3)] [.int y0] (mH h s) Q := by
  unfold mf_60_59 at hf
  obtain ⟨s1, y, e, hf⟩ := mo_bi_ok hf
  exact mb_60_59 (d := d + 1) hh  (mr_257 (d := d + 1) hh e (mr_60_62 hh hrc0 hf k))
def mf_60_54 (N : Nat) (rc : Nat → Int32 → mS → mO) (x3 : Int32) (s : mS) : mO := mo_bi (mf_62 N x3 s) (fun s1 y => mf_60_59 N rc x3 y s1)
theorem mr_60_54 {X : Nat → Option zz_C} {h : zz_H} (hh : 111 ≤ h.length) {d : Nat} {N : Nat} {rc : Nat → Int32 → mS → mO} (hrc0 : ∀ {Q : Option Value → zz_H → Prop} {x3 : Int32} {s s' : mS} {v : Option Value}, rc 0 x3 s = some (s', v) → Q v (mH h s') → zz_E zp_P zt_tf zt_fd X (d + 2) zm_60 54 [(0, .ref 61), (3, .int x3)] [] (mH h s) Q) {Q : Option Value → zz_H → Prop} {x3 : Int32} {s s' : mS} {v : Option Value} (hf : mf_60_54 N rc x3 s = some (s', v)) (k : Q v (mH h s')) : zz_E zp_P zt_tf zt_fd X (d + 2) zm_60 54 [(0, .ref 61), (3, .int x3)] [] (mH h s) Q := by
  unfold mf_60_54 at hf
  obtain ⟨s1, y, e, hf⟩ := mo_bi_ok hf
  exact mb_60_54 (d := d + 1) hh  (mr_62 (d := d + 1) hh e (mr_60_59 hh hrc0 hf k))
def mf_60_L15 (N : Nat) : Nat → Nat → Int32 → mS → mO
  | 0, _, _, _ => none
  | n + 1, l, x3, s => if l = 0 then mf_60_54 N (mf_60_L15 N n) x3 s else none
theorem mr_60_L15 {X : Nat → Option zz_C} {h : zz_H} (hh : 111 ≤ h.length) {d : Nat} {N : Nat} : ∀ n : Nat, (∀ {Q : Option Value → zz_H → Prop} {x3 : Int32} {s s' : mS} {v : Option Value}, mf_60_L15 N n 0 x3 s = some (s', v) → Q v (mH h s') → zz_E zp_P zt_tf zt_fd X (d + 2) zm_60 54 [(0, .ref 61), (3, .int x3)] [] (mH h s) Q) := by
  intro n
  induction n with
  | zero => exact (fun hf _ => by cases hf)
  | succ n ih =>
    have h0 := @ih
    intro Q _ s s' v hf k
    unfold mf_60_L15 at hf
    rw [if_pos rfl] at hf
    exact mr_60_54 hh h0 hf k
def mf_60_51 (N : Nat) (x2 : Int32) (x3 : Int32) (y0 : Int32) (s : mS) : mO := if y0 = 0 then mf_60_128 N x2 x3 s else mf_60_L15 N N 0 x3 s
theorem mr_60_51 {X : Nat → Option zz_C} {h : zz_H} (hh : 111 ≤ h.length) {d : Nat} {N : Nat} {Q : Option Value → zz_H → Prop} {x2 : Int32} {x3 : Int32} {y0 : Int32} {s s' : mS} {v : Option Value} (hf : mf_60_51 N x2 x3 y0 s = some (s', v)) (k : Q v (mH h s')) : zz_E zp_P zt_tf zt_fd X (d + 2) zm_60 51 [(0, .ref 61), (2, .int x2), (3, .int x3)] [.int y0] (mH h s) Q := by
  unfold mf_60_51 at hf
  refine mb_60_51 hh  (fun c => ?_) (fun c => ?_)
  · rw [if_pos c] at hf
    exact mr_60_128 hh hf k
  · rw [if_neg c] at hf
    exact mr_60_L15 hh N hf k
def mf_60_47 (N : Nat) (x2 : Int32) (x3 : Int32) (s : mS) : mO := mo_bi (mf_257 N x2 s) (fun s1 y => mf_60_51 N x2 x3 y s1)
theorem mr_60_47 {X : Nat → Option zz_C} {h : zz_H} (hh : 111 ≤ h.length) {d : Nat} {N : Nat} {Q : Option Value → zz_H → Prop} {x2 : Int32} {x3 : Int32} {s s' : mS} {v : Option Value} (hf : mf_60_47 N x2 x3 s = some (s', v)) (k : Q v (mH h s')) : zz_E zp_P zt_tf zt_fd X (d + 2) zm_60 47 [(0, .ref 61), (2, .int x2), (3, .int x3)] [] (mH h s) Q := by
  unfold mf_60_47 at hf
  obtain ⟨s1, y, e, hf⟩ := mo_bi_ok hf
  exact mb_60_47 (d := d + 1) hh  (mr_257 (d := d + 1) hh e (mr_60_51 hh hf k))
def mf_60_39 (N : Nat) (x3 : Int32) (s : mS) : mO := mf_60_226 N x3 (mI s 5 0)
theorem mr_60_39 {X : Nat → Option zz_C} {h : zz_H} (hh : 111 ≤ h.length) {d : Nat} {N : Nat} {Q : Option Value → zz_H → Prop} {x3 : Int32} {s s' : mS} {v : Option Value} (hf : mf_60_39 N x3 s = some (s', v)) (k : Q v (mH h s')) : zz_E zp_P zt_tf zt_fd X (d + 2) zm_60 39 [(0, .ref 61), (3, .int x3)] [] (mH h s) Q := by
  unfold mf_60_39 at hf
  exact mb_60_39 hh  (mr_60_226 hh hf k)
def mf_60_22 (N : Nat) (y0 : Int32) (s : mS) : mO := if (s.1 6) < (s.1 4) then mf_60_47 N y0 (s.1 6) s else mf_60_39 N (s.1 6) s
theorem mr_60_22 {X : Nat → Option zz_C} {h : zz_H} (hh : 111 ≤ h.length) {d : Nat} {N : Nat} {Q : Option Value → zz_H → Prop} {y0 : Int32} {s s' : mS} {v : Option Value} (hf : mf_60_22 N y0 s = some (s', v)) (k : Q v (mH h s')) : zz_E zp_P zt_tf zt_fd X (d + 2) zm_60 22 [(0, .ref 61)] [.int y0] (mH h s) Q := by
  unfold mf_60_22 at hf
  refine mb_60_22 hh  (fun c => ?_) (fun c => ?_)
  · rw [if_pos c] at hf
    exact mr_60_47 hh hf k
  · rw [if_neg c] at hf
    exact mr_60_39 hh hf k
def mf_60_6 (N : Nat) (y1 : Int32) (s : mS) : mO := mo_bi (mf_62 N y1 (mL (mI s 6 y1) 7 0)) (fun s1 y => mf_60_22 N y s1)
theorem mr_60_6 {X : Nat → Option zz_C} {h : zz_H} (hh : 111 ≤ h.length) {d : Nat} {N : Nat} {Q : Option Value → zz_H → Prop} {y1 : Int32} {s s' : mS} {v : Option Value} (hf : mf_60_6 N y1 s = some (s', v)) (k : Q v (mH h s')) : zz_E zp_P zt_tf zt_fd X (d + 2) zm_60 6 [(0, .ref 61)] [.int y1, .ref 61] (mH h s) Q := by
  unfold mf_60_6 at hf
  obtain ⟨s1, y, e, hf⟩ := mo_bi_ok hf
  exact mb_60_6 (d := d + 1) hh  (mr_62 (d := d + 1) hh e (mr_60_22 hh hf k))
def mf_60_0 (N : Nat) (x1 : Int32) (s : mS) : mO := mo_bi (mf_61 N x1 s) (fun s1 y => mf_60_6 N y s1)
theorem mr_60_0 {X : Nat → Option zz_C} {h : zz_H} (hh : 111 ≤ h.length) {d : Nat} {N : Nat} {Q : Option Value → zz_H → Prop} {x1 : Int32} {s s' : mS} {v : Option Value} (hf : mf_60_0 N x1 s = some (s', v)) (k : Q v (mH h s')) : zz_E zp_P zt_tf zt_fd X (d + 2) zm_60 0 [(0, .ref 61), (1, .int x1)] [] (mH h s) Q := by
  unfold mf_60_0 at hf
  obtain ⟨s1, y, e, hf⟩ := mo_bi_ok hf
  exact mb_60_0 (d := d + 1) hh  (mr_61 (d := d + 0) hh e (mr_60_6 hh hf k))
/-- token -/
def mf_60 (N : Nat) (x1 : Int32) (s : mS) : mO := mf_60_0 N x1 s
theorem mr_60 {X : Nat → Option zz_C} {h : zz_H} (hh : 111 ≤ h.length) {d : Nat} {N : Nat} {Q : Option Value → zz_H → Prop} {x1 : Int32} {s s' : mS} {v : Option Value} (hf : mf_60 N x1 s = some (s', v)) (k : Q v (mH h s')) : zz_E zp_P zt_tf zt_fd X (d + 2) zm_60 0 [(0, .ref 61), (1, .int x1)] [] (mH h s) Q := by
  unfold mf_60 at hf
  exact zz_E.weak (mr_60_0 hh hf k) rfl ⟨rfl, rfl, trivial⟩
/-! isSign (I)Z -/
theorem mb_263_0 {X : Nat → Option zz_C} {h : zz_H} (hh : 111 ≤ h.length) {s : mS} {d : Nat} {Q : Option Value → zz_H → Prop} {x1 : Int32} (k1 : ¬ (s.1 5) = 3 → zz_E zp_P zt_tf zt_fd X d zm_263 22 [] [] (mH h s) Q) (k2 : ¬ ¬ (s.1 5) = 3 → zz_E zp_P zt_tf zt_fd X d zm_263 8 [(0, .ref 61), (1, .int x1)] [] (mH h s) Q) : zz_E zp_P zt_tf zt_fd X d zm_263 0 [(0, .ref 61), (1, .int x1)] [] (mH h s) Q := by
  refine zz_E.n 1 rfl rfl rfl ?_
  refine mE_g hh 4 (v := .int (s.1 5)) rfl rfl rfl ?_
  refine zz_E.c 5 (.int 3) rfl rfl rfl rfl ?_
  refine zz_E.b2 22 8 (A := ¬ (s.1 5) = 3) rfl (zz_cond_ne _ _) (by decide) rfl rfl (fun c => ?_) (fun c => ?_)
  · exact zz_E.weak (k1 c) rfl trivial
  · exact zz_E.weak (k2 c) rfl ⟨rfl, rfl, trivial⟩
theorem mb_263_8 {X : Nat → Option zz_C} {h : zz_H} (hh : 111 ≤ h.length) {s : mS} {d : Nat} {Q : Option Value → zz_H → Prop} {x1 : Int32} (k1 : ¬ (lg_cmp (s.2.1 7) (Int32.toInt64 x1)) = 0 → zz_E zp_P zt_tf zt_fd X d zm_263 22 [] [] (mH h s) Q) (k2 : ¬ ¬ (lg_cmp (s.2.1 7) (Int32.toInt64 x1)) = 0 → zz_E zp_P zt_tf zt_fd X d zm_263 18 [] [] (mH h s) Q) : zz_E zp_P zt_tf zt_fd X d zm_263 8 [(0, .ref 61), (1, .int x1)] [] (mH h s) Q := by
  refine zz_E.n 9 rfl rfl rfl ?_
  refine mE_g hh 12 (v := .long (s.2.1 7)) rfl rfl rfl ?_
  refine zz_E.n 13 rfl rfl rfl ?_
  refine zz_E.n 14 rfl rfl rfl ?_
  refine zz_E.n 15 rfl rfl rfl ?_
  refine zz_E.b1 22 18 (A := ¬ (lg_cmp (s.2.1 7) (Int32.toInt64 x1)) = 0) rfl (zz_cond_ne _ _) (by decide) rfl rfl (fun c => ?_) (fun c => ?_)
  · exact zz_E.weak (k1 c) rfl trivial
  · exact zz_E.weak (k2 c) rfl trivial
theorem mb_263_18 {X : Nat → Option zz_C} {h : zz_H} (hh : 111 ≤ h.length) {s : mS} {d : Nat} {Q : Option Value → zz_H → Prop}  (k : zz_E zp_P zt_tf zt_fd X d zm_263 23 [] [.int 1] (mH h s) Q) : zz_E zp_P zt_tf zt_fd X d zm_263 18 [] [] (mH h s) Q := by
  refine zz_E.c 19 (.int 1) rfl rfl rfl rfl ?_
  refine zz_E.n 23 rfl rfl rfl ?_
  exact zz_E.weak k rfl trivial
theorem mb_263_22 {X : Nat → Option zz_C} {h : zz_H} (hh : 111 ≤ h.length) {s : mS} {d : Nat} {Q : Option Value → zz_H → Prop}  (k : zz_E zp_P zt_tf zt_fd X d zm_263 23 [] [.int 0] (mH h s) Q) : zz_E zp_P zt_tf zt_fd X d zm_263 22 [] [] (mH h s) Q := by
  refine zz_E.c 23 (.int 0) rfl rfl rfl rfl ?_
  exact zz_E.weak k rfl trivial
theorem mb_263_23 {X : Nat → Option zz_C} {h : zz_H} (hh : 111 ≤ h.length) {s : mS} {d : Nat} {Q : Option Value → zz_H → Prop} {y0 : Int32} (k : Q (some (.int y0)) (mH h s)) (rb : zz_reti (some .boolean) y0 = true) : zz_E zp_P zt_tf zt_fd X d zm_263 23 [] [.int y0] (mH h s) Q := by
  refine zz_E.ret rfl rfl (if_pos ⟨rfl, rb⟩) ?_
  exact k
def mf_263_23 (N : Nat) (y0 : Int32) (s : mS) : mO := if zz_reti (some .boolean) y0 = true then some (s, (some (.int y0))) else none
theorem mr_263_23 {X : Nat → Option zz_C} {h : zz_H} (hh : 111 ≤ h.length) {d : Nat} {N : Nat} {Q : Option Value → zz_H → Prop} {y0 : Int32} {s s' : mS} {v : Option Value} (hf : mf_263_23 N y0 s = some (s', v)) (k : Q v (mH h s')) : zz_E zp_P zt_tf zt_fd X (d + 0) zm_263 23 [] [.int y0] (mH h s) Q := by
  unfold mf_263_23 at hf
  obtain ⟨rb, hf⟩ := mo_if hf
  cases hf
  exact mb_263_23 hh  k rb
def mf_263_22 (N : Nat)  (s : mS) : mO := mf_263_23 N 0 s
theorem mr_263_22 {X : Nat → Option zz_C} {h : zz_H} (hh : 111 ≤ h.length) {d : Nat} {N : Nat} {Q : Option Value → zz_H → Prop}  {s s' : mS} {v : Option Value} (hf : mf_263_22 N  s = some (s', v)) (k : Q v (mH h s')) : zz_E zp_P zt_tf zt_fd X (d + 0) zm_263 22 [] [] (mH h s) Q := by
  unfold mf_263_22 at hf
  exact mb_263_22 hh  (mr_263_23 hh hf k)
def mf_263_18 (N : Nat)  (s : mS) : mO := mf_263_23 N 1 s
theorem mr_263_18 {X : Nat → Option zz_C} {h : zz_H} (hh : 111 ≤ h.length) {d : Nat} {N : Nat} {Q : Option Value → zz_H → Prop}  {s s' : mS} {v : Option Value} (hf : mf_263_18 N  s = some (s', v)) (k : Q v (mH h s')) : zz_E zp_P zt_tf zt_fd X (d + 0) zm_263 18 [] [] (mH h s) Q := by
  unfold mf_263_18 at hf
  exact mb_263_18 hh  (mr_263_23 hh hf k)
def mf_263_8 (N : Nat) (x1 : Int32) (s : mS) : mO := if ¬ (lg_cmp (s.2.1 7) (Int32.toInt64 x1)) = 0 then mf_263_22 N  s else mf_263_18 N  s
theorem mr_263_8 {X : Nat → Option zz_C} {h : zz_H} (hh : 111 ≤ h.length) {d : Nat} {N : Nat} {Q : Option Value → zz_H → Prop} {x1 : Int32} {s s' : mS} {v : Option Value} (hf : mf_263_8 N x1 s = some (s', v)) (k : Q v (mH h s')) : zz_E zp_P zt_tf zt_fd X (d + 0) zm_263 8 [(0, .ref 61), (1, .int x1)] [] (mH h s) Q := by
  unfold mf_263_8 at hf
  refine mb_263_8 hh  (fun c => ?_) (fun c => ?_)
  · rw [if_pos c] at hf
    exact mr_263_22 hh hf k
  · rw [if_neg c] at hf
    exact mr_263_18 hh hf k
def mf_263_0 (N : Nat) (x1 : Int32) (s : mS) : mO := if ¬ (s.1 5) = 3 then mf_263_22 N  s else mf_263_8 N x1 s
theorem mr_263_0 {X : Nat → Option zz_C} {h : zz_H} (hh : 111 ≤ h.length) {d : Nat} {N : Nat} {Q : Option Value → zz_H → Prop} {x1 : Int32} {s s' : mS} {v : Option Value} (hf : mf_263_0 N x1 s = some (s', v)) (k : Q v (mH h s')) : zz_E zp_P zt_tf zt_fd X (d + 0) zm_263 0 [(0, .ref 61), (1, .int x1)] [] (mH h s) Q := by
  unfold mf_263_0 at hf
  refine mb_263_0 hh  (fun c => ?_) (fun c => ?_)
  · rw [if_pos c] at hf
    exact mr_263_22 hh hf k
  · rw [if_neg c] at hf
    exact mr_263_8 hh hf k
/-- isSign -/
def mf_263 (N : Nat) (x1 : Int32) (s : mS) : mO := mf_263_0 N x1 s
theorem mr_263 {X : Nat → Option zz_C} {h : zz_H} (hh : 111 ≤ h.length) {d : Nat} {N : Nat} {Q : Option Value → zz_H → Prop} {x1 : Int32} {s s' : mS} {v : Option Value} (hf : mf_263 N x1 s = some (s', v)) (k : Q v (mH h s')) : zz_E zp_P zt_tf zt_fd X (d + 0) zm_263 0 [(0, .ref 61), (1, .int x1)] [] (mH h s) Q := by
  unfold mf_263 at hf
  exact zz_E.weak (mr_263_0 hh hf k) rfl ⟨rfl, rfl, trivial⟩
/-! take ()V -/
theorem mb_260_0 {X : Nat → Option zz_C} {h : zz_H} (hh : 111 ≤ h.length) {s : mS} {d : Nat} {Q : Option Value → zz_H → Prop}  (k : zz_E zp_P zt_tf zt_fd X d zm_60 0 [(0, .ref 61), (1, .int (s.1 8))] [] (mH h s) (fun v h' => zz_E zp_P zt_tf zt_fd X (d + 1) zm_260 8 [] (v.toList ++ []) h' Q)) : zz_E zp_P zt_tf zt_fd X (d + 1) zm_260 0 [(0, .ref 61)] [] (mH h s) Q := by
  refine zz_E.n 1 rfl rfl rfl ?_
  refine zz_E.n 2 rfl rfl rfl ?_
  refine mE_g hh 5 (v := .int (s.1 8)) rfl rfl rfl ?_
  refine mE_cv hh 8 (as := []) rfl rfl (Nat.le_of_ble_eq_true rfl) (Nat.le_of_ble_eq_true rfl) rfl (Nat.le_of_ble_eq_true rfl) rfl ?_
  refine zz_E.mono k ?_
  intro v h' hE
  exact zz_E.weak hE rfl trivial
theorem mb_260_8 {X : Nat → Option zz_C} {h : zz_H} (hh : 111 ≤ h.length) {s : mS} {d : Nat} {Q : Option Value → zz_H → Prop}  (k : Q none (mH h s)) : zz_E zp_P zt_tf zt_fd X d zm_260 8 [] [] (mH h s) Q := by
  refine zz_E.ret rfl rfl rfl ?_
  exact k
def mf_260_8 (N : Nat)  (s : mS) : mO := some (s, none)
theorem mr_260_8 {X : Nat → Option zz_C} {h : zz_H} (hh : 111 ≤ h.length) {d : Nat} {N : Nat} {Q : Option Value → zz_H → Prop}  {s s' : mS} {v : Option Value} (hf : mf_260_8 N  s = some (s', v)) (k : Q v (mH h s')) : zz_E zp_P zt_tf zt_fd X (d + 3) zm_260 8 [] [] (mH h s) Q := by
  unfold mf_260_8 at hf
  cases hf
  exact mb_260_8 hh  k
def mf_260_0 (N : Nat)  (s : mS) : mO := mo_bv (mf_60 N (s.1 8) s) (fun s1 => mf_260_8 N  s1)
theorem mr_260_0 {X : Nat → Option zz_C} {h : zz_H} (hh : 111 ≤ h.length) {d : Nat} {N : Nat} {Q : Option Value → zz_H → Prop}  {s s' : mS} {v : Option Value} (hf : mf_260_0 N  s = some (s', v)) (k : Q v (mH h s')) : zz_E zp_P zt_tf zt_fd X (d + 3) zm_260 0 [(0, .ref 61)] [] (mH h s) Q := by
  unfold mf_260_0 at hf
  obtain ⟨s1, e, hf⟩ := mo_bv_ok hf
  exact mb_260_0 (d := d + 2) hh  (mr_60 (d := d + 0) hh e (mr_260_8 hh hf k))
/-- take -/
def mf_260 (N : Nat)  (s : mS) : mO := mf_260_0 N  s
theorem mr_260 {X : Nat → Option zz_C} {h : zz_H} (hh : 111 ≤ h.length) {d : Nat} {N : Nat} {Q : Option Value → zz_H → Prop}  {s s' : mS} {v : Option Value} (hf : mf_260 N  s = some (s', v)) (k : Q v (mH h s')) : zz_E zp_P zt_tf zt_fd X (d + 3) zm_260 0 [(0, .ref 61)] [] (mH h s) Q := by
  unfold mf_260 at hf
  exact zz_E.weak (mr_260_0 hh hf k) rfl ⟨rfl, trivial⟩
/-! wrong ()V -/
theorem mb_262_0 {X : Nat → Option zz_C} {h : zz_H} (hh : 111 ≤ h.length) {s : mS} {d : Nat} {Q : Option Value → zz_H → Prop}  (k1 : ¬ (s.1 5) = 4 → zz_E zp_P zt_tf zt_fd X d zm_262 13 [(0, .ref 61)] [.ref 61] (mH h s) Q) (k2 : ¬ ¬ (s.1 5) = 4 → zz_E zp_P zt_tf zt_fd X d zm_262 9 [(0, .ref 61)] [.ref 61] (mH h s) Q) : zz_E zp_P zt_tf zt_fd X d zm_262 0 [(0, .ref 61)] [] (mH h s) Q := by
  refine zz_E.n 1 rfl rfl rfl ?_
  refine zz_E.n 2 rfl rfl rfl ?_
  refine mE_g hh 5 (v := .int (s.1 5)) rfl rfl rfl ?_
  refine zz_E.c 6 (.int 4) rfl rfl rfl rfl ?_
  refine zz_E.b2 13 9 (A := ¬ (s.1 5) = 4) rfl (zz_cond_ne _ _) (by decide) rfl rfl (fun c => ?_) (fun c => ?_)
  · exact zz_E.weak (k1 c) rfl ⟨rfl, trivial⟩
  · exact zz_E.weak (k2 c) rfl ⟨rfl, trivial⟩
theorem mb_262_9 {X : Nat → Option zz_C} {h : zz_H} (hh : 111 ≤ h.length) {s : mS} {d : Nat} {Q : Option Value → zz_H → Prop}  (k : zz_E zp_P zt_tf zt_fd X d zm_262 14 [(0, .ref 61)] [.int 1, .ref 61] (mH h s) Q) : zz_E zp_P zt_tf zt_fd X d zm_262 9 [(0, .ref 61)] [.ref 61] (mH h s) Q := by
  refine zz_E.c 10 (.int 1) rfl rfl rfl rfl ?_
  refine zz_E.n 14 rfl rfl rfl ?_
  exact zz_E.weak k rfl ⟨rfl, trivial⟩
theorem mb_262_13 {X : Nat → Option zz_C} {h : zz_H} (hh : 111 ≤ h.length) {s : mS} {d : Nat} {Q : Option Value → zz_H → Prop}  (k : zz_E zp_P zt_tf zt_fd X d zm_262 14 [(0, .ref 61)] [.int 2, .ref 61] (mH h s) Q) : zz_E zp_P zt_tf zt_fd X d zm_262 13 [(0, .ref 61)] [.ref 61] (mH h s) Q := by
  refine zz_E.c 14 (.int 2) rfl rfl rfl rfl ?_
  exact zz_E.weak k rfl ⟨rfl, trivial⟩
theorem mb_262_14 {X : Nat → Option zz_C} {h : zz_H} (hh : 111 ≤ h.length) {s : mS} {d : Nat} {Q : Option Value → zz_H → Prop} {y1 : Int32} (k : zz_E zp_P zt_tf zt_fd X d zm_261 0 [(0, .ref 61), (1, .int y1), (2, .int (s.1 6))] [] (mH h s) (fun v h' => zz_E zp_P zt_tf zt_fd X (d + 1) zm_262 21 [] (v.toList ++ []) h' Q)) : zz_E zp_P zt_tf zt_fd X (d + 1) zm_262 14 [(0, .ref 61)] [.int y1, .ref 61] (mH h s) Q := by
  refine zz_E.n 15 rfl rfl rfl ?_
  refine mE_g hh 18 (v := .int (s.1 6)) rfl rfl rfl ?_
  refine mE_cv hh 21 (as := []) rfl rfl (Nat.le_of_ble_eq_true rfl) (Nat.le_of_ble_eq_true rfl) rfl (Nat.le_of_ble_eq_true rfl) rfl ?_
  refine zz_E.mono k ?_
  intro v h' hE
  exact zz_E.weak hE rfl trivial
theorem mb_262_21 {X : Nat → Option zz_C} {h : zz_H} (hh : 111 ≤ h.length) {s : mS} {d : Nat} {Q : Option Value → zz_H → Prop}  (k : Q none (mH h s)) : zz_E zp_P zt_tf zt_fd X d zm_262 21 [] [] (mH h s) Q := by
  refine zz_E.ret rfl rfl rfl ?_
  exact k
def mf_262_21 (N : Nat)  (s : mS) : mO := some (s, none)
theorem mr_262_21 {X : Nat → Option zz_C} {h : zz_H} (hh : 111 ≤ h.length) {d : Nat} {N : Nat} {Q : Option Value → zz_H → Prop}  {s s' : mS} {v : Option Value} (hf : mf_262_21 N  s = some (s', v)) (k : Q v (mH h s')) : zz_E zp_P zt_tf zt_fd X (d + 1) zm_262 21 [] [] (mH h s) Q := by
  unfold mf_262_21 at hf
  cases hf
  exact mb_262_21 hh  k
def mf_262_14 (N : Nat) (y1 : Int32) (s : mS) : mO := mo_bv (mf_261 N y1 (s.1 6) s) (fun s1 => mf_262_21 N  s1)
theorem mr_262_14 {X : Nat → Option zz_C} {h : zz_H} (hh : 111 ≤ h.length) {d : Nat} {N : Nat} {Q : Option Value → zz_H → Prop} {y1 : Int32} {s s' : mS} {v : Option Value} (hf : mf_262_14 N y1 s = some (s', v)) (k : Q v (mH h s')) : zz_E zp_P zt_tf zt_fd X (d + 1) zm_262 14 [(0, .ref 61)] [.int y1, .ref 61] (mH h s) Q := by
  unfold mf_262_14 at hf
  obtain ⟨s1, e, hf⟩ := mo_bv_ok hf
  exact mb_262_14 (d := d + 0) hh  (mr_261 (d := d + 0) hh e (mr_262_21 hh hf k))
def mf_262_13 (N : Nat)  (s : mS) : mO := mf_262_14 N 2 s
theorem mr_262_13 {X : Nat → Option zz_C} {h : zz_H} (hh : 111 ≤ h.length) {d : Nat} {N : Nat} {Q : Option Value → zz_H → Prop}  {s s' : mS} {v : Option Value} (hf : mf_262_13 N  s = some (s', v)) (k : Q v (mH h s')) : zz_E zp_P zt_tf zt_fd X (d + 1) zm_262 13 [(0, .ref 61)] [.ref 61] (mH h s) Q := by
  unfold mf_262_13 at hf
  exact mb_262_13 hh  (mr_262_14 hh hf k)
def mf_262_9 (N : Nat)  (s : mS) : mO := mf_262_14 N 1 s
theorem mr_262_9 {X : Nat → Option zz_C} {h : zz_H} (hh : 111 ≤ h.length) {d : Nat} {N : Nat} {Q : Option Value → zz_H → Prop}  {s s' : mS} {v : Option Value} (hf : mf_262_9 N  s = some (s', v)) (k : Q v (mH h s')) : zz_E zp_P zt_tf zt_fd X (d + 1) zm_262 9 [(0, .ref 61)] [.ref 61] (mH h s) Q := by
  unfold mf_262_9 at hf
  exact mb_262_9 hh  (mr_262_14 hh hf k)
def mf_262_0 (N : Nat)  (s : mS) : mO := if ¬ (s.1 5) = 4 then mf_262_13 N  s else mf_262_9 N  s
theorem mr_262_0 {X : Nat → Option zz_C} {h : zz_H} (hh : 111 ≤ h.length) {d : Nat} {N : Nat} {Q : Option Value → zz_H → Prop}  {s s' : mS} {v : Option Value} (hf : mf_262_0 N  s = some (s', v)) (k : Q v (mH h s')) : zz_E zp_P zt_tf zt_fd X (d + 1) zm_262 0 [(0, .ref 61)] [] (mH h s) Q := by
  unfold mf_262_0 at hf
  refine mb_262_0 hh  (fun c => ?_) (fun c => ?_)
  · rw [if_pos c] at hf
    exact mr_262_13 hh hf k
  · rw [if_neg c] at hf
    exact mr_262_9 hh hf k
/-- wrong -/
def mf_262 (N : Nat)  (s : mS) : mO := mf_262_0 N  s
theorem mr_262 {X : Nat → Option zz_C} {h : zz_H} (hh : 111 ≤ h.length) {d : Nat} {N : Nat} {Q : Option Value → zz_H → Prop}  {s s' : mS} {v : Option Value} (hf : mf_262 N  s = some (s', v)) (k : Q v (mH h s')) : zz_E zp_P zt_tf zt_fd X (d + 1) zm_262 0 [(0, .ref 61)] [] (mH h s) Q := by
  unfold mf_262 at hf
  exact zz_E.weak (mr_262_0 hh hf k) rfl ⟨rfl, trivial⟩
/-! isWord (I)Z -/
theorem mb_264_0 {X : Nat → Option zz_C} {h : zz_H} (hh : 111 ≤ h.length) {s : mS} {d : Nat} {Q : Option Value → zz_H → Prop} {x1 : Int32} (k1 : ¬ (s.1 5) = 1 → zz_E zp_P zt_tf zt_fd X d zm_264 26 [] [] (mH h s) Q) (k2 : ¬ ¬ (s.1 5) = 1 → zz_E zp_P zt_tf zt_fd X d zm_264 8 [(0, .ref 61), (1, .int x1)] [] (mH h s) Q) : zz_E zp_P zt_tf zt_fd X d zm_264 0 [(0, .ref 61), (1, .int x1)] [] (mH h s) Q := by
  refine zz_E.n 1 rfl rfl rfl ?_
  refine mE_g hh 4 (v := .int (s.1 5)) rfl rfl rfl ?_
  refine zz_E.c 5 (.int 1) rfl rfl rfl rfl ?_
  refine zz_E.b2 26 8 (A := ¬ (s.1 5) = 1) rfl (zz_cond_ne _ _) (by decide) rfl rfl (fun c => ?_) (fun c => ?_)
  · exact zz_E.weak (k1 c) rfl trivial
  · exact zz_E.weak (k2 c) rfl ⟨rfl, rfl, trivial⟩
theorem mb_264_8 {X : Nat → Option zz_C} {h : zz_H} (hh : 111 ≤ h.length) {s : mS} {d : Nat} {Q : Option Value → zz_H → Prop} {x1 : Int32} (i17 : ¬ (x1 < 0 ∨ 41 ≤ Int32.toNatClampNeg x1)) (k1 : ¬ (lg_cmp (s.2.1 7) ((s.2.2.2 0) (Int32.toNatClampNeg x1))) = 0 → zz_E zp_P zt_tf zt_fd X d zm_264 26 [] [] (mH h s) Q) (k2 : ¬ ¬ (lg_cmp (s.2.1 7) ((s.2.2.2 0) (Int32.toNatClampNeg x1))) = 0 → zz_E zp_P zt_tf zt_fd X d zm_264 22 [] [] (mH h s) Q) : zz_E zp_P zt_tf zt_fd X d zm_264 8 [(0, .ref 61), (1, .int x1)] [] (mH h s) Q := by
  refine zz_E.n 9 rfl rfl rfl ?_
  refine mE_g hh 12 (v := .long (s.2.1 7)) rfl rfl rfl ?_
  refine zz_E.n 13 rfl rfl rfl ?_
  refine mE_g hh 16 (v := .ref 62) rfl rfl rfl ?_
  refine zz_E.n 17 rfl rfl rfl ?_
  refine mE_la hh 18 1 (f := (s.2.2.2 0)) rfl (by decide) rfl rfl i17 rfl ?_
  refine zz_E.n 19 rfl rfl rfl ?_
  refine zz_E.b1 26 22 (A := ¬ (lg_cmp (s.2.1 7) ((s.2.2.2 0) (Int32.toNatClampNeg x1))) = 0) rfl (zz_cond_ne _ _) (by decide) rfl rfl (fun c => ?_) (fun c => ?_)
  · exact zz_E.weak (k1 c) rfl trivial
  · exact zz_E.weak (k2 c) rfl trivial
theorem mb_264_22 {X : Nat → Option zz_C} {h : zz_H} (hh : 111 ≤ h.length) {s : mS} {d : Nat} {Q : Option Value → zz_H → Prop}  (k : zz_E zp_P zt_tf zt_fd X d zm_264 27 [] [.int 1] (mH h s) Q) : zz_E zp_P zt_tf zt_fd X d zm_264 22 [] [] (mH h s) Q := by
  refine zz_E.c 23 (.int 1) rfl rfl rfl rfl ?_
  refine zz_E.n 27 rfl rfl rfl ?_
  exact zz_E.weak k rfl trivial
theorem mb_264_26 {X : Nat → Option zz_C} {h : zz_H} (hh : 111 ≤ h.length) {s : mS} {d : Nat} {Q : Option Value → zz_H → Prop}  (k : zz_E zp_P zt_tf zt_fd X d zm_264 27 [] [.int 0] (mH h s) Q) : zz_E zp_P zt_tf zt_fd X d zm_264 26 [] [] (mH h s) Q := by
  refine zz_E.c 27 (.int 0) rfl rfl rfl rfl ?_
  exact zz_E.weak k rfl trivial
theorem mb_264_27 {X : Nat → Option zz_C} {h : zz_H} (hh : 111 ≤ h.length) {s : mS} {d : Nat} {Q : Option Value → zz_H → Prop} {y0 : Int32} (k : Q (some (.int y0)) (mH h s)) (rb : zz_reti (some .boolean) y0 = true) : zz_E zp_P zt_tf zt_fd X d zm_264 27 [] [.int y0] (mH h s) Q := by
  refine zz_E.ret rfl rfl (if_pos ⟨rfl, rb⟩) ?_
  exact k
def mf_264_27 (N : Nat) (y0 : Int32) (s : mS) : mO := if zz_reti (some .boolean) y0 = true then some (s, (some (.int y0))) else none
theorem mr_264_27 {X : Nat → Option zz_C} {h : zz_H} (hh : 111 ≤ h.length) {d : Nat} {N : Nat} {Q : Option Value → zz_H → Prop} {y0 : Int32} {s s' : mS} {v : Option Value} (hf : mf_264_27 N y0 s = some (s', v)) (k : Q v (mH h s')) : zz_E zp_P zt_tf zt_fd X (d + 0) zm_264 27 [] [.int y0] (mH h s) Q := by
  unfold mf_264_27 at hf
  obtain ⟨rb, hf⟩ := mo_if hf
  cases hf
  exact mb_264_27 hh  k rb
def mf_264_26 (N : Nat)  (s : mS) : mO := mf_264_27 N 0 s
theorem mr_264_26 {X : Nat → Option zz_C} {h : zz_H} (hh : 111 ≤ h.length) {d : Nat} {N : Nat} {Q : Option Value → zz_H → Prop}  {s s' : mS} {v : Option Value} (hf : mf_264_26 N  s = some (s', v)) (k : Q v (mH h s')) : zz_E zp_P zt_tf zt_fd X (d + 0) zm_264 26 [] [] (mH h s) Q := by
  unfold mf_264_26 at hf
  exact mb_264_26 hh  (mr_264_27 hh hf k)
def mf_264_22 (N : Nat)  (s : mS) : mO := mf_264_27 N 1 s
theorem mr_264_22 {X : Nat → Option zz_C} {h : zz_H} (hh : 111 ≤ h.length) {d : Nat} {N : Nat} {Q : Option Value → zz_H → Prop}  {s s' : mS} {v : Option Value} (hf : mf_264_22 N  s = some (s', v)) (k : Q v (mH h s')) : zz_E zp_P zt_tf zt_fd X (d + 0) zm_264 22 [] [] (mH h s) Q := by
  unfold mf_264_22 at hf
  exact mb_264_22 hh  (mr_264_27 hh hf k)
def mf_264_8 (N : Nat) (x1 : Int32) (s : mS) : mO := if ¬ (x1 < 0 ∨ 41 ≤ Int32.toNatClampNeg x1) then (if ¬ (lg_cmp (s.2.1 7) ((s.2.2.2 0) (Int32.toNatClampNeg x1))) = 0 then mf_264_26 N  s else mf_264_22 N  s) else none
theorem mr_264_8 {X : Nat → Option zz_C} {h : zz_H} (hh : 111 ≤ h.length) {d : Nat} {N : Nat} {Q : Option Value → zz_H → Prop} {x1 : Int32} {s s' : mS} {v : Option Value} (hf : mf_264_8 N x1 s = some (s', v)) (k : Q v (mH h s')) : zz_E zp_P zt_tf zt_fd X (d + 0) zm_264 8 [(0, .ref 61), (1, .int x1)] [] (mH h s) Q := by
  unfold mf_264_8 at hf
  obtain ⟨q0, hf⟩ := mo_if hf
  refine mb_264_8 hh q0 (fun c => ?_) (fun c => ?_)
  · rw [if_pos c] at hf
    exact mr_264_26 hh hf k
  · rw [if_neg c] at hf
    exact mr_264_22 hh hf k
def mf_264_0 (N : Nat) (x1 : Int32) (s : mS) : mO := if ¬ (s.1 5) = 1 then mf_264_26 N  s else mf_264_8 N x1 s
theorem mr_264_0 {X : Nat → Option zz_C} {h : zz_H} (hh : 111 ≤ h.length) {d : Nat} {N : Nat} {Q : Option Value → zz_H → Prop} {x1 : Int32} {s s' : mS} {v : Option Value} (hf : mf_264_0 N x1 s = some (s', v)) (k : Q v (mH h s')) : zz_E zp_P zt_tf zt_fd X (d + 0) zm_264 0 [(0, .ref 61), (1, .int x1)] [] (mH h s) Q := by
  unfold mf_264_0 at hf
  refine mb_264_0 hh  (fun c => ?_) (fun c => ?_)
  · rw [if_pos c] at hf
    exact mr_264_26 hh hf k
  · rw [if_neg c] at hf
    exact mr_264_8 hh hf k
/-- isWord -/
def mf_264 (N : Nat) (x1 : Int32) (s : mS) : mO := mf_264_0 N x1 s
theorem mr_264 {X : Nat → Option zz_C} {h : zz_H} (hh : 111 ≤ h.length) {d : Nat} {N : Nat} {Q : Option Value → zz_H → Prop} {x1 : Int32} {s s' : mS} {v : Option Value} (hf : mf_264 N x1 s = some (s', v)) (k : Q v (mH h s')) : zz_E zp_P zt_tf zt_fd X (d + 0) zm_264 0 [(0, .ref 61), (1, .int x1)] [] (mH h s) Q := by
  unfold mf_264 at hf
  exact zz_E.weak (mr_264_0 hh hf k) rfl ⟨rfl, rfl, trivial⟩
/-! word (I)V -/
theorem mb_269_0 {X : Nat → Option zz_C} {h : zz_H} (hh : 111 ≤ h.length) {s : mS} {d : Nat} {Q : Option Value → zz_H → Prop} {x1 : Int32} (k1 : (s.1 9) ≤ 0 → zz_E zp_P zt_tf zt_fd X d zm_269 8 [(0, .ref 61), (1, .int x1)] [] (mH h s) Q) (k2 : ¬ (s.1 9) ≤ 0 → zz_E zp_P zt_tf zt_fd X d zm_269 7 [] [] (mH h s) Q) : zz_E zp_P zt_tf zt_fd X d zm_269 0 [(0, .ref 61), (1, .int x1)] [] (mH h s) Q := by
  refine zz_E.n 1 rfl rfl rfl ?_
  refine mE_g hh 4 (v := .int (s.1 9)) rfl rfl rfl ?_
  refine zz_E.b1 8 7 (A := (s.1 9) ≤ 0) rfl rfl (by decide) rfl rfl (fun c => ?_) (fun c => ?_)
  · exact zz_E.weak (k1 c) rfl ⟨rfl, rfl, trivial⟩
  · exact zz_E.weak (k2 c) rfl trivial
theorem mb_269_7 {X : Nat → Option zz_C} {h : zz_H} (hh : 111 ≤ h.length) {s : mS} {d : Nat} {Q : Option Value → zz_H → Prop}  (k : Q none (mH h s)) : zz_E zp_P zt_tf zt_fd X d zm_269 7 [] [] (mH h s) Q := by
  refine zz_E.ret rfl rfl rfl ?_
  exact k
theorem mb_269_8 {X : Nat → Option zz_C} {h : zz_H} (hh : 111 ≤ h.length) {s : mS} {d : Nat} {Q : Option Value → zz_H → Prop} {x1 : Int32} (k : zz_E zp_P zt_tf zt_fd X d zm_264 0 [(0, .ref 61), (1, .int x1)] [] (mH h s) (fun v h' => zz_E zp_P zt_tf zt_fd X (d + 1) zm_269 13 [(0, .ref 61)] (v.toList ++ []) h' Q)) : zz_E zp_P zt_tf zt_fd X (d + 1) zm_269 8 [(0, .ref 61), (1, .int x1)] [] (mH h s) Q := by
  refine zz_E.n 9 rfl rfl rfl ?_
  refine zz_E.n 10 rfl rfl rfl ?_
  refine mE_cv hh 13 (as := []) rfl rfl (Nat.le_of_ble_eq_true rfl) (Nat.le_of_ble_eq_true rfl) rfl (Nat.le_of_ble_eq_true rfl) rfl ?_
  refine zz_E.mono k ?_
  intro v h' hE
  exact zz_E.weak hE rfl ⟨rfl, trivial⟩
theorem mb_269_13 {X : Nat → Option zz_C} {h : zz_H} (hh : 111 ≤ h.length) {s : mS} {d : Nat} {Q : Option Value → zz_H → Prop} {y0 : Int32} (k1 : y0 = 0 → zz_E zp_P zt_tf zt_fd X d zm_269 23 [(0, .ref 61)] [] (mH h s) Q) (k2 : ¬ y0 = 0 → zz_E zp_P zt_tf zt_fd X d zm_269 16 [(0, .ref 61)] [] (mH h s) Q) : zz_E zp_P zt_tf zt_fd X d zm_269 13 [(0, .ref 61)] [.int y0] (mH h s) Q := by
  refine zz_E.b1 23 16 (A := y0 = 0) rfl rfl (by decide) rfl rfl (fun c => ?_) (fun c => ?_)
  · exact zz_E.weak (k1 c) rfl ⟨rfl, trivial⟩
  · exact zz_E.weak (k2 c) rfl ⟨rfl, trivial⟩
theorem mb_269_16 {X : Nat → Option zz_C} {h : zz_H} (hh : 111 ≤ h.length) {s : mS} {d : Nat} {Q : Option Value → zz_H → Prop}  (k : zz_E zp_P zt_tf zt_fd X d zm_260 0 [(0, .ref 61)] [] (mH h s) (fun v h' => zz_E zp_P zt_tf zt_fd X (d + 1) zm_269 20 [] (v.toList ++ []) h' Q)) : zz_E zp_P zt_tf zt_fd X (d + 1) zm_269 16 [(0, .ref 61)] [] (mH h s) Q := by
  refine zz_E.n 17 rfl rfl rfl ?_
  refine mE_cv hh 20 (as := []) rfl rfl (Nat.le_of_ble_eq_true rfl) (Nat.le_of_ble_eq_true rfl) rfl (Nat.le_of_ble_eq_true rfl) rfl ?_
  refine zz_E.mono k ?_
  intro v h' hE
  exact zz_E.weak hE rfl trivial
theorem mb_269_20 {X : Nat → Option zz_C} {h : zz_H} (hh : 111 ≤ h.length) {s : mS} {d : Nat} {Q : Option Value → zz_H → Prop}  (k : zz_E zp_P zt_tf zt_fd X d zm_269 27 [] [] (mH h s) Q) : zz_E zp_P zt_tf zt_fd X d zm_269 20 [] [] (mH h s) Q := by
  refine zz_E.n 27 rfl rfl rfl ?_
  exact zz_E.weak k rfl trivial
theorem mb_269_23 {X : Nat → Option zz_C} {h : zz_H} (hh : 111 ≤ h.length) {s : mS} {d : Nat} {Q : Option Value → zz_H → Prop}  (k : zz_E zp_P zt_tf zt_fd X d zm_262 0 [(0, .ref 61)] [] (mH h s) (fun v h' => zz_E zp_P zt_tf zt_fd X (d + 1) zm_269 27 [] (v.toList ++ []) h' Q)) : zz_E zp_P zt_tf zt_fd X (d + 1) zm_269 23 [(0, .ref 61)] [] (mH h s) Q := by
  refine zz_E.n 24 rfl rfl rfl ?_
  refine mE_cv hh 27 (as := []) rfl rfl (Nat.le_of_ble_eq_true rfl) (Nat.le_of_ble_eq_true rfl) rfl (Nat.le_of_ble_eq_true rfl) rfl ?_
  refine zz_E.mono k ?_
  intro v h' hE
  exact zz_E.weak hE rfl trivial
theorem mb_269_27 {X : Nat → Option zz_C} {h : zz_H} (hh : 111 ≤ h.length) {s : mS} {d : Nat} {Q : Option Value → zz_H → Prop}  (k : Q none (mH h s)) : zz_E zp_P zt_tf zt_fd X d zm_269 27 [] [] (mH h s) Q := by
  refine zz_E.ret rfl rfl rfl ?_
  exact k
def mf_269_27 (N : Nat)  (s : mS) : mO := some (s, none)
theorem mr_269_27 {X : Nat → Option zz_C} {h : zz_H} (hh : 111 ≤ h.length) {d : Nat} {N : Nat} {Q : Option Value → zz_H → Prop}  {s s' : mS} {v : Option Value} (hf : mf_269_27 N  s = some (s', v)) (k : Q v (mH h s')) : zz_E zp_P zt_tf zt_fd X (d + 4) zm_269 27 [] [] (mH h s) Q := by
  unfold mf_269_27 at hf
  cases hf
  exact mb_269_27 hh  k
def mf_269_23 (N : Nat)  (s : mS) : mO := mo_bv (mf_262 N  s) (fun s1 => mf_269_27 N  s1)
theorem mr_269_23 {X : Nat → Option zz_C} {h : zz_H} (hh : 111 ≤ h.length) {d : Nat} {N : Nat} {Q : Option Value → zz_H → Prop}  {s s' : mS} {v : Option Value} (hf : mf_269_23 N  s = some (s', v)) (k : Q v (mH h s')) : zz_E zp_P zt_tf zt_fd X (d + 4) zm_269 23 [(0, .ref 61)] [] (mH h s) Q := by
  unfold mf_269_23 at hf
  obtain ⟨s1, e, hf⟩ := mo_bv_ok hf
  exact mb_269_23 (d := d + 3) hh  (mr_262 (d := d + 2) hh e (mr_269_27 hh hf k))
def mf_269_20 (N : Nat)  (s : mS) : mO := mf_269_27 N  s
theorem mr_269_20 {X : Nat → Option zz_C} {h : zz_H} (hh : 111 ≤ h.length) {d : Nat} {N : Nat} {Q : Option Value → zz_H → Prop}  {s s' : mS} {v : Option Value} (hf : mf_269_20 N  s = some (s', v)) (k : Q v (mH h s')) : zz_E zp_P zt_tf zt_fd X (d + 4) zm_269 20 [] [] (mH h s) Q := by
  unfold mf_269_20 at hf
  exact mb_269_20 hh  (mr_269_27 hh hf k)
def mf_269_16 (N : Nat)  (s : mS) : mO := mo_bv (mf_260 N  s) (fun s1 => mf_269_20 N  s1)
theorem mr_269_16 {X : Nat → Option zz_C} {h : zz_H} (hh : 111 ≤ h.length) {d : Nat} {N : Nat} {Q : Option Value → zz_H → Prop}  {s s' : mS} {v : Option Value} (hf : mf_269_16 N  s = some (s', v)) (k : Q v (mH h s')) : zz_E zp_P zt_tf zt_fd X (d + 4) zm_269 16 [(0, .ref 61)] [] (mH h s) Q := by
  unfold mf_269_16 at hf
  obtain ⟨s1, e, hf⟩ := mo_bv_ok hf
  exact mb_269_16 (d := d + 3) hh  (mr_260 (d := d + 0) hh e (mr_269_20 hh hf k))
def mf_269_13 (N : Nat) (y0 : Int32) (s : mS) : mO := if y0 = 0 then mf_269_23 N  s else mf_269_16 N  s
theorem mr_269_13 {X : Nat → Option zz_C} {h : zz_H} (hh : 111 ≤ h.length) {d : Nat} {N : Nat} {Q : Option Value → zz_H → Prop} {y0 : Int32} {s s' : mS} {v : Option Value} (hf : mf_269_13 N y0 s = some (s', v)) (k : Q v (mH h s')) : zz_E zp_P zt_tf zt_fd X (d + 4) zm_269 13 [(0, .ref 61)] [.int y0] (mH h s) Q := by
  unfold mf_269_13 at hf
  refine mb_269_13 hh  (fun c => ?_) (fun c => ?_)
  · rw [if_pos c] at hf
    exact mr_269_23 hh hf k
  · rw [if_neg c] at hf
    exact mr_269_16 hh hf k
def mf_269_8 (N : Nat) (x1 : Int32) (s : mS) : mO := mo_bi (mf_264 N x1 s) (fun s1 y => mf_269_13 N y s1)
theorem mr_269_8 {X : Nat → Option zz_C} {h : zz_H} (hh : 111 ≤ h.length) {d : Nat} {N : Nat} {Q : Option Value → zz_H → Prop} {x1 : Int32} {s s' : mS} {v : Option Value} (hf : mf_269_8 N x1 s = some (s', v)) (k : Q v (mH h s')) : zz_E zp_P zt_tf zt_fd X (d + 4) zm_269 8 [(0, .ref 61), (1, .int x1)] [] (mH h s) Q := by
  unfold mf_269_8 at hf
  obtain ⟨s1, y, e, hf⟩ := mo_bi_ok hf
  exact mb_269_8 (d := d + 3) hh  (mr_264 (d := d + 3) hh e (mr_269_13 hh hf k))
def mf_269_7 (N : Nat)  (s : mS) : mO := some (s, none)
theorem mr_269_7 {X : Nat → Option zz_C} {h : zz_H} (hh : 111 ≤ h.length) {d : Nat} {N : Nat} {Q : Option Value → zz_H → Prop}  {s s' : mS} {v : Option Value} (hf : mf_269_7 N  s = some (s', v)) (k : Q v (mH h s')) : zz_E zp_P zt_tf zt_fd X (d + 4) zm_269 7 [] [] (mH h s) Q := by
  unfold mf_269_7 at hf
  cases hf
  exact mb_269_7 hh  k
def mf_269_0 (N : Nat) (x1 : Int32) (s : mS) : mO := if (s.1 9) ≤ 0 then mf_269_8 N x1 s else mf_269_7 N  s
theorem mr_269_0 {X : Nat → Option zz_C} {h : zz_H} (hh : 111 ≤ h.length) {d : Nat} {N : Nat} {Q : Option Value → zz_H → Prop} {x1 : Int32} {s s' : mS} {v : Option Value} (hf : mf_269_0 N x1 s = some (s', v)) (k : Q v (mH h s')) : zz_E zp_P zt_tf zt_fd X (d + 4) zm_269 0 [(0, .ref 61), (1, .int x1)] [] (mH h s) Q := by
  unfold mf_269_0 at hf
  refine mb_269_0 hh  (fun c => ?_) (fun c => ?_)
  · rw [if_pos c] at hf
    exact mr_269_8 hh hf k
  · rw [if_neg c] at hf
    exact mr_269_7 hh hf k
/-- word -/
def mf_269 (N : Nat) (x1 : Int32) (s : mS) : mO := mf_269_0 N x1 s
theorem mr_269 {X : Nat → Option zz_C} {h : zz_H} (hh : 111 ≤ h.length) {d : Nat} {N : Nat} {Q : Option Value → zz_H → Prop} {x1 : Int32} {s s' : mS} {v : Option Value} (hf : mf_269 N x1 s = some (s', v)) (k : Q v (mH h s')) : zz_E zp_P zt_tf zt_fd X (d + 4) zm_269 0 [(0, .ref 61), (1, .int x1)] [] (mH h s) Q := by
  unfold mf_269 at hf
  exact zz_E.weak (mr_269_0 hh hf k) rfl ⟨rfl, rfl, trivial⟩
/-! sign (I)V -/
theorem mb_267_0 {X : Nat → Option zz_C} {h : zz_H} (hh : 111 ≤ h.length) {s : mS} {d : Nat} {Q : Option Value → zz_H → Prop} {x1 : Int32} (k1 : (s.1 9) ≤ 0 → zz_E zp_P zt_tf zt_fd X d zm_267 8 [(0, .ref 61), (1, .int x1)] [] (mH h s) Q) (k2 : ¬ (s.1 9) ≤ 0 → zz_E zp_P zt_tf zt_fd X d zm_267 7 [] [] (mH h s) Q) : zz_E zp_P zt_tf zt_fd X d zm_267 0 [(0, .ref 61), (1, .int x1)] [] (mH h s) Q := by
  refine zz_E.n 1 rfl rfl rfl ?_
  refine mE_g hh 4 (v := .int (s.1 9)) rfl rfl rfl ?_
  refine zz_E.b1 8 7 (A := (s.1 9) ≤ 0) rfl rfl (by decide) rfl rfl (fun c => ?_) (fun c => ?_)
  · exact zz_E.weak (k1 c) rfl ⟨rfl, rfl, trivial⟩
  · exact zz_E.weak (k2 c) rfl trivial
theorem mb_267_7 {X : Nat → Option zz_C} {h : zz_H} (hh : 111 ≤ h.length) {s : mS} {d : Nat} {Q : Option Value → zz_H → Prop}  (k : Q none (mH h s)) : zz_E zp_P zt_tf zt_fd X d zm_267 7 [] [] (mH h s) Q := by
  refine zz_E.ret rfl rfl rfl ?_
  exact k
theorem mb_267_8 {X : Nat → Option zz_C} {h : zz_H} (hh : 111 ≤ h.length) {s : mS} {d : Nat} {Q : Option Value → zz_H → Prop} {x1 : Int32} (k : zz_E zp_P zt_tf zt_fd X d zm_263 0 [(0, .ref 61), (1, .int x1)] [] (mH h s) (fun v h' => zz_E zp_P zt_tf zt_fd X (d + 1) zm_267 13 [(0, .ref 61), (1, .int x1)] (v.toList ++ []) h' Q)) : zz_E zp_P zt_tf zt_fd X (d + 1) zm_267 8 [(0, .ref 61), (1, .int x1)] [] (mH h s) Q := by
  refine zz_E.n 9 rfl rfl rfl ?_
  refine zz_E.n 10 rfl rfl rfl ?_
  refine mE_cv hh 13 (as := []) rfl rfl (Nat.le_of_ble_eq_true rfl) (Nat.le_of_ble_eq_true rfl) rfl (Nat.le_of_ble_eq_true rfl) rfl ?_
  refine zz_E.mono k ?_
  intro v h' hE
  exact zz_E.weak hE rfl ⟨rfl, rfl, trivial⟩
theorem mb_267_13 {X : Nat → Option zz_C} {h : zz_H} (hh : 111 ≤ h.length) {s : mS} {d : Nat} {Q : Option Value → zz_H → Prop} {x1 : Int32} {y0 : Int32} (k1 : y0 = 0 → zz_E zp_P zt_tf zt_fd X d zm_267 51 [(0, .ref 61)] [] (mH h s) Q) (k2 : ¬ y0 = 0 → zz_E zp_P zt_tf zt_fd X d zm_267 16 [(0, .ref 61), (1, .int x1)] [] (mH h s) Q) : zz_E zp_P zt_tf zt_fd X d zm_267 13 [(0, .ref 61), (1, .int x1)] [.int y0] (mH h s) Q := by
  refine zz_E.b1 51 16 (A := y0 = 0) rfl rfl (by decide) rfl rfl (fun c => ?_) (fun c => ?_)
  · exact zz_E.weak (k1 c) rfl ⟨rfl, trivial⟩
  · exact zz_E.weak (k2 c) rfl ⟨rfl, rfl, trivial⟩
theorem mb_267_16 {X : Nat → Option zz_C} {h : zz_H} (hh : 111 ≤ h.length) {s : mS} {d : Nat} {Q : Option Value → zz_H → Prop} {x1 : Int32} (k1 : x1 = 41 → zz_E zp_P zt_tf zt_fd X d zm_267 34 [(0, .ref 61)] [] (mH h s) Q) (k2 : ¬ x1 = 41 → zz_E zp_P zt_tf zt_fd X d zm_267 22 [(0, .ref 61), (1, .int x1)] [] (mH h s) Q) : zz_E zp_P zt_tf zt_fd X d zm_267 16 [(0, .ref 61), (1, .int x1)] [] (mH h s) Q := by
  refine zz_E.n 17 rfl rfl rfl ?_
  refine zz_E.c 19 (.int 41) rfl rfl rfl rfl ?_
  refine zz_E.b2 34 22 (A := x1 = 41) rfl rfl (by decide) rfl rfl (fun c => ?_) (fun c => ?_)
  · exact zz_E.weak (k1 c) rfl ⟨rfl, trivial⟩
  · exact zz_E.weak (k2 c) rfl ⟨rfl, rfl, trivial⟩
theorem mb_267_22 {X : Nat → Option zz_C} {h : zz_H} (hh : 111 ≤ h.length) {s : mS} {d : Nat} {Q : Option Value → zz_H → Prop} {x1 : Int32} (k1 : x1 = 93 → zz_E zp_P zt_tf zt_fd X d zm_267 34 [(0, .ref 61)] [] (mH h s) Q) (k2 : ¬ x1 = 93 → zz_E zp_P zt_tf zt_fd X d zm_267 28 [(0, .ref 61), (1, .int x1)] [] (mH h s) Q) : zz_E zp_P zt_tf zt_fd X d zm_267 22 [(0, .ref 61), (1, .int x1)] [] (mH h s) Q := by
  refine zz_E.n 23 rfl rfl rfl ?_
  refine zz_E.c 25 (.int 93) rfl rfl rfl rfl ?_
  refine zz_E.b2 34 28 (A := x1 = 93) rfl rfl (by decide) rfl rfl (fun c => ?_) (fun c => ?_)
  · exact zz_E.weak (k1 c) rfl ⟨rfl, trivial⟩
  · exact zz_E.weak (k2 c) rfl ⟨rfl, rfl, trivial⟩
theorem mb_267_28 {X : Nat → Option zz_C} {h : zz_H} (hh : 111 ≤ h.length) {s : mS} {d : Nat} {Q : Option Value → zz_H → Prop} {x1 : Int32} (k1 : ¬ x1 = 125 → zz_E zp_P zt_tf zt_fd X d zm_267 44 [(0, .ref 61)] [] (mH h s) Q) (k2 : ¬ ¬ x1 = 125 → zz_E zp_P zt_tf zt_fd X d zm_267 34 [(0, .ref 61)] [] (mH h s) Q) : zz_E zp_P zt_tf zt_fd X d zm_267 28 [(0, .ref 61), (1, .int x1)] [] (mH h s) Q := by
  refine zz_E.n 29 rfl rfl rfl ?_
  refine zz_E.c 31 (.int 125) rfl rfl rfl rfl ?_
  refine zz_E.b2 44 34 (A := ¬ x1 = 125) rfl (zz_cond_ne _ _) (by decide) rfl rfl (fun c => ?_) (fun c => ?_)
  · exact zz_E.weak (k1 c) rfl ⟨rfl, trivial⟩
  · exact zz_E.weak (k2 c) rfl ⟨rfl, trivial⟩
theorem mb_267_34 {X : Nat → Option zz_C} {h : zz_H} (hh : 111 ≤ h.length) {s : mS} {d : Nat} {Q : Option Value → zz_H → Prop}  (k : zz_E zp_P zt_tf zt_fd X d zm_267 44 [(0, .ref 61)] [] (mH h (mI s 11 ((s.1 11) - 1))) Q) : zz_E zp_P zt_tf zt_fd X d zm_267 34 [(0, .ref 61)] [] (mH h s) Q := by
  refine zz_E.n 35 rfl rfl rfl ?_
  refine zz_E.n 36 rfl rfl rfl ?_
  refine mE_g hh 39 (v := .int (s.1 11)) rfl rfl rfl ?_
  refine zz_E.c 40 (.int 1) rfl rfl rfl rfl ?_
  refine zz_E.n 41 rfl rfl rfl ?_
  refine mE_p hh 44 rfl (by decide) rfl (mF_11 _ _) rfl ?_
  exact zz_E.weak k rfl ⟨rfl, trivial⟩
theorem mb_267_44 {X : Nat → Option zz_C} {h : zz_H} (hh : 111 ≤ h.length) {s : mS} {d : Nat} {Q : Option Value → zz_H → Prop}  (k : zz_E zp_P zt_tf zt_fd X d zm_260 0 [(0, .ref 61)] [] (mH h s) (fun v h' => zz_E zp_P zt_tf zt_fd X (d + 1) zm_267 48 [] (v.toList ++ []) h' Q)) : zz_E zp_P zt_tf zt_fd X (d + 1) zm_267 44 [(0, .ref 61)] [] (mH h s) Q := by
  refine zz_E.n 45 rfl rfl rfl ?_
  refine mE_cv hh 48 (as := []) rfl rfl (Nat.le_of_ble_eq_true rfl) (Nat.le_of_ble_eq_true rfl) rfl (Nat.le_of_ble_eq_true rfl) rfl ?_
  refine zz_E.mono k ?_
  intro v h' hE
  exact zz_E.weak hE rfl trivial
theorem mb_267_48 {X : Nat → Option zz_C} {h : zz_H} (hh : 111 ≤ h.length) {s : mS} {d : Nat} {Q : Option Value → zz_H → Prop}  (k : zz_E zp_P zt_tf zt_fd X d zm_267 55 [] [] (mH h s) Q) : zz_E zp_P zt_tf zt_fd X d zm_267 48 [] [] (mH h s) Q := by
  refine zz_E.n 55 rfl rfl rfl ?_
  exact zz_E.weak k rfl trivial
theorem mb_267_51 {X : Nat → Option zz_C} {h : zz_H} (hh : 111 ≤ h.length) {s : mS} {d : Nat} {Q : Option Value → zz_H → Prop}  (k : zz_E zp_P zt_tf zt_fd X d zm_262 0 [(0, .ref 61)] [] (mH h s) (fun v h' => zz_E zp_P zt_tf zt_fd X (d + 1) zm_267 55 [] (v.toList ++ []) h' Q)) : zz_E zp_P zt_tf zt_fd X (d + 1) zm_267 51 [(0, .ref 61)] [] (mH h s) Q := by
  refine zz_E.n 52 rfl rfl rfl ?_
  refine mE_cv hh 55 (as := []) rfl rfl (Nat.le_of_ble_eq_true rfl) (Nat.le_of_ble_eq_true rfl) rfl (Nat.le_of_ble_eq_true rfl) rfl ?_
  refine zz_E.mono k ?_
  intro v h' hE
  exact zz_E.weak hE rfl trivial
theorem mb_267_55 {X : Nat → Option zz_C} {h : zz_H} (hh : 111 ≤ h.length) {s : mS} {d : Nat} {Q : Option Value → zz_H → Prop}  (k : Q none (mH h s)) : zz_E zp_P zt_tf zt_fd X d zm_267 55 [] [] (mH h s) Q := by
  refine zz_E.ret rfl rfl rfl ?_
  exact k
def mf_267_55 (N : Nat)  (s : mS) : mO := some (s, none)
theorem mr_267_55 {X : Nat → Option zz_C} {h : zz_H} (hh : 111 ≤ h.length) {d : Nat} {N : Nat} {Q : Option Value → zz_H → Prop}  {s s' : mS} {v : Option Value} (hf : mf_267_55 N  s = some (s', v)) (k : Q v (mH h s')) : zz_E zp_P zt_tf zt_fd X (d + 4) zm_267 55 [] [] (mH h s) Q := by
  unfold mf_267_55 at hf
  cases hf
  exact mb_267_55 hh  k
def mf_267_51 (N : Nat)  (s : mS) : mO := mo_bv (mf_262 N  s) (fun s1 => mf_267_55 N  s1)
theorem mr_267_51 {X : Nat → Option zz_C} {h : zz_H} (hh : 111 ≤ h.length) {d : Nat} {N : Nat} {Q : Option Value → zz_H → Prop}  {s s' : mS} {v : Option Value} (hf : mf_267_51 N  s = some (s', v)) (k : Q v (mH h s')) : zz_E zp_P zt_tf zt_fd X (d + 4) zm_267 51 [(0, .ref 61)] [] (mH h s) Q := by
  unfold mf_267_51 at hf
  obtain ⟨s1, e, hf⟩ := mo_bv_ok hf
  exact mb_267_51 (d := d + 3) hh  (mr_262 (d := d + 2) hh e (mr_267_55 hh hf k))
def mf_267_48 (N : Nat)  (s : mS) : mO := mf_267_55 N  s
theorem mr_267_48 {X : Nat → Option zz_C} {h : zz_H} (hh : 111 ≤ h.length) {d : Nat} {N : Nat} {Q : Option Value → zz_H → Prop}  {s s' : mS} {v : Option Value} (hf : mf_267_48 N  s = some (s', v)) (k : Q v (mH h s')) : zz_E zp_P zt_tf zt_fd X (d + 4) zm_267 48 [] [] (mH h s) Q := by
  unfold mf_267_48 at hf
  exact mb_267_48 hh  (mr_267_55 hh hf k)
def mf_267_44 (N : Nat)  (s : mS) : mO := mo_bv (mf_260 N  s) (fun s1 => mf_267_48 N  s1)
theorem mr_267_44 {X : Nat → Option zz_C} {h : zz_H} (hh : 111 ≤ h.length) {d : Nat} {N : Nat} {Q : Option Value → zz_H → Prop}  {s s' : mS} {v : Option Value} (hf : mf_267_44 N  s = some (s', v)) (k : Q v (mH h s')) : zz_E zp_P zt_tf zt_fd X (d + 4) zm_267 44 [(0, .ref 61)] [] (mH h s) Q := by
  unfold mf_267_44 at hf
  obtain ⟨s1, e, hf⟩ := mo_bv_ok hf
  exact mb_267_44 (d := d + 3) hh  (mr_260 (d := d + 0) hh e (mr_267_48 hh hf k))
def mf_267_34 (N : Nat)  (s : mS) : mO := mf_267_44 N  (mI s 11 ((s.1 11) - 1))
theorem mr_267_34 {X : Nat → Option zz_C} {h : zz_H} (hh : 111 ≤ h.length) {d : Nat} {N : Nat} {Q : Option Value → zz_H → Prop}  {s s' : mS} {v : Option Value} (hf : mf_267_34 N  s = some (s', v)) (k : Q v (mH h s')) : zz_E zp_P zt_tf zt_fd X (d + 4) zm_267 34 [(0, .ref 61)] [] (mH h s) Q := by
  unfold mf_267_34 at hf
  exact mb_267_34 hh  (mr_267_44 hh hf k)
def mf_267_28 (N : Nat) (x1 : Int32) (s : mS) : mO := if ¬ x1 = 125 then mf_267_44 N  s else mf_267_34 N  s
theorem mr_267_28 {X : Nat → Option zz_C} {h : zz_H} (hh : 111 ≤ h.length) {d : Nat} {N : Nat} {Q : Option Value → zz_H → Prop} {x1 : Int32} {s s' : mS} {v : Option Value} (hf : mf_267_28 N x1 s = some (s', v)) (k : Q v (mH h s')) : zz_E zp_P zt_tf zt_fd X (d + 4) zm_267 28 [(0, .ref 61), (1, .int x1)] [] (mH h s) Q := by
  unfold mf_267_28 at hf
  refine mb_267_28 hh  (fun c => ?_) (fun c => ?_)
  · rw [if_pos c] at hf
    exact mr_267_44 hh hf k
  · rw [if_neg c] at hf
    exact mr_267_34 hh hf k
def mf_267_22 (N : Nat) (x1 : Int32) (s : mS) : mO := if x1 = 93 then mf_267_34 N  s else mf_267_28 N x1 s
theorem mr_267_22 {X : Nat → Option zz_C} {h : zz_H} (hh : 111 ≤ h.length) {d : Nat} {N : Nat} {Q : Option Value → zz_H → Prop} {x1 : Int32} {s s' : mS} {v : Option Value} (hf : mf_267_22 N x1 s = some (s', v)) (k : Q v (mH h s')) : zz_E zp_P zt_tf zt_fd X (d + 4) zm_267 22 [(0, .ref 61), (1, .int x1)] [] (mH h s) Q := by
  unfold mf_267_22 at hf
  refine mb_267_22 hh  (fun c => ?_) (fun c => ?_)
  · rw [if_pos c] at hf
    exact mr_267_34 hh hf k
  · rw [if_neg c] at hf
    exact mr_267_28 hh hf k
def mf_267_16 (N : Nat) (x1 : Int32) (s : mS) : mO := if x1 = 41 then mf_267_34 N  s else mf_267_22 N x1 s
theorem mr_267_16 {X : Nat → Option zz_C} {h : zz_H} (hh : 111 ≤ h.length) {d : Nat} {N : Nat} {Q : Option Value → zz_H → Prop} {x1 : Int32} {s s' : mS} {v : Option Value} (hf : mf_267_16 N x1 s = some (s', v)) (k : Q v (mH h s')) : zz_E zp_P zt_tf zt_fd X (d + 4) zm_267 16 [(0, .ref 61), (1, .int x1)] [] (mH h s) Q := by
  unfold mf_267_16 at hf
  refine mb_267_16 hh  (fun c => ?_) (fun c => ?_)
  · rw [if_pos c] at hf
    exact mr_267_34 hh hf k
  · rw [if_neg c] at hf
    exact mr_267_22 hh hf k
def mf_267_13 (N : Nat) (x1 : Int32) (y0 : Int32) (s : mS) : mO := if y0 = 0 then mf_267_51 N  s else mf_267_16 N x1 s
theorem mr_267_13 {X : Nat → Option zz_C} {h : zz_H} (hh : 111 ≤ h.length) {d : Nat} {N : Nat} {Q : Option Value → zz_H → Prop} {x1 : Int32} {y0 : Int32} {s s' : mS} {v : Option Value} (hf : mf_267_13 N x1 y0 s = some (s', v)) (k : Q v (mH h s')) : zz_E zp_P zt_tf zt_fd X (d + 4) zm_267 13 [(0, .ref 61), (1, .int x1)] [.int y0] (mH h s) Q := by
  unfold mf_267_13 at hf
  refine mb_267_13 hh  (fun c => ?_) (fun c => ?_)
  · rw [if_pos c] at hf
    exact mr_267_51 hh hf k
  · rw [if_neg c] at hf
    exact mr_267_16 hh hf k
def mf_267_8 (N : Nat) (x1 : Int32) (s : mS) : mO := mo_bi (mf_263 N x1 s) (fun s1 y => mf_267_13 N x1 y s1)
theorem mr_267_8 {X : Nat → Option zz_C} {h : zz_H} (hh : 111 ≤ h.length) {d : Nat} {N : Nat} {Q : Option Value → zz_H → Prop} {x1 : Int32} {s s' : mS} {v : Option Value} (hf : mf_267_8 N x1 s = some (s', v)) (k : Q v (mH h s')) : zz_E zp_P zt_tf zt_fd X (d + 4) zm_267 8 [(0, .ref 61), (1, .int x1)] [] (mH h s) Q := by
  unfold mf_267_8 at hf
  obtain ⟨s1, y, e, hf⟩ := mo_bi_ok hf
  exact mb_267_8 (d := d + 3) hh  (mr_263 (d := d + 3) hh e (mr_267_13 hh hf k))
def mf_267_7 (N : Nat)  (s : mS) : mO := some (s, none)
theorem mr_267_7 {X : Nat → Option zz_C} {h : zz_H} (hh : 111 ≤ h.length) {d : Nat} {N : Nat} {Q : Option Value → zz_H → Prop}  {s s' : mS} {v : Option Value} (hf : mf_267_7 N  s = some (s', v)) (k : Q v (mH h s')) : zz_E zp_P zt_tf zt_fd X (d + 4) zm_267 7 [] [] (mH h s) Q := by
  unfold mf_267_7 at hf
  cases hf
  exact mb_267_7 hh  k
def mf_267_0 (N : Nat) (x1 : Int32) (s : mS) : mO := if (s.1 9) ≤ 0 then mf_267_8 N x1 s else mf_267_7 N  s
theorem mr_267_0 {X : Nat → Option zz_C} {h : zz_H} (hh : 111 ≤ h.length) {d : Nat} {N : Nat} {Q : Option Value → zz_H → Prop} {x1 : Int32} {s s' : mS} {v : Option Value} (hf : mf_267_0 N x1 s = some (s', v)) (k : Q v (mH h s')) : zz_E zp_P zt_tf zt_fd X (d + 4) zm_267 0 [(0, .ref 61), (1, .int x1)] [] (mH h s) Q := by
  unfold mf_267_0 at hf
  refine mb_267_0 hh  (fun c => ?_) (fun c => ?_)
  · rw [if_pos c] at hf
    exact mr_267_8 hh hf k
  · rw [if_neg c] at hf
    exact mr_267_7 hh hf k
/-- sign -/
def mf_267 (N : Nat) (x1 : Int32) (s : mS) : mO := mf_267_0 N x1 s
theorem mr_267 {X : Nat → Option zz_C} {h : zz_H} (hh : 111 ≤ h.length) {d : Nat} {N : Nat} {Q : Option Value → zz_H → Prop} {x1 : Int32} {s s' : mS} {v : Option Value} (hf : mf_267 N x1 s = some (s', v)) (k : Q v (mH h s')) : zz_E zp_P zt_tf zt_fd X (d + 4) zm_267 0 [(0, .ref 61), (1, .int x1)] [] (mH h s) Q := by
  unfold mf_267 at hf
  exact zz_E.weak (mr_267_0 hh hf k) rfl ⟨rfl, rfl, trivial⟩
/-! order (IIII)I -/
theorem mb_271_0 {X : Nat → Option zz_C} {h : zz_H} (hh : 111 ≤ h.length) {s : mS} {d : Nat} {Q : Option Value → zz_H → Prop} {x1 : Int32} {x2 : Int32} {x3 : Int32} {x4 : Int32} (i24 : ¬ (((4000 * (1 - (s.1 12))) + (s.1 28)) < 0 ∨ 8000 ≤ Int32.toNatClampNeg ((4000 * (1 - (s.1 12))) + (s.1 28)))) (i32 : ¬ (((4000 * (1 - (s.1 12))) + (s.1 28)) < 0 ∨ 8000 ≤ Int32.toNatClampNeg ((4000 * (1 - (s.1 12))) + (s.1 28)))) (i40 : ¬ (((4000 * (1 - (s.1 12))) + (s.1 28)) < 0 ∨ 8000 ≤ Int32.toNatClampNeg ((4000 * (1 - (s.1 12))) + (s.1 28)))) (i48 : ¬ (((4000 * (1 - (s.1 12))) + (s.1 28)) < 0 ∨ 8000 ≤ Int32.toNatClampNeg ((4000 * (1 - (s.1 12))) + (s.1 28)))) (i57 : ¬ (((4000 * (1 - (s.1 12))) + (s.1 28)) < 0 ∨ 8000 ≤ Int32.toNatClampNeg ((4000 * (1 - (s.1 12))) + (s.1 28)))) (k : Q (some (.int ((4000 * (1 - (s.1 12))) + (s.1 28)))) (mH h (mI (mA (mA (mA (mA (mA s 23 (upd (s.2.2.1 23) (Int32.toNatClampNeg ((4000 * (1 - (s.1 12))) + (s.1 28))) x1)) 24 (upd (s.2.2.1 24) (Int32.toNatClampNeg ((4000 * (1 - (s.1 12))) + (s.1 28))) x2)) 25 (upd (s.2.2.1 25) (Int32.toNatClampNeg ((4000 * (1 - (s.1 12))) + (s.1 28))) x3)) 26 (upd (s.2.2.1 26) (Int32.toNatClampNeg ((4000 * (1 - (s.1 12))) + (s.1 28))) 0)) 27 (upd (s.2.2.1 27) (Int32.toNatClampNeg ((4000 * (1 - (s.1 12))) + (s.1 28))) x4)) 28 ((s.1 28) + 1)))) : zz_E zp_P zt_tf zt_fd X d zm_271 0 [(0, .ref 61), (1, .int x1), (2, .int x2), (3, .int x3), (4, .int x4)] [] (mH h s) Q := by
  refine zz_E.c 3 (.int 4000) rfl rfl rfl rfl ?_
  refine zz_E.c 4 (.int 1) rfl rfl rfl rfl ?_
  refine zz_E.n 5 rfl rfl rfl ?_
  refine mE_g hh 8 (v := .int (s.1 12)) rfl rfl rfl ?_
  refine zz_E.n 9 rfl rfl rfl ?_
  refine zz_E.n 10 rfl rfl rfl ?_
  refine zz_E.n 11 rfl rfl rfl ?_
  refine mE_g hh 14 (v := .int (s.1 28)) rfl rfl rfl ?_
  refine zz_E.n 15 rfl rfl rfl ?_
  refine zz_E.n 17 rfl rfl rfl ?_
  refine zz_E.n 18 rfl rfl rfl ?_
  refine mE_g hh 21 (v := .ref 71) rfl rfl rfl ?_
  refine zz_E.n 23 rfl rfl rfl ?_
  refine zz_E.n 24 rfl rfl rfl ?_
  refine mE_is hh 25 10 (f := (s.2.2.1 23)) rfl (by decide) rfl rfl i24 (mA_71 _ _) rfl ?_
  refine zz_E.n 26 rfl rfl rfl ?_
  refine mE_g hh 29 (v := .ref 72) rfl rfl rfl ?_
  refine zz_E.n 31 rfl rfl rfl ?_
  refine zz_E.n 32 rfl rfl rfl ?_
  refine mE_is hh 33 11 (f := (s.2.2.1 24)) rfl (by decide) rfl rfl i32 (mA_72 _ _) rfl ?_
  refine zz_E.n 34 rfl rfl rfl ?_
  refine mE_g hh 37 (v := .ref 73) rfl rfl rfl ?_
  refine zz_E.n 39 rfl rfl rfl ?_
  refine zz_E.n 40 rfl rfl rfl ?_
  refine mE_is hh 41 12 (f := (s.2.2.1 25)) rfl (by decide) rfl rfl i40 (mA_73 _ _) rfl ?_
  refine zz_E.n 42 rfl rfl rfl ?_
  refine mE_g hh 45 (v := .ref 74) rfl rfl rfl ?_
  refine zz_E.n 47 rfl rfl rfl ?_
  refine zz_E.c 48 (.int 0) rfl rfl rfl rfl ?_
  refine mE_is hh 49 13 (f := (s.2.2.1 26)) rfl (by decide) rfl rfl i48 (mA_74 _ _) rfl ?_
  refine zz_E.n 50 rfl rfl rfl ?_
  refine mE_g hh 53 (v := .ref 75) rfl rfl rfl ?_
  refine zz_E.n 55 rfl rfl rfl ?_
  refine zz_E.n 57 rfl rfl rfl ?_
  refine mE_is hh 58 14 (f := (s.2.2.1 27)) rfl (by decide) rfl rfl i57 (mA_75 _ _) rfl ?_
  refine zz_E.n 59 rfl rfl rfl ?_
  refine zz_E.n 60 rfl rfl rfl ?_
  refine mE_g hh 63 (v := .int (s.1 28)) rfl rfl rfl ?_
  refine zz_E.c 64 (.int 1) rfl rfl rfl rfl ?_
  refine zz_E.n 65 rfl rfl rfl ?_
  refine mE_p hh 68 rfl (by decide) rfl (mF_28 _ _) rfl ?_
  refine zz_E.n 70 rfl rfl rfl ?_
  refine zz_E.ret rfl rfl rfl ?_
  exact k
def mf_271_0 (N : Nat) (x1 : Int32) (x2 : Int32) (x3 : Int32) (x4 : Int32) (s : mS) : mO := if ¬ (((4000 * (1 - (s.1 12))) + (s.1 28)) < 0 ∨ 8000 ≤ Int32.toNatClampNeg ((4000 * (1 - (s.1 12))) + (s.1 28))) then (if ¬ (((4000 * (1 - (s.1 12))) + (s.1 28)) < 0 ∨ 8000 ≤ Int32.toNatClampNeg ((4000 * (1 - (s.1 12))) + (s.1 28))) then (if ¬ (((4000 * (1 - (s.1 12))) + (s.1 28)) < 0 ∨ 8000 ≤ Int32.toNatClampNeg ((4000 * (1 - (s.1 12))) + (s.1 28))) then (if ¬ (((4000 * (1 - (s.1 12))) + (s.1 28)) < 0 ∨ 8000 ≤ Int32.toNatClampNeg ((4000 * (1 - (s.1 12))) + (s.1 28))) then (if ¬ (((4000 * (1 - (s.1 12))) + (s.1 28)) < 0 ∨ 8000 ≤ Int32.toNatClampNeg ((4000 * (1 - (s.1 12))) + (s.1 28))) then (some ((mI (mA (mA (mA (mA (mA s 23 (upd (s.2.2.1 23) (Int32.toNatClampNeg ((4000 * (1 - (s.1 12))) + (s.1 28))) x1)) 24 (upd (s.2.2.1 24) (Int32.toNatClampNeg ((4000 * (1 - (s.1 12))) + (s.1 28))) x2)) 25 (upd (s.2.2.1 25) (Int32.toNatClampNeg ((4000 * (1 - (s.1 12))) + (s.1 28))) x3)) 26 (upd (s.2.2.1 26) (Int32.toNatClampNeg ((4000 * (1 - (s.1 12))) + (s.1 28))) 0)) 27 (upd (s.2.2.1 27) (Int32.toNatClampNeg ((4000 * (1 - (s.1 12))) + (s.1 28))) x4)) 28 ((s.1 28) + 1)), (some (.int ((4000 * (1 - (s.1 12))) + (s.1 28)))))) else none) else none) else none) else none) else none
theorem mr_271_0 {X : Nat → Option zz_C} {h : zz_H} (hh : 111 ≤ h.length) {d : Nat} {N : Nat} {Q : Option Value → zz_H → Prop} {x1 : Int32} {x2 : Int32} {x3 : Int32} {x4 : Int32} {s s' : mS} {v : Option Value} (hf : mf_271_0 N x1 x2 x3 x4 s = some (s', v)) (k : Q v (mH h s')) : zz_E zp_P zt_tf zt_fd X (d + 0) zm_271 0 [(0, .ref 61), (1, .int x1), (2, .int x2), (3, .int x3), (4, .int x4)] [] (mH h s) Q := by
  unfold mf_271_0 at hf
  obtain ⟨q0, hf⟩ := mo_if hf
  obtain ⟨q1, hf⟩ := mo_if hf
  obtain ⟨q2, hf⟩ := mo_if hf
  obtain ⟨q3, hf⟩ := mo_if hf
  obtain ⟨q4, hf⟩ := mo_if hf
  cases hf
  exact mb_271_0 hh q0 q1 q2 q3 q4 k
/-- order -/
def mf_271 (N : Nat) (x1 : Int32) (x2 : Int32) (x3 : Int32) (x4 : Int32) (s : mS) : mO := mf_271_0 N x1 x2 x3 x4 s
theorem mr_271 {X : Nat → Option zz_C} {h : zz_H} (hh : 111 ≤ h.length) {d : Nat} {N : Nat} {Q : Option Value → zz_H → Prop} {x1 : Int32} {x2 : Int32} {x3 : Int32} {x4 : Int32} {s s' : mS} {v : Option Value} (hf : mf_271 N x1 x2 x3 x4 s = some (s', v)) (k : Q v (mH h s')) : zz_E zp_P zt_tf zt_fd X (d + 0) zm_271 0 [(0, .ref 61), (1, .int x1), (2, .int x2), (3, .int x3), (4, .int x4)] [] (mH h s) Q := by
  unfold mf_271 at hf
  exact zz_E.weak (mr_271_0 hh hf k) rfl ⟨rfl, rfl, rfl, rfl, rfl, trivial⟩
/-! here ()I -/
theorem mb_272_0 {X : Nat → Option zz_C} {h : zz_H} (hh : 111 ≤ h.length) {s : mS} {d : Nat} {Q : Option Value → zz_H → Prop}  (k : Q (some (.int ((4000 * (1 - (s.1 12))) + (s.1 28)))) (mH h s)) : zz_E zp_P zt_tf zt_fd X d zm_272 0 [(0, .ref 61)] [] (mH h s) Q := by
  refine zz_E.c 3 (.int 4000) rfl rfl rfl rfl ?_
  refine zz_E.c 4 (.int 1) rfl rfl rfl rfl ?_
  refine zz_E.n 5 rfl rfl rfl ?_
  refine mE_g hh 8 (v := .int (s.1 12)) rfl rfl rfl ?_
  refine zz_E.n 9 rfl rfl rfl ?_
  refine zz_E.n 10 rfl rfl rfl ?_
  refine zz_E.n 11 rfl rfl rfl ?_
  refine mE_g hh 14 (v := .int (s.1 28)) rfl rfl rfl ?_
  refine zz_E.n 15 rfl rfl rfl ?_
  refine zz_E.ret rfl rfl rfl ?_
  exact k
def mf_272_0 (N : Nat)  (s : mS) : mO := some (s, (some (.int ((4000 * (1 - (s.1 12))) + (s.1 28)))))
theorem mr_272_0 {X : Nat → Option zz_C} {h : zz_H} (hh : 111 ≤ h.length) {d : Nat} {N : Nat} {Q : Option Value → zz_H → Prop}  {s s' : mS} {v : Option Value} (hf : mf_272_0 N  s = some (s', v)) (k : Q v (mH h s')) : zz_E zp_P zt_tf zt_fd X (d + 0) zm_272 0 [(0, .ref 61)] [] (mH h s) Q := by
  unfold mf_272_0 at hf
  cases hf
  exact mb_272_0 hh  k
/-- here -/
def mf_272 (N : Nat)  (s : mS) : mO := mf_272_0 N  s
theorem mr_272 {X : Nat → Option zz_C} {h : zz_H} (hh : 111 ≤ h.length) {d : Nat} {N : Nat} {Q : Option Value → zz_H → Prop}  {s s' : mS} {v : Option Value} (hf : mf_272 N  s = some (s', v)) (k : Q v (mH h s')) : zz_E zp_P zt_tf zt_fd X (d + 0) zm_272 0 [(0, .ref 61)] [] (mH h s) Q := by
  unfold mf_272 at hf
  exact zz_E.weak (mr_272_0 hh hf k) rfl ⟨rfl, trivial⟩
/-! wordHere ()I -/
theorem mb_265_0 {X : Nat → Option zz_C} {h : zz_H} (hh : 111 ≤ h.length) {s : mS} {d : Nat} {Q : Option Value → zz_H → Prop}  (k1 : (s.1 5) = 1 → zz_E zp_P zt_tf zt_fd X d zm_265 10 [(0, .ref 61)] [] (mH h s) Q) (k2 : ¬ (s.1 5) = 1 → zz_E zp_P zt_tf zt_fd X d zm_265 8 [] [] (mH h s) Q) : zz_E zp_P zt_tf zt_fd X d zm_265 0 [(0, .ref 61)] [] (mH h s) Q := by
  refine zz_E.n 1 rfl rfl rfl ?_
  refine mE_g hh 4 (v := .int (s.1 5)) rfl rfl rfl ?_
  refine zz_E.c 5 (.int 1) rfl rfl rfl rfl ?_
  refine zz_E.b2 10 8 (A := (s.1 5) = 1) rfl rfl (by decide) rfl rfl (fun c => ?_) (fun c => ?_)
  · exact zz_E.weak (k1 c) rfl ⟨rfl, trivial⟩
  · exact zz_E.weak (k2 c) rfl trivial
theorem mb_265_8 {X : Nat → Option zz_C} {h : zz_H} (hh : 111 ≤ h.length) {s : mS} {d : Nat} {Q : Option Value → zz_H → Prop}  (k : Q (some (.int (-1))) (mH h s)) : zz_E zp_P zt_tf zt_fd X d zm_265 8 [] [] (mH h s) Q := by
  refine zz_E.c 9 (.int (-1)) rfl rfl rfl rfl ?_
  refine zz_E.ret rfl rfl rfl ?_
  exact k
theorem mb_265_10 {X : Nat → Option zz_C} {h : zz_H} (hh : 111 ≤ h.length) {s : mS} {d : Nat} {Q : Option Value → zz_H → Prop}  (k : zz_E zp_P zt_tf zt_fd X d zm_265 12 [(0, .ref 61), (1, .int 0)] [] (mH h s) Q) : zz_E zp_P zt_tf zt_fd X d zm_265 10 [(0, .ref 61)] [] (mH h s) Q := by
  refine zz_E.c 11 (.int 0) rfl rfl rfl rfl ?_
  refine zz_E.n 12 rfl rfl rfl ?_
  exact zz_E.weak k rfl ⟨rfl, rfl, trivial⟩
theorem mb_265_12 {X : Nat → Option zz_C} {h : zz_H} (hh : 111 ≤ h.length) {s : mS} {d : Nat} {Q : Option Value → zz_H → Prop} {x1 : Int32} (k1 : 41 ≤ x1 → zz_E zp_P zt_tf zt_fd X d zm_265 40 [] [] (mH h s) Q) (k2 : ¬ 41 ≤ x1 → zz_E zp_P zt_tf zt_fd X d zm_265 18 [(0, .ref 61), (1, .int x1)] [] (mH h s) Q) : zz_E zp_P zt_tf zt_fd X d zm_265 12 [(0, .ref 61), (1, .int x1)] [] (mH h s) Q := by
  refine zz_E.n 13 rfl rfl rfl ?_
  refine zz_E.c 15 (.int 41) rfl rfl rfl rfl ?_
  refine zz_E.b2 40 18 (A := 41 ≤ x1) rfl rfl (by decide) rfl rfl (fun c => ?_) (fun c => ?_)
  · exact zz_E.weak (k1 c) rfl trivial
  · exact zz_E.weak (k2 c) rfl ⟨rfl, rfl, trivial⟩
theorem mb_265_18 {X : Nat → Option zz_C} {h : zz_H} (hh : 111 ≤ h.length) {s : mS} {d : Nat} {Q : Option Value → zz_H → Prop} {x1 : Int32} (i23 : ¬ (x1 < 0 ∨ 41 ≤ Int32.toNatClampNeg x1)) (k1 : ¬ (lg_cmp ((s.2.2.2 0) (Int32.toNatClampNeg x1)) (s.2.1 7)) = 0 → zz_E zp_P zt_tf zt_fd X d zm_265 34 [(0, .ref 61), (1, .int x1)] [] (mH h s) Q) (k2 : ¬ ¬ (lg_cmp ((s.2.2.2 0) (Int32.toNatClampNeg x1)) (s.2.1 7)) = 0 → zz_E zp_P zt_tf zt_fd X d zm_265 32 [(1, .int x1)] [] (mH h s) Q) : zz_E zp_P zt_tf zt_fd X d zm_265 18 [(0, .ref 61), (1, .int x1)] [] (mH h s) Q := by
  refine zz_E.n 19 rfl rfl rfl ?_
  refine mE_g hh 22 (v := .ref 62) rfl rfl rfl ?_
  refine zz_E.n 23 rfl rfl rfl ?_
  refine mE_la hh 24 1 (f := (s.2.2.2 0)) rfl (by decide) rfl rfl i23 rfl ?_
  refine zz_E.n 25 rfl rfl rfl ?_
  refine mE_g hh 28 (v := .long (s.2.1 7)) rfl rfl rfl ?_
  refine zz_E.n 29 rfl rfl rfl ?_
  refine zz_E.b1 34 32 (A := ¬ (lg_cmp ((s.2.2.2 0) (Int32.toNatClampNeg x1)) (s.2.1 7)) = 0) rfl (zz_cond_ne _ _) (by decide) rfl rfl (fun c => ?_) (fun c => ?_)
  · exact zz_E.weak (k1 c) rfl ⟨rfl, rfl, trivial⟩
  · exact zz_E.weak (k2 c) rfl ⟨rfl, trivial⟩
theorem mb_265_32 {X : Nat → Option zz_C} {h : zz_H} (hh : 111 ≤ h.length) {s : mS} {d : Nat} {Q : Option Value → zz_H → Prop} {x1 : Int32} (k : Q (some (.int x1)) (mH h s)) : zz_E zp_P zt_tf zt_fd X d zm_265 32 [(1, .int x1)] [] (mH h s) Q := by
  refine zz_E.n 33 rfl rfl rfl ?_
  refine zz_E.ret rfl rfl rfl ?_
  exact k
theorem mb_265_34 {X : Nat → Option zz_C} {h : zz_H} (hh : 111 ≤ h.length) {s : mS} {d : Nat} {Q : Option Value → zz_H → Prop} {x1 : Int32} (k : zz_E zp_P zt_tf zt_fd X d zm_265 12 [(0, .ref 61), (1, .int (x1 + 1))] [] (mH h s) Q) : zz_E zp_P zt_tf zt_fd X d zm_265 34 [(0, .ref 61), (1, .int x1)] [] (mH h s) Q := by
  refine zz_E.n 37 rfl rfl rfl ?_
  refine zz_E.n 12 rfl rfl rfl ?_
  exact zz_E.weak k rfl ⟨rfl, rfl, trivial⟩
theorem mb_265_40 {X : Nat → Option zz_C} {h : zz_H} (hh : 111 ≤ h.length) {s : mS} {d : Nat} {Q : Option Value → zz_H → Prop}  (k : Q (some (.int (-1))) (mH h s)) : zz_E zp_P zt_tf zt_fd X d zm_265 40 [] [] (mH h s) Q := by
  refine zz_E.c 41 (.int (-1)) rfl rfl rfl rfl ?_
  refine zz_E.ret rfl rfl rfl ?_
  exact k
def mf_265_40 (N : Nat)  (s : mS) : mO := some (s, (some (.int (-1))))
theorem mr_265_40 {X : Nat → Option zz_C} {h : zz_H} (hh : 111 ≤ h.length) {d : Nat} {N : Nat} {Q : Option Value → zz_H → Prop}  {s s' : mS} {v : Option Value} (hf : mf_265_40 N  s = some (s', v)) (k : Q v (mH h s')) : zz_E zp_P zt_tf zt_fd X (d + 0) zm_265 40 [] [] (mH h s) Q := by
  unfold mf_265_40 at hf
  cases hf
  exact mb_265_40 hh  k
def mf_265_32 (N : Nat) (x1 : Int32) (s : mS) : mO := some (s, (some (.int x1)))
theorem mr_265_32 {X : Nat → Option zz_C} {h : zz_H} (hh : 111 ≤ h.length) {d : Nat} {N : Nat} {Q : Option Value → zz_H → Prop} {x1 : Int32} {s s' : mS} {v : Option Value} (hf : mf_265_32 N x1 s = some (s', v)) (k : Q v (mH h s')) : zz_E zp_P zt_tf zt_fd X (d + 0) zm_265 32 [(1, .int x1)] [] (mH h s) Q := by
  unfold mf_265_32 at hf
  cases hf
  exact mb_265_32 hh  k
def mf_265_34 (N : Nat) (rc : Nat → Int32 → mS → mO) (x1 : Int32) (s : mS) : mO := rc 0 (x1 + 1) s
theorem mr_265_34 {X : Nat → Option zz_C} {h : zz_H} (hh : 111 ≤ h.length) {d : Nat} {N : Nat} {rc : Nat → Int32 → mS → mO} (hrc0 : ∀ {Q : Option Value → zz_H → Prop} {x1 : Int32} {s s' : mS} {v : Option Value}, rc 0 x1 s = some (s', v) → Q v (mH h s') → zz_E zp_P zt_tf zt_fd X (d + 0) zm_265 12 [(0, .ref 61), (1, .int x1)] [] (mH h s) Q) {Q : Option Value → zz_H → Prop} {x1 : Int32} {s s' : mS} {v : Option Value} (hf : mf_265_34 N rc x1 s = some (s', v)) (k : Q v (mH h s')) : zz_E zp_P zt_tf zt_fd X (d + 0) zm_265 34 [(0, .ref 61), (1, .int x1)] [] (mH h s) Q := by
  unfold mf_265_34 at hf
  exact mb_265_34 hh  (hrc0 hf k)
def mf_265_18 (N : Nat) (rc : Nat → Int32 → mS → mO) (x1 : Int32) (s : mS) : mO := if ¬ (x1 < 0 ∨ 41 ≤ Int32.toNatClampNeg x1) then (if ¬ (lg_cmp ((s.2.2.2 0) (Int32.toNatClampNeg x1)) (s.2.1 7)) = 0 then mf_265_34 N rc x1 s else mf_265_32 N x1 s) else none
theorem mr_265_18 {X : Nat → Option zz_C} {h : zz_H} (hh : 111 ≤ h.length) {d : Nat} {N : Nat} {rc : Nat → Int32 → mS → mO} (hrc0 : ∀ {Q : Option Value → zz_H → Prop} {x1 : Int32} {s s' : mS} {v : Option Value}, rc 0 x1 s = some (s', v) → Q v (mH h s') → zz_E zp_P zt_tf zt_fd X (d + 0) zm_265 12 [(0, .ref 61), (1, .int x1)] [] (mH h s) Q) {Q : Option Value → zz_H → Prop} {x1 : Int32} {s s' : mS} {v : Option Value} (hf : mf_265_18 N rc x1 s = some (s', v)) (k : Q v (mH h s')) : zz_E zp_P zt_tf zt_fd X (d + 0) zm_265 18 [(0, .ref 61), (1, .int x1)] [] (mH h s) Q := by
  unfold mf_265_18 at hf
  obtain ⟨q0, hf⟩ := mo_if hf
  refine mb_265_18 hh q0 (fun c => ?_) (fun c => ?_)
  · rw [if_pos c] at hf
    exact mr_265_34 hh hrc0 hf k
  · rw [if_neg c] at hf
    exact mr_265_32 hh hf k
def mf_265_12 (N : Nat) (rc : Nat → Int32 → mS → mO) (x1 : Int32) (s : mS) : mO := if 41 ≤ x1 then mf_265_40 N  s else mf_265_18 N rc x1 s
theorem mr_265_12 {X : Nat → Option zz_C} {h : zz_H} (hh : 111 ≤ h.length) {d : Nat} {N : Nat} {rc : Nat → Int32 → mS → mO} (hrc0 : ∀ {Q : Option Value → zz_H → Prop} {x1 : Int32} {s s' : mS} {v : Option Value}, rc 0 x1 s = some (s', v) → Q v (mH h s') → zz_E zp_P zt_tf zt_fd X (d + 0) zm_265 12 [(0, .ref 61), (1, .int x1)] [] (mH h s) Q) {Q : Option Value → zz_H → Prop} {x1 : Int32} {s s' : mS} {v : Option Value} (hf : mf_265_12 N rc x1 s = some (s', v)) (k : Q v (mH h s')) : zz_E zp_P zt_tf zt_fd X (d + 0) zm_265 12 [(0, .ref 61), (1, .int x1)] [] (mH h s) Q := by
  unfold mf_265_12 at hf
  refine mb_265_12 hh  (fun c => ?_) (fun c => ?_)
  · rw [if_pos c] at hf
    exact mr_265_40 hh hf k
  · rw [if_neg c] at hf
    exact mr_265_18 hh hrc0 hf k
def mf_265_L2 (N : Nat) : Nat → Nat → Int32 → mS → mO
  | 0, _, _, _ => none
  | n + 1, l, x1, s => if l = 0 then mf_265_12 N (mf_265_L2 N n) x1 s else none
theorem mr_265_L2 {X : Nat → Option zz_C} {h : zz_H} (hh : 111 ≤ h.length) {d : Nat} {N : Nat} : ∀ n : Nat, (∀ {Q : Option Value → zz_H → Prop} {x1 : Int32} {s s' : mS} {v : Option Value}, mf_265_L2 N n 0 x1 s = some (s', v) → Q v (mH h s') → zz_E zp_P zt_tf zt_fd X (d + 0) zm_265 12 [(0, .ref 61), (1, .int x1)] [] (mH h s) Q) := by
  intro n
  induction n with
  | zero => exact (fun hf _ => by cases hf)
  | succ n ih =>
    have h0 := @ih
    intro Q _ s s' v hf k
    unfold mf_265_L2 at hf
    rw [if_pos rfl] at hf
    exact mr_265_12 hh h0 hf k
def mf_265_10 (N : Nat)  (s : mS) : mO := mf_265_L2 N N 0 0 s
theorem mr_265_10 {X : Nat → Option zz_C} {h : zz_H} (hh : 111 ≤ h.length) {d : Nat} {N : Nat} {Q : Option Value → zz_H → Prop}  {s s' : mS} {v : Option Value} (hf : mf_265_10 N  s = some (s', v)) (k : Q v (mH h s')) : zz_E zp_P zt_tf zt_fd X (d + 0) zm_265 10 [(0, .ref 61)] [] (mH h s) Q := by
  unfold mf_265_10 at hf
  exact mb_265_10 hh  (mr_265_L2 hh N hf k)
def mf_265_8 (N : Nat)  (s : mS) : mO := some (s, (some (.int (-1))))
theorem mr_265_8 {X : Nat → Option zz_C} {h : zz_H} (hh : 111 ≤ h.length) {d : Nat} {N : Nat} {Q : Option Value → zz_H → Prop}  {s s' : mS} {v : Option Value} (hf : mf_265_8 N  s = some (s', v)) (k : Q v (mH h s')) : zz_E zp_P zt_tf zt_fd X (d + 0) zm_265 8 [] [] (mH h s) Q := by
  unfold mf_265_8 at hf
  cases hf
  exact mb_265_8 hh  k
def mf_265_0 (N : Nat)  (s : mS) : mO := if (s.1 5) = 1 then mf_265_10 N  s else mf_265_8 N  s
theorem mr_265_0 {X : Nat → Option zz_C} {h : zz_H} (hh : 111 ≤ h.length) {d : Nat} {N : Nat} {Q : Option Value → zz_H → Prop}  {s s' : mS} {v : Option Value} (hf : mf_265_0 N  s = some (s', v)) (k : Q v (mH h s')) : zz_E zp_P zt_tf zt_fd X (d + 0) zm_265 0 [(0, .ref 61)] [] (mH h s) Q := by
  unfold mf_265_0 at hf
  refine mb_265_0 hh  (fun c => ?_) (fun c => ?_)
  · rw [if_pos c] at hf
    exact mr_265_10 hh hf k
  · rw [if_neg c] at hf
    exact mr_265_8 hh hf k
/-- wordHere -/
def mf_265 (N : Nat)  (s : mS) : mO := mf_265_0 N  s
theorem mr_265 {X : Nat → Option zz_C} {h : zz_H} (hh : 111 ≤ h.length) {d : Nat} {N : Nat} {Q : Option Value → zz_H → Prop}  {s s' : mS} {v : Option Value} (hf : mf_265 N  s = some (s', v)) (k : Q v (mH h s')) : zz_E zp_P zt_tf zt_fd X (d + 0) zm_265 0 [(0, .ref 61)] [] (mH h s) Q := by
  unfold mf_265 at hf
  exact zz_E.weak (mr_265_0 hh hf k) rfl ⟨rfl, trivial⟩
/-! isName ()Z -/
theorem mb_266_0 {X : Nat → Option zz_C} {h : zz_H} (hh : 111 ≤ h.length) {s : mS} {d : Nat} {Q : Option Value → zz_H → Prop}  (k1 : ¬ (s.1 5) = 1 → zz_E zp_P zt_tf zt_fd X d zm_266 19 [] [] (mH h s) Q) (k2 : ¬ ¬ (s.1 5) = 1 → zz_E zp_P zt_tf zt_fd X d zm_266 8 [(0, .ref 61)] [] (mH h s) Q) : zz_E zp_P zt_tf zt_fd X d zm_266 0 [(0, .ref 61)] [] (mH h s) Q := by
  refine zz_E.n 1 rfl rfl rfl ?_
  refine mE_g hh 4 (v := .int (s.1 5)) rfl rfl rfl ?_
  refine zz_E.c 5 (.int 1) rfl rfl rfl rfl ?_
  refine zz_E.b2 19 8 (A := ¬ (s.1 5) = 1) rfl (zz_cond_ne _ _) (by decide) rfl rfl (fun c => ?_) (fun c => ?_)
  · exact zz_E.weak (k1 c) rfl trivial
  · exact zz_E.weak (k2 c) rfl ⟨rfl, trivial⟩
theorem mb_266_8 {X : Nat → Option zz_C} {h : zz_H} (hh : 111 ≤ h.length) {s : mS} {d : Nat} {Q : Option Value → zz_H → Prop}  (k : zz_E zp_P zt_tf zt_fd X d zm_265 0 [(0, .ref 61)] [] (mH h s) (fun v h' => zz_E zp_P zt_tf zt_fd X (d + 1) zm_266 12 [] (v.toList ++ []) h' Q)) : zz_E zp_P zt_tf zt_fd X (d + 1) zm_266 8 [(0, .ref 61)] [] (mH h s) Q := by
  refine zz_E.n 9 rfl rfl rfl ?_
  refine mE_cv hh 12 (as := []) rfl rfl (Nat.le_of_ble_eq_true rfl) (Nat.le_of_ble_eq_true rfl) rfl (Nat.le_of_ble_eq_true rfl) rfl ?_
  refine zz_E.mono k ?_
  intro v h' hE
  exact zz_E.weak hE rfl trivial
theorem mb_266_12 {X : Nat → Option zz_C} {h : zz_H} (hh : 111 ≤ h.length) {s : mS} {d : Nat} {Q : Option Value → zz_H → Prop} {y0 : Int32} (k1 : 0 ≤ y0 → zz_E zp_P zt_tf zt_fd X d zm_266 19 [] [] (mH h s) Q) (k2 : ¬ 0 ≤ y0 → zz_E zp_P zt_tf zt_fd X d zm_266 15 [] [] (mH h s) Q) : zz_E zp_P zt_tf zt_fd X d zm_266 12 [] [.int y0] (mH h s) Q := by
  refine zz_E.b1 19 15 (A := 0 ≤ y0) rfl rfl (by decide) rfl rfl (fun c => ?_) (fun c => ?_)
  · exact zz_E.weak (k1 c) rfl trivial
  · exact zz_E.weak (k2 c) rfl trivial
theorem mb_266_15 {X : Nat → Option zz_C} {h : zz_H} (hh : 111 ≤ h.length) {s : mS} {d : Nat} {Q : Option Value → zz_H → Prop}  (k : zz_E zp_P zt_tf zt_fd X d zm_266 20 [] [.int 1] (mH h s) Q) : zz_E zp_P zt_tf zt_fd X d zm_266 15 [] [] (mH h s) Q := by
  refine zz_E.c 16 (.int 1) rfl rfl rfl rfl ?_
  refine zz_E.n 20 rfl rfl rfl ?_
  exact zz_E.weak k rfl trivial
theorem mb_266_19 {X : Nat → Option zz_C} {h : zz_H} (hh : 111 ≤ h.length) {s : mS} {d : Nat} {Q : Option Value → zz_H → Prop}  (k : zz_E zp_P zt_tf zt_fd X d zm_266 20 [] [.int 0] (mH h s) Q) : zz_E zp_P zt_tf zt_fd X d zm_266 19 [] [] (mH h s) Q := by
  refine zz_E.c 20 (.int 0) rfl rfl rfl rfl ?_
  exact zz_E.weak k rfl trivial
theorem mb_266_20 {X : Nat → Option zz_C} {h : zz_H} (hh : 111 ≤ h.length) {s : mS} {d : Nat} {Q : Option Value → zz_H → Prop} {y0 : Int32} (k : Q (some (.int y0)) (mH h s)) (rb : zz_reti (some .boolean) y0 = true) : zz_E zp_P zt_tf zt_fd X d zm_266 20 [] [.int y0] (mH h s) Q := by
  refine zz_E.ret rfl rfl (if_pos ⟨rfl, rb⟩) ?_
  exact k
def mf_266_20 (N : Nat) (y0 : Int32) (s : mS) : mO := if zz_reti (some .boolean) y0 = true then some (s, (some (.int y0))) else none
theorem mr_266_20 {X : Nat → Option zz_C} {h : zz_H} (hh : 111 ≤ h.length) {d : Nat} {N : Nat} {Q : Option Value → zz_H → Prop} {y0 : Int32} {s s' : mS} {v : Option Value} (hf : mf_266_20 N y0 s = some (s', v)) (k : Q v (mH h s')) : zz_E zp_P zt_tf zt_fd X (d + 1) zm_266 20 [] [.int y0] (mH h s) Q := by
  unfold mf_266_20 at hf
  obtain ⟨rb, hf⟩ := mo_if hf
  cases hf
  exact mb_266_20 hh  k rb
def mf_266_19 (N : Nat)  (s : mS) : mO := mf_266_20 N 0 s
theorem mr_266_19 {X : Nat → Option zz_C} {h : zz_H} (hh : 111 ≤ h.length) {d : Nat} {N : Nat} {Q : Option Value → zz_H → Prop}  {s s' : mS} {v : Option Value} (hf : mf_266_19 N  s = some (s', v)) (k : Q v (mH h s')) : zz_E zp_P zt_tf zt_fd X (d + 1) zm_266 19 [] [] (mH h s) Q := by
  unfold mf_266_19 at hf
  exact mb_266_19 hh  (mr_266_20 hh hf k)
def mf_266_15 (N : Nat)  (s : mS) : mO := mf_266_20 N 1 s
theorem mr_266_15 {X : Nat → Option zz_C} {h : zz_H} (hh : 111 ≤ h.length) {d : Nat} {N : Nat} {Q : Option Value → zz_H → Prop}  {s s' : mS} {v : Option Value} (hf : mf_266_15 N  s = some (s', v)) (k : Q v (mH h s')) : zz_E zp_P zt_tf zt_fd X (d + 1) zm_266 15 [] [] (mH h s) Q := by
  unfold mf_266_15 at hf
  exact mb_266_15 hh  (mr_266_20 hh hf k)
def mf_266_12 (N : Nat) (y0 : Int32) (s : mS) : mO := if 0 ≤ y0 then mf_266_19 N  s else mf_266_15 N  s
theorem mr_266_12 {X : Nat → Option zz_C} {h : zz_H} (hh : 111 ≤ h.length) {d : Nat} {N : Nat} {Q : Option Value → zz_H → Prop} {y0 : Int32} {s s' : mS} {v : Option Value} (hf : mf_266_12 N y0 s = some (s', v)) (k : Q v (mH h s')) : zz_E zp_P zt_tf zt_fd X (d + 1) zm_266 12 [] [.int y0] (mH h s) Q := by
  unfold mf_266_12 at hf
  refine mb_266_12 hh  (fun c => ?_) (fun c => ?_)
  · rw [if_pos c] at hf
    exact mr_266_19 hh hf k
  · rw [if_neg c] at hf
    exact mr_266_15 hh hf k
def mf_266_8 (N : Nat)  (s : mS) : mO := mo_bi (mf_265 N  s) (fun s1 y => mf_266_12 N y s1)
theorem mr_266_8 {X : Nat → Option zz_C} {h : zz_H} (hh : 111 ≤ h.length) {d : Nat} {N : Nat} {Q : Option Value → zz_H → Prop}  {s s' : mS} {v : Option Value} (hf : mf_266_8 N  s = some (s', v)) (k : Q v (mH h s')) : zz_E zp_P zt_tf zt_fd X (d + 1) zm_266 8 [(0, .ref 61)] [] (mH h s) Q := by
  unfold mf_266_8 at hf
  obtain ⟨s1, y, e, hf⟩ := mo_bi_ok hf
  exact mb_266_8 (d := d + 0) hh  (mr_265 (d := d + 0) hh e (mr_266_12 hh hf k))
def mf_266_0 (N : Nat)  (s : mS) : mO := if ¬ (s.1 5) = 1 then mf_266_19 N  s else mf_266_8 N  s
theorem mr_266_0 {X : Nat → Option zz_C} {h : zz_H} (hh : 111 ≤ h.length) {d : Nat} {N : Nat} {Q : Option Value → zz_H → Prop}  {s s' : mS} {v : Option Value} (hf : mf_266_0 N  s = some (s', v)) (k : Q v (mH h s')) : zz_E zp_P zt_tf zt_fd X (d + 1) zm_266 0 [(0, .ref 61)] [] (mH h s) Q := by
  unfold mf_266_0 at hf
  refine mb_266_0 hh  (fun c => ?_) (fun c => ?_)
  · rw [if_pos c] at hf
    exact mr_266_19 hh hf k
  · rw [if_neg c] at hf
    exact mr_266_8 hh hf k
/-- isName -/
def mf_266 (N : Nat)  (s : mS) : mO := mf_266_0 N  s
theorem mr_266 {X : Nat → Option zz_C} {h : zz_H} (hh : 111 ≤ h.length) {d : Nat} {N : Nat} {Q : Option Value → zz_H → Prop}  {s s' : mS} {v : Option Value} (hf : mf_266 N  s = some (s', v)) (k : Q v (mH h s')) : zz_E zp_P zt_tf zt_fd X (d + 1) zm_266 0 [(0, .ref 61)] [] (mH h s) Q := by
  unfold mf_266 at hf
  exact zz_E.weak (mr_266_0 hh hf k) rfl ⟨rfl, trivial⟩
/-! isShelf (J)Z -/
theorem mb_274_0 {X : Nat → Option zz_C} {h : zz_H} (hh : 111 ≤ h.length) {s : mS} {d : Nat} {Q : Option Value → zz_H → Prop} {x0 : Int64} (k1 : (lg_cmp x0 1) < 0 → zz_E zp_P zt_tf zt_fd X d zm_274 18 [] [] (mH h s) Q) (k2 : ¬ (lg_cmp x0 1) < 0 → zz_E zp_P zt_tf zt_fd X d zm_274 6 [(0, .long x0)] [] (mH h s) Q) : zz_E zp_P zt_tf zt_fd X d zm_274 0 [(0, .long x0)] [] (mH h s) Q := by
  refine zz_E.n 1 rfl rfl rfl ?_
  refine zz_E.c 2 (.long 1) rfl rfl rfl rfl ?_
  refine zz_E.n 3 rfl rfl rfl ?_
  refine zz_E.b1 18 6 (A := (lg_cmp x0 1) < 0) rfl rfl (by decide) rfl rfl (fun c => ?_) (fun c => ?_)
  · exact zz_E.weak (k1 c) rfl trivial
  · exact zz_E.weak (k2 c) rfl ⟨rfl, trivial⟩
theorem mb_274_6 {X : Nat → Option zz_C} {h : zz_H} (hh : 111 ≤ h.length) {s : mS} {d : Nat} {Q : Option Value → zz_H → Prop} {x0 : Int64} (k1 : 0 < (lg_cmp x0 8) → zz_E zp_P zt_tf zt_fd X d zm_274 18 [] [] (mH h s) Q) (k2 : ¬ 0 < (lg_cmp x0 8) → zz_E zp_P zt_tf zt_fd X d zm_274 14 [] [] (mH h s) Q) : zz_E zp_P zt_tf zt_fd X d zm_274 6 [(0, .long x0)] [] (mH h s) Q := by
  refine zz_E.n 7 rfl rfl rfl ?_
  refine zz_E.c 10 (.long 8) rfl rfl rfl rfl ?_
  refine zz_E.n 11 rfl rfl rfl ?_
  refine zz_E.b1 18 14 (A := 0 < (lg_cmp x0 8)) rfl rfl (by decide) rfl rfl (fun c => ?_) (fun c => ?_)
  · exact zz_E.weak (k1 c) rfl trivial
  · exact zz_E.weak (k2 c) rfl trivial
theorem mb_274_14 {X : Nat → Option zz_C} {h : zz_H} (hh : 111 ≤ h.length) {s : mS} {d : Nat} {Q : Option Value → zz_H → Prop}  (k : zz_E zp_P zt_tf zt_fd X d zm_274 19 [] [.int 1] (mH h s) Q) : zz_E zp_P zt_tf zt_fd X d zm_274 14 [] [] (mH h s) Q := by
  refine zz_E.c 15 (.int 1) rfl rfl rfl rfl ?_
  refine zz_E.n 19 rfl rfl rfl ?_
  exact zz_E.weak k rfl trivial
theorem mb_274_18 {X : Nat → Option zz_C} {h : zz_H} (hh : 111 ≤ h.length) {s : mS} {d : Nat} {Q : Option Value → zz_H → Prop}  (k : zz_E zp_P zt_tf zt_fd X d zm_274 19 [] [.int 0] (mH h s) Q) : zz_E zp_P zt_tf zt_fd X d zm_274 18 [] [] (mH h s) Q := by
  refine zz_E.c 19 (.int 0) rfl rfl rfl rfl ?_
  exact zz_E.weak k rfl trivial
theorem mb_274_19 {X : Nat → Option zz_C} {h : zz_H} (hh : 111 ≤ h.length) {s : mS} {d : Nat} {Q : Option Value → zz_H → Prop} {y0 : Int32} (k : Q (some (.int y0)) (mH h s)) (rb : zz_reti (some .boolean) y0 = true) : zz_E zp_P zt_tf zt_fd X d zm_274 19 [] [.int y0] (mH h s) Q := by
  refine zz_E.ret rfl rfl (if_pos ⟨rfl, rb⟩) ?_
  exact k
def mf_274_19 (N : Nat) (y0 : Int32) (s : mS) : mO := if zz_reti (some .boolean) y0 = true then some (s, (some (.int y0))) else none
theorem mr_274_19 {X : Nat → Option zz_C} {h : zz_H} (hh : 111 ≤ h.length) {d : Nat} {N : Nat} {Q : Option Value → zz_H → Prop} {y0 : Int32} {s s' : mS} {v : Option Value} (hf : mf_274_19 N y0 s = some (s', v)) (k : Q v (mH h s')) : zz_E zp_P zt_tf zt_fd X (d + 0) zm_274 19 [] [.int y0] (mH h s) Q := by
  unfold mf_274_19 at hf
  obtain ⟨rb, hf⟩ := mo_if hf
  cases hf
  exact mb_274_19 hh  k rb
def mf_274_18 (N : Nat)  (s : mS) : mO := mf_274_19 N 0 s
theorem mr_274_18 {X : Nat → Option zz_C} {h : zz_H} (hh : 111 ≤ h.length) {d : Nat} {N : Nat} {Q : Option Value → zz_H → Prop}  {s s' : mS} {v : Option Value} (hf : mf_274_18 N  s = some (s', v)) (k : Q v (mH h s')) : zz_E zp_P zt_tf zt_fd X (d + 0) zm_274 18 [] [] (mH h s) Q := by
  unfold mf_274_18 at hf
  exact mb_274_18 hh  (mr_274_19 hh hf k)
def mf_274_14 (N : Nat)  (s : mS) : mO := mf_274_19 N 1 s
theorem mr_274_14 {X : Nat → Option zz_C} {h : zz_H} (hh : 111 ≤ h.length) {d : Nat} {N : Nat} {Q : Option Value → zz_H → Prop}  {s s' : mS} {v : Option Value} (hf : mf_274_14 N  s = some (s', v)) (k : Q v (mH h s')) : zz_E zp_P zt_tf zt_fd X (d + 0) zm_274 14 [] [] (mH h s) Q := by
  unfold mf_274_14 at hf
  exact mb_274_14 hh  (mr_274_19 hh hf k)
def mf_274_6 (N : Nat) (x0 : Int64) (s : mS) : mO := if 0 < (lg_cmp x0 8) then mf_274_18 N  s else mf_274_14 N  s
theorem mr_274_6 {X : Nat → Option zz_C} {h : zz_H} (hh : 111 ≤ h.length) {d : Nat} {N : Nat} {Q : Option Value → zz_H → Prop} {x0 : Int64} {s s' : mS} {v : Option Value} (hf : mf_274_6 N x0 s = some (s', v)) (k : Q v (mH h s')) : zz_E zp_P zt_tf zt_fd X (d + 0) zm_274 6 [(0, .long x0)] [] (mH h s) Q := by
  unfold mf_274_6 at hf
  refine mb_274_6 hh  (fun c => ?_) (fun c => ?_)
  · rw [if_pos c] at hf
    exact mr_274_18 hh hf k
  · rw [if_neg c] at hf
    exact mr_274_14 hh hf k
def mf_274_0 (N : Nat) (x0 : Int64) (s : mS) : mO := if (lg_cmp x0 1) < 0 then mf_274_18 N  s else mf_274_6 N x0 s
theorem mr_274_0 {X : Nat → Option zz_C} {h : zz_H} (hh : 111 ≤ h.length) {d : Nat} {N : Nat} {Q : Option Value → zz_H → Prop} {x0 : Int64} {s s' : mS} {v : Option Value} (hf : mf_274_0 N x0 s = some (s', v)) (k : Q v (mH h s')) : zz_E zp_P zt_tf zt_fd X (d + 0) zm_274 0 [(0, .long x0)] [] (mH h s) Q := by
  unfold mf_274_0 at hf
  refine mb_274_0 hh  (fun c => ?_) (fun c => ?_)
  · rw [if_pos c] at hf
    exact mr_274_18 hh hf k
  · rw [if_neg c] at hf
    exact mr_274_6 hh hf k
/-- isShelf -/
def mf_274 (N : Nat) (x0 : Int64) (s : mS) : mO := mf_274_0 N x0 s
theorem mr_274 {X : Nat → Option zz_C} {h : zz_H} (hh : 111 ≤ h.length) {d : Nat} {N : Nat} {Q : Option Value → zz_H → Prop} {x0 : Int64} {s s' : mS} {v : Option Value} (hf : mf_274 N x0 s = some (s', v)) (k : Q v (mH h s')) : zz_E zp_P zt_tf zt_fd X (d + 0) zm_274 0 [(0, .long x0)] [] (mH h s) Q := by
  unfold mf_274 at hf
  exact zz_E.weak (mr_274_0 hh hf k) rfl ⟨rfl, trivial⟩
