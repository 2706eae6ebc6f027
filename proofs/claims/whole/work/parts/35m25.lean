/-! ofTwo (IIII)V -/
theorem mb_347_0 {X : Nat → Option zz_C} {h : zz_H} (hh : 111 ≤ h.length) {s : mS} {d : Nat} {Q : Option Value → zz_H → Prop} {x1 : Int32} {x2 : Int32} {x3 : Int32} {x4 : Int32} (c19 : x1 = 19 → zz_E zp_P zt_tf zt_fd X d zm_347 48 [(0, .ref 61), (2, .int x2), (3, .int x3), (4, .int x4)] [] (mH h s) Q) (c20 : x1 = 20 → zz_E zp_P zt_tf zt_fd X d zm_347 57 [(0, .ref 61), (1, .int x1), (2, .int x2), (3, .int x3), (4, .int x4)] [] (mH h s) Q) (c21 : x1 = 21 → zz_E zp_P zt_tf zt_fd X d zm_347 57 [(0, .ref 61), (1, .int x1), (2, .int x2), (3, .int x3), (4, .int x4)] [] (mH h s) Q) (c22 : x1 = 22 → zz_E zp_P zt_tf zt_fd X d zm_347 67 [(0, .ref 61), (2, .int x2), (3, .int x3), (4, .int x4)] [] (mH h s) Q) (c23 : x1 = 23 → zz_E zp_P zt_tf zt_fd X d zm_347 76 [(0, .ref 61), (2, .int x2), (3, .int x3), (4, .int x4)] [] (mH h s) Q) (c24 : x1 = 24 → zz_E zp_P zt_tf zt_fd X d zm_347 85 [(0, .ref 61), (2, .int x2), (3, .int x3), (4, .int x4)] [] (mH h s) Q) (c25 : x1 = 25 → zz_E zp_P zt_tf zt_fd X d zm_347 168 [(0, .ref 61), (2, .int x2), (3, .int x3), (4, .int x4)] [] (mH h s) Q) (c26 : x1 = 26 → zz_E zp_P zt_tf zt_fd X d zm_347 177 [(0, .ref 61), (2, .int x2), (3, .int x3), (4, .int x4)] [] (mH h s) Q) (kd : (Int32.toInt x1 < 19 ∨ 26 < Int32.toInt x1) → zz_E zp_P zt_tf zt_fd X d zm_347 186 [(0, .ref 61), (2, .int x2), (3, .int x3), (4, .int x4)] [] (mH h s) Q) : zz_E zp_P zt_tf zt_fd X d zm_347 0 [(0, .ref 61), (1, .int x1), (2, .int x2), (3, .int x3), (4, .int x4)] [] (mH h s) Q := by
  refine zz_E.n 1 rfl rfl rfl ?_
  by_cases hx : Int32.toInt x1 < 19 ∨ 26 < Int32.toInt x1
  · exact zz_E.td 186 rfl hx (by decide) rfl (zz_E.weak (kd hx) rfl ⟨rfl, rfl, rfl, rfl, trivial⟩)
  · have hv : Int32.toInt x1 = 19 ∨ Int32.toInt x1 = 20 ∨ Int32.toInt x1 = 21 ∨ Int32.toInt x1 = 22 ∨ Int32.toInt x1 = 23 ∨ Int32.toInt x1 = 24 ∨ Int32.toInt x1 = 25 ∨ Int32.toInt x1 = 26 := by omega
    rcases hv with hv | hv | hv | hv | hv | hv | hv | hv
    · have e : x1 = 19 := Int32.toInt_inj.mp (hv.trans rfl)
      exact zz_E.tv 48 rfl e rfl (zz_E.weak (c19 e) rfl ⟨rfl, rfl, rfl, rfl, trivial⟩)
    · have e : x1 = 20 := Int32.toInt_inj.mp (hv.trans rfl)
      exact zz_E.tv 57 rfl e rfl (zz_E.weak (c20 e) rfl ⟨rfl, rfl, rfl, rfl, rfl, trivial⟩)
    · have e : x1 = 21 := Int32.toInt_inj.mp (hv.trans rfl)
      exact zz_E.tv 57 rfl e rfl (zz_E.weak (c21 e) rfl ⟨rfl, rfl, rfl, rfl, rfl, trivial⟩)
    · have e : x1 = 22 := Int32.toInt_inj.mp (hv.trans rfl)
      exact zz_E.tv 67 rfl e rfl (zz_E.weak (c22 e) rfl ⟨rfl, rfl, rfl, rfl, trivial⟩)
    · have e : x1 = 23 := Int32.toInt_inj.mp (hv.trans rfl)
      exact zz_E.tv 76 rfl e rfl (zz_E.weak (c23 e) rfl ⟨rfl, rfl, rfl, rfl, trivial⟩)
    · have e : x1 = 24 := Int32.toInt_inj.mp (hv.trans rfl)
      exact zz_E.tv 85 rfl e rfl (zz_E.weak (c24 e) rfl ⟨rfl, rfl, rfl, rfl, trivial⟩)
    · have e : x1 = 25 := Int32.toInt_inj.mp (hv.trans rfl)
      exact zz_E.tv 168 rfl e rfl (zz_E.weak (c25 e) rfl ⟨rfl, rfl, rfl, rfl, trivial⟩)
    · have e : x1 = 26 := Int32.toInt_inj.mp (hv.trans rfl)
      exact zz_E.tv 177 rfl e rfl (zz_E.weak (c26 e) rfl ⟨rfl, rfl, rfl, rfl, trivial⟩)
theorem mb_347_48 {X : Nat → Option zz_C} {h : zz_H} (hh : 111 ≤ h.length) {s : mS} {d : Nat} {Q : Option Value → zz_H → Prop} {x2 : Int32} {x3 : Int32} {x4 : Int32} (k : zz_E zp_P zt_tf zt_fd X d zm_337 0 [(0, .ref 61), (1, .int x2), (2, .int x3), (3, .int x4)] [] (mH h s) (fun v h' => zz_E zp_P zt_tf zt_fd X (d + 1) zm_347 56 [] (v.toList ++ []) h' Q)) : zz_E zp_P zt_tf zt_fd X (d + 1) zm_347 48 [(0, .ref 61), (2, .int x2), (3, .int x3), (4, .int x4)] [] (mH h s) Q := by
  refine zz_E.n 49 rfl rfl rfl ?_
  refine zz_E.n 50 rfl rfl rfl ?_
  refine zz_E.n 51 rfl rfl rfl ?_
  refine zz_E.n 53 rfl rfl rfl ?_
  refine mE_cv hh 56 (as := []) rfl rfl (Nat.le_of_ble_eq_true rfl) (Nat.le_of_ble_eq_true rfl) rfl (Nat.le_of_ble_eq_true rfl) rfl ?_
  refine zz_E.mono k ?_
  intro v h' hE
  exact zz_E.weak hE rfl trivial
theorem mb_347_56 {X : Nat → Option zz_C} {h : zz_H} (hh : 111 ≤ h.length) {s : mS} {d : Nat} {Q : Option Value → zz_H → Prop}  (k : Q none (mH h s)) : zz_E zp_P zt_tf zt_fd X d zm_347 56 [] [] (mH h s) Q := by
  refine zz_E.ret rfl rfl rfl ?_
  exact k
theorem mb_347_57 {X : Nat → Option zz_C} {h : zz_H} (hh : 111 ≤ h.length) {s : mS} {d : Nat} {Q : Option Value → zz_H → Prop} {x1 : Int32} {x2 : Int32} {x3 : Int32} {x4 : Int32} (k : zz_E zp_P zt_tf zt_fd X d zm_338 0 [(0, .ref 61), (1, .int x1), (2, .int x2), (3, .int x3), (4, .int x4)] [] (mH h s) (fun v h' => zz_E zp_P zt_tf zt_fd X (d + 1) zm_347 66 [] (v.toList ++ []) h' Q)) : zz_E zp_P zt_tf zt_fd X (d + 1) zm_347 57 [(0, .ref 61), (1, .int x1), (2, .int x2), (3, .int x3), (4, .int x4)] [] (mH h s) Q := by
  refine zz_E.n 58 rfl rfl rfl ?_
  refine zz_E.n 59 rfl rfl rfl ?_
  refine zz_E.n 60 rfl rfl rfl ?_
  refine zz_E.n 61 rfl rfl rfl ?_
  refine zz_E.n 63 rfl rfl rfl ?_
  refine mE_cv hh 66 (as := []) rfl rfl (Nat.le_of_ble_eq_true rfl) (Nat.le_of_ble_eq_true rfl) rfl (Nat.le_of_ble_eq_true rfl) rfl ?_
  refine zz_E.mono k ?_
  intro v h' hE
  exact zz_E.weak hE rfl trivial
theorem mb_347_66 {X : Nat → Option zz_C} {h : zz_H} (hh : 111 ≤ h.length) {s : mS} {d : Nat} {Q : Option Value → zz_H → Prop}  (k : Q none (mH h s)) : zz_E zp_P zt_tf zt_fd X d zm_347 66 [] [] (mH h s) Q := by
  refine zz_E.ret rfl rfl rfl ?_
  exact k
theorem mb_347_67 {X : Nat → Option zz_C} {h : zz_H} (hh : 111 ≤ h.length) {s : mS} {d : Nat} {Q : Option Value → zz_H → Prop} {x2 : Int32} {x3 : Int32} {x4 : Int32} (k : zz_E zp_P zt_tf zt_fd X d zm_339 0 [(0, .ref 61), (1, .int x2), (2, .int x3), (3, .int x4)] [] (mH h s) (fun v h' => zz_E zp_P zt_tf zt_fd X (d + 1) zm_347 75 [] (v.toList ++ []) h' Q)) : zz_E zp_P zt_tf zt_fd X (d + 1) zm_347 67 [(0, .ref 61), (2, .int x2), (3, .int x3), (4, .int x4)] [] (mH h s) Q := by
  refine zz_E.n 68 rfl rfl rfl ?_
  refine zz_E.n 69 rfl rfl rfl ?_
  refine zz_E.n 70 rfl rfl rfl ?_
  refine zz_E.n 72 rfl rfl rfl ?_
  refine mE_cv hh 75 (as := []) rfl rfl (Nat.le_of_ble_eq_true rfl) (Nat.le_of_ble_eq_true rfl) rfl (Nat.le_of_ble_eq_true rfl) rfl ?_
  refine zz_E.mono k ?_
  intro v h' hE
  exact zz_E.weak hE rfl trivial
theorem mb_347_75 {X : Nat → Option zz_C} {h : zz_H} (hh : 111 ≤ h.length) {s : mS} {d : Nat} {Q : Option Value → zz_H → Prop}  (k : Q none (mH h s)) : zz_E zp_P zt_tf zt_fd X d zm_347 75 [] [] (mH h s) Q := by
  refine zz_E.ret rfl rfl rfl ?_
  exact k
theorem mb_347_76 {X : Nat → Option zz_C} {h : zz_H} (hh : 111 ≤ h.length) {s : mS} {d : Nat} {Q : Option Value → zz_H → Prop} {x2 : Int32} {x3 : Int32} {x4 : Int32} (k : zz_E zp_P zt_tf zt_fd X d zm_340 0 [(0, .ref 61), (1, .int x2), (2, .int x3), (3, .int x4)] [] (mH h s) (fun v h' => zz_E zp_P zt_tf zt_fd X (d + 1) zm_347 84 [] (v.toList ++ []) h' Q)) : zz_E zp_P zt_tf zt_fd X (d + 1) zm_347 76 [(0, .ref 61), (2, .int x2), (3, .int x3), (4, .int x4)] [] (mH h s) Q := by
  refine zz_E.n 77 rfl rfl rfl ?_
  refine zz_E.n 78 rfl rfl rfl ?_
  refine zz_E.n 79 rfl rfl rfl ?_
  refine zz_E.n 81 rfl rfl rfl ?_
  refine mE_cv hh 84 (as := []) rfl rfl (Nat.le_of_ble_eq_true rfl) (Nat.le_of_ble_eq_true rfl) rfl (Nat.le_of_ble_eq_true rfl) rfl ?_
  refine zz_E.mono k ?_
  intro v h' hE
  exact zz_E.weak hE rfl trivial
theorem mb_347_84 {X : Nat → Option zz_C} {h : zz_H} (hh : 111 ≤ h.length) {s : mS} {d : Nat} {Q : Option Value → zz_H → Prop}  (k : Q none (mH h s)) : zz_E zp_P zt_tf zt_fd X d zm_347 84 [] [] (mH h s) Q := by
  refine zz_E.ret rfl rfl rfl ?_
  exact k
theorem mb_347_85 {X : Nat → Option zz_C} {h : zz_H} (hh : 111 ≤ h.length) {s : mS} {d : Nat} {Q : Option Value → zz_H → Prop} {x2 : Int32} {x3 : Int32} {x4 : Int32} (k : zz_E zp_P zt_tf zt_fd X d zm_292 0 [(0, .ref 61), (1, .int (x4 + 1))] [] (mH h s) (fun v h' => zz_E zp_P zt_tf zt_fd X (d + 1) zm_347 93 [(0, .ref 61), (2, .int x2), (3, .int x3), (4, .int x4)] (v.toList ++ []) h' Q)) : zz_E zp_P zt_tf zt_fd X (d + 1) zm_347 85 [(0, .ref 61), (2, .int x2), (3, .int x3), (4, .int x4)] [] (mH h s) Q := by
  refine zz_E.n 86 rfl rfl rfl ?_
  refine zz_E.n 88 rfl rfl rfl ?_
  refine zz_E.c 89 (.int 1) rfl rfl rfl rfl ?_
  refine zz_E.n 90 rfl rfl rfl ?_
  refine mE_cv hh 93 (as := []) rfl rfl (Nat.le_of_ble_eq_true rfl) (Nat.le_of_ble_eq_true rfl) rfl (Nat.le_of_ble_eq_true rfl) rfl ?_
  refine zz_E.mono k ?_
  intro v h' hE
  exact zz_E.weak hE rfl ⟨rfl, rfl, rfl, rfl, trivial⟩
theorem mb_347_93 {X : Nat → Option zz_C} {h : zz_H} (hh : 111 ≤ h.length) {s : mS} {d : Nat} {Q : Option Value → zz_H → Prop} {x2 : Int32} {x3 : Int32} {x4 : Int32} {y0 : Int32} (k1 : ¬ y0 = 0 → zz_E zp_P zt_tf zt_fd X d zm_347 120 [(0, .ref 61), (2, .int x2), (3, .int x3), (4, .int x4)] [] (mH h (mI s 51 x4)) Q) (k2 : ¬ ¬ y0 = 0 → zz_E zp_P zt_tf zt_fd X d zm_347 106 [(0, .ref 61), (2, .int x2), (3, .int x3)] [] (mH h (mI s 51 x4)) Q) : zz_E zp_P zt_tf zt_fd X d zm_347 93 [(0, .ref 61), (2, .int x2), (3, .int x3), (4, .int x4)] [.int y0] (mH h s) Q := by
  refine zz_E.n 95 rfl rfl rfl ?_
  refine zz_E.n 96 rfl rfl rfl ?_
  refine zz_E.n 98 rfl rfl rfl ?_
  refine mE_p hh 101 rfl (by decide) rfl (mF_51 _ _) rfl ?_
  refine zz_E.n 103 rfl rfl rfl ?_
  refine zz_E.b1 120 106 (A := ¬ y0 = 0) rfl (zz_cond_ne _ _) (by decide) rfl rfl (fun c => ?_) (fun c => ?_)
  · exact zz_E.weak (k1 c) rfl ⟨rfl, rfl, rfl, rfl, trivial⟩
  · exact zz_E.weak (k2 c) rfl ⟨rfl, rfl, rfl, trivial⟩
theorem mb_347_106 {X : Nat → Option zz_C} {h : zz_H} (hh : 111 ≤ h.length) {s : mS} {d : Nat} {Q : Option Value → zz_H → Prop} {x2 : Int32} {x3 : Int32} (k : zz_E zp_P zt_tf zt_fd X d zm_341 0 [(0, .ref 61), (1, .int x2), (2, .int x3)] [] (mH h s) (fun v h' => zz_E zp_P zt_tf zt_fd X (d + 1) zm_347 114 [] (v.toList ++ [.int 0, .ref 61]) h' Q)) : zz_E zp_P zt_tf zt_fd X (d + 1) zm_347 106 [(0, .ref 61), (2, .int x2), (3, .int x3)] [] (mH h s) Q := by
  refine zz_E.n 107 rfl rfl rfl ?_
  refine zz_E.c 108 (.int 0) rfl rfl rfl rfl ?_
  refine zz_E.n 109 rfl rfl rfl ?_
  refine zz_E.n 110 rfl rfl rfl ?_
  refine zz_E.n 111 rfl rfl rfl ?_
  refine mE_cv hh 114 (as := [.int 0, .ref 61]) rfl rfl (Nat.le_of_ble_eq_true rfl) (Nat.le_of_ble_eq_true rfl) rfl (Nat.le_of_ble_eq_true rfl) rfl ?_
  refine zz_E.mono k ?_
  intro v h' hE
  exact zz_E.weak hE rfl trivial
theorem mb_347_114 {X : Nat → Option zz_C} {h : zz_H} (hh : 111 ≤ h.length) {s : mS} {d : Nat} {Q : Option Value → zz_H → Prop} {y1 : Int32} {y2 : Int32} (k : zz_E zp_P zt_tf zt_fd X d zm_291 0 [(0, .ref 61), (1, .int y1), (2, .int y2)] [] (mH h s) (fun v h' => zz_E zp_P zt_tf zt_fd X (d + 1) zm_347 117 [] (v.toList ++ []) h' Q)) : zz_E zp_P zt_tf zt_fd X (d + 1) zm_347 114 [] [.int y2, .int y1, .ref 61] (mH h s) Q := by
  refine mE_cv hh 117 (as := []) rfl rfl (Nat.le_of_ble_eq_true rfl) (Nat.le_of_ble_eq_true rfl) rfl (Nat.le_of_ble_eq_true rfl) rfl ?_
  refine zz_E.mono k ?_
  intro v h' hE
  exact zz_E.weak hE rfl trivial
theorem mb_347_117 {X : Nat → Option zz_C} {h : zz_H} (hh : 111 ≤ h.length) {s : mS} {d : Nat} {Q : Option Value → zz_H → Prop}  (k : zz_E zp_P zt_tf zt_fd X d zm_347 167 [] [] (mH h s) Q) : zz_E zp_P zt_tf zt_fd X d zm_347 117 [] [] (mH h s) Q := by
  refine zz_E.n 167 rfl rfl rfl ?_
  exact zz_E.weak k rfl trivial
theorem mb_347_120 {X : Nat → Option zz_C} {h : zz_H} (hh : 111 ≤ h.length) {s : mS} {d : Nat} {Q : Option Value → zz_H → Prop} {x2 : Int32} {x3 : Int32} {x4 : Int32} (k : zz_E zp_P zt_tf zt_fd X d zm_347 123 [(0, .ref 61), (2, .int x2), (3, .int x3), (4, .int x4), (6, .int 0)] [] (mH h s) Q) : zz_E zp_P zt_tf zt_fd X d zm_347 120 [(0, .ref 61), (2, .int x2), (3, .int x3), (4, .int x4)] [] (mH h s) Q := by
  refine zz_E.c 121 (.int 0) rfl rfl rfl rfl ?_
  refine zz_E.n 123 rfl rfl rfl ?_
  exact zz_E.weak k rfl ⟨rfl, rfl, rfl, rfl, rfl, trivial⟩
theorem mb_347_123 {X : Nat → Option zz_C} {h : zz_H} (hh : 111 ≤ h.length) {s : mS} {d : Nat} {Q : Option Value → zz_H → Prop} {x2 : Int32} {x3 : Int32} {x4 : Int32} {x6 : Int32} (k : zz_E zp_P zt_tf zt_fd X d zm_77 0 [(0, .ref 61), (1, .int x3)] [] (mH h s) (fun v h' => zz_E zp_P zt_tf zt_fd X (d + 1) zm_347 130 [(0, .ref 61), (2, .int x2), (3, .int x3), (4, .int x4), (6, .int x6)] (v.toList ++ [.int x6]) h' Q)) : zz_E zp_P zt_tf zt_fd X (d + 1) zm_347 123 [(0, .ref 61), (2, .int x2), (3, .int x3), (4, .int x4), (6, .int x6)] [] (mH h s) Q := by
  refine zz_E.n 125 rfl rfl rfl ?_
  refine zz_E.n 126 rfl rfl rfl ?_
  refine zz_E.n 127 rfl rfl rfl ?_
  refine mE_cv hh 130 (as := [.int x6]) rfl rfl (Nat.le_of_ble_eq_true rfl) (Nat.le_of_ble_eq_true rfl) rfl (Nat.le_of_ble_eq_true rfl) rfl ?_
  refine zz_E.mono k ?_
  intro v h' hE
  exact zz_E.weak hE rfl ⟨rfl, rfl, rfl, rfl, rfl, trivial⟩
theorem mb_347_130 {X : Nat → Option zz_C} {h : zz_H} (hh : 111 ≤ h.length) {s : mS} {d : Nat} {Q : Option Value → zz_H → Prop} {x2 : Int32} {x3 : Int32} {x4 : Int32} {x6 : Int32} {y0 : Int32} {y1 : Int32} (k1 : y1 ≤ y0 → zz_E zp_P zt_tf zt_fd X d zm_347 160 [(0, .ref 61), (4, .int x4)] [] (mH h s) Q) (k2 : ¬ y1 ≤ y0 → zz_E zp_P zt_tf zt_fd X d zm_347 133 [(0, .ref 61), (2, .int x2), (3, .int x3), (4, .int x4), (6, .int x6)] [] (mH h s) Q) : zz_E zp_P zt_tf zt_fd X d zm_347 130 [(0, .ref 61), (2, .int x2), (3, .int x3), (4, .int x4), (6, .int x6)] [.int y1, .int y0] (mH h s) Q := by
  refine zz_E.b2 160 133 (A := y1 ≤ y0) rfl rfl (by decide) rfl rfl (fun c => ?_) (fun c => ?_)
  · exact zz_E.weak (k1 c) rfl ⟨rfl, rfl, trivial⟩
  · exact zz_E.weak (k2 c) rfl ⟨rfl, rfl, rfl, rfl, rfl, trivial⟩
theorem mb_347_133 {X : Nat → Option zz_C} {h : zz_H} (hh : 111 ≤ h.length) {s : mS} {d : Nat} {Q : Option Value → zz_H → Prop} {x2 : Int32} {x3 : Int32} {x4 : Int32} {x6 : Int32} (i147 : ¬ (((x3 + 2) + x6) < 0 ∨ 166300 ≤ Int32.toNatClampNeg ((x3 + 2) + x6))) (k : zz_E zp_P zt_tf zt_fd X d zm_341 0 [(0, .ref 61), (1, .int x2), (2, .int ((s.2.2.1 47) (Int32.toNatClampNeg ((x3 + 2) + x6))))] [] (mH h s) (fun v h' => zz_E zp_P zt_tf zt_fd X (d + 1) zm_347 151 [(0, .ref 61), (2, .int x2), (3, .int x3), (4, .int x4), (6, .int x6)] (v.toList ++ [.int 0, .ref 61]) h' Q)) : zz_E zp_P zt_tf zt_fd X (d + 1) zm_347 133 [(0, .ref 61), (2, .int x2), (3, .int x3), (4, .int x4), (6, .int x6)] [] (mH h s) Q := by
  refine zz_E.n 134 rfl rfl rfl ?_
  refine zz_E.c 135 (.int 0) rfl rfl rfl rfl ?_
  refine zz_E.n 136 rfl rfl rfl ?_
  refine zz_E.n 137 rfl rfl rfl ?_
  refine zz_E.n 138 rfl rfl rfl ?_
  refine mE_g hh 141 (v := .ref 89) rfl rfl rfl ?_
  refine zz_E.n 142 rfl rfl rfl ?_
  refine zz_E.c 143 (.int 2) rfl rfl rfl rfl ?_
  refine zz_E.n 144 rfl rfl rfl ?_
  refine zz_E.n 146 rfl rfl rfl ?_
  refine zz_E.n 147 rfl rfl rfl ?_
  refine mE_ia hh 148 28 (f := (s.2.2.1 47)) rfl (by decide) rfl rfl i147 rfl ?_
  refine mE_cv hh 151 (as := [.int 0, .ref 61]) rfl rfl (Nat.le_of_ble_eq_true rfl) (Nat.le_of_ble_eq_true rfl) rfl (Nat.le_of_ble_eq_true rfl) rfl ?_
  refine zz_E.mono k ?_
  intro v h' hE
  exact zz_E.weak hE rfl ⟨rfl, rfl, rfl, rfl, rfl, trivial⟩
theorem mb_347_151 {X : Nat → Option zz_C} {h : zz_H} (hh : 111 ≤ h.length) {s : mS} {d : Nat} {Q : Option Value → zz_H → Prop} {x2 : Int32} {x3 : Int32} {x4 : Int32} {x6 : Int32} {y1 : Int32} {y2 : Int32} (k : zz_E zp_P zt_tf zt_fd X d zm_291 0 [(0, .ref 61), (1, .int y1), (2, .int y2)] [] (mH h s) (fun v h' => zz_E zp_P zt_tf zt_fd X (d + 1) zm_347 154 [(0, .ref 61), (2, .int x2), (3, .int x3), (4, .int x4), (6, .int x6)] (v.toList ++ []) h' Q)) : zz_E zp_P zt_tf zt_fd X (d + 1) zm_347 151 [(0, .ref 61), (2, .int x2), (3, .int x3), (4, .int x4), (6, .int x6)] [.int y2, .int y1, .ref 61] (mH h s) Q := by
  refine mE_cv hh 154 (as := []) rfl rfl (Nat.le_of_ble_eq_true rfl) (Nat.le_of_ble_eq_true rfl) rfl (Nat.le_of_ble_eq_true rfl) rfl ?_
  refine zz_E.mono k ?_
  intro v h' hE
  exact zz_E.weak hE rfl ⟨rfl, rfl, rfl, rfl, rfl, trivial⟩
theorem mb_347_154 {X : Nat → Option zz_C} {h : zz_H} (hh : 111 ≤ h.length) {s : mS} {d : Nat} {Q : Option Value → zz_H → Prop} {x2 : Int32} {x3 : Int32} {x4 : Int32} {x6 : Int32} (k : zz_E zp_P zt_tf zt_fd X d zm_347 123 [(0, .ref 61), (2, .int x2), (3, .int x3), (4, .int x4), (6, .int (x6 + 1))] [] (mH h s) Q) : zz_E zp_P zt_tf zt_fd X d zm_347 154 [(0, .ref 61), (2, .int x2), (3, .int x3), (4, .int x4), (6, .int x6)] [] (mH h s) Q := by
  refine zz_E.n 157 rfl rfl rfl ?_
  refine zz_E.n 123 rfl rfl rfl ?_
  exact zz_E.weak k rfl ⟨rfl, rfl, rfl, rfl, rfl, trivial⟩
theorem mb_347_160 {X : Nat → Option zz_C} {h : zz_H} (hh : 111 ≤ h.length) {s : mS} {d : Nat} {Q : Option Value → zz_H → Prop} {x4 : Int32} (k : zz_E zp_P zt_tf zt_fd X d zm_305 0 [(0, .ref 61), (1, .int 1), (2, .int x4)] [] (mH h s) (fun v h' => zz_E zp_P zt_tf zt_fd X (d + 1) zm_347 167 [] (v.toList ++ []) h' Q)) : zz_E zp_P zt_tf zt_fd X (d + 1) zm_347 160 [(0, .ref 61), (4, .int x4)] [] (mH h s) Q := by
  refine zz_E.n 161 rfl rfl rfl ?_
  refine zz_E.c 162 (.int 1) rfl rfl rfl rfl ?_
  refine zz_E.n 164 rfl rfl rfl ?_
  refine mE_cv hh 167 (as := []) rfl rfl (Nat.le_of_ble_eq_true rfl) (Nat.le_of_ble_eq_true rfl) rfl (Nat.le_of_ble_eq_true rfl) rfl ?_
  refine zz_E.mono k ?_
  intro v h' hE
  exact zz_E.weak hE rfl trivial
theorem mb_347_167 {X : Nat → Option zz_C} {h : zz_H} (hh : 111 ≤ h.length) {s : mS} {d : Nat} {Q : Option Value → zz_H → Prop}  (k : Q none (mH h s)) : zz_E zp_P zt_tf zt_fd X d zm_347 167 [] [] (mH h s) Q := by
  refine zz_E.ret rfl rfl rfl ?_
  exact k
theorem mb_347_168 {X : Nat → Option zz_C} {h : zz_H} (hh : 111 ≤ h.length) {s : mS} {d : Nat} {Q : Option Value → zz_H → Prop} {x2 : Int32} {x3 : Int32} {x4 : Int32} (k : zz_E zp_P zt_tf zt_fd X d zm_342 0 [(0, .ref 61), (1, .int x2), (2, .int x3), (3, .int x4)] [] (mH h s) (fun v h' => zz_E zp_P zt_tf zt_fd X (d + 1) zm_347 176 [] (v.toList ++ []) h' Q)) : zz_E zp_P zt_tf zt_fd X (d + 1) zm_347 168 [(0, .ref 61), (2, .int x2), (3, .int x3), (4, .int x4)] [] (mH h s) Q := by
  refine zz_E.n 169 rfl rfl rfl ?_
  refine zz_E.n 170 rfl rfl rfl ?_
  refine zz_E.n 171 rfl rfl rfl ?_
  refine zz_E.n 173 rfl rfl rfl ?_
  refine mE_cv hh 176 (as := []) rfl rfl (Nat.le_of_ble_eq_true rfl) (Nat.le_of_ble_eq_true rfl) rfl (Nat.le_of_ble_eq_true rfl) rfl ?_
  refine zz_E.mono k ?_
  intro v h' hE
  exact zz_E.weak hE rfl trivial
theorem mb_347_176 {X : Nat → Option zz_C} {h : zz_H} (hh : 111 ≤ h.length) {s : mS} {d : Nat} {Q : Option Value → zz_H → Prop}  (k : Q none (mH h s)) : zz_E zp_P zt_tf zt_fd X d zm_347 176 [] [] (mH h s) Q := by
  refine zz_E.ret rfl rfl rfl ?_
  exact k
theorem mb_347_177 {X : Nat → Option zz_C} {h : zz_H} (hh : 111 ≤ h.length) {s : mS} {d : Nat} {Q : Option Value → zz_H → Prop} {x2 : Int32} {x3 : Int32} {x4 : Int32} (k : zz_E zp_P zt_tf zt_fd X d zm_343 0 [(0, .ref 61), (1, .int x2), (2, .int x3), (3, .int x4)] [] (mH h s) (fun v h' => zz_E zp_P zt_tf zt_fd X (d + 1) zm_347 185 [] (v.toList ++ []) h' Q)) : zz_E zp_P zt_tf zt_fd X (d + 1) zm_347 177 [(0, .ref 61), (2, .int x2), (3, .int x3), (4, .int x4)] [] (mH h s) Q := by
  refine zz_E.n 178 rfl rfl rfl ?_
  refine zz_E.n 179 rfl rfl rfl ?_
  refine zz_E.n 180 rfl rfl rfl ?_
  refine zz_E.n 182 rfl rfl rfl ?_
  refine mE_cv hh 185 (as := []) rfl rfl (Nat.le_of_ble_eq_true rfl) (Nat.le_of_ble_eq_true rfl) rfl (Nat.le_of_ble_eq_true rfl) rfl ?_
  refine zz_E.mono k ?_
  intro v h' hE
  exact zz_E.weak hE rfl trivial
theorem mb_347_185 {X : Nat → Option zz_C} {h : zz_H} (hh : 111 ≤ h.length) {s : mS} {d : Nat} {Q : Option Value → zz_H → Prop}  (k : Q none (mH h s)) : zz_E zp_P zt_tf zt_fd X d zm_347 185 [] [] (mH h s) Q := by
  refine zz_E.ret rfl rfl rfl ?_
  exact k
theorem mb_347_186 {X : Nat → Option zz_C} {h : zz_H} (hh : 111 ≤ h.length) {s : mS} {d : Nat} {Q : Option Value → zz_H → Prop} {x2 : Int32} {x3 : Int32} {x4 : Int32} (i192 : ¬ (x4 < 0 ∨ 9000 ≤ Int32.toNatClampNeg x4)) (i201 : ¬ ((x4 + 1) < 0 ∨ 9000 ≤ Int32.toNatClampNeg (x4 + 1))) (k1 : ¬ ((s.2.2.1 49) (Int32.toNatClampNeg x4)) = ((s.2.2.1 49) (Int32.toNatClampNeg (x4 + 1))) → zz_E zp_P zt_tf zt_fd X d zm_347 236 [(0, .ref 61), (4, .int x4)] [] (mH h s) Q) (k2 : ¬ ¬ ((s.2.2.1 49) (Int32.toNatClampNeg x4)) = ((s.2.2.1 49) (Int32.toNatClampNeg (x4 + 1))) → zz_E zp_P zt_tf zt_fd X d zm_347 205 [(0, .ref 61), (2, .int x2), (3, .int x3), (4, .int x4)] [] (mH h s) Q) : zz_E zp_P zt_tf zt_fd X d zm_347 186 [(0, .ref 61), (2, .int x2), (3, .int x3), (4, .int x4)] [] (mH h s) Q := by
  refine zz_E.n 187 rfl rfl rfl ?_
  refine mE_g hh 190 (v := .ref 90) rfl rfl rfl ?_
  refine zz_E.n 192 rfl rfl rfl ?_
  refine mE_ia hh 193 29 (f := (s.2.2.1 49)) rfl (by decide) rfl rfl i192 rfl ?_
  refine zz_E.n 194 rfl rfl rfl ?_
  refine mE_g hh 197 (v := .ref 90) rfl rfl rfl ?_
  refine zz_E.n 199 rfl rfl rfl ?_
  refine zz_E.c 200 (.int 1) rfl rfl rfl rfl ?_
  refine zz_E.n 201 rfl rfl rfl ?_
  refine mE_ia hh 202 29 (f := (s.2.2.1 49)) rfl (by decide) rfl rfl i201 rfl ?_
  refine zz_E.b2 236 205 (A := ¬ ((s.2.2.1 49) (Int32.toNatClampNeg x4)) = ((s.2.2.1 49) (Int32.toNatClampNeg (x4 + 1)))) rfl (zz_cond_ne _ _) (by decide) rfl rfl (fun c => ?_) (fun c => ?_)
  · exact zz_E.weak (k1 c) rfl ⟨rfl, rfl, trivial⟩
  · exact zz_E.weak (k2 c) rfl ⟨rfl, rfl, rfl, rfl, trivial⟩
theorem mb_347_205 {X : Nat → Option zz_C} {h : zz_H} (hh : 111 ≤ h.length) {s : mS} {d : Nat} {Q : Option Value → zz_H → Prop} {x2 : Int32} {x3 : Int32} {x4 : Int32} (i211 : ¬ (x4 < 0 ∨ 9000 ≤ Int32.toNatClampNeg x4)) (k1 : ¬ ((s.2.2.1 49) (Int32.toNatClampNeg x4)) = 0 → zz_E zp_P zt_tf zt_fd X d zm_347 223 [(0, .ref 61), (2, .int x2), (3, .int x3), (4, .int x4)] [] (mH h s) Q) (k2 : ¬ ¬ ((s.2.2.1 49) (Int32.toNatClampNeg x4)) = 0 → zz_E zp_P zt_tf zt_fd X d zm_347 215 [(0, .ref 61), (2, .int x2), (3, .int x3), (4, .int x4)] [] (mH h s) Q) : zz_E zp_P zt_tf zt_fd X d zm_347 205 [(0, .ref 61), (2, .int x2), (3, .int x3), (4, .int x4)] [] (mH h s) Q := by
  refine zz_E.n 206 rfl rfl rfl ?_
  refine mE_g hh 209 (v := .ref 90) rfl rfl rfl ?_
  refine zz_E.n 211 rfl rfl rfl ?_
  refine mE_ia hh 212 29 (f := (s.2.2.1 49)) rfl (by decide) rfl rfl i211 rfl ?_
  refine zz_E.b1 223 215 (A := ¬ ((s.2.2.1 49) (Int32.toNatClampNeg x4)) = 0) rfl (zz_cond_ne _ _) (by decide) rfl rfl (fun c => ?_) (fun c => ?_)
  · exact zz_E.weak (k1 c) rfl ⟨rfl, rfl, rfl, rfl, trivial⟩
  · exact zz_E.weak (k2 c) rfl ⟨rfl, rfl, rfl, rfl, trivial⟩
theorem mb_347_215 {X : Nat → Option zz_C} {h : zz_H} (hh : 111 ≤ h.length) {s : mS} {d : Nat} {Q : Option Value → zz_H → Prop} {x2 : Int32} {x3 : Int32} {x4 : Int32} (k1 : ¬ x2 = x3 → zz_E zp_P zt_tf zt_fd X d zm_347 236 [(0, .ref 61), (4, .int x4)] [] (mH h s) Q) (k2 : ¬ ¬ x2 = x3 → zz_E zp_P zt_tf zt_fd X d zm_347 220 [(0, .ref 61), (4, .int x4)] [] (mH h s) Q) : zz_E zp_P zt_tf zt_fd X d zm_347 215 [(0, .ref 61), (2, .int x2), (3, .int x3), (4, .int x4)] [] (mH h s) Q := by
  refine zz_E.n 216 rfl rfl rfl ?_
  refine zz_E.n 217 rfl rfl rfl ?_
  refine zz_E.b2 236 220 (A := ¬ x2 = x3) rfl (zz_cond_ne _ _) (by decide) rfl rfl (fun c => ?_) (fun c => ?_)
  · exact zz_E.weak (k1 c) rfl ⟨rfl, rfl, trivial⟩
  · exact zz_E.weak (k2 c) rfl ⟨rfl, rfl, trivial⟩
theorem mb_347_220 {X : Nat → Option zz_C} {h : zz_H} (hh : 111 ≤ h.length) {s : mS} {d : Nat} {Q : Option Value → zz_H → Prop} {x4 : Int32} (k : zz_E zp_P zt_tf zt_fd X d zm_347 232 [(0, .ref 61), (4, .int x4)] [] (mH h s) Q) : zz_E zp_P zt_tf zt_fd X d zm_347 220 [(0, .ref 61), (4, .int x4)] [] (mH h s) Q := by
  refine zz_E.n 232 rfl rfl rfl ?_
  exact zz_E.weak k rfl ⟨rfl, rfl, trivial⟩
theorem mb_347_223 {X : Nat → Option zz_C} {h : zz_H} (hh : 111 ≤ h.length) {s : mS} {d : Nat} {Q : Option Value → zz_H → Prop} {x2 : Int32} {x3 : Int32} {x4 : Int32} (k : zz_E zp_P zt_tf zt_fd X d zm_346 0 [(0, .ref 61), (1, .int x2), (2, .int x3)] [] (mH h s) (fun v h' => zz_E zp_P zt_tf zt_fd X (d + 1) zm_347 229 [(0, .ref 61), (4, .int x4)] (v.toList ++ []) h' Q)) : zz_E zp_P zt_tf zt_fd X (d + 1) zm_347 223 [(0, .ref 61), (2, .int x2), (3, .int x3), (4, .int x4)] [] (mH h s) Q := by
  refine zz_E.n 224 rfl rfl rfl ?_
  refine zz_E.n 225 rfl rfl rfl ?_
  refine zz_E.n 226 rfl rfl rfl ?_
  refine mE_cv hh 229 (as := []) rfl rfl (Nat.le_of_ble_eq_true rfl) (Nat.le_of_ble_eq_true rfl) rfl (Nat.le_of_ble_eq_true rfl) rfl ?_
  refine zz_E.mono k ?_
  intro v h' hE
  exact zz_E.weak hE rfl ⟨rfl, rfl, trivial⟩
theorem mb_347_229 {X : Nat → Option zz_C} {h : zz_H} (hh : 111 ≤ h.length) {s : mS} {d : Nat} {Q : Option Value → zz_H → Prop} {x4 : Int32} {y0 : Int32} (k1 : y0 = 0 → zz_E zp_P zt_tf zt_fd X d zm_347 236 [(0, .ref 61), (4, .int x4)] [] (mH h s) Q) (k2 : ¬ y0 = 0 → zz_E zp_P zt_tf zt_fd X d zm_347 232 [(0, .ref 61), (4, .int x4)] [] (mH h s) Q) : zz_E zp_P zt_tf zt_fd X d zm_347 229 [(0, .ref 61), (4, .int x4)] [.int y0] (mH h s) Q := by
  refine zz_E.b1 236 232 (A := y0 = 0) rfl rfl (by decide) rfl rfl (fun c => ?_) (fun c => ?_)
  · exact zz_E.weak (k1 c) rfl ⟨rfl, rfl, trivial⟩
  · exact zz_E.weak (k2 c) rfl ⟨rfl, rfl, trivial⟩
theorem mb_347_232 {X : Nat → Option zz_C} {h : zz_H} (hh : 111 ≤ h.length) {s : mS} {d : Nat} {Q : Option Value → zz_H → Prop} {x4 : Int32} (k : zz_E zp_P zt_tf zt_fd X d zm_347 237 [(0, .ref 61), (4, .int x4)] [.int 1] (mH h s) Q) : zz_E zp_P zt_tf zt_fd X d zm_347 232 [(0, .ref 61), (4, .int x4)] [] (mH h s) Q := by
  refine zz_E.c 233 (.int 1) rfl rfl rfl rfl ?_
  refine zz_E.n 237 rfl rfl rfl ?_
  exact zz_E.weak k rfl ⟨rfl, rfl, trivial⟩
theorem mb_347_236 {X : Nat → Option zz_C} {h : zz_H} (hh : 111 ≤ h.length) {s : mS} {d : Nat} {Q : Option Value → zz_H → Prop} {x4 : Int32} (k : zz_E zp_P zt_tf zt_fd X d zm_347 237 [(0, .ref 61), (4, .int x4)] [.int 0] (mH h s) Q) : zz_E zp_P zt_tf zt_fd X d zm_347 236 [(0, .ref 61), (4, .int x4)] [] (mH h s) Q := by
  refine zz_E.c 237 (.int 0) rfl rfl rfl rfl ?_
  exact zz_E.weak k rfl ⟨rfl, rfl, trivial⟩
theorem mb_347_237 {X : Nat → Option zz_C} {h : zz_H} (hh : 111 ≤ h.length) {s : mS} {d : Nat} {Q : Option Value → zz_H → Prop} {x4 : Int32} {y0 : Int32} (k1 : y0 = 0 → zz_E zp_P zt_tf zt_fd X d zm_347 256 [] [.int 0, .ref 61] (mH h (mI s 51 x4)) Q) (k2 : ¬ y0 = 0 → zz_E zp_P zt_tf zt_fd X d zm_347 252 [] [.int 0, .ref 61] (mH h (mI s 51 x4)) Q) : zz_E zp_P zt_tf zt_fd X d zm_347 237 [(0, .ref 61), (4, .int x4)] [.int y0] (mH h s) Q := by
  refine zz_E.n 239 rfl rfl rfl ?_
  refine zz_E.n 240 rfl rfl rfl ?_
  refine zz_E.n 242 rfl rfl rfl ?_
  refine mE_p hh 245 rfl (by decide) rfl (mF_51 _ _) rfl ?_
  refine zz_E.n 246 rfl rfl rfl ?_
  refine zz_E.c 247 (.int 0) rfl rfl rfl rfl ?_
  refine zz_E.n 249 rfl rfl rfl ?_
  refine zz_E.b1 256 252 (A := y0 = 0) rfl rfl (by decide) rfl rfl (fun c => ?_) (fun c => ?_)
  · exact zz_E.weak (k1 c) rfl trivial
  · exact zz_E.weak (k2 c) rfl trivial
theorem mb_347_252 {X : Nat → Option zz_C} {h : zz_H} (hh : 111 ≤ h.length) {s : mS} {d : Nat} {Q : Option Value → zz_H → Prop} {y1 : Int32} (k : zz_E zp_P zt_tf zt_fd X d zm_347 257 [] [.int 1, .int y1, .ref 61] (mH h s) Q) : zz_E zp_P zt_tf zt_fd X d zm_347 252 [] [.int y1, .ref 61] (mH h s) Q := by
  refine zz_E.c 253 (.int 1) rfl rfl rfl rfl ?_
  refine zz_E.n 257 rfl rfl rfl ?_
  exact zz_E.weak k rfl trivial
theorem mb_347_256 {X : Nat → Option zz_C} {h : zz_H} (hh : 111 ≤ h.length) {s : mS} {d : Nat} {Q : Option Value → zz_H → Prop} {y1 : Int32} (k : zz_E zp_P zt_tf zt_fd X d zm_347 257 [] [.int 0, .int y1, .ref 61] (mH h s) Q) : zz_E zp_P zt_tf zt_fd X d zm_347 256 [] [.int y1, .ref 61] (mH h s) Q := by
  refine zz_E.c 257 (.int 0) rfl rfl rfl rfl ?_
  exact zz_E.weak k rfl trivial
theorem mb_347_257 {X : Nat → Option zz_C} {h : zz_H} (hh : 111 ≤ h.length) {s : mS} {d : Nat} {Q : Option Value → zz_H → Prop} {y1 : Int32} {y2 : Int32} (k : zz_E zp_P zt_tf zt_fd X d zm_291 0 [(0, .ref 61), (1, .int y1), (2, .int y2)] [] (mH h s) (fun v h' => zz_E zp_P zt_tf zt_fd X (d + 1) zm_347 260 [] (v.toList ++ []) h' Q)) : zz_E zp_P zt_tf zt_fd X (d + 1) zm_347 257 [] [.int y2, .int y1, .ref 61] (mH h s) Q := by
  refine mE_cv hh 260 (as := []) rfl rfl (Nat.le_of_ble_eq_true rfl) (Nat.le_of_ble_eq_true rfl) rfl (Nat.le_of_ble_eq_true rfl) rfl ?_
  refine zz_E.mono k ?_
  intro v h' hE
  exact zz_E.weak hE rfl trivial
theorem mb_347_260 {X : Nat → Option zz_C} {h : zz_H} (hh : 111 ≤ h.length) {s : mS} {d : Nat} {Q : Option Value → zz_H → Prop}  (k : Q none (mH h s)) : zz_E zp_P zt_tf zt_fd X d zm_347 260 [] [] (mH h s) Q := by
  refine zz_E.ret rfl rfl rfl ?_
  exact k
def mf_347_56 (N : Nat)  (s : mS) : mO := some (s, none)
theorem mr_347_56 {X : Nat → Option zz_C} {h : zz_H} (hh : 111 ≤ h.length) {d : Nat} {N : Nat} {Q : Option Value → zz_H → Prop}  {s s' : mS} {v : Option Value} (hf : mf_347_56 N  s = some (s', v)) (k : Q v (mH h s')) : zz_E zp_P zt_tf zt_fd X (d + 5) zm_347 56 [] [] (mH h s) Q := by
  unfold mf_347_56 at hf
  cases hf
  exact mb_347_56 hh  k
def mf_347_48 (N : Nat) (x2 : Int32) (x3 : Int32) (x4 : Int32) (s : mS) : mO := mo_bv (mf_337 N x2 x3 x4 s) (fun s1 => mf_347_56 N  s1)
theorem mr_347_48 {X : Nat → Option zz_C} {h : zz_H} (hh : 111 ≤ h.length) {d : Nat} {N : Nat} {Q : Option Value → zz_H → Prop} {x2 : Int32} {x3 : Int32} {x4 : Int32} {s s' : mS} {v : Option Value} (hf : mf_347_48 N x2 x3 x4 s = some (s', v)) (k : Q v (mH h s')) : zz_E zp_P zt_tf zt_fd X (d + 5) zm_347 48 [(0, .ref 61), (2, .int x2), (3, .int x3), (4, .int x4)] [] (mH h s) Q := by
  unfold mf_347_48 at hf
  obtain ⟨s1, e, hf⟩ := mo_bv_ok hf
  exact mb_347_48 (d := d + 4) hh  (mr_337 (d := d + 0) hh e (mr_347_56 hh hf k))
def mf_347_66 (N : Nat)  (s : mS) : mO := some (s, none)
theorem mr_347_66 {X : Nat → Option zz_C} {h : zz_H} (hh : 111 ≤ h.length) {d : Nat} {N : Nat} {Q : Option Value → zz_H → Prop}  {s s' : mS} {v : Option Value} (hf : mf_347_66 N  s = some (s', v)) (k : Q v (mH h s')) : zz_E zp_P zt_tf zt_fd X (d + 5) zm_347 66 [] [] (mH h s) Q := by
  unfold mf_347_66 at hf
  cases hf
  exact mb_347_66 hh  k
def mf_347_57 (N : Nat) (x1 : Int32) (x2 : Int32) (x3 : Int32) (x4 : Int32) (s : mS) : mO := mo_bv (mf_338 N x1 x2 x3 x4 s) (fun s1 => mf_347_66 N  s1)
theorem mr_347_57 {X : Nat → Option zz_C} {h : zz_H} (hh : 111 ≤ h.length) {d : Nat} {N : Nat} {Q : Option Value → zz_H → Prop} {x1 : Int32} {x2 : Int32} {x3 : Int32} {x4 : Int32} {s s' : mS} {v : Option Value} (hf : mf_347_57 N x1 x2 x3 x4 s = some (s', v)) (k : Q v (mH h s')) : zz_E zp_P zt_tf zt_fd X (d + 5) zm_347 57 [(0, .ref 61), (1, .int x1), (2, .int x2), (3, .int x3), (4, .int x4)] [] (mH h s) Q := by
  unfold mf_347_57 at hf
  obtain ⟨s1, e, hf⟩ := mo_bv_ok hf
  exact mb_347_57 (d := d + 4) hh  (mr_338 (d := d + 0) hh e (mr_347_66 hh hf k))
def mf_347_75 (N : Nat)  (s : mS) : mO := some (s, none)
theorem mr_347_75 {X : Nat → Option zz_C} {h : zz_H} (hh : 111 ≤ h.length) {d : Nat} {N : Nat} {Q : Option Value → zz_H → Prop}  {s s' : mS} {v : Option Value} (hf : mf_347_75 N  s = some (s', v)) (k : Q v (mH h s')) : zz_E zp_P zt_tf zt_fd X (d + 5) zm_347 75 [] [] (mH h s) Q := by
  unfold mf_347_75 at hf
  cases hf
  exact mb_347_75 hh  k
def mf_347_67 (N : Nat) (x2 : Int32) (x3 : Int32) (x4 : Int32) (s : mS) : mO := mo_bv (mf_339 N x2 x3 x4 s) (fun s1 => mf_347_75 N  s1)
theorem mr_347_67 {X : Nat → Option zz_C} {h : zz_H} (hh : 111 ≤ h.length) {d : Nat} {N : Nat} {Q : Option Value → zz_H → Prop} {x2 : Int32} {x3 : Int32} {x4 : Int32} {s s' : mS} {v : Option Value} (hf : mf_347_67 N x2 x3 x4 s = some (s', v)) (k : Q v (mH h s')) : zz_E zp_P zt_tf zt_fd X (d + 5) zm_347 67 [(0, .ref 61), (2, .int x2), (3, .int x3), (4, .int x4)] [] (mH h s) Q := by
  unfold mf_347_67 at hf
  obtain ⟨s1, e, hf⟩ := mo_bv_ok hf
  exact mb_347_67 (d := d + 4) hh  (mr_339 (d := d + 0) hh e (mr_347_75 hh hf k))
def mf_347_84 (N : Nat)  (s : mS) : mO := some (s, none)
theorem mr_347_84 {X : Nat → Option zz_C} {h : zz_H} (hh : 111 ≤ h.length) {d : Nat} {N : Nat} {Q : Option Value → zz_H → Prop}  {s s' : mS} {v : Option Value} (hf : mf_347_84 N  s = some (s', v)) (k : Q v (mH h s')) : zz_E zp_P zt_tf zt_fd X (d + 5) zm_347 84 [] [] (mH h s) Q := by
  unfold mf_347_84 at hf
  cases hf
  exact mb_347_84 hh  k
def mf_347_76 (N : Nat) (x2 : Int32) (x3 : Int32) (x4 : Int32) (s : mS) : mO := mo_bv (mf_340 N x2 x3 x4 s) (fun s1 => mf_347_84 N  s1)
theorem mr_347_76 {X : Nat → Option zz_C} {h : zz_H} (hh : 111 ≤ h.length) {d : Nat} {N : Nat} {Q : Option Value → zz_H → Prop} {x2 : Int32} {x3 : Int32} {x4 : Int32} {s s' : mS} {v : Option Value} (hf : mf_347_76 N x2 x3 x4 s = some (s', v)) (k : Q v (mH h s')) : zz_E zp_P zt_tf zt_fd X (d + 5) zm_347 76 [(0, .ref 61), (2, .int x2), (3, .int x3), (4, .int x4)] [] (mH h s) Q := by
  unfold mf_347_76 at hf
  obtain ⟨s1, e, hf⟩ := mo_bv_ok hf
  exact mb_347_76 (d := d + 4) hh  (mr_340 (d := d + 0) hh e (mr_347_84 hh hf k))
def mf_347_167 (N : Nat)  (s : mS) : mO := some (s, none)
theorem mr_347_167 {X : Nat → Option zz_C} {h : zz_H} (hh : 111 ≤ h.length) {d : Nat} {N : Nat} {Q : Option Value → zz_H → Prop}  {s s' : mS} {v : Option Value} (hf : mf_347_167 N  s = some (s', v)) (k : Q v (mH h s')) : zz_E zp_P zt_tf zt_fd X (d + 5) zm_347 167 [] [] (mH h s) Q := by
  unfold mf_347_167 at hf
  cases hf
  exact mb_347_167 hh  k
def mf_347_160 (N : Nat) (x4 : Int32) (s : mS) : mO := mo_bv (mf_305 N 1 x4 s) (fun s1 => mf_347_167 N  s1)
theorem mr_347_160 {X : Nat → Option zz_C} {h : zz_H} (hh : 111 ≤ h.length) {d : Nat} {N : Nat} {Q : Option Value → zz_H → Prop} {x4 : Int32} {s s' : mS} {v : Option Value} (hf : mf_347_160 N x4 s = some (s', v)) (k : Q v (mH h s')) : zz_E zp_P zt_tf zt_fd X (d + 5) zm_347 160 [(0, .ref 61), (4, .int x4)] [] (mH h s) Q := by
  unfold mf_347_160 at hf
  obtain ⟨s1, e, hf⟩ := mo_bv_ok hf
  exact mb_347_160 (d := d + 4) hh  (mr_305 (d := d + 1) hh e (mr_347_167 hh hf k))
def mf_347_154 (N : Nat) (rc : Nat → Int32 → Int32 → Int32 → Int32 → mS → mO) (x2 : Int32) (x3 : Int32) (x4 : Int32) (x6 : Int32) (s : mS) : mO := rc 0 x2 x3 x4 (x6 + 1) s
theorem mr_347_154 {X : Nat → Option zz_C} {h : zz_H} (hh : 111 ≤ h.length) {d : Nat} {N : Nat} {rc : Nat → Int32 → Int32 → Int32 → Int32 → mS → mO} (hrc0 : ∀ {Q : Option Value → zz_H → Prop} {x2 : Int32} {x3 : Int32} {x4 : Int32} {x6 : Int32} {s s' : mS} {v : Option Value}, rc 0 x2 x3 x4 x6 s = some (s', v) → Q v (mH h s') → zz_E zp_P zt_tf zt_fd X (d + 5) zm_347 123 [(0, .ref 61), (2, .int x2), (3, .int x3), (4, .int x4), (6, .int x6)] [] (mH h s) Q) {Q : Option Value → zz_H → Prop} {x2 : Int32} {x3 : Int32} {x4 : Int32} {x6 : Int32} {s s' : mS} {v : Option Value} (hf : mf_347_154 N rc x2 x3 x4 x6 s = some (s', v)) (k : Q v (mH h s')) : zz_E zp_P zt_tf zt_fd X (d + 5) zm_347 154 [(0, .ref 61), (2, .int x2), (3, .int x3), (4, .int x4), (6, .int x6)] [] (mH h s) Q := by
  unfold mf_347_154 at hf
  exact mb_347_154 hh  (hrc0 hf k)
def mf_347_151 (N : Nat) (rc : Nat → Int32 → Int32 → Int32 → Int32 → mS → mO) (x2 : Int32) (x3 : Int32) (x4 : Int32) (x6 : Int32) (y1 : Int32) (y2 : Int32) (s : mS) : mO := mo_bv (mf_291 N y1 y2 s) (fun s1 => mf_347_154 N rc x2 x3 x4 x6 s1)
theorem mr_347_151 {X : Nat → Option zz_C} {h : zz_H} (hh : 111 ≤ h.length) {d : Nat} {N : Nat} {rc : Nat → Int32 → Int32 → Int32 → Int32 → mS → mO} (hrc0 : ∀ {Q : Option Value → zz_H → Prop} {x2 : Int32} {x3 : Int32} {x4 : Int32} {x6 : Int32} {s s' : mS} {v : Option Value}, rc 0 x2 x3 x4 x6 s = some (s', v) → Q v (mH h s') → zz_E zp_P zt_tf zt_fd X (d + 5) zm_347 123 [(0, .ref 61), (2, .int x2), (3, .int x3), (4, .int x4), (6, .int x6)] [] (mH h s) Q) {Q : Option Value → zz_H → Prop} {x2 : Int32} {x3 : Int32} {x4 : Int32} {x6 : Int32} {y1 : Int32} {y2 : Int32} {s s' : mS} {v : Option Value} (hf : mf_347_151 N rc x2 x3 x4 x6 y1 y2 s = some (s', v)) (k : Q v (mH h s')) : zz_E zp_P zt_tf zt_fd X (d + 5) zm_347 151 [(0, .ref 61), (2, .int x2), (3, .int x3), (4, .int x4), (6, .int x6)] [.int y2, .int y1, .ref 61] (mH h s) Q := by
  unfold mf_347_151 at hf
  obtain ⟨s1, e, hf⟩ := mo_bv_ok hf
  exact mb_347_151 (d := d + 4) hh  (mr_291 (d := d + 4) hh e (mr_347_154 hh hrc0 hf k))
def mf_347_133 (N : Nat) (rc : Nat → Int32 → Int32 → Int32 → Int32 → mS → mO) (x2 : Int32) (x3 : Int32) (x4 : Int32) (x6 : Int32) (s : mS) : mO := if ¬ (((x3 + 2) + x6) < 0 ∨ 166300 ≤ Int32.toNatClampNeg ((x3 + 2) + x6)) then (mo_bi (mf_341 N x2 ((s.2.2.1 47) (Int32.toNatClampNeg ((x3 + 2) + x6))) s) (fun s1 y => mf_347_151 N rc x2 x3 x4 x6 0 y s1)) else none
theorem mr_347_133 {X : Nat → Option zz_C} {h : zz_H} (hh : 111 ≤ h.length) {d : Nat} {N : Nat} {rc : Nat → Int32 → Int32 → Int32 → Int32 → mS → mO} (hrc0 : ∀ {Q : Option Value → zz_H → Prop} {x2 : Int32} {x3 : Int32} {x4 : Int32} {x6 : Int32} {s s' : mS} {v : Option Value}, rc 0 x2 x3 x4 x6 s = some (s', v) → Q v (mH h s') → zz_E zp_P zt_tf zt_fd X (d + 5) zm_347 123 [(0, .ref 61), (2, .int x2), (3, .int x3), (4, .int x4), (6, .int x6)] [] (mH h s) Q) {Q : Option Value → zz_H → Prop} {x2 : Int32} {x3 : Int32} {x4 : Int32} {x6 : Int32} {s s' : mS} {v : Option Value} (hf : mf_347_133 N rc x2 x3 x4 x6 s = some (s', v)) (k : Q v (mH h s')) : zz_E zp_P zt_tf zt_fd X (d + 5) zm_347 133 [(0, .ref 61), (2, .int x2), (3, .int x3), (4, .int x4), (6, .int x6)] [] (mH h s) Q := by
  unfold mf_347_133 at hf
  obtain ⟨q0, hf⟩ := mo_if hf
  obtain ⟨s1, y, e, hf⟩ := mo_bi_ok hf
  exact mb_347_133 (d := d + 4) hh q0 (mr_341 (d := d + 3) hh e (mr_347_151 hh hrc0 hf k))
def mf_347_130 (N : Nat) (rc : Nat → Int32 → Int32 → Int32 → Int32 → mS → mO) (x2 : Int32) (x3 : Int32) (x4 : Int32) (x6 : Int32) (y0 : Int32) (y1 : Int32) (s : mS) : mO := if y1 ≤ y0 then mf_347_160 N x4 s else mf_347_133 N rc x2 x3 x4 x6 s
theorem mr_347_130 {X : Nat → Option zz_C} {h : zz_H} (hh : 111 ≤ h.length) {d : Nat} {N : Nat} {rc : Nat → Int32 → Int32 → Int32 → Int32 → mS → mO} (hrc0 : ∀ {Q : Option Value → zz_H → Prop} {x2 : Int32} {x3 : Int32} {x4 : Int32} {x6 : Int32} {s s' : mS} {v : Option Value}, rc 0 x2 x3 x4 x6 s = some (s', v) → Q v (mH h s') → zz_E zp_P zt_tf zt_fd X (d + 5) zm_347 123 [(0, .ref 61), (2, .int x2), (3, .int x3), (4, .int x4), (6, .int x6)] [] (mH h s) Q) {Q : Option Value → zz_H → Prop} {x2 : Int32} {x3 : Int32} {x4 : Int32} {x6 : Int32} {y0 : Int32} {y1 : Int32} {s s' : mS} {v : Option Value} (hf : mf_347_130 N rc x2 x3 x4 x6 y0 y1 s = some (s', v)) (k : Q v (mH h s')) : zz_E zp_P zt_tf zt_fd X (d + 5) zm_347 130 [(0, .ref 61), (2, .int x2), (3, .int x3), (4, .int x4), (6, .int x6)] [.int y1, .int y0] (mH h s) Q := by
  unfold mf_347_130 at hf
  refine mb_347_130 hh  (fun c => ?_) (fun c => ?_)
  · rw [if_pos c] at hf
    exact mr_347_160 hh hf k
  · rw [if_neg c] at hf
    exact mr_347_133 hh hrc0 hf k
def mf_347_123 (N : Nat) (rc : Nat → Int32 → Int32 → Int32 → Int32 → mS → mO) (x2 : Int32) (x3 : Int32) (x4 : Int32) (x6 : Int32) (s : mS) : mO := mo_bi (mf_77 N x3 s) (fun s1 y => mf_347_130 N rc x2 x3 x4 x6 x6 y s1)
theorem mr_347_123 {X : Nat → Option zz_C} {h : zz_H} (hh : 111 ≤ h.length) {d : Nat} {N : Nat} {rc : Nat → Int32 → Int32 → Int32 → Int32 → mS → mO} (hrc0 : ∀ {Q : Option Value → zz_H → Prop} {x2 : Int32} {x3 : Int32} {x4 : Int32} {x6 : Int32} {s s' : mS} {v : Option Value}, rc 0 x2 x3 x4 x6 s = some (s', v) → Q v (mH h s') → zz_E zp_P zt_tf zt_fd X (d + 5) zm_347 123 [(0, .ref 61), (2, .int x2), (3, .int x3), (4, .int x4), (6, .int x6)] [] (mH h s) Q) {Q : Option Value → zz_H → Prop} {x2 : Int32} {x3 : Int32} {x4 : Int32} {x6 : Int32} {s s' : mS} {v : Option Value} (hf : mf_347_123 N rc x2 x3 x4 x6 s = some (s', v)) (k : Q v (mH h s')) : zz_E zp_P zt_tf zt_fd X (d + 5) zm_347 123 [(0, .ref 61), (2, .int x2), (3, .int x3), (4, .int x4), (6, .int x6)] [] (mH h s) Q := by
  unfold mf_347_123 at hf
  obtain ⟨s1, y, e, hf⟩ := mo_bi_ok hf
  exact mb_347_123 (d := d + 4) hh  (mr_77 (d := d + 4) hh e (mr_347_130 hh hrc0 hf k))
def mf_347_L10 (N : Nat) : Nat → Nat → Int32 → Int32 → Int32 → Int32 → mS → mO
  | 0, _, _, _, _, _, _ => none
  | n + 1, l, x2, x3, x4, x6, s => if l = 0 then mf_347_123 N (mf_347_L10 N n) x2 x3 x4 x6 s else none
theorem mr_347_L10 {X : Nat → Option zz_C} {h : zz_H} (hh : 111 ≤ h.length) {d : Nat} {N : Nat} : ∀ n : Nat, (∀ {Q : Option Value → zz_H → Prop} {x2 : Int32} {x3 : Int32} {x4 : Int32} {x6 : Int32} {s s' : mS} {v : Option Value}, mf_347_L10 N n 0 x2 x3 x4 x6 s = some (s', v) → Q v (mH h s') → zz_E zp_P zt_tf zt_fd X (d + 5) zm_347 123 [(0, .ref 61), (2, .int x2), (3, .int x3), (4, .int x4), (6, .int x6)] [] (mH h s) Q) := by
  intro n
  induction n with
  | zero => exact (fun hf _ => by cases hf)
  | succ n ih =>
    have h0 := @ih
    intro Q _ _ _ _ s s' v hf k
    unfold mf_347_L10 at hf
    rw [if_pos rfl] at hf
    exact mr_347_123 hh h0 hf k
def mf_347_120 (N : Nat) (x2 : Int32) (x3 : Int32) (x4 : Int32) (s : mS) : mO := mf_347_L10 N N 0 x2 x3 x4 0 s
theorem mr_347_120 {X : Nat → Option zz_C} {h : zz_H} (hh : 111 ≤ h.length) {d : Nat} {N : Nat} {Q : Option Value → zz_H → Prop} {x2 : Int32} {x3 : Int32} {x4 : Int32} {s s' : mS} {v : Option Value} (hf : mf_347_120 N x2 x3 x4 s = some (s', v)) (k : Q v (mH h s')) : zz_E zp_P zt_tf zt_fd X (d + 5) zm_347 120 [(0, .ref 61), (2, .int x2), (3, .int x3), (4, .int x4)] [] (mH h s) Q := by
  unfold mf_347_120 at hf
  exact mb_347_120 hh  (mr_347_L10 hh N hf k)
def mf_347_117 (N : Nat)  (s : mS) : mO := mf_347_167 N  s
theorem mr_347_117 {X : Nat → Option zz_C} {h : zz_H} (hh : 111 ≤ h.length) {d : Nat} {N : Nat} {Q : Option Value → zz_H → Prop}  {s s' : mS} {v : Option Value} (hf : mf_347_117 N  s = some (s', v)) (k : Q v (mH h s')) : zz_E zp_P zt_tf zt_fd X (d + 5) zm_347 117 [] [] (mH h s) Q := by
  unfold mf_347_117 at hf
  exact mb_347_117 hh  (mr_347_167 hh hf k)
def mf_347_114 (N : Nat) (y1 : Int32) (y2 : Int32) (s : mS) : mO := mo_bv (mf_291 N y1 y2 s) (fun s1 => mf_347_117 N  s1)
theorem mr_347_114 {X : Nat → Option zz_C} {h : zz_H} (hh : 111 ≤ h.length) {d : Nat} {N : Nat} {Q : Option Value → zz_H → Prop} {y1 : Int32} {y2 : Int32} {s s' : mS} {v : Option Value} (hf : mf_347_114 N y1 y2 s = some (s', v)) (k : Q v (mH h s')) : zz_E zp_P zt_tf zt_fd X (d + 5) zm_347 114 [] [.int y2, .int y1, .ref 61] (mH h s) Q := by
  unfold mf_347_114 at hf
  obtain ⟨s1, e, hf⟩ := mo_bv_ok hf
  exact mb_347_114 (d := d + 4) hh  (mr_291 (d := d + 4) hh e (mr_347_117 hh hf k))
def mf_347_106 (N : Nat) (x2 : Int32) (x3 : Int32) (s : mS) : mO := mo_bi (mf_341 N x2 x3 s) (fun s1 y => mf_347_114 N 0 y s1)
theorem mr_347_106 {X : Nat → Option zz_C} {h : zz_H} (hh : 111 ≤ h.length) {d : Nat} {N : Nat} {Q : Option Value → zz_H → Prop} {x2 : Int32} {x3 : Int32} {s s' : mS} {v : Option Value} (hf : mf_347_106 N x2 x3 s = some (s', v)) (k : Q v (mH h s')) : zz_E zp_P zt_tf zt_fd X (d + 5) zm_347 106 [(0, .ref 61), (2, .int x2), (3, .int x3)] [] (mH h s) Q := by
  unfold mf_347_106 at hf
  obtain ⟨s1, y, e, hf⟩ := mo_bi_ok hf
  exact mb_347_106 (d := d + 4) hh  (mr_341 (d := d + 3) hh e (mr_347_114 hh hf k))
def mf_347_93 (N : Nat) (x2 : Int32) (x3 : Int32) (x4 : Int32) (y0 : Int32) (s : mS) : mO := if ¬ y0 = 0 then mf_347_120 N x2 x3 x4 (mI s 51 x4) else mf_347_106 N x2 x3 (mI s 51 x4)
theorem mr_347_93 {X : Nat → Option zz_C} {h : zz_H} (hh : 111 ≤ h.length) {d : Nat} {N : Nat} {Q : Option Value → zz_H → Prop} {x2 : Int32} {x3 : Int32} {x4 : Int32} {y0 : Int32} {s s' : mS} {v : Option Value} (hf : mf_347_93 N x2 x3 x4 y0 s = some (s', v)) (k : Q v (mH h s')) : zz_E zp_P zt_tf zt_fd X (d + 5) zm_347 93 [(0, .ref 61), (2, .int x2), (3, .int x3), (4, .int x4)] [.int y0] (mH h s) Q := by
  unfold mf_347_93 at hf
  refine mb_347_93 hh  (fun c => ?_) (fun c => ?_)
  · rw [if_pos c] at hf
    exact mr_347_120 hh hf k
  · rw [if_neg c] at hf
    exact mr_347_106 hh hf k
def mf_347_85 (N : Nat) (x2 : Int32) (x3 : Int32) (x4 : Int32) (s : mS) : mO := mo_bi (mf_292 N (x4 + 1) s) (fun s1 y => mf_347_93 N x2 x3 x4 y s1)
theorem mr_347_85 {X : Nat → Option zz_C} {h : zz_H} (hh : 111 ≤ h.length) {d : Nat} {N : Nat} {Q : Option Value → zz_H → Prop} {x2 : Int32} {x3 : Int32} {x4 : Int32} {s s' : mS} {v : Option Value} (hf : mf_347_85 N x2 x3 x4 s = some (s', v)) (k : Q v (mH h s')) : zz_E zp_P zt_tf zt_fd X (d + 5) zm_347 85 [(0, .ref 61), (2, .int x2), (3, .int x3), (4, .int x4)] [] (mH h s) Q := by
  unfold mf_347_85 at hf
  obtain ⟨s1, y, e, hf⟩ := mo_bi_ok hf
  exact mb_347_85 (d := d + 4) hh  (mr_292 (d := d + 4) hh e (mr_347_93 hh hf k))
def mf_347_176 (N : Nat)  (s : mS) : mO := some (s, none)
theorem mr_347_176 {X : Nat → Option zz_C} {h : zz_H} (hh : 111 ≤ h.length) {d : Nat} {N : Nat} {Q : Option Value → zz_H → Prop}  {s s' : mS} {v : Option Value} (hf : mf_347_176 N  s = some (s', v)) (k : Q v (mH h s')) : zz_E zp_P zt_tf zt_fd X (d + 5) zm_347 176 [] [] (mH h s) Q := by
  unfold mf_347_176 at hf
  cases hf
  exact mb_347_176 hh  k
def mf_347_168 (N : Nat) (x2 : Int32) (x3 : Int32) (x4 : Int32) (s : mS) : mO := mo_bv (mf_342 N x2 x3 x4 s) (fun s1 => mf_347_176 N  s1)
theorem mr_347_168 {X : Nat → Option zz_C} {h : zz_H} (hh : 111 ≤ h.length) {d : Nat} {N : Nat} {Q : Option Value → zz_H → Prop} {x2 : Int32} {x3 : Int32} {x4 : Int32} {s s' : mS} {v : Option Value} (hf : mf_347_168 N x2 x3 x4 s = some (s', v)) (k : Q v (mH h s')) : zz_E zp_P zt_tf zt_fd X (d + 5) zm_347 168 [(0, .ref 61), (2, .int x2), (3, .int x3), (4, .int x4)] [] (mH h s) Q := by
  unfold mf_347_168 at hf
  obtain ⟨s1, e, hf⟩ := mo_bv_ok hf
  exact mb_347_168 (d := d + 4) hh  (mr_342 (d := d + 0) hh e (mr_347_176 hh hf k))
def mf_347_185 (N : Nat)  (s : mS) : mO := some (s, none)
theorem mr_347_185 {X : Nat → Option zz_C} {h : zz_H} (hh : 111 ≤ h.length) {d : Nat} {N : Nat} {Q : Option Value → zz_H → Prop}  {s s' : mS} {v : Option Value} (hf : mf_347_185 N  s = some (s', v)) (k : Q v (mH h s')) : zz_E zp_P zt_tf zt_fd X (d + 5) zm_347 185 [] [] (mH h s) Q := by
  unfold mf_347_185 at hf
  cases hf
  exact mb_347_185 hh  k
def mf_347_177 (N : Nat) (x2 : Int32) (x3 : Int32) (x4 : Int32) (s : mS) : mO := mo_bv (mf_343 N x2 x3 x4 s) (fun s1 => mf_347_185 N  s1)
theorem mr_347_177 {X : Nat → Option zz_C} {h : zz_H} (hh : 111 ≤ h.length) {d : Nat} {N : Nat} {Q : Option Value → zz_H → Prop} {x2 : Int32} {x3 : Int32} {x4 : Int32} {s s' : mS} {v : Option Value} (hf : mf_347_177 N x2 x3 x4 s = some (s', v)) (k : Q v (mH h s')) : zz_E zp_P zt_tf zt_fd X (d + 5) zm_347 177 [(0, .ref 61), (2, .int x2), (3, .int x3), (4, .int x4)] [] (mH h s) Q := by
  unfold mf_347_177 at hf
  obtain ⟨s1, e, hf⟩ := mo_bv_ok hf
  exact mb_347_177 (d := d + 4) hh  (mr_343 (d := d + 0) hh e (mr_347_185 hh hf k))
def mf_347_260 (N : Nat)  (s : mS) : mO := some (s, none)
theorem mr_347_260 {X : Nat → Option zz_C} {h : zz_H} (hh : 111 ≤ h.length) {d : Nat} {N : Nat} {Q : Option Value → zz_H → Prop}  {s s' : mS} {v : Option Value} (hf : mf_347_260 N  s = some (s', v)) (k : Q v (mH h s')) : zz_E zp_P zt_tf zt_fd X (d + 5) zm_347 260 [] [] (mH h s) Q := by
  unfold mf_347_260 at hf
  cases hf
  exact mb_347_260 hh  k
def mf_347_257 (N : Nat) (y1 : Int32) (y2 : Int32) (s : mS) : mO := mo_bv (mf_291 N y1 y2 s) (fun s1 => mf_347_260 N  s1)
theorem mr_347_257 {X : Nat → Option zz_C} {h : zz_H} (hh : 111 ≤ h.length) {d : Nat} {N : Nat} {Q : Option Value → zz_H → Prop} {y1 : Int32} {y2 : Int32} {s s' : mS} {v : Option Value} (hf : mf_347_257 N y1 y2 s = some (s', v)) (k : Q v (mH h s')) : zz_E zp_P zt_tf zt_fd X (d + 5) zm_347 257 [] [.int y2, .int y1, .ref 61] (mH h s) Q := by
  unfold mf_347_257 at hf
  obtain ⟨s1, e, hf⟩ := mo_bv_ok hf
  exact mb_347_257 (d := d + 4) hh  (mr_291 (d := d + 4) hh e (mr_347_260 hh hf k))
def mf_347_256 (N : Nat) (y1 : Int32) (s : mS) : mO := mf_347_257 N y1 0 s
theorem mr_347_256 {X : Nat → Option zz_C} {h : zz_H} (hh : 111 ≤ h.length) {d : Nat} {N : Nat} {Q : Option Value → zz_H → Prop} {y1 : Int32} {s s' : mS} {v : Option Value} (hf : mf_347_256 N y1 s = some (s', v)) (k : Q v (mH h s')) : zz_E zp_P zt_tf zt_fd X (d + 5) zm_347 256 [] [.int y1, .ref 61] (mH h s) Q := by
  unfold mf_347_256 at hf
  exact mb_347_256 hh  (mr_347_257 hh hf k)
def mf_347_252 (N : Nat) (y1 : Int32) (s : mS) : mO := mf_347_257 N y1 1 s
theorem mr_347_252 {X : Nat → Option zz_C} {h : zz_H} (hh : 111 ≤ h.length) {d : Nat} {N : Nat} {Q : Option Value → zz_H → Prop} {y1 : Int32} {s s' : mS} {v : Option Value} (hf : mf_347_252 N y1 s = some (s', v)) (k : Q v (mH h s')) : zz_E zp_P zt_tf zt_fd X (d + 5) zm_347 252 [] [.int y1, .ref 61] (mH h s) Q := by
  unfold mf_347_252 at hf
  exact mb_347_252 hh  (mr_347_257 hh hf k)
def mf_347_237 (N : Nat) (x4 : Int32) (y0 : Int32) (s : mS) : mO := if y0 = 0 then mf_347_256 N 0 (mI s 51 x4) else mf_347_252 N 0 (mI s 51 x4)
theorem mr_347_237 {X : Nat → Option zz_C} {h : zz_H} (hh : 111 ≤ h.length) {d : Nat} {N : Nat} {Q : Option Value → zz_H → Prop} {x4 : Int32} {y0 : Int32} {s s' : mS} {v : Option Value} (hf : mf_347_237 N x4 y0 s = some (s', v)) (k : Q v (mH h s')) : zz_E zp_P zt_tf zt_fd X (d + 5) zm_347 237 [(0, .ref 61), (4, .int x4)] [.int y0] (mH h s) Q := by
  unfold mf_347_237 at hf
  refine mb_347_237 hh  (fun c => ?_) (fun c => ?_)
  · rw [if_pos c] at hf
    exact mr_347_256 hh hf k
  · rw [if_neg c] at hf
    exact mr_347_252 hh hf k
def mf_347_236 (N : Nat) (x4 : Int32) (s : mS) : mO := mf_347_237 N x4 0 s
theorem mr_347_236 {X : Nat → Option zz_C} {h : zz_H} (hh : 111 ≤ h.length) {d : Nat} {N : Nat} {Q : Option Value → zz_H → Prop} {x4 : Int32} {s s' : mS} {v : Option Value} (hf : mf_347_236 N x4 s = some (s', v)) (k : Q v (mH h s')) : zz_E zp_P zt_tf zt_fd X (d + 5) zm_347 236 [(0, .ref 61), (4, .int x4)] [] (mH h s) Q := by
  unfold mf_347_236 at hf
  exact mb_347_236 hh  (mr_347_237 hh hf k)
def mf_347_232 (N : Nat) (x4 : Int32) (s : mS) : mO := mf_347_237 N x4 1 s
theorem mr_347_232 {X : Nat → Option zz_C} {h : zz_H} (hh : 111 ≤ h.length) {d : Nat} {N : Nat} {Q : Option Value → zz_H → Prop} {x4 : Int32} {s s' : mS} {v : Option Value} (hf : mf_347_232 N x4 s = some (s', v)) (k : Q v (mH h s')) : zz_E zp_P zt_tf zt_fd X (d + 5) zm_347 232 [(0, .ref 61), (4, .int x4)] [] (mH h s) Q := by
  unfold mf_347_232 at hf
  exact mb_347_232 hh  (mr_347_237 hh hf k)
def mf_347_229 (N : Nat) (x4 : Int32) (y0 : Int32) (s : mS) : mO := if y0 = 0 then mf_347_236 N x4 s else mf_347_232 N x4 s
theorem mr_347_229 {X : Nat → Option zz_C} {h : zz_H} (hh : 111 ≤ h.length) {d : Nat} {N : Nat} {Q : Option Value → zz_H → Prop} {x4 : Int32} {y0 : Int32} {s s' : mS} {v : Option Value} (hf : mf_347_229 N x4 y0 s = some (s', v)) (k : Q v (mH h s')) : zz_E zp_P zt_tf zt_fd X (d + 5) zm_347 229 [(0, .ref 61), (4, .int x4)] [.int y0] (mH h s) Q := by
  unfold mf_347_229 at hf
  refine mb_347_229 hh  (fun c => ?_) (fun c => ?_)
  · rw [if_pos c] at hf
    exact mr_347_236 hh hf k
  · rw [if_neg c] at hf
    exact mr_347_232 hh hf k
def mf_347_223 (N : Nat) (x2 : Int32) (x3 : Int32) (x4 : Int32) (s : mS) : mO := mo_bi (mf_346 N x2 x3 s) (fun s1 y => mf_347_229 N x4 y s1)
theorem mr_347_223 {X : Nat → Option zz_C} {h : zz_H} (hh : 111 ≤ h.length) {d : Nat} {N : Nat} {Q : Option Value → zz_H → Prop} {x2 : Int32} {x3 : Int32} {x4 : Int32} {s s' : mS} {v : Option Value} (hf : mf_347_223 N x2 x3 x4 s = some (s', v)) (k : Q v (mH h s')) : zz_E zp_P zt_tf zt_fd X (d + 5) zm_347 223 [(0, .ref 61), (2, .int x2), (3, .int x3), (4, .int x4)] [] (mH h s) Q := by
  unfold mf_347_223 at hf
  obtain ⟨s1, y, e, hf⟩ := mo_bi_ok hf
  exact mb_347_223 (d := d + 4) hh  (mr_346 (d := d + 1) hh e (mr_347_229 hh hf k))
def mf_347_220 (N : Nat) (x4 : Int32) (s : mS) : mO := mf_347_232 N x4 s
theorem mr_347_220 {X : Nat → Option zz_C} {h : zz_H} (hh : 111 ≤ h.length) {d : Nat} {N : Nat} {Q : Option Value → zz_H → Prop} {x4 : Int32} {s s' : mS} {v : Option Value} (hf : mf_347_220 N x4 s = some (s', v)) (k : Q v (mH h s')) : zz_E zp_P zt_tf zt_fd X (d + 5) zm_347 220 [(0, .ref 61), (4, .int x4)] [] (mH h s) Q := by
  unfold mf_347_220 at hf
  exact mb_347_220 hh  (mr_347_232 hh hf k)
def mf_347_215 (N : Nat) (x2 : Int32) (x3 : Int32) (x4 : Int32) (s : mS) : mO := if ¬ x2 = x3 then mf_347_236 N x4 s else mf_347_220 N x4 s
theorem mr_347_215 {X : Nat → Option zz_C} {h : zz_H} (hh : 111 ≤ h.length) {d : Nat} {N : Nat} {Q : Option Value → zz_H → Prop} {x2 : Int32} {x3 : Int32} {x4 : Int32} {s s' : mS} {v : Option Value} (hf : mf_347_215 N x2 x3 x4 s = some (s', v)) (k : Q v (mH h s')) : zz_E zp_P zt_tf zt_fd X (d + 5) zm_347 215 [(0, .ref 61), (2, .int x2), (3, .int x3), (4, .int x4)] [] (mH h s) Q := by
  unfold mf_347_215 at hf
  refine mb_347_215 hh  (fun c => ?_) (fun c => ?_)
  · rw [if_pos c] at hf
    exact mr_347_236 hh hf k
  · rw [if_neg c] at hf
    exact mr_347_220 hh hf k
def mf_347_205 (N : Nat) (x2 : Int32) (x3 : Int32) (x4 : Int32) (s : mS) : mO := if ¬ (x4 < 0 ∨ 9000 ≤ Int32.toNatClampNeg x4) then (if ¬ ((s.2.2.1 49) (Int32.toNatClampNeg x4)) = 0 then mf_347_223 N x2 x3 x4 s else mf_347_215 N x2 x3 x4 s) else none
theorem mr_347_205 {X : Nat → Option zz_C} {h : zz_H} (hh : 111 ≤ h.length) {d : Nat} {N : Nat} {Q : Option Value → zz_H → Prop} {x2 : Int32} {x3 : Int32} {x4 : Int32} {s s' : mS} {v : Option Value} (hf : mf_347_205 N x2 x3 x4 s = some (s', v)) (k : Q v (mH h s')) : zz_E zp_P zt_tf zt_fd X (d + 5) zm_347 205 [(0, .ref 61), (2, .int x2), (3, .int x3), (4, .int x4)] [] (mH h s) Q := by
  unfold mf_347_205 at hf
  obtain ⟨q0, hf⟩ := mo_if hf
  refine mb_347_205 hh q0 (fun c => ?_) (fun c => ?_)
  · rw [if_pos c] at hf
    exact mr_347_223 hh hf k
  · rw [if_neg c] at hf
    exact mr_347_215 hh hf k
def mf_347_186 (N : Nat) (x2 : Int32) (x3 : Int32) (x4 : Int32) (s : mS) : mO := if ¬ (x4 < 0 ∨ 9000 ≤ Int32.toNatClampNeg x4) then (if ¬ ((x4 + 1) < 0 ∨ 9000 ≤ Int32.toNatClampNeg (x4 + 1)) then (if ¬ ((s.2.2.1 49) (Int32.toNatClampNeg x4)) = ((s.2.2.1 49) (Int32.toNatClampNeg (x4 + 1))) then mf_347_236 N x4 s else mf_347_205 N x2 x3 x4 s) else none) else none
theorem mr_347_186 {X : Nat → Option zz_C} {h : zz_H} (hh : 111 ≤ h.length) {d : Nat} {N : Nat} {Q : Option Value → zz_H → Prop} {x2 : Int32} {x3 : Int32} {x4 : Int32} {s s' : mS} {v : Option Value} (hf : mf_347_186 N x2 x3 x4 s = some (s', v)) (k : Q v (mH h s')) : zz_E zp_P zt_tf zt_fd X (d + 5) zm_347 186 [(0, .ref 61), (2, .int x2), (3, .int x3), (4, .int x4)] [] (mH h s) Q := by
  unfold mf_347_186 at hf
  obtain ⟨q0, hf⟩ := mo_if hf
  obtain ⟨q1, hf⟩ := mo_if hf
  refine mb_347_186 hh q0 q1 (fun c => ?_) (fun c => ?_)
  · rw [if_pos c] at hf
    exact mr_347_236 hh hf k
  · rw [if_neg c] at hf
    exact mr_347_205 hh hf k
def mf_347_0 (N : Nat) (x1 : Int32) (x2 : Int32) (x3 : Int32) (x4 : Int32) (s : mS) : mO := if (Int32.toInt x1 < 19 ∨ 26 < Int32.toInt x1) then mf_347_186 N x2 x3 x4 s else if x1 = 19 then mf_347_48 N x2 x3 x4 s else if x1 = 20 then mf_347_57 N x1 x2 x3 x4 s else if x1 = 21 then mf_347_57 N x1 x2 x3 x4 s else if x1 = 22 then mf_347_67 N x2 x3 x4 s else if x1 = 23 then mf_347_76 N x2 x3 x4 s else if x1 = 24 then mf_347_85 N x2 x3 x4 s else if x1 = 25 then mf_347_168 N x2 x3 x4 s else if x1 = 26 then mf_347_177 N x2 x3 x4 s else none
theorem mr_347_0 {X : Nat → Option zz_C} {h : zz_H} (hh : 111 ≤ h.length) {d : Nat} {N : Nat} {Q : Option Value → zz_H → Prop} {x1 : Int32} {x2 : Int32} {x3 : Int32} {x4 : Int32} {s s' : mS} {v : Option Value} (hf : mf_347_0 N x1 x2 x3 x4 s = some (s', v)) (k : Q v (mH h s')) : zz_E zp_P zt_tf zt_fd X (d + 5) zm_347 0 [(0, .ref 61), (1, .int x1), (2, .int x2), (3, .int x3), (4, .int x4)] [] (mH h s) Q := by
  unfold mf_347_0 at hf
  refine mb_347_0 hh  (fun c => ?_) (fun c => ?_) (fun c => ?_) (fun c => ?_) (fun c => ?_) (fun c => ?_) (fun c => ?_) (fun c => ?_) (fun c => ?_)
  · rw [if_neg (by rw [c]; decide)] at hf
    rw [if_pos c] at hf
    exact mr_347_48 hh hf k
  · rw [if_neg (by rw [c]; decide)] at hf
    rw [if_neg (by rw [c]; decide)] at hf
    rw [if_pos c] at hf
    exact mr_347_57 hh hf k
  · rw [if_neg (by rw [c]; decide)] at hf
    rw [if_neg (by rw [c]; decide)] at hf
    rw [if_neg (by rw [c]; decide)] at hf
    rw [if_pos c] at hf
    exact mr_347_57 hh hf k
  · rw [if_neg (by rw [c]; decide)] at hf
    rw [if_neg (by rw [c]; decide)] at hf
    rw [if_neg (by rw [c]; decide)] at hf
    rw [if_neg (by rw [c]; decide)] at hf
    rw [if_pos c] at hf
    exact mr_347_67 hh hf k
  · rw [if_neg (by rw [c]; decide)] at hf
    rw [if_neg (by rw [c]; decide)] at hf
    rw [if_neg (by rw [c]; decide)] at hf
    rw [if_neg (by rw [c]; decide)] at hf
    rw [if_neg (by rw [c]; decide)] at hf
    rw [if_pos c] at hf
    exact mr_347_76 hh hf k
  · rw [if_neg (by rw [c]; decide)] at hf
    rw [if_neg (by rw [c]; decide)] at hf
    rw [if_neg (by rw [c]; decide)] at hf
    rw [if_neg (by rw [c]; decide)] at hf
    rw [if_neg (by rw [c]; decide)] at hf
    rw [if_neg (by rw [c]; decide)] at hf
    rw [if_pos c] at hf
    exact mr_347_85 hh hf k
  · rw [if_neg (by rw [c]; decide)] at hf
    rw [if_neg (by rw [c]; decide)] at hf
    rw [if_neg (by rw [c]; decide)] at hf
    rw [if_neg (by rw [c]; decide)] at hf
    rw [if_neg (by rw [c]; decide)] at hf
    rw [if_neg (by rw [c]; decide)] at hf
    rw [if_neg (by rw [c]; decide)] at hf
    rw [if_pos c] at hf
    exact mr_347_168 hh hf k
  · rw [if_neg (by rw [c]; decide)] at hf
    rw [if_neg (by rw [c]; decide)] at hf
    rw [if_neg (by rw [c]; decide)] at hf
    rw [if_neg (by rw [c]; decide)] at hf
    rw [if_neg (by rw [c]; decide)] at hf
    rw [if_neg (by rw [c]; decide)] at hf
    rw [if_neg (by rw [c]; decide)] at hf
    rw [if_neg (by rw [c]; decide)] at hf
    rw [if_pos c] at hf
    exact mr_347_177 hh hf k
  · rw [if_pos c] at hf
    exact mr_347_186 hh hf k
/-- ofTwo -/
def mf_347 (N : Nat) (x1 : Int32) (x2 : Int32) (x3 : Int32) (x4 : Int32) (s : mS) : mO := mf_347_0 N x1 x2 x3 x4 s
theorem mr_347 {X : Nat → Option zz_C} {h : zz_H} (hh : 111 ≤ h.length) {d : Nat} {N : Nat} {Q : Option Value → zz_H → Prop} {x1 : Int32} {x2 : Int32} {x3 : Int32} {x4 : Int32} {s s' : mS} {v : Option Value} (hf : mf_347 N x1 x2 x3 x4 s = some (s', v)) (k : Q v (mH h s')) : zz_E zp_P zt_tf zt_fd X (d + 5) zm_347 0 [(0, .ref 61), (1, .int x1), (2, .int x2), (3, .int x3), (4, .int x4)] [] (mH h s) Q := by
  unfold mf_347 at hf
  exact zz_E.weak (mr_347_0 hh hf k) rfl ⟨rfl, rfl, rfl, rfl, rfl, trivial⟩
/-! builtIn (II)V -/
theorem mb_328_0 {X : Nat → Option zz_C} {h : zz_H} (hh : 111 ≤ h.length) {s : mS} {d : Nat} {Q : Option Value → zz_H → Prop} {x1 : Int32} {x2 : Int32} (k : zz_E zp_P zt_tf zt_fd X d zm_328 5 [(0, .ref 61), (1, .int x1), (2, .int x2), (3, .int 1), (4, .int x2)] [] (mH h s) Q) : zz_E zp_P zt_tf zt_fd X d zm_328 0 [(0, .ref 61), (1, .int x1), (2, .int x2)] [] (mH h s) Q := by
  refine zz_E.c 1 (.int 1) rfl rfl rfl rfl ?_
  refine zz_E.n 2 rfl rfl rfl ?_
  refine zz_E.n 3 rfl rfl rfl ?_
  refine zz_E.n 5 rfl rfl rfl ?_
  exact zz_E.weak k rfl ⟨rfl, rfl, rfl, rfl, rfl, trivial⟩
theorem mb_328_5 {X : Nat → Option zz_C} {h : zz_H} (hh : 111 ≤ h.length) {s : mS} {d : Nat} {Q : Option Value → zz_H → Prop} {x1 : Int32} {x2 : Int32} {x3 : Int32} {x4 : Int32} (k1 : (s.1 51) ≤ x4 → zz_E zp_P zt_tf zt_fd X d zm_328 52 [(0, .ref 61), (1, .int x1), (2, .int x2), (3, .int x3)] [] (mH h s) Q) (k2 : ¬ (s.1 51) ≤ x4 → zz_E zp_P zt_tf zt_fd X d zm_328 14 [(0, .ref 61), (1, .int x1), (2, .int x2), (3, .int x3), (4, .int x4)] [] (mH h s) Q) : zz_E zp_P zt_tf zt_fd X d zm_328 5 [(0, .ref 61), (1, .int x1), (2, .int x2), (3, .int x3), (4, .int x4)] [] (mH h s) Q := by
  refine zz_E.n 7 rfl rfl rfl ?_
  refine zz_E.n 8 rfl rfl rfl ?_
  refine mE_g hh 11 (v := .int (s.1 51)) rfl rfl rfl ?_
  refine zz_E.b2 52 14 (A := (s.1 51) ≤ x4) rfl rfl (by decide) rfl rfl (fun c => ?_) (fun c => ?_)
  · exact zz_E.weak (k1 c) rfl ⟨rfl, rfl, rfl, rfl, trivial⟩
  · exact zz_E.weak (k2 c) rfl ⟨rfl, rfl, rfl, rfl, rfl, trivial⟩
theorem mb_328_14 {X : Nat → Option zz_C} {h : zz_H} (hh : 111 ≤ h.length) {s : mS} {d : Nat} {Q : Option Value → zz_H → Prop} {x1 : Int32} {x2 : Int32} {x3 : Int32} {x4 : Int32} (k1 : x3 = 0 → zz_E zp_P zt_tf zt_fd X d zm_328 44 [(0, .ref 61), (1, .int x1), (2, .int x2), (4, .int x4)] [] (mH h s) Q) (k2 : ¬ x3 = 0 → zz_E zp_P zt_tf zt_fd X d zm_328 18 [(0, .ref 61), (1, .int x1), (2, .int x2), (4, .int x4)] [] (mH h s) Q) : zz_E zp_P zt_tf zt_fd X d zm_328 14 [(0, .ref 61), (1, .int x1), (2, .int x2), (3, .int x3), (4, .int x4)] [] (mH h s) Q := by
  refine zz_E.n 15 rfl rfl rfl ?_
  refine zz_E.b1 44 18 (A := x3 = 0) rfl rfl (by decide) rfl rfl (fun c => ?_) (fun c => ?_)
  · exact zz_E.weak (k1 c) rfl ⟨rfl, rfl, rfl, rfl, trivial⟩
  · exact zz_E.weak (k2 c) rfl ⟨rfl, rfl, rfl, rfl, trivial⟩
theorem mb_328_18 {X : Nat → Option zz_C} {h : zz_H} (hh : 111 ≤ h.length) {s : mS} {d : Nat} {Q : Option Value → zz_H → Prop} {x1 : Int32} {x2 : Int32} {x4 : Int32} (k : zz_E zp_P zt_tf zt_fd X d zm_292 0 [(0, .ref 61), (1, .int x4)] [] (mH h s) (fun v h' => zz_E zp_P zt_tf zt_fd X (d + 1) zm_328 29 [(0, .ref 61), (1, .int x1), (2, .int x2), (4, .int x4)] (v.toList ++ [.int (x4 - x2), .int x1]) h' Q)) : zz_E zp_P zt_tf zt_fd X (d + 1) zm_328 18 [(0, .ref 61), (1, .int x1), (2, .int x2), (4, .int x4)] [] (mH h s) Q := by
  refine zz_E.n 19 rfl rfl rfl ?_
  refine zz_E.n 21 rfl rfl rfl ?_
  refine zz_E.n 22 rfl rfl rfl ?_
  refine zz_E.n 23 rfl rfl rfl ?_
  refine zz_E.n 24 rfl rfl rfl ?_
  refine zz_E.n 26 rfl rfl rfl ?_
  refine mE_cv hh 29 (as := [.int (x4 - x2), .int x1]) rfl rfl (Nat.le_of_ble_eq_true rfl) (Nat.le_of_ble_eq_true rfl) rfl (Nat.le_of_ble_eq_true rfl) rfl ?_
  refine zz_E.mono k ?_
  intro v h' hE
  exact zz_E.weak hE rfl ⟨rfl, rfl, rfl, rfl, trivial⟩
theorem mb_328_29 {X : Nat → Option zz_C} {h : zz_H} (hh : 111 ≤ h.length) {s : mS} {d : Nat} {Q : Option Value → zz_H → Prop} {x1 : Int32} {x2 : Int32} {x4 : Int32} {y0 : Int32} {y1 : Int32} {y2 : Int32} (k : zz_E zp_P zt_tf zt_fd X d zm_292 0 [(0, .ref 61), (1, .int x2)] [] (mH h s) (fun v h' => zz_E zp_P zt_tf zt_fd X (d + 1) zm_328 34 [(0, .ref 61), (1, .int x1), (2, .int x2), (4, .int x4)] (v.toList ++ [.int y2, .int y1, .int y0]) h' Q)) : zz_E zp_P zt_tf zt_fd X (d + 1) zm_328 29 [(0, .ref 61), (1, .int x1), (2, .int x2), (4, .int x4)] [.int y2, .int y1, .int y0] (mH h s) Q := by
  refine zz_E.n 30 rfl rfl rfl ?_
  refine zz_E.n 31 rfl rfl rfl ?_
  refine mE_cv hh 34 (as := [.int y2, .int y1, .int y0]) rfl rfl (Nat.le_of_ble_eq_true rfl) (Nat.le_of_ble_eq_true rfl) rfl (Nat.le_of_ble_eq_true rfl) rfl ?_
  refine zz_E.mono k ?_
  intro v h' hE
  exact zz_E.weak hE rfl ⟨rfl, rfl, rfl, rfl, trivial⟩
theorem mb_328_34 {X : Nat → Option zz_C} {h : zz_H} (hh : 111 ≤ h.length) {s : mS} {d : Nat} {Q : Option Value → zz_H → Prop} {x1 : Int32} {x2 : Int32} {x4 : Int32} {y0 : Int32} {y1 : Int32} {y2 : Int32} {y3 : Int32} (k : zz_E zp_P zt_tf zt_fd X d zm_327 0 [(0, .int y0), (1, .int y1), (2, .int y2), (3, .int y3)] [] (mH h s) (fun v h' => zz_E zp_P zt_tf zt_fd X (d + 1) zm_328 37 [(0, .ref 61), (1, .int x1), (2, .int x2), (4, .int x4)] (v.toList ++ []) h' Q)) : zz_E zp_P zt_tf zt_fd X (d + 1) zm_328 34 [(0, .ref 61), (1, .int x1), (2, .int x2), (4, .int x4)] [.int y3, .int y2, .int y1, .int y0] (mH h s) Q := by
  refine zz_E.cl (M' := zm_327) 37 rfl rfl (by decide) rfl rfl ⟨rfl, Nat.le_of_ble_eq_true rfl⟩ rfl ?_
  refine zz_E.mono k ?_
  intro v h' hE
  exact zz_E.weak hE rfl ⟨rfl, rfl, rfl, rfl, trivial⟩
theorem mb_328_37 {X : Nat → Option zz_C} {h : zz_H} (hh : 111 ≤ h.length) {s : mS} {d : Nat} {Q : Option Value → zz_H → Prop} {x1 : Int32} {x2 : Int32} {x4 : Int32} {y0 : Int32} (k1 : y0 = 0 → zz_E zp_P zt_tf zt_fd X d zm_328 44 [(0, .ref 61), (1, .int x1), (2, .int x2), (4, .int x4)] [] (mH h s) Q) (k2 : ¬ y0 = 0 → zz_E zp_P zt_tf zt_fd X d zm_328 40 [(0, .ref 61), (1, .int x1), (2, .int x2), (4, .int x4)] [] (mH h s) Q) : zz_E zp_P zt_tf zt_fd X d zm_328 37 [(0, .ref 61), (1, .int x1), (2, .int x2), (4, .int x4)] [.int y0] (mH h s) Q := by
  refine zz_E.b1 44 40 (A := y0 = 0) rfl rfl (by decide) rfl rfl (fun c => ?_) (fun c => ?_)
  · exact zz_E.weak (k1 c) rfl ⟨rfl, rfl, rfl, rfl, trivial⟩
  · exact zz_E.weak (k2 c) rfl ⟨rfl, rfl, rfl, rfl, trivial⟩
theorem mb_328_40 {X : Nat → Option zz_C} {h : zz_H} (hh : 111 ≤ h.length) {s : mS} {d : Nat} {Q : Option Value → zz_H → Prop} {x1 : Int32} {x2 : Int32} {x4 : Int32} (k : zz_E zp_P zt_tf zt_fd X d zm_328 45 [(0, .ref 61), (1, .int x1), (2, .int x2), (4, .int x4)] [.int 1] (mH h s) Q) : zz_E zp_P zt_tf zt_fd X d zm_328 40 [(0, .ref 61), (1, .int x1), (2, .int x2), (4, .int x4)] [] (mH h s) Q := by
  refine zz_E.c 41 (.int 1) rfl rfl rfl rfl ?_
  refine zz_E.n 45 rfl rfl rfl ?_
  exact zz_E.weak k rfl ⟨rfl, rfl, rfl, rfl, trivial⟩
theorem mb_328_44 {X : Nat → Option zz_C} {h : zz_H} (hh : 111 ≤ h.length) {s : mS} {d : Nat} {Q : Option Value → zz_H → Prop} {x1 : Int32} {x2 : Int32} {x4 : Int32} (k : zz_E zp_P zt_tf zt_fd X d zm_328 45 [(0, .ref 61), (1, .int x1), (2, .int x2), (4, .int x4)] [.int 0] (mH h s) Q) : zz_E zp_P zt_tf zt_fd X d zm_328 44 [(0, .ref 61), (1, .int x1), (2, .int x2), (4, .int x4)] [] (mH h s) Q := by
  refine zz_E.c 45 (.int 0) rfl rfl rfl rfl ?_
  exact zz_E.weak k rfl ⟨rfl, rfl, rfl, rfl, trivial⟩
theorem mb_328_45 {X : Nat → Option zz_C} {h : zz_H} (hh : 111 ≤ h.length) {s : mS} {d : Nat} {Q : Option Value → zz_H → Prop} {x1 : Int32} {x2 : Int32} {x4 : Int32} {y0 : Int32} (k : zz_E zp_P zt_tf zt_fd X d zm_328 5 [(0, .ref 61), (1, .int x1), (2, .int x2), (3, .int y0), (4, .int (x4 + 1))] [] (mH h s) Q) : zz_E zp_P zt_tf zt_fd X d zm_328 45 [(0, .ref 61), (1, .int x1), (2, .int x2), (4, .int x4)] [.int y0] (mH h s) Q := by
  refine zz_E.n 46 rfl rfl rfl ?_
  refine zz_E.n 49 rfl rfl rfl ?_
  refine zz_E.n 5 rfl rfl rfl ?_
  exact zz_E.weak k rfl ⟨rfl, rfl, rfl, rfl, rfl, trivial⟩
theorem mb_328_52 {X : Nat → Option zz_C} {h : zz_H} (hh : 111 ≤ h.length) {s : mS} {d : Nat} {Q : Option Value → zz_H → Prop} {x1 : Int32} {x2 : Int32} {x3 : Int32} (k1 : ¬ x3 = 0 → zz_E zp_P zt_tf zt_fd X d zm_328 66 [(0, .ref 61), (1, .int x1), (2, .int x2)] [] (mH h s) Q) (k2 : ¬ ¬ x3 = 0 → zz_E zp_P zt_tf zt_fd X d zm_328 56 [(0, .ref 61)] [] (mH h s) Q) : zz_E zp_P zt_tf zt_fd X d zm_328 52 [(0, .ref 61), (1, .int x1), (2, .int x2), (3, .int x3)] [] (mH h s) Q := by
  refine zz_E.n 53 rfl rfl rfl ?_
  refine zz_E.b1 66 56 (A := ¬ x3 = 0) rfl (zz_cond_ne _ _) (by decide) rfl rfl (fun c => ?_) (fun c => ?_)
  · exact zz_E.weak (k1 c) rfl ⟨rfl, rfl, rfl, trivial⟩
  · exact zz_E.weak (k2 c) rfl ⟨rfl, trivial⟩
theorem mb_328_56 {X : Nat → Option zz_C} {h : zz_H} (hh : 111 ≤ h.length) {s : mS} {d : Nat} {Q : Option Value → zz_H → Prop}  (k : zz_E zp_P zt_tf zt_fd X d zm_301 0 [(0, .ref 61), (1, .int 3), (2, .int (s.1 70))] [] (mH h s) (fun v h' => zz_E zp_P zt_tf zt_fd X (d + 1) zm_328 65 [] (v.toList ++ []) h' Q)) : zz_E zp_P zt_tf zt_fd X (d + 1) zm_328 56 [(0, .ref 61)] [] (mH h s) Q := by
  refine zz_E.n 57 rfl rfl rfl ?_
  refine zz_E.c 58 (.int 3) rfl rfl rfl rfl ?_
  refine zz_E.n 59 rfl rfl rfl ?_
  refine mE_g hh 62 (v := .int (s.1 70)) rfl rfl rfl ?_
  refine mE_cv hh 65 (as := []) rfl rfl (Nat.le_of_ble_eq_true rfl) (Nat.le_of_ble_eq_true rfl) rfl (Nat.le_of_ble_eq_true rfl) rfl ?_
  refine zz_E.mono k ?_
  intro v h' hE
  exact zz_E.weak hE rfl trivial
theorem mb_328_65 {X : Nat → Option zz_C} {h : zz_H} (hh : 111 ≤ h.length) {s : mS} {d : Nat} {Q : Option Value → zz_H → Prop}  (k : Q none (mH h s)) : zz_E zp_P zt_tf zt_fd X d zm_328 65 [] [] (mH h s) Q := by
  refine zz_E.ret rfl rfl rfl ?_
  exact k
theorem mb_328_66 {X : Nat → Option zz_C} {h : zz_H} (hh : 111 ≤ h.length) {s : mS} {d : Nat} {Q : Option Value → zz_H → Prop} {x1 : Int32} {x2 : Int32} (i71 : ¬ (x2 < 0 ∨ 9000 ≤ Int32.toNatClampNeg x2)) (i81 : ¬ ((x2 + 1) < 0 ∨ 9000 ≤ Int32.toNatClampNeg (x2 + 1))) (k1 : ¬ x1 = 5 → zz_E zp_P zt_tf zt_fd X d zm_328 98 [(0, .ref 61), (1, .int x1), (2, .int x2), (4, .int ((s.2.2.1 50) (Int32.toNatClampNeg x2))), (5, .int ((s.2.2.1 50) (Int32.toNatClampNeg (x2 + 1))))] [] (mH h s) Q) (k2 : ¬ ¬ x1 = 5 → zz_E zp_P zt_tf zt_fd X d zm_328 89 [(0, .ref 61), (2, .int x2)] [] (mH h s) Q) : zz_E zp_P zt_tf zt_fd X d zm_328 66 [(0, .ref 61), (1, .int x1), (2, .int x2)] [] (mH h s) Q := by
  refine zz_E.n 67 rfl rfl rfl ?_
  refine mE_g hh 70 (v := .ref 91) rfl rfl rfl ?_
  refine zz_E.n 71 rfl rfl rfl ?_
  refine mE_ia hh 72 30 (f := (s.2.2.1 50)) rfl (by decide) rfl rfl i71 rfl ?_
  refine zz_E.n 74 rfl rfl rfl ?_
  refine zz_E.n 75 rfl rfl rfl ?_
  refine mE_g hh 78 (v := .ref 91) rfl rfl rfl ?_
  refine zz_E.n 79 rfl rfl rfl ?_
  refine zz_E.c 80 (.int 1) rfl rfl rfl rfl ?_
  refine zz_E.n 81 rfl rfl rfl ?_
  refine mE_ia hh 82 30 (f := (s.2.2.1 50)) rfl (by decide) rfl rfl i81 rfl ?_
  refine zz_E.n 84 rfl rfl rfl ?_
  refine zz_E.n 85 rfl rfl rfl ?_
  refine zz_E.c 86 (.int 5) rfl rfl rfl rfl ?_
  refine zz_E.b2 98 89 (A := ¬ x1 = 5) rfl (zz_cond_ne _ _) (by decide) rfl rfl (fun c => ?_) (fun c => ?_)
  · exact zz_E.weak (k1 c) rfl ⟨rfl, rfl, rfl, rfl, rfl, trivial⟩
  · exact zz_E.weak (k2 c) rfl ⟨rfl, rfl, trivial⟩
theorem mb_328_89 {X : Nat → Option zz_C} {h : zz_H} (hh : 111 ≤ h.length) {s : mS} {d : Nat} {Q : Option Value → zz_H → Prop} {x2 : Int32} (k : zz_E zp_P zt_tf zt_fd X d zm_305 0 [(0, .ref 61), (1, .int 3), (2, .int x2)] [] (mH h s) (fun v h' => zz_E zp_P zt_tf zt_fd X (d + 1) zm_328 95 [] (v.toList ++ []) h' Q)) : zz_E zp_P zt_tf zt_fd X (d + 1) zm_328 89 [(0, .ref 61), (2, .int x2)] [] (mH h s) Q := by
  refine zz_E.n 90 rfl rfl rfl ?_
  refine zz_E.c 91 (.int 3) rfl rfl rfl rfl ?_
  refine zz_E.n 92 rfl rfl rfl ?_
  refine mE_cv hh 95 (as := []) rfl rfl (Nat.le_of_ble_eq_true rfl) (Nat.le_of_ble_eq_true rfl) rfl (Nat.le_of_ble_eq_true rfl) rfl ?_
  refine zz_E.mono k ?_
  intro v h' hE
  exact zz_E.weak hE rfl trivial
theorem mb_328_95 {X : Nat → Option zz_C} {h : zz_H} (hh : 111 ≤ h.length) {s : mS} {d : Nat} {Q : Option Value → zz_H → Prop}  (k : zz_E zp_P zt_tf zt_fd X d zm_328 160 [] [] (mH h s) Q) : zz_E zp_P zt_tf zt_fd X d zm_328 95 [] [] (mH h s) Q := by
  refine zz_E.n 160 rfl rfl rfl ?_
  exact zz_E.weak k rfl trivial
theorem mb_328_98 {X : Nat → Option zz_C} {h : zz_H} (hh : 111 ≤ h.length) {s : mS} {d : Nat} {Q : Option Value → zz_H → Prop} {x1 : Int32} {x2 : Int32} {x4 : Int32} {x5 : Int32} (k1 : 5 ≤ x1 → zz_E zp_P zt_tf zt_fd X d zm_328 116 [(0, .ref 61), (1, .int x1), (2, .int x2), (4, .int x4), (5, .int x5)] [] (mH h s) Q) (k2 : ¬ 5 ≤ x1 → zz_E zp_P zt_tf zt_fd X d zm_328 103 [(0, .ref 61), (1, .int x1), (2, .int x2), (4, .int x4), (5, .int x5)] [] (mH h s) Q) : zz_E zp_P zt_tf zt_fd X d zm_328 98 [(0, .ref 61), (1, .int x1), (2, .int x2), (4, .int x4), (5, .int x5)] [] (mH h s) Q := by
  refine zz_E.n 99 rfl rfl rfl ?_
  refine zz_E.c 100 (.int 5) rfl rfl rfl rfl ?_
  refine zz_E.b2 116 103 (A := 5 ≤ x1) rfl rfl (by decide) rfl rfl (fun c => ?_) (fun c => ?_)
  · exact zz_E.weak (k1 c) rfl ⟨rfl, rfl, rfl, rfl, rfl, trivial⟩
  · exact zz_E.weak (k2 c) rfl ⟨rfl, rfl, rfl, rfl, rfl, trivial⟩
theorem mb_328_103 {X : Nat → Option zz_C} {h : zz_H} (hh : 111 ≤ h.length) {s : mS} {d : Nat} {Q : Option Value → zz_H → Prop} {x1 : Int32} {x2 : Int32} {x4 : Int32} {x5 : Int32} (k : zz_E zp_P zt_tf zt_fd X d zm_330 0 [(0, .ref 61), (1, .int x1), (2, .int x4), (3, .int x5), (4, .int x2)] [] (mH h s) (fun v h' => zz_E zp_P zt_tf zt_fd X (d + 1) zm_328 113 [] (v.toList ++ []) h' Q)) : zz_E zp_P zt_tf zt_fd X (d + 1) zm_328 103 [(0, .ref 61), (1, .int x1), (2, .int x2), (4, .int x4), (5, .int x5)] [] (mH h s) Q := by
  refine zz_E.n 104 rfl rfl rfl ?_
  refine zz_E.n 105 rfl rfl rfl ?_
  refine zz_E.n 107 rfl rfl rfl ?_
  refine zz_E.n 109 rfl rfl rfl ?_
  refine zz_E.n 110 rfl rfl rfl ?_
  refine mE_cv hh 113 (as := []) rfl rfl (Nat.le_of_ble_eq_true rfl) (Nat.le_of_ble_eq_true rfl) rfl (Nat.le_of_ble_eq_true rfl) rfl ?_
  refine zz_E.mono k ?_
  intro v h' hE
  exact zz_E.weak hE rfl trivial
theorem mb_328_113 {X : Nat → Option zz_C} {h : zz_H} (hh : 111 ≤ h.length) {s : mS} {d : Nat} {Q : Option Value → zz_H → Prop}  (k : zz_E zp_P zt_tf zt_fd X d zm_328 160 [] [] (mH h s) Q) : zz_E zp_P zt_tf zt_fd X d zm_328 113 [] [] (mH h s) Q := by
  refine zz_E.n 160 rfl rfl rfl ?_
  exact zz_E.weak k rfl trivial
theorem mb_328_116 {X : Nat → Option zz_C} {h : zz_H} (hh : 111 ≤ h.length) {s : mS} {d : Nat} {Q : Option Value → zz_H → Prop} {x1 : Int32} {x2 : Int32} {x4 : Int32} {x5 : Int32} (k1 : 16 ≤ x1 → zz_E zp_P zt_tf zt_fd X d zm_328 133 [(0, .ref 61), (1, .int x1), (2, .int x2), (4, .int x4), (5, .int x5)] [] (mH h s) Q) (k2 : ¬ 16 ≤ x1 → zz_E zp_P zt_tf zt_fd X d zm_328 122 [(0, .ref 61), (1, .int x1), (2, .int x2), (4, .int x4)] [] (mH h s) Q) : zz_E zp_P zt_tf zt_fd X d zm_328 116 [(0, .ref 61), (1, .int x1), (2, .int x2), (4, .int x4), (5, .int x5)] [] (mH h s) Q := by
  refine zz_E.n 117 rfl rfl rfl ?_
  refine zz_E.c 119 (.int 16) rfl rfl rfl rfl ?_
  refine zz_E.b2 133 122 (A := 16 ≤ x1) rfl rfl (by decide) rfl rfl (fun c => ?_) (fun c => ?_)
  · exact zz_E.weak (k1 c) rfl ⟨rfl, rfl, rfl, rfl, rfl, trivial⟩
  · exact zz_E.weak (k2 c) rfl ⟨rfl, rfl, rfl, rfl, trivial⟩
theorem mb_328_122 {X : Nat → Option zz_C} {h : zz_H} (hh : 111 ≤ h.length) {s : mS} {d : Nat} {Q : Option Value → zz_H → Prop} {x1 : Int32} {x2 : Int32} {x4 : Int32} (k : zz_E zp_P zt_tf zt_fd X d zm_333 0 [(0, .ref 61), (1, .int x1), (2, .int x4), (3, .int x2)] [] (mH h s) (fun v h' => zz_E zp_P zt_tf zt_fd X (d + 1) zm_328 130 [] (v.toList ++ []) h' Q)) : zz_E zp_P zt_tf zt_fd X (d + 1) zm_328 122 [(0, .ref 61), (1, .int x1), (2, .int x2), (4, .int x4)] [] (mH h s) Q := by
  refine zz_E.n 123 rfl rfl rfl ?_
  refine zz_E.n 124 rfl rfl rfl ?_
  refine zz_E.n 126 rfl rfl rfl ?_
  refine zz_E.n 127 rfl rfl rfl ?_
  refine mE_cv hh 130 (as := []) rfl rfl (Nat.le_of_ble_eq_true rfl) (Nat.le_of_ble_eq_true rfl) rfl (Nat.le_of_ble_eq_true rfl) rfl ?_
  refine zz_E.mono k ?_
  intro v h' hE
  exact zz_E.weak hE rfl trivial
theorem mb_328_130 {X : Nat → Option zz_C} {h : zz_H} (hh : 111 ≤ h.length) {s : mS} {d : Nat} {Q : Option Value → zz_H → Prop}  (k : zz_E zp_P zt_tf zt_fd X d zm_328 160 [] [] (mH h s) Q) : zz_E zp_P zt_tf zt_fd X d zm_328 130 [] [] (mH h s) Q := by
  refine zz_E.n 160 rfl rfl rfl ?_
  exact zz_E.weak k rfl trivial
theorem mb_328_133 {X : Nat → Option zz_C} {h : zz_H} (hh : 111 ≤ h.length) {s : mS} {d : Nat} {Q : Option Value → zz_H → Prop} {x1 : Int32} {x2 : Int32} {x4 : Int32} {x5 : Int32} (k1 : 19 ≤ x1 → zz_E zp_P zt_tf zt_fd X d zm_328 150 [(0, .ref 61), (1, .int x1), (2, .int x2), (4, .int x4), (5, .int x5)] [] (mH h s) Q) (k2 : ¬ 19 ≤ x1 → zz_E zp_P zt_tf zt_fd X d zm_328 139 [(0, .ref 61), (1, .int x1), (2, .int x2), (4, .int x4)] [] (mH h s) Q) : zz_E zp_P zt_tf zt_fd X d zm_328 133 [(0, .ref 61), (1, .int x1), (2, .int x2), (4, .int x4), (5, .int x5)] [] (mH h s) Q := by
  refine zz_E.n 134 rfl rfl rfl ?_
  refine zz_E.c 136 (.int 19) rfl rfl rfl rfl ?_
  refine zz_E.b2 150 139 (A := 19 ≤ x1) rfl rfl (by decide) rfl rfl (fun c => ?_) (fun c => ?_)
  · exact zz_E.weak (k1 c) rfl ⟨rfl, rfl, rfl, rfl, rfl, trivial⟩
  · exact zz_E.weak (k2 c) rfl ⟨rfl, rfl, rfl, rfl, trivial⟩
theorem mb_328_139 {X : Nat → Option zz_C} {h : zz_H} (hh : 111 ≤ h.length) {s : mS} {d : Nat} {Q : Option Value → zz_H → Prop} {x1 : Int32} {x2 : Int32} {x4 : Int32} (k : zz_E zp_P zt_tf zt_fd X d zm_335 0 [(0, .ref 61), (1, .int x1), (2, .int x4), (3, .int x2)] [] (mH h s) (fun v h' => zz_E zp_P zt_tf zt_fd X (d + 1) zm_328 147 [] (v.toList ++ []) h' Q)) : zz_E zp_P zt_tf zt_fd X (d + 1) zm_328 139 [(0, .ref 61), (1, .int x1), (2, .int x2), (4, .int x4)] [] (mH h s) Q := by
  refine zz_E.n 140 rfl rfl rfl ?_
  refine zz_E.n 141 rfl rfl rfl ?_
  refine zz_E.n 143 rfl rfl rfl ?_
  refine zz_E.n 144 rfl rfl rfl ?_
  refine mE_cv hh 147 (as := []) rfl rfl (Nat.le_of_ble_eq_true rfl) (Nat.le_of_ble_eq_true rfl) rfl (Nat.le_of_ble_eq_true rfl) rfl ?_
  refine zz_E.mono k ?_
  intro v h' hE
  exact zz_E.weak hE rfl trivial
theorem mb_328_147 {X : Nat → Option zz_C} {h : zz_H} (hh : 111 ≤ h.length) {s : mS} {d : Nat} {Q : Option Value → zz_H → Prop}  (k : zz_E zp_P zt_tf zt_fd X d zm_328 160 [] [] (mH h s) Q) : zz_E zp_P zt_tf zt_fd X d zm_328 147 [] [] (mH h s) Q := by
  refine zz_E.n 160 rfl rfl rfl ?_
  exact zz_E.weak k rfl trivial
theorem mb_328_150 {X : Nat → Option zz_C} {h : zz_H} (hh : 111 ≤ h.length) {s : mS} {d : Nat} {Q : Option Value → zz_H → Prop} {x1 : Int32} {x2 : Int32} {x4 : Int32} {x5 : Int32} (k : zz_E zp_P zt_tf zt_fd X d zm_347 0 [(0, .ref 61), (1, .int x1), (2, .int x4), (3, .int x5), (4, .int x2)] [] (mH h s) (fun v h' => zz_E zp_P zt_tf zt_fd X (d + 1) zm_328 160 [] (v.toList ++ []) h' Q)) : zz_E zp_P zt_tf zt_fd X (d + 1) zm_328 150 [(0, .ref 61), (1, .int x1), (2, .int x2), (4, .int x4), (5, .int x5)] [] (mH h s) Q := by
  refine zz_E.n 151 rfl rfl rfl ?_
  refine zz_E.n 152 rfl rfl rfl ?_
  refine zz_E.n 154 rfl rfl rfl ?_
  refine zz_E.n 156 rfl rfl rfl ?_
  refine zz_E.n 157 rfl rfl rfl ?_
  refine mE_cv hh 160 (as := []) rfl rfl (Nat.le_of_ble_eq_true rfl) (Nat.le_of_ble_eq_true rfl) rfl (Nat.le_of_ble_eq_true rfl) rfl ?_
  refine zz_E.mono k ?_
  intro v h' hE
  exact zz_E.weak hE rfl trivial
theorem mb_328_160 {X : Nat → Option zz_C} {h : zz_H} (hh : 111 ≤ h.length) {s : mS} {d : Nat} {Q : Option Value → zz_H → Prop}  (k : Q none (mH h s)) : zz_E zp_P zt_tf zt_fd X d zm_328 160 [] [] (mH h s) Q := by
  refine zz_E.ret rfl rfl rfl ?_
  exact k
def mf_328_160 (N : Nat)  (s : mS) : mO := some (s, none)
theorem mr_328_160 {X : Nat → Option zz_C} {h : zz_H} (hh : 111 ≤ h.length) {d : Nat} {N : Nat} {Q : Option Value → zz_H → Prop}  {s s' : mS} {v : Option Value} (hf : mf_328_160 N  s = some (s', v)) (k : Q v (mH h s')) : zz_E zp_P zt_tf zt_fd X (d + 6) zm_328 160 [] [] (mH h s) Q := by
  unfold mf_328_160 at hf
  cases hf
  exact mb_328_160 hh  k
def mf_328_150 (N : Nat) (x1 : Int32) (x2 : Int32) (x4 : Int32) (x5 : Int32) (s : mS) : mO := mo_bv (mf_347 N x1 x4 x5 x2 s) (fun s1 => mf_328_160 N  s1)
theorem mr_328_150 {X : Nat → Option zz_C} {h : zz_H} (hh : 111 ≤ h.length) {d : Nat} {N : Nat} {Q : Option Value → zz_H → Prop} {x1 : Int32} {x2 : Int32} {x4 : Int32} {x5 : Int32} {s s' : mS} {v : Option Value} (hf : mf_328_150 N x1 x2 x4 x5 s = some (s', v)) (k : Q v (mH h s')) : zz_E zp_P zt_tf zt_fd X (d + 6) zm_328 150 [(0, .ref 61), (1, .int x1), (2, .int x2), (4, .int x4), (5, .int x5)] [] (mH h s) Q := by
  unfold mf_328_150 at hf
  obtain ⟨s1, e, hf⟩ := mo_bv_ok hf
  exact mb_328_150 (d := d + 5) hh  (mr_347 (d := d + 0) hh e (mr_328_160 hh hf k))
def mf_328_147 (N : Nat)  (s : mS) : mO := mf_328_160 N  s
theorem mr_328_147 {X : Nat → Option zz_C} {h : zz_H} (hh : 111 ≤ h.length) {d : Nat} {N : Nat} {Q : Option Value → zz_H → Prop}  {s s' : mS} {v : Option Value} (hf : mf_328_147 N  s = some (s', v)) (k : Q v (mH h s')) : zz_E zp_P zt_tf zt_fd X (d + 6) zm_328 147 [] [] (mH h s) Q := by
  unfold mf_328_147 at hf
  exact mb_328_147 hh  (mr_328_160 hh hf k)
def mf_328_139 (N : Nat) (x1 : Int32) (x2 : Int32) (x4 : Int32) (s : mS) : mO := mo_bv (mf_335 N x1 x4 x2 s) (fun s1 => mf_328_147 N  s1)
theorem mr_328_139 {X : Nat → Option zz_C} {h : zz_H} (hh : 111 ≤ h.length) {d : Nat} {N : Nat} {Q : Option Value → zz_H → Prop} {x1 : Int32} {x2 : Int32} {x4 : Int32} {s s' : mS} {v : Option Value} (hf : mf_328_139 N x1 x2 x4 s = some (s', v)) (k : Q v (mH h s')) : zz_E zp_P zt_tf zt_fd X (d + 6) zm_328 139 [(0, .ref 61), (1, .int x1), (2, .int x2), (4, .int x4)] [] (mH h s) Q := by
  unfold mf_328_139 at hf
  obtain ⟨s1, e, hf⟩ := mo_bv_ok hf
  exact mb_328_139 (d := d + 5) hh  (mr_335 (d := d + 1) hh e (mr_328_147 hh hf k))
def mf_328_133 (N : Nat) (x1 : Int32) (x2 : Int32) (x4 : Int32) (x5 : Int32) (s : mS) : mO := if 19 ≤ x1 then mf_328_150 N x1 x2 x4 x5 s else mf_328_139 N x1 x2 x4 s
theorem mr_328_133 {X : Nat → Option zz_C} {h : zz_H} (hh : 111 ≤ h.length) {d : Nat} {N : Nat} {Q : Option Value → zz_H → Prop} {x1 : Int32} {x2 : Int32} {x4 : Int32} {x5 : Int32} {s s' : mS} {v : Option Value} (hf : mf_328_133 N x1 x2 x4 x5 s = some (s', v)) (k : Q v (mH h s')) : zz_E zp_P zt_tf zt_fd X (d + 6) zm_328 133 [(0, .ref 61), (1, .int x1), (2, .int x2), (4, .int x4), (5, .int x5)] [] (mH h s) Q := by
  unfold mf_328_133 at hf
  refine mb_328_133 hh  (fun c => ?_) (fun c => ?_)
  · rw [if_pos c] at hf
    exact mr_328_150 hh hf k
  · rw [if_neg c] at hf
    exact mr_328_139 hh hf k
def mf_328_130 (N : Nat)  (s : mS) : mO := mf_328_160 N  s
theorem mr_328_130 {X : Nat → Option zz_C} {h : zz_H} (hh : 111 ≤ h.length) {d : Nat} {N : Nat} {Q : Option Value → zz_H → Prop}  {s s' : mS} {v : Option Value} (hf : mf_328_130 N  s = some (s', v)) (k : Q v (mH h s')) : zz_E zp_P zt_tf zt_fd X (d + 6) zm_328 130 [] [] (mH h s) Q := by
  unfold mf_328_130 at hf
  exact mb_328_130 hh  (mr_328_160 hh hf k)
def mf_328_122 (N : Nat) (x1 : Int32) (x2 : Int32) (x4 : Int32) (s : mS) : mO := mo_bv (mf_333 N x1 x4 x2 s) (fun s1 => mf_328_130 N  s1)
theorem mr_328_122 {X : Nat → Option zz_C} {h : zz_H} (hh : 111 ≤ h.length) {d : Nat} {N : Nat} {Q : Option Value → zz_H → Prop} {x1 : Int32} {x2 : Int32} {x4 : Int32} {s s' : mS} {v : Option Value} (hf : mf_328_122 N x1 x2 x4 s = some (s', v)) (k : Q v (mH h s')) : zz_E zp_P zt_tf zt_fd X (d + 6) zm_328 122 [(0, .ref 61), (1, .int x1), (2, .int x2), (4, .int x4)] [] (mH h s) Q := by
  unfold mf_328_122 at hf
  obtain ⟨s1, e, hf⟩ := mo_bv_ok hf
  exact mb_328_122 (d := d + 5) hh  (mr_333 (d := d + 0) hh e (mr_328_130 hh hf k))
def mf_328_116 (N : Nat) (x1 : Int32) (x2 : Int32) (x4 : Int32) (x5 : Int32) (s : mS) : mO := if 16 ≤ x1 then mf_328_133 N x1 x2 x4 x5 s else mf_328_122 N x1 x2 x4 s
theorem mr_328_116 {X : Nat → Option zz_C} {h : zz_H} (hh : 111 ≤ h.length) {d : Nat} {N : Nat} {Q : Option Value → zz_H → Prop} {x1 : Int32} {x2 : Int32} {x4 : Int32} {x5 : Int32} {s s' : mS} {v : Option Value} (hf : mf_328_116 N x1 x2 x4 x5 s = some (s', v)) (k : Q v (mH h s')) : zz_E zp_P zt_tf zt_fd X (d + 6) zm_328 116 [(0, .ref 61), (1, .int x1), (2, .int x2), (4, .int x4), (5, .int x5)] [] (mH h s) Q := by
  unfold mf_328_116 at hf
  refine mb_328_116 hh  (fun c => ?_) (fun c => ?_)
  · rw [if_pos c] at hf
    exact mr_328_133 hh hf k
  · rw [if_neg c] at hf
    exact mr_328_122 hh hf k
def mf_328_113 (N : Nat)  (s : mS) : mO := mf_328_160 N  s
theorem mr_328_113 {X : Nat → Option zz_C} {h : zz_H} (hh : 111 ≤ h.length) {d : Nat} {N : Nat} {Q : Option Value → zz_H → Prop}  {s s' : mS} {v : Option Value} (hf : mf_328_113 N  s = some (s', v)) (k : Q v (mH h s')) : zz_E zp_P zt_tf zt_fd X (d + 6) zm_328 113 [] [] (mH h s) Q := by
  unfold mf_328_113 at hf
  exact mb_328_113 hh  (mr_328_160 hh hf k)
def mf_328_103 (N : Nat) (x1 : Int32) (x2 : Int32) (x4 : Int32) (x5 : Int32) (s : mS) : mO := mo_bv (mf_330 N x1 x4 x5 x2 s) (fun s1 => mf_328_113 N  s1)
theorem mr_328_103 {X : Nat → Option zz_C} {h : zz_H} (hh : 111 ≤ h.length) {d : Nat} {N : Nat} {Q : Option Value → zz_H → Prop} {x1 : Int32} {x2 : Int32} {x4 : Int32} {x5 : Int32} {s s' : mS} {v : Option Value} (hf : mf_328_103 N x1 x2 x4 x5 s = some (s', v)) (k : Q v (mH h s')) : zz_E zp_P zt_tf zt_fd X (d + 6) zm_328 103 [(0, .ref 61), (1, .int x1), (2, .int x2), (4, .int x4), (5, .int x5)] [] (mH h s) Q := by
  unfold mf_328_103 at hf
  obtain ⟨s1, e, hf⟩ := mo_bv_ok hf
  exact mb_328_103 (d := d + 5) hh  (mr_330 (d := d + 1) hh e (mr_328_113 hh hf k))
def mf_328_98 (N : Nat) (x1 : Int32) (x2 : Int32) (x4 : Int32) (x5 : Int32) (s : mS) : mO := if 5 ≤ x1 then mf_328_116 N x1 x2 x4 x5 s else mf_328_103 N x1 x2 x4 x5 s
theorem mr_328_98 {X : Nat → Option zz_C} {h : zz_H} (hh : 111 ≤ h.length) {d : Nat} {N : Nat} {Q : Option Value → zz_H → Prop} {x1 : Int32} {x2 : Int32} {x4 : Int32} {x5 : Int32} {s s' : mS} {v : Option Value} (hf : mf_328_98 N x1 x2 x4 x5 s = some (s', v)) (k : Q v (mH h s')) : zz_E zp_P zt_tf zt_fd X (d + 6) zm_328 98 [(0, .ref 61), (1, .int x1), (2, .int x2), (4, .int x4), (5, .int x5)] [] (mH h s) Q := by
  unfold mf_328_98 at hf
  refine mb_328_98 hh  (fun c => ?_) (fun c => ?_)
  · rw [if_pos c] at hf
    exact mr_328_116 hh hf k
  · rw [if_neg c] at hf
    exact mr_328_103 hh hf k
def mf_328_95 (N : Nat)  (s : mS) : mO := mf_328_160 N  s
theorem mr_328_95 {X : Nat → Option zz_C} {h : zz_H} (hh : 111 ≤ h.length) {d : Nat} {N : Nat} {Q : Option Value → zz_H → Prop}  {s s' : mS} {v : Option Value} (hf : mf_328_95 N  s = some (s', v)) (k : Q v (mH h s')) : zz_E zp_P zt_tf zt_fd X (d + 6) zm_328 95 [] [] (mH h s) Q := by
  unfold mf_328_95 at hf
  exact mb_328_95 hh  (mr_328_160 hh hf k)
def mf_328_89 (N : Nat) (x2 : Int32) (s : mS) : mO := mo_bv (mf_305 N 3 x2 s) (fun s1 => mf_328_95 N  s1)
theorem mr_328_89 {X : Nat → Option zz_C} {h : zz_H} (hh : 111 ≤ h.length) {d : Nat} {N : Nat} {Q : Option Value → zz_H → Prop} {x2 : Int32} {s s' : mS} {v : Option Value} (hf : mf_328_89 N x2 s = some (s', v)) (k : Q v (mH h s')) : zz_E zp_P zt_tf zt_fd X (d + 6) zm_328 89 [(0, .ref 61), (2, .int x2)] [] (mH h s) Q := by
  unfold mf_328_89 at hf
  obtain ⟨s1, e, hf⟩ := mo_bv_ok hf
  exact mb_328_89 (d := d + 5) hh  (mr_305 (d := d + 2) hh e (mr_328_95 hh hf k))
def mf_328_66 (N : Nat) (x1 : Int32) (x2 : Int32) (s : mS) : mO := if ¬ (x2 < 0 ∨ 9000 ≤ Int32.toNatClampNeg x2) then (if ¬ ((x2 + 1) < 0 ∨ 9000 ≤ Int32.toNatClampNeg (x2 + 1)) then (if ¬ x1 = 5 then mf_328_98 N x1 x2 ((s.2.2.1 50) (Int32.toNatClampNeg x2)) ((s.2.2.1 50) (Int32.toNatClampNeg (x2 + 1))) s else mf_328_89 N x2 s) else none) else none
theorem mr_328_66 {X : Nat → Option zz_C} {h : zz_H} (hh : 111 ≤ h.length) {d : Nat} {N : Nat} {Q : Option Value → zz_H → Prop} {x1 : Int32} {x2 : Int32} {s s' : mS} {v : Option Value} (hf : mf_328_66 N x1 x2 s = some (s', v)) (k : Q v (mH h s')) : zz_E zp_P zt_tf zt_fd X (d + 6) zm_328 66 [(0, .ref 61), (1, .int x1), (2, .int x2)] [] (mH h s) Q := by
  unfold mf_328_66 at hf
  obtain ⟨q0, hf⟩ := mo_if hf
  obtain ⟨q1, hf⟩ := mo_if hf
  refine mb_328_66 hh q0 q1 (fun c => ?_) (fun c => ?_)
  · rw [if_pos c] at hf
    exact mr_328_98 hh hf k
  · rw [if_neg c] at hf
    exact mr_328_89 hh hf k
def mf_328_65 (N : Nat)  (s : mS) : mO := some (s, none)
theorem mr_328_65 {X : Nat → Option zz_C} {h : zz_H} (hh : 111 ≤ h.length) {d : Nat} {N : Nat} {Q : Option Value → zz_H → Prop}  {s s' : mS} {v : Option Value} (hf : mf_328_65 N  s = some (s', v)) (k : Q v (mH h s')) : zz_E zp_P zt_tf zt_fd X (d + 6) zm_328 65 [] [] (mH h s) Q := by
  unfold mf_328_65 at hf
  cases hf
  exact mb_328_65 hh  k
def mf_328_56 (N : Nat)  (s : mS) : mO := mo_bv (mf_301 N 3 (s.1 70) s) (fun s1 => mf_328_65 N  s1)
theorem mr_328_56 {X : Nat → Option zz_C} {h : zz_H} (hh : 111 ≤ h.length) {d : Nat} {N : Nat} {Q : Option Value → zz_H → Prop}  {s s' : mS} {v : Option Value} (hf : mf_328_56 N  s = some (s', v)) (k : Q v (mH h s')) : zz_E zp_P zt_tf zt_fd X (d + 6) zm_328 56 [(0, .ref 61)] [] (mH h s) Q := by
  unfold mf_328_56 at hf
  obtain ⟨s1, e, hf⟩ := mo_bv_ok hf
  exact mb_328_56 (d := d + 5) hh  (mr_301 (d := d + 5) hh e (mr_328_65 hh hf k))
def mf_328_52 (N : Nat) (x1 : Int32) (x2 : Int32) (x3 : Int32) (s : mS) : mO := if ¬ x3 = 0 then mf_328_66 N x1 x2 s else mf_328_56 N  s
theorem mr_328_52 {X : Nat → Option zz_C} {h : zz_H} (hh : 111 ≤ h.length) {d : Nat} {N : Nat} {Q : Option Value → zz_H → Prop} {x1 : Int32} {x2 : Int32} {x3 : Int32} {s s' : mS} {v : Option Value} (hf : mf_328_52 N x1 x2 x3 s = some (s', v)) (k : Q v (mH h s')) : zz_E zp_P zt_tf zt_fd X (d + 6) zm_328 52 [(0, .ref 61), (1, .int x1), (2, .int x2), (3, .int x3)] [] (mH h s) Q := by
  unfold mf_328_52 at hf
  refine mb_328_52 hh  (fun c => ?_) (fun c => ?_)
  · rw [if_pos c] at hf
    exact mr_328_66 hh hf k
  · rw [if_neg c] at hf
    exact mr_328_56 hh hf k
def mf_328_45 (N : Nat) (rc : Nat → Int32 → Int32 → Int32 → Int32 → mS → mO) (x1 : Int32) (x2 : Int32) (x4 : Int32) (y0 : Int32) (s : mS) : mO := rc 0 x1 x2 y0 (x4 + 1) s
theorem mr_328_45 {X : Nat → Option zz_C} {h : zz_H} (hh : 111 ≤ h.length) {d : Nat} {N : Nat} {rc : Nat → Int32 → Int32 → Int32 → Int32 → mS → mO} (hrc0 : ∀ {Q : Option Value → zz_H → Prop} {x1 : Int32} {x2 : Int32} {x3 : Int32} {x4 : Int32} {s s' : mS} {v : Option Value}, rc 0 x1 x2 x3 x4 s = some (s', v) → Q v (mH h s') → zz_E zp_P zt_tf zt_fd X (d + 6) zm_328 5 [(0, .ref 61), (1, .int x1), (2, .int x2), (3, .int x3), (4, .int x4)] [] (mH h s) Q) {Q : Option Value → zz_H → Prop} {x1 : Int32} {x2 : Int32} {x4 : Int32} {y0 : Int32} {s s' : mS} {v : Option Value} (hf : mf_328_45 N rc x1 x2 x4 y0 s = some (s', v)) (k : Q v (mH h s')) : zz_E zp_P zt_tf zt_fd X (d + 6) zm_328 45 [(0, .ref 61), (1, .int x1), (2, .int x2), (4, .int x4)] [.int y0] (mH h s) Q := by
  unfold mf_328_45 at hf
  exact mb_328_45 hh  (hrc0 hf k)
def mf_328_40 (N : Nat) (rc : Nat → Int32 → Int32 → Int32 → Int32 → mS → mO) (x1 : Int32) (x2 : Int32) (x4 : Int32) (s : mS) : mO := mf_328_45 N rc x1 x2 x4 1 s
theorem mr_328_40 {X : Nat → Option zz_C} {h : zz_H} (hh : 111 ≤ h.length) {d : Nat} {N : Nat} {rc : Nat → Int32 → Int32 → Int32 → Int32 → mS → mO} (hrc0 : ∀ {Q : Option Value → zz_H → Prop} {x1 : Int32} {x2 : Int32} {x3 : Int32} {x4 : Int32} {s s' : mS} {v : Option Value}, rc 0 x1 x2 x3 x4 s = some (s', v) → Q v (mH h s') → zz_E zp_P zt_tf zt_fd X (d + 6) zm_328 5 [(0, .ref 61), (1, .int x1), (2, .int x2), (3, .int x3), (4, .int x4)] [] (mH h s) Q) {Q : Option Value → zz_H → Prop} {x1 : Int32} {x2 : Int32} {x4 : Int32} {s s' : mS} {v : Option Value} (hf : mf_328_40 N rc x1 x2 x4 s = some (s', v)) (k : Q v (mH h s')) : zz_E zp_P zt_tf zt_fd X (d + 6) zm_328 40 [(0, .ref 61), (1, .int x1), (2, .int x2), (4, .int x4)] [] (mH h s) Q := by
  unfold mf_328_40 at hf
  exact mb_328_40 hh  (mr_328_45 hh hrc0 hf k)
def mf_328_44 (N : Nat) (rc : Nat → Int32 → Int32 → Int32 → Int32 → mS → mO) (x1 : Int32) (x2 : Int32) (x4 : Int32) (s : mS) : mO := mf_328_45 N rc x1 x2 x4 0 s
theorem mr_328_44 {X : Nat → Option zz_C} {h : zz_H} (hh : 111 ≤ h.length) {d : Nat} {N : Nat} {rc : Nat → Int32 → Int32 → Int32 → Int32 → mS → mO} (hrc0 : ∀ {Q : Option Value → zz_H → Prop} {x1 : Int32} {x2 : Int32} {x3 : Int32} {x4 : Int32} {s s' : mS} {v : Option Value}, rc 0 x1 x2 x3 x4 s = some (s', v) → Q v (mH h s') → zz_E zp_P zt_tf zt_fd X (d + 6) zm_328 5 [(0, .ref 61), (1, .int x1), (2, .int x2), (3, .int x3), (4, .int x4)] [] (mH h s) Q) {Q : Option Value → zz_H → Prop} {x1 : Int32} {x2 : Int32} {x4 : Int32} {s s' : mS} {v : Option Value} (hf : mf_328_44 N rc x1 x2 x4 s = some (s', v)) (k : Q v (mH h s')) : zz_E zp_P zt_tf zt_fd X (d + 6) zm_328 44 [(0, .ref 61), (1, .int x1), (2, .int x2), (4, .int x4)] [] (mH h s) Q := by
  unfold mf_328_44 at hf
  exact mb_328_44 hh  (mr_328_45 hh hrc0 hf k)
def mf_328_37 (N : Nat) (rc : Nat → Int32 → Int32 → Int32 → Int32 → mS → mO) (x1 : Int32) (x2 : Int32) (x4 : Int32) (y0 : Int32) (s : mS) : mO := if y0 = 0 then mf_328_44 N rc x1 x2 x4 s else mf_328_40 N rc x1 x2 x4 s
theorem mr_328_37 {X : Nat → Option zz_C} {h : zz_H} (hh : 111 ≤ h.length) {d : Nat} {N : Nat} {rc : Nat → Int32 → Int32 → Int32 → Int32 → mS → mO} (hrc0 : ∀ {Q : Option Value → zz_H → Prop} {x1 : Int32} {x2 : Int32} {x3 : Int32} {x4 : Int32} {s s' : mS} {v : Option Value}, rc 0 x1 x2 x3 x4 s = some (s', v) → Q v (mH h s') → zz_E zp_P zt_tf zt_fd X (d + 6) zm_328 5 [(0, .ref 61), (1, .int x1), (2, .int x2), (3, .int x3), (4, .int x4)] [] (mH h s) Q) {Q : Option Value → zz_H → Prop} {x1 : Int32} {x2 : Int32} {x4 : Int32} {y0 : Int32} {s s' : mS} {v : Option Value} (hf : mf_328_37 N rc x1 x2 x4 y0 s = some (s', v)) (k : Q v (mH h s')) : zz_E zp_P zt_tf zt_fd X (d + 6) zm_328 37 [(0, .ref 61), (1, .int x1), (2, .int x2), (4, .int x4)] [.int y0] (mH h s) Q := by
  unfold mf_328_37 at hf
  refine mb_328_37 hh  (fun c => ?_) (fun c => ?_)
  · rw [if_pos c] at hf
    exact mr_328_44 hh hrc0 hf k
  · rw [if_neg c] at hf
    exact mr_328_40 hh hrc0 hf k
def mf_328_34 (N : Nat) (rc : Nat → Int32 → Int32 → Int32 → Int32 → mS → mO) (x1 : Int32) (x2 : Int32) (x4 : Int32) (y0 : Int32) (y1 : Int32) (y2 : Int32) (y3 : Int32) (s : mS) : mO := mo_bi (mf_327 N y0 y1 y2 y3 s) (fun s1 y => mf_328_37 N rc x1 x2 x4 y s1)
theorem mr_328_34 {X : Nat → Option zz_C} {h : zz_H} (hh : 111 ≤ h.length) {d : Nat} {N : Nat} {rc : Nat → Int32 → Int32 → Int32 → Int32 → mS → mO} (hrc0 : ∀ {Q : Option Value → zz_H → Prop} {x1 : Int32} {x2 : Int32} {x3 : Int32} {x4 : Int32} {s s' : mS} {v : Option Value}, rc 0 x1 x2 x3 x4 s = some (s', v) → Q v (mH h s') → zz_E zp_P zt_tf zt_fd X (d + 6) zm_328 5 [(0, .ref 61), (1, .int x1), (2, .int x2), (3, .int x3), (4, .int x4)] [] (mH h s) Q) {Q : Option Value → zz_H → Prop} {x1 : Int32} {x2 : Int32} {x4 : Int32} {y0 : Int32} {y1 : Int32} {y2 : Int32} {y3 : Int32} {s s' : mS} {v : Option Value} (hf : mf_328_34 N rc x1 x2 x4 y0 y1 y2 y3 s = some (s', v)) (k : Q v (mH h s')) : zz_E zp_P zt_tf zt_fd X (d + 6) zm_328 34 [(0, .ref 61), (1, .int x1), (2, .int x2), (4, .int x4)] [.int y3, .int y2, .int y1, .int y0] (mH h s) Q := by
  unfold mf_328_34 at hf
  obtain ⟨s1, y, e, hf⟩ := mo_bi_ok hf
  exact mb_328_34 (d := d + 5) hh  (mr_327 (d := d + 5) hh e (mr_328_37 hh hrc0 hf k))
def mf_328_29 (N : Nat) (rc : Nat → Int32 → Int32 → Int32 → Int32 → mS → mO) (x1 : Int32) (x2 : Int32) (x4 : Int32) (y0 : Int32) (y1 : Int32) (y2 : Int32) (s : mS) : mO := mo_bi (mf_292 N x2 s) (fun s1 y => mf_328_34 N rc x1 x2 x4 y0 y1 y2 y s1)
theorem mr_328_29 {X : Nat → Option zz_C} {h : zz_H} (hh : 111 ≤ h.length) {d : Nat} {N : Nat} {rc : Nat → Int32 → Int32 → Int32 → Int32 → mS → mO} (hrc0 : ∀ {Q : Option Value → zz_H → Prop} {x1 : Int32} {x2 : Int32} {x3 : Int32} {x4 : Int32} {s s' : mS} {v : Option Value}, rc 0 x1 x2 x3 x4 s = some (s', v) → Q v (mH h s') → zz_E zp_P zt_tf zt_fd X (d + 6) zm_328 5 [(0, .ref 61), (1, .int x1), (2, .int x2), (3, .int x3), (4, .int x4)] [] (mH h s) Q) {Q : Option Value → zz_H → Prop} {x1 : Int32} {x2 : Int32} {x4 : Int32} {y0 : Int32} {y1 : Int32} {y2 : Int32} {s s' : mS} {v : Option Value} (hf : mf_328_29 N rc x1 x2 x4 y0 y1 y2 s = some (s', v)) (k : Q v (mH h s')) : zz_E zp_P zt_tf zt_fd X (d + 6) zm_328 29 [(0, .ref 61), (1, .int x1), (2, .int x2), (4, .int x4)] [.int y2, .int y1, .int y0] (mH h s) Q := by
  unfold mf_328_29 at hf
  obtain ⟨s1, y, e, hf⟩ := mo_bi_ok hf
  exact mb_328_29 (d := d + 5) hh  (mr_292 (d := d + 5) hh e (mr_328_34 hh hrc0 hf k))
def mf_328_18 (N : Nat) (rc : Nat → Int32 → Int32 → Int32 → Int32 → mS → mO) (x1 : Int32) (x2 : Int32) (x4 : Int32) (s : mS) : mO := mo_bi (mf_292 N x4 s) (fun s1 y => mf_328_29 N rc x1 x2 x4 x1 (x4 - x2) y s1)
theorem mr_328_18 {X : Nat → Option zz_C} {h : zz_H} (hh : 111 ≤ h.length) {d : Nat} {N : Nat} {rc : Nat → Int32 → Int32 → Int32 → Int32 → mS → mO} (hrc0 : ∀ {Q : Option Value → zz_H → Prop} {x1 : Int32} {x2 : Int32} {x3 : Int32} {x4 : Int32} {s s' : mS} {v : Option Value}, rc 0 x1 x2 x3 x4 s = some (s', v) → Q v (mH h s') → zz_E zp_P zt_tf zt_fd X (d + 6) zm_328 5 [(0, .ref 61), (1, .int x1), (2, .int x2), (3, .int x3), (4, .int x4)] [] (mH h s) Q) {Q : Option Value → zz_H → Prop} {x1 : Int32} {x2 : Int32} {x4 : Int32} {s s' : mS} {v : Option Value} (hf : mf_328_18 N rc x1 x2 x4 s = some (s', v)) (k : Q v (mH h s')) : zz_E zp_P zt_tf zt_fd X (d + 6) zm_328 18 [(0, .ref 61), (1, .int x1), (2, .int x2), (4, .int x4)] [] (mH h s) Q := by
  unfold mf_328_18 at hf
  obtain ⟨s1, y, e, hf⟩ := mo_bi_ok hf
  exact mb_328_18 (d := d + 5) hh  (mr_292 (d := d + 5) hh e (mr_328_29 hh hrc0 hf k))
def mf_328_14 (N : Nat) (rc : Nat → Int32 → Int32 → Int32 → Int32 → mS → mO) (x1 : Int32) (x2 : Int32) (x3 : Int32) (x4 : Int32) (s : mS) : mO := if x3 = 0 then mf_328_44 N rc x1 x2 x4 s else mf_328_18 N rc x1 x2 x4 s
theorem mr_328_14 {X : Nat → Option zz_C} {h : zz_H} (hh : 111 ≤ h.length) {d : Nat} {N : Nat} {rc : Nat → Int32 → Int32 → Int32 → Int32 → mS → mO} (hrc0 : ∀ {Q : Option Value → zz_H → Prop} {x1 : Int32} {x2 : Int32} {x3 : Int32} {x4 : Int32} {s s' : mS} {v : Option Value}, rc 0 x1 x2 x3 x4 s = some (s', v) → Q v (mH h s') → zz_E zp_P zt_tf zt_fd X (d + 6) zm_328 5 [(0, .ref 61), (1, .int x1), (2, .int x2), (3, .int x3), (4, .int x4)] [] (mH h s) Q) {Q : Option Value → zz_H → Prop} {x1 : Int32} {x2 : Int32} {x3 : Int32} {x4 : Int32} {s s' : mS} {v : Option Value} (hf : mf_328_14 N rc x1 x2 x3 x4 s = some (s', v)) (k : Q v (mH h s')) : zz_E zp_P zt_tf zt_fd X (d + 6) zm_328 14 [(0, .ref 61), (1, .int x1), (2, .int x2), (3, .int x3), (4, .int x4)] [] (mH h s) Q := by
  unfold mf_328_14 at hf
  refine mb_328_14 hh  (fun c => ?_) (fun c => ?_)
  · rw [if_pos c] at hf
    exact mr_328_44 hh hrc0 hf k
  · rw [if_neg c] at hf
    exact mr_328_18 hh hrc0 hf k
def mf_328_5 (N : Nat) (rc : Nat → Int32 → Int32 → Int32 → Int32 → mS → mO) (x1 : Int32) (x2 : Int32) (x3 : Int32) (x4 : Int32) (s : mS) : mO := if (s.1 51) ≤ x4 then mf_328_52 N x1 x2 x3 s else mf_328_14 N rc x1 x2 x3 x4 s
theorem mr_328_5 {X : Nat → Option zz_C} {h : zz_H} (hh : 111 ≤ h.length) {d : Nat} {N : Nat} {rc : Nat → Int32 → Int32 → Int32 → Int32 → mS → mO} (hrc0 : ∀ {Q : Option Value → zz_H → Prop} {x1 : Int32} {x2 : Int32} {x3 : Int32} {x4 : Int32} {s s' : mS} {v : Option Value}, rc 0 x1 x2 x3 x4 s = some (s', v) → Q v (mH h s') → zz_E zp_P zt_tf zt_fd X (d + 6) zm_328 5 [(0, .ref 61), (1, .int x1), (2, .int x2), (3, .int x3), (4, .int x4)] [] (mH h s) Q) {Q : Option Value → zz_H → Prop} {x1 : Int32} {x2 : Int32} {x3 : Int32} {x4 : Int32} {s s' : mS} {v : Option Value} (hf : mf_328_5 N rc x1 x2 x3 x4 s = some (s', v)) (k : Q v (mH h s')) : zz_E zp_P zt_tf zt_fd X (d + 6) zm_328 5 [(0, .ref 61), (1, .int x1), (2, .int x2), (3, .int x3), (4, .int x4)] [] (mH h s) Q := by
  unfold mf_328_5 at hf
  refine mb_328_5 hh  (fun c => ?_) (fun c => ?_)
  · rw [if_pos c] at hf
    exact mr_328_52 hh hf k
  · rw [if_neg c] at hf
    exact mr_328_14 hh hrc0 hf k
def mf_328_L17 (N : Nat) : Nat → Nat → Int32 → Int32 → Int32 → Int32 → mS → mO
  | 0, _, _, _, _, _, _ => none
  | n + 1, l, x1, x2, x3, x4, s => if l = 0 then mf_328_5 N (mf_328_L17 N n) x1 x2 x3 x4 s else none
theorem mr_328_L17 {X : Nat → Option zz_C} {h : zz_H} (hh : 111 ≤ h.length) {d : Nat} {N : Nat} : ∀ n : Nat, (∀ {Q : Option Value → zz_H → Prop} {x1 : Int32} {x2 : Int32} {x3 : Int32} {x4 : Int32} {s s' : mS} {v : Option Value}, mf_328_L17 N n 0 x1 x2 x3 x4 s = some (s', v) → Q v (mH h s') → zz_E zp_P zt_tf zt_fd X (d + 6) zm_328 5 [(0, .ref 61), (1, .int x1), (2, .int x2), (3, .int x3), (4, .int x4)] [] (mH h s) Q) := by
  intro n
  induction n with
  | zero => exact (fun hf _ => by cases hf)
  | succ n ih =>
    have h0 := @ih
    intro Q _ _ _ _ s s' v hf k
    unfold mf_328_L17 at hf
    rw [if_pos rfl] at hf
    exact mr_328_5 hh h0 hf k
def mf_328_0 (N : Nat) (x1 : Int32) (x2 : Int32) (s : mS) : mO := mf_328_L17 N N 0 x1 x2 1 x2 s
theorem mr_328_0 {X : Nat → Option zz_C} {h : zz_H} (hh : 111 ≤ h.length) {d : Nat} {N : Nat} {Q : Option Value → zz_H → Prop} {x1 : Int32} {x2 : Int32} {s s' : mS} {v : Option Value} (hf : mf_328_0 N x1 x2 s = some (s', v)) (k : Q v (mH h s')) : zz_E zp_P zt_tf zt_fd X (d + 6) zm_328 0 [(0, .ref 61), (1, .int x1), (2, .int x2)] [] (mH h s) Q := by
  unfold mf_328_0 at hf
  exact mb_328_0 hh  (mr_328_L17 hh N hf k)
/-- builtIn -/
def mf_328 (N : Nat) (x1 : Int32) (x2 : Int32) (s : mS) : mO := mf_328_0 N x1 x2 s
theorem mr_328 {X : Nat → Option zz_C} {h : zz_H} (hh : 111 ≤ h.length) {d : Nat} {N : Nat} {Q : Option Value → zz_H → Prop} {x1 : Int32} {x2 : Int32} {s s' : mS} {v : Option Value} (hf : mf_328 N x1 x2 s = some (s', v)) (k : Q v (mH h s')) : zz_E zp_P zt_tf zt_fd X (d + 6) zm_328 0 [(0, .ref 61), (1, .int x1), (2, .int x2)] [] (mH h s) Q := by
  unfold mf_328 at hf
  exact zz_E.weak (mr_328_0 hh hf k) rfl ⟨rfl, rfl, rfl, trivial⟩
/-! works (I)V -/
theorem mb_316_0 {X : Nat → Option zz_C} {h : zz_H} (hh : 111 ≤ h.length) {s : mS} {d : Nat} {Q : Option Value → zz_H → Prop} {x1 : Int32} (i5 : ¬ (x1 < 0 ∨ 8000 ≤ Int32.toNatClampNeg x1)) (c4 : ((s.2.2.1 23) (Int32.toNatClampNeg x1)) = 4 → zz_E zp_P zt_tf zt_fd X d zm_316 44 [(0, .ref 61), (1, .int x1)] [] (mH h s) Q) (c5 : ((s.2.2.1 23) (Int32.toNatClampNeg x1)) = 5 → zz_E zp_P zt_tf zt_fd X d zm_316 55 [(0, .ref 61), (1, .int x1)] [] (mH h s) Q) (c6 : ((s.2.2.1 23) (Int32.toNatClampNeg x1)) = 6 → zz_E zp_P zt_tf zt_fd X d zm_316 66 [(0, .ref 61), (1, .int x1)] [] (mH h s) Q) (c7 : ((s.2.2.1 23) (Int32.toNatClampNeg x1)) = 7 → zz_E zp_P zt_tf zt_fd X d zm_316 82 [(0, .ref 61)] [] (mH h s) Q) (c8 : ((s.2.2.1 23) (Int32.toNatClampNeg x1)) = 8 → zz_E zp_P zt_tf zt_fd X d zm_316 87 [(0, .ref 61), (1, .int x1)] [] (mH h s) Q) (c9 : ((s.2.2.1 23) (Int32.toNatClampNeg x1)) = 9 → zz_E zp_P zt_tf zt_fd X d zm_316 109 [(0, .ref 61), (1, .int x1)] [] (mH h s) Q) (kd : (Int32.toInt ((s.2.2.1 23) (Int32.toNatClampNeg x1)) < 4 ∨ 9 < Int32.toInt ((s.2.2.1 23) (Int32.toNatClampNeg x1))) → zz_E zp_P zt_tf zt_fd X d zm_316 130 [(0, .ref 61), (1, .int x1)] [] (mH h s) Q) : zz_E zp_P zt_tf zt_fd X d zm_316 0 [(0, .ref 61), (1, .int x1)] [] (mH h s) Q := by
  refine zz_E.n 1 rfl rfl rfl ?_
  refine mE_g hh 4 (v := .ref 71) rfl rfl rfl ?_
  refine zz_E.n 5 rfl rfl rfl ?_
  refine mE_ia hh 6 10 (f := (s.2.2.1 23)) rfl (by decide) rfl rfl i5 rfl ?_
  by_cases hx : Int32.toInt ((s.2.2.1 23) (Int32.toNatClampNeg x1)) < 4 ∨ 9 < Int32.toInt ((s.2.2.1 23) (Int32.toNatClampNeg x1))
  · exact zz_E.td 130 rfl hx (by decide) rfl (zz_E.weak (kd hx) rfl ⟨rfl, rfl, trivial⟩)
  · have hv : Int32.toInt ((s.2.2.1 23) (Int32.toNatClampNeg x1)) = 4 ∨ Int32.toInt ((s.2.2.1 23) (Int32.toNatClampNeg x1)) = 5 ∨ Int32.toInt ((s.2.2.1 23) (Int32.toNatClampNeg x1)) = 6 ∨ Int32.toInt ((s.2.2.1 23) (Int32.toNatClampNeg x1)) = 7 ∨ Int32.toInt ((s.2.2.1 23) (Int32.toNatClampNeg x1)) = 8 ∨ Int32.toInt ((s.2.2.1 23) (Int32.toNatClampNeg x1)) = 9 := by omega
    rcases hv with hv | hv | hv | hv | hv | hv
    · have e : ((s.2.2.1 23) (Int32.toNatClampNeg x1)) = 4 := Int32.toInt_inj.mp (hv.trans rfl)
      exact zz_E.tv 44 rfl e rfl (zz_E.weak (c4 e) rfl ⟨rfl, rfl, trivial⟩)
    · have e : ((s.2.2.1 23) (Int32.toNatClampNeg x1)) = 5 := Int32.toInt_inj.mp (hv.trans rfl)
      exact zz_E.tv 55 rfl e rfl (zz_E.weak (c5 e) rfl ⟨rfl, rfl, trivial⟩)
    · have e : ((s.2.2.1 23) (Int32.toNatClampNeg x1)) = 6 := Int32.toInt_inj.mp (hv.trans rfl)
      exact zz_E.tv 66 rfl e rfl (zz_E.weak (c6 e) rfl ⟨rfl, rfl, trivial⟩)
    · have e : ((s.2.2.1 23) (Int32.toNatClampNeg x1)) = 7 := Int32.toInt_inj.mp (hv.trans rfl)
      exact zz_E.tv 82 rfl e rfl (zz_E.weak (c7 e) rfl ⟨rfl, trivial⟩)
    · have e : ((s.2.2.1 23) (Int32.toNatClampNeg x1)) = 8 := Int32.toInt_inj.mp (hv.trans rfl)
      exact zz_E.tv 87 rfl e rfl (zz_E.weak (c8 e) rfl ⟨rfl, rfl, trivial⟩)
    · have e : ((s.2.2.1 23) (Int32.toNatClampNeg x1)) = 9 := Int32.toInt_inj.mp (hv.trans rfl)
      exact zz_E.tv 109 rfl e rfl (zz_E.weak (c9 e) rfl ⟨rfl, rfl, trivial⟩)
theorem mb_316_44 {X : Nat → Option zz_C} {h : zz_H} (hh : 111 ≤ h.length) {s : mS} {d : Nat} {Q : Option Value → zz_H → Prop} {x1 : Int32} (i50 : ¬ (x1 < 0 ∨ 8000 ≤ Int32.toNatClampNeg x1)) (k : zz_E zp_P zt_tf zt_fd X d zm_323 0 [(0, .ref 61), (1, .int ((s.2.2.1 24) (Int32.toNatClampNeg x1)))] [] (mH h s) (fun v h' => zz_E zp_P zt_tf zt_fd X (d + 1) zm_316 54 [] (v.toList ++ []) h' Q)) : zz_E zp_P zt_tf zt_fd X (d + 1) zm_316 44 [(0, .ref 61), (1, .int x1)] [] (mH h s) Q := by
  refine zz_E.n 45 rfl rfl rfl ?_
  refine zz_E.n 46 rfl rfl rfl ?_
  refine mE_g hh 49 (v := .ref 72) rfl rfl rfl ?_
  refine zz_E.n 50 rfl rfl rfl ?_
  refine mE_ia hh 51 11 (f := (s.2.2.1 24)) rfl (by decide) rfl rfl i50 rfl ?_
  refine mE_cv hh 54 (as := []) rfl rfl (Nat.le_of_ble_eq_true rfl) (Nat.le_of_ble_eq_true rfl) rfl (Nat.le_of_ble_eq_true rfl) rfl ?_
  refine zz_E.mono k ?_
  intro v h' hE
  exact zz_E.weak hE rfl trivial
theorem mb_316_54 {X : Nat → Option zz_C} {h : zz_H} (hh : 111 ≤ h.length) {s : mS} {d : Nat} {Q : Option Value → zz_H → Prop}  (k : Q none (mH h s)) : zz_E zp_P zt_tf zt_fd X d zm_316 54 [] [] (mH h s) Q := by
  refine zz_E.ret rfl rfl rfl ?_
  exact k
theorem mb_316_55 {X : Nat → Option zz_C} {h : zz_H} (hh : 111 ≤ h.length) {s : mS} {d : Nat} {Q : Option Value → zz_H → Prop} {x1 : Int32} (i61 : ¬ (x1 < 0 ∨ 8000 ≤ Int32.toNatClampNeg x1)) (k : zz_E zp_P zt_tf zt_fd X d zm_321 0 [(0, .ref 61), (1, .int ((s.2.2.1 24) (Int32.toNatClampNeg x1)))] [] (mH h s) (fun v h' => zz_E zp_P zt_tf zt_fd X (d + 1) zm_316 65 [] (v.toList ++ []) h' Q)) : zz_E zp_P zt_tf zt_fd X (d + 1) zm_316 55 [(0, .ref 61), (1, .int x1)] [] (mH h s) Q := by
  refine zz_E.n 56 rfl rfl rfl ?_
  refine zz_E.n 57 rfl rfl rfl ?_
  refine mE_g hh 60 (v := .ref 72) rfl rfl rfl ?_
  refine zz_E.n 61 rfl rfl rfl ?_
  refine mE_ia hh 62 11 (f := (s.2.2.1 24)) rfl (by decide) rfl rfl i61 rfl ?_
  refine mE_cv hh 65 (as := []) rfl rfl (Nat.le_of_ble_eq_true rfl) (Nat.le_of_ble_eq_true rfl) rfl (Nat.le_of_ble_eq_true rfl) rfl ?_
  refine zz_E.mono k ?_
  intro v h' hE
  exact zz_E.weak hE rfl trivial
theorem mb_316_65 {X : Nat → Option zz_C} {h : zz_H} (hh : 111 ≤ h.length) {s : mS} {d : Nat} {Q : Option Value → zz_H → Prop}  (k : Q none (mH h s)) : zz_E zp_P zt_tf zt_fd X d zm_316 65 [] [] (mH h s) Q := by
  refine zz_E.ret rfl rfl rfl ?_
  exact k
theorem mb_316_66 {X : Nat → Option zz_C} {h : zz_H} (hh : 111 ≤ h.length) {s : mS} {d : Nat} {Q : Option Value → zz_H → Prop} {x1 : Int32} (i76 : ¬ (x1 < 0 ∨ 8000 ≤ Int32.toNatClampNeg x1)) (k : zz_E zp_P zt_tf zt_fd X d zm_324 0 [(0, .ref 61), (1, .int ((s.1 51) - ((s.2.2.1 24) (Int32.toNatClampNeg x1))))] [] (mH h s) (fun v h' => zz_E zp_P zt_tf zt_fd X (d + 1) zm_316 81 [] (v.toList ++ []) h' Q)) : zz_E zp_P zt_tf zt_fd X (d + 1) zm_316 66 [(0, .ref 61), (1, .int x1)] [] (mH h s) Q := by
  refine zz_E.n 67 rfl rfl rfl ?_
  refine zz_E.n 68 rfl rfl rfl ?_
  refine mE_g hh 71 (v := .int (s.1 51)) rfl rfl rfl ?_
  refine zz_E.n 72 rfl rfl rfl ?_
  refine mE_g hh 75 (v := .ref 72) rfl rfl rfl ?_
  refine zz_E.n 76 rfl rfl rfl ?_
  refine mE_ia hh 77 11 (f := (s.2.2.1 24)) rfl (by decide) rfl rfl i76 rfl ?_
  refine zz_E.n 78 rfl rfl rfl ?_
  refine mE_cv hh 81 (as := []) rfl rfl (Nat.le_of_ble_eq_true rfl) (Nat.le_of_ble_eq_true rfl) rfl (Nat.le_of_ble_eq_true rfl) rfl ?_
  refine zz_E.mono k ?_
  intro v h' hE
  exact zz_E.weak hE rfl trivial
theorem mb_316_81 {X : Nat → Option zz_C} {h : zz_H} (hh : 111 ≤ h.length) {s : mS} {d : Nat} {Q : Option Value → zz_H → Prop}  (k : Q none (mH h s)) : zz_E zp_P zt_tf zt_fd X d zm_316 81 [] [] (mH h s) Q := by
  refine zz_E.ret rfl rfl rfl ?_
  exact k
theorem mb_316_82 {X : Nat → Option zz_C} {h : zz_H} (hh : 111 ≤ h.length) {s : mS} {d : Nat} {Q : Option Value → zz_H → Prop}  (k : zz_E zp_P zt_tf zt_fd X d zm_325 0 [(0, .ref 61)] [] (mH h s) (fun v h' => zz_E zp_P zt_tf zt_fd X (d + 1) zm_316 86 [] (v.toList ++ []) h' Q)) : zz_E zp_P zt_tf zt_fd X (d + 1) zm_316 82 [(0, .ref 61)] [] (mH h s) Q := by
  refine zz_E.n 83 rfl rfl rfl ?_
  refine mE_cv hh 86 (as := []) rfl rfl (Nat.le_of_ble_eq_true rfl) (Nat.le_of_ble_eq_true rfl) rfl (Nat.le_of_ble_eq_true rfl) rfl ?_
  refine zz_E.mono k ?_
  intro v h' hE
  exact zz_E.weak hE rfl trivial
theorem mb_316_86 {X : Nat → Option zz_C} {h : zz_H} (hh : 111 ≤ h.length) {s : mS} {d : Nat} {Q : Option Value → zz_H → Prop}  (k : Q none (mH h s)) : zz_E zp_P zt_tf zt_fd X d zm_316 86 [] [] (mH h s) Q := by
  refine zz_E.ret rfl rfl rfl ?_
  exact k
theorem mb_316_87 {X : Nat → Option zz_C} {h : zz_H} (hh : 111 ≤ h.length) {s : mS} {d : Nat} {Q : Option Value → zz_H → Prop} {x1 : Int32} (i93 : ¬ (x1 < 0 ∨ 8000 ≤ Int32.toNatClampNeg x1)) (i103 : ¬ (x1 < 0 ∨ 8000 ≤ Int32.toNatClampNeg x1)) (k : zz_E zp_P zt_tf zt_fd X d zm_328 0 [(0, .ref 61), (1, .int ((s.2.2.1 24) (Int32.toNatClampNeg x1))), (2, .int ((s.1 51) - ((s.2.2.1 25) (Int32.toNatClampNeg x1))))] [] (mH h s) (fun v h' => zz_E zp_P zt_tf zt_fd X (d + 1) zm_316 108 [] (v.toList ++ []) h' Q)) : zz_E zp_P zt_tf zt_fd X (d + 1) zm_316 87 [(0, .ref 61), (1, .int x1)] [] (mH h s) Q := by
  refine zz_E.n 88 rfl rfl rfl ?_
  refine zz_E.n 89 rfl rfl rfl ?_
  refine mE_g hh 92 (v := .ref 72) rfl rfl rfl ?_
  refine zz_E.n 93 rfl rfl rfl ?_
  refine mE_ia hh 94 11 (f := (s.2.2.1 24)) rfl (by decide) rfl rfl i93 rfl ?_
  refine zz_E.n 95 rfl rfl rfl ?_
  refine mE_g hh 98 (v := .int (s.1 51)) rfl rfl rfl ?_
  refine zz_E.n 99 rfl rfl rfl ?_
  refine mE_g hh 102 (v := .ref 73) rfl rfl rfl ?_
  refine zz_E.n 103 rfl rfl rfl ?_
  refine mE_ia hh 104 12 (f := (s.2.2.1 25)) rfl (by decide) rfl rfl i103 rfl ?_
  refine zz_E.n 105 rfl rfl rfl ?_
  refine mE_cv hh 108 (as := []) rfl rfl (Nat.le_of_ble_eq_true rfl) (Nat.le_of_ble_eq_true rfl) rfl (Nat.le_of_ble_eq_true rfl) rfl ?_
  refine zz_E.mono k ?_
  intro v h' hE
  exact zz_E.weak hE rfl trivial
theorem mb_316_108 {X : Nat → Option zz_C} {h : zz_H} (hh : 111 ≤ h.length) {s : mS} {d : Nat} {Q : Option Value → zz_H → Prop}  (k : Q none (mH h s)) : zz_E zp_P zt_tf zt_fd X d zm_316 108 [] [] (mH h s) Q := by
  refine zz_E.ret rfl rfl rfl ?_
  exact k
theorem mb_316_109 {X : Nat → Option zz_C} {h : zz_H} (hh : 111 ≤ h.length) {s : mS} {d : Nat} {Q : Option Value → zz_H → Prop} {x1 : Int32} (i115 : ¬ (x1 < 0 ∨ 8000 ≤ Int32.toNatClampNeg x1)) (i121 : ¬ (x1 < 0 ∨ 8000 ≤ Int32.toNatClampNeg x1)) (k : zz_E zp_P zt_tf zt_fd X d zm_310 0 [(0, .ref 61), (1, .int ((s.2.2.1 24) (Int32.toNatClampNeg x1))), (2, .int ((s.2.2.1 25) (Int32.toNatClampNeg x1))), (3, .int (s.1 69))] [] (mH h s) (fun v h' => zz_E zp_P zt_tf zt_fd X (d + 1) zm_316 129 [] (v.toList ++ []) h' Q)) : zz_E zp_P zt_tf zt_fd X (d + 1) zm_316 109 [(0, .ref 61), (1, .int x1)] [] (mH h s) Q := by
  refine zz_E.n 110 rfl rfl rfl ?_
  refine zz_E.n 111 rfl rfl rfl ?_
  refine mE_g hh 114 (v := .ref 72) rfl rfl rfl ?_
  refine zz_E.n 115 rfl rfl rfl ?_
  refine mE_ia hh 116 11 (f := (s.2.2.1 24)) rfl (by decide) rfl rfl i115 rfl ?_
  refine zz_E.n 117 rfl rfl rfl ?_
  refine mE_g hh 120 (v := .ref 73) rfl rfl rfl ?_
  refine zz_E.n 121 rfl rfl rfl ?_
  refine mE_ia hh 122 12 (f := (s.2.2.1 25)) rfl (by decide) rfl rfl i121 rfl ?_
  refine zz_E.n 123 rfl rfl rfl ?_
  refine mE_g hh 126 (v := .int (s.1 69)) rfl rfl rfl ?_
  refine mE_cv hh 129 (as := []) rfl rfl (Nat.le_of_ble_eq_true rfl) (Nat.le_of_ble_eq_true rfl) rfl (Nat.le_of_ble_eq_true rfl) rfl ?_
  refine zz_E.mono k ?_
  intro v h' hE
  exact zz_E.weak hE rfl trivial
theorem mb_316_129 {X : Nat → Option zz_C} {h : zz_H} (hh : 111 ≤ h.length) {s : mS} {d : Nat} {Q : Option Value → zz_H → Prop}  (k : Q none (mH h s)) : zz_E zp_P zt_tf zt_fd X d zm_316 129 [] [] (mH h s) Q := by
  refine zz_E.ret rfl rfl rfl ?_
  exact k
theorem mb_316_130 {X : Nat → Option zz_C} {h : zz_H} (hh : 111 ≤ h.length) {s : mS} {d : Nat} {Q : Option Value → zz_H → Prop} {x1 : Int32} (i140 : ¬ (((s.1 51) - 1) < 0 ∨ 9000 ≤ Int32.toNatClampNeg ((s.1 51) - 1))) (k1 : ¬ ((s.2.2.1 49) (Int32.toNatClampNeg ((s.1 51) - 1))) = 0 → zz_E zp_P zt_tf zt_fd X d zm_316 154 [(0, .ref 61), (1, .int x1)] [] (mH h s) Q) (k2 : ¬ ¬ ((s.2.2.1 49) (Int32.toNatClampNeg ((s.1 51) - 1))) = 0 → zz_E zp_P zt_tf zt_fd X d zm_316 144 [(0, .ref 61)] [] (mH h s) Q) : zz_E zp_P zt_tf zt_fd X d zm_316 130 [(0, .ref 61), (1, .int x1)] [] (mH h s) Q := by
  refine zz_E.n 131 rfl rfl rfl ?_
  refine mE_g hh 134 (v := .ref 90) rfl rfl rfl ?_
  refine zz_E.n 135 rfl rfl rfl ?_
  refine mE_g hh 138 (v := .int (s.1 51)) rfl rfl rfl ?_
  refine zz_E.c 139 (.int 1) rfl rfl rfl rfl ?_
  refine zz_E.n 140 rfl rfl rfl ?_
  refine mE_ia hh 141 29 (f := (s.2.2.1 49)) rfl (by decide) rfl rfl i140 rfl ?_
  refine zz_E.b1 154 144 (A := ¬ ((s.2.2.1 49) (Int32.toNatClampNeg ((s.1 51) - 1))) = 0) rfl (zz_cond_ne _ _) (by decide) rfl rfl (fun c => ?_) (fun c => ?_)
  · exact zz_E.weak (k1 c) rfl ⟨rfl, rfl, trivial⟩
  · exact zz_E.weak (k2 c) rfl ⟨rfl, trivial⟩
theorem mb_316_144 {X : Nat → Option zz_C} {h : zz_H} (hh : 111 ≤ h.length) {s : mS} {d : Nat} {Q : Option Value → zz_H → Prop}  (k : zz_E zp_P zt_tf zt_fd X d zm_301 0 [(0, .ref 61), (1, .int 3), (2, .int (s.1 70))] [] (mH h s) (fun v h' => zz_E zp_P zt_tf zt_fd X (d + 1) zm_316 153 [] (v.toList ++ []) h' Q)) : zz_E zp_P zt_tf zt_fd X (d + 1) zm_316 144 [(0, .ref 61)] [] (mH h s) Q := by
  refine zz_E.n 145 rfl rfl rfl ?_
  refine zz_E.c 146 (.int 3) rfl rfl rfl rfl ?_
  refine zz_E.n 147 rfl rfl rfl ?_
  refine mE_g hh 150 (v := .int (s.1 70)) rfl rfl rfl ?_
  refine mE_cv hh 153 (as := []) rfl rfl (Nat.le_of_ble_eq_true rfl) (Nat.le_of_ble_eq_true rfl) rfl (Nat.le_of_ble_eq_true rfl) rfl ?_
  refine zz_E.mono k ?_
  intro v h' hE
  exact zz_E.weak hE rfl trivial
theorem mb_316_153 {X : Nat → Option zz_C} {h : zz_H} (hh : 111 ≤ h.length) {s : mS} {d : Nat} {Q : Option Value → zz_H → Prop}  (k : Q none (mH h s)) : zz_E zp_P zt_tf zt_fd X d zm_316 153 [] [] (mH h s) Q := by
  refine zz_E.ret rfl rfl rfl ?_
  exact k
theorem mb_316_154 {X : Nat → Option zz_C} {h : zz_H} (hh : 111 ≤ h.length) {s : mS} {d : Nat} {Q : Option Value → zz_H → Prop} {x1 : Int32} (i170 : ¬ (x1 < 0 ∨ 8000 ≤ Int32.toNatClampNeg x1)) (k1 : ¬ ((s.2.2.1 24) (Int32.toNatClampNeg x1)) = 28 → zz_E zp_P zt_tf zt_fd X d zm_316 180 [(0, .ref 61)] [.ref 61] (mH h (mI s 51 ((s.1 51) - 1))) Q) (k2 : ¬ ¬ ((s.2.2.1 24) (Int32.toNatClampNeg x1)) = 28 → zz_E zp_P zt_tf zt_fd X d zm_316 176 [(0, .ref 61)] [.ref 61] (mH h (mI s 51 ((s.1 51) - 1))) Q) : zz_E zp_P zt_tf zt_fd X d zm_316 154 [(0, .ref 61), (1, .int x1)] [] (mH h s) Q := by
  refine zz_E.n 155 rfl rfl rfl ?_
  refine zz_E.n 156 rfl rfl rfl ?_
  refine mE_g hh 159 (v := .int (s.1 51)) rfl rfl rfl ?_
  refine zz_E.c 160 (.int 1) rfl rfl rfl rfl ?_
  refine zz_E.n 161 rfl rfl rfl ?_
  refine mE_p hh 164 rfl (by decide) rfl (mF_51 _ _) rfl ?_
  refine zz_E.n 165 rfl rfl rfl ?_
  refine zz_E.n 166 rfl rfl rfl ?_
  refine mE_g hh 169 (v := .ref 72) rfl rfl rfl ?_
  refine zz_E.n 170 rfl rfl rfl ?_
  refine mE_ia hh 171 11 (f := (s.2.2.1 24)) rfl (by decide) rfl rfl i170 rfl ?_
  refine zz_E.c 173 (.int 28) rfl rfl rfl rfl ?_
  refine zz_E.b2 180 176 (A := ¬ ((s.2.2.1 24) (Int32.toNatClampNeg x1)) = 28) rfl (zz_cond_ne _ _) (by decide) rfl rfl (fun c => ?_) (fun c => ?_)
  · exact zz_E.weak (k1 c) rfl ⟨rfl, trivial⟩
  · exact zz_E.weak (k2 c) rfl ⟨rfl, trivial⟩
theorem mb_316_176 {X : Nat → Option zz_C} {h : zz_H} (hh : 111 ≤ h.length) {s : mS} {d : Nat} {Q : Option Value → zz_H → Prop}  (k : zz_E zp_P zt_tf zt_fd X d zm_316 181 [(0, .ref 61)] [.int 3, .ref 61] (mH h s) Q) : zz_E zp_P zt_tf zt_fd X d zm_316 176 [(0, .ref 61)] [.ref 61] (mH h s) Q := by
  refine zz_E.c 177 (.int 3) rfl rfl rfl rfl ?_
  refine zz_E.n 181 rfl rfl rfl ?_
  exact zz_E.weak k rfl ⟨rfl, trivial⟩
theorem mb_316_180 {X : Nat → Option zz_C} {h : zz_H} (hh : 111 ≤ h.length) {s : mS} {d : Nat} {Q : Option Value → zz_H → Prop}  (k : zz_E zp_P zt_tf zt_fd X d zm_316 181 [(0, .ref 61)] [.int 4, .ref 61] (mH h s) Q) : zz_E zp_P zt_tf zt_fd X d zm_316 180 [(0, .ref 61)] [.ref 61] (mH h s) Q := by
  refine zz_E.c 181 (.int 4) rfl rfl rfl rfl ?_
  exact zz_E.weak k rfl ⟨rfl, trivial⟩
theorem mb_316_181 {X : Nat → Option zz_C} {h : zz_H} (hh : 111 ≤ h.length) {s : mS} {d : Nat} {Q : Option Value → zz_H → Prop} {y1 : Int32} (i189 : ¬ ((s.1 51) < 0 ∨ 9000 ≤ Int32.toNatClampNeg (s.1 51))) (i199 : ¬ ((s.1 51) < 0 ∨ 9000 ≤ Int32.toNatClampNeg (s.1 51))) (k : zz_E zp_P zt_tf zt_fd X d zm_77 0 [(0, .ref 61), (1, .int ((s.2.2.1 50) (Int32.toNatClampNeg (s.1 51))))] [] (mH h s) (fun v h' => zz_E zp_P zt_tf zt_fd X (d + 1) zm_316 203 [(0, .ref 61)] (v.toList ++ [.int ((s.2.2.1 50) (Int32.toNatClampNeg (s.1 51))), .int y1, .ref 61]) h' Q)) : zz_E zp_P zt_tf zt_fd X (d + 1) zm_316 181 [(0, .ref 61)] [.int y1, .ref 61] (mH h s) Q := by
  refine zz_E.n 182 rfl rfl rfl ?_
  refine mE_g hh 185 (v := .ref 91) rfl rfl rfl ?_
  refine zz_E.n 186 rfl rfl rfl ?_
  refine mE_g hh 189 (v := .int (s.1 51)) rfl rfl rfl ?_
  refine mE_ia hh 190 30 (f := (s.2.2.1 50)) rfl (by decide) rfl rfl i189 rfl ?_
  refine zz_E.n 191 rfl rfl rfl ?_
  refine zz_E.n 192 rfl rfl rfl ?_
  refine mE_g hh 195 (v := .ref 91) rfl rfl rfl ?_
  refine zz_E.n 196 rfl rfl rfl ?_
  refine mE_g hh 199 (v := .int (s.1 51)) rfl rfl rfl ?_
  refine mE_ia hh 200 30 (f := (s.2.2.1 50)) rfl (by decide) rfl rfl i199 rfl ?_
  refine mE_cv hh 203 (as := [.int ((s.2.2.1 50) (Int32.toNatClampNeg (s.1 51))), .int y1, .ref 61]) rfl rfl (Nat.le_of_ble_eq_true rfl) (Nat.le_of_ble_eq_true rfl) rfl (Nat.le_of_ble_eq_true rfl) rfl ?_
  refine zz_E.mono k ?_
  intro v h' hE
  exact zz_E.weak hE rfl ⟨rfl, trivial⟩
theorem mb_316_203 {X : Nat → Option zz_C} {h : zz_H} (hh : 111 ≤ h.length) {s : mS} {d : Nat} {Q : Option Value → zz_H → Prop} {y1 : Int32} {y2 : Int32} {y3 : Int32} (k : zz_E zp_P zt_tf zt_fd X d zm_311 0 [(0, .ref 61), (1, .int y1), (2, .int y2), (3, .int y3), (4, .int (s.1 51))] [] (mH h s) (fun v h' => zz_E zp_P zt_tf zt_fd X (d + 1) zm_316 210 [] (v.toList ++ []) h' Q)) : zz_E zp_P zt_tf zt_fd X (d + 1) zm_316 203 [(0, .ref 61)] [.int y3, .int y2, .int y1, .ref 61] (mH h s) Q := by
  refine zz_E.n 204 rfl rfl rfl ?_
  refine mE_g hh 207 (v := .int (s.1 51)) rfl rfl rfl ?_
  refine mE_cv hh 210 (as := []) rfl rfl (Nat.le_of_ble_eq_true rfl) (Nat.le_of_ble_eq_true rfl) rfl (Nat.le_of_ble_eq_true rfl) rfl ?_
  refine zz_E.mono k ?_
  intro v h' hE
  exact zz_E.weak hE rfl trivial
theorem mb_316_210 {X : Nat → Option zz_C} {h : zz_H} (hh : 111 ≤ h.length) {s : mS} {d : Nat} {Q : Option Value → zz_H → Prop}  (k : Q none (mH h s)) : zz_E zp_P zt_tf zt_fd X d zm_316 210 [] [] (mH h s) Q := by
  refine zz_E.ret rfl rfl rfl ?_
  exact k
def mf_316_54 (N : Nat)  (s : mS) : mO := some (s, none)
theorem mr_316_54 {X : Nat → Option zz_C} {h : zz_H} (hh : 111 ≤ h.length) {d : Nat} {N : Nat} {Q : Option Value → zz_H → Prop}  {s s' : mS} {v : Option Value} (hf : mf_316_54 N  s = some (s', v)) (k : Q v (mH h s')) : zz_E zp_P zt_tf zt_fd X (d + 7) zm_316 54 [] [] (mH h s) Q := by
  unfold mf_316_54 at hf
  cases hf
  exact mb_316_54 hh  k
def mf_316_44 (N : Nat) (x1 : Int32) (s : mS) : mO := if ¬ (x1 < 0 ∨ 8000 ≤ Int32.toNatClampNeg x1) then (mo_bv (mf_323 N ((s.2.2.1 24) (Int32.toNatClampNeg x1)) s) (fun s1 => mf_316_54 N  s1)) else none
theorem mr_316_44 {X : Nat → Option zz_C} {h : zz_H} (hh : 111 ≤ h.length) {d : Nat} {N : Nat} {Q : Option Value → zz_H → Prop} {x1 : Int32} {s s' : mS} {v : Option Value} (hf : mf_316_44 N x1 s = some (s', v)) (k : Q v (mH h s')) : zz_E zp_P zt_tf zt_fd X (d + 7) zm_316 44 [(0, .ref 61), (1, .int x1)] [] (mH h s) Q := by
  unfold mf_316_44 at hf
  obtain ⟨q0, hf⟩ := mo_if hf
  obtain ⟨s1, e, hf⟩ := mo_bv_ok hf
  exact mb_316_44 (d := d + 6) hh q0 (mr_323 (d := d + 2) hh e (mr_316_54 hh hf k))
def mf_316_65 (N : Nat)  (s : mS) : mO := some (s, none)
theorem mr_316_65 {X : Nat → Option zz_C} {h : zz_H} (hh : 111 ≤ h.length) {d : Nat} {N : Nat} {Q : Option Value → zz_H → Prop}  {s s' : mS} {v : Option Value} (hf : mf_316_65 N  s = some (s', v)) (k : Q v (mH h s')) : zz_E zp_P zt_tf zt_fd X (d + 7) zm_316 65 [] [] (mH h s) Q := by
  unfold mf_316_65 at hf
  cases hf
  exact mb_316_65 hh  k
def mf_316_55 (N : Nat) (x1 : Int32) (s : mS) : mO := if ¬ (x1 < 0 ∨ 8000 ≤ Int32.toNatClampNeg x1) then (mo_bv (mf_321 N ((s.2.2.1 24) (Int32.toNatClampNeg x1)) s) (fun s1 => mf_316_65 N  s1)) else none
theorem mr_316_55 {X : Nat → Option zz_C} {h : zz_H} (hh : 111 ≤ h.length) {d : Nat} {N : Nat} {Q : Option Value → zz_H → Prop} {x1 : Int32} {s s' : mS} {v : Option Value} (hf : mf_316_55 N x1 s = some (s', v)) (k : Q v (mH h s')) : zz_E zp_P zt_tf zt_fd X (d + 7) zm_316 55 [(0, .ref 61), (1, .int x1)] [] (mH h s) Q := by
  unfold mf_316_55 at hf
  obtain ⟨q0, hf⟩ := mo_if hf
  obtain ⟨s1, e, hf⟩ := mo_bv_ok hf
  exact mb_316_55 (d := d + 6) hh q0 (mr_321 (d := d + 2) hh e (mr_316_65 hh hf k))
def mf_316_81 (N : Nat)  (s : mS) : mO := some (s, none)
theorem mr_316_81 {X : Nat → Option zz_C} {h : zz_H} (hh : 111 ≤ h.length) {d : Nat} {N : Nat} {Q : Option Value → zz_H → Prop}  {s s' : mS} {v : Option Value} (hf : mf_316_81 N  s = some (s', v)) (k : Q v (mH h s')) : zz_E zp_P zt_tf zt_fd X (d + 7) zm_316 81 [] [] (mH h s) Q := by
  unfold mf_316_81 at hf
  cases hf
  exact mb_316_81 hh  k
def mf_316_66 (N : Nat) (x1 : Int32) (s : mS) : mO := if ¬ (x1 < 0 ∨ 8000 ≤ Int32.toNatClampNeg x1) then (mo_bv (mf_324 N ((s.1 51) - ((s.2.2.1 24) (Int32.toNatClampNeg x1))) s) (fun s1 => mf_316_81 N  s1)) else none
theorem mr_316_66 {X : Nat → Option zz_C} {h : zz_H} (hh : 111 ≤ h.length) {d : Nat} {N : Nat} {Q : Option Value → zz_H → Prop} {x1 : Int32} {s s' : mS} {v : Option Value} (hf : mf_316_66 N x1 s = some (s', v)) (k : Q v (mH h s')) : zz_E zp_P zt_tf zt_fd X (d + 7) zm_316 66 [(0, .ref 61), (1, .int x1)] [] (mH h s) Q := by
  unfold mf_316_66 at hf
  obtain ⟨q0, hf⟩ := mo_if hf
  obtain ⟨s1, e, hf⟩ := mo_bv_ok hf
  exact mb_316_66 (d := d + 6) hh q0 (mr_324 (d := d + 2) hh e (mr_316_81 hh hf k))
def mf_316_86 (N : Nat)  (s : mS) : mO := some (s, none)
theorem mr_316_86 {X : Nat → Option zz_C} {h : zz_H} (hh : 111 ≤ h.length) {d : Nat} {N : Nat} {Q : Option Value → zz_H → Prop}  {s s' : mS} {v : Option Value} (hf : mf_316_86 N  s = some (s', v)) (k : Q v (mH h s')) : zz_E zp_P zt_tf zt_fd X (d + 7) zm_316 86 [] [] (mH h s) Q := by
  unfold mf_316_86 at hf
  cases hf
  exact mb_316_86 hh  k
def mf_316_82 (N : Nat)  (s : mS) : mO := mo_bv (mf_325 N  s) (fun s1 => mf_316_86 N  s1)
theorem mr_316_82 {X : Nat → Option zz_C} {h : zz_H} (hh : 111 ≤ h.length) {d : Nat} {N : Nat} {Q : Option Value → zz_H → Prop}  {s s' : mS} {v : Option Value} (hf : mf_316_82 N  s = some (s', v)) (k : Q v (mH h s')) : zz_E zp_P zt_tf zt_fd X (d + 7) zm_316 82 [(0, .ref 61)] [] (mH h s) Q := by
  unfold mf_316_82 at hf
  obtain ⟨s1, e, hf⟩ := mo_bv_ok hf
  exact mb_316_82 (d := d + 6) hh  (mr_325 (d := d + 2) hh e (mr_316_86 hh hf k))
def mf_316_108 (N : Nat)  (s : mS) : mO := some (s, none)
theorem mr_316_108 {X : Nat → Option zz_C} {h : zz_H} (hh : 111 ≤ h.length) {d : Nat} {N : Nat} {Q : Option Value → zz_H → Prop}  {s s' : mS} {v : Option Value} (hf : mf_316_108 N  s = some (s', v)) (k : Q v (mH h s')) : zz_E zp_P zt_tf zt_fd X (d + 7) zm_316 108 [] [] (mH h s) Q := by
  unfold mf_316_108 at hf
  cases hf
  exact mb_316_108 hh  k
def mf_316_87 (N : Nat) (x1 : Int32) (s : mS) : mO := if ¬ (x1 < 0 ∨ 8000 ≤ Int32.toNatClampNeg x1) then (if ¬ (x1 < 0 ∨ 8000 ≤ Int32.toNatClampNeg x1) then (mo_bv (mf_328 N ((s.2.2.1 24) (Int32.toNatClampNeg x1)) ((s.1 51) - ((s.2.2.1 25) (Int32.toNatClampNeg x1))) s) (fun s1 => mf_316_108 N  s1)) else none) else none
theorem mr_316_87 {X : Nat → Option zz_C} {h : zz_H} (hh : 111 ≤ h.length) {d : Nat} {N : Nat} {Q : Option Value → zz_H → Prop} {x1 : Int32} {s s' : mS} {v : Option Value} (hf : mf_316_87 N x1 s = some (s', v)) (k : Q v (mH h s')) : zz_E zp_P zt_tf zt_fd X (d + 7) zm_316 87 [(0, .ref 61), (1, .int x1)] [] (mH h s) Q := by
  unfold mf_316_87 at hf
  obtain ⟨q0, hf⟩ := mo_if hf
  obtain ⟨q1, hf⟩ := mo_if hf
  obtain ⟨s1, e, hf⟩ := mo_bv_ok hf
  exact mb_316_87 (d := d + 6) hh q0 q1 (mr_328 (d := d + 0) hh e (mr_316_108 hh hf k))
def mf_316_129 (N : Nat)  (s : mS) : mO := some (s, none)
theorem mr_316_129 {X : Nat → Option zz_C} {h : zz_H} (hh : 111 ≤ h.length) {d : Nat} {N : Nat} {Q : Option Value → zz_H → Prop}  {s s' : mS} {v : Option Value} (hf : mf_316_129 N  s = some (s', v)) (k : Q v (mH h s')) : zz_E zp_P zt_tf zt_fd X (d + 7) zm_316 129 [] [] (mH h s) Q := by
  unfold mf_316_129 at hf
  cases hf
  exact mb_316_129 hh  k
def mf_316_109 (N : Nat) (x1 : Int32) (s : mS) : mO := if ¬ (x1 < 0 ∨ 8000 ≤ Int32.toNatClampNeg x1) then (if ¬ (x1 < 0 ∨ 8000 ≤ Int32.toNatClampNeg x1) then (mo_bv (mf_310 N ((s.2.2.1 24) (Int32.toNatClampNeg x1)) ((s.2.2.1 25) (Int32.toNatClampNeg x1)) (s.1 69) s) (fun s1 => mf_316_129 N  s1)) else none) else none
theorem mr_316_109 {X : Nat → Option zz_C} {h : zz_H} (hh : 111 ≤ h.length) {d : Nat} {N : Nat} {Q : Option Value → zz_H → Prop} {x1 : Int32} {s s' : mS} {v : Option Value} (hf : mf_316_109 N x1 s = some (s', v)) (k : Q v (mH h s')) : zz_E zp_P zt_tf zt_fd X (d + 7) zm_316 109 [(0, .ref 61), (1, .int x1)] [] (mH h s) Q := by
  unfold mf_316_109 at hf
  obtain ⟨q0, hf⟩ := mo_if hf
  obtain ⟨q1, hf⟩ := mo_if hf
  obtain ⟨s1, e, hf⟩ := mo_bv_ok hf
  exact mb_316_109 (d := d + 6) hh q0 q1 (mr_310 (d := d + 5) hh e (mr_316_129 hh hf k))
def mf_316_210 (N : Nat)  (s : mS) : mO := some (s, none)
theorem mr_316_210 {X : Nat → Option zz_C} {h : zz_H} (hh : 111 ≤ h.length) {d : Nat} {N : Nat} {Q : Option Value → zz_H → Prop}  {s s' : mS} {v : Option Value} (hf : mf_316_210 N  s = some (s', v)) (k : Q v (mH h s')) : zz_E zp_P zt_tf zt_fd X (d + 7) zm_316 210 [] [] (mH h s) Q := by
  unfold mf_316_210 at hf
  cases hf
  exact mb_316_210 hh  k
def mf_316_203 (N : Nat) (y1 : Int32) (y2 : Int32) (y3 : Int32) (s : mS) : mO := mo_bv (mf_311 N y1 y2 y3 (s.1 51) s) (fun s1 => mf_316_210 N  s1)
theorem mr_316_203 {X : Nat → Option zz_C} {h : zz_H} (hh : 111 ≤ h.length) {d : Nat} {N : Nat} {Q : Option Value → zz_H → Prop} {y1 : Int32} {y2 : Int32} {y3 : Int32} {s s' : mS} {v : Option Value} (hf : mf_316_203 N y1 y2 y3 s = some (s', v)) (k : Q v (mH h s')) : zz_E zp_P zt_tf zt_fd X (d + 7) zm_316 203 [(0, .ref 61)] [.int y3, .int y2, .int y1, .ref 61] (mH h s) Q := by
  unfold mf_316_203 at hf
  obtain ⟨s1, e, hf⟩ := mo_bv_ok hf
  exact mb_316_203 (d := d + 6) hh  (mr_311 (d := d + 6) hh e (mr_316_210 hh hf k))
def mf_316_181 (N : Nat) (y1 : Int32) (s : mS) : mO := if ¬ ((s.1 51) < 0 ∨ 9000 ≤ Int32.toNatClampNeg (s.1 51)) then (if ¬ ((s.1 51) < 0 ∨ 9000 ≤ Int32.toNatClampNeg (s.1 51)) then (mo_bi (mf_77 N ((s.2.2.1 50) (Int32.toNatClampNeg (s.1 51))) s) (fun s1 y => mf_316_203 N y1 ((s.2.2.1 50) (Int32.toNatClampNeg (s.1 51))) y s1)) else none) else none
theorem mr_316_181 {X : Nat → Option zz_C} {h : zz_H} (hh : 111 ≤ h.length) {d : Nat} {N : Nat} {Q : Option Value → zz_H → Prop} {y1 : Int32} {s s' : mS} {v : Option Value} (hf : mf_316_181 N y1 s = some (s', v)) (k : Q v (mH h s')) : zz_E zp_P zt_tf zt_fd X (d + 7) zm_316 181 [(0, .ref 61)] [.int y1, .ref 61] (mH h s) Q := by
  unfold mf_316_181 at hf
  obtain ⟨q0, hf⟩ := mo_if hf
  obtain ⟨q1, hf⟩ := mo_if hf
  obtain ⟨s1, y, e, hf⟩ := mo_bi_ok hf
  exact mb_316_181 (d := d + 6) hh q0 q1 (mr_77 (d := d + 6) hh e (mr_316_203 hh hf k))
def mf_316_180 (N : Nat)  (s : mS) : mO := mf_316_181 N 4 s
theorem mr_316_180 {X : Nat → Option zz_C} {h : zz_H} (hh : 111 ≤ h.length) {d : Nat} {N : Nat} {Q : Option Value → zz_H → Prop}  {s s' : mS} {v : Option Value} (hf : mf_316_180 N  s = some (s', v)) (k : Q v (mH h s')) : zz_E zp_P zt_tf zt_fd X (d + 7) zm_316 180 [(0, .ref 61)] [.ref 61] (mH h s) Q := by
  unfold mf_316_180 at hf
  exact mb_316_180 hh  (mr_316_181 hh hf k)
def mf_316_176 (N : Nat)  (s : mS) : mO := mf_316_181 N 3 s
theorem mr_316_176 {X : Nat → Option zz_C} {h : zz_H} (hh : 111 ≤ h.length) {d : Nat} {N : Nat} {Q : Option Value → zz_H → Prop}  {s s' : mS} {v : Option Value} (hf : mf_316_176 N  s = some (s', v)) (k : Q v (mH h s')) : zz_E zp_P zt_tf zt_fd X (d + 7) zm_316 176 [(0, .ref 61)] [.ref 61] (mH h s) Q := by
  unfold mf_316_176 at hf
  exact mb_316_176 hh  (mr_316_181 hh hf k)
def mf_316_154 (N : Nat) (x1 : Int32) (s : mS) : mO := if ¬ (x1 < 0 ∨ 8000 ≤ Int32.toNatClampNeg x1) then (if ¬ ((s.2.2.1 24) (Int32.toNatClampNeg x1)) = 28 then mf_316_180 N  (mI s 51 ((s.1 51) - 1)) else mf_316_176 N  (mI s 51 ((s.1 51) - 1))) else none
theorem mr_316_154 {X : Nat → Option zz_C} {h : zz_H} (hh : 111 ≤ h.length) {d : Nat} {N : Nat} {Q : Option Value → zz_H → Prop} {x1 : Int32} {s s' : mS} {v : Option Value} (hf : mf_316_154 N x1 s = some (s', v)) (k : Q v (mH h s')) : zz_E zp_P zt_tf zt_fd X (d + 7) zm_316 154 [(0, .ref 61), (1, .int x1)] [] (mH h s) Q := by
  unfold mf_316_154 at hf
  obtain ⟨q0, hf⟩ := mo_if hf
  refine mb_316_154 hh q0 (fun c => ?_) (fun c => ?_)
  · rw [if_pos c] at hf
    exact mr_316_180 hh hf k
  · rw [if_neg c] at hf
    exact mr_316_176 hh hf k
def mf_316_153 (N : Nat)  (s : mS) : mO := some (s, none)
theorem mr_316_153 {X : Nat → Option zz_C} {h : zz_H} (hh : 111 ≤ h.length) {d : Nat} {N : Nat} {Q : Option Value → zz_H → Prop}  {s s' : mS} {v : Option Value} (hf : mf_316_153 N  s = some (s', v)) (k : Q v (mH h s')) : zz_E zp_P zt_tf zt_fd X (d + 7) zm_316 153 [] [] (mH h s) Q := by
  unfold mf_316_153 at hf
  cases hf
  exact mb_316_153 hh  k
def mf_316_144 (N : Nat)  (s : mS) : mO := mo_bv (mf_301 N 3 (s.1 70) s) (fun s1 => mf_316_153 N  s1)
theorem mr_316_144 {X : Nat → Option zz_C} {h : zz_H} (hh : 111 ≤ h.length) {d : Nat} {N : Nat} {Q : Option Value → zz_H → Prop}  {s s' : mS} {v : Option Value} (hf : mf_316_144 N  s = some (s', v)) (k : Q v (mH h s')) : zz_E zp_P zt_tf zt_fd X (d + 7) zm_316 144 [(0, .ref 61)] [] (mH h s) Q := by
  unfold mf_316_144 at hf
  obtain ⟨s1, e, hf⟩ := mo_bv_ok hf
  exact mb_316_144 (d := d + 6) hh  (mr_301 (d := d + 6) hh e (mr_316_153 hh hf k))
def mf_316_130 (N : Nat) (x1 : Int32) (s : mS) : mO := if ¬ (((s.1 51) - 1) < 0 ∨ 9000 ≤ Int32.toNatClampNeg ((s.1 51) - 1)) then (if ¬ ((s.2.2.1 49) (Int32.toNatClampNeg ((s.1 51) - 1))) = 0 then mf_316_154 N x1 s else mf_316_144 N  s) else none
theorem mr_316_130 {X : Nat → Option zz_C} {h : zz_H} (hh : 111 ≤ h.length) {d : Nat} {N : Nat} {Q : Option Value → zz_H → Prop} {x1 : Int32} {s s' : mS} {v : Option Value} (hf : mf_316_130 N x1 s = some (s', v)) (k : Q v (mH h s')) : zz_E zp_P zt_tf zt_fd X (d + 7) zm_316 130 [(0, .ref 61), (1, .int x1)] [] (mH h s) Q := by
  unfold mf_316_130 at hf
  obtain ⟨q0, hf⟩ := mo_if hf
  refine mb_316_130 hh q0 (fun c => ?_) (fun c => ?_)
  · rw [if_pos c] at hf
    exact mr_316_154 hh hf k
  · rw [if_neg c] at hf
    exact mr_316_144 hh hf k
def mf_316_0 (N : Nat) (x1 : Int32) (s : mS) : mO := if ¬ (x1 < 0 ∨ 8000 ≤ Int32.toNatClampNeg x1) then (if (Int32.toInt ((s.2.2.1 23) (Int32.toNatClampNeg x1)) < 4 ∨ 9 < Int32.toInt ((s.2.2.1 23) (Int32.toNatClampNeg x1))) then mf_316_130 N x1 s else if ((s.2.2.1 23) (Int32.toNatClampNeg x1)) = 4 then mf_316_44 N x1 s else if ((s.2.2.1 23) (Int32.toNatClampNeg x1)) = 5 then mf_316_55 N x1 s else if ((s.2.2.1 23) (Int32.toNatClampNeg x1)) = 6 then mf_316_66 N x1 s else if ((s.2.2.1 23) (Int32.toNatClampNeg x1)) = 7 then mf_316_82 N  s else if ((s.2.2.1 23) (Int32.toNatClampNeg x1)) = 8 then mf_316_87 N x1 s else if ((s.2.2.1 23) (Int32.toNatClampNeg x1)) = 9 then mf_316_109 N x1 s else none) else none
theorem mr_316_0 {X : Nat → Option zz_C} {h : zz_H} (hh : 111 ≤ h.length) {d : Nat} {N : Nat} {Q : Option Value → zz_H → Prop} {x1 : Int32} {s s' : mS} {v : Option Value} (hf : mf_316_0 N x1 s = some (s', v)) (k : Q v (mH h s')) : zz_E zp_P zt_tf zt_fd X (d + 7) zm_316 0 [(0, .ref 61), (1, .int x1)] [] (mH h s) Q := by
  unfold mf_316_0 at hf
  obtain ⟨q0, hf⟩ := mo_if hf
  refine mb_316_0 hh q0 (fun c => ?_) (fun c => ?_) (fun c => ?_) (fun c => ?_) (fun c => ?_) (fun c => ?_) (fun c => ?_)
  · rw [if_neg (by rw [c]; decide)] at hf
    rw [if_pos c] at hf
    exact mr_316_44 hh hf k
  · rw [if_neg (by rw [c]; decide)] at hf
    rw [if_neg (by rw [c]; decide)] at hf
    rw [if_pos c] at hf
    exact mr_316_55 hh hf k
  · rw [if_neg (by rw [c]; decide)] at hf
    rw [if_neg (by rw [c]; decide)] at hf
    rw [if_neg (by rw [c]; decide)] at hf
    rw [if_pos c] at hf
    exact mr_316_66 hh hf k
  · rw [if_neg (by rw [c]; decide)] at hf
    rw [if_neg (by rw [c]; decide)] at hf
    rw [if_neg (by rw [c]; decide)] at hf
    rw [if_neg (by rw [c]; decide)] at hf
    rw [if_pos c] at hf
    exact mr_316_82 hh hf k
  · rw [if_neg (by rw [c]; decide)] at hf
    rw [if_neg (by rw [c]; decide)] at hf
    rw [if_neg (by rw [c]; decide)] at hf
    rw [if_neg (by rw [c]; decide)] at hf
    rw [if_neg (by rw [c]; decide)] at hf
    rw [if_pos c] at hf
    exact mr_316_87 hh hf k
  · rw [if_neg (by rw [c]; decide)] at hf
    rw [if_neg (by rw [c]; decide)] at hf
    rw [if_neg (by rw [c]; decide)] at hf
    rw [if_neg (by rw [c]; decide)] at hf
    rw [if_neg (by rw [c]; decide)] at hf
    rw [if_neg (by rw [c]; decide)] at hf
    rw [if_pos c] at hf
    exact mr_316_109 hh hf k
  · rw [if_pos c] at hf
    exact mr_316_130 hh hf k
/-- works -/
def mf_316 (N : Nat) (x1 : Int32) (s : mS) : mO := mf_316_0 N x1 s
theorem mr_316 {X : Nat → Option zz_C} {h : zz_H} (hh : 111 ≤ h.length) {d : Nat} {N : Nat} {Q : Option Value → zz_H → Prop} {x1 : Int32} {s s' : mS} {v : Option Value} (hf : mf_316 N x1 s = some (s', v)) (k : Q v (mH h s')) : zz_E zp_P zt_tf zt_fd X (d + 7) zm_316 0 [(0, .ref 61), (1, .int x1)] [] (mH h s) Q := by
  unfold mf_316 at hf
  exact zz_E.weak (mr_316_0 hh hf k) rfl ⟨rfl, rfl, trivial⟩
