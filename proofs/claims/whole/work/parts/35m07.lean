/-! function ()V -/
theorem mb_66_0 {X : Nat → Option zz_C} {h : zz_H} (hh : 111 ≤ h.length) {s : mS} {d : Nat} {Q : Option Value → zz_H → Prop}  (k1 : (s.1 9) ≤ 0 → zz_E zp_P zt_tf zt_fd X d zm_66 8 [(0, .ref 61)] [] (mH h s) Q) (k2 : ¬ (s.1 9) ≤ 0 → zz_E zp_P zt_tf zt_fd X d zm_66 7 [] [] (mH h s) Q) : zz_E zp_P zt_tf zt_fd X d zm_66 0 [(0, .ref 61)] [] (mH h s) Q := by
  refine zz_E.n 1 rfl rfl rfl ?_
  refine mE_g hh 4 (v := .int (s.1 9)) rfl rfl rfl ?_
  refine zz_E.b1 8 7 (A := (s.1 9) ≤ 0) rfl rfl (by decide) rfl rfl (fun c => ?_) (fun c => ?_)
  · exact zz_E.weak (k1 c) rfl ⟨rfl, trivial⟩
  · exact zz_E.weak (k2 c) rfl trivial
theorem mb_66_7 {X : Nat → Option zz_C} {h : zz_H} (hh : 111 ≤ h.length) {s : mS} {d : Nat} {Q : Option Value → zz_H → Prop}  (k : Q none (mH h s)) : zz_E zp_P zt_tf zt_fd X d zm_66 7 [] [] (mH h s) Q := by
  refine zz_E.ret rfl rfl rfl ?_
  exact k
theorem mb_66_8 {X : Nat → Option zz_C} {h : zz_H} (hh : 111 ≤ h.length) {s : mS} {d : Nat} {Q : Option Value → zz_H → Prop}  (k : zz_E zp_P zt_tf zt_fd X d zm_266 0 [(0, .ref 61)] [] (mH h s) (fun v h' => zz_E zp_P zt_tf zt_fd X (d + 1) zm_66 12 [(0, .ref 61)] (v.toList ++ []) h' Q)) : zz_E zp_P zt_tf zt_fd X (d + 1) zm_66 8 [(0, .ref 61)] [] (mH h s) Q := by
  refine zz_E.n 9 rfl rfl rfl ?_
  refine mE_cv hh 12 (as := []) rfl rfl (Nat.le_of_ble_eq_true rfl) (Nat.le_of_ble_eq_true rfl) rfl (Nat.le_of_ble_eq_true rfl) rfl ?_
  refine zz_E.mono k ?_
  intro v h' hE
  exact zz_E.weak hE rfl ⟨rfl, trivial⟩
theorem mb_66_12 {X : Nat → Option zz_C} {h : zz_H} (hh : 111 ≤ h.length) {s : mS} {d : Nat} {Q : Option Value → zz_H → Prop} {y0 : Int32} (k1 : ¬ y0 = 0 → zz_E zp_P zt_tf zt_fd X d zm_66 20 [(0, .ref 61)] [] (mH h s) Q) (k2 : ¬ ¬ y0 = 0 → zz_E zp_P zt_tf zt_fd X d zm_66 15 [(0, .ref 61)] [] (mH h s) Q) : zz_E zp_P zt_tf zt_fd X d zm_66 12 [(0, .ref 61)] [.int y0] (mH h s) Q := by
  refine zz_E.b1 20 15 (A := ¬ y0 = 0) rfl (zz_cond_ne _ _) (by decide) rfl rfl (fun c => ?_) (fun c => ?_)
  · exact zz_E.weak (k1 c) rfl ⟨rfl, trivial⟩
  · exact zz_E.weak (k2 c) rfl ⟨rfl, trivial⟩
theorem mb_66_15 {X : Nat → Option zz_C} {h : zz_H} (hh : 111 ≤ h.length) {s : mS} {d : Nat} {Q : Option Value → zz_H → Prop}  (k : zz_E zp_P zt_tf zt_fd X d zm_262 0 [(0, .ref 61)] [] (mH h s) (fun v h' => zz_E zp_P zt_tf zt_fd X (d + 1) zm_66 19 [] (v.toList ++ []) h' Q)) : zz_E zp_P zt_tf zt_fd X (d + 1) zm_66 15 [(0, .ref 61)] [] (mH h s) Q := by
  refine zz_E.n 16 rfl rfl rfl ?_
  refine mE_cv hh 19 (as := []) rfl rfl (Nat.le_of_ble_eq_true rfl) (Nat.le_of_ble_eq_true rfl) rfl (Nat.le_of_ble_eq_true rfl) rfl ?_
  refine zz_E.mono k ?_
  intro v h' hE
  exact zz_E.weak hE rfl trivial
theorem mb_66_19 {X : Nat → Option zz_C} {h : zz_H} (hh : 111 ≤ h.length) {s : mS} {d : Nat} {Q : Option Value → zz_H → Prop}  (k : Q none (mH h s)) : zz_E zp_P zt_tf zt_fd X d zm_66 19 [] [] (mH h s) Q := by
  refine zz_E.ret rfl rfl rfl ?_
  exact k
theorem mb_66_20 {X : Nat → Option zz_C} {h : zz_H} (hh : 111 ≤ h.length) {s : mS} {d : Nat} {Q : Option Value → zz_H → Prop}  (k1 : ¬ (s.1 15) = 12 → zz_E zp_P zt_tf zt_fd X d zm_66 39 [(0, .ref 61)] [] (mH h s) Q) (k2 : ¬ ¬ (s.1 15) = 12 → zz_E zp_P zt_tf zt_fd X d zm_66 29 [(0, .ref 61)] [] (mH h s) Q) : zz_E zp_P zt_tf zt_fd X d zm_66 20 [(0, .ref 61)] [] (mH h s) Q := by
  refine zz_E.n 21 rfl rfl rfl ?_
  refine mE_g hh 24 (v := .int (s.1 15)) rfl rfl rfl ?_
  refine zz_E.c 26 (.int 12) rfl rfl rfl rfl ?_
  refine zz_E.b2 39 29 (A := ¬ (s.1 15) = 12) rfl (zz_cond_ne _ _) (by decide) rfl rfl (fun c => ?_) (fun c => ?_)
  · exact zz_E.weak (k1 c) rfl ⟨rfl, trivial⟩
  · exact zz_E.weak (k2 c) rfl ⟨rfl, trivial⟩
theorem mb_66_29 {X : Nat → Option zz_C} {h : zz_H} (hh : 111 ≤ h.length) {s : mS} {d : Nat} {Q : Option Value → zz_H → Prop}  (k : zz_E zp_P zt_tf zt_fd X d zm_261 0 [(0, .ref 61), (1, .int 3), (2, .int (s.1 6))] [] (mH h s) (fun v h' => zz_E zp_P zt_tf zt_fd X (d + 1) zm_66 38 [] (v.toList ++ []) h' Q)) : zz_E zp_P zt_tf zt_fd X (d + 1) zm_66 29 [(0, .ref 61)] [] (mH h s) Q := by
  refine zz_E.n 30 rfl rfl rfl ?_
  refine zz_E.c 31 (.int 3) rfl rfl rfl rfl ?_
  refine zz_E.n 32 rfl rfl rfl ?_
  refine mE_g hh 35 (v := .int (s.1 6)) rfl rfl rfl ?_
  refine mE_cv hh 38 (as := []) rfl rfl (Nat.le_of_ble_eq_true rfl) (Nat.le_of_ble_eq_true rfl) rfl (Nat.le_of_ble_eq_true rfl) rfl ?_
  refine zz_E.mono k ?_
  intro v h' hE
  exact zz_E.weak hE rfl trivial
theorem mb_66_38 {X : Nat → Option zz_C} {h : zz_H} (hh : 111 ≤ h.length) {s : mS} {d : Nat} {Q : Option Value → zz_H → Prop}  (k : Q none (mH h s)) : zz_E zp_P zt_tf zt_fd X d zm_66 38 [] [] (mH h s) Q := by
  refine zz_E.ret rfl rfl rfl ?_
  exact k
theorem mb_66_39 {X : Nat → Option zz_C} {h : zz_H} (hh : 111 ≤ h.length) {s : mS} {d : Nat} {Q : Option Value → zz_H → Prop}  (k : zz_E zp_P zt_tf zt_fd X d zm_274 0 [(0, .long (s.2.1 7))] [] (mH h s) (fun v h' => zz_E zp_P zt_tf zt_fd X (d + 1) zm_66 61 [(0, .ref 61), (1, .int ((12 * (1 - (s.1 12))) + (s.1 15)))] (v.toList ++ []) h' Q)) : zz_E zp_P zt_tf zt_fd X (d + 1) zm_66 39 [(0, .ref 61)] [] (mH h s) Q := by
  refine zz_E.c 41 (.int 12) rfl rfl rfl rfl ?_
  refine zz_E.c 42 (.int 1) rfl rfl rfl rfl ?_
  refine zz_E.n 43 rfl rfl rfl ?_
  refine mE_g hh 46 (v := .int (s.1 12)) rfl rfl rfl ?_
  refine zz_E.n 47 rfl rfl rfl ?_
  refine zz_E.n 48 rfl rfl rfl ?_
  refine zz_E.n 49 rfl rfl rfl ?_
  refine mE_g hh 52 (v := .int (s.1 15)) rfl rfl rfl ?_
  refine zz_E.n 53 rfl rfl rfl ?_
  refine zz_E.n 54 rfl rfl rfl ?_
  refine zz_E.n 55 rfl rfl rfl ?_
  refine mE_g hh 58 (v := .long (s.2.1 7)) rfl rfl rfl ?_
  refine zz_E.cl (M' := zm_274) 61 rfl rfl (by decide) rfl rfl ⟨rfl, Nat.le_of_ble_eq_true rfl⟩ rfl ?_
  refine zz_E.mono k ?_
  intro v h' hE
  exact zz_E.weak hE rfl ⟨rfl, rfl, trivial⟩
theorem mb_66_61 {X : Nat → Option zz_C} {h : zz_H} (hh : 111 ≤ h.length) {s : mS} {d : Nat} {Q : Option Value → zz_H → Prop} {x1 : Int32} {y0 : Int32} (k : zz_E zp_P zt_tf zt_fd X d zm_66 72 [(0, .ref 61), (1, .int x1), (2, .int y0), (3, .int (12 * (1 - (s.1 12))))] [] (mH h s) Q) : zz_E zp_P zt_tf zt_fd X d zm_66 61 [(0, .ref 61), (1, .int x1)] [.int y0] (mH h s) Q := by
  refine zz_E.n 62 rfl rfl rfl ?_
  refine zz_E.c 64 (.int 12) rfl rfl rfl rfl ?_
  refine zz_E.c 65 (.int 1) rfl rfl rfl rfl ?_
  refine zz_E.n 66 rfl rfl rfl ?_
  refine mE_g hh 69 (v := .int (s.1 12)) rfl rfl rfl ?_
  refine zz_E.n 70 rfl rfl rfl ?_
  refine zz_E.n 71 rfl rfl rfl ?_
  refine zz_E.n 72 rfl rfl rfl ?_
  exact zz_E.weak k rfl ⟨rfl, rfl, rfl, rfl, trivial⟩
theorem mb_66_72 {X : Nat → Option zz_C} {h : zz_H} (hh : 111 ≤ h.length) {s : mS} {d : Nat} {Q : Option Value → zz_H → Prop} {x1 : Int32} {x2 : Int32} {x3 : Int32} (k1 : x1 ≤ x3 → zz_E zp_P zt_tf zt_fd X d zm_66 107 [(0, .ref 61), (1, .int x1), (2, .int x2)] [] (mH h s) Q) (k2 : ¬ x1 ≤ x3 → zz_E zp_P zt_tf zt_fd X d zm_66 77 [(0, .ref 61), (1, .int x1), (2, .int x2), (3, .int x3)] [] (mH h s) Q) : zz_E zp_P zt_tf zt_fd X d zm_66 72 [(0, .ref 61), (1, .int x1), (2, .int x2), (3, .int x3)] [] (mH h s) Q := by
  refine zz_E.n 73 rfl rfl rfl ?_
  refine zz_E.n 74 rfl rfl rfl ?_
  refine zz_E.b2 107 77 (A := x1 ≤ x3) rfl rfl (by decide) rfl rfl (fun c => ?_) (fun c => ?_)
  · exact zz_E.weak (k1 c) rfl ⟨rfl, rfl, rfl, trivial⟩
  · exact zz_E.weak (k2 c) rfl ⟨rfl, rfl, rfl, rfl, trivial⟩
theorem mb_66_77 {X : Nat → Option zz_C} {h : zz_H} (hh : 111 ≤ h.length) {s : mS} {d : Nat} {Q : Option Value → zz_H → Prop} {x1 : Int32} {x2 : Int32} {x3 : Int32} (k1 : ¬ x2 = 0 → zz_E zp_P zt_tf zt_fd X d zm_66 95 [(0, .ref 61), (1, .int x1), (3, .int x3)] [] (mH h s) Q) (k2 : ¬ ¬ x2 = 0 → zz_E zp_P zt_tf zt_fd X d zm_66 81 [(0, .ref 61), (1, .int x1), (3, .int x3)] [] (mH h s) Q) : zz_E zp_P zt_tf zt_fd X d zm_66 77 [(0, .ref 61), (1, .int x1), (2, .int x2), (3, .int x3)] [] (mH h s) Q := by
  refine zz_E.n 78 rfl rfl rfl ?_
  refine zz_E.b1 95 81 (A := ¬ x2 = 0) rfl (zz_cond_ne _ _) (by decide) rfl rfl (fun c => ?_) (fun c => ?_)
  · exact zz_E.weak (k1 c) rfl ⟨rfl, rfl, rfl, trivial⟩
  · exact zz_E.weak (k2 c) rfl ⟨rfl, rfl, rfl, trivial⟩
theorem mb_66_81 {X : Nat → Option zz_C} {h : zz_H} (hh : 111 ≤ h.length) {s : mS} {d : Nat} {Q : Option Value → zz_H → Prop} {x1 : Int32} {x3 : Int32} (i86 : ¬ (x3 < 0 ∨ 24 ≤ Int32.toNatClampNeg x3)) (k1 : ¬ (lg_cmp ((s.2.2.2 16) (Int32.toNatClampNeg x3)) (s.2.1 7)) = 0 → zz_E zp_P zt_tf zt_fd X d zm_66 99 [(0, .ref 61), (1, .int x1), (3, .int x3)] [] (mH h s) Q) (k2 : ¬ ¬ (lg_cmp ((s.2.2.2 16) (Int32.toNatClampNeg x3)) (s.2.1 7)) = 0 → zz_E zp_P zt_tf zt_fd X d zm_66 95 [(0, .ref 61), (1, .int x1), (3, .int x3)] [] (mH h s) Q) : zz_E zp_P zt_tf zt_fd X d zm_66 81 [(0, .ref 61), (1, .int x1), (3, .int x3)] [] (mH h s) Q := by
  refine zz_E.n 82 rfl rfl rfl ?_
  refine mE_g hh 85 (v := .ref 65) rfl rfl rfl ?_
  refine zz_E.n 86 rfl rfl rfl ?_
  refine mE_la hh 87 4 (f := (s.2.2.2 16)) rfl (by decide) rfl rfl i86 rfl ?_
  refine zz_E.n 88 rfl rfl rfl ?_
  refine mE_g hh 91 (v := .long (s.2.1 7)) rfl rfl rfl ?_
  refine zz_E.n 92 rfl rfl rfl ?_
  refine zz_E.b1 99 95 (A := ¬ (lg_cmp ((s.2.2.2 16) (Int32.toNatClampNeg x3)) (s.2.1 7)) = 0) rfl (zz_cond_ne _ _) (by decide) rfl rfl (fun c => ?_) (fun c => ?_)
  · exact zz_E.weak (k1 c) rfl ⟨rfl, rfl, rfl, trivial⟩
  · exact zz_E.weak (k2 c) rfl ⟨rfl, rfl, rfl, trivial⟩
theorem mb_66_95 {X : Nat → Option zz_C} {h : zz_H} (hh : 111 ≤ h.length) {s : mS} {d : Nat} {Q : Option Value → zz_H → Prop} {x1 : Int32} {x3 : Int32} (k : zz_E zp_P zt_tf zt_fd X d zm_66 100 [(0, .ref 61), (1, .int x1), (3, .int x3)] [.int 1] (mH h s) Q) : zz_E zp_P zt_tf zt_fd X d zm_66 95 [(0, .ref 61), (1, .int x1), (3, .int x3)] [] (mH h s) Q := by
  refine zz_E.c 96 (.int 1) rfl rfl rfl rfl ?_
  refine zz_E.n 100 rfl rfl rfl ?_
  exact zz_E.weak k rfl ⟨rfl, rfl, rfl, trivial⟩
theorem mb_66_99 {X : Nat → Option zz_C} {h : zz_H} (hh : 111 ≤ h.length) {s : mS} {d : Nat} {Q : Option Value → zz_H → Prop} {x1 : Int32} {x3 : Int32} (k : zz_E zp_P zt_tf zt_fd X d zm_66 100 [(0, .ref 61), (1, .int x1), (3, .int x3)] [.int 0] (mH h s) Q) : zz_E zp_P zt_tf zt_fd X d zm_66 99 [(0, .ref 61), (1, .int x1), (3, .int x3)] [] (mH h s) Q := by
  refine zz_E.c 100 (.int 0) rfl rfl rfl rfl ?_
  exact zz_E.weak k rfl ⟨rfl, rfl, rfl, trivial⟩
theorem mb_66_100 {X : Nat → Option zz_C} {h : zz_H} (hh : 111 ≤ h.length) {s : mS} {d : Nat} {Q : Option Value → zz_H → Prop} {x1 : Int32} {x3 : Int32} {y0 : Int32} (k : zz_E zp_P zt_tf zt_fd X d zm_66 72 [(0, .ref 61), (1, .int x1), (2, .int y0), (3, .int (x3 + 1))] [] (mH h s) Q) : zz_E zp_P zt_tf zt_fd X d zm_66 100 [(0, .ref 61), (1, .int x1), (3, .int x3)] [.int y0] (mH h s) Q := by
  refine zz_E.n 101 rfl rfl rfl ?_
  refine zz_E.n 104 rfl rfl rfl ?_
  refine zz_E.n 72 rfl rfl rfl ?_
  exact zz_E.weak k rfl ⟨rfl, rfl, rfl, rfl, trivial⟩
theorem mb_66_107 {X : Nat → Option zz_C} {h : zz_H} (hh : 111 ≤ h.length) {s : mS} {d : Nat} {Q : Option Value → zz_H → Prop} {x1 : Int32} {x2 : Int32} (k1 : x2 = 0 → zz_E zp_P zt_tf zt_fd X d zm_66 121 [(0, .ref 61), (1, .int x1)] [] (mH h s) Q) (k2 : ¬ x2 = 0 → zz_E zp_P zt_tf zt_fd X d zm_66 111 [(0, .ref 61)] [] (mH h s) Q) : zz_E zp_P zt_tf zt_fd X d zm_66 107 [(0, .ref 61), (1, .int x1), (2, .int x2)] [] (mH h s) Q := by
  refine zz_E.n 108 rfl rfl rfl ?_
  refine zz_E.b1 121 111 (A := x2 = 0) rfl rfl (by decide) rfl rfl (fun c => ?_) (fun c => ?_)
  · exact zz_E.weak (k1 c) rfl ⟨rfl, rfl, trivial⟩
  · exact zz_E.weak (k2 c) rfl ⟨rfl, trivial⟩
theorem mb_66_111 {X : Nat → Option zz_C} {h : zz_H} (hh : 111 ≤ h.length) {s : mS} {d : Nat} {Q : Option Value → zz_H → Prop}  (k : zz_E zp_P zt_tf zt_fd X d zm_261 0 [(0, .ref 61), (1, .int 4), (2, .int (s.1 6))] [] (mH h s) (fun v h' => zz_E zp_P zt_tf zt_fd X (d + 1) zm_66 120 [] (v.toList ++ []) h' Q)) : zz_E zp_P zt_tf zt_fd X (d + 1) zm_66 111 [(0, .ref 61)] [] (mH h s) Q := by
  refine zz_E.n 112 rfl rfl rfl ?_
  refine zz_E.c 113 (.int 4) rfl rfl rfl rfl ?_
  refine zz_E.n 114 rfl rfl rfl ?_
  refine mE_g hh 117 (v := .int (s.1 6)) rfl rfl rfl ?_
  refine mE_cv hh 120 (as := []) rfl rfl (Nat.le_of_ble_eq_true rfl) (Nat.le_of_ble_eq_true rfl) rfl (Nat.le_of_ble_eq_true rfl) rfl ?_
  refine zz_E.mono k ?_
  intro v h' hE
  exact zz_E.weak hE rfl trivial
theorem mb_66_120 {X : Nat → Option zz_C} {h : zz_H} (hh : 111 ≤ h.length) {s : mS} {d : Nat} {Q : Option Value → zz_H → Prop}  (k : Q none (mH h s)) : zz_E zp_P zt_tf zt_fd X d zm_66 120 [] [] (mH h s) Q := by
  refine zz_E.ret rfl rfl rfl ?_
  exact k
theorem mb_66_121 {X : Nat → Option zz_C} {h : zz_H} (hh : 111 ≤ h.length) {s : mS} {d : Nat} {Q : Option Value → zz_H → Prop} {x1 : Int32} (i130 : ¬ (x1 < 0 ∨ 24 ≤ Int32.toNatClampNeg x1)) (i140 : ¬ (x1 < 0 ∨ 24 ≤ Int32.toNatClampNeg x1)) (k : zz_E zp_P zt_tf zt_fd X d zm_260 0 [(0, .ref 61)] [] (mH h (mI (mI (mA (mB s 16 (vp_updL (s.2.2.2 16) (Int32.toNatClampNeg x1) (s.2.1 7))) 17 (upd (s.2.2.1 17) (Int32.toNatClampNeg x1) (s.1 6))) 15 ((s.1 15) + 1)) 22 0)) (fun v h' => zz_E zp_P zt_tf zt_fd X (d + 1) zm_66 160 [(0, .ref 61), (1, .int x1)] (v.toList ++ []) h' Q)) : zz_E zp_P zt_tf zt_fd X (d + 1) zm_66 121 [(0, .ref 61), (1, .int x1)] [] (mH h s) Q := by
  refine zz_E.n 122 rfl rfl rfl ?_
  refine mE_g hh 125 (v := .ref 65) rfl rfl rfl ?_
  refine zz_E.n 126 rfl rfl rfl ?_
  refine zz_E.n 127 rfl rfl rfl ?_
  refine mE_g hh 130 (v := .long (s.2.1 7)) rfl rfl rfl ?_
  refine mE_ls hh 131 4 (f := (s.2.2.2 16)) rfl (by decide) rfl rfl i130 (mA_65 _ _) rfl ?_
  refine zz_E.n 132 rfl rfl rfl ?_
  refine mE_g hh 135 (v := .ref 66) rfl rfl rfl ?_
  refine zz_E.n 136 rfl rfl rfl ?_
  refine zz_E.n 137 rfl rfl rfl ?_
  refine mE_g hh 140 (v := .int (s.1 6)) rfl rfl rfl ?_
  refine mE_is hh 141 5 (f := (s.2.2.1 17)) rfl (by decide) rfl rfl i140 (mA_66 _ _) rfl ?_
  refine zz_E.n 142 rfl rfl rfl ?_
  refine zz_E.n 143 rfl rfl rfl ?_
  refine mE_g hh 146 (v := .int (s.1 15)) rfl rfl rfl ?_
  refine zz_E.c 147 (.int 1) rfl rfl rfl rfl ?_
  refine zz_E.n 148 rfl rfl rfl ?_
  refine mE_p hh 151 rfl (by decide) rfl (mF_15 _ _) rfl ?_
  refine zz_E.n 152 rfl rfl rfl ?_
  refine zz_E.c 153 (.int 0) rfl rfl rfl rfl ?_
  refine mE_p hh 156 rfl (by decide) rfl (mF_22 _ _) rfl ?_
  refine zz_E.n 157 rfl rfl rfl ?_
  refine mE_cv hh 160 (as := []) rfl rfl (Nat.le_of_ble_eq_true rfl) (Nat.le_of_ble_eq_true rfl) rfl (Nat.le_of_ble_eq_true rfl) rfl ?_
  refine zz_E.mono k ?_
  intro v h' hE
  exact zz_E.weak hE rfl ⟨rfl, rfl, trivial⟩
theorem mb_66_160 {X : Nat → Option zz_C} {h : zz_H} (hh : 111 ≤ h.length) {s : mS} {d : Nat} {Q : Option Value → zz_H → Prop} {x1 : Int32} (k : zz_E zp_P zt_tf zt_fd X d zm_277 0 [(0, .ref 61)] [] (mH h s) (fun v h' => zz_E zp_P zt_tf zt_fd X (d + 1) zm_66 164 [(0, .ref 61), (1, .int x1)] (v.toList ++ []) h' Q)) : zz_E zp_P zt_tf zt_fd X (d + 1) zm_66 160 [(0, .ref 61), (1, .int x1)] [] (mH h s) Q := by
  refine zz_E.n 161 rfl rfl rfl ?_
  refine mE_cv hh 164 (as := []) rfl rfl (Nat.le_of_ble_eq_true rfl) (Nat.le_of_ble_eq_true rfl) rfl (Nat.le_of_ble_eq_true rfl) rfl ?_
  refine zz_E.mono k ?_
  intro v h' hE
  exact zz_E.weak hE rfl ⟨rfl, rfl, trivial⟩
theorem mb_66_164 {X : Nat → Option zz_C} {h : zz_H} (hh : 111 ≤ h.length) {s : mS} {d : Nat} {Q : Option Value → zz_H → Prop} {x1 : Int32} (i173 : ¬ (x1 < 0 ∨ 24 ≤ Int32.toNatClampNeg x1)) (k : zz_E zp_P zt_tf zt_fd X d zm_272 0 [(0, .ref 61)] [] (mH h (mA s 18 (upd (s.2.2.1 18) (Int32.toNatClampNeg x1) (s.1 22)))) (fun v h' => zz_E zp_P zt_tf zt_fd X (d + 1) zm_66 183 [(0, .ref 61), (1, .int x1)] (v.toList ++ [.int x1, .ref 69]) h' Q)) : zz_E zp_P zt_tf zt_fd X (d + 1) zm_66 164 [(0, .ref 61), (1, .int x1)] [] (mH h s) Q := by
  refine zz_E.n 165 rfl rfl rfl ?_
  refine mE_g hh 168 (v := .ref 67) rfl rfl rfl ?_
  refine zz_E.n 169 rfl rfl rfl ?_
  refine zz_E.n 170 rfl rfl rfl ?_
  refine mE_g hh 173 (v := .int (s.1 22)) rfl rfl rfl ?_
  refine mE_is hh 174 6 (f := (s.2.2.1 18)) rfl (by decide) rfl rfl i173 (mA_67 _ _) rfl ?_
  refine zz_E.n 175 rfl rfl rfl ?_
  refine mE_g hh 178 (v := .ref 69) rfl rfl rfl ?_
  refine zz_E.n 179 rfl rfl rfl ?_
  refine zz_E.n 180 rfl rfl rfl ?_
  refine mE_cv hh 183 (as := [.int x1, .ref 69]) rfl rfl (Nat.le_of_ble_eq_true rfl) (Nat.le_of_ble_eq_true rfl) rfl (Nat.le_of_ble_eq_true rfl) rfl ?_
  refine zz_E.mono k ?_
  intro v h' hE
  exact zz_E.weak hE rfl ⟨rfl, rfl, trivial⟩
theorem mb_66_183 {X : Nat → Option zz_C} {h : zz_H} (hh : 111 ≤ h.length) {s : mS} {d : Nat} {Q : Option Value → zz_H → Prop} {x1 : Int32} {y1 : Int32} {y2 : Int32} (i183 : ¬ (y1 < 0 ∨ 24 ≤ Int32.toNatClampNeg y1)) (k : zz_E zp_P zt_tf zt_fd X d zm_276 0 [(0, .ref 61), (1, .int 0), (2, .int x1), (3, .int 0)] [] (mH h (mA s 20 (upd (s.2.2.1 20) (Int32.toNatClampNeg y1) y2))) (fun v h' => zz_E zp_P zt_tf zt_fd X (d + 1) zm_66 191 [] (v.toList ++ []) h' Q)) : zz_E zp_P zt_tf zt_fd X (d + 1) zm_66 183 [(0, .ref 61), (1, .int x1)] [.int y2, .int y1, .ref 69] (mH h s) Q := by
  refine mE_is hh 184 8 (f := (s.2.2.1 20)) rfl (by decide) rfl rfl i183 (mA_69 _ _) rfl ?_
  refine zz_E.n 185 rfl rfl rfl ?_
  refine zz_E.c 186 (.int 0) rfl rfl rfl rfl ?_
  refine zz_E.n 187 rfl rfl rfl ?_
  refine zz_E.c 188 (.int 0) rfl rfl rfl rfl ?_
  refine mE_cv hh 191 (as := []) rfl rfl (Nat.le_of_ble_eq_true rfl) (Nat.le_of_ble_eq_true rfl) rfl (Nat.le_of_ble_eq_true rfl) rfl ?_
  refine zz_E.mono k ?_
  intro v h' hE
  exact zz_E.weak hE rfl trivial
theorem mb_66_191 {X : Nat → Option zz_C} {h : zz_H} (hh : 111 ≤ h.length) {s : mS} {d : Nat} {Q : Option Value → zz_H → Prop}  (k : Q none (mH h s)) : zz_E zp_P zt_tf zt_fd X d zm_66 191 [] [] (mH h s) Q := by
  refine zz_E.ret rfl rfl rfl ?_
  exact k
def mf_66_191 (N : Nat)  (s : mS) : mO := some (s, none)
theorem mr_66_191 {X : Nat → Option zz_C} {h : zz_H} (hh : 111 ≤ h.length) {d : Nat} {N : Nat} {Q : Option Value → zz_H → Prop}  {s s' : mS} {v : Option Value} (hf : mf_66_191 N  s = some (s', v)) (k : Q v (mH h s')) : zz_E zp_P zt_tf zt_fd X (d + 6) zm_66 191 [] [] (mH h s) Q := by
  unfold mf_66_191 at hf
  cases hf
  exact mb_66_191 hh  k
def mf_66_183 (N : Nat) (x1 : Int32) (y1 : Int32) (y2 : Int32) (s : mS) : mO := if ¬ (y1 < 0 ∨ 24 ≤ Int32.toNatClampNeg y1) then (mo_bv (mf_276 N 0 x1 0 (mA s 20 (upd (s.2.2.1 20) (Int32.toNatClampNeg y1) y2))) (fun s1 => mf_66_191 N  s1)) else none
theorem mr_66_183 {X : Nat → Option zz_C} {h : zz_H} (hh : 111 ≤ h.length) {d : Nat} {N : Nat} {Q : Option Value → zz_H → Prop} {x1 : Int32} {y1 : Int32} {y2 : Int32} {s s' : mS} {v : Option Value} (hf : mf_66_183 N x1 y1 y2 s = some (s', v)) (k : Q v (mH h s')) : zz_E zp_P zt_tf zt_fd X (d + 6) zm_66 183 [(0, .ref 61), (1, .int x1)] [.int y2, .int y1, .ref 69] (mH h s) Q := by
  unfold mf_66_183 at hf
  obtain ⟨q0, hf⟩ := mo_if hf
  obtain ⟨s1, e, hf⟩ := mo_bv_ok hf
  exact mb_66_183 (d := d + 5) hh q0 (mr_276 (d := d + 0) hh e (mr_66_191 hh hf k))
def mf_66_164 (N : Nat) (x1 : Int32) (s : mS) : mO := if ¬ (x1 < 0 ∨ 24 ≤ Int32.toNatClampNeg x1) then (mo_bi (mf_272 N  (mA s 18 (upd (s.2.2.1 18) (Int32.toNatClampNeg x1) (s.1 22)))) (fun s1 y => mf_66_183 N x1 x1 y s1)) else none
theorem mr_66_164 {X : Nat → Option zz_C} {h : zz_H} (hh : 111 ≤ h.length) {d : Nat} {N : Nat} {Q : Option Value → zz_H → Prop} {x1 : Int32} {s s' : mS} {v : Option Value} (hf : mf_66_164 N x1 s = some (s', v)) (k : Q v (mH h s')) : zz_E zp_P zt_tf zt_fd X (d + 6) zm_66 164 [(0, .ref 61), (1, .int x1)] [] (mH h s) Q := by
  unfold mf_66_164 at hf
  obtain ⟨q0, hf⟩ := mo_if hf
  obtain ⟨s1, y, e, hf⟩ := mo_bi_ok hf
  exact mb_66_164 (d := d + 5) hh q0 (mr_272 (d := d + 5) hh e (mr_66_183 hh hf k))
def mf_66_160 (N : Nat) (x1 : Int32) (s : mS) : mO := mo_bv (mf_277 N  s) (fun s1 => mf_66_164 N x1 s1)
theorem mr_66_160 {X : Nat → Option zz_C} {h : zz_H} (hh : 111 ≤ h.length) {d : Nat} {N : Nat} {Q : Option Value → zz_H → Prop} {x1 : Int32} {s s' : mS} {v : Option Value} (hf : mf_66_160 N x1 s = some (s', v)) (k : Q v (mH h s')) : zz_E zp_P zt_tf zt_fd X (d + 6) zm_66 160 [(0, .ref 61), (1, .int x1)] [] (mH h s) Q := by
  unfold mf_66_160 at hf
  obtain ⟨s1, e, hf⟩ := mo_bv_ok hf
  exact mb_66_160 (d := d + 5) hh  (mr_277 (d := d + 0) hh e (mr_66_164 hh hf k))
def mf_66_121 (N : Nat) (x1 : Int32) (s : mS) : mO := if ¬ (x1 < 0 ∨ 24 ≤ Int32.toNatClampNeg x1) then (if ¬ (x1 < 0 ∨ 24 ≤ Int32.toNatClampNeg x1) then (mo_bv (mf_260 N  (mI (mI (mA (mB s 16 (vp_updL (s.2.2.2 16) (Int32.toNatClampNeg x1) (s.2.1 7))) 17 (upd (s.2.2.1 17) (Int32.toNatClampNeg x1) (s.1 6))) 15 ((s.1 15) + 1)) 22 0)) (fun s1 => mf_66_160 N x1 s1)) else none) else none
theorem mr_66_121 {X : Nat → Option zz_C} {h : zz_H} (hh : 111 ≤ h.length) {d : Nat} {N : Nat} {Q : Option Value → zz_H → Prop} {x1 : Int32} {s s' : mS} {v : Option Value} (hf : mf_66_121 N x1 s = some (s', v)) (k : Q v (mH h s')) : zz_E zp_P zt_tf zt_fd X (d + 6) zm_66 121 [(0, .ref 61), (1, .int x1)] [] (mH h s) Q := by
  unfold mf_66_121 at hf
  obtain ⟨q0, hf⟩ := mo_if hf
  obtain ⟨q1, hf⟩ := mo_if hf
  obtain ⟨s1, e, hf⟩ := mo_bv_ok hf
  exact mb_66_121 (d := d + 5) hh q0 q1 (mr_260 (d := d + 2) hh e (mr_66_160 hh hf k))
def mf_66_120 (N : Nat)  (s : mS) : mO := some (s, none)
theorem mr_66_120 {X : Nat → Option zz_C} {h : zz_H} (hh : 111 ≤ h.length) {d : Nat} {N : Nat} {Q : Option Value → zz_H → Prop}  {s s' : mS} {v : Option Value} (hf : mf_66_120 N  s = some (s', v)) (k : Q v (mH h s')) : zz_E zp_P zt_tf zt_fd X (d + 6) zm_66 120 [] [] (mH h s) Q := by
  unfold mf_66_120 at hf
  cases hf
  exact mb_66_120 hh  k
def mf_66_111 (N : Nat)  (s : mS) : mO := mo_bv (mf_261 N 4 (s.1 6) s) (fun s1 => mf_66_120 N  s1)
theorem mr_66_111 {X : Nat → Option zz_C} {h : zz_H} (hh : 111 ≤ h.length) {d : Nat} {N : Nat} {Q : Option Value → zz_H → Prop}  {s s' : mS} {v : Option Value} (hf : mf_66_111 N  s = some (s', v)) (k : Q v (mH h s')) : zz_E zp_P zt_tf zt_fd X (d + 6) zm_66 111 [(0, .ref 61)] [] (mH h s) Q := by
  unfold mf_66_111 at hf
  obtain ⟨s1, e, hf⟩ := mo_bv_ok hf
  exact mb_66_111 (d := d + 5) hh  (mr_261 (d := d + 5) hh e (mr_66_120 hh hf k))
def mf_66_107 (N : Nat) (x1 : Int32) (x2 : Int32) (s : mS) : mO := if x2 = 0 then mf_66_121 N x1 s else mf_66_111 N  s
theorem mr_66_107 {X : Nat → Option zz_C} {h : zz_H} (hh : 111 ≤ h.length) {d : Nat} {N : Nat} {Q : Option Value → zz_H → Prop} {x1 : Int32} {x2 : Int32} {s s' : mS} {v : Option Value} (hf : mf_66_107 N x1 x2 s = some (s', v)) (k : Q v (mH h s')) : zz_E zp_P zt_tf zt_fd X (d + 6) zm_66 107 [(0, .ref 61), (1, .int x1), (2, .int x2)] [] (mH h s) Q := by
  unfold mf_66_107 at hf
  refine mb_66_107 hh  (fun c => ?_) (fun c => ?_)
  · rw [if_pos c] at hf
    exact mr_66_121 hh hf k
  · rw [if_neg c] at hf
    exact mr_66_111 hh hf k
def mf_66_100 (N : Nat) (rc : Nat → Int32 → Int32 → Int32 → mS → mO) (x1 : Int32) (x3 : Int32) (y0 : Int32) (s : mS) : mO := rc 0 x1 y0 (x3 + 1) s
theorem mr_66_100 {X : Nat → Option zz_C} {h : zz_H} (hh : 111 ≤ h.length) {d : Nat} {N : Nat} {rc : Nat → Int32 → Int32 → Int32 → mS → mO} (hrc0 : ∀ {Q : Option Value → zz_H → Prop} {x1 : Int32} {x2 : Int32} {x3 : Int32} {s s' : mS} {v : Option Value}, rc 0 x1 x2 x3 s = some (s', v) → Q v (mH h s') → zz_E zp_P zt_tf zt_fd X (d + 6) zm_66 72 [(0, .ref 61), (1, .int x1), (2, .int x2), (3, .int x3)] [] (mH h s) Q) {Q : Option Value → zz_H → Prop} {x1 : Int32} {x3 : Int32} {y0 : Int32} {s s' : mS} {v : Option Value} (hf : mf_66_100 N rc x1 x3 y0 s = some (s', v)) (k : Q v (mH h s')) : zz_E zp_P zt_tf zt_fd X (d + 6) zm_66 100 [(0, .ref 61), (1, .int x1), (3, .int x3)] [.int y0] (mH h s) Q := by
  unfold mf_66_100 at hf
  exact mb_66_100 hh  (hrc0 hf k)
def mf_66_99 (N : Nat) (rc : Nat → Int32 → Int32 → Int32 → mS → mO) (x1 : Int32) (x3 : Int32) (s : mS) : mO := mf_66_100 N rc x1 x3 0 s
theorem mr_66_99 {X : Nat → Option zz_C} {h : zz_H} (hh : 111 ≤ h.length) {d : Nat} {N : Nat} {rc : Nat → Int32 → Int32 → Int32 → mS → mO} (hrc0 : ∀ {Q : Option Value → zz_H → Prop} {x1 : Int32} {x2 : Int32} {x3 : Int32} {s s' : mS} {v : Option Value}, rc 0 x1 x2 x3 s = some (s', v) → Q v (mH h s') → zz_E zp_P zt_tf zt_fd X (d + 6) zm_66 72 [(0, .ref 61), (1, .int x1), (2, .int x2), (3, .int x3)] [] (mH h s) Q) {Q : Option Value → zz_H → Prop} {x1 : Int32} {x3 : Int32} {s s' : mS} {v : Option Value} (hf : mf_66_99 N rc x1 x3 s = some (s', v)) (k : Q v (mH h s')) : zz_E zp_P zt_tf zt_fd X (d + 6) zm_66 99 [(0, .ref 61), (1, .int x1), (3, .int x3)] [] (mH h s) Q := by
  unfold mf_66_99 at hf
  exact mb_66_99 hh  (mr_66_100 hh hrc0 hf k)
def mf_66_95 (N : Nat) (rc : Nat → Int32 → Int32 → Int32 → mS → mO) (x1 : Int32) (x3 : Int32) (s : mS) : mO := mf_66_100 N rc x1 x3 1 s
theorem mr_66_95 {X : Nat → Option zz_C} {h : zz_H} (hh : 111 ≤ h.length) {d : Nat} {N : Nat} {rc : Nat → Int32 → Int32 → Int32 → mS → mO} (hrc0 : ∀ {Q : Option Value → zz_H → Prop} {x1 : Int32} {x2 : Int32} {x3 : Int32} {s s' : mS} {v : Option Value}, rc 0 x1 x2 x3 s = some (s', v) → Q v (mH h s') → zz_E zp_P zt_tf zt_fd X (d + 6) zm_66 72 [(0, .ref 61), (1, .int x1), (2, .int x2), (3, .int x3)] [] (mH h s) Q) {Q : Option Value → zz_H → Prop} {x1 : Int32} {x3 : Int32} {s s' : mS} {v : Option Value} (hf : mf_66_95 N rc x1 x3 s = some (s', v)) (k : Q v (mH h s')) : zz_E zp_P zt_tf zt_fd X (d + 6) zm_66 95 [(0, .ref 61), (1, .int x1), (3, .int x3)] [] (mH h s) Q := by
  unfold mf_66_95 at hf
  exact mb_66_95 hh  (mr_66_100 hh hrc0 hf k)
def mf_66_81 (N : Nat) (rc : Nat → Int32 → Int32 → Int32 → mS → mO) (x1 : Int32) (x3 : Int32) (s : mS) : mO := if ¬ (x3 < 0 ∨ 24 ≤ Int32.toNatClampNeg x3) then (if ¬ (lg_cmp ((s.2.2.2 16) (Int32.toNatClampNeg x3)) (s.2.1 7)) = 0 then mf_66_99 N rc x1 x3 s else mf_66_95 N rc x1 x3 s) else none
theorem mr_66_81 {X : Nat → Option zz_C} {h : zz_H} (hh : 111 ≤ h.length) {d : Nat} {N : Nat} {rc : Nat → Int32 → Int32 → Int32 → mS → mO} (hrc0 : ∀ {Q : Option Value → zz_H → Prop} {x1 : Int32} {x2 : Int32} {x3 : Int32} {s s' : mS} {v : Option Value}, rc 0 x1 x2 x3 s = some (s', v) → Q v (mH h s') → zz_E zp_P zt_tf zt_fd X (d + 6) zm_66 72 [(0, .ref 61), (1, .int x1), (2, .int x2), (3, .int x3)] [] (mH h s) Q) {Q : Option Value → zz_H → Prop} {x1 : Int32} {x3 : Int32} {s s' : mS} {v : Option Value} (hf : mf_66_81 N rc x1 x3 s = some (s', v)) (k : Q v (mH h s')) : zz_E zp_P zt_tf zt_fd X (d + 6) zm_66 81 [(0, .ref 61), (1, .int x1), (3, .int x3)] [] (mH h s) Q := by
  unfold mf_66_81 at hf
  obtain ⟨q0, hf⟩ := mo_if hf
  refine mb_66_81 hh q0 (fun c => ?_) (fun c => ?_)
  · rw [if_pos c] at hf
    exact mr_66_99 hh hrc0 hf k
  · rw [if_neg c] at hf
    exact mr_66_95 hh hrc0 hf k
def mf_66_77 (N : Nat) (rc : Nat → Int32 → Int32 → Int32 → mS → mO) (x1 : Int32) (x2 : Int32) (x3 : Int32) (s : mS) : mO := if ¬ x2 = 0 then mf_66_95 N rc x1 x3 s else mf_66_81 N rc x1 x3 s
theorem mr_66_77 {X : Nat → Option zz_C} {h : zz_H} (hh : 111 ≤ h.length) {d : Nat} {N : Nat} {rc : Nat → Int32 → Int32 → Int32 → mS → mO} (hrc0 : ∀ {Q : Option Value → zz_H → Prop} {x1 : Int32} {x2 : Int32} {x3 : Int32} {s s' : mS} {v : Option Value}, rc 0 x1 x2 x3 s = some (s', v) → Q v (mH h s') → zz_E zp_P zt_tf zt_fd X (d + 6) zm_66 72 [(0, .ref 61), (1, .int x1), (2, .int x2), (3, .int x3)] [] (mH h s) Q) {Q : Option Value → zz_H → Prop} {x1 : Int32} {x2 : Int32} {x3 : Int32} {s s' : mS} {v : Option Value} (hf : mf_66_77 N rc x1 x2 x3 s = some (s', v)) (k : Q v (mH h s')) : zz_E zp_P zt_tf zt_fd X (d + 6) zm_66 77 [(0, .ref 61), (1, .int x1), (2, .int x2), (3, .int x3)] [] (mH h s) Q := by
  unfold mf_66_77 at hf
  refine mb_66_77 hh  (fun c => ?_) (fun c => ?_)
  · rw [if_pos c] at hf
    exact mr_66_95 hh hrc0 hf k
  · rw [if_neg c] at hf
    exact mr_66_81 hh hrc0 hf k
def mf_66_72 (N : Nat) (rc : Nat → Int32 → Int32 → Int32 → mS → mO) (x1 : Int32) (x2 : Int32) (x3 : Int32) (s : mS) : mO := if x1 ≤ x3 then mf_66_107 N x1 x2 s else mf_66_77 N rc x1 x2 x3 s
theorem mr_66_72 {X : Nat → Option zz_C} {h : zz_H} (hh : 111 ≤ h.length) {d : Nat} {N : Nat} {rc : Nat → Int32 → Int32 → Int32 → mS → mO} (hrc0 : ∀ {Q : Option Value → zz_H → Prop} {x1 : Int32} {x2 : Int32} {x3 : Int32} {s s' : mS} {v : Option Value}, rc 0 x1 x2 x3 s = some (s', v) → Q v (mH h s') → zz_E zp_P zt_tf zt_fd X (d + 6) zm_66 72 [(0, .ref 61), (1, .int x1), (2, .int x2), (3, .int x3)] [] (mH h s) Q) {Q : Option Value → zz_H → Prop} {x1 : Int32} {x2 : Int32} {x3 : Int32} {s s' : mS} {v : Option Value} (hf : mf_66_72 N rc x1 x2 x3 s = some (s', v)) (k : Q v (mH h s')) : zz_E zp_P zt_tf zt_fd X (d + 6) zm_66 72 [(0, .ref 61), (1, .int x1), (2, .int x2), (3, .int x3)] [] (mH h s) Q := by
  unfold mf_66_72 at hf
  refine mb_66_72 hh  (fun c => ?_) (fun c => ?_)
  · rw [if_pos c] at hf
    exact mr_66_107 hh hf k
  · rw [if_neg c] at hf
    exact mr_66_77 hh hrc0 hf k
def mf_66_L8 (N : Nat) : Nat → Nat → Int32 → Int32 → Int32 → mS → mO
  | 0, _, _, _, _, _ => none
  | n + 1, l, x1, x2, x3, s => if l = 0 then mf_66_72 N (mf_66_L8 N n) x1 x2 x3 s else none
theorem mr_66_L8 {X : Nat → Option zz_C} {h : zz_H} (hh : 111 ≤ h.length) {d : Nat} {N : Nat} : ∀ n : Nat, (∀ {Q : Option Value → zz_H → Prop} {x1 : Int32} {x2 : Int32} {x3 : Int32} {s s' : mS} {v : Option Value}, mf_66_L8 N n 0 x1 x2 x3 s = some (s', v) → Q v (mH h s') → zz_E zp_P zt_tf zt_fd X (d + 6) zm_66 72 [(0, .ref 61), (1, .int x1), (2, .int x2), (3, .int x3)] [] (mH h s) Q) := by
  intro n
  induction n with
  | zero => exact (fun hf _ => by cases hf)
  | succ n ih =>
    have h0 := @ih
    intro Q _ _ _ s s' v hf k
    unfold mf_66_L8 at hf
    rw [if_pos rfl] at hf
    exact mr_66_72 hh h0 hf k
def mf_66_61 (N : Nat) (x1 : Int32) (y0 : Int32) (s : mS) : mO := mf_66_L8 N N 0 x1 y0 (12 * (1 - (s.1 12))) s
theorem mr_66_61 {X : Nat → Option zz_C} {h : zz_H} (hh : 111 ≤ h.length) {d : Nat} {N : Nat} {Q : Option Value → zz_H → Prop} {x1 : Int32} {y0 : Int32} {s s' : mS} {v : Option Value} (hf : mf_66_61 N x1 y0 s = some (s', v)) (k : Q v (mH h s')) : zz_E zp_P zt_tf zt_fd X (d + 6) zm_66 61 [(0, .ref 61), (1, .int x1)] [.int y0] (mH h s) Q := by
  unfold mf_66_61 at hf
  exact mb_66_61 hh  (mr_66_L8 hh N hf k)
def mf_66_39 (N : Nat)  (s : mS) : mO := mo_bi (mf_274 N (s.2.1 7) s) (fun s1 y => mf_66_61 N ((12 * (1 - (s.1 12))) + (s.1 15)) y s1)
theorem mr_66_39 {X : Nat → Option zz_C} {h : zz_H} (hh : 111 ≤ h.length) {d : Nat} {N : Nat} {Q : Option Value → zz_H → Prop}  {s s' : mS} {v : Option Value} (hf : mf_66_39 N  s = some (s', v)) (k : Q v (mH h s')) : zz_E zp_P zt_tf zt_fd X (d + 6) zm_66 39 [(0, .ref 61)] [] (mH h s) Q := by
  unfold mf_66_39 at hf
  obtain ⟨s1, y, e, hf⟩ := mo_bi_ok hf
  exact mb_66_39 (d := d + 5) hh  (mr_274 (d := d + 5) hh e (mr_66_61 hh hf k))
def mf_66_38 (N : Nat)  (s : mS) : mO := some (s, none)
theorem mr_66_38 {X : Nat → Option zz_C} {h : zz_H} (hh : 111 ≤ h.length) {d : Nat} {N : Nat} {Q : Option Value → zz_H → Prop}  {s s' : mS} {v : Option Value} (hf : mf_66_38 N  s = some (s', v)) (k : Q v (mH h s')) : zz_E zp_P zt_tf zt_fd X (d + 6) zm_66 38 [] [] (mH h s) Q := by
  unfold mf_66_38 at hf
  cases hf
  exact mb_66_38 hh  k
def mf_66_29 (N : Nat)  (s : mS) : mO := mo_bv (mf_261 N 3 (s.1 6) s) (fun s1 => mf_66_38 N  s1)
theorem mr_66_29 {X : Nat → Option zz_C} {h : zz_H} (hh : 111 ≤ h.length) {d : Nat} {N : Nat} {Q : Option Value → zz_H → Prop}  {s s' : mS} {v : Option Value} (hf : mf_66_29 N  s = some (s', v)) (k : Q v (mH h s')) : zz_E zp_P zt_tf zt_fd X (d + 6) zm_66 29 [(0, .ref 61)] [] (mH h s) Q := by
  unfold mf_66_29 at hf
  obtain ⟨s1, e, hf⟩ := mo_bv_ok hf
  exact mb_66_29 (d := d + 5) hh  (mr_261 (d := d + 5) hh e (mr_66_38 hh hf k))
def mf_66_20 (N : Nat)  (s : mS) : mO := if ¬ (s.1 15) = 12 then mf_66_39 N  s else mf_66_29 N  s
theorem mr_66_20 {X : Nat → Option zz_C} {h : zz_H} (hh : 111 ≤ h.length) {d : Nat} {N : Nat} {Q : Option Value → zz_H → Prop}  {s s' : mS} {v : Option Value} (hf : mf_66_20 N  s = some (s', v)) (k : Q v (mH h s')) : zz_E zp_P zt_tf zt_fd X (d + 6) zm_66 20 [(0, .ref 61)] [] (mH h s) Q := by
  unfold mf_66_20 at hf
  refine mb_66_20 hh  (fun c => ?_) (fun c => ?_)
  · rw [if_pos c] at hf
    exact mr_66_39 hh hf k
  · rw [if_neg c] at hf
    exact mr_66_29 hh hf k
def mf_66_19 (N : Nat)  (s : mS) : mO := some (s, none)
theorem mr_66_19 {X : Nat → Option zz_C} {h : zz_H} (hh : 111 ≤ h.length) {d : Nat} {N : Nat} {Q : Option Value → zz_H → Prop}  {s s' : mS} {v : Option Value} (hf : mf_66_19 N  s = some (s', v)) (k : Q v (mH h s')) : zz_E zp_P zt_tf zt_fd X (d + 6) zm_66 19 [] [] (mH h s) Q := by
  unfold mf_66_19 at hf
  cases hf
  exact mb_66_19 hh  k
def mf_66_15 (N : Nat)  (s : mS) : mO := mo_bv (mf_262 N  s) (fun s1 => mf_66_19 N  s1)
theorem mr_66_15 {X : Nat → Option zz_C} {h : zz_H} (hh : 111 ≤ h.length) {d : Nat} {N : Nat} {Q : Option Value → zz_H → Prop}  {s s' : mS} {v : Option Value} (hf : mf_66_15 N  s = some (s', v)) (k : Q v (mH h s')) : zz_E zp_P zt_tf zt_fd X (d + 6) zm_66 15 [(0, .ref 61)] [] (mH h s) Q := by
  unfold mf_66_15 at hf
  obtain ⟨s1, e, hf⟩ := mo_bv_ok hf
  exact mb_66_15 (d := d + 5) hh  (mr_262 (d := d + 4) hh e (mr_66_19 hh hf k))
def mf_66_12 (N : Nat) (y0 : Int32) (s : mS) : mO := if ¬ y0 = 0 then mf_66_20 N  s else mf_66_15 N  s
theorem mr_66_12 {X : Nat → Option zz_C} {h : zz_H} (hh : 111 ≤ h.length) {d : Nat} {N : Nat} {Q : Option Value → zz_H → Prop} {y0 : Int32} {s s' : mS} {v : Option Value} (hf : mf_66_12 N y0 s = some (s', v)) (k : Q v (mH h s')) : zz_E zp_P zt_tf zt_fd X (d + 6) zm_66 12 [(0, .ref 61)] [.int y0] (mH h s) Q := by
  unfold mf_66_12 at hf
  refine mb_66_12 hh  (fun c => ?_) (fun c => ?_)
  · rw [if_pos c] at hf
    exact mr_66_20 hh hf k
  · rw [if_neg c] at hf
    exact mr_66_15 hh hf k
def mf_66_8 (N : Nat)  (s : mS) : mO := mo_bi (mf_266 N  s) (fun s1 y => mf_66_12 N y s1)
theorem mr_66_8 {X : Nat → Option zz_C} {h : zz_H} (hh : 111 ≤ h.length) {d : Nat} {N : Nat} {Q : Option Value → zz_H → Prop}  {s s' : mS} {v : Option Value} (hf : mf_66_8 N  s = some (s', v)) (k : Q v (mH h s')) : zz_E zp_P zt_tf zt_fd X (d + 6) zm_66 8 [(0, .ref 61)] [] (mH h s) Q := by
  unfold mf_66_8 at hf
  obtain ⟨s1, y, e, hf⟩ := mo_bi_ok hf
  exact mb_66_8 (d := d + 5) hh  (mr_266 (d := d + 4) hh e (mr_66_12 hh hf k))
def mf_66_7 (N : Nat)  (s : mS) : mO := some (s, none)
theorem mr_66_7 {X : Nat → Option zz_C} {h : zz_H} (hh : 111 ≤ h.length) {d : Nat} {N : Nat} {Q : Option Value → zz_H → Prop}  {s s' : mS} {v : Option Value} (hf : mf_66_7 N  s = some (s', v)) (k : Q v (mH h s')) : zz_E zp_P zt_tf zt_fd X (d + 6) zm_66 7 [] [] (mH h s) Q := by
  unfold mf_66_7 at hf
  cases hf
  exact mb_66_7 hh  k
def mf_66_0 (N : Nat)  (s : mS) : mO := if (s.1 9) ≤ 0 then mf_66_8 N  s else mf_66_7 N  s
theorem mr_66_0 {X : Nat → Option zz_C} {h : zz_H} (hh : 111 ≤ h.length) {d : Nat} {N : Nat} {Q : Option Value → zz_H → Prop}  {s s' : mS} {v : Option Value} (hf : mf_66_0 N  s = some (s', v)) (k : Q v (mH h s')) : zz_E zp_P zt_tf zt_fd X (d + 6) zm_66 0 [(0, .ref 61)] [] (mH h s) Q := by
  unfold mf_66_0 at hf
  refine mb_66_0 hh  (fun c => ?_) (fun c => ?_)
  · rw [if_pos c] at hf
    exact mr_66_8 hh hf k
  · rw [if_neg c] at hf
    exact mr_66_7 hh hf k
/-- function -/
def mf_66 (N : Nat)  (s : mS) : mO := mf_66_0 N  s
theorem mr_66 {X : Nat → Option zz_C} {h : zz_H} (hh : 111 ≤ h.length) {d : Nat} {N : Nat} {Q : Option Value → zz_H → Prop}  {s s' : mS} {v : Option Value} (hf : mf_66 N  s = some (s', v)) (k : Q v (mH h s')) : zz_E zp_P zt_tf zt_fd X (d + 6) zm_66 0 [(0, .ref 61)] [] (mH h s) Q := by
  unfold mf_66 at hf
  exact zz_E.weak (mr_66_0 hh hf k) rfl ⟨rfl, trivial⟩
/-! textOf ()V -/
theorem mb_63_0 {X : Nat → Option zz_C} {h : zz_H} (hh : 111 ≤ h.length) {s : mS} {d : Nat} {Q : Option Value → zz_H → Prop}  (k : zz_E zp_P zt_tf zt_fd X d zm_63 5 [(0, .ref 61)] [] (mH h (mI s 37 0)) Q) : zz_E zp_P zt_tf zt_fd X d zm_63 0 [(0, .ref 61)] [] (mH h s) Q := by
  refine zz_E.n 1 rfl rfl rfl ?_
  refine zz_E.c 2 (.int 0) rfl rfl rfl rfl ?_
  refine mE_p hh 5 rfl (by decide) rfl (mF_37 _ _) rfl ?_
  exact zz_E.weak k rfl ⟨rfl, trivial⟩
theorem mb_63_5 {X : Nat → Option zz_C} {h : zz_H} (hh : 111 ≤ h.length) {s : mS} {d : Nat} {Q : Option Value → zz_H → Prop}  (k1 : ¬ (s.1 9) = 0 → zz_E zp_P zt_tf zt_fd X d zm_63 68 [] [] (mH h s) Q) (k2 : ¬ ¬ (s.1 9) = 0 → zz_E zp_P zt_tf zt_fd X d zm_63 12 [(0, .ref 61)] [] (mH h s) Q) : zz_E zp_P zt_tf zt_fd X d zm_63 5 [(0, .ref 61)] [] (mH h s) Q := by
  refine zz_E.n 6 rfl rfl rfl ?_
  refine mE_g hh 9 (v := .int (s.1 9)) rfl rfl rfl ?_
  refine zz_E.b1 68 12 (A := ¬ (s.1 9) = 0) rfl (zz_cond_ne _ _) (by decide) rfl rfl (fun c => ?_) (fun c => ?_)
  · exact zz_E.weak (k1 c) rfl trivial
  · exact zz_E.weak (k2 c) rfl ⟨rfl, trivial⟩
theorem mb_63_12 {X : Nat → Option zz_C} {h : zz_H} (hh : 111 ≤ h.length) {s : mS} {d : Nat} {Q : Option Value → zz_H → Prop}  (k1 : 0 < (s.1 37) → zz_E zp_P zt_tf zt_fd X d zm_63 26 [(0, .ref 61)] [] (mH h s) Q) (k2 : ¬ 0 < (s.1 37) → zz_E zp_P zt_tf zt_fd X d zm_63 19 [(0, .ref 61)] [] (mH h s) Q) : zz_E zp_P zt_tf zt_fd X d zm_63 12 [(0, .ref 61)] [] (mH h s) Q := by
  refine zz_E.n 13 rfl rfl rfl ?_
  refine mE_g hh 16 (v := .int (s.1 37)) rfl rfl rfl ?_
  refine zz_E.b1 26 19 (A := 0 < (s.1 37)) rfl rfl (by decide) rfl rfl (fun c => ?_) (fun c => ?_)
  · exact zz_E.weak (k1 c) rfl ⟨rfl, trivial⟩
  · exact zz_E.weak (k2 c) rfl ⟨rfl, trivial⟩
theorem mb_63_19 {X : Nat → Option zz_C} {h : zz_H} (hh : 111 ≤ h.length) {s : mS} {d : Nat} {Q : Option Value → zz_H → Prop}  (k1 : (s.1 5) = 0 → zz_E zp_P zt_tf zt_fd X d zm_63 68 [] [] (mH h s) Q) (k2 : ¬ (s.1 5) = 0 → zz_E zp_P zt_tf zt_fd X d zm_63 26 [(0, .ref 61)] [] (mH h s) Q) : zz_E zp_P zt_tf zt_fd X d zm_63 19 [(0, .ref 61)] [] (mH h s) Q := by
  refine zz_E.n 20 rfl rfl rfl ?_
  refine mE_g hh 23 (v := .int (s.1 5)) rfl rfl rfl ?_
  refine zz_E.b1 68 26 (A := (s.1 5) = 0) rfl rfl (by decide) rfl rfl (fun c => ?_) (fun c => ?_)
  · exact zz_E.weak (k1 c) rfl trivial
  · exact zz_E.weak (k2 c) rfl ⟨rfl, trivial⟩
theorem mb_63_26 {X : Nat → Option zz_C} {h : zz_H} (hh : 111 ≤ h.length) {s : mS} {d : Nat} {Q : Option Value → zz_H → Prop}  (k1 : ¬ (s.1 37) = 0 → zz_E zp_P zt_tf zt_fd X d zm_63 45 [(0, .ref 61)] [] (mH h s) Q) (k2 : ¬ ¬ (s.1 37) = 0 → zz_E zp_P zt_tf zt_fd X d zm_63 33 [(0, .ref 61)] [] (mH h s) Q) : zz_E zp_P zt_tf zt_fd X d zm_63 26 [(0, .ref 61)] [] (mH h s) Q := by
  refine zz_E.n 27 rfl rfl rfl ?_
  refine mE_g hh 30 (v := .int (s.1 37)) rfl rfl rfl ?_
  refine zz_E.b1 45 33 (A := ¬ (s.1 37) = 0) rfl (zz_cond_ne _ _) (by decide) rfl rfl (fun c => ?_) (fun c => ?_)
  · exact zz_E.weak (k1 c) rfl ⟨rfl, trivial⟩
  · exact zz_E.weak (k2 c) rfl ⟨rfl, trivial⟩
theorem mb_63_33 {X : Nat → Option zz_C} {h : zz_H} (hh : 111 ≤ h.length) {s : mS} {d : Nat} {Q : Option Value → zz_H → Prop}  (k : zz_E zp_P zt_tf zt_fd X d zm_269 0 [(0, .ref 61), (1, .int 0)] [] (mH h s) (fun v h' => zz_E zp_P zt_tf zt_fd X (d + 1) zm_63 38 [(0, .ref 61)] (v.toList ++ []) h' Q)) : zz_E zp_P zt_tf zt_fd X (d + 1) zm_63 33 [(0, .ref 61)] [] (mH h s) Q := by
  refine zz_E.n 34 rfl rfl rfl ?_
  refine zz_E.c 35 (.int 0) rfl rfl rfl rfl ?_
  refine mE_cv hh 38 (as := []) rfl rfl (Nat.le_of_ble_eq_true rfl) (Nat.le_of_ble_eq_true rfl) rfl (Nat.le_of_ble_eq_true rfl) rfl ?_
  refine zz_E.mono k ?_
  intro v h' hE
  exact zz_E.weak hE rfl ⟨rfl, trivial⟩
theorem mb_63_38 {X : Nat → Option zz_C} {h : zz_H} (hh : 111 ≤ h.length) {s : mS} {d : Nat} {Q : Option Value → zz_H → Prop}  (k : zz_E zp_P zt_tf zt_fd X d zm_66 0 [(0, .ref 61)] [] (mH h s) (fun v h' => zz_E zp_P zt_tf zt_fd X (d + 1) zm_63 42 [(0, .ref 61)] (v.toList ++ []) h' Q)) : zz_E zp_P zt_tf zt_fd X (d + 1) zm_63 38 [(0, .ref 61)] [] (mH h s) Q := by
  refine zz_E.n 39 rfl rfl rfl ?_
  refine mE_cv hh 42 (as := []) rfl rfl (Nat.le_of_ble_eq_true rfl) (Nat.le_of_ble_eq_true rfl) rfl (Nat.le_of_ble_eq_true rfl) rfl ?_
  refine zz_E.mono k ?_
  intro v h' hE
  exact zz_E.weak hE rfl ⟨rfl, trivial⟩
theorem mb_63_42 {X : Nat → Option zz_C} {h : zz_H} (hh : 111 ≤ h.length) {s : mS} {d : Nat} {Q : Option Value → zz_H → Prop}  (k : zz_E zp_P zt_tf zt_fd X d zm_63 5 [(0, .ref 61)] [] (mH h s) Q) : zz_E zp_P zt_tf zt_fd X d zm_63 42 [(0, .ref 61)] [] (mH h s) Q := by
  refine zz_E.n 5 rfl rfl rfl ?_
  exact zz_E.weak k rfl ⟨rfl, trivial⟩
theorem mb_63_45 {X : Nat → Option zz_C} {h : zz_H} (hh : 111 ≤ h.length) {s : mS} {d : Nat} {Q : Option Value → zz_H → Prop}  (k : zz_E zp_P zt_tf zt_fd X d zm_263 0 [(0, .ref 61), (1, .int 125)] [] (mH h s) (fun v h' => zz_E zp_P zt_tf zt_fd X (d + 1) zm_63 51 [(0, .ref 61)] (v.toList ++ []) h' Q)) : zz_E zp_P zt_tf zt_fd X (d + 1) zm_63 45 [(0, .ref 61)] [] (mH h s) Q := by
  refine zz_E.n 46 rfl rfl rfl ?_
  refine zz_E.c 48 (.int 125) rfl rfl rfl rfl ?_
  refine mE_cv hh 51 (as := []) rfl rfl (Nat.le_of_ble_eq_true rfl) (Nat.le_of_ble_eq_true rfl) rfl (Nat.le_of_ble_eq_true rfl) rfl ?_
  refine zz_E.mono k ?_
  intro v h' hE
  exact zz_E.weak hE rfl ⟨rfl, trivial⟩
theorem mb_63_51 {X : Nat → Option zz_C} {h : zz_H} (hh : 111 ≤ h.length) {s : mS} {d : Nat} {Q : Option Value → zz_H → Prop} {y0 : Int32} (k1 : y0 = 0 → zz_E zp_P zt_tf zt_fd X d zm_63 61 [(0, .ref 61)] [] (mH h s) Q) (k2 : ¬ y0 = 0 → zz_E zp_P zt_tf zt_fd X d zm_63 54 [(0, .ref 61)] [] (mH h s) Q) : zz_E zp_P zt_tf zt_fd X d zm_63 51 [(0, .ref 61)] [.int y0] (mH h s) Q := by
  refine zz_E.b1 61 54 (A := y0 = 0) rfl rfl (by decide) rfl rfl (fun c => ?_) (fun c => ?_)
  · exact zz_E.weak (k1 c) rfl ⟨rfl, trivial⟩
  · exact zz_E.weak (k2 c) rfl ⟨rfl, trivial⟩
theorem mb_63_54 {X : Nat → Option zz_C} {h : zz_H} (hh : 111 ≤ h.length) {s : mS} {d : Nat} {Q : Option Value → zz_H → Prop}  (k : zz_E zp_P zt_tf zt_fd X d zm_278 0 [(0, .ref 61)] [] (mH h s) (fun v h' => zz_E zp_P zt_tf zt_fd X (d + 1) zm_63 58 [(0, .ref 61)] (v.toList ++ []) h' Q)) : zz_E zp_P zt_tf zt_fd X (d + 1) zm_63 54 [(0, .ref 61)] [] (mH h s) Q := by
  refine zz_E.n 55 rfl rfl rfl ?_
  refine mE_cv hh 58 (as := []) rfl rfl (Nat.le_of_ble_eq_true rfl) (Nat.le_of_ble_eq_true rfl) rfl (Nat.le_of_ble_eq_true rfl) rfl ?_
  refine zz_E.mono k ?_
  intro v h' hE
  exact zz_E.weak hE rfl ⟨rfl, trivial⟩
theorem mb_63_58 {X : Nat → Option zz_C} {h : zz_H} (hh : 111 ≤ h.length) {s : mS} {d : Nat} {Q : Option Value → zz_H → Prop}  (k : zz_E zp_P zt_tf zt_fd X d zm_63 5 [(0, .ref 61)] [] (mH h s) Q) : zz_E zp_P zt_tf zt_fd X d zm_63 58 [(0, .ref 61)] [] (mH h s) Q := by
  refine zz_E.n 5 rfl rfl rfl ?_
  exact zz_E.weak k rfl ⟨rfl, trivial⟩
theorem mb_63_61 {X : Nat → Option zz_C} {h : zz_H} (hh : 111 ≤ h.length) {s : mS} {d : Nat} {Q : Option Value → zz_H → Prop}  (k : zz_E zp_P zt_tf zt_fd X d zm_279 0 [(0, .ref 61)] [] (mH h s) (fun v h' => zz_E zp_P zt_tf zt_fd X (d + 1) zm_63 65 [(0, .ref 61)] (v.toList ++ []) h' Q)) : zz_E zp_P zt_tf zt_fd X (d + 1) zm_63 61 [(0, .ref 61)] [] (mH h s) Q := by
  refine zz_E.n 62 rfl rfl rfl ?_
  refine mE_cv hh 65 (as := []) rfl rfl (Nat.le_of_ble_eq_true rfl) (Nat.le_of_ble_eq_true rfl) rfl (Nat.le_of_ble_eq_true rfl) rfl ?_
  refine zz_E.mono k ?_
  intro v h' hE
  exact zz_E.weak hE rfl ⟨rfl, trivial⟩
theorem mb_63_65 {X : Nat → Option zz_C} {h : zz_H} (hh : 111 ≤ h.length) {s : mS} {d : Nat} {Q : Option Value → zz_H → Prop}  (k : zz_E zp_P zt_tf zt_fd X d zm_63 5 [(0, .ref 61)] [] (mH h s) Q) : zz_E zp_P zt_tf zt_fd X d zm_63 65 [(0, .ref 61)] [] (mH h s) Q := by
  refine zz_E.n 5 rfl rfl rfl ?_
  exact zz_E.weak k rfl ⟨rfl, trivial⟩
theorem mb_63_68 {X : Nat → Option zz_C} {h : zz_H} (hh : 111 ≤ h.length) {s : mS} {d : Nat} {Q : Option Value → zz_H → Prop}  (k : Q none (mH h s)) : zz_E zp_P zt_tf zt_fd X d zm_63 68 [] [] (mH h s) Q := by
  refine zz_E.ret rfl rfl rfl ?_
  exact k
def mf_63_68 (N : Nat)  (s : mS) : mO := some (s, none)
theorem mr_63_68 {X : Nat → Option zz_C} {h : zz_H} (hh : 111 ≤ h.length) {d : Nat} {N : Nat} {Q : Option Value → zz_H → Prop}  {s s' : mS} {v : Option Value} (hf : mf_63_68 N  s = some (s', v)) (k : Q v (mH h s')) : zz_E zp_P zt_tf zt_fd X (d + 11) zm_63 68 [] [] (mH h s) Q := by
  unfold mf_63_68 at hf
  cases hf
  exact mb_63_68 hh  k
def mf_63_65 (N : Nat) (rc : Nat → mS → mO)  (s : mS) : mO := rc 0  s
theorem mr_63_65 {X : Nat → Option zz_C} {h : zz_H} (hh : 111 ≤ h.length) {d : Nat} {N : Nat} {rc : Nat → mS → mO} (hrc0 : ∀ {Q : Option Value → zz_H → Prop}  {s s' : mS} {v : Option Value}, rc 0  s = some (s', v) → Q v (mH h s') → zz_E zp_P zt_tf zt_fd X (d + 11) zm_63 5 [(0, .ref 61)] [] (mH h s) Q) {Q : Option Value → zz_H → Prop}  {s s' : mS} {v : Option Value} (hf : mf_63_65 N rc  s = some (s', v)) (k : Q v (mH h s')) : zz_E zp_P zt_tf zt_fd X (d + 11) zm_63 65 [(0, .ref 61)] [] (mH h s) Q := by
  unfold mf_63_65 at hf
  exact mb_63_65 hh  (hrc0 hf k)
def mf_63_61 (N : Nat) (rc : Nat → mS → mO)  (s : mS) : mO := mo_bv (mf_279 N  s) (fun s1 => mf_63_65 N rc  s1)
theorem mr_63_61 {X : Nat → Option zz_C} {h : zz_H} (hh : 111 ≤ h.length) {d : Nat} {N : Nat} {rc : Nat → mS → mO} (hrc0 : ∀ {Q : Option Value → zz_H → Prop}  {s s' : mS} {v : Option Value}, rc 0  s = some (s', v) → Q v (mH h s') → zz_E zp_P zt_tf zt_fd X (d + 11) zm_63 5 [(0, .ref 61)] [] (mH h s) Q) {Q : Option Value → zz_H → Prop}  {s s' : mS} {v : Option Value} (hf : mf_63_61 N rc  s = some (s', v)) (k : Q v (mH h s')) : zz_E zp_P zt_tf zt_fd X (d + 11) zm_63 61 [(0, .ref 61)] [] (mH h s) Q := by
  unfold mf_63_61 at hf
  obtain ⟨s1, e, hf⟩ := mo_bv_ok hf
  exact mb_63_61 (d := d + 10) hh  (mr_279 (d := d + 0) hh e (mr_63_65 hh hrc0 hf k))
def mf_63_58 (N : Nat) (rc : Nat → mS → mO)  (s : mS) : mO := rc 0  s
theorem mr_63_58 {X : Nat → Option zz_C} {h : zz_H} (hh : 111 ≤ h.length) {d : Nat} {N : Nat} {rc : Nat → mS → mO} (hrc0 : ∀ {Q : Option Value → zz_H → Prop}  {s s' : mS} {v : Option Value}, rc 0  s = some (s', v) → Q v (mH h s') → zz_E zp_P zt_tf zt_fd X (d + 11) zm_63 5 [(0, .ref 61)] [] (mH h s) Q) {Q : Option Value → zz_H → Prop}  {s s' : mS} {v : Option Value} (hf : mf_63_58 N rc  s = some (s', v)) (k : Q v (mH h s')) : zz_E zp_P zt_tf zt_fd X (d + 11) zm_63 58 [(0, .ref 61)] [] (mH h s) Q := by
  unfold mf_63_58 at hf
  exact mb_63_58 hh  (hrc0 hf k)
def mf_63_54 (N : Nat) (rc : Nat → mS → mO)  (s : mS) : mO := mo_bv (mf_278 N  s) (fun s1 => mf_63_58 N rc  s1)
theorem mr_63_54 {X : Nat → Option zz_C} {h : zz_H} (hh : 111 ≤ h.length) {d : Nat} {N : Nat} {rc : Nat → mS → mO} (hrc0 : ∀ {Q : Option Value → zz_H → Prop}  {s s' : mS} {v : Option Value}, rc 0  s = some (s', v) → Q v (mH h s') → zz_E zp_P zt_tf zt_fd X (d + 11) zm_63 5 [(0, .ref 61)] [] (mH h s) Q) {Q : Option Value → zz_H → Prop}  {s s' : mS} {v : Option Value} (hf : mf_63_54 N rc  s = some (s', v)) (k : Q v (mH h s')) : zz_E zp_P zt_tf zt_fd X (d + 11) zm_63 54 [(0, .ref 61)] [] (mH h s) Q := by
  unfold mf_63_54 at hf
  obtain ⟨s1, e, hf⟩ := mo_bv_ok hf
  exact mb_63_54 (d := d + 10) hh  (mr_278 (d := d + 4) hh e (mr_63_58 hh hrc0 hf k))
def mf_63_51 (N : Nat) (rc : Nat → mS → mO) (y0 : Int32) (s : mS) : mO := if y0 = 0 then mf_63_61 N rc  s else mf_63_54 N rc  s
theorem mr_63_51 {X : Nat → Option zz_C} {h : zz_H} (hh : 111 ≤ h.length) {d : Nat} {N : Nat} {rc : Nat → mS → mO} (hrc0 : ∀ {Q : Option Value → zz_H → Prop}  {s s' : mS} {v : Option Value}, rc 0  s = some (s', v) → Q v (mH h s') → zz_E zp_P zt_tf zt_fd X (d + 11) zm_63 5 [(0, .ref 61)] [] (mH h s) Q) {Q : Option Value → zz_H → Prop} {y0 : Int32} {s s' : mS} {v : Option Value} (hf : mf_63_51 N rc y0 s = some (s', v)) (k : Q v (mH h s')) : zz_E zp_P zt_tf zt_fd X (d + 11) zm_63 51 [(0, .ref 61)] [.int y0] (mH h s) Q := by
  unfold mf_63_51 at hf
  refine mb_63_51 hh  (fun c => ?_) (fun c => ?_)
  · rw [if_pos c] at hf
    exact mr_63_61 hh hrc0 hf k
  · rw [if_neg c] at hf
    exact mr_63_54 hh hrc0 hf k
def mf_63_45 (N : Nat) (rc : Nat → mS → mO)  (s : mS) : mO := mo_bi (mf_263 N 125 s) (fun s1 y => mf_63_51 N rc y s1)
theorem mr_63_45 {X : Nat → Option zz_C} {h : zz_H} (hh : 111 ≤ h.length) {d : Nat} {N : Nat} {rc : Nat → mS → mO} (hrc0 : ∀ {Q : Option Value → zz_H → Prop}  {s s' : mS} {v : Option Value}, rc 0  s = some (s', v) → Q v (mH h s') → zz_E zp_P zt_tf zt_fd X (d + 11) zm_63 5 [(0, .ref 61)] [] (mH h s) Q) {Q : Option Value → zz_H → Prop}  {s s' : mS} {v : Option Value} (hf : mf_63_45 N rc  s = some (s', v)) (k : Q v (mH h s')) : zz_E zp_P zt_tf zt_fd X (d + 11) zm_63 45 [(0, .ref 61)] [] (mH h s) Q := by
  unfold mf_63_45 at hf
  obtain ⟨s1, y, e, hf⟩ := mo_bi_ok hf
  exact mb_63_45 (d := d + 10) hh  (mr_263 (d := d + 10) hh e (mr_63_51 hh hrc0 hf k))
def mf_63_42 (N : Nat) (rc : Nat → mS → mO)  (s : mS) : mO := rc 0  s
theorem mr_63_42 {X : Nat → Option zz_C} {h : zz_H} (hh : 111 ≤ h.length) {d : Nat} {N : Nat} {rc : Nat → mS → mO} (hrc0 : ∀ {Q : Option Value → zz_H → Prop}  {s s' : mS} {v : Option Value}, rc 0  s = some (s', v) → Q v (mH h s') → zz_E zp_P zt_tf zt_fd X (d + 11) zm_63 5 [(0, .ref 61)] [] (mH h s) Q) {Q : Option Value → zz_H → Prop}  {s s' : mS} {v : Option Value} (hf : mf_63_42 N rc  s = some (s', v)) (k : Q v (mH h s')) : zz_E zp_P zt_tf zt_fd X (d + 11) zm_63 42 [(0, .ref 61)] [] (mH h s) Q := by
  unfold mf_63_42 at hf
  exact mb_63_42 hh  (hrc0 hf k)
def mf_63_38 (N : Nat) (rc : Nat → mS → mO)  (s : mS) : mO := mo_bv (mf_66 N  s) (fun s1 => mf_63_42 N rc  s1)
theorem mr_63_38 {X : Nat → Option zz_C} {h : zz_H} (hh : 111 ≤ h.length) {d : Nat} {N : Nat} {rc : Nat → mS → mO} (hrc0 : ∀ {Q : Option Value → zz_H → Prop}  {s s' : mS} {v : Option Value}, rc 0  s = some (s', v) → Q v (mH h s') → zz_E zp_P zt_tf zt_fd X (d + 11) zm_63 5 [(0, .ref 61)] [] (mH h s) Q) {Q : Option Value → zz_H → Prop}  {s s' : mS} {v : Option Value} (hf : mf_63_38 N rc  s = some (s', v)) (k : Q v (mH h s')) : zz_E zp_P zt_tf zt_fd X (d + 11) zm_63 38 [(0, .ref 61)] [] (mH h s) Q := by
  unfold mf_63_38 at hf
  obtain ⟨s1, e, hf⟩ := mo_bv_ok hf
  exact mb_63_38 (d := d + 10) hh  (mr_66 (d := d + 4) hh e (mr_63_42 hh hrc0 hf k))
def mf_63_33 (N : Nat) (rc : Nat → mS → mO)  (s : mS) : mO := mo_bv (mf_269 N 0 s) (fun s1 => mf_63_38 N rc  s1)
theorem mr_63_33 {X : Nat → Option zz_C} {h : zz_H} (hh : 111 ≤ h.length) {d : Nat} {N : Nat} {rc : Nat → mS → mO} (hrc0 : ∀ {Q : Option Value → zz_H → Prop}  {s s' : mS} {v : Option Value}, rc 0  s = some (s', v) → Q v (mH h s') → zz_E zp_P zt_tf zt_fd X (d + 11) zm_63 5 [(0, .ref 61)] [] (mH h s) Q) {Q : Option Value → zz_H → Prop}  {s s' : mS} {v : Option Value} (hf : mf_63_33 N rc  s = some (s', v)) (k : Q v (mH h s')) : zz_E zp_P zt_tf zt_fd X (d + 11) zm_63 33 [(0, .ref 61)] [] (mH h s) Q := by
  unfold mf_63_33 at hf
  obtain ⟨s1, e, hf⟩ := mo_bv_ok hf
  exact mb_63_33 (d := d + 10) hh  (mr_269 (d := d + 6) hh e (mr_63_38 hh hrc0 hf k))
def mf_63_26 (N : Nat) (rc : Nat → mS → mO)  (s : mS) : mO := if ¬ (s.1 37) = 0 then mf_63_45 N rc  s else mf_63_33 N rc  s
theorem mr_63_26 {X : Nat → Option zz_C} {h : zz_H} (hh : 111 ≤ h.length) {d : Nat} {N : Nat} {rc : Nat → mS → mO} (hrc0 : ∀ {Q : Option Value → zz_H → Prop}  {s s' : mS} {v : Option Value}, rc 0  s = some (s', v) → Q v (mH h s') → zz_E zp_P zt_tf zt_fd X (d + 11) zm_63 5 [(0, .ref 61)] [] (mH h s) Q) {Q : Option Value → zz_H → Prop}  {s s' : mS} {v : Option Value} (hf : mf_63_26 N rc  s = some (s', v)) (k : Q v (mH h s')) : zz_E zp_P zt_tf zt_fd X (d + 11) zm_63 26 [(0, .ref 61)] [] (mH h s) Q := by
  unfold mf_63_26 at hf
  refine mb_63_26 hh  (fun c => ?_) (fun c => ?_)
  · rw [if_pos c] at hf
    exact mr_63_45 hh hrc0 hf k
  · rw [if_neg c] at hf
    exact mr_63_33 hh hrc0 hf k
def mf_63_19 (N : Nat) (rc : Nat → mS → mO)  (s : mS) : mO := if (s.1 5) = 0 then mf_63_68 N  s else mf_63_26 N rc  s
theorem mr_63_19 {X : Nat → Option zz_C} {h : zz_H} (hh : 111 ≤ h.length) {d : Nat} {N : Nat} {rc : Nat → mS → mO} (hrc0 : ∀ {Q : Option Value → zz_H → Prop}  {s s' : mS} {v : Option Value}, rc 0  s = some (s', v) → Q v (mH h s') → zz_E zp_P zt_tf zt_fd X (d + 11) zm_63 5 [(0, .ref 61)] [] (mH h s) Q) {Q : Option Value → zz_H → Prop}  {s s' : mS} {v : Option Value} (hf : mf_63_19 N rc  s = some (s', v)) (k : Q v (mH h s')) : zz_E zp_P zt_tf zt_fd X (d + 11) zm_63 19 [(0, .ref 61)] [] (mH h s) Q := by
  unfold mf_63_19 at hf
  refine mb_63_19 hh  (fun c => ?_) (fun c => ?_)
  · rw [if_pos c] at hf
    exact mr_63_68 hh hf k
  · rw [if_neg c] at hf
    exact mr_63_26 hh hrc0 hf k
def mf_63_12 (N : Nat) (rc : Nat → mS → mO)  (s : mS) : mO := if 0 < (s.1 37) then mf_63_26 N rc  s else mf_63_19 N rc  s
theorem mr_63_12 {X : Nat → Option zz_C} {h : zz_H} (hh : 111 ≤ h.length) {d : Nat} {N : Nat} {rc : Nat → mS → mO} (hrc0 : ∀ {Q : Option Value → zz_H → Prop}  {s s' : mS} {v : Option Value}, rc 0  s = some (s', v) → Q v (mH h s') → zz_E zp_P zt_tf zt_fd X (d + 11) zm_63 5 [(0, .ref 61)] [] (mH h s) Q) {Q : Option Value → zz_H → Prop}  {s s' : mS} {v : Option Value} (hf : mf_63_12 N rc  s = some (s', v)) (k : Q v (mH h s')) : zz_E zp_P zt_tf zt_fd X (d + 11) zm_63 12 [(0, .ref 61)] [] (mH h s) Q := by
  unfold mf_63_12 at hf
  refine mb_63_12 hh  (fun c => ?_) (fun c => ?_)
  · rw [if_pos c] at hf
    exact mr_63_26 hh hrc0 hf k
  · rw [if_neg c] at hf
    exact mr_63_19 hh hrc0 hf k
def mf_63_5 (N : Nat) (rc : Nat → mS → mO)  (s : mS) : mO := if ¬ (s.1 9) = 0 then mf_63_68 N  s else mf_63_12 N rc  s
theorem mr_63_5 {X : Nat → Option zz_C} {h : zz_H} (hh : 111 ≤ h.length) {d : Nat} {N : Nat} {rc : Nat → mS → mO} (hrc0 : ∀ {Q : Option Value → zz_H → Prop}  {s s' : mS} {v : Option Value}, rc 0  s = some (s', v) → Q v (mH h s') → zz_E zp_P zt_tf zt_fd X (d + 11) zm_63 5 [(0, .ref 61)] [] (mH h s) Q) {Q : Option Value → zz_H → Prop}  {s s' : mS} {v : Option Value} (hf : mf_63_5 N rc  s = some (s', v)) (k : Q v (mH h s')) : zz_E zp_P zt_tf zt_fd X (d + 11) zm_63 5 [(0, .ref 61)] [] (mH h s) Q := by
  unfold mf_63_5 at hf
  refine mb_63_5 hh  (fun c => ?_) (fun c => ?_)
  · rw [if_pos c] at hf
    exact mr_63_68 hh hf k
  · rw [if_neg c] at hf
    exact mr_63_12 hh hrc0 hf k
def mf_63_L1 (N : Nat) : Nat → Nat → mS → mO
  | 0, _, _ => none
  | n + 1, l, s => if l = 0 then mf_63_5 N (mf_63_L1 N n)  s else none
theorem mr_63_L1 {X : Nat → Option zz_C} {h : zz_H} (hh : 111 ≤ h.length) {d : Nat} {N : Nat} : ∀ n : Nat, (∀ {Q : Option Value → zz_H → Prop}  {s s' : mS} {v : Option Value}, mf_63_L1 N n 0  s = some (s', v) → Q v (mH h s') → zz_E zp_P zt_tf zt_fd X (d + 11) zm_63 5 [(0, .ref 61)] [] (mH h s) Q) := by
  intro n
  induction n with
  | zero => exact (fun hf _ => by cases hf)
  | succ n ih =>
    have h0 := @ih
    intro Q  s s' v hf k
    unfold mf_63_L1 at hf
    rw [if_pos rfl] at hf
    exact mr_63_5 hh h0 hf k
def mf_63_0 (N : Nat)  (s : mS) : mO := mf_63_L1 N N 0  (mI s 37 0)
theorem mr_63_0 {X : Nat → Option zz_C} {h : zz_H} (hh : 111 ≤ h.length) {d : Nat} {N : Nat} {Q : Option Value → zz_H → Prop}  {s s' : mS} {v : Option Value} (hf : mf_63_0 N  s = some (s', v)) (k : Q v (mH h s')) : zz_E zp_P zt_tf zt_fd X (d + 11) zm_63 0 [(0, .ref 61)] [] (mH h s) Q := by
  unfold mf_63_0 at hf
  exact mb_63_0 hh  (mr_63_L1 hh N hf k)
/-- textOf -/
def mf_63 (N : Nat)  (s : mS) : mO := mf_63_0 N  s
theorem mr_63 {X : Nat → Option zz_C} {h : zz_H} (hh : 111 ≤ h.length) {d : Nat} {N : Nat} {Q : Option Value → zz_H → Prop}  {s s' : mS} {v : Option Value} (hf : mf_63 N  s = some (s', v)) (k : Q v (mH h s')) : zz_E zp_P zt_tf zt_fd X (d + 11) zm_63 0 [(0, .ref 61)] [] (mH h s) Q := by
  unfold mf_63 at hf
  exact zz_E.weak (mr_63_0 hh hf k) rfl ⟨rfl, trivial⟩
/-! resolve ()V -/
theorem mb_64_0 {X : Nat → Option zz_C} {h : zz_H} (hh : 111 ≤ h.length) {s : mS} {d : Nat} {Q : Option Value → zz_H → Prop}  (k : zz_E zp_P zt_tf zt_fd X d zm_64 4 [(0, .ref 61), (1, .int (-1)), (2, .int 0)] [] (mH h s) Q) : zz_E zp_P zt_tf zt_fd X d zm_64 0 [(0, .ref 61)] [] (mH h s) Q := by
  refine zz_E.c 1 (.int (-1)) rfl rfl rfl rfl ?_
  refine zz_E.n 2 rfl rfl rfl ?_
  refine zz_E.c 3 (.int 0) rfl rfl rfl rfl ?_
  refine zz_E.n 4 rfl rfl rfl ?_
  exact zz_E.weak k rfl ⟨rfl, rfl, rfl, trivial⟩
theorem mb_64_4 {X : Nat → Option zz_C} {h : zz_H} (hh : 111 ≤ h.length) {s : mS} {d : Nat} {Q : Option Value → zz_H → Prop} {x1 : Int32} {x2 : Int32} (k1 : (s.1 29) ≤ x2 → zz_E zp_P zt_tf zt_fd X d zm_64 184 [(0, .ref 61), (1, .int x1)] [] (mH h s) Q) (k2 : ¬ (s.1 29) ≤ x2 → zz_E zp_P zt_tf zt_fd X d zm_64 12 [(0, .ref 61), (1, .int x1), (2, .int x2)] [] (mH h s) Q) : zz_E zp_P zt_tf zt_fd X d zm_64 4 [(0, .ref 61), (1, .int x1), (2, .int x2)] [] (mH h s) Q := by
  refine zz_E.n 5 rfl rfl rfl ?_
  refine zz_E.n 6 rfl rfl rfl ?_
  refine mE_g hh 9 (v := .int (s.1 29)) rfl rfl rfl ?_
  refine zz_E.b2 184 12 (A := (s.1 29) ≤ x2) rfl rfl (by decide) rfl rfl (fun c => ?_) (fun c => ?_)
  · exact zz_E.weak (k1 c) rfl ⟨rfl, rfl, trivial⟩
  · exact zz_E.weak (k2 c) rfl ⟨rfl, rfl, rfl, trivial⟩
theorem mb_64_12 {X : Nat → Option zz_C} {h : zz_H} (hh : 111 ≤ h.length) {s : mS} {d : Nat} {Q : Option Value → zz_H → Prop} {x1 : Int32} {x2 : Int32} (k : zz_E zp_P zt_tf zt_fd X d zm_64 30 [(0, .ref 61), (1, .int x1), (2, .int x2), (3, .int (12 * (1 - (s.1 12)))), (4, .int ((12 * (1 - (s.1 12))) + (s.1 15)))] [] (mH h s) Q) : zz_E zp_P zt_tf zt_fd X d zm_64 12 [(0, .ref 61), (1, .int x1), (2, .int x2)] [] (mH h s) Q := by
  refine zz_E.c 14 (.int 12) rfl rfl rfl rfl ?_
  refine zz_E.c 15 (.int 1) rfl rfl rfl rfl ?_
  refine zz_E.n 16 rfl rfl rfl ?_
  refine mE_g hh 19 (v := .int (s.1 12)) rfl rfl rfl ?_
  refine zz_E.n 20 rfl rfl rfl ?_
  refine zz_E.n 21 rfl rfl rfl ?_
  refine zz_E.n 22 rfl rfl rfl ?_
  refine zz_E.n 23 rfl rfl rfl ?_
  refine zz_E.n 24 rfl rfl rfl ?_
  refine mE_g hh 27 (v := .int (s.1 15)) rfl rfl rfl ?_
  refine zz_E.n 28 rfl rfl rfl ?_
  refine zz_E.n 30 rfl rfl rfl ?_
  exact zz_E.weak k rfl ⟨rfl, rfl, rfl, rfl, rfl, trivial⟩
theorem mb_64_30 {X : Nat → Option zz_C} {h : zz_H} (hh : 111 ≤ h.length) {s : mS} {d : Nat} {Q : Option Value → zz_H → Prop} {x1 : Int32} {x2 : Int32} {x3 : Int32} {x4 : Int32} (k1 : x4 ≤ x3 → zz_E zp_P zt_tf zt_fd X d zm_64 58 [(0, .ref 61), (1, .int x1), (2, .int x2), (3, .int x3), (4, .int x4)] [] (mH h s) Q) (k2 : ¬ x4 ≤ x3 → zz_E zp_P zt_tf zt_fd X d zm_64 36 [(0, .ref 61), (1, .int x1), (2, .int x2), (3, .int x3), (4, .int x4)] [] (mH h s) Q) : zz_E zp_P zt_tf zt_fd X d zm_64 30 [(0, .ref 61), (1, .int x1), (2, .int x2), (3, .int x3), (4, .int x4)] [] (mH h s) Q := by
  refine zz_E.n 31 rfl rfl rfl ?_
  refine zz_E.n 33 rfl rfl rfl ?_
  refine zz_E.b2 58 36 (A := x4 ≤ x3) rfl rfl (by decide) rfl rfl (fun c => ?_) (fun c => ?_)
  · exact zz_E.weak (k1 c) rfl ⟨rfl, rfl, rfl, rfl, rfl, trivial⟩
  · exact zz_E.weak (k2 c) rfl ⟨rfl, rfl, rfl, rfl, rfl, trivial⟩
theorem mb_64_36 {X : Nat → Option zz_C} {h : zz_H} (hh : 111 ≤ h.length) {s : mS} {d : Nat} {Q : Option Value → zz_H → Prop} {x1 : Int32} {x2 : Int32} {x3 : Int32} {x4 : Int32} (i41 : ¬ (x3 < 0 ∨ 24 ≤ Int32.toNatClampNeg x3)) (i47 : ¬ (x2 < 0 ∨ 800 ≤ Int32.toNatClampNeg x2)) (k1 : (lg_cmp ((s.2.2.2 16) (Int32.toNatClampNeg x3)) ((s.2.2.2 33) (Int32.toNatClampNeg x2))) = 0 → zz_E zp_P zt_tf zt_fd X d zm_64 58 [(0, .ref 61), (1, .int x1), (2, .int x2), (3, .int x3), (4, .int x4)] [] (mH h s) Q) (k2 : ¬ (lg_cmp ((s.2.2.2 16) (Int32.toNatClampNeg x3)) ((s.2.2.2 33) (Int32.toNatClampNeg x2))) = 0 → zz_E zp_P zt_tf zt_fd X d zm_64 52 [(0, .ref 61), (1, .int x1), (2, .int x2), (3, .int x3), (4, .int x4)] [] (mH h s) Q) : zz_E zp_P zt_tf zt_fd X d zm_64 36 [(0, .ref 61), (1, .int x1), (2, .int x2), (3, .int x3), (4, .int x4)] [] (mH h s) Q := by
  refine zz_E.n 37 rfl rfl rfl ?_
  refine mE_g hh 40 (v := .ref 65) rfl rfl rfl ?_
  refine zz_E.n 41 rfl rfl rfl ?_
  refine mE_la hh 42 4 (f := (s.2.2.2 16)) rfl (by decide) rfl rfl i41 rfl ?_
  refine zz_E.n 43 rfl rfl rfl ?_
  refine mE_g hh 46 (v := .ref 79) rfl rfl rfl ?_
  refine zz_E.n 47 rfl rfl rfl ?_
  refine mE_la hh 48 18 (f := (s.2.2.2 33)) rfl (by decide) rfl rfl i47 rfl ?_
  refine zz_E.n 49 rfl rfl rfl ?_
  refine zz_E.b1 58 52 (A := (lg_cmp ((s.2.2.2 16) (Int32.toNatClampNeg x3)) ((s.2.2.2 33) (Int32.toNatClampNeg x2))) = 0) rfl rfl (by decide) rfl rfl (fun c => ?_) (fun c => ?_)
  · exact zz_E.weak (k1 c) rfl ⟨rfl, rfl, rfl, rfl, rfl, trivial⟩
  · exact zz_E.weak (k2 c) rfl ⟨rfl, rfl, rfl, rfl, rfl, trivial⟩
theorem mb_64_52 {X : Nat → Option zz_C} {h : zz_H} (hh : 111 ≤ h.length) {s : mS} {d : Nat} {Q : Option Value → zz_H → Prop} {x1 : Int32} {x2 : Int32} {x3 : Int32} {x4 : Int32} (k : zz_E zp_P zt_tf zt_fd X d zm_64 30 [(0, .ref 61), (1, .int x1), (2, .int x2), (3, .int (x3 + 1)), (4, .int x4)] [] (mH h s) Q) : zz_E zp_P zt_tf zt_fd X d zm_64 52 [(0, .ref 61), (1, .int x1), (2, .int x2), (3, .int x3), (4, .int x4)] [] (mH h s) Q := by
  refine zz_E.n 55 rfl rfl rfl ?_
  refine zz_E.n 30 rfl rfl rfl ?_
  exact zz_E.weak k rfl ⟨rfl, rfl, rfl, rfl, rfl, trivial⟩
theorem mb_64_58 {X : Nat → Option zz_C} {h : zz_H} (hh : 111 ≤ h.length) {s : mS} {d : Nat} {Q : Option Value → zz_H → Prop} {x1 : Int32} {x2 : Int32} {x3 : Int32} {x4 : Int32} (k1 : x4 ≤ x3 → zz_E zp_P zt_tf zt_fd X d zm_64 83 [(0, .ref 61), (1, .int x1), (2, .int x2), (3, .int x3)] [] (mH h s) Q) (k2 : ¬ x4 ≤ x3 → zz_E zp_P zt_tf zt_fd X d zm_64 64 [(0, .ref 61), (1, .int x1), (2, .int x2), (3, .int x3)] [] (mH h s) Q) : zz_E zp_P zt_tf zt_fd X d zm_64 58 [(0, .ref 61), (1, .int x1), (2, .int x2), (3, .int x3), (4, .int x4)] [] (mH h s) Q := by
  refine zz_E.n 59 rfl rfl rfl ?_
  refine zz_E.n 61 rfl rfl rfl ?_
  refine zz_E.b2 83 64 (A := x4 ≤ x3) rfl rfl (by decide) rfl rfl (fun c => ?_) (fun c => ?_)
  · exact zz_E.weak (k1 c) rfl ⟨rfl, rfl, rfl, rfl, trivial⟩
  · exact zz_E.weak (k2 c) rfl ⟨rfl, rfl, rfl, rfl, trivial⟩
theorem mb_64_64 {X : Nat → Option zz_C} {h : zz_H} (hh : 111 ≤ h.length) {s : mS} {d : Nat} {Q : Option Value → zz_H → Prop} {x1 : Int32} {x2 : Int32} {x3 : Int32} (i69 : ¬ (x3 < 0 ∨ 24 ≤ Int32.toNatClampNeg x3)) (i75 : ¬ (x2 < 0 ∨ 800 ≤ Int32.toNatClampNeg x2)) (k1 : ¬ ((s.2.2.1 18) (Int32.toNatClampNeg x3)) = ((s.2.2.1 32) (Int32.toNatClampNeg x2)) → zz_E zp_P zt_tf zt_fd X d zm_64 83 [(0, .ref 61), (1, .int x1), (2, .int x2), (3, .int x3)] [] (mH h s) Q) (k2 : ¬ ¬ ((s.2.2.1 18) (Int32.toNatClampNeg x3)) = ((s.2.2.1 32) (Int32.toNatClampNeg x2)) → zz_E zp_P zt_tf zt_fd X d zm_64 79 [(0, .ref 61), (1, .int x1), (2, .int x2), (3, .int x3)] [] (mH h s) Q) : zz_E zp_P zt_tf zt_fd X d zm_64 64 [(0, .ref 61), (1, .int x1), (2, .int x2), (3, .int x3)] [] (mH h s) Q := by
  refine zz_E.n 65 rfl rfl rfl ?_
  refine mE_g hh 68 (v := .ref 67) rfl rfl rfl ?_
  refine zz_E.n 69 rfl rfl rfl ?_
  refine mE_ia hh 70 6 (f := (s.2.2.1 18)) rfl (by decide) rfl rfl i69 rfl ?_
  refine zz_E.n 71 rfl rfl rfl ?_
  refine mE_g hh 74 (v := .ref 78) rfl rfl rfl ?_
  refine zz_E.n 75 rfl rfl rfl ?_
  refine mE_ia hh 76 17 (f := (s.2.2.1 32)) rfl (by decide) rfl rfl i75 rfl ?_
  refine zz_E.b2 83 79 (A := ¬ ((s.2.2.1 18) (Int32.toNatClampNeg x3)) = ((s.2.2.1 32) (Int32.toNatClampNeg x2))) rfl (zz_cond_ne _ _) (by decide) rfl rfl (fun c => ?_) (fun c => ?_)
  · exact zz_E.weak (k1 c) rfl ⟨rfl, rfl, rfl, rfl, trivial⟩
  · exact zz_E.weak (k2 c) rfl ⟨rfl, rfl, rfl, rfl, trivial⟩
theorem mb_64_79 {X : Nat → Option zz_C} {h : zz_H} (hh : 111 ≤ h.length) {s : mS} {d : Nat} {Q : Option Value → zz_H → Prop} {x1 : Int32} {x2 : Int32} {x3 : Int32} (k : zz_E zp_P zt_tf zt_fd X d zm_64 84 [(0, .ref 61), (1, .int x1), (2, .int x2), (3, .int x3)] [.int 1] (mH h s) Q) : zz_E zp_P zt_tf zt_fd X d zm_64 79 [(0, .ref 61), (1, .int x1), (2, .int x2), (3, .int x3)] [] (mH h s) Q := by
  refine zz_E.c 80 (.int 1) rfl rfl rfl rfl ?_
  refine zz_E.n 84 rfl rfl rfl ?_
  exact zz_E.weak k rfl ⟨rfl, rfl, rfl, rfl, trivial⟩
theorem mb_64_83 {X : Nat → Option zz_C} {h : zz_H} (hh : 111 ≤ h.length) {s : mS} {d : Nat} {Q : Option Value → zz_H → Prop} {x1 : Int32} {x2 : Int32} {x3 : Int32} (k : zz_E zp_P zt_tf zt_fd X d zm_64 84 [(0, .ref 61), (1, .int x1), (2, .int x2), (3, .int x3)] [.int 0] (mH h s) Q) : zz_E zp_P zt_tf zt_fd X d zm_64 83 [(0, .ref 61), (1, .int x1), (2, .int x2), (3, .int x3)] [] (mH h s) Q := by
  refine zz_E.c 84 (.int 0) rfl rfl rfl rfl ?_
  exact zz_E.weak k rfl ⟨rfl, rfl, rfl, rfl, trivial⟩
theorem mb_64_84 {X : Nat → Option zz_C} {h : zz_H} (hh : 111 ≤ h.length) {s : mS} {d : Nat} {Q : Option Value → zz_H → Prop} {x1 : Int32} {x2 : Int32} {x3 : Int32} {y0 : Int32} (k1 : ¬ y0 = 0 → zz_E zp_P zt_tf zt_fd X d zm_64 112 [(0, .ref 61), (1, .int x1), (2, .int x2), (3, .int x3), (5, .int y0)] [] (mH h s) Q) (k2 : ¬ ¬ y0 = 0 → zz_E zp_P zt_tf zt_fd X d zm_64 91 [(0, .ref 61), (1, .int x1), (2, .int x2), (3, .int x3), (5, .int y0)] [] (mH h s) Q) : zz_E zp_P zt_tf zt_fd X d zm_64 84 [(0, .ref 61), (1, .int x1), (2, .int x2), (3, .int x3)] [.int y0] (mH h s) Q := by
  refine zz_E.n 86 rfl rfl rfl ?_
  refine zz_E.n 88 rfl rfl rfl ?_
  refine zz_E.b1 112 91 (A := ¬ y0 = 0) rfl (zz_cond_ne _ _) (by decide) rfl rfl (fun c => ?_) (fun c => ?_)
  · exact zz_E.weak (k1 c) rfl ⟨rfl, rfl, rfl, rfl, rfl, trivial⟩
  · exact zz_E.weak (k2 c) rfl ⟨rfl, rfl, rfl, rfl, rfl, trivial⟩
theorem mb_64_91 {X : Nat → Option zz_C} {h : zz_H} (hh : 111 ≤ h.length) {s : mS} {d : Nat} {Q : Option Value → zz_H → Prop} {x1 : Int32} {x2 : Int32} {x3 : Int32} {x5 : Int32} (k1 : x1 < 0 → zz_E zp_P zt_tf zt_fd X d zm_64 105 [(0, .ref 61), (2, .int x2), (3, .int x3), (5, .int x5)] [] (mH h s) Q) (k2 : ¬ x1 < 0 → zz_E zp_P zt_tf zt_fd X d zm_64 95 [(0, .ref 61), (1, .int x1), (2, .int x2), (3, .int x3), (5, .int x5)] [] (mH h s) Q) : zz_E zp_P zt_tf zt_fd X d zm_64 91 [(0, .ref 61), (1, .int x1), (2, .int x2), (3, .int x3), (5, .int x5)] [] (mH h s) Q := by
  refine zz_E.n 92 rfl rfl rfl ?_
  refine zz_E.b1 105 95 (A := x1 < 0) rfl rfl (by decide) rfl rfl (fun c => ?_) (fun c => ?_)
  · exact zz_E.weak (k1 c) rfl ⟨rfl, rfl, rfl, rfl, trivial⟩
  · exact zz_E.weak (k2 c) rfl ⟨rfl, rfl, rfl, rfl, rfl, trivial⟩
theorem mb_64_95 {X : Nat → Option zz_C} {h : zz_H} (hh : 111 ≤ h.length) {s : mS} {d : Nat} {Q : Option Value → zz_H → Prop} {x1 : Int32} {x2 : Int32} {x3 : Int32} {x5 : Int32} (i100 : ¬ (x2 < 0 ∨ 800 ≤ Int32.toNatClampNeg x2)) (k1 : x1 ≤ ((s.2.2.1 31) (Int32.toNatClampNeg x2)) → zz_E zp_P zt_tf zt_fd X d zm_64 112 [(0, .ref 61), (1, .int x1), (2, .int x2), (3, .int x3), (5, .int x5)] [] (mH h s) Q) (k2 : ¬ x1 ≤ ((s.2.2.1 31) (Int32.toNatClampNeg x2)) → zz_E zp_P zt_tf zt_fd X d zm_64 105 [(0, .ref 61), (2, .int x2), (3, .int x3), (5, .int x5)] [] (mH h s) Q) : zz_E zp_P zt_tf zt_fd X d zm_64 95 [(0, .ref 61), (1, .int x1), (2, .int x2), (3, .int x3), (5, .int x5)] [] (mH h s) Q := by
  refine zz_E.n 96 rfl rfl rfl ?_
  refine mE_g hh 99 (v := .ref 77) rfl rfl rfl ?_
  refine zz_E.n 100 rfl rfl rfl ?_
  refine mE_ia hh 101 16 (f := (s.2.2.1 31)) rfl (by decide) rfl rfl i100 rfl ?_
  refine zz_E.n 102 rfl rfl rfl ?_
  refine zz_E.b2 112 105 (A := x1 ≤ ((s.2.2.1 31) (Int32.toNatClampNeg x2))) rfl rfl (by decide) rfl rfl (fun c => ?_) (fun c => ?_)
  · exact zz_E.weak (k1 c) rfl ⟨rfl, rfl, rfl, rfl, rfl, trivial⟩
  · exact zz_E.weak (k2 c) rfl ⟨rfl, rfl, rfl, rfl, trivial⟩
theorem mb_64_105 {X : Nat → Option zz_C} {h : zz_H} (hh : 111 ≤ h.length) {s : mS} {d : Nat} {Q : Option Value → zz_H → Prop} {x2 : Int32} {x3 : Int32} {x5 : Int32} (i110 : ¬ (x2 < 0 ∨ 800 ≤ Int32.toNatClampNeg x2)) (k : zz_E zp_P zt_tf zt_fd X d zm_64 112 [(0, .ref 61), (1, .int ((s.2.2.1 31) (Int32.toNatClampNeg x2))), (2, .int x2), (3, .int x3), (5, .int x5)] [] (mH h s) Q) : zz_E zp_P zt_tf zt_fd X d zm_64 105 [(0, .ref 61), (2, .int x2), (3, .int x3), (5, .int x5)] [] (mH h s) Q := by
  refine zz_E.n 106 rfl rfl rfl ?_
  refine mE_g hh 109 (v := .ref 77) rfl rfl rfl ?_
  refine zz_E.n 110 rfl rfl rfl ?_
  refine mE_ia hh 111 16 (f := (s.2.2.1 31)) rfl (by decide) rfl rfl i110 rfl ?_
  refine zz_E.n 112 rfl rfl rfl ?_
  exact zz_E.weak k rfl ⟨rfl, rfl, rfl, rfl, rfl, trivial⟩
theorem mb_64_112 {X : Nat → Option zz_C} {h : zz_H} (hh : 111 ≤ h.length) {s : mS} {d : Nat} {Q : Option Value → zz_H → Prop} {x1 : Int32} {x2 : Int32} {x3 : Int32} {x5 : Int32} (k1 : x5 = 0 → zz_E zp_P zt_tf zt_fd X d zm_64 145 [(0, .ref 61), (1, .int x1), (2, .int x2), (3, .int x3), (5, .int x5)] [] (mH h s) Q) (k2 : ¬ x5 = 0 → zz_E zp_P zt_tf zt_fd X d zm_64 117 [(0, .ref 61), (1, .int x1), (2, .int x2), (3, .int x3), (5, .int x5)] [] (mH h s) Q) : zz_E zp_P zt_tf zt_fd X d zm_64 112 [(0, .ref 61), (1, .int x1), (2, .int x2), (3, .int x3), (5, .int x5)] [] (mH h s) Q := by
  refine zz_E.n 114 rfl rfl rfl ?_
  refine zz_E.b1 145 117 (A := x5 = 0) rfl rfl (by decide) rfl rfl (fun c => ?_) (fun c => ?_)
  · exact zz_E.weak (k1 c) rfl ⟨rfl, rfl, rfl, rfl, rfl, trivial⟩
  · exact zz_E.weak (k2 c) rfl ⟨rfl, rfl, rfl, rfl, rfl, trivial⟩
theorem mb_64_117 {X : Nat → Option zz_C} {h : zz_H} (hh : 111 ≤ h.length) {s : mS} {d : Nat} {Q : Option Value → zz_H → Prop} {x1 : Int32} {x2 : Int32} {x3 : Int32} {x5 : Int32} (i126 : ¬ (x2 < 0 ∨ 800 ≤ Int32.toNatClampNeg x2)) (i127 : ¬ (((s.2.2.1 30) (Int32.toNatClampNeg x2)) < 0 ∨ 8000 ≤ Int32.toNatClampNeg ((s.2.2.1 30) (Int32.toNatClampNeg x2)))) (k1 : ¬ ((s.2.2.1 23) (Int32.toNatClampNeg ((s.2.2.1 30) (Int32.toNatClampNeg x2)))) = 9 → zz_E zp_P zt_tf zt_fd X d zm_64 145 [(0, .ref 61), (1, .int x1), (2, .int x2), (3, .int x3), (5, .int x5)] [] (mH h s) Q) (k2 : ¬ ¬ ((s.2.2.1 23) (Int32.toNatClampNeg ((s.2.2.1 30) (Int32.toNatClampNeg x2)))) = 9 → zz_E zp_P zt_tf zt_fd X d zm_64 133 [(0, .ref 61), (1, .int x1), (2, .int x2), (3, .int x3), (5, .int x5)] [] (mH h s) Q) : zz_E zp_P zt_tf zt_fd X d zm_64 117 [(0, .ref 61), (1, .int x1), (2, .int x2), (3, .int x3), (5, .int x5)] [] (mH h s) Q := by
  refine zz_E.n 118 rfl rfl rfl ?_
  refine mE_g hh 121 (v := .ref 71) rfl rfl rfl ?_
  refine zz_E.n 122 rfl rfl rfl ?_
  refine mE_g hh 125 (v := .ref 76) rfl rfl rfl ?_
  refine zz_E.n 126 rfl rfl rfl ?_
  refine mE_ia hh 127 15 (f := (s.2.2.1 30)) rfl (by decide) rfl rfl i126 rfl ?_
  refine mE_ia hh 128 10 (f := (s.2.2.1 23)) rfl (by decide) rfl rfl i127 rfl ?_
  refine zz_E.c 130 (.int 9) rfl rfl rfl rfl ?_
  refine zz_E.b2 145 133 (A := ¬ ((s.2.2.1 23) (Int32.toNatClampNeg ((s.2.2.1 30) (Int32.toNatClampNeg x2)))) = 9) rfl (zz_cond_ne _ _) (by decide) rfl rfl (fun c => ?_) (fun c => ?_)
  · exact zz_E.weak (k1 c) rfl ⟨rfl, rfl, rfl, rfl, rfl, trivial⟩
  · exact zz_E.weak (k2 c) rfl ⟨rfl, rfl, rfl, rfl, rfl, trivial⟩
theorem mb_64_133 {X : Nat → Option zz_C} {h : zz_H} (hh : 111 ≤ h.length) {s : mS} {d : Nat} {Q : Option Value → zz_H → Prop} {x1 : Int32} {x2 : Int32} {x3 : Int32} {x5 : Int32} (i142 : ¬ (x2 < 0 ∨ 800 ≤ Int32.toNatClampNeg x2)) (i144 : ¬ (((s.2.2.1 30) (Int32.toNatClampNeg x2)) < 0 ∨ 8000 ≤ Int32.toNatClampNeg ((s.2.2.1 30) (Int32.toNatClampNeg x2)))) (k : zz_E zp_P zt_tf zt_fd X d zm_64 145 [(0, .ref 61), (1, .int x1), (2, .int x2), (3, .int x3), (5, .int x5)] [] (mH h (mA s 24 (upd (s.2.2.1 24) (Int32.toNatClampNeg ((s.2.2.1 30) (Int32.toNatClampNeg x2))) x3))) Q) : zz_E zp_P zt_tf zt_fd X d zm_64 133 [(0, .ref 61), (1, .int x1), (2, .int x2), (3, .int x3), (5, .int x5)] [] (mH h s) Q := by
  refine zz_E.n 134 rfl rfl rfl ?_
  refine mE_g hh 137 (v := .ref 72) rfl rfl rfl ?_
  refine zz_E.n 138 rfl rfl rfl ?_
  refine mE_g hh 141 (v := .ref 76) rfl rfl rfl ?_
  refine zz_E.n 142 rfl rfl rfl ?_
  refine mE_ia hh 143 15 (f := (s.2.2.1 30)) rfl (by decide) rfl rfl i142 rfl ?_
  refine zz_E.n 144 rfl rfl rfl ?_
  refine mE_is hh 145 11 (f := (s.2.2.1 24)) rfl (by decide) rfl rfl i144 (mA_72 _ _) rfl ?_
  exact zz_E.weak k rfl ⟨rfl, rfl, rfl, rfl, rfl, trivial⟩
theorem mb_64_145 {X : Nat → Option zz_C} {h : zz_H} (hh : 111 ≤ h.length) {s : mS} {d : Nat} {Q : Option Value → zz_H → Prop} {x1 : Int32} {x2 : Int32} {x3 : Int32} {x5 : Int32} (k1 : x5 = 0 → zz_E zp_P zt_tf zt_fd X d zm_64 178 [(0, .ref 61), (1, .int x1), (2, .int x2)] [] (mH h s) Q) (k2 : ¬ x5 = 0 → zz_E zp_P zt_tf zt_fd X d zm_64 150 [(0, .ref 61), (1, .int x1), (2, .int x2), (3, .int x3)] [] (mH h s) Q) : zz_E zp_P zt_tf zt_fd X d zm_64 145 [(0, .ref 61), (1, .int x1), (2, .int x2), (3, .int x3), (5, .int x5)] [] (mH h s) Q := by
  refine zz_E.n 147 rfl rfl rfl ?_
  refine zz_E.b1 178 150 (A := x5 = 0) rfl rfl (by decide) rfl rfl (fun c => ?_) (fun c => ?_)
  · exact zz_E.weak (k1 c) rfl ⟨rfl, rfl, rfl, trivial⟩
  · exact zz_E.weak (k2 c) rfl ⟨rfl, rfl, rfl, rfl, trivial⟩
theorem mb_64_150 {X : Nat → Option zz_C} {h : zz_H} (hh : 111 ≤ h.length) {s : mS} {d : Nat} {Q : Option Value → zz_H → Prop} {x1 : Int32} {x2 : Int32} {x3 : Int32} (i159 : ¬ (x2 < 0 ∨ 800 ≤ Int32.toNatClampNeg x2)) (i160 : ¬ (((s.2.2.1 30) (Int32.toNatClampNeg x2)) < 0 ∨ 8000 ≤ Int32.toNatClampNeg ((s.2.2.1 30) (Int32.toNatClampNeg x2)))) (k1 : ¬ ((s.2.2.1 23) (Int32.toNatClampNeg ((s.2.2.1 30) (Int32.toNatClampNeg x2)))) = 11 → zz_E zp_P zt_tf zt_fd X d zm_64 178 [(0, .ref 61), (1, .int x1), (2, .int x2)] [] (mH h s) Q) (k2 : ¬ ¬ ((s.2.2.1 23) (Int32.toNatClampNeg ((s.2.2.1 30) (Int32.toNatClampNeg x2)))) = 11 → zz_E zp_P zt_tf zt_fd X d zm_64 166 [(0, .ref 61), (1, .int x1), (2, .int x2), (3, .int x3)] [] (mH h s) Q) : zz_E zp_P zt_tf zt_fd X d zm_64 150 [(0, .ref 61), (1, .int x1), (2, .int x2), (3, .int x3)] [] (mH h s) Q := by
  refine zz_E.n 151 rfl rfl rfl ?_
  refine mE_g hh 154 (v := .ref 71) rfl rfl rfl ?_
  refine zz_E.n 155 rfl rfl rfl ?_
  refine mE_g hh 158 (v := .ref 76) rfl rfl rfl ?_
  refine zz_E.n 159 rfl rfl rfl ?_
  refine mE_ia hh 160 15 (f := (s.2.2.1 30)) rfl (by decide) rfl rfl i159 rfl ?_
  refine mE_ia hh 161 10 (f := (s.2.2.1 23)) rfl (by decide) rfl rfl i160 rfl ?_
  refine zz_E.c 163 (.int 11) rfl rfl rfl rfl ?_
  refine zz_E.b2 178 166 (A := ¬ ((s.2.2.1 23) (Int32.toNatClampNeg ((s.2.2.1 30) (Int32.toNatClampNeg x2)))) = 11) rfl (zz_cond_ne _ _) (by decide) rfl rfl (fun c => ?_) (fun c => ?_)
  · exact zz_E.weak (k1 c) rfl ⟨rfl, rfl, rfl, trivial⟩
  · exact zz_E.weak (k2 c) rfl ⟨rfl, rfl, rfl, rfl, trivial⟩
theorem mb_64_166 {X : Nat → Option zz_C} {h : zz_H} (hh : 111 ≤ h.length) {s : mS} {d : Nat} {Q : Option Value → zz_H → Prop} {x1 : Int32} {x2 : Int32} {x3 : Int32} (i175 : ¬ (x2 < 0 ∨ 800 ≤ Int32.toNatClampNeg x2)) (i177 : ¬ (((s.2.2.1 30) (Int32.toNatClampNeg x2)) < 0 ∨ 8000 ≤ Int32.toNatClampNeg ((s.2.2.1 30) (Int32.toNatClampNeg x2)))) (k : zz_E zp_P zt_tf zt_fd X d zm_64 178 [(0, .ref 61), (1, .int x1), (2, .int x2)] [] (mH h (mA s 25 (upd (s.2.2.1 25) (Int32.toNatClampNeg ((s.2.2.1 30) (Int32.toNatClampNeg x2))) x3))) Q) : zz_E zp_P zt_tf zt_fd X d zm_64 166 [(0, .ref 61), (1, .int x1), (2, .int x2), (3, .int x3)] [] (mH h s) Q := by
  refine zz_E.n 167 rfl rfl rfl ?_
  refine mE_g hh 170 (v := .ref 73) rfl rfl rfl ?_
  refine zz_E.n 171 rfl rfl rfl ?_
  refine mE_g hh 174 (v := .ref 76) rfl rfl rfl ?_
  refine zz_E.n 175 rfl rfl rfl ?_
  refine mE_ia hh 176 15 (f := (s.2.2.1 30)) rfl (by decide) rfl rfl i175 rfl ?_
  refine zz_E.n 177 rfl rfl rfl ?_
  refine mE_is hh 178 12 (f := (s.2.2.1 25)) rfl (by decide) rfl rfl i177 (mA_73 _ _) rfl ?_
  exact zz_E.weak k rfl ⟨rfl, rfl, rfl, trivial⟩
theorem mb_64_178 {X : Nat → Option zz_C} {h : zz_H} (hh : 111 ≤ h.length) {s : mS} {d : Nat} {Q : Option Value → zz_H → Prop} {x1 : Int32} {x2 : Int32} (k : zz_E zp_P zt_tf zt_fd X d zm_64 4 [(0, .ref 61), (1, .int x1), (2, .int (x2 + 1))] [] (mH h s) Q) : zz_E zp_P zt_tf zt_fd X d zm_64 178 [(0, .ref 61), (1, .int x1), (2, .int x2)] [] (mH h s) Q := by
  refine zz_E.n 181 rfl rfl rfl ?_
  refine zz_E.n 4 rfl rfl rfl ?_
  exact zz_E.weak k rfl ⟨rfl, rfl, rfl, trivial⟩
theorem mb_64_184 {X : Nat → Option zz_C} {h : zz_H} (hh : 111 ≤ h.length) {s : mS} {d : Nat} {Q : Option Value → zz_H → Prop} {x1 : Int32} (k1 : x1 < 0 → zz_E zp_P zt_tf zt_fd X d zm_64 195 [] [] (mH h s) Q) (k2 : ¬ x1 < 0 → zz_E zp_P zt_tf zt_fd X d zm_64 188 [(0, .ref 61), (1, .int x1)] [] (mH h s) Q) : zz_E zp_P zt_tf zt_fd X d zm_64 184 [(0, .ref 61), (1, .int x1)] [] (mH h s) Q := by
  refine zz_E.n 185 rfl rfl rfl ?_
  refine zz_E.b1 195 188 (A := x1 < 0) rfl rfl (by decide) rfl rfl (fun c => ?_) (fun c => ?_)
  · exact zz_E.weak (k1 c) rfl trivial
  · exact zz_E.weak (k2 c) rfl ⟨rfl, rfl, trivial⟩
theorem mb_64_188 {X : Nat → Option zz_C} {h : zz_H} (hh : 111 ≤ h.length) {s : mS} {d : Nat} {Q : Option Value → zz_H → Prop} {x1 : Int32} (k : zz_E zp_P zt_tf zt_fd X d zm_261 0 [(0, .ref 61), (1, .int 6), (2, .int x1)] [] (mH h s) (fun v h' => zz_E zp_P zt_tf zt_fd X (d + 1) zm_64 195 [] (v.toList ++ []) h' Q)) : zz_E zp_P zt_tf zt_fd X (d + 1) zm_64 188 [(0, .ref 61), (1, .int x1)] [] (mH h s) Q := by
  refine zz_E.n 189 rfl rfl rfl ?_
  refine zz_E.c 191 (.int 6) rfl rfl rfl rfl ?_
  refine zz_E.n 192 rfl rfl rfl ?_
  refine mE_cv hh 195 (as := []) rfl rfl (Nat.le_of_ble_eq_true rfl) (Nat.le_of_ble_eq_true rfl) rfl (Nat.le_of_ble_eq_true rfl) rfl ?_
  refine zz_E.mono k ?_
  intro v h' hE
  exact zz_E.weak hE rfl trivial
theorem mb_64_195 {X : Nat → Option zz_C} {h : zz_H} (hh : 111 ≤ h.length) {s : mS} {d : Nat} {Q : Option Value → zz_H → Prop}  (k : Q none (mH h s)) : zz_E zp_P zt_tf zt_fd X d zm_64 195 [] [] (mH h s) Q := by
  refine zz_E.ret rfl rfl rfl ?_
  exact k
def mf_64_195 (N : Nat)  (s : mS) : mO := some (s, none)
theorem mr_64_195 {X : Nat → Option zz_C} {h : zz_H} (hh : 111 ≤ h.length) {d : Nat} {N : Nat} {Q : Option Value → zz_H → Prop}  {s s' : mS} {v : Option Value} (hf : mf_64_195 N  s = some (s', v)) (k : Q v (mH h s')) : zz_E zp_P zt_tf zt_fd X (d + 1) zm_64 195 [] [] (mH h s) Q := by
  unfold mf_64_195 at hf
  cases hf
  exact mb_64_195 hh  k
def mf_64_188 (N : Nat) (x1 : Int32) (s : mS) : mO := mo_bv (mf_261 N 6 x1 s) (fun s1 => mf_64_195 N  s1)
theorem mr_64_188 {X : Nat → Option zz_C} {h : zz_H} (hh : 111 ≤ h.length) {d : Nat} {N : Nat} {Q : Option Value → zz_H → Prop} {x1 : Int32} {s s' : mS} {v : Option Value} (hf : mf_64_188 N x1 s = some (s', v)) (k : Q v (mH h s')) : zz_E zp_P zt_tf zt_fd X (d + 1) zm_64 188 [(0, .ref 61), (1, .int x1)] [] (mH h s) Q := by
  unfold mf_64_188 at hf
  obtain ⟨s1, e, hf⟩ := mo_bv_ok hf
  exact mb_64_188 (d := d + 0) hh  (mr_261 (d := d + 0) hh e (mr_64_195 hh hf k))
def mf_64_184 (N : Nat) (x1 : Int32) (s : mS) : mO := if x1 < 0 then mf_64_195 N  s else mf_64_188 N x1 s
theorem mr_64_184 {X : Nat → Option zz_C} {h : zz_H} (hh : 111 ≤ h.length) {d : Nat} {N : Nat} {Q : Option Value → zz_H → Prop} {x1 : Int32} {s s' : mS} {v : Option Value} (hf : mf_64_184 N x1 s = some (s', v)) (k : Q v (mH h s')) : zz_E zp_P zt_tf zt_fd X (d + 1) zm_64 184 [(0, .ref 61), (1, .int x1)] [] (mH h s) Q := by
  unfold mf_64_184 at hf
  refine mb_64_184 hh  (fun c => ?_) (fun c => ?_)
  · rw [if_pos c] at hf
    exact mr_64_195 hh hf k
  · rw [if_neg c] at hf
    exact mr_64_188 hh hf k
def mf_64_52 (N : Nat) (rc : Nat → Int32 → Int32 → Int32 → Int32 → mS → mO) (x1 : Int32) (x2 : Int32) (x3 : Int32) (x4 : Int32) (s : mS) : mO := rc 1 x1 x2 (x3 + 1) x4 s
theorem mr_64_52 {X : Nat → Option zz_C} {h : zz_H} (hh : 111 ≤ h.length) {d : Nat} {N : Nat} {rc : Nat → Int32 → Int32 → Int32 → Int32 → mS → mO} (hrc0 : ∀ {Q : Option Value → zz_H → Prop} {x1 : Int32} {x2 : Int32} {s s' : mS} {v : Option Value}, rc 0 x1 x2 0 0 s = some (s', v) → Q v (mH h s') → zz_E zp_P zt_tf zt_fd X (d + 1) zm_64 4 [(0, .ref 61), (1, .int x1), (2, .int x2)] [] (mH h s) Q) (hrc1 : ∀ {Q : Option Value → zz_H → Prop} {x1 : Int32} {x2 : Int32} {x3 : Int32} {x4 : Int32} {s s' : mS} {v : Option Value}, rc 1 x1 x2 x3 x4 s = some (s', v) → Q v (mH h s') → zz_E zp_P zt_tf zt_fd X (d + 1) zm_64 30 [(0, .ref 61), (1, .int x1), (2, .int x2), (3, .int x3), (4, .int x4)] [] (mH h s) Q) {Q : Option Value → zz_H → Prop} {x1 : Int32} {x2 : Int32} {x3 : Int32} {x4 : Int32} {s s' : mS} {v : Option Value} (hf : mf_64_52 N rc x1 x2 x3 x4 s = some (s', v)) (k : Q v (mH h s')) : zz_E zp_P zt_tf zt_fd X (d + 1) zm_64 52 [(0, .ref 61), (1, .int x1), (2, .int x2), (3, .int x3), (4, .int x4)] [] (mH h s) Q := by
  unfold mf_64_52 at hf
  exact mb_64_52 hh  (hrc1 hf k)
def mf_64_178 (N : Nat) (rc : Nat → Int32 → Int32 → Int32 → Int32 → mS → mO) (x1 : Int32) (x2 : Int32) (s : mS) : mO := rc 0 x1 (x2 + 1) 0 0 s
theorem mr_64_178 {X : Nat → Option zz_C} {h : zz_H} (hh : 111 ≤ h.length) {d : Nat} {N : Nat} {rc : Nat → Int32 → Int32 → Int32 → Int32 → mS → mO} (hrc0 : ∀ {Q : Option Value → zz_H → Prop} {x1 : Int32} {x2 : Int32} {s s' : mS} {v : Option Value}, rc 0 x1 x2 0 0 s = some (s', v) → Q v (mH h s') → zz_E zp_P zt_tf zt_fd X (d + 1) zm_64 4 [(0, .ref 61), (1, .int x1), (2, .int x2)] [] (mH h s) Q) (hrc1 : ∀ {Q : Option Value → zz_H → Prop} {x1 : Int32} {x2 : Int32} {x3 : Int32} {x4 : Int32} {s s' : mS} {v : Option Value}, rc 1 x1 x2 x3 x4 s = some (s', v) → Q v (mH h s') → zz_E zp_P zt_tf zt_fd X (d + 1) zm_64 30 [(0, .ref 61), (1, .int x1), (2, .int x2), (3, .int x3), (4, .int x4)] [] (mH h s) Q) {Q : Option Value → zz_H → Prop} {x1 : Int32} {x2 : Int32} {s s' : mS} {v : Option Value} (hf : mf_64_178 N rc x1 x2 s = some (s', v)) (k : Q v (mH h s')) : zz_E zp_P zt_tf zt_fd X (d + 1) zm_64 178 [(0, .ref 61), (1, .int x1), (2, .int x2)] [] (mH h s) Q := by
  unfold mf_64_178 at hf
  exact mb_64_178 hh  (hrc0 hf k)
def mf_64_166 (N : Nat) (rc : Nat → Int32 → Int32 → Int32 → Int32 → mS → mO) (x1 : Int32) (x2 : Int32) (x3 : Int32) (s : mS) : mO := if ¬ (x2 < 0 ∨ 800 ≤ Int32.toNatClampNeg x2) then (if ¬ (((s.2.2.1 30) (Int32.toNatClampNeg x2)) < 0 ∨ 8000 ≤ Int32.toNatClampNeg ((s.2.2.1 30) (Int32.toNatClampNeg x2))) then (mf_64_178 N rc x1 x2 (mA s 25 (upd (s.2.2.1 25) (Int32.toNatClampNeg ((s.2.2.1 30) (Int32.toNatClampNeg x2))) x3))) else none) else none
theorem mr_64_166 {X : Nat → Option zz_C} {h : zz_H} (hh : 111 ≤ h.length) {d : Nat} {N : Nat} {rc : Nat → Int32 → Int32 → Int32 → Int32 → mS → mO} (hrc0 : ∀ {Q : Option Value → zz_H → Prop} {x1 : Int32} {x2 : Int32} {s s' : mS} {v : Option Value}, rc 0 x1 x2 0 0 s = some (s', v) → Q v (mH h s') → zz_E zp_P zt_tf zt_fd X (d + 1) zm_64 4 [(0, .ref 61), (1, .int x1), (2, .int x2)] [] (mH h s) Q) (hrc1 : ∀ {Q : Option Value → zz_H → Prop} {x1 : Int32} {x2 : Int32} {x3 : Int32} {x4 : Int32} {s s' : mS} {v : Option Value}, rc 1 x1 x2 x3 x4 s = some (s', v) → Q v (mH h s') → zz_E zp_P zt_tf zt_fd X (d + 1) zm_64 30 [(0, .ref 61), (1, .int x1), (2, .int x2), (3, .int x3), (4, .int x4)] [] (mH h s) Q) {Q : Option Value → zz_H → Prop} {x1 : Int32} {x2 : Int32} {x3 : Int32} {s s' : mS} {v : Option Value} (hf : mf_64_166 N rc x1 x2 x3 s = some (s', v)) (k : Q v (mH h s')) : zz_E zp_P zt_tf zt_fd X (d + 1) zm_64 166 [(0, .ref 61), (1, .int x1), (2, .int x2), (3, .int x3)] [] (mH h s) Q := by
  unfold mf_64_166 at hf
  obtain ⟨q0, hf⟩ := mo_if hf
  obtain ⟨q1, hf⟩ := mo_if hf
  exact mb_64_166 hh q0 q1 (mr_64_178 hh hrc0 hrc1 hf k)
def mf_64_150 (N : Nat) (rc : Nat → Int32 → Int32 → Int32 → Int32 → mS → mO) (x1 : Int32) (x2 : Int32) (x3 : Int32) (s : mS) : mO := if ¬ (x2 < 0 ∨ 800 ≤ Int32.toNatClampNeg x2) then (if ¬ (((s.2.2.1 30) (Int32.toNatClampNeg x2)) < 0 ∨ 8000 ≤ Int32.toNatClampNeg ((s.2.2.1 30) (Int32.toNatClampNeg x2))) then (if ¬ ((s.2.2.1 23) (Int32.toNatClampNeg ((s.2.2.1 30) (Int32.toNatClampNeg x2)))) = 11 then mf_64_178 N rc x1 x2 s else mf_64_166 N rc x1 x2 x3 s) else none) else none
theorem mr_64_150 {X : Nat → Option zz_C} {h : zz_H} (hh : 111 ≤ h.length) {d : Nat} {N : Nat} {rc : Nat → Int32 → Int32 → Int32 → Int32 → mS → mO} (hrc0 : ∀ {Q : Option Value → zz_H → Prop} {x1 : Int32} {x2 : Int32} {s s' : mS} {v : Option Value}, rc 0 x1 x2 0 0 s = some (s', v) → Q v (mH h s') → zz_E zp_P zt_tf zt_fd X (d + 1) zm_64 4 [(0, .ref 61), (1, .int x1), (2, .int x2)] [] (mH h s) Q) (hrc1 : ∀ {Q : Option Value → zz_H → Prop} {x1 : Int32} {x2 : Int32} {x3 : Int32} {x4 : Int32} {s s' : mS} {v : Option Value}, rc 1 x1 x2 x3 x4 s = some (s', v) → Q v (mH h s') → zz_E zp_P zt_tf zt_fd X (d + 1) zm_64 30 [(0, .ref 61), (1, .int x1), (2, .int x2), (3, .int x3), (4, .int x4)] [] (mH h s) Q) {Q : Option Value → zz_H → Prop} {x1 : Int32} {x2 : Int32} {x3 : Int32} {s s' : mS} {v : Option Value} (hf : mf_64_150 N rc x1 x2 x3 s = some (s', v)) (k : Q v (mH h s')) : zz_E zp_P zt_tf zt_fd X (d + 1) zm_64 150 [(0, .ref 61), (1, .int x1), (2, .int x2), (3, .int x3)] [] (mH h s) Q := by
  unfold mf_64_150 at hf
  obtain ⟨q0, hf⟩ := mo_if hf
  obtain ⟨q1, hf⟩ := mo_if hf
  refine mb_64_150 hh q0 q1 (fun c => ?_) (fun c => ?_)
  · rw [if_pos c] at hf
    exact mr_64_178 hh hrc0 hrc1 hf k
  · rw [if_neg c] at hf
    exact mr_64_166 hh hrc0 hrc1 hf k
def mf_64_145 (N : Nat) (rc : Nat → Int32 → Int32 → Int32 → Int32 → mS → mO) (x1 : Int32) (x2 : Int32) (x3 : Int32) (x5 : Int32) (s : mS) : mO := if x5 = 0 then mf_64_178 N rc x1 x2 s else mf_64_150 N rc x1 x2 x3 s
theorem mr_64_145 {X : Nat → Option zz_C} {h : zz_H} (hh : 111 ≤ h.length) {d : Nat} {N : Nat} {rc : Nat → Int32 → Int32 → Int32 → Int32 → mS → mO} (hrc0 : ∀ {Q : Option Value → zz_H → Prop} {x1 : Int32} {x2 : Int32} {s s' : mS} {v : Option Value}, rc 0 x1 x2 0 0 s = some (s', v) → Q v (mH h s') → zz_E zp_P zt_tf zt_fd X (d + 1) zm_64 4 [(0, .ref 61), (1, .int x1), (2, .int x2)] [] (mH h s) Q) (hrc1 : ∀ {Q : Option Value → zz_H → Prop} {x1 : Int32} {x2 : Int32} {x3 : Int32} {x4 : Int32} {s s' : mS} {v : Option Value}, rc 1 x1 x2 x3 x4 s = some (s', v) → Q v (mH h s') → zz_E zp_P zt_tf zt_fd X (d + 1) zm_64 30 [(0, .ref 61), (1, .int x1), (2, .int x2), (3, .int x3), (4, .int x4)] [] (mH h s) Q) {Q : Option Value → zz_H → Prop} {x1 : Int32} {x2 : Int32} {x3 : Int32} {x5 : Int32} {s s' : mS} {v : Option Value} (hf : mf_64_145 N rc x1 x2 x3 x5 s = some (s', v)) (k : Q v (mH h s')) : zz_E zp_P zt_tf zt_fd X (d + 1) zm_64 145 [(0, .ref 61), (1, .int x1), (2, .int x2), (3, .int x3), (5, .int x5)] [] (mH h s) Q := by
  unfold mf_64_145 at hf
  refine mb_64_145 hh  (fun c => ?_) (fun c => ?_)
  · rw [if_pos c] at hf
    exact mr_64_178 hh hrc0 hrc1 hf k
  · rw [if_neg c] at hf
    exact mr_64_150 hh hrc0 hrc1 hf k
def mf_64_133 (N : Nat) (rc : Nat → Int32 → Int32 → Int32 → Int32 → mS → mO) (x1 : Int32) (x2 : Int32) (x3 : Int32) (x5 : Int32) (s : mS) : mO := if ¬ (x2 < 0 ∨ 800 ≤ Int32.toNatClampNeg x2) then (if ¬ (((s.2.2.1 30) (Int32.toNatClampNeg x2)) < 0 ∨ 8000 ≤ Int32.toNatClampNeg ((s.2.2.1 30) (Int32.toNatClampNeg x2))) then (mf_64_145 N rc x1 x2 x3 x5 (mA s 24 (upd (s.2.2.1 24) (Int32.toNatClampNeg ((s.2.2.1 30) (Int32.toNatClampNeg x2))) x3))) else none) else none
theorem mr_64_133 {X : Nat → Option zz_C} {h : zz_H} (hh : 111 ≤ h.length) {d : Nat} {N : Nat} {rc : Nat → Int32 → Int32 → Int32 → Int32 → mS → mO} (hrc0 : ∀ {Q : Option Value → zz_H → Prop} {x1 : Int32} {x2 : Int32} {s s' : mS} {v : Option Value}, rc 0 x1 x2 0 0 s = some (s', v) → Q v (mH h s') → zz_E zp_P zt_tf zt_fd X (d + 1) zm_64 4 [(0, .ref 61), (1, .int x1), (2, .int x2)] [] (mH h s) Q) (hrc1 : ∀ {Q : Option Value → zz_H → Prop} {x1 : Int32} {x2 : Int32} {x3 : Int32} {x4 : Int32} {s s' : mS} {v : Option Value}, rc 1 x1 x2 x3 x4 s = some (s', v) → Q v (mH h s') → zz_E zp_P zt_tf zt_fd X (d + 1) zm_64 30 [(0, .ref 61), (1, .int x1), (2, .int x2), (3, .int x3), (4, .int x4)] [] (mH h s) Q) {Q : Option Value → zz_H → Prop} {x1 : Int32} {x2 : Int32} {x3 : Int32} {x5 : Int32} {s s' : mS} {v : Option Value} (hf : mf_64_133 N rc x1 x2 x3 x5 s = some (s', v)) (k : Q v (mH h s')) : zz_E zp_P zt_tf zt_fd X (d + 1) zm_64 133 [(0, .ref 61), (1, .int x1), (2, .int x2), (3, .int x3), (5, .int x5)] [] (mH h s) Q := by
  unfold mf_64_133 at hf
  obtain ⟨q0, hf⟩ := mo_if hf
  obtain ⟨q1, hf⟩ := mo_if hf
  exact mb_64_133 hh q0 q1 (mr_64_145 hh hrc0 hrc1 hf k)
def mf_64_117 (N : Nat) (rc : Nat → Int32 → Int32 → Int32 → Int32 → mS → mO) (x1 : Int32) (x2 : Int32) (x3 : Int32) (x5 : Int32) (s : mS) : mO := if ¬ (x2 < 0 ∨ 800 ≤ Int32.toNatClampNeg x2) then (if ¬ (((s.2.2.1 30) (Int32.toNatClampNeg x2)) < 0 ∨ 8000 ≤ Int32.toNatClampNeg ((s.2.2.1 30) (Int32.toNatClampNeg x2))) then (if ¬ ((s.2.2.1 23) (Int32.toNatClampNeg ((s.2.2.1 30) (Int32.toNatClampNeg x2)))) = 9 then mf_64_145 N rc x1 x2 x3 x5 s else mf_64_133 N rc x1 x2 x3 x5 s) else none) else none
theorem mr_64_117 {X : Nat → Option zz_C} {h : zz_H} (hh : 111 ≤ h.length) {d : Nat} {N : Nat} {rc : Nat → Int32 → Int32 → Int32 → Int32 → mS → mO} (hrc0 : ∀ {Q : Option Value → zz_H → Prop} {x1 : Int32} {x2 : Int32} {s s' : mS} {v : Option Value}, rc 0 x1 x2 0 0 s = some (s', v) → Q v (mH h s') → zz_E zp_P zt_tf zt_fd X (d + 1) zm_64 4 [(0, .ref 61), (1, .int x1), (2, .int x2)] [] (mH h s) Q) (hrc1 : ∀ {Q : Option Value → zz_H → Prop} {x1 : Int32} {x2 : Int32} {x3 : Int32} {x4 : Int32} {s s' : mS} {v : Option Value}, rc 1 x1 x2 x3 x4 s = some (s', v) → Q v (mH h s') → zz_E zp_P zt_tf zt_fd X (d + 1) zm_64 30 [(0, .ref 61), (1, .int x1), (2, .int x2), (3, .int x3), (4, .int x4)] [] (mH h s) Q) {Q : Option Value → zz_H → Prop} {x1 : Int32} {x2 : Int32} {x3 : Int32} {x5 : Int32} {s s' : mS} {v : Option Value} (hf : mf_64_117 N rc x1 x2 x3 x5 s = some (s', v)) (k : Q v (mH h s')) : zz_E zp_P zt_tf zt_fd X (d + 1) zm_64 117 [(0, .ref 61), (1, .int x1), (2, .int x2), (3, .int x3), (5, .int x5)] [] (mH h s) Q := by
  unfold mf_64_117 at hf
  obtain ⟨q0, hf⟩ := mo_if hf
  obtain ⟨q1, hf⟩ := mo_if hf
  refine mb_64_117 hh q0 q1 (fun c => ?_) (fun c => ?_)
  · rw [if_pos c] at hf
    exact mr_64_145 hh hrc0 hrc1 hf k
  · rw [if_neg c] at hf
    exact mr_64_133 hh hrc0 hrc1 hf k
def mf_64_112 (N : Nat) (rc : Nat → Int32 → Int32 → Int32 → Int32 → mS → mO) (x1 : Int32) (x2 : Int32) (x3 : Int32) (x5 : Int32) (s : mS) : mO := if x5 = 0 then mf_64_145 N rc x1 x2 x3 x5 s else mf_64_117 N rc x1 x2 x3 x5 s
theorem mr_64_112 {X : Nat → Option zz_C} {h : zz_H} (hh : 111 ≤ h.length) {d : Nat} {N : Nat} {rc : Nat → Int32 → Int32 → Int32 → Int32 → mS → mO} (hrc0 : ∀ {Q : Option Value → zz_H → Prop} {x1 : Int32} {x2 : Int32} {s s' : mS} {v : Option Value}, rc 0 x1 x2 0 0 s = some (s', v) → Q v (mH h s') → zz_E zp_P zt_tf zt_fd X (d + 1) zm_64 4 [(0, .ref 61), (1, .int x1), (2, .int x2)] [] (mH h s) Q) (hrc1 : ∀ {Q : Option Value → zz_H → Prop} {x1 : Int32} {x2 : Int32} {x3 : Int32} {x4 : Int32} {s s' : mS} {v : Option Value}, rc 1 x1 x2 x3 x4 s = some (s', v) → Q v (mH h s') → zz_E zp_P zt_tf zt_fd X (d + 1) zm_64 30 [(0, .ref 61), (1, .int x1), (2, .int x2), (3, .int x3), (4, .int x4)] [] (mH h s) Q) {Q : Option Value → zz_H → Prop} {x1 : Int32} {x2 : Int32} {x3 : Int32} {x5 : Int32} {s s' : mS} {v : Option Value} (hf : mf_64_112 N rc x1 x2 x3 x5 s = some (s', v)) (k : Q v (mH h s')) : zz_E zp_P zt_tf zt_fd X (d + 1) zm_64 112 [(0, .ref 61), (1, .int x1), (2, .int x2), (3, .int x3), (5, .int x5)] [] (mH h s) Q := by
  unfold mf_64_112 at hf
  refine mb_64_112 hh  (fun c => ?_) (fun c => ?_)
  · rw [if_pos c] at hf
    exact mr_64_145 hh hrc0 hrc1 hf k
  · rw [if_neg c] at hf
    exact mr_64_117 hh hrc0 hrc1 hf k
def mf_64_105 (N : Nat) (rc : Nat → Int32 → Int32 → Int32 → Int32 → mS → mO) (x2 : Int32) (x3 : Int32) (x5 : Int32) (s : mS) : mO := if ¬ (x2 < 0 ∨ 800 ≤ Int32.toNatClampNeg x2) then (mf_64_112 N rc ((s.2.2.1 31) (Int32.toNatClampNeg x2)) x2 x3 x5 s) else none
theorem mr_64_105 {X : Nat → Option zz_C} {h : zz_H} (hh : 111 ≤ h.length) {d : Nat} {N : Nat} {rc : Nat → Int32 → Int32 → Int32 → Int32 → mS → mO} (hrc0 : ∀ {Q : Option Value → zz_H → Prop} {x1 : Int32} {x2 : Int32} {s s' : mS} {v : Option Value}, rc 0 x1 x2 0 0 s = some (s', v) → Q v (mH h s') → zz_E zp_P zt_tf zt_fd X (d + 1) zm_64 4 [(0, .ref 61), (1, .int x1), (2, .int x2)] [] (mH h s) Q) (hrc1 : ∀ {Q : Option Value → zz_H → Prop} {x1 : Int32} {x2 : Int32} {x3 : Int32} {x4 : Int32} {s s' : mS} {v : Option Value}, rc 1 x1 x2 x3 x4 s = some (s', v) → Q v (mH h s') → zz_E zp_P zt_tf zt_fd X (d + 1) zm_64 30 [(0, .ref 61), (1, .int x1), (2, .int x2), (3, .int x3), (4, .int x4)] [] (mH h s) Q) {Q : Option Value → zz_H → Prop} {x2 : Int32} {x3 : Int32} {x5 : Int32} {s s' : mS} {v : Option Value} (hf : mf_64_105 N rc x2 x3 x5 s = some (s', v)) (k : Q v (mH h s')) : zz_E zp_P zt_tf zt_fd X (d + 1) zm_64 105 [(0, .ref 61), (2, .int x2), (3, .int x3), (5, .int x5)] [] (mH h s) Q := by
  unfold mf_64_105 at hf
  obtain ⟨q0, hf⟩ := mo_if hf
  exact mb_64_105 hh q0 (mr_64_112 hh hrc0 hrc1 hf k)
def mf_64_95 (N : Nat) (rc : Nat → Int32 → Int32 → Int32 → Int32 → mS → mO) (x1 : Int32) (x2 : Int32) (x3 : Int32) (x5 : Int32) (s : mS) : mO := if ¬ (x2 < 0 ∨ 800 ≤ Int32.toNatClampNeg x2) then (if x1 ≤ ((s.2.2.1 31) (Int32.toNatClampNeg x2)) then mf_64_112 N rc x1 x2 x3 x5 s else mf_64_105 N rc x2 x3 x5 s) else none
theorem mr_64_95 {X : Nat → Option zz_C} {h : zz_H} (hh : 111 ≤ h.length) {d : Nat} {N : Nat} {rc : Nat → Int32 → Int32 → Int32 → Int32 → mS → mO} (hrc0 : ∀ {Q : Option Value → zz_H → Prop} {x1 : Int32} {x2 : Int32} {s s' : mS} {v : Option Value}, rc 0 x1 x2 0 0 s = some (s', v) → Q v (mH h s') → zz_E zp_P zt_tf zt_fd X (d + 1) zm_64 4 [(0, .ref 61), (1, .int x1), (2, .int x2)] [] (mH h s) Q) (hrc1 : ∀ {Q : Option Value → zz_H → Prop} {x1 : Int32} {x2 : Int32} {x3 : Int32} {x4 : Int32} {s s' : mS} {v : Option Value}, rc 1 x1 x2 x3 x4 s = some (s', v) → Q v (mH h s') → zz_E zp_P zt_tf zt_fd X (d + 1) zm_64 30 [(0, .ref 61), (1, .int x1), (2, .int x2), (3, .int x3), (4, .int x4)] [] (mH h s) Q) {Q : Option Value → zz_H → Prop} {x1 : Int32} {x2 : Int32} {x3 : Int32} {x5 : Int32} {s s' : mS} {v : Option Value} (hf : mf_64_95 N rc x1 x2 x3 x5 s = some (s', v)) (k : Q v (mH h s')) : zz_E zp_P zt_tf zt_fd X (d + 1) zm_64 95 [(0, .ref 61), (1, .int x1), (2, .int x2), (3, .int x3), (5, .int x5)] [] (mH h s) Q := by
  unfold mf_64_95 at hf
  obtain ⟨q0, hf⟩ := mo_if hf
  refine mb_64_95 hh q0 (fun c => ?_) (fun c => ?_)
  · rw [if_pos c] at hf
    exact mr_64_112 hh hrc0 hrc1 hf k
  · rw [if_neg c] at hf
    exact mr_64_105 hh hrc0 hrc1 hf k
def mf_64_91 (N : Nat) (rc : Nat → Int32 → Int32 → Int32 → Int32 → mS → mO) (x1 : Int32) (x2 : Int32) (x3 : Int32) (x5 : Int32) (s : mS) : mO := if x1 < 0 then mf_64_105 N rc x2 x3 x5 s else mf_64_95 N rc x1 x2 x3 x5 s
theorem mr_64_91 {X : Nat → Option zz_C} {h : zz_H} (hh : 111 ≤ h.length) {d : Nat} {N : Nat} {rc : Nat → Int32 → Int32 → Int32 → Int32 → mS → mO} (hrc0 : ∀ {Q : Option Value → zz_H → Prop} {x1 : Int32} {x2 : Int32} {s s' : mS} {v : Option Value}, rc 0 x1 x2 0 0 s = some (s', v) → Q v (mH h s') → zz_E zp_P zt_tf zt_fd X (d + 1) zm_64 4 [(0, .ref 61), (1, .int x1), (2, .int x2)] [] (mH h s) Q) (hrc1 : ∀ {Q : Option Value → zz_H → Prop} {x1 : Int32} {x2 : Int32} {x3 : Int32} {x4 : Int32} {s s' : mS} {v : Option Value}, rc 1 x1 x2 x3 x4 s = some (s', v) → Q v (mH h s') → zz_E zp_P zt_tf zt_fd X (d + 1) zm_64 30 [(0, .ref 61), (1, .int x1), (2, .int x2), (3, .int x3), (4, .int x4)] [] (mH h s) Q) {Q : Option Value → zz_H → Prop} {x1 : Int32} {x2 : Int32} {x3 : Int32} {x5 : Int32} {s s' : mS} {v : Option Value} (hf : mf_64_91 N rc x1 x2 x3 x5 s = some (s', v)) (k : Q v (mH h s')) : zz_E zp_P zt_tf zt_fd X (d + 1) zm_64 91 [(0, .ref 61), (1, .int x1), (2, .int x2), (3, .int x3), (5, .int x5)] [] (mH h s) Q := by
  unfold mf_64_91 at hf
  refine mb_64_91 hh  (fun c => ?_) (fun c => ?_)
  · rw [if_pos c] at hf
    exact mr_64_105 hh hrc0 hrc1 hf k
  · rw [if_neg c] at hf
    exact mr_64_95 hh hrc0 hrc1 hf k
def mf_64_84 (N : Nat) (rc : Nat → Int32 → Int32 → Int32 → Int32 → mS → mO) (x1 : Int32) (x2 : Int32) (x3 : Int32) (y0 : Int32) (s : mS) : mO := if ¬ y0 = 0 then mf_64_112 N rc x1 x2 x3 y0 s else mf_64_91 N rc x1 x2 x3 y0 s
theorem mr_64_84 {X : Nat → Option zz_C} {h : zz_H} (hh : 111 ≤ h.length) {d : Nat} {N : Nat} {rc : Nat → Int32 → Int32 → Int32 → Int32 → mS → mO} (hrc0 : ∀ {Q : Option Value → zz_H → Prop} {x1 : Int32} {x2 : Int32} {s s' : mS} {v : Option Value}, rc 0 x1 x2 0 0 s = some (s', v) → Q v (mH h s') → zz_E zp_P zt_tf zt_fd X (d + 1) zm_64 4 [(0, .ref 61), (1, .int x1), (2, .int x2)] [] (mH h s) Q) (hrc1 : ∀ {Q : Option Value → zz_H → Prop} {x1 : Int32} {x2 : Int32} {x3 : Int32} {x4 : Int32} {s s' : mS} {v : Option Value}, rc 1 x1 x2 x3 x4 s = some (s', v) → Q v (mH h s') → zz_E zp_P zt_tf zt_fd X (d + 1) zm_64 30 [(0, .ref 61), (1, .int x1), (2, .int x2), (3, .int x3), (4, .int x4)] [] (mH h s) Q) {Q : Option Value → zz_H → Prop} {x1 : Int32} {x2 : Int32} {x3 : Int32} {y0 : Int32} {s s' : mS} {v : Option Value} (hf : mf_64_84 N rc x1 x2 x3 y0 s = some (s', v)) (k : Q v (mH h s')) : zz_E zp_P zt_tf zt_fd X (d + 1) zm_64 84 [(0, .ref 61), (1, .int x1), (2, .int x2), (3, .int x3)] [.int y0] (mH h s) Q := by
  unfold mf_64_84 at hf
  refine mb_64_84 hh  (fun c => ?_) (fun c => ?_)
  · rw [if_pos c] at hf
    exact mr_64_112 hh hrc0 hrc1 hf k
  · rw [if_neg c] at hf
    exact mr_64_91 hh hrc0 hrc1 hf k
def mf_64_83 (N : Nat) (rc : Nat → Int32 → Int32 → Int32 → Int32 → mS → mO) (x1 : Int32) (x2 : Int32) (x3 : Int32) (s : mS) : mO := mf_64_84 N rc x1 x2 x3 0 s
theorem mr_64_83 {X : Nat → Option zz_C} {h : zz_H} (hh : 111 ≤ h.length) {d : Nat} {N : Nat} {rc : Nat → Int32 → Int32 → Int32 → Int32 → mS → mO} (hrc0 : ∀ {Q : Option Value → zz_H → Prop} {x1 : Int32} {x2 : Int32} {s s' : mS} {v : Option Value}, rc 0 x1 x2 0 0 s = some (s', v) → Q v (mH h s') → zz_E zp_P zt_tf zt_fd X (d + 1) zm_64 4 [(0, .ref 61), (1, .int x1), (2, .int x2)] [] (mH h s) Q) (hrc1 : ∀ {Q : Option Value → zz_H → Prop} {x1 : Int32} {x2 : Int32} {x3 : Int32} {x4 : Int32} {s s' : mS} {v : Option Value}, rc 1 x1 x2 x3 x4 s = some (s', v) → Q v (mH h s') → zz_E zp_P zt_tf zt_fd X (d + 1) zm_64 30 [(0, .ref 61), (1, .int x1), (2, .int x2), (3, .int x3), (4, .int x4)] [] (mH h s) Q) {Q : Option Value → zz_H → Prop} {x1 : Int32} {x2 : Int32} {x3 : Int32} {s s' : mS} {v : Option Value} (hf : mf_64_83 N rc x1 x2 x3 s = some (s', v)) (k : Q v (mH h s')) : zz_E zp_P zt_tf zt_fd X (d + 1) zm_64 83 [(0, .ref 61), (1, .int x1), (2, .int x2), (3, .int x3)] [] (mH h s) Q := by
  unfold mf_64_83 at hf
  exact mb_64_83 hh  (mr_64_84 hh hrc0 hrc1 hf k)
def mf_64_79 (N : Nat) (rc : Nat → Int32 → Int32 → Int32 → Int32 → mS → mO) (x1 : Int32) (x2 : Int32) (x3 : Int32) (s : mS) : mO := mf_64_84 N rc x1 x2 x3 1 s
theorem mr_64_79 {X : Nat → Option zz_C} {h : zz_H} (hh : 111 ≤ h.length) {d : Nat} {N : Nat} {rc : Nat → Int32 → Int32 → Int32 → Int32 → mS → mO} (hrc0 : ∀ {Q : Option Value → zz_H → Prop} {x1 : Int32} {x2 : Int32} {s s' : mS} {v : Option Value}, rc 0 x1 x2 0 0 s = some (s', v) → Q v (mH h s') → zz_E zp_P zt_tf zt_fd X (d + 1) zm_64 4 [(0, .ref 61), (1, .int x1), (2, .int x2)] [] (mH h s) Q) (hrc1 : ∀ {Q : Option Value → zz_H → Prop} {x1 : Int32} {x2 : Int32} {x3 : Int32} {x4 : Int32} {s s' : mS} {v : Option Value}, rc 1 x1 x2 x3 x4 s = some (s', v) → Q v (mH h s') → zz_E zp_P zt_tf zt_fd X (d + 1) zm_64 30 [(0, .ref 61), (1, .int x1), (2, .int x2), (3, .int x3), (4, .int x4)] [] (mH h s) Q) {Q : Option Value → zz_H → Prop} {x1 : Int32} {x2 : Int32} {x3 : Int32} {s s' : mS} {v : Option Value} (hf : mf_64_79 N rc x1 x2 x3 s = some (s', v)) (k : Q v (mH h s')) : zz_E zp_P zt_tf zt_fd X (d + 1) zm_64 79 [(0, .ref 61), (1, .int x1), (2, .int x2), (3, .int x3)] [] (mH h s) Q := by
  unfold mf_64_79 at hf
  exact mb_64_79 hh  (mr_64_84 hh hrc0 hrc1 hf k)
def mf_64_64 (N : Nat) (rc : Nat → Int32 → Int32 → Int32 → Int32 → mS → mO) (x1 : Int32) (x2 : Int32) (x3 : Int32) (s : mS) : mO := if ¬ (x3 < 0 ∨ 24 ≤ Int32.toNatClampNeg x3) then (if ¬ (x2 < 0 ∨ 800 ≤ Int32.toNatClampNeg x2) then (if ¬ ((s.2.2.1 18) (Int32.toNatClampNeg x3)) = ((s.2.2.1 32) (Int32.toNatClampNeg x2)) then mf_64_83 N rc x1 x2 x3 s else mf_64_79 N rc x1 x2 x3 s) else none) else none
theorem mr_64_64 {X : Nat → Option zz_C} {h : zz_H} (hh : 111 ≤ h.length) {d : Nat} {N : Nat} {rc : Nat → Int32 → Int32 → Int32 → Int32 → mS → mO} (hrc0 : ∀ {Q : Option Value → zz_H → Prop} {x1 : Int32} {x2 : Int32} {s s' : mS} {v : Option Value}, rc 0 x1 x2 0 0 s = some (s', v) → Q v (mH h s') → zz_E zp_P zt_tf zt_fd X (d + 1) zm_64 4 [(0, .ref 61), (1, .int x1), (2, .int x2)] [] (mH h s) Q) (hrc1 : ∀ {Q : Option Value → zz_H → Prop} {x1 : Int32} {x2 : Int32} {x3 : Int32} {x4 : Int32} {s s' : mS} {v : Option Value}, rc 1 x1 x2 x3 x4 s = some (s', v) → Q v (mH h s') → zz_E zp_P zt_tf zt_fd X (d + 1) zm_64 30 [(0, .ref 61), (1, .int x1), (2, .int x2), (3, .int x3), (4, .int x4)] [] (mH h s) Q) {Q : Option Value → zz_H → Prop} {x1 : Int32} {x2 : Int32} {x3 : Int32} {s s' : mS} {v : Option Value} (hf : mf_64_64 N rc x1 x2 x3 s = some (s', v)) (k : Q v (mH h s')) : zz_E zp_P zt_tf zt_fd X (d + 1) zm_64 64 [(0, .ref 61), (1, .int x1), (2, .int x2), (3, .int x3)] [] (mH h s) Q := by
  unfold mf_64_64 at hf
  obtain ⟨q0, hf⟩ := mo_if hf
  obtain ⟨q1, hf⟩ := mo_if hf
  refine mb_64_64 hh q0 q1 (fun c => ?_) (fun c => ?_)
  · rw [if_pos c] at hf
    exact mr_64_83 hh hrc0 hrc1 hf k
  · rw [if_neg c] at hf
    exact mr_64_79 hh hrc0 hrc1 hf k
def mf_64_58 (N : Nat) (rc : Nat → Int32 → Int32 → Int32 → Int32 → mS → mO) (x1 : Int32) (x2 : Int32) (x3 : Int32) (x4 : Int32) (s : mS) : mO := if x4 ≤ x3 then mf_64_83 N rc x1 x2 x3 s else mf_64_64 N rc x1 x2 x3 s
theorem mr_64_58 {X : Nat → Option zz_C} {h : zz_H} (hh : 111 ≤ h.length) {d : Nat} {N : Nat} {rc : Nat → Int32 → Int32 → Int32 → Int32 → mS → mO} (hrc0 : ∀ {Q : Option Value → zz_H → Prop} {x1 : Int32} {x2 : Int32} {s s' : mS} {v : Option Value}, rc 0 x1 x2 0 0 s = some (s', v) → Q v (mH h s') → zz_E zp_P zt_tf zt_fd X (d + 1) zm_64 4 [(0, .ref 61), (1, .int x1), (2, .int x2)] [] (mH h s) Q) (hrc1 : ∀ {Q : Option Value → zz_H → Prop} {x1 : Int32} {x2 : Int32} {x3 : Int32} {x4 : Int32} {s s' : mS} {v : Option Value}, rc 1 x1 x2 x3 x4 s = some (s', v) → Q v (mH h s') → zz_E zp_P zt_tf zt_fd X (d + 1) zm_64 30 [(0, .ref 61), (1, .int x1), (2, .int x2), (3, .int x3), (4, .int x4)] [] (mH h s) Q) {Q : Option Value → zz_H → Prop} {x1 : Int32} {x2 : Int32} {x3 : Int32} {x4 : Int32} {s s' : mS} {v : Option Value} (hf : mf_64_58 N rc x1 x2 x3 x4 s = some (s', v)) (k : Q v (mH h s')) : zz_E zp_P zt_tf zt_fd X (d + 1) zm_64 58 [(0, .ref 61), (1, .int x1), (2, .int x2), (3, .int x3), (4, .int x4)] [] (mH h s) Q := by
  unfold mf_64_58 at hf
  refine mb_64_58 hh  (fun c => ?_) (fun c => ?_)
  · rw [if_pos c] at hf
    exact mr_64_83 hh hrc0 hrc1 hf k
  · rw [if_neg c] at hf
    exact mr_64_64 hh hrc0 hrc1 hf k
def mf_64_36 (N : Nat) (rc : Nat → Int32 → Int32 → Int32 → Int32 → mS → mO) (x1 : Int32) (x2 : Int32) (x3 : Int32) (x4 : Int32) (s : mS) : mO := if ¬ (x3 < 0 ∨ 24 ≤ Int32.toNatClampNeg x3) then (if ¬ (x2 < 0 ∨ 800 ≤ Int32.toNatClampNeg x2) then (if (lg_cmp ((s.2.2.2 16) (Int32.toNatClampNeg x3)) ((s.2.2.2 33) (Int32.toNatClampNeg x2))) = 0 then mf_64_58 N rc x1 x2 x3 x4 s else mf_64_52 N rc x1 x2 x3 x4 s) else none) else none
theorem mr_64_36 {X : Nat → Option zz_C} {h : zz_H} (hh : 111 ≤ h.length) {d : Nat} {N : Nat} {rc : Nat → Int32 → Int32 → Int32 → Int32 → mS → mO} (hrc0 : ∀ {Q : Option Value → zz_H → Prop} {x1 : Int32} {x2 : Int32} {s s' : mS} {v : Option Value}, rc 0 x1 x2 0 0 s = some (s', v) → Q v (mH h s') → zz_E zp_P zt_tf zt_fd X (d + 1) zm_64 4 [(0, .ref 61), (1, .int x1), (2, .int x2)] [] (mH h s) Q) (hrc1 : ∀ {Q : Option Value → zz_H → Prop} {x1 : Int32} {x2 : Int32} {x3 : Int32} {x4 : Int32} {s s' : mS} {v : Option Value}, rc 1 x1 x2 x3 x4 s = some (s', v) → Q v (mH h s') → zz_E zp_P zt_tf zt_fd X (d + 1) zm_64 30 [(0, .ref 61), (1, .int x1), (2, .int x2), (3, .int x3), (4, .int x4)] [] (mH h s) Q) {Q : Option Value → zz_H → Prop} {x1 : Int32} {x2 : Int32} {x3 : Int32} {x4 : Int32} {s s' : mS} {v : Option Value} (hf : mf_64_36 N rc x1 x2 x3 x4 s = some (s', v)) (k : Q v (mH h s')) : zz_E zp_P zt_tf zt_fd X (d + 1) zm_64 36 [(0, .ref 61), (1, .int x1), (2, .int x2), (3, .int x3), (4, .int x4)] [] (mH h s) Q := by
  unfold mf_64_36 at hf
  obtain ⟨q0, hf⟩ := mo_if hf
  obtain ⟨q1, hf⟩ := mo_if hf
  refine mb_64_36 hh q0 q1 (fun c => ?_) (fun c => ?_)
  · rw [if_pos c] at hf
    exact mr_64_58 hh hrc0 hrc1 hf k
  · rw [if_neg c] at hf
    exact mr_64_52 hh hrc0 hrc1 hf k
def mf_64_30 (N : Nat) (rc : Nat → Int32 → Int32 → Int32 → Int32 → mS → mO) (x1 : Int32) (x2 : Int32) (x3 : Int32) (x4 : Int32) (s : mS) : mO := if x4 ≤ x3 then mf_64_58 N rc x1 x2 x3 x4 s else mf_64_36 N rc x1 x2 x3 x4 s
theorem mr_64_30 {X : Nat → Option zz_C} {h : zz_H} (hh : 111 ≤ h.length) {d : Nat} {N : Nat} {rc : Nat → Int32 → Int32 → Int32 → Int32 → mS → mO} (hrc0 : ∀ {Q : Option Value → zz_H → Prop} {x1 : Int32} {x2 : Int32} {s s' : mS} {v : Option Value}, rc 0 x1 x2 0 0 s = some (s', v) → Q v (mH h s') → zz_E zp_P zt_tf zt_fd X (d + 1) zm_64 4 [(0, .ref 61), (1, .int x1), (2, .int x2)] [] (mH h s) Q) (hrc1 : ∀ {Q : Option Value → zz_H → Prop} {x1 : Int32} {x2 : Int32} {x3 : Int32} {x4 : Int32} {s s' : mS} {v : Option Value}, rc 1 x1 x2 x3 x4 s = some (s', v) → Q v (mH h s') → zz_E zp_P zt_tf zt_fd X (d + 1) zm_64 30 [(0, .ref 61), (1, .int x1), (2, .int x2), (3, .int x3), (4, .int x4)] [] (mH h s) Q) {Q : Option Value → zz_H → Prop} {x1 : Int32} {x2 : Int32} {x3 : Int32} {x4 : Int32} {s s' : mS} {v : Option Value} (hf : mf_64_30 N rc x1 x2 x3 x4 s = some (s', v)) (k : Q v (mH h s')) : zz_E zp_P zt_tf zt_fd X (d + 1) zm_64 30 [(0, .ref 61), (1, .int x1), (2, .int x2), (3, .int x3), (4, .int x4)] [] (mH h s) Q := by
  unfold mf_64_30 at hf
  refine mb_64_30 hh  (fun c => ?_) (fun c => ?_)
  · rw [if_pos c] at hf
    exact mr_64_58 hh hrc0 hrc1 hf k
  · rw [if_neg c] at hf
    exact mr_64_36 hh hrc0 hrc1 hf k
def mf_64_12 (N : Nat) (rc : Nat → Int32 → Int32 → Int32 → Int32 → mS → mO) (x1 : Int32) (x2 : Int32) (s : mS) : mO := rc 1 x1 x2 (12 * (1 - (s.1 12))) ((12 * (1 - (s.1 12))) + (s.1 15)) s
theorem mr_64_12 {X : Nat → Option zz_C} {h : zz_H} (hh : 111 ≤ h.length) {d : Nat} {N : Nat} {rc : Nat → Int32 → Int32 → Int32 → Int32 → mS → mO} (hrc0 : ∀ {Q : Option Value → zz_H → Prop} {x1 : Int32} {x2 : Int32} {s s' : mS} {v : Option Value}, rc 0 x1 x2 0 0 s = some (s', v) → Q v (mH h s') → zz_E zp_P zt_tf zt_fd X (d + 1) zm_64 4 [(0, .ref 61), (1, .int x1), (2, .int x2)] [] (mH h s) Q) (hrc1 : ∀ {Q : Option Value → zz_H → Prop} {x1 : Int32} {x2 : Int32} {x3 : Int32} {x4 : Int32} {s s' : mS} {v : Option Value}, rc 1 x1 x2 x3 x4 s = some (s', v) → Q v (mH h s') → zz_E zp_P zt_tf zt_fd X (d + 1) zm_64 30 [(0, .ref 61), (1, .int x1), (2, .int x2), (3, .int x3), (4, .int x4)] [] (mH h s) Q) {Q : Option Value → zz_H → Prop} {x1 : Int32} {x2 : Int32} {s s' : mS} {v : Option Value} (hf : mf_64_12 N rc x1 x2 s = some (s', v)) (k : Q v (mH h s')) : zz_E zp_P zt_tf zt_fd X (d + 1) zm_64 12 [(0, .ref 61), (1, .int x1), (2, .int x2)] [] (mH h s) Q := by
  unfold mf_64_12 at hf
  exact mb_64_12 hh  (hrc1 hf k)
def mf_64_4 (N : Nat) (rc : Nat → Int32 → Int32 → Int32 → Int32 → mS → mO) (x1 : Int32) (x2 : Int32) (s : mS) : mO := if (s.1 29) ≤ x2 then mf_64_184 N x1 s else mf_64_12 N rc x1 x2 s
theorem mr_64_4 {X : Nat → Option zz_C} {h : zz_H} (hh : 111 ≤ h.length) {d : Nat} {N : Nat} {rc : Nat → Int32 → Int32 → Int32 → Int32 → mS → mO} (hrc0 : ∀ {Q : Option Value → zz_H → Prop} {x1 : Int32} {x2 : Int32} {s s' : mS} {v : Option Value}, rc 0 x1 x2 0 0 s = some (s', v) → Q v (mH h s') → zz_E zp_P zt_tf zt_fd X (d + 1) zm_64 4 [(0, .ref 61), (1, .int x1), (2, .int x2)] [] (mH h s) Q) (hrc1 : ∀ {Q : Option Value → zz_H → Prop} {x1 : Int32} {x2 : Int32} {x3 : Int32} {x4 : Int32} {s s' : mS} {v : Option Value}, rc 1 x1 x2 x3 x4 s = some (s', v) → Q v (mH h s') → zz_E zp_P zt_tf zt_fd X (d + 1) zm_64 30 [(0, .ref 61), (1, .int x1), (2, .int x2), (3, .int x3), (4, .int x4)] [] (mH h s) Q) {Q : Option Value → zz_H → Prop} {x1 : Int32} {x2 : Int32} {s s' : mS} {v : Option Value} (hf : mf_64_4 N rc x1 x2 s = some (s', v)) (k : Q v (mH h s')) : zz_E zp_P zt_tf zt_fd X (d + 1) zm_64 4 [(0, .ref 61), (1, .int x1), (2, .int x2)] [] (mH h s) Q := by
  unfold mf_64_4 at hf
  refine mb_64_4 hh  (fun c => ?_) (fun c => ?_)
  · rw [if_pos c] at hf
    exact mr_64_184 hh hf k
  · rw [if_neg c] at hf
    exact mr_64_12 hh hrc0 hrc1 hf k
def mf_64_L3 (N : Nat) : Nat → Nat → Int32 → Int32 → Int32 → Int32 → mS → mO
  | 0, _, _, _, _, _, _ => none
  | n + 1, l, x1, x2, x3, x4, s => if l = 0 then mf_64_4 N (mf_64_L3 N n) x1 x2 s else if l = 1 then mf_64_30 N (mf_64_L3 N n) x1 x2 x3 x4 s else none
theorem mr_64_L3 {X : Nat → Option zz_C} {h : zz_H} (hh : 111 ≤ h.length) {d : Nat} {N : Nat} : ∀ n : Nat, (∀ {Q : Option Value → zz_H → Prop} {x1 : Int32} {x2 : Int32} {s s' : mS} {v : Option Value}, mf_64_L3 N n 0 x1 x2 0 0 s = some (s', v) → Q v (mH h s') → zz_E zp_P zt_tf zt_fd X (d + 1) zm_64 4 [(0, .ref 61), (1, .int x1), (2, .int x2)] [] (mH h s) Q) ∧ (∀ {Q : Option Value → zz_H → Prop} {x1 : Int32} {x2 : Int32} {x3 : Int32} {x4 : Int32} {s s' : mS} {v : Option Value}, mf_64_L3 N n 1 x1 x2 x3 x4 s = some (s', v) → Q v (mH h s') → zz_E zp_P zt_tf zt_fd X (d + 1) zm_64 30 [(0, .ref 61), (1, .int x1), (2, .int x2), (3, .int x3), (4, .int x4)] [] (mH h s) Q) := by
  intro n
  induction n with
  | zero => exact ⟨(fun hf _ => by cases hf), (fun hf _ => by cases hf)⟩
  | succ n ih =>
    obtain ⟨h0, h1⟩ := ih
    refine ⟨?_, ?_⟩
    · intro Q _ _ s s' v hf k
      unfold mf_64_L3 at hf
      rw [if_pos rfl] at hf
      exact mr_64_4 hh h0 h1 hf k
    · intro Q _ _ _ _ s s' v hf k
      unfold mf_64_L3 at hf
      rw [if_neg (by decide)] at hf
      rw [if_pos rfl] at hf
      exact mr_64_30 hh h0 h1 hf k
def mf_64_0 (N : Nat)  (s : mS) : mO := mf_64_L3 N N 0 (-1) 0 0 0 s
theorem mr_64_0 {X : Nat → Option zz_C} {h : zz_H} (hh : 111 ≤ h.length) {d : Nat} {N : Nat} {Q : Option Value → zz_H → Prop}  {s s' : mS} {v : Option Value} (hf : mf_64_0 N  s = some (s', v)) (k : Q v (mH h s')) : zz_E zp_P zt_tf zt_fd X (d + 1) zm_64 0 [(0, .ref 61)] [] (mH h s) Q := by
  unfold mf_64_0 at hf
  exact mb_64_0 hh  ((mr_64_L3 hh N).1 hf k)
/-- resolve -/
def mf_64 (N : Nat)  (s : mS) : mO := mf_64_0 N  s
theorem mr_64 {X : Nat → Option zz_C} {h : zz_H} (hh : 111 ≤ h.length) {d : Nat} {N : Nat} {Q : Option Value → zz_H → Prop}  {s s' : mS} {v : Option Value} (hf : mf_64 N  s = some (s', v)) (k : Q v (mH h s')) : zz_E zp_P zt_tf zt_fd X (d + 1) zm_64 0 [(0, .ref 61)] [] (mH h s) Q := by
  unfold mf_64 at hf
  exact zz_E.weak (mr_64_0 hh hf k) rfl ⟨rfl, trivial⟩
/-! load (I)I -/
theorem mb_59_0 {X : Nat → Option zz_C} {h : zz_H} (hh : 111 ≤ h.length) {s : mS} {d : Nat} {Q : Option Value → zz_H → Prop} {x1 : Int32} (k1 : x1 < 0 → zz_E zp_P zt_tf zt_fd X d zm_59 12 [] [] (mH h s) Q) (k2 : ¬ x1 < 0 → zz_E zp_P zt_tf zt_fd X d zm_59 4 [(0, .ref 61), (1, .int x1)] [] (mH h s) Q) : zz_E zp_P zt_tf zt_fd X d zm_59 0 [(0, .ref 61), (1, .int x1)] [] (mH h s) Q := by
  refine zz_E.n 1 rfl rfl rfl ?_
  refine zz_E.b1 12 4 (A := x1 < 0) rfl rfl (by decide) rfl rfl (fun c => ?_) (fun c => ?_)
  · exact zz_E.weak (k1 c) rfl trivial
  · exact zz_E.weak (k2 c) rfl ⟨rfl, rfl, trivial⟩
theorem mb_59_4 {X : Nat → Option zz_C} {h : zz_H} (hh : 111 ≤ h.length) {s : mS} {d : Nat} {Q : Option Value → zz_H → Prop} {x1 : Int32} (k1 : x1 ≤ (s.1 3) → zz_E zp_P zt_tf zt_fd X d zm_59 15 [(0, .ref 61), (1, .int x1)] [] (mH h s) Q) (k2 : ¬ x1 ≤ (s.1 3) → zz_E zp_P zt_tf zt_fd X d zm_59 12 [] [] (mH h s) Q) : zz_E zp_P zt_tf zt_fd X d zm_59 4 [(0, .ref 61), (1, .int x1)] [] (mH h s) Q := by
  refine zz_E.n 5 rfl rfl rfl ?_
  refine zz_E.n 6 rfl rfl rfl ?_
  refine mE_g hh 9 (v := .int (s.1 3)) rfl rfl rfl ?_
  refine zz_E.b2 15 12 (A := x1 ≤ (s.1 3)) rfl rfl (by decide) rfl rfl (fun c => ?_) (fun c => ?_)
  · exact zz_E.weak (k1 c) rfl ⟨rfl, rfl, trivial⟩
  · exact zz_E.weak (k2 c) rfl trivial
theorem mb_59_12 {X : Nat → Option zz_C} {h : zz_H} (hh : 111 ≤ h.length) {s : mS} {d : Nat} {Q : Option Value → zz_H → Prop}  (k : Q (some (.int (-2))) (mH h s)) : zz_E zp_P zt_tf zt_fd X d zm_59 12 [] [] (mH h s) Q := by
  refine zz_E.c 14 (.int (-2)) rfl rfl rfl rfl ?_
  refine zz_E.ret rfl rfl rfl ?_
  exact k
theorem mb_59_15 {X : Nat → Option zz_C} {h : zz_H} (hh : 111 ≤ h.length) {s : mS} {d : Nat} {Q : Option Value → zz_H → Prop} {x1 : Int32} (k1 : x1 ≤ 1600 → zz_E zp_P zt_tf zt_fd X d zm_59 73 [(0, .ref 61)] [] (mH h (mI (mI (mI (mI (mI (mI (mI (mI s 3 0) 4 x1) 9 0) 10 (-1)) 11 0) 15 0) 28 0) 29 0)) Q) (k2 : ¬ x1 ≤ 1600 → zz_E zp_P zt_tf zt_fd X d zm_59 62 [(0, .ref 61)] [] (mH h (mI (mI (mI (mI (mI (mI (mI (mI s 3 0) 4 x1) 9 0) 10 (-1)) 11 0) 15 0) 28 0) 29 0)) Q) : zz_E zp_P zt_tf zt_fd X d zm_59 15 [(0, .ref 61), (1, .int x1)] [] (mH h s) Q := by
  refine zz_E.n 16 rfl rfl rfl ?_
  refine zz_E.c 17 (.int 0) rfl rfl rfl rfl ?_
  refine mE_p hh 20 rfl (by decide) rfl (mF_3 _ _) rfl ?_
  refine zz_E.n 21 rfl rfl rfl ?_
  refine zz_E.n 22 rfl rfl rfl ?_
  refine mE_p hh 25 rfl (by decide) rfl (mF_4 _ _) rfl ?_
  refine zz_E.n 26 rfl rfl rfl ?_
  refine zz_E.c 27 (.int 0) rfl rfl rfl rfl ?_
  refine mE_p hh 30 rfl (by decide) rfl (mF_9 _ _) rfl ?_
  refine zz_E.n 31 rfl rfl rfl ?_
  refine zz_E.c 32 (.int (-1)) rfl rfl rfl rfl ?_
  refine mE_p hh 35 rfl (by decide) rfl (mF_10 _ _) rfl ?_
  refine zz_E.n 36 rfl rfl rfl ?_
  refine zz_E.c 37 (.int 0) rfl rfl rfl rfl ?_
  refine mE_p hh 40 rfl (by decide) rfl (mF_11 _ _) rfl ?_
  refine zz_E.n 41 rfl rfl rfl ?_
  refine zz_E.c 42 (.int 0) rfl rfl rfl rfl ?_
  refine mE_p hh 45 rfl (by decide) rfl (mF_15 _ _) rfl ?_
  refine zz_E.n 46 rfl rfl rfl ?_
  refine zz_E.c 47 (.int 0) rfl rfl rfl rfl ?_
  refine mE_p hh 50 rfl (by decide) rfl (mF_28 _ _) rfl ?_
  refine zz_E.n 51 rfl rfl rfl ?_
  refine zz_E.c 52 (.int 0) rfl rfl rfl rfl ?_
  refine mE_p hh 55 rfl (by decide) rfl (mF_29 _ _) rfl ?_
  refine zz_E.n 56 rfl rfl rfl ?_
  refine zz_E.c 59 (.int 1600) rfl rfl rfl rfl ?_
  refine zz_E.b2 73 62 (A := x1 ≤ 1600) rfl rfl (by decide) rfl rfl (fun c => ?_) (fun c => ?_)
  · exact zz_E.weak (k1 c) rfl ⟨rfl, trivial⟩
  · exact zz_E.weak (k2 c) rfl ⟨rfl, trivial⟩
theorem mb_59_62 {X : Nat → Option zz_C} {h : zz_H} (hh : 111 ≤ h.length) {s : mS} {d : Nat} {Q : Option Value → zz_H → Prop}  (k : zz_E zp_P zt_tf zt_fd X d zm_261 0 [(0, .ref 61), (1, .int 1), (2, .int 1600)] [] (mH h s) (fun v h' => zz_E zp_P zt_tf zt_fd X (d + 1) zm_59 70 [(0, .ref 61)] (v.toList ++ []) h' Q)) : zz_E zp_P zt_tf zt_fd X (d + 1) zm_59 62 [(0, .ref 61)] [] (mH h s) Q := by
  refine zz_E.n 63 rfl rfl rfl ?_
  refine zz_E.c 64 (.int 1) rfl rfl rfl rfl ?_
  refine zz_E.c 67 (.int 1600) rfl rfl rfl rfl ?_
  refine mE_cv hh 70 (as := []) rfl rfl (Nat.le_of_ble_eq_true rfl) (Nat.le_of_ble_eq_true rfl) rfl (Nat.le_of_ble_eq_true rfl) rfl ?_
  refine zz_E.mono k ?_
  intro v h' hE
  exact zz_E.weak hE rfl ⟨rfl, trivial⟩
theorem mb_59_70 {X : Nat → Option zz_C} {h : zz_H} (hh : 111 ≤ h.length) {s : mS} {d : Nat} {Q : Option Value → zz_H → Prop}  (k : zz_E zp_P zt_tf zt_fd X d zm_59 93 [(0, .ref 61)] [] (mH h s) Q) : zz_E zp_P zt_tf zt_fd X d zm_59 70 [(0, .ref 61)] [] (mH h s) Q := by
  refine zz_E.n 93 rfl rfl rfl ?_
  exact zz_E.weak k rfl ⟨rfl, trivial⟩
theorem mb_59_73 {X : Nat → Option zz_C} {h : zz_H} (hh : 111 ≤ h.length) {s : mS} {d : Nat} {Q : Option Value → zz_H → Prop}  (k : zz_E zp_P zt_tf zt_fd X d zm_60 0 [(0, .ref 61), (1, .int 0)] [] (mH h s) (fun v h' => zz_E zp_P zt_tf zt_fd X (d + 1) zm_59 78 [(0, .ref 61)] (v.toList ++ []) h' Q)) : zz_E zp_P zt_tf zt_fd X (d + 1) zm_59 73 [(0, .ref 61)] [] (mH h s) Q := by
  refine zz_E.n 74 rfl rfl rfl ?_
  refine zz_E.c 75 (.int 0) rfl rfl rfl rfl ?_
  refine mE_cv hh 78 (as := []) rfl rfl (Nat.le_of_ble_eq_true rfl) (Nat.le_of_ble_eq_true rfl) rfl (Nat.le_of_ble_eq_true rfl) rfl ?_
  refine zz_E.mono k ?_
  intro v h' hE
  exact zz_E.weak hE rfl ⟨rfl, trivial⟩
theorem mb_59_78 {X : Nat → Option zz_C} {h : zz_H} (hh : 111 ≤ h.length) {s : mS} {d : Nat} {Q : Option Value → zz_H → Prop}  (k : zz_E zp_P zt_tf zt_fd X d zm_63 0 [(0, .ref 61)] [] (mH h s) (fun v h' => zz_E zp_P zt_tf zt_fd X (d + 1) zm_59 82 [(0, .ref 61)] (v.toList ++ []) h' Q)) : zz_E zp_P zt_tf zt_fd X (d + 1) zm_59 78 [(0, .ref 61)] [] (mH h s) Q := by
  refine zz_E.n 79 rfl rfl rfl ?_
  refine mE_cv hh 82 (as := []) rfl rfl (Nat.le_of_ble_eq_true rfl) (Nat.le_of_ble_eq_true rfl) rfl (Nat.le_of_ble_eq_true rfl) rfl ?_
  refine zz_E.mono k ?_
  intro v h' hE
  exact zz_E.weak hE rfl ⟨rfl, trivial⟩
theorem mb_59_82 {X : Nat → Option zz_C} {h : zz_H} (hh : 111 ≤ h.length) {s : mS} {d : Nat} {Q : Option Value → zz_H → Prop}  (k1 : ¬ (s.1 9) = 0 → zz_E zp_P zt_tf zt_fd X d zm_59 93 [(0, .ref 61)] [] (mH h s) Q) (k2 : ¬ ¬ (s.1 9) = 0 → zz_E zp_P zt_tf zt_fd X d zm_59 89 [(0, .ref 61)] [] (mH h s) Q) : zz_E zp_P zt_tf zt_fd X d zm_59 82 [(0, .ref 61)] [] (mH h s) Q := by
  refine zz_E.n 83 rfl rfl rfl ?_
  refine mE_g hh 86 (v := .int (s.1 9)) rfl rfl rfl ?_
  refine zz_E.b1 93 89 (A := ¬ (s.1 9) = 0) rfl (zz_cond_ne _ _) (by decide) rfl rfl (fun c => ?_) (fun c => ?_)
  · exact zz_E.weak (k1 c) rfl ⟨rfl, trivial⟩
  · exact zz_E.weak (k2 c) rfl ⟨rfl, trivial⟩
theorem mb_59_89 {X : Nat → Option zz_C} {h : zz_H} (hh : 111 ≤ h.length) {s : mS} {d : Nat} {Q : Option Value → zz_H → Prop}  (k : zz_E zp_P zt_tf zt_fd X d zm_64 0 [(0, .ref 61)] [] (mH h s) (fun v h' => zz_E zp_P zt_tf zt_fd X (d + 1) zm_59 93 [(0, .ref 61)] (v.toList ++ []) h' Q)) : zz_E zp_P zt_tf zt_fd X (d + 1) zm_59 89 [(0, .ref 61)] [] (mH h s) Q := by
  refine zz_E.n 90 rfl rfl rfl ?_
  refine mE_cv hh 93 (as := []) rfl rfl (Nat.le_of_ble_eq_true rfl) (Nat.le_of_ble_eq_true rfl) rfl (Nat.le_of_ble_eq_true rfl) rfl ?_
  refine zz_E.mono k ?_
  intro v h' hE
  exact zz_E.weak hE rfl ⟨rfl, trivial⟩
theorem mb_59_93 {X : Nat → Option zz_C} {h : zz_H} (hh : 111 ≤ h.length) {s : mS} {d : Nat} {Q : Option Value → zz_H → Prop}  (k1 : ¬ (s.1 9) = 0 → zz_E zp_P zt_tf zt_fd X d zm_59 113 [(0, .ref 61)] [.ref 61] (mH h (mI s 45 (s.1 9))) Q) (k2 : ¬ ¬ (s.1 9) = 0 → zz_E zp_P zt_tf zt_fd X d zm_59 109 [(0, .ref 61)] [.ref 61] (mH h (mI s 45 (s.1 9))) Q) : zz_E zp_P zt_tf zt_fd X d zm_59 93 [(0, .ref 61)] [] (mH h s) Q := by
  refine zz_E.n 94 rfl rfl rfl ?_
  refine zz_E.n 95 rfl rfl rfl ?_
  refine mE_g hh 98 (v := .int (s.1 9)) rfl rfl rfl ?_
  refine mE_p hh 101 rfl (by decide) rfl (mF_45 _ _) rfl ?_
  refine zz_E.n 102 rfl rfl rfl ?_
  refine zz_E.n 103 rfl rfl rfl ?_
  refine mE_g hh 106 (v := .int (s.1 9)) rfl rfl rfl ?_
  refine zz_E.b1 113 109 (A := ¬ (s.1 9) = 0) rfl (zz_cond_ne _ _) (by decide) rfl rfl (fun c => ?_) (fun c => ?_)
  · exact zz_E.weak (k1 c) rfl ⟨rfl, trivial⟩
  · exact zz_E.weak (k2 c) rfl ⟨rfl, trivial⟩
theorem mb_59_109 {X : Nat → Option zz_C} {h : zz_H} (hh : 111 ≤ h.length) {s : mS} {d : Nat} {Q : Option Value → zz_H → Prop}  (k : zz_E zp_P zt_tf zt_fd X d zm_59 117 [(0, .ref 61)] [.int (-1), .ref 61] (mH h s) Q) : zz_E zp_P zt_tf zt_fd X d zm_59 109 [(0, .ref 61)] [.ref 61] (mH h s) Q := by
  refine zz_E.c 110 (.int (-1)) rfl rfl rfl rfl ?_
  refine zz_E.n 117 rfl rfl rfl ?_
  exact zz_E.weak k rfl ⟨rfl, trivial⟩
theorem mb_59_113 {X : Nat → Option zz_C} {h : zz_H} (hh : 111 ≤ h.length) {s : mS} {d : Nat} {Q : Option Value → zz_H → Prop}  (k : zz_E zp_P zt_tf zt_fd X d zm_59 117 [(0, .ref 61)] [.int (s.1 10), .ref 61] (mH h s) Q) : zz_E zp_P zt_tf zt_fd X d zm_59 113 [(0, .ref 61)] [.ref 61] (mH h s) Q := by
  refine zz_E.n 114 rfl rfl rfl ?_
  refine mE_g hh 117 (v := .int (s.1 10)) rfl rfl rfl ?_
  exact zz_E.weak k rfl ⟨rfl, trivial⟩
theorem mb_59_117 {X : Nat → Option zz_C} {h : zz_H} (hh : 111 ≤ h.length) {s : mS} {d : Nat} {Q : Option Value → zz_H → Prop} {y1 : Int32} (k1 : (s.1 9) ≤ 0 → zz_E zp_P zt_tf zt_fd X d zm_59 129 [(0, .ref 61)] [] (mH h (mI s 46 y1)) Q) (k2 : ¬ (s.1 9) ≤ 0 → zz_E zp_P zt_tf zt_fd X d zm_59 127 [] [] (mH h (mI s 46 y1)) Q) : zz_E zp_P zt_tf zt_fd X d zm_59 117 [(0, .ref 61)] [.int y1, .ref 61] (mH h s) Q := by
  refine mE_p hh 120 rfl (by decide) rfl (mF_46 _ _) rfl ?_
  refine zz_E.n 121 rfl rfl rfl ?_
  refine mE_g hh 124 (v := .int (s.1 9)) rfl rfl rfl ?_
  refine zz_E.b1 129 127 (A := (s.1 9) ≤ 0) rfl rfl (by decide) rfl rfl (fun c => ?_) (fun c => ?_)
  · exact zz_E.weak (k1 c) rfl ⟨rfl, trivial⟩
  · exact zz_E.weak (k2 c) rfl trivial
theorem mb_59_127 {X : Nat → Option zz_C} {h : zz_H} (hh : 111 ≤ h.length) {s : mS} {d : Nat} {Q : Option Value → zz_H → Prop}  (k : Q (some (.int (-1))) (mH h s)) : zz_E zp_P zt_tf zt_fd X d zm_59 127 [] [] (mH h s) Q := by
  refine zz_E.c 128 (.int (-1)) rfl rfl rfl rfl ?_
  refine zz_E.ret rfl rfl rfl ?_
  exact k
theorem mb_59_129 {X : Nat → Option zz_C} {h : zz_H} (hh : 111 ≤ h.length) {s : mS} {d : Nat} {Q : Option Value → zz_H → Prop}  (k : Q (some (.int (s.1 15))) (mH h (mI (mI (mI s 12 (1 - (s.1 12))) 14 (s.1 15)) 13 1))) : zz_E zp_P zt_tf zt_fd X d zm_59 129 [(0, .ref 61)] [] (mH h s) Q := by
  refine zz_E.n 130 rfl rfl rfl ?_
  refine zz_E.c 131 (.int 1) rfl rfl rfl rfl ?_
  refine zz_E.n 132 rfl rfl rfl ?_
  refine mE_g hh 135 (v := .int (s.1 12)) rfl rfl rfl ?_
  refine zz_E.n 136 rfl rfl rfl ?_
  refine mE_p hh 139 rfl (by decide) rfl (mF_12 _ _) rfl ?_
  refine zz_E.n 140 rfl rfl rfl ?_
  refine zz_E.n 141 rfl rfl rfl ?_
  refine mE_g hh 144 (v := .int (s.1 15)) rfl rfl rfl ?_
  refine mE_p hh 147 rfl (by decide) rfl (mF_14 _ _) rfl ?_
  refine zz_E.n 148 rfl rfl rfl ?_
  refine zz_E.c 149 (.int 1) rfl rfl rfl rfl ?_
  refine mE_p hh 152 rfl (by decide) rfl (mF_13 _ _) rfl ?_
  refine zz_E.n 153 rfl rfl rfl ?_
  refine mE_g hh 156 (v := .int (s.1 15)) rfl rfl rfl ?_
  refine zz_E.ret rfl rfl rfl ?_
  exact k
def mf_59_12 (N : Nat)  (s : mS) : mO := some (s, (some (.int (-2))))
theorem mr_59_12 {X : Nat → Option zz_C} {h : zz_H} (hh : 111 ≤ h.length) {d : Nat} {N : Nat} {Q : Option Value → zz_H → Prop}  {s s' : mS} {v : Option Value} (hf : mf_59_12 N  s = some (s', v)) (k : Q v (mH h s')) : zz_E zp_P zt_tf zt_fd X (d + 12) zm_59 12 [] [] (mH h s) Q := by
  unfold mf_59_12 at hf
  cases hf
  exact mb_59_12 hh  k
def mf_59_129 (N : Nat)  (s : mS) : mO := some ((mI (mI (mI s 12 (1 - (s.1 12))) 14 (s.1 15)) 13 1), (some (.int (s.1 15))))
theorem mr_59_129 {X : Nat → Option zz_C} {h : zz_H} (hh : 111 ≤ h.length) {d : Nat} {N : Nat} {Q : Option Value → zz_H → Prop}  {s s' : mS} {v : Option Value} (hf : mf_59_129 N  s = some (s', v)) (k : Q v (mH h s')) : zz_E zp_P zt_tf zt_fd X (d + 12) zm_59 129 [(0, .ref 61)] [] (mH h s) Q := by
  unfold mf_59_129 at hf
  cases hf
  exact mb_59_129 hh  k
def mf_59_127 (N : Nat)  (s : mS) : mO := some (s, (some (.int (-1))))
theorem mr_59_127 {X : Nat → Option zz_C} {h : zz_H} (hh : 111 ≤ h.length) {d : Nat} {N : Nat} {Q : Option Value → zz_H → Prop}  {s s' : mS} {v : Option Value} (hf : mf_59_127 N  s = some (s', v)) (k : Q v (mH h s')) : zz_E zp_P zt_tf zt_fd X (d + 12) zm_59 127 [] [] (mH h s) Q := by
  unfold mf_59_127 at hf
  cases hf
  exact mb_59_127 hh  k
def mf_59_117 (N : Nat) (y1 : Int32) (s : mS) : mO := if (s.1 9) ≤ 0 then mf_59_129 N  (mI s 46 y1) else mf_59_127 N  (mI s 46 y1)
theorem mr_59_117 {X : Nat → Option zz_C} {h : zz_H} (hh : 111 ≤ h.length) {d : Nat} {N : Nat} {Q : Option Value → zz_H → Prop} {y1 : Int32} {s s' : mS} {v : Option Value} (hf : mf_59_117 N y1 s = some (s', v)) (k : Q v (mH h s')) : zz_E zp_P zt_tf zt_fd X (d + 12) zm_59 117 [(0, .ref 61)] [.int y1, .ref 61] (mH h s) Q := by
  unfold mf_59_117 at hf
  refine mb_59_117 hh  (fun c => ?_) (fun c => ?_)
  · rw [if_pos c] at hf
    exact mr_59_129 hh hf k
  · rw [if_neg c] at hf
    exact mr_59_127 hh hf k
def mf_59_113 (N : Nat)  (s : mS) : mO := mf_59_117 N (s.1 10) s
theorem mr_59_113 {X : Nat → Option zz_C} {h : zz_H} (hh : 111 ≤ h.length) {d : Nat} {N : Nat} {Q : Option Value → zz_H → Prop}  {s s' : mS} {v : Option Value} (hf : mf_59_113 N  s = some (s', v)) (k : Q v (mH h s')) : zz_E zp_P zt_tf zt_fd X (d + 12) zm_59 113 [(0, .ref 61)] [.ref 61] (mH h s) Q := by
  unfold mf_59_113 at hf
  exact mb_59_113 hh  (mr_59_117 hh hf k)
def mf_59_109 (N : Nat)  (s : mS) : mO := mf_59_117 N (-1) s
theorem mr_59_109 {X : Nat → Option zz_C} {h : zz_H} (hh : 111 ≤ h.length) {d : Nat} {N : Nat} {Q : Option Value → zz_H → Prop}  {s s' : mS} {v : Option Value} (hf : mf_59_109 N  s = some (s', v)) (k : Q v (mH h s')) : zz_E zp_P zt_tf zt_fd X (d + 12) zm_59 109 [(0, .ref 61)] [.ref 61] (mH h s) Q := by
  unfold mf_59_109 at hf
  exact mb_59_109 hh  (mr_59_117 hh hf k)
def mf_59_93 (N : Nat)  (s : mS) : mO := if ¬ (s.1 9) = 0 then mf_59_113 N  (mI s 45 (s.1 9)) else mf_59_109 N  (mI s 45 (s.1 9))
theorem mr_59_93 {X : Nat → Option zz_C} {h : zz_H} (hh : 111 ≤ h.length) {d : Nat} {N : Nat} {Q : Option Value → zz_H → Prop}  {s s' : mS} {v : Option Value} (hf : mf_59_93 N  s = some (s', v)) (k : Q v (mH h s')) : zz_E zp_P zt_tf zt_fd X (d + 12) zm_59 93 [(0, .ref 61)] [] (mH h s) Q := by
  unfold mf_59_93 at hf
  refine mb_59_93 hh  (fun c => ?_) (fun c => ?_)
  · rw [if_pos c] at hf
    exact mr_59_113 hh hf k
  · rw [if_neg c] at hf
    exact mr_59_109 hh hf k
def mf_59_89 (N : Nat)  (s : mS) : mO := mo_bv (mf_64 N  s) (fun s1 => mf_59_93 N  s1)
theorem mr_59_89 {X : Nat → Option zz_C} {h : zz_H} (hh : 111 ≤ h.length) {d : Nat} {N : Nat} {Q : Option Value → zz_H → Prop}  {s s' : mS} {v : Option Value} (hf : mf_59_89 N  s = some (s', v)) (k : Q v (mH h s')) : zz_E zp_P zt_tf zt_fd X (d + 12) zm_59 89 [(0, .ref 61)] [] (mH h s) Q := by
  unfold mf_59_89 at hf
  obtain ⟨s1, e, hf⟩ := mo_bv_ok hf
  exact mb_59_89 (d := d + 11) hh  (mr_64 (d := d + 10) hh e (mr_59_93 hh hf k))
def mf_59_82 (N : Nat)  (s : mS) : mO := if ¬ (s.1 9) = 0 then mf_59_93 N  s else mf_59_89 N  s
theorem mr_59_82 {X : Nat → Option zz_C} {h : zz_H} (hh : 111 ≤ h.length) {d : Nat} {N : Nat} {Q : Option Value → zz_H → Prop}  {s s' : mS} {v : Option Value} (hf : mf_59_82 N  s = some (s', v)) (k : Q v (mH h s')) : zz_E zp_P zt_tf zt_fd X (d + 12) zm_59 82 [(0, .ref 61)] [] (mH h s) Q := by
  unfold mf_59_82 at hf
  refine mb_59_82 hh  (fun c => ?_) (fun c => ?_)
  · rw [if_pos c] at hf
    exact mr_59_93 hh hf k
  · rw [if_neg c] at hf
    exact mr_59_89 hh hf k
def mf_59_78 (N : Nat)  (s : mS) : mO := mo_bv (mf_63 N  s) (fun s1 => mf_59_82 N  s1)
theorem mr_59_78 {X : Nat → Option zz_C} {h : zz_H} (hh : 111 ≤ h.length) {d : Nat} {N : Nat} {Q : Option Value → zz_H → Prop}  {s s' : mS} {v : Option Value} (hf : mf_59_78 N  s = some (s', v)) (k : Q v (mH h s')) : zz_E zp_P zt_tf zt_fd X (d + 12) zm_59 78 [(0, .ref 61)] [] (mH h s) Q := by
  unfold mf_59_78 at hf
  obtain ⟨s1, e, hf⟩ := mo_bv_ok hf
  exact mb_59_78 (d := d + 11) hh  (mr_63 (d := d + 0) hh e (mr_59_82 hh hf k))
def mf_59_73 (N : Nat)  (s : mS) : mO := mo_bv (mf_60 N 0 s) (fun s1 => mf_59_78 N  s1)
theorem mr_59_73 {X : Nat → Option zz_C} {h : zz_H} (hh : 111 ≤ h.length) {d : Nat} {N : Nat} {Q : Option Value → zz_H → Prop}  {s s' : mS} {v : Option Value} (hf : mf_59_73 N  s = some (s', v)) (k : Q v (mH h s')) : zz_E zp_P zt_tf zt_fd X (d + 12) zm_59 73 [(0, .ref 61)] [] (mH h s) Q := by
  unfold mf_59_73 at hf
  obtain ⟨s1, e, hf⟩ := mo_bv_ok hf
  exact mb_59_73 (d := d + 11) hh  (mr_60 (d := d + 9) hh e (mr_59_78 hh hf k))
def mf_59_70 (N : Nat)  (s : mS) : mO := mf_59_93 N  s
theorem mr_59_70 {X : Nat → Option zz_C} {h : zz_H} (hh : 111 ≤ h.length) {d : Nat} {N : Nat} {Q : Option Value → zz_H → Prop}  {s s' : mS} {v : Option Value} (hf : mf_59_70 N  s = some (s', v)) (k : Q v (mH h s')) : zz_E zp_P zt_tf zt_fd X (d + 12) zm_59 70 [(0, .ref 61)] [] (mH h s) Q := by
  unfold mf_59_70 at hf
  exact mb_59_70 hh  (mr_59_93 hh hf k)
def mf_59_62 (N : Nat)  (s : mS) : mO := mo_bv (mf_261 N 1 1600 s) (fun s1 => mf_59_70 N  s1)
theorem mr_59_62 {X : Nat → Option zz_C} {h : zz_H} (hh : 111 ≤ h.length) {d : Nat} {N : Nat} {Q : Option Value → zz_H → Prop}  {s s' : mS} {v : Option Value} (hf : mf_59_62 N  s = some (s', v)) (k : Q v (mH h s')) : zz_E zp_P zt_tf zt_fd X (d + 12) zm_59 62 [(0, .ref 61)] [] (mH h s) Q := by
  unfold mf_59_62 at hf
  obtain ⟨s1, e, hf⟩ := mo_bv_ok hf
  exact mb_59_62 (d := d + 11) hh  (mr_261 (d := d + 11) hh e (mr_59_70 hh hf k))
def mf_59_15 (N : Nat) (x1 : Int32) (s : mS) : mO := if x1 ≤ 1600 then mf_59_73 N  (mI (mI (mI (mI (mI (mI (mI (mI s 3 0) 4 x1) 9 0) 10 (-1)) 11 0) 15 0) 28 0) 29 0) else mf_59_62 N  (mI (mI (mI (mI (mI (mI (mI (mI s 3 0) 4 x1) 9 0) 10 (-1)) 11 0) 15 0) 28 0) 29 0)
theorem mr_59_15 {X : Nat → Option zz_C} {h : zz_H} (hh : 111 ≤ h.length) {d : Nat} {N : Nat} {Q : Option Value → zz_H → Prop} {x1 : Int32} {s s' : mS} {v : Option Value} (hf : mf_59_15 N x1 s = some (s', v)) (k : Q v (mH h s')) : zz_E zp_P zt_tf zt_fd X (d + 12) zm_59 15 [(0, .ref 61), (1, .int x1)] [] (mH h s) Q := by
  unfold mf_59_15 at hf
  refine mb_59_15 hh  (fun c => ?_) (fun c => ?_)
  · rw [if_pos c] at hf
    exact mr_59_73 hh hf k
  · rw [if_neg c] at hf
    exact mr_59_62 hh hf k
def mf_59_4 (N : Nat) (x1 : Int32) (s : mS) : mO := if x1 ≤ (s.1 3) then mf_59_15 N x1 s else mf_59_12 N  s
theorem mr_59_4 {X : Nat → Option zz_C} {h : zz_H} (hh : 111 ≤ h.length) {d : Nat} {N : Nat} {Q : Option Value → zz_H → Prop} {x1 : Int32} {s s' : mS} {v : Option Value} (hf : mf_59_4 N x1 s = some (s', v)) (k : Q v (mH h s')) : zz_E zp_P zt_tf zt_fd X (d + 12) zm_59 4 [(0, .ref 61), (1, .int x1)] [] (mH h s) Q := by
  unfold mf_59_4 at hf
  refine mb_59_4 hh  (fun c => ?_) (fun c => ?_)
  · rw [if_pos c] at hf
    exact mr_59_15 hh hf k
  · rw [if_neg c] at hf
    exact mr_59_12 hh hf k
def mf_59_0 (N : Nat) (x1 : Int32) (s : mS) : mO := if x1 < 0 then mf_59_12 N  s else mf_59_4 N x1 s
theorem mr_59_0 {X : Nat → Option zz_C} {h : zz_H} (hh : 111 ≤ h.length) {d : Nat} {N : Nat} {Q : Option Value → zz_H → Prop} {x1 : Int32} {s s' : mS} {v : Option Value} (hf : mf_59_0 N x1 s = some (s', v)) (k : Q v (mH h s')) : zz_E zp_P zt_tf zt_fd X (d + 12) zm_59 0 [(0, .ref 61), (1, .int x1)] [] (mH h s) Q := by
  unfold mf_59_0 at hf
  refine mb_59_0 hh  (fun c => ?_) (fun c => ?_)
  · rw [if_pos c] at hf
    exact mr_59_12 hh hf k
  · rw [if_neg c] at hf
    exact mr_59_4 hh hf k
/-- load -/
def mf_59 (N : Nat) (x1 : Int32) (s : mS) : mO := mf_59_0 N x1 s
theorem mr_59 {X : Nat → Option zz_C} {h : zz_H} (hh : 111 ≤ h.length) {d : Nat} {N : Nat} {Q : Option Value → zz_H → Prop} {x1 : Int32} {s s' : mS} {v : Option Value} (hf : mf_59 N x1 s = some (s', v)) (k : Q v (mH h s')) : zz_E zp_P zt_tf zt_fd X (d + 12) zm_59 0 [(0, .ref 61), (1, .int x1)] [] (mH h s) Q := by
  unfold mf_59 at hf
  exact zz_E.weak (mr_59_0 hh hf k) rfl ⟨rfl, rfl, trivial⟩
/-! fault (I)I -/
theorem mb_65_0 {X : Nat → Option zz_C} {h : zz_H} (hh : 111 ≤ h.length) {s : mS} {d : Nat} {Q : Option Value → zz_H → Prop} {x1 : Int32} (k1 : ¬ x1 = 0 → zz_E zp_P zt_tf zt_fd X d zm_65 11 [(0, .ref 61), (1, .int x1)] [] (mH h s) Q) (k2 : ¬ ¬ x1 = 0 → zz_E zp_P zt_tf zt_fd X d zm_65 4 [(0, .ref 61)] [] (mH h s) Q) : zz_E zp_P zt_tf zt_fd X d zm_65 0 [(0, .ref 61), (1, .int x1)] [] (mH h s) Q := by
  refine zz_E.n 1 rfl rfl rfl ?_
  refine zz_E.b1 11 4 (A := ¬ x1 = 0) rfl (zz_cond_ne _ _) (by decide) rfl rfl (fun c => ?_) (fun c => ?_)
  · exact zz_E.weak (k1 c) rfl ⟨rfl, rfl, trivial⟩
  · exact zz_E.weak (k2 c) rfl ⟨rfl, trivial⟩
theorem mb_65_4 {X : Nat → Option zz_C} {h : zz_H} (hh : 111 ≤ h.length) {s : mS} {d : Nat} {Q : Option Value → zz_H → Prop}  (k : zz_E zp_P zt_tf zt_fd X d zm_65 24 [] [.int (s.1 45)] (mH h s) Q) : zz_E zp_P zt_tf zt_fd X d zm_65 4 [(0, .ref 61)] [] (mH h s) Q := by
  refine zz_E.n 5 rfl rfl rfl ?_
  refine mE_g hh 8 (v := .int (s.1 45)) rfl rfl rfl ?_
  refine zz_E.n 24 rfl rfl rfl ?_
  exact zz_E.weak k rfl trivial
theorem mb_65_11 {X : Nat → Option zz_C} {h : zz_H} (hh : 111 ≤ h.length) {s : mS} {d : Nat} {Q : Option Value → zz_H → Prop} {x1 : Int32} (k1 : ¬ x1 = 1 → zz_E zp_P zt_tf zt_fd X d zm_65 23 [] [] (mH h s) Q) (k2 : ¬ ¬ x1 = 1 → zz_E zp_P zt_tf zt_fd X d zm_65 16 [(0, .ref 61)] [] (mH h s) Q) : zz_E zp_P zt_tf zt_fd X d zm_65 11 [(0, .ref 61), (1, .int x1)] [] (mH h s) Q := by
  refine zz_E.n 12 rfl rfl rfl ?_
  refine zz_E.c 13 (.int 1) rfl rfl rfl rfl ?_
  refine zz_E.b2 23 16 (A := ¬ x1 = 1) rfl (zz_cond_ne _ _) (by decide) rfl rfl (fun c => ?_) (fun c => ?_)
  · exact zz_E.weak (k1 c) rfl trivial
  · exact zz_E.weak (k2 c) rfl ⟨rfl, trivial⟩
theorem mb_65_16 {X : Nat → Option zz_C} {h : zz_H} (hh : 111 ≤ h.length) {s : mS} {d : Nat} {Q : Option Value → zz_H → Prop}  (k : zz_E zp_P zt_tf zt_fd X d zm_65 24 [] [.int (s.1 46)] (mH h s) Q) : zz_E zp_P zt_tf zt_fd X d zm_65 16 [(0, .ref 61)] [] (mH h s) Q := by
  refine zz_E.n 17 rfl rfl rfl ?_
  refine mE_g hh 20 (v := .int (s.1 46)) rfl rfl rfl ?_
  refine zz_E.n 24 rfl rfl rfl ?_
  exact zz_E.weak k rfl trivial
theorem mb_65_23 {X : Nat → Option zz_C} {h : zz_H} (hh : 111 ≤ h.length) {s : mS} {d : Nat} {Q : Option Value → zz_H → Prop}  (k : zz_E zp_P zt_tf zt_fd X d zm_65 24 [] [.int (-1)] (mH h s) Q) : zz_E zp_P zt_tf zt_fd X d zm_65 23 [] [] (mH h s) Q := by
  refine zz_E.c 24 (.int (-1)) rfl rfl rfl rfl ?_
  exact zz_E.weak k rfl trivial
theorem mb_65_24 {X : Nat → Option zz_C} {h : zz_H} (hh : 111 ≤ h.length) {s : mS} {d : Nat} {Q : Option Value → zz_H → Prop} {y0 : Int32} (k : Q (some (.int y0)) (mH h s)) : zz_E zp_P zt_tf zt_fd X d zm_65 24 [] [.int y0] (mH h s) Q := by
  refine zz_E.ret rfl rfl rfl ?_
  exact k
def mf_65_24 (N : Nat) (y0 : Int32) (s : mS) : mO := some (s, (some (.int y0)))
theorem mr_65_24 {X : Nat → Option zz_C} {h : zz_H} (hh : 111 ≤ h.length) {d : Nat} {N : Nat} {Q : Option Value → zz_H → Prop} {y0 : Int32} {s s' : mS} {v : Option Value} (hf : mf_65_24 N y0 s = some (s', v)) (k : Q v (mH h s')) : zz_E zp_P zt_tf zt_fd X (d + 0) zm_65 24 [] [.int y0] (mH h s) Q := by
  unfold mf_65_24 at hf
  cases hf
  exact mb_65_24 hh  k
def mf_65_23 (N : Nat)  (s : mS) : mO := mf_65_24 N (-1) s
theorem mr_65_23 {X : Nat → Option zz_C} {h : zz_H} (hh : 111 ≤ h.length) {d : Nat} {N : Nat} {Q : Option Value → zz_H → Prop}  {s s' : mS} {v : Option Value} (hf : mf_65_23 N  s = some (s', v)) (k : Q v (mH h s')) : zz_E zp_P zt_tf zt_fd X (d + 0) zm_65 23 [] [] (mH h s) Q := by
  unfold mf_65_23 at hf
  exact mb_65_23 hh  (mr_65_24 hh hf k)
def mf_65_16 (N : Nat)  (s : mS) : mO := mf_65_24 N (s.1 46) s
theorem mr_65_16 {X : Nat → Option zz_C} {h : zz_H} (hh : 111 ≤ h.length) {d : Nat} {N : Nat} {Q : Option Value → zz_H → Prop}  {s s' : mS} {v : Option Value} (hf : mf_65_16 N  s = some (s', v)) (k : Q v (mH h s')) : zz_E zp_P zt_tf zt_fd X (d + 0) zm_65 16 [(0, .ref 61)] [] (mH h s) Q := by
  unfold mf_65_16 at hf
  exact mb_65_16 hh  (mr_65_24 hh hf k)
def mf_65_11 (N : Nat) (x1 : Int32) (s : mS) : mO := if ¬ x1 = 1 then mf_65_23 N  s else mf_65_16 N  s
theorem mr_65_11 {X : Nat → Option zz_C} {h : zz_H} (hh : 111 ≤ h.length) {d : Nat} {N : Nat} {Q : Option Value → zz_H → Prop} {x1 : Int32} {s s' : mS} {v : Option Value} (hf : mf_65_11 N x1 s = some (s', v)) (k : Q v (mH h s')) : zz_E zp_P zt_tf zt_fd X (d + 0) zm_65 11 [(0, .ref 61), (1, .int x1)] [] (mH h s) Q := by
  unfold mf_65_11 at hf
  refine mb_65_11 hh  (fun c => ?_) (fun c => ?_)
  · rw [if_pos c] at hf
    exact mr_65_23 hh hf k
  · rw [if_neg c] at hf
    exact mr_65_16 hh hf k
def mf_65_4 (N : Nat)  (s : mS) : mO := mf_65_24 N (s.1 45) s
theorem mr_65_4 {X : Nat → Option zz_C} {h : zz_H} (hh : 111 ≤ h.length) {d : Nat} {N : Nat} {Q : Option Value → zz_H → Prop}  {s s' : mS} {v : Option Value} (hf : mf_65_4 N  s = some (s', v)) (k : Q v (mH h s')) : zz_E zp_P zt_tf zt_fd X (d + 0) zm_65 4 [(0, .ref 61)] [] (mH h s) Q := by
  unfold mf_65_4 at hf
  exact mb_65_4 hh  (mr_65_24 hh hf k)
def mf_65_0 (N : Nat) (x1 : Int32) (s : mS) : mO := if ¬ x1 = 0 then mf_65_11 N x1 s else mf_65_4 N  s
theorem mr_65_0 {X : Nat → Option zz_C} {h : zz_H} (hh : 111 ≤ h.length) {d : Nat} {N : Nat} {Q : Option Value → zz_H → Prop} {x1 : Int32} {s s' : mS} {v : Option Value} (hf : mf_65_0 N x1 s = some (s', v)) (k : Q v (mH h s')) : zz_E zp_P zt_tf zt_fd X (d + 0) zm_65 0 [(0, .ref 61), (1, .int x1)] [] (mH h s) Q := by
  unfold mf_65_0 at hf
  refine mb_65_0 hh  (fun c => ?_) (fun c => ?_)
  · rw [if_pos c] at hf
    exact mr_65_11 hh hf k
  · rw [if_neg c] at hf
    exact mr_65_4 hh hf k
/-- fault -/
def mf_65 (N : Nat) (x1 : Int32) (s : mS) : mO := mf_65_0 N x1 s
theorem mr_65 {X : Nat → Option zz_C} {h : zz_H} (hh : 111 ≤ h.length) {d : Nat} {N : Nat} {Q : Option Value → zz_H → Prop} {x1 : Int32} {s s' : mS} {v : Option Value} (hf : mf_65 N x1 s = some (s', v)) (k : Q v (mH h s')) : zz_E zp_P zt_tf zt_fd X (d + 0) zm_65 0 [(0, .ref 61), (1, .int x1)] [] (mH h s) Q := by
  unfold mf_65 at hf
  exact zz_E.weak (mr_65_0 hh hf k) rfl ⟨rfl, rfl, trivial⟩
