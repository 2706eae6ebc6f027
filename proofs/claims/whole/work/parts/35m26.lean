/-! next (I)V -/
theorem mb_317_0 {X : Nat → Option zz_C} {h : zz_H} (hh : 111 ≤ h.length) {s : mS} {d : Nat} {Q : Option Value → zz_H → Prop} {x1 : Int32} (i12 : ¬ (((s.1 79) - 1) < 0 ∨ 400 ≤ Int32.toNatClampNeg ((s.1 79) - 1))) (i18 : ¬ (((s.1 79) - 1) < 0 ∨ 400 ≤ Int32.toNatClampNeg ((s.1 79) - 1))) (k1 : ((s.2.2.1 83) (Int32.toNatClampNeg ((s.1 79) - 1))) ≤ ((s.2.2.1 82) (Int32.toNatClampNeg ((s.1 79) - 1))) → zz_E zp_P zt_tf zt_fd X d zm_317 107 [(0, .ref 61), (2, .int ((s.1 79) - 1))] [] (mH h s) Q) (k2 : ¬ ((s.2.2.1 83) (Int32.toNatClampNeg ((s.1 79) - 1))) ≤ ((s.2.2.1 82) (Int32.toNatClampNeg ((s.1 79) - 1))) → zz_E zp_P zt_tf zt_fd X d zm_317 22 [(0, .ref 61), (1, .int x1), (2, .int ((s.1 79) - 1))] [] (mH h s) Q) : zz_E zp_P zt_tf zt_fd X d zm_317 0 [(0, .ref 61), (1, .int x1)] [] (mH h s) Q := by
  refine zz_E.n 1 rfl rfl rfl ?_
  refine mE_g hh 4 (v := .int (s.1 79)) rfl rfl rfl ?_
  refine zz_E.c 5 (.int 1) rfl rfl rfl rfl ?_
  refine zz_E.n 6 rfl rfl rfl ?_
  refine zz_E.n 7 rfl rfl rfl ?_
  refine zz_E.n 8 rfl rfl rfl ?_
  refine mE_g hh 11 (v := .ref 106) rfl rfl rfl ?_
  refine zz_E.n 12 rfl rfl rfl ?_
  refine mE_ia hh 13 45 (f := (s.2.2.1 82)) rfl (by decide) rfl rfl i12 rfl ?_
  refine zz_E.n 14 rfl rfl rfl ?_
  refine mE_g hh 17 (v := .ref 107) rfl rfl rfl ?_
  refine zz_E.n 18 rfl rfl rfl ?_
  refine mE_ia hh 19 46 (f := (s.2.2.1 83)) rfl (by decide) rfl rfl i18 rfl ?_
  refine zz_E.b2 107 22 (A := ((s.2.2.1 83) (Int32.toNatClampNeg ((s.1 79) - 1))) ≤ ((s.2.2.1 82) (Int32.toNatClampNeg ((s.1 79) - 1)))) rfl rfl (by decide) rfl rfl (fun c => ?_) (fun c => ?_)
  · exact zz_E.weak (k1 c) rfl ⟨rfl, rfl, trivial⟩
  · exact zz_E.weak (k2 c) rfl ⟨rfl, rfl, rfl, trivial⟩
theorem mb_317_22 {X : Nat → Option zz_C} {h : zz_H} (hh : 111 ≤ h.length) {s : mS} {d : Nat} {Q : Option Value → zz_H → Prop} {x1 : Int32} {x2 : Int32} (k : zz_E zp_P zt_tf zt_fd X d zm_302 0 [(0, .ref 61)] [] (mH h s) (fun v h' => zz_E zp_P zt_tf zt_fd X (d + 1) zm_317 26 [(0, .ref 61), (1, .int x1), (2, .int x2)] (v.toList ++ []) h' Q)) : zz_E zp_P zt_tf zt_fd X (d + 1) zm_317 22 [(0, .ref 61), (1, .int x1), (2, .int x2)] [] (mH h s) Q := by
  refine zz_E.n 23 rfl rfl rfl ?_
  refine mE_cv hh 26 (as := []) rfl rfl (Nat.le_of_ble_eq_true rfl) (Nat.le_of_ble_eq_true rfl) rfl (Nat.le_of_ble_eq_true rfl) rfl ?_
  refine zz_E.mono k ?_
  intro v h' hE
  exact zz_E.weak hE rfl ⟨rfl, rfl, rfl, trivial⟩
theorem mb_317_26 {X : Nat → Option zz_C} {h : zz_H} (hh : 111 ≤ h.length) {s : mS} {d : Nat} {Q : Option Value → zz_H → Prop} {x1 : Int32} {x2 : Int32} (k1 : (s.1 66) ≤ 0 → zz_E zp_P zt_tf zt_fd X d zm_317 34 [(0, .ref 61), (1, .int x1), (2, .int x2)] [] (mH h s) Q) (k2 : ¬ (s.1 66) ≤ 0 → zz_E zp_P zt_tf zt_fd X d zm_317 33 [] [] (mH h s) Q) : zz_E zp_P zt_tf zt_fd X d zm_317 26 [(0, .ref 61), (1, .int x1), (2, .int x2)] [] (mH h s) Q := by
  refine zz_E.n 27 rfl rfl rfl ?_
  refine mE_g hh 30 (v := .int (s.1 66)) rfl rfl rfl ?_
  refine zz_E.b1 34 33 (A := (s.1 66) ≤ 0) rfl rfl (by decide) rfl rfl (fun c => ?_) (fun c => ?_)
  · exact zz_E.weak (k1 c) rfl ⟨rfl, rfl, rfl, trivial⟩
  · exact zz_E.weak (k2 c) rfl trivial
theorem mb_317_33 {X : Nat → Option zz_C} {h : zz_H} (hh : 111 ≤ h.length) {s : mS} {d : Nat} {Q : Option Value → zz_H → Prop}  (k : Q none (mH h s)) : zz_E zp_P zt_tf zt_fd X d zm_317 33 [] [] (mH h s) Q := by
  refine zz_E.ret rfl rfl rfl ?_
  exact k
theorem mb_317_34 {X : Nat → Option zz_C} {h : zz_H} (hh : 111 ≤ h.length) {s : mS} {d : Nat} {Q : Option Value → zz_H → Prop} {x1 : Int32} {x2 : Int32} (k1 : ¬ (s.1 73) = 10 → zz_E zp_P zt_tf zt_fd X d zm_317 54 [(0, .ref 61), (1, .int x1), (2, .int x2)] [] (mH h s) Q) (k2 : ¬ ¬ (s.1 73) = 10 → zz_E zp_P zt_tf zt_fd X d zm_317 43 [(0, .ref 61)] [] (mH h s) Q) : zz_E zp_P zt_tf zt_fd X d zm_317 34 [(0, .ref 61), (1, .int x1), (2, .int x2)] [] (mH h s) Q := by
  refine zz_E.n 35 rfl rfl rfl ?_
  refine mE_g hh 38 (v := .int (s.1 73)) rfl rfl rfl ?_
  refine zz_E.c 40 (.int 10) rfl rfl rfl rfl ?_
  refine zz_E.b2 54 43 (A := ¬ (s.1 73) = 10) rfl (zz_cond_ne _ _) (by decide) rfl rfl (fun c => ?_) (fun c => ?_)
  · exact zz_E.weak (k1 c) rfl ⟨rfl, rfl, rfl, trivial⟩
  · exact zz_E.weak (k2 c) rfl ⟨rfl, trivial⟩
theorem mb_317_43 {X : Nat → Option zz_C} {h : zz_H} (hh : 111 ≤ h.length) {s : mS} {d : Nat} {Q : Option Value → zz_H → Prop}  (k : zz_E zp_P zt_tf zt_fd X d zm_301 0 [(0, .ref 61), (1, .int 8), (2, .int (s.1 70))] [] (mH h s) (fun v h' => zz_E zp_P zt_tf zt_fd X (d + 1) zm_317 53 [] (v.toList ++ []) h' Q)) : zz_E zp_P zt_tf zt_fd X (d + 1) zm_317 43 [(0, .ref 61)] [] (mH h s) Q := by
  refine zz_E.n 44 rfl rfl rfl ?_
  refine zz_E.c 46 (.int 8) rfl rfl rfl rfl ?_
  refine zz_E.n 47 rfl rfl rfl ?_
  refine mE_g hh 50 (v := .int (s.1 70)) rfl rfl rfl ?_
  refine mE_cv hh 53 (as := []) rfl rfl (Nat.le_of_ble_eq_true rfl) (Nat.le_of_ble_eq_true rfl) rfl (Nat.le_of_ble_eq_true rfl) rfl ?_
  refine zz_E.mono k ?_
  intro v h' hE
  exact zz_E.weak hE rfl trivial
theorem mb_317_53 {X : Nat → Option zz_C} {h : zz_H} (hh : 111 ≤ h.length) {s : mS} {d : Nat} {Q : Option Value → zz_H → Prop}  (k : Q none (mH h s)) : zz_E zp_P zt_tf zt_fd X d zm_317 53 [] [] (mH h s) Q := by
  refine zz_E.ret rfl rfl rfl ?_
  exact k
theorem mb_317_54 {X : Nat → Option zz_C} {h : zz_H} (hh : 111 ≤ h.length) {s : mS} {d : Nat} {Q : Option Value → zz_H → Prop} {x1 : Int32} {x2 : Int32} (i60 : ¬ (x2 < 0 ∨ 400 ≤ Int32.toNatClampNeg x2)) (i66 : ¬ (x2 < 0 ∨ 400 ≤ Int32.toNatClampNeg x2)) (k : zz_E zp_P zt_tf zt_fd X d zm_295 0 [(0, .ref 61), (1, .int ((s.2.2.1 81) (Int32.toNatClampNeg x2))), (2, .int ((s.2.2.1 82) (Int32.toNatClampNeg x2)))] [] (mH h s) (fun v h' => zz_E zp_P zt_tf zt_fd X (d + 1) zm_317 70 [(0, .ref 61), (1, .int x1), (2, .int x2)] (v.toList ++ []) h' Q)) : zz_E zp_P zt_tf zt_fd X (d + 1) zm_317 54 [(0, .ref 61), (1, .int x1), (2, .int x2)] [] (mH h s) Q := by
  refine zz_E.n 55 rfl rfl rfl ?_
  refine zz_E.n 56 rfl rfl rfl ?_
  refine mE_g hh 59 (v := .ref 105) rfl rfl rfl ?_
  refine zz_E.n 60 rfl rfl rfl ?_
  refine mE_ia hh 61 44 (f := (s.2.2.1 81)) rfl (by decide) rfl rfl i60 rfl ?_
  refine zz_E.n 62 rfl rfl rfl ?_
  refine mE_g hh 65 (v := .ref 106) rfl rfl rfl ?_
  refine zz_E.n 66 rfl rfl rfl ?_
  refine mE_ia hh 67 45 (f := (s.2.2.1 82)) rfl (by decide) rfl rfl i66 rfl ?_
  refine mE_cv hh 70 (as := []) rfl rfl (Nat.le_of_ble_eq_true rfl) (Nat.le_of_ble_eq_true rfl) rfl (Nat.le_of_ble_eq_true rfl) rfl ?_
  refine zz_E.mono k ?_
  intro v h' hE
  exact zz_E.weak hE rfl ⟨rfl, rfl, rfl, trivial⟩
theorem mb_317_70 {X : Nat → Option zz_C} {h : zz_H} (hh : 111 ≤ h.length) {s : mS} {d : Nat} {Q : Option Value → zz_H → Prop} {x1 : Int32} {x2 : Int32} (i76 : ¬ (x2 < 0 ∨ 400 ≤ Int32.toNatClampNeg x2)) (i79 : ¬ (x2 < 0 ∨ 400 ≤ Int32.toNatClampNeg x2)) (i86 : ¬ (x1 < 0 ∨ 8000 ≤ Int32.toNatClampNeg x1)) (i92 : ¬ (x2 < 0 ∨ 400 ≤ Int32.toNatClampNeg x2)) (k1 : ¬ ((s.2.2.1 80) (Int32.toNatClampNeg x2)) = 3 → zz_E zp_P zt_tf zt_fd X d zm_317 101 [(1, .int x1)] [.int ((s.2.2.1 25) (Int32.toNatClampNeg x1)), .ref 61] (mH h (mA s 82 (upd (s.2.2.1 82) (Int32.toNatClampNeg x2) (((s.2.2.1 82) (Int32.toNatClampNeg x2)) + 1)))) Q) (k2 : ¬ ¬ ((s.2.2.1 80) (Int32.toNatClampNeg x2)) = 3 → zz_E zp_P zt_tf zt_fd X d zm_317 97 [(1, .int x1)] [.int ((s.2.2.1 25) (Int32.toNatClampNeg x1)), .ref 61] (mH h (mA s 82 (upd (s.2.2.1 82) (Int32.toNatClampNeg x2) (((s.2.2.1 82) (Int32.toNatClampNeg x2)) + 1)))) Q) : zz_E zp_P zt_tf zt_fd X d zm_317 70 [(0, .ref 61), (1, .int x1), (2, .int x2)] [] (mH h s) Q := by
  refine zz_E.n 71 rfl rfl rfl ?_
  refine mE_g hh 74 (v := .ref 106) rfl rfl rfl ?_
  refine zz_E.n 75 rfl rfl rfl ?_
  refine zz_E.n 76 rfl rfl rfl ?_
  refine mE_ia hh 77 45 (f := (s.2.2.1 82)) rfl (by decide) rfl rfl i76 rfl ?_
  refine zz_E.c 78 (.int 1) rfl rfl rfl rfl ?_
  refine zz_E.n 79 rfl rfl rfl ?_
  refine mE_is hh 80 45 (f := (s.2.2.1 82)) rfl (by decide) rfl rfl i79 (mA_106 _ _) rfl ?_
  refine zz_E.n 81 rfl rfl rfl ?_
  refine zz_E.n 82 rfl rfl rfl ?_
  refine mE_g hh 85 (v := .ref 73) rfl rfl rfl ?_
  refine zz_E.n 86 rfl rfl rfl ?_
  refine mE_ia hh 87 12 (f := (s.2.2.1 25)) rfl (by decide) rfl rfl i86 rfl ?_
  refine zz_E.n 88 rfl rfl rfl ?_
  refine mE_g hh 91 (v := .ref 104) rfl rfl rfl ?_
  refine zz_E.n 92 rfl rfl rfl ?_
  refine mE_ia hh 93 43 (f := (s.2.2.1 80)) rfl (by decide) rfl rfl i92 rfl ?_
  refine zz_E.c 94 (.int 3) rfl rfl rfl rfl ?_
  refine zz_E.b2 101 97 (A := ¬ ((s.2.2.1 80) (Int32.toNatClampNeg x2)) = 3) rfl (zz_cond_ne _ _) (by decide) rfl rfl (fun c => ?_) (fun c => ?_)
  · exact zz_E.weak (k1 c) rfl ⟨rfl, trivial⟩
  · exact zz_E.weak (k2 c) rfl ⟨rfl, trivial⟩
theorem mb_317_97 {X : Nat → Option zz_C} {h : zz_H} (hh : 111 ≤ h.length) {s : mS} {d : Nat} {Q : Option Value → zz_H → Prop} {x1 : Int32} {y1 : Int32} (k : zz_E zp_P zt_tf zt_fd X d zm_317 102 [(1, .int x1)] [.int 1, .int y1, .ref 61] (mH h s) Q) : zz_E zp_P zt_tf zt_fd X d zm_317 97 [(1, .int x1)] [.int y1, .ref 61] (mH h s) Q := by
  refine zz_E.c 98 (.int 1) rfl rfl rfl rfl ?_
  refine zz_E.n 102 rfl rfl rfl ?_
  exact zz_E.weak k rfl ⟨rfl, trivial⟩
theorem mb_317_101 {X : Nat → Option zz_C} {h : zz_H} (hh : 111 ≤ h.length) {s : mS} {d : Nat} {Q : Option Value → zz_H → Prop} {x1 : Int32} {y1 : Int32} (k : zz_E zp_P zt_tf zt_fd X d zm_317 102 [(1, .int x1)] [.int 2, .int y1, .ref 61] (mH h s) Q) : zz_E zp_P zt_tf zt_fd X d zm_317 101 [(1, .int x1)] [.int y1, .ref 61] (mH h s) Q := by
  refine zz_E.c 102 (.int 2) rfl rfl rfl rfl ?_
  exact zz_E.weak k rfl ⟨rfl, trivial⟩
theorem mb_317_102 {X : Nat → Option zz_C} {h : zz_H} (hh : 111 ≤ h.length) {s : mS} {d : Nat} {Q : Option Value → zz_H → Prop} {x1 : Int32} {y1 : Int32} {y2 : Int32} (k : zz_E zp_P zt_tf zt_fd X d zm_310 0 [(0, .ref 61), (1, .int y1), (2, .int y2), (3, .int x1)] [] (mH h s) (fun v h' => zz_E zp_P zt_tf zt_fd X (d + 1) zm_317 106 [] (v.toList ++ []) h' Q)) : zz_E zp_P zt_tf zt_fd X (d + 1) zm_317 102 [(1, .int x1)] [.int y2, .int y1, .ref 61] (mH h s) Q := by
  refine zz_E.n 103 rfl rfl rfl ?_
  refine mE_cv hh 106 (as := []) rfl rfl (Nat.le_of_ble_eq_true rfl) (Nat.le_of_ble_eq_true rfl) rfl (Nat.le_of_ble_eq_true rfl) rfl ?_
  refine zz_E.mono k ?_
  intro v h' hE
  exact zz_E.weak hE rfl trivial
theorem mb_317_106 {X : Nat → Option zz_C} {h : zz_H} (hh : 111 ≤ h.length) {s : mS} {d : Nat} {Q : Option Value → zz_H → Prop}  (k : Q none (mH h s)) : zz_E zp_P zt_tf zt_fd X d zm_317 106 [] [] (mH h s) Q := by
  refine zz_E.ret rfl rfl rfl ?_
  exact k
theorem mb_317_107 {X : Nat → Option zz_C} {h : zz_H} (hh : 111 ≤ h.length) {s : mS} {d : Nat} {Q : Option Value → zz_H → Prop} {x2 : Int32} (i122 : ¬ (x2 < 0 ∨ 400 ≤ Int32.toNatClampNeg x2)) (k1 : ¬ ((s.2.2.1 80) (Int32.toNatClampNeg x2)) = 4 → zz_E zp_P zt_tf zt_fd X d zm_317 128 [(0, .ref 61), (2, .int x2)] [] (mH h (mI s 79 ((s.1 79) - 1))) Q) (k2 : ¬ ¬ ((s.2.2.1 80) (Int32.toNatClampNeg x2)) = 4 → zz_E zp_P zt_tf zt_fd X d zm_317 127 [] [] (mH h (mI s 79 ((s.1 79) - 1))) Q) : zz_E zp_P zt_tf zt_fd X d zm_317 107 [(0, .ref 61), (2, .int x2)] [] (mH h s) Q := by
  refine zz_E.n 108 rfl rfl rfl ?_
  refine zz_E.n 109 rfl rfl rfl ?_
  refine mE_g hh 112 (v := .int (s.1 79)) rfl rfl rfl ?_
  refine zz_E.c 113 (.int 1) rfl rfl rfl rfl ?_
  refine zz_E.n 114 rfl rfl rfl ?_
  refine mE_p hh 117 rfl (by decide) rfl (mF_79 _ _) rfl ?_
  refine zz_E.n 118 rfl rfl rfl ?_
  refine mE_g hh 121 (v := .ref 104) rfl rfl rfl ?_
  refine zz_E.n 122 rfl rfl rfl ?_
  refine mE_ia hh 123 43 (f := (s.2.2.1 80)) rfl (by decide) rfl rfl i122 rfl ?_
  refine zz_E.c 124 (.int 4) rfl rfl rfl rfl ?_
  refine zz_E.b2 128 127 (A := ¬ ((s.2.2.1 80) (Int32.toNatClampNeg x2)) = 4) rfl (zz_cond_ne _ _) (by decide) rfl rfl (fun c => ?_) (fun c => ?_)
  · exact zz_E.weak (k1 c) rfl ⟨rfl, rfl, trivial⟩
  · exact zz_E.weak (k2 c) rfl trivial
theorem mb_317_127 {X : Nat → Option zz_C} {h : zz_H} (hh : 111 ≤ h.length) {s : mS} {d : Nat} {Q : Option Value → zz_H → Prop}  (k : Q none (mH h s)) : zz_E zp_P zt_tf zt_fd X d zm_317 127 [] [] (mH h s) Q := by
  refine zz_E.ret rfl rfl rfl ?_
  exact k
theorem mb_317_128 {X : Nat → Option zz_C} {h : zz_H} (hh : 111 ≤ h.length) {s : mS} {d : Nat} {Q : Option Value → zz_H → Prop} {x2 : Int32} (i133 : ¬ (x2 < 0 ∨ 400 ≤ Int32.toNatClampNeg x2)) (i144 : ¬ (x2 < 0 ∨ 400 ≤ Int32.toNatClampNeg x2)) (i145 : ¬ (((s.2.2.1 81) (Int32.toNatClampNeg x2)) < 0 ∨ 166300 ≤ Int32.toNatClampNeg ((s.2.2.1 81) (Int32.toNatClampNeg x2)))) (k1 : ¬ ((s.2.2.1 47) (Int32.toNatClampNeg ((s.2.2.1 81) (Int32.toNatClampNeg x2)))) = 3 → zz_E zp_P zt_tf zt_fd X d zm_317 157 [(0, .ref 61), (2, .int x2), (3, .int ((s.2.2.1 84) (Int32.toNatClampNeg x2)))] [] (mH h s) Q) (k2 : ¬ ¬ ((s.2.2.1 47) (Int32.toNatClampNeg ((s.2.2.1 81) (Int32.toNatClampNeg x2)))) = 3 → zz_E zp_P zt_tf zt_fd X d zm_317 150 [(0, .ref 61), (3, .int ((s.2.2.1 84) (Int32.toNatClampNeg x2)))] [] (mH h s) Q) : zz_E zp_P zt_tf zt_fd X d zm_317 128 [(0, .ref 61), (2, .int x2)] [] (mH h s) Q := by
  refine zz_E.n 129 rfl rfl rfl ?_
  refine mE_g hh 132 (v := .ref 108) rfl rfl rfl ?_
  refine zz_E.n 133 rfl rfl rfl ?_
  refine mE_ia hh 134 47 (f := (s.2.2.1 84)) rfl (by decide) rfl rfl i133 rfl ?_
  refine zz_E.n 135 rfl rfl rfl ?_
  refine zz_E.n 136 rfl rfl rfl ?_
  refine mE_g hh 139 (v := .ref 89) rfl rfl rfl ?_
  refine zz_E.n 140 rfl rfl rfl ?_
  refine mE_g hh 143 (v := .ref 105) rfl rfl rfl ?_
  refine zz_E.n 144 rfl rfl rfl ?_
  refine mE_ia hh 145 44 (f := (s.2.2.1 81)) rfl (by decide) rfl rfl i144 rfl ?_
  refine mE_ia hh 146 28 (f := (s.2.2.1 47)) rfl (by decide) rfl rfl i145 rfl ?_
  refine zz_E.c 147 (.int 3) rfl rfl rfl rfl ?_
  refine zz_E.b2 157 150 (A := ¬ ((s.2.2.1 47) (Int32.toNatClampNeg ((s.2.2.1 81) (Int32.toNatClampNeg x2)))) = 3) rfl (zz_cond_ne _ _) (by decide) rfl rfl (fun c => ?_) (fun c => ?_)
  · exact zz_E.weak (k1 c) rfl ⟨rfl, rfl, rfl, trivial⟩
  · exact zz_E.weak (k2 c) rfl ⟨rfl, rfl, trivial⟩
theorem mb_317_150 {X : Nat → Option zz_C} {h : zz_H} (hh : 111 ≤ h.length) {s : mS} {d : Nat} {Q : Option Value → zz_H → Prop} {x3 : Int32} (k : zz_E zp_P zt_tf zt_fd X d zm_305 0 [(0, .ref 61), (1, .int 3), (2, .int x3)] [] (mH h s) (fun v h' => zz_E zp_P zt_tf zt_fd X (d + 1) zm_317 156 [] (v.toList ++ []) h' Q)) : zz_E zp_P zt_tf zt_fd X (d + 1) zm_317 150 [(0, .ref 61), (3, .int x3)] [] (mH h s) Q := by
  refine zz_E.n 151 rfl rfl rfl ?_
  refine zz_E.c 152 (.int 3) rfl rfl rfl rfl ?_
  refine zz_E.n 153 rfl rfl rfl ?_
  refine mE_cv hh 156 (as := []) rfl rfl (Nat.le_of_ble_eq_true rfl) (Nat.le_of_ble_eq_true rfl) rfl (Nat.le_of_ble_eq_true rfl) rfl ?_
  refine zz_E.mono k ?_
  intro v h' hE
  exact zz_E.weak hE rfl trivial
theorem mb_317_156 {X : Nat → Option zz_C} {h : zz_H} (hh : 111 ≤ h.length) {s : mS} {d : Nat} {Q : Option Value → zz_H → Prop}  (k : Q none (mH h s)) : zz_E zp_P zt_tf zt_fd X d zm_317 156 [] [] (mH h s) Q := by
  refine zz_E.ret rfl rfl rfl ?_
  exact k
theorem mb_317_157 {X : Nat → Option zz_C} {h : zz_H} (hh : 111 ≤ h.length) {s : mS} {d : Nat} {Q : Option Value → zz_H → Prop} {x2 : Int32} {x3 : Int32} (k1 : x3 < (s.1 51) → zz_E zp_P zt_tf zt_fd X d zm_317 180 [(0, .ref 61), (2, .int x2), (3, .int x3)] [] (mH h s) Q) (k2 : ¬ x3 < (s.1 51) → zz_E zp_P zt_tf zt_fd X d zm_317 165 [(0, .ref 61), (2, .int x2), (3, .int x3)] [] (mH h s) Q) : zz_E zp_P zt_tf zt_fd X d zm_317 157 [(0, .ref 61), (2, .int x2), (3, .int x3)] [] (mH h s) Q := by
  refine zz_E.n 158 rfl rfl rfl ?_
  refine mE_g hh 161 (v := .int (s.1 51)) rfl rfl rfl ?_
  refine zz_E.n 162 rfl rfl rfl ?_
  refine zz_E.b2 180 165 (A := x3 < (s.1 51)) rfl rfl (by decide) rfl rfl (fun c => ?_) (fun c => ?_)
  · exact zz_E.weak (k1 c) rfl ⟨rfl, rfl, rfl, trivial⟩
  · exact zz_E.weak (k2 c) rfl ⟨rfl, rfl, rfl, trivial⟩
theorem mb_317_165 {X : Nat → Option zz_C} {h : zz_H} (hh : 111 ≤ h.length) {s : mS} {d : Nat} {Q : Option Value → zz_H → Prop} {x2 : Int32} {x3 : Int32} (i174 : ¬ (x2 < 0 ∨ 400 ≤ Int32.toNatClampNeg x2)) (i175 : ¬ (((s.2.2.1 81) (Int32.toNatClampNeg x2)) < 0 ∨ 166300 ≤ Int32.toNatClampNeg ((s.2.2.1 81) (Int32.toNatClampNeg x2)))) (k1 : ¬ ((s.2.2.1 47) (Int32.toNatClampNeg ((s.2.2.1 81) (Int32.toNatClampNeg x2)))) = 1 → zz_E zp_P zt_tf zt_fd X d zm_317 184 [(0, .ref 61), (2, .int x2), (3, .int x3)] [] (mH h s) Q) (k2 : ¬ ¬ ((s.2.2.1 47) (Int32.toNatClampNeg ((s.2.2.1 81) (Int32.toNatClampNeg x2)))) = 1 → zz_E zp_P zt_tf zt_fd X d zm_317 180 [(0, .ref 61), (2, .int x2), (3, .int x3)] [] (mH h s) Q) : zz_E zp_P zt_tf zt_fd X d zm_317 165 [(0, .ref 61), (2, .int x2), (3, .int x3)] [] (mH h s) Q := by
  refine zz_E.n 166 rfl rfl rfl ?_
  refine mE_g hh 169 (v := .ref 89) rfl rfl rfl ?_
  refine zz_E.n 170 rfl rfl rfl ?_
  refine mE_g hh 173 (v := .ref 105) rfl rfl rfl ?_
  refine zz_E.n 174 rfl rfl rfl ?_
  refine mE_ia hh 175 44 (f := (s.2.2.1 81)) rfl (by decide) rfl rfl i174 rfl ?_
  refine mE_ia hh 176 28 (f := (s.2.2.1 47)) rfl (by decide) rfl rfl i175 rfl ?_
  refine zz_E.c 177 (.int 1) rfl rfl rfl rfl ?_
  refine zz_E.b2 184 180 (A := ¬ ((s.2.2.1 47) (Int32.toNatClampNeg ((s.2.2.1 81) (Int32.toNatClampNeg x2)))) = 1) rfl (zz_cond_ne _ _) (by decide) rfl rfl (fun c => ?_) (fun c => ?_)
  · exact zz_E.weak (k1 c) rfl ⟨rfl, rfl, rfl, trivial⟩
  · exact zz_E.weak (k2 c) rfl ⟨rfl, rfl, rfl, trivial⟩
theorem mb_317_180 {X : Nat → Option zz_C} {h : zz_H} (hh : 111 ≤ h.length) {s : mS} {d : Nat} {Q : Option Value → zz_H → Prop} {x2 : Int32} {x3 : Int32} (k : zz_E zp_P zt_tf zt_fd X d zm_317 185 [(0, .ref 61), (2, .int x2), (3, .int x3)] [.int 1] (mH h s) Q) : zz_E zp_P zt_tf zt_fd X d zm_317 180 [(0, .ref 61), (2, .int x2), (3, .int x3)] [] (mH h s) Q := by
  refine zz_E.c 181 (.int 1) rfl rfl rfl rfl ?_
  refine zz_E.n 185 rfl rfl rfl ?_
  exact zz_E.weak k rfl ⟨rfl, rfl, rfl, trivial⟩
theorem mb_317_184 {X : Nat → Option zz_C} {h : zz_H} (hh : 111 ≤ h.length) {s : mS} {d : Nat} {Q : Option Value → zz_H → Prop} {x2 : Int32} {x3 : Int32} (k : zz_E zp_P zt_tf zt_fd X d zm_317 185 [(0, .ref 61), (2, .int x2), (3, .int x3)] [.int 0] (mH h s) Q) : zz_E zp_P zt_tf zt_fd X d zm_317 184 [(0, .ref 61), (2, .int x2), (3, .int x3)] [] (mH h s) Q := by
  refine zz_E.c 185 (.int 0) rfl rfl rfl rfl ?_
  exact zz_E.weak k rfl ⟨rfl, rfl, rfl, trivial⟩
theorem mb_317_185 {X : Nat → Option zz_C} {h : zz_H} (hh : 111 ≤ h.length) {s : mS} {d : Nat} {Q : Option Value → zz_H → Prop} {x2 : Int32} {x3 : Int32} {y0 : Int32} (k1 : x3 < (s.1 51) → zz_E zp_P zt_tf zt_fd X d zm_317 210 [(0, .ref 61), (3, .int x3), (4, .int y0)] [] (mH h s) Q) (k2 : ¬ x3 < (s.1 51) → zz_E zp_P zt_tf zt_fd X d zm_317 195 [(0, .ref 61), (2, .int x2), (3, .int x3), (4, .int y0)] [] (mH h s) Q) : zz_E zp_P zt_tf zt_fd X d zm_317 185 [(0, .ref 61), (2, .int x2), (3, .int x3)] [.int y0] (mH h s) Q := by
  refine zz_E.n 187 rfl rfl rfl ?_
  refine zz_E.n 188 rfl rfl rfl ?_
  refine mE_g hh 191 (v := .int (s.1 51)) rfl rfl rfl ?_
  refine zz_E.n 192 rfl rfl rfl ?_
  refine zz_E.b2 210 195 (A := x3 < (s.1 51)) rfl rfl (by decide) rfl rfl (fun c => ?_) (fun c => ?_)
  · exact zz_E.weak (k1 c) rfl ⟨rfl, rfl, rfl, trivial⟩
  · exact zz_E.weak (k2 c) rfl ⟨rfl, rfl, rfl, rfl, trivial⟩
theorem mb_317_195 {X : Nat → Option zz_C} {h : zz_H} (hh : 111 ≤ h.length) {s : mS} {d : Nat} {Q : Option Value → zz_H → Prop} {x2 : Int32} {x3 : Int32} {x4 : Int32} (i204 : ¬ (x2 < 0 ∨ 400 ≤ Int32.toNatClampNeg x2)) (i205 : ¬ (((s.2.2.1 81) (Int32.toNatClampNeg x2)) < 0 ∨ 166300 ≤ Int32.toNatClampNeg ((s.2.2.1 81) (Int32.toNatClampNeg x2)))) (k1 : ¬ ((s.2.2.1 47) (Int32.toNatClampNeg ((s.2.2.1 81) (Int32.toNatClampNeg x2)))) = 2 → zz_E zp_P zt_tf zt_fd X d zm_317 214 [(0, .ref 61), (3, .int x3), (4, .int x4)] [] (mH h s) Q) (k2 : ¬ ¬ ((s.2.2.1 47) (Int32.toNatClampNeg ((s.2.2.1 81) (Int32.toNatClampNeg x2)))) = 2 → zz_E zp_P zt_tf zt_fd X d zm_317 210 [(0, .ref 61), (3, .int x3), (4, .int x4)] [] (mH h s) Q) : zz_E zp_P zt_tf zt_fd X d zm_317 195 [(0, .ref 61), (2, .int x2), (3, .int x3), (4, .int x4)] [] (mH h s) Q := by
  refine zz_E.n 196 rfl rfl rfl ?_
  refine mE_g hh 199 (v := .ref 89) rfl rfl rfl ?_
  refine zz_E.n 200 rfl rfl rfl ?_
  refine mE_g hh 203 (v := .ref 105) rfl rfl rfl ?_
  refine zz_E.n 204 rfl rfl rfl ?_
  refine mE_ia hh 205 44 (f := (s.2.2.1 81)) rfl (by decide) rfl rfl i204 rfl ?_
  refine mE_ia hh 206 28 (f := (s.2.2.1 47)) rfl (by decide) rfl rfl i205 rfl ?_
  refine zz_E.c 207 (.int 2) rfl rfl rfl rfl ?_
  refine zz_E.b2 214 210 (A := ¬ ((s.2.2.1 47) (Int32.toNatClampNeg ((s.2.2.1 81) (Int32.toNatClampNeg x2)))) = 2) rfl (zz_cond_ne _ _) (by decide) rfl rfl (fun c => ?_) (fun c => ?_)
  · exact zz_E.weak (k1 c) rfl ⟨rfl, rfl, rfl, trivial⟩
  · exact zz_E.weak (k2 c) rfl ⟨rfl, rfl, rfl, trivial⟩
theorem mb_317_210 {X : Nat → Option zz_C} {h : zz_H} (hh : 111 ≤ h.length) {s : mS} {d : Nat} {Q : Option Value → zz_H → Prop} {x3 : Int32} {x4 : Int32} (k : zz_E zp_P zt_tf zt_fd X d zm_317 215 [(0, .ref 61), (3, .int x3), (4, .int x4)] [.int 1] (mH h s) Q) : zz_E zp_P zt_tf zt_fd X d zm_317 210 [(0, .ref 61), (3, .int x3), (4, .int x4)] [] (mH h s) Q := by
  refine zz_E.c 211 (.int 1) rfl rfl rfl rfl ?_
  refine zz_E.n 215 rfl rfl rfl ?_
  exact zz_E.weak k rfl ⟨rfl, rfl, rfl, trivial⟩
theorem mb_317_214 {X : Nat → Option zz_C} {h : zz_H} (hh : 111 ≤ h.length) {s : mS} {d : Nat} {Q : Option Value → zz_H → Prop} {x3 : Int32} {x4 : Int32} (k : zz_E zp_P zt_tf zt_fd X d zm_317 215 [(0, .ref 61), (3, .int x3), (4, .int x4)] [.int 0] (mH h s) Q) : zz_E zp_P zt_tf zt_fd X d zm_317 214 [(0, .ref 61), (3, .int x3), (4, .int x4)] [] (mH h s) Q := by
  refine zz_E.c 215 (.int 0) rfl rfl rfl rfl ?_
  exact zz_E.weak k rfl ⟨rfl, rfl, rfl, trivial⟩
theorem mb_317_215 {X : Nat → Option zz_C} {h : zz_H} (hh : 111 ≤ h.length) {s : mS} {d : Nat} {Q : Option Value → zz_H → Prop} {x3 : Int32} {x4 : Int32} {y0 : Int32} (k : zz_E zp_P zt_tf zt_fd X d zm_317 220 [(0, .ref 61), (3, .int x3), (4, .int x4), (5, .int y0), (6, .int x3)] [] (mH h s) Q) : zz_E zp_P zt_tf zt_fd X d zm_317 215 [(0, .ref 61), (3, .int x3), (4, .int x4)] [.int y0] (mH h s) Q := by
  refine zz_E.n 217 rfl rfl rfl ?_
  refine zz_E.n 218 rfl rfl rfl ?_
  refine zz_E.n 220 rfl rfl rfl ?_
  exact zz_E.weak k rfl ⟨rfl, rfl, rfl, rfl, rfl, trivial⟩
theorem mb_317_220 {X : Nat → Option zz_C} {h : zz_H} (hh : 111 ≤ h.length) {s : mS} {d : Nat} {Q : Option Value → zz_H → Prop} {x3 : Int32} {x4 : Int32} {x5 : Int32} {x6 : Int32} (k1 : (s.1 51) ≤ x6 → zz_E zp_P zt_tf zt_fd X d zm_317 279 [(0, .ref 61), (3, .int x3), (4, .int x4), (5, .int x5)] [] (mH h s) Q) (k2 : ¬ (s.1 51) ≤ x6 → zz_E zp_P zt_tf zt_fd X d zm_317 229 [(0, .ref 61), (3, .int x3), (4, .int x4), (5, .int x5), (6, .int x6)] [] (mH h s) Q) : zz_E zp_P zt_tf zt_fd X d zm_317 220 [(0, .ref 61), (3, .int x3), (4, .int x4), (5, .int x5), (6, .int x6)] [] (mH h s) Q := by
  refine zz_E.n 222 rfl rfl rfl ?_
  refine zz_E.n 223 rfl rfl rfl ?_
  refine mE_g hh 226 (v := .int (s.1 51)) rfl rfl rfl ?_
  refine zz_E.b2 279 229 (A := (s.1 51) ≤ x6) rfl rfl (by decide) rfl rfl (fun c => ?_) (fun c => ?_)
  · exact zz_E.weak (k1 c) rfl ⟨rfl, rfl, rfl, rfl, trivial⟩
  · exact zz_E.weak (k2 c) rfl ⟨rfl, rfl, rfl, rfl, rfl, trivial⟩
theorem mb_317_229 {X : Nat → Option zz_C} {h : zz_H} (hh : 111 ≤ h.length) {s : mS} {d : Nat} {Q : Option Value → zz_H → Prop} {x3 : Int32} {x4 : Int32} {x5 : Int32} {x6 : Int32} (k1 : x4 = 0 → zz_E zp_P zt_tf zt_fd X d zm_317 248 [(0, .ref 61), (3, .int x3), (5, .int x5), (6, .int x6)] [] (mH h s) Q) (k2 : ¬ x4 = 0 → zz_E zp_P zt_tf zt_fd X d zm_317 234 [(0, .ref 61), (3, .int x3), (5, .int x5), (6, .int x6)] [] (mH h s) Q) : zz_E zp_P zt_tf zt_fd X d zm_317 229 [(0, .ref 61), (3, .int x3), (4, .int x4), (5, .int x5), (6, .int x6)] [] (mH h s) Q := by
  refine zz_E.n 231 rfl rfl rfl ?_
  refine zz_E.b1 248 234 (A := x4 = 0) rfl rfl (by decide) rfl rfl (fun c => ?_) (fun c => ?_)
  · exact zz_E.weak (k1 c) rfl ⟨rfl, rfl, rfl, rfl, trivial⟩
  · exact zz_E.weak (k2 c) rfl ⟨rfl, rfl, rfl, rfl, trivial⟩
theorem mb_317_234 {X : Nat → Option zz_C} {h : zz_H} (hh : 111 ≤ h.length) {s : mS} {d : Nat} {Q : Option Value → zz_H → Prop} {x3 : Int32} {x5 : Int32} {x6 : Int32} (i240 : ¬ (x6 < 0 ∨ 9000 ≤ Int32.toNatClampNeg x6)) (k1 : ¬ ((s.2.2.1 49) (Int32.toNatClampNeg x6)) = 0 → zz_E zp_P zt_tf zt_fd X d zm_317 248 [(0, .ref 61), (3, .int x3), (5, .int x5), (6, .int x6)] [] (mH h s) Q) (k2 : ¬ ¬ ((s.2.2.1 49) (Int32.toNatClampNeg x6)) = 0 → zz_E zp_P zt_tf zt_fd X d zm_317 244 [(0, .ref 61), (3, .int x3), (5, .int x5), (6, .int x6)] [] (mH h s) Q) : zz_E zp_P zt_tf zt_fd X d zm_317 234 [(0, .ref 61), (3, .int x3), (5, .int x5), (6, .int x6)] [] (mH h s) Q := by
  refine zz_E.n 235 rfl rfl rfl ?_
  refine mE_g hh 238 (v := .ref 90) rfl rfl rfl ?_
  refine zz_E.n 240 rfl rfl rfl ?_
  refine mE_ia hh 241 29 (f := (s.2.2.1 49)) rfl (by decide) rfl rfl i240 rfl ?_
  refine zz_E.b1 248 244 (A := ¬ ((s.2.2.1 49) (Int32.toNatClampNeg x6)) = 0) rfl (zz_cond_ne _ _) (by decide) rfl rfl (fun c => ?_) (fun c => ?_)
  · exact zz_E.weak (k1 c) rfl ⟨rfl, rfl, rfl, rfl, trivial⟩
  · exact zz_E.weak (k2 c) rfl ⟨rfl, rfl, rfl, rfl, trivial⟩
theorem mb_317_244 {X : Nat → Option zz_C} {h : zz_H} (hh : 111 ≤ h.length) {s : mS} {d : Nat} {Q : Option Value → zz_H → Prop} {x3 : Int32} {x5 : Int32} {x6 : Int32} (k : zz_E zp_P zt_tf zt_fd X d zm_317 249 [(0, .ref 61), (3, .int x3), (5, .int x5), (6, .int x6)] [.int 1] (mH h s) Q) : zz_E zp_P zt_tf zt_fd X d zm_317 244 [(0, .ref 61), (3, .int x3), (5, .int x5), (6, .int x6)] [] (mH h s) Q := by
  refine zz_E.c 245 (.int 1) rfl rfl rfl rfl ?_
  refine zz_E.n 249 rfl rfl rfl ?_
  exact zz_E.weak k rfl ⟨rfl, rfl, rfl, rfl, trivial⟩
theorem mb_317_248 {X : Nat → Option zz_C} {h : zz_H} (hh : 111 ≤ h.length) {s : mS} {d : Nat} {Q : Option Value → zz_H → Prop} {x3 : Int32} {x5 : Int32} {x6 : Int32} (k : zz_E zp_P zt_tf zt_fd X d zm_317 249 [(0, .ref 61), (3, .int x3), (5, .int x5), (6, .int x6)] [.int 0] (mH h s) Q) : zz_E zp_P zt_tf zt_fd X d zm_317 248 [(0, .ref 61), (3, .int x3), (5, .int x5), (6, .int x6)] [] (mH h s) Q := by
  refine zz_E.c 249 (.int 0) rfl rfl rfl rfl ?_
  exact zz_E.weak k rfl ⟨rfl, rfl, rfl, rfl, trivial⟩
theorem mb_317_249 {X : Nat → Option zz_C} {h : zz_H} (hh : 111 ≤ h.length) {s : mS} {d : Nat} {Q : Option Value → zz_H → Prop} {x3 : Int32} {x5 : Int32} {x6 : Int32} {y0 : Int32} (k1 : x5 = 0 → zz_E zp_P zt_tf zt_fd X d zm_317 270 [(0, .ref 61), (3, .int x3), (4, .int y0), (6, .int x6)] [] (mH h s) Q) (k2 : ¬ x5 = 0 → zz_E zp_P zt_tf zt_fd X d zm_317 256 [(0, .ref 61), (3, .int x3), (4, .int y0), (6, .int x6)] [] (mH h s) Q) : zz_E zp_P zt_tf zt_fd X d zm_317 249 [(0, .ref 61), (3, .int x3), (5, .int x5), (6, .int x6)] [.int y0] (mH h s) Q := by
  refine zz_E.n 251 rfl rfl rfl ?_
  refine zz_E.n 253 rfl rfl rfl ?_
  refine zz_E.b1 270 256 (A := x5 = 0) rfl rfl (by decide) rfl rfl (fun c => ?_) (fun c => ?_)
  · exact zz_E.weak (k1 c) rfl ⟨rfl, rfl, rfl, rfl, trivial⟩
  · exact zz_E.weak (k2 c) rfl ⟨rfl, rfl, rfl, rfl, trivial⟩
theorem mb_317_256 {X : Nat → Option zz_C} {h : zz_H} (hh : 111 ≤ h.length) {s : mS} {d : Nat} {Q : Option Value → zz_H → Prop} {x3 : Int32} {x4 : Int32} {x6 : Int32} (k : zz_E zp_P zt_tf zt_fd X d zm_292 0 [(0, .ref 61), (1, .int x6)] [] (mH h s) (fun v h' => zz_E zp_P zt_tf zt_fd X (d + 1) zm_317 262 [(0, .ref 61), (3, .int x3), (4, .int x4), (6, .int x6)] (v.toList ++ []) h' Q)) : zz_E zp_P zt_tf zt_fd X (d + 1) zm_317 256 [(0, .ref 61), (3, .int x3), (4, .int x4), (6, .int x6)] [] (mH h s) Q := by
  refine zz_E.n 257 rfl rfl rfl ?_
  refine zz_E.n 259 rfl rfl rfl ?_
  refine mE_cv hh 262 (as := []) rfl rfl (Nat.le_of_ble_eq_true rfl) (Nat.le_of_ble_eq_true rfl) rfl (Nat.le_of_ble_eq_true rfl) rfl ?_
  refine zz_E.mono k ?_
  intro v h' hE
  exact zz_E.weak hE rfl ⟨rfl, rfl, rfl, rfl, trivial⟩
theorem mb_317_262 {X : Nat → Option zz_C} {h : zz_H} (hh : 111 ≤ h.length) {s : mS} {d : Nat} {Q : Option Value → zz_H → Prop} {x3 : Int32} {x4 : Int32} {x6 : Int32} {y0 : Int32} (k1 : ¬ y0 = 1 → zz_E zp_P zt_tf zt_fd X d zm_317 270 [(0, .ref 61), (3, .int x3), (4, .int x4), (6, .int x6)] [] (mH h s) Q) (k2 : ¬ ¬ y0 = 1 → zz_E zp_P zt_tf zt_fd X d zm_317 266 [(0, .ref 61), (3, .int x3), (4, .int x4), (6, .int x6)] [] (mH h s) Q) : zz_E zp_P zt_tf zt_fd X d zm_317 262 [(0, .ref 61), (3, .int x3), (4, .int x4), (6, .int x6)] [.int y0] (mH h s) Q := by
  refine zz_E.c 263 (.int 1) rfl rfl rfl rfl ?_
  refine zz_E.b2 270 266 (A := ¬ y0 = 1) rfl (zz_cond_ne _ _) (by decide) rfl rfl (fun c => ?_) (fun c => ?_)
  · exact zz_E.weak (k1 c) rfl ⟨rfl, rfl, rfl, rfl, trivial⟩
  · exact zz_E.weak (k2 c) rfl ⟨rfl, rfl, rfl, rfl, trivial⟩
theorem mb_317_266 {X : Nat → Option zz_C} {h : zz_H} (hh : 111 ≤ h.length) {s : mS} {d : Nat} {Q : Option Value → zz_H → Prop} {x3 : Int32} {x4 : Int32} {x6 : Int32} (k : zz_E zp_P zt_tf zt_fd X d zm_317 271 [(0, .ref 61), (3, .int x3), (4, .int x4), (6, .int x6)] [.int 1] (mH h s) Q) : zz_E zp_P zt_tf zt_fd X d zm_317 266 [(0, .ref 61), (3, .int x3), (4, .int x4), (6, .int x6)] [] (mH h s) Q := by
  refine zz_E.c 267 (.int 1) rfl rfl rfl rfl ?_
  refine zz_E.n 271 rfl rfl rfl ?_
  exact zz_E.weak k rfl ⟨rfl, rfl, rfl, rfl, trivial⟩
theorem mb_317_270 {X : Nat → Option zz_C} {h : zz_H} (hh : 111 ≤ h.length) {s : mS} {d : Nat} {Q : Option Value → zz_H → Prop} {x3 : Int32} {x4 : Int32} {x6 : Int32} (k : zz_E zp_P zt_tf zt_fd X d zm_317 271 [(0, .ref 61), (3, .int x3), (4, .int x4), (6, .int x6)] [.int 0] (mH h s) Q) : zz_E zp_P zt_tf zt_fd X d zm_317 270 [(0, .ref 61), (3, .int x3), (4, .int x4), (6, .int x6)] [] (mH h s) Q := by
  refine zz_E.c 271 (.int 0) rfl rfl rfl rfl ?_
  exact zz_E.weak k rfl ⟨rfl, rfl, rfl, rfl, trivial⟩
theorem mb_317_271 {X : Nat → Option zz_C} {h : zz_H} (hh : 111 ≤ h.length) {s : mS} {d : Nat} {Q : Option Value → zz_H → Prop} {x3 : Int32} {x4 : Int32} {x6 : Int32} {y0 : Int32} (k : zz_E zp_P zt_tf zt_fd X d zm_317 220 [(0, .ref 61), (3, .int x3), (4, .int x4), (5, .int y0), (6, .int (x6 + 1))] [] (mH h s) Q) : zz_E zp_P zt_tf zt_fd X d zm_317 271 [(0, .ref 61), (3, .int x3), (4, .int x4), (6, .int x6)] [.int y0] (mH h s) Q := by
  refine zz_E.n 273 rfl rfl rfl ?_
  refine zz_E.n 276 rfl rfl rfl ?_
  refine zz_E.n 220 rfl rfl rfl ?_
  exact zz_E.weak k rfl ⟨rfl, rfl, rfl, rfl, rfl, trivial⟩
theorem mb_317_279 {X : Nat → Option zz_C} {h : zz_H} (hh : 111 ≤ h.length) {s : mS} {d : Nat} {Q : Option Value → zz_H → Prop} {x3 : Int32} {x4 : Int32} {x5 : Int32} (k1 : x4 = 0 → zz_E zp_P zt_tf zt_fd X d zm_317 293 [(0, .ref 61), (3, .int x3), (5, .int x5)] [] (mH h s) Q) (k2 : ¬ x4 = 0 → zz_E zp_P zt_tf zt_fd X d zm_317 284 [(0, .ref 61), (3, .int x3)] [] (mH h s) Q) : zz_E zp_P zt_tf zt_fd X d zm_317 279 [(0, .ref 61), (3, .int x3), (4, .int x4), (5, .int x5)] [] (mH h s) Q := by
  refine zz_E.n 281 rfl rfl rfl ?_
  refine zz_E.b1 293 284 (A := x4 = 0) rfl rfl (by decide) rfl rfl (fun c => ?_) (fun c => ?_)
  · exact zz_E.weak (k1 c) rfl ⟨rfl, rfl, rfl, trivial⟩
  · exact zz_E.weak (k2 c) rfl ⟨rfl, rfl, trivial⟩
theorem mb_317_284 {X : Nat → Option zz_C} {h : zz_H} (hh : 111 ≤ h.length) {s : mS} {d : Nat} {Q : Option Value → zz_H → Prop} {x3 : Int32} (k : zz_E zp_P zt_tf zt_fd X d zm_305 0 [(0, .ref 61), (1, .int 1), (2, .int x3)] [] (mH h s) (fun v h' => zz_E zp_P zt_tf zt_fd X (d + 1) zm_317 290 [] (v.toList ++ []) h' Q)) : zz_E zp_P zt_tf zt_fd X (d + 1) zm_317 284 [(0, .ref 61), (3, .int x3)] [] (mH h s) Q := by
  refine zz_E.n 285 rfl rfl rfl ?_
  refine zz_E.c 286 (.int 1) rfl rfl rfl rfl ?_
  refine zz_E.n 287 rfl rfl rfl ?_
  refine mE_cv hh 290 (as := []) rfl rfl (Nat.le_of_ble_eq_true rfl) (Nat.le_of_ble_eq_true rfl) rfl (Nat.le_of_ble_eq_true rfl) rfl ?_
  refine zz_E.mono k ?_
  intro v h' hE
  exact zz_E.weak hE rfl trivial
theorem mb_317_290 {X : Nat → Option zz_C} {h : zz_H} (hh : 111 ≤ h.length) {s : mS} {d : Nat} {Q : Option Value → zz_H → Prop}  (k : zz_E zp_P zt_tf zt_fd X d zm_317 316 [] [] (mH h s) Q) : zz_E zp_P zt_tf zt_fd X d zm_317 290 [] [] (mH h s) Q := by
  refine zz_E.n 316 rfl rfl rfl ?_
  exact zz_E.weak k rfl trivial
theorem mb_317_293 {X : Nat → Option zz_C} {h : zz_H} (hh : 111 ≤ h.length) {s : mS} {d : Nat} {Q : Option Value → zz_H → Prop} {x3 : Int32} {x5 : Int32} (k1 : x5 = 0 → zz_E zp_P zt_tf zt_fd X d zm_317 307 [(0, .ref 61)] [] (mH h s) Q) (k2 : ¬ x5 = 0 → zz_E zp_P zt_tf zt_fd X d zm_317 298 [(0, .ref 61), (3, .int x3)] [] (mH h s) Q) : zz_E zp_P zt_tf zt_fd X d zm_317 293 [(0, .ref 61), (3, .int x3), (5, .int x5)] [] (mH h s) Q := by
  refine zz_E.n 295 rfl rfl rfl ?_
  refine zz_E.b1 307 298 (A := x5 = 0) rfl rfl (by decide) rfl rfl (fun c => ?_) (fun c => ?_)
  · exact zz_E.weak (k1 c) rfl ⟨rfl, trivial⟩
  · exact zz_E.weak (k2 c) rfl ⟨rfl, rfl, trivial⟩
theorem mb_317_298 {X : Nat → Option zz_C} {h : zz_H} (hh : 111 ≤ h.length) {s : mS} {d : Nat} {Q : Option Value → zz_H → Prop} {x3 : Int32} (k : zz_E zp_P zt_tf zt_fd X d zm_305 0 [(0, .ref 61), (1, .int 2), (2, .int x3)] [] (mH h s) (fun v h' => zz_E zp_P zt_tf zt_fd X (d + 1) zm_317 304 [] (v.toList ++ []) h' Q)) : zz_E zp_P zt_tf zt_fd X (d + 1) zm_317 298 [(0, .ref 61), (3, .int x3)] [] (mH h s) Q := by
  refine zz_E.n 299 rfl rfl rfl ?_
  refine zz_E.c 300 (.int 2) rfl rfl rfl rfl ?_
  refine zz_E.n 301 rfl rfl rfl ?_
  refine mE_cv hh 304 (as := []) rfl rfl (Nat.le_of_ble_eq_true rfl) (Nat.le_of_ble_eq_true rfl) rfl (Nat.le_of_ble_eq_true rfl) rfl ?_
  refine zz_E.mono k ?_
  intro v h' hE
  exact zz_E.weak hE rfl trivial
theorem mb_317_304 {X : Nat → Option zz_C} {h : zz_H} (hh : 111 ≤ h.length) {s : mS} {d : Nat} {Q : Option Value → zz_H → Prop}  (k : zz_E zp_P zt_tf zt_fd X d zm_317 316 [] [] (mH h s) Q) : zz_E zp_P zt_tf zt_fd X d zm_317 304 [] [] (mH h s) Q := by
  refine zz_E.n 316 rfl rfl rfl ?_
  exact zz_E.weak k rfl trivial
theorem mb_317_307 {X : Nat → Option zz_C} {h : zz_H} (hh : 111 ≤ h.length) {s : mS} {d : Nat} {Q : Option Value → zz_H → Prop}  (k : zz_E zp_P zt_tf zt_fd X d zm_301 0 [(0, .ref 61), (1, .int 3), (2, .int (s.1 70))] [] (mH h s) (fun v h' => zz_E zp_P zt_tf zt_fd X (d + 1) zm_317 316 [] (v.toList ++ []) h' Q)) : zz_E zp_P zt_tf zt_fd X (d + 1) zm_317 307 [(0, .ref 61)] [] (mH h s) Q := by
  refine zz_E.n 308 rfl rfl rfl ?_
  refine zz_E.c 309 (.int 3) rfl rfl rfl rfl ?_
  refine zz_E.n 310 rfl rfl rfl ?_
  refine mE_g hh 313 (v := .int (s.1 70)) rfl rfl rfl ?_
  refine mE_cv hh 316 (as := []) rfl rfl (Nat.le_of_ble_eq_true rfl) (Nat.le_of_ble_eq_true rfl) rfl (Nat.le_of_ble_eq_true rfl) rfl ?_
  refine zz_E.mono k ?_
  intro v h' hE
  exact zz_E.weak hE rfl trivial
theorem mb_317_316 {X : Nat → Option zz_C} {h : zz_H} (hh : 111 ≤ h.length) {s : mS} {d : Nat} {Q : Option Value → zz_H → Prop}  (k : Q none (mH h s)) : zz_E zp_P zt_tf zt_fd X d zm_317 316 [] [] (mH h s) Q := by
  refine zz_E.ret rfl rfl rfl ?_
  exact k
def mf_317_316 (N : Nat)  (s : mS) : mO := some (s, none)
theorem mr_317_316 {X : Nat → Option zz_C} {h : zz_H} (hh : 111 ≤ h.length) {d : Nat} {N : Nat} {Q : Option Value → zz_H → Prop}  {s s' : mS} {v : Option Value} (hf : mf_317_316 N  s = some (s', v)) (k : Q v (mH h s')) : zz_E zp_P zt_tf zt_fd X (d + 4) zm_317 316 [] [] (mH h s) Q := by
  unfold mf_317_316 at hf
  cases hf
  exact mb_317_316 hh  k
def mf_317_307 (N : Nat)  (s : mS) : mO := mo_bv (mf_301 N 3 (s.1 70) s) (fun s1 => mf_317_316 N  s1)
theorem mr_317_307 {X : Nat → Option zz_C} {h : zz_H} (hh : 111 ≤ h.length) {d : Nat} {N : Nat} {Q : Option Value → zz_H → Prop}  {s s' : mS} {v : Option Value} (hf : mf_317_307 N  s = some (s', v)) (k : Q v (mH h s')) : zz_E zp_P zt_tf zt_fd X (d + 4) zm_317 307 [(0, .ref 61)] [] (mH h s) Q := by
  unfold mf_317_307 at hf
  obtain ⟨s1, e, hf⟩ := mo_bv_ok hf
  exact mb_317_307 (d := d + 3) hh  (mr_301 (d := d + 3) hh e (mr_317_316 hh hf k))
def mf_317_304 (N : Nat)  (s : mS) : mO := mf_317_316 N  s
theorem mr_317_304 {X : Nat → Option zz_C} {h : zz_H} (hh : 111 ≤ h.length) {d : Nat} {N : Nat} {Q : Option Value → zz_H → Prop}  {s s' : mS} {v : Option Value} (hf : mf_317_304 N  s = some (s', v)) (k : Q v (mH h s')) : zz_E zp_P zt_tf zt_fd X (d + 4) zm_317 304 [] [] (mH h s) Q := by
  unfold mf_317_304 at hf
  exact mb_317_304 hh  (mr_317_316 hh hf k)
def mf_317_298 (N : Nat) (x3 : Int32) (s : mS) : mO := mo_bv (mf_305 N 2 x3 s) (fun s1 => mf_317_304 N  s1)
theorem mr_317_298 {X : Nat → Option zz_C} {h : zz_H} (hh : 111 ≤ h.length) {d : Nat} {N : Nat} {Q : Option Value → zz_H → Prop} {x3 : Int32} {s s' : mS} {v : Option Value} (hf : mf_317_298 N x3 s = some (s', v)) (k : Q v (mH h s')) : zz_E zp_P zt_tf zt_fd X (d + 4) zm_317 298 [(0, .ref 61), (3, .int x3)] [] (mH h s) Q := by
  unfold mf_317_298 at hf
  obtain ⟨s1, e, hf⟩ := mo_bv_ok hf
  exact mb_317_298 (d := d + 3) hh  (mr_305 (d := d + 0) hh e (mr_317_304 hh hf k))
def mf_317_293 (N : Nat) (x3 : Int32) (x5 : Int32) (s : mS) : mO := if x5 = 0 then mf_317_307 N  s else mf_317_298 N x3 s
theorem mr_317_293 {X : Nat → Option zz_C} {h : zz_H} (hh : 111 ≤ h.length) {d : Nat} {N : Nat} {Q : Option Value → zz_H → Prop} {x3 : Int32} {x5 : Int32} {s s' : mS} {v : Option Value} (hf : mf_317_293 N x3 x5 s = some (s', v)) (k : Q v (mH h s')) : zz_E zp_P zt_tf zt_fd X (d + 4) zm_317 293 [(0, .ref 61), (3, .int x3), (5, .int x5)] [] (mH h s) Q := by
  unfold mf_317_293 at hf
  refine mb_317_293 hh  (fun c => ?_) (fun c => ?_)
  · rw [if_pos c] at hf
    exact mr_317_307 hh hf k
  · rw [if_neg c] at hf
    exact mr_317_298 hh hf k
def mf_317_290 (N : Nat)  (s : mS) : mO := mf_317_316 N  s
theorem mr_317_290 {X : Nat → Option zz_C} {h : zz_H} (hh : 111 ≤ h.length) {d : Nat} {N : Nat} {Q : Option Value → zz_H → Prop}  {s s' : mS} {v : Option Value} (hf : mf_317_290 N  s = some (s', v)) (k : Q v (mH h s')) : zz_E zp_P zt_tf zt_fd X (d + 4) zm_317 290 [] [] (mH h s) Q := by
  unfold mf_317_290 at hf
  exact mb_317_290 hh  (mr_317_316 hh hf k)
def mf_317_284 (N : Nat) (x3 : Int32) (s : mS) : mO := mo_bv (mf_305 N 1 x3 s) (fun s1 => mf_317_290 N  s1)
theorem mr_317_284 {X : Nat → Option zz_C} {h : zz_H} (hh : 111 ≤ h.length) {d : Nat} {N : Nat} {Q : Option Value → zz_H → Prop} {x3 : Int32} {s s' : mS} {v : Option Value} (hf : mf_317_284 N x3 s = some (s', v)) (k : Q v (mH h s')) : zz_E zp_P zt_tf zt_fd X (d + 4) zm_317 284 [(0, .ref 61), (3, .int x3)] [] (mH h s) Q := by
  unfold mf_317_284 at hf
  obtain ⟨s1, e, hf⟩ := mo_bv_ok hf
  exact mb_317_284 (d := d + 3) hh  (mr_305 (d := d + 0) hh e (mr_317_290 hh hf k))
def mf_317_279 (N : Nat) (x3 : Int32) (x4 : Int32) (x5 : Int32) (s : mS) : mO := if x4 = 0 then mf_317_293 N x3 x5 s else mf_317_284 N x3 s
theorem mr_317_279 {X : Nat → Option zz_C} {h : zz_H} (hh : 111 ≤ h.length) {d : Nat} {N : Nat} {Q : Option Value → zz_H → Prop} {x3 : Int32} {x4 : Int32} {x5 : Int32} {s s' : mS} {v : Option Value} (hf : mf_317_279 N x3 x4 x5 s = some (s', v)) (k : Q v (mH h s')) : zz_E zp_P zt_tf zt_fd X (d + 4) zm_317 279 [(0, .ref 61), (3, .int x3), (4, .int x4), (5, .int x5)] [] (mH h s) Q := by
  unfold mf_317_279 at hf
  refine mb_317_279 hh  (fun c => ?_) (fun c => ?_)
  · rw [if_pos c] at hf
    exact mr_317_293 hh hf k
  · rw [if_neg c] at hf
    exact mr_317_284 hh hf k
def mf_317_271 (N : Nat) (rc : Nat → Int32 → Int32 → Int32 → Int32 → mS → mO) (x3 : Int32) (x4 : Int32) (x6 : Int32) (y0 : Int32) (s : mS) : mO := rc 0 x3 x4 y0 (x6 + 1) s
theorem mr_317_271 {X : Nat → Option zz_C} {h : zz_H} (hh : 111 ≤ h.length) {d : Nat} {N : Nat} {rc : Nat → Int32 → Int32 → Int32 → Int32 → mS → mO} (hrc0 : ∀ {Q : Option Value → zz_H → Prop} {x3 : Int32} {x4 : Int32} {x5 : Int32} {x6 : Int32} {s s' : mS} {v : Option Value}, rc 0 x3 x4 x5 x6 s = some (s', v) → Q v (mH h s') → zz_E zp_P zt_tf zt_fd X (d + 4) zm_317 220 [(0, .ref 61), (3, .int x3), (4, .int x4), (5, .int x5), (6, .int x6)] [] (mH h s) Q) {Q : Option Value → zz_H → Prop} {x3 : Int32} {x4 : Int32} {x6 : Int32} {y0 : Int32} {s s' : mS} {v : Option Value} (hf : mf_317_271 N rc x3 x4 x6 y0 s = some (s', v)) (k : Q v (mH h s')) : zz_E zp_P zt_tf zt_fd X (d + 4) zm_317 271 [(0, .ref 61), (3, .int x3), (4, .int x4), (6, .int x6)] [.int y0] (mH h s) Q := by
  unfold mf_317_271 at hf
  exact mb_317_271 hh  (hrc0 hf k)
def mf_317_270 (N : Nat) (rc : Nat → Int32 → Int32 → Int32 → Int32 → mS → mO) (x3 : Int32) (x4 : Int32) (x6 : Int32) (s : mS) : mO := mf_317_271 N rc x3 x4 x6 0 s
theorem mr_317_270 {X : Nat → Option zz_C} {h : zz_H} (hh : 111 ≤ h.length) {d : Nat} {N : Nat} {rc : Nat → Int32 → Int32 → Int32 → Int32 → mS → mO} (hrc0 : ∀ {Q : Option Value → zz_H → Prop} {x3 : Int32} {x4 : Int32} {x5 : Int32} {x6 : Int32} {s s' : mS} {v : Option Value}, rc 0 x3 x4 x5 x6 s = some (s', v) → Q v (mH h s') → zz_E zp_P zt_tf zt_fd X (d + 4) zm_317 220 [(0, .ref 61), (3, .int x3), (4, .int x4), (5, .int x5), (6, .int x6)] [] (mH h s) Q) {Q : Option Value → zz_H → Prop} {x3 : Int32} {x4 : Int32} {x6 : Int32} {s s' : mS} {v : Option Value} (hf : mf_317_270 N rc x3 x4 x6 s = some (s', v)) (k : Q v (mH h s')) : zz_E zp_P zt_tf zt_fd X (d + 4) zm_317 270 [(0, .ref 61), (3, .int x3), (4, .int x4), (6, .int x6)] [] (mH h s) Q := by
  unfold mf_317_270 at hf
  exact mb_317_270 hh  (mr_317_271 hh hrc0 hf k)
def mf_317_266 (N : Nat) (rc : Nat → Int32 → Int32 → Int32 → Int32 → mS → mO) (x3 : Int32) (x4 : Int32) (x6 : Int32) (s : mS) : mO := mf_317_271 N rc x3 x4 x6 1 s
theorem mr_317_266 {X : Nat → Option zz_C} {h : zz_H} (hh : 111 ≤ h.length) {d : Nat} {N : Nat} {rc : Nat → Int32 → Int32 → Int32 → Int32 → mS → mO} (hrc0 : ∀ {Q : Option Value → zz_H → Prop} {x3 : Int32} {x4 : Int32} {x5 : Int32} {x6 : Int32} {s s' : mS} {v : Option Value}, rc 0 x3 x4 x5 x6 s = some (s', v) → Q v (mH h s') → zz_E zp_P zt_tf zt_fd X (d + 4) zm_317 220 [(0, .ref 61), (3, .int x3), (4, .int x4), (5, .int x5), (6, .int x6)] [] (mH h s) Q) {Q : Option Value → zz_H → Prop} {x3 : Int32} {x4 : Int32} {x6 : Int32} {s s' : mS} {v : Option Value} (hf : mf_317_266 N rc x3 x4 x6 s = some (s', v)) (k : Q v (mH h s')) : zz_E zp_P zt_tf zt_fd X (d + 4) zm_317 266 [(0, .ref 61), (3, .int x3), (4, .int x4), (6, .int x6)] [] (mH h s) Q := by
  unfold mf_317_266 at hf
  exact mb_317_266 hh  (mr_317_271 hh hrc0 hf k)
def mf_317_262 (N : Nat) (rc : Nat → Int32 → Int32 → Int32 → Int32 → mS → mO) (x3 : Int32) (x4 : Int32) (x6 : Int32) (y0 : Int32) (s : mS) : mO := if ¬ y0 = 1 then mf_317_270 N rc x3 x4 x6 s else mf_317_266 N rc x3 x4 x6 s
theorem mr_317_262 {X : Nat → Option zz_C} {h : zz_H} (hh : 111 ≤ h.length) {d : Nat} {N : Nat} {rc : Nat → Int32 → Int32 → Int32 → Int32 → mS → mO} (hrc0 : ∀ {Q : Option Value → zz_H → Prop} {x3 : Int32} {x4 : Int32} {x5 : Int32} {x6 : Int32} {s s' : mS} {v : Option Value}, rc 0 x3 x4 x5 x6 s = some (s', v) → Q v (mH h s') → zz_E zp_P zt_tf zt_fd X (d + 4) zm_317 220 [(0, .ref 61), (3, .int x3), (4, .int x4), (5, .int x5), (6, .int x6)] [] (mH h s) Q) {Q : Option Value → zz_H → Prop} {x3 : Int32} {x4 : Int32} {x6 : Int32} {y0 : Int32} {s s' : mS} {v : Option Value} (hf : mf_317_262 N rc x3 x4 x6 y0 s = some (s', v)) (k : Q v (mH h s')) : zz_E zp_P zt_tf zt_fd X (d + 4) zm_317 262 [(0, .ref 61), (3, .int x3), (4, .int x4), (6, .int x6)] [.int y0] (mH h s) Q := by
  unfold mf_317_262 at hf
  refine mb_317_262 hh  (fun c => ?_) (fun c => ?_)
  · rw [if_pos c] at hf
    exact mr_317_270 hh hrc0 hf k
  · rw [if_neg c] at hf
    exact mr_317_266 hh hrc0 hf k
def mf_317_256 (N : Nat) (rc : Nat → Int32 → Int32 → Int32 → Int32 → mS → mO) (x3 : Int32) (x4 : Int32) (x6 : Int32) (s : mS) : mO := mo_bi (mf_292 N x6 s) (fun s1 y => mf_317_262 N rc x3 x4 x6 y s1)
theorem mr_317_256 {X : Nat → Option zz_C} {h : zz_H} (hh : 111 ≤ h.length) {d : Nat} {N : Nat} {rc : Nat → Int32 → Int32 → Int32 → Int32 → mS → mO} (hrc0 : ∀ {Q : Option Value → zz_H → Prop} {x3 : Int32} {x4 : Int32} {x5 : Int32} {x6 : Int32} {s s' : mS} {v : Option Value}, rc 0 x3 x4 x5 x6 s = some (s', v) → Q v (mH h s') → zz_E zp_P zt_tf zt_fd X (d + 4) zm_317 220 [(0, .ref 61), (3, .int x3), (4, .int x4), (5, .int x5), (6, .int x6)] [] (mH h s) Q) {Q : Option Value → zz_H → Prop} {x3 : Int32} {x4 : Int32} {x6 : Int32} {s s' : mS} {v : Option Value} (hf : mf_317_256 N rc x3 x4 x6 s = some (s', v)) (k : Q v (mH h s')) : zz_E zp_P zt_tf zt_fd X (d + 4) zm_317 256 [(0, .ref 61), (3, .int x3), (4, .int x4), (6, .int x6)] [] (mH h s) Q := by
  unfold mf_317_256 at hf
  obtain ⟨s1, y, e, hf⟩ := mo_bi_ok hf
  exact mb_317_256 (d := d + 3) hh  (mr_292 (d := d + 3) hh e (mr_317_262 hh hrc0 hf k))
def mf_317_249 (N : Nat) (rc : Nat → Int32 → Int32 → Int32 → Int32 → mS → mO) (x3 : Int32) (x5 : Int32) (x6 : Int32) (y0 : Int32) (s : mS) : mO := if x5 = 0 then mf_317_270 N rc x3 y0 x6 s else mf_317_256 N rc x3 y0 x6 s
theorem mr_317_249 {X : Nat → Option zz_C} {h : zz_H} (hh : 111 ≤ h.length) {d : Nat} {N : Nat} {rc : Nat → Int32 → Int32 → Int32 → Int32 → mS → mO} (hrc0 : ∀ {Q : Option Value → zz_H → Prop} {x3 : Int32} {x4 : Int32} {x5 : Int32} {x6 : Int32} {s s' : mS} {v : Option Value}, rc 0 x3 x4 x5 x6 s = some (s', v) → Q v (mH h s') → zz_E zp_P zt_tf zt_fd X (d + 4) zm_317 220 [(0, .ref 61), (3, .int x3), (4, .int x4), (5, .int x5), (6, .int x6)] [] (mH h s) Q) {Q : Option Value → zz_H → Prop} {x3 : Int32} {x5 : Int32} {x6 : Int32} {y0 : Int32} {s s' : mS} {v : Option Value} (hf : mf_317_249 N rc x3 x5 x6 y0 s = some (s', v)) (k : Q v (mH h s')) : zz_E zp_P zt_tf zt_fd X (d + 4) zm_317 249 [(0, .ref 61), (3, .int x3), (5, .int x5), (6, .int x6)] [.int y0] (mH h s) Q := by
  unfold mf_317_249 at hf
  refine mb_317_249 hh  (fun c => ?_) (fun c => ?_)
  · rw [if_pos c] at hf
    exact mr_317_270 hh hrc0 hf k
  · rw [if_neg c] at hf
    exact mr_317_256 hh hrc0 hf k
def mf_317_244 (N : Nat) (rc : Nat → Int32 → Int32 → Int32 → Int32 → mS → mO) (x3 : Int32) (x5 : Int32) (x6 : Int32) (s : mS) : mO := mf_317_249 N rc x3 x5 x6 1 s
theorem mr_317_244 {X : Nat → Option zz_C} {h : zz_H} (hh : 111 ≤ h.length) {d : Nat} {N : Nat} {rc : Nat → Int32 → Int32 → Int32 → Int32 → mS → mO} (hrc0 : ∀ {Q : Option Value → zz_H → Prop} {x3 : Int32} {x4 : Int32} {x5 : Int32} {x6 : Int32} {s s' : mS} {v : Option Value}, rc 0 x3 x4 x5 x6 s = some (s', v) → Q v (mH h s') → zz_E zp_P zt_tf zt_fd X (d + 4) zm_317 220 [(0, .ref 61), (3, .int x3), (4, .int x4), (5, .int x5), (6, .int x6)] [] (mH h s) Q) {Q : Option Value → zz_H → Prop} {x3 : Int32} {x5 : Int32} {x6 : Int32} {s s' : mS} {v : Option Value} (hf : mf_317_244 N rc x3 x5 x6 s = some (s', v)) (k : Q v (mH h s')) : zz_E zp_P zt_tf zt_fd X (d + 4) zm_317 244 [(0, .ref 61), (3, .int x3), (5, .int x5), (6, .int x6)] [] (mH h s) Q := by
  unfold mf_317_244 at hf
  exact mb_317_244 hh  (mr_317_249 hh hrc0 hf k)
def mf_317_248 (N : Nat) (rc : Nat → Int32 → Int32 → Int32 → Int32 → mS → mO) (x3 : Int32) (x5 : Int32) (x6 : Int32) (s : mS) : mO := mf_317_249 N rc x3 x5 x6 0 s
theorem mr_317_248 {X : Nat → Option zz_C} {h : zz_H} (hh : 111 ≤ h.length) {d : Nat} {N : Nat} {rc : Nat → Int32 → Int32 → Int32 → Int32 → mS → mO} (hrc0 : ∀ {Q : Option Value → zz_H → Prop} {x3 : Int32} {x4 : Int32} {x5 : Int32} {x6 : Int32} {s s' : mS} {v : Option Value}, rc 0 x3 x4 x5 x6 s = some (s', v) → Q v (mH h s') → zz_E zp_P zt_tf zt_fd X (d + 4) zm_317 220 [(0, .ref 61), (3, .int x3), (4, .int x4), (5, .int x5), (6, .int x6)] [] (mH h s) Q) {Q : Option Value → zz_H → Prop} {x3 : Int32} {x5 : Int32} {x6 : Int32} {s s' : mS} {v : Option Value} (hf : mf_317_248 N rc x3 x5 x6 s = some (s', v)) (k : Q v (mH h s')) : zz_E zp_P zt_tf zt_fd X (d + 4) zm_317 248 [(0, .ref 61), (3, .int x3), (5, .int x5), (6, .int x6)] [] (mH h s) Q := by
  unfold mf_317_248 at hf
  exact mb_317_248 hh  (mr_317_249 hh hrc0 hf k)
def mf_317_234 (N : Nat) (rc : Nat → Int32 → Int32 → Int32 → Int32 → mS → mO) (x3 : Int32) (x5 : Int32) (x6 : Int32) (s : mS) : mO := if ¬ (x6 < 0 ∨ 9000 ≤ Int32.toNatClampNeg x6) then (if ¬ ((s.2.2.1 49) (Int32.toNatClampNeg x6)) = 0 then mf_317_248 N rc x3 x5 x6 s else mf_317_244 N rc x3 x5 x6 s) else none
theorem mr_317_234 {X : Nat → Option zz_C} {h : zz_H} (hh : 111 ≤ h.length) {d : Nat} {N : Nat} {rc : Nat → Int32 → Int32 → Int32 → Int32 → mS → mO} (hrc0 : ∀ {Q : Option Value → zz_H → Prop} {x3 : Int32} {x4 : Int32} {x5 : Int32} {x6 : Int32} {s s' : mS} {v : Option Value}, rc 0 x3 x4 x5 x6 s = some (s', v) → Q v (mH h s') → zz_E zp_P zt_tf zt_fd X (d + 4) zm_317 220 [(0, .ref 61), (3, .int x3), (4, .int x4), (5, .int x5), (6, .int x6)] [] (mH h s) Q) {Q : Option Value → zz_H → Prop} {x3 : Int32} {x5 : Int32} {x6 : Int32} {s s' : mS} {v : Option Value} (hf : mf_317_234 N rc x3 x5 x6 s = some (s', v)) (k : Q v (mH h s')) : zz_E zp_P zt_tf zt_fd X (d + 4) zm_317 234 [(0, .ref 61), (3, .int x3), (5, .int x5), (6, .int x6)] [] (mH h s) Q := by
  unfold mf_317_234 at hf
  obtain ⟨q0, hf⟩ := mo_if hf
  refine mb_317_234 hh q0 (fun c => ?_) (fun c => ?_)
  · rw [if_pos c] at hf
    exact mr_317_248 hh hrc0 hf k
  · rw [if_neg c] at hf
    exact mr_317_244 hh hrc0 hf k
def mf_317_229 (N : Nat) (rc : Nat → Int32 → Int32 → Int32 → Int32 → mS → mO) (x3 : Int32) (x4 : Int32) (x5 : Int32) (x6 : Int32) (s : mS) : mO := if x4 = 0 then mf_317_248 N rc x3 x5 x6 s else mf_317_234 N rc x3 x5 x6 s
theorem mr_317_229 {X : Nat → Option zz_C} {h : zz_H} (hh : 111 ≤ h.length) {d : Nat} {N : Nat} {rc : Nat → Int32 → Int32 → Int32 → Int32 → mS → mO} (hrc0 : ∀ {Q : Option Value → zz_H → Prop} {x3 : Int32} {x4 : Int32} {x5 : Int32} {x6 : Int32} {s s' : mS} {v : Option Value}, rc 0 x3 x4 x5 x6 s = some (s', v) → Q v (mH h s') → zz_E zp_P zt_tf zt_fd X (d + 4) zm_317 220 [(0, .ref 61), (3, .int x3), (4, .int x4), (5, .int x5), (6, .int x6)] [] (mH h s) Q) {Q : Option Value → zz_H → Prop} {x3 : Int32} {x4 : Int32} {x5 : Int32} {x6 : Int32} {s s' : mS} {v : Option Value} (hf : mf_317_229 N rc x3 x4 x5 x6 s = some (s', v)) (k : Q v (mH h s')) : zz_E zp_P zt_tf zt_fd X (d + 4) zm_317 229 [(0, .ref 61), (3, .int x3), (4, .int x4), (5, .int x5), (6, .int x6)] [] (mH h s) Q := by
  unfold mf_317_229 at hf
  refine mb_317_229 hh  (fun c => ?_) (fun c => ?_)
  · rw [if_pos c] at hf
    exact mr_317_248 hh hrc0 hf k
  · rw [if_neg c] at hf
    exact mr_317_234 hh hrc0 hf k
def mf_317_220 (N : Nat) (rc : Nat → Int32 → Int32 → Int32 → Int32 → mS → mO) (x3 : Int32) (x4 : Int32) (x5 : Int32) (x6 : Int32) (s : mS) : mO := if (s.1 51) ≤ x6 then mf_317_279 N x3 x4 x5 s else mf_317_229 N rc x3 x4 x5 x6 s
theorem mr_317_220 {X : Nat → Option zz_C} {h : zz_H} (hh : 111 ≤ h.length) {d : Nat} {N : Nat} {rc : Nat → Int32 → Int32 → Int32 → Int32 → mS → mO} (hrc0 : ∀ {Q : Option Value → zz_H → Prop} {x3 : Int32} {x4 : Int32} {x5 : Int32} {x6 : Int32} {s s' : mS} {v : Option Value}, rc 0 x3 x4 x5 x6 s = some (s', v) → Q v (mH h s') → zz_E zp_P zt_tf zt_fd X (d + 4) zm_317 220 [(0, .ref 61), (3, .int x3), (4, .int x4), (5, .int x5), (6, .int x6)] [] (mH h s) Q) {Q : Option Value → zz_H → Prop} {x3 : Int32} {x4 : Int32} {x5 : Int32} {x6 : Int32} {s s' : mS} {v : Option Value} (hf : mf_317_220 N rc x3 x4 x5 x6 s = some (s', v)) (k : Q v (mH h s')) : zz_E zp_P zt_tf zt_fd X (d + 4) zm_317 220 [(0, .ref 61), (3, .int x3), (4, .int x4), (5, .int x5), (6, .int x6)] [] (mH h s) Q := by
  unfold mf_317_220 at hf
  refine mb_317_220 hh  (fun c => ?_) (fun c => ?_)
  · rw [if_pos c] at hf
    exact mr_317_279 hh hf k
  · rw [if_neg c] at hf
    exact mr_317_229 hh hrc0 hf k
def mf_317_L8 (N : Nat) : Nat → Nat → Int32 → Int32 → Int32 → Int32 → mS → mO
  | 0, _, _, _, _, _, _ => none
  | n + 1, l, x3, x4, x5, x6, s => if l = 0 then mf_317_220 N (mf_317_L8 N n) x3 x4 x5 x6 s else none
theorem mr_317_L8 {X : Nat → Option zz_C} {h : zz_H} (hh : 111 ≤ h.length) {d : Nat} {N : Nat} : ∀ n : Nat, (∀ {Q : Option Value → zz_H → Prop} {x3 : Int32} {x4 : Int32} {x5 : Int32} {x6 : Int32} {s s' : mS} {v : Option Value}, mf_317_L8 N n 0 x3 x4 x5 x6 s = some (s', v) → Q v (mH h s') → zz_E zp_P zt_tf zt_fd X (d + 4) zm_317 220 [(0, .ref 61), (3, .int x3), (4, .int x4), (5, .int x5), (6, .int x6)] [] (mH h s) Q) := by
  intro n
  induction n with
  | zero => exact (fun hf _ => by cases hf)
  | succ n ih =>
    have h0 := @ih
    intro Q _ _ _ _ s s' v hf k
    unfold mf_317_L8 at hf
    rw [if_pos rfl] at hf
    exact mr_317_220 hh h0 hf k
def mf_317_215 (N : Nat) (x3 : Int32) (x4 : Int32) (y0 : Int32) (s : mS) : mO := mf_317_L8 N N 0 x3 x4 y0 x3 s
theorem mr_317_215 {X : Nat → Option zz_C} {h : zz_H} (hh : 111 ≤ h.length) {d : Nat} {N : Nat} {Q : Option Value → zz_H → Prop} {x3 : Int32} {x4 : Int32} {y0 : Int32} {s s' : mS} {v : Option Value} (hf : mf_317_215 N x3 x4 y0 s = some (s', v)) (k : Q v (mH h s')) : zz_E zp_P zt_tf zt_fd X (d + 4) zm_317 215 [(0, .ref 61), (3, .int x3), (4, .int x4)] [.int y0] (mH h s) Q := by
  unfold mf_317_215 at hf
  exact mb_317_215 hh  (mr_317_L8 hh N hf k)
def mf_317_210 (N : Nat) (x3 : Int32) (x4 : Int32) (s : mS) : mO := mf_317_215 N x3 x4 1 s
theorem mr_317_210 {X : Nat → Option zz_C} {h : zz_H} (hh : 111 ≤ h.length) {d : Nat} {N : Nat} {Q : Option Value → zz_H → Prop} {x3 : Int32} {x4 : Int32} {s s' : mS} {v : Option Value} (hf : mf_317_210 N x3 x4 s = some (s', v)) (k : Q v (mH h s')) : zz_E zp_P zt_tf zt_fd X (d + 4) zm_317 210 [(0, .ref 61), (3, .int x3), (4, .int x4)] [] (mH h s) Q := by
  unfold mf_317_210 at hf
  exact mb_317_210 hh  (mr_317_215 hh hf k)
def mf_317_214 (N : Nat) (x3 : Int32) (x4 : Int32) (s : mS) : mO := mf_317_215 N x3 x4 0 s
theorem mr_317_214 {X : Nat → Option zz_C} {h : zz_H} (hh : 111 ≤ h.length) {d : Nat} {N : Nat} {Q : Option Value → zz_H → Prop} {x3 : Int32} {x4 : Int32} {s s' : mS} {v : Option Value} (hf : mf_317_214 N x3 x4 s = some (s', v)) (k : Q v (mH h s')) : zz_E zp_P zt_tf zt_fd X (d + 4) zm_317 214 [(0, .ref 61), (3, .int x3), (4, .int x4)] [] (mH h s) Q := by
  unfold mf_317_214 at hf
  exact mb_317_214 hh  (mr_317_215 hh hf k)
def mf_317_195 (N : Nat) (x2 : Int32) (x3 : Int32) (x4 : Int32) (s : mS) : mO := if ¬ (x2 < 0 ∨ 400 ≤ Int32.toNatClampNeg x2) then (if ¬ (((s.2.2.1 81) (Int32.toNatClampNeg x2)) < 0 ∨ 166300 ≤ Int32.toNatClampNeg ((s.2.2.1 81) (Int32.toNatClampNeg x2))) then (if ¬ ((s.2.2.1 47) (Int32.toNatClampNeg ((s.2.2.1 81) (Int32.toNatClampNeg x2)))) = 2 then mf_317_214 N x3 x4 s else mf_317_210 N x3 x4 s) else none) else none
theorem mr_317_195 {X : Nat → Option zz_C} {h : zz_H} (hh : 111 ≤ h.length) {d : Nat} {N : Nat} {Q : Option Value → zz_H → Prop} {x2 : Int32} {x3 : Int32} {x4 : Int32} {s s' : mS} {v : Option Value} (hf : mf_317_195 N x2 x3 x4 s = some (s', v)) (k : Q v (mH h s')) : zz_E zp_P zt_tf zt_fd X (d + 4) zm_317 195 [(0, .ref 61), (2, .int x2), (3, .int x3), (4, .int x4)] [] (mH h s) Q := by
  unfold mf_317_195 at hf
  obtain ⟨q0, hf⟩ := mo_if hf
  obtain ⟨q1, hf⟩ := mo_if hf
  refine mb_317_195 hh q0 q1 (fun c => ?_) (fun c => ?_)
  · rw [if_pos c] at hf
    exact mr_317_214 hh hf k
  · rw [if_neg c] at hf
    exact mr_317_210 hh hf k
def mf_317_185 (N : Nat) (x2 : Int32) (x3 : Int32) (y0 : Int32) (s : mS) : mO := if x3 < (s.1 51) then mf_317_210 N x3 y0 s else mf_317_195 N x2 x3 y0 s
theorem mr_317_185 {X : Nat → Option zz_C} {h : zz_H} (hh : 111 ≤ h.length) {d : Nat} {N : Nat} {Q : Option Value → zz_H → Prop} {x2 : Int32} {x3 : Int32} {y0 : Int32} {s s' : mS} {v : Option Value} (hf : mf_317_185 N x2 x3 y0 s = some (s', v)) (k : Q v (mH h s')) : zz_E zp_P zt_tf zt_fd X (d + 4) zm_317 185 [(0, .ref 61), (2, .int x2), (3, .int x3)] [.int y0] (mH h s) Q := by
  unfold mf_317_185 at hf
  refine mb_317_185 hh  (fun c => ?_) (fun c => ?_)
  · rw [if_pos c] at hf
    exact mr_317_210 hh hf k
  · rw [if_neg c] at hf
    exact mr_317_195 hh hf k
def mf_317_180 (N : Nat) (x2 : Int32) (x3 : Int32) (s : mS) : mO := mf_317_185 N x2 x3 1 s
theorem mr_317_180 {X : Nat → Option zz_C} {h : zz_H} (hh : 111 ≤ h.length) {d : Nat} {N : Nat} {Q : Option Value → zz_H → Prop} {x2 : Int32} {x3 : Int32} {s s' : mS} {v : Option Value} (hf : mf_317_180 N x2 x3 s = some (s', v)) (k : Q v (mH h s')) : zz_E zp_P zt_tf zt_fd X (d + 4) zm_317 180 [(0, .ref 61), (2, .int x2), (3, .int x3)] [] (mH h s) Q := by
  unfold mf_317_180 at hf
  exact mb_317_180 hh  (mr_317_185 hh hf k)
def mf_317_184 (N : Nat) (x2 : Int32) (x3 : Int32) (s : mS) : mO := mf_317_185 N x2 x3 0 s
theorem mr_317_184 {X : Nat → Option zz_C} {h : zz_H} (hh : 111 ≤ h.length) {d : Nat} {N : Nat} {Q : Option Value → zz_H → Prop} {x2 : Int32} {x3 : Int32} {s s' : mS} {v : Option Value} (hf : mf_317_184 N x2 x3 s = some (s', v)) (k : Q v (mH h s')) : zz_E zp_P zt_tf zt_fd X (d + 4) zm_317 184 [(0, .ref 61), (2, .int x2), (3, .int x3)] [] (mH h s) Q := by
  unfold mf_317_184 at hf
  exact mb_317_184 hh  (mr_317_185 hh hf k)
def mf_317_165 (N : Nat) (x2 : Int32) (x3 : Int32) (s : mS) : mO := if ¬ (x2 < 0 ∨ 400 ≤ Int32.toNatClampNeg x2) then (if ¬ (((s.2.2.1 81) (Int32.toNatClampNeg x2)) < 0 ∨ 166300 ≤ Int32.toNatClampNeg ((s.2.2.1 81) (Int32.toNatClampNeg x2))) then (if ¬ ((s.2.2.1 47) (Int32.toNatClampNeg ((s.2.2.1 81) (Int32.toNatClampNeg x2)))) = 1 then mf_317_184 N x2 x3 s else mf_317_180 N x2 x3 s) else none) else none
theorem mr_317_165 {X : Nat → Option zz_C} {h : zz_H} (hh : 111 ≤ h.length) {d : Nat} {N : Nat} {Q : Option Value → zz_H → Prop} {x2 : Int32} {x3 : Int32} {s s' : mS} {v : Option Value} (hf : mf_317_165 N x2 x3 s = some (s', v)) (k : Q v (mH h s')) : zz_E zp_P zt_tf zt_fd X (d + 4) zm_317 165 [(0, .ref 61), (2, .int x2), (3, .int x3)] [] (mH h s) Q := by
  unfold mf_317_165 at hf
  obtain ⟨q0, hf⟩ := mo_if hf
  obtain ⟨q1, hf⟩ := mo_if hf
  refine mb_317_165 hh q0 q1 (fun c => ?_) (fun c => ?_)
  · rw [if_pos c] at hf
    exact mr_317_184 hh hf k
  · rw [if_neg c] at hf
    exact mr_317_180 hh hf k
def mf_317_157 (N : Nat) (x2 : Int32) (x3 : Int32) (s : mS) : mO := if x3 < (s.1 51) then mf_317_180 N x2 x3 s else mf_317_165 N x2 x3 s
theorem mr_317_157 {X : Nat → Option zz_C} {h : zz_H} (hh : 111 ≤ h.length) {d : Nat} {N : Nat} {Q : Option Value → zz_H → Prop} {x2 : Int32} {x3 : Int32} {s s' : mS} {v : Option Value} (hf : mf_317_157 N x2 x3 s = some (s', v)) (k : Q v (mH h s')) : zz_E zp_P zt_tf zt_fd X (d + 4) zm_317 157 [(0, .ref 61), (2, .int x2), (3, .int x3)] [] (mH h s) Q := by
  unfold mf_317_157 at hf
  refine mb_317_157 hh  (fun c => ?_) (fun c => ?_)
  · rw [if_pos c] at hf
    exact mr_317_180 hh hf k
  · rw [if_neg c] at hf
    exact mr_317_165 hh hf k
def mf_317_156 (N : Nat)  (s : mS) : mO := some (s, none)
theorem mr_317_156 {X : Nat → Option zz_C} {h : zz_H} (hh : 111 ≤ h.length) {d : Nat} {N : Nat} {Q : Option Value → zz_H → Prop}  {s s' : mS} {v : Option Value} (hf : mf_317_156 N  s = some (s', v)) (k : Q v (mH h s')) : zz_E zp_P zt_tf zt_fd X (d + 4) zm_317 156 [] [] (mH h s) Q := by
  unfold mf_317_156 at hf
  cases hf
  exact mb_317_156 hh  k
def mf_317_150 (N : Nat) (x3 : Int32) (s : mS) : mO := mo_bv (mf_305 N 3 x3 s) (fun s1 => mf_317_156 N  s1)
theorem mr_317_150 {X : Nat → Option zz_C} {h : zz_H} (hh : 111 ≤ h.length) {d : Nat} {N : Nat} {Q : Option Value → zz_H → Prop} {x3 : Int32} {s s' : mS} {v : Option Value} (hf : mf_317_150 N x3 s = some (s', v)) (k : Q v (mH h s')) : zz_E zp_P zt_tf zt_fd X (d + 4) zm_317 150 [(0, .ref 61), (3, .int x3)] [] (mH h s) Q := by
  unfold mf_317_150 at hf
  obtain ⟨s1, e, hf⟩ := mo_bv_ok hf
  exact mb_317_150 (d := d + 3) hh  (mr_305 (d := d + 0) hh e (mr_317_156 hh hf k))
def mf_317_128 (N : Nat) (x2 : Int32) (s : mS) : mO := if ¬ (x2 < 0 ∨ 400 ≤ Int32.toNatClampNeg x2) then (if ¬ (x2 < 0 ∨ 400 ≤ Int32.toNatClampNeg x2) then (if ¬ (((s.2.2.1 81) (Int32.toNatClampNeg x2)) < 0 ∨ 166300 ≤ Int32.toNatClampNeg ((s.2.2.1 81) (Int32.toNatClampNeg x2))) then (if ¬ ((s.2.2.1 47) (Int32.toNatClampNeg ((s.2.2.1 81) (Int32.toNatClampNeg x2)))) = 3 then mf_317_157 N x2 ((s.2.2.1 84) (Int32.toNatClampNeg x2)) s else mf_317_150 N ((s.2.2.1 84) (Int32.toNatClampNeg x2)) s) else none) else none) else none
theorem mr_317_128 {X : Nat → Option zz_C} {h : zz_H} (hh : 111 ≤ h.length) {d : Nat} {N : Nat} {Q : Option Value → zz_H → Prop} {x2 : Int32} {s s' : mS} {v : Option Value} (hf : mf_317_128 N x2 s = some (s', v)) (k : Q v (mH h s')) : zz_E zp_P zt_tf zt_fd X (d + 4) zm_317 128 [(0, .ref 61), (2, .int x2)] [] (mH h s) Q := by
  unfold mf_317_128 at hf
  obtain ⟨q0, hf⟩ := mo_if hf
  obtain ⟨q1, hf⟩ := mo_if hf
  obtain ⟨q2, hf⟩ := mo_if hf
  refine mb_317_128 hh q0 q1 q2 (fun c => ?_) (fun c => ?_)
  · rw [if_pos c] at hf
    exact mr_317_157 hh hf k
  · rw [if_neg c] at hf
    exact mr_317_150 hh hf k
def mf_317_127 (N : Nat)  (s : mS) : mO := some (s, none)
theorem mr_317_127 {X : Nat → Option zz_C} {h : zz_H} (hh : 111 ≤ h.length) {d : Nat} {N : Nat} {Q : Option Value → zz_H → Prop}  {s s' : mS} {v : Option Value} (hf : mf_317_127 N  s = some (s', v)) (k : Q v (mH h s')) : zz_E zp_P zt_tf zt_fd X (d + 4) zm_317 127 [] [] (mH h s) Q := by
  unfold mf_317_127 at hf
  cases hf
  exact mb_317_127 hh  k
def mf_317_107 (N : Nat) (x2 : Int32) (s : mS) : mO := if ¬ (x2 < 0 ∨ 400 ≤ Int32.toNatClampNeg x2) then (if ¬ ((s.2.2.1 80) (Int32.toNatClampNeg x2)) = 4 then mf_317_128 N x2 (mI s 79 ((s.1 79) - 1)) else mf_317_127 N  (mI s 79 ((s.1 79) - 1))) else none
theorem mr_317_107 {X : Nat → Option zz_C} {h : zz_H} (hh : 111 ≤ h.length) {d : Nat} {N : Nat} {Q : Option Value → zz_H → Prop} {x2 : Int32} {s s' : mS} {v : Option Value} (hf : mf_317_107 N x2 s = some (s', v)) (k : Q v (mH h s')) : zz_E zp_P zt_tf zt_fd X (d + 4) zm_317 107 [(0, .ref 61), (2, .int x2)] [] (mH h s) Q := by
  unfold mf_317_107 at hf
  obtain ⟨q0, hf⟩ := mo_if hf
  refine mb_317_107 hh q0 (fun c => ?_) (fun c => ?_)
  · rw [if_pos c] at hf
    exact mr_317_128 hh hf k
  · rw [if_neg c] at hf
    exact mr_317_127 hh hf k
def mf_317_106 (N : Nat)  (s : mS) : mO := some (s, none)
theorem mr_317_106 {X : Nat → Option zz_C} {h : zz_H} (hh : 111 ≤ h.length) {d : Nat} {N : Nat} {Q : Option Value → zz_H → Prop}  {s s' : mS} {v : Option Value} (hf : mf_317_106 N  s = some (s', v)) (k : Q v (mH h s')) : zz_E zp_P zt_tf zt_fd X (d + 4) zm_317 106 [] [] (mH h s) Q := by
  unfold mf_317_106 at hf
  cases hf
  exact mb_317_106 hh  k
def mf_317_102 (N : Nat) (x1 : Int32) (y1 : Int32) (y2 : Int32) (s : mS) : mO := mo_bv (mf_310 N y1 y2 x1 s) (fun s1 => mf_317_106 N  s1)
theorem mr_317_102 {X : Nat → Option zz_C} {h : zz_H} (hh : 111 ≤ h.length) {d : Nat} {N : Nat} {Q : Option Value → zz_H → Prop} {x1 : Int32} {y1 : Int32} {y2 : Int32} {s s' : mS} {v : Option Value} (hf : mf_317_102 N x1 y1 y2 s = some (s', v)) (k : Q v (mH h s')) : zz_E zp_P zt_tf zt_fd X (d + 4) zm_317 102 [(1, .int x1)] [.int y2, .int y1, .ref 61] (mH h s) Q := by
  unfold mf_317_102 at hf
  obtain ⟨s1, e, hf⟩ := mo_bv_ok hf
  exact mb_317_102 (d := d + 3) hh  (mr_310 (d := d + 2) hh e (mr_317_106 hh hf k))
def mf_317_101 (N : Nat) (x1 : Int32) (y1 : Int32) (s : mS) : mO := mf_317_102 N x1 y1 2 s
theorem mr_317_101 {X : Nat → Option zz_C} {h : zz_H} (hh : 111 ≤ h.length) {d : Nat} {N : Nat} {Q : Option Value → zz_H → Prop} {x1 : Int32} {y1 : Int32} {s s' : mS} {v : Option Value} (hf : mf_317_101 N x1 y1 s = some (s', v)) (k : Q v (mH h s')) : zz_E zp_P zt_tf zt_fd X (d + 4) zm_317 101 [(1, .int x1)] [.int y1, .ref 61] (mH h s) Q := by
  unfold mf_317_101 at hf
  exact mb_317_101 hh  (mr_317_102 hh hf k)
def mf_317_97 (N : Nat) (x1 : Int32) (y1 : Int32) (s : mS) : mO := mf_317_102 N x1 y1 1 s
theorem mr_317_97 {X : Nat → Option zz_C} {h : zz_H} (hh : 111 ≤ h.length) {d : Nat} {N : Nat} {Q : Option Value → zz_H → Prop} {x1 : Int32} {y1 : Int32} {s s' : mS} {v : Option Value} (hf : mf_317_97 N x1 y1 s = some (s', v)) (k : Q v (mH h s')) : zz_E zp_P zt_tf zt_fd X (d + 4) zm_317 97 [(1, .int x1)] [.int y1, .ref 61] (mH h s) Q := by
  unfold mf_317_97 at hf
  exact mb_317_97 hh  (mr_317_102 hh hf k)
def mf_317_70 (N : Nat) (x1 : Int32) (x2 : Int32) (s : mS) : mO := if ¬ (x2 < 0 ∨ 400 ≤ Int32.toNatClampNeg x2) then (if ¬ (x2 < 0 ∨ 400 ≤ Int32.toNatClampNeg x2) then (if ¬ (x1 < 0 ∨ 8000 ≤ Int32.toNatClampNeg x1) then (if ¬ (x2 < 0 ∨ 400 ≤ Int32.toNatClampNeg x2) then (if ¬ ((s.2.2.1 80) (Int32.toNatClampNeg x2)) = 3 then mf_317_101 N x1 ((s.2.2.1 25) (Int32.toNatClampNeg x1)) (mA s 82 (upd (s.2.2.1 82) (Int32.toNatClampNeg x2) (((s.2.2.1 82) (Int32.toNatClampNeg x2)) + 1))) else mf_317_97 N x1 ((s.2.2.1 25) (Int32.toNatClampNeg x1)) (mA s 82 (upd (s.2.2.1 82) (Int32.toNatClampNeg x2) (((s.2.2.1 82) (Int32.toNatClampNeg x2)) + 1)))) else none) else none) else none) else none
theorem mr_317_70 {X : Nat → Option zz_C} {h : zz_H} (hh : 111 ≤ h.length) {d : Nat} {N : Nat} {Q : Option Value → zz_H → Prop} {x1 : Int32} {x2 : Int32} {s s' : mS} {v : Option Value} (hf : mf_317_70 N x1 x2 s = some (s', v)) (k : Q v (mH h s')) : zz_E zp_P zt_tf zt_fd X (d + 4) zm_317 70 [(0, .ref 61), (1, .int x1), (2, .int x2)] [] (mH h s) Q := by
  unfold mf_317_70 at hf
  obtain ⟨q0, hf⟩ := mo_if hf
  obtain ⟨q1, hf⟩ := mo_if hf
  obtain ⟨q2, hf⟩ := mo_if hf
  obtain ⟨q3, hf⟩ := mo_if hf
  refine mb_317_70 hh q0 q1 q2 q3 (fun c => ?_) (fun c => ?_)
  · rw [if_pos c] at hf
    exact mr_317_101 hh hf k
  · rw [if_neg c] at hf
    exact mr_317_97 hh hf k
def mf_317_54 (N : Nat) (x1 : Int32) (x2 : Int32) (s : mS) : mO := if ¬ (x2 < 0 ∨ 400 ≤ Int32.toNatClampNeg x2) then (if ¬ (x2 < 0 ∨ 400 ≤ Int32.toNatClampNeg x2) then (mo_bv (mf_295 N ((s.2.2.1 81) (Int32.toNatClampNeg x2)) ((s.2.2.1 82) (Int32.toNatClampNeg x2)) s) (fun s1 => mf_317_70 N x1 x2 s1)) else none) else none
theorem mr_317_54 {X : Nat → Option zz_C} {h : zz_H} (hh : 111 ≤ h.length) {d : Nat} {N : Nat} {Q : Option Value → zz_H → Prop} {x1 : Int32} {x2 : Int32} {s s' : mS} {v : Option Value} (hf : mf_317_54 N x1 x2 s = some (s', v)) (k : Q v (mH h s')) : zz_E zp_P zt_tf zt_fd X (d + 4) zm_317 54 [(0, .ref 61), (1, .int x1), (2, .int x2)] [] (mH h s) Q := by
  unfold mf_317_54 at hf
  obtain ⟨q0, hf⟩ := mo_if hf
  obtain ⟨q1, hf⟩ := mo_if hf
  obtain ⟨s1, e, hf⟩ := mo_bv_ok hf
  exact mb_317_54 (d := d + 3) hh q0 q1 (mr_295 (d := d + 2) hh e (mr_317_70 hh hf k))
def mf_317_53 (N : Nat)  (s : mS) : mO := some (s, none)
theorem mr_317_53 {X : Nat → Option zz_C} {h : zz_H} (hh : 111 ≤ h.length) {d : Nat} {N : Nat} {Q : Option Value → zz_H → Prop}  {s s' : mS} {v : Option Value} (hf : mf_317_53 N  s = some (s', v)) (k : Q v (mH h s')) : zz_E zp_P zt_tf zt_fd X (d + 4) zm_317 53 [] [] (mH h s) Q := by
  unfold mf_317_53 at hf
  cases hf
  exact mb_317_53 hh  k
def mf_317_43 (N : Nat)  (s : mS) : mO := mo_bv (mf_301 N 8 (s.1 70) s) (fun s1 => mf_317_53 N  s1)
theorem mr_317_43 {X : Nat → Option zz_C} {h : zz_H} (hh : 111 ≤ h.length) {d : Nat} {N : Nat} {Q : Option Value → zz_H → Prop}  {s s' : mS} {v : Option Value} (hf : mf_317_43 N  s = some (s', v)) (k : Q v (mH h s')) : zz_E zp_P zt_tf zt_fd X (d + 4) zm_317 43 [(0, .ref 61)] [] (mH h s) Q := by
  unfold mf_317_43 at hf
  obtain ⟨s1, e, hf⟩ := mo_bv_ok hf
  exact mb_317_43 (d := d + 3) hh  (mr_301 (d := d + 3) hh e (mr_317_53 hh hf k))
def mf_317_34 (N : Nat) (x1 : Int32) (x2 : Int32) (s : mS) : mO := if ¬ (s.1 73) = 10 then mf_317_54 N x1 x2 s else mf_317_43 N  s
theorem mr_317_34 {X : Nat → Option zz_C} {h : zz_H} (hh : 111 ≤ h.length) {d : Nat} {N : Nat} {Q : Option Value → zz_H → Prop} {x1 : Int32} {x2 : Int32} {s s' : mS} {v : Option Value} (hf : mf_317_34 N x1 x2 s = some (s', v)) (k : Q v (mH h s')) : zz_E zp_P zt_tf zt_fd X (d + 4) zm_317 34 [(0, .ref 61), (1, .int x1), (2, .int x2)] [] (mH h s) Q := by
  unfold mf_317_34 at hf
  refine mb_317_34 hh  (fun c => ?_) (fun c => ?_)
  · rw [if_pos c] at hf
    exact mr_317_54 hh hf k
  · rw [if_neg c] at hf
    exact mr_317_43 hh hf k
def mf_317_33 (N : Nat)  (s : mS) : mO := some (s, none)
theorem mr_317_33 {X : Nat → Option zz_C} {h : zz_H} (hh : 111 ≤ h.length) {d : Nat} {N : Nat} {Q : Option Value → zz_H → Prop}  {s s' : mS} {v : Option Value} (hf : mf_317_33 N  s = some (s', v)) (k : Q v (mH h s')) : zz_E zp_P zt_tf zt_fd X (d + 4) zm_317 33 [] [] (mH h s) Q := by
  unfold mf_317_33 at hf
  cases hf
  exact mb_317_33 hh  k
def mf_317_26 (N : Nat) (x1 : Int32) (x2 : Int32) (s : mS) : mO := if (s.1 66) ≤ 0 then mf_317_34 N x1 x2 s else mf_317_33 N  s
theorem mr_317_26 {X : Nat → Option zz_C} {h : zz_H} (hh : 111 ≤ h.length) {d : Nat} {N : Nat} {Q : Option Value → zz_H → Prop} {x1 : Int32} {x2 : Int32} {s s' : mS} {v : Option Value} (hf : mf_317_26 N x1 x2 s = some (s', v)) (k : Q v (mH h s')) : zz_E zp_P zt_tf zt_fd X (d + 4) zm_317 26 [(0, .ref 61), (1, .int x1), (2, .int x2)] [] (mH h s) Q := by
  unfold mf_317_26 at hf
  refine mb_317_26 hh  (fun c => ?_) (fun c => ?_)
  · rw [if_pos c] at hf
    exact mr_317_34 hh hf k
  · rw [if_neg c] at hf
    exact mr_317_33 hh hf k
def mf_317_22 (N : Nat) (x1 : Int32) (x2 : Int32) (s : mS) : mO := mo_bv (mf_302 N  s) (fun s1 => mf_317_26 N x1 x2 s1)
theorem mr_317_22 {X : Nat → Option zz_C} {h : zz_H} (hh : 111 ≤ h.length) {d : Nat} {N : Nat} {Q : Option Value → zz_H → Prop} {x1 : Int32} {x2 : Int32} {s s' : mS} {v : Option Value} (hf : mf_317_22 N x1 x2 s = some (s', v)) (k : Q v (mH h s')) : zz_E zp_P zt_tf zt_fd X (d + 4) zm_317 22 [(0, .ref 61), (1, .int x1), (2, .int x2)] [] (mH h s) Q := by
  unfold mf_317_22 at hf
  obtain ⟨s1, e, hf⟩ := mo_bv_ok hf
  exact mb_317_22 (d := d + 3) hh  (mr_302 (d := d + 2) hh e (mr_317_26 hh hf k))
def mf_317_0 (N : Nat) (x1 : Int32) (s : mS) : mO := if ¬ (((s.1 79) - 1) < 0 ∨ 400 ≤ Int32.toNatClampNeg ((s.1 79) - 1)) then (if ¬ (((s.1 79) - 1) < 0 ∨ 400 ≤ Int32.toNatClampNeg ((s.1 79) - 1)) then (if ((s.2.2.1 83) (Int32.toNatClampNeg ((s.1 79) - 1))) ≤ ((s.2.2.1 82) (Int32.toNatClampNeg ((s.1 79) - 1))) then mf_317_107 N ((s.1 79) - 1) s else mf_317_22 N x1 ((s.1 79) - 1) s) else none) else none
theorem mr_317_0 {X : Nat → Option zz_C} {h : zz_H} (hh : 111 ≤ h.length) {d : Nat} {N : Nat} {Q : Option Value → zz_H → Prop} {x1 : Int32} {s s' : mS} {v : Option Value} (hf : mf_317_0 N x1 s = some (s', v)) (k : Q v (mH h s')) : zz_E zp_P zt_tf zt_fd X (d + 4) zm_317 0 [(0, .ref 61), (1, .int x1)] [] (mH h s) Q := by
  unfold mf_317_0 at hf
  obtain ⟨q0, hf⟩ := mo_if hf
  obtain ⟨q1, hf⟩ := mo_if hf
  refine mb_317_0 hh q0 q1 (fun c => ?_) (fun c => ?_)
  · rw [if_pos c] at hf
    exact mr_317_107 hh hf k
  · rw [if_neg c] at hf
    exact mr_317_22 hh hf k
/-- next -/
def mf_317 (N : Nat) (x1 : Int32) (s : mS) : mO := mf_317_0 N x1 s
theorem mr_317 {X : Nat → Option zz_C} {h : zz_H} (hh : 111 ≤ h.length) {d : Nat} {N : Nat} {Q : Option Value → zz_H → Prop} {x1 : Int32} {s s' : mS} {v : Option Value} (hf : mf_317 N x1 s = some (s', v)) (k : Q v (mH h s')) : zz_E zp_P zt_tf zt_fd X (d + 4) zm_317 0 [(0, .ref 61), (1, .int x1)] [] (mH h s) Q := by
  unfold mf_317 at hf
  exact zz_E.weak (mr_317_0 hh hf k) rfl ⟨rfl, rfl, trivial⟩
