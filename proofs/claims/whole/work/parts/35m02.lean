/-! name ()I -/
theorem mb_275_0 {X : Nat → Option zz_C} {h : zz_H} (hh : 111 ≤ h.length) {s : mS} {d : Nat} {Q : Option Value → zz_H → Prop}  (k1 : (s.1 9) ≤ 0 → zz_E zp_P zt_tf zt_fd X d zm_275 9 [(0, .ref 61)] [] (mH h s) Q) (k2 : ¬ (s.1 9) ≤ 0 → zz_E zp_P zt_tf zt_fd X d zm_275 7 [] [] (mH h s) Q) : zz_E zp_P zt_tf zt_fd X d zm_275 0 [(0, .ref 61)] [] (mH h s) Q := by
  refine zz_E.n 1 rfl rfl rfl ?_
  refine mE_g hh 4 (v := .int (s.1 9)) rfl rfl rfl ?_
  refine zz_E.b1 9 7 (A := (s.1 9) ≤ 0) rfl rfl (by decide) rfl rfl (fun c => ?_) (fun c => ?_)
  · exact zz_E.weak (k1 c) rfl ⟨rfl, trivial⟩
  · exact zz_E.weak (k2 c) rfl trivial
theorem mb_275_7 {X : Nat → Option zz_C} {h : zz_H} (hh : 111 ≤ h.length) {s : mS} {d : Nat} {Q : Option Value → zz_H → Prop}  (k : Q (some (.int 0)) (mH h s)) : zz_E zp_P zt_tf zt_fd X d zm_275 7 [] [] (mH h s) Q := by
  refine zz_E.c 8 (.int 0) rfl rfl rfl rfl ?_
  refine zz_E.ret rfl rfl rfl ?_
  exact k
theorem mb_275_9 {X : Nat → Option zz_C} {h : zz_H} (hh : 111 ≤ h.length) {s : mS} {d : Nat} {Q : Option Value → zz_H → Prop}  (k : zz_E zp_P zt_tf zt_fd X d zm_266 0 [(0, .ref 61)] [] (mH h s) (fun v h' => zz_E zp_P zt_tf zt_fd X (d + 1) zm_275 13 [(0, .ref 61)] (v.toList ++ []) h' Q)) : zz_E zp_P zt_tf zt_fd X (d + 1) zm_275 9 [(0, .ref 61)] [] (mH h s) Q := by
  refine zz_E.n 10 rfl rfl rfl ?_
  refine mE_cv hh 13 (as := []) rfl rfl (Nat.le_of_ble_eq_true rfl) (Nat.le_of_ble_eq_true rfl) rfl (Nat.le_of_ble_eq_true rfl) rfl ?_
  refine zz_E.mono k ?_
  intro v h' hE
  exact zz_E.weak hE rfl ⟨rfl, trivial⟩
theorem mb_275_13 {X : Nat → Option zz_C} {h : zz_H} (hh : 111 ≤ h.length) {s : mS} {d : Nat} {Q : Option Value → zz_H → Prop} {y0 : Int32} (k1 : ¬ y0 = 0 → zz_E zp_P zt_tf zt_fd X d zm_275 22 [(0, .ref 61)] [] (mH h s) Q) (k2 : ¬ ¬ y0 = 0 → zz_E zp_P zt_tf zt_fd X d zm_275 16 [(0, .ref 61)] [] (mH h s) Q) : zz_E zp_P zt_tf zt_fd X d zm_275 13 [(0, .ref 61)] [.int y0] (mH h s) Q := by
  refine zz_E.b1 22 16 (A := ¬ y0 = 0) rfl (zz_cond_ne _ _) (by decide) rfl rfl (fun c => ?_) (fun c => ?_)
  · exact zz_E.weak (k1 c) rfl ⟨rfl, trivial⟩
  · exact zz_E.weak (k2 c) rfl ⟨rfl, trivial⟩
theorem mb_275_16 {X : Nat → Option zz_C} {h : zz_H} (hh : 111 ≤ h.length) {s : mS} {d : Nat} {Q : Option Value → zz_H → Prop}  (k : zz_E zp_P zt_tf zt_fd X d zm_262 0 [(0, .ref 61)] [] (mH h s) (fun v h' => zz_E zp_P zt_tf zt_fd X (d + 1) zm_275 20 [] (v.toList ++ []) h' Q)) : zz_E zp_P zt_tf zt_fd X (d + 1) zm_275 16 [(0, .ref 61)] [] (mH h s) Q := by
  refine zz_E.n 17 rfl rfl rfl ?_
  refine mE_cv hh 20 (as := []) rfl rfl (Nat.le_of_ble_eq_true rfl) (Nat.le_of_ble_eq_true rfl) rfl (Nat.le_of_ble_eq_true rfl) rfl ?_
  refine zz_E.mono k ?_
  intro v h' hE
  exact zz_E.weak hE rfl trivial
theorem mb_275_20 {X : Nat → Option zz_C} {h : zz_H} (hh : 111 ≤ h.length) {s : mS} {d : Nat} {Q : Option Value → zz_H → Prop}  (k : Q (some (.int 0)) (mH h s)) : zz_E zp_P zt_tf zt_fd X d zm_275 20 [] [] (mH h s) Q := by
  refine zz_E.c 21 (.int 0) rfl rfl rfl rfl ?_
  refine zz_E.ret rfl rfl rfl ?_
  exact k
theorem mb_275_22 {X : Nat → Option zz_C} {h : zz_H} (hh : 111 ≤ h.length) {s : mS} {d : Nat} {Q : Option Value → zz_H → Prop}  (k : zz_E zp_P zt_tf zt_fd X d zm_274 0 [(0, .long (s.2.1 7))] [] (mH h s) (fun v h' => zz_E zp_P zt_tf zt_fd X (d + 1) zm_275 29 [(0, .ref 61)] (v.toList ++ []) h' Q)) : zz_E zp_P zt_tf zt_fd X (d + 1) zm_275 22 [(0, .ref 61)] [] (mH h s) Q := by
  refine zz_E.n 23 rfl rfl rfl ?_
  refine mE_g hh 26 (v := .long (s.2.1 7)) rfl rfl rfl ?_
  refine zz_E.cl (M' := zm_274) 29 rfl rfl (by decide) rfl rfl ⟨rfl, Nat.le_of_ble_eq_true rfl⟩ rfl ?_
  refine zz_E.mono k ?_
  intro v h' hE
  exact zz_E.weak hE rfl ⟨rfl, trivial⟩
theorem mb_275_29 {X : Nat → Option zz_C} {h : zz_H} (hh : 111 ≤ h.length) {s : mS} {d : Nat} {Q : Option Value → zz_H → Prop} {y0 : Int32} (k1 : y0 = 0 → zz_E zp_P zt_tf zt_fd X d zm_275 46 [(0, .ref 61)] [] (mH h s) Q) (k2 : ¬ y0 = 0 → zz_E zp_P zt_tf zt_fd X d zm_275 32 [(0, .ref 61)] [] (mH h s) Q) : zz_E zp_P zt_tf zt_fd X d zm_275 29 [(0, .ref 61)] [.int y0] (mH h s) Q := by
  refine zz_E.b1 46 32 (A := y0 = 0) rfl rfl (by decide) rfl rfl (fun c => ?_) (fun c => ?_)
  · exact zz_E.weak (k1 c) rfl ⟨rfl, trivial⟩
  · exact zz_E.weak (k2 c) rfl ⟨rfl, trivial⟩
theorem mb_275_32 {X : Nat → Option zz_C} {h : zz_H} (hh : 111 ≤ h.length) {s : mS} {d : Nat} {Q : Option Value → zz_H → Prop}  (k : zz_E zp_P zt_tf zt_fd X d zm_260 0 [(0, .ref 61)] [] (mH h s) (fun v h' => zz_E zp_P zt_tf zt_fd X (d + 1) zm_275 44 [(1, .int ((Int64.toInt32 (s.2.1 7)) - 1))] (v.toList ++ []) h' Q)) : zz_E zp_P zt_tf zt_fd X (d + 1) zm_275 32 [(0, .ref 61)] [] (mH h s) Q := by
  refine zz_E.n 33 rfl rfl rfl ?_
  refine mE_g hh 36 (v := .long (s.2.1 7)) rfl rfl rfl ?_
  refine zz_E.n 37 rfl rfl rfl ?_
  refine zz_E.c 38 (.int 1) rfl rfl rfl rfl ?_
  refine zz_E.n 39 rfl rfl rfl ?_
  refine zz_E.n 40 rfl rfl rfl ?_
  refine zz_E.n 41 rfl rfl rfl ?_
  refine mE_cv hh 44 (as := []) rfl rfl (Nat.le_of_ble_eq_true rfl) (Nat.le_of_ble_eq_true rfl) rfl (Nat.le_of_ble_eq_true rfl) rfl ?_
  refine zz_E.mono k ?_
  intro v h' hE
  exact zz_E.weak hE rfl ⟨rfl, trivial⟩
theorem mb_275_44 {X : Nat → Option zz_C} {h : zz_H} (hh : 111 ≤ h.length) {s : mS} {d : Nat} {Q : Option Value → zz_H → Prop} {x1 : Int32} (k : Q (some (.int x1)) (mH h s)) : zz_E zp_P zt_tf zt_fd X d zm_275 44 [(1, .int x1)] [] (mH h s) Q := by
  refine zz_E.n 45 rfl rfl rfl ?_
  refine zz_E.ret rfl rfl rfl ?_
  exact k
theorem mb_275_46 {X : Nat → Option zz_C} {h : zz_H} (hh : 111 ≤ h.length) {s : mS} {d : Nat} {Q : Option Value → zz_H → Prop}  (k : zz_E zp_P zt_tf zt_fd X d zm_275 48 [(0, .ref 61), (1, .int 0)] [] (mH h s) Q) : zz_E zp_P zt_tf zt_fd X d zm_275 46 [(0, .ref 61)] [] (mH h s) Q := by
  refine zz_E.c 47 (.int 0) rfl rfl rfl rfl ?_
  refine zz_E.n 48 rfl rfl rfl ?_
  exact zz_E.weak k rfl ⟨rfl, rfl, trivial⟩
theorem mb_275_48 {X : Nat → Option zz_C} {h : zz_H} (hh : 111 ≤ h.length) {s : mS} {d : Nat} {Q : Option Value → zz_H → Prop} {x1 : Int32} (k1 : (s.1 22) ≤ x1 → zz_E zp_P zt_tf zt_fd X d zm_275 76 [(0, .ref 61), (1, .int x1)] [] (mH h s) Q) (k2 : ¬ (s.1 22) ≤ x1 → zz_E zp_P zt_tf zt_fd X d zm_275 56 [(0, .ref 61), (1, .int x1)] [] (mH h s) Q) : zz_E zp_P zt_tf zt_fd X d zm_275 48 [(0, .ref 61), (1, .int x1)] [] (mH h s) Q := by
  refine zz_E.n 49 rfl rfl rfl ?_
  refine zz_E.n 50 rfl rfl rfl ?_
  refine mE_g hh 53 (v := .int (s.1 22)) rfl rfl rfl ?_
  refine zz_E.b2 76 56 (A := (s.1 22) ≤ x1) rfl rfl (by decide) rfl rfl (fun c => ?_) (fun c => ?_)
  · exact zz_E.weak (k1 c) rfl ⟨rfl, rfl, trivial⟩
  · exact zz_E.weak (k2 c) rfl ⟨rfl, rfl, trivial⟩
theorem mb_275_56 {X : Nat → Option zz_C} {h : zz_H} (hh : 111 ≤ h.length) {s : mS} {d : Nat} {Q : Option Value → zz_H → Prop} {x1 : Int32} (i61 : ¬ (x1 < 0 ∨ 14 ≤ Int32.toNatClampNeg x1)) (k1 : (lg_cmp ((s.2.2.2 21) (Int32.toNatClampNeg x1)) (s.2.1 7)) = 0 → zz_E zp_P zt_tf zt_fd X d zm_275 76 [(0, .ref 61), (1, .int x1)] [] (mH h s) Q) (k2 : ¬ (lg_cmp ((s.2.2.2 21) (Int32.toNatClampNeg x1)) (s.2.1 7)) = 0 → zz_E zp_P zt_tf zt_fd X d zm_275 70 [(0, .ref 61), (1, .int x1)] [] (mH h s) Q) : zz_E zp_P zt_tf zt_fd X d zm_275 56 [(0, .ref 61), (1, .int x1)] [] (mH h s) Q := by
  refine zz_E.n 57 rfl rfl rfl ?_
  refine mE_g hh 60 (v := .ref 70) rfl rfl rfl ?_
  refine zz_E.n 61 rfl rfl rfl ?_
  refine mE_la hh 62 9 (f := (s.2.2.2 21)) rfl (by decide) rfl rfl i61 rfl ?_
  refine zz_E.n 63 rfl rfl rfl ?_
  refine mE_g hh 66 (v := .long (s.2.1 7)) rfl rfl rfl ?_
  refine zz_E.n 67 rfl rfl rfl ?_
  refine zz_E.b1 76 70 (A := (lg_cmp ((s.2.2.2 21) (Int32.toNatClampNeg x1)) (s.2.1 7)) = 0) rfl rfl (by decide) rfl rfl (fun c => ?_) (fun c => ?_)
  · exact zz_E.weak (k1 c) rfl ⟨rfl, rfl, trivial⟩
  · exact zz_E.weak (k2 c) rfl ⟨rfl, rfl, trivial⟩
theorem mb_275_70 {X : Nat → Option zz_C} {h : zz_H} (hh : 111 ≤ h.length) {s : mS} {d : Nat} {Q : Option Value → zz_H → Prop} {x1 : Int32} (k : zz_E zp_P zt_tf zt_fd X d zm_275 48 [(0, .ref 61), (1, .int (x1 + 1))] [] (mH h s) Q) : zz_E zp_P zt_tf zt_fd X d zm_275 70 [(0, .ref 61), (1, .int x1)] [] (mH h s) Q := by
  refine zz_E.n 73 rfl rfl rfl ?_
  refine zz_E.n 48 rfl rfl rfl ?_
  exact zz_E.weak k rfl ⟨rfl, rfl, trivial⟩
theorem mb_275_76 {X : Nat → Option zz_C} {h : zz_H} (hh : 111 ≤ h.length) {s : mS} {d : Nat} {Q : Option Value → zz_H → Prop} {x1 : Int32} (k1 : ¬ x1 = 14 → zz_E zp_P zt_tf zt_fd X d zm_275 93 [(0, .ref 61), (1, .int x1)] [] (mH h s) Q) (k2 : ¬ ¬ x1 = 14 → zz_E zp_P zt_tf zt_fd X d zm_275 82 [(0, .ref 61)] [] (mH h s) Q) : zz_E zp_P zt_tf zt_fd X d zm_275 76 [(0, .ref 61), (1, .int x1)] [] (mH h s) Q := by
  refine zz_E.n 77 rfl rfl rfl ?_
  refine zz_E.c 79 (.int 14) rfl rfl rfl rfl ?_
  refine zz_E.b2 93 82 (A := ¬ x1 = 14) rfl (zz_cond_ne _ _) (by decide) rfl rfl (fun c => ?_) (fun c => ?_)
  · exact zz_E.weak (k1 c) rfl ⟨rfl, rfl, trivial⟩
  · exact zz_E.weak (k2 c) rfl ⟨rfl, trivial⟩
theorem mb_275_82 {X : Nat → Option zz_C} {h : zz_H} (hh : 111 ≤ h.length) {s : mS} {d : Nat} {Q : Option Value → zz_H → Prop}  (k : zz_E zp_P zt_tf zt_fd X d zm_261 0 [(0, .ref 61), (1, .int 3), (2, .int (s.1 6))] [] (mH h s) (fun v h' => zz_E zp_P zt_tf zt_fd X (d + 1) zm_275 91 [] (v.toList ++ []) h' Q)) : zz_E zp_P zt_tf zt_fd X (d + 1) zm_275 82 [(0, .ref 61)] [] (mH h s) Q := by
  refine zz_E.n 83 rfl rfl rfl ?_
  refine zz_E.c 84 (.int 3) rfl rfl rfl rfl ?_
  refine zz_E.n 85 rfl rfl rfl ?_
  refine mE_g hh 88 (v := .int (s.1 6)) rfl rfl rfl ?_
  refine mE_cv hh 91 (as := []) rfl rfl (Nat.le_of_ble_eq_true rfl) (Nat.le_of_ble_eq_true rfl) rfl (Nat.le_of_ble_eq_true rfl) rfl ?_
  refine zz_E.mono k ?_
  intro v h' hE
  exact zz_E.weak hE rfl trivial
theorem mb_275_91 {X : Nat → Option zz_C} {h : zz_H} (hh : 111 ≤ h.length) {s : mS} {d : Nat} {Q : Option Value → zz_H → Prop}  (k : Q (some (.int 0)) (mH h s)) : zz_E zp_P zt_tf zt_fd X d zm_275 91 [] [] (mH h s) Q := by
  refine zz_E.c 92 (.int 0) rfl rfl rfl rfl ?_
  refine zz_E.ret rfl rfl rfl ?_
  exact k
theorem mb_275_93 {X : Nat → Option zz_C} {h : zz_H} (hh : 111 ≤ h.length) {s : mS} {d : Nat} {Q : Option Value → zz_H → Prop} {x1 : Int32} (i102 : ¬ (x1 < 0 ∨ 14 ≤ Int32.toNatClampNeg x1)) (k1 : ¬ x1 = (s.1 22) → zz_E zp_P zt_tf zt_fd X d zm_275 121 [(0, .ref 61), (1, .int x1)] [] (mH h (mB s 21 (vp_updL (s.2.2.2 21) (Int32.toNatClampNeg x1) (s.2.1 7)))) Q) (k2 : ¬ ¬ x1 = (s.1 22) → zz_E zp_P zt_tf zt_fd X d zm_275 111 [(0, .ref 61), (1, .int x1)] [] (mH h (mB s 21 (vp_updL (s.2.2.2 21) (Int32.toNatClampNeg x1) (s.2.1 7)))) Q) : zz_E zp_P zt_tf zt_fd X d zm_275 93 [(0, .ref 61), (1, .int x1)] [] (mH h s) Q := by
  refine zz_E.n 94 rfl rfl rfl ?_
  refine mE_g hh 97 (v := .ref 70) rfl rfl rfl ?_
  refine zz_E.n 98 rfl rfl rfl ?_
  refine zz_E.n 99 rfl rfl rfl ?_
  refine mE_g hh 102 (v := .long (s.2.1 7)) rfl rfl rfl ?_
  refine mE_ls hh 103 9 (f := (s.2.2.2 21)) rfl (by decide) rfl rfl i102 (mA_70 _ _) rfl ?_
  refine zz_E.n 104 rfl rfl rfl ?_
  refine zz_E.n 105 rfl rfl rfl ?_
  refine mE_g hh 108 (v := .int (s.1 22)) rfl rfl rfl ?_
  refine zz_E.b2 121 111 (A := ¬ x1 = (s.1 22)) rfl (zz_cond_ne _ _) (by decide) rfl rfl (fun c => ?_) (fun c => ?_)
  · exact zz_E.weak (k1 c) rfl ⟨rfl, rfl, trivial⟩
  · exact zz_E.weak (k2 c) rfl ⟨rfl, rfl, trivial⟩
theorem mb_275_111 {X : Nat → Option zz_C} {h : zz_H} (hh : 111 ≤ h.length) {s : mS} {d : Nat} {Q : Option Value → zz_H → Prop} {x1 : Int32} (k : zz_E zp_P zt_tf zt_fd X d zm_275 121 [(0, .ref 61), (1, .int x1)] [] (mH h (mI s 22 ((s.1 22) + 1))) Q) : zz_E zp_P zt_tf zt_fd X d zm_275 111 [(0, .ref 61), (1, .int x1)] [] (mH h s) Q := by
  refine zz_E.n 112 rfl rfl rfl ?_
  refine zz_E.n 113 rfl rfl rfl ?_
  refine mE_g hh 116 (v := .int (s.1 22)) rfl rfl rfl ?_
  refine zz_E.c 117 (.int 1) rfl rfl rfl rfl ?_
  refine zz_E.n 118 rfl rfl rfl ?_
  refine mE_p hh 121 rfl (by decide) rfl (mF_22 _ _) rfl ?_
  exact zz_E.weak k rfl ⟨rfl, rfl, trivial⟩
theorem mb_275_121 {X : Nat → Option zz_C} {h : zz_H} (hh : 111 ≤ h.length) {s : mS} {d : Nat} {Q : Option Value → zz_H → Prop} {x1 : Int32} (k : zz_E zp_P zt_tf zt_fd X d zm_260 0 [(0, .ref 61)] [] (mH h s) (fun v h' => zz_E zp_P zt_tf zt_fd X (d + 1) zm_275 125 [(1, .int x1)] (v.toList ++ []) h' Q)) : zz_E zp_P zt_tf zt_fd X (d + 1) zm_275 121 [(0, .ref 61), (1, .int x1)] [] (mH h s) Q := by
  refine zz_E.n 122 rfl rfl rfl ?_
  refine mE_cv hh 125 (as := []) rfl rfl (Nat.le_of_ble_eq_true rfl) (Nat.le_of_ble_eq_true rfl) rfl (Nat.le_of_ble_eq_true rfl) rfl ?_
  refine zz_E.mono k ?_
  intro v h' hE
  exact zz_E.weak hE rfl ⟨rfl, trivial⟩
theorem mb_275_125 {X : Nat → Option zz_C} {h : zz_H} (hh : 111 ≤ h.length) {s : mS} {d : Nat} {Q : Option Value → zz_H → Prop} {x1 : Int32} (k : Q (some (.int (8 + x1))) (mH h s)) : zz_E zp_P zt_tf zt_fd X d zm_275 125 [(1, .int x1)] [] (mH h s) Q := by
  refine zz_E.c 127 (.int 8) rfl rfl rfl rfl ?_
  refine zz_E.n 128 rfl rfl rfl ?_
  refine zz_E.n 129 rfl rfl rfl ?_
  refine zz_E.ret rfl rfl rfl ?_
  exact k
def mf_275_125 (N : Nat) (x1 : Int32) (s : mS) : mO := some (s, (some (.int (8 + x1))))
theorem mr_275_125 {X : Nat → Option zz_C} {h : zz_H} (hh : 111 ≤ h.length) {d : Nat} {N : Nat} {Q : Option Value → zz_H → Prop} {x1 : Int32} {s s' : mS} {v : Option Value} (hf : mf_275_125 N x1 s = some (s', v)) (k : Q v (mH h s')) : zz_E zp_P zt_tf zt_fd X (d + 4) zm_275 125 [(1, .int x1)] [] (mH h s) Q := by
  unfold mf_275_125 at hf
  cases hf
  exact mb_275_125 hh  k
def mf_275_121 (N : Nat) (x1 : Int32) (s : mS) : mO := mo_bv (mf_260 N  s) (fun s1 => mf_275_125 N x1 s1)
theorem mr_275_121 {X : Nat → Option zz_C} {h : zz_H} (hh : 111 ≤ h.length) {d : Nat} {N : Nat} {Q : Option Value → zz_H → Prop} {x1 : Int32} {s s' : mS} {v : Option Value} (hf : mf_275_121 N x1 s = some (s', v)) (k : Q v (mH h s')) : zz_E zp_P zt_tf zt_fd X (d + 4) zm_275 121 [(0, .ref 61), (1, .int x1)] [] (mH h s) Q := by
  unfold mf_275_121 at hf
  obtain ⟨s1, e, hf⟩ := mo_bv_ok hf
  exact mb_275_121 (d := d + 3) hh  (mr_260 (d := d + 0) hh e (mr_275_125 hh hf k))
def mf_275_111 (N : Nat) (x1 : Int32) (s : mS) : mO := mf_275_121 N x1 (mI s 22 ((s.1 22) + 1))
theorem mr_275_111 {X : Nat → Option zz_C} {h : zz_H} (hh : 111 ≤ h.length) {d : Nat} {N : Nat} {Q : Option Value → zz_H → Prop} {x1 : Int32} {s s' : mS} {v : Option Value} (hf : mf_275_111 N x1 s = some (s', v)) (k : Q v (mH h s')) : zz_E zp_P zt_tf zt_fd X (d + 4) zm_275 111 [(0, .ref 61), (1, .int x1)] [] (mH h s) Q := by
  unfold mf_275_111 at hf
  exact mb_275_111 hh  (mr_275_121 hh hf k)
def mf_275_93 (N : Nat) (x1 : Int32) (s : mS) : mO := if ¬ (x1 < 0 ∨ 14 ≤ Int32.toNatClampNeg x1) then (if ¬ x1 = (s.1 22) then mf_275_121 N x1 (mB s 21 (vp_updL (s.2.2.2 21) (Int32.toNatClampNeg x1) (s.2.1 7))) else mf_275_111 N x1 (mB s 21 (vp_updL (s.2.2.2 21) (Int32.toNatClampNeg x1) (s.2.1 7)))) else none
theorem mr_275_93 {X : Nat → Option zz_C} {h : zz_H} (hh : 111 ≤ h.length) {d : Nat} {N : Nat} {Q : Option Value → zz_H → Prop} {x1 : Int32} {s s' : mS} {v : Option Value} (hf : mf_275_93 N x1 s = some (s', v)) (k : Q v (mH h s')) : zz_E zp_P zt_tf zt_fd X (d + 4) zm_275 93 [(0, .ref 61), (1, .int x1)] [] (mH h s) Q := by
  unfold mf_275_93 at hf
  obtain ⟨q0, hf⟩ := mo_if hf
  refine mb_275_93 hh q0 (fun c => ?_) (fun c => ?_)
  · rw [if_pos c] at hf
    exact mr_275_121 hh hf k
  · rw [if_neg c] at hf
    exact mr_275_111 hh hf k
def mf_275_91 (N : Nat)  (s : mS) : mO := some (s, (some (.int 0)))
theorem mr_275_91 {X : Nat → Option zz_C} {h : zz_H} (hh : 111 ≤ h.length) {d : Nat} {N : Nat} {Q : Option Value → zz_H → Prop}  {s s' : mS} {v : Option Value} (hf : mf_275_91 N  s = some (s', v)) (k : Q v (mH h s')) : zz_E zp_P zt_tf zt_fd X (d + 4) zm_275 91 [] [] (mH h s) Q := by
  unfold mf_275_91 at hf
  cases hf
  exact mb_275_91 hh  k
def mf_275_82 (N : Nat)  (s : mS) : mO := mo_bv (mf_261 N 3 (s.1 6) s) (fun s1 => mf_275_91 N  s1)
theorem mr_275_82 {X : Nat → Option zz_C} {h : zz_H} (hh : 111 ≤ h.length) {d : Nat} {N : Nat} {Q : Option Value → zz_H → Prop}  {s s' : mS} {v : Option Value} (hf : mf_275_82 N  s = some (s', v)) (k : Q v (mH h s')) : zz_E zp_P zt_tf zt_fd X (d + 4) zm_275 82 [(0, .ref 61)] [] (mH h s) Q := by
  unfold mf_275_82 at hf
  obtain ⟨s1, e, hf⟩ := mo_bv_ok hf
  exact mb_275_82 (d := d + 3) hh  (mr_261 (d := d + 3) hh e (mr_275_91 hh hf k))
def mf_275_76 (N : Nat) (x1 : Int32) (s : mS) : mO := if ¬ x1 = 14 then mf_275_93 N x1 s else mf_275_82 N  s
theorem mr_275_76 {X : Nat → Option zz_C} {h : zz_H} (hh : 111 ≤ h.length) {d : Nat} {N : Nat} {Q : Option Value → zz_H → Prop} {x1 : Int32} {s s' : mS} {v : Option Value} (hf : mf_275_76 N x1 s = some (s', v)) (k : Q v (mH h s')) : zz_E zp_P zt_tf zt_fd X (d + 4) zm_275 76 [(0, .ref 61), (1, .int x1)] [] (mH h s) Q := by
  unfold mf_275_76 at hf
  refine mb_275_76 hh  (fun c => ?_) (fun c => ?_)
  · rw [if_pos c] at hf
    exact mr_275_93 hh hf k
  · rw [if_neg c] at hf
    exact mr_275_82 hh hf k
def mf_275_70 (N : Nat) (rc : Nat → Int32 → mS → mO) (x1 : Int32) (s : mS) : mO := rc 0 (x1 + 1) s
theorem mr_275_70 {X : Nat → Option zz_C} {h : zz_H} (hh : 111 ≤ h.length) {d : Nat} {N : Nat} {rc : Nat → Int32 → mS → mO} (hrc0 : ∀ {Q : Option Value → zz_H → Prop} {x1 : Int32} {s s' : mS} {v : Option Value}, rc 0 x1 s = some (s', v) → Q v (mH h s') → zz_E zp_P zt_tf zt_fd X (d + 4) zm_275 48 [(0, .ref 61), (1, .int x1)] [] (mH h s) Q) {Q : Option Value → zz_H → Prop} {x1 : Int32} {s s' : mS} {v : Option Value} (hf : mf_275_70 N rc x1 s = some (s', v)) (k : Q v (mH h s')) : zz_E zp_P zt_tf zt_fd X (d + 4) zm_275 70 [(0, .ref 61), (1, .int x1)] [] (mH h s) Q := by
  unfold mf_275_70 at hf
  exact mb_275_70 hh  (hrc0 hf k)
def mf_275_56 (N : Nat) (rc : Nat → Int32 → mS → mO) (x1 : Int32) (s : mS) : mO := if ¬ (x1 < 0 ∨ 14 ≤ Int32.toNatClampNeg x1) then (if (lg_cmp ((s.2.2.2 21) (Int32.toNatClampNeg x1)) (s.2.1 7)) = 0 then mf_275_76 N x1 s else mf_275_70 N rc x1 s) else none
theorem mr_275_56 {X : Nat → Option zz_C} {h : zz_H} (hh : 111 ≤ h.length) {d : Nat} {N : Nat} {rc : Nat → Int32 → mS → mO} (hrc0 : ∀ {Q : Option Value → zz_H → Prop} {x1 : Int32} {s s' : mS} {v : Option Value}, rc 0 x1 s = some (s', v) → Q v (mH h s') → zz_E zp_P zt_tf zt_fd X (d + 4) zm_275 48 [(0, .ref 61), (1, .int x1)] [] (mH h s) Q) {Q : Option Value → zz_H → Prop} {x1 : Int32} {s s' : mS} {v : Option Value} (hf : mf_275_56 N rc x1 s = some (s', v)) (k : Q v (mH h s')) : zz_E zp_P zt_tf zt_fd X (d + 4) zm_275 56 [(0, .ref 61), (1, .int x1)] [] (mH h s) Q := by
  unfold mf_275_56 at hf
  obtain ⟨q0, hf⟩ := mo_if hf
  refine mb_275_56 hh q0 (fun c => ?_) (fun c => ?_)
  · rw [if_pos c] at hf
    exact mr_275_76 hh hf k
  · rw [if_neg c] at hf
    exact mr_275_70 hh hrc0 hf k
def mf_275_48 (N : Nat) (rc : Nat → Int32 → mS → mO) (x1 : Int32) (s : mS) : mO := if (s.1 22) ≤ x1 then mf_275_76 N x1 s else mf_275_56 N rc x1 s
theorem mr_275_48 {X : Nat → Option zz_C} {h : zz_H} (hh : 111 ≤ h.length) {d : Nat} {N : Nat} {rc : Nat → Int32 → mS → mO} (hrc0 : ∀ {Q : Option Value → zz_H → Prop} {x1 : Int32} {s s' : mS} {v : Option Value}, rc 0 x1 s = some (s', v) → Q v (mH h s') → zz_E zp_P zt_tf zt_fd X (d + 4) zm_275 48 [(0, .ref 61), (1, .int x1)] [] (mH h s) Q) {Q : Option Value → zz_H → Prop} {x1 : Int32} {s s' : mS} {v : Option Value} (hf : mf_275_48 N rc x1 s = some (s', v)) (k : Q v (mH h s')) : zz_E zp_P zt_tf zt_fd X (d + 4) zm_275 48 [(0, .ref 61), (1, .int x1)] [] (mH h s) Q := by
  unfold mf_275_48 at hf
  refine mb_275_48 hh  (fun c => ?_) (fun c => ?_)
  · rw [if_pos c] at hf
    exact mr_275_76 hh hf k
  · rw [if_neg c] at hf
    exact mr_275_56 hh hrc0 hf k
def mf_275_L7 (N : Nat) : Nat → Nat → Int32 → mS → mO
  | 0, _, _, _ => none
  | n + 1, l, x1, s => if l = 0 then mf_275_48 N (mf_275_L7 N n) x1 s else none
theorem mr_275_L7 {X : Nat → Option zz_C} {h : zz_H} (hh : 111 ≤ h.length) {d : Nat} {N : Nat} : ∀ n : Nat, (∀ {Q : Option Value → zz_H → Prop} {x1 : Int32} {s s' : mS} {v : Option Value}, mf_275_L7 N n 0 x1 s = some (s', v) → Q v (mH h s') → zz_E zp_P zt_tf zt_fd X (d + 4) zm_275 48 [(0, .ref 61), (1, .int x1)] [] (mH h s) Q) := by
  intro n
  induction n with
  | zero => exact (fun hf _ => by cases hf)
  | succ n ih =>
    have h0 := @ih
    intro Q _ s s' v hf k
    unfold mf_275_L7 at hf
    rw [if_pos rfl] at hf
    exact mr_275_48 hh h0 hf k
def mf_275_46 (N : Nat)  (s : mS) : mO := mf_275_L7 N N 0 0 s
theorem mr_275_46 {X : Nat → Option zz_C} {h : zz_H} (hh : 111 ≤ h.length) {d : Nat} {N : Nat} {Q : Option Value → zz_H → Prop}  {s s' : mS} {v : Option Value} (hf : mf_275_46 N  s = some (s', v)) (k : Q v (mH h s')) : zz_E zp_P zt_tf zt_fd X (d + 4) zm_275 46 [(0, .ref 61)] [] (mH h s) Q := by
  unfold mf_275_46 at hf
  exact mb_275_46 hh  (mr_275_L7 hh N hf k)
def mf_275_44 (N : Nat) (x1 : Int32) (s : mS) : mO := some (s, (some (.int x1)))
theorem mr_275_44 {X : Nat → Option zz_C} {h : zz_H} (hh : 111 ≤ h.length) {d : Nat} {N : Nat} {Q : Option Value → zz_H → Prop} {x1 : Int32} {s s' : mS} {v : Option Value} (hf : mf_275_44 N x1 s = some (s', v)) (k : Q v (mH h s')) : zz_E zp_P zt_tf zt_fd X (d + 4) zm_275 44 [(1, .int x1)] [] (mH h s) Q := by
  unfold mf_275_44 at hf
  cases hf
  exact mb_275_44 hh  k
def mf_275_32 (N : Nat)  (s : mS) : mO := mo_bv (mf_260 N  s) (fun s1 => mf_275_44 N ((Int64.toInt32 (s.2.1 7)) - 1) s1)
theorem mr_275_32 {X : Nat → Option zz_C} {h : zz_H} (hh : 111 ≤ h.length) {d : Nat} {N : Nat} {Q : Option Value → zz_H → Prop}  {s s' : mS} {v : Option Value} (hf : mf_275_32 N  s = some (s', v)) (k : Q v (mH h s')) : zz_E zp_P zt_tf zt_fd X (d + 4) zm_275 32 [(0, .ref 61)] [] (mH h s) Q := by
  unfold mf_275_32 at hf
  obtain ⟨s1, e, hf⟩ := mo_bv_ok hf
  exact mb_275_32 (d := d + 3) hh  (mr_260 (d := d + 0) hh e (mr_275_44 hh hf k))
def mf_275_29 (N : Nat) (y0 : Int32) (s : mS) : mO := if y0 = 0 then mf_275_46 N  s else mf_275_32 N  s
theorem mr_275_29 {X : Nat → Option zz_C} {h : zz_H} (hh : 111 ≤ h.length) {d : Nat} {N : Nat} {Q : Option Value → zz_H → Prop} {y0 : Int32} {s s' : mS} {v : Option Value} (hf : mf_275_29 N y0 s = some (s', v)) (k : Q v (mH h s')) : zz_E zp_P zt_tf zt_fd X (d + 4) zm_275 29 [(0, .ref 61)] [.int y0] (mH h s) Q := by
  unfold mf_275_29 at hf
  refine mb_275_29 hh  (fun c => ?_) (fun c => ?_)
  · rw [if_pos c] at hf
    exact mr_275_46 hh hf k
  · rw [if_neg c] at hf
    exact mr_275_32 hh hf k
def mf_275_22 (N : Nat)  (s : mS) : mO := mo_bi (mf_274 N (s.2.1 7) s) (fun s1 y => mf_275_29 N y s1)
theorem mr_275_22 {X : Nat → Option zz_C} {h : zz_H} (hh : 111 ≤ h.length) {d : Nat} {N : Nat} {Q : Option Value → zz_H → Prop}  {s s' : mS} {v : Option Value} (hf : mf_275_22 N  s = some (s', v)) (k : Q v (mH h s')) : zz_E zp_P zt_tf zt_fd X (d + 4) zm_275 22 [(0, .ref 61)] [] (mH h s) Q := by
  unfold mf_275_22 at hf
  obtain ⟨s1, y, e, hf⟩ := mo_bi_ok hf
  exact mb_275_22 (d := d + 3) hh  (mr_274 (d := d + 3) hh e (mr_275_29 hh hf k))
def mf_275_20 (N : Nat)  (s : mS) : mO := some (s, (some (.int 0)))
theorem mr_275_20 {X : Nat → Option zz_C} {h : zz_H} (hh : 111 ≤ h.length) {d : Nat} {N : Nat} {Q : Option Value → zz_H → Prop}  {s s' : mS} {v : Option Value} (hf : mf_275_20 N  s = some (s', v)) (k : Q v (mH h s')) : zz_E zp_P zt_tf zt_fd X (d + 4) zm_275 20 [] [] (mH h s) Q := by
  unfold mf_275_20 at hf
  cases hf
  exact mb_275_20 hh  k
def mf_275_16 (N : Nat)  (s : mS) : mO := mo_bv (mf_262 N  s) (fun s1 => mf_275_20 N  s1)
theorem mr_275_16 {X : Nat → Option zz_C} {h : zz_H} (hh : 111 ≤ h.length) {d : Nat} {N : Nat} {Q : Option Value → zz_H → Prop}  {s s' : mS} {v : Option Value} (hf : mf_275_16 N  s = some (s', v)) (k : Q v (mH h s')) : zz_E zp_P zt_tf zt_fd X (d + 4) zm_275 16 [(0, .ref 61)] [] (mH h s) Q := by
  unfold mf_275_16 at hf
  obtain ⟨s1, e, hf⟩ := mo_bv_ok hf
  exact mb_275_16 (d := d + 3) hh  (mr_262 (d := d + 2) hh e (mr_275_20 hh hf k))
def mf_275_13 (N : Nat) (y0 : Int32) (s : mS) : mO := if ¬ y0 = 0 then mf_275_22 N  s else mf_275_16 N  s
theorem mr_275_13 {X : Nat → Option zz_C} {h : zz_H} (hh : 111 ≤ h.length) {d : Nat} {N : Nat} {Q : Option Value → zz_H → Prop} {y0 : Int32} {s s' : mS} {v : Option Value} (hf : mf_275_13 N y0 s = some (s', v)) (k : Q v (mH h s')) : zz_E zp_P zt_tf zt_fd X (d + 4) zm_275 13 [(0, .ref 61)] [.int y0] (mH h s) Q := by
  unfold mf_275_13 at hf
  refine mb_275_13 hh  (fun c => ?_) (fun c => ?_)
  · rw [if_pos c] at hf
    exact mr_275_22 hh hf k
  · rw [if_neg c] at hf
    exact mr_275_16 hh hf k
def mf_275_9 (N : Nat)  (s : mS) : mO := mo_bi (mf_266 N  s) (fun s1 y => mf_275_13 N y s1)
theorem mr_275_9 {X : Nat → Option zz_C} {h : zz_H} (hh : 111 ≤ h.length) {d : Nat} {N : Nat} {Q : Option Value → zz_H → Prop}  {s s' : mS} {v : Option Value} (hf : mf_275_9 N  s = some (s', v)) (k : Q v (mH h s')) : zz_E zp_P zt_tf zt_fd X (d + 4) zm_275 9 [(0, .ref 61)] [] (mH h s) Q := by
  unfold mf_275_9 at hf
  obtain ⟨s1, y, e, hf⟩ := mo_bi_ok hf
  exact mb_275_9 (d := d + 3) hh  (mr_266 (d := d + 2) hh e (mr_275_13 hh hf k))
def mf_275_7 (N : Nat)  (s : mS) : mO := some (s, (some (.int 0)))
theorem mr_275_7 {X : Nat → Option zz_C} {h : zz_H} (hh : 111 ≤ h.length) {d : Nat} {N : Nat} {Q : Option Value → zz_H → Prop}  {s s' : mS} {v : Option Value} (hf : mf_275_7 N  s = some (s', v)) (k : Q v (mH h s')) : zz_E zp_P zt_tf zt_fd X (d + 4) zm_275 7 [] [] (mH h s) Q := by
  unfold mf_275_7 at hf
  cases hf
  exact mb_275_7 hh  k
def mf_275_0 (N : Nat)  (s : mS) : mO := if (s.1 9) ≤ 0 then mf_275_9 N  s else mf_275_7 N  s
theorem mr_275_0 {X : Nat → Option zz_C} {h : zz_H} (hh : 111 ≤ h.length) {d : Nat} {N : Nat} {Q : Option Value → zz_H → Prop}  {s s' : mS} {v : Option Value} (hf : mf_275_0 N  s = some (s', v)) (k : Q v (mH h s')) : zz_E zp_P zt_tf zt_fd X (d + 4) zm_275 0 [(0, .ref 61)] [] (mH h s) Q := by
  unfold mf_275_0 at hf
  refine mb_275_0 hh  (fun c => ?_) (fun c => ?_)
  · rw [if_pos c] at hf
    exact mr_275_9 hh hf k
  · rw [if_neg c] at hf
    exact mr_275_7 hh hf k
/-- name -/
def mf_275 (N : Nat)  (s : mS) : mO := mf_275_0 N  s
theorem mr_275 {X : Nat → Option zz_C} {h : zz_H} (hh : 111 ≤ h.length) {d : Nat} {N : Nat} {Q : Option Value → zz_H → Prop}  {s s' : mS} {v : Option Value} (hf : mf_275 N  s = some (s', v)) (k : Q v (mH h s')) : zz_E zp_P zt_tf zt_fd X (d + 4) zm_275 0 [(0, .ref 61)] [] (mH h s) Q := by
  unfold mf_275 at hf
  exact zz_E.weak (mr_275_0 hh hf k) rfl ⟨rfl, trivial⟩
/-! opens (I)V -/
theorem mb_268_0 {X : Nat → Option zz_C} {h : zz_H} (hh : 111 ≤ h.length) {s : mS} {d : Nat} {Q : Option Value → zz_H → Prop} {x1 : Int32} (k1 : (s.1 9) ≤ 0 → zz_E zp_P zt_tf zt_fd X d zm_268 8 [(0, .ref 61), (1, .int x1)] [] (mH h s) Q) (k2 : ¬ (s.1 9) ≤ 0 → zz_E zp_P zt_tf zt_fd X d zm_268 7 [] [] (mH h s) Q) : zz_E zp_P zt_tf zt_fd X d zm_268 0 [(0, .ref 61), (1, .int x1)] [] (mH h s) Q := by
  refine zz_E.n 1 rfl rfl rfl ?_
  refine mE_g hh 4 (v := .int (s.1 9)) rfl rfl rfl ?_
  refine zz_E.b1 8 7 (A := (s.1 9) ≤ 0) rfl rfl (by decide) rfl rfl (fun c => ?_) (fun c => ?_)
  · exact zz_E.weak (k1 c) rfl ⟨rfl, rfl, trivial⟩
  · exact zz_E.weak (k2 c) rfl trivial
theorem mb_268_7 {X : Nat → Option zz_C} {h : zz_H} (hh : 111 ≤ h.length) {s : mS} {d : Nat} {Q : Option Value → zz_H → Prop}  (k : Q none (mH h s)) : zz_E zp_P zt_tf zt_fd X d zm_268 7 [] [] (mH h s) Q := by
  refine zz_E.ret rfl rfl rfl ?_
  exact k
theorem mb_268_8 {X : Nat → Option zz_C} {h : zz_H} (hh : 111 ≤ h.length) {s : mS} {d : Nat} {Q : Option Value → zz_H → Prop} {x1 : Int32} (k : zz_E zp_P zt_tf zt_fd X d zm_263 0 [(0, .ref 61), (1, .int x1)] [] (mH h s) (fun v h' => zz_E zp_P zt_tf zt_fd X (d + 1) zm_268 13 [(0, .ref 61)] (v.toList ++ []) h' Q)) : zz_E zp_P zt_tf zt_fd X (d + 1) zm_268 8 [(0, .ref 61), (1, .int x1)] [] (mH h s) Q := by
  refine zz_E.n 9 rfl rfl rfl ?_
  refine zz_E.n 10 rfl rfl rfl ?_
  refine mE_cv hh 13 (as := []) rfl rfl (Nat.le_of_ble_eq_true rfl) (Nat.le_of_ble_eq_true rfl) rfl (Nat.le_of_ble_eq_true rfl) rfl ?_
  refine zz_E.mono k ?_
  intro v h' hE
  exact zz_E.weak hE rfl ⟨rfl, trivial⟩
theorem mb_268_13 {X : Nat → Option zz_C} {h : zz_H} (hh : 111 ≤ h.length) {s : mS} {d : Nat} {Q : Option Value → zz_H → Prop} {y0 : Int32} (k1 : ¬ y0 = 0 → zz_E zp_P zt_tf zt_fd X d zm_268 21 [(0, .ref 61)] [] (mH h s) Q) (k2 : ¬ ¬ y0 = 0 → zz_E zp_P zt_tf zt_fd X d zm_268 16 [(0, .ref 61)] [] (mH h s) Q) : zz_E zp_P zt_tf zt_fd X d zm_268 13 [(0, .ref 61)] [.int y0] (mH h s) Q := by
  refine zz_E.b1 21 16 (A := ¬ y0 = 0) rfl (zz_cond_ne _ _) (by decide) rfl rfl (fun c => ?_) (fun c => ?_)
  · exact zz_E.weak (k1 c) rfl ⟨rfl, trivial⟩
  · exact zz_E.weak (k2 c) rfl ⟨rfl, trivial⟩
theorem mb_268_16 {X : Nat → Option zz_C} {h : zz_H} (hh : 111 ≤ h.length) {s : mS} {d : Nat} {Q : Option Value → zz_H → Prop}  (k : zz_E zp_P zt_tf zt_fd X d zm_262 0 [(0, .ref 61)] [] (mH h s) (fun v h' => zz_E zp_P zt_tf zt_fd X (d + 1) zm_268 20 [] (v.toList ++ []) h' Q)) : zz_E zp_P zt_tf zt_fd X (d + 1) zm_268 16 [(0, .ref 61)] [] (mH h s) Q := by
  refine zz_E.n 17 rfl rfl rfl ?_
  refine mE_cv hh 20 (as := []) rfl rfl (Nat.le_of_ble_eq_true rfl) (Nat.le_of_ble_eq_true rfl) rfl (Nat.le_of_ble_eq_true rfl) rfl ?_
  refine zz_E.mono k ?_
  intro v h' hE
  exact zz_E.weak hE rfl trivial
theorem mb_268_20 {X : Nat → Option zz_C} {h : zz_H} (hh : 111 ≤ h.length) {s : mS} {d : Nat} {Q : Option Value → zz_H → Prop}  (k : Q none (mH h s)) : zz_E zp_P zt_tf zt_fd X d zm_268 20 [] [] (mH h s) Q := by
  refine zz_E.ret rfl rfl rfl ?_
  exact k
theorem mb_268_21 {X : Nat → Option zz_C} {h : zz_H} (hh : 111 ≤ h.length) {s : mS} {d : Nat} {Q : Option Value → zz_H → Prop}  (k1 : ((s.1 11) + 1) ≤ 10 → zz_E zp_P zt_tf zt_fd X d zm_268 52 [(0, .ref 61)] [] (mH h (mI s 11 ((s.1 11) + 1))) Q) (k2 : ¬ ((s.1 11) + 1) ≤ 10 → zz_E zp_P zt_tf zt_fd X d zm_268 40 [(0, .ref 61)] [] (mH h (mI s 11 ((s.1 11) + 1))) Q) : zz_E zp_P zt_tf zt_fd X d zm_268 21 [(0, .ref 61)] [] (mH h s) Q := by
  refine zz_E.n 22 rfl rfl rfl ?_
  refine zz_E.n 23 rfl rfl rfl ?_
  refine mE_g hh 26 (v := .int (s.1 11)) rfl rfl rfl ?_
  refine zz_E.c 27 (.int 1) rfl rfl rfl rfl ?_
  refine zz_E.n 28 rfl rfl rfl ?_
  refine mE_p hh 31 rfl (by decide) rfl (mF_11 _ _) rfl ?_
  refine zz_E.n 32 rfl rfl rfl ?_
  refine mE_g hh 35 (v := .int ((s.1 11) + 1)) rfl rfl rfl ?_
  refine zz_E.c 37 (.int 10) rfl rfl rfl rfl ?_
  refine zz_E.b2 52 40 (A := ((s.1 11) + 1) ≤ 10) rfl rfl (by decide) rfl rfl (fun c => ?_) (fun c => ?_)
  · exact zz_E.weak (k1 c) rfl ⟨rfl, trivial⟩
  · exact zz_E.weak (k2 c) rfl ⟨rfl, trivial⟩
theorem mb_268_40 {X : Nat → Option zz_C} {h : zz_H} (hh : 111 ≤ h.length) {s : mS} {d : Nat} {Q : Option Value → zz_H → Prop}  (k : zz_E zp_P zt_tf zt_fd X d zm_261 0 [(0, .ref 61), (1, .int 3), (2, .int (s.1 6))] [] (mH h s) (fun v h' => zz_E zp_P zt_tf zt_fd X (d + 1) zm_268 49 [] (v.toList ++ []) h' Q)) : zz_E zp_P zt_tf zt_fd X (d + 1) zm_268 40 [(0, .ref 61)] [] (mH h s) Q := by
  refine zz_E.n 41 rfl rfl rfl ?_
  refine zz_E.c 42 (.int 3) rfl rfl rfl rfl ?_
  refine zz_E.n 43 rfl rfl rfl ?_
  refine mE_g hh 46 (v := .int (s.1 6)) rfl rfl rfl ?_
  refine mE_cv hh 49 (as := []) rfl rfl (Nat.le_of_ble_eq_true rfl) (Nat.le_of_ble_eq_true rfl) rfl (Nat.le_of_ble_eq_true rfl) rfl ?_
  refine zz_E.mono k ?_
  intro v h' hE
  exact zz_E.weak hE rfl trivial
theorem mb_268_49 {X : Nat → Option zz_C} {h : zz_H} (hh : 111 ≤ h.length) {s : mS} {d : Nat} {Q : Option Value → zz_H → Prop}  (k : zz_E zp_P zt_tf zt_fd X d zm_268 56 [] [] (mH h s) Q) : zz_E zp_P zt_tf zt_fd X d zm_268 49 [] [] (mH h s) Q := by
  refine zz_E.n 56 rfl rfl rfl ?_
  exact zz_E.weak k rfl trivial
theorem mb_268_52 {X : Nat → Option zz_C} {h : zz_H} (hh : 111 ≤ h.length) {s : mS} {d : Nat} {Q : Option Value → zz_H → Prop}  (k : zz_E zp_P zt_tf zt_fd X d zm_260 0 [(0, .ref 61)] [] (mH h s) (fun v h' => zz_E zp_P zt_tf zt_fd X (d + 1) zm_268 56 [] (v.toList ++ []) h' Q)) : zz_E zp_P zt_tf zt_fd X (d + 1) zm_268 52 [(0, .ref 61)] [] (mH h s) Q := by
  refine zz_E.n 53 rfl rfl rfl ?_
  refine mE_cv hh 56 (as := []) rfl rfl (Nat.le_of_ble_eq_true rfl) (Nat.le_of_ble_eq_true rfl) rfl (Nat.le_of_ble_eq_true rfl) rfl ?_
  refine zz_E.mono k ?_
  intro v h' hE
  exact zz_E.weak hE rfl trivial
theorem mb_268_56 {X : Nat → Option zz_C} {h : zz_H} (hh : 111 ≤ h.length) {s : mS} {d : Nat} {Q : Option Value → zz_H → Prop}  (k : Q none (mH h s)) : zz_E zp_P zt_tf zt_fd X d zm_268 56 [] [] (mH h s) Q := by
  refine zz_E.ret rfl rfl rfl ?_
  exact k
def mf_268_56 (N : Nat)  (s : mS) : mO := some (s, none)
theorem mr_268_56 {X : Nat → Option zz_C} {h : zz_H} (hh : 111 ≤ h.length) {d : Nat} {N : Nat} {Q : Option Value → zz_H → Prop}  {s s' : mS} {v : Option Value} (hf : mf_268_56 N  s = some (s', v)) (k : Q v (mH h s')) : zz_E zp_P zt_tf zt_fd X (d + 4) zm_268 56 [] [] (mH h s) Q := by
  unfold mf_268_56 at hf
  cases hf
  exact mb_268_56 hh  k
def mf_268_52 (N : Nat)  (s : mS) : mO := mo_bv (mf_260 N  s) (fun s1 => mf_268_56 N  s1)
theorem mr_268_52 {X : Nat → Option zz_C} {h : zz_H} (hh : 111 ≤ h.length) {d : Nat} {N : Nat} {Q : Option Value → zz_H → Prop}  {s s' : mS} {v : Option Value} (hf : mf_268_52 N  s = some (s', v)) (k : Q v (mH h s')) : zz_E zp_P zt_tf zt_fd X (d + 4) zm_268 52 [(0, .ref 61)] [] (mH h s) Q := by
  unfold mf_268_52 at hf
  obtain ⟨s1, e, hf⟩ := mo_bv_ok hf
  exact mb_268_52 (d := d + 3) hh  (mr_260 (d := d + 0) hh e (mr_268_56 hh hf k))
def mf_268_49 (N : Nat)  (s : mS) : mO := mf_268_56 N  s
theorem mr_268_49 {X : Nat → Option zz_C} {h : zz_H} (hh : 111 ≤ h.length) {d : Nat} {N : Nat} {Q : Option Value → zz_H → Prop}  {s s' : mS} {v : Option Value} (hf : mf_268_49 N  s = some (s', v)) (k : Q v (mH h s')) : zz_E zp_P zt_tf zt_fd X (d + 4) zm_268 49 [] [] (mH h s) Q := by
  unfold mf_268_49 at hf
  exact mb_268_49 hh  (mr_268_56 hh hf k)
def mf_268_40 (N : Nat)  (s : mS) : mO := mo_bv (mf_261 N 3 (s.1 6) s) (fun s1 => mf_268_49 N  s1)
theorem mr_268_40 {X : Nat → Option zz_C} {h : zz_H} (hh : 111 ≤ h.length) {d : Nat} {N : Nat} {Q : Option Value → zz_H → Prop}  {s s' : mS} {v : Option Value} (hf : mf_268_40 N  s = some (s', v)) (k : Q v (mH h s')) : zz_E zp_P zt_tf zt_fd X (d + 4) zm_268 40 [(0, .ref 61)] [] (mH h s) Q := by
  unfold mf_268_40 at hf
  obtain ⟨s1, e, hf⟩ := mo_bv_ok hf
  exact mb_268_40 (d := d + 3) hh  (mr_261 (d := d + 3) hh e (mr_268_49 hh hf k))
def mf_268_21 (N : Nat)  (s : mS) : mO := if ((s.1 11) + 1) ≤ 10 then mf_268_52 N  (mI s 11 ((s.1 11) + 1)) else mf_268_40 N  (mI s 11 ((s.1 11) + 1))
theorem mr_268_21 {X : Nat → Option zz_C} {h : zz_H} (hh : 111 ≤ h.length) {d : Nat} {N : Nat} {Q : Option Value → zz_H → Prop}  {s s' : mS} {v : Option Value} (hf : mf_268_21 N  s = some (s', v)) (k : Q v (mH h s')) : zz_E zp_P zt_tf zt_fd X (d + 4) zm_268 21 [(0, .ref 61)] [] (mH h s) Q := by
  unfold mf_268_21 at hf
  refine mb_268_21 hh  (fun c => ?_) (fun c => ?_)
  · rw [if_pos c] at hf
    exact mr_268_52 hh hf k
  · rw [if_neg c] at hf
    exact mr_268_40 hh hf k
def mf_268_20 (N : Nat)  (s : mS) : mO := some (s, none)
theorem mr_268_20 {X : Nat → Option zz_C} {h : zz_H} (hh : 111 ≤ h.length) {d : Nat} {N : Nat} {Q : Option Value → zz_H → Prop}  {s s' : mS} {v : Option Value} (hf : mf_268_20 N  s = some (s', v)) (k : Q v (mH h s')) : zz_E zp_P zt_tf zt_fd X (d + 4) zm_268 20 [] [] (mH h s) Q := by
  unfold mf_268_20 at hf
  cases hf
  exact mb_268_20 hh  k
def mf_268_16 (N : Nat)  (s : mS) : mO := mo_bv (mf_262 N  s) (fun s1 => mf_268_20 N  s1)
theorem mr_268_16 {X : Nat → Option zz_C} {h : zz_H} (hh : 111 ≤ h.length) {d : Nat} {N : Nat} {Q : Option Value → zz_H → Prop}  {s s' : mS} {v : Option Value} (hf : mf_268_16 N  s = some (s', v)) (k : Q v (mH h s')) : zz_E zp_P zt_tf zt_fd X (d + 4) zm_268 16 [(0, .ref 61)] [] (mH h s) Q := by
  unfold mf_268_16 at hf
  obtain ⟨s1, e, hf⟩ := mo_bv_ok hf
  exact mb_268_16 (d := d + 3) hh  (mr_262 (d := d + 2) hh e (mr_268_20 hh hf k))
def mf_268_13 (N : Nat) (y0 : Int32) (s : mS) : mO := if ¬ y0 = 0 then mf_268_21 N  s else mf_268_16 N  s
theorem mr_268_13 {X : Nat → Option zz_C} {h : zz_H} (hh : 111 ≤ h.length) {d : Nat} {N : Nat} {Q : Option Value → zz_H → Prop} {y0 : Int32} {s s' : mS} {v : Option Value} (hf : mf_268_13 N y0 s = some (s', v)) (k : Q v (mH h s')) : zz_E zp_P zt_tf zt_fd X (d + 4) zm_268 13 [(0, .ref 61)] [.int y0] (mH h s) Q := by
  unfold mf_268_13 at hf
  refine mb_268_13 hh  (fun c => ?_) (fun c => ?_)
  · rw [if_pos c] at hf
    exact mr_268_21 hh hf k
  · rw [if_neg c] at hf
    exact mr_268_16 hh hf k
def mf_268_8 (N : Nat) (x1 : Int32) (s : mS) : mO := mo_bi (mf_263 N x1 s) (fun s1 y => mf_268_13 N y s1)
theorem mr_268_8 {X : Nat → Option zz_C} {h : zz_H} (hh : 111 ≤ h.length) {d : Nat} {N : Nat} {Q : Option Value → zz_H → Prop} {x1 : Int32} {s s' : mS} {v : Option Value} (hf : mf_268_8 N x1 s = some (s', v)) (k : Q v (mH h s')) : zz_E zp_P zt_tf zt_fd X (d + 4) zm_268 8 [(0, .ref 61), (1, .int x1)] [] (mH h s) Q := by
  unfold mf_268_8 at hf
  obtain ⟨s1, y, e, hf⟩ := mo_bi_ok hf
  exact mb_268_8 (d := d + 3) hh  (mr_263 (d := d + 3) hh e (mr_268_13 hh hf k))
def mf_268_7 (N : Nat)  (s : mS) : mO := some (s, none)
theorem mr_268_7 {X : Nat → Option zz_C} {h : zz_H} (hh : 111 ≤ h.length) {d : Nat} {N : Nat} {Q : Option Value → zz_H → Prop}  {s s' : mS} {v : Option Value} (hf : mf_268_7 N  s = some (s', v)) (k : Q v (mH h s')) : zz_E zp_P zt_tf zt_fd X (d + 4) zm_268 7 [] [] (mH h s) Q := by
  unfold mf_268_7 at hf
  cases hf
  exact mb_268_7 hh  k
def mf_268_0 (N : Nat) (x1 : Int32) (s : mS) : mO := if (s.1 9) ≤ 0 then mf_268_8 N x1 s else mf_268_7 N  s
theorem mr_268_0 {X : Nat → Option zz_C} {h : zz_H} (hh : 111 ≤ h.length) {d : Nat} {N : Nat} {Q : Option Value → zz_H → Prop} {x1 : Int32} {s s' : mS} {v : Option Value} (hf : mf_268_0 N x1 s = some (s', v)) (k : Q v (mH h s')) : zz_E zp_P zt_tf zt_fd X (d + 4) zm_268 0 [(0, .ref 61), (1, .int x1)] [] (mH h s) Q := by
  unfold mf_268_0 at hf
  refine mb_268_0 hh  (fun c => ?_) (fun c => ?_)
  · rw [if_pos c] at hf
    exact mr_268_8 hh hf k
  · rw [if_neg c] at hf
    exact mr_268_7 hh hf k
/-- opens -/
def mf_268 (N : Nat) (x1 : Int32) (s : mS) : mO := mf_268_0 N x1 s
theorem mr_268 {X : Nat → Option zz_C} {h : zz_H} (hh : 111 ≤ h.length) {d : Nat} {N : Nat} {Q : Option Value → zz_H → Prop} {x1 : Int32} {s s' : mS} {v : Option Value} (hf : mf_268 N x1 s = some (s', v)) (k : Q v (mH h s')) : zz_E zp_P zt_tf zt_fd X (d + 4) zm_268 0 [(0, .ref 61), (1, .int x1)] [] (mH h s) Q := by
  unfold mf_268 at hf
  exact zz_E.weak (mr_268_0 hh hf k) rfl ⟨rfl, rfl, trivial⟩
/-! block (III)V -/
theorem mb_276_0 {X : Nat → Option zz_C} {h : zz_H} (hh : 111 ≤ h.length) {s : mS} {d : Nat} {Q : Option Value → zz_H → Prop} {x1 : Int32} {x2 : Int32} {x3 : Int32} (k : zz_E zp_P zt_tf zt_fd X d zm_268 0 [(0, .ref 61), (1, .int 123)] [] (mH h s) (fun v h' => zz_E zp_P zt_tf zt_fd X (d + 1) zm_276 6 [(0, .ref 61), (1, .int x1), (2, .int x2), (3, .int x3)] (v.toList ++ []) h' Q)) : zz_E zp_P zt_tf zt_fd X (d + 1) zm_276 0 [(0, .ref 61), (1, .int x1), (2, .int x2), (3, .int x3)] [] (mH h s) Q := by
  refine zz_E.n 1 rfl rfl rfl ?_
  refine zz_E.c 3 (.int 123) rfl rfl rfl rfl ?_
  refine mE_cv hh 6 (as := []) rfl rfl (Nat.le_of_ble_eq_true rfl) (Nat.le_of_ble_eq_true rfl) rfl (Nat.le_of_ble_eq_true rfl) rfl ?_
  refine zz_E.mono k ?_
  intro v h' hE
  exact zz_E.weak hE rfl ⟨rfl, rfl, rfl, rfl, trivial⟩
theorem mb_276_6 {X : Nat → Option zz_C} {h : zz_H} (hh : 111 ≤ h.length) {s : mS} {d : Nat} {Q : Option Value → zz_H → Prop} {x1 : Int32} {x2 : Int32} {x3 : Int32} (i15 : ¬ ((s.1 37) < 0 ∨ 12 ≤ Int32.toNatClampNeg (s.1 37))) (i25 : ¬ ((s.1 37) < 0 ∨ 12 ≤ Int32.toNatClampNeg (s.1 37))) (i35 : ¬ ((s.1 37) < 0 ∨ 12 ≤ Int32.toNatClampNeg (s.1 37))) (k : Q none (mH h (mI (mA (mA (mA s 34 (upd (s.2.2.1 34) (Int32.toNatClampNeg (s.1 37)) x1)) 35 (upd (s.2.2.1 35) (Int32.toNatClampNeg (s.1 37)) x2)) 36 (upd (s.2.2.1 36) (Int32.toNatClampNeg (s.1 37)) x3)) 37 ((s.1 37) + 1)))) : zz_E zp_P zt_tf zt_fd X d zm_276 6 [(0, .ref 61), (1, .int x1), (2, .int x2), (3, .int x3)] [] (mH h s) Q := by
  refine zz_E.n 7 rfl rfl rfl ?_
  refine mE_g hh 10 (v := .ref 80) rfl rfl rfl ?_
  refine zz_E.n 11 rfl rfl rfl ?_
  refine mE_g hh 14 (v := .int (s.1 37)) rfl rfl rfl ?_
  refine zz_E.n 15 rfl rfl rfl ?_
  refine mE_is hh 16 19 (f := (s.2.2.1 34)) rfl (by decide) rfl rfl i15 (mA_80 _ _) rfl ?_
  refine zz_E.n 17 rfl rfl rfl ?_
  refine mE_g hh 20 (v := .ref 81) rfl rfl rfl ?_
  refine zz_E.n 21 rfl rfl rfl ?_
  refine mE_g hh 24 (v := .int (s.1 37)) rfl rfl rfl ?_
  refine zz_E.n 25 rfl rfl rfl ?_
  refine mE_is hh 26 20 (f := (s.2.2.1 35)) rfl (by decide) rfl rfl i25 (mA_81 _ _) rfl ?_
  refine zz_E.n 27 rfl rfl rfl ?_
  refine mE_g hh 30 (v := .ref 82) rfl rfl rfl ?_
  refine zz_E.n 31 rfl rfl rfl ?_
  refine mE_g hh 34 (v := .int (s.1 37)) rfl rfl rfl ?_
  refine zz_E.n 35 rfl rfl rfl ?_
  refine mE_is hh 36 21 (f := (s.2.2.1 36)) rfl (by decide) rfl rfl i35 (mA_82 _ _) rfl ?_
  refine zz_E.n 37 rfl rfl rfl ?_
  refine zz_E.n 38 rfl rfl rfl ?_
  refine mE_g hh 41 (v := .int (s.1 37)) rfl rfl rfl ?_
  refine zz_E.c 42 (.int 1) rfl rfl rfl rfl ?_
  refine zz_E.n 43 rfl rfl rfl ?_
  refine mE_p hh 46 rfl (by decide) rfl (mF_37 _ _) rfl ?_
  refine zz_E.ret rfl rfl rfl ?_
  exact k
def mf_276_6 (N : Nat) (x1 : Int32) (x2 : Int32) (x3 : Int32) (s : mS) : mO := if ¬ ((s.1 37) < 0 ∨ 12 ≤ Int32.toNatClampNeg (s.1 37)) then (if ¬ ((s.1 37) < 0 ∨ 12 ≤ Int32.toNatClampNeg (s.1 37)) then (if ¬ ((s.1 37) < 0 ∨ 12 ≤ Int32.toNatClampNeg (s.1 37)) then (some ((mI (mA (mA (mA s 34 (upd (s.2.2.1 34) (Int32.toNatClampNeg (s.1 37)) x1)) 35 (upd (s.2.2.1 35) (Int32.toNatClampNeg (s.1 37)) x2)) 36 (upd (s.2.2.1 36) (Int32.toNatClampNeg (s.1 37)) x3)) 37 ((s.1 37) + 1)), none)) else none) else none) else none
theorem mr_276_6 {X : Nat → Option zz_C} {h : zz_H} (hh : 111 ≤ h.length) {d : Nat} {N : Nat} {Q : Option Value → zz_H → Prop} {x1 : Int32} {x2 : Int32} {x3 : Int32} {s s' : mS} {v : Option Value} (hf : mf_276_6 N x1 x2 x3 s = some (s', v)) (k : Q v (mH h s')) : zz_E zp_P zt_tf zt_fd X (d + 5) zm_276 6 [(0, .ref 61), (1, .int x1), (2, .int x2), (3, .int x3)] [] (mH h s) Q := by
  unfold mf_276_6 at hf
  obtain ⟨q0, hf⟩ := mo_if hf
  obtain ⟨q1, hf⟩ := mo_if hf
  obtain ⟨q2, hf⟩ := mo_if hf
  cases hf
  exact mb_276_6 hh q0 q1 q2 k
def mf_276_0 (N : Nat) (x1 : Int32) (x2 : Int32) (x3 : Int32) (s : mS) : mO := mo_bv (mf_268 N 123 s) (fun s1 => mf_276_6 N x1 x2 x3 s1)
theorem mr_276_0 {X : Nat → Option zz_C} {h : zz_H} (hh : 111 ≤ h.length) {d : Nat} {N : Nat} {Q : Option Value → zz_H → Prop} {x1 : Int32} {x2 : Int32} {x3 : Int32} {s s' : mS} {v : Option Value} (hf : mf_276_0 N x1 x2 x3 s = some (s', v)) (k : Q v (mH h s')) : zz_E zp_P zt_tf zt_fd X (d + 5) zm_276 0 [(0, .ref 61), (1, .int x1), (2, .int x2), (3, .int x3)] [] (mH h s) Q := by
  unfold mf_276_0 at hf
  obtain ⟨s1, e, hf⟩ := mo_bv_ok hf
  exact mb_276_0 (d := d + 4) hh  (mr_268 (d := d + 0) hh e (mr_276_6 hh hf k))
/-- block -/
def mf_276 (N : Nat) (x1 : Int32) (x2 : Int32) (x3 : Int32) (s : mS) : mO := mf_276_0 N x1 x2 x3 s
theorem mr_276 {X : Nat → Option zz_C} {h : zz_H} (hh : 111 ≤ h.length) {d : Nat} {N : Nat} {Q : Option Value → zz_H → Prop} {x1 : Int32} {x2 : Int32} {x3 : Int32} {s s' : mS} {v : Option Value} (hf : mf_276 N x1 x2 x3 s = some (s', v)) (k : Q v (mH h s')) : zz_E zp_P zt_tf zt_fd X (d + 5) zm_276 0 [(0, .ref 61), (1, .int x1), (2, .int x2), (3, .int x3)] [] (mH h s) Q := by
  unfold mf_276 at hf
  exact zz_E.weak (mr_276_0 hh hf k) rfl ⟨rfl, rfl, rfl, rfl, trivial⟩
/-! closes ()V -/
theorem mb_278_0 {X : Nat → Option zz_C} {h : zz_H} (hh : 111 ≤ h.length) {s : mS} {d : Nat} {Q : Option Value → zz_H → Prop}  (k : zz_E zp_P zt_tf zt_fd X d zm_267 0 [(0, .ref 61), (1, .int 125)] [] (mH h s) (fun v h' => zz_E zp_P zt_tf zt_fd X (d + 1) zm_278 6 [(0, .ref 61)] (v.toList ++ []) h' Q)) : zz_E zp_P zt_tf zt_fd X (d + 1) zm_278 0 [(0, .ref 61)] [] (mH h s) Q := by
  refine zz_E.n 1 rfl rfl rfl ?_
  refine zz_E.c 3 (.int 125) rfl rfl rfl rfl ?_
  refine mE_cv hh 6 (as := []) rfl rfl (Nat.le_of_ble_eq_true rfl) (Nat.le_of_ble_eq_true rfl) rfl (Nat.le_of_ble_eq_true rfl) rfl ?_
  refine zz_E.mono k ?_
  intro v h' hE
  exact zz_E.weak hE rfl ⟨rfl, trivial⟩
theorem mb_278_6 {X : Nat → Option zz_C} {h : zz_H} (hh : 111 ≤ h.length) {s : mS} {d : Nat} {Q : Option Value → zz_H → Prop}  (i24 : ¬ (((s.1 37) - 1) < 0 ∨ 12 ≤ Int32.toNatClampNeg ((s.1 37) - 1))) (i34 : ¬ (((s.1 37) - 1) < 0 ∨ 12 ≤ Int32.toNatClampNeg ((s.1 37) - 1))) (c0 : ((s.2.2.1 34) (Int32.toNatClampNeg ((s.1 37) - 1))) = 0 → zz_E zp_P zt_tf zt_fd X d zm_278 72 [(0, .ref 61), (1, .int ((s.2.2.1 35) (Int32.toNatClampNeg ((s.1 37) - 1))))] [] (mH h (mI s 37 ((s.1 37) - 1))) Q) (c1 : ((s.2.2.1 34) (Int32.toNatClampNeg ((s.1 37) - 1))) = 1 → zz_E zp_P zt_tf zt_fd X d zm_278 102 [(0, .ref 61), (1, .int ((s.2.2.1 35) (Int32.toNatClampNeg ((s.1 37) - 1))))] [] (mH h (mI s 37 ((s.1 37) - 1))) Q) (c2 : ((s.2.2.1 34) (Int32.toNatClampNeg ((s.1 37) - 1))) = 2 → zz_E zp_P zt_tf zt_fd X d zm_278 239 [(0, .ref 61), (1, .int ((s.2.2.1 35) (Int32.toNatClampNeg ((s.1 37) - 1))))] [] (mH h (mI s 37 ((s.1 37) - 1))) Q) (c3 : ((s.2.2.1 34) (Int32.toNatClampNeg ((s.1 37) - 1))) = 3 → zz_E zp_P zt_tf zt_fd X d zm_278 155 [(0, .ref 61), (1, .int ((s.2.2.1 35) (Int32.toNatClampNeg ((s.1 37) - 1))))] [] (mH h (mI s 37 ((s.1 37) - 1))) Q) (c4 : ((s.2.2.1 34) (Int32.toNatClampNeg ((s.1 37) - 1))) = 4 → zz_E zp_P zt_tf zt_fd X d zm_278 155 [(0, .ref 61), (1, .int ((s.2.2.1 35) (Int32.toNatClampNeg ((s.1 37) - 1))))] [] (mH h (mI s 37 ((s.1 37) - 1))) Q) (c5 : ((s.2.2.1 34) (Int32.toNatClampNeg ((s.1 37) - 1))) = 5 → zz_E zp_P zt_tf zt_fd X d zm_278 184 [(0, .ref 61), (1, .int ((s.2.2.1 35) (Int32.toNatClampNeg ((s.1 37) - 1))))] [] (mH h (mI s 37 ((s.1 37) - 1))) Q) (kd : (Int32.toInt ((s.2.2.1 34) (Int32.toNatClampNeg ((s.1 37) - 1))) < 0 ∨ 5 < Int32.toInt ((s.2.2.1 34) (Int32.toNatClampNeg ((s.1 37) - 1)))) → zz_E zp_P zt_tf zt_fd X d zm_278 239 [(0, .ref 61), (1, .int ((s.2.2.1 35) (Int32.toNatClampNeg ((s.1 37) - 1))))] [] (mH h (mI s 37 ((s.1 37) - 1))) Q) : zz_E zp_P zt_tf zt_fd X d zm_278 6 [(0, .ref 61)] [] (mH h s) Q := by
  refine zz_E.n 7 rfl rfl rfl ?_
  refine zz_E.n 8 rfl rfl rfl ?_
  refine mE_g hh 11 (v := .int (s.1 37)) rfl rfl rfl ?_
  refine zz_E.c 12 (.int 1) rfl rfl rfl rfl ?_
  refine zz_E.n 13 rfl rfl rfl ?_
  refine mE_p hh 16 rfl (by decide) rfl (mF_37 _ _) rfl ?_
  refine zz_E.n 17 rfl rfl rfl ?_
  refine mE_g hh 20 (v := .ref 81) rfl rfl rfl ?_
  refine zz_E.n 21 rfl rfl rfl ?_
  refine mE_g hh 24 (v := .int ((s.1 37) - 1)) rfl rfl rfl ?_
  refine mE_ia hh 25 20 (f := (s.2.2.1 35)) rfl (by decide) rfl rfl i24 rfl ?_
  refine zz_E.n 26 rfl rfl rfl ?_
  refine zz_E.n 27 rfl rfl rfl ?_
  refine mE_g hh 30 (v := .ref 80) rfl rfl rfl ?_
  refine zz_E.n 31 rfl rfl rfl ?_
  refine mE_g hh 34 (v := .int ((s.1 37) - 1)) rfl rfl rfl ?_
  refine mE_ia hh 35 19 (f := (s.2.2.1 34)) rfl (by decide) rfl rfl i34 rfl ?_
  by_cases hx : Int32.toInt ((s.2.2.1 34) (Int32.toNatClampNeg ((s.1 37) - 1))) < 0 ∨ 5 < Int32.toInt ((s.2.2.1 34) (Int32.toNatClampNeg ((s.1 37) - 1)))
  · exact zz_E.td 239 rfl hx (by decide) rfl (zz_E.weak (kd hx) rfl ⟨rfl, rfl, trivial⟩)
  · have hv : Int32.toInt ((s.2.2.1 34) (Int32.toNatClampNeg ((s.1 37) - 1))) = 0 ∨ Int32.toInt ((s.2.2.1 34) (Int32.toNatClampNeg ((s.1 37) - 1))) = 1 ∨ Int32.toInt ((s.2.2.1 34) (Int32.toNatClampNeg ((s.1 37) - 1))) = 2 ∨ Int32.toInt ((s.2.2.1 34) (Int32.toNatClampNeg ((s.1 37) - 1))) = 3 ∨ Int32.toInt ((s.2.2.1 34) (Int32.toNatClampNeg ((s.1 37) - 1))) = 4 ∨ Int32.toInt ((s.2.2.1 34) (Int32.toNatClampNeg ((s.1 37) - 1))) = 5 := by omega
    rcases hv with hv | hv | hv | hv | hv | hv
    · have e : ((s.2.2.1 34) (Int32.toNatClampNeg ((s.1 37) - 1))) = 0 := Int32.toInt_inj.mp (hv.trans rfl)
      exact zz_E.tv 72 rfl e rfl (zz_E.weak (c0 e) rfl ⟨rfl, rfl, trivial⟩)
    · have e : ((s.2.2.1 34) (Int32.toNatClampNeg ((s.1 37) - 1))) = 1 := Int32.toInt_inj.mp (hv.trans rfl)
      exact zz_E.tv 102 rfl e rfl (zz_E.weak (c1 e) rfl ⟨rfl, rfl, trivial⟩)
    · have e : ((s.2.2.1 34) (Int32.toNatClampNeg ((s.1 37) - 1))) = 2 := Int32.toInt_inj.mp (hv.trans rfl)
      exact zz_E.tv 239 rfl e rfl (zz_E.weak (c2 e) rfl ⟨rfl, rfl, trivial⟩)
    · have e : ((s.2.2.1 34) (Int32.toNatClampNeg ((s.1 37) - 1))) = 3 := Int32.toInt_inj.mp (hv.trans rfl)
      exact zz_E.tv 155 rfl e rfl (zz_E.weak (c3 e) rfl ⟨rfl, rfl, trivial⟩)
    · have e : ((s.2.2.1 34) (Int32.toNatClampNeg ((s.1 37) - 1))) = 4 := Int32.toInt_inj.mp (hv.trans rfl)
      exact zz_E.tv 155 rfl e rfl (zz_E.weak (c4 e) rfl ⟨rfl, rfl, trivial⟩)
    · have e : ((s.2.2.1 34) (Int32.toNatClampNeg ((s.1 37) - 1))) = 5 := Int32.toInt_inj.mp (hv.trans rfl)
      exact zz_E.tv 184 rfl e rfl (zz_E.weak (c5 e) rfl ⟨rfl, rfl, trivial⟩)
theorem mb_278_72 {X : Nat → Option zz_C} {h : zz_H} (hh : 111 ≤ h.length) {s : mS} {d : Nat} {Q : Option Value → zz_H → Prop} {x1 : Int32} (k : zz_E zp_P zt_tf zt_fd X d zm_271 0 [(0, .ref 61), (1, .int 2), (2, .int 0), (3, .int 0), (4, .int 0)] [] (mH h s) (fun v h' => zz_E zp_P zt_tf zt_fd X (d + 1) zm_278 80 [(0, .ref 61), (1, .int x1)] (v.toList ++ []) h' Q)) : zz_E zp_P zt_tf zt_fd X (d + 1) zm_278 72 [(0, .ref 61), (1, .int x1)] [] (mH h s) Q := by
  refine zz_E.n 73 rfl rfl rfl ?_
  refine zz_E.c 74 (.int 2) rfl rfl rfl rfl ?_
  refine zz_E.c 75 (.int 0) rfl rfl rfl rfl ?_
  refine zz_E.c 76 (.int 0) rfl rfl rfl rfl ?_
  refine zz_E.c 77 (.int 0) rfl rfl rfl rfl ?_
  refine mE_cv hh 80 (as := []) rfl rfl (Nat.le_of_ble_eq_true rfl) (Nat.le_of_ble_eq_true rfl) rfl (Nat.le_of_ble_eq_true rfl) rfl ?_
  refine zz_E.mono k ?_
  intro v h' hE
  exact zz_E.weak hE rfl ⟨rfl, rfl, trivial⟩
theorem mb_278_80 {X : Nat → Option zz_C} {h : zz_H} (hh : 111 ≤ h.length) {s : mS} {d : Nat} {Q : Option Value → zz_H → Prop} {x1 : Int32} {y0 : Int32} (k : zz_E zp_P zt_tf zt_fd X d zm_271 0 [(0, .ref 61), (1, .int 20), (2, .int 0), (3, .int 0), (4, .int 0)] [] (mH h s) (fun v h' => zz_E zp_P zt_tf zt_fd X (d + 1) zm_278 90 [(0, .ref 61), (1, .int x1)] (v.toList ++ []) h' Q)) : zz_E zp_P zt_tf zt_fd X (d + 1) zm_278 80 [(0, .ref 61), (1, .int x1)] [.int y0] (mH h s) Q := by
  refine zz_E.n 81 rfl rfl rfl ?_
  refine zz_E.n 82 rfl rfl rfl ?_
  refine zz_E.c 84 (.int 20) rfl rfl rfl rfl ?_
  refine zz_E.c 85 (.int 0) rfl rfl rfl rfl ?_
  refine zz_E.c 86 (.int 0) rfl rfl rfl rfl ?_
  refine zz_E.c 87 (.int 0) rfl rfl rfl rfl ?_
  refine mE_cv hh 90 (as := []) rfl rfl (Nat.le_of_ble_eq_true rfl) (Nat.le_of_ble_eq_true rfl) rfl (Nat.le_of_ble_eq_true rfl) rfl ?_
  refine zz_E.mono k ?_
  intro v h' hE
  exact zz_E.weak hE rfl ⟨rfl, rfl, trivial⟩
theorem mb_278_90 {X : Nat → Option zz_C} {h : zz_H} (hh : 111 ≤ h.length) {s : mS} {d : Nat} {Q : Option Value → zz_H → Prop} {x1 : Int32} {y0 : Int32} (i100 : ¬ (x1 < 0 ∨ 24 ≤ Int32.toNatClampNeg x1)) (k : Q none (mH h (mA s 19 (upd (s.2.2.1 19) (Int32.toNatClampNeg x1) (s.1 22))))) : zz_E zp_P zt_tf zt_fd X d zm_278 90 [(0, .ref 61), (1, .int x1)] [.int y0] (mH h s) Q := by
  refine zz_E.n 91 rfl rfl rfl ?_
  refine zz_E.n 92 rfl rfl rfl ?_
  refine mE_g hh 95 (v := .ref 68) rfl rfl rfl ?_
  refine zz_E.n 96 rfl rfl rfl ?_
  refine zz_E.n 97 rfl rfl rfl ?_
  refine mE_g hh 100 (v := .int (s.1 22)) rfl rfl rfl ?_
  refine mE_is hh 101 7 (f := (s.2.2.1 19)) rfl (by decide) rfl rfl i100 (mA_68 _ _) rfl ?_
  refine zz_E.ret rfl rfl rfl ?_
  exact k
theorem mb_278_102 {X : Nat → Option zz_C} {h : zz_H} (hh : 111 ≤ h.length) {s : mS} {d : Nat} {Q : Option Value → zz_H → Prop} {x1 : Int32} (k : zz_E zp_P zt_tf zt_fd X d zm_264 0 [(0, .ref 61), (1, .int 2)] [] (mH h s) (fun v h' => zz_E zp_P zt_tf zt_fd X (d + 1) zm_278 107 [(0, .ref 61), (1, .int x1)] (v.toList ++ []) h' Q)) : zz_E zp_P zt_tf zt_fd X (d + 1) zm_278 102 [(0, .ref 61), (1, .int x1)] [] (mH h s) Q := by
  refine zz_E.n 103 rfl rfl rfl ?_
  refine zz_E.c 104 (.int 2) rfl rfl rfl rfl ?_
  refine mE_cv hh 107 (as := []) rfl rfl (Nat.le_of_ble_eq_true rfl) (Nat.le_of_ble_eq_true rfl) rfl (Nat.le_of_ble_eq_true rfl) rfl ?_
  refine zz_E.mono k ?_
  intro v h' hE
  exact zz_E.weak hE rfl ⟨rfl, rfl, trivial⟩
theorem mb_278_107 {X : Nat → Option zz_C} {h : zz_H} (hh : 111 ≤ h.length) {s : mS} {d : Nat} {Q : Option Value → zz_H → Prop} {x1 : Int32} {y0 : Int32} (k1 : y0 = 0 → zz_E zp_P zt_tf zt_fd X d zm_278 144 [(0, .ref 61), (1, .int x1)] [] (mH h s) Q) (k2 : ¬ y0 = 0 → zz_E zp_P zt_tf zt_fd X d zm_278 110 [(0, .ref 61), (1, .int x1)] [] (mH h s) Q) : zz_E zp_P zt_tf zt_fd X d zm_278 107 [(0, .ref 61), (1, .int x1)] [.int y0] (mH h s) Q := by
  refine zz_E.b1 144 110 (A := y0 = 0) rfl rfl (by decide) rfl rfl (fun c => ?_) (fun c => ?_)
  · exact zz_E.weak (k1 c) rfl ⟨rfl, rfl, trivial⟩
  · exact zz_E.weak (k2 c) rfl ⟨rfl, rfl, trivial⟩
theorem mb_278_110 {X : Nat → Option zz_C} {h : zz_H} (hh : 111 ≤ h.length) {s : mS} {d : Nat} {Q : Option Value → zz_H → Prop} {x1 : Int32} (k : zz_E zp_P zt_tf zt_fd X d zm_271 0 [(0, .ref 61), (1, .int 15), (2, .int 0), (3, .int 0), (4, .int 0)] [] (mH h s) (fun v h' => zz_E zp_P zt_tf zt_fd X (d + 1) zm_278 119 [(0, .ref 61), (1, .int x1)] (v.toList ++ []) h' Q)) : zz_E zp_P zt_tf zt_fd X (d + 1) zm_278 110 [(0, .ref 61), (1, .int x1)] [] (mH h s) Q := by
  refine zz_E.n 111 rfl rfl rfl ?_
  refine zz_E.c 113 (.int 15) rfl rfl rfl rfl ?_
  refine zz_E.c 114 (.int 0) rfl rfl rfl rfl ?_
  refine zz_E.c 115 (.int 0) rfl rfl rfl rfl ?_
  refine zz_E.c 116 (.int 0) rfl rfl rfl rfl ?_
  refine mE_cv hh 119 (as := []) rfl rfl (Nat.le_of_ble_eq_true rfl) (Nat.le_of_ble_eq_true rfl) rfl (Nat.le_of_ble_eq_true rfl) rfl ?_
  refine zz_E.mono k ?_
  intro v h' hE
  exact zz_E.weak hE rfl ⟨rfl, rfl, trivial⟩
theorem mb_278_119 {X : Nat → Option zz_C} {h : zz_H} (hh : 111 ≤ h.length) {s : mS} {d : Nat} {Q : Option Value → zz_H → Prop} {x1 : Int32} {y0 : Int32} (k : zz_E zp_P zt_tf zt_fd X d zm_272 0 [(0, .ref 61)] [] (mH h s) (fun v h' => zz_E zp_P zt_tf zt_fd X (d + 1) zm_278 129 [(0, .ref 61), (2, .int y0)] (v.toList ++ [.int x1, .ref 72]) h' Q)) : zz_E zp_P zt_tf zt_fd X (d + 1) zm_278 119 [(0, .ref 61), (1, .int x1)] [.int y0] (mH h s) Q := by
  refine zz_E.n 120 rfl rfl rfl ?_
  refine zz_E.n 121 rfl rfl rfl ?_
  refine mE_g hh 124 (v := .ref 72) rfl rfl rfl ?_
  refine zz_E.n 125 rfl rfl rfl ?_
  refine zz_E.n 126 rfl rfl rfl ?_
  refine mE_cv hh 129 (as := [.int x1, .ref 72]) rfl rfl (Nat.le_of_ble_eq_true rfl) (Nat.le_of_ble_eq_true rfl) rfl (Nat.le_of_ble_eq_true rfl) rfl ?_
  refine zz_E.mono k ?_
  intro v h' hE
  exact zz_E.weak hE rfl ⟨rfl, rfl, trivial⟩
theorem mb_278_129 {X : Nat → Option zz_C} {h : zz_H} (hh : 111 ≤ h.length) {s : mS} {d : Nat} {Q : Option Value → zz_H → Prop} {x2 : Int32} {y1 : Int32} {y2 : Int32} (i129 : ¬ (y1 < 0 ∨ 8000 ≤ Int32.toNatClampNeg y1)) (k : zz_E zp_P zt_tf zt_fd X d zm_260 0 [(0, .ref 61)] [] (mH h (mA s 24 (upd (s.2.2.1 24) (Int32.toNatClampNeg y1) y2))) (fun v h' => zz_E zp_P zt_tf zt_fd X (d + 1) zm_278 134 [(0, .ref 61), (2, .int x2)] (v.toList ++ []) h' Q)) : zz_E zp_P zt_tf zt_fd X (d + 1) zm_278 129 [(0, .ref 61), (2, .int x2)] [.int y2, .int y1, .ref 72] (mH h s) Q := by
  refine mE_is hh 130 11 (f := (s.2.2.1 24)) rfl (by decide) rfl rfl i129 (mA_72 _ _) rfl ?_
  refine zz_E.n 131 rfl rfl rfl ?_
  refine mE_cv hh 134 (as := []) rfl rfl (Nat.le_of_ble_eq_true rfl) (Nat.le_of_ble_eq_true rfl) rfl (Nat.le_of_ble_eq_true rfl) rfl ?_
  refine zz_E.mono k ?_
  intro v h' hE
  exact zz_E.weak hE rfl ⟨rfl, rfl, trivial⟩
theorem mb_278_134 {X : Nat → Option zz_C} {h : zz_H} (hh : 111 ≤ h.length) {s : mS} {d : Nat} {Q : Option Value → zz_H → Prop} {x2 : Int32} (k : zz_E zp_P zt_tf zt_fd X d zm_276 0 [(0, .ref 61), (1, .int 2), (2, .int x2), (3, .int 0)] [] (mH h s) (fun v h' => zz_E zp_P zt_tf zt_fd X (d + 1) zm_278 141 [] (v.toList ++ []) h' Q)) : zz_E zp_P zt_tf zt_fd X (d + 1) zm_278 134 [(0, .ref 61), (2, .int x2)] [] (mH h s) Q := by
  refine zz_E.n 135 rfl rfl rfl ?_
  refine zz_E.c 136 (.int 2) rfl rfl rfl rfl ?_
  refine zz_E.n 137 rfl rfl rfl ?_
  refine zz_E.c 138 (.int 0) rfl rfl rfl rfl ?_
  refine mE_cv hh 141 (as := []) rfl rfl (Nat.le_of_ble_eq_true rfl) (Nat.le_of_ble_eq_true rfl) rfl (Nat.le_of_ble_eq_true rfl) rfl ?_
  refine zz_E.mono k ?_
  intro v h' hE
  exact zz_E.weak hE rfl trivial
theorem mb_278_141 {X : Nat → Option zz_C} {h : zz_H} (hh : 111 ≤ h.length) {s : mS} {d : Nat} {Q : Option Value → zz_H → Prop}  (k : zz_E zp_P zt_tf zt_fd X d zm_278 154 [] [] (mH h s) Q) : zz_E zp_P zt_tf zt_fd X d zm_278 141 [] [] (mH h s) Q := by
  refine zz_E.n 154 rfl rfl rfl ?_
  exact zz_E.weak k rfl trivial
theorem mb_278_144 {X : Nat → Option zz_C} {h : zz_H} (hh : 111 ≤ h.length) {s : mS} {d : Nat} {Q : Option Value → zz_H → Prop} {x1 : Int32} (k : zz_E zp_P zt_tf zt_fd X d zm_272 0 [(0, .ref 61)] [] (mH h s) (fun v h' => zz_E zp_P zt_tf zt_fd X (d + 1) zm_278 153 [] (v.toList ++ [.int x1, .ref 72]) h' Q)) : zz_E zp_P zt_tf zt_fd X (d + 1) zm_278 144 [(0, .ref 61), (1, .int x1)] [] (mH h s) Q := by
  refine zz_E.n 145 rfl rfl rfl ?_
  refine mE_g hh 148 (v := .ref 72) rfl rfl rfl ?_
  refine zz_E.n 149 rfl rfl rfl ?_
  refine zz_E.n 150 rfl rfl rfl ?_
  refine mE_cv hh 153 (as := [.int x1, .ref 72]) rfl rfl (Nat.le_of_ble_eq_true rfl) (Nat.le_of_ble_eq_true rfl) rfl (Nat.le_of_ble_eq_true rfl) rfl ?_
  refine zz_E.mono k ?_
  intro v h' hE
  exact zz_E.weak hE rfl trivial
theorem mb_278_153 {X : Nat → Option zz_C} {h : zz_H} (hh : 111 ≤ h.length) {s : mS} {d : Nat} {Q : Option Value → zz_H → Prop} {y1 : Int32} {y2 : Int32} (i153 : ¬ (y1 < 0 ∨ 8000 ≤ Int32.toNatClampNeg y1)) (k : zz_E zp_P zt_tf zt_fd X d zm_278 154 [] [] (mH h (mA s 24 (upd (s.2.2.1 24) (Int32.toNatClampNeg y1) y2))) Q) : zz_E zp_P zt_tf zt_fd X d zm_278 153 [] [.int y2, .int y1, .ref 72] (mH h s) Q := by
  refine mE_is hh 154 11 (f := (s.2.2.1 24)) rfl (by decide) rfl rfl i153 (mA_72 _ _) rfl ?_
  exact zz_E.weak k rfl trivial
theorem mb_278_154 {X : Nat → Option zz_C} {h : zz_H} (hh : 111 ≤ h.length) {s : mS} {d : Nat} {Q : Option Value → zz_H → Prop}  (k : Q none (mH h s)) : zz_E zp_P zt_tf zt_fd X d zm_278 154 [] [] (mH h s) Q := by
  refine zz_E.ret rfl rfl rfl ?_
  exact k
theorem mb_278_155 {X : Nat → Option zz_C} {h : zz_H} (hh : 111 ≤ h.length) {s : mS} {d : Nat} {Q : Option Value → zz_H → Prop} {x1 : Int32} (i166 : ¬ ((s.1 37) < 0 ∨ 12 ≤ Int32.toNatClampNeg (s.1 37))) (k : zz_E zp_P zt_tf zt_fd X d zm_271 0 [(0, .ref 61), (1, .int 15), (2, .int ((s.2.2.1 36) (Int32.toNatClampNeg (s.1 37)))), (3, .int 0), (4, .int 0)] [] (mH h s) (fun v h' => zz_E zp_P zt_tf zt_fd X (d + 1) zm_278 172 [(0, .ref 61), (1, .int x1)] (v.toList ++ []) h' Q)) : zz_E zp_P zt_tf zt_fd X (d + 1) zm_278 155 [(0, .ref 61), (1, .int x1)] [] (mH h s) Q := by
  refine zz_E.n 156 rfl rfl rfl ?_
  refine zz_E.c 158 (.int 15) rfl rfl rfl rfl ?_
  refine zz_E.n 159 rfl rfl rfl ?_
  refine mE_g hh 162 (v := .ref 82) rfl rfl rfl ?_
  refine zz_E.n 163 rfl rfl rfl ?_
  refine mE_g hh 166 (v := .int (s.1 37)) rfl rfl rfl ?_
  refine mE_ia hh 167 21 (f := (s.2.2.1 36)) rfl (by decide) rfl rfl i166 rfl ?_
  refine zz_E.c 168 (.int 0) rfl rfl rfl rfl ?_
  refine zz_E.c 169 (.int 0) rfl rfl rfl rfl ?_
  refine mE_cv hh 172 (as := []) rfl rfl (Nat.le_of_ble_eq_true rfl) (Nat.le_of_ble_eq_true rfl) rfl (Nat.le_of_ble_eq_true rfl) rfl ?_
  refine zz_E.mono k ?_
  intro v h' hE
  exact zz_E.weak hE rfl ⟨rfl, rfl, trivial⟩
theorem mb_278_172 {X : Nat → Option zz_C} {h : zz_H} (hh : 111 ≤ h.length) {s : mS} {d : Nat} {Q : Option Value → zz_H → Prop} {x1 : Int32} {y0 : Int32} (k : zz_E zp_P zt_tf zt_fd X d zm_272 0 [(0, .ref 61)] [] (mH h s) (fun v h' => zz_E zp_P zt_tf zt_fd X (d + 1) zm_278 182 [] (v.toList ++ [.int x1, .ref 72]) h' Q)) : zz_E zp_P zt_tf zt_fd X (d + 1) zm_278 172 [(0, .ref 61), (1, .int x1)] [.int y0] (mH h s) Q := by
  refine zz_E.n 173 rfl rfl rfl ?_
  refine zz_E.n 174 rfl rfl rfl ?_
  refine mE_g hh 177 (v := .ref 72) rfl rfl rfl ?_
  refine zz_E.n 178 rfl rfl rfl ?_
  refine zz_E.n 179 rfl rfl rfl ?_
  refine mE_cv hh 182 (as := [.int x1, .ref 72]) rfl rfl (Nat.le_of_ble_eq_true rfl) (Nat.le_of_ble_eq_true rfl) rfl (Nat.le_of_ble_eq_true rfl) rfl ?_
  refine zz_E.mono k ?_
  intro v h' hE
  exact zz_E.weak hE rfl trivial
theorem mb_278_182 {X : Nat → Option zz_C} {h : zz_H} (hh : 111 ≤ h.length) {s : mS} {d : Nat} {Q : Option Value → zz_H → Prop} {y1 : Int32} {y2 : Int32} (i182 : ¬ (y1 < 0 ∨ 8000 ≤ Int32.toNatClampNeg y1)) (k : Q none (mH h (mA s 24 (upd (s.2.2.1 24) (Int32.toNatClampNeg y1) y2)))) : zz_E zp_P zt_tf zt_fd X d zm_278 182 [] [.int y2, .int y1, .ref 72] (mH h s) Q := by
  refine mE_is hh 183 11 (f := (s.2.2.1 24)) rfl (by decide) rfl rfl i182 (mA_72 _ _) rfl ?_
  refine zz_E.ret rfl rfl rfl ?_
  exact k
theorem mb_278_184 {X : Nat → Option zz_C} {h : zz_H} (hh : 111 ≤ h.length) {s : mS} {d : Nat} {Q : Option Value → zz_H → Prop} {x1 : Int32} (k : zz_E zp_P zt_tf zt_fd X d zm_271 0 [(0, .ref 61), (1, .int 24), (2, .int 0), (3, .int 0), (4, .int 0)] [] (mH h s) (fun v h' => zz_E zp_P zt_tf zt_fd X (d + 1) zm_278 193 [(0, .ref 61), (1, .int x1)] (v.toList ++ []) h' Q)) : zz_E zp_P zt_tf zt_fd X (d + 1) zm_278 184 [(0, .ref 61), (1, .int x1)] [] (mH h s) Q := by
  refine zz_E.n 185 rfl rfl rfl ?_
  refine zz_E.c 187 (.int 24) rfl rfl rfl rfl ?_
  refine zz_E.c 188 (.int 0) rfl rfl rfl rfl ?_
  refine zz_E.c 189 (.int 0) rfl rfl rfl rfl ?_
  refine zz_E.c 190 (.int 0) rfl rfl rfl rfl ?_
  refine mE_cv hh 193 (as := []) rfl rfl (Nat.le_of_ble_eq_true rfl) (Nat.le_of_ble_eq_true rfl) rfl (Nat.le_of_ble_eq_true rfl) rfl ?_
  refine zz_E.mono k ?_
  intro v h' hE
  exact zz_E.weak hE rfl ⟨rfl, rfl, trivial⟩
theorem mb_278_193 {X : Nat → Option zz_C} {h : zz_H} (hh : 111 ≤ h.length) {s : mS} {d : Nat} {Q : Option Value → zz_H → Prop} {x1 : Int32} {y0 : Int32} (i203 : ¬ (x1 < 0 ∨ 8000 ≤ Int32.toNatClampNeg x1)) (k : zz_E zp_P zt_tf zt_fd X d zm_269 0 [(0, .ref 61), (1, .int 10)] [] (mH h (mA s 27 (upd (s.2.2.1 27) (Int32.toNatClampNeg x1) (s.1 6)))) (fun v h' => zz_E zp_P zt_tf zt_fd X (d + 1) zm_278 210 [(0, .ref 61), (1, .int x1), (2, .int y0)] (v.toList ++ []) h' Q)) : zz_E zp_P zt_tf zt_fd X (d + 1) zm_278 193 [(0, .ref 61), (1, .int x1)] [.int y0] (mH h s) Q := by
  refine zz_E.n 194 rfl rfl rfl ?_
  refine zz_E.n 195 rfl rfl rfl ?_
  refine mE_g hh 198 (v := .ref 75) rfl rfl rfl ?_
  refine zz_E.n 199 rfl rfl rfl ?_
  refine zz_E.n 200 rfl rfl rfl ?_
  refine mE_g hh 203 (v := .int (s.1 6)) rfl rfl rfl ?_
  refine mE_is hh 204 14 (f := (s.2.2.1 27)) rfl (by decide) rfl rfl i203 (mA_75 _ _) rfl ?_
  refine zz_E.n 205 rfl rfl rfl ?_
  refine zz_E.c 207 (.int 10) rfl rfl rfl rfl ?_
  refine mE_cv hh 210 (as := []) rfl rfl (Nat.le_of_ble_eq_true rfl) (Nat.le_of_ble_eq_true rfl) rfl (Nat.le_of_ble_eq_true rfl) rfl ?_
  refine zz_E.mono k ?_
  intro v h' hE
  exact zz_E.weak hE rfl ⟨rfl, rfl, rfl, trivial⟩
theorem mb_278_210 {X : Nat → Option zz_C} {h : zz_H} (hh : 111 ≤ h.length) {s : mS} {d : Nat} {Q : Option Value → zz_H → Prop} {x1 : Int32} {x2 : Int32} (k : zz_E zp_P zt_tf zt_fd X d zm_275 0 [(0, .ref 61)] [] (mH h s) (fun v h' => zz_E zp_P zt_tf zt_fd X (d + 1) zm_278 219 [(0, .ref 61), (1, .int x1), (2, .int x2)] (v.toList ++ [.int x1, .ref 73]) h' Q)) : zz_E zp_P zt_tf zt_fd X (d + 1) zm_278 210 [(0, .ref 61), (1, .int x1), (2, .int x2)] [] (mH h s) Q := by
  refine zz_E.n 211 rfl rfl rfl ?_
  refine mE_g hh 214 (v := .ref 73) rfl rfl rfl ?_
  refine zz_E.n 215 rfl rfl rfl ?_
  refine zz_E.n 216 rfl rfl rfl ?_
  refine mE_cv hh 219 (as := [.int x1, .ref 73]) rfl rfl (Nat.le_of_ble_eq_true rfl) (Nat.le_of_ble_eq_true rfl) rfl (Nat.le_of_ble_eq_true rfl) rfl ?_
  refine zz_E.mono k ?_
  intro v h' hE
  exact zz_E.weak hE rfl ⟨rfl, rfl, rfl, trivial⟩
theorem mb_278_219 {X : Nat → Option zz_C} {h : zz_H} (hh : 111 ≤ h.length) {s : mS} {d : Nat} {Q : Option Value → zz_H → Prop} {x1 : Int32} {x2 : Int32} {y1 : Int32} {y2 : Int32} (i219 : ¬ (y1 < 0 ∨ 8000 ≤ Int32.toNatClampNeg y1)) (k : zz_E zp_P zt_tf zt_fd X d zm_272 0 [(0, .ref 61)] [] (mH h (mA s 25 (upd (s.2.2.1 25) (Int32.toNatClampNeg y1) y2))) (fun v h' => zz_E zp_P zt_tf zt_fd X (d + 1) zm_278 229 [(0, .ref 61), (2, .int x2)] (v.toList ++ [.int x1, .ref 72]) h' Q)) : zz_E zp_P zt_tf zt_fd X (d + 1) zm_278 219 [(0, .ref 61), (1, .int x1), (2, .int x2)] [.int y2, .int y1, .ref 73] (mH h s) Q := by
  refine mE_is hh 220 12 (f := (s.2.2.1 25)) rfl (by decide) rfl rfl i219 (mA_73 _ _) rfl ?_
  refine zz_E.n 221 rfl rfl rfl ?_
  refine mE_g hh 224 (v := .ref 72) rfl rfl rfl ?_
  refine zz_E.n 225 rfl rfl rfl ?_
  refine zz_E.n 226 rfl rfl rfl ?_
  refine mE_cv hh 229 (as := [.int x1, .ref 72]) rfl rfl (Nat.le_of_ble_eq_true rfl) (Nat.le_of_ble_eq_true rfl) rfl (Nat.le_of_ble_eq_true rfl) rfl ?_
  refine zz_E.mono k ?_
  intro v h' hE
  exact zz_E.weak hE rfl ⟨rfl, rfl, trivial⟩
theorem mb_278_229 {X : Nat → Option zz_C} {h : zz_H} (hh : 111 ≤ h.length) {s : mS} {d : Nat} {Q : Option Value → zz_H → Prop} {x2 : Int32} {y1 : Int32} {y2 : Int32} (i229 : ¬ (y1 < 0 ∨ 8000 ≤ Int32.toNatClampNeg y1)) (k : zz_E zp_P zt_tf zt_fd X d zm_276 0 [(0, .ref 61), (1, .int 6), (2, .int x2), (3, .int 0)] [] (mH h (mA s 24 (upd (s.2.2.1 24) (Int32.toNatClampNeg y1) y2))) (fun v h' => zz_E zp_P zt_tf zt_fd X (d + 1) zm_278 238 [] (v.toList ++ []) h' Q)) : zz_E zp_P zt_tf zt_fd X (d + 1) zm_278 229 [(0, .ref 61), (2, .int x2)] [.int y2, .int y1, .ref 72] (mH h s) Q := by
  refine mE_is hh 230 11 (f := (s.2.2.1 24)) rfl (by decide) rfl rfl i229 (mA_72 _ _) rfl ?_
  refine zz_E.n 231 rfl rfl rfl ?_
  refine zz_E.c 233 (.int 6) rfl rfl rfl rfl ?_
  refine zz_E.n 234 rfl rfl rfl ?_
  refine zz_E.c 235 (.int 0) rfl rfl rfl rfl ?_
  refine mE_cv hh 238 (as := []) rfl rfl (Nat.le_of_ble_eq_true rfl) (Nat.le_of_ble_eq_true rfl) rfl (Nat.le_of_ble_eq_true rfl) rfl ?_
  refine zz_E.mono k ?_
  intro v h' hE
  exact zz_E.weak hE rfl trivial
theorem mb_278_238 {X : Nat → Option zz_C} {h : zz_H} (hh : 111 ≤ h.length) {s : mS} {d : Nat} {Q : Option Value → zz_H → Prop}  (k : Q none (mH h s)) : zz_E zp_P zt_tf zt_fd X d zm_278 238 [] [] (mH h s) Q := by
  refine zz_E.ret rfl rfl rfl ?_
  exact k
theorem mb_278_239 {X : Nat → Option zz_C} {h : zz_H} (hh : 111 ≤ h.length) {s : mS} {d : Nat} {Q : Option Value → zz_H → Prop} {x1 : Int32} (k : zz_E zp_P zt_tf zt_fd X d zm_272 0 [(0, .ref 61)] [] (mH h s) (fun v h' => zz_E zp_P zt_tf zt_fd X (d + 1) zm_278 248 [] (v.toList ++ [.int x1, .ref 72]) h' Q)) : zz_E zp_P zt_tf zt_fd X (d + 1) zm_278 239 [(0, .ref 61), (1, .int x1)] [] (mH h s) Q := by
  refine zz_E.n 240 rfl rfl rfl ?_
  refine mE_g hh 243 (v := .ref 72) rfl rfl rfl ?_
  refine zz_E.n 244 rfl rfl rfl ?_
  refine zz_E.n 245 rfl rfl rfl ?_
  refine mE_cv hh 248 (as := [.int x1, .ref 72]) rfl rfl (Nat.le_of_ble_eq_true rfl) (Nat.le_of_ble_eq_true rfl) rfl (Nat.le_of_ble_eq_true rfl) rfl ?_
  refine zz_E.mono k ?_
  intro v h' hE
  exact zz_E.weak hE rfl trivial
theorem mb_278_248 {X : Nat → Option zz_C} {h : zz_H} (hh : 111 ≤ h.length) {s : mS} {d : Nat} {Q : Option Value → zz_H → Prop} {y1 : Int32} {y2 : Int32} (i248 : ¬ (y1 < 0 ∨ 8000 ≤ Int32.toNatClampNeg y1)) (k : Q none (mH h (mA s 24 (upd (s.2.2.1 24) (Int32.toNatClampNeg y1) y2)))) : zz_E zp_P zt_tf zt_fd X d zm_278 248 [] [.int y2, .int y1, .ref 72] (mH h s) Q := by
  refine mE_is hh 249 11 (f := (s.2.2.1 24)) rfl (by decide) rfl rfl i248 (mA_72 _ _) rfl ?_
  refine zz_E.ret rfl rfl rfl ?_
  exact k
def mf_278_90 (N : Nat) (x1 : Int32) (y0 : Int32) (s : mS) : mO := if ¬ (x1 < 0 ∨ 24 ≤ Int32.toNatClampNeg x1) then (some ((mA s 19 (upd (s.2.2.1 19) (Int32.toNatClampNeg x1) (s.1 22))), none)) else none
theorem mr_278_90 {X : Nat → Option zz_C} {h : zz_H} (hh : 111 ≤ h.length) {d : Nat} {N : Nat} {Q : Option Value → zz_H → Prop} {x1 : Int32} {y0 : Int32} {s s' : mS} {v : Option Value} (hf : mf_278_90 N x1 y0 s = some (s', v)) (k : Q v (mH h s')) : zz_E zp_P zt_tf zt_fd X (d + 6) zm_278 90 [(0, .ref 61), (1, .int x1)] [.int y0] (mH h s) Q := by
  unfold mf_278_90 at hf
  obtain ⟨q0, hf⟩ := mo_if hf
  cases hf
  exact mb_278_90 hh q0 k
def mf_278_80 (N : Nat) (x1 : Int32) (y0 : Int32) (s : mS) : mO := mo_bi (mf_271 N 20 0 0 0 s) (fun s1 y => mf_278_90 N x1 y s1)
theorem mr_278_80 {X : Nat → Option zz_C} {h : zz_H} (hh : 111 ≤ h.length) {d : Nat} {N : Nat} {Q : Option Value → zz_H → Prop} {x1 : Int32} {y0 : Int32} {s s' : mS} {v : Option Value} (hf : mf_278_80 N x1 y0 s = some (s', v)) (k : Q v (mH h s')) : zz_E zp_P zt_tf zt_fd X (d + 6) zm_278 80 [(0, .ref 61), (1, .int x1)] [.int y0] (mH h s) Q := by
  unfold mf_278_80 at hf
  obtain ⟨s1, y, e, hf⟩ := mo_bi_ok hf
  exact mb_278_80 (d := d + 5) hh  (mr_271 (d := d + 5) hh e (mr_278_90 hh hf k))
def mf_278_72 (N : Nat) (x1 : Int32) (s : mS) : mO := mo_bi (mf_271 N 2 0 0 0 s) (fun s1 y => mf_278_80 N x1 y s1)
theorem mr_278_72 {X : Nat → Option zz_C} {h : zz_H} (hh : 111 ≤ h.length) {d : Nat} {N : Nat} {Q : Option Value → zz_H → Prop} {x1 : Int32} {s s' : mS} {v : Option Value} (hf : mf_278_72 N x1 s = some (s', v)) (k : Q v (mH h s')) : zz_E zp_P zt_tf zt_fd X (d + 6) zm_278 72 [(0, .ref 61), (1, .int x1)] [] (mH h s) Q := by
  unfold mf_278_72 at hf
  obtain ⟨s1, y, e, hf⟩ := mo_bi_ok hf
  exact mb_278_72 (d := d + 5) hh  (mr_271 (d := d + 5) hh e (mr_278_80 hh hf k))
def mf_278_154 (N : Nat)  (s : mS) : mO := some (s, none)
theorem mr_278_154 {X : Nat → Option zz_C} {h : zz_H} (hh : 111 ≤ h.length) {d : Nat} {N : Nat} {Q : Option Value → zz_H → Prop}  {s s' : mS} {v : Option Value} (hf : mf_278_154 N  s = some (s', v)) (k : Q v (mH h s')) : zz_E zp_P zt_tf zt_fd X (d + 6) zm_278 154 [] [] (mH h s) Q := by
  unfold mf_278_154 at hf
  cases hf
  exact mb_278_154 hh  k
def mf_278_153 (N : Nat) (y1 : Int32) (y2 : Int32) (s : mS) : mO := if ¬ (y1 < 0 ∨ 8000 ≤ Int32.toNatClampNeg y1) then (mf_278_154 N  (mA s 24 (upd (s.2.2.1 24) (Int32.toNatClampNeg y1) y2))) else none
theorem mr_278_153 {X : Nat → Option zz_C} {h : zz_H} (hh : 111 ≤ h.length) {d : Nat} {N : Nat} {Q : Option Value → zz_H → Prop} {y1 : Int32} {y2 : Int32} {s s' : mS} {v : Option Value} (hf : mf_278_153 N y1 y2 s = some (s', v)) (k : Q v (mH h s')) : zz_E zp_P zt_tf zt_fd X (d + 6) zm_278 153 [] [.int y2, .int y1, .ref 72] (mH h s) Q := by
  unfold mf_278_153 at hf
  obtain ⟨q0, hf⟩ := mo_if hf
  exact mb_278_153 hh q0 (mr_278_154 hh hf k)
def mf_278_144 (N : Nat) (x1 : Int32) (s : mS) : mO := mo_bi (mf_272 N  s) (fun s1 y => mf_278_153 N x1 y s1)
theorem mr_278_144 {X : Nat → Option zz_C} {h : zz_H} (hh : 111 ≤ h.length) {d : Nat} {N : Nat} {Q : Option Value → zz_H → Prop} {x1 : Int32} {s s' : mS} {v : Option Value} (hf : mf_278_144 N x1 s = some (s', v)) (k : Q v (mH h s')) : zz_E zp_P zt_tf zt_fd X (d + 6) zm_278 144 [(0, .ref 61), (1, .int x1)] [] (mH h s) Q := by
  unfold mf_278_144 at hf
  obtain ⟨s1, y, e, hf⟩ := mo_bi_ok hf
  exact mb_278_144 (d := d + 5) hh  (mr_272 (d := d + 5) hh e (mr_278_153 hh hf k))
def mf_278_141 (N : Nat)  (s : mS) : mO := mf_278_154 N  s
theorem mr_278_141 {X : Nat → Option zz_C} {h : zz_H} (hh : 111 ≤ h.length) {d : Nat} {N : Nat} {Q : Option Value → zz_H → Prop}  {s s' : mS} {v : Option Value} (hf : mf_278_141 N  s = some (s', v)) (k : Q v (mH h s')) : zz_E zp_P zt_tf zt_fd X (d + 6) zm_278 141 [] [] (mH h s) Q := by
  unfold mf_278_141 at hf
  exact mb_278_141 hh  (mr_278_154 hh hf k)
def mf_278_134 (N : Nat) (x2 : Int32) (s : mS) : mO := mo_bv (mf_276 N 2 x2 0 s) (fun s1 => mf_278_141 N  s1)
theorem mr_278_134 {X : Nat → Option zz_C} {h : zz_H} (hh : 111 ≤ h.length) {d : Nat} {N : Nat} {Q : Option Value → zz_H → Prop} {x2 : Int32} {s s' : mS} {v : Option Value} (hf : mf_278_134 N x2 s = some (s', v)) (k : Q v (mH h s')) : zz_E zp_P zt_tf zt_fd X (d + 6) zm_278 134 [(0, .ref 61), (2, .int x2)] [] (mH h s) Q := by
  unfold mf_278_134 at hf
  obtain ⟨s1, e, hf⟩ := mo_bv_ok hf
  exact mb_278_134 (d := d + 5) hh  (mr_276 (d := d + 0) hh e (mr_278_141 hh hf k))
def mf_278_129 (N : Nat) (x2 : Int32) (y1 : Int32) (y2 : Int32) (s : mS) : mO := if ¬ (y1 < 0 ∨ 8000 ≤ Int32.toNatClampNeg y1) then (mo_bv (mf_260 N  (mA s 24 (upd (s.2.2.1 24) (Int32.toNatClampNeg y1) y2))) (fun s1 => mf_278_134 N x2 s1)) else none
theorem mr_278_129 {X : Nat → Option zz_C} {h : zz_H} (hh : 111 ≤ h.length) {d : Nat} {N : Nat} {Q : Option Value → zz_H → Prop} {x2 : Int32} {y1 : Int32} {y2 : Int32} {s s' : mS} {v : Option Value} (hf : mf_278_129 N x2 y1 y2 s = some (s', v)) (k : Q v (mH h s')) : zz_E zp_P zt_tf zt_fd X (d + 6) zm_278 129 [(0, .ref 61), (2, .int x2)] [.int y2, .int y1, .ref 72] (mH h s) Q := by
  unfold mf_278_129 at hf
  obtain ⟨q0, hf⟩ := mo_if hf
  obtain ⟨s1, e, hf⟩ := mo_bv_ok hf
  exact mb_278_129 (d := d + 5) hh q0 (mr_260 (d := d + 2) hh e (mr_278_134 hh hf k))
def mf_278_119 (N : Nat) (x1 : Int32) (y0 : Int32) (s : mS) : mO := mo_bi (mf_272 N  s) (fun s1 y => mf_278_129 N y0 x1 y s1)
theorem mr_278_119 {X : Nat → Option zz_C} {h : zz_H} (hh : 111 ≤ h.length) {d : Nat} {N : Nat} {Q : Option Value → zz_H → Prop} {x1 : Int32} {y0 : Int32} {s s' : mS} {v : Option Value} (hf : mf_278_119 N x1 y0 s = some (s', v)) (k : Q v (mH h s')) : zz_E zp_P zt_tf zt_fd X (d + 6) zm_278 119 [(0, .ref 61), (1, .int x1)] [.int y0] (mH h s) Q := by
  unfold mf_278_119 at hf
  obtain ⟨s1, y, e, hf⟩ := mo_bi_ok hf
  exact mb_278_119 (d := d + 5) hh  (mr_272 (d := d + 5) hh e (mr_278_129 hh hf k))
def mf_278_110 (N : Nat) (x1 : Int32) (s : mS) : mO := mo_bi (mf_271 N 15 0 0 0 s) (fun s1 y => mf_278_119 N x1 y s1)
theorem mr_278_110 {X : Nat → Option zz_C} {h : zz_H} (hh : 111 ≤ h.length) {d : Nat} {N : Nat} {Q : Option Value → zz_H → Prop} {x1 : Int32} {s s' : mS} {v : Option Value} (hf : mf_278_110 N x1 s = some (s', v)) (k : Q v (mH h s')) : zz_E zp_P zt_tf zt_fd X (d + 6) zm_278 110 [(0, .ref 61), (1, .int x1)] [] (mH h s) Q := by
  unfold mf_278_110 at hf
  obtain ⟨s1, y, e, hf⟩ := mo_bi_ok hf
  exact mb_278_110 (d := d + 5) hh  (mr_271 (d := d + 5) hh e (mr_278_119 hh hf k))
def mf_278_107 (N : Nat) (x1 : Int32) (y0 : Int32) (s : mS) : mO := if y0 = 0 then mf_278_144 N x1 s else mf_278_110 N x1 s
theorem mr_278_107 {X : Nat → Option zz_C} {h : zz_H} (hh : 111 ≤ h.length) {d : Nat} {N : Nat} {Q : Option Value → zz_H → Prop} {x1 : Int32} {y0 : Int32} {s s' : mS} {v : Option Value} (hf : mf_278_107 N x1 y0 s = some (s', v)) (k : Q v (mH h s')) : zz_E zp_P zt_tf zt_fd X (d + 6) zm_278 107 [(0, .ref 61), (1, .int x1)] [.int y0] (mH h s) Q := by
  unfold mf_278_107 at hf
  refine mb_278_107 hh  (fun c => ?_) (fun c => ?_)
  · rw [if_pos c] at hf
    exact mr_278_144 hh hf k
  · rw [if_neg c] at hf
    exact mr_278_110 hh hf k
def mf_278_102 (N : Nat) (x1 : Int32) (s : mS) : mO := mo_bi (mf_264 N 2 s) (fun s1 y => mf_278_107 N x1 y s1)
theorem mr_278_102 {X : Nat → Option zz_C} {h : zz_H} (hh : 111 ≤ h.length) {d : Nat} {N : Nat} {Q : Option Value → zz_H → Prop} {x1 : Int32} {s s' : mS} {v : Option Value} (hf : mf_278_102 N x1 s = some (s', v)) (k : Q v (mH h s')) : zz_E zp_P zt_tf zt_fd X (d + 6) zm_278 102 [(0, .ref 61), (1, .int x1)] [] (mH h s) Q := by
  unfold mf_278_102 at hf
  obtain ⟨s1, y, e, hf⟩ := mo_bi_ok hf
  exact mb_278_102 (d := d + 5) hh  (mr_264 (d := d + 5) hh e (mr_278_107 hh hf k))
def mf_278_248 (N : Nat) (y1 : Int32) (y2 : Int32) (s : mS) : mO := if ¬ (y1 < 0 ∨ 8000 ≤ Int32.toNatClampNeg y1) then (some ((mA s 24 (upd (s.2.2.1 24) (Int32.toNatClampNeg y1) y2)), none)) else none
theorem mr_278_248 {X : Nat → Option zz_C} {h : zz_H} (hh : 111 ≤ h.length) {d : Nat} {N : Nat} {Q : Option Value → zz_H → Prop} {y1 : Int32} {y2 : Int32} {s s' : mS} {v : Option Value} (hf : mf_278_248 N y1 y2 s = some (s', v)) (k : Q v (mH h s')) : zz_E zp_P zt_tf zt_fd X (d + 6) zm_278 248 [] [.int y2, .int y1, .ref 72] (mH h s) Q := by
  unfold mf_278_248 at hf
  obtain ⟨q0, hf⟩ := mo_if hf
  cases hf
  exact mb_278_248 hh q0 k
def mf_278_239 (N : Nat) (x1 : Int32) (s : mS) : mO := mo_bi (mf_272 N  s) (fun s1 y => mf_278_248 N x1 y s1)
theorem mr_278_239 {X : Nat → Option zz_C} {h : zz_H} (hh : 111 ≤ h.length) {d : Nat} {N : Nat} {Q : Option Value → zz_H → Prop} {x1 : Int32} {s s' : mS} {v : Option Value} (hf : mf_278_239 N x1 s = some (s', v)) (k : Q v (mH h s')) : zz_E zp_P zt_tf zt_fd X (d + 6) zm_278 239 [(0, .ref 61), (1, .int x1)] [] (mH h s) Q := by
  unfold mf_278_239 at hf
  obtain ⟨s1, y, e, hf⟩ := mo_bi_ok hf
  exact mb_278_239 (d := d + 5) hh  (mr_272 (d := d + 5) hh e (mr_278_248 hh hf k))
def mf_278_182 (N : Nat) (y1 : Int32) (y2 : Int32) (s : mS) : mO := if ¬ (y1 < 0 ∨ 8000 ≤ Int32.toNatClampNeg y1) then (some ((mA s 24 (upd (s.2.2.1 24) (Int32.toNatClampNeg y1) y2)), none)) else none
theorem mr_278_182 {X : Nat → Option zz_C} {h : zz_H} (hh : 111 ≤ h.length) {d : Nat} {N : Nat} {Q : Option Value → zz_H → Prop} {y1 : Int32} {y2 : Int32} {s s' : mS} {v : Option Value} (hf : mf_278_182 N y1 y2 s = some (s', v)) (k : Q v (mH h s')) : zz_E zp_P zt_tf zt_fd X (d + 6) zm_278 182 [] [.int y2, .int y1, .ref 72] (mH h s) Q := by
  unfold mf_278_182 at hf
  obtain ⟨q0, hf⟩ := mo_if hf
  cases hf
  exact mb_278_182 hh q0 k
def mf_278_172 (N : Nat) (x1 : Int32) (y0 : Int32) (s : mS) : mO := mo_bi (mf_272 N  s) (fun s1 y => mf_278_182 N x1 y s1)
theorem mr_278_172 {X : Nat → Option zz_C} {h : zz_H} (hh : 111 ≤ h.length) {d : Nat} {N : Nat} {Q : Option Value → zz_H → Prop} {x1 : Int32} {y0 : Int32} {s s' : mS} {v : Option Value} (hf : mf_278_172 N x1 y0 s = some (s', v)) (k : Q v (mH h s')) : zz_E zp_P zt_tf zt_fd X (d + 6) zm_278 172 [(0, .ref 61), (1, .int x1)] [.int y0] (mH h s) Q := by
  unfold mf_278_172 at hf
  obtain ⟨s1, y, e, hf⟩ := mo_bi_ok hf
  exact mb_278_172 (d := d + 5) hh  (mr_272 (d := d + 5) hh e (mr_278_182 hh hf k))
def mf_278_155 (N : Nat) (x1 : Int32) (s : mS) : mO := if ¬ ((s.1 37) < 0 ∨ 12 ≤ Int32.toNatClampNeg (s.1 37)) then (mo_bi (mf_271 N 15 ((s.2.2.1 36) (Int32.toNatClampNeg (s.1 37))) 0 0 s) (fun s1 y => mf_278_172 N x1 y s1)) else none
theorem mr_278_155 {X : Nat → Option zz_C} {h : zz_H} (hh : 111 ≤ h.length) {d : Nat} {N : Nat} {Q : Option Value → zz_H → Prop} {x1 : Int32} {s s' : mS} {v : Option Value} (hf : mf_278_155 N x1 s = some (s', v)) (k : Q v (mH h s')) : zz_E zp_P zt_tf zt_fd X (d + 6) zm_278 155 [(0, .ref 61), (1, .int x1)] [] (mH h s) Q := by
  unfold mf_278_155 at hf
  obtain ⟨q0, hf⟩ := mo_if hf
  obtain ⟨s1, y, e, hf⟩ := mo_bi_ok hf
  exact mb_278_155 (d := d + 5) hh q0 (mr_271 (d := d + 5) hh e (mr_278_172 hh hf k))
def mf_278_238 (N : Nat)  (s : mS) : mO := some (s, none)
theorem mr_278_238 {X : Nat → Option zz_C} {h : zz_H} (hh : 111 ≤ h.length) {d : Nat} {N : Nat} {Q : Option Value → zz_H → Prop}  {s s' : mS} {v : Option Value} (hf : mf_278_238 N  s = some (s', v)) (k : Q v (mH h s')) : zz_E zp_P zt_tf zt_fd X (d + 6) zm_278 238 [] [] (mH h s) Q := by
  unfold mf_278_238 at hf
  cases hf
  exact mb_278_238 hh  k
def mf_278_229 (N : Nat) (x2 : Int32) (y1 : Int32) (y2 : Int32) (s : mS) : mO := if ¬ (y1 < 0 ∨ 8000 ≤ Int32.toNatClampNeg y1) then (mo_bv (mf_276 N 6 x2 0 (mA s 24 (upd (s.2.2.1 24) (Int32.toNatClampNeg y1) y2))) (fun s1 => mf_278_238 N  s1)) else none
theorem mr_278_229 {X : Nat → Option zz_C} {h : zz_H} (hh : 111 ≤ h.length) {d : Nat} {N : Nat} {Q : Option Value → zz_H → Prop} {x2 : Int32} {y1 : Int32} {y2 : Int32} {s s' : mS} {v : Option Value} (hf : mf_278_229 N x2 y1 y2 s = some (s', v)) (k : Q v (mH h s')) : zz_E zp_P zt_tf zt_fd X (d + 6) zm_278 229 [(0, .ref 61), (2, .int x2)] [.int y2, .int y1, .ref 72] (mH h s) Q := by
  unfold mf_278_229 at hf
  obtain ⟨q0, hf⟩ := mo_if hf
  obtain ⟨s1, e, hf⟩ := mo_bv_ok hf
  exact mb_278_229 (d := d + 5) hh q0 (mr_276 (d := d + 0) hh e (mr_278_238 hh hf k))
def mf_278_219 (N : Nat) (x1 : Int32) (x2 : Int32) (y1 : Int32) (y2 : Int32) (s : mS) : mO := if ¬ (y1 < 0 ∨ 8000 ≤ Int32.toNatClampNeg y1) then (mo_bi (mf_272 N  (mA s 25 (upd (s.2.2.1 25) (Int32.toNatClampNeg y1) y2))) (fun s1 y => mf_278_229 N x2 x1 y s1)) else none
theorem mr_278_219 {X : Nat → Option zz_C} {h : zz_H} (hh : 111 ≤ h.length) {d : Nat} {N : Nat} {Q : Option Value → zz_H → Prop} {x1 : Int32} {x2 : Int32} {y1 : Int32} {y2 : Int32} {s s' : mS} {v : Option Value} (hf : mf_278_219 N x1 x2 y1 y2 s = some (s', v)) (k : Q v (mH h s')) : zz_E zp_P zt_tf zt_fd X (d + 6) zm_278 219 [(0, .ref 61), (1, .int x1), (2, .int x2)] [.int y2, .int y1, .ref 73] (mH h s) Q := by
  unfold mf_278_219 at hf
  obtain ⟨q0, hf⟩ := mo_if hf
  obtain ⟨s1, y, e, hf⟩ := mo_bi_ok hf
  exact mb_278_219 (d := d + 5) hh q0 (mr_272 (d := d + 5) hh e (mr_278_229 hh hf k))
def mf_278_210 (N : Nat) (x1 : Int32) (x2 : Int32) (s : mS) : mO := mo_bi (mf_275 N  s) (fun s1 y => mf_278_219 N x1 x2 x1 y s1)
theorem mr_278_210 {X : Nat → Option zz_C} {h : zz_H} (hh : 111 ≤ h.length) {d : Nat} {N : Nat} {Q : Option Value → zz_H → Prop} {x1 : Int32} {x2 : Int32} {s s' : mS} {v : Option Value} (hf : mf_278_210 N x1 x2 s = some (s', v)) (k : Q v (mH h s')) : zz_E zp_P zt_tf zt_fd X (d + 6) zm_278 210 [(0, .ref 61), (1, .int x1), (2, .int x2)] [] (mH h s) Q := by
  unfold mf_278_210 at hf
  obtain ⟨s1, y, e, hf⟩ := mo_bi_ok hf
  exact mb_278_210 (d := d + 5) hh  (mr_275 (d := d + 1) hh e (mr_278_219 hh hf k))
def mf_278_193 (N : Nat) (x1 : Int32) (y0 : Int32) (s : mS) : mO := if ¬ (x1 < 0 ∨ 8000 ≤ Int32.toNatClampNeg x1) then (mo_bv (mf_269 N 10 (mA s 27 (upd (s.2.2.1 27) (Int32.toNatClampNeg x1) (s.1 6)))) (fun s1 => mf_278_210 N x1 y0 s1)) else none
theorem mr_278_193 {X : Nat → Option zz_C} {h : zz_H} (hh : 111 ≤ h.length) {d : Nat} {N : Nat} {Q : Option Value → zz_H → Prop} {x1 : Int32} {y0 : Int32} {s s' : mS} {v : Option Value} (hf : mf_278_193 N x1 y0 s = some (s', v)) (k : Q v (mH h s')) : zz_E zp_P zt_tf zt_fd X (d + 6) zm_278 193 [(0, .ref 61), (1, .int x1)] [.int y0] (mH h s) Q := by
  unfold mf_278_193 at hf
  obtain ⟨q0, hf⟩ := mo_if hf
  obtain ⟨s1, e, hf⟩ := mo_bv_ok hf
  exact mb_278_193 (d := d + 5) hh q0 (mr_269 (d := d + 1) hh e (mr_278_210 hh hf k))
def mf_278_184 (N : Nat) (x1 : Int32) (s : mS) : mO := mo_bi (mf_271 N 24 0 0 0 s) (fun s1 y => mf_278_193 N x1 y s1)
theorem mr_278_184 {X : Nat → Option zz_C} {h : zz_H} (hh : 111 ≤ h.length) {d : Nat} {N : Nat} {Q : Option Value → zz_H → Prop} {x1 : Int32} {s s' : mS} {v : Option Value} (hf : mf_278_184 N x1 s = some (s', v)) (k : Q v (mH h s')) : zz_E zp_P zt_tf zt_fd X (d + 6) zm_278 184 [(0, .ref 61), (1, .int x1)] [] (mH h s) Q := by
  unfold mf_278_184 at hf
  obtain ⟨s1, y, e, hf⟩ := mo_bi_ok hf
  exact mb_278_184 (d := d + 5) hh  (mr_271 (d := d + 5) hh e (mr_278_193 hh hf k))
def mf_278_6 (N : Nat)  (s : mS) : mO := if ¬ (((s.1 37) - 1) < 0 ∨ 12 ≤ Int32.toNatClampNeg ((s.1 37) - 1)) then (if ¬ (((s.1 37) - 1) < 0 ∨ 12 ≤ Int32.toNatClampNeg ((s.1 37) - 1)) then (if (Int32.toInt ((s.2.2.1 34) (Int32.toNatClampNeg ((s.1 37) - 1))) < 0 ∨ 5 < Int32.toInt ((s.2.2.1 34) (Int32.toNatClampNeg ((s.1 37) - 1)))) then mf_278_239 N ((s.2.2.1 35) (Int32.toNatClampNeg ((s.1 37) - 1))) (mI s 37 ((s.1 37) - 1)) else if ((s.2.2.1 34) (Int32.toNatClampNeg ((s.1 37) - 1))) = 0 then mf_278_72 N ((s.2.2.1 35) (Int32.toNatClampNeg ((s.1 37) - 1))) (mI s 37 ((s.1 37) - 1)) else if ((s.2.2.1 34) (Int32.toNatClampNeg ((s.1 37) - 1))) = 1 then mf_278_102 N ((s.2.2.1 35) (Int32.toNatClampNeg ((s.1 37) - 1))) (mI s 37 ((s.1 37) - 1)) else if ((s.2.2.1 34) (Int32.toNatClampNeg ((s.1 37) - 1))) = 2 then mf_278_239 N ((s.2.2.1 35) (Int32.toNatClampNeg ((s.1 37) - 1))) (mI s 37 ((s.1 37) - 1)) else if ((s.2.2.1 34) (Int32.toNatClampNeg ((s.1 37) - 1))) = 3 then mf_278_155 N ((s.2.2.1 35) (Int32.toNatClampNeg ((s.1 37) - 1))) (mI s 37 ((s.1 37) - 1)) else if ((s.2.2.1 34) (Int32.toNatClampNeg ((s.1 37) - 1))) = 4 then mf_278_155 N ((s.2.2.1 35) (Int32.toNatClampNeg ((s.1 37) - 1))) (mI s 37 ((s.1 37) - 1)) else if ((s.2.2.1 34) (Int32.toNatClampNeg ((s.1 37) - 1))) = 5 then mf_278_184 N ((s.2.2.1 35) (Int32.toNatClampNeg ((s.1 37) - 1))) (mI s 37 ((s.1 37) - 1)) else none) else none) else none
theorem mr_278_6 {X : Nat → Option zz_C} {h : zz_H} (hh : 111 ≤ h.length) {d : Nat} {N : Nat} {Q : Option Value → zz_H → Prop}  {s s' : mS} {v : Option Value} (hf : mf_278_6 N  s = some (s', v)) (k : Q v (mH h s')) : zz_E zp_P zt_tf zt_fd X (d + 6) zm_278 6 [(0, .ref 61)] [] (mH h s) Q := by
  unfold mf_278_6 at hf
  obtain ⟨q0, hf⟩ := mo_if hf
  obtain ⟨q1, hf⟩ := mo_if hf
  refine mb_278_6 hh q0 q1 (fun c => ?_) (fun c => ?_) (fun c => ?_) (fun c => ?_) (fun c => ?_) (fun c => ?_) (fun c => ?_)
  · rw [if_neg (by rw [c]; decide)] at hf
    rw [if_pos c] at hf
    exact mr_278_72 hh hf k
  · rw [if_neg (by rw [c]; decide)] at hf
    rw [if_neg (by rw [c]; decide)] at hf
    rw [if_pos c] at hf
    exact mr_278_102 hh hf k
  · rw [if_neg (by rw [c]; decide)] at hf
    rw [if_neg (by rw [c]; decide)] at hf
    rw [if_neg (by rw [c]; decide)] at hf
    rw [if_pos c] at hf
    exact mr_278_239 hh hf k
  · rw [if_neg (by rw [c]; decide)] at hf
    rw [if_neg (by rw [c]; decide)] at hf
    rw [if_neg (by rw [c]; decide)] at hf
    rw [if_neg (by rw [c]; decide)] at hf
    rw [if_pos c] at hf
    exact mr_278_155 hh hf k
  · rw [if_neg (by rw [c]; decide)] at hf
    rw [if_neg (by rw [c]; decide)] at hf
    rw [if_neg (by rw [c]; decide)] at hf
    rw [if_neg (by rw [c]; decide)] at hf
    rw [if_neg (by rw [c]; decide)] at hf
    rw [if_pos c] at hf
    exact mr_278_155 hh hf k
  · rw [if_neg (by rw [c]; decide)] at hf
    rw [if_neg (by rw [c]; decide)] at hf
    rw [if_neg (by rw [c]; decide)] at hf
    rw [if_neg (by rw [c]; decide)] at hf
    rw [if_neg (by rw [c]; decide)] at hf
    rw [if_neg (by rw [c]; decide)] at hf
    rw [if_pos c] at hf
    exact mr_278_184 hh hf k
  · rw [if_pos c] at hf
    exact mr_278_239 hh hf k
def mf_278_0 (N : Nat)  (s : mS) : mO := mo_bv (mf_267 N 125 s) (fun s1 => mf_278_6 N  s1)
theorem mr_278_0 {X : Nat → Option zz_C} {h : zz_H} (hh : 111 ≤ h.length) {d : Nat} {N : Nat} {Q : Option Value → zz_H → Prop}  {s s' : mS} {v : Option Value} (hf : mf_278_0 N  s = some (s', v)) (k : Q v (mH h s')) : zz_E zp_P zt_tf zt_fd X (d + 6) zm_278 0 [(0, .ref 61)] [] (mH h s) Q := by
  unfold mf_278_0 at hf
  obtain ⟨s1, e, hf⟩ := mo_bv_ok hf
  exact mb_278_0 (d := d + 5) hh  (mr_267 (d := d + 1) hh e (mr_278_6 hh hf k))
/-- closes -/
def mf_278 (N : Nat)  (s : mS) : mO := mf_278_0 N  s
theorem mr_278 {X : Nat → Option zz_C} {h : zz_H} (hh : 111 ≤ h.length) {d : Nat} {N : Nat} {Q : Option Value → zz_H → Prop}  {s s' : mS} {v : Option Value} (hf : mf_278 N  s = some (s', v)) (k : Q v (mH h s')) : zz_E zp_P zt_tf zt_fd X (d + 6) zm_278 0 [(0, .ref 61)] [] (mH h s) Q := by
  unfold mf_278 at hf
  exact zz_E.weak (mr_278_0 hh hf k) rfl ⟨rfl, trivial⟩
/-! isBracketBehind ()Z -/
theorem mb_270_0 {X : Nat → Option zz_C} {h : zz_H} (hh : 111 ≤ h.length) {s : mS} {d : Nat} {Q : Option Value → zz_H → Prop}  (k : zz_E zp_P zt_tf zt_fd X d zm_61 0 [(0, .ref 61), (1, .int (s.1 8))] [] (mH h s) (fun v h' => zz_E zp_P zt_tf zt_fd X (d + 1) zm_270 9 [] (v.toList ++ [.ref 61]) h' Q)) : zz_E zp_P zt_tf zt_fd X (d + 1) zm_270 0 [(0, .ref 61)] [] (mH h s) Q := by
  refine zz_E.n 1 rfl rfl rfl ?_
  refine zz_E.n 2 rfl rfl rfl ?_
  refine zz_E.n 3 rfl rfl rfl ?_
  refine mE_g hh 6 (v := .int (s.1 8)) rfl rfl rfl ?_
  refine mE_cv hh 9 (as := [.ref 61]) rfl rfl (Nat.le_of_ble_eq_true rfl) (Nat.le_of_ble_eq_true rfl) rfl (Nat.le_of_ble_eq_true rfl) rfl ?_
  refine zz_E.mono k ?_
  intro v h' hE
  exact zz_E.weak hE rfl trivial
theorem mb_270_9 {X : Nat → Option zz_C} {h : zz_H} (hh : 111 ≤ h.length) {s : mS} {d : Nat} {Q : Option Value → zz_H → Prop} {y1 : Int32} (k : zz_E zp_P zt_tf zt_fd X d zm_62 0 [(0, .ref 61), (1, .int y1)] [] (mH h s) (fun v h' => zz_E zp_P zt_tf zt_fd X (d + 1) zm_270 12 [] (v.toList ++ []) h' Q)) : zz_E zp_P zt_tf zt_fd X (d + 1) zm_270 9 [] [.int y1, .ref 61] (mH h s) Q := by
  refine mE_cv hh 12 (as := []) rfl rfl (Nat.le_of_ble_eq_true rfl) (Nat.le_of_ble_eq_true rfl) rfl (Nat.le_of_ble_eq_true rfl) rfl ?_
  refine zz_E.mono k ?_
  intro v h' hE
  exact zz_E.weak hE rfl trivial
theorem mb_270_12 {X : Nat → Option zz_C} {h : zz_H} (hh : 111 ≤ h.length) {s : mS} {d : Nat} {Q : Option Value → zz_H → Prop} {y0 : Int32} (k1 : ¬ y0 = 40 → zz_E zp_P zt_tf zt_fd X d zm_270 21 [] [] (mH h s) Q) (k2 : ¬ ¬ y0 = 40 → zz_E zp_P zt_tf zt_fd X d zm_270 17 [] [] (mH h s) Q) : zz_E zp_P zt_tf zt_fd X d zm_270 12 [] [.int y0] (mH h s) Q := by
  refine zz_E.c 14 (.int 40) rfl rfl rfl rfl ?_
  refine zz_E.b2 21 17 (A := ¬ y0 = 40) rfl (zz_cond_ne _ _) (by decide) rfl rfl (fun c => ?_) (fun c => ?_)
  · exact zz_E.weak (k1 c) rfl trivial
  · exact zz_E.weak (k2 c) rfl trivial
theorem mb_270_17 {X : Nat → Option zz_C} {h : zz_H} (hh : 111 ≤ h.length) {s : mS} {d : Nat} {Q : Option Value → zz_H → Prop}  (k : zz_E zp_P zt_tf zt_fd X d zm_270 22 [] [.int 1] (mH h s) Q) : zz_E zp_P zt_tf zt_fd X d zm_270 17 [] [] (mH h s) Q := by
  refine zz_E.c 18 (.int 1) rfl rfl rfl rfl ?_
  refine zz_E.n 22 rfl rfl rfl ?_
  exact zz_E.weak k rfl trivial
theorem mb_270_21 {X : Nat → Option zz_C} {h : zz_H} (hh : 111 ≤ h.length) {s : mS} {d : Nat} {Q : Option Value → zz_H → Prop}  (k : zz_E zp_P zt_tf zt_fd X d zm_270 22 [] [.int 0] (mH h s) Q) : zz_E zp_P zt_tf zt_fd X d zm_270 21 [] [] (mH h s) Q := by
  refine zz_E.c 22 (.int 0) rfl rfl rfl rfl ?_
  exact zz_E.weak k rfl trivial
theorem mb_270_22 {X : Nat → Option zz_C} {h : zz_H} (hh : 111 ≤ h.length) {s : mS} {d : Nat} {Q : Option Value → zz_H → Prop} {y0 : Int32} (k : Q (some (.int y0)) (mH h s)) (rb : zz_reti (some .boolean) y0 = true) : zz_E zp_P zt_tf zt_fd X d zm_270 22 [] [.int y0] (mH h s) Q := by
  refine zz_E.ret rfl rfl (if_pos ⟨rfl, rb⟩) ?_
  exact k
def mf_270_22 (N : Nat) (y0 : Int32) (s : mS) : mO := if zz_reti (some .boolean) y0 = true then some (s, (some (.int y0))) else none
theorem mr_270_22 {X : Nat → Option zz_C} {h : zz_H} (hh : 111 ≤ h.length) {d : Nat} {N : Nat} {Q : Option Value → zz_H → Prop} {y0 : Int32} {s s' : mS} {v : Option Value} (hf : mf_270_22 N y0 s = some (s', v)) (k : Q v (mH h s')) : zz_E zp_P zt_tf zt_fd X (d + 2) zm_270 22 [] [.int y0] (mH h s) Q := by
  unfold mf_270_22 at hf
  obtain ⟨rb, hf⟩ := mo_if hf
  cases hf
  exact mb_270_22 hh  k rb
def mf_270_21 (N : Nat)  (s : mS) : mO := mf_270_22 N 0 s
theorem mr_270_21 {X : Nat → Option zz_C} {h : zz_H} (hh : 111 ≤ h.length) {d : Nat} {N : Nat} {Q : Option Value → zz_H → Prop}  {s s' : mS} {v : Option Value} (hf : mf_270_21 N  s = some (s', v)) (k : Q v (mH h s')) : zz_E zp_P zt_tf zt_fd X (d + 2) zm_270 21 [] [] (mH h s) Q := by
  unfold mf_270_21 at hf
  exact mb_270_21 hh  (mr_270_22 hh hf k)
def mf_270_17 (N : Nat)  (s : mS) : mO := mf_270_22 N 1 s
theorem mr_270_17 {X : Nat → Option zz_C} {h : zz_H} (hh : 111 ≤ h.length) {d : Nat} {N : Nat} {Q : Option Value → zz_H → Prop}  {s s' : mS} {v : Option Value} (hf : mf_270_17 N  s = some (s', v)) (k : Q v (mH h s')) : zz_E zp_P zt_tf zt_fd X (d + 2) zm_270 17 [] [] (mH h s) Q := by
  unfold mf_270_17 at hf
  exact mb_270_17 hh  (mr_270_22 hh hf k)
def mf_270_12 (N : Nat) (y0 : Int32) (s : mS) : mO := if ¬ y0 = 40 then mf_270_21 N  s else mf_270_17 N  s
theorem mr_270_12 {X : Nat → Option zz_C} {h : zz_H} (hh : 111 ≤ h.length) {d : Nat} {N : Nat} {Q : Option Value → zz_H → Prop} {y0 : Int32} {s s' : mS} {v : Option Value} (hf : mf_270_12 N y0 s = some (s', v)) (k : Q v (mH h s')) : zz_E zp_P zt_tf zt_fd X (d + 2) zm_270 12 [] [.int y0] (mH h s) Q := by
  unfold mf_270_12 at hf
  refine mb_270_12 hh  (fun c => ?_) (fun c => ?_)
  · rw [if_pos c] at hf
    exact mr_270_21 hh hf k
  · rw [if_neg c] at hf
    exact mr_270_17 hh hf k
def mf_270_9 (N : Nat) (y1 : Int32) (s : mS) : mO := mo_bi (mf_62 N y1 s) (fun s1 y => mf_270_12 N y s1)
theorem mr_270_9 {X : Nat → Option zz_C} {h : zz_H} (hh : 111 ≤ h.length) {d : Nat} {N : Nat} {Q : Option Value → zz_H → Prop} {y1 : Int32} {s s' : mS} {v : Option Value} (hf : mf_270_9 N y1 s = some (s', v)) (k : Q v (mH h s')) : zz_E zp_P zt_tf zt_fd X (d + 2) zm_270 9 [] [.int y1, .ref 61] (mH h s) Q := by
  unfold mf_270_9 at hf
  obtain ⟨s1, y, e, hf⟩ := mo_bi_ok hf
  exact mb_270_9 (d := d + 1) hh  (mr_62 (d := d + 1) hh e (mr_270_12 hh hf k))
def mf_270_0 (N : Nat)  (s : mS) : mO := mo_bi (mf_61 N (s.1 8) s) (fun s1 y => mf_270_9 N y s1)
theorem mr_270_0 {X : Nat → Option zz_C} {h : zz_H} (hh : 111 ≤ h.length) {d : Nat} {N : Nat} {Q : Option Value → zz_H → Prop}  {s s' : mS} {v : Option Value} (hf : mf_270_0 N  s = some (s', v)) (k : Q v (mH h s')) : zz_E zp_P zt_tf zt_fd X (d + 2) zm_270 0 [(0, .ref 61)] [] (mH h s) Q := by
  unfold mf_270_0 at hf
  obtain ⟨s1, y, e, hf⟩ := mo_bi_ok hf
  exact mb_270_0 (d := d + 1) hh  (mr_61 (d := d + 0) hh e (mr_270_9 hh hf k))
/-- isBracketBehind -/
def mf_270 (N : Nat)  (s : mS) : mO := mf_270_0 N  s
theorem mr_270 {X : Nat → Option zz_C} {h : zz_H} (hh : 111 ≤ h.length) {d : Nat} {N : Nat} {Q : Option Value → zz_H → Prop}  {s s' : mS} {v : Option Value} (hf : mf_270 N  s = some (s', v)) (k : Q v (mH h s')) : zz_E zp_P zt_tf zt_fd X (d + 2) zm_270 0 [(0, .ref 61)] [] (mH h s) Q := by
  unfold mf_270 at hf
  exact zz_E.weak (mr_270_0 hh hf k) rfl ⟨rfl, trivial⟩
/-! wait (III)V -/
theorem mb_281_0 {X : Nat → Option zz_C} {h : zz_H} (hh : 111 ≤ h.length) {s : mS} {d : Nat} {Q : Option Value → zz_H → Prop} {x1 : Int32} {x2 : Int32} {x3 : Int32} (i9 : ¬ ((s.1 44) < 0 ∨ 80 ≤ Int32.toNatClampNeg (s.1 44))) (i19 : ¬ ((s.1 44) < 0 ∨ 80 ≤ Int32.toNatClampNeg (s.1 44))) (i29 : ¬ ((s.1 44) < 0 ∨ 80 ≤ Int32.toNatClampNeg (s.1 44))) (i39 : ¬ ((s.1 44) < 0 ∨ 80 ≤ Int32.toNatClampNeg (s.1 44))) (k : Q none (mH h (mI (mA (mA (mA (mA s 38 (upd (s.2.2.1 38) (Int32.toNatClampNeg (s.1 44)) x1)) 39 (upd (s.2.2.1 39) (Int32.toNatClampNeg (s.1 44)) x2)) 40 (upd (s.2.2.1 40) (Int32.toNatClampNeg (s.1 44)) 0)) 41 (upd (s.2.2.1 41) (Int32.toNatClampNeg (s.1 44)) x3)) 44 ((s.1 44) + 1)))) : zz_E zp_P zt_tf zt_fd X d zm_281 0 [(0, .ref 61), (1, .int x1), (2, .int x2), (3, .int x3)] [] (mH h s) Q := by
  refine zz_E.n 1 rfl rfl rfl ?_
  refine mE_g hh 4 (v := .ref 83) rfl rfl rfl ?_
  refine zz_E.n 5 rfl rfl rfl ?_
  refine mE_g hh 8 (v := .int (s.1 44)) rfl rfl rfl ?_
  refine zz_E.n 9 rfl rfl rfl ?_
  refine mE_is hh 10 22 (f := (s.2.2.1 38)) rfl (by decide) rfl rfl i9 (mA_83 _ _) rfl ?_
  refine zz_E.n 11 rfl rfl rfl ?_
  refine mE_g hh 14 (v := .ref 84) rfl rfl rfl ?_
  refine zz_E.n 15 rfl rfl rfl ?_
  refine mE_g hh 18 (v := .int (s.1 44)) rfl rfl rfl ?_
  refine zz_E.n 19 rfl rfl rfl ?_
  refine mE_is hh 20 23 (f := (s.2.2.1 39)) rfl (by decide) rfl rfl i19 (mA_84 _ _) rfl ?_
  refine zz_E.n 21 rfl rfl rfl ?_
  refine mE_g hh 24 (v := .ref 85) rfl rfl rfl ?_
  refine zz_E.n 25 rfl rfl rfl ?_
  refine mE_g hh 28 (v := .int (s.1 44)) rfl rfl rfl ?_
  refine zz_E.c 29 (.int 0) rfl rfl rfl rfl ?_
  refine mE_is hh 30 24 (f := (s.2.2.1 40)) rfl (by decide) rfl rfl i29 (mA_85 _ _) rfl ?_
  refine zz_E.n 31 rfl rfl rfl ?_
  refine mE_g hh 34 (v := .ref 86) rfl rfl rfl ?_
  refine zz_E.n 35 rfl rfl rfl ?_
  refine mE_g hh 38 (v := .int (s.1 44)) rfl rfl rfl ?_
  refine zz_E.n 39 rfl rfl rfl ?_
  refine mE_is hh 40 25 (f := (s.2.2.1 41)) rfl (by decide) rfl rfl i39 (mA_86 _ _) rfl ?_
  refine zz_E.n 41 rfl rfl rfl ?_
  refine zz_E.n 42 rfl rfl rfl ?_
  refine mE_g hh 45 (v := .int (s.1 44)) rfl rfl rfl ?_
  refine zz_E.c 46 (.int 1) rfl rfl rfl rfl ?_
  refine zz_E.n 47 rfl rfl rfl ?_
  refine mE_p hh 50 rfl (by decide) rfl (mF_44 _ _) rfl ?_
  refine zz_E.ret rfl rfl rfl ?_
  exact k
def mf_281_0 (N : Nat) (x1 : Int32) (x2 : Int32) (x3 : Int32) (s : mS) : mO := if ¬ ((s.1 44) < 0 ∨ 80 ≤ Int32.toNatClampNeg (s.1 44)) then (if ¬ ((s.1 44) < 0 ∨ 80 ≤ Int32.toNatClampNeg (s.1 44)) then (if ¬ ((s.1 44) < 0 ∨ 80 ≤ Int32.toNatClampNeg (s.1 44)) then (if ¬ ((s.1 44) < 0 ∨ 80 ≤ Int32.toNatClampNeg (s.1 44)) then (some ((mI (mA (mA (mA (mA s 38 (upd (s.2.2.1 38) (Int32.toNatClampNeg (s.1 44)) x1)) 39 (upd (s.2.2.1 39) (Int32.toNatClampNeg (s.1 44)) x2)) 40 (upd (s.2.2.1 40) (Int32.toNatClampNeg (s.1 44)) 0)) 41 (upd (s.2.2.1 41) (Int32.toNatClampNeg (s.1 44)) x3)) 44 ((s.1 44) + 1)), none)) else none) else none) else none) else none
theorem mr_281_0 {X : Nat → Option zz_C} {h : zz_H} (hh : 111 ≤ h.length) {d : Nat} {N : Nat} {Q : Option Value → zz_H → Prop} {x1 : Int32} {x2 : Int32} {x3 : Int32} {s s' : mS} {v : Option Value} (hf : mf_281_0 N x1 x2 x3 s = some (s', v)) (k : Q v (mH h s')) : zz_E zp_P zt_tf zt_fd X (d + 0) zm_281 0 [(0, .ref 61), (1, .int x1), (2, .int x2), (3, .int x3)] [] (mH h s) Q := by
  unfold mf_281_0 at hf
  obtain ⟨q0, hf⟩ := mo_if hf
  obtain ⟨q1, hf⟩ := mo_if hf
  obtain ⟨q2, hf⟩ := mo_if hf
  obtain ⟨q3, hf⟩ := mo_if hf
  cases hf
  exact mb_281_0 hh q0 q1 q2 q3 k
/-- wait -/
def mf_281 (N : Nat) (x1 : Int32) (x2 : Int32) (x3 : Int32) (s : mS) : mO := mf_281_0 N x1 x2 x3 s
theorem mr_281 {X : Nat → Option zz_C} {h : zz_H} (hh : 111 ≤ h.length) {d : Nat} {N : Nat} {Q : Option Value → zz_H → Prop} {x1 : Int32} {x2 : Int32} {x3 : Int32} {s s' : mS} {v : Option Value} (hf : mf_281 N x1 x2 x3 s = some (s', v)) (k : Q v (mH h s')) : zz_E zp_P zt_tf zt_fd X (d + 0) zm_281 0 [(0, .ref 61), (1, .int x1), (2, .int x2), (3, .int x3)] [] (mH h s) Q := by
  unfold mf_281 at hf
  exact zz_E.weak (mr_281_0 hh hf k) rfl ⟨rfl, rfl, rfl, rfl, trivial⟩
/-! levelOf (I)I -/
theorem mb_282_0 {X : Nat → Option zz_C} {h : zz_H} (hh : 111 ≤ h.length) {s : mS} {d : Nat} {Q : Option Value → zz_H → Prop} {x0 : Int32} (k1 : x0 = 38 → zz_E zp_P zt_tf zt_fd X d zm_282 12 [] [] (mH h s) Q) (k2 : ¬ x0 = 38 → zz_E zp_P zt_tf zt_fd X d zm_282 6 [(0, .int x0)] [] (mH h s) Q) : zz_E zp_P zt_tf zt_fd X d zm_282 0 [(0, .int x0)] [] (mH h s) Q := by
  refine zz_E.n 1 rfl rfl rfl ?_
  refine zz_E.c 3 (.int 38) rfl rfl rfl rfl ?_
  refine zz_E.b2 12 6 (A := x0 = 38) rfl rfl (by decide) rfl rfl (fun c => ?_) (fun c => ?_)
  · exact zz_E.weak (k1 c) rfl trivial
  · exact zz_E.weak (k2 c) rfl ⟨rfl, trivial⟩
theorem mb_282_6 {X : Nat → Option zz_C} {h : zz_H} (hh : 111 ≤ h.length) {s : mS} {d : Nat} {Q : Option Value → zz_H → Prop} {x0 : Int32} (k1 : ¬ x0 = 124 → zz_E zp_P zt_tf zt_fd X d zm_282 16 [(0, .int x0)] [] (mH h s) Q) (k2 : ¬ ¬ x0 = 124 → zz_E zp_P zt_tf zt_fd X d zm_282 12 [] [] (mH h s) Q) : zz_E zp_P zt_tf zt_fd X d zm_282 6 [(0, .int x0)] [] (mH h s) Q := by
  refine zz_E.n 7 rfl rfl rfl ?_
  refine zz_E.c 9 (.int 124) rfl rfl rfl rfl ?_
  refine zz_E.b2 16 12 (A := ¬ x0 = 124) rfl (zz_cond_ne _ _) (by decide) rfl rfl (fun c => ?_) (fun c => ?_)
  · exact zz_E.weak (k1 c) rfl ⟨rfl, trivial⟩
  · exact zz_E.weak (k2 c) rfl trivial
theorem mb_282_12 {X : Nat → Option zz_C} {h : zz_H} (hh : 111 ≤ h.length) {s : mS} {d : Nat} {Q : Option Value → zz_H → Prop}  (k : zz_E zp_P zt_tf zt_fd X d zm_282 78 [] [.int 0] (mH h s) Q) : zz_E zp_P zt_tf zt_fd X d zm_282 12 [] [] (mH h s) Q := by
  refine zz_E.c 13 (.int 0) rfl rfl rfl rfl ?_
  refine zz_E.n 78 rfl rfl rfl ?_
  exact zz_E.weak k rfl trivial
theorem mb_282_16 {X : Nat → Option zz_C} {h : zz_H} (hh : 111 ≤ h.length) {s : mS} {d : Nat} {Q : Option Value → zz_H → Prop} {x0 : Int32} (k1 : 256 ≤ x0 → zz_E zp_P zt_tf zt_fd X d zm_282 35 [] [] (mH h s) Q) (k2 : ¬ 256 ≤ x0 → zz_E zp_P zt_tf zt_fd X d zm_282 23 [(0, .int x0)] [] (mH h s) Q) : zz_E zp_P zt_tf zt_fd X d zm_282 16 [(0, .int x0)] [] (mH h s) Q := by
  refine zz_E.n 17 rfl rfl rfl ?_
  refine zz_E.c 20 (.int 256) rfl rfl rfl rfl ?_
  refine zz_E.b2 35 23 (A := 256 ≤ x0) rfl rfl (by decide) rfl rfl (fun c => ?_) (fun c => ?_)
  · exact zz_E.weak (k1 c) rfl trivial
  · exact zz_E.weak (k2 c) rfl ⟨rfl, trivial⟩
theorem mb_282_23 {X : Nat → Option zz_C} {h : zz_H} (hh : 111 ≤ h.length) {s : mS} {d : Nat} {Q : Option Value → zz_H → Prop} {x0 : Int32} (k1 : x0 = 60 → zz_E zp_P zt_tf zt_fd X d zm_282 35 [] [] (mH h s) Q) (k2 : ¬ x0 = 60 → zz_E zp_P zt_tf zt_fd X d zm_282 29 [(0, .int x0)] [] (mH h s) Q) : zz_E zp_P zt_tf zt_fd X d zm_282 23 [(0, .int x0)] [] (mH h s) Q := by
  refine zz_E.n 24 rfl rfl rfl ?_
  refine zz_E.c 26 (.int 60) rfl rfl rfl rfl ?_
  refine zz_E.b2 35 29 (A := x0 = 60) rfl rfl (by decide) rfl rfl (fun c => ?_) (fun c => ?_)
  · exact zz_E.weak (k1 c) rfl trivial
  · exact zz_E.weak (k2 c) rfl ⟨rfl, trivial⟩
theorem mb_282_29 {X : Nat → Option zz_C} {h : zz_H} (hh : 111 ≤ h.length) {s : mS} {d : Nat} {Q : Option Value → zz_H → Prop} {x0 : Int32} (k1 : ¬ x0 = 62 → zz_E zp_P zt_tf zt_fd X d zm_282 39 [(0, .int x0)] [] (mH h s) Q) (k2 : ¬ ¬ x0 = 62 → zz_E zp_P zt_tf zt_fd X d zm_282 35 [] [] (mH h s) Q) : zz_E zp_P zt_tf zt_fd X d zm_282 29 [(0, .int x0)] [] (mH h s) Q := by
  refine zz_E.n 30 rfl rfl rfl ?_
  refine zz_E.c 32 (.int 62) rfl rfl rfl rfl ?_
  refine zz_E.b2 39 35 (A := ¬ x0 = 62) rfl (zz_cond_ne _ _) (by decide) rfl rfl (fun c => ?_) (fun c => ?_)
  · exact zz_E.weak (k1 c) rfl ⟨rfl, trivial⟩
  · exact zz_E.weak (k2 c) rfl trivial
theorem mb_282_35 {X : Nat → Option zz_C} {h : zz_H} (hh : 111 ≤ h.length) {s : mS} {d : Nat} {Q : Option Value → zz_H → Prop}  (k : zz_E zp_P zt_tf zt_fd X d zm_282 78 [] [.int 1] (mH h s) Q) : zz_E zp_P zt_tf zt_fd X d zm_282 35 [] [] (mH h s) Q := by
  refine zz_E.c 36 (.int 1) rfl rfl rfl rfl ?_
  refine zz_E.n 78 rfl rfl rfl ?_
  exact zz_E.weak k rfl trivial
theorem mb_282_39 {X : Nat → Option zz_C} {h : zz_H} (hh : 111 ≤ h.length) {s : mS} {d : Nat} {Q : Option Value → zz_H → Prop} {x0 : Int32} (k1 : x0 = 43 → zz_E zp_P zt_tf zt_fd X d zm_282 51 [] [] (mH h s) Q) (k2 : ¬ x0 = 43 → zz_E zp_P zt_tf zt_fd X d zm_282 45 [(0, .int x0)] [] (mH h s) Q) : zz_E zp_P zt_tf zt_fd X d zm_282 39 [(0, .int x0)] [] (mH h s) Q := by
  refine zz_E.n 40 rfl rfl rfl ?_
  refine zz_E.c 42 (.int 43) rfl rfl rfl rfl ?_
  refine zz_E.b2 51 45 (A := x0 = 43) rfl rfl (by decide) rfl rfl (fun c => ?_) (fun c => ?_)
  · exact zz_E.weak (k1 c) rfl trivial
  · exact zz_E.weak (k2 c) rfl ⟨rfl, trivial⟩
theorem mb_282_45 {X : Nat → Option zz_C} {h : zz_H} (hh : 111 ≤ h.length) {s : mS} {d : Nat} {Q : Option Value → zz_H → Prop} {x0 : Int32} (k1 : ¬ x0 = 45 → zz_E zp_P zt_tf zt_fd X d zm_282 55 [(0, .int x0)] [] (mH h s) Q) (k2 : ¬ ¬ x0 = 45 → zz_E zp_P zt_tf zt_fd X d zm_282 51 [] [] (mH h s) Q) : zz_E zp_P zt_tf zt_fd X d zm_282 45 [(0, .int x0)] [] (mH h s) Q := by
  refine zz_E.n 46 rfl rfl rfl ?_
  refine zz_E.c 48 (.int 45) rfl rfl rfl rfl ?_
  refine zz_E.b2 55 51 (A := ¬ x0 = 45) rfl (zz_cond_ne _ _) (by decide) rfl rfl (fun c => ?_) (fun c => ?_)
  · exact zz_E.weak (k1 c) rfl ⟨rfl, trivial⟩
  · exact zz_E.weak (k2 c) rfl trivial
theorem mb_282_51 {X : Nat → Option zz_C} {h : zz_H} (hh : 111 ≤ h.length) {s : mS} {d : Nat} {Q : Option Value → zz_H → Prop}  (k : zz_E zp_P zt_tf zt_fd X d zm_282 78 [] [.int 2] (mH h s) Q) : zz_E zp_P zt_tf zt_fd X d zm_282 51 [] [] (mH h s) Q := by
  refine zz_E.c 52 (.int 2) rfl rfl rfl rfl ?_
  refine zz_E.n 78 rfl rfl rfl ?_
  exact zz_E.weak k rfl trivial
theorem mb_282_55 {X : Nat → Option zz_C} {h : zz_H} (hh : 111 ≤ h.length) {s : mS} {d : Nat} {Q : Option Value → zz_H → Prop} {x0 : Int32} (k1 : x0 = 42 → zz_E zp_P zt_tf zt_fd X d zm_282 73 [] [] (mH h s) Q) (k2 : ¬ x0 = 42 → zz_E zp_P zt_tf zt_fd X d zm_282 61 [(0, .int x0)] [] (mH h s) Q) : zz_E zp_P zt_tf zt_fd X d zm_282 55 [(0, .int x0)] [] (mH h s) Q := by
  refine zz_E.n 56 rfl rfl rfl ?_
  refine zz_E.c 58 (.int 42) rfl rfl rfl rfl ?_
  refine zz_E.b2 73 61 (A := x0 = 42) rfl rfl (by decide) rfl rfl (fun c => ?_) (fun c => ?_)
  · exact zz_E.weak (k1 c) rfl trivial
  · exact zz_E.weak (k2 c) rfl ⟨rfl, trivial⟩
theorem mb_282_61 {X : Nat → Option zz_C} {h : zz_H} (hh : 111 ≤ h.length) {s : mS} {d : Nat} {Q : Option Value → zz_H → Prop} {x0 : Int32} (k1 : x0 = 47 → zz_E zp_P zt_tf zt_fd X d zm_282 73 [] [] (mH h s) Q) (k2 : ¬ x0 = 47 → zz_E zp_P zt_tf zt_fd X d zm_282 67 [(0, .int x0)] [] (mH h s) Q) : zz_E zp_P zt_tf zt_fd X d zm_282 61 [(0, .int x0)] [] (mH h s) Q := by
  refine zz_E.n 62 rfl rfl rfl ?_
  refine zz_E.c 64 (.int 47) rfl rfl rfl rfl ?_
  refine zz_E.b2 73 67 (A := x0 = 47) rfl rfl (by decide) rfl rfl (fun c => ?_) (fun c => ?_)
  · exact zz_E.weak (k1 c) rfl trivial
  · exact zz_E.weak (k2 c) rfl ⟨rfl, trivial⟩
theorem mb_282_67 {X : Nat → Option zz_C} {h : zz_H} (hh : 111 ≤ h.length) {s : mS} {d : Nat} {Q : Option Value → zz_H → Prop} {x0 : Int32} (k1 : ¬ x0 = 37 → zz_E zp_P zt_tf zt_fd X d zm_282 77 [] [] (mH h s) Q) (k2 : ¬ ¬ x0 = 37 → zz_E zp_P zt_tf zt_fd X d zm_282 73 [] [] (mH h s) Q) : zz_E zp_P zt_tf zt_fd X d zm_282 67 [(0, .int x0)] [] (mH h s) Q := by
  refine zz_E.n 68 rfl rfl rfl ?_
  refine zz_E.c 70 (.int 37) rfl rfl rfl rfl ?_
  refine zz_E.b2 77 73 (A := ¬ x0 = 37) rfl (zz_cond_ne _ _) (by decide) rfl rfl (fun c => ?_) (fun c => ?_)
  · exact zz_E.weak (k1 c) rfl trivial
  · exact zz_E.weak (k2 c) rfl trivial
theorem mb_282_73 {X : Nat → Option zz_C} {h : zz_H} (hh : 111 ≤ h.length) {s : mS} {d : Nat} {Q : Option Value → zz_H → Prop}  (k : zz_E zp_P zt_tf zt_fd X d zm_282 78 [] [.int 3] (mH h s) Q) : zz_E zp_P zt_tf zt_fd X d zm_282 73 [] [] (mH h s) Q := by
  refine zz_E.c 74 (.int 3) rfl rfl rfl rfl ?_
  refine zz_E.n 78 rfl rfl rfl ?_
  exact zz_E.weak k rfl trivial
theorem mb_282_77 {X : Nat → Option zz_C} {h : zz_H} (hh : 111 ≤ h.length) {s : mS} {d : Nat} {Q : Option Value → zz_H → Prop}  (k : zz_E zp_P zt_tf zt_fd X d zm_282 78 [] [.int (-1)] (mH h s) Q) : zz_E zp_P zt_tf zt_fd X d zm_282 77 [] [] (mH h s) Q := by
  refine zz_E.c 78 (.int (-1)) rfl rfl rfl rfl ?_
  exact zz_E.weak k rfl trivial
theorem mb_282_78 {X : Nat → Option zz_C} {h : zz_H} (hh : 111 ≤ h.length) {s : mS} {d : Nat} {Q : Option Value → zz_H → Prop} {y0 : Int32} (k : Q (some (.int y0)) (mH h s)) : zz_E zp_P zt_tf zt_fd X d zm_282 78 [] [.int y0] (mH h s) Q := by
  refine zz_E.ret rfl rfl rfl ?_
  exact k
def mf_282_78 (N : Nat) (y0 : Int32) (s : mS) : mO := some (s, (some (.int y0)))
theorem mr_282_78 {X : Nat → Option zz_C} {h : zz_H} (hh : 111 ≤ h.length) {d : Nat} {N : Nat} {Q : Option Value → zz_H → Prop} {y0 : Int32} {s s' : mS} {v : Option Value} (hf : mf_282_78 N y0 s = some (s', v)) (k : Q v (mH h s')) : zz_E zp_P zt_tf zt_fd X (d + 0) zm_282 78 [] [.int y0] (mH h s) Q := by
  unfold mf_282_78 at hf
  cases hf
  exact mb_282_78 hh  k
def mf_282_12 (N : Nat)  (s : mS) : mO := mf_282_78 N 0 s
theorem mr_282_12 {X : Nat → Option zz_C} {h : zz_H} (hh : 111 ≤ h.length) {d : Nat} {N : Nat} {Q : Option Value → zz_H → Prop}  {s s' : mS} {v : Option Value} (hf : mf_282_12 N  s = some (s', v)) (k : Q v (mH h s')) : zz_E zp_P zt_tf zt_fd X (d + 0) zm_282 12 [] [] (mH h s) Q := by
  unfold mf_282_12 at hf
  exact mb_282_12 hh  (mr_282_78 hh hf k)
def mf_282_35 (N : Nat)  (s : mS) : mO := mf_282_78 N 1 s
theorem mr_282_35 {X : Nat → Option zz_C} {h : zz_H} (hh : 111 ≤ h.length) {d : Nat} {N : Nat} {Q : Option Value → zz_H → Prop}  {s s' : mS} {v : Option Value} (hf : mf_282_35 N  s = some (s', v)) (k : Q v (mH h s')) : zz_E zp_P zt_tf zt_fd X (d + 0) zm_282 35 [] [] (mH h s) Q := by
  unfold mf_282_35 at hf
  exact mb_282_35 hh  (mr_282_78 hh hf k)
def mf_282_51 (N : Nat)  (s : mS) : mO := mf_282_78 N 2 s
theorem mr_282_51 {X : Nat → Option zz_C} {h : zz_H} (hh : 111 ≤ h.length) {d : Nat} {N : Nat} {Q : Option Value → zz_H → Prop}  {s s' : mS} {v : Option Value} (hf : mf_282_51 N  s = some (s', v)) (k : Q v (mH h s')) : zz_E zp_P zt_tf zt_fd X (d + 0) zm_282 51 [] [] (mH h s) Q := by
  unfold mf_282_51 at hf
  exact mb_282_51 hh  (mr_282_78 hh hf k)
def mf_282_73 (N : Nat)  (s : mS) : mO := mf_282_78 N 3 s
theorem mr_282_73 {X : Nat → Option zz_C} {h : zz_H} (hh : 111 ≤ h.length) {d : Nat} {N : Nat} {Q : Option Value → zz_H → Prop}  {s s' : mS} {v : Option Value} (hf : mf_282_73 N  s = some (s', v)) (k : Q v (mH h s')) : zz_E zp_P zt_tf zt_fd X (d + 0) zm_282 73 [] [] (mH h s) Q := by
  unfold mf_282_73 at hf
  exact mb_282_73 hh  (mr_282_78 hh hf k)
def mf_282_77 (N : Nat)  (s : mS) : mO := mf_282_78 N (-1) s
theorem mr_282_77 {X : Nat → Option zz_C} {h : zz_H} (hh : 111 ≤ h.length) {d : Nat} {N : Nat} {Q : Option Value → zz_H → Prop}  {s s' : mS} {v : Option Value} (hf : mf_282_77 N  s = some (s', v)) (k : Q v (mH h s')) : zz_E zp_P zt_tf zt_fd X (d + 0) zm_282 77 [] [] (mH h s) Q := by
  unfold mf_282_77 at hf
  exact mb_282_77 hh  (mr_282_78 hh hf k)
def mf_282_67 (N : Nat) (x0 : Int32) (s : mS) : mO := if ¬ x0 = 37 then mf_282_77 N  s else mf_282_73 N  s
theorem mr_282_67 {X : Nat → Option zz_C} {h : zz_H} (hh : 111 ≤ h.length) {d : Nat} {N : Nat} {Q : Option Value → zz_H → Prop} {x0 : Int32} {s s' : mS} {v : Option Value} (hf : mf_282_67 N x0 s = some (s', v)) (k : Q v (mH h s')) : zz_E zp_P zt_tf zt_fd X (d + 0) zm_282 67 [(0, .int x0)] [] (mH h s) Q := by
  unfold mf_282_67 at hf
  refine mb_282_67 hh  (fun c => ?_) (fun c => ?_)
  · rw [if_pos c] at hf
    exact mr_282_77 hh hf k
  · rw [if_neg c] at hf
    exact mr_282_73 hh hf k
def mf_282_61 (N : Nat) (x0 : Int32) (s : mS) : mO := if x0 = 47 then mf_282_73 N  s else mf_282_67 N x0 s
theorem mr_282_61 {X : Nat → Option zz_C} {h : zz_H} (hh : 111 ≤ h.length) {d : Nat} {N : Nat} {Q : Option Value → zz_H → Prop} {x0 : Int32} {s s' : mS} {v : Option Value} (hf : mf_282_61 N x0 s = some (s', v)) (k : Q v (mH h s')) : zz_E zp_P zt_tf zt_fd X (d + 0) zm_282 61 [(0, .int x0)] [] (mH h s) Q := by
  unfold mf_282_61 at hf
  refine mb_282_61 hh  (fun c => ?_) (fun c => ?_)
  · rw [if_pos c] at hf
    exact mr_282_73 hh hf k
  · rw [if_neg c] at hf
    exact mr_282_67 hh hf k
def mf_282_55 (N : Nat) (x0 : Int32) (s : mS) : mO := if x0 = 42 then mf_282_73 N  s else mf_282_61 N x0 s
theorem mr_282_55 {X : Nat → Option zz_C} {h : zz_H} (hh : 111 ≤ h.length) {d : Nat} {N : Nat} {Q : Option Value → zz_H → Prop} {x0 : Int32} {s s' : mS} {v : Option Value} (hf : mf_282_55 N x0 s = some (s', v)) (k : Q v (mH h s')) : zz_E zp_P zt_tf zt_fd X (d + 0) zm_282 55 [(0, .int x0)] [] (mH h s) Q := by
  unfold mf_282_55 at hf
  refine mb_282_55 hh  (fun c => ?_) (fun c => ?_)
  · rw [if_pos c] at hf
    exact mr_282_73 hh hf k
  · rw [if_neg c] at hf
    exact mr_282_61 hh hf k
def mf_282_45 (N : Nat) (x0 : Int32) (s : mS) : mO := if ¬ x0 = 45 then mf_282_55 N x0 s else mf_282_51 N  s
theorem mr_282_45 {X : Nat → Option zz_C} {h : zz_H} (hh : 111 ≤ h.length) {d : Nat} {N : Nat} {Q : Option Value → zz_H → Prop} {x0 : Int32} {s s' : mS} {v : Option Value} (hf : mf_282_45 N x0 s = some (s', v)) (k : Q v (mH h s')) : zz_E zp_P zt_tf zt_fd X (d + 0) zm_282 45 [(0, .int x0)] [] (mH h s) Q := by
  unfold mf_282_45 at hf
  refine mb_282_45 hh  (fun c => ?_) (fun c => ?_)
  · rw [if_pos c] at hf
    exact mr_282_55 hh hf k
  · rw [if_neg c] at hf
    exact mr_282_51 hh hf k
def mf_282_39 (N : Nat) (x0 : Int32) (s : mS) : mO := if x0 = 43 then mf_282_51 N  s else mf_282_45 N x0 s
theorem mr_282_39 {X : Nat → Option zz_C} {h : zz_H} (hh : 111 ≤ h.length) {d : Nat} {N : Nat} {Q : Option Value → zz_H → Prop} {x0 : Int32} {s s' : mS} {v : Option Value} (hf : mf_282_39 N x0 s = some (s', v)) (k : Q v (mH h s')) : zz_E zp_P zt_tf zt_fd X (d + 0) zm_282 39 [(0, .int x0)] [] (mH h s) Q := by
  unfold mf_282_39 at hf
  refine mb_282_39 hh  (fun c => ?_) (fun c => ?_)
  · rw [if_pos c] at hf
    exact mr_282_51 hh hf k
  · rw [if_neg c] at hf
    exact mr_282_45 hh hf k
def mf_282_29 (N : Nat) (x0 : Int32) (s : mS) : mO := if ¬ x0 = 62 then mf_282_39 N x0 s else mf_282_35 N  s
theorem mr_282_29 {X : Nat → Option zz_C} {h : zz_H} (hh : 111 ≤ h.length) {d : Nat} {N : Nat} {Q : Option Value → zz_H → Prop} {x0 : Int32} {s s' : mS} {v : Option Value} (hf : mf_282_29 N x0 s = some (s', v)) (k : Q v (mH h s')) : zz_E zp_P zt_tf zt_fd X (d + 0) zm_282 29 [(0, .int x0)] [] (mH h s) Q := by
  unfold mf_282_29 at hf
  refine mb_282_29 hh  (fun c => ?_) (fun c => ?_)
  · rw [if_pos c] at hf
    exact mr_282_39 hh hf k
  · rw [if_neg c] at hf
    exact mr_282_35 hh hf k
def mf_282_23 (N : Nat) (x0 : Int32) (s : mS) : mO := if x0 = 60 then mf_282_35 N  s else mf_282_29 N x0 s
theorem mr_282_23 {X : Nat → Option zz_C} {h : zz_H} (hh : 111 ≤ h.length) {d : Nat} {N : Nat} {Q : Option Value → zz_H → Prop} {x0 : Int32} {s s' : mS} {v : Option Value} (hf : mf_282_23 N x0 s = some (s', v)) (k : Q v (mH h s')) : zz_E zp_P zt_tf zt_fd X (d + 0) zm_282 23 [(0, .int x0)] [] (mH h s) Q := by
  unfold mf_282_23 at hf
  refine mb_282_23 hh  (fun c => ?_) (fun c => ?_)
  · rw [if_pos c] at hf
    exact mr_282_35 hh hf k
  · rw [if_neg c] at hf
    exact mr_282_29 hh hf k
def mf_282_16 (N : Nat) (x0 : Int32) (s : mS) : mO := if 256 ≤ x0 then mf_282_35 N  s else mf_282_23 N x0 s
theorem mr_282_16 {X : Nat → Option zz_C} {h : zz_H} (hh : 111 ≤ h.length) {d : Nat} {N : Nat} {Q : Option Value → zz_H → Prop} {x0 : Int32} {s s' : mS} {v : Option Value} (hf : mf_282_16 N x0 s = some (s', v)) (k : Q v (mH h s')) : zz_E zp_P zt_tf zt_fd X (d + 0) zm_282 16 [(0, .int x0)] [] (mH h s) Q := by
  unfold mf_282_16 at hf
  refine mb_282_16 hh  (fun c => ?_) (fun c => ?_)
  · rw [if_pos c] at hf
    exact mr_282_35 hh hf k
  · rw [if_neg c] at hf
    exact mr_282_23 hh hf k
def mf_282_6 (N : Nat) (x0 : Int32) (s : mS) : mO := if ¬ x0 = 124 then mf_282_16 N x0 s else mf_282_12 N  s
theorem mr_282_6 {X : Nat → Option zz_C} {h : zz_H} (hh : 111 ≤ h.length) {d : Nat} {N : Nat} {Q : Option Value → zz_H → Prop} {x0 : Int32} {s s' : mS} {v : Option Value} (hf : mf_282_6 N x0 s = some (s', v)) (k : Q v (mH h s')) : zz_E zp_P zt_tf zt_fd X (d + 0) zm_282 6 [(0, .int x0)] [] (mH h s) Q := by
  unfold mf_282_6 at hf
  refine mb_282_6 hh  (fun c => ?_) (fun c => ?_)
  · rw [if_pos c] at hf
    exact mr_282_16 hh hf k
  · rw [if_neg c] at hf
    exact mr_282_12 hh hf k
def mf_282_0 (N : Nat) (x0 : Int32) (s : mS) : mO := if x0 = 38 then mf_282_12 N  s else mf_282_6 N x0 s
theorem mr_282_0 {X : Nat → Option zz_C} {h : zz_H} (hh : 111 ≤ h.length) {d : Nat} {N : Nat} {Q : Option Value → zz_H → Prop} {x0 : Int32} {s s' : mS} {v : Option Value} (hf : mf_282_0 N x0 s = some (s', v)) (k : Q v (mH h s')) : zz_E zp_P zt_tf zt_fd X (d + 0) zm_282 0 [(0, .int x0)] [] (mH h s) Q := by
  unfold mf_282_0 at hf
  refine mb_282_0 hh  (fun c => ?_) (fun c => ?_)
  · rw [if_pos c] at hf
    exact mr_282_12 hh hf k
  · rw [if_neg c] at hf
    exact mr_282_6 hh hf k
/-- levelOf -/
def mf_282 (N : Nat) (x0 : Int32) (s : mS) : mO := mf_282_0 N x0 s
theorem mr_282 {X : Nat → Option zz_C} {h : zz_H} (hh : 111 ≤ h.length) {d : Nat} {N : Nat} {Q : Option Value → zz_H → Prop} {x0 : Int32} {s s' : mS} {v : Option Value} (hf : mf_282 N x0 s = some (s', v)) (k : Q v (mH h s')) : zz_E zp_P zt_tf zt_fd X (d + 0) zm_282 0 [(0, .int x0)] [] (mH h s) Q := by
  unfold mf_282 at hf
  exact zz_E.weak (mr_282_0 hh hf k) rfl ⟨rfl, trivial⟩
/-! isWaiting (I)Z -/
theorem mb_283_0 {X : Nat → Option zz_C} {h : zz_H} (hh : 111 ≤ h.length) {s : mS} {d : Nat} {Q : Option Value → zz_H → Prop} {x1 : Int32} (k1 : (s.1 44) ≤ 0 → zz_E zp_P zt_tf zt_fd X d zm_283 26 [] [] (mH h s) Q) (k2 : ¬ (s.1 44) ≤ 0 → zz_E zp_P zt_tf zt_fd X d zm_283 7 [(0, .ref 61), (1, .int x1)] [] (mH h s) Q) : zz_E zp_P zt_tf zt_fd X d zm_283 0 [(0, .ref 61), (1, .int x1)] [] (mH h s) Q := by
  refine zz_E.n 1 rfl rfl rfl ?_
  refine mE_g hh 4 (v := .int (s.1 44)) rfl rfl rfl ?_
  refine zz_E.b1 26 7 (A := (s.1 44) ≤ 0) rfl rfl (by decide) rfl rfl (fun c => ?_) (fun c => ?_)
  · exact zz_E.weak (k1 c) rfl trivial
  · exact zz_E.weak (k2 c) rfl ⟨rfl, rfl, trivial⟩
theorem mb_283_7 {X : Nat → Option zz_C} {h : zz_H} (hh : 111 ≤ h.length) {s : mS} {d : Nat} {Q : Option Value → zz_H → Prop} {x1 : Int32} (i17 : ¬ (((s.1 44) - 1) < 0 ∨ 80 ≤ Int32.toNatClampNeg ((s.1 44) - 1))) (k1 : ¬ ((s.2.2.1 38) (Int32.toNatClampNeg ((s.1 44) - 1))) = x1 → zz_E zp_P zt_tf zt_fd X d zm_283 26 [] [] (mH h s) Q) (k2 : ¬ ¬ ((s.2.2.1 38) (Int32.toNatClampNeg ((s.1 44) - 1))) = x1 → zz_E zp_P zt_tf zt_fd X d zm_283 22 [] [] (mH h s) Q) : zz_E zp_P zt_tf zt_fd X d zm_283 7 [(0, .ref 61), (1, .int x1)] [] (mH h s) Q := by
  refine zz_E.n 8 rfl rfl rfl ?_
  refine mE_g hh 11 (v := .ref 83) rfl rfl rfl ?_
  refine zz_E.n 12 rfl rfl rfl ?_
  refine mE_g hh 15 (v := .int (s.1 44)) rfl rfl rfl ?_
  refine zz_E.c 16 (.int 1) rfl rfl rfl rfl ?_
  refine zz_E.n 17 rfl rfl rfl ?_
  refine mE_ia hh 18 22 (f := (s.2.2.1 38)) rfl (by decide) rfl rfl i17 rfl ?_
  refine zz_E.n 19 rfl rfl rfl ?_
  refine zz_E.b2 26 22 (A := ¬ ((s.2.2.1 38) (Int32.toNatClampNeg ((s.1 44) - 1))) = x1) rfl (zz_cond_ne _ _) (by decide) rfl rfl (fun c => ?_) (fun c => ?_)
  · exact zz_E.weak (k1 c) rfl trivial
  · exact zz_E.weak (k2 c) rfl trivial
theorem mb_283_22 {X : Nat → Option zz_C} {h : zz_H} (hh : 111 ≤ h.length) {s : mS} {d : Nat} {Q : Option Value → zz_H → Prop}  (k : zz_E zp_P zt_tf zt_fd X d zm_283 27 [] [.int 1] (mH h s) Q) : zz_E zp_P zt_tf zt_fd X d zm_283 22 [] [] (mH h s) Q := by
  refine zz_E.c 23 (.int 1) rfl rfl rfl rfl ?_
  refine zz_E.n 27 rfl rfl rfl ?_
  exact zz_E.weak k rfl trivial
theorem mb_283_26 {X : Nat → Option zz_C} {h : zz_H} (hh : 111 ≤ h.length) {s : mS} {d : Nat} {Q : Option Value → zz_H → Prop}  (k : zz_E zp_P zt_tf zt_fd X d zm_283 27 [] [.int 0] (mH h s) Q) : zz_E zp_P zt_tf zt_fd X d zm_283 26 [] [] (mH h s) Q := by
  refine zz_E.c 27 (.int 0) rfl rfl rfl rfl ?_
  exact zz_E.weak k rfl trivial
theorem mb_283_27 {X : Nat → Option zz_C} {h : zz_H} (hh : 111 ≤ h.length) {s : mS} {d : Nat} {Q : Option Value → zz_H → Prop} {y0 : Int32} (k : Q (some (.int y0)) (mH h s)) (rb : zz_reti (some .boolean) y0 = true) : zz_E zp_P zt_tf zt_fd X d zm_283 27 [] [.int y0] (mH h s) Q := by
  refine zz_E.ret rfl rfl (if_pos ⟨rfl, rb⟩) ?_
  exact k
def mf_283_27 (N : Nat) (y0 : Int32) (s : mS) : mO := if zz_reti (some .boolean) y0 = true then some (s, (some (.int y0))) else none
theorem mr_283_27 {X : Nat → Option zz_C} {h : zz_H} (hh : 111 ≤ h.length) {d : Nat} {N : Nat} {Q : Option Value → zz_H → Prop} {y0 : Int32} {s s' : mS} {v : Option Value} (hf : mf_283_27 N y0 s = some (s', v)) (k : Q v (mH h s')) : zz_E zp_P zt_tf zt_fd X (d + 0) zm_283 27 [] [.int y0] (mH h s) Q := by
  unfold mf_283_27 at hf
  obtain ⟨rb, hf⟩ := mo_if hf
  cases hf
  exact mb_283_27 hh  k rb
def mf_283_26 (N : Nat)  (s : mS) : mO := mf_283_27 N 0 s
theorem mr_283_26 {X : Nat → Option zz_C} {h : zz_H} (hh : 111 ≤ h.length) {d : Nat} {N : Nat} {Q : Option Value → zz_H → Prop}  {s s' : mS} {v : Option Value} (hf : mf_283_26 N  s = some (s', v)) (k : Q v (mH h s')) : zz_E zp_P zt_tf zt_fd X (d + 0) zm_283 26 [] [] (mH h s) Q := by
  unfold mf_283_26 at hf
  exact mb_283_26 hh  (mr_283_27 hh hf k)
def mf_283_22 (N : Nat)  (s : mS) : mO := mf_283_27 N 1 s
theorem mr_283_22 {X : Nat → Option zz_C} {h : zz_H} (hh : 111 ≤ h.length) {d : Nat} {N : Nat} {Q : Option Value → zz_H → Prop}  {s s' : mS} {v : Option Value} (hf : mf_283_22 N  s = some (s', v)) (k : Q v (mH h s')) : zz_E zp_P zt_tf zt_fd X (d + 0) zm_283 22 [] [] (mH h s) Q := by
  unfold mf_283_22 at hf
  exact mb_283_22 hh  (mr_283_27 hh hf k)
def mf_283_7 (N : Nat) (x1 : Int32) (s : mS) : mO := if ¬ (((s.1 44) - 1) < 0 ∨ 80 ≤ Int32.toNatClampNeg ((s.1 44) - 1)) then (if ¬ ((s.2.2.1 38) (Int32.toNatClampNeg ((s.1 44) - 1))) = x1 then mf_283_26 N  s else mf_283_22 N  s) else none
theorem mr_283_7 {X : Nat → Option zz_C} {h : zz_H} (hh : 111 ≤ h.length) {d : Nat} {N : Nat} {Q : Option Value → zz_H → Prop} {x1 : Int32} {s s' : mS} {v : Option Value} (hf : mf_283_7 N x1 s = some (s', v)) (k : Q v (mH h s')) : zz_E zp_P zt_tf zt_fd X (d + 0) zm_283 7 [(0, .ref 61), (1, .int x1)] [] (mH h s) Q := by
  unfold mf_283_7 at hf
  obtain ⟨q0, hf⟩ := mo_if hf
  refine mb_283_7 hh q0 (fun c => ?_) (fun c => ?_)
  · rw [if_pos c] at hf
    exact mr_283_26 hh hf k
  · rw [if_neg c] at hf
    exact mr_283_22 hh hf k
def mf_283_0 (N : Nat) (x1 : Int32) (s : mS) : mO := if (s.1 44) ≤ 0 then mf_283_26 N  s else mf_283_7 N x1 s
theorem mr_283_0 {X : Nat → Option zz_C} {h : zz_H} (hh : 111 ≤ h.length) {d : Nat} {N : Nat} {Q : Option Value → zz_H → Prop} {x1 : Int32} {s s' : mS} {v : Option Value} (hf : mf_283_0 N x1 s = some (s', v)) (k : Q v (mH h s')) : zz_E zp_P zt_tf zt_fd X (d + 0) zm_283 0 [(0, .ref 61), (1, .int x1)] [] (mH h s) Q := by
  unfold mf_283_0 at hf
  refine mb_283_0 hh  (fun c => ?_) (fun c => ?_)
  · rw [if_pos c] at hf
    exact mr_283_26 hh hf k
  · rw [if_neg c] at hf
    exact mr_283_7 hh hf k
/-- isWaiting -/
def mf_283 (N : Nat) (x1 : Int32) (s : mS) : mO := mf_283_0 N x1 s
theorem mr_283 {X : Nat → Option zz_C} {h : zz_H} (hh : 111 ≤ h.length) {d : Nat} {N : Nat} {Q : Option Value → zz_H → Prop} {x1 : Int32} {s s' : mS} {v : Option Value} (hf : mf_283 N x1 s = some (s', v)) (k : Q v (mH h s')) : zz_E zp_P zt_tf zt_fd X (d + 0) zm_283 0 [(0, .ref 61), (1, .int x1)] [] (mH h s) Q := by
  unfold mf_283 at hf
  exact zz_E.weak (mr_283_0 hh hf k) rfl ⟨rfl, rfl, trivial⟩
/-! reduce (I)V -/
theorem mb_284_0 {X : Nat → Option zz_C} {h : zz_H} (hh : 111 ≤ h.length) {s : mS} {d : Nat} {Q : Option Value → zz_H → Prop} {x1 : Int32} (k : zz_E zp_P zt_tf zt_fd X d zm_283 0 [(0, .ref 61), (1, .int 1)] [] (mH h s) (fun v h' => zz_E zp_P zt_tf zt_fd X (d + 1) zm_284 5 [(0, .ref 61), (1, .int x1)] (v.toList ++ []) h' Q)) : zz_E zp_P zt_tf zt_fd X (d + 1) zm_284 0 [(0, .ref 61), (1, .int x1)] [] (mH h s) Q := by
  refine zz_E.n 1 rfl rfl rfl ?_
  refine zz_E.c 2 (.int 1) rfl rfl rfl rfl ?_
  refine mE_cv hh 5 (as := []) rfl rfl (Nat.le_of_ble_eq_true rfl) (Nat.le_of_ble_eq_true rfl) rfl (Nat.le_of_ble_eq_true rfl) rfl ?_
  refine zz_E.mono k ?_
  intro v h' hE
  exact zz_E.weak hE rfl ⟨rfl, rfl, trivial⟩
theorem mb_284_5 {X : Nat → Option zz_C} {h : zz_H} (hh : 111 ≤ h.length) {s : mS} {d : Nat} {Q : Option Value → zz_H → Prop} {x1 : Int32} {y0 : Int32} (k1 : y0 = 0 → zz_E zp_P zt_tf zt_fd X d zm_284 64 [] [] (mH h s) Q) (k2 : ¬ y0 = 0 → zz_E zp_P zt_tf zt_fd X d zm_284 8 [(0, .ref 61), (1, .int x1)] [] (mH h s) Q) : zz_E zp_P zt_tf zt_fd X d zm_284 5 [(0, .ref 61), (1, .int x1)] [.int y0] (mH h s) Q := by
  refine zz_E.b1 64 8 (A := y0 = 0) rfl rfl (by decide) rfl rfl (fun c => ?_) (fun c => ?_)
  · exact zz_E.weak (k1 c) rfl trivial
  · exact zz_E.weak (k2 c) rfl ⟨rfl, rfl, trivial⟩
theorem mb_284_8 {X : Nat → Option zz_C} {h : zz_H} (hh : 111 ≤ h.length) {s : mS} {d : Nat} {Q : Option Value → zz_H → Prop} {x1 : Int32} (i18 : ¬ (((s.1 44) - 1) < 0 ∨ 80 ≤ Int32.toNatClampNeg ((s.1 44) - 1))) (k : zz_E zp_P zt_tf zt_fd X d zm_282 0 [(0, .int ((s.2.2.1 39) (Int32.toNatClampNeg ((s.1 44) - 1))))] [] (mH h s) (fun v h' => zz_E zp_P zt_tf zt_fd X (d + 1) zm_284 22 [(0, .ref 61), (1, .int x1)] (v.toList ++ []) h' Q)) : zz_E zp_P zt_tf zt_fd X (d + 1) zm_284 8 [(0, .ref 61), (1, .int x1)] [] (mH h s) Q := by
  refine zz_E.n 9 rfl rfl rfl ?_
  refine mE_g hh 12 (v := .ref 84) rfl rfl rfl ?_
  refine zz_E.n 13 rfl rfl rfl ?_
  refine mE_g hh 16 (v := .int (s.1 44)) rfl rfl rfl ?_
  refine zz_E.c 17 (.int 1) rfl rfl rfl rfl ?_
  refine zz_E.n 18 rfl rfl rfl ?_
  refine mE_ia hh 19 23 (f := (s.2.2.1 39)) rfl (by decide) rfl rfl i18 rfl ?_
  refine zz_E.cl (M' := zm_282) 22 rfl rfl (by decide) rfl rfl ⟨rfl, Nat.le_of_ble_eq_true rfl⟩ rfl ?_
  refine zz_E.mono k ?_
  intro v h' hE
  exact zz_E.weak hE rfl ⟨rfl, rfl, trivial⟩
theorem mb_284_22 {X : Nat → Option zz_C} {h : zz_H} (hh : 111 ≤ h.length) {s : mS} {d : Nat} {Q : Option Value → zz_H → Prop} {x1 : Int32} {y0 : Int32} (k1 : y0 < x1 → zz_E zp_P zt_tf zt_fd X d zm_284 64 [] [] (mH h s) Q) (k2 : ¬ y0 < x1 → zz_E zp_P zt_tf zt_fd X d zm_284 26 [(0, .ref 61), (1, .int x1)] [] (mH h s) Q) : zz_E zp_P zt_tf zt_fd X d zm_284 22 [(0, .ref 61), (1, .int x1)] [.int y0] (mH h s) Q := by
  refine zz_E.n 23 rfl rfl rfl ?_
  refine zz_E.b2 64 26 (A := y0 < x1) rfl rfl (by decide) rfl rfl (fun c => ?_) (fun c => ?_)
  · exact zz_E.weak (k1 c) rfl trivial
  · exact zz_E.weak (k2 c) rfl ⟨rfl, rfl, trivial⟩
theorem mb_284_26 {X : Nat → Option zz_C} {h : zz_H} (hh : 111 ≤ h.length) {s : mS} {d : Nat} {Q : Option Value → zz_H → Prop} {x1 : Int32} (i46 : ¬ (((s.1 44) - 1) < 0 ∨ 80 ≤ Int32.toNatClampNeg ((s.1 44) - 1))) (i56 : ¬ (((s.1 44) - 1) < 0 ∨ 80 ≤ Int32.toNatClampNeg ((s.1 44) - 1))) (k : zz_E zp_P zt_tf zt_fd X d zm_271 0 [(0, .ref 61), (1, .int 5), (2, .int ((s.2.2.1 39) (Int32.toNatClampNeg ((s.1 44) - 1)))), (3, .int 0), (4, .int ((s.2.2.1 41) (Int32.toNatClampNeg ((s.1 44) - 1))))] [] (mH h (mI s 44 ((s.1 44) - 1))) (fun v h' => zz_E zp_P zt_tf zt_fd X (d + 1) zm_284 60 [(0, .ref 61), (1, .int x1)] (v.toList ++ []) h' Q)) : zz_E zp_P zt_tf zt_fd X (d + 1) zm_284 26 [(0, .ref 61), (1, .int x1)] [] (mH h s) Q := by
  refine zz_E.n 27 rfl rfl rfl ?_
  refine zz_E.n 28 rfl rfl rfl ?_
  refine mE_g hh 31 (v := .int (s.1 44)) rfl rfl rfl ?_
  refine zz_E.c 32 (.int 1) rfl rfl rfl rfl ?_
  refine zz_E.n 33 rfl rfl rfl ?_
  refine mE_p hh 36 rfl (by decide) rfl (mF_44 _ _) rfl ?_
  refine zz_E.n 37 rfl rfl rfl ?_
  refine zz_E.c 38 (.int 5) rfl rfl rfl rfl ?_
  refine zz_E.n 39 rfl rfl rfl ?_
  refine mE_g hh 42 (v := .ref 84) rfl rfl rfl ?_
  refine zz_E.n 43 rfl rfl rfl ?_
  refine mE_g hh 46 (v := .int ((s.1 44) - 1)) rfl rfl rfl ?_
  refine mE_ia hh 47 23 (f := (s.2.2.1 39)) rfl (by decide) rfl rfl i46 rfl ?_
  refine zz_E.c 48 (.int 0) rfl rfl rfl rfl ?_
  refine zz_E.n 49 rfl rfl rfl ?_
  refine mE_g hh 52 (v := .ref 86) rfl rfl rfl ?_
  refine zz_E.n 53 rfl rfl rfl ?_
  refine mE_g hh 56 (v := .int ((s.1 44) - 1)) rfl rfl rfl ?_
  refine mE_ia hh 57 25 (f := (s.2.2.1 41)) rfl (by decide) rfl rfl i56 rfl ?_
  refine mE_cv hh 60 (as := []) rfl rfl (Nat.le_of_ble_eq_true rfl) (Nat.le_of_ble_eq_true rfl) rfl (Nat.le_of_ble_eq_true rfl) rfl ?_
  refine zz_E.mono k ?_
  intro v h' hE
  exact zz_E.weak hE rfl ⟨rfl, rfl, trivial⟩
theorem mb_284_60 {X : Nat → Option zz_C} {h : zz_H} (hh : 111 ≤ h.length) {s : mS} {d : Nat} {Q : Option Value → zz_H → Prop} {x1 : Int32} {y0 : Int32} (k : zz_E zp_P zt_tf zt_fd X d zm_284 0 [(0, .ref 61), (1, .int x1)] [] (mH h s) Q) : zz_E zp_P zt_tf zt_fd X d zm_284 60 [(0, .ref 61), (1, .int x1)] [.int y0] (mH h s) Q := by
  refine zz_E.n 61 rfl rfl rfl ?_
  refine zz_E.n 0 rfl rfl rfl ?_
  exact zz_E.weak k rfl ⟨rfl, rfl, trivial⟩
theorem mb_284_64 {X : Nat → Option zz_C} {h : zz_H} (hh : 111 ≤ h.length) {s : mS} {d : Nat} {Q : Option Value → zz_H → Prop}  (k : Q none (mH h s)) : zz_E zp_P zt_tf zt_fd X d zm_284 64 [] [] (mH h s) Q := by
  refine zz_E.ret rfl rfl rfl ?_
  exact k
def mf_284_64 (N : Nat)  (s : mS) : mO := some (s, none)
theorem mr_284_64 {X : Nat → Option zz_C} {h : zz_H} (hh : 111 ≤ h.length) {d : Nat} {N : Nat} {Q : Option Value → zz_H → Prop}  {s s' : mS} {v : Option Value} (hf : mf_284_64 N  s = some (s', v)) (k : Q v (mH h s')) : zz_E zp_P zt_tf zt_fd X (d + 1) zm_284 64 [] [] (mH h s) Q := by
  unfold mf_284_64 at hf
  cases hf
  exact mb_284_64 hh  k
def mf_284_60 (N : Nat) (rc : Nat → Int32 → mS → mO) (x1 : Int32) (y0 : Int32) (s : mS) : mO := rc 0 x1 s
theorem mr_284_60 {X : Nat → Option zz_C} {h : zz_H} (hh : 111 ≤ h.length) {d : Nat} {N : Nat} {rc : Nat → Int32 → mS → mO} (hrc0 : ∀ {Q : Option Value → zz_H → Prop} {x1 : Int32} {s s' : mS} {v : Option Value}, rc 0 x1 s = some (s', v) → Q v (mH h s') → zz_E zp_P zt_tf zt_fd X (d + 1) zm_284 0 [(0, .ref 61), (1, .int x1)] [] (mH h s) Q) {Q : Option Value → zz_H → Prop} {x1 : Int32} {y0 : Int32} {s s' : mS} {v : Option Value} (hf : mf_284_60 N rc x1 y0 s = some (s', v)) (k : Q v (mH h s')) : zz_E zp_P zt_tf zt_fd X (d + 1) zm_284 60 [(0, .ref 61), (1, .int x1)] [.int y0] (mH h s) Q := by
  unfold mf_284_60 at hf
  exact mb_284_60 hh  (hrc0 hf k)
def mf_284_26 (N : Nat) (rc : Nat → Int32 → mS → mO) (x1 : Int32) (s : mS) : mO := if ¬ (((s.1 44) - 1) < 0 ∨ 80 ≤ Int32.toNatClampNeg ((s.1 44) - 1)) then (if ¬ (((s.1 44) - 1) < 0 ∨ 80 ≤ Int32.toNatClampNeg ((s.1 44) - 1)) then (mo_bi (mf_271 N 5 ((s.2.2.1 39) (Int32.toNatClampNeg ((s.1 44) - 1))) 0 ((s.2.2.1 41) (Int32.toNatClampNeg ((s.1 44) - 1))) (mI s 44 ((s.1 44) - 1))) (fun s1 y => mf_284_60 N rc x1 y s1)) else none) else none
theorem mr_284_26 {X : Nat → Option zz_C} {h : zz_H} (hh : 111 ≤ h.length) {d : Nat} {N : Nat} {rc : Nat → Int32 → mS → mO} (hrc0 : ∀ {Q : Option Value → zz_H → Prop} {x1 : Int32} {s s' : mS} {v : Option Value}, rc 0 x1 s = some (s', v) → Q v (mH h s') → zz_E zp_P zt_tf zt_fd X (d + 1) zm_284 0 [(0, .ref 61), (1, .int x1)] [] (mH h s) Q) {Q : Option Value → zz_H → Prop} {x1 : Int32} {s s' : mS} {v : Option Value} (hf : mf_284_26 N rc x1 s = some (s', v)) (k : Q v (mH h s')) : zz_E zp_P zt_tf zt_fd X (d + 1) zm_284 26 [(0, .ref 61), (1, .int x1)] [] (mH h s) Q := by
  unfold mf_284_26 at hf
  obtain ⟨q0, hf⟩ := mo_if hf
  obtain ⟨q1, hf⟩ := mo_if hf
  obtain ⟨s1, y, e, hf⟩ := mo_bi_ok hf
  exact mb_284_26 (d := d + 0) hh q0 q1 (mr_271 (d := d + 0) hh e (mr_284_60 hh hrc0 hf k))
def mf_284_22 (N : Nat) (rc : Nat → Int32 → mS → mO) (x1 : Int32) (y0 : Int32) (s : mS) : mO := if y0 < x1 then mf_284_64 N  s else mf_284_26 N rc x1 s
theorem mr_284_22 {X : Nat → Option zz_C} {h : zz_H} (hh : 111 ≤ h.length) {d : Nat} {N : Nat} {rc : Nat → Int32 → mS → mO} (hrc0 : ∀ {Q : Option Value → zz_H → Prop} {x1 : Int32} {s s' : mS} {v : Option Value}, rc 0 x1 s = some (s', v) → Q v (mH h s') → zz_E zp_P zt_tf zt_fd X (d + 1) zm_284 0 [(0, .ref 61), (1, .int x1)] [] (mH h s) Q) {Q : Option Value → zz_H → Prop} {x1 : Int32} {y0 : Int32} {s s' : mS} {v : Option Value} (hf : mf_284_22 N rc x1 y0 s = some (s', v)) (k : Q v (mH h s')) : zz_E zp_P zt_tf zt_fd X (d + 1) zm_284 22 [(0, .ref 61), (1, .int x1)] [.int y0] (mH h s) Q := by
  unfold mf_284_22 at hf
  refine mb_284_22 hh  (fun c => ?_) (fun c => ?_)
  · rw [if_pos c] at hf
    exact mr_284_64 hh hf k
  · rw [if_neg c] at hf
    exact mr_284_26 hh hrc0 hf k
def mf_284_8 (N : Nat) (rc : Nat → Int32 → mS → mO) (x1 : Int32) (s : mS) : mO := if ¬ (((s.1 44) - 1) < 0 ∨ 80 ≤ Int32.toNatClampNeg ((s.1 44) - 1)) then (mo_bi (mf_282 N ((s.2.2.1 39) (Int32.toNatClampNeg ((s.1 44) - 1))) s) (fun s1 y => mf_284_22 N rc x1 y s1)) else none
theorem mr_284_8 {X : Nat → Option zz_C} {h : zz_H} (hh : 111 ≤ h.length) {d : Nat} {N : Nat} {rc : Nat → Int32 → mS → mO} (hrc0 : ∀ {Q : Option Value → zz_H → Prop} {x1 : Int32} {s s' : mS} {v : Option Value}, rc 0 x1 s = some (s', v) → Q v (mH h s') → zz_E zp_P zt_tf zt_fd X (d + 1) zm_284 0 [(0, .ref 61), (1, .int x1)] [] (mH h s) Q) {Q : Option Value → zz_H → Prop} {x1 : Int32} {s s' : mS} {v : Option Value} (hf : mf_284_8 N rc x1 s = some (s', v)) (k : Q v (mH h s')) : zz_E zp_P zt_tf zt_fd X (d + 1) zm_284 8 [(0, .ref 61), (1, .int x1)] [] (mH h s) Q := by
  unfold mf_284_8 at hf
  obtain ⟨q0, hf⟩ := mo_if hf
  obtain ⟨s1, y, e, hf⟩ := mo_bi_ok hf
  exact mb_284_8 (d := d + 0) hh q0 (mr_282 (d := d + 0) hh e (mr_284_22 hh hrc0 hf k))
def mf_284_5 (N : Nat) (rc : Nat → Int32 → mS → mO) (x1 : Int32) (y0 : Int32) (s : mS) : mO := if y0 = 0 then mf_284_64 N  s else mf_284_8 N rc x1 s
theorem mr_284_5 {X : Nat → Option zz_C} {h : zz_H} (hh : 111 ≤ h.length) {d : Nat} {N : Nat} {rc : Nat → Int32 → mS → mO} (hrc0 : ∀ {Q : Option Value → zz_H → Prop} {x1 : Int32} {s s' : mS} {v : Option Value}, rc 0 x1 s = some (s', v) → Q v (mH h s') → zz_E zp_P zt_tf zt_fd X (d + 1) zm_284 0 [(0, .ref 61), (1, .int x1)] [] (mH h s) Q) {Q : Option Value → zz_H → Prop} {x1 : Int32} {y0 : Int32} {s s' : mS} {v : Option Value} (hf : mf_284_5 N rc x1 y0 s = some (s', v)) (k : Q v (mH h s')) : zz_E zp_P zt_tf zt_fd X (d + 1) zm_284 5 [(0, .ref 61), (1, .int x1)] [.int y0] (mH h s) Q := by
  unfold mf_284_5 at hf
  refine mb_284_5 hh  (fun c => ?_) (fun c => ?_)
  · rw [if_pos c] at hf
    exact mr_284_64 hh hf k
  · rw [if_neg c] at hf
    exact mr_284_8 hh hrc0 hf k
def mf_284_0 (N : Nat) (rc : Nat → Int32 → mS → mO) (x1 : Int32) (s : mS) : mO := mo_bi (mf_283 N 1 s) (fun s1 y => mf_284_5 N rc x1 y s1)
theorem mr_284_0 {X : Nat → Option zz_C} {h : zz_H} (hh : 111 ≤ h.length) {d : Nat} {N : Nat} {rc : Nat → Int32 → mS → mO} (hrc0 : ∀ {Q : Option Value → zz_H → Prop} {x1 : Int32} {s s' : mS} {v : Option Value}, rc 0 x1 s = some (s', v) → Q v (mH h s') → zz_E zp_P zt_tf zt_fd X (d + 1) zm_284 0 [(0, .ref 61), (1, .int x1)] [] (mH h s) Q) {Q : Option Value → zz_H → Prop} {x1 : Int32} {s s' : mS} {v : Option Value} (hf : mf_284_0 N rc x1 s = some (s', v)) (k : Q v (mH h s')) : zz_E zp_P zt_tf zt_fd X (d + 1) zm_284 0 [(0, .ref 61), (1, .int x1)] [] (mH h s) Q := by
  unfold mf_284_0 at hf
  obtain ⟨s1, y, e, hf⟩ := mo_bi_ok hf
  exact mb_284_0 (d := d + 0) hh  (mr_283 (d := d + 0) hh e (mr_284_5 hh hrc0 hf k))
def mf_284_L1 (N : Nat) : Nat → Nat → Int32 → mS → mO
  | 0, _, _, _ => none
  | n + 1, l, x1, s => if l = 0 then mf_284_0 N (mf_284_L1 N n) x1 s else none
theorem mr_284_L1 {X : Nat → Option zz_C} {h : zz_H} (hh : 111 ≤ h.length) {d : Nat} {N : Nat} : ∀ n : Nat, (∀ {Q : Option Value → zz_H → Prop} {x1 : Int32} {s s' : mS} {v : Option Value}, mf_284_L1 N n 0 x1 s = some (s', v) → Q v (mH h s') → zz_E zp_P zt_tf zt_fd X (d + 1) zm_284 0 [(0, .ref 61), (1, .int x1)] [] (mH h s) Q) := by
  intro n
  induction n with
  | zero => exact (fun hf _ => by cases hf)
  | succ n ih =>
    have h0 := @ih
    intro Q _ s s' v hf k
    unfold mf_284_L1 at hf
    rw [if_pos rfl] at hf
    exact mr_284_0 hh h0 hf k
/-- reduce -/
def mf_284 (N : Nat) (x1 : Int32) (s : mS) : mO := mf_284_L1 N N 0 x1 s
theorem mr_284 {X : Nat → Option zz_C} {h : zz_H} (hh : 111 ≤ h.length) {d : Nat} {N : Nat} {Q : Option Value → zz_H → Prop} {x1 : Int32} {s s' : mS} {v : Option Value} (hf : mf_284 N x1 s = some (s', v)) (k : Q v (mH h s')) : zz_E zp_P zt_tf zt_fd X (d + 1) zm_284 0 [(0, .ref 61), (1, .int x1)] [] (mH h s) Q := by
  unfold mf_284 at hf
  exact zz_E.weak (mr_284_L1 hh N hf k) rfl ⟨rfl, rfl, trivial⟩
/-! called (IJII)V -/
theorem mb_273_0 {X : Nat → Option zz_C} {h : zz_H} (hh : 111 ≤ h.length) {s : mS} {d : Nat} {Q : Option Value → zz_H → Prop} {x1 : Int32} {x2 : Int64} {x4 : Int32} {x5 : Int32} (i9 : ¬ ((s.1 29) < 0 ∨ 800 ≤ Int32.toNatClampNeg (s.1 29))) (i19 : ¬ ((s.1 29) < 0 ∨ 800 ≤ Int32.toNatClampNeg (s.1 29))) (i30 : ¬ ((s.1 29) < 0 ∨ 800 ≤ Int32.toNatClampNeg (s.1 29))) (i41 : ¬ ((s.1 29) < 0 ∨ 800 ≤ Int32.toNatClampNeg (s.1 29))) (k : Q none (mH h (mI (mA (mA (mB (mA s 30 (upd (s.2.2.1 30) (Int32.toNatClampNeg (s.1 29)) x1)) 33 (vp_updL (s.2.2.2 33) (Int32.toNatClampNeg (s.1 29)) x2)) 32 (upd (s.2.2.1 32) (Int32.toNatClampNeg (s.1 29)) x4)) 31 (upd (s.2.2.1 31) (Int32.toNatClampNeg (s.1 29)) x5)) 29 ((s.1 29) + 1)))) : zz_E zp_P zt_tf zt_fd X d zm_273 0 [(0, .ref 61), (1, .int x1), (2, .long x2), (4, .int x4), (5, .int x5)] [] (mH h s) Q := by
  refine zz_E.n 1 rfl rfl rfl ?_
  refine mE_g hh 4 (v := .ref 76) rfl rfl rfl ?_
  refine zz_E.n 5 rfl rfl rfl ?_
  refine mE_g hh 8 (v := .int (s.1 29)) rfl rfl rfl ?_
  refine zz_E.n 9 rfl rfl rfl ?_
  refine mE_is hh 10 15 (f := (s.2.2.1 30)) rfl (by decide) rfl rfl i9 (mA_76 _ _) rfl ?_
  refine zz_E.n 11 rfl rfl rfl ?_
  refine mE_g hh 14 (v := .ref 79) rfl rfl rfl ?_
  refine zz_E.n 15 rfl rfl rfl ?_
  refine mE_g hh 18 (v := .int (s.1 29)) rfl rfl rfl ?_
  refine zz_E.n 19 rfl rfl rfl ?_
  refine mE_ls hh 20 18 (f := (s.2.2.2 33)) rfl (by decide) rfl rfl i19 (mA_79 _ _) rfl ?_
  refine zz_E.n 21 rfl rfl rfl ?_
  refine mE_g hh 24 (v := .ref 78) rfl rfl rfl ?_
  refine zz_E.n 25 rfl rfl rfl ?_
  refine mE_g hh 28 (v := .int (s.1 29)) rfl rfl rfl ?_
  refine zz_E.n 30 rfl rfl rfl ?_
  refine mE_is hh 31 17 (f := (s.2.2.1 32)) rfl (by decide) rfl rfl i30 (mA_78 _ _) rfl ?_
  refine zz_E.n 32 rfl rfl rfl ?_
  refine mE_g hh 35 (v := .ref 77) rfl rfl rfl ?_
  refine zz_E.n 36 rfl rfl rfl ?_
  refine mE_g hh 39 (v := .int (s.1 29)) rfl rfl rfl ?_
  refine zz_E.n 41 rfl rfl rfl ?_
  refine mE_is hh 42 16 (f := (s.2.2.1 31)) rfl (by decide) rfl rfl i41 (mA_77 _ _) rfl ?_
  refine zz_E.n 43 rfl rfl rfl ?_
  refine zz_E.n 44 rfl rfl rfl ?_
  refine mE_g hh 47 (v := .int (s.1 29)) rfl rfl rfl ?_
  refine zz_E.c 48 (.int 1) rfl rfl rfl rfl ?_
  refine zz_E.n 49 rfl rfl rfl ?_
  refine mE_p hh 52 rfl (by decide) rfl (mF_29 _ _) rfl ?_
  refine zz_E.ret rfl rfl rfl ?_
  exact k
def mf_273_0 (N : Nat) (x1 : Int32) (x2 : Int64) (x4 : Int32) (x5 : Int32) (s : mS) : mO := if ¬ ((s.1 29) < 0 ∨ 800 ≤ Int32.toNatClampNeg (s.1 29)) then (if ¬ ((s.1 29) < 0 ∨ 800 ≤ Int32.toNatClampNeg (s.1 29)) then (if ¬ ((s.1 29) < 0 ∨ 800 ≤ Int32.toNatClampNeg (s.1 29)) then (if ¬ ((s.1 29) < 0 ∨ 800 ≤ Int32.toNatClampNeg (s.1 29)) then (some ((mI (mA (mA (mB (mA s 30 (upd (s.2.2.1 30) (Int32.toNatClampNeg (s.1 29)) x1)) 33 (vp_updL (s.2.2.2 33) (Int32.toNatClampNeg (s.1 29)) x2)) 32 (upd (s.2.2.1 32) (Int32.toNatClampNeg (s.1 29)) x4)) 31 (upd (s.2.2.1 31) (Int32.toNatClampNeg (s.1 29)) x5)) 29 ((s.1 29) + 1)), none)) else none) else none) else none) else none
theorem mr_273_0 {X : Nat → Option zz_C} {h : zz_H} (hh : 111 ≤ h.length) {d : Nat} {N : Nat} {Q : Option Value → zz_H → Prop} {x1 : Int32} {x2 : Int64} {x4 : Int32} {x5 : Int32} {s s' : mS} {v : Option Value} (hf : mf_273_0 N x1 x2 x4 x5 s = some (s', v)) (k : Q v (mH h s')) : zz_E zp_P zt_tf zt_fd X (d + 0) zm_273 0 [(0, .ref 61), (1, .int x1), (2, .long x2), (4, .int x4), (5, .int x5)] [] (mH h s) Q := by
  unfold mf_273_0 at hf
  obtain ⟨q0, hf⟩ := mo_if hf
  obtain ⟨q1, hf⟩ := mo_if hf
  obtain ⟨q2, hf⟩ := mo_if hf
  obtain ⟨q3, hf⟩ := mo_if hf
  cases hf
  exact mb_273_0 hh q0 q1 q2 q3 k
/-- called -/
def mf_273 (N : Nat) (x1 : Int32) (x2 : Int64) (x4 : Int32) (x5 : Int32) (s : mS) : mO := mf_273_0 N x1 x2 x4 x5 s
theorem mr_273 {X : Nat → Option zz_C} {h : zz_H} (hh : 111 ≤ h.length) {d : Nat} {N : Nat} {Q : Option Value → zz_H → Prop} {x1 : Int32} {x2 : Int64} {x4 : Int32} {x5 : Int32} {s s' : mS} {v : Option Value} (hf : mf_273 N x1 x2 x4 x5 s = some (s', v)) (k : Q v (mH h s')) : zz_E zp_P zt_tf zt_fd X (d + 0) zm_273 0 [(0, .ref 61), (1, .int x1), (2, .long x2), (4, .int x4), (5, .int x5)] [] (mH h s) Q := by
  unfold mf_273 at hf
  exact zz_E.weak (mr_273_0 hh hf k) rfl ⟨rfl, rfl, rfl, rfl, rfl, trivial⟩
