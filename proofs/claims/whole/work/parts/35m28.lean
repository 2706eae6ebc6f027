/-! does (I)V -/
theorem mb_313_0 {X : Nat → Option zz_C} {h : zz_H} (hh : 111 ≤ h.length) {s : mS} {d : Nat} {Q : Option Value → zz_H → Prop} {x1 : Int32} (i5 : ¬ (x1 < 0 ∨ 8000 ≤ Int32.toNatClampNeg x1)) (c1 : ((s.2.2.1 23) (Int32.toNatClampNeg x1)) = 1 → zz_E zp_P zt_tf zt_fd X d zm_313 116 [(0, .ref 61)] [] (mH h s) Q) (c2 : ((s.2.2.1 23) (Int32.toNatClampNeg x1)) = 2 → zz_E zp_P zt_tf zt_fd X d zm_313 121 [(0, .ref 61), (1, .int x1)] [] (mH h s) Q) (c3 : ((s.2.2.1 23) (Int32.toNatClampNeg x1)) = 3 → zz_E zp_P zt_tf zt_fd X d zm_313 133 [(0, .ref 61), (1, .int x1)] [] (mH h s) Q) (c4 : ((s.2.2.1 23) (Int32.toNatClampNeg x1)) = 4 → zz_E zp_P zt_tf zt_fd X d zm_313 185 [(0, .ref 61), (1, .int x1)] [] (mH h s) Q) (c5 : ((s.2.2.1 23) (Int32.toNatClampNeg x1)) = 5 → zz_E zp_P zt_tf zt_fd X d zm_313 185 [(0, .ref 61), (1, .int x1)] [] (mH h s) Q) (c6 : ((s.2.2.1 23) (Int32.toNatClampNeg x1)) = 6 → zz_E zp_P zt_tf zt_fd X d zm_313 185 [(0, .ref 61), (1, .int x1)] [] (mH h s) Q) (c7 : ((s.2.2.1 23) (Int32.toNatClampNeg x1)) = 7 → zz_E zp_P zt_tf zt_fd X d zm_313 185 [(0, .ref 61), (1, .int x1)] [] (mH h s) Q) (c8 : ((s.2.2.1 23) (Int32.toNatClampNeg x1)) = 8 → zz_E zp_P zt_tf zt_fd X d zm_313 185 [(0, .ref 61), (1, .int x1)] [] (mH h s) Q) (c9 : ((s.2.2.1 23) (Int32.toNatClampNeg x1)) = 9 → zz_E zp_P zt_tf zt_fd X d zm_313 185 [(0, .ref 61), (1, .int x1)] [] (mH h s) Q) (c10 : ((s.2.2.1 23) (Int32.toNatClampNeg x1)) = 10 → zz_E zp_P zt_tf zt_fd X d zm_313 185 [(0, .ref 61), (1, .int x1)] [] (mH h s) Q) (c11 : ((s.2.2.1 23) (Int32.toNatClampNeg x1)) = 11 → zz_E zp_P zt_tf zt_fd X d zm_313 202 [(0, .ref 61), (1, .int x1)] [] (mH h s) Q) (c12 : ((s.2.2.1 23) (Int32.toNatClampNeg x1)) = 12 → zz_E zp_P zt_tf zt_fd X d zm_313 208 [(0, .ref 61), (1, .int x1)] [] (mH h s) Q) (c13 : ((s.2.2.1 23) (Int32.toNatClampNeg x1)) = 13 → zz_E zp_P zt_tf zt_fd X d zm_313 247 [(0, .ref 61), (1, .int x1)] [] (mH h s) Q) (c14 : ((s.2.2.1 23) (Int32.toNatClampNeg x1)) = 14 → zz_E zp_P zt_tf zt_fd X d zm_313 339 [(0, .ref 61), (1, .int x1)] [] (mH h s) Q) (c15 : ((s.2.2.1 23) (Int32.toNatClampNeg x1)) = 15 → zz_E zp_P zt_tf zt_fd X d zm_313 253 [(0, .ref 61), (1, .int x1)] [] (mH h s) Q) (c16 : ((s.2.2.1 23) (Int32.toNatClampNeg x1)) = 16 → zz_E zp_P zt_tf zt_fd X d zm_313 116 [(0, .ref 61)] [] (mH h s) Q) (c17 : ((s.2.2.1 23) (Int32.toNatClampNeg x1)) = 17 → zz_E zp_P zt_tf zt_fd X d zm_313 339 [(0, .ref 61), (1, .int x1)] [] (mH h s) Q) (c18 : ((s.2.2.1 23) (Int32.toNatClampNeg x1)) = 18 → zz_E zp_P zt_tf zt_fd X d zm_313 264 [(0, .ref 61), (1, .int x1)] [] (mH h s) Q) (c19 : ((s.2.2.1 23) (Int32.toNatClampNeg x1)) = 19 → zz_E zp_P zt_tf zt_fd X d zm_313 339 [(0, .ref 61), (1, .int x1)] [] (mH h s) Q) (c20 : ((s.2.2.1 23) (Int32.toNatClampNeg x1)) = 20 → zz_E zp_P zt_tf zt_fd X d zm_313 339 [(0, .ref 61), (1, .int x1)] [] (mH h s) Q) (c21 : ((s.2.2.1 23) (Int32.toNatClampNeg x1)) = 21 → zz_E zp_P zt_tf zt_fd X d zm_313 339 [(0, .ref 61), (1, .int x1)] [] (mH h s) Q) (c22 : ((s.2.2.1 23) (Int32.toNatClampNeg x1)) = 22 → zz_E zp_P zt_tf zt_fd X d zm_313 270 [(0, .ref 61)] [] (mH h s) Q) (c23 : ((s.2.2.1 23) (Int32.toNatClampNeg x1)) = 23 → zz_E zp_P zt_tf zt_fd X d zm_313 281 [(0, .ref 61), (1, .int x1)] [] (mH h s) Q) (c24 : ((s.2.2.1 23) (Int32.toNatClampNeg x1)) = 24 → zz_E zp_P zt_tf zt_fd X d zm_313 318 [(0, .ref 61), (1, .int x1)] [] (mH h s) Q) (kd : (Int32.toInt ((s.2.2.1 23) (Int32.toNatClampNeg x1)) < 1 ∨ 24 < Int32.toInt ((s.2.2.1 23) (Int32.toNatClampNeg x1))) → zz_E zp_P zt_tf zt_fd X d zm_313 339 [(0, .ref 61), (1, .int x1)] [] (mH h s) Q) : zz_E zp_P zt_tf zt_fd X d zm_313 0 [(0, .ref 61), (1, .int x1)] [] (mH h s) Q := by
  refine zz_E.n 1 rfl rfl rfl ?_
  refine mE_g hh 4 (v := .ref 71) rfl rfl rfl ?_
  refine zz_E.n 5 rfl rfl rfl ?_
  refine mE_ia hh 6 10 (f := (s.2.2.1 23)) rfl (by decide) rfl rfl i5 rfl ?_
  by_cases hx : Int32.toInt ((s.2.2.1 23) (Int32.toNatClampNeg x1)) < 1 ∨ 24 < Int32.toInt ((s.2.2.1 23) (Int32.toNatClampNeg x1))
  · exact zz_E.td 339 rfl hx (by decide) rfl (zz_E.weak (kd hx) rfl ⟨rfl, rfl, trivial⟩)
  · have hv : Int32.toInt ((s.2.2.1 23) (Int32.toNatClampNeg x1)) = 1 ∨ Int32.toInt ((s.2.2.1 23) (Int32.toNatClampNeg x1)) = 2 ∨ Int32.toInt ((s.2.2.1 23) (Int32.toNatClampNeg x1)) = 3 ∨ Int32.toInt ((s.2.2.1 23) (Int32.toNatClampNeg x1)) = 4 ∨ Int32.toInt ((s.2.2.1 23) (Int32.toNatClampNeg x1)) = 5 ∨ Int32.toInt ((s.2.2.1 23) (Int32.toNatClampNeg x1)) = 6 ∨ Int32.toInt ((s.2.2.1 23) (Int32.toNatClampNeg x1)) = 7 ∨ Int32.toInt ((s.2.2.1 23) (Int32.toNatClampNeg x1)) = 8 ∨ Int32.toInt ((s.2.2.1 23) (Int32.toNatClampNeg x1)) = 9 ∨ Int32.toInt ((s.2.2.1 23) (Int32.toNatClampNeg x1)) = 10 ∨ Int32.toInt ((s.2.2.1 23) (Int32.toNatClampNeg x1)) = 11 ∨ Int32.toInt ((s.2.2.1 23) (Int32.toNatClampNeg x1)) = 12 ∨ Int32.toInt ((s.2.2.1 23) (Int32.toNatClampNeg x1)) = 13 ∨ Int32.toInt ((s.2.2.1 23) (Int32.toNatClampNeg x1)) = 14 ∨ Int32.toInt ((s.2.2.1 23) (Int32.toNatClampNeg x1)) = 15 ∨ Int32.toInt ((s.2.2.1 23) (Int32.toNatClampNeg x1)) = 16 ∨ Int32.toInt ((s.2.2.1 23) (Int32.toNatClampNeg x1)) = 17 ∨ Int32.toInt ((s.2.2.1 23) (Int32.toNatClampNeg x1)) = 18 ∨ Int32.toInt ((s.2.2.1 23) (Int32.toNatClampNeg x1)) = 19 ∨ Int32.toInt ((s.2.2.1 23) (Int32.toNatClampNeg x1)) = 20 ∨ Int32.toInt ((s.2.2.1 23) (Int32.toNatClampNeg x1)) = 21 ∨ Int32.toInt ((s.2.2.1 23) (Int32.toNatClampNeg x1)) = 22 ∨ Int32.toInt ((s.2.2.1 23) (Int32.toNatClampNeg x1)) = 23 ∨ Int32.toInt ((s.2.2.1 23) (Int32.toNatClampNeg x1)) = 24 := by omega
    rcases hv with hv | hv | hv | hv | hv | hv | hv | hv | hv | hv | hv | hv | hv | hv | hv | hv | hv | hv | hv | hv | hv | hv | hv | hv
    · have e : ((s.2.2.1 23) (Int32.toNatClampNeg x1)) = 1 := Int32.toInt_inj.mp (hv.trans rfl)
      exact zz_E.tv 116 rfl e rfl (zz_E.weak (c1 e) rfl ⟨rfl, trivial⟩)
    · have e : ((s.2.2.1 23) (Int32.toNatClampNeg x1)) = 2 := Int32.toInt_inj.mp (hv.trans rfl)
      exact zz_E.tv 121 rfl e rfl (zz_E.weak (c2 e) rfl ⟨rfl, rfl, trivial⟩)
    · have e : ((s.2.2.1 23) (Int32.toNatClampNeg x1)) = 3 := Int32.toInt_inj.mp (hv.trans rfl)
      exact zz_E.tv 133 rfl e rfl (zz_E.weak (c3 e) rfl ⟨rfl, rfl, trivial⟩)
    · have e : ((s.2.2.1 23) (Int32.toNatClampNeg x1)) = 4 := Int32.toInt_inj.mp (hv.trans rfl)
      exact zz_E.tv 185 rfl e rfl (zz_E.weak (c4 e) rfl ⟨rfl, rfl, trivial⟩)
    · have e : ((s.2.2.1 23) (Int32.toNatClampNeg x1)) = 5 := Int32.toInt_inj.mp (hv.trans rfl)
      exact zz_E.tv 185 rfl e rfl (zz_E.weak (c5 e) rfl ⟨rfl, rfl, trivial⟩)
    · have e : ((s.2.2.1 23) (Int32.toNatClampNeg x1)) = 6 := Int32.toInt_inj.mp (hv.trans rfl)
      exact zz_E.tv 185 rfl e rfl (zz_E.weak (c6 e) rfl ⟨rfl, rfl, trivial⟩)
    · have e : ((s.2.2.1 23) (Int32.toNatClampNeg x1)) = 7 := Int32.toInt_inj.mp (hv.trans rfl)
      exact zz_E.tv 185 rfl e rfl (zz_E.weak (c7 e) rfl ⟨rfl, rfl, trivial⟩)
    · have e : ((s.2.2.1 23) (Int32.toNatClampNeg x1)) = 8 := Int32.toInt_inj.mp (hv.trans rfl)
      exact zz_E.tv 185 rfl e rfl (zz_E.weak (c8 e) rfl ⟨rfl, rfl, trivial⟩)
    · have e : ((s.2.2.1 23) (Int32.toNatClampNeg x1)) = 9 := Int32.toInt_inj.mp (hv.trans rfl)
      exact zz_E.tv 185 rfl e rfl (zz_E.weak (c9 e) rfl ⟨rfl, rfl, trivial⟩)
    · have e : ((s.2.2.1 23) (Int32.toNatClampNeg x1)) = 10 := Int32.toInt_inj.mp (hv.trans rfl)
      exact zz_E.tv 185 rfl e rfl (zz_E.weak (c10 e) rfl ⟨rfl, rfl, trivial⟩)
    · have e : ((s.2.2.1 23) (Int32.toNatClampNeg x1)) = 11 := Int32.toInt_inj.mp (hv.trans rfl)
      exact zz_E.tv 202 rfl e rfl (zz_E.weak (c11 e) rfl ⟨rfl, rfl, trivial⟩)
    · have e : ((s.2.2.1 23) (Int32.toNatClampNeg x1)) = 12 := Int32.toInt_inj.mp (hv.trans rfl)
      exact zz_E.tv 208 rfl e rfl (zz_E.weak (c12 e) rfl ⟨rfl, rfl, trivial⟩)
    · have e : ((s.2.2.1 23) (Int32.toNatClampNeg x1)) = 13 := Int32.toInt_inj.mp (hv.trans rfl)
      exact zz_E.tv 247 rfl e rfl (zz_E.weak (c13 e) rfl ⟨rfl, rfl, trivial⟩)
    · have e : ((s.2.2.1 23) (Int32.toNatClampNeg x1)) = 14 := Int32.toInt_inj.mp (hv.trans rfl)
      exact zz_E.tv 339 rfl e rfl (zz_E.weak (c14 e) rfl ⟨rfl, rfl, trivial⟩)
    · have e : ((s.2.2.1 23) (Int32.toNatClampNeg x1)) = 15 := Int32.toInt_inj.mp (hv.trans rfl)
      exact zz_E.tv 253 rfl e rfl (zz_E.weak (c15 e) rfl ⟨rfl, rfl, trivial⟩)
    · have e : ((s.2.2.1 23) (Int32.toNatClampNeg x1)) = 16 := Int32.toInt_inj.mp (hv.trans rfl)
      exact zz_E.tv 116 rfl e rfl (zz_E.weak (c16 e) rfl ⟨rfl, trivial⟩)
    · have e : ((s.2.2.1 23) (Int32.toNatClampNeg x1)) = 17 := Int32.toInt_inj.mp (hv.trans rfl)
      exact zz_E.tv 339 rfl e rfl (zz_E.weak (c17 e) rfl ⟨rfl, rfl, trivial⟩)
    · have e : ((s.2.2.1 23) (Int32.toNatClampNeg x1)) = 18 := Int32.toInt_inj.mp (hv.trans rfl)
      exact zz_E.tv 264 rfl e rfl (zz_E.weak (c18 e) rfl ⟨rfl, rfl, trivial⟩)
    · have e : ((s.2.2.1 23) (Int32.toNatClampNeg x1)) = 19 := Int32.toInt_inj.mp (hv.trans rfl)
      exact zz_E.tv 339 rfl e rfl (zz_E.weak (c19 e) rfl ⟨rfl, rfl, trivial⟩)
    · have e : ((s.2.2.1 23) (Int32.toNatClampNeg x1)) = 20 := Int32.toInt_inj.mp (hv.trans rfl)
      exact zz_E.tv 339 rfl e rfl (zz_E.weak (c20 e) rfl ⟨rfl, rfl, trivial⟩)
    · have e : ((s.2.2.1 23) (Int32.toNatClampNeg x1)) = 21 := Int32.toInt_inj.mp (hv.trans rfl)
      exact zz_E.tv 339 rfl e rfl (zz_E.weak (c21 e) rfl ⟨rfl, rfl, trivial⟩)
    · have e : ((s.2.2.1 23) (Int32.toNatClampNeg x1)) = 22 := Int32.toInt_inj.mp (hv.trans rfl)
      exact zz_E.tv 270 rfl e rfl (zz_E.weak (c22 e) rfl ⟨rfl, trivial⟩)
    · have e : ((s.2.2.1 23) (Int32.toNatClampNeg x1)) = 23 := Int32.toInt_inj.mp (hv.trans rfl)
      exact zz_E.tv 281 rfl e rfl (zz_E.weak (c23 e) rfl ⟨rfl, rfl, trivial⟩)
    · have e : ((s.2.2.1 23) (Int32.toNatClampNeg x1)) = 24 := Int32.toInt_inj.mp (hv.trans rfl)
      exact zz_E.tv 318 rfl e rfl (zz_E.weak (c24 e) rfl ⟨rfl, rfl, trivial⟩)
theorem mb_313_116 {X : Nat → Option zz_C} {h : zz_H} (hh : 111 ≤ h.length) {s : mS} {d : Nat} {Q : Option Value → zz_H → Prop}  (k : zz_E zp_P zt_tf zt_fd X d zm_302 0 [(0, .ref 61)] [] (mH h s) (fun v h' => zz_E zp_P zt_tf zt_fd X (d + 1) zm_313 120 [] (v.toList ++ []) h' Q)) : zz_E zp_P zt_tf zt_fd X (d + 1) zm_313 116 [(0, .ref 61)] [] (mH h s) Q := by
  refine zz_E.n 117 rfl rfl rfl ?_
  refine mE_cv hh 120 (as := []) rfl rfl (Nat.le_of_ble_eq_true rfl) (Nat.le_of_ble_eq_true rfl) rfl (Nat.le_of_ble_eq_true rfl) rfl ?_
  refine zz_E.mono k ?_
  intro v h' hE
  exact zz_E.weak hE rfl trivial
theorem mb_313_120 {X : Nat → Option zz_C} {h : zz_H} (hh : 111 ≤ h.length) {s : mS} {d : Nat} {Q : Option Value → zz_H → Prop}  (k : Q none (mH h s)) : zz_E zp_P zt_tf zt_fd X d zm_313 120 [] [] (mH h s) Q := by
  refine zz_E.ret rfl rfl rfl ?_
  exact k
theorem mb_313_121 {X : Nat → Option zz_C} {h : zz_H} (hh : 111 ≤ h.length) {s : mS} {d : Nat} {Q : Option Value → zz_H → Prop} {x1 : Int32} (i128 : ¬ (x1 < 0 ∨ 8000 ≤ Int32.toNatClampNeg x1)) (k : zz_E zp_P zt_tf zt_fd X d zm_291 0 [(0, .ref 61), (1, .int 0), (2, .int ((s.2.2.1 24) (Int32.toNatClampNeg x1)))] [] (mH h s) (fun v h' => zz_E zp_P zt_tf zt_fd X (d + 1) zm_313 132 [] (v.toList ++ []) h' Q)) : zz_E zp_P zt_tf zt_fd X (d + 1) zm_313 121 [(0, .ref 61), (1, .int x1)] [] (mH h s) Q := by
  refine zz_E.n 122 rfl rfl rfl ?_
  refine zz_E.c 123 (.int 0) rfl rfl rfl rfl ?_
  refine zz_E.n 124 rfl rfl rfl ?_
  refine mE_g hh 127 (v := .ref 72) rfl rfl rfl ?_
  refine zz_E.n 128 rfl rfl rfl ?_
  refine mE_ia hh 129 11 (f := (s.2.2.1 24)) rfl (by decide) rfl rfl i128 rfl ?_
  refine mE_cv hh 132 (as := []) rfl rfl (Nat.le_of_ble_eq_true rfl) (Nat.le_of_ble_eq_true rfl) rfl (Nat.le_of_ble_eq_true rfl) rfl ?_
  refine zz_E.mono k ?_
  intro v h' hE
  exact zz_E.weak hE rfl trivial
theorem mb_313_132 {X : Nat → Option zz_C} {h : zz_H} (hh : 111 ≤ h.length) {s : mS} {d : Nat} {Q : Option Value → zz_H → Prop}  (k : Q none (mH h s)) : zz_E zp_P zt_tf zt_fd X d zm_313 132 [] [] (mH h s) Q := by
  refine zz_E.ret rfl rfl rfl ?_
  exact k
theorem mb_313_133 {X : Nat → Option zz_C} {h : zz_H} (hh : 111 ≤ h.length) {s : mS} {d : Nat} {Q : Option Value → zz_H → Prop} {x1 : Int32} (i139 : ¬ (x1 < 0 ∨ 8000 ≤ Int32.toNatClampNeg x1)) (k : zz_E zp_P zt_tf zt_fd X d zm_308 0 [(0, .ref 61), (1, .int ((s.2.2.1 24) (Int32.toNatClampNeg x1)))] [] (mH h s) (fun v h' => zz_E zp_P zt_tf zt_fd X (d + 1) zm_313 143 [(0, .ref 61), (1, .int x1)] (v.toList ++ []) h' Q)) : zz_E zp_P zt_tf zt_fd X (d + 1) zm_313 133 [(0, .ref 61), (1, .int x1)] [] (mH h s) Q := by
  refine zz_E.n 134 rfl rfl rfl ?_
  refine zz_E.n 135 rfl rfl rfl ?_
  refine mE_g hh 138 (v := .ref 72) rfl rfl rfl ?_
  refine zz_E.n 139 rfl rfl rfl ?_
  refine mE_ia hh 140 11 (f := (s.2.2.1 24)) rfl (by decide) rfl rfl i139 rfl ?_
  refine mE_cv hh 143 (as := []) rfl rfl (Nat.le_of_ble_eq_true rfl) (Nat.le_of_ble_eq_true rfl) rfl (Nat.le_of_ble_eq_true rfl) rfl ?_
  refine zz_E.mono k ?_
  intro v h' hE
  exact zz_E.weak hE rfl ⟨rfl, rfl, trivial⟩
theorem mb_313_143 {X : Nat → Option zz_C} {h : zz_H} (hh : 111 ≤ h.length) {s : mS} {d : Nat} {Q : Option Value → zz_H → Prop} {x1 : Int32} {y0 : Int32} (k1 : ¬ y0 = 2 → zz_E zp_P zt_tf zt_fd X d zm_313 160 [(0, .ref 61), (1, .int x1)] [] (mH h s) Q) (k2 : ¬ ¬ y0 = 2 → zz_E zp_P zt_tf zt_fd X d zm_313 147 [(0, .ref 61)] [] (mH h s) Q) : zz_E zp_P zt_tf zt_fd X d zm_313 143 [(0, .ref 61), (1, .int x1)] [.int y0] (mH h s) Q := by
  refine zz_E.c 144 (.int 2) rfl rfl rfl rfl ?_
  refine zz_E.b2 160 147 (A := ¬ y0 = 2) rfl (zz_cond_ne _ _) (by decide) rfl rfl (fun c => ?_) (fun c => ?_)
  · exact zz_E.weak (k1 c) rfl ⟨rfl, rfl, trivial⟩
  · exact zz_E.weak (k2 c) rfl ⟨rfl, trivial⟩
theorem mb_313_147 {X : Nat → Option zz_C} {h : zz_H} (hh : 111 ≤ h.length) {s : mS} {d : Nat} {Q : Option Value → zz_H → Prop}  (k : zz_E zp_P zt_tf zt_fd X d zm_301 0 [(0, .ref 61), (1, .int 7), (2, .int (s.1 70))] [] (mH h s) (fun v h' => zz_E zp_P zt_tf zt_fd X (d + 1) zm_313 157 [] (v.toList ++ []) h' Q)) : zz_E zp_P zt_tf zt_fd X (d + 1) zm_313 147 [(0, .ref 61)] [] (mH h s) Q := by
  refine zz_E.n 148 rfl rfl rfl ?_
  refine zz_E.c 150 (.int 7) rfl rfl rfl rfl ?_
  refine zz_E.n 151 rfl rfl rfl ?_
  refine mE_g hh 154 (v := .int (s.1 70)) rfl rfl rfl ?_
  refine mE_cv hh 157 (as := []) rfl rfl (Nat.le_of_ble_eq_true rfl) (Nat.le_of_ble_eq_true rfl) rfl (Nat.le_of_ble_eq_true rfl) rfl ?_
  refine zz_E.mono k ?_
  intro v h' hE
  exact zz_E.weak hE rfl trivial
theorem mb_313_157 {X : Nat → Option zz_C} {h : zz_H} (hh : 111 ≤ h.length) {s : mS} {d : Nat} {Q : Option Value → zz_H → Prop}  (k : zz_E zp_P zt_tf zt_fd X d zm_313 184 [] [] (mH h s) Q) : zz_E zp_P zt_tf zt_fd X d zm_313 157 [] [] (mH h s) Q := by
  refine zz_E.n 184 rfl rfl rfl ?_
  exact zz_E.weak k rfl trivial
theorem mb_313_160 {X : Nat → Option zz_C} {h : zz_H} (hh : 111 ≤ h.length) {s : mS} {d : Nat} {Q : Option Value → zz_H → Prop} {x1 : Int32} (i167 : ¬ (x1 < 0 ∨ 8000 ≤ Int32.toNatClampNeg x1)) (k : zz_E zp_P zt_tf zt_fd X d zm_308 0 [(0, .ref 61), (1, .int ((s.2.2.1 24) (Int32.toNatClampNeg x1)))] [] (mH h s) (fun v h' => zz_E zp_P zt_tf zt_fd X (d + 1) zm_313 171 [(0, .ref 61), (1, .int x1)] (v.toList ++ [.ref 61]) h' Q)) : zz_E zp_P zt_tf zt_fd X (d + 1) zm_313 160 [(0, .ref 61), (1, .int x1)] [] (mH h s) Q := by
  refine zz_E.n 161 rfl rfl rfl ?_
  refine zz_E.n 162 rfl rfl rfl ?_
  refine zz_E.n 163 rfl rfl rfl ?_
  refine mE_g hh 166 (v := .ref 72) rfl rfl rfl ?_
  refine zz_E.n 167 rfl rfl rfl ?_
  refine mE_ia hh 168 11 (f := (s.2.2.1 24)) rfl (by decide) rfl rfl i167 rfl ?_
  refine mE_cv hh 171 (as := [.ref 61]) rfl rfl (Nat.le_of_ble_eq_true rfl) (Nat.le_of_ble_eq_true rfl) rfl (Nat.le_of_ble_eq_true rfl) rfl ?_
  refine zz_E.mono k ?_
  intro v h' hE
  exact zz_E.weak hE rfl ⟨rfl, rfl, trivial⟩
theorem mb_313_171 {X : Nat → Option zz_C} {h : zz_H} (hh : 111 ≤ h.length) {s : mS} {d : Nat} {Q : Option Value → zz_H → Prop} {x1 : Int32} {y1 : Int32} (i177 : ¬ (x1 < 0 ∨ 8000 ≤ Int32.toNatClampNeg x1)) (k : zz_E zp_P zt_tf zt_fd X d zm_309 0 [(0, .ref 61), (1, .int ((s.2.2.1 24) (Int32.toNatClampNeg x1)))] [] (mH h s) (fun v h' => zz_E zp_P zt_tf zt_fd X (d + 1) zm_313 181 [] (v.toList ++ [.int y1, .ref 61]) h' Q)) : zz_E zp_P zt_tf zt_fd X (d + 1) zm_313 171 [(0, .ref 61), (1, .int x1)] [.int y1, .ref 61] (mH h s) Q := by
  refine zz_E.n 172 rfl rfl rfl ?_
  refine zz_E.n 173 rfl rfl rfl ?_
  refine mE_g hh 176 (v := .ref 72) rfl rfl rfl ?_
  refine zz_E.n 177 rfl rfl rfl ?_
  refine mE_ia hh 178 11 (f := (s.2.2.1 24)) rfl (by decide) rfl rfl i177 rfl ?_
  refine mE_cv hh 181 (as := [.int y1, .ref 61]) rfl rfl (Nat.le_of_ble_eq_true rfl) (Nat.le_of_ble_eq_true rfl) rfl (Nat.le_of_ble_eq_true rfl) rfl ?_
  refine zz_E.mono k ?_
  intro v h' hE
  exact zz_E.weak hE rfl trivial
theorem mb_313_181 {X : Nat → Option zz_C} {h : zz_H} (hh : 111 ≤ h.length) {s : mS} {d : Nat} {Q : Option Value → zz_H → Prop} {y1 : Int32} {y2 : Int32} (k : zz_E zp_P zt_tf zt_fd X d zm_291 0 [(0, .ref 61), (1, .int y1), (2, .int y2)] [] (mH h s) (fun v h' => zz_E zp_P zt_tf zt_fd X (d + 1) zm_313 184 [] (v.toList ++ []) h' Q)) : zz_E zp_P zt_tf zt_fd X (d + 1) zm_313 181 [] [.int y2, .int y1, .ref 61] (mH h s) Q := by
  refine mE_cv hh 184 (as := []) rfl rfl (Nat.le_of_ble_eq_true rfl) (Nat.le_of_ble_eq_true rfl) rfl (Nat.le_of_ble_eq_true rfl) rfl ?_
  refine zz_E.mono k ?_
  intro v h' hE
  exact zz_E.weak hE rfl trivial
theorem mb_313_184 {X : Nat → Option zz_C} {h : zz_H} (hh : 111 ≤ h.length) {s : mS} {d : Nat} {Q : Option Value → zz_H → Prop}  (k : Q none (mH h s)) : zz_E zp_P zt_tf zt_fd X d zm_313 184 [] [] (mH h s) Q := by
  refine zz_E.ret rfl rfl rfl ?_
  exact k
theorem mb_313_185 {X : Nat → Option zz_C} {h : zz_H} (hh : 111 ≤ h.length) {s : mS} {d : Nat} {Q : Option Value → zz_H → Prop} {x1 : Int32} (k : zz_E zp_P zt_tf zt_fd X d zm_302 0 [(0, .ref 61)] [] (mH h s) (fun v h' => zz_E zp_P zt_tf zt_fd X (d + 1) zm_313 189 [(0, .ref 61), (1, .int x1)] (v.toList ++ []) h' Q)) : zz_E zp_P zt_tf zt_fd X (d + 1) zm_313 185 [(0, .ref 61), (1, .int x1)] [] (mH h s) Q := by
  refine zz_E.n 186 rfl rfl rfl ?_
  refine mE_cv hh 189 (as := []) rfl rfl (Nat.le_of_ble_eq_true rfl) (Nat.le_of_ble_eq_true rfl) rfl (Nat.le_of_ble_eq_true rfl) rfl ?_
  refine zz_E.mono k ?_
  intro v h' hE
  exact zz_E.weak hE rfl ⟨rfl, rfl, trivial⟩
theorem mb_313_189 {X : Nat → Option zz_C} {h : zz_H} (hh : 111 ≤ h.length) {s : mS} {d : Nat} {Q : Option Value → zz_H → Prop} {x1 : Int32} (k1 : ¬ (s.1 66) = 0 → zz_E zp_P zt_tf zt_fd X d zm_313 201 [] [] (mH h s) Q) (k2 : ¬ ¬ (s.1 66) = 0 → zz_E zp_P zt_tf zt_fd X d zm_313 196 [(0, .ref 61), (1, .int x1)] [] (mH h s) Q) : zz_E zp_P zt_tf zt_fd X d zm_313 189 [(0, .ref 61), (1, .int x1)] [] (mH h s) Q := by
  refine zz_E.n 190 rfl rfl rfl ?_
  refine mE_g hh 193 (v := .int (s.1 66)) rfl rfl rfl ?_
  refine zz_E.b1 201 196 (A := ¬ (s.1 66) = 0) rfl (zz_cond_ne _ _) (by decide) rfl rfl (fun c => ?_) (fun c => ?_)
  · exact zz_E.weak (k1 c) rfl trivial
  · exact zz_E.weak (k2 c) rfl ⟨rfl, rfl, trivial⟩
theorem mb_313_196 {X : Nat → Option zz_C} {h : zz_H} (hh : 111 ≤ h.length) {s : mS} {d : Nat} {Q : Option Value → zz_H → Prop} {x1 : Int32} (k : zz_E zp_P zt_tf zt_fd X d zm_316 0 [(0, .ref 61), (1, .int x1)] [] (mH h s) (fun v h' => zz_E zp_P zt_tf zt_fd X (d + 1) zm_313 201 [] (v.toList ++ []) h' Q)) : zz_E zp_P zt_tf zt_fd X (d + 1) zm_313 196 [(0, .ref 61), (1, .int x1)] [] (mH h s) Q := by
  refine zz_E.n 197 rfl rfl rfl ?_
  refine zz_E.n 198 rfl rfl rfl ?_
  refine mE_cv hh 201 (as := []) rfl rfl (Nat.le_of_ble_eq_true rfl) (Nat.le_of_ble_eq_true rfl) rfl (Nat.le_of_ble_eq_true rfl) rfl ?_
  refine zz_E.mono k ?_
  intro v h' hE
  exact zz_E.weak hE rfl trivial
theorem mb_313_201 {X : Nat → Option zz_C} {h : zz_H} (hh : 111 ≤ h.length) {s : mS} {d : Nat} {Q : Option Value → zz_H → Prop}  (k : Q none (mH h s)) : zz_E zp_P zt_tf zt_fd X d zm_313 201 [] [] (mH h s) Q := by
  refine zz_E.ret rfl rfl rfl ?_
  exact k
theorem mb_313_202 {X : Nat → Option zz_C} {h : zz_H} (hh : 111 ≤ h.length) {s : mS} {d : Nat} {Q : Option Value → zz_H → Prop} {x1 : Int32} (k : zz_E zp_P zt_tf zt_fd X d zm_317 0 [(0, .ref 61), (1, .int x1)] [] (mH h s) (fun v h' => zz_E zp_P zt_tf zt_fd X (d + 1) zm_313 207 [] (v.toList ++ []) h' Q)) : zz_E zp_P zt_tf zt_fd X (d + 1) zm_313 202 [(0, .ref 61), (1, .int x1)] [] (mH h s) Q := by
  refine zz_E.n 203 rfl rfl rfl ?_
  refine zz_E.n 204 rfl rfl rfl ?_
  refine mE_cv hh 207 (as := []) rfl rfl (Nat.le_of_ble_eq_true rfl) (Nat.le_of_ble_eq_true rfl) rfl (Nat.le_of_ble_eq_true rfl) rfl ?_
  refine zz_E.mono k ?_
  intro v h' hE
  exact zz_E.weak hE rfl trivial
theorem mb_313_207 {X : Nat → Option zz_C} {h : zz_H} (hh : 111 ≤ h.length) {s : mS} {d : Nat} {Q : Option Value → zz_H → Prop}  (k : Q none (mH h s)) : zz_E zp_P zt_tf zt_fd X d zm_313 207 [] [] (mH h s) Q := by
  refine zz_E.ret rfl rfl rfl ?_
  exact k
theorem mb_313_208 {X : Nat → Option zz_C} {h : zz_H} (hh : 111 ≤ h.length) {s : mS} {d : Nat} {Q : Option Value → zz_H → Prop} {x1 : Int32} (i224 : ¬ (x1 < 0 ∨ 8000 ≤ Int32.toNatClampNeg x1)) (i233 : ¬ (((s.1 51) - 1) < 0 ∨ 9000 ≤ Int32.toNatClampNeg ((s.1 51) - 1))) (i242 : ¬ (((s.1 51) - 1) < 0 ∨ 9000 ≤ Int32.toNatClampNeg ((s.1 51) - 1))) (k : zz_E zp_P zt_tf zt_fd X d zm_307 0 [(0, .ref 61), (1, .int ((s.2.2.1 24) (Int32.toNatClampNeg x1))), (2, .int ((s.2.2.1 49) (Int32.toNatClampNeg ((s.1 51) - 1)))), (3, .int ((s.2.2.1 50) (Int32.toNatClampNeg ((s.1 51) - 1))))] [] (mH h (mI s 51 ((s.1 51) - 1))) (fun v h' => zz_E zp_P zt_tf zt_fd X (d + 1) zm_313 246 [] (v.toList ++ []) h' Q)) : zz_E zp_P zt_tf zt_fd X (d + 1) zm_313 208 [(0, .ref 61), (1, .int x1)] [] (mH h s) Q := by
  refine zz_E.n 209 rfl rfl rfl ?_
  refine zz_E.n 210 rfl rfl rfl ?_
  refine mE_g hh 213 (v := .int (s.1 51)) rfl rfl rfl ?_
  refine zz_E.c 214 (.int 1) rfl rfl rfl rfl ?_
  refine zz_E.n 215 rfl rfl rfl ?_
  refine mE_p hh 218 rfl (by decide) rfl (mF_51 _ _) rfl ?_
  refine zz_E.n 219 rfl rfl rfl ?_
  refine zz_E.n 220 rfl rfl rfl ?_
  refine mE_g hh 223 (v := .ref 72) rfl rfl rfl ?_
  refine zz_E.n 224 rfl rfl rfl ?_
  refine mE_ia hh 225 11 (f := (s.2.2.1 24)) rfl (by decide) rfl rfl i224 rfl ?_
  refine zz_E.n 226 rfl rfl rfl ?_
  refine mE_g hh 229 (v := .ref 90) rfl rfl rfl ?_
  refine zz_E.n 230 rfl rfl rfl ?_
  refine mE_g hh 233 (v := .int ((s.1 51) - 1)) rfl rfl rfl ?_
  refine mE_ia hh 234 29 (f := (s.2.2.1 49)) rfl (by decide) rfl rfl i233 rfl ?_
  refine zz_E.n 235 rfl rfl rfl ?_
  refine mE_g hh 238 (v := .ref 91) rfl rfl rfl ?_
  refine zz_E.n 239 rfl rfl rfl ?_
  refine mE_g hh 242 (v := .int ((s.1 51) - 1)) rfl rfl rfl ?_
  refine mE_ia hh 243 30 (f := (s.2.2.1 50)) rfl (by decide) rfl rfl i242 rfl ?_
  refine mE_cv hh 246 (as := []) rfl rfl (Nat.le_of_ble_eq_true rfl) (Nat.le_of_ble_eq_true rfl) rfl (Nat.le_of_ble_eq_true rfl) rfl ?_
  refine zz_E.mono k ?_
  intro v h' hE
  exact zz_E.weak hE rfl trivial
theorem mb_313_246 {X : Nat → Option zz_C} {h : zz_H} (hh : 111 ≤ h.length) {s : mS} {d : Nat} {Q : Option Value → zz_H → Prop}  (k : Q none (mH h s)) : zz_E zp_P zt_tf zt_fd X d zm_313 246 [] [] (mH h s) Q := by
  refine zz_E.ret rfl rfl rfl ?_
  exact k
theorem mb_313_247 {X : Nat → Option zz_C} {h : zz_H} (hh : 111 ≤ h.length) {s : mS} {d : Nat} {Q : Option Value → zz_H → Prop} {x1 : Int32} (k : zz_E zp_P zt_tf zt_fd X d zm_318 0 [(0, .ref 61), (1, .int x1)] [] (mH h s) (fun v h' => zz_E zp_P zt_tf zt_fd X (d + 1) zm_313 252 [] (v.toList ++ []) h' Q)) : zz_E zp_P zt_tf zt_fd X (d + 1) zm_313 247 [(0, .ref 61), (1, .int x1)] [] (mH h s) Q := by
  refine zz_E.n 248 rfl rfl rfl ?_
  refine zz_E.n 249 rfl rfl rfl ?_
  refine mE_cv hh 252 (as := []) rfl rfl (Nat.le_of_ble_eq_true rfl) (Nat.le_of_ble_eq_true rfl) rfl (Nat.le_of_ble_eq_true rfl) rfl ?_
  refine zz_E.mono k ?_
  intro v h' hE
  exact zz_E.weak hE rfl trivial
theorem mb_313_252 {X : Nat → Option zz_C} {h : zz_H} (hh : 111 ≤ h.length) {s : mS} {d : Nat} {Q : Option Value → zz_H → Prop}  (k : Q none (mH h s)) : zz_E zp_P zt_tf zt_fd X d zm_313 252 [] [] (mH h s) Q := by
  refine zz_E.ret rfl rfl rfl ?_
  exact k
theorem mb_313_253 {X : Nat → Option zz_C} {h : zz_H} (hh : 111 ≤ h.length) {s : mS} {d : Nat} {Q : Option Value → zz_H → Prop} {x1 : Int32} (i259 : ¬ (x1 < 0 ∨ 8000 ≤ Int32.toNatClampNeg x1)) (k : Q none (mH h (mI s 69 ((s.2.2.1 24) (Int32.toNatClampNeg x1))))) : zz_E zp_P zt_tf zt_fd X d zm_313 253 [(0, .ref 61), (1, .int x1)] [] (mH h s) Q := by
  refine zz_E.n 254 rfl rfl rfl ?_
  refine zz_E.n 255 rfl rfl rfl ?_
  refine mE_g hh 258 (v := .ref 72) rfl rfl rfl ?_
  refine zz_E.n 259 rfl rfl rfl ?_
  refine mE_ia hh 260 11 (f := (s.2.2.1 24)) rfl (by decide) rfl rfl i259 rfl ?_
  refine mE_p hh 263 rfl (by decide) rfl (mF_69 _ _) rfl ?_
  refine zz_E.ret rfl rfl rfl ?_
  exact k
theorem mb_313_264 {X : Nat → Option zz_C} {h : zz_H} (hh : 111 ≤ h.length) {s : mS} {d : Nat} {Q : Option Value → zz_H → Prop} {x1 : Int32} (k : zz_E zp_P zt_tf zt_fd X d zm_315 0 [(0, .ref 61), (1, .int x1)] [] (mH h s) (fun v h' => zz_E zp_P zt_tf zt_fd X (d + 1) zm_313 269 [] (v.toList ++ []) h' Q)) : zz_E zp_P zt_tf zt_fd X (d + 1) zm_313 264 [(0, .ref 61), (1, .int x1)] [] (mH h s) Q := by
  refine zz_E.n 265 rfl rfl rfl ?_
  refine zz_E.n 266 rfl rfl rfl ?_
  refine mE_cv hh 269 (as := []) rfl rfl (Nat.le_of_ble_eq_true rfl) (Nat.le_of_ble_eq_true rfl) rfl (Nat.le_of_ble_eq_true rfl) rfl ?_
  refine zz_E.mono k ?_
  intro v h' hE
  exact zz_E.weak hE rfl trivial
theorem mb_313_269 {X : Nat → Option zz_C} {h : zz_H} (hh : 111 ≤ h.length) {s : mS} {d : Nat} {Q : Option Value → zz_H → Prop}  (k : Q none (mH h s)) : zz_E zp_P zt_tf zt_fd X d zm_313 269 [] [] (mH h s) Q := by
  refine zz_E.ret rfl rfl rfl ?_
  exact k
theorem mb_313_270 {X : Nat → Option zz_C} {h : zz_H} (hh : 111 ≤ h.length) {s : mS} {d : Nat} {Q : Option Value → zz_H → Prop}  (k : Q none (mH h (mI s 51 ((s.1 51) - 1)))) : zz_E zp_P zt_tf zt_fd X d zm_313 270 [(0, .ref 61)] [] (mH h s) Q := by
  refine zz_E.n 271 rfl rfl rfl ?_
  refine zz_E.n 272 rfl rfl rfl ?_
  refine mE_g hh 275 (v := .int (s.1 51)) rfl rfl rfl ?_
  refine zz_E.c 276 (.int 1) rfl rfl rfl rfl ?_
  refine zz_E.n 277 rfl rfl rfl ?_
  refine mE_p hh 280 rfl (by decide) rfl (mF_51 _ _) rfl ?_
  refine zz_E.ret rfl rfl rfl ?_
  exact k
theorem mb_313_281 {X : Nat → Option zz_C} {h : zz_H} (hh : 111 ≤ h.length) {s : mS} {d : Nat} {Q : Option Value → zz_H → Prop} {x1 : Int32} (i288 : ¬ (x1 < 0 ∨ 8000 ≤ Int32.toNatClampNeg x1)) (k : zz_E zp_P zt_tf zt_fd X d zm_311 0 [(0, .ref 61), (1, .int 2), (2, .int ((s.2.2.1 24) (Int32.toNatClampNeg x1))), (3, .int (s.1 70)), (4, .int (s.1 51))] [] (mH h s) (fun v h' => zz_E zp_P zt_tf zt_fd X (d + 1) zm_313 300 [(0, .ref 61), (1, .int x1)] (v.toList ++ []) h' Q)) : zz_E zp_P zt_tf zt_fd X (d + 1) zm_313 281 [(0, .ref 61), (1, .int x1)] [] (mH h s) Q := by
  refine zz_E.n 282 rfl rfl rfl ?_
  refine zz_E.c 283 (.int 2) rfl rfl rfl rfl ?_
  refine zz_E.n 284 rfl rfl rfl ?_
  refine mE_g hh 287 (v := .ref 72) rfl rfl rfl ?_
  refine zz_E.n 288 rfl rfl rfl ?_
  refine mE_ia hh 289 11 (f := (s.2.2.1 24)) rfl (by decide) rfl rfl i288 rfl ?_
  refine zz_E.n 290 rfl rfl rfl ?_
  refine mE_g hh 293 (v := .int (s.1 70)) rfl rfl rfl ?_
  refine zz_E.n 294 rfl rfl rfl ?_
  refine mE_g hh 297 (v := .int (s.1 51)) rfl rfl rfl ?_
  refine mE_cv hh 300 (as := []) rfl rfl (Nat.le_of_ble_eq_true rfl) (Nat.le_of_ble_eq_true rfl) rfl (Nat.le_of_ble_eq_true rfl) rfl ?_
  refine zz_E.mono k ?_
  intro v h' hE
  exact zz_E.weak hE rfl ⟨rfl, rfl, trivial⟩
theorem mb_313_300 {X : Nat → Option zz_C} {h : zz_H} (hh : 111 ≤ h.length) {s : mS} {d : Nat} {Q : Option Value → zz_H → Prop} {x1 : Int32} (i315 : ¬ (x1 < 0 ∨ 8000 ≤ Int32.toNatClampNeg x1)) (i316 : ¬ (((s.1 79) - 1) < 0 ∨ 400 ≤ Int32.toNatClampNeg ((s.1 79) - 1))) (k : Q none (mH h (mA s 82 (upd (s.2.2.1 82) (Int32.toNatClampNeg ((s.1 79) - 1)) ((s.2.2.1 25) (Int32.toNatClampNeg x1)))))) : zz_E zp_P zt_tf zt_fd X d zm_313 300 [(0, .ref 61), (1, .int x1)] [] (mH h s) Q := by
  refine zz_E.n 301 rfl rfl rfl ?_
  refine mE_g hh 304 (v := .ref 106) rfl rfl rfl ?_
  refine zz_E.n 305 rfl rfl rfl ?_
  refine mE_g hh 308 (v := .int (s.1 79)) rfl rfl rfl ?_
  refine zz_E.c 309 (.int 1) rfl rfl rfl rfl ?_
  refine zz_E.n 310 rfl rfl rfl ?_
  refine zz_E.n 311 rfl rfl rfl ?_
  refine mE_g hh 314 (v := .ref 73) rfl rfl rfl ?_
  refine zz_E.n 315 rfl rfl rfl ?_
  refine mE_ia hh 316 12 (f := (s.2.2.1 25)) rfl (by decide) rfl rfl i315 rfl ?_
  refine mE_is hh 317 45 (f := (s.2.2.1 82)) rfl (by decide) rfl rfl i316 (mA_106 _ _) rfl ?_
  refine zz_E.ret rfl rfl rfl ?_
  exact k
theorem mb_313_318 {X : Nat → Option zz_C} {h : zz_H} (hh : 111 ≤ h.length) {s : mS} {d : Nat} {Q : Option Value → zz_H → Prop} {x1 : Int32} (i334 : ¬ (x1 < 0 ∨ 8000 ≤ Int32.toNatClampNeg x1)) (k : Q none (mH h (mI (mI s 79 ((s.1 79) - 1)) 69 ((s.2.2.1 24) (Int32.toNatClampNeg x1))))) : zz_E zp_P zt_tf zt_fd X d zm_313 318 [(0, .ref 61), (1, .int x1)] [] (mH h s) Q := by
  refine zz_E.n 319 rfl rfl rfl ?_
  refine zz_E.n 320 rfl rfl rfl ?_
  refine mE_g hh 323 (v := .int (s.1 79)) rfl rfl rfl ?_
  refine zz_E.c 324 (.int 1) rfl rfl rfl rfl ?_
  refine zz_E.n 325 rfl rfl rfl ?_
  refine mE_p hh 328 rfl (by decide) rfl (mF_79 _ _) rfl ?_
  refine zz_E.n 329 rfl rfl rfl ?_
  refine zz_E.n 330 rfl rfl rfl ?_
  refine mE_g hh 333 (v := .ref 72) rfl rfl rfl ?_
  refine zz_E.n 334 rfl rfl rfl ?_
  refine mE_ia hh 335 11 (f := (s.2.2.1 24)) rfl (by decide) rfl rfl i334 rfl ?_
  refine mE_p hh 338 rfl (by decide) rfl (mF_69 _ _) rfl ?_
  refine zz_E.ret rfl rfl rfl ?_
  exact k
theorem mb_313_339 {X : Nat → Option zz_C} {h : zz_H} (hh : 111 ≤ h.length) {s : mS} {d : Nat} {Q : Option Value → zz_H → Prop} {x1 : Int32} (k : zz_E zp_P zt_tf zt_fd X d zm_314 0 [(0, .ref 61), (1, .int x1)] [] (mH h (mI s 51 ((s.1 51) - 1))) (fun v h' => zz_E zp_P zt_tf zt_fd X (d + 1) zm_313 354 [] (v.toList ++ []) h' Q)) : zz_E zp_P zt_tf zt_fd X (d + 1) zm_313 339 [(0, .ref 61), (1, .int x1)] [] (mH h s) Q := by
  refine zz_E.n 340 rfl rfl rfl ?_
  refine zz_E.n 341 rfl rfl rfl ?_
  refine mE_g hh 344 (v := .int (s.1 51)) rfl rfl rfl ?_
  refine zz_E.c 345 (.int 1) rfl rfl rfl rfl ?_
  refine zz_E.n 346 rfl rfl rfl ?_
  refine mE_p hh 349 rfl (by decide) rfl (mF_51 _ _) rfl ?_
  refine zz_E.n 350 rfl rfl rfl ?_
  refine zz_E.n 351 rfl rfl rfl ?_
  refine mE_cv hh 354 (as := []) rfl rfl (Nat.le_of_ble_eq_true rfl) (Nat.le_of_ble_eq_true rfl) rfl (Nat.le_of_ble_eq_true rfl) rfl ?_
  refine zz_E.mono k ?_
  intro v h' hE
  exact zz_E.weak hE rfl trivial
theorem mb_313_354 {X : Nat → Option zz_C} {h : zz_H} (hh : 111 ≤ h.length) {s : mS} {d : Nat} {Q : Option Value → zz_H → Prop}  (k : Q none (mH h s)) : zz_E zp_P zt_tf zt_fd X d zm_313 354 [] [] (mH h s) Q := by
  refine zz_E.ret rfl rfl rfl ?_
  exact k
def mf_313_120 (N : Nat)  (s : mS) : mO := some (s, none)
theorem mr_313_120 {X : Nat → Option zz_C} {h : zz_H} (hh : 111 ≤ h.length) {d : Nat} {N : Nat} {Q : Option Value → zz_H → Prop}  {s s' : mS} {v : Option Value} (hf : mf_313_120 N  s = some (s', v)) (k : Q v (mH h s')) : zz_E zp_P zt_tf zt_fd X (d + 8) zm_313 120 [] [] (mH h s) Q := by
  unfold mf_313_120 at hf
  cases hf
  exact mb_313_120 hh  k
def mf_313_116 (N : Nat)  (s : mS) : mO := mo_bv (mf_302 N  s) (fun s1 => mf_313_120 N  s1)
theorem mr_313_116 {X : Nat → Option zz_C} {h : zz_H} (hh : 111 ≤ h.length) {d : Nat} {N : Nat} {Q : Option Value → zz_H → Prop}  {s s' : mS} {v : Option Value} (hf : mf_313_116 N  s = some (s', v)) (k : Q v (mH h s')) : zz_E zp_P zt_tf zt_fd X (d + 8) zm_313 116 [(0, .ref 61)] [] (mH h s) Q := by
  unfold mf_313_116 at hf
  obtain ⟨s1, e, hf⟩ := mo_bv_ok hf
  exact mb_313_116 (d := d + 7) hh  (mr_302 (d := d + 6) hh e (mr_313_120 hh hf k))
def mf_313_132 (N : Nat)  (s : mS) : mO := some (s, none)
theorem mr_313_132 {X : Nat → Option zz_C} {h : zz_H} (hh : 111 ≤ h.length) {d : Nat} {N : Nat} {Q : Option Value → zz_H → Prop}  {s s' : mS} {v : Option Value} (hf : mf_313_132 N  s = some (s', v)) (k : Q v (mH h s')) : zz_E zp_P zt_tf zt_fd X (d + 8) zm_313 132 [] [] (mH h s) Q := by
  unfold mf_313_132 at hf
  cases hf
  exact mb_313_132 hh  k
def mf_313_121 (N : Nat) (x1 : Int32) (s : mS) : mO := if ¬ (x1 < 0 ∨ 8000 ≤ Int32.toNatClampNeg x1) then (mo_bv (mf_291 N 0 ((s.2.2.1 24) (Int32.toNatClampNeg x1)) s) (fun s1 => mf_313_132 N  s1)) else none
theorem mr_313_121 {X : Nat → Option zz_C} {h : zz_H} (hh : 111 ≤ h.length) {d : Nat} {N : Nat} {Q : Option Value → zz_H → Prop} {x1 : Int32} {s s' : mS} {v : Option Value} (hf : mf_313_121 N x1 s = some (s', v)) (k : Q v (mH h s')) : zz_E zp_P zt_tf zt_fd X (d + 8) zm_313 121 [(0, .ref 61), (1, .int x1)] [] (mH h s) Q := by
  unfold mf_313_121 at hf
  obtain ⟨q0, hf⟩ := mo_if hf
  obtain ⟨s1, e, hf⟩ := mo_bv_ok hf
  exact mb_313_121 (d := d + 7) hh q0 (mr_291 (d := d + 7) hh e (mr_313_132 hh hf k))
def mf_313_184 (N : Nat)  (s : mS) : mO := some (s, none)
theorem mr_313_184 {X : Nat → Option zz_C} {h : zz_H} (hh : 111 ≤ h.length) {d : Nat} {N : Nat} {Q : Option Value → zz_H → Prop}  {s s' : mS} {v : Option Value} (hf : mf_313_184 N  s = some (s', v)) (k : Q v (mH h s')) : zz_E zp_P zt_tf zt_fd X (d + 8) zm_313 184 [] [] (mH h s) Q := by
  unfold mf_313_184 at hf
  cases hf
  exact mb_313_184 hh  k
def mf_313_181 (N : Nat) (y1 : Int32) (y2 : Int32) (s : mS) : mO := mo_bv (mf_291 N y1 y2 s) (fun s1 => mf_313_184 N  s1)
theorem mr_313_181 {X : Nat → Option zz_C} {h : zz_H} (hh : 111 ≤ h.length) {d : Nat} {N : Nat} {Q : Option Value → zz_H → Prop} {y1 : Int32} {y2 : Int32} {s s' : mS} {v : Option Value} (hf : mf_313_181 N y1 y2 s = some (s', v)) (k : Q v (mH h s')) : zz_E zp_P zt_tf zt_fd X (d + 8) zm_313 181 [] [.int y2, .int y1, .ref 61] (mH h s) Q := by
  unfold mf_313_181 at hf
  obtain ⟨s1, e, hf⟩ := mo_bv_ok hf
  exact mb_313_181 (d := d + 7) hh  (mr_291 (d := d + 7) hh e (mr_313_184 hh hf k))
def mf_313_171 (N : Nat) (x1 : Int32) (y1 : Int32) (s : mS) : mO := if ¬ (x1 < 0 ∨ 8000 ≤ Int32.toNatClampNeg x1) then (mo_bi (mf_309 N ((s.2.2.1 24) (Int32.toNatClampNeg x1)) s) (fun s1 y => mf_313_181 N y1 y s1)) else none
theorem mr_313_171 {X : Nat → Option zz_C} {h : zz_H} (hh : 111 ≤ h.length) {d : Nat} {N : Nat} {Q : Option Value → zz_H → Prop} {x1 : Int32} {y1 : Int32} {s s' : mS} {v : Option Value} (hf : mf_313_171 N x1 y1 s = some (s', v)) (k : Q v (mH h s')) : zz_E zp_P zt_tf zt_fd X (d + 8) zm_313 171 [(0, .ref 61), (1, .int x1)] [.int y1, .ref 61] (mH h s) Q := by
  unfold mf_313_171 at hf
  obtain ⟨q0, hf⟩ := mo_if hf
  obtain ⟨s1, y, e, hf⟩ := mo_bi_ok hf
  exact mb_313_171 (d := d + 7) hh q0 (mr_309 (d := d + 7) hh e (mr_313_181 hh hf k))
def mf_313_160 (N : Nat) (x1 : Int32) (s : mS) : mO := if ¬ (x1 < 0 ∨ 8000 ≤ Int32.toNatClampNeg x1) then (mo_bi (mf_308 N ((s.2.2.1 24) (Int32.toNatClampNeg x1)) s) (fun s1 y => mf_313_171 N x1 y s1)) else none
theorem mr_313_160 {X : Nat → Option zz_C} {h : zz_H} (hh : 111 ≤ h.length) {d : Nat} {N : Nat} {Q : Option Value → zz_H → Prop} {x1 : Int32} {s s' : mS} {v : Option Value} (hf : mf_313_160 N x1 s = some (s', v)) (k : Q v (mH h s')) : zz_E zp_P zt_tf zt_fd X (d + 8) zm_313 160 [(0, .ref 61), (1, .int x1)] [] (mH h s) Q := by
  unfold mf_313_160 at hf
  obtain ⟨q0, hf⟩ := mo_if hf
  obtain ⟨s1, y, e, hf⟩ := mo_bi_ok hf
  exact mb_313_160 (d := d + 7) hh q0 (mr_308 (d := d + 7) hh e (mr_313_171 hh hf k))
def mf_313_157 (N : Nat)  (s : mS) : mO := mf_313_184 N  s
theorem mr_313_157 {X : Nat → Option zz_C} {h : zz_H} (hh : 111 ≤ h.length) {d : Nat} {N : Nat} {Q : Option Value → zz_H → Prop}  {s s' : mS} {v : Option Value} (hf : mf_313_157 N  s = some (s', v)) (k : Q v (mH h s')) : zz_E zp_P zt_tf zt_fd X (d + 8) zm_313 157 [] [] (mH h s) Q := by
  unfold mf_313_157 at hf
  exact mb_313_157 hh  (mr_313_184 hh hf k)
def mf_313_147 (N : Nat)  (s : mS) : mO := mo_bv (mf_301 N 7 (s.1 70) s) (fun s1 => mf_313_157 N  s1)
theorem mr_313_147 {X : Nat → Option zz_C} {h : zz_H} (hh : 111 ≤ h.length) {d : Nat} {N : Nat} {Q : Option Value → zz_H → Prop}  {s s' : mS} {v : Option Value} (hf : mf_313_147 N  s = some (s', v)) (k : Q v (mH h s')) : zz_E zp_P zt_tf zt_fd X (d + 8) zm_313 147 [(0, .ref 61)] [] (mH h s) Q := by
  unfold mf_313_147 at hf
  obtain ⟨s1, e, hf⟩ := mo_bv_ok hf
  exact mb_313_147 (d := d + 7) hh  (mr_301 (d := d + 7) hh e (mr_313_157 hh hf k))
def mf_313_143 (N : Nat) (x1 : Int32) (y0 : Int32) (s : mS) : mO := if ¬ y0 = 2 then mf_313_160 N x1 s else mf_313_147 N  s
theorem mr_313_143 {X : Nat → Option zz_C} {h : zz_H} (hh : 111 ≤ h.length) {d : Nat} {N : Nat} {Q : Option Value → zz_H → Prop} {x1 : Int32} {y0 : Int32} {s s' : mS} {v : Option Value} (hf : mf_313_143 N x1 y0 s = some (s', v)) (k : Q v (mH h s')) : zz_E zp_P zt_tf zt_fd X (d + 8) zm_313 143 [(0, .ref 61), (1, .int x1)] [.int y0] (mH h s) Q := by
  unfold mf_313_143 at hf
  refine mb_313_143 hh  (fun c => ?_) (fun c => ?_)
  · rw [if_pos c] at hf
    exact mr_313_160 hh hf k
  · rw [if_neg c] at hf
    exact mr_313_147 hh hf k
def mf_313_133 (N : Nat) (x1 : Int32) (s : mS) : mO := if ¬ (x1 < 0 ∨ 8000 ≤ Int32.toNatClampNeg x1) then (mo_bi (mf_308 N ((s.2.2.1 24) (Int32.toNatClampNeg x1)) s) (fun s1 y => mf_313_143 N x1 y s1)) else none
theorem mr_313_133 {X : Nat → Option zz_C} {h : zz_H} (hh : 111 ≤ h.length) {d : Nat} {N : Nat} {Q : Option Value → zz_H → Prop} {x1 : Int32} {s s' : mS} {v : Option Value} (hf : mf_313_133 N x1 s = some (s', v)) (k : Q v (mH h s')) : zz_E zp_P zt_tf zt_fd X (d + 8) zm_313 133 [(0, .ref 61), (1, .int x1)] [] (mH h s) Q := by
  unfold mf_313_133 at hf
  obtain ⟨q0, hf⟩ := mo_if hf
  obtain ⟨s1, y, e, hf⟩ := mo_bi_ok hf
  exact mb_313_133 (d := d + 7) hh q0 (mr_308 (d := d + 7) hh e (mr_313_143 hh hf k))
def mf_313_201 (N : Nat)  (s : mS) : mO := some (s, none)
theorem mr_313_201 {X : Nat → Option zz_C} {h : zz_H} (hh : 111 ≤ h.length) {d : Nat} {N : Nat} {Q : Option Value → zz_H → Prop}  {s s' : mS} {v : Option Value} (hf : mf_313_201 N  s = some (s', v)) (k : Q v (mH h s')) : zz_E zp_P zt_tf zt_fd X (d + 8) zm_313 201 [] [] (mH h s) Q := by
  unfold mf_313_201 at hf
  cases hf
  exact mb_313_201 hh  k
def mf_313_196 (N : Nat) (x1 : Int32) (s : mS) : mO := mo_bv (mf_316 N x1 s) (fun s1 => mf_313_201 N  s1)
theorem mr_313_196 {X : Nat → Option zz_C} {h : zz_H} (hh : 111 ≤ h.length) {d : Nat} {N : Nat} {Q : Option Value → zz_H → Prop} {x1 : Int32} {s s' : mS} {v : Option Value} (hf : mf_313_196 N x1 s = some (s', v)) (k : Q v (mH h s')) : zz_E zp_P zt_tf zt_fd X (d + 8) zm_313 196 [(0, .ref 61), (1, .int x1)] [] (mH h s) Q := by
  unfold mf_313_196 at hf
  obtain ⟨s1, e, hf⟩ := mo_bv_ok hf
  exact mb_313_196 (d := d + 7) hh  (mr_316 (d := d + 0) hh e (mr_313_201 hh hf k))
def mf_313_189 (N : Nat) (x1 : Int32) (s : mS) : mO := if ¬ (s.1 66) = 0 then mf_313_201 N  s else mf_313_196 N x1 s
theorem mr_313_189 {X : Nat → Option zz_C} {h : zz_H} (hh : 111 ≤ h.length) {d : Nat} {N : Nat} {Q : Option Value → zz_H → Prop} {x1 : Int32} {s s' : mS} {v : Option Value} (hf : mf_313_189 N x1 s = some (s', v)) (k : Q v (mH h s')) : zz_E zp_P zt_tf zt_fd X (d + 8) zm_313 189 [(0, .ref 61), (1, .int x1)] [] (mH h s) Q := by
  unfold mf_313_189 at hf
  refine mb_313_189 hh  (fun c => ?_) (fun c => ?_)
  · rw [if_pos c] at hf
    exact mr_313_201 hh hf k
  · rw [if_neg c] at hf
    exact mr_313_196 hh hf k
def mf_313_185 (N : Nat) (x1 : Int32) (s : mS) : mO := mo_bv (mf_302 N  s) (fun s1 => mf_313_189 N x1 s1)
theorem mr_313_185 {X : Nat → Option zz_C} {h : zz_H} (hh : 111 ≤ h.length) {d : Nat} {N : Nat} {Q : Option Value → zz_H → Prop} {x1 : Int32} {s s' : mS} {v : Option Value} (hf : mf_313_185 N x1 s = some (s', v)) (k : Q v (mH h s')) : zz_E zp_P zt_tf zt_fd X (d + 8) zm_313 185 [(0, .ref 61), (1, .int x1)] [] (mH h s) Q := by
  unfold mf_313_185 at hf
  obtain ⟨s1, e, hf⟩ := mo_bv_ok hf
  exact mb_313_185 (d := d + 7) hh  (mr_302 (d := d + 6) hh e (mr_313_189 hh hf k))
def mf_313_207 (N : Nat)  (s : mS) : mO := some (s, none)
theorem mr_313_207 {X : Nat → Option zz_C} {h : zz_H} (hh : 111 ≤ h.length) {d : Nat} {N : Nat} {Q : Option Value → zz_H → Prop}  {s s' : mS} {v : Option Value} (hf : mf_313_207 N  s = some (s', v)) (k : Q v (mH h s')) : zz_E zp_P zt_tf zt_fd X (d + 8) zm_313 207 [] [] (mH h s) Q := by
  unfold mf_313_207 at hf
  cases hf
  exact mb_313_207 hh  k
def mf_313_202 (N : Nat) (x1 : Int32) (s : mS) : mO := mo_bv (mf_317 N x1 s) (fun s1 => mf_313_207 N  s1)
theorem mr_313_202 {X : Nat → Option zz_C} {h : zz_H} (hh : 111 ≤ h.length) {d : Nat} {N : Nat} {Q : Option Value → zz_H → Prop} {x1 : Int32} {s s' : mS} {v : Option Value} (hf : mf_313_202 N x1 s = some (s', v)) (k : Q v (mH h s')) : zz_E zp_P zt_tf zt_fd X (d + 8) zm_313 202 [(0, .ref 61), (1, .int x1)] [] (mH h s) Q := by
  unfold mf_313_202 at hf
  obtain ⟨s1, e, hf⟩ := mo_bv_ok hf
  exact mb_313_202 (d := d + 7) hh  (mr_317 (d := d + 3) hh e (mr_313_207 hh hf k))
def mf_313_246 (N : Nat)  (s : mS) : mO := some (s, none)
theorem mr_313_246 {X : Nat → Option zz_C} {h : zz_H} (hh : 111 ≤ h.length) {d : Nat} {N : Nat} {Q : Option Value → zz_H → Prop}  {s s' : mS} {v : Option Value} (hf : mf_313_246 N  s = some (s', v)) (k : Q v (mH h s')) : zz_E zp_P zt_tf zt_fd X (d + 8) zm_313 246 [] [] (mH h s) Q := by
  unfold mf_313_246 at hf
  cases hf
  exact mb_313_246 hh  k
def mf_313_208 (N : Nat) (x1 : Int32) (s : mS) : mO := if ¬ (x1 < 0 ∨ 8000 ≤ Int32.toNatClampNeg x1) then (if ¬ (((s.1 51) - 1) < 0 ∨ 9000 ≤ Int32.toNatClampNeg ((s.1 51) - 1)) then (if ¬ (((s.1 51) - 1) < 0 ∨ 9000 ≤ Int32.toNatClampNeg ((s.1 51) - 1)) then (mo_bv (mf_307 N ((s.2.2.1 24) (Int32.toNatClampNeg x1)) ((s.2.2.1 49) (Int32.toNatClampNeg ((s.1 51) - 1))) ((s.2.2.1 50) (Int32.toNatClampNeg ((s.1 51) - 1))) (mI s 51 ((s.1 51) - 1))) (fun s1 => mf_313_246 N  s1)) else none) else none) else none
theorem mr_313_208 {X : Nat → Option zz_C} {h : zz_H} (hh : 111 ≤ h.length) {d : Nat} {N : Nat} {Q : Option Value → zz_H → Prop} {x1 : Int32} {s s' : mS} {v : Option Value} (hf : mf_313_208 N x1 s = some (s', v)) (k : Q v (mH h s')) : zz_E zp_P zt_tf zt_fd X (d + 8) zm_313 208 [(0, .ref 61), (1, .int x1)] [] (mH h s) Q := by
  unfold mf_313_208 at hf
  obtain ⟨q0, hf⟩ := mo_if hf
  obtain ⟨q1, hf⟩ := mo_if hf
  obtain ⟨q2, hf⟩ := mo_if hf
  obtain ⟨s1, e, hf⟩ := mo_bv_ok hf
  exact mb_313_208 (d := d + 7) hh q0 q1 q2 (mr_307 (d := d + 7) hh e (mr_313_246 hh hf k))
def mf_313_252 (N : Nat)  (s : mS) : mO := some (s, none)
theorem mr_313_252 {X : Nat → Option zz_C} {h : zz_H} (hh : 111 ≤ h.length) {d : Nat} {N : Nat} {Q : Option Value → zz_H → Prop}  {s s' : mS} {v : Option Value} (hf : mf_313_252 N  s = some (s', v)) (k : Q v (mH h s')) : zz_E zp_P zt_tf zt_fd X (d + 8) zm_313 252 [] [] (mH h s) Q := by
  unfold mf_313_252 at hf
  cases hf
  exact mb_313_252 hh  k
def mf_313_247 (N : Nat) (x1 : Int32) (s : mS) : mO := mo_bv (mf_318 N x1 s) (fun s1 => mf_313_252 N  s1)
theorem mr_313_247 {X : Nat → Option zz_C} {h : zz_H} (hh : 111 ≤ h.length) {d : Nat} {N : Nat} {Q : Option Value → zz_H → Prop} {x1 : Int32} {s s' : mS} {v : Option Value} (hf : mf_313_247 N x1 s = some (s', v)) (k : Q v (mH h s')) : zz_E zp_P zt_tf zt_fd X (d + 8) zm_313 247 [(0, .ref 61), (1, .int x1)] [] (mH h s) Q := by
  unfold mf_313_247 at hf
  obtain ⟨s1, e, hf⟩ := mo_bv_ok hf
  exact mb_313_247 (d := d + 7) hh  (mr_318 (d := d + 3) hh e (mr_313_252 hh hf k))
def mf_313_354 (N : Nat)  (s : mS) : mO := some (s, none)
theorem mr_313_354 {X : Nat → Option zz_C} {h : zz_H} (hh : 111 ≤ h.length) {d : Nat} {N : Nat} {Q : Option Value → zz_H → Prop}  {s s' : mS} {v : Option Value} (hf : mf_313_354 N  s = some (s', v)) (k : Q v (mH h s')) : zz_E zp_P zt_tf zt_fd X (d + 8) zm_313 354 [] [] (mH h s) Q := by
  unfold mf_313_354 at hf
  cases hf
  exact mb_313_354 hh  k
def mf_313_339 (N : Nat) (x1 : Int32) (s : mS) : mO := mo_bv (mf_314 N x1 (mI s 51 ((s.1 51) - 1))) (fun s1 => mf_313_354 N  s1)
theorem mr_313_339 {X : Nat → Option zz_C} {h : zz_H} (hh : 111 ≤ h.length) {d : Nat} {N : Nat} {Q : Option Value → zz_H → Prop} {x1 : Int32} {s s' : mS} {v : Option Value} (hf : mf_313_339 N x1 s = some (s', v)) (k : Q v (mH h s')) : zz_E zp_P zt_tf zt_fd X (d + 8) zm_313 339 [(0, .ref 61), (1, .int x1)] [] (mH h s) Q := by
  unfold mf_313_339 at hf
  obtain ⟨s1, e, hf⟩ := mo_bv_ok hf
  exact mb_313_339 (d := d + 7) hh  (mr_314 (d := d + 2) hh e (mr_313_354 hh hf k))
def mf_313_253 (N : Nat) (x1 : Int32) (s : mS) : mO := if ¬ (x1 < 0 ∨ 8000 ≤ Int32.toNatClampNeg x1) then (some ((mI s 69 ((s.2.2.1 24) (Int32.toNatClampNeg x1))), none)) else none
theorem mr_313_253 {X : Nat → Option zz_C} {h : zz_H} (hh : 111 ≤ h.length) {d : Nat} {N : Nat} {Q : Option Value → zz_H → Prop} {x1 : Int32} {s s' : mS} {v : Option Value} (hf : mf_313_253 N x1 s = some (s', v)) (k : Q v (mH h s')) : zz_E zp_P zt_tf zt_fd X (d + 8) zm_313 253 [(0, .ref 61), (1, .int x1)] [] (mH h s) Q := by
  unfold mf_313_253 at hf
  obtain ⟨q0, hf⟩ := mo_if hf
  cases hf
  exact mb_313_253 hh q0 k
def mf_313_269 (N : Nat)  (s : mS) : mO := some (s, none)
theorem mr_313_269 {X : Nat → Option zz_C} {h : zz_H} (hh : 111 ≤ h.length) {d : Nat} {N : Nat} {Q : Option Value → zz_H → Prop}  {s s' : mS} {v : Option Value} (hf : mf_313_269 N  s = some (s', v)) (k : Q v (mH h s')) : zz_E zp_P zt_tf zt_fd X (d + 8) zm_313 269 [] [] (mH h s) Q := by
  unfold mf_313_269 at hf
  cases hf
  exact mb_313_269 hh  k
def mf_313_264 (N : Nat) (x1 : Int32) (s : mS) : mO := mo_bv (mf_315 N x1 s) (fun s1 => mf_313_269 N  s1)
theorem mr_313_264 {X : Nat → Option zz_C} {h : zz_H} (hh : 111 ≤ h.length) {d : Nat} {N : Nat} {Q : Option Value → zz_H → Prop} {x1 : Int32} {s s' : mS} {v : Option Value} (hf : mf_313_264 N x1 s = some (s', v)) (k : Q v (mH h s')) : zz_E zp_P zt_tf zt_fd X (d + 8) zm_313 264 [(0, .ref 61), (1, .int x1)] [] (mH h s) Q := by
  unfold mf_313_264 at hf
  obtain ⟨s1, e, hf⟩ := mo_bv_ok hf
  exact mb_313_264 (d := d + 7) hh  (mr_315 (d := d + 5) hh e (mr_313_269 hh hf k))
def mf_313_270 (N : Nat)  (s : mS) : mO := some ((mI s 51 ((s.1 51) - 1)), none)
theorem mr_313_270 {X : Nat → Option zz_C} {h : zz_H} (hh : 111 ≤ h.length) {d : Nat} {N : Nat} {Q : Option Value → zz_H → Prop}  {s s' : mS} {v : Option Value} (hf : mf_313_270 N  s = some (s', v)) (k : Q v (mH h s')) : zz_E zp_P zt_tf zt_fd X (d + 8) zm_313 270 [(0, .ref 61)] [] (mH h s) Q := by
  unfold mf_313_270 at hf
  cases hf
  exact mb_313_270 hh  k
def mf_313_300 (N : Nat) (x1 : Int32) (s : mS) : mO := if ¬ (x1 < 0 ∨ 8000 ≤ Int32.toNatClampNeg x1) then (if ¬ (((s.1 79) - 1) < 0 ∨ 400 ≤ Int32.toNatClampNeg ((s.1 79) - 1)) then (some ((mA s 82 (upd (s.2.2.1 82) (Int32.toNatClampNeg ((s.1 79) - 1)) ((s.2.2.1 25) (Int32.toNatClampNeg x1)))), none)) else none) else none
theorem mr_313_300 {X : Nat → Option zz_C} {h : zz_H} (hh : 111 ≤ h.length) {d : Nat} {N : Nat} {Q : Option Value → zz_H → Prop} {x1 : Int32} {s s' : mS} {v : Option Value} (hf : mf_313_300 N x1 s = some (s', v)) (k : Q v (mH h s')) : zz_E zp_P zt_tf zt_fd X (d + 8) zm_313 300 [(0, .ref 61), (1, .int x1)] [] (mH h s) Q := by
  unfold mf_313_300 at hf
  obtain ⟨q0, hf⟩ := mo_if hf
  obtain ⟨q1, hf⟩ := mo_if hf
  cases hf
  exact mb_313_300 hh q0 q1 k
def mf_313_281 (N : Nat) (x1 : Int32) (s : mS) : mO := if ¬ (x1 < 0 ∨ 8000 ≤ Int32.toNatClampNeg x1) then (mo_bv (mf_311 N 2 ((s.2.2.1 24) (Int32.toNatClampNeg x1)) (s.1 70) (s.1 51) s) (fun s1 => mf_313_300 N x1 s1)) else none
theorem mr_313_281 {X : Nat → Option zz_C} {h : zz_H} (hh : 111 ≤ h.length) {d : Nat} {N : Nat} {Q : Option Value → zz_H → Prop} {x1 : Int32} {s s' : mS} {v : Option Value} (hf : mf_313_281 N x1 s = some (s', v)) (k : Q v (mH h s')) : zz_E zp_P zt_tf zt_fd X (d + 8) zm_313 281 [(0, .ref 61), (1, .int x1)] [] (mH h s) Q := by
  unfold mf_313_281 at hf
  obtain ⟨q0, hf⟩ := mo_if hf
  obtain ⟨s1, e, hf⟩ := mo_bv_ok hf
  exact mb_313_281 (d := d + 7) hh q0 (mr_311 (d := d + 7) hh e (mr_313_300 hh hf k))
def mf_313_318 (N : Nat) (x1 : Int32) (s : mS) : mO := if ¬ (x1 < 0 ∨ 8000 ≤ Int32.toNatClampNeg x1) then (some ((mI (mI s 79 ((s.1 79) - 1)) 69 ((s.2.2.1 24) (Int32.toNatClampNeg x1))), none)) else none
theorem mr_313_318 {X : Nat → Option zz_C} {h : zz_H} (hh : 111 ≤ h.length) {d : Nat} {N : Nat} {Q : Option Value → zz_H → Prop} {x1 : Int32} {s s' : mS} {v : Option Value} (hf : mf_313_318 N x1 s = some (s', v)) (k : Q v (mH h s')) : zz_E zp_P zt_tf zt_fd X (d + 8) zm_313 318 [(0, .ref 61), (1, .int x1)] [] (mH h s) Q := by
  unfold mf_313_318 at hf
  obtain ⟨q0, hf⟩ := mo_if hf
  cases hf
  exact mb_313_318 hh q0 k
def mf_313_0 (N : Nat) (x1 : Int32) (s : mS) : mO := if ¬ (x1 < 0 ∨ 8000 ≤ Int32.toNatClampNeg x1) then (if (Int32.toInt ((s.2.2.1 23) (Int32.toNatClampNeg x1)) < 1 ∨ 24 < Int32.toInt ((s.2.2.1 23) (Int32.toNatClampNeg x1))) then mf_313_339 N x1 s else if ((s.2.2.1 23) (Int32.toNatClampNeg x1)) = 1 then mf_313_116 N  s else if ((s.2.2.1 23) (Int32.toNatClampNeg x1)) = 2 then mf_313_121 N x1 s else if ((s.2.2.1 23) (Int32.toNatClampNeg x1)) = 3 then mf_313_133 N x1 s else if ((s.2.2.1 23) (Int32.toNatClampNeg x1)) = 4 then mf_313_185 N x1 s else if ((s.2.2.1 23) (Int32.toNatClampNeg x1)) = 5 then mf_313_185 N x1 s else if ((s.2.2.1 23) (Int32.toNatClampNeg x1)) = 6 then mf_313_185 N x1 s else if ((s.2.2.1 23) (Int32.toNatClampNeg x1)) = 7 then mf_313_185 N x1 s else if ((s.2.2.1 23) (Int32.toNatClampNeg x1)) = 8 then mf_313_185 N x1 s else if ((s.2.2.1 23) (Int32.toNatClampNeg x1)) = 9 then mf_313_185 N x1 s else if ((s.2.2.1 23) (Int32.toNatClampNeg x1)) = 10 then mf_313_185 N x1 s else if ((s.2.2.1 23) (Int32.toNatClampNeg x1)) = 11 then mf_313_202 N x1 s else if ((s.2.2.1 23) (Int32.toNatClampNeg x1)) = 12 then mf_313_208 N x1 s else if ((s.2.2.1 23) (Int32.toNatClampNeg x1)) = 13 then mf_313_247 N x1 s else if ((s.2.2.1 23) (Int32.toNatClampNeg x1)) = 14 then mf_313_339 N x1 s else if ((s.2.2.1 23) (Int32.toNatClampNeg x1)) = 15 then mf_313_253 N x1 s else if ((s.2.2.1 23) (Int32.toNatClampNeg x1)) = 16 then mf_313_116 N  s else if ((s.2.2.1 23) (Int32.toNatClampNeg x1)) = 17 then mf_313_339 N x1 s else if ((s.2.2.1 23) (Int32.toNatClampNeg x1)) = 18 then mf_313_264 N x1 s else if ((s.2.2.1 23) (Int32.toNatClampNeg x1)) = 19 then mf_313_339 N x1 s else if ((s.2.2.1 23) (Int32.toNatClampNeg x1)) = 20 then mf_313_339 N x1 s else if ((s.2.2.1 23) (Int32.toNatClampNeg x1)) = 21 then mf_313_339 N x1 s else if ((s.2.2.1 23) (Int32.toNatClampNeg x1)) = 22 then mf_313_270 N  s else if ((s.2.2.1 23) (Int32.toNatClampNeg x1)) = 23 then mf_313_281 N x1 s else if ((s.2.2.1 23) (Int32.toNatClampNeg x1)) = 24 then mf_313_318 N x1 s else none) else none
theorem mr_313_0 {X : Nat → Option zz_C} {h : zz_H} (hh : 111 ≤ h.length) {d : Nat} {N : Nat} {Q : Option Value → zz_H → Prop} {x1 : Int32} {s s' : mS} {v : Option Value} (hf : mf_313_0 N x1 s = some (s', v)) (k : Q v (mH h s')) : zz_E zp_P zt_tf zt_fd X (d + 8) zm_313 0 [(0, .ref 61), (1, .int x1)] [] (mH h s) Q := by
  unfold mf_313_0 at hf
  obtain ⟨q0, hf⟩ := mo_if hf
  refine mb_313_0 hh q0 (fun c => ?_) (fun c => ?_) (fun c => ?_) (fun c => ?_) (fun c => ?_) (fun c => ?_) (fun c => ?_) (fun c => ?_) (fun c => ?_) (fun c => ?_) (fun c => ?_) (fun c => ?_) (fun c => ?_) (fun c => ?_) (fun c => ?_) (fun c => ?_) (fun c => ?_) (fun c => ?_) (fun c => ?_) (fun c => ?_) (fun c => ?_) (fun c => ?_) (fun c => ?_) (fun c => ?_) (fun c => ?_)
  · rw [if_neg (by rw [c]; decide)] at hf
    rw [if_pos c] at hf
    exact mr_313_116 hh hf k
  · rw [if_neg (by rw [c]; decide)] at hf
    rw [if_neg (by rw [c]; decide)] at hf
    rw [if_pos c] at hf
    exact mr_313_121 hh hf k
  · rw [if_neg (by rw [c]; decide)] at hf
    rw [if_neg (by rw [c]; decide)] at hf
    rw [if_neg (by rw [c]; decide)] at hf
    rw [if_pos c] at hf
    exact mr_313_133 hh hf k
  · rw [if_neg (by rw [c]; decide)] at hf
    rw [if_neg (by rw [c]; decide)] at hf
    rw [if_neg (by rw [c]; decide)] at hf
    rw [if_neg (by rw [c]; decide)] at hf
    rw [if_pos c] at hf
    exact mr_313_185 hh hf k
  · rw [if_neg (by rw [c]; decide)] at hf
    rw [if_neg (by rw [c]; decide)] at hf
    rw [if_neg (by rw [c]; decide)] at hf
    rw [if_neg (by rw [c]; decide)] at hf
    rw [if_neg (by rw [c]; decide)] at hf
    rw [if_pos c] at hf
    exact mr_313_185 hh hf k
  · rw [if_neg (by rw [c]; decide)] at hf
    rw [if_neg (by rw [c]; decide)] at hf
    rw [if_neg (by rw [c]; decide)] at hf
    rw [if_neg (by rw [c]; decide)] at hf
    rw [if_neg (by rw [c]; decide)] at hf
    rw [if_neg (by rw [c]; decide)] at hf
    rw [if_pos c] at hf
    exact mr_313_185 hh hf k
  · rw [if_neg (by rw [c]; decide)] at hf
    rw [if_neg (by rw [c]; decide)] at hf
    rw [if_neg (by rw [c]; decide)] at hf
    rw [if_neg (by rw [c]; decide)] at hf
    rw [if_neg (by rw [c]; decide)] at hf
    rw [if_neg (by rw [c]; decide)] at hf
    rw [if_neg (by rw [c]; decide)] at hf
    rw [if_pos c] at hf
    exact mr_313_185 hh hf k
  · rw [if_neg (by rw [c]; decide)] at hf
    rw [if_neg (by rw [c]; decide)] at hf
    rw [if_neg (by rw [c]; decide)] at hf
    rw [if_neg (by rw [c]; decide)] at hf
    rw [if_neg (by rw [c]; decide)] at hf
    rw [if_neg (by rw [c]; decide)] at hf
    rw [if_neg (by rw [c]; decide)] at hf
    rw [if_neg (by rw [c]; decide)] at hf
    rw [if_pos c] at hf
    exact mr_313_185 hh hf k
  · rw [if_neg (by rw [c]; decide)] at hf
    rw [if_neg (by rw [c]; decide)] at hf
    rw [if_neg (by rw [c]; decide)] at hf
    rw [if_neg (by rw [c]; decide)] at hf
    rw [if_neg (by rw [c]; decide)] at hf
    rw [if_neg (by rw [c]; decide)] at hf
    rw [if_neg (by rw [c]; decide)] at hf
    rw [if_neg (by rw [c]; decide)] at hf
    rw [if_neg (by rw [c]; decide)] at hf
    rw [if_pos c] at hf
    exact mr_313_185 hh hf k
  · rw [if_neg (by rw [c]; decide)] at hf
    rw [if_neg (by rw [c]; decide)] at hf
    rw [if_neg (by rw [c]; decide)] at hf
    rw [if_neg (by rw [c]; decide)] at hf
    rw [if_neg (by rw [c]; decide)] at hf
    rw [if_neg (by rw [c]; decide)] at hf
    rw [if_neg (by rw [c]; decide)] at hf
    rw [if_neg (by rw [c]; decide)] at hf
    rw [if_neg (by rw [c]; decide)] at hf
    rw [if_neg (by rw [c]; decide)] at hf
    rw [if_pos c] at hf
    exact mr_313_185 hh hf k
  · rw [if_neg (by rw [c]; decide)] at hf
    rw [if_neg (by rw [c]; decide)] at hf
    rw [if_neg (by rw [c]; decide)] at hf
    rw [if_neg (by rw [c]; decide)] at hf
    rw [if_neg (by rw [c]; decide)] at hf
    rw [if_neg (by rw [c]; decide)] at hf
    rw [if_neg (by rw [c]; decide)] at hf
    rw [if_neg (by rw [c]; decide)] at hf
    rw [if_neg (by rw [c]; decide)] at hf
    rw [if_neg (by rw [c]; decide)] at hf
    rw [if_neg (by rw [c]; decide)] at hf
    rw [if_pos c] at hf
    exact mr_313_202 hh hf k
  · rw [if_neg (by rw [c]; decide)] at hf
    rw [if_neg (by rw [c]; decide)] at hf
    rw [if_neg (by rw [c]; decide)] at hf
    rw [if_neg (by rw [c]; decide)] at hf
    rw [if_neg (by rw [c]; decide)] at hf
    rw [if_neg (by rw [c]; decide)] at hf
    rw [if_neg (by rw [c]; decide)] at hf
    rw [if_neg (by rw [c]; decide)] at hf
    rw [if_neg (by rw [c]; decide)] at hf
    rw [if_neg (by rw [c]; decide)] at hf
    rw [if_neg (by rw [c]; decide)] at hf
    rw [if_neg (by rw [c]; decide)] at hf
    rw [if_pos c] at hf
    exact mr_313_208 hh hf k
  · rw [if_neg (by rw [c]; decide)] at hf
    rw [if_neg (by rw [c]; decide)] at hf
    rw [if_neg (by rw [c]; decide)] at hf
    rw [if_neg (by rw [c]; decide)] at hf
    rw [if_neg (by rw [c]; decide)] at hf
    rw [if_neg (by rw [c]; decide)] at hf
    rw [if_neg (by rw [c]; decide)] at hf
    rw [if_neg (by rw [c]; decide)] at hf
    rw [if_neg (by rw [c]; decide)] at hf
    rw [if_neg (by rw [c]; decide)] at hf
    rw [if_neg (by rw [c]; decide)] at hf
    rw [if_neg (by rw [c]; decide)] at hf
    rw [if_neg (by rw [c]; decide)] at hf
    rw [if_pos c] at hf
    exact mr_313_247 hh hf k
  · rw [if_neg (by rw [c]; decide)] at hf
    rw [if_neg (by rw [c]; decide)] at hf
    rw [if_neg (by rw [c]; decide)] at hf
    rw [if_neg (by rw [c]; decide)] at hf
    rw [if_neg (by rw [c]; decide)] at hf
    rw [if_neg (by rw [c]; decide)] at hf
    rw [if_neg (by rw [c]; decide)] at hf
    rw [if_neg (by rw [c]; decide)] at hf
    rw [if_neg (by rw [c]; decide)] at hf
    rw [if_neg (by rw [c]; decide)] at hf
    rw [if_neg (by rw [c]; decide)] at hf
    rw [if_neg (by rw [c]; decide)] at hf
    rw [if_neg (by rw [c]; decide)] at hf
    rw [if_neg (by rw [c]; decide)] at hf
    rw [if_pos c] at hf
    exact mr_313_339 hh hf k
  · rw [if_neg (by rw [c]; decide)] at hf
    rw [if_neg (by rw [c]; decide)] at hf
    rw [if_neg (by rw [c]; decide)] at hf
    rw [if_neg (by rw [c]; decide)] at hf
    rw [if_neg (by rw [c]; decide)] at hf
    rw [if_neg (by rw [c]; decide)] at hf
    rw [if_neg (by rw [c]; decide)] at hf
    rw [if_neg (by rw [c]; decide)] at hf
    rw [if_neg (by rw [c]; decide)] at hf
    rw [if_neg (by rw [c]; decide)] at hf
    rw [if_neg (by rw [c]; decide)] at hf
    rw [if_neg (by rw [c]; decide)] at hf
    rw [if_neg (by rw [c]; decide)] at hf
    rw [if_neg (by rw [c]; decide)] at hf
    rw [if_neg (by rw [c]; decide)] at hf
    rw [if_pos c] at hf
    exact mr_313_253 hh hf k
  · rw [if_neg (by rw [c]; decide)] at hf
    rw [if_neg (by rw [c]; decide)] at hf
    rw [if_neg (by rw [c]; decide)] at hf
    rw [if_neg (by rw [c]; decide)] at hf
    rw [if_neg (by rw [c]; decide)] at hf
    rw [if_neg (by rw [c]; decide)] at hf
    rw [if_neg (by rw [c]; decide)] at hf
    rw [if_neg (by rw [c]; decide)] at hf
    rw [if_neg (by rw [c]; decide)] at hf
    rw [if_neg (by rw [c]; decide)] at hf
    rw [if_neg (by rw [c]; decide)] at hf
    rw [if_neg (by rw [c]; decide)] at hf
    rw [if_neg (by rw [c]; decide)] at hf
    rw [if_neg (by rw [c]; decide)] at hf
    rw [if_neg (by rw [c]; decide)] at hf
    rw [if_neg (by rw [c]; decide)] at hf
    rw [if_pos c] at hf
    exact mr_313_116 hh hf k
  · rw [if_neg (by rw [c]; decide)] at hf
    rw [if_neg (by rw [c]; decide)] at hf
    rw [if_neg (by rw [c]; decide)] at hf
    rw [if_neg (by rw [c]; decide)] at hf
    rw [if_neg (by rw [c]; decide)] at hf
    rw [if_neg (by rw [c]; decide)] at hf
    rw [if_neg (by rw [c]; decide)] at hf
    rw [if_neg (by rw [c]; decide)] at hf
    rw [if_neg (by rw [c]; decide)] at hf
    rw [if_neg (by rw [c]; decide)] at hf
    rw [if_neg (by rw [c]; decide)] at hf
    rw [if_neg (by rw [c]; decide)] at hf
    rw [if_neg (by rw [c]; decide)] at hf
    rw [if_neg (by rw [c]; decide)] at hf
    rw [if_neg (by rw [c]; decide)] at hf
    rw [if_neg (by rw [c]; decide)] at hf
    rw [if_neg (by rw [c]; decide)] at hf
    rw [if_pos c] at hf
    exact mr_313_339 hh hf k
  · rw [if_neg (by rw [c]; decide)] at hf
    rw [if_neg (by rw [c]; decide)] at hf
    rw [if_neg (by rw [c]; decide)] at hf
    rw [if_neg (by rw [c]; decide)] at hf
    rw [if_neg (by rw [c]; decide)] at hf
    rw [if_neg (by rw [c]; decide)] at hf
    rw [if_neg (by rw [c]; decide)] at hf
    rw [if_neg (by rw [c]; decide)] at hf
    rw [if_neg (by rw [c]; decide)] at hf
    rw [if_neg (by rw [c]; decide)] at hf
    rw [if_neg (by rw [c]; decide)] at hf
    rw [if_neg (by rw [c]; decide)] at hf
    rw [if_neg (by rw [c]; decide)] at hf
    rw [if_neg (by rw [c]; decide)] at hf
    rw [if_neg (by rw [c]; decide)] at hf
    rw [if_neg (by rw [c]; decide)] at hf
    rw [if_neg (by rw [c]; decide)] at hf
    rw [if_neg (by rw [c]; decide)] at hf
    rw [if_pos c] at hf
    exact mr_313_264 hh hf k
  · rw [if_neg (by rw [c]; decide)] at hf
    rw [if_neg (by rw [c]; decide)] at hf
    rw [if_neg (by rw [c]; decide)] at hf
    rw [if_neg (by rw [c]; decide)] at hf
    rw [if_neg (by rw [c]; decide)] at hf
    rw [if_neg (by rw [c]; decide)] at hf
    rw [if_neg (by rw [c]; decide)] at hf
    rw [if_neg (by rw [c]; decide)] at hf
    rw [if_neg (by rw [c]; decide)] at hf
    rw [if_neg (by rw [c]; decide)] at hf
    rw [if_neg (by rw [c]; decide)] at hf
    rw [if_neg (by rw [c]; decide)] at hf
    rw [if_neg (by rw [c]; decide)] at hf
    rw [if_neg (by rw [c]; decide)] at hf
    rw [if_neg (by rw [c]; decide)] at hf
    rw [if_neg (by rw [c]; decide)] at hf
    rw [if_neg (by rw [c]; decide)] at hf
    rw [if_neg (by rw [c]; decide)] at hf
    rw [if_neg (by rw [c]; decide)] at hf
    rw [if_pos c] at hf
    exact mr_313_339 hh hf k
  · rw [if_neg (by rw [c]; decide)] at hf
    rw [if_neg (by rw [c]; decide)] at hf
    rw [if_neg (by rw [c]; decide)] at hf
    rw [if_neg (by rw [c]; decide)] at hf
    rw [if_neg (by rw [c]; decide)] at hf
    rw [if_neg (by rw [c]; decide)] at hf
    rw [if_neg (by rw [c]; decide)] at hf
    rw [if_neg (by rw [c]; decide)] at hf
    rw [if_neg (by rw [c]; decide)] at hf
    rw [if_neg (by rw [c]; decide)] at hf
    rw [if_neg (by rw [c]; decide)] at hf
    rw [if_neg (by rw [c]; decide)] at hf
    rw [if_neg (by rw [c]; decide)] at hf
    rw [if_neg (by rw [c]; decide)] at hf
    rw [if_neg (by rw [c]; decide)] at hf
    rw [if_neg (by rw [c]; decide)] at hf
    rw [if_neg (by rw [c]; decide)] at hf
    rw [if_neg (by rw [c]; decide)] at hf
    rw [if_neg (by rw [c]; decide)] at hf
    rw [if_neg (by rw [c]; decide)] at hf
    rw [if_pos c] at hf
    exact mr_313_339 hh hf k
  · rw [if_neg (by rw [c]; decide)] at hf
    rw [if_neg (by rw [c]; decide)] at hf
    rw [if_neg (by rw [c]; decide)] at hf
    rw [if_neg (by rw [c]; decide)] at hf
    rw [if_neg (by rw [c]; decide)] at hf
    rw [if_neg (by rw [c]; decide)] at hf
    rw [if_neg (by rw [c]; decide)] at hf
    rw [if_neg (by rw [c]; decide)] at hf
    rw [if_neg (by rw [c]; decide)] at hf
    rw [if_neg (by rw [c]; decide)] at hf
    rw [if_neg (by rw [c]; decide)] at hf
    rw [if_neg (by rw [c]; decide)] at hf
    rw [if_neg (by rw [c]; decide)] at hf
    rw [if_neg (by rw [c]; decide)] at hf
    rw [if_neg (by rw [c]; decide)] at hf
    rw [if_neg (by rw [c]; decide)] at hf
    rw [if_neg (by rw [c]; decide)] at hf
    rw [if_neg (by rw [c]; decide)] at hf
    rw [if_neg (by rw [c]; decide)] at hf
    rw [if_neg (by rw [c]; decide)] at hf
    rw [if_neg (by rw [c]; decide)] at hf
    rw [if_pos c] at hf
    exact mr_313_339 hh hf k
  · rw [if_neg (by rw [c]; decide)] at hf
    rw [if_neg (by rw [c]; decide)] at hf
    rw [if_neg (by rw [c]; decide)] at hf
    rw [if_neg (by rw [c]; decide)] at hf
    rw [if_neg (by rw [c]; decide)] at hf
    rw [if_neg (by rw [c]; decide)] at hf
    rw [if_neg (by rw [c]; decide)] at hf
    rw [if_neg (by rw [c]; decide)] at hf
    rw [if_neg (by rw [c]; decide)] at hf
    rw [if_neg (by rw [c]; decide)] at hf
    rw [if_neg (by rw [c]; decide)] at hf
    rw [if_neg (by rw [c]; decide)] at hf
    rw [if_neg (by rw [c]; decide)] at hf
    rw [if_neg (by rw [c]; decide)] at hf
    rw [if_neg (by rw [c]; decide)] at hf
    rw [if_neg (by rw [c]; decide)] at hf
    rw [if_neg (by rw [c]; decide)] at hf
    rw [if_neg (by rw [c]; decide)] at hf
    rw [if_neg (by rw [c]; decide)] at hf
    rw [if_neg (by rw [c]; decide)] at hf
    rw [if_neg (by rw [c]; decide)] at hf
    rw [if_neg (by rw [c]; decide)] at hf
    rw [if_pos c] at hf
    exact mr_313_270 hh hf k
  · rw [if_neg (by rw [c]; decide)] at hf
    rw [if_neg (by rw [c]; decide)] at hf
    rw [if_neg (by rw [c]; decide)] at hf
    rw [if_neg (by rw [c]; decide)] at hf
    rw [if_neg (by rw [c]; decide)] at hf
    rw [if_neg (by rw [c]; decide)] at hf
    rw [if_neg (by rw [c]; decide)] at hf
    rw [if_neg (by rw [c]; decide)] at hf
    rw [if_neg (by rw [c]; decide)] at hf
    rw [if_neg (by rw [c]; decide)] at hf
    rw [if_neg (by rw [c]; decide)] at hf
    rw [if_neg (by rw [c]; decide)] at hf
    rw [if_neg (by rw [c]; decide)] at hf
    rw [if_neg (by rw [c]; decide)] at hf
    rw [if_neg (by rw [c]; decide)] at hf
    rw [if_neg (by rw [c]; decide)] at hf
    rw [if_neg (by rw [c]; decide)] at hf
    rw [if_neg (by rw [c]; decide)] at hf
    rw [if_neg (by rw [c]; decide)] at hf
    rw [if_neg (by rw [c]; decide)] at hf
    rw [if_neg (by rw [c]; decide)] at hf
    rw [if_neg (by rw [c]; decide)] at hf
    rw [if_neg (by rw [c]; decide)] at hf
    rw [if_pos c] at hf
    exact mr_313_281 hh hf k
  · rw [if_neg (by rw [c]; decide)] at hf
    rw [if_neg (by rw [c]; decide)] at hf
    rw [if_neg (by rw [c]; decide)] at hf
    rw [if_neg (by rw [c]; decide)] at hf
    rw [if_neg (by rw [c]; decide)] at hf
    rw [if_neg (by rw [c]; decide)] at hf
    rw [if_neg (by rw [c]; decide)] at hf
    rw [if_neg (by rw [c]; decide)] at hf
    rw [if_neg (by rw [c]; decide)] at hf
    rw [if_neg (by rw [c]; decide)] at hf
    rw [if_neg (by rw [c]; decide)] at hf
    rw [if_neg (by rw [c]; decide)] at hf
    rw [if_neg (by rw [c]; decide)] at hf
    rw [if_neg (by rw [c]; decide)] at hf
    rw [if_neg (by rw [c]; decide)] at hf
    rw [if_neg (by rw [c]; decide)] at hf
    rw [if_neg (by rw [c]; decide)] at hf
    rw [if_neg (by rw [c]; decide)] at hf
    rw [if_neg (by rw [c]; decide)] at hf
    rw [if_neg (by rw [c]; decide)] at hf
    rw [if_neg (by rw [c]; decide)] at hf
    rw [if_neg (by rw [c]; decide)] at hf
    rw [if_neg (by rw [c]; decide)] at hf
    rw [if_neg (by rw [c]; decide)] at hf
    rw [if_pos c] at hf
    exact mr_313_318 hh hf k
  · rw [if_pos c] at hf
    exact mr_313_339 hh hf k
/-- does -/
def mf_313 (N : Nat) (x1 : Int32) (s : mS) : mO := mf_313_0 N x1 s
theorem mr_313 {X : Nat → Option zz_C} {h : zz_H} (hh : 111 ≤ h.length) {d : Nat} {N : Nat} {Q : Option Value → zz_H → Prop} {x1 : Int32} {s s' : mS} {v : Option Value} (hf : mf_313 N x1 s = some (s', v)) (k : Q v (mH h s')) : zz_E zp_P zt_tf zt_fd X (d + 8) zm_313 0 [(0, .ref 61), (1, .int x1)] [] (mH h s) Q := by
  unfold mf_313 at hf
  exact zz_E.weak (mr_313_0 hh hf k) rfl ⟨rfl, rfl, trivial⟩
/-! numbersOf (I)I -/
theorem mb_300_0 {X : Nat → Option zz_C} {h : zz_H} (hh : 111 ≤ h.length) {s : mS} {d : Nat} {Q : Option Value → zz_H → Prop} {x1 : Int32} (i6 : ¬ (x1 < 0 ∨ 166300 ≤ Int32.toNatClampNeg x1)) (k1 : ¬ ((s.2.2.1 47) (Int32.toNatClampNeg x1)) = 3 → zz_E zp_P zt_tf zt_fd X d zm_300 21 [(0, .ref 61), (1, .int x1)] [.int 2] (mH h s) Q) (k2 : ¬ ¬ ((s.2.2.1 47) (Int32.toNatClampNeg x1)) = 3 → zz_E zp_P zt_tf zt_fd X d zm_300 11 [(0, .ref 61), (1, .int x1)] [.int 2] (mH h s) Q) : zz_E zp_P zt_tf zt_fd X d zm_300 0 [(0, .ref 61), (1, .int x1)] [] (mH h s) Q := by
  refine zz_E.c 1 (.int 2) rfl rfl rfl rfl ?_
  refine zz_E.n 2 rfl rfl rfl ?_
  refine mE_g hh 5 (v := .ref 89) rfl rfl rfl ?_
  refine zz_E.n 6 rfl rfl rfl ?_
  refine mE_ia hh 7 28 (f := (s.2.2.1 47)) rfl (by decide) rfl rfl i6 rfl ?_
  refine zz_E.c 8 (.int 3) rfl rfl rfl rfl ?_
  refine zz_E.b2 21 11 (A := ¬ ((s.2.2.1 47) (Int32.toNatClampNeg x1)) = 3) rfl (zz_cond_ne _ _) (by decide) rfl rfl (fun c => ?_) (fun c => ?_)
  · exact zz_E.weak (k1 c) rfl ⟨rfl, rfl, trivial⟩
  · exact zz_E.weak (k2 c) rfl ⟨rfl, rfl, trivial⟩
theorem mb_300_11 {X : Nat → Option zz_C} {h : zz_H} (hh : 111 ≤ h.length) {s : mS} {d : Nat} {Q : Option Value → zz_H → Prop} {x1 : Int32} {y0 : Int32} (k : zz_E zp_P zt_tf zt_fd X d zm_77 0 [(0, .ref 61), (1, .int x1)] [] (mH h s) (fun v h' => zz_E zp_P zt_tf zt_fd X (d + 1) zm_300 17 [] (v.toList ++ [.int 2, .int y0]) h' Q)) : zz_E zp_P zt_tf zt_fd X (d + 1) zm_300 11 [(0, .ref 61), (1, .int x1)] [.int y0] (mH h s) Q := by
  refine zz_E.c 12 (.int 2) rfl rfl rfl rfl ?_
  refine zz_E.n 13 rfl rfl rfl ?_
  refine zz_E.n 14 rfl rfl rfl ?_
  refine mE_cv hh 17 (as := [.int 2, .int y0]) rfl rfl (Nat.le_of_ble_eq_true rfl) (Nat.le_of_ble_eq_true rfl) rfl (Nat.le_of_ble_eq_true rfl) rfl ?_
  refine zz_E.mono k ?_
  intro v h' hE
  exact zz_E.weak hE rfl trivial
theorem mb_300_17 {X : Nat → Option zz_C} {h : zz_H} (hh : 111 ≤ h.length) {s : mS} {d : Nat} {Q : Option Value → zz_H → Prop} {y0 : Int32} {y1 : Int32} {y2 : Int32} (k : zz_E zp_P zt_tf zt_fd X d zm_300 26 [] [.int (y1 * y2), .int y0] (mH h s) Q) : zz_E zp_P zt_tf zt_fd X d zm_300 17 [] [.int y2, .int y1, .int y0] (mH h s) Q := by
  refine zz_E.n 18 rfl rfl rfl ?_
  refine zz_E.n 26 rfl rfl rfl ?_
  exact zz_E.weak k rfl trivial
theorem mb_300_21 {X : Nat → Option zz_C} {h : zz_H} (hh : 111 ≤ h.length) {s : mS} {d : Nat} {Q : Option Value → zz_H → Prop} {x1 : Int32} {y0 : Int32} (k : zz_E zp_P zt_tf zt_fd X d zm_77 0 [(0, .ref 61), (1, .int x1)] [] (mH h s) (fun v h' => zz_E zp_P zt_tf zt_fd X (d + 1) zm_300 26 [] (v.toList ++ [.int y0]) h' Q)) : zz_E zp_P zt_tf zt_fd X (d + 1) zm_300 21 [(0, .ref 61), (1, .int x1)] [.int y0] (mH h s) Q := by
  refine zz_E.n 22 rfl rfl rfl ?_
  refine zz_E.n 23 rfl rfl rfl ?_
  refine mE_cv hh 26 (as := [.int y0]) rfl rfl (Nat.le_of_ble_eq_true rfl) (Nat.le_of_ble_eq_true rfl) rfl (Nat.le_of_ble_eq_true rfl) rfl ?_
  refine zz_E.mono k ?_
  intro v h' hE
  exact zz_E.weak hE rfl trivial
theorem mb_300_26 {X : Nat → Option zz_C} {h : zz_H} (hh : 111 ≤ h.length) {s : mS} {d : Nat} {Q : Option Value → zz_H → Prop} {y0 : Int32} {y1 : Int32} (k : Q (some (.int (y0 + y1))) (mH h s)) : zz_E zp_P zt_tf zt_fd X d zm_300 26 [] [.int y1, .int y0] (mH h s) Q := by
  refine zz_E.n 27 rfl rfl rfl ?_
  refine zz_E.ret rfl rfl rfl ?_
  exact k
def mf_300_26 (N : Nat) (y0 : Int32) (y1 : Int32) (s : mS) : mO := some (s, (some (.int (y0 + y1))))
theorem mr_300_26 {X : Nat → Option zz_C} {h : zz_H} (hh : 111 ≤ h.length) {d : Nat} {N : Nat} {Q : Option Value → zz_H → Prop} {y0 : Int32} {y1 : Int32} {s s' : mS} {v : Option Value} (hf : mf_300_26 N y0 y1 s = some (s', v)) (k : Q v (mH h s')) : zz_E zp_P zt_tf zt_fd X (d + 1) zm_300 26 [] [.int y1, .int y0] (mH h s) Q := by
  unfold mf_300_26 at hf
  cases hf
  exact mb_300_26 hh  k
def mf_300_21 (N : Nat) (x1 : Int32) (y0 : Int32) (s : mS) : mO := mo_bi (mf_77 N x1 s) (fun s1 y => mf_300_26 N y0 y s1)
theorem mr_300_21 {X : Nat → Option zz_C} {h : zz_H} (hh : 111 ≤ h.length) {d : Nat} {N : Nat} {Q : Option Value → zz_H → Prop} {x1 : Int32} {y0 : Int32} {s s' : mS} {v : Option Value} (hf : mf_300_21 N x1 y0 s = some (s', v)) (k : Q v (mH h s')) : zz_E zp_P zt_tf zt_fd X (d + 1) zm_300 21 [(0, .ref 61), (1, .int x1)] [.int y0] (mH h s) Q := by
  unfold mf_300_21 at hf
  obtain ⟨s1, y, e, hf⟩ := mo_bi_ok hf
  exact mb_300_21 (d := d + 0) hh  (mr_77 (d := d + 0) hh e (mr_300_26 hh hf k))
def mf_300_17 (N : Nat) (y0 : Int32) (y1 : Int32) (y2 : Int32) (s : mS) : mO := mf_300_26 N y0 (y1 * y2) s
theorem mr_300_17 {X : Nat → Option zz_C} {h : zz_H} (hh : 111 ≤ h.length) {d : Nat} {N : Nat} {Q : Option Value → zz_H → Prop} {y0 : Int32} {y1 : Int32} {y2 : Int32} {s s' : mS} {v : Option Value} (hf : mf_300_17 N y0 y1 y2 s = some (s', v)) (k : Q v (mH h s')) : zz_E zp_P zt_tf zt_fd X (d + 1) zm_300 17 [] [.int y2, .int y1, .int y0] (mH h s) Q := by
  unfold mf_300_17 at hf
  exact mb_300_17 hh  (mr_300_26 hh hf k)
def mf_300_11 (N : Nat) (x1 : Int32) (y0 : Int32) (s : mS) : mO := mo_bi (mf_77 N x1 s) (fun s1 y => mf_300_17 N y0 2 y s1)
theorem mr_300_11 {X : Nat → Option zz_C} {h : zz_H} (hh : 111 ≤ h.length) {d : Nat} {N : Nat} {Q : Option Value → zz_H → Prop} {x1 : Int32} {y0 : Int32} {s s' : mS} {v : Option Value} (hf : mf_300_11 N x1 y0 s = some (s', v)) (k : Q v (mH h s')) : zz_E zp_P zt_tf zt_fd X (d + 1) zm_300 11 [(0, .ref 61), (1, .int x1)] [.int y0] (mH h s) Q := by
  unfold mf_300_11 at hf
  obtain ⟨s1, y, e, hf⟩ := mo_bi_ok hf
  exact mb_300_11 (d := d + 0) hh  (mr_77 (d := d + 0) hh e (mr_300_17 hh hf k))
def mf_300_0 (N : Nat) (x1 : Int32) (s : mS) : mO := if ¬ (x1 < 0 ∨ 166300 ≤ Int32.toNatClampNeg x1) then (if ¬ ((s.2.2.1 47) (Int32.toNatClampNeg x1)) = 3 then mf_300_21 N x1 2 s else mf_300_11 N x1 2 s) else none
theorem mr_300_0 {X : Nat → Option zz_C} {h : zz_H} (hh : 111 ≤ h.length) {d : Nat} {N : Nat} {Q : Option Value → zz_H → Prop} {x1 : Int32} {s s' : mS} {v : Option Value} (hf : mf_300_0 N x1 s = some (s', v)) (k : Q v (mH h s')) : zz_E zp_P zt_tf zt_fd X (d + 1) zm_300 0 [(0, .ref 61), (1, .int x1)] [] (mH h s) Q := by
  unfold mf_300_0 at hf
  obtain ⟨q0, hf⟩ := mo_if hf
  refine mb_300_0 hh q0 (fun c => ?_) (fun c => ?_)
  · rw [if_pos c] at hf
    exact mr_300_21 hh hf k
  · rw [if_neg c] at hf
    exact mr_300_11 hh hf k
/-- numbersOf -/
def mf_300 (N : Nat) (x1 : Int32) (s : mS) : mO := mf_300_0 N x1 s
theorem mr_300 {X : Nat → Option zz_C} {h : zz_H} (hh : 111 ≤ h.length) {d : Nat} {N : Nat} {Q : Option Value → zz_H → Prop} {x1 : Int32} {s s' : mS} {v : Option Value} (hf : mf_300 N x1 s = some (s', v)) (k : Q v (mH h s')) : zz_E zp_P zt_tf zt_fd X (d + 1) zm_300 0 [(0, .ref 61), (1, .int x1)] [] (mH h s) Q := by
  unfold mf_300 at hf
  exact zz_E.weak (mr_300_0 hh hf k) rfl ⟨rfl, rfl, trivial⟩
