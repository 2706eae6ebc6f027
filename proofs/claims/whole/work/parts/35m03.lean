/-! most0 (I)I -/
theorem mb_289_0 {X : Nat → Option zz_C} {h : zz_H} (hh : 111 ≤ h.length) {s : mS} {d : Nat} {Q : Option Value → zz_H → Prop} {x1 : Int32} (k1 : ¬ x1 = 5 → zz_E zp_P zt_tf zt_fd X d zm_289 10 [(0, .ref 61), (1, .int x1)] [] (mH h s) Q) (k2 : ¬ ¬ x1 = 5 → zz_E zp_P zt_tf zt_fd X d zm_289 5 [] [] (mH h s) Q) : zz_E zp_P zt_tf zt_fd X d zm_289 0 [(0, .ref 61), (1, .int x1)] [] (mH h s) Q := by
  refine zz_E.n 1 rfl rfl rfl ?_
  refine zz_E.c 2 (.int 5) rfl rfl rfl rfl ?_
  refine zz_E.b2 10 5 (A := ¬ x1 = 5) rfl (zz_cond_ne _ _) (by decide) rfl rfl (fun c => ?_) (fun c => ?_)
  · exact zz_E.weak (k1 c) rfl ⟨rfl, rfl, trivial⟩
  · exact zz_E.weak (k2 c) rfl trivial
theorem mb_289_5 {X : Nat → Option zz_C} {h : zz_H} (hh : 111 ≤ h.length) {s : mS} {d : Nat} {Q : Option Value → zz_H → Prop}  (k : zz_E zp_P zt_tf zt_fd X d zm_289 16 [] [.int 6] (mH h s) Q) : zz_E zp_P zt_tf zt_fd X d zm_289 5 [] [] (mH h s) Q := by
  refine zz_E.c 7 (.int 6) rfl rfl rfl rfl ?_
  refine zz_E.n 16 rfl rfl rfl ?_
  exact zz_E.weak k rfl trivial
theorem mb_289_10 {X : Nat → Option zz_C} {h : zz_H} (hh : 111 ≤ h.length) {s : mS} {d : Nat} {Q : Option Value → zz_H → Prop} {x1 : Int32} (i15 : ¬ (x1 < 0 ∨ 30 ≤ Int32.toNatClampNeg x1)) (k : zz_E zp_P zt_tf zt_fd X d zm_289 16 [] [.int ((s.2.2.1 1) (Int32.toNatClampNeg x1))] (mH h s) Q) : zz_E zp_P zt_tf zt_fd X d zm_289 10 [(0, .ref 61), (1, .int x1)] [] (mH h s) Q := by
  refine zz_E.n 11 rfl rfl rfl ?_
  refine mE_g hh 14 (v := .ref 63) rfl rfl rfl ?_
  refine zz_E.n 15 rfl rfl rfl ?_
  refine mE_ia hh 16 2 (f := (s.2.2.1 1)) rfl (by decide) rfl rfl i15 rfl ?_
  exact zz_E.weak k rfl trivial
theorem mb_289_16 {X : Nat → Option zz_C} {h : zz_H} (hh : 111 ≤ h.length) {s : mS} {d : Nat} {Q : Option Value → zz_H → Prop} {y0 : Int32} (k : Q (some (.int y0)) (mH h s)) : zz_E zp_P zt_tf zt_fd X d zm_289 16 [] [.int y0] (mH h s) Q := by
  refine zz_E.ret rfl rfl rfl ?_
  exact k
def mf_289_16 (N : Nat) (y0 : Int32) (s : mS) : mO := some (s, (some (.int y0)))
theorem mr_289_16 {X : Nat → Option zz_C} {h : zz_H} (hh : 111 ≤ h.length) {d : Nat} {N : Nat} {Q : Option Value → zz_H → Prop} {y0 : Int32} {s s' : mS} {v : Option Value} (hf : mf_289_16 N y0 s = some (s', v)) (k : Q v (mH h s')) : zz_E zp_P zt_tf zt_fd X (d + 0) zm_289 16 [] [.int y0] (mH h s) Q := by
  unfold mf_289_16 at hf
  cases hf
  exact mb_289_16 hh  k
def mf_289_10 (N : Nat) (x1 : Int32) (s : mS) : mO := if ¬ (x1 < 0 ∨ 30 ≤ Int32.toNatClampNeg x1) then (mf_289_16 N ((s.2.2.1 1) (Int32.toNatClampNeg x1)) s) else none
theorem mr_289_10 {X : Nat → Option zz_C} {h : zz_H} (hh : 111 ≤ h.length) {d : Nat} {N : Nat} {Q : Option Value → zz_H → Prop} {x1 : Int32} {s s' : mS} {v : Option Value} (hf : mf_289_10 N x1 s = some (s', v)) (k : Q v (mH h s')) : zz_E zp_P zt_tf zt_fd X (d + 0) zm_289 10 [(0, .ref 61), (1, .int x1)] [] (mH h s) Q := by
  unfold mf_289_10 at hf
  obtain ⟨q0, hf⟩ := mo_if hf
  exact mb_289_10 hh q0 (mr_289_16 hh hf k)
def mf_289_5 (N : Nat)  (s : mS) : mO := mf_289_16 N 6 s
theorem mr_289_5 {X : Nat → Option zz_C} {h : zz_H} (hh : 111 ≤ h.length) {d : Nat} {N : Nat} {Q : Option Value → zz_H → Prop}  {s s' : mS} {v : Option Value} (hf : mf_289_5 N  s = some (s', v)) (k : Q v (mH h s')) : zz_E zp_P zt_tf zt_fd X (d + 0) zm_289 5 [] [] (mH h s) Q := by
  unfold mf_289_5 at hf
  exact mb_289_5 hh  (mr_289_16 hh hf k)
def mf_289_0 (N : Nat) (x1 : Int32) (s : mS) : mO := if ¬ x1 = 5 then mf_289_10 N x1 s else mf_289_5 N  s
theorem mr_289_0 {X : Nat → Option zz_C} {h : zz_H} (hh : 111 ≤ h.length) {d : Nat} {N : Nat} {Q : Option Value → zz_H → Prop} {x1 : Int32} {s s' : mS} {v : Option Value} (hf : mf_289_0 N x1 s = some (s', v)) (k : Q v (mH h s')) : zz_E zp_P zt_tf zt_fd X (d + 0) zm_289 0 [(0, .ref 61), (1, .int x1)] [] (mH h s) Q := by
  unfold mf_289_0 at hf
  refine mb_289_0 hh  (fun c => ?_) (fun c => ?_)
  · rw [if_pos c] at hf
    exact mr_289_10 hh hf k
  · rw [if_neg c] at hf
    exact mr_289_5 hh hf k
/-- most0 -/
def mf_289 (N : Nat) (x1 : Int32) (s : mS) : mO := mf_289_0 N x1 s
theorem mr_289 {X : Nat → Option zz_C} {h : zz_H} (hh : 111 ≤ h.length) {d : Nat} {N : Nat} {Q : Option Value → zz_H → Prop} {x1 : Int32} {s s' : mS} {v : Option Value} (hf : mf_289 N x1 s = some (s', v)) (k : Q v (mH h s')) : zz_E zp_P zt_tf zt_fd X (d + 0) zm_289 0 [(0, .ref 61), (1, .int x1)] [] (mH h s) Q := by
  unfold mf_289 at hf
  exact zz_E.weak (mr_289_0 hh hf k) rfl ⟨rfl, rfl, trivial⟩
/-! ends2 ()Z -/
theorem mb_290_0 {X : Nat → Option zz_C} {h : zz_H} (hh : 111 ≤ h.length) {s : mS} {d : Nat} {Q : Option Value → zz_H → Prop}  (i20 : ¬ (((s.1 44) - 1) < 0 ∨ 80 ≤ Int32.toNatClampNeg ((s.1 44) - 1))) (i27 : ¬ (((s.1 44) - 1) < 0 ∨ 80 ≤ Int32.toNatClampNeg ((s.1 44) - 1))) (k1 : ¬ ((s.2.2.1 38) (Int32.toNatClampNeg ((s.1 44) - 1))) = 5 → zz_E zp_P zt_tf zt_fd X d zm_290 55 [(0, .ref 61), (1, .int ((s.1 44) - 1)), (2, .int ((s.2.2.1 40) (Int32.toNatClampNeg ((s.1 44) - 1))))] [] (mH h (mI s 44 ((s.1 44) - 1))) Q) (k2 : ¬ ¬ ((s.2.2.1 38) (Int32.toNatClampNeg ((s.1 44) - 1))) = 5 → zz_E zp_P zt_tf zt_fd X d zm_290 32 [(0, .ref 61), (1, .int ((s.1 44) - 1)), (2, .int ((s.2.2.1 40) (Int32.toNatClampNeg ((s.1 44) - 1))))] [] (mH h (mI s 44 ((s.1 44) - 1))) Q) : zz_E zp_P zt_tf zt_fd X d zm_290 0 [(0, .ref 61)] [] (mH h s) Q := by
  refine zz_E.n 1 rfl rfl rfl ?_
  refine zz_E.n 2 rfl rfl rfl ?_
  refine mE_g hh 5 (v := .int (s.1 44)) rfl rfl rfl ?_
  refine zz_E.c 6 (.int 1) rfl rfl rfl rfl ?_
  refine zz_E.n 7 rfl rfl rfl ?_
  refine mE_p hh 10 rfl (by decide) rfl (mF_44 _ _) rfl ?_
  refine zz_E.n 11 rfl rfl rfl ?_
  refine mE_g hh 14 (v := .int ((s.1 44) - 1)) rfl rfl rfl ?_
  refine zz_E.n 15 rfl rfl rfl ?_
  refine zz_E.n 16 rfl rfl rfl ?_
  refine mE_g hh 19 (v := .ref 85) rfl rfl rfl ?_
  refine zz_E.n 20 rfl rfl rfl ?_
  refine mE_ia hh 21 24 (f := (s.2.2.1 40)) rfl (by decide) rfl rfl i20 rfl ?_
  refine zz_E.n 22 rfl rfl rfl ?_
  refine zz_E.n 23 rfl rfl rfl ?_
  refine mE_g hh 26 (v := .ref 83) rfl rfl rfl ?_
  refine zz_E.n 27 rfl rfl rfl ?_
  refine mE_ia hh 28 22 (f := (s.2.2.1 38)) rfl (by decide) rfl rfl i27 rfl ?_
  refine zz_E.c 29 (.int 5) rfl rfl rfl rfl ?_
  refine zz_E.b2 55 32 (A := ¬ ((s.2.2.1 38) (Int32.toNatClampNeg ((s.1 44) - 1))) = 5) rfl (zz_cond_ne _ _) (by decide) rfl rfl (fun c => ?_) (fun c => ?_)
  · exact zz_E.weak (k1 c) rfl ⟨rfl, rfl, rfl, trivial⟩
  · exact zz_E.weak (k2 c) rfl ⟨rfl, rfl, rfl, trivial⟩
theorem mb_290_32 {X : Nat → Option zz_C} {h : zz_H} (hh : 111 ≤ h.length) {s : mS} {d : Nat} {Q : Option Value → zz_H → Prop} {x1 : Int32} {x2 : Int32} (k : zz_E zp_P zt_tf zt_fd X d zm_267 0 [(0, .ref 61), (1, .int 93)] [] (mH h s) (fun v h' => zz_E zp_P zt_tf zt_fd X (d + 1) zm_290 38 [(0, .ref 61), (1, .int x1), (2, .int x2)] (v.toList ++ []) h' Q)) : zz_E zp_P zt_tf zt_fd X (d + 1) zm_290 32 [(0, .ref 61), (1, .int x1), (2, .int x2)] [] (mH h s) Q := by
  refine zz_E.n 33 rfl rfl rfl ?_
  refine zz_E.c 35 (.int 93) rfl rfl rfl rfl ?_
  refine mE_cv hh 38 (as := []) rfl rfl (Nat.le_of_ble_eq_true rfl) (Nat.le_of_ble_eq_true rfl) rfl (Nat.le_of_ble_eq_true rfl) rfl ?_
  refine zz_E.mono k ?_
  intro v h' hE
  exact zz_E.weak hE rfl ⟨rfl, rfl, rfl, trivial⟩
theorem mb_290_38 {X : Nat → Option zz_C} {h : zz_H} (hh : 111 ≤ h.length) {s : mS} {d : Nat} {Q : Option Value → zz_H → Prop} {x1 : Int32} {x2 : Int32} (i48 : ¬ (x1 < 0 ∨ 80 ≤ Int32.toNatClampNeg x1)) (k : zz_E zp_P zt_tf zt_fd X d zm_271 0 [(0, .ref 61), (1, .int 6), (2, .int x2), (3, .int 0), (4, .int ((s.2.2.1 41) (Int32.toNatClampNeg x1)))] [] (mH h s) (fun v h' => zz_E zp_P zt_tf zt_fd X (d + 1) zm_290 52 [] (v.toList ++ []) h' Q)) : zz_E zp_P zt_tf zt_fd X (d + 1) zm_290 38 [(0, .ref 61), (1, .int x1), (2, .int x2)] [] (mH h s) Q := by
  refine zz_E.n 39 rfl rfl rfl ?_
  refine zz_E.c 41 (.int 6) rfl rfl rfl rfl ?_
  refine zz_E.n 42 rfl rfl rfl ?_
  refine zz_E.c 43 (.int 0) rfl rfl rfl rfl ?_
  refine zz_E.n 44 rfl rfl rfl ?_
  refine mE_g hh 47 (v := .ref 86) rfl rfl rfl ?_
  refine zz_E.n 48 rfl rfl rfl ?_
  refine mE_ia hh 49 25 (f := (s.2.2.1 41)) rfl (by decide) rfl rfl i48 rfl ?_
  refine mE_cv hh 52 (as := []) rfl rfl (Nat.le_of_ble_eq_true rfl) (Nat.le_of_ble_eq_true rfl) rfl (Nat.le_of_ble_eq_true rfl) rfl ?_
  refine zz_E.mono k ?_
  intro v h' hE
  exact zz_E.weak hE rfl trivial
theorem mb_290_52 {X : Nat → Option zz_C} {h : zz_H} (hh : 111 ≤ h.length) {s : mS} {d : Nat} {Q : Option Value → zz_H → Prop} {y0 : Int32} (k : Q (some (.int 1)) (mH h s)) : zz_E zp_P zt_tf zt_fd X d zm_290 52 [] [.int y0] (mH h s) Q := by
  refine zz_E.n 53 rfl rfl rfl ?_
  refine zz_E.c 54 (.int 1) rfl rfl rfl rfl ?_
  refine zz_E.ret rfl rfl rfl ?_
  exact k
theorem mb_290_55 {X : Nat → Option zz_C} {h : zz_H} (hh : 111 ≤ h.length) {s : mS} {d : Nat} {Q : Option Value → zz_H → Prop} {x1 : Int32} {x2 : Int32} (i60 : ¬ (x1 < 0 ∨ 80 ≤ Int32.toNatClampNeg x1)) (k1 : ¬ ((s.2.2.1 38) (Int32.toNatClampNeg x1)) = 7 → zz_E zp_P zt_tf zt_fd X d zm_290 108 [(0, .ref 61), (1, .int x1), (2, .int x2)] [] (mH h s) Q) (k2 : ¬ ¬ ((s.2.2.1 38) (Int32.toNatClampNeg x1)) = 7 → zz_E zp_P zt_tf zt_fd X d zm_290 66 [(0, .ref 61), (1, .int x1), (2, .int x2)] [] (mH h s) Q) : zz_E zp_P zt_tf zt_fd X d zm_290 55 [(0, .ref 61), (1, .int x1), (2, .int x2)] [] (mH h s) Q := by
  refine zz_E.n 56 rfl rfl rfl ?_
  refine mE_g hh 59 (v := .ref 83) rfl rfl rfl ?_
  refine zz_E.n 60 rfl rfl rfl ?_
  refine mE_ia hh 61 22 (f := (s.2.2.1 38)) rfl (by decide) rfl rfl i60 rfl ?_
  refine zz_E.c 63 (.int 7) rfl rfl rfl rfl ?_
  refine zz_E.b2 108 66 (A := ¬ ((s.2.2.1 38) (Int32.toNatClampNeg x1)) = 7) rfl (zz_cond_ne _ _) (by decide) rfl rfl (fun c => ?_) (fun c => ?_)
  · exact zz_E.weak (k1 c) rfl ⟨rfl, rfl, rfl, trivial⟩
  · exact zz_E.weak (k2 c) rfl ⟨rfl, rfl, rfl, trivial⟩
theorem mb_290_66 {X : Nat → Option zz_C} {h : zz_H} (hh : 111 ≤ h.length) {s : mS} {d : Nat} {Q : Option Value → zz_H → Prop} {x1 : Int32} {x2 : Int32} (k : zz_E zp_P zt_tf zt_fd X d zm_263 0 [(0, .ref 61), (1, .int 41)] [] (mH h s) (fun v h' => zz_E zp_P zt_tf zt_fd X (d + 1) zm_290 72 [(0, .ref 61), (1, .int x1), (2, .int x2)] (v.toList ++ []) h' Q)) : zz_E zp_P zt_tf zt_fd X (d + 1) zm_290 66 [(0, .ref 61), (1, .int x1), (2, .int x2)] [] (mH h s) Q := by
  refine zz_E.n 67 rfl rfl rfl ?_
  refine zz_E.c 69 (.int 41) rfl rfl rfl rfl ?_
  refine mE_cv hh 72 (as := []) rfl rfl (Nat.le_of_ble_eq_true rfl) (Nat.le_of_ble_eq_true rfl) rfl (Nat.le_of_ble_eq_true rfl) rfl ?_
  refine zz_E.mono k ?_
  intro v h' hE
  exact zz_E.weak hE rfl ⟨rfl, rfl, rfl, trivial⟩
theorem mb_290_72 {X : Nat → Option zz_C} {h : zz_H} (hh : 111 ≤ h.length) {s : mS} {d : Nat} {Q : Option Value → zz_H → Prop} {x1 : Int32} {x2 : Int32} {y0 : Int32} (k1 : y0 = 0 → zz_E zp_P zt_tf zt_fd X d zm_290 108 [(0, .ref 61), (1, .int x1), (2, .int x2)] [] (mH h s) Q) (k2 : ¬ y0 = 0 → zz_E zp_P zt_tf zt_fd X d zm_290 75 [(0, .ref 61), (1, .int x1), (2, .int x2)] [] (mH h s) Q) : zz_E zp_P zt_tf zt_fd X d zm_290 72 [(0, .ref 61), (1, .int x1), (2, .int x2)] [.int y0] (mH h s) Q := by
  refine zz_E.b1 108 75 (A := y0 = 0) rfl rfl (by decide) rfl rfl (fun c => ?_) (fun c => ?_)
  · exact zz_E.weak (k1 c) rfl ⟨rfl, rfl, rfl, trivial⟩
  · exact zz_E.weak (k2 c) rfl ⟨rfl, rfl, rfl, trivial⟩
theorem mb_290_75 {X : Nat → Option zz_C} {h : zz_H} (hh : 111 ≤ h.length) {s : mS} {d : Nat} {Q : Option Value → zz_H → Prop} {x1 : Int32} {x2 : Int32} (i80 : ¬ (x1 < 0 ∨ 80 ≤ Int32.toNatClampNeg x1)) (k1 : ((s.2.2.1 39) (Int32.toNatClampNeg x1)) = 5 → zz_E zp_P zt_tf zt_fd X d zm_290 108 [(0, .ref 61), (1, .int x1), (2, .int x2)] [] (mH h s) Q) (k2 : ¬ ((s.2.2.1 39) (Int32.toNatClampNeg x1)) = 5 → zz_E zp_P zt_tf zt_fd X d zm_290 85 [(0, .ref 61), (1, .int x1), (2, .int x2)] [] (mH h s) Q) : zz_E zp_P zt_tf zt_fd X d zm_290 75 [(0, .ref 61), (1, .int x1), (2, .int x2)] [] (mH h s) Q := by
  refine zz_E.n 76 rfl rfl rfl ?_
  refine mE_g hh 79 (v := .ref 84) rfl rfl rfl ?_
  refine zz_E.n 80 rfl rfl rfl ?_
  refine mE_ia hh 81 23 (f := (s.2.2.1 39)) rfl (by decide) rfl rfl i80 rfl ?_
  refine zz_E.c 82 (.int 5) rfl rfl rfl rfl ?_
  refine zz_E.b2 108 85 (A := ((s.2.2.1 39) (Int32.toNatClampNeg x1)) = 5) rfl rfl (by decide) rfl rfl (fun c => ?_) (fun c => ?_)
  · exact zz_E.weak (k1 c) rfl ⟨rfl, rfl, rfl, trivial⟩
  · exact zz_E.weak (k2 c) rfl ⟨rfl, rfl, rfl, trivial⟩
theorem mb_290_85 {X : Nat → Option zz_C} {h : zz_H} (hh : 111 ≤ h.length) {s : mS} {d : Nat} {Q : Option Value → zz_H → Prop} {x1 : Int32} {x2 : Int32} (i92 : ¬ (x1 < 0 ∨ 80 ≤ Int32.toNatClampNeg x1)) (k : zz_E zp_P zt_tf zt_fd X d zm_289 0 [(0, .ref 61), (1, .int ((s.2.2.1 39) (Int32.toNatClampNeg x1)))] [] (mH h s) (fun v h' => zz_E zp_P zt_tf zt_fd X (d + 1) zm_290 96 [(0, .ref 61), (1, .int x1), (2, .int x2)] (v.toList ++ [.int x2]) h' Q)) : zz_E zp_P zt_tf zt_fd X (d + 1) zm_290 85 [(0, .ref 61), (1, .int x1), (2, .int x2)] [] (mH h s) Q := by
  refine zz_E.n 86 rfl rfl rfl ?_
  refine zz_E.n 87 rfl rfl rfl ?_
  refine zz_E.n 88 rfl rfl rfl ?_
  refine mE_g hh 91 (v := .ref 84) rfl rfl rfl ?_
  refine zz_E.n 92 rfl rfl rfl ?_
  refine mE_ia hh 93 23 (f := (s.2.2.1 39)) rfl (by decide) rfl rfl i92 rfl ?_
  refine mE_cv hh 96 (as := [.int x2]) rfl rfl (Nat.le_of_ble_eq_true rfl) (Nat.le_of_ble_eq_true rfl) rfl (Nat.le_of_ble_eq_true rfl) rfl ?_
  refine zz_E.mono k ?_
  intro v h' hE
  exact zz_E.weak hE rfl ⟨rfl, rfl, rfl, trivial⟩
theorem mb_290_96 {X : Nat → Option zz_C} {h : zz_H} (hh : 111 ≤ h.length) {s : mS} {d : Nat} {Q : Option Value → zz_H → Prop} {x1 : Int32} {x2 : Int32} {y0 : Int32} {y1 : Int32} (k1 : y0 = y1 → zz_E zp_P zt_tf zt_fd X d zm_290 108 [(0, .ref 61), (1, .int x1), (2, .int x2)] [] (mH h s) Q) (k2 : ¬ y0 = y1 → zz_E zp_P zt_tf zt_fd X d zm_290 99 [(0, .ref 61), (1, .int x1), (2, .int x2)] [] (mH h s) Q) : zz_E zp_P zt_tf zt_fd X d zm_290 96 [(0, .ref 61), (1, .int x1), (2, .int x2)] [.int y1, .int y0] (mH h s) Q := by
  refine zz_E.b2 108 99 (A := y0 = y1) rfl rfl (by decide) rfl rfl (fun c => ?_) (fun c => ?_)
  · exact zz_E.weak (k1 c) rfl ⟨rfl, rfl, rfl, trivial⟩
  · exact zz_E.weak (k2 c) rfl ⟨rfl, rfl, rfl, trivial⟩
theorem mb_290_99 {X : Nat → Option zz_C} {h : zz_H} (hh : 111 ≤ h.length) {s : mS} {d : Nat} {Q : Option Value → zz_H → Prop} {x1 : Int32} {x2 : Int32} (k : zz_E zp_P zt_tf zt_fd X d zm_261 0 [(0, .ref 61), (1, .int 5), (2, .int (s.1 6))] [] (mH h s) (fun v h' => zz_E zp_P zt_tf zt_fd X (d + 1) zm_290 108 [(0, .ref 61), (1, .int x1), (2, .int x2)] (v.toList ++ []) h' Q)) : zz_E zp_P zt_tf zt_fd X (d + 1) zm_290 99 [(0, .ref 61), (1, .int x1), (2, .int x2)] [] (mH h s) Q := by
  refine zz_E.n 100 rfl rfl rfl ?_
  refine zz_E.c 101 (.int 5) rfl rfl rfl rfl ?_
  refine zz_E.n 102 rfl rfl rfl ?_
  refine mE_g hh 105 (v := .int (s.1 6)) rfl rfl rfl ?_
  refine mE_cv hh 108 (as := []) rfl rfl (Nat.le_of_ble_eq_true rfl) (Nat.le_of_ble_eq_true rfl) rfl (Nat.le_of_ble_eq_true rfl) rfl ?_
  refine zz_E.mono k ?_
  intro v h' hE
  exact zz_E.weak hE rfl ⟨rfl, rfl, rfl, trivial⟩
theorem mb_290_108 {X : Nat → Option zz_C} {h : zz_H} (hh : 111 ≤ h.length) {s : mS} {d : Nat} {Q : Option Value → zz_H → Prop} {x1 : Int32} {x2 : Int32} (k : zz_E zp_P zt_tf zt_fd X d zm_267 0 [(0, .ref 61), (1, .int 41)] [] (mH h s) (fun v h' => zz_E zp_P zt_tf zt_fd X (d + 1) zm_290 114 [(0, .ref 61), (1, .int x1), (2, .int x2)] (v.toList ++ []) h' Q)) : zz_E zp_P zt_tf zt_fd X (d + 1) zm_290 108 [(0, .ref 61), (1, .int x1), (2, .int x2)] [] (mH h s) Q := by
  refine zz_E.n 109 rfl rfl rfl ?_
  refine zz_E.c 111 (.int 41) rfl rfl rfl rfl ?_
  refine mE_cv hh 114 (as := []) rfl rfl (Nat.le_of_ble_eq_true rfl) (Nat.le_of_ble_eq_true rfl) rfl (Nat.le_of_ble_eq_true rfl) rfl ?_
  refine zz_E.mono k ?_
  intro v h' hE
  exact zz_E.weak hE rfl ⟨rfl, rfl, rfl, trivial⟩
theorem mb_290_114 {X : Nat → Option zz_C} {h : zz_H} (hh : 111 ≤ h.length) {s : mS} {d : Nat} {Q : Option Value → zz_H → Prop} {x1 : Int32} {x2 : Int32} (k1 : (s.1 9) ≤ 0 → zz_E zp_P zt_tf zt_fd X d zm_290 123 [(0, .ref 61), (1, .int x1), (2, .int x2)] [] (mH h s) Q) (k2 : ¬ (s.1 9) ≤ 0 → zz_E zp_P zt_tf zt_fd X d zm_290 121 [] [] (mH h s) Q) : zz_E zp_P zt_tf zt_fd X d zm_290 114 [(0, .ref 61), (1, .int x1), (2, .int x2)] [] (mH h s) Q := by
  refine zz_E.n 115 rfl rfl rfl ?_
  refine mE_g hh 118 (v := .int (s.1 9)) rfl rfl rfl ?_
  refine zz_E.b1 123 121 (A := (s.1 9) ≤ 0) rfl rfl (by decide) rfl rfl (fun c => ?_) (fun c => ?_)
  · exact zz_E.weak (k1 c) rfl ⟨rfl, rfl, rfl, trivial⟩
  · exact zz_E.weak (k2 c) rfl trivial
theorem mb_290_121 {X : Nat → Option zz_C} {h : zz_H} (hh : 111 ≤ h.length) {s : mS} {d : Nat} {Q : Option Value → zz_H → Prop}  (k : Q (some (.int 1)) (mH h s)) : zz_E zp_P zt_tf zt_fd X d zm_290 121 [] [] (mH h s) Q := by
  refine zz_E.c 122 (.int 1) rfl rfl rfl rfl ?_
  refine zz_E.ret rfl rfl rfl ?_
  exact k
theorem mb_290_123 {X : Nat → Option zz_C} {h : zz_H} (hh : 111 ≤ h.length) {s : mS} {d : Nat} {Q : Option Value → zz_H → Prop} {x1 : Int32} {x2 : Int32} (i128 : ¬ (x1 < 0 ∨ 80 ≤ Int32.toNatClampNeg x1)) (k1 : ¬ ((s.2.2.1 38) (Int32.toNatClampNeg x1)) = 7 → zz_E zp_P zt_tf zt_fd X d zm_290 157 [(0, .ref 61), (1, .int x1), (2, .int x2)] [] (mH h s) Q) (k2 : ¬ ¬ ((s.2.2.1 38) (Int32.toNatClampNeg x1)) = 7 → zz_E zp_P zt_tf zt_fd X d zm_290 134 [(0, .ref 61), (1, .int x1), (2, .int x2)] [] (mH h s) Q) : zz_E zp_P zt_tf zt_fd X d zm_290 123 [(0, .ref 61), (1, .int x1), (2, .int x2)] [] (mH h s) Q := by
  refine zz_E.n 124 rfl rfl rfl ?_
  refine mE_g hh 127 (v := .ref 83) rfl rfl rfl ?_
  refine zz_E.n 128 rfl rfl rfl ?_
  refine mE_ia hh 129 22 (f := (s.2.2.1 38)) rfl (by decide) rfl rfl i128 rfl ?_
  refine zz_E.c 131 (.int 7) rfl rfl rfl rfl ?_
  refine zz_E.b2 157 134 (A := ¬ ((s.2.2.1 38) (Int32.toNatClampNeg x1)) = 7) rfl (zz_cond_ne _ _) (by decide) rfl rfl (fun c => ?_) (fun c => ?_)
  · exact zz_E.weak (k1 c) rfl ⟨rfl, rfl, rfl, trivial⟩
  · exact zz_E.weak (k2 c) rfl ⟨rfl, rfl, rfl, trivial⟩
theorem mb_290_134 {X : Nat → Option zz_C} {h : zz_H} (hh : 111 ≤ h.length) {s : mS} {d : Nat} {Q : Option Value → zz_H → Prop} {x1 : Int32} {x2 : Int32} (i142 : ¬ (x1 < 0 ∨ 80 ≤ Int32.toNatClampNeg x1)) (i149 : ¬ (x1 < 0 ∨ 80 ≤ Int32.toNatClampNeg x1)) (k : zz_E zp_P zt_tf zt_fd X d zm_271 0 [(0, .ref 61), (1, .int 8), (2, .int ((s.2.2.1 39) (Int32.toNatClampNeg x1))), (3, .int x2), (4, .int ((s.2.2.1 41) (Int32.toNatClampNeg x1)))] [] (mH h s) (fun v h' => zz_E zp_P zt_tf zt_fd X (d + 1) zm_290 153 [] (v.toList ++ []) h' Q)) : zz_E zp_P zt_tf zt_fd X (d + 1) zm_290 134 [(0, .ref 61), (1, .int x1), (2, .int x2)] [] (mH h s) Q := by
  refine zz_E.n 135 rfl rfl rfl ?_
  refine zz_E.c 137 (.int 8) rfl rfl rfl rfl ?_
  refine zz_E.n 138 rfl rfl rfl ?_
  refine mE_g hh 141 (v := .ref 84) rfl rfl rfl ?_
  refine zz_E.n 142 rfl rfl rfl ?_
  refine mE_ia hh 143 23 (f := (s.2.2.1 39)) rfl (by decide) rfl rfl i142 rfl ?_
  refine zz_E.n 144 rfl rfl rfl ?_
  refine zz_E.n 145 rfl rfl rfl ?_
  refine mE_g hh 148 (v := .ref 86) rfl rfl rfl ?_
  refine zz_E.n 149 rfl rfl rfl ?_
  refine mE_ia hh 150 25 (f := (s.2.2.1 41)) rfl (by decide) rfl rfl i149 rfl ?_
  refine mE_cv hh 153 (as := []) rfl rfl (Nat.le_of_ble_eq_true rfl) (Nat.le_of_ble_eq_true rfl) rfl (Nat.le_of_ble_eq_true rfl) rfl ?_
  refine zz_E.mono k ?_
  intro v h' hE
  exact zz_E.weak hE rfl trivial
theorem mb_290_153 {X : Nat → Option zz_C} {h : zz_H} (hh : 111 ≤ h.length) {s : mS} {d : Nat} {Q : Option Value → zz_H → Prop} {y0 : Int32} (k : zz_E zp_P zt_tf zt_fd X d zm_290 273 [] [] (mH h s) Q) : zz_E zp_P zt_tf zt_fd X d zm_290 153 [] [.int y0] (mH h s) Q := by
  refine zz_E.n 154 rfl rfl rfl ?_
  refine zz_E.n 273 rfl rfl rfl ?_
  exact zz_E.weak k rfl trivial
theorem mb_290_157 {X : Nat → Option zz_C} {h : zz_H} (hh : 111 ≤ h.length) {s : mS} {d : Nat} {Q : Option Value → zz_H → Prop} {x1 : Int32} {x2 : Int32} (i162 : ¬ (x1 < 0 ∨ 80 ≤ Int32.toNatClampNeg x1)) (k1 : ¬ ((s.2.2.1 38) (Int32.toNatClampNeg x1)) = 6 → zz_E zp_P zt_tf zt_fd X d zm_290 202 [(0, .ref 61), (1, .int x1)] [] (mH h s) Q) (k2 : ¬ ¬ ((s.2.2.1 38) (Int32.toNatClampNeg x1)) = 6 → zz_E zp_P zt_tf zt_fd X d zm_290 168 [(0, .ref 61), (1, .int x1), (2, .int x2)] [] (mH h s) Q) : zz_E zp_P zt_tf zt_fd X d zm_290 157 [(0, .ref 61), (1, .int x1), (2, .int x2)] [] (mH h s) Q := by
  refine zz_E.n 158 rfl rfl rfl ?_
  refine mE_g hh 161 (v := .ref 83) rfl rfl rfl ?_
  refine zz_E.n 162 rfl rfl rfl ?_
  refine mE_ia hh 163 22 (f := (s.2.2.1 38)) rfl (by decide) rfl rfl i162 rfl ?_
  refine zz_E.c 165 (.int 6) rfl rfl rfl rfl ?_
  refine zz_E.b2 202 168 (A := ¬ ((s.2.2.1 38) (Int32.toNatClampNeg x1)) = 6) rfl (zz_cond_ne _ _) (by decide) rfl rfl (fun c => ?_) (fun c => ?_)
  · exact zz_E.weak (k1 c) rfl ⟨rfl, rfl, trivial⟩
  · exact zz_E.weak (k2 c) rfl ⟨rfl, rfl, rfl, trivial⟩
theorem mb_290_168 {X : Nat → Option zz_C} {h : zz_H} (hh : 111 ≤ h.length) {s : mS} {d : Nat} {Q : Option Value → zz_H → Prop} {x1 : Int32} {x2 : Int32} (i179 : ¬ (x1 < 0 ∨ 80 ≤ Int32.toNatClampNeg x1)) (k : zz_E zp_P zt_tf zt_fd X d zm_271 0 [(0, .ref 61), (1, .int 9), (2, .int 0), (3, .int x2), (4, .int ((s.2.2.1 41) (Int32.toNatClampNeg x1)))] [] (mH h s) (fun v h' => zz_E zp_P zt_tf zt_fd X (d + 1) zm_290 183 [(0, .ref 61), (1, .int x1), (2, .int x2)] (v.toList ++ [.ref 61]) h' Q)) : zz_E zp_P zt_tf zt_fd X (d + 1) zm_290 168 [(0, .ref 61), (1, .int x1), (2, .int x2)] [] (mH h s) Q := by
  refine zz_E.n 169 rfl rfl rfl ?_
  refine zz_E.n 170 rfl rfl rfl ?_
  refine zz_E.c 172 (.int 9) rfl rfl rfl rfl ?_
  refine zz_E.c 173 (.int 0) rfl rfl rfl rfl ?_
  refine zz_E.n 174 rfl rfl rfl ?_
  refine zz_E.n 175 rfl rfl rfl ?_
  refine mE_g hh 178 (v := .ref 86) rfl rfl rfl ?_
  refine zz_E.n 179 rfl rfl rfl ?_
  refine mE_ia hh 180 25 (f := (s.2.2.1 41)) rfl (by decide) rfl rfl i179 rfl ?_
  refine mE_cv hh 183 (as := [.ref 61]) rfl rfl (Nat.le_of_ble_eq_true rfl) (Nat.le_of_ble_eq_true rfl) rfl (Nat.le_of_ble_eq_true rfl) rfl ?_
  refine zz_E.mono k ?_
  intro v h' hE
  exact zz_E.weak hE rfl ⟨rfl, rfl, rfl, trivial⟩
theorem mb_290_183 {X : Nat → Option zz_C} {h : zz_H} (hh : 111 ≤ h.length) {s : mS} {d : Nat} {Q : Option Value → zz_H → Prop} {x1 : Int32} {x2 : Int32} {y1 : Int32} (i188 : ¬ (x1 < 0 ∨ 80 ≤ Int32.toNatClampNeg x1)) (i195 : ¬ (x1 < 0 ∨ 80 ≤ Int32.toNatClampNeg x1)) (k : zz_E zp_P zt_tf zt_fd X d zm_273 0 [(0, .ref 61), (1, .int y1), (2, .long ((s.2.2.2 42) (Int32.toNatClampNeg x1))), (4, .int x2), (5, .int ((s.2.2.1 43) (Int32.toNatClampNeg x1)))] [] (mH h s) (fun v h' => zz_E zp_P zt_tf zt_fd X (d + 1) zm_290 199 [] (v.toList ++ []) h' Q)) : zz_E zp_P zt_tf zt_fd X (d + 1) zm_290 183 [(0, .ref 61), (1, .int x1), (2, .int x2)] [.int y1, .ref 61] (mH h s) Q := by
  refine zz_E.n 184 rfl rfl rfl ?_
  refine mE_g hh 187 (v := .ref 87) rfl rfl rfl ?_
  refine zz_E.n 188 rfl rfl rfl ?_
  refine mE_la hh 189 26 (f := (s.2.2.2 42)) rfl (by decide) rfl rfl i188 rfl ?_
  refine zz_E.n 190 rfl rfl rfl ?_
  refine zz_E.n 191 rfl rfl rfl ?_
  refine mE_g hh 194 (v := .ref 88) rfl rfl rfl ?_
  refine zz_E.n 195 rfl rfl rfl ?_
  refine mE_ia hh 196 27 (f := (s.2.2.1 43)) rfl (by decide) rfl rfl i195 rfl ?_
  refine mE_cv hh 199 (as := []) rfl rfl (Nat.le_of_ble_eq_true rfl) (Nat.le_of_ble_eq_true rfl) rfl (Nat.le_of_ble_eq_true rfl) rfl ?_
  refine zz_E.mono k ?_
  intro v h' hE
  exact zz_E.weak hE rfl trivial
theorem mb_290_199 {X : Nat → Option zz_C} {h : zz_H} (hh : 111 ≤ h.length) {s : mS} {d : Nat} {Q : Option Value → zz_H → Prop}  (k : zz_E zp_P zt_tf zt_fd X d zm_290 273 [] [] (mH h s) Q) : zz_E zp_P zt_tf zt_fd X d zm_290 199 [] [] (mH h s) Q := by
  refine zz_E.n 273 rfl rfl rfl ?_
  exact zz_E.weak k rfl trivial
theorem mb_290_202 {X : Nat → Option zz_C} {h : zz_H} (hh : 111 ≤ h.length) {s : mS} {d : Nat} {Q : Option Value → zz_H → Prop} {x1 : Int32} (i210 : ¬ (x1 < 0 ∨ 80 ≤ Int32.toNatClampNeg x1)) (i217 : ¬ (x1 < 0 ∨ 80 ≤ Int32.toNatClampNeg x1)) (k : zz_E zp_P zt_tf zt_fd X d zm_271 0 [(0, .ref 61), (1, .int 10), (2, .int ((s.2.2.1 39) (Int32.toNatClampNeg x1))), (3, .int 0), (4, .int ((s.2.2.1 41) (Int32.toNatClampNeg x1)))] [] (mH h s) (fun v h' => zz_E zp_P zt_tf zt_fd X (d + 1) zm_290 221 [(0, .ref 61), (1, .int x1)] (v.toList ++ []) h' Q)) : zz_E zp_P zt_tf zt_fd X (d + 1) zm_290 202 [(0, .ref 61), (1, .int x1)] [] (mH h s) Q := by
  refine zz_E.n 203 rfl rfl rfl ?_
  refine zz_E.c 205 (.int 10) rfl rfl rfl rfl ?_
  refine zz_E.n 206 rfl rfl rfl ?_
  refine mE_g hh 209 (v := .ref 84) rfl rfl rfl ?_
  refine zz_E.n 210 rfl rfl rfl ?_
  refine mE_ia hh 211 23 (f := (s.2.2.1 39)) rfl (by decide) rfl rfl i210 rfl ?_
  refine zz_E.c 212 (.int 0) rfl rfl rfl rfl ?_
  refine zz_E.n 213 rfl rfl rfl ?_
  refine mE_g hh 216 (v := .ref 86) rfl rfl rfl ?_
  refine zz_E.n 217 rfl rfl rfl ?_
  refine mE_ia hh 218 25 (f := (s.2.2.1 41)) rfl (by decide) rfl rfl i217 rfl ?_
  refine mE_cv hh 221 (as := []) rfl rfl (Nat.le_of_ble_eq_true rfl) (Nat.le_of_ble_eq_true rfl) rfl (Nat.le_of_ble_eq_true rfl) rfl ?_
  refine zz_E.mono k ?_
  intro v h' hE
  exact zz_E.weak hE rfl ⟨rfl, rfl, trivial⟩
theorem mb_290_221 {X : Nat → Option zz_C} {h : zz_H} (hh : 111 ≤ h.length) {s : mS} {d : Nat} {Q : Option Value → zz_H → Prop} {x1 : Int32} {y0 : Int32} (i231 : ¬ (x1 < 0 ∨ 80 ≤ Int32.toNatClampNeg x1)) (i238 : ¬ (x1 < 0 ∨ 80 ≤ Int32.toNatClampNeg x1)) (k : zz_E zp_P zt_tf zt_fd X d zm_271 0 [(0, .ref 61), (1, .int 11), (2, .int ((s.2.2.1 39) (Int32.toNatClampNeg x1))), (3, .int 0), (4, .int ((s.2.2.1 41) (Int32.toNatClampNeg x1)))] [] (mH h s) (fun v h' => zz_E zp_P zt_tf zt_fd X (d + 1) zm_290 242 [(0, .ref 61), (1, .int x1)] (v.toList ++ [.ref 61]) h' Q)) : zz_E zp_P zt_tf zt_fd X (d + 1) zm_290 221 [(0, .ref 61), (1, .int x1)] [.int y0] (mH h s) Q := by
  refine zz_E.n 222 rfl rfl rfl ?_
  refine zz_E.n 223 rfl rfl rfl ?_
  refine zz_E.n 224 rfl rfl rfl ?_
  refine zz_E.c 226 (.int 11) rfl rfl rfl rfl ?_
  refine zz_E.n 227 rfl rfl rfl ?_
  refine mE_g hh 230 (v := .ref 84) rfl rfl rfl ?_
  refine zz_E.n 231 rfl rfl rfl ?_
  refine mE_ia hh 232 23 (f := (s.2.2.1 39)) rfl (by decide) rfl rfl i231 rfl ?_
  refine zz_E.c 233 (.int 0) rfl rfl rfl rfl ?_
  refine zz_E.n 234 rfl rfl rfl ?_
  refine mE_g hh 237 (v := .ref 86) rfl rfl rfl ?_
  refine zz_E.n 238 rfl rfl rfl ?_
  refine mE_ia hh 239 25 (f := (s.2.2.1 41)) rfl (by decide) rfl rfl i238 rfl ?_
  refine mE_cv hh 242 (as := [.ref 61]) rfl rfl (Nat.le_of_ble_eq_true rfl) (Nat.le_of_ble_eq_true rfl) rfl (Nat.le_of_ble_eq_true rfl) rfl ?_
  refine zz_E.mono k ?_
  intro v h' hE
  exact zz_E.weak hE rfl ⟨rfl, rfl, trivial⟩
theorem mb_290_242 {X : Nat → Option zz_C} {h : zz_H} (hh : 111 ≤ h.length) {s : mS} {d : Nat} {Q : Option Value → zz_H → Prop} {x1 : Int32} {y1 : Int32} (i247 : ¬ (x1 < 0 ∨ 80 ≤ Int32.toNatClampNeg x1)) (i253 : ¬ (x1 < 0 ∨ 80 ≤ Int32.toNatClampNeg x1)) (k1 : ¬ ((s.2.2.1 39) (Int32.toNatClampNeg x1)) = 28 → zz_E zp_P zt_tf zt_fd X d zm_290 263 [(0, .ref 61), (1, .int x1)] [.long ((s.2.2.2 42) (Int32.toNatClampNeg x1)), .int y1, .ref 61] (mH h s) Q) (k2 : ¬ ¬ ((s.2.2.1 39) (Int32.toNatClampNeg x1)) = 28 → zz_E zp_P zt_tf zt_fd X d zm_290 259 [(0, .ref 61), (1, .int x1)] [.long ((s.2.2.2 42) (Int32.toNatClampNeg x1)), .int y1, .ref 61] (mH h s) Q) : zz_E zp_P zt_tf zt_fd X d zm_290 242 [(0, .ref 61), (1, .int x1)] [.int y1, .ref 61] (mH h s) Q := by
  refine zz_E.n 243 rfl rfl rfl ?_
  refine mE_g hh 246 (v := .ref 87) rfl rfl rfl ?_
  refine zz_E.n 247 rfl rfl rfl ?_
  refine mE_la hh 248 26 (f := (s.2.2.2 42)) rfl (by decide) rfl rfl i247 rfl ?_
  refine zz_E.n 249 rfl rfl rfl ?_
  refine mE_g hh 252 (v := .ref 84) rfl rfl rfl ?_
  refine zz_E.n 253 rfl rfl rfl ?_
  refine mE_ia hh 254 23 (f := (s.2.2.1 39)) rfl (by decide) rfl rfl i253 rfl ?_
  refine zz_E.c 256 (.int 28) rfl rfl rfl rfl ?_
  refine zz_E.b2 263 259 (A := ¬ ((s.2.2.1 39) (Int32.toNatClampNeg x1)) = 28) rfl (zz_cond_ne _ _) (by decide) rfl rfl (fun c => ?_) (fun c => ?_)
  · exact zz_E.weak (k1 c) rfl ⟨rfl, rfl, trivial⟩
  · exact zz_E.weak (k2 c) rfl ⟨rfl, rfl, trivial⟩
theorem mb_290_259 {X : Nat → Option zz_C} {h : zz_H} (hh : 111 ≤ h.length) {s : mS} {d : Nat} {Q : Option Value → zz_H → Prop} {x1 : Int32} {y1 : Int32} {y2 : Int64} (k : zz_E zp_P zt_tf zt_fd X d zm_290 264 [(0, .ref 61), (1, .int x1)] [.int 1, .long y2, .int y1, .ref 61] (mH h s) Q) : zz_E zp_P zt_tf zt_fd X d zm_290 259 [(0, .ref 61), (1, .int x1)] [.long y2, .int y1, .ref 61] (mH h s) Q := by
  refine zz_E.c 260 (.int 1) rfl rfl rfl rfl ?_
  refine zz_E.n 264 rfl rfl rfl ?_
  exact zz_E.weak k rfl ⟨rfl, rfl, trivial⟩
theorem mb_290_263 {X : Nat → Option zz_C} {h : zz_H} (hh : 111 ≤ h.length) {s : mS} {d : Nat} {Q : Option Value → zz_H → Prop} {x1 : Int32} {y1 : Int32} {y2 : Int64} (k : zz_E zp_P zt_tf zt_fd X d zm_290 264 [(0, .ref 61), (1, .int x1)] [.int 2, .long y2, .int y1, .ref 61] (mH h s) Q) : zz_E zp_P zt_tf zt_fd X d zm_290 263 [(0, .ref 61), (1, .int x1)] [.long y2, .int y1, .ref 61] (mH h s) Q := by
  refine zz_E.c 264 (.int 2) rfl rfl rfl rfl ?_
  exact zz_E.weak k rfl ⟨rfl, rfl, trivial⟩
theorem mb_290_264 {X : Nat → Option zz_C} {h : zz_H} (hh : 111 ≤ h.length) {s : mS} {d : Nat} {Q : Option Value → zz_H → Prop} {x1 : Int32} {y1 : Int32} {y2 : Int64} {y3 : Int32} (i269 : ¬ (x1 < 0 ∨ 80 ≤ Int32.toNatClampNeg x1)) (k : zz_E zp_P zt_tf zt_fd X d zm_273 0 [(0, .ref 61), (1, .int y1), (2, .long y2), (4, .int y3), (5, .int ((s.2.2.1 43) (Int32.toNatClampNeg x1)))] [] (mH h s) (fun v h' => zz_E zp_P zt_tf zt_fd X (d + 1) zm_290 273 [] (v.toList ++ []) h' Q)) : zz_E zp_P zt_tf zt_fd X (d + 1) zm_290 264 [(0, .ref 61), (1, .int x1)] [.int y3, .long y2, .int y1, .ref 61] (mH h s) Q := by
  refine zz_E.n 265 rfl rfl rfl ?_
  refine mE_g hh 268 (v := .ref 88) rfl rfl rfl ?_
  refine zz_E.n 269 rfl rfl rfl ?_
  refine mE_ia hh 270 27 (f := (s.2.2.1 43)) rfl (by decide) rfl rfl i269 rfl ?_
  refine mE_cv hh 273 (as := []) rfl rfl (Nat.le_of_ble_eq_true rfl) (Nat.le_of_ble_eq_true rfl) rfl (Nat.le_of_ble_eq_true rfl) rfl ?_
  refine zz_E.mono k ?_
  intro v h' hE
  exact zz_E.weak hE rfl trivial
theorem mb_290_273 {X : Nat → Option zz_C} {h : zz_H} (hh : 111 ≤ h.length) {s : mS} {d : Nat} {Q : Option Value → zz_H → Prop}  (k : Q (some (.int 1)) (mH h s)) : zz_E zp_P zt_tf zt_fd X d zm_290 273 [] [] (mH h s) Q := by
  refine zz_E.c 274 (.int 1) rfl rfl rfl rfl ?_
  refine zz_E.ret rfl rfl rfl ?_
  exact k
def mf_290_273 (N : Nat)  (s : mS) : mO := some (s, (some (.int 1)))
theorem mr_290_273 {X : Nat → Option zz_C} {h : zz_H} (hh : 111 ≤ h.length) {d : Nat} {N : Nat} {Q : Option Value → zz_H → Prop}  {s s' : mS} {v : Option Value} (hf : mf_290_273 N  s = some (s', v)) (k : Q v (mH h s')) : zz_E zp_P zt_tf zt_fd X (d + 5) zm_290 273 [] [] (mH h s) Q := by
  unfold mf_290_273 at hf
  cases hf
  exact mb_290_273 hh  k
def mf_290_264 (N : Nat) (x1 : Int32) (y1 : Int32) (y2 : Int64) (y3 : Int32) (s : mS) : mO := if ¬ (x1 < 0 ∨ 80 ≤ Int32.toNatClampNeg x1) then (mo_bv (mf_273 N y1 y2 y3 ((s.2.2.1 43) (Int32.toNatClampNeg x1)) s) (fun s1 => mf_290_273 N  s1)) else none
theorem mr_290_264 {X : Nat → Option zz_C} {h : zz_H} (hh : 111 ≤ h.length) {d : Nat} {N : Nat} {Q : Option Value → zz_H → Prop} {x1 : Int32} {y1 : Int32} {y2 : Int64} {y3 : Int32} {s s' : mS} {v : Option Value} (hf : mf_290_264 N x1 y1 y2 y3 s = some (s', v)) (k : Q v (mH h s')) : zz_E zp_P zt_tf zt_fd X (d + 5) zm_290 264 [(0, .ref 61), (1, .int x1)] [.int y3, .long y2, .int y1, .ref 61] (mH h s) Q := by
  unfold mf_290_264 at hf
  obtain ⟨q0, hf⟩ := mo_if hf
  obtain ⟨s1, e, hf⟩ := mo_bv_ok hf
  exact mb_290_264 (d := d + 4) hh q0 (mr_273 (d := d + 4) hh e (mr_290_273 hh hf k))
def mf_290_263 (N : Nat) (x1 : Int32) (y1 : Int32) (y2 : Int64) (s : mS) : mO := mf_290_264 N x1 y1 y2 2 s
theorem mr_290_263 {X : Nat → Option zz_C} {h : zz_H} (hh : 111 ≤ h.length) {d : Nat} {N : Nat} {Q : Option Value → zz_H → Prop} {x1 : Int32} {y1 : Int32} {y2 : Int64} {s s' : mS} {v : Option Value} (hf : mf_290_263 N x1 y1 y2 s = some (s', v)) (k : Q v (mH h s')) : zz_E zp_P zt_tf zt_fd X (d + 5) zm_290 263 [(0, .ref 61), (1, .int x1)] [.long y2, .int y1, .ref 61] (mH h s) Q := by
  unfold mf_290_263 at hf
  exact mb_290_263 hh  (mr_290_264 hh hf k)
def mf_290_259 (N : Nat) (x1 : Int32) (y1 : Int32) (y2 : Int64) (s : mS) : mO := mf_290_264 N x1 y1 y2 1 s
theorem mr_290_259 {X : Nat → Option zz_C} {h : zz_H} (hh : 111 ≤ h.length) {d : Nat} {N : Nat} {Q : Option Value → zz_H → Prop} {x1 : Int32} {y1 : Int32} {y2 : Int64} {s s' : mS} {v : Option Value} (hf : mf_290_259 N x1 y1 y2 s = some (s', v)) (k : Q v (mH h s')) : zz_E zp_P zt_tf zt_fd X (d + 5) zm_290 259 [(0, .ref 61), (1, .int x1)] [.long y2, .int y1, .ref 61] (mH h s) Q := by
  unfold mf_290_259 at hf
  exact mb_290_259 hh  (mr_290_264 hh hf k)
def mf_290_242 (N : Nat) (x1 : Int32) (y1 : Int32) (s : mS) : mO := if ¬ (x1 < 0 ∨ 80 ≤ Int32.toNatClampNeg x1) then (if ¬ (x1 < 0 ∨ 80 ≤ Int32.toNatClampNeg x1) then (if ¬ ((s.2.2.1 39) (Int32.toNatClampNeg x1)) = 28 then mf_290_263 N x1 y1 ((s.2.2.2 42) (Int32.toNatClampNeg x1)) s else mf_290_259 N x1 y1 ((s.2.2.2 42) (Int32.toNatClampNeg x1)) s) else none) else none
theorem mr_290_242 {X : Nat → Option zz_C} {h : zz_H} (hh : 111 ≤ h.length) {d : Nat} {N : Nat} {Q : Option Value → zz_H → Prop} {x1 : Int32} {y1 : Int32} {s s' : mS} {v : Option Value} (hf : mf_290_242 N x1 y1 s = some (s', v)) (k : Q v (mH h s')) : zz_E zp_P zt_tf zt_fd X (d + 5) zm_290 242 [(0, .ref 61), (1, .int x1)] [.int y1, .ref 61] (mH h s) Q := by
  unfold mf_290_242 at hf
  obtain ⟨q0, hf⟩ := mo_if hf
  obtain ⟨q1, hf⟩ := mo_if hf
  refine mb_290_242 hh q0 q1 (fun c => ?_) (fun c => ?_)
  · rw [if_pos c] at hf
    exact mr_290_263 hh hf k
  · rw [if_neg c] at hf
    exact mr_290_259 hh hf k
def mf_290_221 (N : Nat) (x1 : Int32) (y0 : Int32) (s : mS) : mO := if ¬ (x1 < 0 ∨ 80 ≤ Int32.toNatClampNeg x1) then (if ¬ (x1 < 0 ∨ 80 ≤ Int32.toNatClampNeg x1) then (mo_bi (mf_271 N 11 ((s.2.2.1 39) (Int32.toNatClampNeg x1)) 0 ((s.2.2.1 41) (Int32.toNatClampNeg x1)) s) (fun s1 y => mf_290_242 N x1 y s1)) else none) else none
theorem mr_290_221 {X : Nat → Option zz_C} {h : zz_H} (hh : 111 ≤ h.length) {d : Nat} {N : Nat} {Q : Option Value → zz_H → Prop} {x1 : Int32} {y0 : Int32} {s s' : mS} {v : Option Value} (hf : mf_290_221 N x1 y0 s = some (s', v)) (k : Q v (mH h s')) : zz_E zp_P zt_tf zt_fd X (d + 5) zm_290 221 [(0, .ref 61), (1, .int x1)] [.int y0] (mH h s) Q := by
  unfold mf_290_221 at hf
  obtain ⟨q0, hf⟩ := mo_if hf
  obtain ⟨q1, hf⟩ := mo_if hf
  obtain ⟨s1, y, e, hf⟩ := mo_bi_ok hf
  exact mb_290_221 (d := d + 4) hh q0 q1 (mr_271 (d := d + 4) hh e (mr_290_242 hh hf k))
def mf_290_202 (N : Nat) (x1 : Int32) (s : mS) : mO := if ¬ (x1 < 0 ∨ 80 ≤ Int32.toNatClampNeg x1) then (if ¬ (x1 < 0 ∨ 80 ≤ Int32.toNatClampNeg x1) then (mo_bi (mf_271 N 10 ((s.2.2.1 39) (Int32.toNatClampNeg x1)) 0 ((s.2.2.1 41) (Int32.toNatClampNeg x1)) s) (fun s1 y => mf_290_221 N x1 y s1)) else none) else none
theorem mr_290_202 {X : Nat → Option zz_C} {h : zz_H} (hh : 111 ≤ h.length) {d : Nat} {N : Nat} {Q : Option Value → zz_H → Prop} {x1 : Int32} {s s' : mS} {v : Option Value} (hf : mf_290_202 N x1 s = some (s', v)) (k : Q v (mH h s')) : zz_E zp_P zt_tf zt_fd X (d + 5) zm_290 202 [(0, .ref 61), (1, .int x1)] [] (mH h s) Q := by
  unfold mf_290_202 at hf
  obtain ⟨q0, hf⟩ := mo_if hf
  obtain ⟨q1, hf⟩ := mo_if hf
  obtain ⟨s1, y, e, hf⟩ := mo_bi_ok hf
  exact mb_290_202 (d := d + 4) hh q0 q1 (mr_271 (d := d + 4) hh e (mr_290_221 hh hf k))
def mf_290_199 (N : Nat)  (s : mS) : mO := mf_290_273 N  s
theorem mr_290_199 {X : Nat → Option zz_C} {h : zz_H} (hh : 111 ≤ h.length) {d : Nat} {N : Nat} {Q : Option Value → zz_H → Prop}  {s s' : mS} {v : Option Value} (hf : mf_290_199 N  s = some (s', v)) (k : Q v (mH h s')) : zz_E zp_P zt_tf zt_fd X (d + 5) zm_290 199 [] [] (mH h s) Q := by
  unfold mf_290_199 at hf
  exact mb_290_199 hh  (mr_290_273 hh hf k)
def mf_290_183 (N : Nat) (x1 : Int32) (x2 : Int32) (y1 : Int32) (s : mS) : mO := if ¬ (x1 < 0 ∨ 80 ≤ Int32.toNatClampNeg x1) then (if ¬ (x1 < 0 ∨ 80 ≤ Int32.toNatClampNeg x1) then (mo_bv (mf_273 N y1 ((s.2.2.2 42) (Int32.toNatClampNeg x1)) x2 ((s.2.2.1 43) (Int32.toNatClampNeg x1)) s) (fun s1 => mf_290_199 N  s1)) else none) else none
theorem mr_290_183 {X : Nat → Option zz_C} {h : zz_H} (hh : 111 ≤ h.length) {d : Nat} {N : Nat} {Q : Option Value → zz_H → Prop} {x1 : Int32} {x2 : Int32} {y1 : Int32} {s s' : mS} {v : Option Value} (hf : mf_290_183 N x1 x2 y1 s = some (s', v)) (k : Q v (mH h s')) : zz_E zp_P zt_tf zt_fd X (d + 5) zm_290 183 [(0, .ref 61), (1, .int x1), (2, .int x2)] [.int y1, .ref 61] (mH h s) Q := by
  unfold mf_290_183 at hf
  obtain ⟨q0, hf⟩ := mo_if hf
  obtain ⟨q1, hf⟩ := mo_if hf
  obtain ⟨s1, e, hf⟩ := mo_bv_ok hf
  exact mb_290_183 (d := d + 4) hh q0 q1 (mr_273 (d := d + 4) hh e (mr_290_199 hh hf k))
def mf_290_168 (N : Nat) (x1 : Int32) (x2 : Int32) (s : mS) : mO := if ¬ (x1 < 0 ∨ 80 ≤ Int32.toNatClampNeg x1) then (mo_bi (mf_271 N 9 0 x2 ((s.2.2.1 41) (Int32.toNatClampNeg x1)) s) (fun s1 y => mf_290_183 N x1 x2 y s1)) else none
theorem mr_290_168 {X : Nat → Option zz_C} {h : zz_H} (hh : 111 ≤ h.length) {d : Nat} {N : Nat} {Q : Option Value → zz_H → Prop} {x1 : Int32} {x2 : Int32} {s s' : mS} {v : Option Value} (hf : mf_290_168 N x1 x2 s = some (s', v)) (k : Q v (mH h s')) : zz_E zp_P zt_tf zt_fd X (d + 5) zm_290 168 [(0, .ref 61), (1, .int x1), (2, .int x2)] [] (mH h s) Q := by
  unfold mf_290_168 at hf
  obtain ⟨q0, hf⟩ := mo_if hf
  obtain ⟨s1, y, e, hf⟩ := mo_bi_ok hf
  exact mb_290_168 (d := d + 4) hh q0 (mr_271 (d := d + 4) hh e (mr_290_183 hh hf k))
def mf_290_157 (N : Nat) (x1 : Int32) (x2 : Int32) (s : mS) : mO := if ¬ (x1 < 0 ∨ 80 ≤ Int32.toNatClampNeg x1) then (if ¬ ((s.2.2.1 38) (Int32.toNatClampNeg x1)) = 6 then mf_290_202 N x1 s else mf_290_168 N x1 x2 s) else none
theorem mr_290_157 {X : Nat → Option zz_C} {h : zz_H} (hh : 111 ≤ h.length) {d : Nat} {N : Nat} {Q : Option Value → zz_H → Prop} {x1 : Int32} {x2 : Int32} {s s' : mS} {v : Option Value} (hf : mf_290_157 N x1 x2 s = some (s', v)) (k : Q v (mH h s')) : zz_E zp_P zt_tf zt_fd X (d + 5) zm_290 157 [(0, .ref 61), (1, .int x1), (2, .int x2)] [] (mH h s) Q := by
  unfold mf_290_157 at hf
  obtain ⟨q0, hf⟩ := mo_if hf
  refine mb_290_157 hh q0 (fun c => ?_) (fun c => ?_)
  · rw [if_pos c] at hf
    exact mr_290_202 hh hf k
  · rw [if_neg c] at hf
    exact mr_290_168 hh hf k
def mf_290_153 (N : Nat) (y0 : Int32) (s : mS) : mO := mf_290_273 N  s
theorem mr_290_153 {X : Nat → Option zz_C} {h : zz_H} (hh : 111 ≤ h.length) {d : Nat} {N : Nat} {Q : Option Value → zz_H → Prop} {y0 : Int32} {s s' : mS} {v : Option Value} (hf : mf_290_153 N y0 s = some (s', v)) (k : Q v (mH h s')) : zz_E zp_P zt_tf zt_fd X (d + 5) zm_290 153 [] [.int y0] (mH h s) Q := by
  unfold mf_290_153 at hf
  exact mb_290_153 hh  (mr_290_273 hh hf k)
def mf_290_134 (N : Nat) (x1 : Int32) (x2 : Int32) (s : mS) : mO := if ¬ (x1 < 0 ∨ 80 ≤ Int32.toNatClampNeg x1) then (if ¬ (x1 < 0 ∨ 80 ≤ Int32.toNatClampNeg x1) then (mo_bi (mf_271 N 8 ((s.2.2.1 39) (Int32.toNatClampNeg x1)) x2 ((s.2.2.1 41) (Int32.toNatClampNeg x1)) s) (fun s1 y => mf_290_153 N y s1)) else none) else none
theorem mr_290_134 {X : Nat → Option zz_C} {h : zz_H} (hh : 111 ≤ h.length) {d : Nat} {N : Nat} {Q : Option Value → zz_H → Prop} {x1 : Int32} {x2 : Int32} {s s' : mS} {v : Option Value} (hf : mf_290_134 N x1 x2 s = some (s', v)) (k : Q v (mH h s')) : zz_E zp_P zt_tf zt_fd X (d + 5) zm_290 134 [(0, .ref 61), (1, .int x1), (2, .int x2)] [] (mH h s) Q := by
  unfold mf_290_134 at hf
  obtain ⟨q0, hf⟩ := mo_if hf
  obtain ⟨q1, hf⟩ := mo_if hf
  obtain ⟨s1, y, e, hf⟩ := mo_bi_ok hf
  exact mb_290_134 (d := d + 4) hh q0 q1 (mr_271 (d := d + 4) hh e (mr_290_153 hh hf k))
def mf_290_123 (N : Nat) (x1 : Int32) (x2 : Int32) (s : mS) : mO := if ¬ (x1 < 0 ∨ 80 ≤ Int32.toNatClampNeg x1) then (if ¬ ((s.2.2.1 38) (Int32.toNatClampNeg x1)) = 7 then mf_290_157 N x1 x2 s else mf_290_134 N x1 x2 s) else none
theorem mr_290_123 {X : Nat → Option zz_C} {h : zz_H} (hh : 111 ≤ h.length) {d : Nat} {N : Nat} {Q : Option Value → zz_H → Prop} {x1 : Int32} {x2 : Int32} {s s' : mS} {v : Option Value} (hf : mf_290_123 N x1 x2 s = some (s', v)) (k : Q v (mH h s')) : zz_E zp_P zt_tf zt_fd X (d + 5) zm_290 123 [(0, .ref 61), (1, .int x1), (2, .int x2)] [] (mH h s) Q := by
  unfold mf_290_123 at hf
  obtain ⟨q0, hf⟩ := mo_if hf
  refine mb_290_123 hh q0 (fun c => ?_) (fun c => ?_)
  · rw [if_pos c] at hf
    exact mr_290_157 hh hf k
  · rw [if_neg c] at hf
    exact mr_290_134 hh hf k
def mf_290_121 (N : Nat)  (s : mS) : mO := some (s, (some (.int 1)))
theorem mr_290_121 {X : Nat → Option zz_C} {h : zz_H} (hh : 111 ≤ h.length) {d : Nat} {N : Nat} {Q : Option Value → zz_H → Prop}  {s s' : mS} {v : Option Value} (hf : mf_290_121 N  s = some (s', v)) (k : Q v (mH h s')) : zz_E zp_P zt_tf zt_fd X (d + 5) zm_290 121 [] [] (mH h s) Q := by
  unfold mf_290_121 at hf
  cases hf
  exact mb_290_121 hh  k
def mf_290_114 (N : Nat) (x1 : Int32) (x2 : Int32) (s : mS) : mO := if (s.1 9) ≤ 0 then mf_290_123 N x1 x2 s else mf_290_121 N  s
theorem mr_290_114 {X : Nat → Option zz_C} {h : zz_H} (hh : 111 ≤ h.length) {d : Nat} {N : Nat} {Q : Option Value → zz_H → Prop} {x1 : Int32} {x2 : Int32} {s s' : mS} {v : Option Value} (hf : mf_290_114 N x1 x2 s = some (s', v)) (k : Q v (mH h s')) : zz_E zp_P zt_tf zt_fd X (d + 5) zm_290 114 [(0, .ref 61), (1, .int x1), (2, .int x2)] [] (mH h s) Q := by
  unfold mf_290_114 at hf
  refine mb_290_114 hh  (fun c => ?_) (fun c => ?_)
  · rw [if_pos c] at hf
    exact mr_290_123 hh hf k
  · rw [if_neg c] at hf
    exact mr_290_121 hh hf k
def mf_290_108 (N : Nat) (x1 : Int32) (x2 : Int32) (s : mS) : mO := mo_bv (mf_267 N 41 s) (fun s1 => mf_290_114 N x1 x2 s1)
theorem mr_290_108 {X : Nat → Option zz_C} {h : zz_H} (hh : 111 ≤ h.length) {d : Nat} {N : Nat} {Q : Option Value → zz_H → Prop} {x1 : Int32} {x2 : Int32} {s s' : mS} {v : Option Value} (hf : mf_290_108 N x1 x2 s = some (s', v)) (k : Q v (mH h s')) : zz_E zp_P zt_tf zt_fd X (d + 5) zm_290 108 [(0, .ref 61), (1, .int x1), (2, .int x2)] [] (mH h s) Q := by
  unfold mf_290_108 at hf
  obtain ⟨s1, e, hf⟩ := mo_bv_ok hf
  exact mb_290_108 (d := d + 4) hh  (mr_267 (d := d + 0) hh e (mr_290_114 hh hf k))
def mf_290_99 (N : Nat) (x1 : Int32) (x2 : Int32) (s : mS) : mO := mo_bv (mf_261 N 5 (s.1 6) s) (fun s1 => mf_290_108 N x1 x2 s1)
theorem mr_290_99 {X : Nat → Option zz_C} {h : zz_H} (hh : 111 ≤ h.length) {d : Nat} {N : Nat} {Q : Option Value → zz_H → Prop} {x1 : Int32} {x2 : Int32} {s s' : mS} {v : Option Value} (hf : mf_290_99 N x1 x2 s = some (s', v)) (k : Q v (mH h s')) : zz_E zp_P zt_tf zt_fd X (d + 5) zm_290 99 [(0, .ref 61), (1, .int x1), (2, .int x2)] [] (mH h s) Q := by
  unfold mf_290_99 at hf
  obtain ⟨s1, e, hf⟩ := mo_bv_ok hf
  exact mb_290_99 (d := d + 4) hh  (mr_261 (d := d + 4) hh e (mr_290_108 hh hf k))
def mf_290_96 (N : Nat) (x1 : Int32) (x2 : Int32) (y0 : Int32) (y1 : Int32) (s : mS) : mO := if y0 = y1 then mf_290_108 N x1 x2 s else mf_290_99 N x1 x2 s
theorem mr_290_96 {X : Nat → Option zz_C} {h : zz_H} (hh : 111 ≤ h.length) {d : Nat} {N : Nat} {Q : Option Value → zz_H → Prop} {x1 : Int32} {x2 : Int32} {y0 : Int32} {y1 : Int32} {s s' : mS} {v : Option Value} (hf : mf_290_96 N x1 x2 y0 y1 s = some (s', v)) (k : Q v (mH h s')) : zz_E zp_P zt_tf zt_fd X (d + 5) zm_290 96 [(0, .ref 61), (1, .int x1), (2, .int x2)] [.int y1, .int y0] (mH h s) Q := by
  unfold mf_290_96 at hf
  refine mb_290_96 hh  (fun c => ?_) (fun c => ?_)
  · rw [if_pos c] at hf
    exact mr_290_108 hh hf k
  · rw [if_neg c] at hf
    exact mr_290_99 hh hf k
def mf_290_85 (N : Nat) (x1 : Int32) (x2 : Int32) (s : mS) : mO := if ¬ (x1 < 0 ∨ 80 ≤ Int32.toNatClampNeg x1) then (mo_bi (mf_289 N ((s.2.2.1 39) (Int32.toNatClampNeg x1)) s) (fun s1 y => mf_290_96 N x1 x2 x2 y s1)) else none
theorem mr_290_85 {X : Nat → Option zz_C} {h : zz_H} (hh : 111 ≤ h.length) {d : Nat} {N : Nat} {Q : Option Value → zz_H → Prop} {x1 : Int32} {x2 : Int32} {s s' : mS} {v : Option Value} (hf : mf_290_85 N x1 x2 s = some (s', v)) (k : Q v (mH h s')) : zz_E zp_P zt_tf zt_fd X (d + 5) zm_290 85 [(0, .ref 61), (1, .int x1), (2, .int x2)] [] (mH h s) Q := by
  unfold mf_290_85 at hf
  obtain ⟨q0, hf⟩ := mo_if hf
  obtain ⟨s1, y, e, hf⟩ := mo_bi_ok hf
  exact mb_290_85 (d := d + 4) hh q0 (mr_289 (d := d + 4) hh e (mr_290_96 hh hf k))
def mf_290_75 (N : Nat) (x1 : Int32) (x2 : Int32) (s : mS) : mO := if ¬ (x1 < 0 ∨ 80 ≤ Int32.toNatClampNeg x1) then (if ((s.2.2.1 39) (Int32.toNatClampNeg x1)) = 5 then mf_290_108 N x1 x2 s else mf_290_85 N x1 x2 s) else none
theorem mr_290_75 {X : Nat → Option zz_C} {h : zz_H} (hh : 111 ≤ h.length) {d : Nat} {N : Nat} {Q : Option Value → zz_H → Prop} {x1 : Int32} {x2 : Int32} {s s' : mS} {v : Option Value} (hf : mf_290_75 N x1 x2 s = some (s', v)) (k : Q v (mH h s')) : zz_E zp_P zt_tf zt_fd X (d + 5) zm_290 75 [(0, .ref 61), (1, .int x1), (2, .int x2)] [] (mH h s) Q := by
  unfold mf_290_75 at hf
  obtain ⟨q0, hf⟩ := mo_if hf
  refine mb_290_75 hh q0 (fun c => ?_) (fun c => ?_)
  · rw [if_pos c] at hf
    exact mr_290_108 hh hf k
  · rw [if_neg c] at hf
    exact mr_290_85 hh hf k
def mf_290_72 (N : Nat) (x1 : Int32) (x2 : Int32) (y0 : Int32) (s : mS) : mO := if y0 = 0 then mf_290_108 N x1 x2 s else mf_290_75 N x1 x2 s
theorem mr_290_72 {X : Nat → Option zz_C} {h : zz_H} (hh : 111 ≤ h.length) {d : Nat} {N : Nat} {Q : Option Value → zz_H → Prop} {x1 : Int32} {x2 : Int32} {y0 : Int32} {s s' : mS} {v : Option Value} (hf : mf_290_72 N x1 x2 y0 s = some (s', v)) (k : Q v (mH h s')) : zz_E zp_P zt_tf zt_fd X (d + 5) zm_290 72 [(0, .ref 61), (1, .int x1), (2, .int x2)] [.int y0] (mH h s) Q := by
  unfold mf_290_72 at hf
  refine mb_290_72 hh  (fun c => ?_) (fun c => ?_)
  · rw [if_pos c] at hf
    exact mr_290_108 hh hf k
  · rw [if_neg c] at hf
    exact mr_290_75 hh hf k
def mf_290_66 (N : Nat) (x1 : Int32) (x2 : Int32) (s : mS) : mO := mo_bi (mf_263 N 41 s) (fun s1 y => mf_290_72 N x1 x2 y s1)
theorem mr_290_66 {X : Nat → Option zz_C} {h : zz_H} (hh : 111 ≤ h.length) {d : Nat} {N : Nat} {Q : Option Value → zz_H → Prop} {x1 : Int32} {x2 : Int32} {s s' : mS} {v : Option Value} (hf : mf_290_66 N x1 x2 s = some (s', v)) (k : Q v (mH h s')) : zz_E zp_P zt_tf zt_fd X (d + 5) zm_290 66 [(0, .ref 61), (1, .int x1), (2, .int x2)] [] (mH h s) Q := by
  unfold mf_290_66 at hf
  obtain ⟨s1, y, e, hf⟩ := mo_bi_ok hf
  exact mb_290_66 (d := d + 4) hh  (mr_263 (d := d + 4) hh e (mr_290_72 hh hf k))
def mf_290_55 (N : Nat) (x1 : Int32) (x2 : Int32) (s : mS) : mO := if ¬ (x1 < 0 ∨ 80 ≤ Int32.toNatClampNeg x1) then (if ¬ ((s.2.2.1 38) (Int32.toNatClampNeg x1)) = 7 then mf_290_108 N x1 x2 s else mf_290_66 N x1 x2 s) else none
theorem mr_290_55 {X : Nat → Option zz_C} {h : zz_H} (hh : 111 ≤ h.length) {d : Nat} {N : Nat} {Q : Option Value → zz_H → Prop} {x1 : Int32} {x2 : Int32} {s s' : mS} {v : Option Value} (hf : mf_290_55 N x1 x2 s = some (s', v)) (k : Q v (mH h s')) : zz_E zp_P zt_tf zt_fd X (d + 5) zm_290 55 [(0, .ref 61), (1, .int x1), (2, .int x2)] [] (mH h s) Q := by
  unfold mf_290_55 at hf
  obtain ⟨q0, hf⟩ := mo_if hf
  refine mb_290_55 hh q0 (fun c => ?_) (fun c => ?_)
  · rw [if_pos c] at hf
    exact mr_290_108 hh hf k
  · rw [if_neg c] at hf
    exact mr_290_66 hh hf k
def mf_290_52 (N : Nat) (y0 : Int32) (s : mS) : mO := some (s, (some (.int 1)))
theorem mr_290_52 {X : Nat → Option zz_C} {h : zz_H} (hh : 111 ≤ h.length) {d : Nat} {N : Nat} {Q : Option Value → zz_H → Prop} {y0 : Int32} {s s' : mS} {v : Option Value} (hf : mf_290_52 N y0 s = some (s', v)) (k : Q v (mH h s')) : zz_E zp_P zt_tf zt_fd X (d + 5) zm_290 52 [] [.int y0] (mH h s) Q := by
  unfold mf_290_52 at hf
  cases hf
  exact mb_290_52 hh  k
def mf_290_38 (N : Nat) (x1 : Int32) (x2 : Int32) (s : mS) : mO := if ¬ (x1 < 0 ∨ 80 ≤ Int32.toNatClampNeg x1) then (mo_bi (mf_271 N 6 x2 0 ((s.2.2.1 41) (Int32.toNatClampNeg x1)) s) (fun s1 y => mf_290_52 N y s1)) else none
theorem mr_290_38 {X : Nat → Option zz_C} {h : zz_H} (hh : 111 ≤ h.length) {d : Nat} {N : Nat} {Q : Option Value → zz_H → Prop} {x1 : Int32} {x2 : Int32} {s s' : mS} {v : Option Value} (hf : mf_290_38 N x1 x2 s = some (s', v)) (k : Q v (mH h s')) : zz_E zp_P zt_tf zt_fd X (d + 5) zm_290 38 [(0, .ref 61), (1, .int x1), (2, .int x2)] [] (mH h s) Q := by
  unfold mf_290_38 at hf
  obtain ⟨q0, hf⟩ := mo_if hf
  obtain ⟨s1, y, e, hf⟩ := mo_bi_ok hf
  exact mb_290_38 (d := d + 4) hh q0 (mr_271 (d := d + 4) hh e (mr_290_52 hh hf k))
def mf_290_32 (N : Nat) (x1 : Int32) (x2 : Int32) (s : mS) : mO := mo_bv (mf_267 N 93 s) (fun s1 => mf_290_38 N x1 x2 s1)
theorem mr_290_32 {X : Nat → Option zz_C} {h : zz_H} (hh : 111 ≤ h.length) {d : Nat} {N : Nat} {Q : Option Value → zz_H → Prop} {x1 : Int32} {x2 : Int32} {s s' : mS} {v : Option Value} (hf : mf_290_32 N x1 x2 s = some (s', v)) (k : Q v (mH h s')) : zz_E zp_P zt_tf zt_fd X (d + 5) zm_290 32 [(0, .ref 61), (1, .int x1), (2, .int x2)] [] (mH h s) Q := by
  unfold mf_290_32 at hf
  obtain ⟨s1, e, hf⟩ := mo_bv_ok hf
  exact mb_290_32 (d := d + 4) hh  (mr_267 (d := d + 0) hh e (mr_290_38 hh hf k))
def mf_290_0 (N : Nat)  (s : mS) : mO := if ¬ (((s.1 44) - 1) < 0 ∨ 80 ≤ Int32.toNatClampNeg ((s.1 44) - 1)) then (if ¬ (((s.1 44) - 1) < 0 ∨ 80 ≤ Int32.toNatClampNeg ((s.1 44) - 1)) then (if ¬ ((s.2.2.1 38) (Int32.toNatClampNeg ((s.1 44) - 1))) = 5 then mf_290_55 N ((s.1 44) - 1) ((s.2.2.1 40) (Int32.toNatClampNeg ((s.1 44) - 1))) (mI s 44 ((s.1 44) - 1)) else mf_290_32 N ((s.1 44) - 1) ((s.2.2.1 40) (Int32.toNatClampNeg ((s.1 44) - 1))) (mI s 44 ((s.1 44) - 1))) else none) else none
theorem mr_290_0 {X : Nat → Option zz_C} {h : zz_H} (hh : 111 ≤ h.length) {d : Nat} {N : Nat} {Q : Option Value → zz_H → Prop}  {s s' : mS} {v : Option Value} (hf : mf_290_0 N  s = some (s', v)) (k : Q v (mH h s')) : zz_E zp_P zt_tf zt_fd X (d + 5) zm_290 0 [(0, .ref 61)] [] (mH h s) Q := by
  unfold mf_290_0 at hf
  obtain ⟨q0, hf⟩ := mo_if hf
  obtain ⟨q1, hf⟩ := mo_if hf
  refine mb_290_0 hh q0 q1 (fun c => ?_) (fun c => ?_)
  · rw [if_pos c] at hf
    exact mr_290_55 hh hf k
  · rw [if_neg c] at hf
    exact mr_290_32 hh hf k
/-- ends2 -/
def mf_290 (N : Nat)  (s : mS) : mO := mf_290_0 N  s
theorem mr_290 {X : Nat → Option zz_C} {h : zz_H} (hh : 111 ≤ h.length) {d : Nat} {N : Nat} {Q : Option Value → zz_H → Prop}  {s s' : mS} {v : Option Value} (hf : mf_290 N  s = some (s', v)) (k : Q v (mH h s')) : zz_E zp_P zt_tf zt_fd X (d + 5) zm_290 0 [(0, .ref 61)] [] (mH h s) Q := by
  unfold mf_290 at hf
  exact zz_E.weak (mr_290_0 hh hf k) rfl ⟨rfl, trivial⟩
/-! begins1 (II)Z -/
theorem mb_287_0 {X : Nat → Option zz_C} {h : zz_H} (hh : 111 ≤ h.length) {s : mS} {d : Nat} {Q : Option Value → zz_H → Prop} {x1 : Int32} {x2 : Int32} (k : zz_E zp_P zt_tf zt_fd X d zm_260 0 [(0, .ref 61)] [] (mH h s) (fun v h' => zz_E zp_P zt_tf zt_fd X (d + 1) zm_287 15 [(0, .ref 61), (1, .int x1), (2, .int x2), (3, .long (s.2.1 7)), (5, .int (x1 - 11))] (v.toList ++ []) h' Q)) : zz_E zp_P zt_tf zt_fd X (d + 1) zm_287 0 [(0, .ref 61), (1, .int x1), (2, .int x2)] [] (mH h s) Q := by
  refine zz_E.n 1 rfl rfl rfl ?_
  refine mE_g hh 4 (v := .long (s.2.1 7)) rfl rfl rfl ?_
  refine zz_E.n 5 rfl rfl rfl ?_
  refine zz_E.n 6 rfl rfl rfl ?_
  refine zz_E.c 8 (.int 11) rfl rfl rfl rfl ?_
  refine zz_E.n 9 rfl rfl rfl ?_
  refine zz_E.n 11 rfl rfl rfl ?_
  refine zz_E.n 12 rfl rfl rfl ?_
  refine mE_cv hh 15 (as := []) rfl rfl (Nat.le_of_ble_eq_true rfl) (Nat.le_of_ble_eq_true rfl) rfl (Nat.le_of_ble_eq_true rfl) rfl ?_
  refine zz_E.mono k ?_
  intro v h' hE
  exact zz_E.weak hE rfl ⟨rfl, rfl, rfl, rfl, rfl, trivial⟩
theorem mb_287_15 {X : Nat → Option zz_C} {h : zz_H} (hh : 111 ≤ h.length) {s : mS} {d : Nat} {Q : Option Value → zz_H → Prop} {x1 : Int32} {x2 : Int32} {x3 : Int64} {x5 : Int32} (k : zz_E zp_P zt_tf zt_fd X d zm_268 0 [(0, .ref 61), (1, .int 40)] [] (mH h s) (fun v h' => zz_E zp_P zt_tf zt_fd X (d + 1) zm_287 21 [(0, .ref 61), (1, .int x1), (2, .int x2), (3, .long x3), (5, .int x5)] (v.toList ++ []) h' Q)) : zz_E zp_P zt_tf zt_fd X (d + 1) zm_287 15 [(0, .ref 61), (1, .int x1), (2, .int x2), (3, .long x3), (5, .int x5)] [] (mH h s) Q := by
  refine zz_E.n 16 rfl rfl rfl ?_
  refine zz_E.c 18 (.int 40) rfl rfl rfl rfl ?_
  refine mE_cv hh 21 (as := []) rfl rfl (Nat.le_of_ble_eq_true rfl) (Nat.le_of_ble_eq_true rfl) rfl (Nat.le_of_ble_eq_true rfl) rfl ?_
  refine zz_E.mono k ?_
  intro v h' hE
  exact zz_E.weak hE rfl ⟨rfl, rfl, rfl, rfl, rfl, trivial⟩
theorem mb_287_21 {X : Nat → Option zz_C} {h : zz_H} (hh : 111 ≤ h.length) {s : mS} {d : Nat} {Q : Option Value → zz_H → Prop} {x1 : Int32} {x2 : Int32} {x3 : Int64} {x5 : Int32} (k1 : (s.1 9) ≤ 0 → zz_E zp_P zt_tf zt_fd X d zm_287 30 [(0, .ref 61), (1, .int x1), (2, .int x2), (3, .long x3), (5, .int x5)] [] (mH h s) Q) (k2 : ¬ (s.1 9) ≤ 0 → zz_E zp_P zt_tf zt_fd X d zm_287 28 [] [] (mH h s) Q) : zz_E zp_P zt_tf zt_fd X d zm_287 21 [(0, .ref 61), (1, .int x1), (2, .int x2), (3, .long x3), (5, .int x5)] [] (mH h s) Q := by
  refine zz_E.n 22 rfl rfl rfl ?_
  refine mE_g hh 25 (v := .int (s.1 9)) rfl rfl rfl ?_
  refine zz_E.b1 30 28 (A := (s.1 9) ≤ 0) rfl rfl (by decide) rfl rfl (fun c => ?_) (fun c => ?_)
  · exact zz_E.weak (k1 c) rfl ⟨rfl, rfl, rfl, rfl, rfl, trivial⟩
  · exact zz_E.weak (k2 c) rfl trivial
theorem mb_287_28 {X : Nat → Option zz_C} {h : zz_H} (hh : 111 ≤ h.length) {s : mS} {d : Nat} {Q : Option Value → zz_H → Prop}  (k : Q (some (.int 0)) (mH h s)) : zz_E zp_P zt_tf zt_fd X d zm_287 28 [] [] (mH h s) Q := by
  refine zz_E.c 29 (.int 0) rfl rfl rfl rfl ?_
  refine zz_E.ret rfl rfl rfl ?_
  exact k
theorem mb_287_30 {X : Nat → Option zz_C} {h : zz_H} (hh : 111 ≤ h.length) {s : mS} {d : Nat} {Q : Option Value → zz_H → Prop} {x1 : Int32} {x2 : Int32} {x3 : Int64} {x5 : Int32} (k1 : 0 ≤ x1 → zz_E zp_P zt_tf zt_fd X d zm_287 40 [(0, .ref 61), (1, .int x1), (2, .int x2), (3, .long x3), (5, .int x5)] [.ref 61] (mH h s) Q) (k2 : ¬ 0 ≤ x1 → zz_E zp_P zt_tf zt_fd X d zm_287 35 [(0, .ref 61), (1, .int x1), (2, .int x2), (3, .long x3), (5, .int x5)] [.ref 61] (mH h s) Q) : zz_E zp_P zt_tf zt_fd X d zm_287 30 [(0, .ref 61), (1, .int x1), (2, .int x2), (3, .long x3), (5, .int x5)] [] (mH h s) Q := by
  refine zz_E.n 31 rfl rfl rfl ?_
  refine zz_E.n 32 rfl rfl rfl ?_
  refine zz_E.b1 40 35 (A := 0 ≤ x1) rfl rfl (by decide) rfl rfl (fun c => ?_) (fun c => ?_)
  · exact zz_E.weak (k1 c) rfl ⟨rfl, rfl, rfl, rfl, rfl, trivial⟩
  · exact zz_E.weak (k2 c) rfl ⟨rfl, rfl, rfl, rfl, rfl, trivial⟩
theorem mb_287_35 {X : Nat → Option zz_C} {h : zz_H} (hh : 111 ≤ h.length) {s : mS} {d : Nat} {Q : Option Value → zz_H → Prop} {x1 : Int32} {x2 : Int32} {x3 : Int64} {x5 : Int32} (k : zz_E zp_P zt_tf zt_fd X d zm_287 54 [(0, .ref 61), (1, .int x1), (2, .int x2), (3, .long x3), (5, .int x5)] [.int 6, .ref 61] (mH h s) Q) : zz_E zp_P zt_tf zt_fd X d zm_287 35 [(0, .ref 61), (1, .int x1), (2, .int x2), (3, .long x3), (5, .int x5)] [.ref 61] (mH h s) Q := by
  refine zz_E.c 37 (.int 6) rfl rfl rfl rfl ?_
  refine zz_E.n 54 rfl rfl rfl ?_
  exact zz_E.weak k rfl ⟨rfl, rfl, rfl, rfl, rfl, trivial⟩
theorem mb_287_40 {X : Nat → Option zz_C} {h : zz_H} (hh : 111 ≤ h.length) {s : mS} {d : Nat} {Q : Option Value → zz_H → Prop} {x1 : Int32} {x2 : Int32} {x3 : Int64} {x5 : Int32} (k1 : x5 < 28 → zz_E zp_P zt_tf zt_fd X d zm_287 52 [(0, .ref 61), (1, .int x1), (2, .int x2), (3, .long x3), (5, .int x5)] [.ref 61] (mH h s) Q) (k2 : ¬ x5 < 28 → zz_E zp_P zt_tf zt_fd X d zm_287 47 [(0, .ref 61), (1, .int x1), (2, .int x2), (3, .long x3), (5, .int x5)] [.ref 61] (mH h s) Q) : zz_E zp_P zt_tf zt_fd X d zm_287 40 [(0, .ref 61), (1, .int x1), (2, .int x2), (3, .long x3), (5, .int x5)] [.ref 61] (mH h s) Q := by
  refine zz_E.n 42 rfl rfl rfl ?_
  refine zz_E.c 44 (.int 28) rfl rfl rfl rfl ?_
  refine zz_E.b2 52 47 (A := x5 < 28) rfl rfl (by decide) rfl rfl (fun c => ?_) (fun c => ?_)
  · exact zz_E.weak (k1 c) rfl ⟨rfl, rfl, rfl, rfl, rfl, trivial⟩
  · exact zz_E.weak (k2 c) rfl ⟨rfl, rfl, rfl, rfl, rfl, trivial⟩
theorem mb_287_47 {X : Nat → Option zz_C} {h : zz_H} (hh : 111 ≤ h.length) {s : mS} {d : Nat} {Q : Option Value → zz_H → Prop} {x1 : Int32} {x2 : Int32} {x3 : Int64} {x5 : Int32} (k : zz_E zp_P zt_tf zt_fd X d zm_287 54 [(0, .ref 61), (1, .int x1), (2, .int x2), (3, .long x3), (5, .int x5)] [.int 8, .ref 61] (mH h s) Q) : zz_E zp_P zt_tf zt_fd X d zm_287 47 [(0, .ref 61), (1, .int x1), (2, .int x2), (3, .long x3), (5, .int x5)] [.ref 61] (mH h s) Q := by
  refine zz_E.c 49 (.int 8) rfl rfl rfl rfl ?_
  refine zz_E.n 54 rfl rfl rfl ?_
  exact zz_E.weak k rfl ⟨rfl, rfl, rfl, rfl, rfl, trivial⟩
theorem mb_287_52 {X : Nat → Option zz_C} {h : zz_H} (hh : 111 ≤ h.length) {s : mS} {d : Nat} {Q : Option Value → zz_H → Prop} {x1 : Int32} {x2 : Int32} {x3 : Int64} {x5 : Int32} (k : zz_E zp_P zt_tf zt_fd X d zm_287 54 [(0, .ref 61), (1, .int x1), (2, .int x2), (3, .long x3), (5, .int x5)] [.int 7, .ref 61] (mH h s) Q) : zz_E zp_P zt_tf zt_fd X d zm_287 52 [(0, .ref 61), (1, .int x1), (2, .int x2), (3, .long x3), (5, .int x5)] [.ref 61] (mH h s) Q := by
  refine zz_E.c 54 (.int 7) rfl rfl rfl rfl ?_
  exact zz_E.weak k rfl ⟨rfl, rfl, rfl, rfl, rfl, trivial⟩
theorem mb_287_54 {X : Nat → Option zz_C} {h : zz_H} (hh : 111 ≤ h.length) {s : mS} {d : Nat} {Q : Option Value → zz_H → Prop} {x1 : Int32} {x2 : Int32} {x3 : Int64} {x5 : Int32} {y1 : Int32} (k : zz_E zp_P zt_tf zt_fd X d zm_281 0 [(0, .ref 61), (1, .int y1), (2, .int x5), (3, .int x2)] [] (mH h s) (fun v h' => zz_E zp_P zt_tf zt_fd X (d + 1) zm_287 60 [(0, .ref 61), (1, .int x1), (2, .int x2), (3, .long x3), (5, .int x5)] (v.toList ++ []) h' Q)) : zz_E zp_P zt_tf zt_fd X (d + 1) zm_287 54 [(0, .ref 61), (1, .int x1), (2, .int x2), (3, .long x3), (5, .int x5)] [.int y1, .ref 61] (mH h s) Q := by
  refine zz_E.n 56 rfl rfl rfl ?_
  refine zz_E.n 57 rfl rfl rfl ?_
  refine mE_cv hh 60 (as := []) rfl rfl (Nat.le_of_ble_eq_true rfl) (Nat.le_of_ble_eq_true rfl) rfl (Nat.le_of_ble_eq_true rfl) rfl ?_
  refine zz_E.mono k ?_
  intro v h' hE
  exact zz_E.weak hE rfl ⟨rfl, rfl, rfl, rfl, rfl, trivial⟩
theorem mb_287_60 {X : Nat → Option zz_C} {h : zz_H} (hh : 111 ≤ h.length) {s : mS} {d : Nat} {Q : Option Value → zz_H → Prop} {x1 : Int32} {x2 : Int32} {x3 : Int64} {x5 : Int32} (i71 : ¬ (((s.1 44) - 1) < 0 ∨ 80 ≤ Int32.toNatClampNeg ((s.1 44) - 1))) (i83 : ¬ (((s.1 44) - 1) < 0 ∨ 80 ≤ Int32.toNatClampNeg ((s.1 44) - 1))) (k1 : x1 < 0 → zz_E zp_P zt_tf zt_fd X d zm_287 151 [(0, .ref 61)] [] (mH h (mA (mB s 42 (vp_updL (s.2.2.2 42) (Int32.toNatClampNeg ((s.1 44) - 1)) x3)) 43 (upd (s.2.2.1 43) (Int32.toNatClampNeg ((s.1 44) - 1)) x2))) Q) (k2 : ¬ x1 < 0 → zz_E zp_P zt_tf zt_fd X d zm_287 88 [(0, .ref 61), (5, .int x5)] [] (mH h (mA (mB s 42 (vp_updL (s.2.2.2 42) (Int32.toNatClampNeg ((s.1 44) - 1)) x3)) 43 (upd (s.2.2.1 43) (Int32.toNatClampNeg ((s.1 44) - 1)) x2))) Q) : zz_E zp_P zt_tf zt_fd X d zm_287 60 [(0, .ref 61), (1, .int x1), (2, .int x2), (3, .long x3), (5, .int x5)] [] (mH h s) Q := by
  refine zz_E.n 61 rfl rfl rfl ?_
  refine mE_g hh 64 (v := .ref 87) rfl rfl rfl ?_
  refine zz_E.n 65 rfl rfl rfl ?_
  refine mE_g hh 68 (v := .int (s.1 44)) rfl rfl rfl ?_
  refine zz_E.c 69 (.int 1) rfl rfl rfl rfl ?_
  refine zz_E.n 70 rfl rfl rfl ?_
  refine zz_E.n 71 rfl rfl rfl ?_
  refine mE_ls hh 72 26 (f := (s.2.2.2 42)) rfl (by decide) rfl rfl i71 (mA_87 _ _) rfl ?_
  refine zz_E.n 73 rfl rfl rfl ?_
  refine mE_g hh 76 (v := .ref 88) rfl rfl rfl ?_
  refine zz_E.n 77 rfl rfl rfl ?_
  refine mE_g hh 80 (v := .int (s.1 44)) rfl rfl rfl ?_
  refine zz_E.c 81 (.int 1) rfl rfl rfl rfl ?_
  refine zz_E.n 82 rfl rfl rfl ?_
  refine zz_E.n 83 rfl rfl rfl ?_
  refine mE_is hh 84 27 (f := (s.2.2.1 43)) rfl (by decide) rfl rfl i83 (mA_88 _ _) rfl ?_
  refine zz_E.n 85 rfl rfl rfl ?_
  refine zz_E.b1 151 88 (A := x1 < 0) rfl rfl (by decide) rfl rfl (fun c => ?_) (fun c => ?_)
  · exact zz_E.weak (k1 c) rfl ⟨rfl, trivial⟩
  · exact zz_E.weak (k2 c) rfl ⟨rfl, rfl, trivial⟩
theorem mb_287_88 {X : Nat → Option zz_C} {h : zz_H} (hh : 111 ≤ h.length) {s : mS} {d : Nat} {Q : Option Value → zz_H → Prop} {x5 : Int32} (k1 : x5 < 28 → zz_E zp_P zt_tf zt_fd X d zm_287 151 [(0, .ref 61)] [] (mH h s) Q) (k2 : ¬ x5 < 28 → zz_E zp_P zt_tf zt_fd X d zm_287 95 [(0, .ref 61)] [] (mH h s) Q) : zz_E zp_P zt_tf zt_fd X d zm_287 88 [(0, .ref 61), (5, .int x5)] [] (mH h s) Q := by
  refine zz_E.n 90 rfl rfl rfl ?_
  refine zz_E.c 92 (.int 28) rfl rfl rfl rfl ?_
  refine zz_E.b2 151 95 (A := x5 < 28) rfl rfl (by decide) rfl rfl (fun c => ?_) (fun c => ?_)
  · exact zz_E.weak (k1 c) rfl ⟨rfl, trivial⟩
  · exact zz_E.weak (k2 c) rfl ⟨rfl, trivial⟩
theorem mb_287_95 {X : Nat → Option zz_C} {h : zz_H} (hh : 111 ≤ h.length) {s : mS} {d : Nat} {Q : Option Value → zz_H → Prop}  (i109 : ¬ (((s.1 44) - 1) < 0 ∨ 80 ≤ Int32.toNatClampNeg ((s.1 44) - 1))) (i124 : ¬ (((s.1 44) - 1) < 0 ∨ 80 ≤ Int32.toNatClampNeg ((s.1 44) - 1))) (k : zz_E zp_P zt_tf zt_fd X d zm_266 0 [(0, .ref 61)] [] (mH h (mA (mB s 42 (vp_updL (s.2.2.2 42) (Int32.toNatClampNeg ((s.1 44) - 1)) (s.2.1 7))) 43 (upd (s.2.2.1 43) (Int32.toNatClampNeg ((s.1 44) - 1)) (s.1 6)))) (fun v h' => zz_E zp_P zt_tf zt_fd X (d + 1) zm_287 129 [(0, .ref 61)] (v.toList ++ []) h' Q)) : zz_E zp_P zt_tf zt_fd X (d + 1) zm_287 95 [(0, .ref 61)] [] (mH h s) Q := by
  refine zz_E.n 96 rfl rfl rfl ?_
  refine mE_g hh 99 (v := .ref 87) rfl rfl rfl ?_
  refine zz_E.n 100 rfl rfl rfl ?_
  refine mE_g hh 103 (v := .int (s.1 44)) rfl rfl rfl ?_
  refine zz_E.c 104 (.int 1) rfl rfl rfl rfl ?_
  refine zz_E.n 105 rfl rfl rfl ?_
  refine zz_E.n 106 rfl rfl rfl ?_
  refine mE_g hh 109 (v := .long (s.2.1 7)) rfl rfl rfl ?_
  refine mE_ls hh 110 26 (f := (s.2.2.2 42)) rfl (by decide) rfl rfl i109 (mA_87 _ _) rfl ?_
  refine zz_E.n 111 rfl rfl rfl ?_
  refine mE_g hh 114 (v := .ref 88) rfl rfl rfl ?_
  refine zz_E.n 115 rfl rfl rfl ?_
  refine mE_g hh 118 (v := .int (s.1 44)) rfl rfl rfl ?_
  refine zz_E.c 119 (.int 1) rfl rfl rfl rfl ?_
  refine zz_E.n 120 rfl rfl rfl ?_
  refine zz_E.n 121 rfl rfl rfl ?_
  refine mE_g hh 124 (v := .int (s.1 6)) rfl rfl rfl ?_
  refine mE_is hh 125 27 (f := (s.2.2.1 43)) rfl (by decide) rfl rfl i124 (mA_88 _ _) rfl ?_
  refine zz_E.n 126 rfl rfl rfl ?_
  refine mE_cv hh 129 (as := []) rfl rfl (Nat.le_of_ble_eq_true rfl) (Nat.le_of_ble_eq_true rfl) rfl (Nat.le_of_ble_eq_true rfl) rfl ?_
  refine zz_E.mono k ?_
  intro v h' hE
  exact zz_E.weak hE rfl ⟨rfl, trivial⟩
theorem mb_287_129 {X : Nat → Option zz_C} {h : zz_H} (hh : 111 ≤ h.length) {s : mS} {d : Nat} {Q : Option Value → zz_H → Prop} {y0 : Int32} (k1 : y0 = 0 → zz_E zp_P zt_tf zt_fd X d zm_287 139 [(0, .ref 61)] [] (mH h s) Q) (k2 : ¬ y0 = 0 → zz_E zp_P zt_tf zt_fd X d zm_287 132 [(0, .ref 61)] [] (mH h s) Q) : zz_E zp_P zt_tf zt_fd X d zm_287 129 [(0, .ref 61)] [.int y0] (mH h s) Q := by
  refine zz_E.b1 139 132 (A := y0 = 0) rfl rfl (by decide) rfl rfl (fun c => ?_) (fun c => ?_)
  · exact zz_E.weak (k1 c) rfl ⟨rfl, trivial⟩
  · exact zz_E.weak (k2 c) rfl ⟨rfl, trivial⟩
theorem mb_287_132 {X : Nat → Option zz_C} {h : zz_H} (hh : 111 ≤ h.length) {s : mS} {d : Nat} {Q : Option Value → zz_H → Prop}  (k : zz_E zp_P zt_tf zt_fd X d zm_260 0 [(0, .ref 61)] [] (mH h s) (fun v h' => zz_E zp_P zt_tf zt_fd X (d + 1) zm_287 136 [(0, .ref 61)] (v.toList ++ []) h' Q)) : zz_E zp_P zt_tf zt_fd X (d + 1) zm_287 132 [(0, .ref 61)] [] (mH h s) Q := by
  refine zz_E.n 133 rfl rfl rfl ?_
  refine mE_cv hh 136 (as := []) rfl rfl (Nat.le_of_ble_eq_true rfl) (Nat.le_of_ble_eq_true rfl) rfl (Nat.le_of_ble_eq_true rfl) rfl ?_
  refine zz_E.mono k ?_
  intro v h' hE
  exact zz_E.weak hE rfl ⟨rfl, trivial⟩
theorem mb_287_136 {X : Nat → Option zz_C} {h : zz_H} (hh : 111 ≤ h.length) {s : mS} {d : Nat} {Q : Option Value → zz_H → Prop}  (k : zz_E zp_P zt_tf zt_fd X d zm_287 143 [(0, .ref 61)] [] (mH h s) Q) : zz_E zp_P zt_tf zt_fd X d zm_287 136 [(0, .ref 61)] [] (mH h s) Q := by
  refine zz_E.n 143 rfl rfl rfl ?_
  exact zz_E.weak k rfl ⟨rfl, trivial⟩
theorem mb_287_139 {X : Nat → Option zz_C} {h : zz_H} (hh : 111 ≤ h.length) {s : mS} {d : Nat} {Q : Option Value → zz_H → Prop}  (k : zz_E zp_P zt_tf zt_fd X d zm_262 0 [(0, .ref 61)] [] (mH h s) (fun v h' => zz_E zp_P zt_tf zt_fd X (d + 1) zm_287 143 [(0, .ref 61)] (v.toList ++ []) h' Q)) : zz_E zp_P zt_tf zt_fd X (d + 1) zm_287 139 [(0, .ref 61)] [] (mH h s) Q := by
  refine zz_E.n 140 rfl rfl rfl ?_
  refine mE_cv hh 143 (as := []) rfl rfl (Nat.le_of_ble_eq_true rfl) (Nat.le_of_ble_eq_true rfl) rfl (Nat.le_of_ble_eq_true rfl) rfl ?_
  refine zz_E.mono k ?_
  intro v h' hE
  exact zz_E.weak hE rfl ⟨rfl, trivial⟩
theorem mb_287_143 {X : Nat → Option zz_C} {h : zz_H} (hh : 111 ≤ h.length) {s : mS} {d : Nat} {Q : Option Value → zz_H → Prop}  (k : zz_E zp_P zt_tf zt_fd X d zm_267 0 [(0, .ref 61), (1, .int 44)] [] (mH h s) (fun v h' => zz_E zp_P zt_tf zt_fd X (d + 1) zm_287 149 [] (v.toList ++ []) h' Q)) : zz_E zp_P zt_tf zt_fd X (d + 1) zm_287 143 [(0, .ref 61)] [] (mH h s) Q := by
  refine zz_E.n 144 rfl rfl rfl ?_
  refine zz_E.c 146 (.int 44) rfl rfl rfl rfl ?_
  refine mE_cv hh 149 (as := []) rfl rfl (Nat.le_of_ble_eq_true rfl) (Nat.le_of_ble_eq_true rfl) rfl (Nat.le_of_ble_eq_true rfl) rfl ?_
  refine zz_E.mono k ?_
  intro v h' hE
  exact zz_E.weak hE rfl trivial
theorem mb_287_149 {X : Nat → Option zz_C} {h : zz_H} (hh : 111 ≤ h.length) {s : mS} {d : Nat} {Q : Option Value → zz_H → Prop}  (k : Q (some (.int 0)) (mH h s)) : zz_E zp_P zt_tf zt_fd X d zm_287 149 [] [] (mH h s) Q := by
  refine zz_E.c 150 (.int 0) rfl rfl rfl rfl ?_
  refine zz_E.ret rfl rfl rfl ?_
  exact k
theorem mb_287_151 {X : Nat → Option zz_C} {h : zz_H} (hh : 111 ≤ h.length) {s : mS} {d : Nat} {Q : Option Value → zz_H → Prop}  (k : zz_E zp_P zt_tf zt_fd X d zm_263 0 [(0, .ref 61), (1, .int 41)] [] (mH h s) (fun v h' => zz_E zp_P zt_tf zt_fd X (d + 1) zm_287 157 [(0, .ref 61)] (v.toList ++ []) h' Q)) : zz_E zp_P zt_tf zt_fd X (d + 1) zm_287 151 [(0, .ref 61)] [] (mH h s) Q := by
  refine zz_E.n 152 rfl rfl rfl ?_
  refine zz_E.c 154 (.int 41) rfl rfl rfl rfl ?_
  refine mE_cv hh 157 (as := []) rfl rfl (Nat.le_of_ble_eq_true rfl) (Nat.le_of_ble_eq_true rfl) rfl (Nat.le_of_ble_eq_true rfl) rfl ?_
  refine zz_E.mono k ?_
  intro v h' hE
  exact zz_E.weak hE rfl ⟨rfl, trivial⟩
theorem mb_287_157 {X : Nat → Option zz_C} {h : zz_H} (hh : 111 ≤ h.length) {s : mS} {d : Nat} {Q : Option Value → zz_H → Prop} {y0 : Int32} (k1 : y0 = 0 → zz_E zp_P zt_tf zt_fd X d zm_287 171 [] [] (mH h s) Q) (k2 : ¬ y0 = 0 → zz_E zp_P zt_tf zt_fd X d zm_287 160 [(0, .ref 61)] [] (mH h s) Q) : zz_E zp_P zt_tf zt_fd X d zm_287 157 [(0, .ref 61)] [.int y0] (mH h s) Q := by
  refine zz_E.b1 171 160 (A := y0 = 0) rfl rfl (by decide) rfl rfl (fun c => ?_) (fun c => ?_)
  · exact zz_E.weak (k1 c) rfl trivial
  · exact zz_E.weak (k2 c) rfl ⟨rfl, trivial⟩
theorem mb_287_160 {X : Nat → Option zz_C} {h : zz_H} (hh : 111 ≤ h.length) {s : mS} {d : Nat} {Q : Option Value → zz_H → Prop}  (k : zz_E zp_P zt_tf zt_fd X d zm_290 0 [(0, .ref 61)] [] (mH h s) (fun v h' => zz_E zp_P zt_tf zt_fd X (d + 1) zm_287 164 [] (v.toList ++ []) h' Q)) : zz_E zp_P zt_tf zt_fd X (d + 1) zm_287 160 [(0, .ref 61)] [] (mH h s) Q := by
  refine zz_E.n 161 rfl rfl rfl ?_
  refine mE_cv hh 164 (as := []) rfl rfl (Nat.le_of_ble_eq_true rfl) (Nat.le_of_ble_eq_true rfl) rfl (Nat.le_of_ble_eq_true rfl) rfl ?_
  refine zz_E.mono k ?_
  intro v h' hE
  exact zz_E.weak hE rfl trivial
theorem mb_287_164 {X : Nat → Option zz_C} {h : zz_H} (hh : 111 ≤ h.length) {s : mS} {d : Nat} {Q : Option Value → zz_H → Prop} {y0 : Int32} (k1 : y0 = 0 → zz_E zp_P zt_tf zt_fd X d zm_287 171 [] [] (mH h s) Q) (k2 : ¬ y0 = 0 → zz_E zp_P zt_tf zt_fd X d zm_287 167 [] [] (mH h s) Q) : zz_E zp_P zt_tf zt_fd X d zm_287 164 [] [.int y0] (mH h s) Q := by
  refine zz_E.b1 171 167 (A := y0 = 0) rfl rfl (by decide) rfl rfl (fun c => ?_) (fun c => ?_)
  · exact zz_E.weak (k1 c) rfl trivial
  · exact zz_E.weak (k2 c) rfl trivial
theorem mb_287_167 {X : Nat → Option zz_C} {h : zz_H} (hh : 111 ≤ h.length) {s : mS} {d : Nat} {Q : Option Value → zz_H → Prop}  (k : zz_E zp_P zt_tf zt_fd X d zm_287 172 [] [.int 1] (mH h s) Q) : zz_E zp_P zt_tf zt_fd X d zm_287 167 [] [] (mH h s) Q := by
  refine zz_E.c 168 (.int 1) rfl rfl rfl rfl ?_
  refine zz_E.n 172 rfl rfl rfl ?_
  exact zz_E.weak k rfl trivial
theorem mb_287_171 {X : Nat → Option zz_C} {h : zz_H} (hh : 111 ≤ h.length) {s : mS} {d : Nat} {Q : Option Value → zz_H → Prop}  (k : zz_E zp_P zt_tf zt_fd X d zm_287 172 [] [.int 0] (mH h s) Q) : zz_E zp_P zt_tf zt_fd X d zm_287 171 [] [] (mH h s) Q := by
  refine zz_E.c 172 (.int 0) rfl rfl rfl rfl ?_
  exact zz_E.weak k rfl trivial
theorem mb_287_172 {X : Nat → Option zz_C} {h : zz_H} (hh : 111 ≤ h.length) {s : mS} {d : Nat} {Q : Option Value → zz_H → Prop} {y0 : Int32} (k : Q (some (.int y0)) (mH h s)) (rb : zz_reti (some .boolean) y0 = true) : zz_E zp_P zt_tf zt_fd X d zm_287 172 [] [.int y0] (mH h s) Q := by
  refine zz_E.ret rfl rfl (if_pos ⟨rfl, rb⟩) ?_
  exact k
def mf_287_172 (N : Nat) (y0 : Int32) (s : mS) : mO := if zz_reti (some .boolean) y0 = true then some (s, (some (.int y0))) else none
theorem mr_287_172 {X : Nat → Option zz_C} {h : zz_H} (hh : 111 ≤ h.length) {d : Nat} {N : Nat} {Q : Option Value → zz_H → Prop} {y0 : Int32} {s s' : mS} {v : Option Value} (hf : mf_287_172 N y0 s = some (s', v)) (k : Q v (mH h s')) : zz_E zp_P zt_tf zt_fd X (d + 6) zm_287 172 [] [.int y0] (mH h s) Q := by
  unfold mf_287_172 at hf
  obtain ⟨rb, hf⟩ := mo_if hf
  cases hf
  exact mb_287_172 hh  k rb
def mf_287_171 (N : Nat)  (s : mS) : mO := mf_287_172 N 0 s
theorem mr_287_171 {X : Nat → Option zz_C} {h : zz_H} (hh : 111 ≤ h.length) {d : Nat} {N : Nat} {Q : Option Value → zz_H → Prop}  {s s' : mS} {v : Option Value} (hf : mf_287_171 N  s = some (s', v)) (k : Q v (mH h s')) : zz_E zp_P zt_tf zt_fd X (d + 6) zm_287 171 [] [] (mH h s) Q := by
  unfold mf_287_171 at hf
  exact mb_287_171 hh  (mr_287_172 hh hf k)
def mf_287_167 (N : Nat)  (s : mS) : mO := mf_287_172 N 1 s
theorem mr_287_167 {X : Nat → Option zz_C} {h : zz_H} (hh : 111 ≤ h.length) {d : Nat} {N : Nat} {Q : Option Value → zz_H → Prop}  {s s' : mS} {v : Option Value} (hf : mf_287_167 N  s = some (s', v)) (k : Q v (mH h s')) : zz_E zp_P zt_tf zt_fd X (d + 6) zm_287 167 [] [] (mH h s) Q := by
  unfold mf_287_167 at hf
  exact mb_287_167 hh  (mr_287_172 hh hf k)
def mf_287_164 (N : Nat) (y0 : Int32) (s : mS) : mO := if y0 = 0 then mf_287_171 N  s else mf_287_167 N  s
theorem mr_287_164 {X : Nat → Option zz_C} {h : zz_H} (hh : 111 ≤ h.length) {d : Nat} {N : Nat} {Q : Option Value → zz_H → Prop} {y0 : Int32} {s s' : mS} {v : Option Value} (hf : mf_287_164 N y0 s = some (s', v)) (k : Q v (mH h s')) : zz_E zp_P zt_tf zt_fd X (d + 6) zm_287 164 [] [.int y0] (mH h s) Q := by
  unfold mf_287_164 at hf
  refine mb_287_164 hh  (fun c => ?_) (fun c => ?_)
  · rw [if_pos c] at hf
    exact mr_287_171 hh hf k
  · rw [if_neg c] at hf
    exact mr_287_167 hh hf k
def mf_287_160 (N : Nat)  (s : mS) : mO := mo_bi (mf_290 N  s) (fun s1 y => mf_287_164 N y s1)
theorem mr_287_160 {X : Nat → Option zz_C} {h : zz_H} (hh : 111 ≤ h.length) {d : Nat} {N : Nat} {Q : Option Value → zz_H → Prop}  {s s' : mS} {v : Option Value} (hf : mf_287_160 N  s = some (s', v)) (k : Q v (mH h s')) : zz_E zp_P zt_tf zt_fd X (d + 6) zm_287 160 [(0, .ref 61)] [] (mH h s) Q := by
  unfold mf_287_160 at hf
  obtain ⟨s1, y, e, hf⟩ := mo_bi_ok hf
  exact mb_287_160 (d := d + 5) hh  (mr_290 (d := d + 0) hh e (mr_287_164 hh hf k))
def mf_287_157 (N : Nat) (y0 : Int32) (s : mS) : mO := if y0 = 0 then mf_287_171 N  s else mf_287_160 N  s
theorem mr_287_157 {X : Nat → Option zz_C} {h : zz_H} (hh : 111 ≤ h.length) {d : Nat} {N : Nat} {Q : Option Value → zz_H → Prop} {y0 : Int32} {s s' : mS} {v : Option Value} (hf : mf_287_157 N y0 s = some (s', v)) (k : Q v (mH h s')) : zz_E zp_P zt_tf zt_fd X (d + 6) zm_287 157 [(0, .ref 61)] [.int y0] (mH h s) Q := by
  unfold mf_287_157 at hf
  refine mb_287_157 hh  (fun c => ?_) (fun c => ?_)
  · rw [if_pos c] at hf
    exact mr_287_171 hh hf k
  · rw [if_neg c] at hf
    exact mr_287_160 hh hf k
def mf_287_151 (N : Nat)  (s : mS) : mO := mo_bi (mf_263 N 41 s) (fun s1 y => mf_287_157 N y s1)
theorem mr_287_151 {X : Nat → Option zz_C} {h : zz_H} (hh : 111 ≤ h.length) {d : Nat} {N : Nat} {Q : Option Value → zz_H → Prop}  {s s' : mS} {v : Option Value} (hf : mf_287_151 N  s = some (s', v)) (k : Q v (mH h s')) : zz_E zp_P zt_tf zt_fd X (d + 6) zm_287 151 [(0, .ref 61)] [] (mH h s) Q := by
  unfold mf_287_151 at hf
  obtain ⟨s1, y, e, hf⟩ := mo_bi_ok hf
  exact mb_287_151 (d := d + 5) hh  (mr_263 (d := d + 5) hh e (mr_287_157 hh hf k))
def mf_287_149 (N : Nat)  (s : mS) : mO := some (s, (some (.int 0)))
theorem mr_287_149 {X : Nat → Option zz_C} {h : zz_H} (hh : 111 ≤ h.length) {d : Nat} {N : Nat} {Q : Option Value → zz_H → Prop}  {s s' : mS} {v : Option Value} (hf : mf_287_149 N  s = some (s', v)) (k : Q v (mH h s')) : zz_E zp_P zt_tf zt_fd X (d + 6) zm_287 149 [] [] (mH h s) Q := by
  unfold mf_287_149 at hf
  cases hf
  exact mb_287_149 hh  k
def mf_287_143 (N : Nat)  (s : mS) : mO := mo_bv (mf_267 N 44 s) (fun s1 => mf_287_149 N  s1)
theorem mr_287_143 {X : Nat → Option zz_C} {h : zz_H} (hh : 111 ≤ h.length) {d : Nat} {N : Nat} {Q : Option Value → zz_H → Prop}  {s s' : mS} {v : Option Value} (hf : mf_287_143 N  s = some (s', v)) (k : Q v (mH h s')) : zz_E zp_P zt_tf zt_fd X (d + 6) zm_287 143 [(0, .ref 61)] [] (mH h s) Q := by
  unfold mf_287_143 at hf
  obtain ⟨s1, e, hf⟩ := mo_bv_ok hf
  exact mb_287_143 (d := d + 5) hh  (mr_267 (d := d + 1) hh e (mr_287_149 hh hf k))
def mf_287_139 (N : Nat)  (s : mS) : mO := mo_bv (mf_262 N  s) (fun s1 => mf_287_143 N  s1)
theorem mr_287_139 {X : Nat → Option zz_C} {h : zz_H} (hh : 111 ≤ h.length) {d : Nat} {N : Nat} {Q : Option Value → zz_H → Prop}  {s s' : mS} {v : Option Value} (hf : mf_287_139 N  s = some (s', v)) (k : Q v (mH h s')) : zz_E zp_P zt_tf zt_fd X (d + 6) zm_287 139 [(0, .ref 61)] [] (mH h s) Q := by
  unfold mf_287_139 at hf
  obtain ⟨s1, e, hf⟩ := mo_bv_ok hf
  exact mb_287_139 (d := d + 5) hh  (mr_262 (d := d + 4) hh e (mr_287_143 hh hf k))
def mf_287_136 (N : Nat)  (s : mS) : mO := mf_287_143 N  s
theorem mr_287_136 {X : Nat → Option zz_C} {h : zz_H} (hh : 111 ≤ h.length) {d : Nat} {N : Nat} {Q : Option Value → zz_H → Prop}  {s s' : mS} {v : Option Value} (hf : mf_287_136 N  s = some (s', v)) (k : Q v (mH h s')) : zz_E zp_P zt_tf zt_fd X (d + 6) zm_287 136 [(0, .ref 61)] [] (mH h s) Q := by
  unfold mf_287_136 at hf
  exact mb_287_136 hh  (mr_287_143 hh hf k)
def mf_287_132 (N : Nat)  (s : mS) : mO := mo_bv (mf_260 N  s) (fun s1 => mf_287_136 N  s1)
theorem mr_287_132 {X : Nat → Option zz_C} {h : zz_H} (hh : 111 ≤ h.length) {d : Nat} {N : Nat} {Q : Option Value → zz_H → Prop}  {s s' : mS} {v : Option Value} (hf : mf_287_132 N  s = some (s', v)) (k : Q v (mH h s')) : zz_E zp_P zt_tf zt_fd X (d + 6) zm_287 132 [(0, .ref 61)] [] (mH h s) Q := by
  unfold mf_287_132 at hf
  obtain ⟨s1, e, hf⟩ := mo_bv_ok hf
  exact mb_287_132 (d := d + 5) hh  (mr_260 (d := d + 2) hh e (mr_287_136 hh hf k))
def mf_287_129 (N : Nat) (y0 : Int32) (s : mS) : mO := if y0 = 0 then mf_287_139 N  s else mf_287_132 N  s
theorem mr_287_129 {X : Nat → Option zz_C} {h : zz_H} (hh : 111 ≤ h.length) {d : Nat} {N : Nat} {Q : Option Value → zz_H → Prop} {y0 : Int32} {s s' : mS} {v : Option Value} (hf : mf_287_129 N y0 s = some (s', v)) (k : Q v (mH h s')) : zz_E zp_P zt_tf zt_fd X (d + 6) zm_287 129 [(0, .ref 61)] [.int y0] (mH h s) Q := by
  unfold mf_287_129 at hf
  refine mb_287_129 hh  (fun c => ?_) (fun c => ?_)
  · rw [if_pos c] at hf
    exact mr_287_139 hh hf k
  · rw [if_neg c] at hf
    exact mr_287_132 hh hf k
def mf_287_95 (N : Nat)  (s : mS) : mO := if ¬ (((s.1 44) - 1) < 0 ∨ 80 ≤ Int32.toNatClampNeg ((s.1 44) - 1)) then (if ¬ (((s.1 44) - 1) < 0 ∨ 80 ≤ Int32.toNatClampNeg ((s.1 44) - 1)) then (mo_bi (mf_266 N  (mA (mB s 42 (vp_updL (s.2.2.2 42) (Int32.toNatClampNeg ((s.1 44) - 1)) (s.2.1 7))) 43 (upd (s.2.2.1 43) (Int32.toNatClampNeg ((s.1 44) - 1)) (s.1 6)))) (fun s1 y => mf_287_129 N y s1)) else none) else none
theorem mr_287_95 {X : Nat → Option zz_C} {h : zz_H} (hh : 111 ≤ h.length) {d : Nat} {N : Nat} {Q : Option Value → zz_H → Prop}  {s s' : mS} {v : Option Value} (hf : mf_287_95 N  s = some (s', v)) (k : Q v (mH h s')) : zz_E zp_P zt_tf zt_fd X (d + 6) zm_287 95 [(0, .ref 61)] [] (mH h s) Q := by
  unfold mf_287_95 at hf
  obtain ⟨q0, hf⟩ := mo_if hf
  obtain ⟨q1, hf⟩ := mo_if hf
  obtain ⟨s1, y, e, hf⟩ := mo_bi_ok hf
  exact mb_287_95 (d := d + 5) hh q0 q1 (mr_266 (d := d + 4) hh e (mr_287_129 hh hf k))
def mf_287_88 (N : Nat) (x5 : Int32) (s : mS) : mO := if x5 < 28 then mf_287_151 N  s else mf_287_95 N  s
theorem mr_287_88 {X : Nat → Option zz_C} {h : zz_H} (hh : 111 ≤ h.length) {d : Nat} {N : Nat} {Q : Option Value → zz_H → Prop} {x5 : Int32} {s s' : mS} {v : Option Value} (hf : mf_287_88 N x5 s = some (s', v)) (k : Q v (mH h s')) : zz_E zp_P zt_tf zt_fd X (d + 6) zm_287 88 [(0, .ref 61), (5, .int x5)] [] (mH h s) Q := by
  unfold mf_287_88 at hf
  refine mb_287_88 hh  (fun c => ?_) (fun c => ?_)
  · rw [if_pos c] at hf
    exact mr_287_151 hh hf k
  · rw [if_neg c] at hf
    exact mr_287_95 hh hf k
def mf_287_60 (N : Nat) (x1 : Int32) (x2 : Int32) (x3 : Int64) (x5 : Int32) (s : mS) : mO := if ¬ (((s.1 44) - 1) < 0 ∨ 80 ≤ Int32.toNatClampNeg ((s.1 44) - 1)) then (if ¬ (((s.1 44) - 1) < 0 ∨ 80 ≤ Int32.toNatClampNeg ((s.1 44) - 1)) then (if x1 < 0 then mf_287_151 N  (mA (mB s 42 (vp_updL (s.2.2.2 42) (Int32.toNatClampNeg ((s.1 44) - 1)) x3)) 43 (upd (s.2.2.1 43) (Int32.toNatClampNeg ((s.1 44) - 1)) x2)) else mf_287_88 N x5 (mA (mB s 42 (vp_updL (s.2.2.2 42) (Int32.toNatClampNeg ((s.1 44) - 1)) x3)) 43 (upd (s.2.2.1 43) (Int32.toNatClampNeg ((s.1 44) - 1)) x2))) else none) else none
theorem mr_287_60 {X : Nat → Option zz_C} {h : zz_H} (hh : 111 ≤ h.length) {d : Nat} {N : Nat} {Q : Option Value → zz_H → Prop} {x1 : Int32} {x2 : Int32} {x3 : Int64} {x5 : Int32} {s s' : mS} {v : Option Value} (hf : mf_287_60 N x1 x2 x3 x5 s = some (s', v)) (k : Q v (mH h s')) : zz_E zp_P zt_tf zt_fd X (d + 6) zm_287 60 [(0, .ref 61), (1, .int x1), (2, .int x2), (3, .long x3), (5, .int x5)] [] (mH h s) Q := by
  unfold mf_287_60 at hf
  obtain ⟨q0, hf⟩ := mo_if hf
  obtain ⟨q1, hf⟩ := mo_if hf
  refine mb_287_60 hh q0 q1 (fun c => ?_) (fun c => ?_)
  · rw [if_pos c] at hf
    exact mr_287_151 hh hf k
  · rw [if_neg c] at hf
    exact mr_287_88 hh hf k
def mf_287_54 (N : Nat) (x1 : Int32) (x2 : Int32) (x3 : Int64) (x5 : Int32) (y1 : Int32) (s : mS) : mO := mo_bv (mf_281 N y1 x5 x2 s) (fun s1 => mf_287_60 N x1 x2 x3 x5 s1)
theorem mr_287_54 {X : Nat → Option zz_C} {h : zz_H} (hh : 111 ≤ h.length) {d : Nat} {N : Nat} {Q : Option Value → zz_H → Prop} {x1 : Int32} {x2 : Int32} {x3 : Int64} {x5 : Int32} {y1 : Int32} {s s' : mS} {v : Option Value} (hf : mf_287_54 N x1 x2 x3 x5 y1 s = some (s', v)) (k : Q v (mH h s')) : zz_E zp_P zt_tf zt_fd X (d + 6) zm_287 54 [(0, .ref 61), (1, .int x1), (2, .int x2), (3, .long x3), (5, .int x5)] [.int y1, .ref 61] (mH h s) Q := by
  unfold mf_287_54 at hf
  obtain ⟨s1, e, hf⟩ := mo_bv_ok hf
  exact mb_287_54 (d := d + 5) hh  (mr_281 (d := d + 5) hh e (mr_287_60 hh hf k))
def mf_287_52 (N : Nat) (x1 : Int32) (x2 : Int32) (x3 : Int64) (x5 : Int32) (s : mS) : mO := mf_287_54 N x1 x2 x3 x5 7 s
theorem mr_287_52 {X : Nat → Option zz_C} {h : zz_H} (hh : 111 ≤ h.length) {d : Nat} {N : Nat} {Q : Option Value → zz_H → Prop} {x1 : Int32} {x2 : Int32} {x3 : Int64} {x5 : Int32} {s s' : mS} {v : Option Value} (hf : mf_287_52 N x1 x2 x3 x5 s = some (s', v)) (k : Q v (mH h s')) : zz_E zp_P zt_tf zt_fd X (d + 6) zm_287 52 [(0, .ref 61), (1, .int x1), (2, .int x2), (3, .long x3), (5, .int x5)] [.ref 61] (mH h s) Q := by
  unfold mf_287_52 at hf
  exact mb_287_52 hh  (mr_287_54 hh hf k)
def mf_287_47 (N : Nat) (x1 : Int32) (x2 : Int32) (x3 : Int64) (x5 : Int32) (s : mS) : mO := mf_287_54 N x1 x2 x3 x5 8 s
theorem mr_287_47 {X : Nat → Option zz_C} {h : zz_H} (hh : 111 ≤ h.length) {d : Nat} {N : Nat} {Q : Option Value → zz_H → Prop} {x1 : Int32} {x2 : Int32} {x3 : Int64} {x5 : Int32} {s s' : mS} {v : Option Value} (hf : mf_287_47 N x1 x2 x3 x5 s = some (s', v)) (k : Q v (mH h s')) : zz_E zp_P zt_tf zt_fd X (d + 6) zm_287 47 [(0, .ref 61), (1, .int x1), (2, .int x2), (3, .long x3), (5, .int x5)] [.ref 61] (mH h s) Q := by
  unfold mf_287_47 at hf
  exact mb_287_47 hh  (mr_287_54 hh hf k)
def mf_287_40 (N : Nat) (x1 : Int32) (x2 : Int32) (x3 : Int64) (x5 : Int32) (s : mS) : mO := if x5 < 28 then mf_287_52 N x1 x2 x3 x5 s else mf_287_47 N x1 x2 x3 x5 s
theorem mr_287_40 {X : Nat → Option zz_C} {h : zz_H} (hh : 111 ≤ h.length) {d : Nat} {N : Nat} {Q : Option Value → zz_H → Prop} {x1 : Int32} {x2 : Int32} {x3 : Int64} {x5 : Int32} {s s' : mS} {v : Option Value} (hf : mf_287_40 N x1 x2 x3 x5 s = some (s', v)) (k : Q v (mH h s')) : zz_E zp_P zt_tf zt_fd X (d + 6) zm_287 40 [(0, .ref 61), (1, .int x1), (2, .int x2), (3, .long x3), (5, .int x5)] [.ref 61] (mH h s) Q := by
  unfold mf_287_40 at hf
  refine mb_287_40 hh  (fun c => ?_) (fun c => ?_)
  · rw [if_pos c] at hf
    exact mr_287_52 hh hf k
  · rw [if_neg c] at hf
    exact mr_287_47 hh hf k
def mf_287_35 (N : Nat) (x1 : Int32) (x2 : Int32) (x3 : Int64) (x5 : Int32) (s : mS) : mO := mf_287_54 N x1 x2 x3 x5 6 s
theorem mr_287_35 {X : Nat → Option zz_C} {h : zz_H} (hh : 111 ≤ h.length) {d : Nat} {N : Nat} {Q : Option Value → zz_H → Prop} {x1 : Int32} {x2 : Int32} {x3 : Int64} {x5 : Int32} {s s' : mS} {v : Option Value} (hf : mf_287_35 N x1 x2 x3 x5 s = some (s', v)) (k : Q v (mH h s')) : zz_E zp_P zt_tf zt_fd X (d + 6) zm_287 35 [(0, .ref 61), (1, .int x1), (2, .int x2), (3, .long x3), (5, .int x5)] [.ref 61] (mH h s) Q := by
  unfold mf_287_35 at hf
  exact mb_287_35 hh  (mr_287_54 hh hf k)
def mf_287_30 (N : Nat) (x1 : Int32) (x2 : Int32) (x3 : Int64) (x5 : Int32) (s : mS) : mO := if 0 ≤ x1 then mf_287_40 N x1 x2 x3 x5 s else mf_287_35 N x1 x2 x3 x5 s
theorem mr_287_30 {X : Nat → Option zz_C} {h : zz_H} (hh : 111 ≤ h.length) {d : Nat} {N : Nat} {Q : Option Value → zz_H → Prop} {x1 : Int32} {x2 : Int32} {x3 : Int64} {x5 : Int32} {s s' : mS} {v : Option Value} (hf : mf_287_30 N x1 x2 x3 x5 s = some (s', v)) (k : Q v (mH h s')) : zz_E zp_P zt_tf zt_fd X (d + 6) zm_287 30 [(0, .ref 61), (1, .int x1), (2, .int x2), (3, .long x3), (5, .int x5)] [] (mH h s) Q := by
  unfold mf_287_30 at hf
  refine mb_287_30 hh  (fun c => ?_) (fun c => ?_)
  · rw [if_pos c] at hf
    exact mr_287_40 hh hf k
  · rw [if_neg c] at hf
    exact mr_287_35 hh hf k
def mf_287_28 (N : Nat)  (s : mS) : mO := some (s, (some (.int 0)))
theorem mr_287_28 {X : Nat → Option zz_C} {h : zz_H} (hh : 111 ≤ h.length) {d : Nat} {N : Nat} {Q : Option Value → zz_H → Prop}  {s s' : mS} {v : Option Value} (hf : mf_287_28 N  s = some (s', v)) (k : Q v (mH h s')) : zz_E zp_P zt_tf zt_fd X (d + 6) zm_287 28 [] [] (mH h s) Q := by
  unfold mf_287_28 at hf
  cases hf
  exact mb_287_28 hh  k
def mf_287_21 (N : Nat) (x1 : Int32) (x2 : Int32) (x3 : Int64) (x5 : Int32) (s : mS) : mO := if (s.1 9) ≤ 0 then mf_287_30 N x1 x2 x3 x5 s else mf_287_28 N  s
theorem mr_287_21 {X : Nat → Option zz_C} {h : zz_H} (hh : 111 ≤ h.length) {d : Nat} {N : Nat} {Q : Option Value → zz_H → Prop} {x1 : Int32} {x2 : Int32} {x3 : Int64} {x5 : Int32} {s s' : mS} {v : Option Value} (hf : mf_287_21 N x1 x2 x3 x5 s = some (s', v)) (k : Q v (mH h s')) : zz_E zp_P zt_tf zt_fd X (d + 6) zm_287 21 [(0, .ref 61), (1, .int x1), (2, .int x2), (3, .long x3), (5, .int x5)] [] (mH h s) Q := by
  unfold mf_287_21 at hf
  refine mb_287_21 hh  (fun c => ?_) (fun c => ?_)
  · rw [if_pos c] at hf
    exact mr_287_30 hh hf k
  · rw [if_neg c] at hf
    exact mr_287_28 hh hf k
def mf_287_15 (N : Nat) (x1 : Int32) (x2 : Int32) (x3 : Int64) (x5 : Int32) (s : mS) : mO := mo_bv (mf_268 N 40 s) (fun s1 => mf_287_21 N x1 x2 x3 x5 s1)
theorem mr_287_15 {X : Nat → Option zz_C} {h : zz_H} (hh : 111 ≤ h.length) {d : Nat} {N : Nat} {Q : Option Value → zz_H → Prop} {x1 : Int32} {x2 : Int32} {x3 : Int64} {x5 : Int32} {s s' : mS} {v : Option Value} (hf : mf_287_15 N x1 x2 x3 x5 s = some (s', v)) (k : Q v (mH h s')) : zz_E zp_P zt_tf zt_fd X (d + 6) zm_287 15 [(0, .ref 61), (1, .int x1), (2, .int x2), (3, .long x3), (5, .int x5)] [] (mH h s) Q := by
  unfold mf_287_15 at hf
  obtain ⟨s1, e, hf⟩ := mo_bv_ok hf
  exact mb_287_15 (d := d + 5) hh  (mr_268 (d := d + 1) hh e (mr_287_21 hh hf k))
def mf_287_0 (N : Nat) (x1 : Int32) (x2 : Int32) (s : mS) : mO := mo_bv (mf_260 N  s) (fun s1 => mf_287_15 N x1 x2 (s.2.1 7) (x1 - 11) s1)
theorem mr_287_0 {X : Nat → Option zz_C} {h : zz_H} (hh : 111 ≤ h.length) {d : Nat} {N : Nat} {Q : Option Value → zz_H → Prop} {x1 : Int32} {x2 : Int32} {s s' : mS} {v : Option Value} (hf : mf_287_0 N x1 x2 s = some (s', v)) (k : Q v (mH h s')) : zz_E zp_P zt_tf zt_fd X (d + 6) zm_287 0 [(0, .ref 61), (1, .int x1), (2, .int x2)] [] (mH h s) Q := by
  unfold mf_287_0 at hf
  obtain ⟨s1, e, hf⟩ := mo_bv_ok hf
  exact mb_287_0 (d := d + 5) hh  (mr_260 (d := d + 2) hh e (mr_287_15 hh hf k))
/-- begins1 -/
def mf_287 (N : Nat) (x1 : Int32) (x2 : Int32) (s : mS) : mO := mf_287_0 N x1 x2 s
theorem mr_287 {X : Nat → Option zz_C} {h : zz_H} (hh : 111 ≤ h.length) {d : Nat} {N : Nat} {Q : Option Value → zz_H → Prop} {x1 : Int32} {x2 : Int32} {s s' : mS} {v : Option Value} (hf : mf_287 N x1 x2 s = some (s', v)) (k : Q v (mH h s')) : zz_E zp_P zt_tf zt_fd X (d + 6) zm_287 0 [(0, .ref 61), (1, .int x1), (2, .int x2)] [] (mH h s) Q := by
  unfold mf_287 at hf
  exact zz_E.weak (mr_287_0 hh hf k) rfl ⟨rfl, rfl, rfl, trivial⟩
