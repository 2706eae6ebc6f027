/-! single (II)I -/
theorem mb_322_0 {X : Nat → Option zz_C} {h : zz_H} (hh : 111 ≤ h.length) {s : mS} {d : Nat} {Q : Option Value → zz_H → Prop} {x0 : Int32} {x1 : Int32} (k1 : ¬ x0 = 45 → zz_E zp_P zt_tf zt_fd X d zm_322 11 [(1, .int x1)] [] (mH h s) Q) (k2 : ¬ ¬ x0 = 45 → zz_E zp_P zt_tf zt_fd X d zm_322 6 [(1, .int x1)] [] (mH h s) Q) : zz_E zp_P zt_tf zt_fd X d zm_322 0 [(0, .int x0), (1, .int x1)] [] (mH h s) Q := by
  refine zz_E.n 1 rfl rfl rfl ?_
  refine zz_E.c 3 (.int 45) rfl rfl rfl rfl ?_
  refine zz_E.b2 11 6 (A := ¬ x0 = 45) rfl (zz_cond_ne _ _) (by decide) rfl rfl (fun c => ?_) (fun c => ?_)
  · exact zz_E.weak (k1 c) rfl ⟨rfl, trivial⟩
  · exact zz_E.weak (k2 c) rfl ⟨rfl, trivial⟩
theorem mb_322_6 {X : Nat → Option zz_C} {h : zz_H} (hh : 111 ≤ h.length) {s : mS} {d : Nat} {Q : Option Value → zz_H → Prop} {x1 : Int32} (k : zz_E zp_P zt_tf zt_fd X d zm_322 20 [] [.int (-x1)] (mH h s) Q) : zz_E zp_P zt_tf zt_fd X d zm_322 6 [(1, .int x1)] [] (mH h s) Q := by
  refine zz_E.n 7 rfl rfl rfl ?_
  refine zz_E.n 8 rfl rfl rfl ?_
  refine zz_E.n 20 rfl rfl rfl ?_
  exact zz_E.weak k rfl trivial
theorem mb_322_11 {X : Nat → Option zz_C} {h : zz_H} (hh : 111 ≤ h.length) {s : mS} {d : Nat} {Q : Option Value → zz_H → Prop} {x1 : Int32} (k1 : ¬ x1 = 0 → zz_E zp_P zt_tf zt_fd X d zm_322 19 [] [] (mH h s) Q) (k2 : ¬ ¬ x1 = 0 → zz_E zp_P zt_tf zt_fd X d zm_322 15 [] [] (mH h s) Q) : zz_E zp_P zt_tf zt_fd X d zm_322 11 [(1, .int x1)] [] (mH h s) Q := by
  refine zz_E.n 12 rfl rfl rfl ?_
  refine zz_E.b1 19 15 (A := ¬ x1 = 0) rfl (zz_cond_ne _ _) (by decide) rfl rfl (fun c => ?_) (fun c => ?_)
  · exact zz_E.weak (k1 c) rfl trivial
  · exact zz_E.weak (k2 c) rfl trivial
theorem mb_322_15 {X : Nat → Option zz_C} {h : zz_H} (hh : 111 ≤ h.length) {s : mS} {d : Nat} {Q : Option Value → zz_H → Prop}  (k : zz_E zp_P zt_tf zt_fd X d zm_322 20 [] [.int 1] (mH h s) Q) : zz_E zp_P zt_tf zt_fd X d zm_322 15 [] [] (mH h s) Q := by
  refine zz_E.c 16 (.int 1) rfl rfl rfl rfl ?_
  refine zz_E.n 20 rfl rfl rfl ?_
  exact zz_E.weak k rfl trivial
theorem mb_322_19 {X : Nat → Option zz_C} {h : zz_H} (hh : 111 ≤ h.length) {s : mS} {d : Nat} {Q : Option Value → zz_H → Prop}  (k : zz_E zp_P zt_tf zt_fd X d zm_322 20 [] [.int 0] (mH h s) Q) : zz_E zp_P zt_tf zt_fd X d zm_322 19 [] [] (mH h s) Q := by
  refine zz_E.c 20 (.int 0) rfl rfl rfl rfl ?_
  exact zz_E.weak k rfl trivial
theorem mb_322_20 {X : Nat → Option zz_C} {h : zz_H} (hh : 111 ≤ h.length) {s : mS} {d : Nat} {Q : Option Value → zz_H → Prop} {y0 : Int32} (k : Q (some (.int y0)) (mH h s)) : zz_E zp_P zt_tf zt_fd X d zm_322 20 [] [.int y0] (mH h s) Q := by
  refine zz_E.ret rfl rfl rfl ?_
  exact k
def mf_322_20 (N : Nat) (y0 : Int32) (s : mS) : mO := some (s, (some (.int y0)))
theorem mr_322_20 {X : Nat → Option zz_C} {h : zz_H} (hh : 111 ≤ h.length) {d : Nat} {N : Nat} {Q : Option Value → zz_H → Prop} {y0 : Int32} {s s' : mS} {v : Option Value} (hf : mf_322_20 N y0 s = some (s', v)) (k : Q v (mH h s')) : zz_E zp_P zt_tf zt_fd X (d + 0) zm_322 20 [] [.int y0] (mH h s) Q := by
  unfold mf_322_20 at hf
  cases hf
  exact mb_322_20 hh  k
def mf_322_19 (N : Nat)  (s : mS) : mO := mf_322_20 N 0 s
theorem mr_322_19 {X : Nat → Option zz_C} {h : zz_H} (hh : 111 ≤ h.length) {d : Nat} {N : Nat} {Q : Option Value → zz_H → Prop}  {s s' : mS} {v : Option Value} (hf : mf_322_19 N  s = some (s', v)) (k : Q v (mH h s')) : zz_E zp_P zt_tf zt_fd X (d + 0) zm_322 19 [] [] (mH h s) Q := by
  unfold mf_322_19 at hf
  exact mb_322_19 hh  (mr_322_20 hh hf k)
def mf_322_15 (N : Nat)  (s : mS) : mO := mf_322_20 N 1 s
theorem mr_322_15 {X : Nat → Option zz_C} {h : zz_H} (hh : 111 ≤ h.length) {d : Nat} {N : Nat} {Q : Option Value → zz_H → Prop}  {s s' : mS} {v : Option Value} (hf : mf_322_15 N  s = some (s', v)) (k : Q v (mH h s')) : zz_E zp_P zt_tf zt_fd X (d + 0) zm_322 15 [] [] (mH h s) Q := by
  unfold mf_322_15 at hf
  exact mb_322_15 hh  (mr_322_20 hh hf k)
def mf_322_11 (N : Nat) (x1 : Int32) (s : mS) : mO := if ¬ x1 = 0 then mf_322_19 N  s else mf_322_15 N  s
theorem mr_322_11 {X : Nat → Option zz_C} {h : zz_H} (hh : 111 ≤ h.length) {d : Nat} {N : Nat} {Q : Option Value → zz_H → Prop} {x1 : Int32} {s s' : mS} {v : Option Value} (hf : mf_322_11 N x1 s = some (s', v)) (k : Q v (mH h s')) : zz_E zp_P zt_tf zt_fd X (d + 0) zm_322 11 [(1, .int x1)] [] (mH h s) Q := by
  unfold mf_322_11 at hf
  refine mb_322_11 hh  (fun c => ?_) (fun c => ?_)
  · rw [if_pos c] at hf
    exact mr_322_19 hh hf k
  · rw [if_neg c] at hf
    exact mr_322_15 hh hf k
def mf_322_6 (N : Nat) (x1 : Int32) (s : mS) : mO := mf_322_20 N (-x1) s
theorem mr_322_6 {X : Nat → Option zz_C} {h : zz_H} (hh : 111 ≤ h.length) {d : Nat} {N : Nat} {Q : Option Value → zz_H → Prop} {x1 : Int32} {s s' : mS} {v : Option Value} (hf : mf_322_6 N x1 s = some (s', v)) (k : Q v (mH h s')) : zz_E zp_P zt_tf zt_fd X (d + 0) zm_322 6 [(1, .int x1)] [] (mH h s) Q := by
  unfold mf_322_6 at hf
  exact mb_322_6 hh  (mr_322_20 hh hf k)
def mf_322_0 (N : Nat) (x0 : Int32) (x1 : Int32) (s : mS) : mO := if ¬ x0 = 45 then mf_322_11 N x1 s else mf_322_6 N x1 s
theorem mr_322_0 {X : Nat → Option zz_C} {h : zz_H} (hh : 111 ≤ h.length) {d : Nat} {N : Nat} {Q : Option Value → zz_H → Prop} {x0 : Int32} {x1 : Int32} {s s' : mS} {v : Option Value} (hf : mf_322_0 N x0 x1 s = some (s', v)) (k : Q v (mH h s')) : zz_E zp_P zt_tf zt_fd X (d + 0) zm_322 0 [(0, .int x0), (1, .int x1)] [] (mH h s) Q := by
  unfold mf_322_0 at hf
  refine mb_322_0 hh  (fun c => ?_) (fun c => ?_)
  · rw [if_pos c] at hf
    exact mr_322_11 hh hf k
  · rw [if_neg c] at hf
    exact mr_322_6 hh hf k
/-- single -/
def mf_322 (N : Nat) (x0 : Int32) (x1 : Int32) (s : mS) : mO := mf_322_0 N x0 x1 s
theorem mr_322 {X : Nat → Option zz_C} {h : zz_H} (hh : 111 ≤ h.length) {d : Nat} {N : Nat} {Q : Option Value → zz_H → Prop} {x0 : Int32} {x1 : Int32} {s s' : mS} {v : Option Value} (hf : mf_322 N x0 x1 s = some (s', v)) (k : Q v (mH h s')) : zz_E zp_P zt_tf zt_fd X (d + 0) zm_322 0 [(0, .int x0), (1, .int x1)] [] (mH h s) Q := by
  unfold mf_322 at hf
  exact zz_E.weak (mr_322_0 hh hf k) rfl ⟨rfl, rfl, trivial⟩
/-! one (I)V -/
theorem mb_323_0 {X : Nat → Option zz_C} {h : zz_H} (hh : 111 ≤ h.length) {s : mS} {d : Nat} {Q : Option Value → zz_H → Prop} {x1 : Int32} (k : zz_E zp_P zt_tf zt_fd X d zm_292 0 [(0, .ref 61), (1, .int ((s.1 51) - 1))] [] (mH h s) (fun v h' => zz_E zp_P zt_tf zt_fd X (d + 1) zm_323 10 [(0, .ref 61), (1, .int x1)] (v.toList ++ []) h' Q)) : zz_E zp_P zt_tf zt_fd X (d + 1) zm_323 0 [(0, .ref 61), (1, .int x1)] [] (mH h s) Q := by
  refine zz_E.n 1 rfl rfl rfl ?_
  refine zz_E.n 2 rfl rfl rfl ?_
  refine mE_g hh 5 (v := .int (s.1 51)) rfl rfl rfl ?_
  refine zz_E.c 6 (.int 1) rfl rfl rfl rfl ?_
  refine zz_E.n 7 rfl rfl rfl ?_
  refine mE_cv hh 10 (as := []) rfl rfl (Nat.le_of_ble_eq_true rfl) (Nat.le_of_ble_eq_true rfl) rfl (Nat.le_of_ble_eq_true rfl) rfl ?_
  refine zz_E.mono k ?_
  intro v h' hE
  exact zz_E.weak hE rfl ⟨rfl, rfl, trivial⟩
theorem mb_323_10 {X : Nat → Option zz_C} {h : zz_H} (hh : 111 ≤ h.length) {s : mS} {d : Nat} {Q : Option Value → zz_H → Prop} {x1 : Int32} {y0 : Int32} (i29 : ¬ (((s.1 51) - 1) < 0 ∨ 9000 ≤ Int32.toNatClampNeg ((s.1 51) - 1))) (k1 : ¬ y0 = 3 → zz_E zp_P zt_tf zt_fd X d zm_323 54 [(0, .ref 61), (1, .int x1), (2, .int y0), (3, .int ((s.2.2.1 50) (Int32.toNatClampNeg ((s.1 51) - 1)))), (4, .int ((s.1 51) - 1))] [] (mH h (mI s 51 ((s.1 51) - 1))) Q) (k2 : ¬ ¬ y0 = 3 → zz_E zp_P zt_tf zt_fd X d zm_323 42 [(0, .ref 61)] [] (mH h (mI s 51 ((s.1 51) - 1))) Q) : zz_E zp_P zt_tf zt_fd X d zm_323 10 [(0, .ref 61), (1, .int x1)] [.int y0] (mH h s) Q := by
  refine zz_E.n 11 rfl rfl rfl ?_
  refine zz_E.n 12 rfl rfl rfl ?_
  refine zz_E.n 13 rfl rfl rfl ?_
  refine mE_g hh 16 (v := .int (s.1 51)) rfl rfl rfl ?_
  refine zz_E.c 17 (.int 1) rfl rfl rfl rfl ?_
  refine zz_E.n 18 rfl rfl rfl ?_
  refine mE_p hh 21 rfl (by decide) rfl (mF_51 _ _) rfl ?_
  refine zz_E.n 22 rfl rfl rfl ?_
  refine mE_g hh 25 (v := .ref 91) rfl rfl rfl ?_
  refine zz_E.n 26 rfl rfl rfl ?_
  refine mE_g hh 29 (v := .int ((s.1 51) - 1)) rfl rfl rfl ?_
  refine mE_ia hh 30 30 (f := (s.2.2.1 50)) rfl (by decide) rfl rfl i29 rfl ?_
  refine zz_E.n 31 rfl rfl rfl ?_
  refine zz_E.n 32 rfl rfl rfl ?_
  refine mE_g hh 35 (v := .int ((s.1 51) - 1)) rfl rfl rfl ?_
  refine zz_E.n 37 rfl rfl rfl ?_
  refine zz_E.n 38 rfl rfl rfl ?_
  refine zz_E.c 39 (.int 3) rfl rfl rfl rfl ?_
  refine zz_E.b2 54 42 (A := ¬ y0 = 3) rfl (zz_cond_ne _ _) (by decide) rfl rfl (fun c => ?_) (fun c => ?_)
  · exact zz_E.weak (k1 c) rfl ⟨rfl, rfl, rfl, rfl, rfl, trivial⟩
  · exact zz_E.weak (k2 c) rfl ⟨rfl, trivial⟩
theorem mb_323_42 {X : Nat → Option zz_C} {h : zz_H} (hh : 111 ≤ h.length) {s : mS} {d : Nat} {Q : Option Value → zz_H → Prop}  (k : zz_E zp_P zt_tf zt_fd X d zm_301 0 [(0, .ref 61), (1, .int 3), (2, .int (s.1 70))] [] (mH h s) (fun v h' => zz_E zp_P zt_tf zt_fd X (d + 1) zm_323 51 [] (v.toList ++ []) h' Q)) : zz_E zp_P zt_tf zt_fd X (d + 1) zm_323 42 [(0, .ref 61)] [] (mH h s) Q := by
  refine zz_E.n 43 rfl rfl rfl ?_
  refine zz_E.c 44 (.int 3) rfl rfl rfl rfl ?_
  refine zz_E.n 45 rfl rfl rfl ?_
  refine mE_g hh 48 (v := .int (s.1 70)) rfl rfl rfl ?_
  refine mE_cv hh 51 (as := []) rfl rfl (Nat.le_of_ble_eq_true rfl) (Nat.le_of_ble_eq_true rfl) rfl (Nat.le_of_ble_eq_true rfl) rfl ?_
  refine zz_E.mono k ?_
  intro v h' hE
  exact zz_E.weak hE rfl trivial
theorem mb_323_51 {X : Nat → Option zz_C} {h : zz_H} (hh : 111 ≤ h.length) {s : mS} {d : Nat} {Q : Option Value → zz_H → Prop}  (k : zz_E zp_P zt_tf zt_fd X d zm_323 213 [] [] (mH h s) Q) : zz_E zp_P zt_tf zt_fd X d zm_323 51 [] [] (mH h s) Q := by
  refine zz_E.n 213 rfl rfl rfl ?_
  exact zz_E.weak k rfl trivial
theorem mb_323_54 {X : Nat → Option zz_C} {h : zz_H} (hh : 111 ≤ h.length) {s : mS} {d : Nat} {Q : Option Value → zz_H → Prop} {x1 : Int32} {x2 : Int32} {x3 : Int32} {x4 : Int32} (k1 : ¬ x2 = 0 → zz_E zp_P zt_tf zt_fd X d zm_323 71 [(0, .ref 61), (1, .int x1), (2, .int x2), (3, .int x3), (4, .int x4)] [] (mH h s) Q) (k2 : ¬ ¬ x2 = 0 → zz_E zp_P zt_tf zt_fd X d zm_323 58 [(0, .ref 61), (1, .int x1), (3, .int x3)] [] (mH h s) Q) : zz_E zp_P zt_tf zt_fd X d zm_323 54 [(0, .ref 61), (1, .int x1), (2, .int x2), (3, .int x3), (4, .int x4)] [] (mH h s) Q := by
  refine zz_E.n 55 rfl rfl rfl ?_
  refine zz_E.b1 71 58 (A := ¬ x2 = 0) rfl (zz_cond_ne _ _) (by decide) rfl rfl (fun c => ?_) (fun c => ?_)
  · exact zz_E.weak (k1 c) rfl ⟨rfl, rfl, rfl, rfl, rfl, trivial⟩
  · exact zz_E.weak (k2 c) rfl ⟨rfl, rfl, rfl, trivial⟩
theorem mb_323_58 {X : Nat → Option zz_C} {h : zz_H} (hh : 111 ≤ h.length) {s : mS} {d : Nat} {Q : Option Value → zz_H → Prop} {x1 : Int32} {x3 : Int32} (k : zz_E zp_P zt_tf zt_fd X d zm_322 0 [(0, .int x1), (1, .int x3)] [] (mH h s) (fun v h' => zz_E zp_P zt_tf zt_fd X (d + 1) zm_323 65 [] (v.toList ++ [.int 0, .ref 61]) h' Q)) : zz_E zp_P zt_tf zt_fd X (d + 1) zm_323 58 [(0, .ref 61), (1, .int x1), (3, .int x3)] [] (mH h s) Q := by
  refine zz_E.n 59 rfl rfl rfl ?_
  refine zz_E.c 60 (.int 0) rfl rfl rfl rfl ?_
  refine zz_E.n 61 rfl rfl rfl ?_
  refine zz_E.n 62 rfl rfl rfl ?_
  refine zz_E.cl (M' := zm_322) 65 rfl rfl (by decide) rfl rfl ⟨rfl, Nat.le_of_ble_eq_true rfl⟩ rfl ?_
  refine zz_E.mono k ?_
  intro v h' hE
  exact zz_E.weak hE rfl trivial
theorem mb_323_65 {X : Nat → Option zz_C} {h : zz_H} (hh : 111 ≤ h.length) {s : mS} {d : Nat} {Q : Option Value → zz_H → Prop} {y1 : Int32} {y2 : Int32} (k : zz_E zp_P zt_tf zt_fd X d zm_291 0 [(0, .ref 61), (1, .int y1), (2, .int y2)] [] (mH h s) (fun v h' => zz_E zp_P zt_tf zt_fd X (d + 1) zm_323 68 [] (v.toList ++ []) h' Q)) : zz_E zp_P zt_tf zt_fd X (d + 1) zm_323 65 [] [.int y2, .int y1, .ref 61] (mH h s) Q := by
  refine mE_cv hh 68 (as := []) rfl rfl (Nat.le_of_ble_eq_true rfl) (Nat.le_of_ble_eq_true rfl) rfl (Nat.le_of_ble_eq_true rfl) rfl ?_
  refine zz_E.mono k ?_
  intro v h' hE
  exact zz_E.weak hE rfl trivial
theorem mb_323_68 {X : Nat → Option zz_C} {h : zz_H} (hh : 111 ≤ h.length) {s : mS} {d : Nat} {Q : Option Value → zz_H → Prop}  (k : zz_E zp_P zt_tf zt_fd X d zm_323 213 [] [] (mH h s) Q) : zz_E zp_P zt_tf zt_fd X d zm_323 68 [] [] (mH h s) Q := by
  refine zz_E.n 213 rfl rfl rfl ?_
  exact zz_E.weak k rfl trivial
theorem mb_323_71 {X : Nat → Option zz_C} {h : zz_H} (hh : 111 ≤ h.length) {s : mS} {d : Nat} {Q : Option Value → zz_H → Prop} {x1 : Int32} {x2 : Int32} {x3 : Int32} {x4 : Int32} (k1 : ¬ x2 = 1 → zz_E zp_P zt_tf zt_fd X d zm_323 125 [(0, .ref 61), (1, .int x1), (3, .int x3), (4, .int x4)] [] (mH h s) Q) (k2 : ¬ ¬ x2 = 1 → zz_E zp_P zt_tf zt_fd X d zm_323 76 [(0, .ref 61), (1, .int x1), (3, .int x3), (4, .int x4)] [] (mH h s) Q) : zz_E zp_P zt_tf zt_fd X d zm_323 71 [(0, .ref 61), (1, .int x1), (2, .int x2), (3, .int x3), (4, .int x4)] [] (mH h s) Q := by
  refine zz_E.n 72 rfl rfl rfl ?_
  refine zz_E.c 73 (.int 1) rfl rfl rfl rfl ?_
  refine zz_E.b2 125 76 (A := ¬ x2 = 1) rfl (zz_cond_ne _ _) (by decide) rfl rfl (fun c => ?_) (fun c => ?_)
  · exact zz_E.weak (k1 c) rfl ⟨rfl, rfl, rfl, rfl, trivial⟩
  · exact zz_E.weak (k2 c) rfl ⟨rfl, rfl, rfl, rfl, trivial⟩
theorem mb_323_76 {X : Nat → Option zz_C} {h : zz_H} (hh : 111 ≤ h.length) {s : mS} {d : Nat} {Q : Option Value → zz_H → Prop} {x1 : Int32} {x3 : Int32} {x4 : Int32} (k : zz_E zp_P zt_tf zt_fd X d zm_323 79 [(0, .ref 61), (1, .int x1), (3, .int x3), (4, .int x4), (5, .int 0)] [] (mH h s) Q) : zz_E zp_P zt_tf zt_fd X d zm_323 76 [(0, .ref 61), (1, .int x1), (3, .int x3), (4, .int x4)] [] (mH h s) Q := by
  refine zz_E.c 77 (.int 0) rfl rfl rfl rfl ?_
  refine zz_E.n 79 rfl rfl rfl ?_
  exact zz_E.weak k rfl ⟨rfl, rfl, rfl, rfl, rfl, trivial⟩
theorem mb_323_79 {X : Nat → Option zz_C} {h : zz_H} (hh : 111 ≤ h.length) {s : mS} {d : Nat} {Q : Option Value → zz_H → Prop} {x1 : Int32} {x3 : Int32} {x4 : Int32} {x5 : Int32} (k : zz_E zp_P zt_tf zt_fd X d zm_77 0 [(0, .ref 61), (1, .int x3)] [] (mH h s) (fun v h' => zz_E zp_P zt_tf zt_fd X (d + 1) zm_323 86 [(0, .ref 61), (1, .int x1), (3, .int x3), (4, .int x4), (5, .int x5)] (v.toList ++ [.int x5]) h' Q)) : zz_E zp_P zt_tf zt_fd X (d + 1) zm_323 79 [(0, .ref 61), (1, .int x1), (3, .int x3), (4, .int x4), (5, .int x5)] [] (mH h s) Q := by
  refine zz_E.n 81 rfl rfl rfl ?_
  refine zz_E.n 82 rfl rfl rfl ?_
  refine zz_E.n 83 rfl rfl rfl ?_
  refine mE_cv hh 86 (as := [.int x5]) rfl rfl (Nat.le_of_ble_eq_true rfl) (Nat.le_of_ble_eq_true rfl) rfl (Nat.le_of_ble_eq_true rfl) rfl ?_
  refine zz_E.mono k ?_
  intro v h' hE
  exact zz_E.weak hE rfl ⟨rfl, rfl, rfl, rfl, rfl, trivial⟩
theorem mb_323_86 {X : Nat → Option zz_C} {h : zz_H} (hh : 111 ≤ h.length) {s : mS} {d : Nat} {Q : Option Value → zz_H → Prop} {x1 : Int32} {x3 : Int32} {x4 : Int32} {x5 : Int32} {y0 : Int32} {y1 : Int32} (k1 : y1 ≤ y0 → zz_E zp_P zt_tf zt_fd X d zm_323 115 [(0, .ref 61), (4, .int x4)] [] (mH h s) Q) (k2 : ¬ y1 ≤ y0 → zz_E zp_P zt_tf zt_fd X d zm_323 89 [(0, .ref 61), (1, .int x1), (3, .int x3), (4, .int x4), (5, .int x5)] [] (mH h s) Q) : zz_E zp_P zt_tf zt_fd X d zm_323 86 [(0, .ref 61), (1, .int x1), (3, .int x3), (4, .int x4), (5, .int x5)] [.int y1, .int y0] (mH h s) Q := by
  refine zz_E.b2 115 89 (A := y1 ≤ y0) rfl rfl (by decide) rfl rfl (fun c => ?_) (fun c => ?_)
  · exact zz_E.weak (k1 c) rfl ⟨rfl, rfl, trivial⟩
  · exact zz_E.weak (k2 c) rfl ⟨rfl, rfl, rfl, rfl, rfl, trivial⟩
theorem mb_323_89 {X : Nat → Option zz_C} {h : zz_H} (hh : 111 ≤ h.length) {s : mS} {d : Nat} {Q : Option Value → zz_H → Prop} {x1 : Int32} {x3 : Int32} {x4 : Int32} {x5 : Int32} (i102 : ¬ (((x3 + 2) + x5) < 0 ∨ 166300 ≤ Int32.toNatClampNeg ((x3 + 2) + x5))) (k : zz_E zp_P zt_tf zt_fd X d zm_322 0 [(0, .int x1), (1, .int ((s.2.2.1 47) (Int32.toNatClampNeg ((x3 + 2) + x5))))] [] (mH h s) (fun v h' => zz_E zp_P zt_tf zt_fd X (d + 1) zm_323 106 [(0, .ref 61), (1, .int x1), (3, .int x3), (4, .int x4), (5, .int x5)] (v.toList ++ [.int 0, .ref 61]) h' Q)) : zz_E zp_P zt_tf zt_fd X (d + 1) zm_323 89 [(0, .ref 61), (1, .int x1), (3, .int x3), (4, .int x4), (5, .int x5)] [] (mH h s) Q := by
  refine zz_E.n 90 rfl rfl rfl ?_
  refine zz_E.c 91 (.int 0) rfl rfl rfl rfl ?_
  refine zz_E.n 92 rfl rfl rfl ?_
  refine zz_E.n 93 rfl rfl rfl ?_
  refine mE_g hh 96 (v := .ref 89) rfl rfl rfl ?_
  refine zz_E.n 97 rfl rfl rfl ?_
  refine zz_E.c 98 (.int 2) rfl rfl rfl rfl ?_
  refine zz_E.n 99 rfl rfl rfl ?_
  refine zz_E.n 101 rfl rfl rfl ?_
  refine zz_E.n 102 rfl rfl rfl ?_
  refine mE_ia hh 103 28 (f := (s.2.2.1 47)) rfl (by decide) rfl rfl i102 rfl ?_
  refine zz_E.cl (M' := zm_322) 106 rfl rfl (by decide) rfl rfl ⟨rfl, Nat.le_of_ble_eq_true rfl⟩ rfl ?_
  refine zz_E.mono k ?_
  intro v h' hE
  exact zz_E.weak hE rfl ⟨rfl, rfl, rfl, rfl, rfl, trivial⟩
theorem mb_323_106 {X : Nat → Option zz_C} {h : zz_H} (hh : 111 ≤ h.length) {s : mS} {d : Nat} {Q : Option Value → zz_H → Prop} {x1 : Int32} {x3 : Int32} {x4 : Int32} {x5 : Int32} {y1 : Int32} {y2 : Int32} (k : zz_E zp_P zt_tf zt_fd X d zm_291 0 [(0, .ref 61), (1, .int y1), (2, .int y2)] [] (mH h s) (fun v h' => zz_E zp_P zt_tf zt_fd X (d + 1) zm_323 109 [(0, .ref 61), (1, .int x1), (3, .int x3), (4, .int x4), (5, .int x5)] (v.toList ++ []) h' Q)) : zz_E zp_P zt_tf zt_fd X (d + 1) zm_323 106 [(0, .ref 61), (1, .int x1), (3, .int x3), (4, .int x4), (5, .int x5)] [.int y2, .int y1, .ref 61] (mH h s) Q := by
  refine mE_cv hh 109 (as := []) rfl rfl (Nat.le_of_ble_eq_true rfl) (Nat.le_of_ble_eq_true rfl) rfl (Nat.le_of_ble_eq_true rfl) rfl ?_
  refine zz_E.mono k ?_
  intro v h' hE
  exact zz_E.weak hE rfl ⟨rfl, rfl, rfl, rfl, rfl, trivial⟩
theorem mb_323_109 {X : Nat → Option zz_C} {h : zz_H} (hh : 111 ≤ h.length) {s : mS} {d : Nat} {Q : Option Value → zz_H → Prop} {x1 : Int32} {x3 : Int32} {x4 : Int32} {x5 : Int32} (k : zz_E zp_P zt_tf zt_fd X d zm_323 79 [(0, .ref 61), (1, .int x1), (3, .int x3), (4, .int x4), (5, .int (x5 + 1))] [] (mH h s) Q) : zz_E zp_P zt_tf zt_fd X d zm_323 109 [(0, .ref 61), (1, .int x1), (3, .int x3), (4, .int x4), (5, .int x5)] [] (mH h s) Q := by
  refine zz_E.n 112 rfl rfl rfl ?_
  refine zz_E.n 79 rfl rfl rfl ?_
  exact zz_E.weak k rfl ⟨rfl, rfl, rfl, rfl, rfl, trivial⟩
theorem mb_323_115 {X : Nat → Option zz_C} {h : zz_H} (hh : 111 ≤ h.length) {s : mS} {d : Nat} {Q : Option Value → zz_H → Prop} {x4 : Int32} (k : zz_E zp_P zt_tf zt_fd X d zm_305 0 [(0, .ref 61), (1, .int 1), (2, .int x4)] [] (mH h s) (fun v h' => zz_E zp_P zt_tf zt_fd X (d + 1) zm_323 122 [] (v.toList ++ []) h' Q)) : zz_E zp_P zt_tf zt_fd X (d + 1) zm_323 115 [(0, .ref 61), (4, .int x4)] [] (mH h s) Q := by
  refine zz_E.n 116 rfl rfl rfl ?_
  refine zz_E.c 117 (.int 1) rfl rfl rfl rfl ?_
  refine zz_E.n 119 rfl rfl rfl ?_
  refine mE_cv hh 122 (as := []) rfl rfl (Nat.le_of_ble_eq_true rfl) (Nat.le_of_ble_eq_true rfl) rfl (Nat.le_of_ble_eq_true rfl) rfl ?_
  refine zz_E.mono k ?_
  intro v h' hE
  exact zz_E.weak hE rfl trivial
theorem mb_323_122 {X : Nat → Option zz_C} {h : zz_H} (hh : 111 ≤ h.length) {s : mS} {d : Nat} {Q : Option Value → zz_H → Prop}  (k : zz_E zp_P zt_tf zt_fd X d zm_323 213 [] [] (mH h s) Q) : zz_E zp_P zt_tf zt_fd X d zm_323 122 [] [] (mH h s) Q := by
  refine zz_E.n 213 rfl rfl rfl ?_
  exact zz_E.weak k rfl trivial
theorem mb_323_125 {X : Nat → Option zz_C} {h : zz_H} (hh : 111 ≤ h.length) {s : mS} {d : Nat} {Q : Option Value → zz_H → Prop} {x1 : Int32} {x3 : Int32} {x4 : Int32} (k : zz_E zp_P zt_tf zt_fd X d zm_323 128 [(0, .ref 61), (1, .int x1), (3, .int x3), (4, .int x4), (5, .int 0)] [] (mH h s) Q) : zz_E zp_P zt_tf zt_fd X d zm_323 125 [(0, .ref 61), (1, .int x1), (3, .int x3), (4, .int x4)] [] (mH h s) Q := by
  refine zz_E.c 126 (.int 0) rfl rfl rfl rfl ?_
  refine zz_E.n 128 rfl rfl rfl ?_
  exact zz_E.weak k rfl ⟨rfl, rfl, rfl, rfl, rfl, trivial⟩
theorem mb_323_128 {X : Nat → Option zz_C} {h : zz_H} (hh : 111 ≤ h.length) {s : mS} {d : Nat} {Q : Option Value → zz_H → Prop} {x1 : Int32} {x3 : Int32} {x4 : Int32} {x5 : Int32} (k : zz_E zp_P zt_tf zt_fd X d zm_77 0 [(0, .ref 61), (1, .int x3)] [] (mH h s) (fun v h' => zz_E zp_P zt_tf zt_fd X (d + 1) zm_323 135 [(0, .ref 61), (1, .int x1), (3, .int x3), (4, .int x4), (5, .int x5)] (v.toList ++ [.int x5]) h' Q)) : zz_E zp_P zt_tf zt_fd X (d + 1) zm_323 128 [(0, .ref 61), (1, .int x1), (3, .int x3), (4, .int x4), (5, .int x5)] [] (mH h s) Q := by
  refine zz_E.n 130 rfl rfl rfl ?_
  refine zz_E.n 131 rfl rfl rfl ?_
  refine zz_E.n 132 rfl rfl rfl ?_
  refine mE_cv hh 135 (as := [.int x5]) rfl rfl (Nat.le_of_ble_eq_true rfl) (Nat.le_of_ble_eq_true rfl) rfl (Nat.le_of_ble_eq_true rfl) rfl ?_
  refine zz_E.mono k ?_
  intro v h' hE
  exact zz_E.weak hE rfl ⟨rfl, rfl, rfl, rfl, rfl, trivial⟩
theorem mb_323_135 {X : Nat → Option zz_C} {h : zz_H} (hh : 111 ≤ h.length) {s : mS} {d : Nat} {Q : Option Value → zz_H → Prop} {x1 : Int32} {x3 : Int32} {x4 : Int32} {x5 : Int32} {y0 : Int32} {y1 : Int32} (k1 : y1 ≤ y0 → zz_E zp_P zt_tf zt_fd X d zm_323 206 [(0, .ref 61), (4, .int x4)] [] (mH h s) Q) (k2 : ¬ y1 ≤ y0 → zz_E zp_P zt_tf zt_fd X d zm_323 138 [(0, .ref 61), (1, .int x1), (3, .int x3), (4, .int x4), (5, .int x5)] [] (mH h s) Q) : zz_E zp_P zt_tf zt_fd X d zm_323 135 [(0, .ref 61), (1, .int x1), (3, .int x3), (4, .int x4), (5, .int x5)] [.int y1, .int y0] (mH h s) Q := by
  refine zz_E.b2 206 138 (A := y1 ≤ y0) rfl rfl (by decide) rfl rfl (fun c => ?_) (fun c => ?_)
  · exact zz_E.weak (k1 c) rfl ⟨rfl, rfl, trivial⟩
  · exact zz_E.weak (k2 c) rfl ⟨rfl, rfl, rfl, rfl, rfl, trivial⟩
theorem mb_323_138 {X : Nat → Option zz_C} {h : zz_H} (hh : 111 ≤ h.length) {s : mS} {d : Nat} {Q : Option Value → zz_H → Prop} {x1 : Int32} {x3 : Int32} {x4 : Int32} {x5 : Int32} (k : zz_E zp_P zt_tf zt_fd X d zm_294 0 [(0, .ref 61), (1, .int x3), (2, .int x5)] [] (mH h s) (fun v h' => zz_E zp_P zt_tf zt_fd X (d + 1) zm_323 145 [(0, .ref 61), (1, .int x1), (3, .int x3), (4, .int x4), (5, .int x5)] (v.toList ++ []) h' Q)) : zz_E zp_P zt_tf zt_fd X (d + 1) zm_323 138 [(0, .ref 61), (1, .int x1), (3, .int x3), (4, .int x4), (5, .int x5)] [] (mH h s) Q := by
  refine zz_E.n 139 rfl rfl rfl ?_
  refine zz_E.n 140 rfl rfl rfl ?_
  refine zz_E.n 142 rfl rfl rfl ?_
  refine mE_cv hh 145 (as := []) rfl rfl (Nat.le_of_ble_eq_true rfl) (Nat.le_of_ble_eq_true rfl) rfl (Nat.le_of_ble_eq_true rfl) rfl ?_
  refine zz_E.mono k ?_
  intro v h' hE
  exact zz_E.weak hE rfl ⟨rfl, rfl, rfl, rfl, rfl, trivial⟩
theorem mb_323_145 {X : Nat → Option zz_C} {h : zz_H} (hh : 111 ≤ h.length) {s : mS} {d : Nat} {Q : Option Value → zz_H → Prop} {x1 : Int32} {x3 : Int32} {x4 : Int32} {x5 : Int32} {y0 : Int32} (k : zz_E zp_P zt_tf zt_fd X d zm_323 156 [(0, .ref 61), (1, .int x1), (3, .int x3), (4, .int x4), (5, .int x5), (6, .int y0), (7, .int (s.1 51)), (8, .int 0)] [] (mH h s) Q) : zz_E zp_P zt_tf zt_fd X d zm_323 145 [(0, .ref 61), (1, .int x1), (3, .int x3), (4, .int x4), (5, .int x5)] [.int y0] (mH h s) Q := by
  refine zz_E.n 147 rfl rfl rfl ?_
  refine zz_E.n 148 rfl rfl rfl ?_
  refine mE_g hh 151 (v := .int (s.1 51)) rfl rfl rfl ?_
  refine zz_E.n 153 rfl rfl rfl ?_
  refine zz_E.c 154 (.int 0) rfl rfl rfl rfl ?_
  refine zz_E.n 156 rfl rfl rfl ?_
  exact zz_E.weak k rfl ⟨rfl, rfl, rfl, rfl, rfl, rfl, rfl, rfl, trivial⟩
theorem mb_323_156 {X : Nat → Option zz_C} {h : zz_H} (hh : 111 ≤ h.length) {s : mS} {d : Nat} {Q : Option Value → zz_H → Prop} {x1 : Int32} {x3 : Int32} {x4 : Int32} {x5 : Int32} {x6 : Int32} {x7 : Int32} {x8 : Int32} (k : zz_E zp_P zt_tf zt_fd X d zm_77 0 [(0, .ref 61), (1, .int x6)] [] (mH h s) (fun v h' => zz_E zp_P zt_tf zt_fd X (d + 1) zm_323 164 [(0, .ref 61), (1, .int x1), (3, .int x3), (4, .int x4), (5, .int x5), (6, .int x6), (7, .int x7), (8, .int x8)] (v.toList ++ [.int x8]) h' Q)) : zz_E zp_P zt_tf zt_fd X (d + 1) zm_323 156 [(0, .ref 61), (1, .int x1), (3, .int x3), (4, .int x4), (5, .int x5), (6, .int x6), (7, .int x7), (8, .int x8)] [] (mH h s) Q := by
  refine zz_E.n 158 rfl rfl rfl ?_
  refine zz_E.n 159 rfl rfl rfl ?_
  refine zz_E.n 161 rfl rfl rfl ?_
  refine mE_cv hh 164 (as := [.int x8]) rfl rfl (Nat.le_of_ble_eq_true rfl) (Nat.le_of_ble_eq_true rfl) rfl (Nat.le_of_ble_eq_true rfl) rfl ?_
  refine zz_E.mono k ?_
  intro v h' hE
  exact zz_E.weak hE rfl ⟨rfl, rfl, rfl, rfl, rfl, rfl, rfl, rfl, trivial⟩
theorem mb_323_164 {X : Nat → Option zz_C} {h : zz_H} (hh : 111 ≤ h.length) {s : mS} {d : Nat} {Q : Option Value → zz_H → Prop} {x1 : Int32} {x3 : Int32} {x4 : Int32} {x5 : Int32} {x6 : Int32} {x7 : Int32} {x8 : Int32} {y0 : Int32} {y1 : Int32} (k1 : y1 ≤ y0 → zz_E zp_P zt_tf zt_fd X d zm_323 194 [(0, .ref 61), (1, .int x1), (3, .int x3), (4, .int x4), (5, .int x5), (7, .int x7)] [] (mH h s) Q) (k2 : ¬ y1 ≤ y0 → zz_E zp_P zt_tf zt_fd X d zm_323 167 [(0, .ref 61), (1, .int x1), (3, .int x3), (4, .int x4), (5, .int x5), (6, .int x6), (7, .int x7), (8, .int x8)] [] (mH h s) Q) : zz_E zp_P zt_tf zt_fd X d zm_323 164 [(0, .ref 61), (1, .int x1), (3, .int x3), (4, .int x4), (5, .int x5), (6, .int x6), (7, .int x7), (8, .int x8)] [.int y1, .int y0] (mH h s) Q := by
  refine zz_E.b2 194 167 (A := y1 ≤ y0) rfl rfl (by decide) rfl rfl (fun c => ?_) (fun c => ?_)
  · exact zz_E.weak (k1 c) rfl ⟨rfl, rfl, rfl, rfl, rfl, rfl, trivial⟩
  · exact zz_E.weak (k2 c) rfl ⟨rfl, rfl, rfl, rfl, rfl, rfl, rfl, rfl, trivial⟩
theorem mb_323_167 {X : Nat → Option zz_C} {h : zz_H} (hh : 111 ≤ h.length) {s : mS} {d : Nat} {Q : Option Value → zz_H → Prop} {x1 : Int32} {x3 : Int32} {x4 : Int32} {x5 : Int32} {x6 : Int32} {x7 : Int32} {x8 : Int32} (i181 : ¬ (((x6 + 2) + x8) < 0 ∨ 166300 ≤ Int32.toNatClampNeg ((x6 + 2) + x8))) (k : zz_E zp_P zt_tf zt_fd X d zm_322 0 [(0, .int x1), (1, .int ((s.2.2.1 47) (Int32.toNatClampNeg ((x6 + 2) + x8))))] [] (mH h s) (fun v h' => zz_E zp_P zt_tf zt_fd X (d + 1) zm_323 185 [(0, .ref 61), (1, .int x1), (3, .int x3), (4, .int x4), (5, .int x5), (6, .int x6), (7, .int x7), (8, .int x8)] (v.toList ++ [.int 0, .ref 61]) h' Q)) : zz_E zp_P zt_tf zt_fd X (d + 1) zm_323 167 [(0, .ref 61), (1, .int x1), (3, .int x3), (4, .int x4), (5, .int x5), (6, .int x6), (7, .int x7), (8, .int x8)] [] (mH h s) Q := by
  refine zz_E.n 168 rfl rfl rfl ?_
  refine zz_E.c 169 (.int 0) rfl rfl rfl rfl ?_
  refine zz_E.n 170 rfl rfl rfl ?_
  refine zz_E.n 171 rfl rfl rfl ?_
  refine mE_g hh 174 (v := .ref 89) rfl rfl rfl ?_
  refine zz_E.n 176 rfl rfl rfl ?_
  refine zz_E.c 177 (.int 2) rfl rfl rfl rfl ?_
  refine zz_E.n 178 rfl rfl rfl ?_
  refine zz_E.n 180 rfl rfl rfl ?_
  refine zz_E.n 181 rfl rfl rfl ?_
  refine mE_ia hh 182 28 (f := (s.2.2.1 47)) rfl (by decide) rfl rfl i181 rfl ?_
  refine zz_E.cl (M' := zm_322) 185 rfl rfl (by decide) rfl rfl ⟨rfl, Nat.le_of_ble_eq_true rfl⟩ rfl ?_
  refine zz_E.mono k ?_
  intro v h' hE
  exact zz_E.weak hE rfl ⟨rfl, rfl, rfl, rfl, rfl, rfl, rfl, rfl, trivial⟩
theorem mb_323_185 {X : Nat → Option zz_C} {h : zz_H} (hh : 111 ≤ h.length) {s : mS} {d : Nat} {Q : Option Value → zz_H → Prop} {x1 : Int32} {x3 : Int32} {x4 : Int32} {x5 : Int32} {x6 : Int32} {x7 : Int32} {x8 : Int32} {y1 : Int32} {y2 : Int32} (k : zz_E zp_P zt_tf zt_fd X d zm_291 0 [(0, .ref 61), (1, .int y1), (2, .int y2)] [] (mH h s) (fun v h' => zz_E zp_P zt_tf zt_fd X (d + 1) zm_323 188 [(0, .ref 61), (1, .int x1), (3, .int x3), (4, .int x4), (5, .int x5), (6, .int x6), (7, .int x7), (8, .int x8)] (v.toList ++ []) h' Q)) : zz_E zp_P zt_tf zt_fd X (d + 1) zm_323 185 [(0, .ref 61), (1, .int x1), (3, .int x3), (4, .int x4), (5, .int x5), (6, .int x6), (7, .int x7), (8, .int x8)] [.int y2, .int y1, .ref 61] (mH h s) Q := by
  refine mE_cv hh 188 (as := []) rfl rfl (Nat.le_of_ble_eq_true rfl) (Nat.le_of_ble_eq_true rfl) rfl (Nat.le_of_ble_eq_true rfl) rfl ?_
  refine zz_E.mono k ?_
  intro v h' hE
  exact zz_E.weak hE rfl ⟨rfl, rfl, rfl, rfl, rfl, rfl, rfl, rfl, trivial⟩
theorem mb_323_188 {X : Nat → Option zz_C} {h : zz_H} (hh : 111 ≤ h.length) {s : mS} {d : Nat} {Q : Option Value → zz_H → Prop} {x1 : Int32} {x3 : Int32} {x4 : Int32} {x5 : Int32} {x6 : Int32} {x7 : Int32} {x8 : Int32} (k : zz_E zp_P zt_tf zt_fd X d zm_323 156 [(0, .ref 61), (1, .int x1), (3, .int x3), (4, .int x4), (5, .int x5), (6, .int x6), (7, .int x7), (8, .int (x8 + 1))] [] (mH h s) Q) : zz_E zp_P zt_tf zt_fd X d zm_323 188 [(0, .ref 61), (1, .int x1), (3, .int x3), (4, .int x4), (5, .int x5), (6, .int x6), (7, .int x7), (8, .int x8)] [] (mH h s) Q := by
  refine zz_E.n 191 rfl rfl rfl ?_
  refine zz_E.n 156 rfl rfl rfl ?_
  exact zz_E.weak k rfl ⟨rfl, rfl, rfl, rfl, rfl, rfl, rfl, rfl, trivial⟩
theorem mb_323_194 {X : Nat → Option zz_C} {h : zz_H} (hh : 111 ≤ h.length) {s : mS} {d : Nat} {Q : Option Value → zz_H → Prop} {x1 : Int32} {x3 : Int32} {x4 : Int32} {x5 : Int32} {x7 : Int32} (k : zz_E zp_P zt_tf zt_fd X d zm_306 0 [(0, .ref 61), (1, .int x7)] [] (mH h s) (fun v h' => zz_E zp_P zt_tf zt_fd X (d + 1) zm_323 200 [(0, .ref 61), (1, .int x1), (3, .int x3), (4, .int x4), (5, .int x5)] (v.toList ++ []) h' Q)) : zz_E zp_P zt_tf zt_fd X (d + 1) zm_323 194 [(0, .ref 61), (1, .int x1), (3, .int x3), (4, .int x4), (5, .int x5), (7, .int x7)] [] (mH h s) Q := by
  refine zz_E.n 195 rfl rfl rfl ?_
  refine zz_E.n 197 rfl rfl rfl ?_
  refine mE_cv hh 200 (as := []) rfl rfl (Nat.le_of_ble_eq_true rfl) (Nat.le_of_ble_eq_true rfl) rfl (Nat.le_of_ble_eq_true rfl) rfl ?_
  refine zz_E.mono k ?_
  intro v h' hE
  exact zz_E.weak hE rfl ⟨rfl, rfl, rfl, rfl, rfl, trivial⟩
theorem mb_323_200 {X : Nat → Option zz_C} {h : zz_H} (hh : 111 ≤ h.length) {s : mS} {d : Nat} {Q : Option Value → zz_H → Prop} {x1 : Int32} {x3 : Int32} {x4 : Int32} {x5 : Int32} (k : zz_E zp_P zt_tf zt_fd X d zm_323 128 [(0, .ref 61), (1, .int x1), (3, .int x3), (4, .int x4), (5, .int (x5 + 1))] [] (mH h s) Q) : zz_E zp_P zt_tf zt_fd X d zm_323 200 [(0, .ref 61), (1, .int x1), (3, .int x3), (4, .int x4), (5, .int x5)] [] (mH h s) Q := by
  refine zz_E.n 203 rfl rfl rfl ?_
  refine zz_E.n 128 rfl rfl rfl ?_
  exact zz_E.weak k rfl ⟨rfl, rfl, rfl, rfl, rfl, trivial⟩
theorem mb_323_206 {X : Nat → Option zz_C} {h : zz_H} (hh : 111 ≤ h.length) {s : mS} {d : Nat} {Q : Option Value → zz_H → Prop} {x4 : Int32} (k : zz_E zp_P zt_tf zt_fd X d zm_305 0 [(0, .ref 61), (1, .int 2), (2, .int x4)] [] (mH h s) (fun v h' => zz_E zp_P zt_tf zt_fd X (d + 1) zm_323 213 [] (v.toList ++ []) h' Q)) : zz_E zp_P zt_tf zt_fd X (d + 1) zm_323 206 [(0, .ref 61), (4, .int x4)] [] (mH h s) Q := by
  refine zz_E.n 207 rfl rfl rfl ?_
  refine zz_E.c 208 (.int 2) rfl rfl rfl rfl ?_
  refine zz_E.n 210 rfl rfl rfl ?_
  refine mE_cv hh 213 (as := []) rfl rfl (Nat.le_of_ble_eq_true rfl) (Nat.le_of_ble_eq_true rfl) rfl (Nat.le_of_ble_eq_true rfl) rfl ?_
  refine zz_E.mono k ?_
  intro v h' hE
  exact zz_E.weak hE rfl trivial
theorem mb_323_213 {X : Nat → Option zz_C} {h : zz_H} (hh : 111 ≤ h.length) {s : mS} {d : Nat} {Q : Option Value → zz_H → Prop}  (k : Q none (mH h s)) : zz_E zp_P zt_tf zt_fd X d zm_323 213 [] [] (mH h s) Q := by
  refine zz_E.ret rfl rfl rfl ?_
  exact k
def mf_323_213 (N : Nat)  (s : mS) : mO := some (s, none)
theorem mr_323_213 {X : Nat → Option zz_C} {h : zz_H} (hh : 111 ≤ h.length) {d : Nat} {N : Nat} {Q : Option Value → zz_H → Prop}  {s s' : mS} {v : Option Value} (hf : mf_323_213 N  s = some (s', v)) (k : Q v (mH h s')) : zz_E zp_P zt_tf zt_fd X (d + 4) zm_323 213 [] [] (mH h s) Q := by
  unfold mf_323_213 at hf
  cases hf
  exact mb_323_213 hh  k
def mf_323_206 (N : Nat) (x4 : Int32) (s : mS) : mO := mo_bv (mf_305 N 2 x4 s) (fun s1 => mf_323_213 N  s1)
theorem mr_323_206 {X : Nat → Option zz_C} {h : zz_H} (hh : 111 ≤ h.length) {d : Nat} {N : Nat} {Q : Option Value → zz_H → Prop} {x4 : Int32} {s s' : mS} {v : Option Value} (hf : mf_323_206 N x4 s = some (s', v)) (k : Q v (mH h s')) : zz_E zp_P zt_tf zt_fd X (d + 4) zm_323 206 [(0, .ref 61), (4, .int x4)] [] (mH h s) Q := by
  unfold mf_323_206 at hf
  obtain ⟨s1, e, hf⟩ := mo_bv_ok hf
  exact mb_323_206 (d := d + 3) hh  (mr_305 (d := d + 0) hh e (mr_323_213 hh hf k))
def mf_323_188 (N : Nat) (rc : Nat → Int32 → Int32 → Int32 → Int32 → Int32 → Int32 → Int32 → mS → mO) (x1 : Int32) (x3 : Int32) (x4 : Int32) (x5 : Int32) (x6 : Int32) (x7 : Int32) (x8 : Int32) (s : mS) : mO := rc 1 x1 x3 x4 x5 x6 x7 (x8 + 1) s
theorem mr_323_188 {X : Nat → Option zz_C} {h : zz_H} (hh : 111 ≤ h.length) {d : Nat} {N : Nat} {rc : Nat → Int32 → Int32 → Int32 → Int32 → Int32 → Int32 → Int32 → mS → mO} (hrc0 : ∀ {Q : Option Value → zz_H → Prop} {x1 : Int32} {x3 : Int32} {x4 : Int32} {x5 : Int32} {s s' : mS} {v : Option Value}, rc 0 x1 x3 x4 x5 0 0 0 s = some (s', v) → Q v (mH h s') → zz_E zp_P zt_tf zt_fd X (d + 4) zm_323 128 [(0, .ref 61), (1, .int x1), (3, .int x3), (4, .int x4), (5, .int x5)] [] (mH h s) Q) (hrc1 : ∀ {Q : Option Value → zz_H → Prop} {x1 : Int32} {x3 : Int32} {x4 : Int32} {x5 : Int32} {x6 : Int32} {x7 : Int32} {x8 : Int32} {s s' : mS} {v : Option Value}, rc 1 x1 x3 x4 x5 x6 x7 x8 s = some (s', v) → Q v (mH h s') → zz_E zp_P zt_tf zt_fd X (d + 4) zm_323 156 [(0, .ref 61), (1, .int x1), (3, .int x3), (4, .int x4), (5, .int x5), (6, .int x6), (7, .int x7), (8, .int x8)] [] (mH h s) Q) {Q : Option Value → zz_H → Prop} {x1 : Int32} {x3 : Int32} {x4 : Int32} {x5 : Int32} {x6 : Int32} {x7 : Int32} {x8 : Int32} {s s' : mS} {v : Option Value} (hf : mf_323_188 N rc x1 x3 x4 x5 x6 x7 x8 s = some (s', v)) (k : Q v (mH h s')) : zz_E zp_P zt_tf zt_fd X (d + 4) zm_323 188 [(0, .ref 61), (1, .int x1), (3, .int x3), (4, .int x4), (5, .int x5), (6, .int x6), (7, .int x7), (8, .int x8)] [] (mH h s) Q := by
  unfold mf_323_188 at hf
  exact mb_323_188 hh  (hrc1 hf k)
def mf_323_185 (N : Nat) (rc : Nat → Int32 → Int32 → Int32 → Int32 → Int32 → Int32 → Int32 → mS → mO) (x1 : Int32) (x3 : Int32) (x4 : Int32) (x5 : Int32) (x6 : Int32) (x7 : Int32) (x8 : Int32) (y1 : Int32) (y2 : Int32) (s : mS) : mO := mo_bv (mf_291 N y1 y2 s) (fun s1 => mf_323_188 N rc x1 x3 x4 x5 x6 x7 x8 s1)
theorem mr_323_185 {X : Nat → Option zz_C} {h : zz_H} (hh : 111 ≤ h.length) {d : Nat} {N : Nat} {rc : Nat → Int32 → Int32 → Int32 → Int32 → Int32 → Int32 → Int32 → mS → mO} (hrc0 : ∀ {Q : Option Value → zz_H → Prop} {x1 : Int32} {x3 : Int32} {x4 : Int32} {x5 : Int32} {s s' : mS} {v : Option Value}, rc 0 x1 x3 x4 x5 0 0 0 s = some (s', v) → Q v (mH h s') → zz_E zp_P zt_tf zt_fd X (d + 4) zm_323 128 [(0, .ref 61), (1, .int x1), (3, .int x3), (4, .int x4), (5, .int x5)] [] (mH h s) Q) (hrc1 : ∀ {Q : Option Value → zz_H → Prop} {x1 : Int32} {x3 : Int32} {x4 : Int32} {x5 : Int32} {x6 : Int32} {x7 : Int32} {x8 : Int32} {s s' : mS} {v : Option Value}, rc 1 x1 x3 x4 x5 x6 x7 x8 s = some (s', v) → Q v (mH h s') → zz_E zp_P zt_tf zt_fd X (d + 4) zm_323 156 [(0, .ref 61), (1, .int x1), (3, .int x3), (4, .int x4), (5, .int x5), (6, .int x6), (7, .int x7), (8, .int x8)] [] (mH h s) Q) {Q : Option Value → zz_H → Prop} {x1 : Int32} {x3 : Int32} {x4 : Int32} {x5 : Int32} {x6 : Int32} {x7 : Int32} {x8 : Int32} {y1 : Int32} {y2 : Int32} {s s' : mS} {v : Option Value} (hf : mf_323_185 N rc x1 x3 x4 x5 x6 x7 x8 y1 y2 s = some (s', v)) (k : Q v (mH h s')) : zz_E zp_P zt_tf zt_fd X (d + 4) zm_323 185 [(0, .ref 61), (1, .int x1), (3, .int x3), (4, .int x4), (5, .int x5), (6, .int x6), (7, .int x7), (8, .int x8)] [.int y2, .int y1, .ref 61] (mH h s) Q := by
  unfold mf_323_185 at hf
  obtain ⟨s1, e, hf⟩ := mo_bv_ok hf
  exact mb_323_185 (d := d + 3) hh  (mr_291 (d := d + 3) hh e (mr_323_188 hh hrc0 hrc1 hf k))
def mf_323_167 (N : Nat) (rc : Nat → Int32 → Int32 → Int32 → Int32 → Int32 → Int32 → Int32 → mS → mO) (x1 : Int32) (x3 : Int32) (x4 : Int32) (x5 : Int32) (x6 : Int32) (x7 : Int32) (x8 : Int32) (s : mS) : mO := if ¬ (((x6 + 2) + x8) < 0 ∨ 166300 ≤ Int32.toNatClampNeg ((x6 + 2) + x8)) then (mo_bi (mf_322 N x1 ((s.2.2.1 47) (Int32.toNatClampNeg ((x6 + 2) + x8))) s) (fun s1 y => mf_323_185 N rc x1 x3 x4 x5 x6 x7 x8 0 y s1)) else none
theorem mr_323_167 {X : Nat → Option zz_C} {h : zz_H} (hh : 111 ≤ h.length) {d : Nat} {N : Nat} {rc : Nat → Int32 → Int32 → Int32 → Int32 → Int32 → Int32 → Int32 → mS → mO} (hrc0 : ∀ {Q : Option Value → zz_H → Prop} {x1 : Int32} {x3 : Int32} {x4 : Int32} {x5 : Int32} {s s' : mS} {v : Option Value}, rc 0 x1 x3 x4 x5 0 0 0 s = some (s', v) → Q v (mH h s') → zz_E zp_P zt_tf zt_fd X (d + 4) zm_323 128 [(0, .ref 61), (1, .int x1), (3, .int x3), (4, .int x4), (5, .int x5)] [] (mH h s) Q) (hrc1 : ∀ {Q : Option Value → zz_H → Prop} {x1 : Int32} {x3 : Int32} {x4 : Int32} {x5 : Int32} {x6 : Int32} {x7 : Int32} {x8 : Int32} {s s' : mS} {v : Option Value}, rc 1 x1 x3 x4 x5 x6 x7 x8 s = some (s', v) → Q v (mH h s') → zz_E zp_P zt_tf zt_fd X (d + 4) zm_323 156 [(0, .ref 61), (1, .int x1), (3, .int x3), (4, .int x4), (5, .int x5), (6, .int x6), (7, .int x7), (8, .int x8)] [] (mH h s) Q) {Q : Option Value → zz_H → Prop} {x1 : Int32} {x3 : Int32} {x4 : Int32} {x5 : Int32} {x6 : Int32} {x7 : Int32} {x8 : Int32} {s s' : mS} {v : Option Value} (hf : mf_323_167 N rc x1 x3 x4 x5 x6 x7 x8 s = some (s', v)) (k : Q v (mH h s')) : zz_E zp_P zt_tf zt_fd X (d + 4) zm_323 167 [(0, .ref 61), (1, .int x1), (3, .int x3), (4, .int x4), (5, .int x5), (6, .int x6), (7, .int x7), (8, .int x8)] [] (mH h s) Q := by
  unfold mf_323_167 at hf
  obtain ⟨q0, hf⟩ := mo_if hf
  obtain ⟨s1, y, e, hf⟩ := mo_bi_ok hf
  exact mb_323_167 (d := d + 3) hh q0 (mr_322 (d := d + 3) hh e (mr_323_185 hh hrc0 hrc1 hf k))
def mf_323_200 (N : Nat) (rc : Nat → Int32 → Int32 → Int32 → Int32 → Int32 → Int32 → Int32 → mS → mO) (x1 : Int32) (x3 : Int32) (x4 : Int32) (x5 : Int32) (s : mS) : mO := rc 0 x1 x3 x4 (x5 + 1) 0 0 0 s
theorem mr_323_200 {X : Nat → Option zz_C} {h : zz_H} (hh : 111 ≤ h.length) {d : Nat} {N : Nat} {rc : Nat → Int32 → Int32 → Int32 → Int32 → Int32 → Int32 → Int32 → mS → mO} (hrc0 : ∀ {Q : Option Value → zz_H → Prop} {x1 : Int32} {x3 : Int32} {x4 : Int32} {x5 : Int32} {s s' : mS} {v : Option Value}, rc 0 x1 x3 x4 x5 0 0 0 s = some (s', v) → Q v (mH h s') → zz_E zp_P zt_tf zt_fd X (d + 4) zm_323 128 [(0, .ref 61), (1, .int x1), (3, .int x3), (4, .int x4), (5, .int x5)] [] (mH h s) Q) (hrc1 : ∀ {Q : Option Value → zz_H → Prop} {x1 : Int32} {x3 : Int32} {x4 : Int32} {x5 : Int32} {x6 : Int32} {x7 : Int32} {x8 : Int32} {s s' : mS} {v : Option Value}, rc 1 x1 x3 x4 x5 x6 x7 x8 s = some (s', v) → Q v (mH h s') → zz_E zp_P zt_tf zt_fd X (d + 4) zm_323 156 [(0, .ref 61), (1, .int x1), (3, .int x3), (4, .int x4), (5, .int x5), (6, .int x6), (7, .int x7), (8, .int x8)] [] (mH h s) Q) {Q : Option Value → zz_H → Prop} {x1 : Int32} {x3 : Int32} {x4 : Int32} {x5 : Int32} {s s' : mS} {v : Option Value} (hf : mf_323_200 N rc x1 x3 x4 x5 s = some (s', v)) (k : Q v (mH h s')) : zz_E zp_P zt_tf zt_fd X (d + 4) zm_323 200 [(0, .ref 61), (1, .int x1), (3, .int x3), (4, .int x4), (5, .int x5)] [] (mH h s) Q := by
  unfold mf_323_200 at hf
  exact mb_323_200 hh  (hrc0 hf k)
def mf_323_194 (N : Nat) (rc : Nat → Int32 → Int32 → Int32 → Int32 → Int32 → Int32 → Int32 → mS → mO) (x1 : Int32) (x3 : Int32) (x4 : Int32) (x5 : Int32) (x7 : Int32) (s : mS) : mO := mo_bv (mf_306 N x7 s) (fun s1 => mf_323_200 N rc x1 x3 x4 x5 s1)
theorem mr_323_194 {X : Nat → Option zz_C} {h : zz_H} (hh : 111 ≤ h.length) {d : Nat} {N : Nat} {rc : Nat → Int32 → Int32 → Int32 → Int32 → Int32 → Int32 → Int32 → mS → mO} (hrc0 : ∀ {Q : Option Value → zz_H → Prop} {x1 : Int32} {x3 : Int32} {x4 : Int32} {x5 : Int32} {s s' : mS} {v : Option Value}, rc 0 x1 x3 x4 x5 0 0 0 s = some (s', v) → Q v (mH h s') → zz_E zp_P zt_tf zt_fd X (d + 4) zm_323 128 [(0, .ref 61), (1, .int x1), (3, .int x3), (4, .int x4), (5, .int x5)] [] (mH h s) Q) (hrc1 : ∀ {Q : Option Value → zz_H → Prop} {x1 : Int32} {x3 : Int32} {x4 : Int32} {x5 : Int32} {x6 : Int32} {x7 : Int32} {x8 : Int32} {s s' : mS} {v : Option Value}, rc 1 x1 x3 x4 x5 x6 x7 x8 s = some (s', v) → Q v (mH h s') → zz_E zp_P zt_tf zt_fd X (d + 4) zm_323 156 [(0, .ref 61), (1, .int x1), (3, .int x3), (4, .int x4), (5, .int x5), (6, .int x6), (7, .int x7), (8, .int x8)] [] (mH h s) Q) {Q : Option Value → zz_H → Prop} {x1 : Int32} {x3 : Int32} {x4 : Int32} {x5 : Int32} {x7 : Int32} {s s' : mS} {v : Option Value} (hf : mf_323_194 N rc x1 x3 x4 x5 x7 s = some (s', v)) (k : Q v (mH h s')) : zz_E zp_P zt_tf zt_fd X (d + 4) zm_323 194 [(0, .ref 61), (1, .int x1), (3, .int x3), (4, .int x4), (5, .int x5), (7, .int x7)] [] (mH h s) Q := by
  unfold mf_323_194 at hf
  obtain ⟨s1, e, hf⟩ := mo_bv_ok hf
  exact mb_323_194 (d := d + 3) hh  (mr_306 (d := d + 2) hh e (mr_323_200 hh hrc0 hrc1 hf k))
def mf_323_164 (N : Nat) (rc : Nat → Int32 → Int32 → Int32 → Int32 → Int32 → Int32 → Int32 → mS → mO) (x1 : Int32) (x3 : Int32) (x4 : Int32) (x5 : Int32) (x6 : Int32) (x7 : Int32) (x8 : Int32) (y0 : Int32) (y1 : Int32) (s : mS) : mO := if y1 ≤ y0 then mf_323_194 N rc x1 x3 x4 x5 x7 s else mf_323_167 N rc x1 x3 x4 x5 x6 x7 x8 s
theorem mr_323_164 {X : Nat → Option zz_C} {h : zz_H} (hh : 111 ≤ h.length) {d : Nat} {N : Nat} {rc : Nat → Int32 → Int32 → Int32 → Int32 → Int32 → Int32 → Int32 → mS → mO} (hrc0 : ∀ {Q : Option Value → zz_H → Prop} {x1 : Int32} {x3 : Int32} {x4 : Int32} {x5 : Int32} {s s' : mS} {v : Option Value}, rc 0 x1 x3 x4 x5 0 0 0 s = some (s', v) → Q v (mH h s') → zz_E zp_P zt_tf zt_fd X (d + 4) zm_323 128 [(0, .ref 61), (1, .int x1), (3, .int x3), (4, .int x4), (5, .int x5)] [] (mH h s) Q) (hrc1 : ∀ {Q : Option Value → zz_H → Prop} {x1 : Int32} {x3 : Int32} {x4 : Int32} {x5 : Int32} {x6 : Int32} {x7 : Int32} {x8 : Int32} {s s' : mS} {v : Option Value}, rc 1 x1 x3 x4 x5 x6 x7 x8 s = some (s', v) → Q v (mH h s') → zz_E zp_P zt_tf zt_fd X (d + 4) zm_323 156 [(0, .ref 61), (1, .int x1), (3, .int x3), (4, .int x4), (5, .int x5), (6, .int x6), (7, .int x7), (8, .int x8)] [] (mH h s) Q) {Q : Option Value → zz_H → Prop} {x1 : Int32} {x3 : Int32} {x4 : Int32} {x5 : Int32} {x6 : Int32} {x7 : Int32} {x8 : Int32} {y0 : Int32} {y1 : Int32} {s s' : mS} {v : Option Value} (hf : mf_323_164 N rc x1 x3 x4 x5 x6 x7 x8 y0 y1 s = some (s', v)) (k : Q v (mH h s')) : zz_E zp_P zt_tf zt_fd X (d + 4) zm_323 164 [(0, .ref 61), (1, .int x1), (3, .int x3), (4, .int x4), (5, .int x5), (6, .int x6), (7, .int x7), (8, .int x8)] [.int y1, .int y0] (mH h s) Q := by
  unfold mf_323_164 at hf
  refine mb_323_164 hh  (fun c => ?_) (fun c => ?_)
  · rw [if_pos c] at hf
    exact mr_323_194 hh hrc0 hrc1 hf k
  · rw [if_neg c] at hf
    exact mr_323_167 hh hrc0 hrc1 hf k
def mf_323_156 (N : Nat) (rc : Nat → Int32 → Int32 → Int32 → Int32 → Int32 → Int32 → Int32 → mS → mO) (x1 : Int32) (x3 : Int32) (x4 : Int32) (x5 : Int32) (x6 : Int32) (x7 : Int32) (x8 : Int32) (s : mS) : mO := mo_bi (mf_77 N x6 s) (fun s1 y => mf_323_164 N rc x1 x3 x4 x5 x6 x7 x8 x8 y s1)
theorem mr_323_156 {X : Nat → Option zz_C} {h : zz_H} (hh : 111 ≤ h.length) {d : Nat} {N : Nat} {rc : Nat → Int32 → Int32 → Int32 → Int32 → Int32 → Int32 → Int32 → mS → mO} (hrc0 : ∀ {Q : Option Value → zz_H → Prop} {x1 : Int32} {x3 : Int32} {x4 : Int32} {x5 : Int32} {s s' : mS} {v : Option Value}, rc 0 x1 x3 x4 x5 0 0 0 s = some (s', v) → Q v (mH h s') → zz_E zp_P zt_tf zt_fd X (d + 4) zm_323 128 [(0, .ref 61), (1, .int x1), (3, .int x3), (4, .int x4), (5, .int x5)] [] (mH h s) Q) (hrc1 : ∀ {Q : Option Value → zz_H → Prop} {x1 : Int32} {x3 : Int32} {x4 : Int32} {x5 : Int32} {x6 : Int32} {x7 : Int32} {x8 : Int32} {s s' : mS} {v : Option Value}, rc 1 x1 x3 x4 x5 x6 x7 x8 s = some (s', v) → Q v (mH h s') → zz_E zp_P zt_tf zt_fd X (d + 4) zm_323 156 [(0, .ref 61), (1, .int x1), (3, .int x3), (4, .int x4), (5, .int x5), (6, .int x6), (7, .int x7), (8, .int x8)] [] (mH h s) Q) {Q : Option Value → zz_H → Prop} {x1 : Int32} {x3 : Int32} {x4 : Int32} {x5 : Int32} {x6 : Int32} {x7 : Int32} {x8 : Int32} {s s' : mS} {v : Option Value} (hf : mf_323_156 N rc x1 x3 x4 x5 x6 x7 x8 s = some (s', v)) (k : Q v (mH h s')) : zz_E zp_P zt_tf zt_fd X (d + 4) zm_323 156 [(0, .ref 61), (1, .int x1), (3, .int x3), (4, .int x4), (5, .int x5), (6, .int x6), (7, .int x7), (8, .int x8)] [] (mH h s) Q := by
  unfold mf_323_156 at hf
  obtain ⟨s1, y, e, hf⟩ := mo_bi_ok hf
  exact mb_323_156 (d := d + 3) hh  (mr_77 (d := d + 3) hh e (mr_323_164 hh hrc0 hrc1 hf k))
def mf_323_145 (N : Nat) (rc : Nat → Int32 → Int32 → Int32 → Int32 → Int32 → Int32 → Int32 → mS → mO) (x1 : Int32) (x3 : Int32) (x4 : Int32) (x5 : Int32) (y0 : Int32) (s : mS) : mO := rc 1 x1 x3 x4 x5 y0 (s.1 51) 0 s
theorem mr_323_145 {X : Nat → Option zz_C} {h : zz_H} (hh : 111 ≤ h.length) {d : Nat} {N : Nat} {rc : Nat → Int32 → Int32 → Int32 → Int32 → Int32 → Int32 → Int32 → mS → mO} (hrc0 : ∀ {Q : Option Value → zz_H → Prop} {x1 : Int32} {x3 : Int32} {x4 : Int32} {x5 : Int32} {s s' : mS} {v : Option Value}, rc 0 x1 x3 x4 x5 0 0 0 s = some (s', v) → Q v (mH h s') → zz_E zp_P zt_tf zt_fd X (d + 4) zm_323 128 [(0, .ref 61), (1, .int x1), (3, .int x3), (4, .int x4), (5, .int x5)] [] (mH h s) Q) (hrc1 : ∀ {Q : Option Value → zz_H → Prop} {x1 : Int32} {x3 : Int32} {x4 : Int32} {x5 : Int32} {x6 : Int32} {x7 : Int32} {x8 : Int32} {s s' : mS} {v : Option Value}, rc 1 x1 x3 x4 x5 x6 x7 x8 s = some (s', v) → Q v (mH h s') → zz_E zp_P zt_tf zt_fd X (d + 4) zm_323 156 [(0, .ref 61), (1, .int x1), (3, .int x3), (4, .int x4), (5, .int x5), (6, .int x6), (7, .int x7), (8, .int x8)] [] (mH h s) Q) {Q : Option Value → zz_H → Prop} {x1 : Int32} {x3 : Int32} {x4 : Int32} {x5 : Int32} {y0 : Int32} {s s' : mS} {v : Option Value} (hf : mf_323_145 N rc x1 x3 x4 x5 y0 s = some (s', v)) (k : Q v (mH h s')) : zz_E zp_P zt_tf zt_fd X (d + 4) zm_323 145 [(0, .ref 61), (1, .int x1), (3, .int x3), (4, .int x4), (5, .int x5)] [.int y0] (mH h s) Q := by
  unfold mf_323_145 at hf
  exact mb_323_145 hh  (hrc1 hf k)
def mf_323_138 (N : Nat) (rc : Nat → Int32 → Int32 → Int32 → Int32 → Int32 → Int32 → Int32 → mS → mO) (x1 : Int32) (x3 : Int32) (x4 : Int32) (x5 : Int32) (s : mS) : mO := mo_bi (mf_294 N x3 x5 s) (fun s1 y => mf_323_145 N rc x1 x3 x4 x5 y s1)
theorem mr_323_138 {X : Nat → Option zz_C} {h : zz_H} (hh : 111 ≤ h.length) {d : Nat} {N : Nat} {rc : Nat → Int32 → Int32 → Int32 → Int32 → Int32 → Int32 → Int32 → mS → mO} (hrc0 : ∀ {Q : Option Value → zz_H → Prop} {x1 : Int32} {x3 : Int32} {x4 : Int32} {x5 : Int32} {s s' : mS} {v : Option Value}, rc 0 x1 x3 x4 x5 0 0 0 s = some (s', v) → Q v (mH h s') → zz_E zp_P zt_tf zt_fd X (d + 4) zm_323 128 [(0, .ref 61), (1, .int x1), (3, .int x3), (4, .int x4), (5, .int x5)] [] (mH h s) Q) (hrc1 : ∀ {Q : Option Value → zz_H → Prop} {x1 : Int32} {x3 : Int32} {x4 : Int32} {x5 : Int32} {x6 : Int32} {x7 : Int32} {x8 : Int32} {s s' : mS} {v : Option Value}, rc 1 x1 x3 x4 x5 x6 x7 x8 s = some (s', v) → Q v (mH h s') → zz_E zp_P zt_tf zt_fd X (d + 4) zm_323 156 [(0, .ref 61), (1, .int x1), (3, .int x3), (4, .int x4), (5, .int x5), (6, .int x6), (7, .int x7), (8, .int x8)] [] (mH h s) Q) {Q : Option Value → zz_H → Prop} {x1 : Int32} {x3 : Int32} {x4 : Int32} {x5 : Int32} {s s' : mS} {v : Option Value} (hf : mf_323_138 N rc x1 x3 x4 x5 s = some (s', v)) (k : Q v (mH h s')) : zz_E zp_P zt_tf zt_fd X (d + 4) zm_323 138 [(0, .ref 61), (1, .int x1), (3, .int x3), (4, .int x4), (5, .int x5)] [] (mH h s) Q := by
  unfold mf_323_138 at hf
  obtain ⟨s1, y, e, hf⟩ := mo_bi_ok hf
  exact mb_323_138 (d := d + 3) hh  (mr_294 (d := d + 3) hh e (mr_323_145 hh hrc0 hrc1 hf k))
def mf_323_135 (N : Nat) (rc : Nat → Int32 → Int32 → Int32 → Int32 → Int32 → Int32 → Int32 → mS → mO) (x1 : Int32) (x3 : Int32) (x4 : Int32) (x5 : Int32) (y0 : Int32) (y1 : Int32) (s : mS) : mO := if y1 ≤ y0 then mf_323_206 N x4 s else mf_323_138 N rc x1 x3 x4 x5 s
theorem mr_323_135 {X : Nat → Option zz_C} {h : zz_H} (hh : 111 ≤ h.length) {d : Nat} {N : Nat} {rc : Nat → Int32 → Int32 → Int32 → Int32 → Int32 → Int32 → Int32 → mS → mO} (hrc0 : ∀ {Q : Option Value → zz_H → Prop} {x1 : Int32} {x3 : Int32} {x4 : Int32} {x5 : Int32} {s s' : mS} {v : Option Value}, rc 0 x1 x3 x4 x5 0 0 0 s = some (s', v) → Q v (mH h s') → zz_E zp_P zt_tf zt_fd X (d + 4) zm_323 128 [(0, .ref 61), (1, .int x1), (3, .int x3), (4, .int x4), (5, .int x5)] [] (mH h s) Q) (hrc1 : ∀ {Q : Option Value → zz_H → Prop} {x1 : Int32} {x3 : Int32} {x4 : Int32} {x5 : Int32} {x6 : Int32} {x7 : Int32} {x8 : Int32} {s s' : mS} {v : Option Value}, rc 1 x1 x3 x4 x5 x6 x7 x8 s = some (s', v) → Q v (mH h s') → zz_E zp_P zt_tf zt_fd X (d + 4) zm_323 156 [(0, .ref 61), (1, .int x1), (3, .int x3), (4, .int x4), (5, .int x5), (6, .int x6), (7, .int x7), (8, .int x8)] [] (mH h s) Q) {Q : Option Value → zz_H → Prop} {x1 : Int32} {x3 : Int32} {x4 : Int32} {x5 : Int32} {y0 : Int32} {y1 : Int32} {s s' : mS} {v : Option Value} (hf : mf_323_135 N rc x1 x3 x4 x5 y0 y1 s = some (s', v)) (k : Q v (mH h s')) : zz_E zp_P zt_tf zt_fd X (d + 4) zm_323 135 [(0, .ref 61), (1, .int x1), (3, .int x3), (4, .int x4), (5, .int x5)] [.int y1, .int y0] (mH h s) Q := by
  unfold mf_323_135 at hf
  refine mb_323_135 hh  (fun c => ?_) (fun c => ?_)
  · rw [if_pos c] at hf
    exact mr_323_206 hh hf k
  · rw [if_neg c] at hf
    exact mr_323_138 hh hrc0 hrc1 hf k
def mf_323_128 (N : Nat) (rc : Nat → Int32 → Int32 → Int32 → Int32 → Int32 → Int32 → Int32 → mS → mO) (x1 : Int32) (x3 : Int32) (x4 : Int32) (x5 : Int32) (s : mS) : mO := mo_bi (mf_77 N x3 s) (fun s1 y => mf_323_135 N rc x1 x3 x4 x5 x5 y s1)
theorem mr_323_128 {X : Nat → Option zz_C} {h : zz_H} (hh : 111 ≤ h.length) {d : Nat} {N : Nat} {rc : Nat → Int32 → Int32 → Int32 → Int32 → Int32 → Int32 → Int32 → mS → mO} (hrc0 : ∀ {Q : Option Value → zz_H → Prop} {x1 : Int32} {x3 : Int32} {x4 : Int32} {x5 : Int32} {s s' : mS} {v : Option Value}, rc 0 x1 x3 x4 x5 0 0 0 s = some (s', v) → Q v (mH h s') → zz_E zp_P zt_tf zt_fd X (d + 4) zm_323 128 [(0, .ref 61), (1, .int x1), (3, .int x3), (4, .int x4), (5, .int x5)] [] (mH h s) Q) (hrc1 : ∀ {Q : Option Value → zz_H → Prop} {x1 : Int32} {x3 : Int32} {x4 : Int32} {x5 : Int32} {x6 : Int32} {x7 : Int32} {x8 : Int32} {s s' : mS} {v : Option Value}, rc 1 x1 x3 x4 x5 x6 x7 x8 s = some (s', v) → Q v (mH h s') → zz_E zp_P zt_tf zt_fd X (d + 4) zm_323 156 [(0, .ref 61), (1, .int x1), (3, .int x3), (4, .int x4), (5, .int x5), (6, .int x6), (7, .int x7), (8, .int x8)] [] (mH h s) Q) {Q : Option Value → zz_H → Prop} {x1 : Int32} {x3 : Int32} {x4 : Int32} {x5 : Int32} {s s' : mS} {v : Option Value} (hf : mf_323_128 N rc x1 x3 x4 x5 s = some (s', v)) (k : Q v (mH h s')) : zz_E zp_P zt_tf zt_fd X (d + 4) zm_323 128 [(0, .ref 61), (1, .int x1), (3, .int x3), (4, .int x4), (5, .int x5)] [] (mH h s) Q := by
  unfold mf_323_128 at hf
  obtain ⟨s1, y, e, hf⟩ := mo_bi_ok hf
  exact mb_323_128 (d := d + 3) hh  (mr_77 (d := d + 3) hh e (mr_323_135 hh hrc0 hrc1 hf k))
def mf_323_L2 (N : Nat) : Nat → Nat → Int32 → Int32 → Int32 → Int32 → Int32 → Int32 → Int32 → mS → mO
  | 0, _, _, _, _, _, _, _, _, _ => none
  | n + 1, l, x1, x3, x4, x5, x6, x7, x8, s => if l = 0 then mf_323_128 N (mf_323_L2 N n) x1 x3 x4 x5 s else if l = 1 then mf_323_156 N (mf_323_L2 N n) x1 x3 x4 x5 x6 x7 x8 s else none
theorem mr_323_L2 {X : Nat → Option zz_C} {h : zz_H} (hh : 111 ≤ h.length) {d : Nat} {N : Nat} : ∀ n : Nat, (∀ {Q : Option Value → zz_H → Prop} {x1 : Int32} {x3 : Int32} {x4 : Int32} {x5 : Int32} {s s' : mS} {v : Option Value}, mf_323_L2 N n 0 x1 x3 x4 x5 0 0 0 s = some (s', v) → Q v (mH h s') → zz_E zp_P zt_tf zt_fd X (d + 4) zm_323 128 [(0, .ref 61), (1, .int x1), (3, .int x3), (4, .int x4), (5, .int x5)] [] (mH h s) Q) ∧ (∀ {Q : Option Value → zz_H → Prop} {x1 : Int32} {x3 : Int32} {x4 : Int32} {x5 : Int32} {x6 : Int32} {x7 : Int32} {x8 : Int32} {s s' : mS} {v : Option Value}, mf_323_L2 N n 1 x1 x3 x4 x5 x6 x7 x8 s = some (s', v) → Q v (mH h s') → zz_E zp_P zt_tf zt_fd X (d + 4) zm_323 156 [(0, .ref 61), (1, .int x1), (3, .int x3), (4, .int x4), (5, .int x5), (6, .int x6), (7, .int x7), (8, .int x8)] [] (mH h s) Q) := by
  intro n
  induction n with
  | zero => exact ⟨(fun hf _ => by cases hf), (fun hf _ => by cases hf)⟩
  | succ n ih =>
    obtain ⟨h0, h1⟩ := ih
    refine ⟨?_, ?_⟩
    · intro Q _ _ _ _ s s' v hf k
      unfold mf_323_L2 at hf
      rw [if_pos rfl] at hf
      exact mr_323_128 hh h0 h1 hf k
    · intro Q _ _ _ _ _ _ _ s s' v hf k
      unfold mf_323_L2 at hf
      rw [if_neg (by decide)] at hf
      rw [if_pos rfl] at hf
      exact mr_323_156 hh h0 h1 hf k
def mf_323_125 (N : Nat) (x1 : Int32) (x3 : Int32) (x4 : Int32) (s : mS) : mO := mf_323_L2 N N 0 x1 x3 x4 0 0 0 0 s
theorem mr_323_125 {X : Nat → Option zz_C} {h : zz_H} (hh : 111 ≤ h.length) {d : Nat} {N : Nat} {Q : Option Value → zz_H → Prop} {x1 : Int32} {x3 : Int32} {x4 : Int32} {s s' : mS} {v : Option Value} (hf : mf_323_125 N x1 x3 x4 s = some (s', v)) (k : Q v (mH h s')) : zz_E zp_P zt_tf zt_fd X (d + 4) zm_323 125 [(0, .ref 61), (1, .int x1), (3, .int x3), (4, .int x4)] [] (mH h s) Q := by
  unfold mf_323_125 at hf
  exact mb_323_125 hh  ((mr_323_L2 hh N).1 hf k)
def mf_323_122 (N : Nat)  (s : mS) : mO := mf_323_213 N  s
theorem mr_323_122 {X : Nat → Option zz_C} {h : zz_H} (hh : 111 ≤ h.length) {d : Nat} {N : Nat} {Q : Option Value → zz_H → Prop}  {s s' : mS} {v : Option Value} (hf : mf_323_122 N  s = some (s', v)) (k : Q v (mH h s')) : zz_E zp_P zt_tf zt_fd X (d + 4) zm_323 122 [] [] (mH h s) Q := by
  unfold mf_323_122 at hf
  exact mb_323_122 hh  (mr_323_213 hh hf k)
def mf_323_115 (N : Nat) (x4 : Int32) (s : mS) : mO := mo_bv (mf_305 N 1 x4 s) (fun s1 => mf_323_122 N  s1)
theorem mr_323_115 {X : Nat → Option zz_C} {h : zz_H} (hh : 111 ≤ h.length) {d : Nat} {N : Nat} {Q : Option Value → zz_H → Prop} {x4 : Int32} {s s' : mS} {v : Option Value} (hf : mf_323_115 N x4 s = some (s', v)) (k : Q v (mH h s')) : zz_E zp_P zt_tf zt_fd X (d + 4) zm_323 115 [(0, .ref 61), (4, .int x4)] [] (mH h s) Q := by
  unfold mf_323_115 at hf
  obtain ⟨s1, e, hf⟩ := mo_bv_ok hf
  exact mb_323_115 (d := d + 3) hh  (mr_305 (d := d + 0) hh e (mr_323_122 hh hf k))
def mf_323_109 (N : Nat) (rc : Nat → Int32 → Int32 → Int32 → Int32 → mS → mO) (x1 : Int32) (x3 : Int32) (x4 : Int32) (x5 : Int32) (s : mS) : mO := rc 0 x1 x3 x4 (x5 + 1) s
theorem mr_323_109 {X : Nat → Option zz_C} {h : zz_H} (hh : 111 ≤ h.length) {d : Nat} {N : Nat} {rc : Nat → Int32 → Int32 → Int32 → Int32 → mS → mO} (hrc0 : ∀ {Q : Option Value → zz_H → Prop} {x1 : Int32} {x3 : Int32} {x4 : Int32} {x5 : Int32} {s s' : mS} {v : Option Value}, rc 0 x1 x3 x4 x5 s = some (s', v) → Q v (mH h s') → zz_E zp_P zt_tf zt_fd X (d + 4) zm_323 79 [(0, .ref 61), (1, .int x1), (3, .int x3), (4, .int x4), (5, .int x5)] [] (mH h s) Q) {Q : Option Value → zz_H → Prop} {x1 : Int32} {x3 : Int32} {x4 : Int32} {x5 : Int32} {s s' : mS} {v : Option Value} (hf : mf_323_109 N rc x1 x3 x4 x5 s = some (s', v)) (k : Q v (mH h s')) : zz_E zp_P zt_tf zt_fd X (d + 4) zm_323 109 [(0, .ref 61), (1, .int x1), (3, .int x3), (4, .int x4), (5, .int x5)] [] (mH h s) Q := by
  unfold mf_323_109 at hf
  exact mb_323_109 hh  (hrc0 hf k)
def mf_323_106 (N : Nat) (rc : Nat → Int32 → Int32 → Int32 → Int32 → mS → mO) (x1 : Int32) (x3 : Int32) (x4 : Int32) (x5 : Int32) (y1 : Int32) (y2 : Int32) (s : mS) : mO := mo_bv (mf_291 N y1 y2 s) (fun s1 => mf_323_109 N rc x1 x3 x4 x5 s1)
theorem mr_323_106 {X : Nat → Option zz_C} {h : zz_H} (hh : 111 ≤ h.length) {d : Nat} {N : Nat} {rc : Nat → Int32 → Int32 → Int32 → Int32 → mS → mO} (hrc0 : ∀ {Q : Option Value → zz_H → Prop} {x1 : Int32} {x3 : Int32} {x4 : Int32} {x5 : Int32} {s s' : mS} {v : Option Value}, rc 0 x1 x3 x4 x5 s = some (s', v) → Q v (mH h s') → zz_E zp_P zt_tf zt_fd X (d + 4) zm_323 79 [(0, .ref 61), (1, .int x1), (3, .int x3), (4, .int x4), (5, .int x5)] [] (mH h s) Q) {Q : Option Value → zz_H → Prop} {x1 : Int32} {x3 : Int32} {x4 : Int32} {x5 : Int32} {y1 : Int32} {y2 : Int32} {s s' : mS} {v : Option Value} (hf : mf_323_106 N rc x1 x3 x4 x5 y1 y2 s = some (s', v)) (k : Q v (mH h s')) : zz_E zp_P zt_tf zt_fd X (d + 4) zm_323 106 [(0, .ref 61), (1, .int x1), (3, .int x3), (4, .int x4), (5, .int x5)] [.int y2, .int y1, .ref 61] (mH h s) Q := by
  unfold mf_323_106 at hf
  obtain ⟨s1, e, hf⟩ := mo_bv_ok hf
  exact mb_323_106 (d := d + 3) hh  (mr_291 (d := d + 3) hh e (mr_323_109 hh hrc0 hf k))
def mf_323_89 (N : Nat) (rc : Nat → Int32 → Int32 → Int32 → Int32 → mS → mO) (x1 : Int32) (x3 : Int32) (x4 : Int32) (x5 : Int32) (s : mS) : mO := if ¬ (((x3 + 2) + x5) < 0 ∨ 166300 ≤ Int32.toNatClampNeg ((x3 + 2) + x5)) then (mo_bi (mf_322 N x1 ((s.2.2.1 47) (Int32.toNatClampNeg ((x3 + 2) + x5))) s) (fun s1 y => mf_323_106 N rc x1 x3 x4 x5 0 y s1)) else none
theorem mr_323_89 {X : Nat → Option zz_C} {h : zz_H} (hh : 111 ≤ h.length) {d : Nat} {N : Nat} {rc : Nat → Int32 → Int32 → Int32 → Int32 → mS → mO} (hrc0 : ∀ {Q : Option Value → zz_H → Prop} {x1 : Int32} {x3 : Int32} {x4 : Int32} {x5 : Int32} {s s' : mS} {v : Option Value}, rc 0 x1 x3 x4 x5 s = some (s', v) → Q v (mH h s') → zz_E zp_P zt_tf zt_fd X (d + 4) zm_323 79 [(0, .ref 61), (1, .int x1), (3, .int x3), (4, .int x4), (5, .int x5)] [] (mH h s) Q) {Q : Option Value → zz_H → Prop} {x1 : Int32} {x3 : Int32} {x4 : Int32} {x5 : Int32} {s s' : mS} {v : Option Value} (hf : mf_323_89 N rc x1 x3 x4 x5 s = some (s', v)) (k : Q v (mH h s')) : zz_E zp_P zt_tf zt_fd X (d + 4) zm_323 89 [(0, .ref 61), (1, .int x1), (3, .int x3), (4, .int x4), (5, .int x5)] [] (mH h s) Q := by
  unfold mf_323_89 at hf
  obtain ⟨q0, hf⟩ := mo_if hf
  obtain ⟨s1, y, e, hf⟩ := mo_bi_ok hf
  exact mb_323_89 (d := d + 3) hh q0 (mr_322 (d := d + 3) hh e (mr_323_106 hh hrc0 hf k))
def mf_323_86 (N : Nat) (rc : Nat → Int32 → Int32 → Int32 → Int32 → mS → mO) (x1 : Int32) (x3 : Int32) (x4 : Int32) (x5 : Int32) (y0 : Int32) (y1 : Int32) (s : mS) : mO := if y1 ≤ y0 then mf_323_115 N x4 s else mf_323_89 N rc x1 x3 x4 x5 s
theorem mr_323_86 {X : Nat → Option zz_C} {h : zz_H} (hh : 111 ≤ h.length) {d : Nat} {N : Nat} {rc : Nat → Int32 → Int32 → Int32 → Int32 → mS → mO} (hrc0 : ∀ {Q : Option Value → zz_H → Prop} {x1 : Int32} {x3 : Int32} {x4 : Int32} {x5 : Int32} {s s' : mS} {v : Option Value}, rc 0 x1 x3 x4 x5 s = some (s', v) → Q v (mH h s') → zz_E zp_P zt_tf zt_fd X (d + 4) zm_323 79 [(0, .ref 61), (1, .int x1), (3, .int x3), (4, .int x4), (5, .int x5)] [] (mH h s) Q) {Q : Option Value → zz_H → Prop} {x1 : Int32} {x3 : Int32} {x4 : Int32} {x5 : Int32} {y0 : Int32} {y1 : Int32} {s s' : mS} {v : Option Value} (hf : mf_323_86 N rc x1 x3 x4 x5 y0 y1 s = some (s', v)) (k : Q v (mH h s')) : zz_E zp_P zt_tf zt_fd X (d + 4) zm_323 86 [(0, .ref 61), (1, .int x1), (3, .int x3), (4, .int x4), (5, .int x5)] [.int y1, .int y0] (mH h s) Q := by
  unfold mf_323_86 at hf
  refine mb_323_86 hh  (fun c => ?_) (fun c => ?_)
  · rw [if_pos c] at hf
    exact mr_323_115 hh hf k
  · rw [if_neg c] at hf
    exact mr_323_89 hh hrc0 hf k
def mf_323_79 (N : Nat) (rc : Nat → Int32 → Int32 → Int32 → Int32 → mS → mO) (x1 : Int32) (x3 : Int32) (x4 : Int32) (x5 : Int32) (s : mS) : mO := mo_bi (mf_77 N x3 s) (fun s1 y => mf_323_86 N rc x1 x3 x4 x5 x5 y s1)
theorem mr_323_79 {X : Nat → Option zz_C} {h : zz_H} (hh : 111 ≤ h.length) {d : Nat} {N : Nat} {rc : Nat → Int32 → Int32 → Int32 → Int32 → mS → mO} (hrc0 : ∀ {Q : Option Value → zz_H → Prop} {x1 : Int32} {x3 : Int32} {x4 : Int32} {x5 : Int32} {s s' : mS} {v : Option Value}, rc 0 x1 x3 x4 x5 s = some (s', v) → Q v (mH h s') → zz_E zp_P zt_tf zt_fd X (d + 4) zm_323 79 [(0, .ref 61), (1, .int x1), (3, .int x3), (4, .int x4), (5, .int x5)] [] (mH h s) Q) {Q : Option Value → zz_H → Prop} {x1 : Int32} {x3 : Int32} {x4 : Int32} {x5 : Int32} {s s' : mS} {v : Option Value} (hf : mf_323_79 N rc x1 x3 x4 x5 s = some (s', v)) (k : Q v (mH h s')) : zz_E zp_P zt_tf zt_fd X (d + 4) zm_323 79 [(0, .ref 61), (1, .int x1), (3, .int x3), (4, .int x4), (5, .int x5)] [] (mH h s) Q := by
  unfold mf_323_79 at hf
  obtain ⟨s1, y, e, hf⟩ := mo_bi_ok hf
  exact mb_323_79 (d := d + 3) hh  (mr_77 (d := d + 3) hh e (mr_323_86 hh hrc0 hf k))
def mf_323_L6 (N : Nat) : Nat → Nat → Int32 → Int32 → Int32 → Int32 → mS → mO
  | 0, _, _, _, _, _, _ => none
  | n + 1, l, x1, x3, x4, x5, s => if l = 0 then mf_323_79 N (mf_323_L6 N n) x1 x3 x4 x5 s else none
theorem mr_323_L6 {X : Nat → Option zz_C} {h : zz_H} (hh : 111 ≤ h.length) {d : Nat} {N : Nat} : ∀ n : Nat, (∀ {Q : Option Value → zz_H → Prop} {x1 : Int32} {x3 : Int32} {x4 : Int32} {x5 : Int32} {s s' : mS} {v : Option Value}, mf_323_L6 N n 0 x1 x3 x4 x5 s = some (s', v) → Q v (mH h s') → zz_E zp_P zt_tf zt_fd X (d + 4) zm_323 79 [(0, .ref 61), (1, .int x1), (3, .int x3), (4, .int x4), (5, .int x5)] [] (mH h s) Q) := by
  intro n
  induction n with
  | zero => exact (fun hf _ => by cases hf)
  | succ n ih =>
    have h0 := @ih
    intro Q _ _ _ _ s s' v hf k
    unfold mf_323_L6 at hf
    rw [if_pos rfl] at hf
    exact mr_323_79 hh h0 hf k
def mf_323_76 (N : Nat) (x1 : Int32) (x3 : Int32) (x4 : Int32) (s : mS) : mO := mf_323_L6 N N 0 x1 x3 x4 0 s
theorem mr_323_76 {X : Nat → Option zz_C} {h : zz_H} (hh : 111 ≤ h.length) {d : Nat} {N : Nat} {Q : Option Value → zz_H → Prop} {x1 : Int32} {x3 : Int32} {x4 : Int32} {s s' : mS} {v : Option Value} (hf : mf_323_76 N x1 x3 x4 s = some (s', v)) (k : Q v (mH h s')) : zz_E zp_P zt_tf zt_fd X (d + 4) zm_323 76 [(0, .ref 61), (1, .int x1), (3, .int x3), (4, .int x4)] [] (mH h s) Q := by
  unfold mf_323_76 at hf
  exact mb_323_76 hh  (mr_323_L6 hh N hf k)
def mf_323_71 (N : Nat) (x1 : Int32) (x2 : Int32) (x3 : Int32) (x4 : Int32) (s : mS) : mO := if ¬ x2 = 1 then mf_323_125 N x1 x3 x4 s else mf_323_76 N x1 x3 x4 s
theorem mr_323_71 {X : Nat → Option zz_C} {h : zz_H} (hh : 111 ≤ h.length) {d : Nat} {N : Nat} {Q : Option Value → zz_H → Prop} {x1 : Int32} {x2 : Int32} {x3 : Int32} {x4 : Int32} {s s' : mS} {v : Option Value} (hf : mf_323_71 N x1 x2 x3 x4 s = some (s', v)) (k : Q v (mH h s')) : zz_E zp_P zt_tf zt_fd X (d + 4) zm_323 71 [(0, .ref 61), (1, .int x1), (2, .int x2), (3, .int x3), (4, .int x4)] [] (mH h s) Q := by
  unfold mf_323_71 at hf
  refine mb_323_71 hh  (fun c => ?_) (fun c => ?_)
  · rw [if_pos c] at hf
    exact mr_323_125 hh hf k
  · rw [if_neg c] at hf
    exact mr_323_76 hh hf k
def mf_323_68 (N : Nat)  (s : mS) : mO := mf_323_213 N  s
theorem mr_323_68 {X : Nat → Option zz_C} {h : zz_H} (hh : 111 ≤ h.length) {d : Nat} {N : Nat} {Q : Option Value → zz_H → Prop}  {s s' : mS} {v : Option Value} (hf : mf_323_68 N  s = some (s', v)) (k : Q v (mH h s')) : zz_E zp_P zt_tf zt_fd X (d + 4) zm_323 68 [] [] (mH h s) Q := by
  unfold mf_323_68 at hf
  exact mb_323_68 hh  (mr_323_213 hh hf k)
def mf_323_65 (N : Nat) (y1 : Int32) (y2 : Int32) (s : mS) : mO := mo_bv (mf_291 N y1 y2 s) (fun s1 => mf_323_68 N  s1)
theorem mr_323_65 {X : Nat → Option zz_C} {h : zz_H} (hh : 111 ≤ h.length) {d : Nat} {N : Nat} {Q : Option Value → zz_H → Prop} {y1 : Int32} {y2 : Int32} {s s' : mS} {v : Option Value} (hf : mf_323_65 N y1 y2 s = some (s', v)) (k : Q v (mH h s')) : zz_E zp_P zt_tf zt_fd X (d + 4) zm_323 65 [] [.int y2, .int y1, .ref 61] (mH h s) Q := by
  unfold mf_323_65 at hf
  obtain ⟨s1, e, hf⟩ := mo_bv_ok hf
  exact mb_323_65 (d := d + 3) hh  (mr_291 (d := d + 3) hh e (mr_323_68 hh hf k))
def mf_323_58 (N : Nat) (x1 : Int32) (x3 : Int32) (s : mS) : mO := mo_bi (mf_322 N x1 x3 s) (fun s1 y => mf_323_65 N 0 y s1)
theorem mr_323_58 {X : Nat → Option zz_C} {h : zz_H} (hh : 111 ≤ h.length) {d : Nat} {N : Nat} {Q : Option Value → zz_H → Prop} {x1 : Int32} {x3 : Int32} {s s' : mS} {v : Option Value} (hf : mf_323_58 N x1 x3 s = some (s', v)) (k : Q v (mH h s')) : zz_E zp_P zt_tf zt_fd X (d + 4) zm_323 58 [(0, .ref 61), (1, .int x1), (3, .int x3)] [] (mH h s) Q := by
  unfold mf_323_58 at hf
  obtain ⟨s1, y, e, hf⟩ := mo_bi_ok hf
  exact mb_323_58 (d := d + 3) hh  (mr_322 (d := d + 3) hh e (mr_323_65 hh hf k))
def mf_323_54 (N : Nat) (x1 : Int32) (x2 : Int32) (x3 : Int32) (x4 : Int32) (s : mS) : mO := if ¬ x2 = 0 then mf_323_71 N x1 x2 x3 x4 s else mf_323_58 N x1 x3 s
theorem mr_323_54 {X : Nat → Option zz_C} {h : zz_H} (hh : 111 ≤ h.length) {d : Nat} {N : Nat} {Q : Option Value → zz_H → Prop} {x1 : Int32} {x2 : Int32} {x3 : Int32} {x4 : Int32} {s s' : mS} {v : Option Value} (hf : mf_323_54 N x1 x2 x3 x4 s = some (s', v)) (k : Q v (mH h s')) : zz_E zp_P zt_tf zt_fd X (d + 4) zm_323 54 [(0, .ref 61), (1, .int x1), (2, .int x2), (3, .int x3), (4, .int x4)] [] (mH h s) Q := by
  unfold mf_323_54 at hf
  refine mb_323_54 hh  (fun c => ?_) (fun c => ?_)
  · rw [if_pos c] at hf
    exact mr_323_71 hh hf k
  · rw [if_neg c] at hf
    exact mr_323_58 hh hf k
def mf_323_51 (N : Nat)  (s : mS) : mO := mf_323_213 N  s
theorem mr_323_51 {X : Nat → Option zz_C} {h : zz_H} (hh : 111 ≤ h.length) {d : Nat} {N : Nat} {Q : Option Value → zz_H → Prop}  {s s' : mS} {v : Option Value} (hf : mf_323_51 N  s = some (s', v)) (k : Q v (mH h s')) : zz_E zp_P zt_tf zt_fd X (d + 4) zm_323 51 [] [] (mH h s) Q := by
  unfold mf_323_51 at hf
  exact mb_323_51 hh  (mr_323_213 hh hf k)
def mf_323_42 (N : Nat)  (s : mS) : mO := mo_bv (mf_301 N 3 (s.1 70) s) (fun s1 => mf_323_51 N  s1)
theorem mr_323_42 {X : Nat → Option zz_C} {h : zz_H} (hh : 111 ≤ h.length) {d : Nat} {N : Nat} {Q : Option Value → zz_H → Prop}  {s s' : mS} {v : Option Value} (hf : mf_323_42 N  s = some (s', v)) (k : Q v (mH h s')) : zz_E zp_P zt_tf zt_fd X (d + 4) zm_323 42 [(0, .ref 61)] [] (mH h s) Q := by
  unfold mf_323_42 at hf
  obtain ⟨s1, e, hf⟩ := mo_bv_ok hf
  exact mb_323_42 (d := d + 3) hh  (mr_301 (d := d + 3) hh e (mr_323_51 hh hf k))
def mf_323_10 (N : Nat) (x1 : Int32) (y0 : Int32) (s : mS) : mO := if ¬ (((s.1 51) - 1) < 0 ∨ 9000 ≤ Int32.toNatClampNeg ((s.1 51) - 1)) then (if ¬ y0 = 3 then mf_323_54 N x1 y0 ((s.2.2.1 50) (Int32.toNatClampNeg ((s.1 51) - 1))) ((s.1 51) - 1) (mI s 51 ((s.1 51) - 1)) else mf_323_42 N  (mI s 51 ((s.1 51) - 1))) else none
theorem mr_323_10 {X : Nat → Option zz_C} {h : zz_H} (hh : 111 ≤ h.length) {d : Nat} {N : Nat} {Q : Option Value → zz_H → Prop} {x1 : Int32} {y0 : Int32} {s s' : mS} {v : Option Value} (hf : mf_323_10 N x1 y0 s = some (s', v)) (k : Q v (mH h s')) : zz_E zp_P zt_tf zt_fd X (d + 4) zm_323 10 [(0, .ref 61), (1, .int x1)] [.int y0] (mH h s) Q := by
  unfold mf_323_10 at hf
  obtain ⟨q0, hf⟩ := mo_if hf
  refine mb_323_10 hh q0 (fun c => ?_) (fun c => ?_)
  · rw [if_pos c] at hf
    exact mr_323_54 hh hf k
  · rw [if_neg c] at hf
    exact mr_323_42 hh hf k
def mf_323_0 (N : Nat) (x1 : Int32) (s : mS) : mO := mo_bi (mf_292 N ((s.1 51) - 1) s) (fun s1 y => mf_323_10 N x1 y s1)
theorem mr_323_0 {X : Nat → Option zz_C} {h : zz_H} (hh : 111 ≤ h.length) {d : Nat} {N : Nat} {Q : Option Value → zz_H → Prop} {x1 : Int32} {s s' : mS} {v : Option Value} (hf : mf_323_0 N x1 s = some (s', v)) (k : Q v (mH h s')) : zz_E zp_P zt_tf zt_fd X (d + 4) zm_323 0 [(0, .ref 61), (1, .int x1)] [] (mH h s) Q := by
  unfold mf_323_0 at hf
  obtain ⟨s1, y, e, hf⟩ := mo_bi_ok hf
  exact mb_323_0 (d := d + 3) hh  (mr_292 (d := d + 3) hh e (mr_323_10 hh hf k))
/-- one -/
def mf_323 (N : Nat) (x1 : Int32) (s : mS) : mO := mf_323_0 N x1 s
theorem mr_323 {X : Nat → Option zz_C} {h : zz_H} (hh : 111 ≤ h.length) {d : Nat} {N : Nat} {Q : Option Value → zz_H → Prop} {x1 : Int32} {s s' : mS} {v : Option Value} (hf : mf_323 N x1 s = some (s', v)) (k : Q v (mH h s')) : zz_E zp_P zt_tf zt_fd X (d + 4) zm_323 0 [(0, .ref 61), (1, .int x1)] [] (mH h s) Q := by
  unfold mf_323 at hf
  exact zz_E.weak (mr_323_0 hh hf k) rfl ⟨rfl, rfl, trivial⟩
/-! literal (I)V -/
theorem mb_324_0 {X : Nat → Option zz_C} {h : zz_H} (hh : 111 ≤ h.length) {s : mS} {d : Nat} {Q : Option Value → zz_H → Prop} {x1 : Int32} (k : zz_E zp_P zt_tf zt_fd X d zm_324 7 [(0, .ref 61), (1, .int x1), (2, .int 1), (3, .int 1), (4, .int x1)] [] (mH h s) Q) : zz_E zp_P zt_tf zt_fd X d zm_324 0 [(0, .ref 61), (1, .int x1)] [] (mH h s) Q := by
  refine zz_E.c 1 (.int 1) rfl rfl rfl rfl ?_
  refine zz_E.n 2 rfl rfl rfl ?_
  refine zz_E.c 3 (.int 1) rfl rfl rfl rfl ?_
  refine zz_E.n 4 rfl rfl rfl ?_
  refine zz_E.n 5 rfl rfl rfl ?_
  refine zz_E.n 7 rfl rfl rfl ?_
  exact zz_E.weak k rfl ⟨rfl, rfl, rfl, rfl, rfl, trivial⟩
theorem mb_324_7 {X : Nat → Option zz_C} {h : zz_H} (hh : 111 ≤ h.length) {s : mS} {d : Nat} {Q : Option Value → zz_H → Prop} {x1 : Int32} {x2 : Int32} {x3 : Int32} {x4 : Int32} (k1 : (s.1 51) ≤ x4 → zz_E zp_P zt_tf zt_fd X d zm_324 62 [(0, .ref 61), (1, .int x1), (2, .int x2), (3, .int x3)] [] (mH h s) Q) (k2 : ¬ (s.1 51) ≤ x4 → zz_E zp_P zt_tf zt_fd X d zm_324 16 [(0, .ref 61), (1, .int x1), (2, .int x2), (3, .int x3), (4, .int x4)] [] (mH h s) Q) : zz_E zp_P zt_tf zt_fd X d zm_324 7 [(0, .ref 61), (1, .int x1), (2, .int x2), (3, .int x3), (4, .int x4)] [] (mH h s) Q := by
  refine zz_E.n 9 rfl rfl rfl ?_
  refine zz_E.n 10 rfl rfl rfl ?_
  refine mE_g hh 13 (v := .int (s.1 51)) rfl rfl rfl ?_
  refine zz_E.b2 62 16 (A := (s.1 51) ≤ x4) rfl rfl (by decide) rfl rfl (fun c => ?_) (fun c => ?_)
  · exact zz_E.weak (k1 c) rfl ⟨rfl, rfl, rfl, rfl, trivial⟩
  · exact zz_E.weak (k2 c) rfl ⟨rfl, rfl, rfl, rfl, rfl, trivial⟩
theorem mb_324_16 {X : Nat → Option zz_C} {h : zz_H} (hh : 111 ≤ h.length) {s : mS} {d : Nat} {Q : Option Value → zz_H → Prop} {x1 : Int32} {x2 : Int32} {x3 : Int32} {x4 : Int32} (k1 : x2 = 0 → zz_E zp_P zt_tf zt_fd X d zm_324 34 [(0, .ref 61), (1, .int x1), (3, .int x3), (4, .int x4)] [] (mH h s) Q) (k2 : ¬ x2 = 0 → zz_E zp_P zt_tf zt_fd X d zm_324 20 [(0, .ref 61), (1, .int x1), (3, .int x3), (4, .int x4)] [] (mH h s) Q) : zz_E zp_P zt_tf zt_fd X d zm_324 16 [(0, .ref 61), (1, .int x1), (2, .int x2), (3, .int x3), (4, .int x4)] [] (mH h s) Q := by
  refine zz_E.n 17 rfl rfl rfl ?_
  refine zz_E.b1 34 20 (A := x2 = 0) rfl rfl (by decide) rfl rfl (fun c => ?_) (fun c => ?_)
  · exact zz_E.weak (k1 c) rfl ⟨rfl, rfl, rfl, rfl, trivial⟩
  · exact zz_E.weak (k2 c) rfl ⟨rfl, rfl, rfl, rfl, trivial⟩
theorem mb_324_20 {X : Nat → Option zz_C} {h : zz_H} (hh : 111 ≤ h.length) {s : mS} {d : Nat} {Q : Option Value → zz_H → Prop} {x1 : Int32} {x3 : Int32} {x4 : Int32} (i26 : ¬ (x4 < 0 ∨ 9000 ≤ Int32.toNatClampNeg x4)) (k1 : ¬ ((s.2.2.1 49) (Int32.toNatClampNeg x4)) = 0 → zz_E zp_P zt_tf zt_fd X d zm_324 34 [(0, .ref 61), (1, .int x1), (3, .int x3), (4, .int x4)] [] (mH h s) Q) (k2 : ¬ ¬ ((s.2.2.1 49) (Int32.toNatClampNeg x4)) = 0 → zz_E zp_P zt_tf zt_fd X d zm_324 30 [(0, .ref 61), (1, .int x1), (3, .int x3), (4, .int x4)] [] (mH h s) Q) : zz_E zp_P zt_tf zt_fd X d zm_324 20 [(0, .ref 61), (1, .int x1), (3, .int x3), (4, .int x4)] [] (mH h s) Q := by
  refine zz_E.n 21 rfl rfl rfl ?_
  refine mE_g hh 24 (v := .ref 90) rfl rfl rfl ?_
  refine zz_E.n 26 rfl rfl rfl ?_
  refine mE_ia hh 27 29 (f := (s.2.2.1 49)) rfl (by decide) rfl rfl i26 rfl ?_
  refine zz_E.b1 34 30 (A := ¬ ((s.2.2.1 49) (Int32.toNatClampNeg x4)) = 0) rfl (zz_cond_ne _ _) (by decide) rfl rfl (fun c => ?_) (fun c => ?_)
  · exact zz_E.weak (k1 c) rfl ⟨rfl, rfl, rfl, rfl, trivial⟩
  · exact zz_E.weak (k2 c) rfl ⟨rfl, rfl, rfl, rfl, trivial⟩
theorem mb_324_30 {X : Nat → Option zz_C} {h : zz_H} (hh : 111 ≤ h.length) {s : mS} {d : Nat} {Q : Option Value → zz_H → Prop} {x1 : Int32} {x3 : Int32} {x4 : Int32} (k : zz_E zp_P zt_tf zt_fd X d zm_324 35 [(0, .ref 61), (1, .int x1), (3, .int x3), (4, .int x4)] [.int 1] (mH h s) Q) : zz_E zp_P zt_tf zt_fd X d zm_324 30 [(0, .ref 61), (1, .int x1), (3, .int x3), (4, .int x4)] [] (mH h s) Q := by
  refine zz_E.c 31 (.int 1) rfl rfl rfl rfl ?_
  refine zz_E.n 35 rfl rfl rfl ?_
  exact zz_E.weak k rfl ⟨rfl, rfl, rfl, rfl, trivial⟩
theorem mb_324_34 {X : Nat → Option zz_C} {h : zz_H} (hh : 111 ≤ h.length) {s : mS} {d : Nat} {Q : Option Value → zz_H → Prop} {x1 : Int32} {x3 : Int32} {x4 : Int32} (k : zz_E zp_P zt_tf zt_fd X d zm_324 35 [(0, .ref 61), (1, .int x1), (3, .int x3), (4, .int x4)] [.int 0] (mH h s) Q) : zz_E zp_P zt_tf zt_fd X d zm_324 34 [(0, .ref 61), (1, .int x1), (3, .int x3), (4, .int x4)] [] (mH h s) Q := by
  refine zz_E.c 35 (.int 0) rfl rfl rfl rfl ?_
  exact zz_E.weak k rfl ⟨rfl, rfl, rfl, rfl, trivial⟩
theorem mb_324_35 {X : Nat → Option zz_C} {h : zz_H} (hh : 111 ≤ h.length) {s : mS} {d : Nat} {Q : Option Value → zz_H → Prop} {x1 : Int32} {x3 : Int32} {x4 : Int32} {y0 : Int32} (k1 : x3 = 0 → zz_E zp_P zt_tf zt_fd X d zm_324 54 [(0, .ref 61), (1, .int x1), (2, .int y0), (4, .int x4)] [] (mH h s) Q) (k2 : ¬ x3 = 0 → zz_E zp_P zt_tf zt_fd X d zm_324 40 [(0, .ref 61), (1, .int x1), (2, .int y0), (4, .int x4)] [] (mH h s) Q) : zz_E zp_P zt_tf zt_fd X d zm_324 35 [(0, .ref 61), (1, .int x1), (3, .int x3), (4, .int x4)] [.int y0] (mH h s) Q := by
  refine zz_E.n 36 rfl rfl rfl ?_
  refine zz_E.n 37 rfl rfl rfl ?_
  refine zz_E.b1 54 40 (A := x3 = 0) rfl rfl (by decide) rfl rfl (fun c => ?_) (fun c => ?_)
  · exact zz_E.weak (k1 c) rfl ⟨rfl, rfl, rfl, rfl, trivial⟩
  · exact zz_E.weak (k2 c) rfl ⟨rfl, rfl, rfl, rfl, trivial⟩
theorem mb_324_40 {X : Nat → Option zz_C} {h : zz_H} (hh : 111 ≤ h.length) {s : mS} {d : Nat} {Q : Option Value → zz_H → Prop} {x1 : Int32} {x2 : Int32} {x4 : Int32} (k : zz_E zp_P zt_tf zt_fd X d zm_292 0 [(0, .ref 61), (1, .int x4)] [] (mH h s) (fun v h' => zz_E zp_P zt_tf zt_fd X (d + 1) zm_324 46 [(0, .ref 61), (1, .int x1), (2, .int x2), (4, .int x4)] (v.toList ++ []) h' Q)) : zz_E zp_P zt_tf zt_fd X (d + 1) zm_324 40 [(0, .ref 61), (1, .int x1), (2, .int x2), (4, .int x4)] [] (mH h s) Q := by
  refine zz_E.n 41 rfl rfl rfl ?_
  refine zz_E.n 43 rfl rfl rfl ?_
  refine mE_cv hh 46 (as := []) rfl rfl (Nat.le_of_ble_eq_true rfl) (Nat.le_of_ble_eq_true rfl) rfl (Nat.le_of_ble_eq_true rfl) rfl ?_
  refine zz_E.mono k ?_
  intro v h' hE
  exact zz_E.weak hE rfl ⟨rfl, rfl, rfl, rfl, trivial⟩
theorem mb_324_46 {X : Nat → Option zz_C} {h : zz_H} (hh : 111 ≤ h.length) {s : mS} {d : Nat} {Q : Option Value → zz_H → Prop} {x1 : Int32} {x2 : Int32} {x4 : Int32} {y0 : Int32} (k1 : ¬ y0 = 1 → zz_E zp_P zt_tf zt_fd X d zm_324 54 [(0, .ref 61), (1, .int x1), (2, .int x2), (4, .int x4)] [] (mH h s) Q) (k2 : ¬ ¬ y0 = 1 → zz_E zp_P zt_tf zt_fd X d zm_324 50 [(0, .ref 61), (1, .int x1), (2, .int x2), (4, .int x4)] [] (mH h s) Q) : zz_E zp_P zt_tf zt_fd X d zm_324 46 [(0, .ref 61), (1, .int x1), (2, .int x2), (4, .int x4)] [.int y0] (mH h s) Q := by
  refine zz_E.c 47 (.int 1) rfl rfl rfl rfl ?_
  refine zz_E.b2 54 50 (A := ¬ y0 = 1) rfl (zz_cond_ne _ _) (by decide) rfl rfl (fun c => ?_) (fun c => ?_)
  · exact zz_E.weak (k1 c) rfl ⟨rfl, rfl, rfl, rfl, trivial⟩
  · exact zz_E.weak (k2 c) rfl ⟨rfl, rfl, rfl, rfl, trivial⟩
theorem mb_324_50 {X : Nat → Option zz_C} {h : zz_H} (hh : 111 ≤ h.length) {s : mS} {d : Nat} {Q : Option Value → zz_H → Prop} {x1 : Int32} {x2 : Int32} {x4 : Int32} (k : zz_E zp_P zt_tf zt_fd X d zm_324 55 [(0, .ref 61), (1, .int x1), (2, .int x2), (4, .int x4)] [.int 1] (mH h s) Q) : zz_E zp_P zt_tf zt_fd X d zm_324 50 [(0, .ref 61), (1, .int x1), (2, .int x2), (4, .int x4)] [] (mH h s) Q := by
  refine zz_E.c 51 (.int 1) rfl rfl rfl rfl ?_
  refine zz_E.n 55 rfl rfl rfl ?_
  exact zz_E.weak k rfl ⟨rfl, rfl, rfl, rfl, trivial⟩
theorem mb_324_54 {X : Nat → Option zz_C} {h : zz_H} (hh : 111 ≤ h.length) {s : mS} {d : Nat} {Q : Option Value → zz_H → Prop} {x1 : Int32} {x2 : Int32} {x4 : Int32} (k : zz_E zp_P zt_tf zt_fd X d zm_324 55 [(0, .ref 61), (1, .int x1), (2, .int x2), (4, .int x4)] [.int 0] (mH h s) Q) : zz_E zp_P zt_tf zt_fd X d zm_324 54 [(0, .ref 61), (1, .int x1), (2, .int x2), (4, .int x4)] [] (mH h s) Q := by
  refine zz_E.c 55 (.int 0) rfl rfl rfl rfl ?_
  exact zz_E.weak k rfl ⟨rfl, rfl, rfl, rfl, trivial⟩
theorem mb_324_55 {X : Nat → Option zz_C} {h : zz_H} (hh : 111 ≤ h.length) {s : mS} {d : Nat} {Q : Option Value → zz_H → Prop} {x1 : Int32} {x2 : Int32} {x4 : Int32} {y0 : Int32} (k : zz_E zp_P zt_tf zt_fd X d zm_324 7 [(0, .ref 61), (1, .int x1), (2, .int x2), (3, .int y0), (4, .int (x4 + 1))] [] (mH h s) Q) : zz_E zp_P zt_tf zt_fd X d zm_324 55 [(0, .ref 61), (1, .int x1), (2, .int x2), (4, .int x4)] [.int y0] (mH h s) Q := by
  refine zz_E.n 56 rfl rfl rfl ?_
  refine zz_E.n 59 rfl rfl rfl ?_
  refine zz_E.n 7 rfl rfl rfl ?_
  exact zz_E.weak k rfl ⟨rfl, rfl, rfl, rfl, rfl, trivial⟩
theorem mb_324_62 {X : Nat → Option zz_C} {h : zz_H} (hh : 111 ≤ h.length) {s : mS} {d : Nat} {Q : Option Value → zz_H → Prop} {x1 : Int32} {x2 : Int32} {x3 : Int32} (k1 : x2 = 0 → zz_E zp_P zt_tf zt_fd X d zm_324 75 [(0, .ref 61), (1, .int x1), (3, .int x3)] [] (mH h s) Q) (k2 : ¬ x2 = 0 → zz_E zp_P zt_tf zt_fd X d zm_324 66 [(0, .ref 61), (1, .int x1)] [] (mH h s) Q) : zz_E zp_P zt_tf zt_fd X d zm_324 62 [(0, .ref 61), (1, .int x1), (2, .int x2), (3, .int x3)] [] (mH h s) Q := by
  refine zz_E.n 63 rfl rfl rfl ?_
  refine zz_E.b1 75 66 (A := x2 = 0) rfl rfl (by decide) rfl rfl (fun c => ?_) (fun c => ?_)
  · exact zz_E.weak (k1 c) rfl ⟨rfl, rfl, rfl, trivial⟩
  · exact zz_E.weak (k2 c) rfl ⟨rfl, rfl, trivial⟩
theorem mb_324_66 {X : Nat → Option zz_C} {h : zz_H} (hh : 111 ≤ h.length) {s : mS} {d : Nat} {Q : Option Value → zz_H → Prop} {x1 : Int32} (k : zz_E zp_P zt_tf zt_fd X d zm_305 0 [(0, .ref 61), (1, .int 1), (2, .int x1)] [] (mH h s) (fun v h' => zz_E zp_P zt_tf zt_fd X (d + 1) zm_324 72 [] (v.toList ++ []) h' Q)) : zz_E zp_P zt_tf zt_fd X (d + 1) zm_324 66 [(0, .ref 61), (1, .int x1)] [] (mH h s) Q := by
  refine zz_E.n 67 rfl rfl rfl ?_
  refine zz_E.c 68 (.int 1) rfl rfl rfl rfl ?_
  refine zz_E.n 69 rfl rfl rfl ?_
  refine mE_cv hh 72 (as := []) rfl rfl (Nat.le_of_ble_eq_true rfl) (Nat.le_of_ble_eq_true rfl) rfl (Nat.le_of_ble_eq_true rfl) rfl ?_
  refine zz_E.mono k ?_
  intro v h' hE
  exact zz_E.weak hE rfl trivial
theorem mb_324_72 {X : Nat → Option zz_C} {h : zz_H} (hh : 111 ≤ h.length) {s : mS} {d : Nat} {Q : Option Value → zz_H → Prop}  (k : zz_E zp_P zt_tf zt_fd X d zm_324 97 [] [] (mH h s) Q) : zz_E zp_P zt_tf zt_fd X d zm_324 72 [] [] (mH h s) Q := by
  refine zz_E.n 97 rfl rfl rfl ?_
  exact zz_E.weak k rfl trivial
theorem mb_324_75 {X : Nat → Option zz_C} {h : zz_H} (hh : 111 ≤ h.length) {s : mS} {d : Nat} {Q : Option Value → zz_H → Prop} {x1 : Int32} {x3 : Int32} (k1 : x3 = 0 → zz_E zp_P zt_tf zt_fd X d zm_324 88 [(0, .ref 61)] [] (mH h s) Q) (k2 : ¬ x3 = 0 → zz_E zp_P zt_tf zt_fd X d zm_324 79 [(0, .ref 61), (1, .int x1)] [] (mH h s) Q) : zz_E zp_P zt_tf zt_fd X d zm_324 75 [(0, .ref 61), (1, .int x1), (3, .int x3)] [] (mH h s) Q := by
  refine zz_E.n 76 rfl rfl rfl ?_
  refine zz_E.b1 88 79 (A := x3 = 0) rfl rfl (by decide) rfl rfl (fun c => ?_) (fun c => ?_)
  · exact zz_E.weak (k1 c) rfl ⟨rfl, trivial⟩
  · exact zz_E.weak (k2 c) rfl ⟨rfl, rfl, trivial⟩
theorem mb_324_79 {X : Nat → Option zz_C} {h : zz_H} (hh : 111 ≤ h.length) {s : mS} {d : Nat} {Q : Option Value → zz_H → Prop} {x1 : Int32} (k : zz_E zp_P zt_tf zt_fd X d zm_305 0 [(0, .ref 61), (1, .int 2), (2, .int x1)] [] (mH h s) (fun v h' => zz_E zp_P zt_tf zt_fd X (d + 1) zm_324 85 [] (v.toList ++ []) h' Q)) : zz_E zp_P zt_tf zt_fd X (d + 1) zm_324 79 [(0, .ref 61), (1, .int x1)] [] (mH h s) Q := by
  refine zz_E.n 80 rfl rfl rfl ?_
  refine zz_E.c 81 (.int 2) rfl rfl rfl rfl ?_
  refine zz_E.n 82 rfl rfl rfl ?_
  refine mE_cv hh 85 (as := []) rfl rfl (Nat.le_of_ble_eq_true rfl) (Nat.le_of_ble_eq_true rfl) rfl (Nat.le_of_ble_eq_true rfl) rfl ?_
  refine zz_E.mono k ?_
  intro v h' hE
  exact zz_E.weak hE rfl trivial
theorem mb_324_85 {X : Nat → Option zz_C} {h : zz_H} (hh : 111 ≤ h.length) {s : mS} {d : Nat} {Q : Option Value → zz_H → Prop}  (k : zz_E zp_P zt_tf zt_fd X d zm_324 97 [] [] (mH h s) Q) : zz_E zp_P zt_tf zt_fd X d zm_324 85 [] [] (mH h s) Q := by
  refine zz_E.n 97 rfl rfl rfl ?_
  exact zz_E.weak k rfl trivial
theorem mb_324_88 {X : Nat → Option zz_C} {h : zz_H} (hh : 111 ≤ h.length) {s : mS} {d : Nat} {Q : Option Value → zz_H → Prop}  (k : zz_E zp_P zt_tf zt_fd X d zm_301 0 [(0, .ref 61), (1, .int 3), (2, .int (s.1 70))] [] (mH h s) (fun v h' => zz_E zp_P zt_tf zt_fd X (d + 1) zm_324 97 [] (v.toList ++ []) h' Q)) : zz_E zp_P zt_tf zt_fd X (d + 1) zm_324 88 [(0, .ref 61)] [] (mH h s) Q := by
  refine zz_E.n 89 rfl rfl rfl ?_
  refine zz_E.c 90 (.int 3) rfl rfl rfl rfl ?_
  refine zz_E.n 91 rfl rfl rfl ?_
  refine mE_g hh 94 (v := .int (s.1 70)) rfl rfl rfl ?_
  refine mE_cv hh 97 (as := []) rfl rfl (Nat.le_of_ble_eq_true rfl) (Nat.le_of_ble_eq_true rfl) rfl (Nat.le_of_ble_eq_true rfl) rfl ?_
  refine zz_E.mono k ?_
  intro v h' hE
  exact zz_E.weak hE rfl trivial
theorem mb_324_97 {X : Nat → Option zz_C} {h : zz_H} (hh : 111 ≤ h.length) {s : mS} {d : Nat} {Q : Option Value → zz_H → Prop}  (k : Q none (mH h s)) : zz_E zp_P zt_tf zt_fd X d zm_324 97 [] [] (mH h s) Q := by
  refine zz_E.ret rfl rfl rfl ?_
  exact k
def mf_324_97 (N : Nat)  (s : mS) : mO := some (s, none)
theorem mr_324_97 {X : Nat → Option zz_C} {h : zz_H} (hh : 111 ≤ h.length) {d : Nat} {N : Nat} {Q : Option Value → zz_H → Prop}  {s s' : mS} {v : Option Value} (hf : mf_324_97 N  s = some (s', v)) (k : Q v (mH h s')) : zz_E zp_P zt_tf zt_fd X (d + 4) zm_324 97 [] [] (mH h s) Q := by
  unfold mf_324_97 at hf
  cases hf
  exact mb_324_97 hh  k
def mf_324_88 (N : Nat)  (s : mS) : mO := mo_bv (mf_301 N 3 (s.1 70) s) (fun s1 => mf_324_97 N  s1)
theorem mr_324_88 {X : Nat → Option zz_C} {h : zz_H} (hh : 111 ≤ h.length) {d : Nat} {N : Nat} {Q : Option Value → zz_H → Prop}  {s s' : mS} {v : Option Value} (hf : mf_324_88 N  s = some (s', v)) (k : Q v (mH h s')) : zz_E zp_P zt_tf zt_fd X (d + 4) zm_324 88 [(0, .ref 61)] [] (mH h s) Q := by
  unfold mf_324_88 at hf
  obtain ⟨s1, e, hf⟩ := mo_bv_ok hf
  exact mb_324_88 (d := d + 3) hh  (mr_301 (d := d + 3) hh e (mr_324_97 hh hf k))
def mf_324_85 (N : Nat)  (s : mS) : mO := mf_324_97 N  s
theorem mr_324_85 {X : Nat → Option zz_C} {h : zz_H} (hh : 111 ≤ h.length) {d : Nat} {N : Nat} {Q : Option Value → zz_H → Prop}  {s s' : mS} {v : Option Value} (hf : mf_324_85 N  s = some (s', v)) (k : Q v (mH h s')) : zz_E zp_P zt_tf zt_fd X (d + 4) zm_324 85 [] [] (mH h s) Q := by
  unfold mf_324_85 at hf
  exact mb_324_85 hh  (mr_324_97 hh hf k)
def mf_324_79 (N : Nat) (x1 : Int32) (s : mS) : mO := mo_bv (mf_305 N 2 x1 s) (fun s1 => mf_324_85 N  s1)
theorem mr_324_79 {X : Nat → Option zz_C} {h : zz_H} (hh : 111 ≤ h.length) {d : Nat} {N : Nat} {Q : Option Value → zz_H → Prop} {x1 : Int32} {s s' : mS} {v : Option Value} (hf : mf_324_79 N x1 s = some (s', v)) (k : Q v (mH h s')) : zz_E zp_P zt_tf zt_fd X (d + 4) zm_324 79 [(0, .ref 61), (1, .int x1)] [] (mH h s) Q := by
  unfold mf_324_79 at hf
  obtain ⟨s1, e, hf⟩ := mo_bv_ok hf
  exact mb_324_79 (d := d + 3) hh  (mr_305 (d := d + 0) hh e (mr_324_85 hh hf k))
def mf_324_75 (N : Nat) (x1 : Int32) (x3 : Int32) (s : mS) : mO := if x3 = 0 then mf_324_88 N  s else mf_324_79 N x1 s
theorem mr_324_75 {X : Nat → Option zz_C} {h : zz_H} (hh : 111 ≤ h.length) {d : Nat} {N : Nat} {Q : Option Value → zz_H → Prop} {x1 : Int32} {x3 : Int32} {s s' : mS} {v : Option Value} (hf : mf_324_75 N x1 x3 s = some (s', v)) (k : Q v (mH h s')) : zz_E zp_P zt_tf zt_fd X (d + 4) zm_324 75 [(0, .ref 61), (1, .int x1), (3, .int x3)] [] (mH h s) Q := by
  unfold mf_324_75 at hf
  refine mb_324_75 hh  (fun c => ?_) (fun c => ?_)
  · rw [if_pos c] at hf
    exact mr_324_88 hh hf k
  · rw [if_neg c] at hf
    exact mr_324_79 hh hf k
def mf_324_72 (N : Nat)  (s : mS) : mO := mf_324_97 N  s
theorem mr_324_72 {X : Nat → Option zz_C} {h : zz_H} (hh : 111 ≤ h.length) {d : Nat} {N : Nat} {Q : Option Value → zz_H → Prop}  {s s' : mS} {v : Option Value} (hf : mf_324_72 N  s = some (s', v)) (k : Q v (mH h s')) : zz_E zp_P zt_tf zt_fd X (d + 4) zm_324 72 [] [] (mH h s) Q := by
  unfold mf_324_72 at hf
  exact mb_324_72 hh  (mr_324_97 hh hf k)
def mf_324_66 (N : Nat) (x1 : Int32) (s : mS) : mO := mo_bv (mf_305 N 1 x1 s) (fun s1 => mf_324_72 N  s1)
theorem mr_324_66 {X : Nat → Option zz_C} {h : zz_H} (hh : 111 ≤ h.length) {d : Nat} {N : Nat} {Q : Option Value → zz_H → Prop} {x1 : Int32} {s s' : mS} {v : Option Value} (hf : mf_324_66 N x1 s = some (s', v)) (k : Q v (mH h s')) : zz_E zp_P zt_tf zt_fd X (d + 4) zm_324 66 [(0, .ref 61), (1, .int x1)] [] (mH h s) Q := by
  unfold mf_324_66 at hf
  obtain ⟨s1, e, hf⟩ := mo_bv_ok hf
  exact mb_324_66 (d := d + 3) hh  (mr_305 (d := d + 0) hh e (mr_324_72 hh hf k))
def mf_324_62 (N : Nat) (x1 : Int32) (x2 : Int32) (x3 : Int32) (s : mS) : mO := if x2 = 0 then mf_324_75 N x1 x3 s else mf_324_66 N x1 s
theorem mr_324_62 {X : Nat → Option zz_C} {h : zz_H} (hh : 111 ≤ h.length) {d : Nat} {N : Nat} {Q : Option Value → zz_H → Prop} {x1 : Int32} {x2 : Int32} {x3 : Int32} {s s' : mS} {v : Option Value} (hf : mf_324_62 N x1 x2 x3 s = some (s', v)) (k : Q v (mH h s')) : zz_E zp_P zt_tf zt_fd X (d + 4) zm_324 62 [(0, .ref 61), (1, .int x1), (2, .int x2), (3, .int x3)] [] (mH h s) Q := by
  unfold mf_324_62 at hf
  refine mb_324_62 hh  (fun c => ?_) (fun c => ?_)
  · rw [if_pos c] at hf
    exact mr_324_75 hh hf k
  · rw [if_neg c] at hf
    exact mr_324_66 hh hf k
def mf_324_55 (N : Nat) (rc : Nat → Int32 → Int32 → Int32 → Int32 → mS → mO) (x1 : Int32) (x2 : Int32) (x4 : Int32) (y0 : Int32) (s : mS) : mO := rc 0 x1 x2 y0 (x4 + 1) s
theorem mr_324_55 {X : Nat → Option zz_C} {h : zz_H} (hh : 111 ≤ h.length) {d : Nat} {N : Nat} {rc : Nat → Int32 → Int32 → Int32 → Int32 → mS → mO} (hrc0 : ∀ {Q : Option Value → zz_H → Prop} {x1 : Int32} {x2 : Int32} {x3 : Int32} {x4 : Int32} {s s' : mS} {v : Option Value}, rc 0 x1 x2 x3 x4 s = some (s', v) → Q v (mH h s') → zz_E zp_P zt_tf zt_fd X (d + 4) zm_324 7 [(0, .ref 61), (1, .int x1), (2, .int x2), (3, .int x3), (4, .int x4)] [] (mH h s) Q) {Q : Option Value → zz_H → Prop} {x1 : Int32} {x2 : Int32} {x4 : Int32} {y0 : Int32} {s s' : mS} {v : Option Value} (hf : mf_324_55 N rc x1 x2 x4 y0 s = some (s', v)) (k : Q v (mH h s')) : zz_E zp_P zt_tf zt_fd X (d + 4) zm_324 55 [(0, .ref 61), (1, .int x1), (2, .int x2), (4, .int x4)] [.int y0] (mH h s) Q := by
  unfold mf_324_55 at hf
  exact mb_324_55 hh  (hrc0 hf k)
def mf_324_54 (N : Nat) (rc : Nat → Int32 → Int32 → Int32 → Int32 → mS → mO) (x1 : Int32) (x2 : Int32) (x4 : Int32) (s : mS) : mO := mf_324_55 N rc x1 x2 x4 0 s
theorem mr_324_54 {X : Nat → Option zz_C} {h : zz_H} (hh : 111 ≤ h.length) {d : Nat} {N : Nat} {rc : Nat → Int32 → Int32 → Int32 → Int32 → mS → mO} (hrc0 : ∀ {Q : Option Value → zz_H → Prop} {x1 : Int32} {x2 : Int32} {x3 : Int32} {x4 : Int32} {s s' : mS} {v : Option Value}, rc 0 x1 x2 x3 x4 s = some (s', v) → Q v (mH h s') → zz_E zp_P zt_tf zt_fd X (d + 4) zm_324 7 [(0, .ref 61), (1, .int x1), (2, .int x2), (3, .int x3), (4, .int x4)] [] (mH h s) Q) {Q : Option Value → zz_H → Prop} {x1 : Int32} {x2 : Int32} {x4 : Int32} {s s' : mS} {v : Option Value} (hf : mf_324_54 N rc x1 x2 x4 s = some (s', v)) (k : Q v (mH h s')) : zz_E zp_P zt_tf zt_fd X (d + 4) zm_324 54 [(0, .ref 61), (1, .int x1), (2, .int x2), (4, .int x4)] [] (mH h s) Q := by
  unfold mf_324_54 at hf
  exact mb_324_54 hh  (mr_324_55 hh hrc0 hf k)
def mf_324_50 (N : Nat) (rc : Nat → Int32 → Int32 → Int32 → Int32 → mS → mO) (x1 : Int32) (x2 : Int32) (x4 : Int32) (s : mS) : mO := mf_324_55 N rc x1 x2 x4 1 s
theorem mr_324_50 {X : Nat → Option zz_C} {h : zz_H} (hh : 111 ≤ h.length) {d : Nat} {N : Nat} {rc : Nat → Int32 → Int32 → Int32 → Int32 → mS → mO} (hrc0 : ∀ {Q : Option Value → zz_H → Prop} {x1 : Int32} {x2 : Int32} {x3 : Int32} {x4 : Int32} {s s' : mS} {v : Option Value}, rc 0 x1 x2 x3 x4 s = some (s', v) → Q v (mH h s') → zz_E zp_P zt_tf zt_fd X (d + 4) zm_324 7 [(0, .ref 61), (1, .int x1), (2, .int x2), (3, .int x3), (4, .int x4)] [] (mH h s) Q) {Q : Option Value → zz_H → Prop} {x1 : Int32} {x2 : Int32} {x4 : Int32} {s s' : mS} {v : Option Value} (hf : mf_324_50 N rc x1 x2 x4 s = some (s', v)) (k : Q v (mH h s')) : zz_E zp_P zt_tf zt_fd X (d + 4) zm_324 50 [(0, .ref 61), (1, .int x1), (2, .int x2), (4, .int x4)] [] (mH h s) Q := by
  unfold mf_324_50 at hf
  exact mb_324_50 hh  (mr_324_55 hh hrc0 hf k)
def mf_324_46 (N : Nat) (rc : Nat → Int32 → Int32 → Int32 → Int32 → mS → mO) (x1 : Int32) (x2 : Int32) (x4 : Int32) (y0 : Int32) (s : mS) : mO := if ¬ y0 = 1 then mf_324_54 N rc x1 x2 x4 s else mf_324_50 N rc x1 x2 x4 s
theorem mr_324_46 {X : Nat → Option zz_C} {h : zz_H} (hh : 111 ≤ h.length) {d : Nat} {N : Nat} {rc : Nat → Int32 → Int32 → Int32 → Int32 → mS → mO} (hrc0 : ∀ {Q : Option Value → zz_H → Prop} {x1 : Int32} {x2 : Int32} {x3 : Int32} {x4 : Int32} {s s' : mS} {v : Option Value}, rc 0 x1 x2 x3 x4 s = some (s', v) → Q v (mH h s') → zz_E zp_P zt_tf zt_fd X (d + 4) zm_324 7 [(0, .ref 61), (1, .int x1), (2, .int x2), (3, .int x3), (4, .int x4)] [] (mH h s) Q) {Q : Option Value → zz_H → Prop} {x1 : Int32} {x2 : Int32} {x4 : Int32} {y0 : Int32} {s s' : mS} {v : Option Value} (hf : mf_324_46 N rc x1 x2 x4 y0 s = some (s', v)) (k : Q v (mH h s')) : zz_E zp_P zt_tf zt_fd X (d + 4) zm_324 46 [(0, .ref 61), (1, .int x1), (2, .int x2), (4, .int x4)] [.int y0] (mH h s) Q := by
  unfold mf_324_46 at hf
  refine mb_324_46 hh  (fun c => ?_) (fun c => ?_)
  · rw [if_pos c] at hf
    exact mr_324_54 hh hrc0 hf k
  · rw [if_neg c] at hf
    exact mr_324_50 hh hrc0 hf k
def mf_324_40 (N : Nat) (rc : Nat → Int32 → Int32 → Int32 → Int32 → mS → mO) (x1 : Int32) (x2 : Int32) (x4 : Int32) (s : mS) : mO := mo_bi (mf_292 N x4 s) (fun s1 y => mf_324_46 N rc x1 x2 x4 y s1)
theorem mr_324_40 {X : Nat → Option zz_C} {h : zz_H} (hh : 111 ≤ h.length) {d : Nat} {N : Nat} {rc : Nat → Int32 → Int32 → Int32 → Int32 → mS → mO} (hrc0 : ∀ {Q : Option Value → zz_H → Prop} {x1 : Int32} {x2 : Int32} {x3 : Int32} {x4 : Int32} {s s' : mS} {v : Option Value}, rc 0 x1 x2 x3 x4 s = some (s', v) → Q v (mH h s') → zz_E zp_P zt_tf zt_fd X (d + 4) zm_324 7 [(0, .ref 61), (1, .int x1), (2, .int x2), (3, .int x3), (4, .int x4)] [] (mH h s) Q) {Q : Option Value → zz_H → Prop} {x1 : Int32} {x2 : Int32} {x4 : Int32} {s s' : mS} {v : Option Value} (hf : mf_324_40 N rc x1 x2 x4 s = some (s', v)) (k : Q v (mH h s')) : zz_E zp_P zt_tf zt_fd X (d + 4) zm_324 40 [(0, .ref 61), (1, .int x1), (2, .int x2), (4, .int x4)] [] (mH h s) Q := by
  unfold mf_324_40 at hf
  obtain ⟨s1, y, e, hf⟩ := mo_bi_ok hf
  exact mb_324_40 (d := d + 3) hh  (mr_292 (d := d + 3) hh e (mr_324_46 hh hrc0 hf k))
def mf_324_35 (N : Nat) (rc : Nat → Int32 → Int32 → Int32 → Int32 → mS → mO) (x1 : Int32) (x3 : Int32) (x4 : Int32) (y0 : Int32) (s : mS) : mO := if x3 = 0 then mf_324_54 N rc x1 y0 x4 s else mf_324_40 N rc x1 y0 x4 s
theorem mr_324_35 {X : Nat → Option zz_C} {h : zz_H} (hh : 111 ≤ h.length) {d : Nat} {N : Nat} {rc : Nat → Int32 → Int32 → Int32 → Int32 → mS → mO} (hrc0 : ∀ {Q : Option Value → zz_H → Prop} {x1 : Int32} {x2 : Int32} {x3 : Int32} {x4 : Int32} {s s' : mS} {v : Option Value}, rc 0 x1 x2 x3 x4 s = some (s', v) → Q v (mH h s') → zz_E zp_P zt_tf zt_fd X (d + 4) zm_324 7 [(0, .ref 61), (1, .int x1), (2, .int x2), (3, .int x3), (4, .int x4)] [] (mH h s) Q) {Q : Option Value → zz_H → Prop} {x1 : Int32} {x3 : Int32} {x4 : Int32} {y0 : Int32} {s s' : mS} {v : Option Value} (hf : mf_324_35 N rc x1 x3 x4 y0 s = some (s', v)) (k : Q v (mH h s')) : zz_E zp_P zt_tf zt_fd X (d + 4) zm_324 35 [(0, .ref 61), (1, .int x1), (3, .int x3), (4, .int x4)] [.int y0] (mH h s) Q := by
  unfold mf_324_35 at hf
  refine mb_324_35 hh  (fun c => ?_) (fun c => ?_)
  · rw [if_pos c] at hf
    exact mr_324_54 hh hrc0 hf k
  · rw [if_neg c] at hf
    exact mr_324_40 hh hrc0 hf k
def mf_324_30 (N : Nat) (rc : Nat → Int32 → Int32 → Int32 → Int32 → mS → mO) (x1 : Int32) (x3 : Int32) (x4 : Int32) (s : mS) : mO := mf_324_35 N rc x1 x3 x4 1 s
theorem mr_324_30 {X : Nat → Option zz_C} {h : zz_H} (hh : 111 ≤ h.length) {d : Nat} {N : Nat} {rc : Nat → Int32 → Int32 → Int32 → Int32 → mS → mO} (hrc0 : ∀ {Q : Option Value → zz_H → Prop} {x1 : Int32} {x2 : Int32} {x3 : Int32} {x4 : Int32} {s s' : mS} {v : Option Value}, rc 0 x1 x2 x3 x4 s = some (s', v) → Q v (mH h s') → zz_E zp_P zt_tf zt_fd X (d + 4) zm_324 7 [(0, .ref 61), (1, .int x1), (2, .int x2), (3, .int x3), (4, .int x4)] [] (mH h s) Q) {Q : Option Value → zz_H → Prop} {x1 : Int32} {x3 : Int32} {x4 : Int32} {s s' : mS} {v : Option Value} (hf : mf_324_30 N rc x1 x3 x4 s = some (s', v)) (k : Q v (mH h s')) : zz_E zp_P zt_tf zt_fd X (d + 4) zm_324 30 [(0, .ref 61), (1, .int x1), (3, .int x3), (4, .int x4)] [] (mH h s) Q := by
  unfold mf_324_30 at hf
  exact mb_324_30 hh  (mr_324_35 hh hrc0 hf k)
def mf_324_34 (N : Nat) (rc : Nat → Int32 → Int32 → Int32 → Int32 → mS → mO) (x1 : Int32) (x3 : Int32) (x4 : Int32) (s : mS) : mO := mf_324_35 N rc x1 x3 x4 0 s
theorem mr_324_34 {X : Nat → Option zz_C} {h : zz_H} (hh : 111 ≤ h.length) {d : Nat} {N : Nat} {rc : Nat → Int32 → Int32 → Int32 → Int32 → mS → mO} (hrc0 : ∀ {Q : Option Value → zz_H → Prop} {x1 : Int32} {x2 : Int32} {x3 : Int32} {x4 : Int32} {s s' : mS} {v : Option Value}, rc 0 x1 x2 x3 x4 s = some (s', v) → Q v (mH h s') → zz_E zp_P zt_tf zt_fd X (d + 4) zm_324 7 [(0, .ref 61), (1, .int x1), (2, .int x2), (3, .int x3), (4, .int x4)] [] (mH h s) Q) {Q : Option Value → zz_H → Prop} {x1 : Int32} {x3 : Int32} {x4 : Int32} {s s' : mS} {v : Option Value} (hf : mf_324_34 N rc x1 x3 x4 s = some (s', v)) (k : Q v (mH h s')) : zz_E zp_P zt_tf zt_fd X (d + 4) zm_324 34 [(0, .ref 61), (1, .int x1), (3, .int x3), (4, .int x4)] [] (mH h s) Q := by
  unfold mf_324_34 at hf
  exact mb_324_34 hh  (mr_324_35 hh hrc0 hf k)
def mf_324_20 (N : Nat) (rc : Nat → Int32 → Int32 → Int32 → Int32 → mS → mO) (x1 : Int32) (x3 : Int32) (x4 : Int32) (s : mS) : mO := if ¬ (x4 < 0 ∨ 9000 ≤ Int32.toNatClampNeg x4) then (if ¬ ((s.2.2.1 49) (Int32.toNatClampNeg x4)) = 0 then mf_324_34 N rc x1 x3 x4 s else mf_324_30 N rc x1 x3 x4 s) else none
theorem mr_324_20 {X : Nat → Option zz_C} {h : zz_H} (hh : 111 ≤ h.length) {d : Nat} {N : Nat} {rc : Nat → Int32 → Int32 → Int32 → Int32 → mS → mO} (hrc0 : ∀ {Q : Option Value → zz_H → Prop} {x1 : Int32} {x2 : Int32} {x3 : Int32} {x4 : Int32} {s s' : mS} {v : Option Value}, rc 0 x1 x2 x3 x4 s = some (s', v) → Q v (mH h s') → zz_E zp_P zt_tf zt_fd X (d + 4) zm_324 7 [(0, .ref 61), (1, .int x1), (2, .int x2), (3, .int x3), (4, .int x4)] [] (mH h s) Q) {Q : Option Value → zz_H → Prop} {x1 : Int32} {x3 : Int32} {x4 : Int32} {s s' : mS} {v : Option Value} (hf : mf_324_20 N rc x1 x3 x4 s = some (s', v)) (k : Q v (mH h s')) : zz_E zp_P zt_tf zt_fd X (d + 4) zm_324 20 [(0, .ref 61), (1, .int x1), (3, .int x3), (4, .int x4)] [] (mH h s) Q := by
  unfold mf_324_20 at hf
  obtain ⟨q0, hf⟩ := mo_if hf
  refine mb_324_20 hh q0 (fun c => ?_) (fun c => ?_)
  · rw [if_pos c] at hf
    exact mr_324_34 hh hrc0 hf k
  · rw [if_neg c] at hf
    exact mr_324_30 hh hrc0 hf k
def mf_324_16 (N : Nat) (rc : Nat → Int32 → Int32 → Int32 → Int32 → mS → mO) (x1 : Int32) (x2 : Int32) (x3 : Int32) (x4 : Int32) (s : mS) : mO := if x2 = 0 then mf_324_34 N rc x1 x3 x4 s else mf_324_20 N rc x1 x3 x4 s
theorem mr_324_16 {X : Nat → Option zz_C} {h : zz_H} (hh : 111 ≤ h.length) {d : Nat} {N : Nat} {rc : Nat → Int32 → Int32 → Int32 → Int32 → mS → mO} (hrc0 : ∀ {Q : Option Value → zz_H → Prop} {x1 : Int32} {x2 : Int32} {x3 : Int32} {x4 : Int32} {s s' : mS} {v : Option Value}, rc 0 x1 x2 x3 x4 s = some (s', v) → Q v (mH h s') → zz_E zp_P zt_tf zt_fd X (d + 4) zm_324 7 [(0, .ref 61), (1, .int x1), (2, .int x2), (3, .int x3), (4, .int x4)] [] (mH h s) Q) {Q : Option Value → zz_H → Prop} {x1 : Int32} {x2 : Int32} {x3 : Int32} {x4 : Int32} {s s' : mS} {v : Option Value} (hf : mf_324_16 N rc x1 x2 x3 x4 s = some (s', v)) (k : Q v (mH h s')) : zz_E zp_P zt_tf zt_fd X (d + 4) zm_324 16 [(0, .ref 61), (1, .int x1), (2, .int x2), (3, .int x3), (4, .int x4)] [] (mH h s) Q := by
  unfold mf_324_16 at hf
  refine mb_324_16 hh  (fun c => ?_) (fun c => ?_)
  · rw [if_pos c] at hf
    exact mr_324_34 hh hrc0 hf k
  · rw [if_neg c] at hf
    exact mr_324_20 hh hrc0 hf k
def mf_324_7 (N : Nat) (rc : Nat → Int32 → Int32 → Int32 → Int32 → mS → mO) (x1 : Int32) (x2 : Int32) (x3 : Int32) (x4 : Int32) (s : mS) : mO := if (s.1 51) ≤ x4 then mf_324_62 N x1 x2 x3 s else mf_324_16 N rc x1 x2 x3 x4 s
theorem mr_324_7 {X : Nat → Option zz_C} {h : zz_H} (hh : 111 ≤ h.length) {d : Nat} {N : Nat} {rc : Nat → Int32 → Int32 → Int32 → Int32 → mS → mO} (hrc0 : ∀ {Q : Option Value → zz_H → Prop} {x1 : Int32} {x2 : Int32} {x3 : Int32} {x4 : Int32} {s s' : mS} {v : Option Value}, rc 0 x1 x2 x3 x4 s = some (s', v) → Q v (mH h s') → zz_E zp_P zt_tf zt_fd X (d + 4) zm_324 7 [(0, .ref 61), (1, .int x1), (2, .int x2), (3, .int x3), (4, .int x4)] [] (mH h s) Q) {Q : Option Value → zz_H → Prop} {x1 : Int32} {x2 : Int32} {x3 : Int32} {x4 : Int32} {s s' : mS} {v : Option Value} (hf : mf_324_7 N rc x1 x2 x3 x4 s = some (s', v)) (k : Q v (mH h s')) : zz_E zp_P zt_tf zt_fd X (d + 4) zm_324 7 [(0, .ref 61), (1, .int x1), (2, .int x2), (3, .int x3), (4, .int x4)] [] (mH h s) Q := by
  unfold mf_324_7 at hf
  refine mb_324_7 hh  (fun c => ?_) (fun c => ?_)
  · rw [if_pos c] at hf
    exact mr_324_62 hh hf k
  · rw [if_neg c] at hf
    exact mr_324_16 hh hrc0 hf k
def mf_324_L8 (N : Nat) : Nat → Nat → Int32 → Int32 → Int32 → Int32 → mS → mO
  | 0, _, _, _, _, _, _ => none
  | n + 1, l, x1, x2, x3, x4, s => if l = 0 then mf_324_7 N (mf_324_L8 N n) x1 x2 x3 x4 s else none
theorem mr_324_L8 {X : Nat → Option zz_C} {h : zz_H} (hh : 111 ≤ h.length) {d : Nat} {N : Nat} : ∀ n : Nat, (∀ {Q : Option Value → zz_H → Prop} {x1 : Int32} {x2 : Int32} {x3 : Int32} {x4 : Int32} {s s' : mS} {v : Option Value}, mf_324_L8 N n 0 x1 x2 x3 x4 s = some (s', v) → Q v (mH h s') → zz_E zp_P zt_tf zt_fd X (d + 4) zm_324 7 [(0, .ref 61), (1, .int x1), (2, .int x2), (3, .int x3), (4, .int x4)] [] (mH h s) Q) := by
  intro n
  induction n with
  | zero => exact (fun hf _ => by cases hf)
  | succ n ih =>
    have h0 := @ih
    intro Q _ _ _ _ s s' v hf k
    unfold mf_324_L8 at hf
    rw [if_pos rfl] at hf
    exact mr_324_7 hh h0 hf k
def mf_324_0 (N : Nat) (x1 : Int32) (s : mS) : mO := mf_324_L8 N N 0 x1 1 1 x1 s
theorem mr_324_0 {X : Nat → Option zz_C} {h : zz_H} (hh : 111 ≤ h.length) {d : Nat} {N : Nat} {Q : Option Value → zz_H → Prop} {x1 : Int32} {s s' : mS} {v : Option Value} (hf : mf_324_0 N x1 s = some (s', v)) (k : Q v (mH h s')) : zz_E zp_P zt_tf zt_fd X (d + 4) zm_324 0 [(0, .ref 61), (1, .int x1)] [] (mH h s) Q := by
  unfold mf_324_0 at hf
  exact mb_324_0 hh  (mr_324_L8 hh N hf k)
/-- literal -/
def mf_324 (N : Nat) (x1 : Int32) (s : mS) : mO := mf_324_0 N x1 s
theorem mr_324 {X : Nat → Option zz_C} {h : zz_H} (hh : 111 ≤ h.length) {d : Nat} {N : Nat} {Q : Option Value → zz_H → Prop} {x1 : Int32} {s s' : mS} {v : Option Value} (hf : mf_324 N x1 s = some (s', v)) (k : Q v (mH h s')) : zz_E zp_P zt_tf zt_fd X (d + 4) zm_324 0 [(0, .ref 61), (1, .int x1)] [] (mH h s) Q := by
  unfold mf_324 at hf
  exact zz_E.weak (mr_324_0 hh hf k) rfl ⟨rfl, rfl, trivial⟩
