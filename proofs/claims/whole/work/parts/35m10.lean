/-! element (II)V -/
theorem mb_295_0 {X : Nat → Option zz_C} {h : zz_H} (hh : 111 ≤ h.length) {s : mS} {d : Nat} {Q : Option Value → zz_H → Prop} {x1 : Int32} {x2 : Int32} (i5 : ¬ (x1 < 0 ∨ 166300 ≤ Int32.toNatClampNeg x1)) (k1 : ¬ ((s.2.2.1 47) (Int32.toNatClampNeg x1)) = 1 → zz_E zp_P zt_tf zt_fd X d zm_295 28 [(0, .ref 61), (1, .int x1), (2, .int x2)] [] (mH h s) Q) (k2 : ¬ ¬ ((s.2.2.1 47) (Int32.toNatClampNeg x1)) = 1 → zz_E zp_P zt_tf zt_fd X d zm_295 10 [(0, .ref 61), (1, .int x1), (2, .int x2)] [] (mH h s) Q) : zz_E zp_P zt_tf zt_fd X d zm_295 0 [(0, .ref 61), (1, .int x1), (2, .int x2)] [] (mH h s) Q := by
  refine zz_E.n 1 rfl rfl rfl ?_
  refine mE_g hh 4 (v := .ref 89) rfl rfl rfl ?_
  refine zz_E.n 5 rfl rfl rfl ?_
  refine mE_ia hh 6 28 (f := (s.2.2.1 47)) rfl (by decide) rfl rfl i5 rfl ?_
  refine zz_E.c 7 (.int 1) rfl rfl rfl rfl ?_
  refine zz_E.b2 28 10 (A := ¬ ((s.2.2.1 47) (Int32.toNatClampNeg x1)) = 1) rfl (zz_cond_ne _ _) (by decide) rfl rfl (fun c => ?_) (fun c => ?_)
  · exact zz_E.weak (k1 c) rfl ⟨rfl, rfl, rfl, trivial⟩
  · exact zz_E.weak (k2 c) rfl ⟨rfl, rfl, rfl, trivial⟩
theorem mb_295_10 {X : Nat → Option zz_C} {h : zz_H} (hh : 111 ≤ h.length) {s : mS} {d : Nat} {Q : Option Value → zz_H → Prop} {x1 : Int32} {x2 : Int32} (i21 : ¬ (((x1 + 2) + x2) < 0 ∨ 166300 ≤ Int32.toNatClampNeg ((x1 + 2) + x2))) (k : zz_E zp_P zt_tf zt_fd X d zm_291 0 [(0, .ref 61), (1, .int 0), (2, .int ((s.2.2.1 47) (Int32.toNatClampNeg ((x1 + 2) + x2))))] [] (mH h s) (fun v h' => zz_E zp_P zt_tf zt_fd X (d + 1) zm_295 25 [] (v.toList ++ []) h' Q)) : zz_E zp_P zt_tf zt_fd X (d + 1) zm_295 10 [(0, .ref 61), (1, .int x1), (2, .int x2)] [] (mH h s) Q := by
  refine zz_E.n 11 rfl rfl rfl ?_
  refine zz_E.c 12 (.int 0) rfl rfl rfl rfl ?_
  refine zz_E.n 13 rfl rfl rfl ?_
  refine mE_g hh 16 (v := .ref 89) rfl rfl rfl ?_
  refine zz_E.n 17 rfl rfl rfl ?_
  refine zz_E.c 18 (.int 2) rfl rfl rfl rfl ?_
  refine zz_E.n 19 rfl rfl rfl ?_
  refine zz_E.n 20 rfl rfl rfl ?_
  refine zz_E.n 21 rfl rfl rfl ?_
  refine mE_ia hh 22 28 (f := (s.2.2.1 47)) rfl (by decide) rfl rfl i21 rfl ?_
  refine mE_cv hh 25 (as := []) rfl rfl (Nat.le_of_ble_eq_true rfl) (Nat.le_of_ble_eq_true rfl) rfl (Nat.le_of_ble_eq_true rfl) rfl ?_
  refine zz_E.mono k ?_
  intro v h' hE
  exact zz_E.weak hE rfl trivial
theorem mb_295_25 {X : Nat → Option zz_C} {h : zz_H} (hh : 111 ≤ h.length) {s : mS} {d : Nat} {Q : Option Value → zz_H → Prop}  (k : zz_E zp_P zt_tf zt_fd X d zm_295 78 [] [] (mH h s) Q) : zz_E zp_P zt_tf zt_fd X d zm_295 25 [] [] (mH h s) Q := by
  refine zz_E.n 78 rfl rfl rfl ?_
  exact zz_E.weak k rfl trivial
theorem mb_295_28 {X : Nat → Option zz_C} {h : zz_H} (hh : 111 ≤ h.length) {s : mS} {d : Nat} {Q : Option Value → zz_H → Prop} {x1 : Int32} {x2 : Int32} (i33 : ¬ (x1 < 0 ∨ 166300 ≤ Int32.toNatClampNeg x1)) (k1 : ¬ ((s.2.2.1 47) (Int32.toNatClampNeg x1)) = 3 → zz_E zp_P zt_tf zt_fd X d zm_295 67 [(0, .ref 61), (1, .int x1), (2, .int x2)] [] (mH h s) Q) (k2 : ¬ ¬ ((s.2.2.1 47) (Int32.toNatClampNeg x1)) = 3 → zz_E zp_P zt_tf zt_fd X d zm_295 38 [(0, .ref 61), (1, .int x1), (2, .int x2)] [] (mH h s) Q) : zz_E zp_P zt_tf zt_fd X d zm_295 28 [(0, .ref 61), (1, .int x1), (2, .int x2)] [] (mH h s) Q := by
  refine zz_E.n 29 rfl rfl rfl ?_
  refine mE_g hh 32 (v := .ref 89) rfl rfl rfl ?_
  refine zz_E.n 33 rfl rfl rfl ?_
  refine mE_ia hh 34 28 (f := (s.2.2.1 47)) rfl (by decide) rfl rfl i33 rfl ?_
  refine zz_E.c 35 (.int 3) rfl rfl rfl rfl ?_
  refine zz_E.b2 67 38 (A := ¬ ((s.2.2.1 47) (Int32.toNatClampNeg x1)) = 3) rfl (zz_cond_ne _ _) (by decide) rfl rfl (fun c => ?_) (fun c => ?_)
  · exact zz_E.weak (k1 c) rfl ⟨rfl, rfl, rfl, trivial⟩
  · exact zz_E.weak (k2 c) rfl ⟨rfl, rfl, rfl, trivial⟩
theorem mb_295_38 {X : Nat → Option zz_C} {h : zz_H} (hh : 111 ≤ h.length) {s : mS} {d : Nat} {Q : Option Value → zz_H → Prop} {x1 : Int32} {x2 : Int32} (k : zz_E zp_P zt_tf zt_fd X d zm_293 0 [(0, .ref 61), (1, .int x1), (2, .int x2)] [] (mH h s) (fun v h' => zz_E zp_P zt_tf zt_fd X (d + 1) zm_295 44 [(0, .ref 61), (1, .int x1), (2, .int x2)] (v.toList ++ []) h' Q)) : zz_E zp_P zt_tf zt_fd X (d + 1) zm_295 38 [(0, .ref 61), (1, .int x1), (2, .int x2)] [] (mH h s) Q := by
  refine zz_E.n 39 rfl rfl rfl ?_
  refine zz_E.n 40 rfl rfl rfl ?_
  refine zz_E.n 41 rfl rfl rfl ?_
  refine mE_cv hh 44 (as := []) rfl rfl (Nat.le_of_ble_eq_true rfl) (Nat.le_of_ble_eq_true rfl) rfl (Nat.le_of_ble_eq_true rfl) rfl ?_
  refine zz_E.mono k ?_
  intro v h' hE
  exact zz_E.weak hE rfl ⟨rfl, rfl, rfl, trivial⟩
theorem mb_295_44 {X : Nat → Option zz_C} {h : zz_H} (hh : 111 ≤ h.length) {s : mS} {d : Nat} {Q : Option Value → zz_H → Prop} {x1 : Int32} {x2 : Int32} {y0 : Int32} (k1 : y0 = 0 → zz_E zp_P zt_tf zt_fd X d zm_295 67 [(0, .ref 61), (1, .int x1), (2, .int x2)] [] (mH h s) Q) (k2 : ¬ y0 = 0 → zz_E zp_P zt_tf zt_fd X d zm_295 47 [(0, .ref 61), (1, .int x1), (2, .int x2)] [] (mH h s) Q) : zz_E zp_P zt_tf zt_fd X d zm_295 44 [(0, .ref 61), (1, .int x1), (2, .int x2)] [.int y0] (mH h s) Q := by
  refine zz_E.b1 67 47 (A := y0 = 0) rfl rfl (by decide) rfl rfl (fun c => ?_) (fun c => ?_)
  · exact zz_E.weak (k1 c) rfl ⟨rfl, rfl, rfl, trivial⟩
  · exact zz_E.weak (k2 c) rfl ⟨rfl, rfl, rfl, trivial⟩
theorem mb_295_47 {X : Nat → Option zz_C} {h : zz_H} (hh : 111 ≤ h.length) {s : mS} {d : Nat} {Q : Option Value → zz_H → Prop} {x1 : Int32} {x2 : Int32} (i60 : ¬ (((x1 + 3) + (2 * x2)) < 0 ∨ 166300 ≤ Int32.toNatClampNeg ((x1 + 3) + (2 * x2)))) (k : zz_E zp_P zt_tf zt_fd X d zm_291 0 [(0, .ref 61), (1, .int 0), (2, .int ((s.2.2.1 47) (Int32.toNatClampNeg ((x1 + 3) + (2 * x2)))))] [] (mH h s) (fun v h' => zz_E zp_P zt_tf zt_fd X (d + 1) zm_295 64 [] (v.toList ++ []) h' Q)) : zz_E zp_P zt_tf zt_fd X (d + 1) zm_295 47 [(0, .ref 61), (1, .int x1), (2, .int x2)] [] (mH h s) Q := by
  refine zz_E.n 48 rfl rfl rfl ?_
  refine zz_E.c 49 (.int 0) rfl rfl rfl rfl ?_
  refine zz_E.n 50 rfl rfl rfl ?_
  refine mE_g hh 53 (v := .ref 89) rfl rfl rfl ?_
  refine zz_E.n 54 rfl rfl rfl ?_
  refine zz_E.c 55 (.int 3) rfl rfl rfl rfl ?_
  refine zz_E.n 56 rfl rfl rfl ?_
  refine zz_E.c 57 (.int 2) rfl rfl rfl rfl ?_
  refine zz_E.n 58 rfl rfl rfl ?_
  refine zz_E.n 59 rfl rfl rfl ?_
  refine zz_E.n 60 rfl rfl rfl ?_
  refine mE_ia hh 61 28 (f := (s.2.2.1 47)) rfl (by decide) rfl rfl i60 rfl ?_
  refine mE_cv hh 64 (as := []) rfl rfl (Nat.le_of_ble_eq_true rfl) (Nat.le_of_ble_eq_true rfl) rfl (Nat.le_of_ble_eq_true rfl) rfl ?_
  refine zz_E.mono k ?_
  intro v h' hE
  exact zz_E.weak hE rfl trivial
theorem mb_295_64 {X : Nat → Option zz_C} {h : zz_H} (hh : 111 ≤ h.length) {s : mS} {d : Nat} {Q : Option Value → zz_H → Prop}  (k : zz_E zp_P zt_tf zt_fd X d zm_295 78 [] [] (mH h s) Q) : zz_E zp_P zt_tf zt_fd X d zm_295 64 [] [] (mH h s) Q := by
  refine zz_E.n 78 rfl rfl rfl ?_
  exact zz_E.weak k rfl trivial
theorem mb_295_67 {X : Nat → Option zz_C} {h : zz_H} (hh : 111 ≤ h.length) {s : mS} {d : Nat} {Q : Option Value → zz_H → Prop} {x1 : Int32} {x2 : Int32} (k : zz_E zp_P zt_tf zt_fd X d zm_294 0 [(0, .ref 61), (1, .int x1), (2, .int x2)] [] (mH h s) (fun v h' => zz_E zp_P zt_tf zt_fd X (d + 1) zm_295 75 [] (v.toList ++ [.int 1, .ref 61]) h' Q)) : zz_E zp_P zt_tf zt_fd X (d + 1) zm_295 67 [(0, .ref 61), (1, .int x1), (2, .int x2)] [] (mH h s) Q := by
  refine zz_E.n 68 rfl rfl rfl ?_
  refine zz_E.c 69 (.int 1) rfl rfl rfl rfl ?_
  refine zz_E.n 70 rfl rfl rfl ?_
  refine zz_E.n 71 rfl rfl rfl ?_
  refine zz_E.n 72 rfl rfl rfl ?_
  refine mE_cv hh 75 (as := [.int 1, .ref 61]) rfl rfl (Nat.le_of_ble_eq_true rfl) (Nat.le_of_ble_eq_true rfl) rfl (Nat.le_of_ble_eq_true rfl) rfl ?_
  refine zz_E.mono k ?_
  intro v h' hE
  exact zz_E.weak hE rfl trivial
theorem mb_295_75 {X : Nat → Option zz_C} {h : zz_H} (hh : 111 ≤ h.length) {s : mS} {d : Nat} {Q : Option Value → zz_H → Prop} {y1 : Int32} {y2 : Int32} (k : zz_E zp_P zt_tf zt_fd X d zm_291 0 [(0, .ref 61), (1, .int y1), (2, .int y2)] [] (mH h s) (fun v h' => zz_E zp_P zt_tf zt_fd X (d + 1) zm_295 78 [] (v.toList ++ []) h' Q)) : zz_E zp_P zt_tf zt_fd X (d + 1) zm_295 75 [] [.int y2, .int y1, .ref 61] (mH h s) Q := by
  refine mE_cv hh 78 (as := []) rfl rfl (Nat.le_of_ble_eq_true rfl) (Nat.le_of_ble_eq_true rfl) rfl (Nat.le_of_ble_eq_true rfl) rfl ?_
  refine zz_E.mono k ?_
  intro v h' hE
  exact zz_E.weak hE rfl trivial
theorem mb_295_78 {X : Nat → Option zz_C} {h : zz_H} (hh : 111 ≤ h.length) {s : mS} {d : Nat} {Q : Option Value → zz_H → Prop}  (k : Q none (mH h s)) : zz_E zp_P zt_tf zt_fd X d zm_295 78 [] [] (mH h s) Q := by
  refine zz_E.ret rfl rfl rfl ?_
  exact k
def mf_295_78 (N : Nat)  (s : mS) : mO := some (s, none)
theorem mr_295_78 {X : Nat → Option zz_C} {h : zz_H} (hh : 111 ≤ h.length) {d : Nat} {N : Nat} {Q : Option Value → zz_H → Prop}  {s s' : mS} {v : Option Value} (hf : mf_295_78 N  s = some (s', v)) (k : Q v (mH h s')) : zz_E zp_P zt_tf zt_fd X (d + 1) zm_295 78 [] [] (mH h s) Q := by
  unfold mf_295_78 at hf
  cases hf
  exact mb_295_78 hh  k
def mf_295_75 (N : Nat) (y1 : Int32) (y2 : Int32) (s : mS) : mO := mo_bv (mf_291 N y1 y2 s) (fun s1 => mf_295_78 N  s1)
theorem mr_295_75 {X : Nat → Option zz_C} {h : zz_H} (hh : 111 ≤ h.length) {d : Nat} {N : Nat} {Q : Option Value → zz_H → Prop} {y1 : Int32} {y2 : Int32} {s s' : mS} {v : Option Value} (hf : mf_295_75 N y1 y2 s = some (s', v)) (k : Q v (mH h s')) : zz_E zp_P zt_tf zt_fd X (d + 1) zm_295 75 [] [.int y2, .int y1, .ref 61] (mH h s) Q := by
  unfold mf_295_75 at hf
  obtain ⟨s1, e, hf⟩ := mo_bv_ok hf
  exact mb_295_75 (d := d + 0) hh  (mr_291 (d := d + 0) hh e (mr_295_78 hh hf k))
def mf_295_67 (N : Nat) (x1 : Int32) (x2 : Int32) (s : mS) : mO := mo_bi (mf_294 N x1 x2 s) (fun s1 y => mf_295_75 N 1 y s1)
theorem mr_295_67 {X : Nat → Option zz_C} {h : zz_H} (hh : 111 ≤ h.length) {d : Nat} {N : Nat} {Q : Option Value → zz_H → Prop} {x1 : Int32} {x2 : Int32} {s s' : mS} {v : Option Value} (hf : mf_295_67 N x1 x2 s = some (s', v)) (k : Q v (mH h s')) : zz_E zp_P zt_tf zt_fd X (d + 1) zm_295 67 [(0, .ref 61), (1, .int x1), (2, .int x2)] [] (mH h s) Q := by
  unfold mf_295_67 at hf
  obtain ⟨s1, y, e, hf⟩ := mo_bi_ok hf
  exact mb_295_67 (d := d + 0) hh  (mr_294 (d := d + 0) hh e (mr_295_75 hh hf k))
def mf_295_64 (N : Nat)  (s : mS) : mO := mf_295_78 N  s
theorem mr_295_64 {X : Nat → Option zz_C} {h : zz_H} (hh : 111 ≤ h.length) {d : Nat} {N : Nat} {Q : Option Value → zz_H → Prop}  {s s' : mS} {v : Option Value} (hf : mf_295_64 N  s = some (s', v)) (k : Q v (mH h s')) : zz_E zp_P zt_tf zt_fd X (d + 1) zm_295 64 [] [] (mH h s) Q := by
  unfold mf_295_64 at hf
  exact mb_295_64 hh  (mr_295_78 hh hf k)
def mf_295_47 (N : Nat) (x1 : Int32) (x2 : Int32) (s : mS) : mO := if ¬ (((x1 + 3) + (2 * x2)) < 0 ∨ 166300 ≤ Int32.toNatClampNeg ((x1 + 3) + (2 * x2))) then (mo_bv (mf_291 N 0 ((s.2.2.1 47) (Int32.toNatClampNeg ((x1 + 3) + (2 * x2)))) s) (fun s1 => mf_295_64 N  s1)) else none
theorem mr_295_47 {X : Nat → Option zz_C} {h : zz_H} (hh : 111 ≤ h.length) {d : Nat} {N : Nat} {Q : Option Value → zz_H → Prop} {x1 : Int32} {x2 : Int32} {s s' : mS} {v : Option Value} (hf : mf_295_47 N x1 x2 s = some (s', v)) (k : Q v (mH h s')) : zz_E zp_P zt_tf zt_fd X (d + 1) zm_295 47 [(0, .ref 61), (1, .int x1), (2, .int x2)] [] (mH h s) Q := by
  unfold mf_295_47 at hf
  obtain ⟨q0, hf⟩ := mo_if hf
  obtain ⟨s1, e, hf⟩ := mo_bv_ok hf
  exact mb_295_47 (d := d + 0) hh q0 (mr_291 (d := d + 0) hh e (mr_295_64 hh hf k))
def mf_295_44 (N : Nat) (x1 : Int32) (x2 : Int32) (y0 : Int32) (s : mS) : mO := if y0 = 0 then mf_295_67 N x1 x2 s else mf_295_47 N x1 x2 s
theorem mr_295_44 {X : Nat → Option zz_C} {h : zz_H} (hh : 111 ≤ h.length) {d : Nat} {N : Nat} {Q : Option Value → zz_H → Prop} {x1 : Int32} {x2 : Int32} {y0 : Int32} {s s' : mS} {v : Option Value} (hf : mf_295_44 N x1 x2 y0 s = some (s', v)) (k : Q v (mH h s')) : zz_E zp_P zt_tf zt_fd X (d + 1) zm_295 44 [(0, .ref 61), (1, .int x1), (2, .int x2)] [.int y0] (mH h s) Q := by
  unfold mf_295_44 at hf
  refine mb_295_44 hh  (fun c => ?_) (fun c => ?_)
  · rw [if_pos c] at hf
    exact mr_295_67 hh hf k
  · rw [if_neg c] at hf
    exact mr_295_47 hh hf k
def mf_295_38 (N : Nat) (x1 : Int32) (x2 : Int32) (s : mS) : mO := mo_bi (mf_293 N x1 x2 s) (fun s1 y => mf_295_44 N x1 x2 y s1)
theorem mr_295_38 {X : Nat → Option zz_C} {h : zz_H} (hh : 111 ≤ h.length) {d : Nat} {N : Nat} {Q : Option Value → zz_H → Prop} {x1 : Int32} {x2 : Int32} {s s' : mS} {v : Option Value} (hf : mf_295_38 N x1 x2 s = some (s', v)) (k : Q v (mH h s')) : zz_E zp_P zt_tf zt_fd X (d + 1) zm_295 38 [(0, .ref 61), (1, .int x1), (2, .int x2)] [] (mH h s) Q := by
  unfold mf_295_38 at hf
  obtain ⟨s1, y, e, hf⟩ := mo_bi_ok hf
  exact mb_295_38 (d := d + 0) hh  (mr_293 (d := d + 0) hh e (mr_295_44 hh hf k))
def mf_295_28 (N : Nat) (x1 : Int32) (x2 : Int32) (s : mS) : mO := if ¬ (x1 < 0 ∨ 166300 ≤ Int32.toNatClampNeg x1) then (if ¬ ((s.2.2.1 47) (Int32.toNatClampNeg x1)) = 3 then mf_295_67 N x1 x2 s else mf_295_38 N x1 x2 s) else none
theorem mr_295_28 {X : Nat → Option zz_C} {h : zz_H} (hh : 111 ≤ h.length) {d : Nat} {N : Nat} {Q : Option Value → zz_H → Prop} {x1 : Int32} {x2 : Int32} {s s' : mS} {v : Option Value} (hf : mf_295_28 N x1 x2 s = some (s', v)) (k : Q v (mH h s')) : zz_E zp_P zt_tf zt_fd X (d + 1) zm_295 28 [(0, .ref 61), (1, .int x1), (2, .int x2)] [] (mH h s) Q := by
  unfold mf_295_28 at hf
  obtain ⟨q0, hf⟩ := mo_if hf
  refine mb_295_28 hh q0 (fun c => ?_) (fun c => ?_)
  · rw [if_pos c] at hf
    exact mr_295_67 hh hf k
  · rw [if_neg c] at hf
    exact mr_295_38 hh hf k
def mf_295_25 (N : Nat)  (s : mS) : mO := mf_295_78 N  s
theorem mr_295_25 {X : Nat → Option zz_C} {h : zz_H} (hh : 111 ≤ h.length) {d : Nat} {N : Nat} {Q : Option Value → zz_H → Prop}  {s s' : mS} {v : Option Value} (hf : mf_295_25 N  s = some (s', v)) (k : Q v (mH h s')) : zz_E zp_P zt_tf zt_fd X (d + 1) zm_295 25 [] [] (mH h s) Q := by
  unfold mf_295_25 at hf
  exact mb_295_25 hh  (mr_295_78 hh hf k)
def mf_295_10 (N : Nat) (x1 : Int32) (x2 : Int32) (s : mS) : mO := if ¬ (((x1 + 2) + x2) < 0 ∨ 166300 ≤ Int32.toNatClampNeg ((x1 + 2) + x2)) then (mo_bv (mf_291 N 0 ((s.2.2.1 47) (Int32.toNatClampNeg ((x1 + 2) + x2))) s) (fun s1 => mf_295_25 N  s1)) else none
theorem mr_295_10 {X : Nat → Option zz_C} {h : zz_H} (hh : 111 ≤ h.length) {d : Nat} {N : Nat} {Q : Option Value → zz_H → Prop} {x1 : Int32} {x2 : Int32} {s s' : mS} {v : Option Value} (hf : mf_295_10 N x1 x2 s = some (s', v)) (k : Q v (mH h s')) : zz_E zp_P zt_tf zt_fd X (d + 1) zm_295 10 [(0, .ref 61), (1, .int x1), (2, .int x2)] [] (mH h s) Q := by
  unfold mf_295_10 at hf
  obtain ⟨q0, hf⟩ := mo_if hf
  obtain ⟨s1, e, hf⟩ := mo_bv_ok hf
  exact mb_295_10 (d := d + 0) hh q0 (mr_291 (d := d + 0) hh e (mr_295_25 hh hf k))
def mf_295_0 (N : Nat) (x1 : Int32) (x2 : Int32) (s : mS) : mO := if ¬ (x1 < 0 ∨ 166300 ≤ Int32.toNatClampNeg x1) then (if ¬ ((s.2.2.1 47) (Int32.toNatClampNeg x1)) = 1 then mf_295_28 N x1 x2 s else mf_295_10 N x1 x2 s) else none
theorem mr_295_0 {X : Nat → Option zz_C} {h : zz_H} (hh : 111 ≤ h.length) {d : Nat} {N : Nat} {Q : Option Value → zz_H → Prop} {x1 : Int32} {x2 : Int32} {s s' : mS} {v : Option Value} (hf : mf_295_0 N x1 x2 s = some (s', v)) (k : Q v (mH h s')) : zz_E zp_P zt_tf zt_fd X (d + 1) zm_295 0 [(0, .ref 61), (1, .int x1), (2, .int x2)] [] (mH h s) Q := by
  unfold mf_295_0 at hf
  obtain ⟨q0, hf⟩ := mo_if hf
  refine mb_295_0 hh q0 (fun c => ?_) (fun c => ?_)
  · rw [if_pos c] at hf
    exact mr_295_28 hh hf k
  · rw [if_neg c] at hf
    exact mr_295_10 hh hf k
/-- element -/
def mf_295 (N : Nat) (x1 : Int32) (x2 : Int32) (s : mS) : mO := mf_295_0 N x1 x2 s
theorem mr_295 {X : Nat → Option zz_C} {h : zz_H} (hh : 111 ≤ h.length) {d : Nat} {N : Nat} {Q : Option Value → zz_H → Prop} {x1 : Int32} {x2 : Int32} {s s' : mS} {v : Option Value} (hf : mf_295 N x1 x2 s = some (s', v)) (k : Q v (mH h s')) : zz_E zp_P zt_tf zt_fd X (d + 1) zm_295 0 [(0, .ref 61), (1, .int x1), (2, .int x2)] [] (mH h s) Q := by
  unfold mf_295 at hf
  exact zz_E.weak (mr_295_0 hh hf k) rfl ⟨rfl, rfl, rfl, trivial⟩
/-! forNext (I)V -/
theorem mb_315_0 {X : Nat → Option zz_C} {h : zz_H} (hh : 111 ≤ h.length) {s : mS} {d : Nat} {Q : Option Value → zz_H → Prop} {x1 : Int32} (k : zz_E zp_P zt_tf zt_fd X d zm_302 0 [(0, .ref 61)] [] (mH h s) (fun v h' => zz_E zp_P zt_tf zt_fd X (d + 1) zm_315 4 [(0, .ref 61), (1, .int x1)] (v.toList ++ []) h' Q)) : zz_E zp_P zt_tf zt_fd X (d + 1) zm_315 0 [(0, .ref 61), (1, .int x1)] [] (mH h s) Q := by
  refine zz_E.n 1 rfl rfl rfl ?_
  refine mE_cv hh 4 (as := []) rfl rfl (Nat.le_of_ble_eq_true rfl) (Nat.le_of_ble_eq_true rfl) rfl (Nat.le_of_ble_eq_true rfl) rfl ?_
  refine zz_E.mono k ?_
  intro v h' hE
  exact zz_E.weak hE rfl ⟨rfl, rfl, trivial⟩
theorem mb_315_4 {X : Nat → Option zz_C} {h : zz_H} (hh : 111 ≤ h.length) {s : mS} {d : Nat} {Q : Option Value → zz_H → Prop} {x1 : Int32} (k1 : (s.1 66) ≤ 0 → zz_E zp_P zt_tf zt_fd X d zm_315 12 [(0, .ref 61), (1, .int x1)] [] (mH h s) Q) (k2 : ¬ (s.1 66) ≤ 0 → zz_E zp_P zt_tf zt_fd X d zm_315 11 [] [] (mH h s) Q) : zz_E zp_P zt_tf zt_fd X d zm_315 4 [(0, .ref 61), (1, .int x1)] [] (mH h s) Q := by
  refine zz_E.n 5 rfl rfl rfl ?_
  refine mE_g hh 8 (v := .int (s.1 66)) rfl rfl rfl ?_
  refine zz_E.b1 12 11 (A := (s.1 66) ≤ 0) rfl rfl (by decide) rfl rfl (fun c => ?_) (fun c => ?_)
  · exact zz_E.weak (k1 c) rfl ⟨rfl, rfl, trivial⟩
  · exact zz_E.weak (k2 c) rfl trivial
theorem mb_315_11 {X : Nat → Option zz_C} {h : zz_H} (hh : 111 ≤ h.length) {s : mS} {d : Nat} {Q : Option Value → zz_H → Prop}  (k : Q none (mH h s)) : zz_E zp_P zt_tf zt_fd X d zm_315 11 [] [] (mH h s) Q := by
  refine zz_E.ret rfl rfl rfl ?_
  exact k
theorem mb_315_12 {X : Nat → Option zz_C} {h : zz_H} (hh : 111 ≤ h.length) {s : mS} {d : Nat} {Q : Option Value → zz_H → Prop} {x1 : Int32} (i24 : ¬ (((s.1 79) - 1) < 0 ∨ 400 ≤ Int32.toNatClampNeg ((s.1 79) - 1))) (i30 : ¬ (((s.1 79) - 1) < 0 ∨ 400 ≤ Int32.toNatClampNeg ((s.1 79) - 1))) (k1 : ¬ ((s.2.2.1 82) (Int32.toNatClampNeg ((s.1 79) - 1))) = ((s.2.2.1 83) (Int32.toNatClampNeg ((s.1 79) - 1))) → zz_E zp_P zt_tf zt_fd X d zm_315 55 [(0, .ref 61), (1, .int x1), (2, .int ((s.1 79) - 1))] [] (mH h s) Q) (k2 : ¬ ¬ ((s.2.2.1 82) (Int32.toNatClampNeg ((s.1 79) - 1))) = ((s.2.2.1 83) (Int32.toNatClampNeg ((s.1 79) - 1))) → zz_E zp_P zt_tf zt_fd X d zm_315 34 [(0, .ref 61), (1, .int x1)] [] (mH h s) Q) : zz_E zp_P zt_tf zt_fd X d zm_315 12 [(0, .ref 61), (1, .int x1)] [] (mH h s) Q := by
  refine zz_E.n 13 rfl rfl rfl ?_
  refine mE_g hh 16 (v := .int (s.1 79)) rfl rfl rfl ?_
  refine zz_E.c 17 (.int 1) rfl rfl rfl rfl ?_
  refine zz_E.n 18 rfl rfl rfl ?_
  refine zz_E.n 19 rfl rfl rfl ?_
  refine zz_E.n 20 rfl rfl rfl ?_
  refine mE_g hh 23 (v := .ref 106) rfl rfl rfl ?_
  refine zz_E.n 24 rfl rfl rfl ?_
  refine mE_ia hh 25 45 (f := (s.2.2.1 82)) rfl (by decide) rfl rfl i24 rfl ?_
  refine zz_E.n 26 rfl rfl rfl ?_
  refine mE_g hh 29 (v := .ref 107) rfl rfl rfl ?_
  refine zz_E.n 30 rfl rfl rfl ?_
  refine mE_ia hh 31 46 (f := (s.2.2.1 83)) rfl (by decide) rfl rfl i30 rfl ?_
  refine zz_E.b2 55 34 (A := ¬ ((s.2.2.1 82) (Int32.toNatClampNeg ((s.1 79) - 1))) = ((s.2.2.1 83) (Int32.toNatClampNeg ((s.1 79) - 1)))) rfl (zz_cond_ne _ _) (by decide) rfl rfl (fun c => ?_) (fun c => ?_)
  · exact zz_E.weak (k1 c) rfl ⟨rfl, rfl, rfl, trivial⟩
  · exact zz_E.weak (k2 c) rfl ⟨rfl, rfl, trivial⟩
theorem mb_315_34 {X : Nat → Option zz_C} {h : zz_H} (hh : 111 ≤ h.length) {s : mS} {d : Nat} {Q : Option Value → zz_H → Prop} {x1 : Int32} (i50 : ¬ (x1 < 0 ∨ 8000 ≤ Int32.toNatClampNeg x1)) (k : Q none (mH h (mI (mI s 79 ((s.1 79) - 1)) 69 ((s.2.2.1 24) (Int32.toNatClampNeg x1))))) : zz_E zp_P zt_tf zt_fd X d zm_315 34 [(0, .ref 61), (1, .int x1)] [] (mH h s) Q := by
  refine zz_E.n 35 rfl rfl rfl ?_
  refine zz_E.n 36 rfl rfl rfl ?_
  refine mE_g hh 39 (v := .int (s.1 79)) rfl rfl rfl ?_
  refine zz_E.c 40 (.int 1) rfl rfl rfl rfl ?_
  refine zz_E.n 41 rfl rfl rfl ?_
  refine mE_p hh 44 rfl (by decide) rfl (mF_79 _ _) rfl ?_
  refine zz_E.n 45 rfl rfl rfl ?_
  refine zz_E.n 46 rfl rfl rfl ?_
  refine mE_g hh 49 (v := .ref 72) rfl rfl rfl ?_
  refine zz_E.n 50 rfl rfl rfl ?_
  refine mE_ia hh 51 11 (f := (s.2.2.1 24)) rfl (by decide) rfl rfl i50 rfl ?_
  refine mE_p hh 54 rfl (by decide) rfl (mF_69 _ _) rfl ?_
  refine zz_E.ret rfl rfl rfl ?_
  exact k
theorem mb_315_55 {X : Nat → Option zz_C} {h : zz_H} (hh : 111 ≤ h.length) {s : mS} {d : Nat} {Q : Option Value → zz_H → Prop} {x1 : Int32} {x2 : Int32} (i60 : ¬ (x2 < 0 ∨ 400 ≤ Int32.toNatClampNeg x2)) (k1 : ¬ ((s.2.2.1 81) (Int32.toNatClampNeg x2)) = (-1) → zz_E zp_P zt_tf zt_fd X d zm_315 79 [(0, .ref 61), (1, .int x1), (2, .int x2)] [] (mH h s) Q) (k2 : ¬ ¬ ((s.2.2.1 81) (Int32.toNatClampNeg x2)) = (-1) → zz_E zp_P zt_tf zt_fd X d zm_315 65 [(0, .ref 61), (1, .int x1), (2, .int x2)] [] (mH h s) Q) : zz_E zp_P zt_tf zt_fd X d zm_315 55 [(0, .ref 61), (1, .int x1), (2, .int x2)] [] (mH h s) Q := by
  refine zz_E.n 56 rfl rfl rfl ?_
  refine mE_g hh 59 (v := .ref 105) rfl rfl rfl ?_
  refine zz_E.n 60 rfl rfl rfl ?_
  refine mE_ia hh 61 44 (f := (s.2.2.1 81)) rfl (by decide) rfl rfl i60 rfl ?_
  refine zz_E.c 62 (.int (-1)) rfl rfl rfl rfl ?_
  refine zz_E.b2 79 65 (A := ¬ ((s.2.2.1 81) (Int32.toNatClampNeg x2)) = (-1)) rfl (zz_cond_ne _ _) (by decide) rfl rfl (fun c => ?_) (fun c => ?_)
  · exact zz_E.weak (k1 c) rfl ⟨rfl, rfl, rfl, trivial⟩
  · exact zz_E.weak (k2 c) rfl ⟨rfl, rfl, rfl, trivial⟩
theorem mb_315_65 {X : Nat → Option zz_C} {h : zz_H} (hh : 111 ≤ h.length) {s : mS} {d : Nat} {Q : Option Value → zz_H → Prop} {x1 : Int32} {x2 : Int32} (i72 : ¬ (x2 < 0 ∨ 400 ≤ Int32.toNatClampNeg x2)) (k : zz_E zp_P zt_tf zt_fd X d zm_291 0 [(0, .ref 61), (1, .int 0), (2, .int ((s.2.2.1 82) (Int32.toNatClampNeg x2)))] [] (mH h s) (fun v h' => zz_E zp_P zt_tf zt_fd X (d + 1) zm_315 76 [(0, .ref 61), (1, .int x1), (2, .int x2)] (v.toList ++ []) h' Q)) : zz_E zp_P zt_tf zt_fd X (d + 1) zm_315 65 [(0, .ref 61), (1, .int x1), (2, .int x2)] [] (mH h s) Q := by
  refine zz_E.n 66 rfl rfl rfl ?_
  refine zz_E.c 67 (.int 0) rfl rfl rfl rfl ?_
  refine zz_E.n 68 rfl rfl rfl ?_
  refine mE_g hh 71 (v := .ref 106) rfl rfl rfl ?_
  refine zz_E.n 72 rfl rfl rfl ?_
  refine mE_ia hh 73 45 (f := (s.2.2.1 82)) rfl (by decide) rfl rfl i72 rfl ?_
  refine mE_cv hh 76 (as := []) rfl rfl (Nat.le_of_ble_eq_true rfl) (Nat.le_of_ble_eq_true rfl) rfl (Nat.le_of_ble_eq_true rfl) rfl ?_
  refine zz_E.mono k ?_
  intro v h' hE
  exact zz_E.weak hE rfl ⟨rfl, rfl, rfl, trivial⟩
theorem mb_315_76 {X : Nat → Option zz_C} {h : zz_H} (hh : 111 ≤ h.length) {s : mS} {d : Nat} {Q : Option Value → zz_H → Prop} {x1 : Int32} {x2 : Int32} (k : zz_E zp_P zt_tf zt_fd X d zm_315 95 [(0, .ref 61), (1, .int x1), (2, .int x2)] [] (mH h s) Q) : zz_E zp_P zt_tf zt_fd X d zm_315 76 [(0, .ref 61), (1, .int x1), (2, .int x2)] [] (mH h s) Q := by
  refine zz_E.n 95 rfl rfl rfl ?_
  exact zz_E.weak k rfl ⟨rfl, rfl, rfl, trivial⟩
theorem mb_315_79 {X : Nat → Option zz_C} {h : zz_H} (hh : 111 ≤ h.length) {s : mS} {d : Nat} {Q : Option Value → zz_H → Prop} {x1 : Int32} {x2 : Int32} (i85 : ¬ (x2 < 0 ∨ 400 ≤ Int32.toNatClampNeg x2)) (i91 : ¬ (x2 < 0 ∨ 400 ≤ Int32.toNatClampNeg x2)) (k : zz_E zp_P zt_tf zt_fd X d zm_295 0 [(0, .ref 61), (1, .int ((s.2.2.1 81) (Int32.toNatClampNeg x2))), (2, .int ((s.2.2.1 82) (Int32.toNatClampNeg x2)))] [] (mH h s) (fun v h' => zz_E zp_P zt_tf zt_fd X (d + 1) zm_315 95 [(0, .ref 61), (1, .int x1), (2, .int x2)] (v.toList ++ []) h' Q)) : zz_E zp_P zt_tf zt_fd X (d + 1) zm_315 79 [(0, .ref 61), (1, .int x1), (2, .int x2)] [] (mH h s) Q := by
  refine zz_E.n 80 rfl rfl rfl ?_
  refine zz_E.n 81 rfl rfl rfl ?_
  refine mE_g hh 84 (v := .ref 105) rfl rfl rfl ?_
  refine zz_E.n 85 rfl rfl rfl ?_
  refine mE_ia hh 86 44 (f := (s.2.2.1 81)) rfl (by decide) rfl rfl i85 rfl ?_
  refine zz_E.n 87 rfl rfl rfl ?_
  refine mE_g hh 90 (v := .ref 106) rfl rfl rfl ?_
  refine zz_E.n 91 rfl rfl rfl ?_
  refine mE_ia hh 92 45 (f := (s.2.2.1 82)) rfl (by decide) rfl rfl i91 rfl ?_
  refine mE_cv hh 95 (as := []) rfl rfl (Nat.le_of_ble_eq_true rfl) (Nat.le_of_ble_eq_true rfl) rfl (Nat.le_of_ble_eq_true rfl) rfl ?_
  refine zz_E.mono k ?_
  intro v h' hE
  exact zz_E.weak hE rfl ⟨rfl, rfl, rfl, trivial⟩
theorem mb_315_95 {X : Nat → Option zz_C} {h : zz_H} (hh : 111 ≤ h.length) {s : mS} {d : Nat} {Q : Option Value → zz_H → Prop} {x1 : Int32} {x2 : Int32} (i101 : ¬ (x2 < 0 ∨ 400 ≤ Int32.toNatClampNeg x2)) (i104 : ¬ (x2 < 0 ∨ 400 ≤ Int32.toNatClampNeg x2)) (i121 : ¬ (x1 < 0 ∨ 8000 ≤ Int32.toNatClampNeg x1)) (i130 : ¬ (((s.1 51) - 1) < 0 ∨ 9000 ≤ Int32.toNatClampNeg ((s.1 51) - 1))) (i139 : ¬ (((s.1 51) - 1) < 0 ∨ 9000 ≤ Int32.toNatClampNeg ((s.1 51) - 1))) (k : zz_E zp_P zt_tf zt_fd X d zm_307 0 [(0, .ref 61), (1, .int ((s.2.2.1 25) (Int32.toNatClampNeg x1))), (2, .int ((s.2.2.1 49) (Int32.toNatClampNeg ((s.1 51) - 1)))), (3, .int ((s.2.2.1 50) (Int32.toNatClampNeg ((s.1 51) - 1))))] [] (mH h (mI (mA s 82 (upd (s.2.2.1 82) (Int32.toNatClampNeg x2) (((s.2.2.1 82) (Int32.toNatClampNeg x2)) + 1))) 51 ((s.1 51) - 1))) (fun v h' => zz_E zp_P zt_tf zt_fd X (d + 1) zm_315 143 [] (v.toList ++ []) h' Q)) : zz_E zp_P zt_tf zt_fd X (d + 1) zm_315 95 [(0, .ref 61), (1, .int x1), (2, .int x2)] [] (mH h s) Q := by
  refine zz_E.n 96 rfl rfl rfl ?_
  refine mE_g hh 99 (v := .ref 106) rfl rfl rfl ?_
  refine zz_E.n 100 rfl rfl rfl ?_
  refine zz_E.n 101 rfl rfl rfl ?_
  refine mE_ia hh 102 45 (f := (s.2.2.1 82)) rfl (by decide) rfl rfl i101 rfl ?_
  refine zz_E.c 103 (.int 1) rfl rfl rfl rfl ?_
  refine zz_E.n 104 rfl rfl rfl ?_
  refine mE_is hh 105 45 (f := (s.2.2.1 82)) rfl (by decide) rfl rfl i104 (mA_106 _ _) rfl ?_
  refine zz_E.n 106 rfl rfl rfl ?_
  refine zz_E.n 107 rfl rfl rfl ?_
  refine mE_g hh 110 (v := .int (s.1 51)) rfl rfl rfl ?_
  refine zz_E.c 111 (.int 1) rfl rfl rfl rfl ?_
  refine zz_E.n 112 rfl rfl rfl ?_
  refine mE_p hh 115 rfl (by decide) rfl (mF_51 _ _) rfl ?_
  refine zz_E.n 116 rfl rfl rfl ?_
  refine zz_E.n 117 rfl rfl rfl ?_
  refine mE_g hh 120 (v := .ref 73) rfl rfl rfl ?_
  refine zz_E.n 121 rfl rfl rfl ?_
  refine mE_ia hh 122 12 (f := (s.2.2.1 25)) rfl (by decide) rfl rfl i121 rfl ?_
  refine zz_E.n 123 rfl rfl rfl ?_
  refine mE_g hh 126 (v := .ref 90) rfl rfl rfl ?_
  refine zz_E.n 127 rfl rfl rfl ?_
  refine mE_g hh 130 (v := .int ((s.1 51) - 1)) rfl rfl rfl ?_
  refine mE_ia hh 131 29 (f := (s.2.2.1 49)) rfl (by decide) rfl rfl i130 rfl ?_
  refine zz_E.n 132 rfl rfl rfl ?_
  refine mE_g hh 135 (v := .ref 91) rfl rfl rfl ?_
  refine zz_E.n 136 rfl rfl rfl ?_
  refine mE_g hh 139 (v := .int ((s.1 51) - 1)) rfl rfl rfl ?_
  refine mE_ia hh 140 30 (f := (s.2.2.1 50)) rfl (by decide) rfl rfl i139 rfl ?_
  refine mE_cv hh 143 (as := []) rfl rfl (Nat.le_of_ble_eq_true rfl) (Nat.le_of_ble_eq_true rfl) rfl (Nat.le_of_ble_eq_true rfl) rfl ?_
  refine zz_E.mono k ?_
  intro v h' hE
  exact zz_E.weak hE rfl trivial
theorem mb_315_143 {X : Nat → Option zz_C} {h : zz_H} (hh : 111 ≤ h.length) {s : mS} {d : Nat} {Q : Option Value → zz_H → Prop}  (k : Q none (mH h s)) : zz_E zp_P zt_tf zt_fd X d zm_315 143 [] [] (mH h s) Q := by
  refine zz_E.ret rfl rfl rfl ?_
  exact k
def mf_315_143 (N : Nat)  (s : mS) : mO := some (s, none)
theorem mr_315_143 {X : Nat → Option zz_C} {h : zz_H} (hh : 111 ≤ h.length) {d : Nat} {N : Nat} {Q : Option Value → zz_H → Prop}  {s s' : mS} {v : Option Value} (hf : mf_315_143 N  s = some (s', v)) (k : Q v (mH h s')) : zz_E zp_P zt_tf zt_fd X (d + 2) zm_315 143 [] [] (mH h s) Q := by
  unfold mf_315_143 at hf
  cases hf
  exact mb_315_143 hh  k
def mf_315_95 (N : Nat) (x1 : Int32) (x2 : Int32) (s : mS) : mO := if ¬ (x2 < 0 ∨ 400 ≤ Int32.toNatClampNeg x2) then (if ¬ (x2 < 0 ∨ 400 ≤ Int32.toNatClampNeg x2) then (if ¬ (x1 < 0 ∨ 8000 ≤ Int32.toNatClampNeg x1) then (if ¬ (((s.1 51) - 1) < 0 ∨ 9000 ≤ Int32.toNatClampNeg ((s.1 51) - 1)) then (if ¬ (((s.1 51) - 1) < 0 ∨ 9000 ≤ Int32.toNatClampNeg ((s.1 51) - 1)) then (mo_bv (mf_307 N ((s.2.2.1 25) (Int32.toNatClampNeg x1)) ((s.2.2.1 49) (Int32.toNatClampNeg ((s.1 51) - 1))) ((s.2.2.1 50) (Int32.toNatClampNeg ((s.1 51) - 1))) (mI (mA s 82 (upd (s.2.2.1 82) (Int32.toNatClampNeg x2) (((s.2.2.1 82) (Int32.toNatClampNeg x2)) + 1))) 51 ((s.1 51) - 1))) (fun s1 => mf_315_143 N  s1)) else none) else none) else none) else none) else none
theorem mr_315_95 {X : Nat → Option zz_C} {h : zz_H} (hh : 111 ≤ h.length) {d : Nat} {N : Nat} {Q : Option Value → zz_H → Prop} {x1 : Int32} {x2 : Int32} {s s' : mS} {v : Option Value} (hf : mf_315_95 N x1 x2 s = some (s', v)) (k : Q v (mH h s')) : zz_E zp_P zt_tf zt_fd X (d + 2) zm_315 95 [(0, .ref 61), (1, .int x1), (2, .int x2)] [] (mH h s) Q := by
  unfold mf_315_95 at hf
  obtain ⟨q0, hf⟩ := mo_if hf
  obtain ⟨q1, hf⟩ := mo_if hf
  obtain ⟨q2, hf⟩ := mo_if hf
  obtain ⟨q3, hf⟩ := mo_if hf
  obtain ⟨q4, hf⟩ := mo_if hf
  obtain ⟨s1, e, hf⟩ := mo_bv_ok hf
  exact mb_315_95 (d := d + 1) hh q0 q1 q2 q3 q4 (mr_307 (d := d + 1) hh e (mr_315_143 hh hf k))
def mf_315_79 (N : Nat) (x1 : Int32) (x2 : Int32) (s : mS) : mO := if ¬ (x2 < 0 ∨ 400 ≤ Int32.toNatClampNeg x2) then (if ¬ (x2 < 0 ∨ 400 ≤ Int32.toNatClampNeg x2) then (mo_bv (mf_295 N ((s.2.2.1 81) (Int32.toNatClampNeg x2)) ((s.2.2.1 82) (Int32.toNatClampNeg x2)) s) (fun s1 => mf_315_95 N x1 x2 s1)) else none) else none
theorem mr_315_79 {X : Nat → Option zz_C} {h : zz_H} (hh : 111 ≤ h.length) {d : Nat} {N : Nat} {Q : Option Value → zz_H → Prop} {x1 : Int32} {x2 : Int32} {s s' : mS} {v : Option Value} (hf : mf_315_79 N x1 x2 s = some (s', v)) (k : Q v (mH h s')) : zz_E zp_P zt_tf zt_fd X (d + 2) zm_315 79 [(0, .ref 61), (1, .int x1), (2, .int x2)] [] (mH h s) Q := by
  unfold mf_315_79 at hf
  obtain ⟨q0, hf⟩ := mo_if hf
  obtain ⟨q1, hf⟩ := mo_if hf
  obtain ⟨s1, e, hf⟩ := mo_bv_ok hf
  exact mb_315_79 (d := d + 1) hh q0 q1 (mr_295 (d := d + 0) hh e (mr_315_95 hh hf k))
def mf_315_76 (N : Nat) (x1 : Int32) (x2 : Int32) (s : mS) : mO := mf_315_95 N x1 x2 s
theorem mr_315_76 {X : Nat → Option zz_C} {h : zz_H} (hh : 111 ≤ h.length) {d : Nat} {N : Nat} {Q : Option Value → zz_H → Prop} {x1 : Int32} {x2 : Int32} {s s' : mS} {v : Option Value} (hf : mf_315_76 N x1 x2 s = some (s', v)) (k : Q v (mH h s')) : zz_E zp_P zt_tf zt_fd X (d + 2) zm_315 76 [(0, .ref 61), (1, .int x1), (2, .int x2)] [] (mH h s) Q := by
  unfold mf_315_76 at hf
  exact mb_315_76 hh  (mr_315_95 hh hf k)
def mf_315_65 (N : Nat) (x1 : Int32) (x2 : Int32) (s : mS) : mO := if ¬ (x2 < 0 ∨ 400 ≤ Int32.toNatClampNeg x2) then (mo_bv (mf_291 N 0 ((s.2.2.1 82) (Int32.toNatClampNeg x2)) s) (fun s1 => mf_315_76 N x1 x2 s1)) else none
theorem mr_315_65 {X : Nat → Option zz_C} {h : zz_H} (hh : 111 ≤ h.length) {d : Nat} {N : Nat} {Q : Option Value → zz_H → Prop} {x1 : Int32} {x2 : Int32} {s s' : mS} {v : Option Value} (hf : mf_315_65 N x1 x2 s = some (s', v)) (k : Q v (mH h s')) : zz_E zp_P zt_tf zt_fd X (d + 2) zm_315 65 [(0, .ref 61), (1, .int x1), (2, .int x2)] [] (mH h s) Q := by
  unfold mf_315_65 at hf
  obtain ⟨q0, hf⟩ := mo_if hf
  obtain ⟨s1, e, hf⟩ := mo_bv_ok hf
  exact mb_315_65 (d := d + 1) hh q0 (mr_291 (d := d + 1) hh e (mr_315_76 hh hf k))
def mf_315_55 (N : Nat) (x1 : Int32) (x2 : Int32) (s : mS) : mO := if ¬ (x2 < 0 ∨ 400 ≤ Int32.toNatClampNeg x2) then (if ¬ ((s.2.2.1 81) (Int32.toNatClampNeg x2)) = (-1) then mf_315_79 N x1 x2 s else mf_315_65 N x1 x2 s) else none
theorem mr_315_55 {X : Nat → Option zz_C} {h : zz_H} (hh : 111 ≤ h.length) {d : Nat} {N : Nat} {Q : Option Value → zz_H → Prop} {x1 : Int32} {x2 : Int32} {s s' : mS} {v : Option Value} (hf : mf_315_55 N x1 x2 s = some (s', v)) (k : Q v (mH h s')) : zz_E zp_P zt_tf zt_fd X (d + 2) zm_315 55 [(0, .ref 61), (1, .int x1), (2, .int x2)] [] (mH h s) Q := by
  unfold mf_315_55 at hf
  obtain ⟨q0, hf⟩ := mo_if hf
  refine mb_315_55 hh q0 (fun c => ?_) (fun c => ?_)
  · rw [if_pos c] at hf
    exact mr_315_79 hh hf k
  · rw [if_neg c] at hf
    exact mr_315_65 hh hf k
def mf_315_34 (N : Nat) (x1 : Int32) (s : mS) : mO := if ¬ (x1 < 0 ∨ 8000 ≤ Int32.toNatClampNeg x1) then (some ((mI (mI s 79 ((s.1 79) - 1)) 69 ((s.2.2.1 24) (Int32.toNatClampNeg x1))), none)) else none
theorem mr_315_34 {X : Nat → Option zz_C} {h : zz_H} (hh : 111 ≤ h.length) {d : Nat} {N : Nat} {Q : Option Value → zz_H → Prop} {x1 : Int32} {s s' : mS} {v : Option Value} (hf : mf_315_34 N x1 s = some (s', v)) (k : Q v (mH h s')) : zz_E zp_P zt_tf zt_fd X (d + 2) zm_315 34 [(0, .ref 61), (1, .int x1)] [] (mH h s) Q := by
  unfold mf_315_34 at hf
  obtain ⟨q0, hf⟩ := mo_if hf
  cases hf
  exact mb_315_34 hh q0 k
def mf_315_12 (N : Nat) (x1 : Int32) (s : mS) : mO := if ¬ (((s.1 79) - 1) < 0 ∨ 400 ≤ Int32.toNatClampNeg ((s.1 79) - 1)) then (if ¬ (((s.1 79) - 1) < 0 ∨ 400 ≤ Int32.toNatClampNeg ((s.1 79) - 1)) then (if ¬ ((s.2.2.1 82) (Int32.toNatClampNeg ((s.1 79) - 1))) = ((s.2.2.1 83) (Int32.toNatClampNeg ((s.1 79) - 1))) then mf_315_55 N x1 ((s.1 79) - 1) s else mf_315_34 N x1 s) else none) else none
theorem mr_315_12 {X : Nat → Option zz_C} {h : zz_H} (hh : 111 ≤ h.length) {d : Nat} {N : Nat} {Q : Option Value → zz_H → Prop} {x1 : Int32} {s s' : mS} {v : Option Value} (hf : mf_315_12 N x1 s = some (s', v)) (k : Q v (mH h s')) : zz_E zp_P zt_tf zt_fd X (d + 2) zm_315 12 [(0, .ref 61), (1, .int x1)] [] (mH h s) Q := by
  unfold mf_315_12 at hf
  obtain ⟨q0, hf⟩ := mo_if hf
  obtain ⟨q1, hf⟩ := mo_if hf
  refine mb_315_12 hh q0 q1 (fun c => ?_) (fun c => ?_)
  · rw [if_pos c] at hf
    exact mr_315_55 hh hf k
  · rw [if_neg c] at hf
    exact mr_315_34 hh hf k
def mf_315_11 (N : Nat)  (s : mS) : mO := some (s, none)
theorem mr_315_11 {X : Nat → Option zz_C} {h : zz_H} (hh : 111 ≤ h.length) {d : Nat} {N : Nat} {Q : Option Value → zz_H → Prop}  {s s' : mS} {v : Option Value} (hf : mf_315_11 N  s = some (s', v)) (k : Q v (mH h s')) : zz_E zp_P zt_tf zt_fd X (d + 2) zm_315 11 [] [] (mH h s) Q := by
  unfold mf_315_11 at hf
  cases hf
  exact mb_315_11 hh  k
def mf_315_4 (N : Nat) (x1 : Int32) (s : mS) : mO := if (s.1 66) ≤ 0 then mf_315_12 N x1 s else mf_315_11 N  s
theorem mr_315_4 {X : Nat → Option zz_C} {h : zz_H} (hh : 111 ≤ h.length) {d : Nat} {N : Nat} {Q : Option Value → zz_H → Prop} {x1 : Int32} {s s' : mS} {v : Option Value} (hf : mf_315_4 N x1 s = some (s', v)) (k : Q v (mH h s')) : zz_E zp_P zt_tf zt_fd X (d + 2) zm_315 4 [(0, .ref 61), (1, .int x1)] [] (mH h s) Q := by
  unfold mf_315_4 at hf
  refine mb_315_4 hh  (fun c => ?_) (fun c => ?_)
  · rw [if_pos c] at hf
    exact mr_315_12 hh hf k
  · rw [if_neg c] at hf
    exact mr_315_11 hh hf k
def mf_315_0 (N : Nat) (x1 : Int32) (s : mS) : mO := mo_bv (mf_302 N  s) (fun s1 => mf_315_4 N x1 s1)
theorem mr_315_0 {X : Nat → Option zz_C} {h : zz_H} (hh : 111 ≤ h.length) {d : Nat} {N : Nat} {Q : Option Value → zz_H → Prop} {x1 : Int32} {s s' : mS} {v : Option Value} (hf : mf_315_0 N x1 s = some (s', v)) (k : Q v (mH h s')) : zz_E zp_P zt_tf zt_fd X (d + 2) zm_315 0 [(0, .ref 61), (1, .int x1)] [] (mH h s) Q := by
  unfold mf_315_0 at hf
  obtain ⟨s1, e, hf⟩ := mo_bv_ok hf
  exact mb_315_0 (d := d + 1) hh  (mr_302 (d := d + 0) hh e (mr_315_4 hh hf k))
/-- forNext -/
def mf_315 (N : Nat) (x1 : Int32) (s : mS) : mO := mf_315_0 N x1 s
theorem mr_315 {X : Nat → Option zz_C} {h : zz_H} (hh : 111 ≤ h.length) {d : Nat} {N : Nat} {Q : Option Value → zz_H → Prop} {x1 : Int32} {s s' : mS} {v : Option Value} (hf : mf_315 N x1 s = some (s', v)) (k : Q v (mH h s')) : zz_E zp_P zt_tf zt_fd X (d + 2) zm_315 0 [(0, .ref 61), (1, .int x1)] [] (mH h s) Q := by
  unfold mf_315 at hf
  exact zz_E.weak (mr_315_0 hh hf k) rfl ⟨rfl, rfl, trivial⟩
/-! kindAt (I)I -/
theorem mb_292_0 {X : Nat → Option zz_C} {h : zz_H} (hh : 111 ≤ h.length) {s : mS} {d : Nat} {Q : Option Value → zz_H → Prop} {x1 : Int32} (i5 : ¬ (x1 < 0 ∨ 9000 ≤ Int32.toNatClampNeg x1)) (k1 : ¬ ((s.2.2.1 49) (Int32.toNatClampNeg x1)) = 0 → zz_E zp_P zt_tf zt_fd X d zm_292 13 [(0, .ref 61), (1, .int x1)] [] (mH h s) Q) (k2 : ¬ ¬ ((s.2.2.1 49) (Int32.toNatClampNeg x1)) = 0 → zz_E zp_P zt_tf zt_fd X d zm_292 9 [] [] (mH h s) Q) : zz_E zp_P zt_tf zt_fd X d zm_292 0 [(0, .ref 61), (1, .int x1)] [] (mH h s) Q := by
  refine zz_E.n 1 rfl rfl rfl ?_
  refine mE_g hh 4 (v := .ref 90) rfl rfl rfl ?_
  refine zz_E.n 5 rfl rfl rfl ?_
  refine mE_ia hh 6 29 (f := (s.2.2.1 49)) rfl (by decide) rfl rfl i5 rfl ?_
  refine zz_E.b1 13 9 (A := ¬ ((s.2.2.1 49) (Int32.toNatClampNeg x1)) = 0) rfl (zz_cond_ne _ _) (by decide) rfl rfl (fun c => ?_) (fun c => ?_)
  · exact zz_E.weak (k1 c) rfl ⟨rfl, rfl, trivial⟩
  · exact zz_E.weak (k2 c) rfl trivial
theorem mb_292_9 {X : Nat → Option zz_C} {h : zz_H} (hh : 111 ≤ h.length) {s : mS} {d : Nat} {Q : Option Value → zz_H → Prop}  (k : zz_E zp_P zt_tf zt_fd X d zm_292 24 [] [.int 0] (mH h s) Q) : zz_E zp_P zt_tf zt_fd X d zm_292 9 [] [] (mH h s) Q := by
  refine zz_E.c 10 (.int 0) rfl rfl rfl rfl ?_
  refine zz_E.n 24 rfl rfl rfl ?_
  exact zz_E.weak k rfl trivial
theorem mb_292_13 {X : Nat → Option zz_C} {h : zz_H} (hh : 111 ≤ h.length) {s : mS} {d : Nat} {Q : Option Value → zz_H → Prop} {x1 : Int32} (i22 : ¬ (x1 < 0 ∨ 9000 ≤ Int32.toNatClampNeg x1)) (i23 : ¬ (((s.2.2.1 50) (Int32.toNatClampNeg x1)) < 0 ∨ 166300 ≤ Int32.toNatClampNeg ((s.2.2.1 50) (Int32.toNatClampNeg x1)))) (k : zz_E zp_P zt_tf zt_fd X d zm_292 24 [] [.int ((s.2.2.1 47) (Int32.toNatClampNeg ((s.2.2.1 50) (Int32.toNatClampNeg x1))))] (mH h s) Q) : zz_E zp_P zt_tf zt_fd X d zm_292 13 [(0, .ref 61), (1, .int x1)] [] (mH h s) Q := by
  refine zz_E.n 14 rfl rfl rfl ?_
  refine mE_g hh 17 (v := .ref 89) rfl rfl rfl ?_
  refine zz_E.n 18 rfl rfl rfl ?_
  refine mE_g hh 21 (v := .ref 91) rfl rfl rfl ?_
  refine zz_E.n 22 rfl rfl rfl ?_
  refine mE_ia hh 23 30 (f := (s.2.2.1 50)) rfl (by decide) rfl rfl i22 rfl ?_
  refine mE_ia hh 24 28 (f := (s.2.2.1 47)) rfl (by decide) rfl rfl i23 rfl ?_
  exact zz_E.weak k rfl trivial
theorem mb_292_24 {X : Nat → Option zz_C} {h : zz_H} (hh : 111 ≤ h.length) {s : mS} {d : Nat} {Q : Option Value → zz_H → Prop} {y0 : Int32} (k : Q (some (.int y0)) (mH h s)) : zz_E zp_P zt_tf zt_fd X d zm_292 24 [] [.int y0] (mH h s) Q := by
  refine zz_E.ret rfl rfl rfl ?_
  exact k
def mf_292_24 (N : Nat) (y0 : Int32) (s : mS) : mO := some (s, (some (.int y0)))
theorem mr_292_24 {X : Nat → Option zz_C} {h : zz_H} (hh : 111 ≤ h.length) {d : Nat} {N : Nat} {Q : Option Value → zz_H → Prop} {y0 : Int32} {s s' : mS} {v : Option Value} (hf : mf_292_24 N y0 s = some (s', v)) (k : Q v (mH h s')) : zz_E zp_P zt_tf zt_fd X (d + 0) zm_292 24 [] [.int y0] (mH h s) Q := by
  unfold mf_292_24 at hf
  cases hf
  exact mb_292_24 hh  k
def mf_292_13 (N : Nat) (x1 : Int32) (s : mS) : mO := if ¬ (x1 < 0 ∨ 9000 ≤ Int32.toNatClampNeg x1) then (if ¬ (((s.2.2.1 50) (Int32.toNatClampNeg x1)) < 0 ∨ 166300 ≤ Int32.toNatClampNeg ((s.2.2.1 50) (Int32.toNatClampNeg x1))) then (mf_292_24 N ((s.2.2.1 47) (Int32.toNatClampNeg ((s.2.2.1 50) (Int32.toNatClampNeg x1)))) s) else none) else none
theorem mr_292_13 {X : Nat → Option zz_C} {h : zz_H} (hh : 111 ≤ h.length) {d : Nat} {N : Nat} {Q : Option Value → zz_H → Prop} {x1 : Int32} {s s' : mS} {v : Option Value} (hf : mf_292_13 N x1 s = some (s', v)) (k : Q v (mH h s')) : zz_E zp_P zt_tf zt_fd X (d + 0) zm_292 13 [(0, .ref 61), (1, .int x1)] [] (mH h s) Q := by
  unfold mf_292_13 at hf
  obtain ⟨q0, hf⟩ := mo_if hf
  obtain ⟨q1, hf⟩ := mo_if hf
  exact mb_292_13 hh q0 q1 (mr_292_24 hh hf k)
def mf_292_9 (N : Nat)  (s : mS) : mO := mf_292_24 N 0 s
theorem mr_292_9 {X : Nat → Option zz_C} {h : zz_H} (hh : 111 ≤ h.length) {d : Nat} {N : Nat} {Q : Option Value → zz_H → Prop}  {s s' : mS} {v : Option Value} (hf : mf_292_9 N  s = some (s', v)) (k : Q v (mH h s')) : zz_E zp_P zt_tf zt_fd X (d + 0) zm_292 9 [] [] (mH h s) Q := by
  unfold mf_292_9 at hf
  exact mb_292_9 hh  (mr_292_24 hh hf k)
def mf_292_0 (N : Nat) (x1 : Int32) (s : mS) : mO := if ¬ (x1 < 0 ∨ 9000 ≤ Int32.toNatClampNeg x1) then (if ¬ ((s.2.2.1 49) (Int32.toNatClampNeg x1)) = 0 then mf_292_13 N x1 s else mf_292_9 N  s) else none
theorem mr_292_0 {X : Nat → Option zz_C} {h : zz_H} (hh : 111 ≤ h.length) {d : Nat} {N : Nat} {Q : Option Value → zz_H → Prop} {x1 : Int32} {s s' : mS} {v : Option Value} (hf : mf_292_0 N x1 s = some (s', v)) (k : Q v (mH h s')) : zz_E zp_P zt_tf zt_fd X (d + 0) zm_292 0 [(0, .ref 61), (1, .int x1)] [] (mH h s) Q := by
  unfold mf_292_0 at hf
  obtain ⟨q0, hf⟩ := mo_if hf
  refine mb_292_0 hh q0 (fun c => ?_) (fun c => ?_)
  · rw [if_pos c] at hf
    exact mr_292_13 hh hf k
  · rw [if_neg c] at hf
    exact mr_292_9 hh hf k
/-- kindAt -/
def mf_292 (N : Nat) (x1 : Int32) (s : mS) : mO := mf_292_0 N x1 s
theorem mr_292 {X : Nat → Option zz_C} {h : zz_H} (hh : 111 ≤ h.length) {d : Nat} {N : Nat} {Q : Option Value → zz_H → Prop} {x1 : Int32} {s s' : mS} {v : Option Value} (hf : mf_292 N x1 s = some (s', v)) (k : Q v (mH h s')) : zz_E zp_P zt_tf zt_fd X (d + 0) zm_292 0 [(0, .ref 61), (1, .int x1)] [] (mH h s) Q := by
  unfold mf_292 at hf
  exact zz_E.weak (mr_292_0 hh hf k) rfl ⟨rfl, rfl, trivial⟩
/-! plainBulk (I)I -/
theorem mb_297_0 {X : Nat → Option zz_C} {h : zz_H} (hh : 111 ≤ h.length) {s : mS} {d : Nat} {Q : Option Value → zz_H → Prop} {x1 : Int32} (i5 : ¬ (x1 < 0 ∨ 166300 ≤ Int32.toNatClampNeg x1)) (k1 : ¬ ((s.2.2.1 47) (Int32.toNatClampNeg x1)) = 1 → zz_E zp_P zt_tf zt_fd X d zm_297 18 [(0, .ref 61), (1, .int x1)] [] (mH h s) Q) (k2 : ¬ ¬ ((s.2.2.1 47) (Int32.toNatClampNeg x1)) = 1 → zz_E zp_P zt_tf zt_fd X d zm_297 10 [(0, .ref 61), (1, .int x1)] [] (mH h s) Q) : zz_E zp_P zt_tf zt_fd X d zm_297 0 [(0, .ref 61), (1, .int x1)] [] (mH h s) Q := by
  refine zz_E.n 1 rfl rfl rfl ?_
  refine mE_g hh 4 (v := .ref 89) rfl rfl rfl ?_
  refine zz_E.n 5 rfl rfl rfl ?_
  refine mE_ia hh 6 28 (f := (s.2.2.1 47)) rfl (by decide) rfl rfl i5 rfl ?_
  refine zz_E.c 7 (.int 1) rfl rfl rfl rfl ?_
  refine zz_E.b2 18 10 (A := ¬ ((s.2.2.1 47) (Int32.toNatClampNeg x1)) = 1) rfl (zz_cond_ne _ _) (by decide) rfl rfl (fun c => ?_) (fun c => ?_)
  · exact zz_E.weak (k1 c) rfl ⟨rfl, rfl, trivial⟩
  · exact zz_E.weak (k2 c) rfl ⟨rfl, rfl, trivial⟩
theorem mb_297_10 {X : Nat → Option zz_C} {h : zz_H} (hh : 111 ≤ h.length) {s : mS} {d : Nat} {Q : Option Value → zz_H → Prop} {x1 : Int32} (k : zz_E zp_P zt_tf zt_fd X d zm_77 0 [(0, .ref 61), (1, .int x1)] [] (mH h s) (fun v h' => zz_E zp_P zt_tf zt_fd X (d + 1) zm_297 16 [] (v.toList ++ [.int 1]) h' Q)) : zz_E zp_P zt_tf zt_fd X (d + 1) zm_297 10 [(0, .ref 61), (1, .int x1)] [] (mH h s) Q := by
  refine zz_E.c 11 (.int 1) rfl rfl rfl rfl ?_
  refine zz_E.n 12 rfl rfl rfl ?_
  refine zz_E.n 13 rfl rfl rfl ?_
  refine mE_cv hh 16 (as := [.int 1]) rfl rfl (Nat.le_of_ble_eq_true rfl) (Nat.le_of_ble_eq_true rfl) rfl (Nat.le_of_ble_eq_true rfl) rfl ?_
  refine zz_E.mono k ?_
  intro v h' hE
  exact zz_E.weak hE rfl trivial
theorem mb_297_16 {X : Nat → Option zz_C} {h : zz_H} (hh : 111 ≤ h.length) {s : mS} {d : Nat} {Q : Option Value → zz_H → Prop} {y0 : Int32} {y1 : Int32} (k : Q (some (.int (y0 + y1))) (mH h s)) : zz_E zp_P zt_tf zt_fd X d zm_297 16 [] [.int y1, .int y0] (mH h s) Q := by
  refine zz_E.n 17 rfl rfl rfl ?_
  refine zz_E.ret rfl rfl rfl ?_
  exact k
theorem mb_297_18 {X : Nat → Option zz_C} {h : zz_H} (hh : 111 ≤ h.length) {s : mS} {d : Nat} {Q : Option Value → zz_H → Prop} {x1 : Int32} (k : zz_E zp_P zt_tf zt_fd X d zm_297 22 [(0, .ref 61), (1, .int x1), (2, .int 1), (3, .int 0)] [] (mH h s) Q) : zz_E zp_P zt_tf zt_fd X d zm_297 18 [(0, .ref 61), (1, .int x1)] [] (mH h s) Q := by
  refine zz_E.c 19 (.int 1) rfl rfl rfl rfl ?_
  refine zz_E.n 20 rfl rfl rfl ?_
  refine zz_E.c 21 (.int 0) rfl rfl rfl rfl ?_
  refine zz_E.n 22 rfl rfl rfl ?_
  exact zz_E.weak k rfl ⟨rfl, rfl, rfl, rfl, trivial⟩
theorem mb_297_22 {X : Nat → Option zz_C} {h : zz_H} (hh : 111 ≤ h.length) {s : mS} {d : Nat} {Q : Option Value → zz_H → Prop} {x1 : Int32} {x2 : Int32} {x3 : Int32} (k : zz_E zp_P zt_tf zt_fd X d zm_77 0 [(0, .ref 61), (1, .int x1)] [] (mH h s) (fun v h' => zz_E zp_P zt_tf zt_fd X (d + 1) zm_297 28 [(0, .ref 61), (1, .int x1), (2, .int x2), (3, .int x3)] (v.toList ++ [.int x3]) h' Q)) : zz_E zp_P zt_tf zt_fd X (d + 1) zm_297 22 [(0, .ref 61), (1, .int x1), (2, .int x2), (3, .int x3)] [] (mH h s) Q := by
  refine zz_E.n 23 rfl rfl rfl ?_
  refine zz_E.n 24 rfl rfl rfl ?_
  refine zz_E.n 25 rfl rfl rfl ?_
  refine mE_cv hh 28 (as := [.int x3]) rfl rfl (Nat.le_of_ble_eq_true rfl) (Nat.le_of_ble_eq_true rfl) rfl (Nat.le_of_ble_eq_true rfl) rfl ?_
  refine zz_E.mono k ?_
  intro v h' hE
  exact zz_E.weak hE rfl ⟨rfl, rfl, rfl, rfl, trivial⟩
theorem mb_297_28 {X : Nat → Option zz_C} {h : zz_H} (hh : 111 ≤ h.length) {s : mS} {d : Nat} {Q : Option Value → zz_H → Prop} {x1 : Int32} {x2 : Int32} {x3 : Int32} {y0 : Int32} {y1 : Int32} (k1 : y1 ≤ y0 → zz_E zp_P zt_tf zt_fd X d zm_297 52 [(2, .int x2)] [] (mH h s) Q) (k2 : ¬ y1 ≤ y0 → zz_E zp_P zt_tf zt_fd X d zm_297 31 [(0, .ref 61), (1, .int x1), (2, .int x2), (3, .int x3)] [] (mH h s) Q) : zz_E zp_P zt_tf zt_fd X d zm_297 28 [(0, .ref 61), (1, .int x1), (2, .int x2), (3, .int x3)] [.int y1, .int y0] (mH h s) Q := by
  refine zz_E.b2 52 31 (A := y1 ≤ y0) rfl rfl (by decide) rfl rfl (fun c => ?_) (fun c => ?_)
  · exact zz_E.weak (k1 c) rfl ⟨rfl, trivial⟩
  · exact zz_E.weak (k2 c) rfl ⟨rfl, rfl, rfl, rfl, trivial⟩
theorem mb_297_31 {X : Nat → Option zz_C} {h : zz_H} (hh : 111 ≤ h.length) {s : mS} {d : Nat} {Q : Option Value → zz_H → Prop} {x1 : Int32} {x2 : Int32} {x3 : Int32} (k : zz_E zp_P zt_tf zt_fd X d zm_294 0 [(0, .ref 61), (1, .int x1), (2, .int x3)] [] (mH h s) (fun v h' => zz_E zp_P zt_tf zt_fd X (d + 1) zm_297 40 [(0, .ref 61), (1, .int x1), (3, .int x3)] (v.toList ++ [.ref 61, .int 1, .int x2]) h' Q)) : zz_E zp_P zt_tf zt_fd X (d + 1) zm_297 31 [(0, .ref 61), (1, .int x1), (2, .int x2), (3, .int x3)] [] (mH h s) Q := by
  refine zz_E.n 32 rfl rfl rfl ?_
  refine zz_E.c 33 (.int 1) rfl rfl rfl rfl ?_
  refine zz_E.n 34 rfl rfl rfl ?_
  refine zz_E.n 35 rfl rfl rfl ?_
  refine zz_E.n 36 rfl rfl rfl ?_
  refine zz_E.n 37 rfl rfl rfl ?_
  refine mE_cv hh 40 (as := [.ref 61, .int 1, .int x2]) rfl rfl (Nat.le_of_ble_eq_true rfl) (Nat.le_of_ble_eq_true rfl) rfl (Nat.le_of_ble_eq_true rfl) rfl ?_
  refine zz_E.mono k ?_
  intro v h' hE
  exact zz_E.weak hE rfl ⟨rfl, rfl, rfl, trivial⟩
theorem mb_297_40 {X : Nat → Option zz_C} {h : zz_H} (hh : 111 ≤ h.length) {s : mS} {d : Nat} {Q : Option Value → zz_H → Prop} {x1 : Int32} {x3 : Int32} {y0 : Int32} {y1 : Int32} {y3 : Int32} (k : zz_E zp_P zt_tf zt_fd X d zm_77 0 [(0, .ref 61), (1, .int y3)] [] (mH h s) (fun v h' => zz_E zp_P zt_tf zt_fd X (d + 1) zm_297 43 [(0, .ref 61), (1, .int x1), (3, .int x3)] (v.toList ++ [.int y1, .int y0]) h' Q)) : zz_E zp_P zt_tf zt_fd X (d + 1) zm_297 40 [(0, .ref 61), (1, .int x1), (3, .int x3)] [.int y3, .ref 61, .int y1, .int y0] (mH h s) Q := by
  refine mE_cv hh 43 (as := [.int y1, .int y0]) rfl rfl (Nat.le_of_ble_eq_true rfl) (Nat.le_of_ble_eq_true rfl) rfl (Nat.le_of_ble_eq_true rfl) rfl ?_
  refine zz_E.mono k ?_
  intro v h' hE
  exact zz_E.weak hE rfl ⟨rfl, rfl, rfl, trivial⟩
theorem mb_297_43 {X : Nat → Option zz_C} {h : zz_H} (hh : 111 ≤ h.length) {s : mS} {d : Nat} {Q : Option Value → zz_H → Prop} {x1 : Int32} {x3 : Int32} {y0 : Int32} {y1 : Int32} {y2 : Int32} (k : zz_E zp_P zt_tf zt_fd X d zm_297 22 [(0, .ref 61), (1, .int x1), (2, .int (y0 + (y1 + y2))), (3, .int (x3 + 1))] [] (mH h s) Q) : zz_E zp_P zt_tf zt_fd X d zm_297 43 [(0, .ref 61), (1, .int x1), (3, .int x3)] [.int y2, .int y1, .int y0] (mH h s) Q := by
  refine zz_E.n 44 rfl rfl rfl ?_
  refine zz_E.n 45 rfl rfl rfl ?_
  refine zz_E.n 46 rfl rfl rfl ?_
  refine zz_E.n 49 rfl rfl rfl ?_
  refine zz_E.n 22 rfl rfl rfl ?_
  exact zz_E.weak k rfl ⟨rfl, rfl, rfl, rfl, trivial⟩
theorem mb_297_52 {X : Nat → Option zz_C} {h : zz_H} (hh : 111 ≤ h.length) {s : mS} {d : Nat} {Q : Option Value → zz_H → Prop} {x2 : Int32} (k : Q (some (.int x2)) (mH h s)) : zz_E zp_P zt_tf zt_fd X d zm_297 52 [(2, .int x2)] [] (mH h s) Q := by
  refine zz_E.n 53 rfl rfl rfl ?_
  refine zz_E.ret rfl rfl rfl ?_
  exact k
def mf_297_52 (N : Nat) (x2 : Int32) (s : mS) : mO := some (s, (some (.int x2)))
theorem mr_297_52 {X : Nat → Option zz_C} {h : zz_H} (hh : 111 ≤ h.length) {d : Nat} {N : Nat} {Q : Option Value → zz_H → Prop} {x2 : Int32} {s s' : mS} {v : Option Value} (hf : mf_297_52 N x2 s = some (s', v)) (k : Q v (mH h s')) : zz_E zp_P zt_tf zt_fd X (d + 1) zm_297 52 [(2, .int x2)] [] (mH h s) Q := by
  unfold mf_297_52 at hf
  cases hf
  exact mb_297_52 hh  k
def mf_297_43 (N : Nat) (rc : Nat → Int32 → Int32 → Int32 → mS → mO) (x1 : Int32) (x3 : Int32) (y0 : Int32) (y1 : Int32) (y2 : Int32) (s : mS) : mO := rc 0 x1 (y0 + (y1 + y2)) (x3 + 1) s
theorem mr_297_43 {X : Nat → Option zz_C} {h : zz_H} (hh : 111 ≤ h.length) {d : Nat} {N : Nat} {rc : Nat → Int32 → Int32 → Int32 → mS → mO} (hrc0 : ∀ {Q : Option Value → zz_H → Prop} {x1 : Int32} {x2 : Int32} {x3 : Int32} {s s' : mS} {v : Option Value}, rc 0 x1 x2 x3 s = some (s', v) → Q v (mH h s') → zz_E zp_P zt_tf zt_fd X (d + 1) zm_297 22 [(0, .ref 61), (1, .int x1), (2, .int x2), (3, .int x3)] [] (mH h s) Q) {Q : Option Value → zz_H → Prop} {x1 : Int32} {x3 : Int32} {y0 : Int32} {y1 : Int32} {y2 : Int32} {s s' : mS} {v : Option Value} (hf : mf_297_43 N rc x1 x3 y0 y1 y2 s = some (s', v)) (k : Q v (mH h s')) : zz_E zp_P zt_tf zt_fd X (d + 1) zm_297 43 [(0, .ref 61), (1, .int x1), (3, .int x3)] [.int y2, .int y1, .int y0] (mH h s) Q := by
  unfold mf_297_43 at hf
  exact mb_297_43 hh  (hrc0 hf k)
def mf_297_40 (N : Nat) (rc : Nat → Int32 → Int32 → Int32 → mS → mO) (x1 : Int32) (x3 : Int32) (y0 : Int32) (y1 : Int32) (y3 : Int32) (s : mS) : mO := mo_bi (mf_77 N y3 s) (fun s1 y => mf_297_43 N rc x1 x3 y0 y1 y s1)
theorem mr_297_40 {X : Nat → Option zz_C} {h : zz_H} (hh : 111 ≤ h.length) {d : Nat} {N : Nat} {rc : Nat → Int32 → Int32 → Int32 → mS → mO} (hrc0 : ∀ {Q : Option Value → zz_H → Prop} {x1 : Int32} {x2 : Int32} {x3 : Int32} {s s' : mS} {v : Option Value}, rc 0 x1 x2 x3 s = some (s', v) → Q v (mH h s') → zz_E zp_P zt_tf zt_fd X (d + 1) zm_297 22 [(0, .ref 61), (1, .int x1), (2, .int x2), (3, .int x3)] [] (mH h s) Q) {Q : Option Value → zz_H → Prop} {x1 : Int32} {x3 : Int32} {y0 : Int32} {y1 : Int32} {y3 : Int32} {s s' : mS} {v : Option Value} (hf : mf_297_40 N rc x1 x3 y0 y1 y3 s = some (s', v)) (k : Q v (mH h s')) : zz_E zp_P zt_tf zt_fd X (d + 1) zm_297 40 [(0, .ref 61), (1, .int x1), (3, .int x3)] [.int y3, .ref 61, .int y1, .int y0] (mH h s) Q := by
  unfold mf_297_40 at hf
  obtain ⟨s1, y, e, hf⟩ := mo_bi_ok hf
  exact mb_297_40 (d := d + 0) hh  (mr_77 (d := d + 0) hh e (mr_297_43 hh hrc0 hf k))
def mf_297_31 (N : Nat) (rc : Nat → Int32 → Int32 → Int32 → mS → mO) (x1 : Int32) (x2 : Int32) (x3 : Int32) (s : mS) : mO := mo_bi (mf_294 N x1 x3 s) (fun s1 y => mf_297_40 N rc x1 x3 x2 1 y s1)
theorem mr_297_31 {X : Nat → Option zz_C} {h : zz_H} (hh : 111 ≤ h.length) {d : Nat} {N : Nat} {rc : Nat → Int32 → Int32 → Int32 → mS → mO} (hrc0 : ∀ {Q : Option Value → zz_H → Prop} {x1 : Int32} {x2 : Int32} {x3 : Int32} {s s' : mS} {v : Option Value}, rc 0 x1 x2 x3 s = some (s', v) → Q v (mH h s') → zz_E zp_P zt_tf zt_fd X (d + 1) zm_297 22 [(0, .ref 61), (1, .int x1), (2, .int x2), (3, .int x3)] [] (mH h s) Q) {Q : Option Value → zz_H → Prop} {x1 : Int32} {x2 : Int32} {x3 : Int32} {s s' : mS} {v : Option Value} (hf : mf_297_31 N rc x1 x2 x3 s = some (s', v)) (k : Q v (mH h s')) : zz_E zp_P zt_tf zt_fd X (d + 1) zm_297 31 [(0, .ref 61), (1, .int x1), (2, .int x2), (3, .int x3)] [] (mH h s) Q := by
  unfold mf_297_31 at hf
  obtain ⟨s1, y, e, hf⟩ := mo_bi_ok hf
  exact mb_297_31 (d := d + 0) hh  (mr_294 (d := d + 0) hh e (mr_297_40 hh hrc0 hf k))
def mf_297_28 (N : Nat) (rc : Nat → Int32 → Int32 → Int32 → mS → mO) (x1 : Int32) (x2 : Int32) (x3 : Int32) (y0 : Int32) (y1 : Int32) (s : mS) : mO := if y1 ≤ y0 then mf_297_52 N x2 s else mf_297_31 N rc x1 x2 x3 s
theorem mr_297_28 {X : Nat → Option zz_C} {h : zz_H} (hh : 111 ≤ h.length) {d : Nat} {N : Nat} {rc : Nat → Int32 → Int32 → Int32 → mS → mO} (hrc0 : ∀ {Q : Option Value → zz_H → Prop} {x1 : Int32} {x2 : Int32} {x3 : Int32} {s s' : mS} {v : Option Value}, rc 0 x1 x2 x3 s = some (s', v) → Q v (mH h s') → zz_E zp_P zt_tf zt_fd X (d + 1) zm_297 22 [(0, .ref 61), (1, .int x1), (2, .int x2), (3, .int x3)] [] (mH h s) Q) {Q : Option Value → zz_H → Prop} {x1 : Int32} {x2 : Int32} {x3 : Int32} {y0 : Int32} {y1 : Int32} {s s' : mS} {v : Option Value} (hf : mf_297_28 N rc x1 x2 x3 y0 y1 s = some (s', v)) (k : Q v (mH h s')) : zz_E zp_P zt_tf zt_fd X (d + 1) zm_297 28 [(0, .ref 61), (1, .int x1), (2, .int x2), (3, .int x3)] [.int y1, .int y0] (mH h s) Q := by
  unfold mf_297_28 at hf
  refine mb_297_28 hh  (fun c => ?_) (fun c => ?_)
  · rw [if_pos c] at hf
    exact mr_297_52 hh hf k
  · rw [if_neg c] at hf
    exact mr_297_31 hh hrc0 hf k
def mf_297_22 (N : Nat) (rc : Nat → Int32 → Int32 → Int32 → mS → mO) (x1 : Int32) (x2 : Int32) (x3 : Int32) (s : mS) : mO := mo_bi (mf_77 N x1 s) (fun s1 y => mf_297_28 N rc x1 x2 x3 x3 y s1)
theorem mr_297_22 {X : Nat → Option zz_C} {h : zz_H} (hh : 111 ≤ h.length) {d : Nat} {N : Nat} {rc : Nat → Int32 → Int32 → Int32 → mS → mO} (hrc0 : ∀ {Q : Option Value → zz_H → Prop} {x1 : Int32} {x2 : Int32} {x3 : Int32} {s s' : mS} {v : Option Value}, rc 0 x1 x2 x3 s = some (s', v) → Q v (mH h s') → zz_E zp_P zt_tf zt_fd X (d + 1) zm_297 22 [(0, .ref 61), (1, .int x1), (2, .int x2), (3, .int x3)] [] (mH h s) Q) {Q : Option Value → zz_H → Prop} {x1 : Int32} {x2 : Int32} {x3 : Int32} {s s' : mS} {v : Option Value} (hf : mf_297_22 N rc x1 x2 x3 s = some (s', v)) (k : Q v (mH h s')) : zz_E zp_P zt_tf zt_fd X (d + 1) zm_297 22 [(0, .ref 61), (1, .int x1), (2, .int x2), (3, .int x3)] [] (mH h s) Q := by
  unfold mf_297_22 at hf
  obtain ⟨s1, y, e, hf⟩ := mo_bi_ok hf
  exact mb_297_22 (d := d + 0) hh  (mr_77 (d := d + 0) hh e (mr_297_28 hh hrc0 hf k))
def mf_297_L1 (N : Nat) : Nat → Nat → Int32 → Int32 → Int32 → mS → mO
  | 0, _, _, _, _, _ => none
  | n + 1, l, x1, x2, x3, s => if l = 0 then mf_297_22 N (mf_297_L1 N n) x1 x2 x3 s else none
theorem mr_297_L1 {X : Nat → Option zz_C} {h : zz_H} (hh : 111 ≤ h.length) {d : Nat} {N : Nat} : ∀ n : Nat, (∀ {Q : Option Value → zz_H → Prop} {x1 : Int32} {x2 : Int32} {x3 : Int32} {s s' : mS} {v : Option Value}, mf_297_L1 N n 0 x1 x2 x3 s = some (s', v) → Q v (mH h s') → zz_E zp_P zt_tf zt_fd X (d + 1) zm_297 22 [(0, .ref 61), (1, .int x1), (2, .int x2), (3, .int x3)] [] (mH h s) Q) := by
  intro n
  induction n with
  | zero => exact (fun hf _ => by cases hf)
  | succ n ih =>
    have h0 := @ih
    intro Q _ _ _ s s' v hf k
    unfold mf_297_L1 at hf
    rw [if_pos rfl] at hf
    exact mr_297_22 hh h0 hf k
def mf_297_18 (N : Nat) (x1 : Int32) (s : mS) : mO := mf_297_L1 N N 0 x1 1 0 s
theorem mr_297_18 {X : Nat → Option zz_C} {h : zz_H} (hh : 111 ≤ h.length) {d : Nat} {N : Nat} {Q : Option Value → zz_H → Prop} {x1 : Int32} {s s' : mS} {v : Option Value} (hf : mf_297_18 N x1 s = some (s', v)) (k : Q v (mH h s')) : zz_E zp_P zt_tf zt_fd X (d + 1) zm_297 18 [(0, .ref 61), (1, .int x1)] [] (mH h s) Q := by
  unfold mf_297_18 at hf
  exact mb_297_18 hh  (mr_297_L1 hh N hf k)
def mf_297_16 (N : Nat) (y0 : Int32) (y1 : Int32) (s : mS) : mO := some (s, (some (.int (y0 + y1))))
theorem mr_297_16 {X : Nat → Option zz_C} {h : zz_H} (hh : 111 ≤ h.length) {d : Nat} {N : Nat} {Q : Option Value → zz_H → Prop} {y0 : Int32} {y1 : Int32} {s s' : mS} {v : Option Value} (hf : mf_297_16 N y0 y1 s = some (s', v)) (k : Q v (mH h s')) : zz_E zp_P zt_tf zt_fd X (d + 1) zm_297 16 [] [.int y1, .int y0] (mH h s) Q := by
  unfold mf_297_16 at hf
  cases hf
  exact mb_297_16 hh  k
def mf_297_10 (N : Nat) (x1 : Int32) (s : mS) : mO := mo_bi (mf_77 N x1 s) (fun s1 y => mf_297_16 N 1 y s1)
theorem mr_297_10 {X : Nat → Option zz_C} {h : zz_H} (hh : 111 ≤ h.length) {d : Nat} {N : Nat} {Q : Option Value → zz_H → Prop} {x1 : Int32} {s s' : mS} {v : Option Value} (hf : mf_297_10 N x1 s = some (s', v)) (k : Q v (mH h s')) : zz_E zp_P zt_tf zt_fd X (d + 1) zm_297 10 [(0, .ref 61), (1, .int x1)] [] (mH h s) Q := by
  unfold mf_297_10 at hf
  obtain ⟨s1, y, e, hf⟩ := mo_bi_ok hf
  exact mb_297_10 (d := d + 0) hh  (mr_77 (d := d + 0) hh e (mr_297_16 hh hf k))
def mf_297_0 (N : Nat) (x1 : Int32) (s : mS) : mO := if ¬ (x1 < 0 ∨ 166300 ≤ Int32.toNatClampNeg x1) then (if ¬ ((s.2.2.1 47) (Int32.toNatClampNeg x1)) = 1 then mf_297_18 N x1 s else mf_297_10 N x1 s) else none
theorem mr_297_0 {X : Nat → Option zz_C} {h : zz_H} (hh : 111 ≤ h.length) {d : Nat} {N : Nat} {Q : Option Value → zz_H → Prop} {x1 : Int32} {s s' : mS} {v : Option Value} (hf : mf_297_0 N x1 s = some (s', v)) (k : Q v (mH h s')) : zz_E zp_P zt_tf zt_fd X (d + 1) zm_297 0 [(0, .ref 61), (1, .int x1)] [] (mH h s) Q := by
  unfold mf_297_0 at hf
  obtain ⟨q0, hf⟩ := mo_if hf
  refine mb_297_0 hh q0 (fun c => ?_) (fun c => ?_)
  · rw [if_pos c] at hf
    exact mr_297_18 hh hf k
  · rw [if_neg c] at hf
    exact mr_297_10 hh hf k
/-- plainBulk -/
def mf_297 (N : Nat) (x1 : Int32) (s : mS) : mO := mf_297_0 N x1 s
theorem mr_297 {X : Nat → Option zz_C} {h : zz_H} (hh : 111 ≤ h.length) {d : Nat} {N : Nat} {Q : Option Value → zz_H → Prop} {x1 : Int32} {s s' : mS} {v : Option Value} (hf : mf_297 N x1 s = some (s', v)) (k : Q v (mH h s')) : zz_E zp_P zt_tf zt_fd X (d + 1) zm_297 0 [(0, .ref 61), (1, .int x1)] [] (mH h s) Q := by
  unfold mf_297 at hf
  exact zz_E.weak (mr_297_0 hh hf k) rfl ⟨rfl, rfl, trivial⟩
/-! measure (I)V -/
theorem mb_298_0 {X : Nat → Option zz_C} {h : zz_H} (hh : 111 ≤ h.length) {s : mS} {d : Nat} {Q : Option Value → zz_H → Prop} {x1 : Int32} (i11 : ¬ (x1 < 0 ∨ 166300 ≤ Int32.toNatClampNeg x1)) (k1 : ¬ ((s.2.2.1 47) (Int32.toNatClampNeg x1)) = 3 → zz_E zp_P zt_tf zt_fd X d zm_298 20 [(0, .ref 61), (1, .int x1)] [.ref 61] (mH h (mI s 56 0)) Q) (k2 : ¬ ¬ ((s.2.2.1 47) (Int32.toNatClampNeg x1)) = 3 → zz_E zp_P zt_tf zt_fd X d zm_298 16 [(0, .ref 61), (1, .int x1)] [.ref 61] (mH h (mI s 56 0)) Q) : zz_E zp_P zt_tf zt_fd X d zm_298 0 [(0, .ref 61), (1, .int x1)] [] (mH h s) Q := by
  refine zz_E.n 1 rfl rfl rfl ?_
  refine zz_E.c 2 (.int 0) rfl rfl rfl rfl ?_
  refine mE_p hh 5 rfl (by decide) rfl (mF_56 _ _) rfl ?_
  refine zz_E.n 6 rfl rfl rfl ?_
  refine zz_E.n 7 rfl rfl rfl ?_
  refine mE_g hh 10 (v := .ref 89) rfl rfl rfl ?_
  refine zz_E.n 11 rfl rfl rfl ?_
  refine mE_ia hh 12 28 (f := (s.2.2.1 47)) rfl (by decide) rfl rfl i11 rfl ?_
  refine zz_E.c 13 (.int 3) rfl rfl rfl rfl ?_
  refine zz_E.b2 20 16 (A := ¬ ((s.2.2.1 47) (Int32.toNatClampNeg x1)) = 3) rfl (zz_cond_ne _ _) (by decide) rfl rfl (fun c => ?_) (fun c => ?_)
  · exact zz_E.weak (k1 c) rfl ⟨rfl, rfl, trivial⟩
  · exact zz_E.weak (k2 c) rfl ⟨rfl, rfl, trivial⟩
theorem mb_298_16 {X : Nat → Option zz_C} {h : zz_H} (hh : 111 ≤ h.length) {s : mS} {d : Nat} {Q : Option Value → zz_H → Prop} {x1 : Int32} (k : zz_E zp_P zt_tf zt_fd X d zm_298 25 [(0, .ref 61), (1, .int x1)] [.int 1, .ref 61] (mH h s) Q) : zz_E zp_P zt_tf zt_fd X d zm_298 16 [(0, .ref 61), (1, .int x1)] [.ref 61] (mH h s) Q := by
  refine zz_E.c 17 (.int 1) rfl rfl rfl rfl ?_
  refine zz_E.n 25 rfl rfl rfl ?_
  exact zz_E.weak k rfl ⟨rfl, rfl, trivial⟩
theorem mb_298_20 {X : Nat → Option zz_C} {h : zz_H} (hh : 111 ≤ h.length) {s : mS} {d : Nat} {Q : Option Value → zz_H → Prop} {x1 : Int32} (k : zz_E zp_P zt_tf zt_fd X d zm_297 0 [(0, .ref 61), (1, .int x1)] [] (mH h s) (fun v h' => zz_E zp_P zt_tf zt_fd X (d + 1) zm_298 25 [(0, .ref 61), (1, .int x1)] (v.toList ++ [.ref 61]) h' Q)) : zz_E zp_P zt_tf zt_fd X (d + 1) zm_298 20 [(0, .ref 61), (1, .int x1)] [.ref 61] (mH h s) Q := by
  refine zz_E.n 21 rfl rfl rfl ?_
  refine zz_E.n 22 rfl rfl rfl ?_
  refine mE_cv hh 25 (as := [.ref 61]) rfl rfl (Nat.le_of_ble_eq_true rfl) (Nat.le_of_ble_eq_true rfl) rfl (Nat.le_of_ble_eq_true rfl) rfl ?_
  refine zz_E.mono k ?_
  intro v h' hE
  exact zz_E.weak hE rfl ⟨rfl, rfl, trivial⟩
theorem mb_298_25 {X : Nat → Option zz_C} {h : zz_H} (hh : 111 ≤ h.length) {s : mS} {d : Nat} {Q : Option Value → zz_H → Prop} {x1 : Int32} {y1 : Int32} (i38 : ¬ (x1 < 0 ∨ 166300 ≤ Int32.toNatClampNeg x1)) (k1 : ¬ ((s.2.2.1 47) (Int32.toNatClampNeg x1)) = 3 → zz_E zp_P zt_tf zt_fd X d zm_298 49 [(0, .ref 61)] [] (mH h (mI (mI s 57 y1) 55 0)) Q) (k2 : ¬ ¬ ((s.2.2.1 47) (Int32.toNatClampNeg x1)) = 3 → zz_E zp_P zt_tf zt_fd X d zm_298 43 [(0, .ref 61), (1, .int x1)] [] (mH h (mI (mI s 57 y1) 55 0)) Q) : zz_E zp_P zt_tf zt_fd X d zm_298 25 [(0, .ref 61), (1, .int x1)] [.int y1, .ref 61] (mH h s) Q := by
  refine mE_p hh 28 rfl (by decide) rfl (mF_57 _ _) rfl ?_
  refine zz_E.n 29 rfl rfl rfl ?_
  refine zz_E.c 30 (.int 0) rfl rfl rfl rfl ?_
  refine mE_p hh 33 rfl (by decide) rfl (mF_55 _ _) rfl ?_
  refine zz_E.n 34 rfl rfl rfl ?_
  refine mE_g hh 37 (v := .ref 89) rfl rfl rfl ?_
  refine zz_E.n 38 rfl rfl rfl ?_
  refine mE_ia hh 39 28 (f := (s.2.2.1 47)) rfl (by decide) rfl rfl i38 rfl ?_
  refine zz_E.c 40 (.int 3) rfl rfl rfl rfl ?_
  refine zz_E.b2 49 43 (A := ¬ ((s.2.2.1 47) (Int32.toNatClampNeg x1)) = 3) rfl (zz_cond_ne _ _) (by decide) rfl rfl (fun c => ?_) (fun c => ?_)
  · exact zz_E.weak (k1 c) rfl ⟨rfl, trivial⟩
  · exact zz_E.weak (k2 c) rfl ⟨rfl, rfl, trivial⟩
theorem mb_298_43 {X : Nat → Option zz_C} {h : zz_H} (hh : 111 ≤ h.length) {s : mS} {d : Nat} {Q : Option Value → zz_H → Prop} {x1 : Int32} (k : zz_E zp_P zt_tf zt_fd X d zm_296 0 [(0, .ref 61), (1, .int x1), (2, .int 0)] [] (mH h s) (fun v h' => zz_E zp_P zt_tf zt_fd X (d + 1) zm_298 49 [(0, .ref 61)] (v.toList ++ []) h' Q)) : zz_E zp_P zt_tf zt_fd X (d + 1) zm_298 43 [(0, .ref 61), (1, .int x1)] [] (mH h s) Q := by
  refine zz_E.n 44 rfl rfl rfl ?_
  refine zz_E.n 45 rfl rfl rfl ?_
  refine zz_E.c 46 (.int 0) rfl rfl rfl rfl ?_
  refine mE_cv hh 49 (as := []) rfl rfl (Nat.le_of_ble_eq_true rfl) (Nat.le_of_ble_eq_true rfl) rfl (Nat.le_of_ble_eq_true rfl) rfl ?_
  refine zz_E.mono k ?_
  intro v h' hE
  exact zz_E.weak hE rfl ⟨rfl, trivial⟩
theorem mb_298_49 {X : Nat → Option zz_C} {h : zz_H} (hh : 111 ≤ h.length) {s : mS} {d : Nat} {Q : Option Value → zz_H → Prop}  (k1 : (s.1 55) ≤ 0 → zz_E zp_P zt_tf zt_fd X d zm_298 224 [] [] (mH h s) Q) (k2 : ¬ (s.1 55) ≤ 0 → zz_E zp_P zt_tf zt_fd X d zm_298 56 [(0, .ref 61)] [] (mH h s) Q) : zz_E zp_P zt_tf zt_fd X d zm_298 49 [(0, .ref 61)] [] (mH h s) Q := by
  refine zz_E.n 50 rfl rfl rfl ?_
  refine mE_g hh 53 (v := .int (s.1 55)) rfl rfl rfl ?_
  refine zz_E.b1 224 56 (A := (s.1 55) ≤ 0) rfl rfl (by decide) rfl rfl (fun c => ?_) (fun c => ?_)
  · exact zz_E.weak (k1 c) rfl trivial
  · exact zz_E.weak (k2 c) rfl ⟨rfl, trivial⟩
theorem mb_298_56 {X : Nat → Option zz_C} {h : zz_H} (hh : 111 ≤ h.length) {s : mS} {d : Nat} {Q : Option Value → zz_H → Prop}  (i68 : ¬ (((s.1 55) - 1) < 0 ∨ 8 ≤ Int32.toNatClampNeg ((s.1 55) - 1))) (i75 : ¬ (((s.1 55) - 1) < 0 ∨ 8 ≤ Int32.toNatClampNeg ((s.1 55) - 1))) (k1 : (s.1 55) ≤ (s.1 56) → zz_E zp_P zt_tf zt_fd X d zm_298 97 [(0, .ref 61), (2, .int ((s.1 55) - 1)), (3, .int ((s.2.2.1 52) (Int32.toNatClampNeg ((s.1 55) - 1)))), (4, .int ((s.2.2.1 54) (Int32.toNatClampNeg ((s.1 55) - 1))))] [.ref 61] (mH h s) Q) (k2 : ¬ (s.1 55) ≤ (s.1 56) → zz_E zp_P zt_tf zt_fd X d zm_298 90 [(0, .ref 61), (2, .int ((s.1 55) - 1)), (3, .int ((s.2.2.1 52) (Int32.toNatClampNeg ((s.1 55) - 1)))), (4, .int ((s.2.2.1 54) (Int32.toNatClampNeg ((s.1 55) - 1))))] [.ref 61] (mH h s) Q) : zz_E zp_P zt_tf zt_fd X d zm_298 56 [(0, .ref 61)] [] (mH h s) Q := by
  refine zz_E.n 57 rfl rfl rfl ?_
  refine mE_g hh 60 (v := .int (s.1 55)) rfl rfl rfl ?_
  refine zz_E.c 61 (.int 1) rfl rfl rfl rfl ?_
  refine zz_E.n 62 rfl rfl rfl ?_
  refine zz_E.n 63 rfl rfl rfl ?_
  refine zz_E.n 64 rfl rfl rfl ?_
  refine mE_g hh 67 (v := .ref 92) rfl rfl rfl ?_
  refine zz_E.n 68 rfl rfl rfl ?_
  refine mE_ia hh 69 31 (f := (s.2.2.1 52)) rfl (by decide) rfl rfl i68 rfl ?_
  refine zz_E.n 70 rfl rfl rfl ?_
  refine zz_E.n 71 rfl rfl rfl ?_
  refine mE_g hh 74 (v := .ref 94) rfl rfl rfl ?_
  refine zz_E.n 75 rfl rfl rfl ?_
  refine mE_ia hh 76 33 (f := (s.2.2.1 54)) rfl (by decide) rfl rfl i75 rfl ?_
  refine zz_E.n 78 rfl rfl rfl ?_
  refine zz_E.n 79 rfl rfl rfl ?_
  refine zz_E.n 80 rfl rfl rfl ?_
  refine mE_g hh 83 (v := .int (s.1 55)) rfl rfl rfl ?_
  refine zz_E.n 84 rfl rfl rfl ?_
  refine mE_g hh 87 (v := .int (s.1 56)) rfl rfl rfl ?_
  refine zz_E.b2 97 90 (A := (s.1 55) ≤ (s.1 56)) rfl rfl (by decide) rfl rfl (fun c => ?_) (fun c => ?_)
  · exact zz_E.weak (k1 c) rfl ⟨rfl, rfl, rfl, rfl, trivial⟩
  · exact zz_E.weak (k2 c) rfl ⟨rfl, rfl, rfl, rfl, trivial⟩
theorem mb_298_90 {X : Nat → Option zz_C} {h : zz_H} (hh : 111 ≤ h.length) {s : mS} {d : Nat} {Q : Option Value → zz_H → Prop} {x2 : Int32} {x3 : Int32} {x4 : Int32} (k : zz_E zp_P zt_tf zt_fd X d zm_298 101 [(0, .ref 61), (2, .int x2), (3, .int x3), (4, .int x4)] [.int (s.1 55), .ref 61] (mH h s) Q) : zz_E zp_P zt_tf zt_fd X d zm_298 90 [(0, .ref 61), (2, .int x2), (3, .int x3), (4, .int x4)] [.ref 61] (mH h s) Q := by
  refine zz_E.n 91 rfl rfl rfl ?_
  refine mE_g hh 94 (v := .int (s.1 55)) rfl rfl rfl ?_
  refine zz_E.n 101 rfl rfl rfl ?_
  exact zz_E.weak k rfl ⟨rfl, rfl, rfl, rfl, trivial⟩
theorem mb_298_97 {X : Nat → Option zz_C} {h : zz_H} (hh : 111 ≤ h.length) {s : mS} {d : Nat} {Q : Option Value → zz_H → Prop} {x2 : Int32} {x3 : Int32} {x4 : Int32} (k : zz_E zp_P zt_tf zt_fd X d zm_298 101 [(0, .ref 61), (2, .int x2), (3, .int x3), (4, .int x4)] [.int (s.1 56), .ref 61] (mH h s) Q) : zz_E zp_P zt_tf zt_fd X d zm_298 97 [(0, .ref 61), (2, .int x2), (3, .int x3), (4, .int x4)] [.ref 61] (mH h s) Q := by
  refine zz_E.n 98 rfl rfl rfl ?_
  refine mE_g hh 101 (v := .int (s.1 56)) rfl rfl rfl ?_
  exact zz_E.weak k rfl ⟨rfl, rfl, rfl, rfl, trivial⟩
theorem mb_298_101 {X : Nat → Option zz_C} {h : zz_H} (hh : 111 ≤ h.length) {s : mS} {d : Nat} {Q : Option Value → zz_H → Prop} {x2 : Int32} {x3 : Int32} {x4 : Int32} {y1 : Int32} (k : zz_E zp_P zt_tf zt_fd X d zm_77 0 [(0, .ref 61), (1, .int x3)] [] (mH h (mI s 56 y1)) (fun v h' => zz_E zp_P zt_tf zt_fd X (d + 1) zm_298 111 [(0, .ref 61), (2, .int x2), (3, .int x3), (4, .int x4)] (v.toList ++ [.int x4]) h' Q)) : zz_E zp_P zt_tf zt_fd X (d + 1) zm_298 101 [(0, .ref 61), (2, .int x2), (3, .int x3), (4, .int x4)] [.int y1, .ref 61] (mH h s) Q := by
  refine mE_p hh 104 rfl (by decide) rfl (mF_56 _ _) rfl ?_
  refine zz_E.n 106 rfl rfl rfl ?_
  refine zz_E.n 107 rfl rfl rfl ?_
  refine zz_E.n 108 rfl rfl rfl ?_
  refine mE_cv hh 111 (as := [.int x4]) rfl rfl (Nat.le_of_ble_eq_true rfl) (Nat.le_of_ble_eq_true rfl) rfl (Nat.le_of_ble_eq_true rfl) rfl ?_
  refine zz_E.mono k ?_
  intro v h' hE
  exact zz_E.weak hE rfl ⟨rfl, rfl, rfl, rfl, trivial⟩
theorem mb_298_111 {X : Nat → Option zz_C} {h : zz_H} (hh : 111 ≤ h.length) {s : mS} {d : Nat} {Q : Option Value → zz_H → Prop} {x2 : Int32} {x3 : Int32} {x4 : Int32} {y0 : Int32} {y1 : Int32} (k1 : ¬ y0 = y1 → zz_E zp_P zt_tf zt_fd X d zm_298 127 [(0, .ref 61), (2, .int x2), (3, .int x3), (4, .int x4)] [] (mH h s) Q) (k2 : ¬ ¬ y0 = y1 → zz_E zp_P zt_tf zt_fd X d zm_298 114 [(0, .ref 61)] [] (mH h s) Q) : zz_E zp_P zt_tf zt_fd X d zm_298 111 [(0, .ref 61), (2, .int x2), (3, .int x3), (4, .int x4)] [.int y1, .int y0] (mH h s) Q := by
  refine zz_E.b2 127 114 (A := ¬ y0 = y1) rfl (zz_cond_ne _ _) (by decide) rfl rfl (fun c => ?_) (fun c => ?_)
  · exact zz_E.weak (k1 c) rfl ⟨rfl, rfl, rfl, rfl, trivial⟩
  · exact zz_E.weak (k2 c) rfl ⟨rfl, trivial⟩
theorem mb_298_114 {X : Nat → Option zz_C} {h : zz_H} (hh : 111 ≤ h.length) {s : mS} {d : Nat} {Q : Option Value → zz_H → Prop}  (k : zz_E zp_P zt_tf zt_fd X d zm_298 49 [(0, .ref 61)] [] (mH h (mI s 55 ((s.1 55) - 1))) Q) : zz_E zp_P zt_tf zt_fd X d zm_298 114 [(0, .ref 61)] [] (mH h s) Q := by
  refine zz_E.n 115 rfl rfl rfl ?_
  refine zz_E.n 116 rfl rfl rfl ?_
  refine mE_g hh 119 (v := .int (s.1 55)) rfl rfl rfl ?_
  refine zz_E.c 120 (.int 1) rfl rfl rfl rfl ?_
  refine zz_E.n 121 rfl rfl rfl ?_
  refine mE_p hh 124 rfl (by decide) rfl (mF_55 _ _) rfl ?_
  refine zz_E.n 49 rfl rfl rfl ?_
  exact zz_E.weak k rfl ⟨rfl, trivial⟩
theorem mb_298_127 {X : Nat → Option zz_C} {h : zz_H} (hh : 111 ≤ h.length) {s : mS} {d : Nat} {Q : Option Value → zz_H → Prop} {x2 : Int32} {x3 : Int32} {x4 : Int32} (i133 : ¬ (x2 < 0 ∨ 8 ≤ Int32.toNatClampNeg x2)) (i136 : ¬ (x2 < 0 ∨ 8 ≤ Int32.toNatClampNeg x2)) (k : zz_E zp_P zt_tf zt_fd X d zm_293 0 [(0, .ref 61), (1, .int x3), (2, .int x4)] [] (mH h (mA s 54 (upd (s.2.2.1 54) (Int32.toNatClampNeg x2) (((s.2.2.1 54) (Int32.toNatClampNeg x2)) + 1)))) (fun v h' => zz_E zp_P zt_tf zt_fd X (d + 1) zm_298 144 [(0, .ref 61), (3, .int x3), (4, .int x4)] (v.toList ++ []) h' Q)) : zz_E zp_P zt_tf zt_fd X (d + 1) zm_298 127 [(0, .ref 61), (2, .int x2), (3, .int x3), (4, .int x4)] [] (mH h s) Q := by
  refine zz_E.n 128 rfl rfl rfl ?_
  refine mE_g hh 131 (v := .ref 94) rfl rfl rfl ?_
  refine zz_E.n 132 rfl rfl rfl ?_
  refine zz_E.n 133 rfl rfl rfl ?_
  refine mE_ia hh 134 33 (f := (s.2.2.1 54)) rfl (by decide) rfl rfl i133 rfl ?_
  refine zz_E.c 135 (.int 1) rfl rfl rfl rfl ?_
  refine zz_E.n 136 rfl rfl rfl ?_
  refine mE_is hh 137 33 (f := (s.2.2.1 54)) rfl (by decide) rfl rfl i136 (mA_94 _ _) rfl ?_
  refine zz_E.n 138 rfl rfl rfl ?_
  refine zz_E.n 139 rfl rfl rfl ?_
  refine zz_E.n 141 rfl rfl rfl ?_
  refine mE_cv hh 144 (as := []) rfl rfl (Nat.le_of_ble_eq_true rfl) (Nat.le_of_ble_eq_true rfl) rfl (Nat.le_of_ble_eq_true rfl) rfl ?_
  refine zz_E.mono k ?_
  intro v h' hE
  exact zz_E.weak hE rfl ⟨rfl, rfl, rfl, trivial⟩
theorem mb_298_144 {X : Nat → Option zz_C} {h : zz_H} (hh : 111 ≤ h.length) {s : mS} {d : Nat} {Q : Option Value → zz_H → Prop} {x3 : Int32} {x4 : Int32} {y0 : Int32} (k1 : y0 = 0 → zz_E zp_P zt_tf zt_fd X d zm_298 160 [(0, .ref 61), (3, .int x3), (4, .int x4)] [] (mH h s) Q) (k2 : ¬ y0 = 0 → zz_E zp_P zt_tf zt_fd X d zm_298 147 [(0, .ref 61)] [] (mH h s) Q) : zz_E zp_P zt_tf zt_fd X d zm_298 144 [(0, .ref 61), (3, .int x3), (4, .int x4)] [.int y0] (mH h s) Q := by
  refine zz_E.b1 160 147 (A := y0 = 0) rfl rfl (by decide) rfl rfl (fun c => ?_) (fun c => ?_)
  · exact zz_E.weak (k1 c) rfl ⟨rfl, rfl, rfl, trivial⟩
  · exact zz_E.weak (k2 c) rfl ⟨rfl, trivial⟩
theorem mb_298_147 {X : Nat → Option zz_C} {h : zz_H} (hh : 111 ≤ h.length) {s : mS} {d : Nat} {Q : Option Value → zz_H → Prop}  (k : zz_E zp_P zt_tf zt_fd X d zm_298 221 [(0, .ref 61)] [] (mH h (mI s 57 ((s.1 57) + 1))) Q) : zz_E zp_P zt_tf zt_fd X d zm_298 147 [(0, .ref 61)] [] (mH h s) Q := by
  refine zz_E.n 148 rfl rfl rfl ?_
  refine zz_E.n 149 rfl rfl rfl ?_
  refine mE_g hh 152 (v := .int (s.1 57)) rfl rfl rfl ?_
  refine zz_E.c 153 (.int 1) rfl rfl rfl rfl ?_
  refine zz_E.n 154 rfl rfl rfl ?_
  refine mE_p hh 157 rfl (by decide) rfl (mF_57 _ _) rfl ?_
  refine zz_E.n 221 rfl rfl rfl ?_
  exact zz_E.weak k rfl ⟨rfl, trivial⟩
theorem mb_298_160 {X : Nat → Option zz_C} {h : zz_H} (hh : 111 ≤ h.length) {s : mS} {d : Nat} {Q : Option Value → zz_H → Prop} {x3 : Int32} {x4 : Int32} (k : zz_E zp_P zt_tf zt_fd X d zm_294 0 [(0, .ref 61), (1, .int x3), (2, .int x4)] [] (mH h s) (fun v h' => zz_E zp_P zt_tf zt_fd X (d + 1) zm_298 171 [(0, .ref 61), (3, .int x3), (4, .int x4)] (v.toList ++ [.ref 89]) h' Q)) : zz_E zp_P zt_tf zt_fd X (d + 1) zm_298 160 [(0, .ref 61), (3, .int x3), (4, .int x4)] [] (mH h s) Q := by
  refine zz_E.n 161 rfl rfl rfl ?_
  refine mE_g hh 164 (v := .ref 89) rfl rfl rfl ?_
  refine zz_E.n 165 rfl rfl rfl ?_
  refine zz_E.n 166 rfl rfl rfl ?_
  refine zz_E.n 168 rfl rfl rfl ?_
  refine mE_cv hh 171 (as := [.ref 89]) rfl rfl (Nat.le_of_ble_eq_true rfl) (Nat.le_of_ble_eq_true rfl) rfl (Nat.le_of_ble_eq_true rfl) rfl ?_
  refine zz_E.mono k ?_
  intro v h' hE
  exact zz_E.weak hE rfl ⟨rfl, rfl, rfl, trivial⟩
theorem mb_298_171 {X : Nat → Option zz_C} {h : zz_H} (hh : 111 ≤ h.length) {s : mS} {d : Nat} {Q : Option Value → zz_H → Prop} {x3 : Int32} {x4 : Int32} {y1 : Int32} (i171 : ¬ (y1 < 0 ∨ 166300 ≤ Int32.toNatClampNeg y1)) (k1 : ¬ ((s.2.2.1 47) (Int32.toNatClampNeg y1)) = 3 → zz_E zp_P zt_tf zt_fd X d zm_298 201 [(0, .ref 61), (3, .int x3), (4, .int x4)] [] (mH h s) Q) (k2 : ¬ ¬ ((s.2.2.1 47) (Int32.toNatClampNeg y1)) = 3 → zz_E zp_P zt_tf zt_fd X d zm_298 176 [(0, .ref 61), (3, .int x3), (4, .int x4)] [] (mH h s) Q) : zz_E zp_P zt_tf zt_fd X d zm_298 171 [(0, .ref 61), (3, .int x3), (4, .int x4)] [.int y1, .ref 89] (mH h s) Q := by
  refine mE_ia hh 172 28 (f := (s.2.2.1 47)) rfl (by decide) rfl rfl i171 rfl ?_
  refine zz_E.c 173 (.int 3) rfl rfl rfl rfl ?_
  refine zz_E.b2 201 176 (A := ¬ ((s.2.2.1 47) (Int32.toNatClampNeg y1)) = 3) rfl (zz_cond_ne _ _) (by decide) rfl rfl (fun c => ?_) (fun c => ?_)
  · exact zz_E.weak (k1 c) rfl ⟨rfl, rfl, rfl, trivial⟩
  · exact zz_E.weak (k2 c) rfl ⟨rfl, rfl, rfl, trivial⟩
theorem mb_298_176 {X : Nat → Option zz_C} {h : zz_H} (hh : 111 ≤ h.length) {s : mS} {d : Nat} {Q : Option Value → zz_H → Prop} {x3 : Int32} {x4 : Int32} (k : zz_E zp_P zt_tf zt_fd X d zm_294 0 [(0, .ref 61), (1, .int x3), (2, .int x4)] [] (mH h (mI s 57 ((s.1 57) + 1))) (fun v h' => zz_E zp_P zt_tf zt_fd X (d + 1) zm_298 194 [(0, .ref 61)] (v.toList ++ [.ref 61]) h' Q)) : zz_E zp_P zt_tf zt_fd X (d + 1) zm_298 176 [(0, .ref 61), (3, .int x3), (4, .int x4)] [] (mH h s) Q := by
  refine zz_E.n 177 rfl rfl rfl ?_
  refine zz_E.n 178 rfl rfl rfl ?_
  refine mE_g hh 181 (v := .int (s.1 57)) rfl rfl rfl ?_
  refine zz_E.c 182 (.int 1) rfl rfl rfl rfl ?_
  refine zz_E.n 183 rfl rfl rfl ?_
  refine mE_p hh 186 rfl (by decide) rfl (mF_57 _ _) rfl ?_
  refine zz_E.n 187 rfl rfl rfl ?_
  refine zz_E.n 188 rfl rfl rfl ?_
  refine zz_E.n 189 rfl rfl rfl ?_
  refine zz_E.n 191 rfl rfl rfl ?_
  refine mE_cv hh 194 (as := [.ref 61]) rfl rfl (Nat.le_of_ble_eq_true rfl) (Nat.le_of_ble_eq_true rfl) rfl (Nat.le_of_ble_eq_true rfl) rfl ?_
  refine zz_E.mono k ?_
  intro v h' hE
  exact zz_E.weak hE rfl ⟨rfl, trivial⟩
theorem mb_298_194 {X : Nat → Option zz_C} {h : zz_H} (hh : 111 ≤ h.length) {s : mS} {d : Nat} {Q : Option Value → zz_H → Prop} {y1 : Int32} (k : zz_E zp_P zt_tf zt_fd X d zm_296 0 [(0, .ref 61), (1, .int y1), (2, .int 0)] [] (mH h s) (fun v h' => zz_E zp_P zt_tf zt_fd X (d + 1) zm_298 198 [(0, .ref 61)] (v.toList ++ []) h' Q)) : zz_E zp_P zt_tf zt_fd X (d + 1) zm_298 194 [(0, .ref 61)] [.int y1, .ref 61] (mH h s) Q := by
  refine zz_E.c 195 (.int 0) rfl rfl rfl rfl ?_
  refine mE_cv hh 198 (as := []) rfl rfl (Nat.le_of_ble_eq_true rfl) (Nat.le_of_ble_eq_true rfl) rfl (Nat.le_of_ble_eq_true rfl) rfl ?_
  refine zz_E.mono k ?_
  intro v h' hE
  exact zz_E.weak hE rfl ⟨rfl, trivial⟩
theorem mb_298_198 {X : Nat → Option zz_C} {h : zz_H} (hh : 111 ≤ h.length) {s : mS} {d : Nat} {Q : Option Value → zz_H → Prop}  (k : zz_E zp_P zt_tf zt_fd X d zm_298 221 [(0, .ref 61)] [] (mH h s) Q) : zz_E zp_P zt_tf zt_fd X d zm_298 198 [(0, .ref 61)] [] (mH h s) Q := by
  refine zz_E.n 221 rfl rfl rfl ?_
  exact zz_E.weak k rfl ⟨rfl, trivial⟩
theorem mb_298_201 {X : Nat → Option zz_C} {h : zz_H} (hh : 111 ≤ h.length) {s : mS} {d : Nat} {Q : Option Value → zz_H → Prop} {x3 : Int32} {x4 : Int32} (k : zz_E zp_P zt_tf zt_fd X d zm_294 0 [(0, .ref 61), (1, .int x3), (2, .int x4)] [] (mH h s) (fun v h' => zz_E zp_P zt_tf zt_fd X (d + 1) zm_298 214 [(0, .ref 61)] (v.toList ++ [.ref 61, .int (s.1 57), .ref 61]) h' Q)) : zz_E zp_P zt_tf zt_fd X (d + 1) zm_298 201 [(0, .ref 61), (3, .int x3), (4, .int x4)] [] (mH h s) Q := by
  refine zz_E.n 202 rfl rfl rfl ?_
  refine zz_E.n 203 rfl rfl rfl ?_
  refine mE_g hh 206 (v := .int (s.1 57)) rfl rfl rfl ?_
  refine zz_E.n 207 rfl rfl rfl ?_
  refine zz_E.n 208 rfl rfl rfl ?_
  refine zz_E.n 209 rfl rfl rfl ?_
  refine zz_E.n 211 rfl rfl rfl ?_
  refine mE_cv hh 214 (as := [.ref 61, .int (s.1 57), .ref 61]) rfl rfl (Nat.le_of_ble_eq_true rfl) (Nat.le_of_ble_eq_true rfl) rfl (Nat.le_of_ble_eq_true rfl) rfl ?_
  refine zz_E.mono k ?_
  intro v h' hE
  exact zz_E.weak hE rfl ⟨rfl, trivial⟩
theorem mb_298_214 {X : Nat → Option zz_C} {h : zz_H} (hh : 111 ≤ h.length) {s : mS} {d : Nat} {Q : Option Value → zz_H → Prop} {y1 : Int32} {y3 : Int32} (k : zz_E zp_P zt_tf zt_fd X d zm_297 0 [(0, .ref 61), (1, .int y3)] [] (mH h s) (fun v h' => zz_E zp_P zt_tf zt_fd X (d + 1) zm_298 217 [(0, .ref 61)] (v.toList ++ [.int y1, .ref 61]) h' Q)) : zz_E zp_P zt_tf zt_fd X (d + 1) zm_298 214 [(0, .ref 61)] [.int y3, .ref 61, .int y1, .ref 61] (mH h s) Q := by
  refine mE_cv hh 217 (as := [.int y1, .ref 61]) rfl rfl (Nat.le_of_ble_eq_true rfl) (Nat.le_of_ble_eq_true rfl) rfl (Nat.le_of_ble_eq_true rfl) rfl ?_
  refine zz_E.mono k ?_
  intro v h' hE
  exact zz_E.weak hE rfl ⟨rfl, trivial⟩
theorem mb_298_217 {X : Nat → Option zz_C} {h : zz_H} (hh : 111 ≤ h.length) {s : mS} {d : Nat} {Q : Option Value → zz_H → Prop} {y1 : Int32} {y2 : Int32} (k : zz_E zp_P zt_tf zt_fd X d zm_298 221 [(0, .ref 61)] [] (mH h (mI s 57 (y1 + y2))) Q) : zz_E zp_P zt_tf zt_fd X d zm_298 217 [(0, .ref 61)] [.int y2, .int y1, .ref 61] (mH h s) Q := by
  refine zz_E.n 218 rfl rfl rfl ?_
  refine mE_p hh 221 rfl (by decide) rfl (mF_57 _ _) rfl ?_
  exact zz_E.weak k rfl ⟨rfl, trivial⟩
theorem mb_298_221 {X : Nat → Option zz_C} {h : zz_H} (hh : 111 ≤ h.length) {s : mS} {d : Nat} {Q : Option Value → zz_H → Prop}  (k : zz_E zp_P zt_tf zt_fd X d zm_298 49 [(0, .ref 61)] [] (mH h s) Q) : zz_E zp_P zt_tf zt_fd X d zm_298 221 [(0, .ref 61)] [] (mH h s) Q := by
  refine zz_E.n 49 rfl rfl rfl ?_
  exact zz_E.weak k rfl ⟨rfl, trivial⟩
theorem mb_298_224 {X : Nat → Option zz_C} {h : zz_H} (hh : 111 ≤ h.length) {s : mS} {d : Nat} {Q : Option Value → zz_H → Prop}  (k : Q none (mH h s)) : zz_E zp_P zt_tf zt_fd X d zm_298 224 [] [] (mH h s) Q := by
  refine zz_E.ret rfl rfl rfl ?_
  exact k
def mf_298_224 (N : Nat)  (s : mS) : mO := some (s, none)
theorem mr_298_224 {X : Nat → Option zz_C} {h : zz_H} (hh : 111 ≤ h.length) {d : Nat} {N : Nat} {Q : Option Value → zz_H → Prop}  {s s' : mS} {v : Option Value} (hf : mf_298_224 N  s = some (s', v)) (k : Q v (mH h s')) : zz_E zp_P zt_tf zt_fd X (d + 2) zm_298 224 [] [] (mH h s) Q := by
  unfold mf_298_224 at hf
  cases hf
  exact mb_298_224 hh  k
def mf_298_221 (N : Nat) (rc : Nat → mS → mO)  (s : mS) : mO := rc 0  s
theorem mr_298_221 {X : Nat → Option zz_C} {h : zz_H} (hh : 111 ≤ h.length) {d : Nat} {N : Nat} {rc : Nat → mS → mO} (hrc0 : ∀ {Q : Option Value → zz_H → Prop}  {s s' : mS} {v : Option Value}, rc 0  s = some (s', v) → Q v (mH h s') → zz_E zp_P zt_tf zt_fd X (d + 2) zm_298 49 [(0, .ref 61)] [] (mH h s) Q) {Q : Option Value → zz_H → Prop}  {s s' : mS} {v : Option Value} (hf : mf_298_221 N rc  s = some (s', v)) (k : Q v (mH h s')) : zz_E zp_P zt_tf zt_fd X (d + 2) zm_298 221 [(0, .ref 61)] [] (mH h s) Q := by
  unfold mf_298_221 at hf
  exact mb_298_221 hh  (hrc0 hf k)
def mf_298_217 (N : Nat) (rc : Nat → mS → mO) (y1 : Int32) (y2 : Int32) (s : mS) : mO := mf_298_221 N rc  (mI s 57 (y1 + y2))
theorem mr_298_217 {X : Nat → Option zz_C} {h : zz_H} (hh : 111 ≤ h.length) {d : Nat} {N : Nat} {rc : Nat → mS → mO} (hrc0 : ∀ {Q : Option Value → zz_H → Prop}  {s s' : mS} {v : Option Value}, rc 0  s = some (s', v) → Q v (mH h s') → zz_E zp_P zt_tf zt_fd X (d + 2) zm_298 49 [(0, .ref 61)] [] (mH h s) Q) {Q : Option Value → zz_H → Prop} {y1 : Int32} {y2 : Int32} {s s' : mS} {v : Option Value} (hf : mf_298_217 N rc y1 y2 s = some (s', v)) (k : Q v (mH h s')) : zz_E zp_P zt_tf zt_fd X (d + 2) zm_298 217 [(0, .ref 61)] [.int y2, .int y1, .ref 61] (mH h s) Q := by
  unfold mf_298_217 at hf
  exact mb_298_217 hh  (mr_298_221 hh hrc0 hf k)
def mf_298_214 (N : Nat) (rc : Nat → mS → mO) (y1 : Int32) (y3 : Int32) (s : mS) : mO := mo_bi (mf_297 N y3 s) (fun s1 y => mf_298_217 N rc y1 y s1)
theorem mr_298_214 {X : Nat → Option zz_C} {h : zz_H} (hh : 111 ≤ h.length) {d : Nat} {N : Nat} {rc : Nat → mS → mO} (hrc0 : ∀ {Q : Option Value → zz_H → Prop}  {s s' : mS} {v : Option Value}, rc 0  s = some (s', v) → Q v (mH h s') → zz_E zp_P zt_tf zt_fd X (d + 2) zm_298 49 [(0, .ref 61)] [] (mH h s) Q) {Q : Option Value → zz_H → Prop} {y1 : Int32} {y3 : Int32} {s s' : mS} {v : Option Value} (hf : mf_298_214 N rc y1 y3 s = some (s', v)) (k : Q v (mH h s')) : zz_E zp_P zt_tf zt_fd X (d + 2) zm_298 214 [(0, .ref 61)] [.int y3, .ref 61, .int y1, .ref 61] (mH h s) Q := by
  unfold mf_298_214 at hf
  obtain ⟨s1, y, e, hf⟩ := mo_bi_ok hf
  exact mb_298_214 (d := d + 1) hh  (mr_297 (d := d + 0) hh e (mr_298_217 hh hrc0 hf k))
def mf_298_201 (N : Nat) (rc : Nat → mS → mO) (x3 : Int32) (x4 : Int32) (s : mS) : mO := mo_bi (mf_294 N x3 x4 s) (fun s1 y => mf_298_214 N rc (s.1 57) y s1)
theorem mr_298_201 {X : Nat → Option zz_C} {h : zz_H} (hh : 111 ≤ h.length) {d : Nat} {N : Nat} {rc : Nat → mS → mO} (hrc0 : ∀ {Q : Option Value → zz_H → Prop}  {s s' : mS} {v : Option Value}, rc 0  s = some (s', v) → Q v (mH h s') → zz_E zp_P zt_tf zt_fd X (d + 2) zm_298 49 [(0, .ref 61)] [] (mH h s) Q) {Q : Option Value → zz_H → Prop} {x3 : Int32} {x4 : Int32} {s s' : mS} {v : Option Value} (hf : mf_298_201 N rc x3 x4 s = some (s', v)) (k : Q v (mH h s')) : zz_E zp_P zt_tf zt_fd X (d + 2) zm_298 201 [(0, .ref 61), (3, .int x3), (4, .int x4)] [] (mH h s) Q := by
  unfold mf_298_201 at hf
  obtain ⟨s1, y, e, hf⟩ := mo_bi_ok hf
  exact mb_298_201 (d := d + 1) hh  (mr_294 (d := d + 1) hh e (mr_298_214 hh hrc0 hf k))
def mf_298_198 (N : Nat) (rc : Nat → mS → mO)  (s : mS) : mO := mf_298_221 N rc  s
theorem mr_298_198 {X : Nat → Option zz_C} {h : zz_H} (hh : 111 ≤ h.length) {d : Nat} {N : Nat} {rc : Nat → mS → mO} (hrc0 : ∀ {Q : Option Value → zz_H → Prop}  {s s' : mS} {v : Option Value}, rc 0  s = some (s', v) → Q v (mH h s') → zz_E zp_P zt_tf zt_fd X (d + 2) zm_298 49 [(0, .ref 61)] [] (mH h s) Q) {Q : Option Value → zz_H → Prop}  {s s' : mS} {v : Option Value} (hf : mf_298_198 N rc  s = some (s', v)) (k : Q v (mH h s')) : zz_E zp_P zt_tf zt_fd X (d + 2) zm_298 198 [(0, .ref 61)] [] (mH h s) Q := by
  unfold mf_298_198 at hf
  exact mb_298_198 hh  (mr_298_221 hh hrc0 hf k)
def mf_298_194 (N : Nat) (rc : Nat → mS → mO) (y1 : Int32) (s : mS) : mO := mo_bv (mf_296 N y1 0 s) (fun s1 => mf_298_198 N rc  s1)
theorem mr_298_194 {X : Nat → Option zz_C} {h : zz_H} (hh : 111 ≤ h.length) {d : Nat} {N : Nat} {rc : Nat → mS → mO} (hrc0 : ∀ {Q : Option Value → zz_H → Prop}  {s s' : mS} {v : Option Value}, rc 0  s = some (s', v) → Q v (mH h s') → zz_E zp_P zt_tf zt_fd X (d + 2) zm_298 49 [(0, .ref 61)] [] (mH h s) Q) {Q : Option Value → zz_H → Prop} {y1 : Int32} {s s' : mS} {v : Option Value} (hf : mf_298_194 N rc y1 s = some (s', v)) (k : Q v (mH h s')) : zz_E zp_P zt_tf zt_fd X (d + 2) zm_298 194 [(0, .ref 61)] [.int y1, .ref 61] (mH h s) Q := by
  unfold mf_298_194 at hf
  obtain ⟨s1, e, hf⟩ := mo_bv_ok hf
  exact mb_298_194 (d := d + 1) hh  (mr_296 (d := d + 1) hh e (mr_298_198 hh hrc0 hf k))
def mf_298_176 (N : Nat) (rc : Nat → mS → mO) (x3 : Int32) (x4 : Int32) (s : mS) : mO := mo_bi (mf_294 N x3 x4 (mI s 57 ((s.1 57) + 1))) (fun s1 y => mf_298_194 N rc y s1)
theorem mr_298_176 {X : Nat → Option zz_C} {h : zz_H} (hh : 111 ≤ h.length) {d : Nat} {N : Nat} {rc : Nat → mS → mO} (hrc0 : ∀ {Q : Option Value → zz_H → Prop}  {s s' : mS} {v : Option Value}, rc 0  s = some (s', v) → Q v (mH h s') → zz_E zp_P zt_tf zt_fd X (d + 2) zm_298 49 [(0, .ref 61)] [] (mH h s) Q) {Q : Option Value → zz_H → Prop} {x3 : Int32} {x4 : Int32} {s s' : mS} {v : Option Value} (hf : mf_298_176 N rc x3 x4 s = some (s', v)) (k : Q v (mH h s')) : zz_E zp_P zt_tf zt_fd X (d + 2) zm_298 176 [(0, .ref 61), (3, .int x3), (4, .int x4)] [] (mH h s) Q := by
  unfold mf_298_176 at hf
  obtain ⟨s1, y, e, hf⟩ := mo_bi_ok hf
  exact mb_298_176 (d := d + 1) hh  (mr_294 (d := d + 1) hh e (mr_298_194 hh hrc0 hf k))
def mf_298_171 (N : Nat) (rc : Nat → mS → mO) (x3 : Int32) (x4 : Int32) (y1 : Int32) (s : mS) : mO := if ¬ (y1 < 0 ∨ 166300 ≤ Int32.toNatClampNeg y1) then (if ¬ ((s.2.2.1 47) (Int32.toNatClampNeg y1)) = 3 then mf_298_201 N rc x3 x4 s else mf_298_176 N rc x3 x4 s) else none
theorem mr_298_171 {X : Nat → Option zz_C} {h : zz_H} (hh : 111 ≤ h.length) {d : Nat} {N : Nat} {rc : Nat → mS → mO} (hrc0 : ∀ {Q : Option Value → zz_H → Prop}  {s s' : mS} {v : Option Value}, rc 0  s = some (s', v) → Q v (mH h s') → zz_E zp_P zt_tf zt_fd X (d + 2) zm_298 49 [(0, .ref 61)] [] (mH h s) Q) {Q : Option Value → zz_H → Prop} {x3 : Int32} {x4 : Int32} {y1 : Int32} {s s' : mS} {v : Option Value} (hf : mf_298_171 N rc x3 x4 y1 s = some (s', v)) (k : Q v (mH h s')) : zz_E zp_P zt_tf zt_fd X (d + 2) zm_298 171 [(0, .ref 61), (3, .int x3), (4, .int x4)] [.int y1, .ref 89] (mH h s) Q := by
  unfold mf_298_171 at hf
  obtain ⟨q0, hf⟩ := mo_if hf
  refine mb_298_171 hh q0 (fun c => ?_) (fun c => ?_)
  · rw [if_pos c] at hf
    exact mr_298_201 hh hrc0 hf k
  · rw [if_neg c] at hf
    exact mr_298_176 hh hrc0 hf k
def mf_298_160 (N : Nat) (rc : Nat → mS → mO) (x3 : Int32) (x4 : Int32) (s : mS) : mO := mo_bi (mf_294 N x3 x4 s) (fun s1 y => mf_298_171 N rc x3 x4 y s1)
theorem mr_298_160 {X : Nat → Option zz_C} {h : zz_H} (hh : 111 ≤ h.length) {d : Nat} {N : Nat} {rc : Nat → mS → mO} (hrc0 : ∀ {Q : Option Value → zz_H → Prop}  {s s' : mS} {v : Option Value}, rc 0  s = some (s', v) → Q v (mH h s') → zz_E zp_P zt_tf zt_fd X (d + 2) zm_298 49 [(0, .ref 61)] [] (mH h s) Q) {Q : Option Value → zz_H → Prop} {x3 : Int32} {x4 : Int32} {s s' : mS} {v : Option Value} (hf : mf_298_160 N rc x3 x4 s = some (s', v)) (k : Q v (mH h s')) : zz_E zp_P zt_tf zt_fd X (d + 2) zm_298 160 [(0, .ref 61), (3, .int x3), (4, .int x4)] [] (mH h s) Q := by
  unfold mf_298_160 at hf
  obtain ⟨s1, y, e, hf⟩ := mo_bi_ok hf
  exact mb_298_160 (d := d + 1) hh  (mr_294 (d := d + 1) hh e (mr_298_171 hh hrc0 hf k))
def mf_298_147 (N : Nat) (rc : Nat → mS → mO)  (s : mS) : mO := mf_298_221 N rc  (mI s 57 ((s.1 57) + 1))
theorem mr_298_147 {X : Nat → Option zz_C} {h : zz_H} (hh : 111 ≤ h.length) {d : Nat} {N : Nat} {rc : Nat → mS → mO} (hrc0 : ∀ {Q : Option Value → zz_H → Prop}  {s s' : mS} {v : Option Value}, rc 0  s = some (s', v) → Q v (mH h s') → zz_E zp_P zt_tf zt_fd X (d + 2) zm_298 49 [(0, .ref 61)] [] (mH h s) Q) {Q : Option Value → zz_H → Prop}  {s s' : mS} {v : Option Value} (hf : mf_298_147 N rc  s = some (s', v)) (k : Q v (mH h s')) : zz_E zp_P zt_tf zt_fd X (d + 2) zm_298 147 [(0, .ref 61)] [] (mH h s) Q := by
  unfold mf_298_147 at hf
  exact mb_298_147 hh  (mr_298_221 hh hrc0 hf k)
def mf_298_144 (N : Nat) (rc : Nat → mS → mO) (x3 : Int32) (x4 : Int32) (y0 : Int32) (s : mS) : mO := if y0 = 0 then mf_298_160 N rc x3 x4 s else mf_298_147 N rc  s
theorem mr_298_144 {X : Nat → Option zz_C} {h : zz_H} (hh : 111 ≤ h.length) {d : Nat} {N : Nat} {rc : Nat → mS → mO} (hrc0 : ∀ {Q : Option Value → zz_H → Prop}  {s s' : mS} {v : Option Value}, rc 0  s = some (s', v) → Q v (mH h s') → zz_E zp_P zt_tf zt_fd X (d + 2) zm_298 49 [(0, .ref 61)] [] (mH h s) Q) {Q : Option Value → zz_H → Prop} {x3 : Int32} {x4 : Int32} {y0 : Int32} {s s' : mS} {v : Option Value} (hf : mf_298_144 N rc x3 x4 y0 s = some (s', v)) (k : Q v (mH h s')) : zz_E zp_P zt_tf zt_fd X (d + 2) zm_298 144 [(0, .ref 61), (3, .int x3), (4, .int x4)] [.int y0] (mH h s) Q := by
  unfold mf_298_144 at hf
  refine mb_298_144 hh  (fun c => ?_) (fun c => ?_)
  · rw [if_pos c] at hf
    exact mr_298_160 hh hrc0 hf k
  · rw [if_neg c] at hf
    exact mr_298_147 hh hrc0 hf k
def mf_298_127 (N : Nat) (rc : Nat → mS → mO) (x2 : Int32) (x3 : Int32) (x4 : Int32) (s : mS) : mO := if ¬ (x2 < 0 ∨ 8 ≤ Int32.toNatClampNeg x2) then (if ¬ (x2 < 0 ∨ 8 ≤ Int32.toNatClampNeg x2) then (mo_bi (mf_293 N x3 x4 (mA s 54 (upd (s.2.2.1 54) (Int32.toNatClampNeg x2) (((s.2.2.1 54) (Int32.toNatClampNeg x2)) + 1)))) (fun s1 y => mf_298_144 N rc x3 x4 y s1)) else none) else none
theorem mr_298_127 {X : Nat → Option zz_C} {h : zz_H} (hh : 111 ≤ h.length) {d : Nat} {N : Nat} {rc : Nat → mS → mO} (hrc0 : ∀ {Q : Option Value → zz_H → Prop}  {s s' : mS} {v : Option Value}, rc 0  s = some (s', v) → Q v (mH h s') → zz_E zp_P zt_tf zt_fd X (d + 2) zm_298 49 [(0, .ref 61)] [] (mH h s) Q) {Q : Option Value → zz_H → Prop} {x2 : Int32} {x3 : Int32} {x4 : Int32} {s s' : mS} {v : Option Value} (hf : mf_298_127 N rc x2 x3 x4 s = some (s', v)) (k : Q v (mH h s')) : zz_E zp_P zt_tf zt_fd X (d + 2) zm_298 127 [(0, .ref 61), (2, .int x2), (3, .int x3), (4, .int x4)] [] (mH h s) Q := by
  unfold mf_298_127 at hf
  obtain ⟨q0, hf⟩ := mo_if hf
  obtain ⟨q1, hf⟩ := mo_if hf
  obtain ⟨s1, y, e, hf⟩ := mo_bi_ok hf
  exact mb_298_127 (d := d + 1) hh q0 q1 (mr_293 (d := d + 1) hh e (mr_298_144 hh hrc0 hf k))
def mf_298_114 (N : Nat) (rc : Nat → mS → mO)  (s : mS) : mO := rc 0  (mI s 55 ((s.1 55) - 1))
theorem mr_298_114 {X : Nat → Option zz_C} {h : zz_H} (hh : 111 ≤ h.length) {d : Nat} {N : Nat} {rc : Nat → mS → mO} (hrc0 : ∀ {Q : Option Value → zz_H → Prop}  {s s' : mS} {v : Option Value}, rc 0  s = some (s', v) → Q v (mH h s') → zz_E zp_P zt_tf zt_fd X (d + 2) zm_298 49 [(0, .ref 61)] [] (mH h s) Q) {Q : Option Value → zz_H → Prop}  {s s' : mS} {v : Option Value} (hf : mf_298_114 N rc  s = some (s', v)) (k : Q v (mH h s')) : zz_E zp_P zt_tf zt_fd X (d + 2) zm_298 114 [(0, .ref 61)] [] (mH h s) Q := by
  unfold mf_298_114 at hf
  exact mb_298_114 hh  (hrc0 hf k)
def mf_298_111 (N : Nat) (rc : Nat → mS → mO) (x2 : Int32) (x3 : Int32) (x4 : Int32) (y0 : Int32) (y1 : Int32) (s : mS) : mO := if ¬ y0 = y1 then mf_298_127 N rc x2 x3 x4 s else mf_298_114 N rc  s
theorem mr_298_111 {X : Nat → Option zz_C} {h : zz_H} (hh : 111 ≤ h.length) {d : Nat} {N : Nat} {rc : Nat → mS → mO} (hrc0 : ∀ {Q : Option Value → zz_H → Prop}  {s s' : mS} {v : Option Value}, rc 0  s = some (s', v) → Q v (mH h s') → zz_E zp_P zt_tf zt_fd X (d + 2) zm_298 49 [(0, .ref 61)] [] (mH h s) Q) {Q : Option Value → zz_H → Prop} {x2 : Int32} {x3 : Int32} {x4 : Int32} {y0 : Int32} {y1 : Int32} {s s' : mS} {v : Option Value} (hf : mf_298_111 N rc x2 x3 x4 y0 y1 s = some (s', v)) (k : Q v (mH h s')) : zz_E zp_P zt_tf zt_fd X (d + 2) zm_298 111 [(0, .ref 61), (2, .int x2), (3, .int x3), (4, .int x4)] [.int y1, .int y0] (mH h s) Q := by
  unfold mf_298_111 at hf
  refine mb_298_111 hh  (fun c => ?_) (fun c => ?_)
  · rw [if_pos c] at hf
    exact mr_298_127 hh hrc0 hf k
  · rw [if_neg c] at hf
    exact mr_298_114 hh hrc0 hf k
def mf_298_101 (N : Nat) (rc : Nat → mS → mO) (x2 : Int32) (x3 : Int32) (x4 : Int32) (y1 : Int32) (s : mS) : mO := mo_bi (mf_77 N x3 (mI s 56 y1)) (fun s1 y => mf_298_111 N rc x2 x3 x4 x4 y s1)
theorem mr_298_101 {X : Nat → Option zz_C} {h : zz_H} (hh : 111 ≤ h.length) {d : Nat} {N : Nat} {rc : Nat → mS → mO} (hrc0 : ∀ {Q : Option Value → zz_H → Prop}  {s s' : mS} {v : Option Value}, rc 0  s = some (s', v) → Q v (mH h s') → zz_E zp_P zt_tf zt_fd X (d + 2) zm_298 49 [(0, .ref 61)] [] (mH h s) Q) {Q : Option Value → zz_H → Prop} {x2 : Int32} {x3 : Int32} {x4 : Int32} {y1 : Int32} {s s' : mS} {v : Option Value} (hf : mf_298_101 N rc x2 x3 x4 y1 s = some (s', v)) (k : Q v (mH h s')) : zz_E zp_P zt_tf zt_fd X (d + 2) zm_298 101 [(0, .ref 61), (2, .int x2), (3, .int x3), (4, .int x4)] [.int y1, .ref 61] (mH h s) Q := by
  unfold mf_298_101 at hf
  obtain ⟨s1, y, e, hf⟩ := mo_bi_ok hf
  exact mb_298_101 (d := d + 1) hh  (mr_77 (d := d + 1) hh e (mr_298_111 hh hrc0 hf k))
def mf_298_90 (N : Nat) (rc : Nat → mS → mO) (x2 : Int32) (x3 : Int32) (x4 : Int32) (s : mS) : mO := mf_298_101 N rc x2 x3 x4 (s.1 55) s
theorem mr_298_90 {X : Nat → Option zz_C} {h : zz_H} (hh : 111 ≤ h.length) {d : Nat} {N : Nat} {rc : Nat → mS → mO} (hrc0 : ∀ {Q : Option Value → zz_H → Prop}  {s s' : mS} {v : Option Value}, rc 0  s = some (s', v) → Q v (mH h s') → zz_E zp_P zt_tf zt_fd X (d + 2) zm_298 49 [(0, .ref 61)] [] (mH h s) Q) {Q : Option Value → zz_H → Prop} {x2 : Int32} {x3 : Int32} {x4 : Int32} {s s' : mS} {v : Option Value} (hf : mf_298_90 N rc x2 x3 x4 s = some (s', v)) (k : Q v (mH h s')) : zz_E zp_P zt_tf zt_fd X (d + 2) zm_298 90 [(0, .ref 61), (2, .int x2), (3, .int x3), (4, .int x4)] [.ref 61] (mH h s) Q := by
  unfold mf_298_90 at hf
  exact mb_298_90 hh  (mr_298_101 hh hrc0 hf k)
def mf_298_97 (N : Nat) (rc : Nat → mS → mO) (x2 : Int32) (x3 : Int32) (x4 : Int32) (s : mS) : mO := mf_298_101 N rc x2 x3 x4 (s.1 56) s
theorem mr_298_97 {X : Nat → Option zz_C} {h : zz_H} (hh : 111 ≤ h.length) {d : Nat} {N : Nat} {rc : Nat → mS → mO} (hrc0 : ∀ {Q : Option Value → zz_H → Prop}  {s s' : mS} {v : Option Value}, rc 0  s = some (s', v) → Q v (mH h s') → zz_E zp_P zt_tf zt_fd X (d + 2) zm_298 49 [(0, .ref 61)] [] (mH h s) Q) {Q : Option Value → zz_H → Prop} {x2 : Int32} {x3 : Int32} {x4 : Int32} {s s' : mS} {v : Option Value} (hf : mf_298_97 N rc x2 x3 x4 s = some (s', v)) (k : Q v (mH h s')) : zz_E zp_P zt_tf zt_fd X (d + 2) zm_298 97 [(0, .ref 61), (2, .int x2), (3, .int x3), (4, .int x4)] [.ref 61] (mH h s) Q := by
  unfold mf_298_97 at hf
  exact mb_298_97 hh  (mr_298_101 hh hrc0 hf k)
def mf_298_56 (N : Nat) (rc : Nat → mS → mO)  (s : mS) : mO := if ¬ (((s.1 55) - 1) < 0 ∨ 8 ≤ Int32.toNatClampNeg ((s.1 55) - 1)) then (if ¬ (((s.1 55) - 1) < 0 ∨ 8 ≤ Int32.toNatClampNeg ((s.1 55) - 1)) then (if (s.1 55) ≤ (s.1 56) then mf_298_97 N rc ((s.1 55) - 1) ((s.2.2.1 52) (Int32.toNatClampNeg ((s.1 55) - 1))) ((s.2.2.1 54) (Int32.toNatClampNeg ((s.1 55) - 1))) s else mf_298_90 N rc ((s.1 55) - 1) ((s.2.2.1 52) (Int32.toNatClampNeg ((s.1 55) - 1))) ((s.2.2.1 54) (Int32.toNatClampNeg ((s.1 55) - 1))) s) else none) else none
theorem mr_298_56 {X : Nat → Option zz_C} {h : zz_H} (hh : 111 ≤ h.length) {d : Nat} {N : Nat} {rc : Nat → mS → mO} (hrc0 : ∀ {Q : Option Value → zz_H → Prop}  {s s' : mS} {v : Option Value}, rc 0  s = some (s', v) → Q v (mH h s') → zz_E zp_P zt_tf zt_fd X (d + 2) zm_298 49 [(0, .ref 61)] [] (mH h s) Q) {Q : Option Value → zz_H → Prop}  {s s' : mS} {v : Option Value} (hf : mf_298_56 N rc  s = some (s', v)) (k : Q v (mH h s')) : zz_E zp_P zt_tf zt_fd X (d + 2) zm_298 56 [(0, .ref 61)] [] (mH h s) Q := by
  unfold mf_298_56 at hf
  obtain ⟨q0, hf⟩ := mo_if hf
  obtain ⟨q1, hf⟩ := mo_if hf
  refine mb_298_56 hh q0 q1 (fun c => ?_) (fun c => ?_)
  · rw [if_pos c] at hf
    exact mr_298_97 hh hrc0 hf k
  · rw [if_neg c] at hf
    exact mr_298_90 hh hrc0 hf k
def mf_298_49 (N : Nat) (rc : Nat → mS → mO)  (s : mS) : mO := if (s.1 55) ≤ 0 then mf_298_224 N  s else mf_298_56 N rc  s
theorem mr_298_49 {X : Nat → Option zz_C} {h : zz_H} (hh : 111 ≤ h.length) {d : Nat} {N : Nat} {rc : Nat → mS → mO} (hrc0 : ∀ {Q : Option Value → zz_H → Prop}  {s s' : mS} {v : Option Value}, rc 0  s = some (s', v) → Q v (mH h s') → zz_E zp_P zt_tf zt_fd X (d + 2) zm_298 49 [(0, .ref 61)] [] (mH h s) Q) {Q : Option Value → zz_H → Prop}  {s s' : mS} {v : Option Value} (hf : mf_298_49 N rc  s = some (s', v)) (k : Q v (mH h s')) : zz_E zp_P zt_tf zt_fd X (d + 2) zm_298 49 [(0, .ref 61)] [] (mH h s) Q := by
  unfold mf_298_49 at hf
  refine mb_298_49 hh  (fun c => ?_) (fun c => ?_)
  · rw [if_pos c] at hf
    exact mr_298_224 hh hf k
  · rw [if_neg c] at hf
    exact mr_298_56 hh hrc0 hf k
def mf_298_L1 (N : Nat) : Nat → Nat → mS → mO
  | 0, _, _ => none
  | n + 1, l, s => if l = 0 then mf_298_49 N (mf_298_L1 N n)  s else none
theorem mr_298_L1 {X : Nat → Option zz_C} {h : zz_H} (hh : 111 ≤ h.length) {d : Nat} {N : Nat} : ∀ n : Nat, (∀ {Q : Option Value → zz_H → Prop}  {s s' : mS} {v : Option Value}, mf_298_L1 N n 0  s = some (s', v) → Q v (mH h s') → zz_E zp_P zt_tf zt_fd X (d + 2) zm_298 49 [(0, .ref 61)] [] (mH h s) Q) := by
  intro n
  induction n with
  | zero => exact (fun hf _ => by cases hf)
  | succ n ih =>
    have h0 := @ih
    intro Q  s s' v hf k
    unfold mf_298_L1 at hf
    rw [if_pos rfl] at hf
    exact mr_298_49 hh h0 hf k
def mf_298_43 (N : Nat) (x1 : Int32) (s : mS) : mO := mo_bv (mf_296 N x1 0 s) (fun s1 => mf_298_L1 N N 0  s1)
theorem mr_298_43 {X : Nat → Option zz_C} {h : zz_H} (hh : 111 ≤ h.length) {d : Nat} {N : Nat} {Q : Option Value → zz_H → Prop} {x1 : Int32} {s s' : mS} {v : Option Value} (hf : mf_298_43 N x1 s = some (s', v)) (k : Q v (mH h s')) : zz_E zp_P zt_tf zt_fd X (d + 2) zm_298 43 [(0, .ref 61), (1, .int x1)] [] (mH h s) Q := by
  unfold mf_298_43 at hf
  obtain ⟨s1, e, hf⟩ := mo_bv_ok hf
  exact mb_298_43 (d := d + 1) hh  (mr_296 (d := d + 1) hh e (mr_298_L1 hh N hf k))
def mf_298_25 (N : Nat) (x1 : Int32) (y1 : Int32) (s : mS) : mO := if ¬ (x1 < 0 ∨ 166300 ≤ Int32.toNatClampNeg x1) then (if ¬ ((s.2.2.1 47) (Int32.toNatClampNeg x1)) = 3 then mf_298_L1 N N 0  (mI (mI s 57 y1) 55 0) else mf_298_43 N x1 (mI (mI s 57 y1) 55 0)) else none
theorem mr_298_25 {X : Nat → Option zz_C} {h : zz_H} (hh : 111 ≤ h.length) {d : Nat} {N : Nat} {Q : Option Value → zz_H → Prop} {x1 : Int32} {y1 : Int32} {s s' : mS} {v : Option Value} (hf : mf_298_25 N x1 y1 s = some (s', v)) (k : Q v (mH h s')) : zz_E zp_P zt_tf zt_fd X (d + 2) zm_298 25 [(0, .ref 61), (1, .int x1)] [.int y1, .ref 61] (mH h s) Q := by
  unfold mf_298_25 at hf
  obtain ⟨q0, hf⟩ := mo_if hf
  refine mb_298_25 hh q0 (fun c => ?_) (fun c => ?_)
  · rw [if_pos c] at hf
    exact mr_298_L1 hh N hf k
  · rw [if_neg c] at hf
    exact mr_298_43 hh hf k
def mf_298_20 (N : Nat) (x1 : Int32) (s : mS) : mO := mo_bi (mf_297 N x1 s) (fun s1 y => mf_298_25 N x1 y s1)
theorem mr_298_20 {X : Nat → Option zz_C} {h : zz_H} (hh : 111 ≤ h.length) {d : Nat} {N : Nat} {Q : Option Value → zz_H → Prop} {x1 : Int32} {s s' : mS} {v : Option Value} (hf : mf_298_20 N x1 s = some (s', v)) (k : Q v (mH h s')) : zz_E zp_P zt_tf zt_fd X (d + 2) zm_298 20 [(0, .ref 61), (1, .int x1)] [.ref 61] (mH h s) Q := by
  unfold mf_298_20 at hf
  obtain ⟨s1, y, e, hf⟩ := mo_bi_ok hf
  exact mb_298_20 (d := d + 1) hh  (mr_297 (d := d + 0) hh e (mr_298_25 hh hf k))
def mf_298_16 (N : Nat) (x1 : Int32) (s : mS) : mO := mf_298_25 N x1 1 s
theorem mr_298_16 {X : Nat → Option zz_C} {h : zz_H} (hh : 111 ≤ h.length) {d : Nat} {N : Nat} {Q : Option Value → zz_H → Prop} {x1 : Int32} {s s' : mS} {v : Option Value} (hf : mf_298_16 N x1 s = some (s', v)) (k : Q v (mH h s')) : zz_E zp_P zt_tf zt_fd X (d + 2) zm_298 16 [(0, .ref 61), (1, .int x1)] [.ref 61] (mH h s) Q := by
  unfold mf_298_16 at hf
  exact mb_298_16 hh  (mr_298_25 hh hf k)
def mf_298_0 (N : Nat) (x1 : Int32) (s : mS) : mO := if ¬ (x1 < 0 ∨ 166300 ≤ Int32.toNatClampNeg x1) then (if ¬ ((s.2.2.1 47) (Int32.toNatClampNeg x1)) = 3 then mf_298_20 N x1 (mI s 56 0) else mf_298_16 N x1 (mI s 56 0)) else none
theorem mr_298_0 {X : Nat → Option zz_C} {h : zz_H} (hh : 111 ≤ h.length) {d : Nat} {N : Nat} {Q : Option Value → zz_H → Prop} {x1 : Int32} {s s' : mS} {v : Option Value} (hf : mf_298_0 N x1 s = some (s', v)) (k : Q v (mH h s')) : zz_E zp_P zt_tf zt_fd X (d + 2) zm_298 0 [(0, .ref 61), (1, .int x1)] [] (mH h s) Q := by
  unfold mf_298_0 at hf
  obtain ⟨q0, hf⟩ := mo_if hf
  refine mb_298_0 hh q0 (fun c => ?_) (fun c => ?_)
  · rw [if_pos c] at hf
    exact mr_298_20 hh hf k
  · rw [if_neg c] at hf
    exact mr_298_16 hh hf k
/-- measure -/
def mf_298 (N : Nat) (x1 : Int32) (s : mS) : mO := mf_298_0 N x1 s
theorem mr_298 {X : Nat → Option zz_C} {h : zz_H} (hh : 111 ≤ h.length) {d : Nat} {N : Nat} {Q : Option Value → zz_H → Prop} {x1 : Int32} {s s' : mS} {v : Option Value} (hf : mf_298 N x1 s = some (s', v)) (k : Q v (mH h s')) : zz_E zp_P zt_tf zt_fd X (d + 2) zm_298 0 [(0, .ref 61), (1, .int x1)] [] (mH h s) Q := by
  unfold mf_298 at hf
  exact zz_E.weak (mr_298_0 hh hf k) rfl ⟨rfl, rfl, trivial⟩
/-! counts (I)I -/
theorem mb_299_0 {X : Nat → Option zz_C} {h : zz_H} (hh : 111 ≤ h.length) {s : mS} {d : Nat} {Q : Option Value → zz_H → Prop} {x1 : Int32} (i5 : ¬ (x1 < 0 ∨ 166300 ≤ Int32.toNatClampNeg x1)) (k1 : ¬ ((s.2.2.1 47) (Int32.toNatClampNeg x1)) = 1 → zz_E zp_P zt_tf zt_fd X d zm_299 18 [(0, .ref 61), (1, .int x1)] [] (mH h s) Q) (k2 : ¬ ¬ ((s.2.2.1 47) (Int32.toNatClampNeg x1)) = 1 → zz_E zp_P zt_tf zt_fd X d zm_299 10 [(0, .ref 61), (1, .int x1)] [] (mH h s) Q) : zz_E zp_P zt_tf zt_fd X d zm_299 0 [(0, .ref 61), (1, .int x1)] [] (mH h s) Q := by
  refine zz_E.n 1 rfl rfl rfl ?_
  refine mE_g hh 4 (v := .ref 89) rfl rfl rfl ?_
  refine zz_E.n 5 rfl rfl rfl ?_
  refine mE_ia hh 6 28 (f := (s.2.2.1 47)) rfl (by decide) rfl rfl i5 rfl ?_
  refine zz_E.c 7 (.int 1) rfl rfl rfl rfl ?_
  refine zz_E.b2 18 10 (A := ¬ ((s.2.2.1 47) (Int32.toNatClampNeg x1)) = 1) rfl (zz_cond_ne _ _) (by decide) rfl rfl (fun c => ?_) (fun c => ?_)
  · exact zz_E.weak (k1 c) rfl ⟨rfl, rfl, trivial⟩
  · exact zz_E.weak (k2 c) rfl ⟨rfl, rfl, trivial⟩
theorem mb_299_10 {X : Nat → Option zz_C} {h : zz_H} (hh : 111 ≤ h.length) {s : mS} {d : Nat} {Q : Option Value → zz_H → Prop} {x1 : Int32} (k : zz_E zp_P zt_tf zt_fd X d zm_77 0 [(0, .ref 61), (1, .int x1)] [] (mH h s) (fun v h' => zz_E zp_P zt_tf zt_fd X (d + 1) zm_299 16 [] (v.toList ++ [.int 4]) h' Q)) : zz_E zp_P zt_tf zt_fd X (d + 1) zm_299 10 [(0, .ref 61), (1, .int x1)] [] (mH h s) Q := by
  refine zz_E.c 11 (.int 4) rfl rfl rfl rfl ?_
  refine zz_E.n 12 rfl rfl rfl ?_
  refine zz_E.n 13 rfl rfl rfl ?_
  refine mE_cv hh 16 (as := [.int 4]) rfl rfl (Nat.le_of_ble_eq_true rfl) (Nat.le_of_ble_eq_true rfl) rfl (Nat.le_of_ble_eq_true rfl) rfl ?_
  refine zz_E.mono k ?_
  intro v h' hE
  exact zz_E.weak hE rfl trivial
theorem mb_299_16 {X : Nat → Option zz_C} {h : zz_H} (hh : 111 ≤ h.length) {s : mS} {d : Nat} {Q : Option Value → zz_H → Prop} {y0 : Int32} {y1 : Int32} (k : Q (some (.int (y0 + y1))) (mH h s)) : zz_E zp_P zt_tf zt_fd X d zm_299 16 [] [.int y1, .int y0] (mH h s) Q := by
  refine zz_E.n 17 rfl rfl rfl ?_
  refine zz_E.ret rfl rfl rfl ?_
  exact k
theorem mb_299_18 {X : Nat → Option zz_C} {h : zz_H} (hh : 111 ≤ h.length) {s : mS} {d : Nat} {Q : Option Value → zz_H → Prop} {x1 : Int32} (i23 : ¬ (x1 < 0 ∨ 166300 ≤ Int32.toNatClampNeg x1)) (k1 : ¬ ((s.2.2.1 47) (Int32.toNatClampNeg x1)) = 3 → zz_E zp_P zt_tf zt_fd X d zm_299 38 [(0, .ref 61), (1, .int x1)] [] (mH h s) Q) (k2 : ¬ ¬ ((s.2.2.1 47) (Int32.toNatClampNeg x1)) = 3 → zz_E zp_P zt_tf zt_fd X d zm_299 28 [(0, .ref 61), (1, .int x1)] [] (mH h s) Q) : zz_E zp_P zt_tf zt_fd X d zm_299 18 [(0, .ref 61), (1, .int x1)] [] (mH h s) Q := by
  refine zz_E.n 19 rfl rfl rfl ?_
  refine mE_g hh 22 (v := .ref 89) rfl rfl rfl ?_
  refine zz_E.n 23 rfl rfl rfl ?_
  refine mE_ia hh 24 28 (f := (s.2.2.1 47)) rfl (by decide) rfl rfl i23 rfl ?_
  refine zz_E.c 25 (.int 3) rfl rfl rfl rfl ?_
  refine zz_E.b2 38 28 (A := ¬ ((s.2.2.1 47) (Int32.toNatClampNeg x1)) = 3) rfl (zz_cond_ne _ _) (by decide) rfl rfl (fun c => ?_) (fun c => ?_)
  · exact zz_E.weak (k1 c) rfl ⟨rfl, rfl, trivial⟩
  · exact zz_E.weak (k2 c) rfl ⟨rfl, rfl, trivial⟩
theorem mb_299_28 {X : Nat → Option zz_C} {h : zz_H} (hh : 111 ≤ h.length) {s : mS} {d : Nat} {Q : Option Value → zz_H → Prop} {x1 : Int32} (k : zz_E zp_P zt_tf zt_fd X d zm_77 0 [(0, .ref 61), (1, .int x1)] [] (mH h s) (fun v h' => zz_E zp_P zt_tf zt_fd X (d + 1) zm_299 35 [] (v.toList ++ [.int 2, .int 4]) h' Q)) : zz_E zp_P zt_tf zt_fd X (d + 1) zm_299 28 [(0, .ref 61), (1, .int x1)] [] (mH h s) Q := by
  refine zz_E.c 29 (.int 4) rfl rfl rfl rfl ?_
  refine zz_E.c 30 (.int 2) rfl rfl rfl rfl ?_
  refine zz_E.n 31 rfl rfl rfl ?_
  refine zz_E.n 32 rfl rfl rfl ?_
  refine mE_cv hh 35 (as := [.int 2, .int 4]) rfl rfl (Nat.le_of_ble_eq_true rfl) (Nat.le_of_ble_eq_true rfl) rfl (Nat.le_of_ble_eq_true rfl) rfl ?_
  refine zz_E.mono k ?_
  intro v h' hE
  exact zz_E.weak hE rfl trivial
theorem mb_299_35 {X : Nat → Option zz_C} {h : zz_H} (hh : 111 ≤ h.length) {s : mS} {d : Nat} {Q : Option Value → zz_H → Prop} {y0 : Int32} {y1 : Int32} {y2 : Int32} (k : Q (some (.int (y0 + (y1 * y2)))) (mH h s)) : zz_E zp_P zt_tf zt_fd X d zm_299 35 [] [.int y2, .int y1, .int y0] (mH h s) Q := by
  refine zz_E.n 36 rfl rfl rfl ?_
  refine zz_E.n 37 rfl rfl rfl ?_
  refine zz_E.ret rfl rfl rfl ?_
  exact k
theorem mb_299_38 {X : Nat → Option zz_C} {h : zz_H} (hh : 111 ≤ h.length) {s : mS} {d : Nat} {Q : Option Value → zz_H → Prop} {x1 : Int32} (k : zz_E zp_P zt_tf zt_fd X d zm_299 42 [(0, .ref 61), (1, .int x1), (2, .int 4), (3, .int 0)] [] (mH h s) Q) : zz_E zp_P zt_tf zt_fd X d zm_299 38 [(0, .ref 61), (1, .int x1)] [] (mH h s) Q := by
  refine zz_E.c 39 (.int 4) rfl rfl rfl rfl ?_
  refine zz_E.n 40 rfl rfl rfl ?_
  refine zz_E.c 41 (.int 0) rfl rfl rfl rfl ?_
  refine zz_E.n 42 rfl rfl rfl ?_
  exact zz_E.weak k rfl ⟨rfl, rfl, rfl, rfl, trivial⟩
theorem mb_299_42 {X : Nat → Option zz_C} {h : zz_H} (hh : 111 ≤ h.length) {s : mS} {d : Nat} {Q : Option Value → zz_H → Prop} {x1 : Int32} {x2 : Int32} {x3 : Int32} (k : zz_E zp_P zt_tf zt_fd X d zm_77 0 [(0, .ref 61), (1, .int x1)] [] (mH h s) (fun v h' => zz_E zp_P zt_tf zt_fd X (d + 1) zm_299 48 [(0, .ref 61), (1, .int x1), (2, .int x2), (3, .int x3)] (v.toList ++ [.int x3]) h' Q)) : zz_E zp_P zt_tf zt_fd X (d + 1) zm_299 42 [(0, .ref 61), (1, .int x1), (2, .int x2), (3, .int x3)] [] (mH h s) Q := by
  refine zz_E.n 43 rfl rfl rfl ?_
  refine zz_E.n 44 rfl rfl rfl ?_
  refine zz_E.n 45 rfl rfl rfl ?_
  refine mE_cv hh 48 (as := [.int x3]) rfl rfl (Nat.le_of_ble_eq_true rfl) (Nat.le_of_ble_eq_true rfl) rfl (Nat.le_of_ble_eq_true rfl) rfl ?_
  refine zz_E.mono k ?_
  intro v h' hE
  exact zz_E.weak hE rfl ⟨rfl, rfl, rfl, rfl, trivial⟩
theorem mb_299_48 {X : Nat → Option zz_C} {h : zz_H} (hh : 111 ≤ h.length) {s : mS} {d : Nat} {Q : Option Value → zz_H → Prop} {x1 : Int32} {x2 : Int32} {x3 : Int32} {y0 : Int32} {y1 : Int32} (k1 : y1 ≤ y0 → zz_E zp_P zt_tf zt_fd X d zm_299 72 [(2, .int x2)] [] (mH h s) Q) (k2 : ¬ y1 ≤ y0 → zz_E zp_P zt_tf zt_fd X d zm_299 51 [(0, .ref 61), (1, .int x1), (2, .int x2), (3, .int x3)] [] (mH h s) Q) : zz_E zp_P zt_tf zt_fd X d zm_299 48 [(0, .ref 61), (1, .int x1), (2, .int x2), (3, .int x3)] [.int y1, .int y0] (mH h s) Q := by
  refine zz_E.b2 72 51 (A := y1 ≤ y0) rfl rfl (by decide) rfl rfl (fun c => ?_) (fun c => ?_)
  · exact zz_E.weak (k1 c) rfl ⟨rfl, trivial⟩
  · exact zz_E.weak (k2 c) rfl ⟨rfl, rfl, rfl, rfl, trivial⟩
theorem mb_299_51 {X : Nat → Option zz_C} {h : zz_H} (hh : 111 ≤ h.length) {s : mS} {d : Nat} {Q : Option Value → zz_H → Prop} {x1 : Int32} {x2 : Int32} {x3 : Int32} (k : zz_E zp_P zt_tf zt_fd X d zm_294 0 [(0, .ref 61), (1, .int x1), (2, .int x3)] [] (mH h s) (fun v h' => zz_E zp_P zt_tf zt_fd X (d + 1) zm_299 60 [(0, .ref 61), (1, .int x1), (3, .int x3)] (v.toList ++ [.ref 61, .int 4, .int x2]) h' Q)) : zz_E zp_P zt_tf zt_fd X (d + 1) zm_299 51 [(0, .ref 61), (1, .int x1), (2, .int x2), (3, .int x3)] [] (mH h s) Q := by
  refine zz_E.n 52 rfl rfl rfl ?_
  refine zz_E.c 53 (.int 4) rfl rfl rfl rfl ?_
  refine zz_E.n 54 rfl rfl rfl ?_
  refine zz_E.n 55 rfl rfl rfl ?_
  refine zz_E.n 56 rfl rfl rfl ?_
  refine zz_E.n 57 rfl rfl rfl ?_
  refine mE_cv hh 60 (as := [.ref 61, .int 4, .int x2]) rfl rfl (Nat.le_of_ble_eq_true rfl) (Nat.le_of_ble_eq_true rfl) rfl (Nat.le_of_ble_eq_true rfl) rfl ?_
  refine zz_E.mono k ?_
  intro v h' hE
  exact zz_E.weak hE rfl ⟨rfl, rfl, rfl, trivial⟩
theorem mb_299_60 {X : Nat → Option zz_C} {h : zz_H} (hh : 111 ≤ h.length) {s : mS} {d : Nat} {Q : Option Value → zz_H → Prop} {x1 : Int32} {x3 : Int32} {y0 : Int32} {y1 : Int32} {y3 : Int32} (k : zz_E zp_P zt_tf zt_fd X d zm_77 0 [(0, .ref 61), (1, .int y3)] [] (mH h s) (fun v h' => zz_E zp_P zt_tf zt_fd X (d + 1) zm_299 63 [(0, .ref 61), (1, .int x1), (3, .int x3)] (v.toList ++ [.int y1, .int y0]) h' Q)) : zz_E zp_P zt_tf zt_fd X (d + 1) zm_299 60 [(0, .ref 61), (1, .int x1), (3, .int x3)] [.int y3, .ref 61, .int y1, .int y0] (mH h s) Q := by
  refine mE_cv hh 63 (as := [.int y1, .int y0]) rfl rfl (Nat.le_of_ble_eq_true rfl) (Nat.le_of_ble_eq_true rfl) rfl (Nat.le_of_ble_eq_true rfl) rfl ?_
  refine zz_E.mono k ?_
  intro v h' hE
  exact zz_E.weak hE rfl ⟨rfl, rfl, rfl, trivial⟩
theorem mb_299_63 {X : Nat → Option zz_C} {h : zz_H} (hh : 111 ≤ h.length) {s : mS} {d : Nat} {Q : Option Value → zz_H → Prop} {x1 : Int32} {x3 : Int32} {y0 : Int32} {y1 : Int32} {y2 : Int32} (k : zz_E zp_P zt_tf zt_fd X d zm_299 42 [(0, .ref 61), (1, .int x1), (2, .int (y0 + (y1 + y2))), (3, .int (x3 + 1))] [] (mH h s) Q) : zz_E zp_P zt_tf zt_fd X d zm_299 63 [(0, .ref 61), (1, .int x1), (3, .int x3)] [.int y2, .int y1, .int y0] (mH h s) Q := by
  refine zz_E.n 64 rfl rfl rfl ?_
  refine zz_E.n 65 rfl rfl rfl ?_
  refine zz_E.n 66 rfl rfl rfl ?_
  refine zz_E.n 69 rfl rfl rfl ?_
  refine zz_E.n 42 rfl rfl rfl ?_
  exact zz_E.weak k rfl ⟨rfl, rfl, rfl, rfl, trivial⟩
theorem mb_299_72 {X : Nat → Option zz_C} {h : zz_H} (hh : 111 ≤ h.length) {s : mS} {d : Nat} {Q : Option Value → zz_H → Prop} {x2 : Int32} (k : Q (some (.int x2)) (mH h s)) : zz_E zp_P zt_tf zt_fd X d zm_299 72 [(2, .int x2)] [] (mH h s) Q := by
  refine zz_E.n 73 rfl rfl rfl ?_
  refine zz_E.ret rfl rfl rfl ?_
  exact k
def mf_299_72 (N : Nat) (x2 : Int32) (s : mS) : mO := some (s, (some (.int x2)))
theorem mr_299_72 {X : Nat → Option zz_C} {h : zz_H} (hh : 111 ≤ h.length) {d : Nat} {N : Nat} {Q : Option Value → zz_H → Prop} {x2 : Int32} {s s' : mS} {v : Option Value} (hf : mf_299_72 N x2 s = some (s', v)) (k : Q v (mH h s')) : zz_E zp_P zt_tf zt_fd X (d + 1) zm_299 72 [(2, .int x2)] [] (mH h s) Q := by
  unfold mf_299_72 at hf
  cases hf
  exact mb_299_72 hh  k
def mf_299_63 (N : Nat) (rc : Nat → Int32 → Int32 → Int32 → mS → mO) (x1 : Int32) (x3 : Int32) (y0 : Int32) (y1 : Int32) (y2 : Int32) (s : mS) : mO := rc 0 x1 (y0 + (y1 + y2)) (x3 + 1) s
theorem mr_299_63 {X : Nat → Option zz_C} {h : zz_H} (hh : 111 ≤ h.length) {d : Nat} {N : Nat} {rc : Nat → Int32 → Int32 → Int32 → mS → mO} (hrc0 : ∀ {Q : Option Value → zz_H → Prop} {x1 : Int32} {x2 : Int32} {x3 : Int32} {s s' : mS} {v : Option Value}, rc 0 x1 x2 x3 s = some (s', v) → Q v (mH h s') → zz_E zp_P zt_tf zt_fd X (d + 1) zm_299 42 [(0, .ref 61), (1, .int x1), (2, .int x2), (3, .int x3)] [] (mH h s) Q) {Q : Option Value → zz_H → Prop} {x1 : Int32} {x3 : Int32} {y0 : Int32} {y1 : Int32} {y2 : Int32} {s s' : mS} {v : Option Value} (hf : mf_299_63 N rc x1 x3 y0 y1 y2 s = some (s', v)) (k : Q v (mH h s')) : zz_E zp_P zt_tf zt_fd X (d + 1) zm_299 63 [(0, .ref 61), (1, .int x1), (3, .int x3)] [.int y2, .int y1, .int y0] (mH h s) Q := by
  unfold mf_299_63 at hf
  exact mb_299_63 hh  (hrc0 hf k)
def mf_299_60 (N : Nat) (rc : Nat → Int32 → Int32 → Int32 → mS → mO) (x1 : Int32) (x3 : Int32) (y0 : Int32) (y1 : Int32) (y3 : Int32) (s : mS) : mO := mo_bi (mf_77 N y3 s) (fun s1 y => mf_299_63 N rc x1 x3 y0 y1 y s1)
theorem mr_299_60 {X : Nat → Option zz_C} {h : zz_H} (hh : 111 ≤ h.length) {d : Nat} {N : Nat} {rc : Nat → Int32 → Int32 → Int32 → mS → mO} (hrc0 : ∀ {Q : Option Value → zz_H → Prop} {x1 : Int32} {x2 : Int32} {x3 : Int32} {s s' : mS} {v : Option Value}, rc 0 x1 x2 x3 s = some (s', v) → Q v (mH h s') → zz_E zp_P zt_tf zt_fd X (d + 1) zm_299 42 [(0, .ref 61), (1, .int x1), (2, .int x2), (3, .int x3)] [] (mH h s) Q) {Q : Option Value → zz_H → Prop} {x1 : Int32} {x3 : Int32} {y0 : Int32} {y1 : Int32} {y3 : Int32} {s s' : mS} {v : Option Value} (hf : mf_299_60 N rc x1 x3 y0 y1 y3 s = some (s', v)) (k : Q v (mH h s')) : zz_E zp_P zt_tf zt_fd X (d + 1) zm_299 60 [(0, .ref 61), (1, .int x1), (3, .int x3)] [.int y3, .ref 61, .int y1, .int y0] (mH h s) Q := by
  unfold mf_299_60 at hf
  obtain ⟨s1, y, e, hf⟩ := mo_bi_ok hf
  exact mb_299_60 (d := d + 0) hh  (mr_77 (d := d + 0) hh e (mr_299_63 hh hrc0 hf k))
def mf_299_51 (N : Nat) (rc : Nat → Int32 → Int32 → Int32 → mS → mO) (x1 : Int32) (x2 : Int32) (x3 : Int32) (s : mS) : mO := mo_bi (mf_294 N x1 x3 s) (fun s1 y => mf_299_60 N rc x1 x3 x2 4 y s1)
theorem mr_299_51 {X : Nat → Option zz_C} {h : zz_H} (hh : 111 ≤ h.length) {d : Nat} {N : Nat} {rc : Nat → Int32 → Int32 → Int32 → mS → mO} (hrc0 : ∀ {Q : Option Value → zz_H → Prop} {x1 : Int32} {x2 : Int32} {x3 : Int32} {s s' : mS} {v : Option Value}, rc 0 x1 x2 x3 s = some (s', v) → Q v (mH h s') → zz_E zp_P zt_tf zt_fd X (d + 1) zm_299 42 [(0, .ref 61), (1, .int x1), (2, .int x2), (3, .int x3)] [] (mH h s) Q) {Q : Option Value → zz_H → Prop} {x1 : Int32} {x2 : Int32} {x3 : Int32} {s s' : mS} {v : Option Value} (hf : mf_299_51 N rc x1 x2 x3 s = some (s', v)) (k : Q v (mH h s')) : zz_E zp_P zt_tf zt_fd X (d + 1) zm_299 51 [(0, .ref 61), (1, .int x1), (2, .int x2), (3, .int x3)] [] (mH h s) Q := by
  unfold mf_299_51 at hf
  obtain ⟨s1, y, e, hf⟩ := mo_bi_ok hf
  exact mb_299_51 (d := d + 0) hh  (mr_294 (d := d + 0) hh e (mr_299_60 hh hrc0 hf k))
def mf_299_48 (N : Nat) (rc : Nat → Int32 → Int32 → Int32 → mS → mO) (x1 : Int32) (x2 : Int32) (x3 : Int32) (y0 : Int32) (y1 : Int32) (s : mS) : mO := if y1 ≤ y0 then mf_299_72 N x2 s else mf_299_51 N rc x1 x2 x3 s
theorem mr_299_48 {X : Nat → Option zz_C} {h : zz_H} (hh : 111 ≤ h.length) {d : Nat} {N : Nat} {rc : Nat → Int32 → Int32 → Int32 → mS → mO} (hrc0 : ∀ {Q : Option Value → zz_H → Prop} {x1 : Int32} {x2 : Int32} {x3 : Int32} {s s' : mS} {v : Option Value}, rc 0 x1 x2 x3 s = some (s', v) → Q v (mH h s') → zz_E zp_P zt_tf zt_fd X (d + 1) zm_299 42 [(0, .ref 61), (1, .int x1), (2, .int x2), (3, .int x3)] [] (mH h s) Q) {Q : Option Value → zz_H → Prop} {x1 : Int32} {x2 : Int32} {x3 : Int32} {y0 : Int32} {y1 : Int32} {s s' : mS} {v : Option Value} (hf : mf_299_48 N rc x1 x2 x3 y0 y1 s = some (s', v)) (k : Q v (mH h s')) : zz_E zp_P zt_tf zt_fd X (d + 1) zm_299 48 [(0, .ref 61), (1, .int x1), (2, .int x2), (3, .int x3)] [.int y1, .int y0] (mH h s) Q := by
  unfold mf_299_48 at hf
  refine mb_299_48 hh  (fun c => ?_) (fun c => ?_)
  · rw [if_pos c] at hf
    exact mr_299_72 hh hf k
  · rw [if_neg c] at hf
    exact mr_299_51 hh hrc0 hf k
def mf_299_42 (N : Nat) (rc : Nat → Int32 → Int32 → Int32 → mS → mO) (x1 : Int32) (x2 : Int32) (x3 : Int32) (s : mS) : mO := mo_bi (mf_77 N x1 s) (fun s1 y => mf_299_48 N rc x1 x2 x3 x3 y s1)
theorem mr_299_42 {X : Nat → Option zz_C} {h : zz_H} (hh : 111 ≤ h.length) {d : Nat} {N : Nat} {rc : Nat → Int32 → Int32 → Int32 → mS → mO} (hrc0 : ∀ {Q : Option Value → zz_H → Prop} {x1 : Int32} {x2 : Int32} {x3 : Int32} {s s' : mS} {v : Option Value}, rc 0 x1 x2 x3 s = some (s', v) → Q v (mH h s') → zz_E zp_P zt_tf zt_fd X (d + 1) zm_299 42 [(0, .ref 61), (1, .int x1), (2, .int x2), (3, .int x3)] [] (mH h s) Q) {Q : Option Value → zz_H → Prop} {x1 : Int32} {x2 : Int32} {x3 : Int32} {s s' : mS} {v : Option Value} (hf : mf_299_42 N rc x1 x2 x3 s = some (s', v)) (k : Q v (mH h s')) : zz_E zp_P zt_tf zt_fd X (d + 1) zm_299 42 [(0, .ref 61), (1, .int x1), (2, .int x2), (3, .int x3)] [] (mH h s) Q := by
  unfold mf_299_42 at hf
  obtain ⟨s1, y, e, hf⟩ := mo_bi_ok hf
  exact mb_299_42 (d := d + 0) hh  (mr_77 (d := d + 0) hh e (mr_299_48 hh hrc0 hf k))
def mf_299_L1 (N : Nat) : Nat → Nat → Int32 → Int32 → Int32 → mS → mO
  | 0, _, _, _, _, _ => none
  | n + 1, l, x1, x2, x3, s => if l = 0 then mf_299_42 N (mf_299_L1 N n) x1 x2 x3 s else none
theorem mr_299_L1 {X : Nat → Option zz_C} {h : zz_H} (hh : 111 ≤ h.length) {d : Nat} {N : Nat} : ∀ n : Nat, (∀ {Q : Option Value → zz_H → Prop} {x1 : Int32} {x2 : Int32} {x3 : Int32} {s s' : mS} {v : Option Value}, mf_299_L1 N n 0 x1 x2 x3 s = some (s', v) → Q v (mH h s') → zz_E zp_P zt_tf zt_fd X (d + 1) zm_299 42 [(0, .ref 61), (1, .int x1), (2, .int x2), (3, .int x3)] [] (mH h s) Q) := by
  intro n
  induction n with
  | zero => exact (fun hf _ => by cases hf)
  | succ n ih =>
    have h0 := @ih
    intro Q _ _ _ s s' v hf k
    unfold mf_299_L1 at hf
    rw [if_pos rfl] at hf
    exact mr_299_42 hh h0 hf k
def mf_299_38 (N : Nat) (x1 : Int32) (s : mS) : mO := mf_299_L1 N N 0 x1 4 0 s
theorem mr_299_38 {X : Nat → Option zz_C} {h : zz_H} (hh : 111 ≤ h.length) {d : Nat} {N : Nat} {Q : Option Value → zz_H → Prop} {x1 : Int32} {s s' : mS} {v : Option Value} (hf : mf_299_38 N x1 s = some (s', v)) (k : Q v (mH h s')) : zz_E zp_P zt_tf zt_fd X (d + 1) zm_299 38 [(0, .ref 61), (1, .int x1)] [] (mH h s) Q := by
  unfold mf_299_38 at hf
  exact mb_299_38 hh  (mr_299_L1 hh N hf k)
def mf_299_35 (N : Nat) (y0 : Int32) (y1 : Int32) (y2 : Int32) (s : mS) : mO := some (s, (some (.int (y0 + (y1 * y2)))))
theorem mr_299_35 {X : Nat → Option zz_C} {h : zz_H} (hh : 111 ≤ h.length) {d : Nat} {N : Nat} {Q : Option Value → zz_H → Prop} {y0 : Int32} {y1 : Int32} {y2 : Int32} {s s' : mS} {v : Option Value} (hf : mf_299_35 N y0 y1 y2 s = some (s', v)) (k : Q v (mH h s')) : zz_E zp_P zt_tf zt_fd X (d + 1) zm_299 35 [] [.int y2, .int y1, .int y0] (mH h s) Q := by
  unfold mf_299_35 at hf
  cases hf
  exact mb_299_35 hh  k
def mf_299_28 (N : Nat) (x1 : Int32) (s : mS) : mO := mo_bi (mf_77 N x1 s) (fun s1 y => mf_299_35 N 4 2 y s1)
theorem mr_299_28 {X : Nat → Option zz_C} {h : zz_H} (hh : 111 ≤ h.length) {d : Nat} {N : Nat} {Q : Option Value → zz_H → Prop} {x1 : Int32} {s s' : mS} {v : Option Value} (hf : mf_299_28 N x1 s = some (s', v)) (k : Q v (mH h s')) : zz_E zp_P zt_tf zt_fd X (d + 1) zm_299 28 [(0, .ref 61), (1, .int x1)] [] (mH h s) Q := by
  unfold mf_299_28 at hf
  obtain ⟨s1, y, e, hf⟩ := mo_bi_ok hf
  exact mb_299_28 (d := d + 0) hh  (mr_77 (d := d + 0) hh e (mr_299_35 hh hf k))
def mf_299_18 (N : Nat) (x1 : Int32) (s : mS) : mO := if ¬ (x1 < 0 ∨ 166300 ≤ Int32.toNatClampNeg x1) then (if ¬ ((s.2.2.1 47) (Int32.toNatClampNeg x1)) = 3 then mf_299_38 N x1 s else mf_299_28 N x1 s) else none
theorem mr_299_18 {X : Nat → Option zz_C} {h : zz_H} (hh : 111 ≤ h.length) {d : Nat} {N : Nat} {Q : Option Value → zz_H → Prop} {x1 : Int32} {s s' : mS} {v : Option Value} (hf : mf_299_18 N x1 s = some (s', v)) (k : Q v (mH h s')) : zz_E zp_P zt_tf zt_fd X (d + 1) zm_299 18 [(0, .ref 61), (1, .int x1)] [] (mH h s) Q := by
  unfold mf_299_18 at hf
  obtain ⟨q0, hf⟩ := mo_if hf
  refine mb_299_18 hh q0 (fun c => ?_) (fun c => ?_)
  · rw [if_pos c] at hf
    exact mr_299_38 hh hf k
  · rw [if_neg c] at hf
    exact mr_299_28 hh hf k
def mf_299_16 (N : Nat) (y0 : Int32) (y1 : Int32) (s : mS) : mO := some (s, (some (.int (y0 + y1))))
theorem mr_299_16 {X : Nat → Option zz_C} {h : zz_H} (hh : 111 ≤ h.length) {d : Nat} {N : Nat} {Q : Option Value → zz_H → Prop} {y0 : Int32} {y1 : Int32} {s s' : mS} {v : Option Value} (hf : mf_299_16 N y0 y1 s = some (s', v)) (k : Q v (mH h s')) : zz_E zp_P zt_tf zt_fd X (d + 1) zm_299 16 [] [.int y1, .int y0] (mH h s) Q := by
  unfold mf_299_16 at hf
  cases hf
  exact mb_299_16 hh  k
def mf_299_10 (N : Nat) (x1 : Int32) (s : mS) : mO := mo_bi (mf_77 N x1 s) (fun s1 y => mf_299_16 N 4 y s1)
theorem mr_299_10 {X : Nat → Option zz_C} {h : zz_H} (hh : 111 ≤ h.length) {d : Nat} {N : Nat} {Q : Option Value → zz_H → Prop} {x1 : Int32} {s s' : mS} {v : Option Value} (hf : mf_299_10 N x1 s = some (s', v)) (k : Q v (mH h s')) : zz_E zp_P zt_tf zt_fd X (d + 1) zm_299 10 [(0, .ref 61), (1, .int x1)] [] (mH h s) Q := by
  unfold mf_299_10 at hf
  obtain ⟨s1, y, e, hf⟩ := mo_bi_ok hf
  exact mb_299_10 (d := d + 0) hh  (mr_77 (d := d + 0) hh e (mr_299_16 hh hf k))
def mf_299_0 (N : Nat) (x1 : Int32) (s : mS) : mO := if ¬ (x1 < 0 ∨ 166300 ≤ Int32.toNatClampNeg x1) then (if ¬ ((s.2.2.1 47) (Int32.toNatClampNeg x1)) = 1 then mf_299_18 N x1 s else mf_299_10 N x1 s) else none
theorem mr_299_0 {X : Nat → Option zz_C} {h : zz_H} (hh : 111 ≤ h.length) {d : Nat} {N : Nat} {Q : Option Value → zz_H → Prop} {x1 : Int32} {s s' : mS} {v : Option Value} (hf : mf_299_0 N x1 s = some (s', v)) (k : Q v (mH h s')) : zz_E zp_P zt_tf zt_fd X (d + 1) zm_299 0 [(0, .ref 61), (1, .int x1)] [] (mH h s) Q := by
  unfold mf_299_0 at hf
  obtain ⟨q0, hf⟩ := mo_if hf
  refine mb_299_0 hh q0 (fun c => ?_) (fun c => ?_)
  · rw [if_pos c] at hf
    exact mr_299_18 hh hf k
  · rw [if_neg c] at hf
    exact mr_299_10 hh hf k
/-- counts -/
def mf_299 (N : Nat) (x1 : Int32) (s : mS) : mO := mf_299_0 N x1 s
theorem mr_299 {X : Nat → Option zz_C} {h : zz_H} (hh : 111 ≤ h.length) {d : Nat} {N : Nat} {Q : Option Value → zz_H → Prop} {x1 : Int32} {s s' : mS} {v : Option Value} (hf : mf_299 N x1 s = some (s', v)) (k : Q v (mH h s')) : zz_E zp_P zt_tf zt_fd X (d + 1) zm_299 0 [(0, .ref 61), (1, .int x1)] [] (mH h s) Q := by
  unfold mf_299 at hf
  exact zz_E.weak (mr_299_0 hh hf k) rfl ⟨rfl, rfl, trivial⟩
/-! gives (I)V -/
theorem mb_303_0 {X : Nat → Option zz_C} {h : zz_H} (hh : 111 ≤ h.length) {s : mS} {d : Nat} {Q : Option Value → zz_H → Prop} {x1 : Int32} (k : zz_E zp_P zt_tf zt_fd X d zm_299 0 [(0, .ref 61), (1, .int x1)] [] (mH h s) (fun v h' => zz_E zp_P zt_tf zt_fd X (d + 1) zm_303 10 [(0, .ref 61), (1, .int x1)] (v.toList ++ [.int (s.1 62), .ref 61]) h' Q)) : zz_E zp_P zt_tf zt_fd X (d + 1) zm_303 0 [(0, .ref 61), (1, .int x1)] [] (mH h s) Q := by
  refine zz_E.n 1 rfl rfl rfl ?_
  refine zz_E.n 2 rfl rfl rfl ?_
  refine mE_g hh 5 (v := .int (s.1 62)) rfl rfl rfl ?_
  refine zz_E.n 6 rfl rfl rfl ?_
  refine zz_E.n 7 rfl rfl rfl ?_
  refine mE_cv hh 10 (as := [.int (s.1 62), .ref 61]) rfl rfl (Nat.le_of_ble_eq_true rfl) (Nat.le_of_ble_eq_true rfl) rfl (Nat.le_of_ble_eq_true rfl) rfl ?_
  refine zz_E.mono k ?_
  intro v h' hE
  exact zz_E.weak hE rfl ⟨rfl, rfl, trivial⟩
theorem mb_303_10 {X : Nat → Option zz_C} {h : zz_H} (hh : 111 ≤ h.length) {s : mS} {d : Nat} {Q : Option Value → zz_H → Prop} {x1 : Int32} {y1 : Int32} {y2 : Int32} (k1 : (y1 + y2) ≤ 3000 → zz_E zp_P zt_tf zt_fd X d zm_303 34 [(0, .ref 61), (1, .int x1)] [] (mH h (mI s 62 (y1 + y2))) Q) (k2 : ¬ (y1 + y2) ≤ 3000 → zz_E zp_P zt_tf zt_fd X d zm_303 24 [(0, .ref 61), (1, .int x1)] [] (mH h (mI s 62 (y1 + y2))) Q) : zz_E zp_P zt_tf zt_fd X d zm_303 10 [(0, .ref 61), (1, .int x1)] [.int y2, .int y1, .ref 61] (mH h s) Q := by
  refine zz_E.n 11 rfl rfl rfl ?_
  refine mE_p hh 14 rfl (by decide) rfl (mF_62 _ _) rfl ?_
  refine zz_E.n 15 rfl rfl rfl ?_
  refine mE_g hh 18 (v := .int (y1 + y2)) rfl rfl rfl ?_
  refine zz_E.c 21 (.int 3000) rfl rfl rfl rfl ?_
  refine zz_E.b2 34 24 (A := (y1 + y2) ≤ 3000) rfl rfl (by decide) rfl rfl (fun c => ?_) (fun c => ?_)
  · exact zz_E.weak (k1 c) rfl ⟨rfl, rfl, trivial⟩
  · exact zz_E.weak (k2 c) rfl ⟨rfl, rfl, trivial⟩
theorem mb_303_24 {X : Nat → Option zz_C} {h : zz_H} (hh : 111 ≤ h.length) {s : mS} {d : Nat} {Q : Option Value → zz_H → Prop} {x1 : Int32} (k : zz_E zp_P zt_tf zt_fd X d zm_301 0 [(0, .ref 61), (1, .int 11), (2, .int (s.1 70))] [] (mH h s) (fun v h' => zz_E zp_P zt_tf zt_fd X (d + 1) zm_303 34 [(0, .ref 61), (1, .int x1)] (v.toList ++ []) h' Q)) : zz_E zp_P zt_tf zt_fd X (d + 1) zm_303 24 [(0, .ref 61), (1, .int x1)] [] (mH h s) Q := by
  refine zz_E.n 25 rfl rfl rfl ?_
  refine zz_E.c 27 (.int 11) rfl rfl rfl rfl ?_
  refine zz_E.n 28 rfl rfl rfl ?_
  refine mE_g hh 31 (v := .int (s.1 70)) rfl rfl rfl ?_
  refine mE_cv hh 34 (as := []) rfl rfl (Nat.le_of_ble_eq_true rfl) (Nat.le_of_ble_eq_true rfl) rfl (Nat.le_of_ble_eq_true rfl) rfl ?_
  refine zz_E.mono k ?_
  intro v h' hE
  exact zz_E.weak hE rfl ⟨rfl, rfl, trivial⟩
theorem mb_303_34 {X : Nat → Option zz_C} {h : zz_H} (hh : 111 ≤ h.length) {s : mS} {d : Nat} {Q : Option Value → zz_H → Prop} {x1 : Int32} (k : zz_E zp_P zt_tf zt_fd X d zm_291 0 [(0, .ref 61), (1, .int 1), (2, .int x1)] [] (mH h s) (fun v h' => zz_E zp_P zt_tf zt_fd X (d + 1) zm_303 40 [] (v.toList ++ []) h' Q)) : zz_E zp_P zt_tf zt_fd X (d + 1) zm_303 34 [(0, .ref 61), (1, .int x1)] [] (mH h s) Q := by
  refine zz_E.n 35 rfl rfl rfl ?_
  refine zz_E.c 36 (.int 1) rfl rfl rfl rfl ?_
  refine zz_E.n 37 rfl rfl rfl ?_
  refine mE_cv hh 40 (as := []) rfl rfl (Nat.le_of_ble_eq_true rfl) (Nat.le_of_ble_eq_true rfl) rfl (Nat.le_of_ble_eq_true rfl) rfl ?_
  refine zz_E.mono k ?_
  intro v h' hE
  exact zz_E.weak hE rfl trivial
theorem mb_303_40 {X : Nat → Option zz_C} {h : zz_H} (hh : 111 ≤ h.length) {s : mS} {d : Nat} {Q : Option Value → zz_H → Prop}  (k : Q none (mH h s)) : zz_E zp_P zt_tf zt_fd X d zm_303 40 [] [] (mH h s) Q := by
  refine zz_E.ret rfl rfl rfl ?_
  exact k
def mf_303_40 (N : Nat)  (s : mS) : mO := some (s, none)
theorem mr_303_40 {X : Nat → Option zz_C} {h : zz_H} (hh : 111 ≤ h.length) {d : Nat} {N : Nat} {Q : Option Value → zz_H → Prop}  {s s' : mS} {v : Option Value} (hf : mf_303_40 N  s = some (s', v)) (k : Q v (mH h s')) : zz_E zp_P zt_tf zt_fd X (d + 2) zm_303 40 [] [] (mH h s) Q := by
  unfold mf_303_40 at hf
  cases hf
  exact mb_303_40 hh  k
def mf_303_34 (N : Nat) (x1 : Int32) (s : mS) : mO := mo_bv (mf_291 N 1 x1 s) (fun s1 => mf_303_40 N  s1)
theorem mr_303_34 {X : Nat → Option zz_C} {h : zz_H} (hh : 111 ≤ h.length) {d : Nat} {N : Nat} {Q : Option Value → zz_H → Prop} {x1 : Int32} {s s' : mS} {v : Option Value} (hf : mf_303_34 N x1 s = some (s', v)) (k : Q v (mH h s')) : zz_E zp_P zt_tf zt_fd X (d + 2) zm_303 34 [(0, .ref 61), (1, .int x1)] [] (mH h s) Q := by
  unfold mf_303_34 at hf
  obtain ⟨s1, e, hf⟩ := mo_bv_ok hf
  exact mb_303_34 (d := d + 1) hh  (mr_291 (d := d + 1) hh e (mr_303_40 hh hf k))
def mf_303_24 (N : Nat) (x1 : Int32) (s : mS) : mO := mo_bv (mf_301 N 11 (s.1 70) s) (fun s1 => mf_303_34 N x1 s1)
theorem mr_303_24 {X : Nat → Option zz_C} {h : zz_H} (hh : 111 ≤ h.length) {d : Nat} {N : Nat} {Q : Option Value → zz_H → Prop} {x1 : Int32} {s s' : mS} {v : Option Value} (hf : mf_303_24 N x1 s = some (s', v)) (k : Q v (mH h s')) : zz_E zp_P zt_tf zt_fd X (d + 2) zm_303 24 [(0, .ref 61), (1, .int x1)] [] (mH h s) Q := by
  unfold mf_303_24 at hf
  obtain ⟨s1, e, hf⟩ := mo_bv_ok hf
  exact mb_303_24 (d := d + 1) hh  (mr_301 (d := d + 1) hh e (mr_303_34 hh hf k))
def mf_303_10 (N : Nat) (x1 : Int32) (y1 : Int32) (y2 : Int32) (s : mS) : mO := if (y1 + y2) ≤ 3000 then mf_303_34 N x1 (mI s 62 (y1 + y2)) else mf_303_24 N x1 (mI s 62 (y1 + y2))
theorem mr_303_10 {X : Nat → Option zz_C} {h : zz_H} (hh : 111 ≤ h.length) {d : Nat} {N : Nat} {Q : Option Value → zz_H → Prop} {x1 : Int32} {y1 : Int32} {y2 : Int32} {s s' : mS} {v : Option Value} (hf : mf_303_10 N x1 y1 y2 s = some (s', v)) (k : Q v (mH h s')) : zz_E zp_P zt_tf zt_fd X (d + 2) zm_303 10 [(0, .ref 61), (1, .int x1)] [.int y2, .int y1, .ref 61] (mH h s) Q := by
  unfold mf_303_10 at hf
  refine mb_303_10 hh  (fun c => ?_) (fun c => ?_)
  · rw [if_pos c] at hf
    exact mr_303_34 hh hf k
  · rw [if_neg c] at hf
    exact mr_303_24 hh hf k
def mf_303_0 (N : Nat) (x1 : Int32) (s : mS) : mO := mo_bi (mf_299 N x1 s) (fun s1 y => mf_303_10 N x1 (s.1 62) y s1)
theorem mr_303_0 {X : Nat → Option zz_C} {h : zz_H} (hh : 111 ≤ h.length) {d : Nat} {N : Nat} {Q : Option Value → zz_H → Prop} {x1 : Int32} {s s' : mS} {v : Option Value} (hf : mf_303_0 N x1 s = some (s', v)) (k : Q v (mH h s')) : zz_E zp_P zt_tf zt_fd X (d + 2) zm_303 0 [(0, .ref 61), (1, .int x1)] [] (mH h s) Q := by
  unfold mf_303_0 at hf
  obtain ⟨s1, y, e, hf⟩ := mo_bi_ok hf
  exact mb_303_0 (d := d + 1) hh  (mr_299 (d := d + 0) hh e (mr_303_10 hh hf k))
/-- gives -/
def mf_303 (N : Nat) (x1 : Int32) (s : mS) : mO := mf_303_0 N x1 s
theorem mr_303 {X : Nat → Option zz_C} {h : zz_H} (hh : 111 ≤ h.length) {d : Nat} {N : Nat} {Q : Option Value → zz_H → Prop} {x1 : Int32} {s s' : mS} {v : Option Value} (hf : mf_303 N x1 s = some (s', v)) (k : Q v (mH h s')) : zz_E zp_P zt_tf zt_fd X (d + 2) zm_303 0 [(0, .ref 61), (1, .int x1)] [] (mH h s) Q := by
  unfold mf_303 at hf
  exact zz_E.weak (mr_303_0 hh hf k) rfl ⟨rfl, rfl, trivial⟩
/-! begins (II)I -/
theorem mb_304_0 {X : Nat → Option zz_C} {h : zz_H} (hh : 111 ≤ h.length) {s : mS} {d : Nat} {Q : Option Value → zz_H → Prop} {x1 : Int32} {x2 : Int32} (i11 : ¬ ((s.1 48) < 0 ∨ 166300 ≤ Int32.toNatClampNeg (s.1 48))) (i20 : ¬ (((s.1 48) + 1) < 0 ∨ 166300 ≤ Int32.toNatClampNeg ((s.1 48) + 1))) (k : Q (some (.int (s.1 48))) (mH h (mI (mA (mA s 47 (upd (s.2.2.1 47) (Int32.toNatClampNeg (s.1 48)) x1)) 47 (upd (upd (s.2.2.1 47) (Int32.toNatClampNeg (s.1 48)) x1) (Int32.toNatClampNeg ((s.1 48) + 1)) x2)) 48 ((s.1 48) + 2)))) : zz_E zp_P zt_tf zt_fd X d zm_304 0 [(0, .ref 61), (1, .int x1), (2, .int x2)] [] (mH h s) Q := by
  refine zz_E.n 1 rfl rfl rfl ?_
  refine mE_g hh 4 (v := .int (s.1 48)) rfl rfl rfl ?_
  refine zz_E.n 5 rfl rfl rfl ?_
  refine zz_E.n 6 rfl rfl rfl ?_
  refine mE_g hh 9 (v := .ref 89) rfl rfl rfl ?_
  refine zz_E.n 10 rfl rfl rfl ?_
  refine zz_E.n 11 rfl rfl rfl ?_
  refine mE_is hh 12 28 (f := (s.2.2.1 47)) rfl (by decide) rfl rfl i11 (mA_89 _ _) rfl ?_
  refine zz_E.n 13 rfl rfl rfl ?_
  refine mE_g hh 16 (v := .ref 89) rfl rfl rfl ?_
  refine zz_E.n 17 rfl rfl rfl ?_
  refine zz_E.c 18 (.int 1) rfl rfl rfl rfl ?_
  refine zz_E.n 19 rfl rfl rfl ?_
  refine zz_E.n 20 rfl rfl rfl ?_
  refine mE_is hh 21 28 (f := (upd (s.2.2.1 47) (Int32.toNatClampNeg (s.1 48)) x1)) rfl (by decide) rfl rfl i20 (mA_89 _ _) rfl ?_
  refine zz_E.n 22 rfl rfl rfl ?_
  refine zz_E.n 23 rfl rfl rfl ?_
  refine zz_E.c 24 (.int 2) rfl rfl rfl rfl ?_
  refine zz_E.n 25 rfl rfl rfl ?_
  refine mE_p hh 28 rfl (by decide) rfl (mF_48 _ _) rfl ?_
  refine zz_E.n 29 rfl rfl rfl ?_
  refine zz_E.ret rfl rfl rfl ?_
  exact k
def mf_304_0 (N : Nat) (x1 : Int32) (x2 : Int32) (s : mS) : mO := if ¬ ((s.1 48) < 0 ∨ 166300 ≤ Int32.toNatClampNeg (s.1 48)) then (if ¬ (((s.1 48) + 1) < 0 ∨ 166300 ≤ Int32.toNatClampNeg ((s.1 48) + 1)) then (some ((mI (mA (mA s 47 (upd (s.2.2.1 47) (Int32.toNatClampNeg (s.1 48)) x1)) 47 (upd (upd (s.2.2.1 47) (Int32.toNatClampNeg (s.1 48)) x1) (Int32.toNatClampNeg ((s.1 48) + 1)) x2)) 48 ((s.1 48) + 2)), (some (.int (s.1 48))))) else none) else none
theorem mr_304_0 {X : Nat → Option zz_C} {h : zz_H} (hh : 111 ≤ h.length) {d : Nat} {N : Nat} {Q : Option Value → zz_H → Prop} {x1 : Int32} {x2 : Int32} {s s' : mS} {v : Option Value} (hf : mf_304_0 N x1 x2 s = some (s', v)) (k : Q v (mH h s')) : zz_E zp_P zt_tf zt_fd X (d + 0) zm_304 0 [(0, .ref 61), (1, .int x1), (2, .int x2)] [] (mH h s) Q := by
  unfold mf_304_0 at hf
  obtain ⟨q0, hf⟩ := mo_if hf
  obtain ⟨q1, hf⟩ := mo_if hf
  cases hf
  exact mb_304_0 hh q0 q1 k
/-- begins -/
def mf_304 (N : Nat) (x1 : Int32) (x2 : Int32) (s : mS) : mO := mf_304_0 N x1 x2 s
theorem mr_304 {X : Nat → Option zz_C} {h : zz_H} (hh : 111 ≤ h.length) {d : Nat} {N : Nat} {Q : Option Value → zz_H → Prop} {x1 : Int32} {x2 : Int32} {s s' : mS} {v : Option Value} (hf : mf_304 N x1 x2 s = some (s', v)) (k : Q v (mH h s')) : zz_E zp_P zt_tf zt_fd X (d + 0) zm_304 0 [(0, .ref 61), (1, .int x1), (2, .int x2)] [] (mH h s) Q := by
  unfold mf_304 at hf
  exact zz_E.weak (mr_304_0 hh hf k) rfl ⟨rfl, rfl, rfl, trivial⟩
