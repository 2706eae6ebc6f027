/-! arePlainSame (II)Z -/
theorem mb_345_0 {X : Nat → Option zz_C} {h : zz_H} (hh : 111 ≤ h.length) {s : mS} {d : Nat} {Q : Option Value → zz_H → Prop} {x1 : Int32} {x2 : Int32} (i5 : ¬ (x1 < 0 ∨ 166300 ≤ Int32.toNatClampNeg x1)) (k1 : ¬ ((s.2.2.1 47) (Int32.toNatClampNeg x1)) = 1 → zz_E zp_P zt_tf zt_fd X d zm_345 17 [(0, .ref 61), (1, .int x1), (2, .int x2)] [] (mH h s) Q) (k2 : ¬ ¬ ((s.2.2.1 47) (Int32.toNatClampNeg x1)) = 1 → zz_E zp_P zt_tf zt_fd X d zm_345 10 [(0, .ref 61), (1, .int x1), (2, .int x2)] [] (mH h s) Q) : zz_E zp_P zt_tf zt_fd X d zm_345 0 [(0, .ref 61), (1, .int x1), (2, .int x2)] [] (mH h s) Q := by
  refine zz_E.n 1 rfl rfl rfl ?_
  refine mE_g hh 4 (v := .ref 89) rfl rfl rfl ?_
  refine zz_E.n 5 rfl rfl rfl ?_
  refine mE_ia hh 6 28 (f := (s.2.2.1 47)) rfl (by decide) rfl rfl i5 rfl ?_
  refine zz_E.c 7 (.int 1) rfl rfl rfl rfl ?_
  refine zz_E.b2 17 10 (A := ¬ ((s.2.2.1 47) (Int32.toNatClampNeg x1)) = 1) rfl (zz_cond_ne _ _) (by decide) rfl rfl (fun c => ?_) (fun c => ?_)
  · exact zz_E.weak (k1 c) rfl ⟨rfl, rfl, rfl, trivial⟩
  · exact zz_E.weak (k2 c) rfl ⟨rfl, rfl, rfl, trivial⟩
theorem mb_345_10 {X : Nat → Option zz_C} {h : zz_H} (hh : 111 ≤ h.length) {s : mS} {d : Nat} {Q : Option Value → zz_H → Prop} {x1 : Int32} {x2 : Int32} (k : zz_E zp_P zt_tf zt_fd X d zm_344 0 [(0, .ref 61), (1, .int x1), (2, .int x2)] [] (mH h s) (fun v h' => zz_E zp_P zt_tf zt_fd X (d + 1) zm_345 16 [] (v.toList ++ []) h' Q)) : zz_E zp_P zt_tf zt_fd X (d + 1) zm_345 10 [(0, .ref 61), (1, .int x1), (2, .int x2)] [] (mH h s) Q := by
  refine zz_E.n 11 rfl rfl rfl ?_
  refine zz_E.n 12 rfl rfl rfl ?_
  refine zz_E.n 13 rfl rfl rfl ?_
  refine mE_cv hh 16 (as := []) rfl rfl (Nat.le_of_ble_eq_true rfl) (Nat.le_of_ble_eq_true rfl) rfl (Nat.le_of_ble_eq_true rfl) rfl ?_
  refine zz_E.mono k ?_
  intro v h' hE
  exact zz_E.weak hE rfl trivial
theorem mb_345_16 {X : Nat → Option zz_C} {h : zz_H} (hh : 111 ≤ h.length) {s : mS} {d : Nat} {Q : Option Value → zz_H → Prop} {y0 : Int32} (k : Q (some (.int y0)) (mH h s)) (rb : zz_reti (some .boolean) y0 = true) : zz_E zp_P zt_tf zt_fd X d zm_345 16 [] [.int y0] (mH h s) Q := by
  refine zz_E.ret rfl rfl (if_pos ⟨rfl, rb⟩) ?_
  exact k
theorem mb_345_17 {X : Nat → Option zz_C} {h : zz_H} (hh : 111 ≤ h.length) {s : mS} {d : Nat} {Q : Option Value → zz_H → Prop} {x1 : Int32} {x2 : Int32} (k : zz_E zp_P zt_tf zt_fd X d zm_77 0 [(0, .ref 61), (1, .int x1)] [] (mH h s) (fun v h' => zz_E zp_P zt_tf zt_fd X (d + 1) zm_345 22 [(0, .ref 61), (1, .int x1), (2, .int x2)] (v.toList ++ []) h' Q)) : zz_E zp_P zt_tf zt_fd X (d + 1) zm_345 17 [(0, .ref 61), (1, .int x1), (2, .int x2)] [] (mH h s) Q := by
  refine zz_E.n 18 rfl rfl rfl ?_
  refine zz_E.n 19 rfl rfl rfl ?_
  refine mE_cv hh 22 (as := []) rfl rfl (Nat.le_of_ble_eq_true rfl) (Nat.le_of_ble_eq_true rfl) rfl (Nat.le_of_ble_eq_true rfl) rfl ?_
  refine zz_E.mono k ?_
  intro v h' hE
  exact zz_E.weak hE rfl ⟨rfl, rfl, rfl, trivial⟩
theorem mb_345_22 {X : Nat → Option zz_C} {h : zz_H} (hh : 111 ≤ h.length) {s : mS} {d : Nat} {Q : Option Value → zz_H → Prop} {x1 : Int32} {x2 : Int32} {y0 : Int32} (k : zz_E zp_P zt_tf zt_fd X d zm_77 0 [(0, .ref 61), (1, .int x2)] [] (mH h s) (fun v h' => zz_E zp_P zt_tf zt_fd X (d + 1) zm_345 27 [(0, .ref 61), (1, .int x1), (2, .int x2)] (v.toList ++ [.int y0]) h' Q)) : zz_E zp_P zt_tf zt_fd X (d + 1) zm_345 22 [(0, .ref 61), (1, .int x1), (2, .int x2)] [.int y0] (mH h s) Q := by
  refine zz_E.n 23 rfl rfl rfl ?_
  refine zz_E.n 24 rfl rfl rfl ?_
  refine mE_cv hh 27 (as := [.int y0]) rfl rfl (Nat.le_of_ble_eq_true rfl) (Nat.le_of_ble_eq_true rfl) rfl (Nat.le_of_ble_eq_true rfl) rfl ?_
  refine zz_E.mono k ?_
  intro v h' hE
  exact zz_E.weak hE rfl ⟨rfl, rfl, rfl, trivial⟩
theorem mb_345_27 {X : Nat → Option zz_C} {h : zz_H} (hh : 111 ≤ h.length) {s : mS} {d : Nat} {Q : Option Value → zz_H → Prop} {x1 : Int32} {x2 : Int32} {y0 : Int32} {y1 : Int32} (k1 : ¬ y0 = y1 → zz_E zp_P zt_tf zt_fd X d zm_345 34 [(0, .ref 61), (1, .int x1), (2, .int x2)] [] (mH h s) Q) (k2 : ¬ ¬ y0 = y1 → zz_E zp_P zt_tf zt_fd X d zm_345 30 [(0, .ref 61), (1, .int x1), (2, .int x2)] [] (mH h s) Q) : zz_E zp_P zt_tf zt_fd X d zm_345 27 [(0, .ref 61), (1, .int x1), (2, .int x2)] [.int y1, .int y0] (mH h s) Q := by
  refine zz_E.b2 34 30 (A := ¬ y0 = y1) rfl (zz_cond_ne _ _) (by decide) rfl rfl (fun c => ?_) (fun c => ?_)
  · exact zz_E.weak (k1 c) rfl ⟨rfl, rfl, rfl, trivial⟩
  · exact zz_E.weak (k2 c) rfl ⟨rfl, rfl, rfl, trivial⟩
theorem mb_345_30 {X : Nat → Option zz_C} {h : zz_H} (hh : 111 ≤ h.length) {s : mS} {d : Nat} {Q : Option Value → zz_H → Prop} {x1 : Int32} {x2 : Int32} (k : zz_E zp_P zt_tf zt_fd X d zm_345 35 [(0, .ref 61), (1, .int x1), (2, .int x2)] [.int 1] (mH h s) Q) : zz_E zp_P zt_tf zt_fd X d zm_345 30 [(0, .ref 61), (1, .int x1), (2, .int x2)] [] (mH h s) Q := by
  refine zz_E.c 31 (.int 1) rfl rfl rfl rfl ?_
  refine zz_E.n 35 rfl rfl rfl ?_
  exact zz_E.weak k rfl ⟨rfl, rfl, rfl, trivial⟩
theorem mb_345_34 {X : Nat → Option zz_C} {h : zz_H} (hh : 111 ≤ h.length) {s : mS} {d : Nat} {Q : Option Value → zz_H → Prop} {x1 : Int32} {x2 : Int32} (k : zz_E zp_P zt_tf zt_fd X d zm_345 35 [(0, .ref 61), (1, .int x1), (2, .int x2)] [.int 0] (mH h s) Q) : zz_E zp_P zt_tf zt_fd X d zm_345 34 [(0, .ref 61), (1, .int x1), (2, .int x2)] [] (mH h s) Q := by
  refine zz_E.c 35 (.int 0) rfl rfl rfl rfl ?_
  exact zz_E.weak k rfl ⟨rfl, rfl, rfl, trivial⟩
theorem mb_345_35 {X : Nat → Option zz_C} {h : zz_H} (hh : 111 ≤ h.length) {s : mS} {d : Nat} {Q : Option Value → zz_H → Prop} {x1 : Int32} {x2 : Int32} {y0 : Int32} (k : zz_E zp_P zt_tf zt_fd X d zm_345 39 [(0, .ref 61), (1, .int x1), (2, .int x2), (3, .int y0), (4, .int 0)] [] (mH h s) Q) : zz_E zp_P zt_tf zt_fd X d zm_345 35 [(0, .ref 61), (1, .int x1), (2, .int x2)] [.int y0] (mH h s) Q := by
  refine zz_E.n 36 rfl rfl rfl ?_
  refine zz_E.c 37 (.int 0) rfl rfl rfl rfl ?_
  refine zz_E.n 39 rfl rfl rfl ?_
  exact zz_E.weak k rfl ⟨rfl, rfl, rfl, rfl, rfl, trivial⟩
theorem mb_345_39 {X : Nat → Option zz_C} {h : zz_H} (hh : 111 ≤ h.length) {s : mS} {d : Nat} {Q : Option Value → zz_H → Prop} {x1 : Int32} {x2 : Int32} {x3 : Int32} {x4 : Int32} (k1 : x3 = 0 → zz_E zp_P zt_tf zt_fd X d zm_345 78 [(3, .int x3)] [] (mH h s) Q) (k2 : ¬ x3 = 0 → zz_E zp_P zt_tf zt_fd X d zm_345 43 [(0, .ref 61), (1, .int x1), (2, .int x2), (3, .int x3), (4, .int x4)] [] (mH h s) Q) : zz_E zp_P zt_tf zt_fd X d zm_345 39 [(0, .ref 61), (1, .int x1), (2, .int x2), (3, .int x3), (4, .int x4)] [] (mH h s) Q := by
  refine zz_E.n 40 rfl rfl rfl ?_
  refine zz_E.b1 78 43 (A := x3 = 0) rfl rfl (by decide) rfl rfl (fun c => ?_) (fun c => ?_)
  · exact zz_E.weak (k1 c) rfl ⟨rfl, trivial⟩
  · exact zz_E.weak (k2 c) rfl ⟨rfl, rfl, rfl, rfl, rfl, trivial⟩
theorem mb_345_43 {X : Nat → Option zz_C} {h : zz_H} (hh : 111 ≤ h.length) {s : mS} {d : Nat} {Q : Option Value → zz_H → Prop} {x1 : Int32} {x2 : Int32} {x3 : Int32} {x4 : Int32} (k : zz_E zp_P zt_tf zt_fd X d zm_77 0 [(0, .ref 61), (1, .int x1)] [] (mH h s) (fun v h' => zz_E zp_P zt_tf zt_fd X (d + 1) zm_345 50 [(0, .ref 61), (1, .int x1), (2, .int x2), (3, .int x3), (4, .int x4)] (v.toList ++ [.int x4]) h' Q)) : zz_E zp_P zt_tf zt_fd X (d + 1) zm_345 43 [(0, .ref 61), (1, .int x1), (2, .int x2), (3, .int x3), (4, .int x4)] [] (mH h s) Q := by
  refine zz_E.n 45 rfl rfl rfl ?_
  refine zz_E.n 46 rfl rfl rfl ?_
  refine zz_E.n 47 rfl rfl rfl ?_
  refine mE_cv hh 50 (as := [.int x4]) rfl rfl (Nat.le_of_ble_eq_true rfl) (Nat.le_of_ble_eq_true rfl) rfl (Nat.le_of_ble_eq_true rfl) rfl ?_
  refine zz_E.mono k ?_
  intro v h' hE
  exact zz_E.weak hE rfl ⟨rfl, rfl, rfl, rfl, rfl, trivial⟩
theorem mb_345_50 {X : Nat → Option zz_C} {h : zz_H} (hh : 111 ≤ h.length) {s : mS} {d : Nat} {Q : Option Value → zz_H → Prop} {x1 : Int32} {x2 : Int32} {x3 : Int32} {x4 : Int32} {y0 : Int32} {y1 : Int32} (k1 : y1 ≤ y0 → zz_E zp_P zt_tf zt_fd X d zm_345 78 [(3, .int x3)] [] (mH h s) Q) (k2 : ¬ y1 ≤ y0 → zz_E zp_P zt_tf zt_fd X d zm_345 53 [(0, .ref 61), (1, .int x1), (2, .int x2), (4, .int x4)] [] (mH h s) Q) : zz_E zp_P zt_tf zt_fd X d zm_345 50 [(0, .ref 61), (1, .int x1), (2, .int x2), (3, .int x3), (4, .int x4)] [.int y1, .int y0] (mH h s) Q := by
  refine zz_E.b2 78 53 (A := y1 ≤ y0) rfl rfl (by decide) rfl rfl (fun c => ?_) (fun c => ?_)
  · exact zz_E.weak (k1 c) rfl ⟨rfl, trivial⟩
  · exact zz_E.weak (k2 c) rfl ⟨rfl, rfl, rfl, rfl, trivial⟩
theorem mb_345_53 {X : Nat → Option zz_C} {h : zz_H} (hh : 111 ≤ h.length) {s : mS} {d : Nat} {Q : Option Value → zz_H → Prop} {x1 : Int32} {x2 : Int32} {x4 : Int32} (k : zz_E zp_P zt_tf zt_fd X d zm_294 0 [(0, .ref 61), (1, .int x1), (2, .int x4)] [] (mH h s) (fun v h' => zz_E zp_P zt_tf zt_fd X (d + 1) zm_345 61 [(0, .ref 61), (1, .int x1), (2, .int x2), (4, .int x4)] (v.toList ++ [.ref 61]) h' Q)) : zz_E zp_P zt_tf zt_fd X (d + 1) zm_345 53 [(0, .ref 61), (1, .int x1), (2, .int x2), (4, .int x4)] [] (mH h s) Q := by
  refine zz_E.n 54 rfl rfl rfl ?_
  refine zz_E.n 55 rfl rfl rfl ?_
  refine zz_E.n 56 rfl rfl rfl ?_
  refine zz_E.n 58 rfl rfl rfl ?_
  refine mE_cv hh 61 (as := [.ref 61]) rfl rfl (Nat.le_of_ble_eq_true rfl) (Nat.le_of_ble_eq_true rfl) rfl (Nat.le_of_ble_eq_true rfl) rfl ?_
  refine zz_E.mono k ?_
  intro v h' hE
  exact zz_E.weak hE rfl ⟨rfl, rfl, rfl, rfl, trivial⟩
theorem mb_345_61 {X : Nat → Option zz_C} {h : zz_H} (hh : 111 ≤ h.length) {s : mS} {d : Nat} {Q : Option Value → zz_H → Prop} {x1 : Int32} {x2 : Int32} {x4 : Int32} {y1 : Int32} (k : zz_E zp_P zt_tf zt_fd X d zm_294 0 [(0, .ref 61), (1, .int x2), (2, .int x4)] [] (mH h s) (fun v h' => zz_E zp_P zt_tf zt_fd X (d + 1) zm_345 68 [(0, .ref 61), (1, .int x1), (2, .int x2), (4, .int x4)] (v.toList ++ [.int y1, .ref 61]) h' Q)) : zz_E zp_P zt_tf zt_fd X (d + 1) zm_345 61 [(0, .ref 61), (1, .int x1), (2, .int x2), (4, .int x4)] [.int y1, .ref 61] (mH h s) Q := by
  refine zz_E.n 62 rfl rfl rfl ?_
  refine zz_E.n 63 rfl rfl rfl ?_
  refine zz_E.n 65 rfl rfl rfl ?_
  refine mE_cv hh 68 (as := [.int y1, .ref 61]) rfl rfl (Nat.le_of_ble_eq_true rfl) (Nat.le_of_ble_eq_true rfl) rfl (Nat.le_of_ble_eq_true rfl) rfl ?_
  refine zz_E.mono k ?_
  intro v h' hE
  exact zz_E.weak hE rfl ⟨rfl, rfl, rfl, rfl, trivial⟩
theorem mb_345_68 {X : Nat → Option zz_C} {h : zz_H} (hh : 111 ≤ h.length) {s : mS} {d : Nat} {Q : Option Value → zz_H → Prop} {x1 : Int32} {x2 : Int32} {x4 : Int32} {y1 : Int32} {y2 : Int32} (k : zz_E zp_P zt_tf zt_fd X d zm_344 0 [(0, .ref 61), (1, .int y1), (2, .int y2)] [] (mH h s) (fun v h' => zz_E zp_P zt_tf zt_fd X (d + 1) zm_345 71 [(0, .ref 61), (1, .int x1), (2, .int x2), (4, .int x4)] (v.toList ++ []) h' Q)) : zz_E zp_P zt_tf zt_fd X (d + 1) zm_345 68 [(0, .ref 61), (1, .int x1), (2, .int x2), (4, .int x4)] [.int y2, .int y1, .ref 61] (mH h s) Q := by
  refine mE_cv hh 71 (as := []) rfl rfl (Nat.le_of_ble_eq_true rfl) (Nat.le_of_ble_eq_true rfl) rfl (Nat.le_of_ble_eq_true rfl) rfl ?_
  refine zz_E.mono k ?_
  intro v h' hE
  exact zz_E.weak hE rfl ⟨rfl, rfl, rfl, rfl, trivial⟩
theorem mb_345_71 {X : Nat → Option zz_C} {h : zz_H} (hh : 111 ≤ h.length) {s : mS} {d : Nat} {Q : Option Value → zz_H → Prop} {x1 : Int32} {x2 : Int32} {x4 : Int32} {y0 : Int32} (k : zz_E zp_P zt_tf zt_fd X d zm_345 39 [(0, .ref 61), (1, .int x1), (2, .int x2), (3, .int y0), (4, .int (x4 + 1))] [] (mH h s) Q) : zz_E zp_P zt_tf zt_fd X d zm_345 71 [(0, .ref 61), (1, .int x1), (2, .int x2), (4, .int x4)] [.int y0] (mH h s) Q := by
  refine zz_E.n 72 rfl rfl rfl ?_
  refine zz_E.n 75 rfl rfl rfl ?_
  refine zz_E.n 39 rfl rfl rfl ?_
  exact zz_E.weak k rfl ⟨rfl, rfl, rfl, rfl, rfl, trivial⟩
theorem mb_345_78 {X : Nat → Option zz_C} {h : zz_H} (hh : 111 ≤ h.length) {s : mS} {d : Nat} {Q : Option Value → zz_H → Prop} {x3 : Int32} (k : Q (some (.int x3)) (mH h s)) (rb : zz_reti (some .boolean) x3 = true) : zz_E zp_P zt_tf zt_fd X d zm_345 78 [(3, .int x3)] [] (mH h s) Q := by
  refine zz_E.n 79 rfl rfl rfl ?_
  refine zz_E.ret rfl rfl (if_pos ⟨rfl, rb⟩) ?_
  exact k
def mf_345_78 (N : Nat) (x3 : Int32) (s : mS) : mO := if zz_reti (some .boolean) x3 = true then some (s, (some (.int x3))) else none
theorem mr_345_78 {X : Nat → Option zz_C} {h : zz_H} (hh : 111 ≤ h.length) {d : Nat} {N : Nat} {Q : Option Value → zz_H → Prop} {x3 : Int32} {s s' : mS} {v : Option Value} (hf : mf_345_78 N x3 s = some (s', v)) (k : Q v (mH h s')) : zz_E zp_P zt_tf zt_fd X (d + 2) zm_345 78 [(3, .int x3)] [] (mH h s) Q := by
  unfold mf_345_78 at hf
  obtain ⟨rb, hf⟩ := mo_if hf
  cases hf
  exact mb_345_78 hh  k rb
def mf_345_71 (N : Nat) (rc : Nat → Int32 → Int32 → Int32 → Int32 → mS → mO) (x1 : Int32) (x2 : Int32) (x4 : Int32) (y0 : Int32) (s : mS) : mO := rc 0 x1 x2 y0 (x4 + 1) s
theorem mr_345_71 {X : Nat → Option zz_C} {h : zz_H} (hh : 111 ≤ h.length) {d : Nat} {N : Nat} {rc : Nat → Int32 → Int32 → Int32 → Int32 → mS → mO} (hrc0 : ∀ {Q : Option Value → zz_H → Prop} {x1 : Int32} {x2 : Int32} {x3 : Int32} {x4 : Int32} {s s' : mS} {v : Option Value}, rc 0 x1 x2 x3 x4 s = some (s', v) → Q v (mH h s') → zz_E zp_P zt_tf zt_fd X (d + 2) zm_345 39 [(0, .ref 61), (1, .int x1), (2, .int x2), (3, .int x3), (4, .int x4)] [] (mH h s) Q) {Q : Option Value → zz_H → Prop} {x1 : Int32} {x2 : Int32} {x4 : Int32} {y0 : Int32} {s s' : mS} {v : Option Value} (hf : mf_345_71 N rc x1 x2 x4 y0 s = some (s', v)) (k : Q v (mH h s')) : zz_E zp_P zt_tf zt_fd X (d + 2) zm_345 71 [(0, .ref 61), (1, .int x1), (2, .int x2), (4, .int x4)] [.int y0] (mH h s) Q := by
  unfold mf_345_71 at hf
  exact mb_345_71 hh  (hrc0 hf k)
def mf_345_68 (N : Nat) (rc : Nat → Int32 → Int32 → Int32 → Int32 → mS → mO) (x1 : Int32) (x2 : Int32) (x4 : Int32) (y1 : Int32) (y2 : Int32) (s : mS) : mO := mo_bi (mf_344 N y1 y2 s) (fun s1 y => mf_345_71 N rc x1 x2 x4 y s1)
theorem mr_345_68 {X : Nat → Option zz_C} {h : zz_H} (hh : 111 ≤ h.length) {d : Nat} {N : Nat} {rc : Nat → Int32 → Int32 → Int32 → Int32 → mS → mO} (hrc0 : ∀ {Q : Option Value → zz_H → Prop} {x1 : Int32} {x2 : Int32} {x3 : Int32} {x4 : Int32} {s s' : mS} {v : Option Value}, rc 0 x1 x2 x3 x4 s = some (s', v) → Q v (mH h s') → zz_E zp_P zt_tf zt_fd X (d + 2) zm_345 39 [(0, .ref 61), (1, .int x1), (2, .int x2), (3, .int x3), (4, .int x4)] [] (mH h s) Q) {Q : Option Value → zz_H → Prop} {x1 : Int32} {x2 : Int32} {x4 : Int32} {y1 : Int32} {y2 : Int32} {s s' : mS} {v : Option Value} (hf : mf_345_68 N rc x1 x2 x4 y1 y2 s = some (s', v)) (k : Q v (mH h s')) : zz_E zp_P zt_tf zt_fd X (d + 2) zm_345 68 [(0, .ref 61), (1, .int x1), (2, .int x2), (4, .int x4)] [.int y2, .int y1, .ref 61] (mH h s) Q := by
  unfold mf_345_68 at hf
  obtain ⟨s1, y, e, hf⟩ := mo_bi_ok hf
  exact mb_345_68 (d := d + 1) hh  (mr_344 (d := d + 0) hh e (mr_345_71 hh hrc0 hf k))
def mf_345_61 (N : Nat) (rc : Nat → Int32 → Int32 → Int32 → Int32 → mS → mO) (x1 : Int32) (x2 : Int32) (x4 : Int32) (y1 : Int32) (s : mS) : mO := mo_bi (mf_294 N x2 x4 s) (fun s1 y => mf_345_68 N rc x1 x2 x4 y1 y s1)
theorem mr_345_61 {X : Nat → Option zz_C} {h : zz_H} (hh : 111 ≤ h.length) {d : Nat} {N : Nat} {rc : Nat → Int32 → Int32 → Int32 → Int32 → mS → mO} (hrc0 : ∀ {Q : Option Value → zz_H → Prop} {x1 : Int32} {x2 : Int32} {x3 : Int32} {x4 : Int32} {s s' : mS} {v : Option Value}, rc 0 x1 x2 x3 x4 s = some (s', v) → Q v (mH h s') → zz_E zp_P zt_tf zt_fd X (d + 2) zm_345 39 [(0, .ref 61), (1, .int x1), (2, .int x2), (3, .int x3), (4, .int x4)] [] (mH h s) Q) {Q : Option Value → zz_H → Prop} {x1 : Int32} {x2 : Int32} {x4 : Int32} {y1 : Int32} {s s' : mS} {v : Option Value} (hf : mf_345_61 N rc x1 x2 x4 y1 s = some (s', v)) (k : Q v (mH h s')) : zz_E zp_P zt_tf zt_fd X (d + 2) zm_345 61 [(0, .ref 61), (1, .int x1), (2, .int x2), (4, .int x4)] [.int y1, .ref 61] (mH h s) Q := by
  unfold mf_345_61 at hf
  obtain ⟨s1, y, e, hf⟩ := mo_bi_ok hf
  exact mb_345_61 (d := d + 1) hh  (mr_294 (d := d + 1) hh e (mr_345_68 hh hrc0 hf k))
def mf_345_53 (N : Nat) (rc : Nat → Int32 → Int32 → Int32 → Int32 → mS → mO) (x1 : Int32) (x2 : Int32) (x4 : Int32) (s : mS) : mO := mo_bi (mf_294 N x1 x4 s) (fun s1 y => mf_345_61 N rc x1 x2 x4 y s1)
theorem mr_345_53 {X : Nat → Option zz_C} {h : zz_H} (hh : 111 ≤ h.length) {d : Nat} {N : Nat} {rc : Nat → Int32 → Int32 → Int32 → Int32 → mS → mO} (hrc0 : ∀ {Q : Option Value → zz_H → Prop} {x1 : Int32} {x2 : Int32} {x3 : Int32} {x4 : Int32} {s s' : mS} {v : Option Value}, rc 0 x1 x2 x3 x4 s = some (s', v) → Q v (mH h s') → zz_E zp_P zt_tf zt_fd X (d + 2) zm_345 39 [(0, .ref 61), (1, .int x1), (2, .int x2), (3, .int x3), (4, .int x4)] [] (mH h s) Q) {Q : Option Value → zz_H → Prop} {x1 : Int32} {x2 : Int32} {x4 : Int32} {s s' : mS} {v : Option Value} (hf : mf_345_53 N rc x1 x2 x4 s = some (s', v)) (k : Q v (mH h s')) : zz_E zp_P zt_tf zt_fd X (d + 2) zm_345 53 [(0, .ref 61), (1, .int x1), (2, .int x2), (4, .int x4)] [] (mH h s) Q := by
  unfold mf_345_53 at hf
  obtain ⟨s1, y, e, hf⟩ := mo_bi_ok hf
  exact mb_345_53 (d := d + 1) hh  (mr_294 (d := d + 1) hh e (mr_345_61 hh hrc0 hf k))
def mf_345_50 (N : Nat) (rc : Nat → Int32 → Int32 → Int32 → Int32 → mS → mO) (x1 : Int32) (x2 : Int32) (x3 : Int32) (x4 : Int32) (y0 : Int32) (y1 : Int32) (s : mS) : mO := if y1 ≤ y0 then mf_345_78 N x3 s else mf_345_53 N rc x1 x2 x4 s
theorem mr_345_50 {X : Nat → Option zz_C} {h : zz_H} (hh : 111 ≤ h.length) {d : Nat} {N : Nat} {rc : Nat → Int32 → Int32 → Int32 → Int32 → mS → mO} (hrc0 : ∀ {Q : Option Value → zz_H → Prop} {x1 : Int32} {x2 : Int32} {x3 : Int32} {x4 : Int32} {s s' : mS} {v : Option Value}, rc 0 x1 x2 x3 x4 s = some (s', v) → Q v (mH h s') → zz_E zp_P zt_tf zt_fd X (d + 2) zm_345 39 [(0, .ref 61), (1, .int x1), (2, .int x2), (3, .int x3), (4, .int x4)] [] (mH h s) Q) {Q : Option Value → zz_H → Prop} {x1 : Int32} {x2 : Int32} {x3 : Int32} {x4 : Int32} {y0 : Int32} {y1 : Int32} {s s' : mS} {v : Option Value} (hf : mf_345_50 N rc x1 x2 x3 x4 y0 y1 s = some (s', v)) (k : Q v (mH h s')) : zz_E zp_P zt_tf zt_fd X (d + 2) zm_345 50 [(0, .ref 61), (1, .int x1), (2, .int x2), (3, .int x3), (4, .int x4)] [.int y1, .int y0] (mH h s) Q := by
  unfold mf_345_50 at hf
  refine mb_345_50 hh  (fun c => ?_) (fun c => ?_)
  · rw [if_pos c] at hf
    exact mr_345_78 hh hf k
  · rw [if_neg c] at hf
    exact mr_345_53 hh hrc0 hf k
def mf_345_43 (N : Nat) (rc : Nat → Int32 → Int32 → Int32 → Int32 → mS → mO) (x1 : Int32) (x2 : Int32) (x3 : Int32) (x4 : Int32) (s : mS) : mO := mo_bi (mf_77 N x1 s) (fun s1 y => mf_345_50 N rc x1 x2 x3 x4 x4 y s1)
theorem mr_345_43 {X : Nat → Option zz_C} {h : zz_H} (hh : 111 ≤ h.length) {d : Nat} {N : Nat} {rc : Nat → Int32 → Int32 → Int32 → Int32 → mS → mO} (hrc0 : ∀ {Q : Option Value → zz_H → Prop} {x1 : Int32} {x2 : Int32} {x3 : Int32} {x4 : Int32} {s s' : mS} {v : Option Value}, rc 0 x1 x2 x3 x4 s = some (s', v) → Q v (mH h s') → zz_E zp_P zt_tf zt_fd X (d + 2) zm_345 39 [(0, .ref 61), (1, .int x1), (2, .int x2), (3, .int x3), (4, .int x4)] [] (mH h s) Q) {Q : Option Value → zz_H → Prop} {x1 : Int32} {x2 : Int32} {x3 : Int32} {x4 : Int32} {s s' : mS} {v : Option Value} (hf : mf_345_43 N rc x1 x2 x3 x4 s = some (s', v)) (k : Q v (mH h s')) : zz_E zp_P zt_tf zt_fd X (d + 2) zm_345 43 [(0, .ref 61), (1, .int x1), (2, .int x2), (3, .int x3), (4, .int x4)] [] (mH h s) Q := by
  unfold mf_345_43 at hf
  obtain ⟨s1, y, e, hf⟩ := mo_bi_ok hf
  exact mb_345_43 (d := d + 1) hh  (mr_77 (d := d + 1) hh e (mr_345_50 hh hrc0 hf k))
def mf_345_39 (N : Nat) (rc : Nat → Int32 → Int32 → Int32 → Int32 → mS → mO) (x1 : Int32) (x2 : Int32) (x3 : Int32) (x4 : Int32) (s : mS) : mO := if x3 = 0 then mf_345_78 N x3 s else mf_345_43 N rc x1 x2 x3 x4 s
theorem mr_345_39 {X : Nat → Option zz_C} {h : zz_H} (hh : 111 ≤ h.length) {d : Nat} {N : Nat} {rc : Nat → Int32 → Int32 → Int32 → Int32 → mS → mO} (hrc0 : ∀ {Q : Option Value → zz_H → Prop} {x1 : Int32} {x2 : Int32} {x3 : Int32} {x4 : Int32} {s s' : mS} {v : Option Value}, rc 0 x1 x2 x3 x4 s = some (s', v) → Q v (mH h s') → zz_E zp_P zt_tf zt_fd X (d + 2) zm_345 39 [(0, .ref 61), (1, .int x1), (2, .int x2), (3, .int x3), (4, .int x4)] [] (mH h s) Q) {Q : Option Value → zz_H → Prop} {x1 : Int32} {x2 : Int32} {x3 : Int32} {x4 : Int32} {s s' : mS} {v : Option Value} (hf : mf_345_39 N rc x1 x2 x3 x4 s = some (s', v)) (k : Q v (mH h s')) : zz_E zp_P zt_tf zt_fd X (d + 2) zm_345 39 [(0, .ref 61), (1, .int x1), (2, .int x2), (3, .int x3), (4, .int x4)] [] (mH h s) Q := by
  unfold mf_345_39 at hf
  refine mb_345_39 hh  (fun c => ?_) (fun c => ?_)
  · rw [if_pos c] at hf
    exact mr_345_78 hh hf k
  · rw [if_neg c] at hf
    exact mr_345_43 hh hrc0 hf k
def mf_345_L1 (N : Nat) : Nat → Nat → Int32 → Int32 → Int32 → Int32 → mS → mO
  | 0, _, _, _, _, _, _ => none
  | n + 1, l, x1, x2, x3, x4, s => if l = 0 then mf_345_39 N (mf_345_L1 N n) x1 x2 x3 x4 s else none
theorem mr_345_L1 {X : Nat → Option zz_C} {h : zz_H} (hh : 111 ≤ h.length) {d : Nat} {N : Nat} : ∀ n : Nat, (∀ {Q : Option Value → zz_H → Prop} {x1 : Int32} {x2 : Int32} {x3 : Int32} {x4 : Int32} {s s' : mS} {v : Option Value}, mf_345_L1 N n 0 x1 x2 x3 x4 s = some (s', v) → Q v (mH h s') → zz_E zp_P zt_tf zt_fd X (d + 2) zm_345 39 [(0, .ref 61), (1, .int x1), (2, .int x2), (3, .int x3), (4, .int x4)] [] (mH h s) Q) := by
  intro n
  induction n with
  | zero => exact (fun hf _ => by cases hf)
  | succ n ih =>
    have h0 := @ih
    intro Q _ _ _ _ s s' v hf k
    unfold mf_345_L1 at hf
    rw [if_pos rfl] at hf
    exact mr_345_39 hh h0 hf k
def mf_345_35 (N : Nat) (x1 : Int32) (x2 : Int32) (y0 : Int32) (s : mS) : mO := mf_345_L1 N N 0 x1 x2 y0 0 s
theorem mr_345_35 {X : Nat → Option zz_C} {h : zz_H} (hh : 111 ≤ h.length) {d : Nat} {N : Nat} {Q : Option Value → zz_H → Prop} {x1 : Int32} {x2 : Int32} {y0 : Int32} {s s' : mS} {v : Option Value} (hf : mf_345_35 N x1 x2 y0 s = some (s', v)) (k : Q v (mH h s')) : zz_E zp_P zt_tf zt_fd X (d + 2) zm_345 35 [(0, .ref 61), (1, .int x1), (2, .int x2)] [.int y0] (mH h s) Q := by
  unfold mf_345_35 at hf
  exact mb_345_35 hh  (mr_345_L1 hh N hf k)
def mf_345_34 (N : Nat) (x1 : Int32) (x2 : Int32) (s : mS) : mO := mf_345_35 N x1 x2 0 s
theorem mr_345_34 {X : Nat → Option zz_C} {h : zz_H} (hh : 111 ≤ h.length) {d : Nat} {N : Nat} {Q : Option Value → zz_H → Prop} {x1 : Int32} {x2 : Int32} {s s' : mS} {v : Option Value} (hf : mf_345_34 N x1 x2 s = some (s', v)) (k : Q v (mH h s')) : zz_E zp_P zt_tf zt_fd X (d + 2) zm_345 34 [(0, .ref 61), (1, .int x1), (2, .int x2)] [] (mH h s) Q := by
  unfold mf_345_34 at hf
  exact mb_345_34 hh  (mr_345_35 hh hf k)
def mf_345_30 (N : Nat) (x1 : Int32) (x2 : Int32) (s : mS) : mO := mf_345_35 N x1 x2 1 s
theorem mr_345_30 {X : Nat → Option zz_C} {h : zz_H} (hh : 111 ≤ h.length) {d : Nat} {N : Nat} {Q : Option Value → zz_H → Prop} {x1 : Int32} {x2 : Int32} {s s' : mS} {v : Option Value} (hf : mf_345_30 N x1 x2 s = some (s', v)) (k : Q v (mH h s')) : zz_E zp_P zt_tf zt_fd X (d + 2) zm_345 30 [(0, .ref 61), (1, .int x1), (2, .int x2)] [] (mH h s) Q := by
  unfold mf_345_30 at hf
  exact mb_345_30 hh  (mr_345_35 hh hf k)
def mf_345_27 (N : Nat) (x1 : Int32) (x2 : Int32) (y0 : Int32) (y1 : Int32) (s : mS) : mO := if ¬ y0 = y1 then mf_345_34 N x1 x2 s else mf_345_30 N x1 x2 s
theorem mr_345_27 {X : Nat → Option zz_C} {h : zz_H} (hh : 111 ≤ h.length) {d : Nat} {N : Nat} {Q : Option Value → zz_H → Prop} {x1 : Int32} {x2 : Int32} {y0 : Int32} {y1 : Int32} {s s' : mS} {v : Option Value} (hf : mf_345_27 N x1 x2 y0 y1 s = some (s', v)) (k : Q v (mH h s')) : zz_E zp_P zt_tf zt_fd X (d + 2) zm_345 27 [(0, .ref 61), (1, .int x1), (2, .int x2)] [.int y1, .int y0] (mH h s) Q := by
  unfold mf_345_27 at hf
  refine mb_345_27 hh  (fun c => ?_) (fun c => ?_)
  · rw [if_pos c] at hf
    exact mr_345_34 hh hf k
  · rw [if_neg c] at hf
    exact mr_345_30 hh hf k
def mf_345_22 (N : Nat) (x1 : Int32) (x2 : Int32) (y0 : Int32) (s : mS) : mO := mo_bi (mf_77 N x2 s) (fun s1 y => mf_345_27 N x1 x2 y0 y s1)
theorem mr_345_22 {X : Nat → Option zz_C} {h : zz_H} (hh : 111 ≤ h.length) {d : Nat} {N : Nat} {Q : Option Value → zz_H → Prop} {x1 : Int32} {x2 : Int32} {y0 : Int32} {s s' : mS} {v : Option Value} (hf : mf_345_22 N x1 x2 y0 s = some (s', v)) (k : Q v (mH h s')) : zz_E zp_P zt_tf zt_fd X (d + 2) zm_345 22 [(0, .ref 61), (1, .int x1), (2, .int x2)] [.int y0] (mH h s) Q := by
  unfold mf_345_22 at hf
  obtain ⟨s1, y, e, hf⟩ := mo_bi_ok hf
  exact mb_345_22 (d := d + 1) hh  (mr_77 (d := d + 1) hh e (mr_345_27 hh hf k))
def mf_345_17 (N : Nat) (x1 : Int32) (x2 : Int32) (s : mS) : mO := mo_bi (mf_77 N x1 s) (fun s1 y => mf_345_22 N x1 x2 y s1)
theorem mr_345_17 {X : Nat → Option zz_C} {h : zz_H} (hh : 111 ≤ h.length) {d : Nat} {N : Nat} {Q : Option Value → zz_H → Prop} {x1 : Int32} {x2 : Int32} {s s' : mS} {v : Option Value} (hf : mf_345_17 N x1 x2 s = some (s', v)) (k : Q v (mH h s')) : zz_E zp_P zt_tf zt_fd X (d + 2) zm_345 17 [(0, .ref 61), (1, .int x1), (2, .int x2)] [] (mH h s) Q := by
  unfold mf_345_17 at hf
  obtain ⟨s1, y, e, hf⟩ := mo_bi_ok hf
  exact mb_345_17 (d := d + 1) hh  (mr_77 (d := d + 1) hh e (mr_345_22 hh hf k))
def mf_345_16 (N : Nat) (y0 : Int32) (s : mS) : mO := if zz_reti (some .boolean) y0 = true then some (s, (some (.int y0))) else none
theorem mr_345_16 {X : Nat → Option zz_C} {h : zz_H} (hh : 111 ≤ h.length) {d : Nat} {N : Nat} {Q : Option Value → zz_H → Prop} {y0 : Int32} {s s' : mS} {v : Option Value} (hf : mf_345_16 N y0 s = some (s', v)) (k : Q v (mH h s')) : zz_E zp_P zt_tf zt_fd X (d + 2) zm_345 16 [] [.int y0] (mH h s) Q := by
  unfold mf_345_16 at hf
  obtain ⟨rb, hf⟩ := mo_if hf
  cases hf
  exact mb_345_16 hh  k rb
def mf_345_10 (N : Nat) (x1 : Int32) (x2 : Int32) (s : mS) : mO := mo_bi (mf_344 N x1 x2 s) (fun s1 y => mf_345_16 N y s1)
theorem mr_345_10 {X : Nat → Option zz_C} {h : zz_H} (hh : 111 ≤ h.length) {d : Nat} {N : Nat} {Q : Option Value → zz_H → Prop} {x1 : Int32} {x2 : Int32} {s s' : mS} {v : Option Value} (hf : mf_345_10 N x1 x2 s = some (s', v)) (k : Q v (mH h s')) : zz_E zp_P zt_tf zt_fd X (d + 2) zm_345 10 [(0, .ref 61), (1, .int x1), (2, .int x2)] [] (mH h s) Q := by
  unfold mf_345_10 at hf
  obtain ⟨s1, y, e, hf⟩ := mo_bi_ok hf
  exact mb_345_10 (d := d + 1) hh  (mr_344 (d := d + 0) hh e (mr_345_16 hh hf k))
def mf_345_0 (N : Nat) (x1 : Int32) (x2 : Int32) (s : mS) : mO := if ¬ (x1 < 0 ∨ 166300 ≤ Int32.toNatClampNeg x1) then (if ¬ ((s.2.2.1 47) (Int32.toNatClampNeg x1)) = 1 then mf_345_17 N x1 x2 s else mf_345_10 N x1 x2 s) else none
theorem mr_345_0 {X : Nat → Option zz_C} {h : zz_H} (hh : 111 ≤ h.length) {d : Nat} {N : Nat} {Q : Option Value → zz_H → Prop} {x1 : Int32} {x2 : Int32} {s s' : mS} {v : Option Value} (hf : mf_345_0 N x1 x2 s = some (s', v)) (k : Q v (mH h s')) : zz_E zp_P zt_tf zt_fd X (d + 2) zm_345 0 [(0, .ref 61), (1, .int x1), (2, .int x2)] [] (mH h s) Q := by
  unfold mf_345_0 at hf
  obtain ⟨q0, hf⟩ := mo_if hf
  refine mb_345_0 hh q0 (fun c => ?_) (fun c => ?_)
  · rw [if_pos c] at hf
    exact mr_345_17 hh hf k
  · rw [if_neg c] at hf
    exact mr_345_10 hh hf k
/-- arePlainSame -/
def mf_345 (N : Nat) (x1 : Int32) (x2 : Int32) (s : mS) : mO := mf_345_0 N x1 x2 s
theorem mr_345 {X : Nat → Option zz_C} {h : zz_H} (hh : 111 ≤ h.length) {d : Nat} {N : Nat} {Q : Option Value → zz_H → Prop} {x1 : Int32} {x2 : Int32} {s s' : mS} {v : Option Value} (hf : mf_345 N x1 x2 s = some (s', v)) (k : Q v (mH h s')) : zz_E zp_P zt_tf zt_fd X (d + 2) zm_345 0 [(0, .ref 61), (1, .int x1), (2, .int x2)] [] (mH h s) Q := by
  unfold mf_345 at hf
  exact zz_E.weak (mr_345_0 hh hf k) rfl ⟨rfl, rfl, rfl, trivial⟩
/-! areSame (II)Z -/
theorem mb_346_0 {X : Nat → Option zz_C} {h : zz_H} (hh : 111 ≤ h.length) {s : mS} {d : Nat} {Q : Option Value → zz_H → Prop} {x1 : Int32} {x2 : Int32} (i5 : ¬ (x1 < 0 ∨ 166300 ≤ Int32.toNatClampNeg x1)) (i11 : ¬ (x2 < 0 ∨ 166300 ≤ Int32.toNatClampNeg x2)) (k1 : ((s.2.2.1 47) (Int32.toNatClampNeg x1)) = ((s.2.2.1 47) (Int32.toNatClampNeg x2)) → zz_E zp_P zt_tf zt_fd X d zm_346 17 [(0, .ref 61), (1, .int x1), (2, .int x2)] [] (mH h s) Q) (k2 : ¬ ((s.2.2.1 47) (Int32.toNatClampNeg x1)) = ((s.2.2.1 47) (Int32.toNatClampNeg x2)) → zz_E zp_P zt_tf zt_fd X d zm_346 15 [] [] (mH h s) Q) : zz_E zp_P zt_tf zt_fd X d zm_346 0 [(0, .ref 61), (1, .int x1), (2, .int x2)] [] (mH h s) Q := by
  refine zz_E.n 1 rfl rfl rfl ?_
  refine mE_g hh 4 (v := .ref 89) rfl rfl rfl ?_
  refine zz_E.n 5 rfl rfl rfl ?_
  refine mE_ia hh 6 28 (f := (s.2.2.1 47)) rfl (by decide) rfl rfl i5 rfl ?_
  refine zz_E.n 7 rfl rfl rfl ?_
  refine mE_g hh 10 (v := .ref 89) rfl rfl rfl ?_
  refine zz_E.n 11 rfl rfl rfl ?_
  refine mE_ia hh 12 28 (f := (s.2.2.1 47)) rfl (by decide) rfl rfl i11 rfl ?_
  refine zz_E.b2 17 15 (A := ((s.2.2.1 47) (Int32.toNatClampNeg x1)) = ((s.2.2.1 47) (Int32.toNatClampNeg x2))) rfl rfl (by decide) rfl rfl (fun c => ?_) (fun c => ?_)
  · exact zz_E.weak (k1 c) rfl ⟨rfl, rfl, rfl, trivial⟩
  · exact zz_E.weak (k2 c) rfl trivial
theorem mb_346_15 {X : Nat → Option zz_C} {h : zz_H} (hh : 111 ≤ h.length) {s : mS} {d : Nat} {Q : Option Value → zz_H → Prop}  (k : Q (some (.int 0)) (mH h s)) : zz_E zp_P zt_tf zt_fd X d zm_346 15 [] [] (mH h s) Q := by
  refine zz_E.c 16 (.int 0) rfl rfl rfl rfl ?_
  refine zz_E.ret rfl rfl rfl ?_
  exact k
theorem mb_346_17 {X : Nat → Option zz_C} {h : zz_H} (hh : 111 ≤ h.length) {s : mS} {d : Nat} {Q : Option Value → zz_H → Prop} {x1 : Int32} {x2 : Int32} (i22 : ¬ (x1 < 0 ∨ 166300 ≤ Int32.toNatClampNeg x1)) (k1 : ((s.2.2.1 47) (Int32.toNatClampNeg x1)) = 3 → zz_E zp_P zt_tf zt_fd X d zm_346 34 [(0, .ref 61), (1, .int x1), (2, .int x2)] [] (mH h s) Q) (k2 : ¬ ((s.2.2.1 47) (Int32.toNatClampNeg x1)) = 3 → zz_E zp_P zt_tf zt_fd X d zm_346 27 [(0, .ref 61), (1, .int x1), (2, .int x2)] [] (mH h s) Q) : zz_E zp_P zt_tf zt_fd X d zm_346 17 [(0, .ref 61), (1, .int x1), (2, .int x2)] [] (mH h s) Q := by
  refine zz_E.n 18 rfl rfl rfl ?_
  refine mE_g hh 21 (v := .ref 89) rfl rfl rfl ?_
  refine zz_E.n 22 rfl rfl rfl ?_
  refine mE_ia hh 23 28 (f := (s.2.2.1 47)) rfl (by decide) rfl rfl i22 rfl ?_
  refine zz_E.c 24 (.int 3) rfl rfl rfl rfl ?_
  refine zz_E.b2 34 27 (A := ((s.2.2.1 47) (Int32.toNatClampNeg x1)) = 3) rfl rfl (by decide) rfl rfl (fun c => ?_) (fun c => ?_)
  · exact zz_E.weak (k1 c) rfl ⟨rfl, rfl, rfl, trivial⟩
  · exact zz_E.weak (k2 c) rfl ⟨rfl, rfl, rfl, trivial⟩
theorem mb_346_27 {X : Nat → Option zz_C} {h : zz_H} (hh : 111 ≤ h.length) {s : mS} {d : Nat} {Q : Option Value → zz_H → Prop} {x1 : Int32} {x2 : Int32} (k : zz_E zp_P zt_tf zt_fd X d zm_345 0 [(0, .ref 61), (1, .int x1), (2, .int x2)] [] (mH h s) (fun v h' => zz_E zp_P zt_tf zt_fd X (d + 1) zm_346 33 [] (v.toList ++ []) h' Q)) : zz_E zp_P zt_tf zt_fd X (d + 1) zm_346 27 [(0, .ref 61), (1, .int x1), (2, .int x2)] [] (mH h s) Q := by
  refine zz_E.n 28 rfl rfl rfl ?_
  refine zz_E.n 29 rfl rfl rfl ?_
  refine zz_E.n 30 rfl rfl rfl ?_
  refine mE_cv hh 33 (as := []) rfl rfl (Nat.le_of_ble_eq_true rfl) (Nat.le_of_ble_eq_true rfl) rfl (Nat.le_of_ble_eq_true rfl) rfl ?_
  refine zz_E.mono k ?_
  intro v h' hE
  exact zz_E.weak hE rfl trivial
theorem mb_346_33 {X : Nat → Option zz_C} {h : zz_H} (hh : 111 ≤ h.length) {s : mS} {d : Nat} {Q : Option Value → zz_H → Prop} {y0 : Int32} (k : Q (some (.int y0)) (mH h s)) (rb : zz_reti (some .boolean) y0 = true) : zz_E zp_P zt_tf zt_fd X d zm_346 33 [] [.int y0] (mH h s) Q := by
  refine zz_E.ret rfl rfl (if_pos ⟨rfl, rb⟩) ?_
  exact k
theorem mb_346_34 {X : Nat → Option zz_C} {h : zz_H} (hh : 111 ≤ h.length) {s : mS} {d : Nat} {Q : Option Value → zz_H → Prop} {x1 : Int32} {x2 : Int32} (k : zz_E zp_P zt_tf zt_fd X d zm_77 0 [(0, .ref 61), (1, .int x1)] [] (mH h s) (fun v h' => zz_E zp_P zt_tf zt_fd X (d + 1) zm_346 39 [(0, .ref 61), (1, .int x1), (2, .int x2)] (v.toList ++ []) h' Q)) : zz_E zp_P zt_tf zt_fd X (d + 1) zm_346 34 [(0, .ref 61), (1, .int x1), (2, .int x2)] [] (mH h s) Q := by
  refine zz_E.n 35 rfl rfl rfl ?_
  refine zz_E.n 36 rfl rfl rfl ?_
  refine mE_cv hh 39 (as := []) rfl rfl (Nat.le_of_ble_eq_true rfl) (Nat.le_of_ble_eq_true rfl) rfl (Nat.le_of_ble_eq_true rfl) rfl ?_
  refine zz_E.mono k ?_
  intro v h' hE
  exact zz_E.weak hE rfl ⟨rfl, rfl, rfl, trivial⟩
theorem mb_346_39 {X : Nat → Option zz_C} {h : zz_H} (hh : 111 ≤ h.length) {s : mS} {d : Nat} {Q : Option Value → zz_H → Prop} {x1 : Int32} {x2 : Int32} {y0 : Int32} (k : zz_E zp_P zt_tf zt_fd X d zm_77 0 [(0, .ref 61), (1, .int x2)] [] (mH h s) (fun v h' => zz_E zp_P zt_tf zt_fd X (d + 1) zm_346 44 [(0, .ref 61), (1, .int x1), (2, .int x2)] (v.toList ++ [.int y0]) h' Q)) : zz_E zp_P zt_tf zt_fd X (d + 1) zm_346 39 [(0, .ref 61), (1, .int x1), (2, .int x2)] [.int y0] (mH h s) Q := by
  refine zz_E.n 40 rfl rfl rfl ?_
  refine zz_E.n 41 rfl rfl rfl ?_
  refine mE_cv hh 44 (as := [.int y0]) rfl rfl (Nat.le_of_ble_eq_true rfl) (Nat.le_of_ble_eq_true rfl) rfl (Nat.le_of_ble_eq_true rfl) rfl ?_
  refine zz_E.mono k ?_
  intro v h' hE
  exact zz_E.weak hE rfl ⟨rfl, rfl, rfl, trivial⟩
theorem mb_346_44 {X : Nat → Option zz_C} {h : zz_H} (hh : 111 ≤ h.length) {s : mS} {d : Nat} {Q : Option Value → zz_H → Prop} {x1 : Int32} {x2 : Int32} {y0 : Int32} {y1 : Int32} (k1 : ¬ y0 = y1 → zz_E zp_P zt_tf zt_fd X d zm_346 51 [(0, .ref 61), (1, .int x1), (2, .int x2)] [] (mH h s) Q) (k2 : ¬ ¬ y0 = y1 → zz_E zp_P zt_tf zt_fd X d zm_346 47 [(0, .ref 61), (1, .int x1), (2, .int x2)] [] (mH h s) Q) : zz_E zp_P zt_tf zt_fd X d zm_346 44 [(0, .ref 61), (1, .int x1), (2, .int x2)] [.int y1, .int y0] (mH h s) Q := by
  refine zz_E.b2 51 47 (A := ¬ y0 = y1) rfl (zz_cond_ne _ _) (by decide) rfl rfl (fun c => ?_) (fun c => ?_)
  · exact zz_E.weak (k1 c) rfl ⟨rfl, rfl, rfl, trivial⟩
  · exact zz_E.weak (k2 c) rfl ⟨rfl, rfl, rfl, trivial⟩
theorem mb_346_47 {X : Nat → Option zz_C} {h : zz_H} (hh : 111 ≤ h.length) {s : mS} {d : Nat} {Q : Option Value → zz_H → Prop} {x1 : Int32} {x2 : Int32} (k : zz_E zp_P zt_tf zt_fd X d zm_346 52 [(0, .ref 61), (1, .int x1), (2, .int x2)] [.int 1] (mH h s) Q) : zz_E zp_P zt_tf zt_fd X d zm_346 47 [(0, .ref 61), (1, .int x1), (2, .int x2)] [] (mH h s) Q := by
  refine zz_E.c 48 (.int 1) rfl rfl rfl rfl ?_
  refine zz_E.n 52 rfl rfl rfl ?_
  exact zz_E.weak k rfl ⟨rfl, rfl, rfl, trivial⟩
theorem mb_346_51 {X : Nat → Option zz_C} {h : zz_H} (hh : 111 ≤ h.length) {s : mS} {d : Nat} {Q : Option Value → zz_H → Prop} {x1 : Int32} {x2 : Int32} (k : zz_E zp_P zt_tf zt_fd X d zm_346 52 [(0, .ref 61), (1, .int x1), (2, .int x2)] [.int 0] (mH h s) Q) : zz_E zp_P zt_tf zt_fd X d zm_346 51 [(0, .ref 61), (1, .int x1), (2, .int x2)] [] (mH h s) Q := by
  refine zz_E.c 52 (.int 0) rfl rfl rfl rfl ?_
  exact zz_E.weak k rfl ⟨rfl, rfl, rfl, trivial⟩
theorem mb_346_52 {X : Nat → Option zz_C} {h : zz_H} (hh : 111 ≤ h.length) {s : mS} {d : Nat} {Q : Option Value → zz_H → Prop} {x1 : Int32} {x2 : Int32} {y0 : Int32} (k : zz_E zp_P zt_tf zt_fd X d zm_296 0 [(0, .ref 61), (1, .int x1), (2, .int x2)] [] (mH h (mI s 55 0)) (fun v h' => zz_E zp_P zt_tf zt_fd X (d + 1) zm_346 64 [(0, .ref 61), (3, .int y0)] (v.toList ++ []) h' Q)) : zz_E zp_P zt_tf zt_fd X (d + 1) zm_346 52 [(0, .ref 61), (1, .int x1), (2, .int x2)] [.int y0] (mH h s) Q := by
  refine zz_E.n 53 rfl rfl rfl ?_
  refine zz_E.n 54 rfl rfl rfl ?_
  refine zz_E.c 55 (.int 0) rfl rfl rfl rfl ?_
  refine mE_p hh 58 rfl (by decide) rfl (mF_55 _ _) rfl ?_
  refine zz_E.n 59 rfl rfl rfl ?_
  refine zz_E.n 60 rfl rfl rfl ?_
  refine zz_E.n 61 rfl rfl rfl ?_
  refine mE_cv hh 64 (as := []) rfl rfl (Nat.le_of_ble_eq_true rfl) (Nat.le_of_ble_eq_true rfl) rfl (Nat.le_of_ble_eq_true rfl) rfl ?_
  refine zz_E.mono k ?_
  intro v h' hE
  exact zz_E.weak hE rfl ⟨rfl, rfl, trivial⟩
theorem mb_346_64 {X : Nat → Option zz_C} {h : zz_H} (hh : 111 ≤ h.length) {s : mS} {d : Nat} {Q : Option Value → zz_H → Prop} {x3 : Int32} (k1 : x3 = 0 → zz_E zp_P zt_tf zt_fd X d zm_346 342 [(3, .int x3)] [] (mH h s) Q) (k2 : ¬ x3 = 0 → zz_E zp_P zt_tf zt_fd X d zm_346 68 [(0, .ref 61), (3, .int x3)] [] (mH h s) Q) : zz_E zp_P zt_tf zt_fd X d zm_346 64 [(0, .ref 61), (3, .int x3)] [] (mH h s) Q := by
  refine zz_E.n 65 rfl rfl rfl ?_
  refine zz_E.b1 342 68 (A := x3 = 0) rfl rfl (by decide) rfl rfl (fun c => ?_) (fun c => ?_)
  · exact zz_E.weak (k1 c) rfl ⟨rfl, trivial⟩
  · exact zz_E.weak (k2 c) rfl ⟨rfl, rfl, trivial⟩
theorem mb_346_68 {X : Nat → Option zz_C} {h : zz_H} (hh : 111 ≤ h.length) {s : mS} {d : Nat} {Q : Option Value → zz_H → Prop} {x3 : Int32} (k1 : (s.1 55) ≤ 0 → zz_E zp_P zt_tf zt_fd X d zm_346 342 [(3, .int x3)] [] (mH h s) Q) (k2 : ¬ (s.1 55) ≤ 0 → zz_E zp_P zt_tf zt_fd X d zm_346 75 [(0, .ref 61), (3, .int x3)] [] (mH h s) Q) : zz_E zp_P zt_tf zt_fd X d zm_346 68 [(0, .ref 61), (3, .int x3)] [] (mH h s) Q := by
  refine zz_E.n 69 rfl rfl rfl ?_
  refine mE_g hh 72 (v := .int (s.1 55)) rfl rfl rfl ?_
  refine zz_E.b1 342 75 (A := (s.1 55) ≤ 0) rfl rfl (by decide) rfl rfl (fun c => ?_) (fun c => ?_)
  · exact zz_E.weak (k1 c) rfl ⟨rfl, trivial⟩
  · exact zz_E.weak (k2 c) rfl ⟨rfl, rfl, trivial⟩
theorem mb_346_75 {X : Nat → Option zz_C} {h : zz_H} (hh : 111 ≤ h.length) {s : mS} {d : Nat} {Q : Option Value → zz_H → Prop} {x3 : Int32} (i85 : ¬ (((s.1 55) - 1) < 0 ∨ 8 ≤ Int32.toNatClampNeg ((s.1 55) - 1))) (i98 : ¬ (((s.1 55) - 1) < 0 ∨ 8 ≤ Int32.toNatClampNeg ((s.1 55) - 1))) (i111 : ¬ (((s.1 55) - 1) < 0 ∨ 8 ≤ Int32.toNatClampNeg ((s.1 55) - 1))) (k : zz_E zp_P zt_tf zt_fd X d zm_77 0 [(0, .ref 61), (1, .int ((s.2.2.1 52) (Int32.toNatClampNeg ((s.1 55) - 1))))] [] (mH h s) (fun v h' => zz_E zp_P zt_tf zt_fd X (d + 1) zm_346 122 [(0, .ref 61), (3, .int x3), (4, .int ((s.2.2.1 52) (Int32.toNatClampNeg ((s.1 55) - 1)))), (5, .int ((s.2.2.1 53) (Int32.toNatClampNeg ((s.1 55) - 1)))), (6, .int ((s.2.2.1 54) (Int32.toNatClampNeg ((s.1 55) - 1))))] (v.toList ++ [.int ((s.2.2.1 54) (Int32.toNatClampNeg ((s.1 55) - 1)))]) h' Q)) : zz_E zp_P zt_tf zt_fd X (d + 1) zm_346 75 [(0, .ref 61), (3, .int x3)] [] (mH h s) Q := by
  refine zz_E.n 76 rfl rfl rfl ?_
  refine mE_g hh 79 (v := .ref 92) rfl rfl rfl ?_
  refine zz_E.n 80 rfl rfl rfl ?_
  refine mE_g hh 83 (v := .int (s.1 55)) rfl rfl rfl ?_
  refine zz_E.c 84 (.int 1) rfl rfl rfl rfl ?_
  refine zz_E.n 85 rfl rfl rfl ?_
  refine mE_ia hh 86 31 (f := (s.2.2.1 52)) rfl (by decide) rfl rfl i85 rfl ?_
  refine zz_E.n 88 rfl rfl rfl ?_
  refine zz_E.n 89 rfl rfl rfl ?_
  refine mE_g hh 92 (v := .ref 93) rfl rfl rfl ?_
  refine zz_E.n 93 rfl rfl rfl ?_
  refine mE_g hh 96 (v := .int (s.1 55)) rfl rfl rfl ?_
  refine zz_E.c 97 (.int 1) rfl rfl rfl rfl ?_
  refine zz_E.n 98 rfl rfl rfl ?_
  refine mE_ia hh 99 32 (f := (s.2.2.1 53)) rfl (by decide) rfl rfl i98 rfl ?_
  refine zz_E.n 101 rfl rfl rfl ?_
  refine zz_E.n 102 rfl rfl rfl ?_
  refine mE_g hh 105 (v := .ref 94) rfl rfl rfl ?_
  refine zz_E.n 106 rfl rfl rfl ?_
  refine mE_g hh 109 (v := .int (s.1 55)) rfl rfl rfl ?_
  refine zz_E.c 110 (.int 1) rfl rfl rfl rfl ?_
  refine zz_E.n 111 rfl rfl rfl ?_
  refine mE_ia hh 112 33 (f := (s.2.2.1 54)) rfl (by decide) rfl rfl i111 rfl ?_
  refine zz_E.n 114 rfl rfl rfl ?_
  refine zz_E.n 116 rfl rfl rfl ?_
  refine zz_E.n 117 rfl rfl rfl ?_
  refine zz_E.n 119 rfl rfl rfl ?_
  refine mE_cv hh 122 (as := [.int ((s.2.2.1 54) (Int32.toNatClampNeg ((s.1 55) - 1)))]) rfl rfl (Nat.le_of_ble_eq_true rfl) (Nat.le_of_ble_eq_true rfl) rfl (Nat.le_of_ble_eq_true rfl) rfl ?_
  refine zz_E.mono k ?_
  intro v h' hE
  exact zz_E.weak hE rfl ⟨rfl, rfl, rfl, rfl, rfl, trivial⟩
theorem mb_346_122 {X : Nat → Option zz_C} {h : zz_H} (hh : 111 ≤ h.length) {s : mS} {d : Nat} {Q : Option Value → zz_H → Prop} {x3 : Int32} {x4 : Int32} {x5 : Int32} {x6 : Int32} {y0 : Int32} {y1 : Int32} (k1 : ¬ y0 = y1 → zz_E zp_P zt_tf zt_fd X d zm_346 138 [(0, .ref 61), (4, .int x4), (5, .int x5), (6, .int x6)] [] (mH h s) Q) (k2 : ¬ ¬ y0 = y1 → zz_E zp_P zt_tf zt_fd X d zm_346 125 [(0, .ref 61), (3, .int x3)] [] (mH h s) Q) : zz_E zp_P zt_tf zt_fd X d zm_346 122 [(0, .ref 61), (3, .int x3), (4, .int x4), (5, .int x5), (6, .int x6)] [.int y1, .int y0] (mH h s) Q := by
  refine zz_E.b2 138 125 (A := ¬ y0 = y1) rfl (zz_cond_ne _ _) (by decide) rfl rfl (fun c => ?_) (fun c => ?_)
  · exact zz_E.weak (k1 c) rfl ⟨rfl, rfl, rfl, rfl, trivial⟩
  · exact zz_E.weak (k2 c) rfl ⟨rfl, rfl, trivial⟩
theorem mb_346_125 {X : Nat → Option zz_C} {h : zz_H} (hh : 111 ≤ h.length) {s : mS} {d : Nat} {Q : Option Value → zz_H → Prop} {x3 : Int32} (k : zz_E zp_P zt_tf zt_fd X d zm_346 64 [(0, .ref 61), (3, .int x3)] [] (mH h (mI s 55 ((s.1 55) - 1))) Q) : zz_E zp_P zt_tf zt_fd X d zm_346 125 [(0, .ref 61), (3, .int x3)] [] (mH h s) Q := by
  refine zz_E.n 126 rfl rfl rfl ?_
  refine zz_E.n 127 rfl rfl rfl ?_
  refine mE_g hh 130 (v := .int (s.1 55)) rfl rfl rfl ?_
  refine zz_E.c 131 (.int 1) rfl rfl rfl rfl ?_
  refine zz_E.n 132 rfl rfl rfl ?_
  refine mE_p hh 135 rfl (by decide) rfl (mF_55 _ _) rfl ?_
  refine zz_E.n 64 rfl rfl rfl ?_
  exact zz_E.weak k rfl ⟨rfl, rfl, trivial⟩
theorem mb_346_138 {X : Nat → Option zz_C} {h : zz_H} (hh : 111 ≤ h.length) {s : mS} {d : Nat} {Q : Option Value → zz_H → Prop} {x4 : Int32} {x5 : Int32} {x6 : Int32} (i149 : ¬ (((s.1 55) - 1) < 0 ∨ 8 ≤ Int32.toNatClampNeg ((s.1 55) - 1))) (i152 : ¬ (((s.1 55) - 1) < 0 ∨ 8 ≤ Int32.toNatClampNeg ((s.1 55) - 1))) (k : zz_E zp_P zt_tf zt_fd X d zm_293 0 [(0, .ref 61), (1, .int x4), (2, .int x6)] [] (mH h (mA s 54 (upd (s.2.2.1 54) (Int32.toNatClampNeg ((s.1 55) - 1)) (((s.2.2.1 54) (Int32.toNatClampNeg ((s.1 55) - 1))) + 1)))) (fun v h' => zz_E zp_P zt_tf zt_fd X (d + 1) zm_346 161 [(0, .ref 61), (4, .int x4), (5, .int x5), (6, .int x6)] (v.toList ++ []) h' Q)) : zz_E zp_P zt_tf zt_fd X (d + 1) zm_346 138 [(0, .ref 61), (4, .int x4), (5, .int x5), (6, .int x6)] [] (mH h s) Q := by
  refine zz_E.n 139 rfl rfl rfl ?_
  refine mE_g hh 142 (v := .ref 94) rfl rfl rfl ?_
  refine zz_E.n 143 rfl rfl rfl ?_
  refine mE_g hh 146 (v := .int (s.1 55)) rfl rfl rfl ?_
  refine zz_E.c 147 (.int 1) rfl rfl rfl rfl ?_
  refine zz_E.n 148 rfl rfl rfl ?_
  refine zz_E.n 149 rfl rfl rfl ?_
  refine mE_ia hh 150 33 (f := (s.2.2.1 54)) rfl (by decide) rfl rfl i149 rfl ?_
  refine zz_E.c 151 (.int 1) rfl rfl rfl rfl ?_
  refine zz_E.n 152 rfl rfl rfl ?_
  refine mE_is hh 153 33 (f := (s.2.2.1 54)) rfl (by decide) rfl rfl i152 (mA_94 _ _) rfl ?_
  refine zz_E.n 154 rfl rfl rfl ?_
  refine zz_E.n 156 rfl rfl rfl ?_
  refine zz_E.n 158 rfl rfl rfl ?_
  refine mE_cv hh 161 (as := []) rfl rfl (Nat.le_of_ble_eq_true rfl) (Nat.le_of_ble_eq_true rfl) rfl (Nat.le_of_ble_eq_true rfl) rfl ?_
  refine zz_E.mono k ?_
  intro v h' hE
  exact zz_E.weak hE rfl ⟨rfl, rfl, rfl, rfl, trivial⟩
theorem mb_346_161 {X : Nat → Option zz_C} {h : zz_H} (hh : 111 ≤ h.length) {s : mS} {d : Nat} {Q : Option Value → zz_H → Prop} {x4 : Int32} {x5 : Int32} {x6 : Int32} {y0 : Int32} (k1 : ¬ y0 = 0 → zz_E zp_P zt_tf zt_fd X d zm_346 175 [(0, .ref 61), (4, .int x4), (5, .int x5), (6, .int x6)] [] (mH h s) Q) (k2 : ¬ ¬ y0 = 0 → zz_E zp_P zt_tf zt_fd X d zm_346 164 [(0, .ref 61), (4, .int x4), (5, .int x5), (6, .int x6)] [] (mH h s) Q) : zz_E zp_P zt_tf zt_fd X d zm_346 161 [(0, .ref 61), (4, .int x4), (5, .int x5), (6, .int x6)] [.int y0] (mH h s) Q := by
  refine zz_E.b1 175 164 (A := ¬ y0 = 0) rfl (zz_cond_ne _ _) (by decide) rfl rfl (fun c => ?_) (fun c => ?_)
  · exact zz_E.weak (k1 c) rfl ⟨rfl, rfl, rfl, rfl, trivial⟩
  · exact zz_E.weak (k2 c) rfl ⟨rfl, rfl, rfl, rfl, trivial⟩
theorem mb_346_164 {X : Nat → Option zz_C} {h : zz_H} (hh : 111 ≤ h.length) {s : mS} {d : Nat} {Q : Option Value → zz_H → Prop} {x4 : Int32} {x5 : Int32} {x6 : Int32} (k : zz_E zp_P zt_tf zt_fd X d zm_293 0 [(0, .ref 61), (1, .int x5), (2, .int x6)] [] (mH h s) (fun v h' => zz_E zp_P zt_tf zt_fd X (d + 1) zm_346 172 [(0, .ref 61), (4, .int x4), (5, .int x5), (6, .int x6)] (v.toList ++ []) h' Q)) : zz_E zp_P zt_tf zt_fd X (d + 1) zm_346 164 [(0, .ref 61), (4, .int x4), (5, .int x5), (6, .int x6)] [] (mH h s) Q := by
  refine zz_E.n 165 rfl rfl rfl ?_
  refine zz_E.n 167 rfl rfl rfl ?_
  refine zz_E.n 169 rfl rfl rfl ?_
  refine mE_cv hh 172 (as := []) rfl rfl (Nat.le_of_ble_eq_true rfl) (Nat.le_of_ble_eq_true rfl) rfl (Nat.le_of_ble_eq_true rfl) rfl ?_
  refine zz_E.mono k ?_
  intro v h' hE
  exact zz_E.weak hE rfl ⟨rfl, rfl, rfl, rfl, trivial⟩
theorem mb_346_172 {X : Nat → Option zz_C} {h : zz_H} (hh : 111 ≤ h.length) {s : mS} {d : Nat} {Q : Option Value → zz_H → Prop} {x4 : Int32} {x5 : Int32} {x6 : Int32} {y0 : Int32} (k1 : y0 = 0 → zz_E zp_P zt_tf zt_fd X d zm_346 237 [(0, .ref 61), (4, .int x4), (5, .int x5), (6, .int x6)] [] (mH h s) Q) (k2 : ¬ y0 = 0 → zz_E zp_P zt_tf zt_fd X d zm_346 175 [(0, .ref 61), (4, .int x4), (5, .int x5), (6, .int x6)] [] (mH h s) Q) : zz_E zp_P zt_tf zt_fd X d zm_346 172 [(0, .ref 61), (4, .int x4), (5, .int x5), (6, .int x6)] [.int y0] (mH h s) Q := by
  refine zz_E.b1 237 175 (A := y0 = 0) rfl rfl (by decide) rfl rfl (fun c => ?_) (fun c => ?_)
  · exact zz_E.weak (k1 c) rfl ⟨rfl, rfl, rfl, rfl, trivial⟩
  · exact zz_E.weak (k2 c) rfl ⟨rfl, rfl, rfl, rfl, trivial⟩
theorem mb_346_175 {X : Nat → Option zz_C} {h : zz_H} (hh : 111 ≤ h.length) {s : mS} {d : Nat} {Q : Option Value → zz_H → Prop} {x4 : Int32} {x5 : Int32} {x6 : Int32} (k : zz_E zp_P zt_tf zt_fd X d zm_293 0 [(0, .ref 61), (1, .int x4), (2, .int x6)] [] (mH h s) (fun v h' => zz_E zp_P zt_tf zt_fd X (d + 1) zm_346 183 [(0, .ref 61), (4, .int x4), (5, .int x5), (6, .int x6)] (v.toList ++ []) h' Q)) : zz_E zp_P zt_tf zt_fd X (d + 1) zm_346 175 [(0, .ref 61), (4, .int x4), (5, .int x5), (6, .int x6)] [] (mH h s) Q := by
  refine zz_E.n 176 rfl rfl rfl ?_
  refine zz_E.n 178 rfl rfl rfl ?_
  refine zz_E.n 180 rfl rfl rfl ?_
  refine mE_cv hh 183 (as := []) rfl rfl (Nat.le_of_ble_eq_true rfl) (Nat.le_of_ble_eq_true rfl) rfl (Nat.le_of_ble_eq_true rfl) rfl ?_
  refine zz_E.mono k ?_
  intro v h' hE
  exact zz_E.weak hE rfl ⟨rfl, rfl, rfl, rfl, trivial⟩
theorem mb_346_183 {X : Nat → Option zz_C} {h : zz_H} (hh : 111 ≤ h.length) {s : mS} {d : Nat} {Q : Option Value → zz_H → Prop} {x4 : Int32} {x5 : Int32} {x6 : Int32} {y0 : Int32} (k1 : y0 = 0 → zz_E zp_P zt_tf zt_fd X d zm_346 232 [(0, .ref 61)] [] (mH h s) Q) (k2 : ¬ y0 = 0 → zz_E zp_P zt_tf zt_fd X d zm_346 186 [(0, .ref 61), (4, .int x4), (5, .int x5), (6, .int x6)] [] (mH h s) Q) : zz_E zp_P zt_tf zt_fd X d zm_346 183 [(0, .ref 61), (4, .int x4), (5, .int x5), (6, .int x6)] [.int y0] (mH h s) Q := by
  refine zz_E.b1 232 186 (A := y0 = 0) rfl rfl (by decide) rfl rfl (fun c => ?_) (fun c => ?_)
  · exact zz_E.weak (k1 c) rfl ⟨rfl, trivial⟩
  · exact zz_E.weak (k2 c) rfl ⟨rfl, rfl, rfl, rfl, trivial⟩
theorem mb_346_186 {X : Nat → Option zz_C} {h : zz_H} (hh : 111 ≤ h.length) {s : mS} {d : Nat} {Q : Option Value → zz_H → Prop} {x4 : Int32} {x5 : Int32} {x6 : Int32} (k : zz_E zp_P zt_tf zt_fd X d zm_293 0 [(0, .ref 61), (1, .int x5), (2, .int x6)] [] (mH h s) (fun v h' => zz_E zp_P zt_tf zt_fd X (d + 1) zm_346 194 [(0, .ref 61), (4, .int x4), (5, .int x5), (6, .int x6)] (v.toList ++ []) h' Q)) : zz_E zp_P zt_tf zt_fd X (d + 1) zm_346 186 [(0, .ref 61), (4, .int x4), (5, .int x5), (6, .int x6)] [] (mH h s) Q := by
  refine zz_E.n 187 rfl rfl rfl ?_
  refine zz_E.n 189 rfl rfl rfl ?_
  refine zz_E.n 191 rfl rfl rfl ?_
  refine mE_cv hh 194 (as := []) rfl rfl (Nat.le_of_ble_eq_true rfl) (Nat.le_of_ble_eq_true rfl) rfl (Nat.le_of_ble_eq_true rfl) rfl ?_
  refine zz_E.mono k ?_
  intro v h' hE
  exact zz_E.weak hE rfl ⟨rfl, rfl, rfl, rfl, trivial⟩
theorem mb_346_194 {X : Nat → Option zz_C} {h : zz_H} (hh : 111 ≤ h.length) {s : mS} {d : Nat} {Q : Option Value → zz_H → Prop} {x4 : Int32} {x5 : Int32} {x6 : Int32} {y0 : Int32} (k1 : y0 = 0 → zz_E zp_P zt_tf zt_fd X d zm_346 232 [(0, .ref 61)] [] (mH h s) Q) (k2 : ¬ y0 = 0 → zz_E zp_P zt_tf zt_fd X d zm_346 197 [(0, .ref 61), (4, .int x4), (5, .int x5), (6, .int x6)] [] (mH h s) Q) : zz_E zp_P zt_tf zt_fd X d zm_346 194 [(0, .ref 61), (4, .int x4), (5, .int x5), (6, .int x6)] [.int y0] (mH h s) Q := by
  refine zz_E.b1 232 197 (A := y0 = 0) rfl rfl (by decide) rfl rfl (fun c => ?_) (fun c => ?_)
  · exact zz_E.weak (k1 c) rfl ⟨rfl, trivial⟩
  · exact zz_E.weak (k2 c) rfl ⟨rfl, rfl, rfl, rfl, trivial⟩
theorem mb_346_197 {X : Nat → Option zz_C} {h : zz_H} (hh : 111 ≤ h.length) {s : mS} {d : Nat} {Q : Option Value → zz_H → Prop} {x4 : Int32} {x5 : Int32} {x6 : Int32} (i210 : ¬ (((x4 + 3) + (2 * x6)) < 0 ∨ 166300 ≤ Int32.toNatClampNeg ((x4 + 3) + (2 * x6)))) (i224 : ¬ (((x5 + 3) + (2 * x6)) < 0 ∨ 166300 ≤ Int32.toNatClampNeg ((x5 + 3) + (2 * x6)))) (k1 : ¬ ((s.2.2.1 47) (Int32.toNatClampNeg ((x4 + 3) + (2 * x6)))) = ((s.2.2.1 47) (Int32.toNatClampNeg ((x5 + 3) + (2 * x6)))) → zz_E zp_P zt_tf zt_fd X d zm_346 232 [(0, .ref 61)] [] (mH h s) Q) (k2 : ¬ ¬ ((s.2.2.1 47) (Int32.toNatClampNeg ((x4 + 3) + (2 * x6)))) = ((s.2.2.1 47) (Int32.toNatClampNeg ((x5 + 3) + (2 * x6)))) → zz_E zp_P zt_tf zt_fd X d zm_346 228 [(0, .ref 61)] [] (mH h s) Q) : zz_E zp_P zt_tf zt_fd X d zm_346 197 [(0, .ref 61), (4, .int x4), (5, .int x5), (6, .int x6)] [] (mH h s) Q := by
  refine zz_E.n 198 rfl rfl rfl ?_
  refine mE_g hh 201 (v := .ref 89) rfl rfl rfl ?_
  refine zz_E.n 203 rfl rfl rfl ?_
  refine zz_E.c 204 (.int 3) rfl rfl rfl rfl ?_
  refine zz_E.n 205 rfl rfl rfl ?_
  refine zz_E.c 206 (.int 2) rfl rfl rfl rfl ?_
  refine zz_E.n 208 rfl rfl rfl ?_
  refine zz_E.n 209 rfl rfl rfl ?_
  refine zz_E.n 210 rfl rfl rfl ?_
  refine mE_ia hh 211 28 (f := (s.2.2.1 47)) rfl (by decide) rfl rfl i210 rfl ?_
  refine zz_E.n 212 rfl rfl rfl ?_
  refine mE_g hh 215 (v := .ref 89) rfl rfl rfl ?_
  refine zz_E.n 217 rfl rfl rfl ?_
  refine zz_E.c 218 (.int 3) rfl rfl rfl rfl ?_
  refine zz_E.n 219 rfl rfl rfl ?_
  refine zz_E.c 220 (.int 2) rfl rfl rfl rfl ?_
  refine zz_E.n 222 rfl rfl rfl ?_
  refine zz_E.n 223 rfl rfl rfl ?_
  refine zz_E.n 224 rfl rfl rfl ?_
  refine mE_ia hh 225 28 (f := (s.2.2.1 47)) rfl (by decide) rfl rfl i224 rfl ?_
  refine zz_E.b2 232 228 (A := ¬ ((s.2.2.1 47) (Int32.toNatClampNeg ((x4 + 3) + (2 * x6)))) = ((s.2.2.1 47) (Int32.toNatClampNeg ((x5 + 3) + (2 * x6))))) rfl (zz_cond_ne _ _) (by decide) rfl rfl (fun c => ?_) (fun c => ?_)
  · exact zz_E.weak (k1 c) rfl ⟨rfl, trivial⟩
  · exact zz_E.weak (k2 c) rfl ⟨rfl, trivial⟩
theorem mb_346_228 {X : Nat → Option zz_C} {h : zz_H} (hh : 111 ≤ h.length) {s : mS} {d : Nat} {Q : Option Value → zz_H → Prop}  (k : zz_E zp_P zt_tf zt_fd X d zm_346 233 [(0, .ref 61)] [.int 1] (mH h s) Q) : zz_E zp_P zt_tf zt_fd X d zm_346 228 [(0, .ref 61)] [] (mH h s) Q := by
  refine zz_E.c 229 (.int 1) rfl rfl rfl rfl ?_
  refine zz_E.n 233 rfl rfl rfl ?_
  exact zz_E.weak k rfl ⟨rfl, trivial⟩
theorem mb_346_232 {X : Nat → Option zz_C} {h : zz_H} (hh : 111 ≤ h.length) {s : mS} {d : Nat} {Q : Option Value → zz_H → Prop}  (k : zz_E zp_P zt_tf zt_fd X d zm_346 233 [(0, .ref 61)] [.int 0] (mH h s) Q) : zz_E zp_P zt_tf zt_fd X d zm_346 232 [(0, .ref 61)] [] (mH h s) Q := by
  refine zz_E.c 233 (.int 0) rfl rfl rfl rfl ?_
  exact zz_E.weak k rfl ⟨rfl, trivial⟩
theorem mb_346_233 {X : Nat → Option zz_C} {h : zz_H} (hh : 111 ≤ h.length) {s : mS} {d : Nat} {Q : Option Value → zz_H → Prop} {y0 : Int32} (k : zz_E zp_P zt_tf zt_fd X d zm_346 64 [(0, .ref 61), (3, .int y0)] [] (mH h s) Q) : zz_E zp_P zt_tf zt_fd X d zm_346 233 [(0, .ref 61)] [.int y0] (mH h s) Q := by
  refine zz_E.n 234 rfl rfl rfl ?_
  refine zz_E.n 64 rfl rfl rfl ?_
  exact zz_E.weak k rfl ⟨rfl, rfl, trivial⟩
theorem mb_346_237 {X : Nat → Option zz_C} {h : zz_H} (hh : 111 ≤ h.length) {s : mS} {d : Nat} {Q : Option Value → zz_H → Prop} {x4 : Int32} {x5 : Int32} {x6 : Int32} (k : zz_E zp_P zt_tf zt_fd X d zm_294 0 [(0, .ref 61), (1, .int x4), (2, .int x6)] [] (mH h s) (fun v h' => zz_E zp_P zt_tf zt_fd X (d + 1) zm_346 245 [(0, .ref 61), (5, .int x5), (6, .int x6)] (v.toList ++ []) h' Q)) : zz_E zp_P zt_tf zt_fd X (d + 1) zm_346 237 [(0, .ref 61), (4, .int x4), (5, .int x5), (6, .int x6)] [] (mH h s) Q := by
  refine zz_E.n 238 rfl rfl rfl ?_
  refine zz_E.n 240 rfl rfl rfl ?_
  refine zz_E.n 242 rfl rfl rfl ?_
  refine mE_cv hh 245 (as := []) rfl rfl (Nat.le_of_ble_eq_true rfl) (Nat.le_of_ble_eq_true rfl) rfl (Nat.le_of_ble_eq_true rfl) rfl ?_
  refine zz_E.mono k ?_
  intro v h' hE
  exact zz_E.weak hE rfl ⟨rfl, rfl, rfl, trivial⟩
theorem mb_346_245 {X : Nat → Option zz_C} {h : zz_H} (hh : 111 ≤ h.length) {s : mS} {d : Nat} {Q : Option Value → zz_H → Prop} {x5 : Int32} {x6 : Int32} {y0 : Int32} (k : zz_E zp_P zt_tf zt_fd X d zm_294 0 [(0, .ref 61), (1, .int x5), (2, .int x6)] [] (mH h s) (fun v h' => zz_E zp_P zt_tf zt_fd X (d + 1) zm_346 255 [(0, .ref 61), (7, .int y0)] (v.toList ++ []) h' Q)) : zz_E zp_P zt_tf zt_fd X (d + 1) zm_346 245 [(0, .ref 61), (5, .int x5), (6, .int x6)] [.int y0] (mH h s) Q := by
  refine zz_E.n 247 rfl rfl rfl ?_
  refine zz_E.n 248 rfl rfl rfl ?_
  refine zz_E.n 250 rfl rfl rfl ?_
  refine zz_E.n 252 rfl rfl rfl ?_
  refine mE_cv hh 255 (as := []) rfl rfl (Nat.le_of_ble_eq_true rfl) (Nat.le_of_ble_eq_true rfl) rfl (Nat.le_of_ble_eq_true rfl) rfl ?_
  refine zz_E.mono k ?_
  intro v h' hE
  exact zz_E.weak hE rfl ⟨rfl, rfl, trivial⟩
theorem mb_346_255 {X : Nat → Option zz_C} {h : zz_H} (hh : 111 ≤ h.length) {s : mS} {d : Nat} {Q : Option Value → zz_H → Prop} {x7 : Int32} {y0 : Int32} (i263 : ¬ (x7 < 0 ∨ 166300 ≤ Int32.toNatClampNeg x7)) (i270 : ¬ (y0 < 0 ∨ 166300 ≤ Int32.toNatClampNeg y0)) (k1 : ¬ ((s.2.2.1 47) (Int32.toNatClampNeg x7)) = ((s.2.2.1 47) (Int32.toNatClampNeg y0)) → zz_E zp_P zt_tf zt_fd X d zm_346 318 [(0, .ref 61), (7, .int x7), (8, .int y0)] [] (mH h s) Q) (k2 : ¬ ¬ ((s.2.2.1 47) (Int32.toNatClampNeg x7)) = ((s.2.2.1 47) (Int32.toNatClampNeg y0)) → zz_E zp_P zt_tf zt_fd X d zm_346 274 [(0, .ref 61), (7, .int x7), (8, .int y0)] [] (mH h s) Q) : zz_E zp_P zt_tf zt_fd X d zm_346 255 [(0, .ref 61), (7, .int x7)] [.int y0] (mH h s) Q := by
  refine zz_E.n 257 rfl rfl rfl ?_
  refine zz_E.n 258 rfl rfl rfl ?_
  refine mE_g hh 261 (v := .ref 89) rfl rfl rfl ?_
  refine zz_E.n 263 rfl rfl rfl ?_
  refine mE_ia hh 264 28 (f := (s.2.2.1 47)) rfl (by decide) rfl rfl i263 rfl ?_
  refine zz_E.n 265 rfl rfl rfl ?_
  refine mE_g hh 268 (v := .ref 89) rfl rfl rfl ?_
  refine zz_E.n 270 rfl rfl rfl ?_
  refine mE_ia hh 271 28 (f := (s.2.2.1 47)) rfl (by decide) rfl rfl i270 rfl ?_
  refine zz_E.b2 318 274 (A := ¬ ((s.2.2.1 47) (Int32.toNatClampNeg x7)) = ((s.2.2.1 47) (Int32.toNatClampNeg y0))) rfl (zz_cond_ne _ _) (by decide) rfl rfl (fun c => ?_) (fun c => ?_)
  · exact zz_E.weak (k1 c) rfl ⟨rfl, rfl, rfl, trivial⟩
  · exact zz_E.weak (k2 c) rfl ⟨rfl, rfl, rfl, trivial⟩
theorem mb_346_274 {X : Nat → Option zz_C} {h : zz_H} (hh : 111 ≤ h.length) {s : mS} {d : Nat} {Q : Option Value → zz_H → Prop} {x7 : Int32} {x8 : Int32} (i280 : ¬ (x7 < 0 ∨ 166300 ≤ Int32.toNatClampNeg x7)) (k1 : ¬ ((s.2.2.1 47) (Int32.toNatClampNeg x7)) = 3 → zz_E zp_P zt_tf zt_fd X d zm_346 303 [(0, .ref 61), (7, .int x7), (8, .int x8)] [] (mH h s) Q) (k2 : ¬ ¬ ((s.2.2.1 47) (Int32.toNatClampNeg x7)) = 3 → zz_E zp_P zt_tf zt_fd X d zm_346 285 [(0, .ref 61), (7, .int x7), (8, .int x8)] [] (mH h s) Q) : zz_E zp_P zt_tf zt_fd X d zm_346 274 [(0, .ref 61), (7, .int x7), (8, .int x8)] [] (mH h s) Q := by
  refine zz_E.n 275 rfl rfl rfl ?_
  refine mE_g hh 278 (v := .ref 89) rfl rfl rfl ?_
  refine zz_E.n 280 rfl rfl rfl ?_
  refine mE_ia hh 281 28 (f := (s.2.2.1 47)) rfl (by decide) rfl rfl i280 rfl ?_
  refine zz_E.c 282 (.int 3) rfl rfl rfl rfl ?_
  refine zz_E.b2 303 285 (A := ¬ ((s.2.2.1 47) (Int32.toNatClampNeg x7)) = 3) rfl (zz_cond_ne _ _) (by decide) rfl rfl (fun c => ?_) (fun c => ?_)
  · exact zz_E.weak (k1 c) rfl ⟨rfl, rfl, rfl, trivial⟩
  · exact zz_E.weak (k2 c) rfl ⟨rfl, rfl, rfl, trivial⟩
theorem mb_346_285 {X : Nat → Option zz_C} {h : zz_H} (hh : 111 ≤ h.length) {s : mS} {d : Nat} {Q : Option Value → zz_H → Prop} {x7 : Int32} {x8 : Int32} (k : zz_E zp_P zt_tf zt_fd X d zm_77 0 [(0, .ref 61), (1, .int x7)] [] (mH h s) (fun v h' => zz_E zp_P zt_tf zt_fd X (d + 1) zm_346 291 [(0, .ref 61), (7, .int x7), (8, .int x8)] (v.toList ++ []) h' Q)) : zz_E zp_P zt_tf zt_fd X (d + 1) zm_346 285 [(0, .ref 61), (7, .int x7), (8, .int x8)] [] (mH h s) Q := by
  refine zz_E.n 286 rfl rfl rfl ?_
  refine zz_E.n 288 rfl rfl rfl ?_
  refine mE_cv hh 291 (as := []) rfl rfl (Nat.le_of_ble_eq_true rfl) (Nat.le_of_ble_eq_true rfl) rfl (Nat.le_of_ble_eq_true rfl) rfl ?_
  refine zz_E.mono k ?_
  intro v h' hE
  exact zz_E.weak hE rfl ⟨rfl, rfl, rfl, trivial⟩
theorem mb_346_291 {X : Nat → Option zz_C} {h : zz_H} (hh : 111 ≤ h.length) {s : mS} {d : Nat} {Q : Option Value → zz_H → Prop} {x7 : Int32} {x8 : Int32} {y0 : Int32} (k : zz_E zp_P zt_tf zt_fd X d zm_77 0 [(0, .ref 61), (1, .int x8)] [] (mH h s) (fun v h' => zz_E zp_P zt_tf zt_fd X (d + 1) zm_346 297 [(0, .ref 61), (7, .int x7), (8, .int x8)] (v.toList ++ [.int y0]) h' Q)) : zz_E zp_P zt_tf zt_fd X (d + 1) zm_346 291 [(0, .ref 61), (7, .int x7), (8, .int x8)] [.int y0] (mH h s) Q := by
  refine zz_E.n 292 rfl rfl rfl ?_
  refine zz_E.n 294 rfl rfl rfl ?_
  refine mE_cv hh 297 (as := [.int y0]) rfl rfl (Nat.le_of_ble_eq_true rfl) (Nat.le_of_ble_eq_true rfl) rfl (Nat.le_of_ble_eq_true rfl) rfl ?_
  refine zz_E.mono k ?_
  intro v h' hE
  exact zz_E.weak hE rfl ⟨rfl, rfl, rfl, trivial⟩
theorem mb_346_297 {X : Nat → Option zz_C} {h : zz_H} (hh : 111 ≤ h.length) {s : mS} {d : Nat} {Q : Option Value → zz_H → Prop} {x7 : Int32} {x8 : Int32} {y0 : Int32} {y1 : Int32} (k1 : ¬ y0 = y1 → zz_E zp_P zt_tf zt_fd X d zm_346 318 [(0, .ref 61), (7, .int x7), (8, .int x8)] [] (mH h s) Q) (k2 : ¬ ¬ y0 = y1 → zz_E zp_P zt_tf zt_fd X d zm_346 300 [(0, .ref 61), (7, .int x7), (8, .int x8)] [] (mH h s) Q) : zz_E zp_P zt_tf zt_fd X d zm_346 297 [(0, .ref 61), (7, .int x7), (8, .int x8)] [.int y1, .int y0] (mH h s) Q := by
  refine zz_E.b2 318 300 (A := ¬ y0 = y1) rfl (zz_cond_ne _ _) (by decide) rfl rfl (fun c => ?_) (fun c => ?_)
  · exact zz_E.weak (k1 c) rfl ⟨rfl, rfl, rfl, trivial⟩
  · exact zz_E.weak (k2 c) rfl ⟨rfl, rfl, rfl, trivial⟩
theorem mb_346_300 {X : Nat → Option zz_C} {h : zz_H} (hh : 111 ≤ h.length) {s : mS} {d : Nat} {Q : Option Value → zz_H → Prop} {x7 : Int32} {x8 : Int32} (k : zz_E zp_P zt_tf zt_fd X d zm_346 314 [(0, .ref 61), (7, .int x7), (8, .int x8)] [] (mH h s) Q) : zz_E zp_P zt_tf zt_fd X d zm_346 300 [(0, .ref 61), (7, .int x7), (8, .int x8)] [] (mH h s) Q := by
  refine zz_E.n 314 rfl rfl rfl ?_
  exact zz_E.weak k rfl ⟨rfl, rfl, rfl, trivial⟩
theorem mb_346_303 {X : Nat → Option zz_C} {h : zz_H} (hh : 111 ≤ h.length) {s : mS} {d : Nat} {Q : Option Value → zz_H → Prop} {x7 : Int32} {x8 : Int32} (k : zz_E zp_P zt_tf zt_fd X d zm_345 0 [(0, .ref 61), (1, .int x7), (2, .int x8)] [] (mH h s) (fun v h' => zz_E zp_P zt_tf zt_fd X (d + 1) zm_346 311 [(0, .ref 61), (7, .int x7), (8, .int x8)] (v.toList ++ []) h' Q)) : zz_E zp_P zt_tf zt_fd X (d + 1) zm_346 303 [(0, .ref 61), (7, .int x7), (8, .int x8)] [] (mH h s) Q := by
  refine zz_E.n 304 rfl rfl rfl ?_
  refine zz_E.n 306 rfl rfl rfl ?_
  refine zz_E.n 308 rfl rfl rfl ?_
  refine mE_cv hh 311 (as := []) rfl rfl (Nat.le_of_ble_eq_true rfl) (Nat.le_of_ble_eq_true rfl) rfl (Nat.le_of_ble_eq_true rfl) rfl ?_
  refine zz_E.mono k ?_
  intro v h' hE
  exact zz_E.weak hE rfl ⟨rfl, rfl, rfl, trivial⟩
theorem mb_346_311 {X : Nat → Option zz_C} {h : zz_H} (hh : 111 ≤ h.length) {s : mS} {d : Nat} {Q : Option Value → zz_H → Prop} {x7 : Int32} {x8 : Int32} {y0 : Int32} (k1 : y0 = 0 → zz_E zp_P zt_tf zt_fd X d zm_346 318 [(0, .ref 61), (7, .int x7), (8, .int x8)] [] (mH h s) Q) (k2 : ¬ y0 = 0 → zz_E zp_P zt_tf zt_fd X d zm_346 314 [(0, .ref 61), (7, .int x7), (8, .int x8)] [] (mH h s) Q) : zz_E zp_P zt_tf zt_fd X d zm_346 311 [(0, .ref 61), (7, .int x7), (8, .int x8)] [.int y0] (mH h s) Q := by
  refine zz_E.b1 318 314 (A := y0 = 0) rfl rfl (by decide) rfl rfl (fun c => ?_) (fun c => ?_)
  · exact zz_E.weak (k1 c) rfl ⟨rfl, rfl, rfl, trivial⟩
  · exact zz_E.weak (k2 c) rfl ⟨rfl, rfl, rfl, trivial⟩
theorem mb_346_314 {X : Nat → Option zz_C} {h : zz_H} (hh : 111 ≤ h.length) {s : mS} {d : Nat} {Q : Option Value → zz_H → Prop} {x7 : Int32} {x8 : Int32} (k : zz_E zp_P zt_tf zt_fd X d zm_346 319 [(0, .ref 61), (7, .int x7), (8, .int x8)] [.int 1] (mH h s) Q) : zz_E zp_P zt_tf zt_fd X d zm_346 314 [(0, .ref 61), (7, .int x7), (8, .int x8)] [] (mH h s) Q := by
  refine zz_E.c 315 (.int 1) rfl rfl rfl rfl ?_
  refine zz_E.n 319 rfl rfl rfl ?_
  exact zz_E.weak k rfl ⟨rfl, rfl, rfl, trivial⟩
theorem mb_346_318 {X : Nat → Option zz_C} {h : zz_H} (hh : 111 ≤ h.length) {s : mS} {d : Nat} {Q : Option Value → zz_H → Prop} {x7 : Int32} {x8 : Int32} (k : zz_E zp_P zt_tf zt_fd X d zm_346 319 [(0, .ref 61), (7, .int x7), (8, .int x8)] [.int 0] (mH h s) Q) : zz_E zp_P zt_tf zt_fd X d zm_346 318 [(0, .ref 61), (7, .int x7), (8, .int x8)] [] (mH h s) Q := by
  refine zz_E.c 319 (.int 0) rfl rfl rfl rfl ?_
  exact zz_E.weak k rfl ⟨rfl, rfl, rfl, trivial⟩
theorem mb_346_319 {X : Nat → Option zz_C} {h : zz_H} (hh : 111 ≤ h.length) {s : mS} {d : Nat} {Q : Option Value → zz_H → Prop} {x7 : Int32} {x8 : Int32} {y0 : Int32} (i326 : ¬ (x7 < 0 ∨ 166300 ≤ Int32.toNatClampNeg x7)) (k1 : ¬ ((s.2.2.1 47) (Int32.toNatClampNeg x7)) = 3 → zz_E zp_P zt_tf zt_fd X d zm_346 339 [(0, .ref 61), (3, .int y0)] [] (mH h s) Q) (k2 : ¬ ¬ ((s.2.2.1 47) (Int32.toNatClampNeg x7)) = 3 → zz_E zp_P zt_tf zt_fd X d zm_346 331 [(0, .ref 61), (3, .int y0), (7, .int x7), (8, .int x8)] [] (mH h s) Q) : zz_E zp_P zt_tf zt_fd X d zm_346 319 [(0, .ref 61), (7, .int x7), (8, .int x8)] [.int y0] (mH h s) Q := by
  refine zz_E.n 320 rfl rfl rfl ?_
  refine zz_E.n 321 rfl rfl rfl ?_
  refine mE_g hh 324 (v := .ref 89) rfl rfl rfl ?_
  refine zz_E.n 326 rfl rfl rfl ?_
  refine mE_ia hh 327 28 (f := (s.2.2.1 47)) rfl (by decide) rfl rfl i326 rfl ?_
  refine zz_E.c 328 (.int 3) rfl rfl rfl rfl ?_
  refine zz_E.b2 339 331 (A := ¬ ((s.2.2.1 47) (Int32.toNatClampNeg x7)) = 3) rfl (zz_cond_ne _ _) (by decide) rfl rfl (fun c => ?_) (fun c => ?_)
  · exact zz_E.weak (k1 c) rfl ⟨rfl, rfl, trivial⟩
  · exact zz_E.weak (k2 c) rfl ⟨rfl, rfl, rfl, rfl, trivial⟩
theorem mb_346_331 {X : Nat → Option zz_C} {h : zz_H} (hh : 111 ≤ h.length) {s : mS} {d : Nat} {Q : Option Value → zz_H → Prop} {x3 : Int32} {x7 : Int32} {x8 : Int32} (k : zz_E zp_P zt_tf zt_fd X d zm_296 0 [(0, .ref 61), (1, .int x7), (2, .int x8)] [] (mH h s) (fun v h' => zz_E zp_P zt_tf zt_fd X (d + 1) zm_346 339 [(0, .ref 61), (3, .int x3)] (v.toList ++ []) h' Q)) : zz_E zp_P zt_tf zt_fd X (d + 1) zm_346 331 [(0, .ref 61), (3, .int x3), (7, .int x7), (8, .int x8)] [] (mH h s) Q := by
  refine zz_E.n 332 rfl rfl rfl ?_
  refine zz_E.n 334 rfl rfl rfl ?_
  refine zz_E.n 336 rfl rfl rfl ?_
  refine mE_cv hh 339 (as := []) rfl rfl (Nat.le_of_ble_eq_true rfl) (Nat.le_of_ble_eq_true rfl) rfl (Nat.le_of_ble_eq_true rfl) rfl ?_
  refine zz_E.mono k ?_
  intro v h' hE
  exact zz_E.weak hE rfl ⟨rfl, rfl, trivial⟩
theorem mb_346_339 {X : Nat → Option zz_C} {h : zz_H} (hh : 111 ≤ h.length) {s : mS} {d : Nat} {Q : Option Value → zz_H → Prop} {x3 : Int32} (k : zz_E zp_P zt_tf zt_fd X d zm_346 64 [(0, .ref 61), (3, .int x3)] [] (mH h s) Q) : zz_E zp_P zt_tf zt_fd X d zm_346 339 [(0, .ref 61), (3, .int x3)] [] (mH h s) Q := by
  refine zz_E.n 64 rfl rfl rfl ?_
  exact zz_E.weak k rfl ⟨rfl, rfl, trivial⟩
theorem mb_346_342 {X : Nat → Option zz_C} {h : zz_H} (hh : 111 ≤ h.length) {s : mS} {d : Nat} {Q : Option Value → zz_H → Prop} {x3 : Int32} (k : Q (some (.int x3)) (mH h s)) (rb : zz_reti (some .boolean) x3 = true) : zz_E zp_P zt_tf zt_fd X d zm_346 342 [(3, .int x3)] [] (mH h s) Q := by
  refine zz_E.n 343 rfl rfl rfl ?_
  refine zz_E.ret rfl rfl (if_pos ⟨rfl, rb⟩) ?_
  exact k
def mf_346_342 (N : Nat) (x3 : Int32) (s : mS) : mO := if zz_reti (some .boolean) x3 = true then some (s, (some (.int x3))) else none
theorem mr_346_342 {X : Nat → Option zz_C} {h : zz_H} (hh : 111 ≤ h.length) {d : Nat} {N : Nat} {Q : Option Value → zz_H → Prop} {x3 : Int32} {s s' : mS} {v : Option Value} (hf : mf_346_342 N x3 s = some (s', v)) (k : Q v (mH h s')) : zz_E zp_P zt_tf zt_fd X (d + 3) zm_346 342 [(3, .int x3)] [] (mH h s) Q := by
  unfold mf_346_342 at hf
  obtain ⟨rb, hf⟩ := mo_if hf
  cases hf
  exact mb_346_342 hh  k rb
def mf_346_125 (N : Nat) (rc : Nat → Int32 → mS → mO) (x3 : Int32) (s : mS) : mO := rc 0 x3 (mI s 55 ((s.1 55) - 1))
theorem mr_346_125 {X : Nat → Option zz_C} {h : zz_H} (hh : 111 ≤ h.length) {d : Nat} {N : Nat} {rc : Nat → Int32 → mS → mO} (hrc0 : ∀ {Q : Option Value → zz_H → Prop} {x3 : Int32} {s s' : mS} {v : Option Value}, rc 0 x3 s = some (s', v) → Q v (mH h s') → zz_E zp_P zt_tf zt_fd X (d + 3) zm_346 64 [(0, .ref 61), (3, .int x3)] [] (mH h s) Q) {Q : Option Value → zz_H → Prop} {x3 : Int32} {s s' : mS} {v : Option Value} (hf : mf_346_125 N rc x3 s = some (s', v)) (k : Q v (mH h s')) : zz_E zp_P zt_tf zt_fd X (d + 3) zm_346 125 [(0, .ref 61), (3, .int x3)] [] (mH h s) Q := by
  unfold mf_346_125 at hf
  exact mb_346_125 hh  (hrc0 hf k)
def mf_346_339 (N : Nat) (rc : Nat → Int32 → mS → mO) (x3 : Int32) (s : mS) : mO := rc 0 x3 s
theorem mr_346_339 {X : Nat → Option zz_C} {h : zz_H} (hh : 111 ≤ h.length) {d : Nat} {N : Nat} {rc : Nat → Int32 → mS → mO} (hrc0 : ∀ {Q : Option Value → zz_H → Prop} {x3 : Int32} {s s' : mS} {v : Option Value}, rc 0 x3 s = some (s', v) → Q v (mH h s') → zz_E zp_P zt_tf zt_fd X (d + 3) zm_346 64 [(0, .ref 61), (3, .int x3)] [] (mH h s) Q) {Q : Option Value → zz_H → Prop} {x3 : Int32} {s s' : mS} {v : Option Value} (hf : mf_346_339 N rc x3 s = some (s', v)) (k : Q v (mH h s')) : zz_E zp_P zt_tf zt_fd X (d + 3) zm_346 339 [(0, .ref 61), (3, .int x3)] [] (mH h s) Q := by
  unfold mf_346_339 at hf
  exact mb_346_339 hh  (hrc0 hf k)
def mf_346_331 (N : Nat) (rc : Nat → Int32 → mS → mO) (x3 : Int32) (x7 : Int32) (x8 : Int32) (s : mS) : mO := mo_bv (mf_296 N x7 x8 s) (fun s1 => mf_346_339 N rc x3 s1)
theorem mr_346_331 {X : Nat → Option zz_C} {h : zz_H} (hh : 111 ≤ h.length) {d : Nat} {N : Nat} {rc : Nat → Int32 → mS → mO} (hrc0 : ∀ {Q : Option Value → zz_H → Prop} {x3 : Int32} {s s' : mS} {v : Option Value}, rc 0 x3 s = some (s', v) → Q v (mH h s') → zz_E zp_P zt_tf zt_fd X (d + 3) zm_346 64 [(0, .ref 61), (3, .int x3)] [] (mH h s) Q) {Q : Option Value → zz_H → Prop} {x3 : Int32} {x7 : Int32} {x8 : Int32} {s s' : mS} {v : Option Value} (hf : mf_346_331 N rc x3 x7 x8 s = some (s', v)) (k : Q v (mH h s')) : zz_E zp_P zt_tf zt_fd X (d + 3) zm_346 331 [(0, .ref 61), (3, .int x3), (7, .int x7), (8, .int x8)] [] (mH h s) Q := by
  unfold mf_346_331 at hf
  obtain ⟨s1, e, hf⟩ := mo_bv_ok hf
  exact mb_346_331 (d := d + 2) hh  (mr_296 (d := d + 2) hh e (mr_346_339 hh hrc0 hf k))
def mf_346_319 (N : Nat) (rc : Nat → Int32 → mS → mO) (x7 : Int32) (x8 : Int32) (y0 : Int32) (s : mS) : mO := if ¬ (x7 < 0 ∨ 166300 ≤ Int32.toNatClampNeg x7) then (if ¬ ((s.2.2.1 47) (Int32.toNatClampNeg x7)) = 3 then mf_346_339 N rc y0 s else mf_346_331 N rc y0 x7 x8 s) else none
theorem mr_346_319 {X : Nat → Option zz_C} {h : zz_H} (hh : 111 ≤ h.length) {d : Nat} {N : Nat} {rc : Nat → Int32 → mS → mO} (hrc0 : ∀ {Q : Option Value → zz_H → Prop} {x3 : Int32} {s s' : mS} {v : Option Value}, rc 0 x3 s = some (s', v) → Q v (mH h s') → zz_E zp_P zt_tf zt_fd X (d + 3) zm_346 64 [(0, .ref 61), (3, .int x3)] [] (mH h s) Q) {Q : Option Value → zz_H → Prop} {x7 : Int32} {x8 : Int32} {y0 : Int32} {s s' : mS} {v : Option Value} (hf : mf_346_319 N rc x7 x8 y0 s = some (s', v)) (k : Q v (mH h s')) : zz_E zp_P zt_tf zt_fd X (d + 3) zm_346 319 [(0, .ref 61), (7, .int x7), (8, .int x8)] [.int y0] (mH h s) Q := by
  unfold mf_346_319 at hf
  obtain ⟨q0, hf⟩ := mo_if hf
  refine mb_346_319 hh q0 (fun c => ?_) (fun c => ?_)
  · rw [if_pos c] at hf
    exact mr_346_339 hh hrc0 hf k
  · rw [if_neg c] at hf
    exact mr_346_331 hh hrc0 hf k
def mf_346_314 (N : Nat) (rc : Nat → Int32 → mS → mO) (x7 : Int32) (x8 : Int32) (s : mS) : mO := mf_346_319 N rc x7 x8 1 s
theorem mr_346_314 {X : Nat → Option zz_C} {h : zz_H} (hh : 111 ≤ h.length) {d : Nat} {N : Nat} {rc : Nat → Int32 → mS → mO} (hrc0 : ∀ {Q : Option Value → zz_H → Prop} {x3 : Int32} {s s' : mS} {v : Option Value}, rc 0 x3 s = some (s', v) → Q v (mH h s') → zz_E zp_P zt_tf zt_fd X (d + 3) zm_346 64 [(0, .ref 61), (3, .int x3)] [] (mH h s) Q) {Q : Option Value → zz_H → Prop} {x7 : Int32} {x8 : Int32} {s s' : mS} {v : Option Value} (hf : mf_346_314 N rc x7 x8 s = some (s', v)) (k : Q v (mH h s')) : zz_E zp_P zt_tf zt_fd X (d + 3) zm_346 314 [(0, .ref 61), (7, .int x7), (8, .int x8)] [] (mH h s) Q := by
  unfold mf_346_314 at hf
  exact mb_346_314 hh  (mr_346_319 hh hrc0 hf k)
def mf_346_300 (N : Nat) (rc : Nat → Int32 → mS → mO) (x7 : Int32) (x8 : Int32) (s : mS) : mO := mf_346_314 N rc x7 x8 s
theorem mr_346_300 {X : Nat → Option zz_C} {h : zz_H} (hh : 111 ≤ h.length) {d : Nat} {N : Nat} {rc : Nat → Int32 → mS → mO} (hrc0 : ∀ {Q : Option Value → zz_H → Prop} {x3 : Int32} {s s' : mS} {v : Option Value}, rc 0 x3 s = some (s', v) → Q v (mH h s') → zz_E zp_P zt_tf zt_fd X (d + 3) zm_346 64 [(0, .ref 61), (3, .int x3)] [] (mH h s) Q) {Q : Option Value → zz_H → Prop} {x7 : Int32} {x8 : Int32} {s s' : mS} {v : Option Value} (hf : mf_346_300 N rc x7 x8 s = some (s', v)) (k : Q v (mH h s')) : zz_E zp_P zt_tf zt_fd X (d + 3) zm_346 300 [(0, .ref 61), (7, .int x7), (8, .int x8)] [] (mH h s) Q := by
  unfold mf_346_300 at hf
  exact mb_346_300 hh  (mr_346_314 hh hrc0 hf k)
def mf_346_318 (N : Nat) (rc : Nat → Int32 → mS → mO) (x7 : Int32) (x8 : Int32) (s : mS) : mO := mf_346_319 N rc x7 x8 0 s
theorem mr_346_318 {X : Nat → Option zz_C} {h : zz_H} (hh : 111 ≤ h.length) {d : Nat} {N : Nat} {rc : Nat → Int32 → mS → mO} (hrc0 : ∀ {Q : Option Value → zz_H → Prop} {x3 : Int32} {s s' : mS} {v : Option Value}, rc 0 x3 s = some (s', v) → Q v (mH h s') → zz_E zp_P zt_tf zt_fd X (d + 3) zm_346 64 [(0, .ref 61), (3, .int x3)] [] (mH h s) Q) {Q : Option Value → zz_H → Prop} {x7 : Int32} {x8 : Int32} {s s' : mS} {v : Option Value} (hf : mf_346_318 N rc x7 x8 s = some (s', v)) (k : Q v (mH h s')) : zz_E zp_P zt_tf zt_fd X (d + 3) zm_346 318 [(0, .ref 61), (7, .int x7), (8, .int x8)] [] (mH h s) Q := by
  unfold mf_346_318 at hf
  exact mb_346_318 hh  (mr_346_319 hh hrc0 hf k)
def mf_346_297 (N : Nat) (rc : Nat → Int32 → mS → mO) (x7 : Int32) (x8 : Int32) (y0 : Int32) (y1 : Int32) (s : mS) : mO := if ¬ y0 = y1 then mf_346_318 N rc x7 x8 s else mf_346_300 N rc x7 x8 s
theorem mr_346_297 {X : Nat → Option zz_C} {h : zz_H} (hh : 111 ≤ h.length) {d : Nat} {N : Nat} {rc : Nat → Int32 → mS → mO} (hrc0 : ∀ {Q : Option Value → zz_H → Prop} {x3 : Int32} {s s' : mS} {v : Option Value}, rc 0 x3 s = some (s', v) → Q v (mH h s') → zz_E zp_P zt_tf zt_fd X (d + 3) zm_346 64 [(0, .ref 61), (3, .int x3)] [] (mH h s) Q) {Q : Option Value → zz_H → Prop} {x7 : Int32} {x8 : Int32} {y0 : Int32} {y1 : Int32} {s s' : mS} {v : Option Value} (hf : mf_346_297 N rc x7 x8 y0 y1 s = some (s', v)) (k : Q v (mH h s')) : zz_E zp_P zt_tf zt_fd X (d + 3) zm_346 297 [(0, .ref 61), (7, .int x7), (8, .int x8)] [.int y1, .int y0] (mH h s) Q := by
  unfold mf_346_297 at hf
  refine mb_346_297 hh  (fun c => ?_) (fun c => ?_)
  · rw [if_pos c] at hf
    exact mr_346_318 hh hrc0 hf k
  · rw [if_neg c] at hf
    exact mr_346_300 hh hrc0 hf k
def mf_346_291 (N : Nat) (rc : Nat → Int32 → mS → mO) (x7 : Int32) (x8 : Int32) (y0 : Int32) (s : mS) : mO := mo_bi (mf_77 N x8 s) (fun s1 y => mf_346_297 N rc x7 x8 y0 y s1)
theorem mr_346_291 {X : Nat → Option zz_C} {h : zz_H} (hh : 111 ≤ h.length) {d : Nat} {N : Nat} {rc : Nat → Int32 → mS → mO} (hrc0 : ∀ {Q : Option Value → zz_H → Prop} {x3 : Int32} {s s' : mS} {v : Option Value}, rc 0 x3 s = some (s', v) → Q v (mH h s') → zz_E zp_P zt_tf zt_fd X (d + 3) zm_346 64 [(0, .ref 61), (3, .int x3)] [] (mH h s) Q) {Q : Option Value → zz_H → Prop} {x7 : Int32} {x8 : Int32} {y0 : Int32} {s s' : mS} {v : Option Value} (hf : mf_346_291 N rc x7 x8 y0 s = some (s', v)) (k : Q v (mH h s')) : zz_E zp_P zt_tf zt_fd X (d + 3) zm_346 291 [(0, .ref 61), (7, .int x7), (8, .int x8)] [.int y0] (mH h s) Q := by
  unfold mf_346_291 at hf
  obtain ⟨s1, y, e, hf⟩ := mo_bi_ok hf
  exact mb_346_291 (d := d + 2) hh  (mr_77 (d := d + 2) hh e (mr_346_297 hh hrc0 hf k))
def mf_346_285 (N : Nat) (rc : Nat → Int32 → mS → mO) (x7 : Int32) (x8 : Int32) (s : mS) : mO := mo_bi (mf_77 N x7 s) (fun s1 y => mf_346_291 N rc x7 x8 y s1)
theorem mr_346_285 {X : Nat → Option zz_C} {h : zz_H} (hh : 111 ≤ h.length) {d : Nat} {N : Nat} {rc : Nat → Int32 → mS → mO} (hrc0 : ∀ {Q : Option Value → zz_H → Prop} {x3 : Int32} {s s' : mS} {v : Option Value}, rc 0 x3 s = some (s', v) → Q v (mH h s') → zz_E zp_P zt_tf zt_fd X (d + 3) zm_346 64 [(0, .ref 61), (3, .int x3)] [] (mH h s) Q) {Q : Option Value → zz_H → Prop} {x7 : Int32} {x8 : Int32} {s s' : mS} {v : Option Value} (hf : mf_346_285 N rc x7 x8 s = some (s', v)) (k : Q v (mH h s')) : zz_E zp_P zt_tf zt_fd X (d + 3) zm_346 285 [(0, .ref 61), (7, .int x7), (8, .int x8)] [] (mH h s) Q := by
  unfold mf_346_285 at hf
  obtain ⟨s1, y, e, hf⟩ := mo_bi_ok hf
  exact mb_346_285 (d := d + 2) hh  (mr_77 (d := d + 2) hh e (mr_346_291 hh hrc0 hf k))
def mf_346_311 (N : Nat) (rc : Nat → Int32 → mS → mO) (x7 : Int32) (x8 : Int32) (y0 : Int32) (s : mS) : mO := if y0 = 0 then mf_346_318 N rc x7 x8 s else mf_346_314 N rc x7 x8 s
theorem mr_346_311 {X : Nat → Option zz_C} {h : zz_H} (hh : 111 ≤ h.length) {d : Nat} {N : Nat} {rc : Nat → Int32 → mS → mO} (hrc0 : ∀ {Q : Option Value → zz_H → Prop} {x3 : Int32} {s s' : mS} {v : Option Value}, rc 0 x3 s = some (s', v) → Q v (mH h s') → zz_E zp_P zt_tf zt_fd X (d + 3) zm_346 64 [(0, .ref 61), (3, .int x3)] [] (mH h s) Q) {Q : Option Value → zz_H → Prop} {x7 : Int32} {x8 : Int32} {y0 : Int32} {s s' : mS} {v : Option Value} (hf : mf_346_311 N rc x7 x8 y0 s = some (s', v)) (k : Q v (mH h s')) : zz_E zp_P zt_tf zt_fd X (d + 3) zm_346 311 [(0, .ref 61), (7, .int x7), (8, .int x8)] [.int y0] (mH h s) Q := by
  unfold mf_346_311 at hf
  refine mb_346_311 hh  (fun c => ?_) (fun c => ?_)
  · rw [if_pos c] at hf
    exact mr_346_318 hh hrc0 hf k
  · rw [if_neg c] at hf
    exact mr_346_314 hh hrc0 hf k
def mf_346_303 (N : Nat) (rc : Nat → Int32 → mS → mO) (x7 : Int32) (x8 : Int32) (s : mS) : mO := mo_bi (mf_345 N x7 x8 s) (fun s1 y => mf_346_311 N rc x7 x8 y s1)
theorem mr_346_303 {X : Nat → Option zz_C} {h : zz_H} (hh : 111 ≤ h.length) {d : Nat} {N : Nat} {rc : Nat → Int32 → mS → mO} (hrc0 : ∀ {Q : Option Value → zz_H → Prop} {x3 : Int32} {s s' : mS} {v : Option Value}, rc 0 x3 s = some (s', v) → Q v (mH h s') → zz_E zp_P zt_tf zt_fd X (d + 3) zm_346 64 [(0, .ref 61), (3, .int x3)] [] (mH h s) Q) {Q : Option Value → zz_H → Prop} {x7 : Int32} {x8 : Int32} {s s' : mS} {v : Option Value} (hf : mf_346_303 N rc x7 x8 s = some (s', v)) (k : Q v (mH h s')) : zz_E zp_P zt_tf zt_fd X (d + 3) zm_346 303 [(0, .ref 61), (7, .int x7), (8, .int x8)] [] (mH h s) Q := by
  unfold mf_346_303 at hf
  obtain ⟨s1, y, e, hf⟩ := mo_bi_ok hf
  exact mb_346_303 (d := d + 2) hh  (mr_345 (d := d + 0) hh e (mr_346_311 hh hrc0 hf k))
def mf_346_274 (N : Nat) (rc : Nat → Int32 → mS → mO) (x7 : Int32) (x8 : Int32) (s : mS) : mO := if ¬ (x7 < 0 ∨ 166300 ≤ Int32.toNatClampNeg x7) then (if ¬ ((s.2.2.1 47) (Int32.toNatClampNeg x7)) = 3 then mf_346_303 N rc x7 x8 s else mf_346_285 N rc x7 x8 s) else none
theorem mr_346_274 {X : Nat → Option zz_C} {h : zz_H} (hh : 111 ≤ h.length) {d : Nat} {N : Nat} {rc : Nat → Int32 → mS → mO} (hrc0 : ∀ {Q : Option Value → zz_H → Prop} {x3 : Int32} {s s' : mS} {v : Option Value}, rc 0 x3 s = some (s', v) → Q v (mH h s') → zz_E zp_P zt_tf zt_fd X (d + 3) zm_346 64 [(0, .ref 61), (3, .int x3)] [] (mH h s) Q) {Q : Option Value → zz_H → Prop} {x7 : Int32} {x8 : Int32} {s s' : mS} {v : Option Value} (hf : mf_346_274 N rc x7 x8 s = some (s', v)) (k : Q v (mH h s')) : zz_E zp_P zt_tf zt_fd X (d + 3) zm_346 274 [(0, .ref 61), (7, .int x7), (8, .int x8)] [] (mH h s) Q := by
  unfold mf_346_274 at hf
  obtain ⟨q0, hf⟩ := mo_if hf
  refine mb_346_274 hh q0 (fun c => ?_) (fun c => ?_)
  · rw [if_pos c] at hf
    exact mr_346_303 hh hrc0 hf k
  · rw [if_neg c] at hf
    exact mr_346_285 hh hrc0 hf k
def mf_346_255 (N : Nat) (rc : Nat → Int32 → mS → mO) (x7 : Int32) (y0 : Int32) (s : mS) : mO := if ¬ (x7 < 0 ∨ 166300 ≤ Int32.toNatClampNeg x7) then (if ¬ (y0 < 0 ∨ 166300 ≤ Int32.toNatClampNeg y0) then (if ¬ ((s.2.2.1 47) (Int32.toNatClampNeg x7)) = ((s.2.2.1 47) (Int32.toNatClampNeg y0)) then mf_346_318 N rc x7 y0 s else mf_346_274 N rc x7 y0 s) else none) else none
theorem mr_346_255 {X : Nat → Option zz_C} {h : zz_H} (hh : 111 ≤ h.length) {d : Nat} {N : Nat} {rc : Nat → Int32 → mS → mO} (hrc0 : ∀ {Q : Option Value → zz_H → Prop} {x3 : Int32} {s s' : mS} {v : Option Value}, rc 0 x3 s = some (s', v) → Q v (mH h s') → zz_E zp_P zt_tf zt_fd X (d + 3) zm_346 64 [(0, .ref 61), (3, .int x3)] [] (mH h s) Q) {Q : Option Value → zz_H → Prop} {x7 : Int32} {y0 : Int32} {s s' : mS} {v : Option Value} (hf : mf_346_255 N rc x7 y0 s = some (s', v)) (k : Q v (mH h s')) : zz_E zp_P zt_tf zt_fd X (d + 3) zm_346 255 [(0, .ref 61), (7, .int x7)] [.int y0] (mH h s) Q := by
  unfold mf_346_255 at hf
  obtain ⟨q0, hf⟩ := mo_if hf
  obtain ⟨q1, hf⟩ := mo_if hf
  refine mb_346_255 hh q0 q1 (fun c => ?_) (fun c => ?_)
  · rw [if_pos c] at hf
    exact mr_346_318 hh hrc0 hf k
  · rw [if_neg c] at hf
    exact mr_346_274 hh hrc0 hf k
def mf_346_245 (N : Nat) (rc : Nat → Int32 → mS → mO) (x5 : Int32) (x6 : Int32) (y0 : Int32) (s : mS) : mO := mo_bi (mf_294 N x5 x6 s) (fun s1 y => mf_346_255 N rc y0 y s1)
theorem mr_346_245 {X : Nat → Option zz_C} {h : zz_H} (hh : 111 ≤ h.length) {d : Nat} {N : Nat} {rc : Nat → Int32 → mS → mO} (hrc0 : ∀ {Q : Option Value → zz_H → Prop} {x3 : Int32} {s s' : mS} {v : Option Value}, rc 0 x3 s = some (s', v) → Q v (mH h s') → zz_E zp_P zt_tf zt_fd X (d + 3) zm_346 64 [(0, .ref 61), (3, .int x3)] [] (mH h s) Q) {Q : Option Value → zz_H → Prop} {x5 : Int32} {x6 : Int32} {y0 : Int32} {s s' : mS} {v : Option Value} (hf : mf_346_245 N rc x5 x6 y0 s = some (s', v)) (k : Q v (mH h s')) : zz_E zp_P zt_tf zt_fd X (d + 3) zm_346 245 [(0, .ref 61), (5, .int x5), (6, .int x6)] [.int y0] (mH h s) Q := by
  unfold mf_346_245 at hf
  obtain ⟨s1, y, e, hf⟩ := mo_bi_ok hf
  exact mb_346_245 (d := d + 2) hh  (mr_294 (d := d + 2) hh e (mr_346_255 hh hrc0 hf k))
def mf_346_237 (N : Nat) (rc : Nat → Int32 → mS → mO) (x4 : Int32) (x5 : Int32) (x6 : Int32) (s : mS) : mO := mo_bi (mf_294 N x4 x6 s) (fun s1 y => mf_346_245 N rc x5 x6 y s1)
theorem mr_346_237 {X : Nat → Option zz_C} {h : zz_H} (hh : 111 ≤ h.length) {d : Nat} {N : Nat} {rc : Nat → Int32 → mS → mO} (hrc0 : ∀ {Q : Option Value → zz_H → Prop} {x3 : Int32} {s s' : mS} {v : Option Value}, rc 0 x3 s = some (s', v) → Q v (mH h s') → zz_E zp_P zt_tf zt_fd X (d + 3) zm_346 64 [(0, .ref 61), (3, .int x3)] [] (mH h s) Q) {Q : Option Value → zz_H → Prop} {x4 : Int32} {x5 : Int32} {x6 : Int32} {s s' : mS} {v : Option Value} (hf : mf_346_237 N rc x4 x5 x6 s = some (s', v)) (k : Q v (mH h s')) : zz_E zp_P zt_tf zt_fd X (d + 3) zm_346 237 [(0, .ref 61), (4, .int x4), (5, .int x5), (6, .int x6)] [] (mH h s) Q := by
  unfold mf_346_237 at hf
  obtain ⟨s1, y, e, hf⟩ := mo_bi_ok hf
  exact mb_346_237 (d := d + 2) hh  (mr_294 (d := d + 2) hh e (mr_346_245 hh hrc0 hf k))
def mf_346_233 (N : Nat) (rc : Nat → Int32 → mS → mO) (y0 : Int32) (s : mS) : mO := rc 0 y0 s
theorem mr_346_233 {X : Nat → Option zz_C} {h : zz_H} (hh : 111 ≤ h.length) {d : Nat} {N : Nat} {rc : Nat → Int32 → mS → mO} (hrc0 : ∀ {Q : Option Value → zz_H → Prop} {x3 : Int32} {s s' : mS} {v : Option Value}, rc 0 x3 s = some (s', v) → Q v (mH h s') → zz_E zp_P zt_tf zt_fd X (d + 3) zm_346 64 [(0, .ref 61), (3, .int x3)] [] (mH h s) Q) {Q : Option Value → zz_H → Prop} {y0 : Int32} {s s' : mS} {v : Option Value} (hf : mf_346_233 N rc y0 s = some (s', v)) (k : Q v (mH h s')) : zz_E zp_P zt_tf zt_fd X (d + 3) zm_346 233 [(0, .ref 61)] [.int y0] (mH h s) Q := by
  unfold mf_346_233 at hf
  exact mb_346_233 hh  (hrc0 hf k)
def mf_346_232 (N : Nat) (rc : Nat → Int32 → mS → mO)  (s : mS) : mO := mf_346_233 N rc 0 s
theorem mr_346_232 {X : Nat → Option zz_C} {h : zz_H} (hh : 111 ≤ h.length) {d : Nat} {N : Nat} {rc : Nat → Int32 → mS → mO} (hrc0 : ∀ {Q : Option Value → zz_H → Prop} {x3 : Int32} {s s' : mS} {v : Option Value}, rc 0 x3 s = some (s', v) → Q v (mH h s') → zz_E zp_P zt_tf zt_fd X (d + 3) zm_346 64 [(0, .ref 61), (3, .int x3)] [] (mH h s) Q) {Q : Option Value → zz_H → Prop}  {s s' : mS} {v : Option Value} (hf : mf_346_232 N rc  s = some (s', v)) (k : Q v (mH h s')) : zz_E zp_P zt_tf zt_fd X (d + 3) zm_346 232 [(0, .ref 61)] [] (mH h s) Q := by
  unfold mf_346_232 at hf
  exact mb_346_232 hh  (mr_346_233 hh hrc0 hf k)
def mf_346_228 (N : Nat) (rc : Nat → Int32 → mS → mO)  (s : mS) : mO := mf_346_233 N rc 1 s
theorem mr_346_228 {X : Nat → Option zz_C} {h : zz_H} (hh : 111 ≤ h.length) {d : Nat} {N : Nat} {rc : Nat → Int32 → mS → mO} (hrc0 : ∀ {Q : Option Value → zz_H → Prop} {x3 : Int32} {s s' : mS} {v : Option Value}, rc 0 x3 s = some (s', v) → Q v (mH h s') → zz_E zp_P zt_tf zt_fd X (d + 3) zm_346 64 [(0, .ref 61), (3, .int x3)] [] (mH h s) Q) {Q : Option Value → zz_H → Prop}  {s s' : mS} {v : Option Value} (hf : mf_346_228 N rc  s = some (s', v)) (k : Q v (mH h s')) : zz_E zp_P zt_tf zt_fd X (d + 3) zm_346 228 [(0, .ref 61)] [] (mH h s) Q := by
  unfold mf_346_228 at hf
  exact mb_346_228 hh  (mr_346_233 hh hrc0 hf k)
def mf_346_197 (N : Nat) (rc : Nat → Int32 → mS → mO) (x4 : Int32) (x5 : Int32) (x6 : Int32) (s : mS) : mO := if ¬ (((x4 + 3) + (2 * x6)) < 0 ∨ 166300 ≤ Int32.toNatClampNeg ((x4 + 3) + (2 * x6))) then (if ¬ (((x5 + 3) + (2 * x6)) < 0 ∨ 166300 ≤ Int32.toNatClampNeg ((x5 + 3) + (2 * x6))) then (if ¬ ((s.2.2.1 47) (Int32.toNatClampNeg ((x4 + 3) + (2 * x6)))) = ((s.2.2.1 47) (Int32.toNatClampNeg ((x5 + 3) + (2 * x6)))) then mf_346_232 N rc  s else mf_346_228 N rc  s) else none) else none
theorem mr_346_197 {X : Nat → Option zz_C} {h : zz_H} (hh : 111 ≤ h.length) {d : Nat} {N : Nat} {rc : Nat → Int32 → mS → mO} (hrc0 : ∀ {Q : Option Value → zz_H → Prop} {x3 : Int32} {s s' : mS} {v : Option Value}, rc 0 x3 s = some (s', v) → Q v (mH h s') → zz_E zp_P zt_tf zt_fd X (d + 3) zm_346 64 [(0, .ref 61), (3, .int x3)] [] (mH h s) Q) {Q : Option Value → zz_H → Prop} {x4 : Int32} {x5 : Int32} {x6 : Int32} {s s' : mS} {v : Option Value} (hf : mf_346_197 N rc x4 x5 x6 s = some (s', v)) (k : Q v (mH h s')) : zz_E zp_P zt_tf zt_fd X (d + 3) zm_346 197 [(0, .ref 61), (4, .int x4), (5, .int x5), (6, .int x6)] [] (mH h s) Q := by
  unfold mf_346_197 at hf
  obtain ⟨q0, hf⟩ := mo_if hf
  obtain ⟨q1, hf⟩ := mo_if hf
  refine mb_346_197 hh q0 q1 (fun c => ?_) (fun c => ?_)
  · rw [if_pos c] at hf
    exact mr_346_232 hh hrc0 hf k
  · rw [if_neg c] at hf
    exact mr_346_228 hh hrc0 hf k
def mf_346_194 (N : Nat) (rc : Nat → Int32 → mS → mO) (x4 : Int32) (x5 : Int32) (x6 : Int32) (y0 : Int32) (s : mS) : mO := if y0 = 0 then mf_346_232 N rc  s else mf_346_197 N rc x4 x5 x6 s
theorem mr_346_194 {X : Nat → Option zz_C} {h : zz_H} (hh : 111 ≤ h.length) {d : Nat} {N : Nat} {rc : Nat → Int32 → mS → mO} (hrc0 : ∀ {Q : Option Value → zz_H → Prop} {x3 : Int32} {s s' : mS} {v : Option Value}, rc 0 x3 s = some (s', v) → Q v (mH h s') → zz_E zp_P zt_tf zt_fd X (d + 3) zm_346 64 [(0, .ref 61), (3, .int x3)] [] (mH h s) Q) {Q : Option Value → zz_H → Prop} {x4 : Int32} {x5 : Int32} {x6 : Int32} {y0 : Int32} {s s' : mS} {v : Option Value} (hf : mf_346_194 N rc x4 x5 x6 y0 s = some (s', v)) (k : Q v (mH h s')) : zz_E zp_P zt_tf zt_fd X (d + 3) zm_346 194 [(0, .ref 61), (4, .int x4), (5, .int x5), (6, .int x6)] [.int y0] (mH h s) Q := by
  unfold mf_346_194 at hf
  refine mb_346_194 hh  (fun c => ?_) (fun c => ?_)
  · rw [if_pos c] at hf
    exact mr_346_232 hh hrc0 hf k
  · rw [if_neg c] at hf
    exact mr_346_197 hh hrc0 hf k
def mf_346_186 (N : Nat) (rc : Nat → Int32 → mS → mO) (x4 : Int32) (x5 : Int32) (x6 : Int32) (s : mS) : mO := mo_bi (mf_293 N x5 x6 s) (fun s1 y => mf_346_194 N rc x4 x5 x6 y s1)
theorem mr_346_186 {X : Nat → Option zz_C} {h : zz_H} (hh : 111 ≤ h.length) {d : Nat} {N : Nat} {rc : Nat → Int32 → mS → mO} (hrc0 : ∀ {Q : Option Value → zz_H → Prop} {x3 : Int32} {s s' : mS} {v : Option Value}, rc 0 x3 s = some (s', v) → Q v (mH h s') → zz_E zp_P zt_tf zt_fd X (d + 3) zm_346 64 [(0, .ref 61), (3, .int x3)] [] (mH h s) Q) {Q : Option Value → zz_H → Prop} {x4 : Int32} {x5 : Int32} {x6 : Int32} {s s' : mS} {v : Option Value} (hf : mf_346_186 N rc x4 x5 x6 s = some (s', v)) (k : Q v (mH h s')) : zz_E zp_P zt_tf zt_fd X (d + 3) zm_346 186 [(0, .ref 61), (4, .int x4), (5, .int x5), (6, .int x6)] [] (mH h s) Q := by
  unfold mf_346_186 at hf
  obtain ⟨s1, y, e, hf⟩ := mo_bi_ok hf
  exact mb_346_186 (d := d + 2) hh  (mr_293 (d := d + 2) hh e (mr_346_194 hh hrc0 hf k))
def mf_346_183 (N : Nat) (rc : Nat → Int32 → mS → mO) (x4 : Int32) (x5 : Int32) (x6 : Int32) (y0 : Int32) (s : mS) : mO := if y0 = 0 then mf_346_232 N rc  s else mf_346_186 N rc x4 x5 x6 s
theorem mr_346_183 {X : Nat → Option zz_C} {h : zz_H} (hh : 111 ≤ h.length) {d : Nat} {N : Nat} {rc : Nat → Int32 → mS → mO} (hrc0 : ∀ {Q : Option Value → zz_H → Prop} {x3 : Int32} {s s' : mS} {v : Option Value}, rc 0 x3 s = some (s', v) → Q v (mH h s') → zz_E zp_P zt_tf zt_fd X (d + 3) zm_346 64 [(0, .ref 61), (3, .int x3)] [] (mH h s) Q) {Q : Option Value → zz_H → Prop} {x4 : Int32} {x5 : Int32} {x6 : Int32} {y0 : Int32} {s s' : mS} {v : Option Value} (hf : mf_346_183 N rc x4 x5 x6 y0 s = some (s', v)) (k : Q v (mH h s')) : zz_E zp_P zt_tf zt_fd X (d + 3) zm_346 183 [(0, .ref 61), (4, .int x4), (5, .int x5), (6, .int x6)] [.int y0] (mH h s) Q := by
  unfold mf_346_183 at hf
  refine mb_346_183 hh  (fun c => ?_) (fun c => ?_)
  · rw [if_pos c] at hf
    exact mr_346_232 hh hrc0 hf k
  · rw [if_neg c] at hf
    exact mr_346_186 hh hrc0 hf k
def mf_346_175 (N : Nat) (rc : Nat → Int32 → mS → mO) (x4 : Int32) (x5 : Int32) (x6 : Int32) (s : mS) : mO := mo_bi (mf_293 N x4 x6 s) (fun s1 y => mf_346_183 N rc x4 x5 x6 y s1)
theorem mr_346_175 {X : Nat → Option zz_C} {h : zz_H} (hh : 111 ≤ h.length) {d : Nat} {N : Nat} {rc : Nat → Int32 → mS → mO} (hrc0 : ∀ {Q : Option Value → zz_H → Prop} {x3 : Int32} {s s' : mS} {v : Option Value}, rc 0 x3 s = some (s', v) → Q v (mH h s') → zz_E zp_P zt_tf zt_fd X (d + 3) zm_346 64 [(0, .ref 61), (3, .int x3)] [] (mH h s) Q) {Q : Option Value → zz_H → Prop} {x4 : Int32} {x5 : Int32} {x6 : Int32} {s s' : mS} {v : Option Value} (hf : mf_346_175 N rc x4 x5 x6 s = some (s', v)) (k : Q v (mH h s')) : zz_E zp_P zt_tf zt_fd X (d + 3) zm_346 175 [(0, .ref 61), (4, .int x4), (5, .int x5), (6, .int x6)] [] (mH h s) Q := by
  unfold mf_346_175 at hf
  obtain ⟨s1, y, e, hf⟩ := mo_bi_ok hf
  exact mb_346_175 (d := d + 2) hh  (mr_293 (d := d + 2) hh e (mr_346_183 hh hrc0 hf k))
def mf_346_172 (N : Nat) (rc : Nat → Int32 → mS → mO) (x4 : Int32) (x5 : Int32) (x6 : Int32) (y0 : Int32) (s : mS) : mO := if y0 = 0 then mf_346_237 N rc x4 x5 x6 s else mf_346_175 N rc x4 x5 x6 s
theorem mr_346_172 {X : Nat → Option zz_C} {h : zz_H} (hh : 111 ≤ h.length) {d : Nat} {N : Nat} {rc : Nat → Int32 → mS → mO} (hrc0 : ∀ {Q : Option Value → zz_H → Prop} {x3 : Int32} {s s' : mS} {v : Option Value}, rc 0 x3 s = some (s', v) → Q v (mH h s') → zz_E zp_P zt_tf zt_fd X (d + 3) zm_346 64 [(0, .ref 61), (3, .int x3)] [] (mH h s) Q) {Q : Option Value → zz_H → Prop} {x4 : Int32} {x5 : Int32} {x6 : Int32} {y0 : Int32} {s s' : mS} {v : Option Value} (hf : mf_346_172 N rc x4 x5 x6 y0 s = some (s', v)) (k : Q v (mH h s')) : zz_E zp_P zt_tf zt_fd X (d + 3) zm_346 172 [(0, .ref 61), (4, .int x4), (5, .int x5), (6, .int x6)] [.int y0] (mH h s) Q := by
  unfold mf_346_172 at hf
  refine mb_346_172 hh  (fun c => ?_) (fun c => ?_)
  · rw [if_pos c] at hf
    exact mr_346_237 hh hrc0 hf k
  · rw [if_neg c] at hf
    exact mr_346_175 hh hrc0 hf k
def mf_346_164 (N : Nat) (rc : Nat → Int32 → mS → mO) (x4 : Int32) (x5 : Int32) (x6 : Int32) (s : mS) : mO := mo_bi (mf_293 N x5 x6 s) (fun s1 y => mf_346_172 N rc x4 x5 x6 y s1)
theorem mr_346_164 {X : Nat → Option zz_C} {h : zz_H} (hh : 111 ≤ h.length) {d : Nat} {N : Nat} {rc : Nat → Int32 → mS → mO} (hrc0 : ∀ {Q : Option Value → zz_H → Prop} {x3 : Int32} {s s' : mS} {v : Option Value}, rc 0 x3 s = some (s', v) → Q v (mH h s') → zz_E zp_P zt_tf zt_fd X (d + 3) zm_346 64 [(0, .ref 61), (3, .int x3)] [] (mH h s) Q) {Q : Option Value → zz_H → Prop} {x4 : Int32} {x5 : Int32} {x6 : Int32} {s s' : mS} {v : Option Value} (hf : mf_346_164 N rc x4 x5 x6 s = some (s', v)) (k : Q v (mH h s')) : zz_E zp_P zt_tf zt_fd X (d + 3) zm_346 164 [(0, .ref 61), (4, .int x4), (5, .int x5), (6, .int x6)] [] (mH h s) Q := by
  unfold mf_346_164 at hf
  obtain ⟨s1, y, e, hf⟩ := mo_bi_ok hf
  exact mb_346_164 (d := d + 2) hh  (mr_293 (d := d + 2) hh e (mr_346_172 hh hrc0 hf k))
def mf_346_161 (N : Nat) (rc : Nat → Int32 → mS → mO) (x4 : Int32) (x5 : Int32) (x6 : Int32) (y0 : Int32) (s : mS) : mO := if ¬ y0 = 0 then mf_346_175 N rc x4 x5 x6 s else mf_346_164 N rc x4 x5 x6 s
theorem mr_346_161 {X : Nat → Option zz_C} {h : zz_H} (hh : 111 ≤ h.length) {d : Nat} {N : Nat} {rc : Nat → Int32 → mS → mO} (hrc0 : ∀ {Q : Option Value → zz_H → Prop} {x3 : Int32} {s s' : mS} {v : Option Value}, rc 0 x3 s = some (s', v) → Q v (mH h s') → zz_E zp_P zt_tf zt_fd X (d + 3) zm_346 64 [(0, .ref 61), (3, .int x3)] [] (mH h s) Q) {Q : Option Value → zz_H → Prop} {x4 : Int32} {x5 : Int32} {x6 : Int32} {y0 : Int32} {s s' : mS} {v : Option Value} (hf : mf_346_161 N rc x4 x5 x6 y0 s = some (s', v)) (k : Q v (mH h s')) : zz_E zp_P zt_tf zt_fd X (d + 3) zm_346 161 [(0, .ref 61), (4, .int x4), (5, .int x5), (6, .int x6)] [.int y0] (mH h s) Q := by
  unfold mf_346_161 at hf
  refine mb_346_161 hh  (fun c => ?_) (fun c => ?_)
  · rw [if_pos c] at hf
    exact mr_346_175 hh hrc0 hf k
  · rw [if_neg c] at hf
    exact mr_346_164 hh hrc0 hf k
def mf_346_138 (N : Nat) (rc : Nat → Int32 → mS → mO) (x4 : Int32) (x5 : Int32) (x6 : Int32) (s : mS) : mO := if ¬ (((s.1 55) - 1) < 0 ∨ 8 ≤ Int32.toNatClampNeg ((s.1 55) - 1)) then (if ¬ (((s.1 55) - 1) < 0 ∨ 8 ≤ Int32.toNatClampNeg ((s.1 55) - 1)) then (mo_bi (mf_293 N x4 x6 (mA s 54 (upd (s.2.2.1 54) (Int32.toNatClampNeg ((s.1 55) - 1)) (((s.2.2.1 54) (Int32.toNatClampNeg ((s.1 55) - 1))) + 1)))) (fun s1 y => mf_346_161 N rc x4 x5 x6 y s1)) else none) else none
theorem mr_346_138 {X : Nat → Option zz_C} {h : zz_H} (hh : 111 ≤ h.length) {d : Nat} {N : Nat} {rc : Nat → Int32 → mS → mO} (hrc0 : ∀ {Q : Option Value → zz_H → Prop} {x3 : Int32} {s s' : mS} {v : Option Value}, rc 0 x3 s = some (s', v) → Q v (mH h s') → zz_E zp_P zt_tf zt_fd X (d + 3) zm_346 64 [(0, .ref 61), (3, .int x3)] [] (mH h s) Q) {Q : Option Value → zz_H → Prop} {x4 : Int32} {x5 : Int32} {x6 : Int32} {s s' : mS} {v : Option Value} (hf : mf_346_138 N rc x4 x5 x6 s = some (s', v)) (k : Q v (mH h s')) : zz_E zp_P zt_tf zt_fd X (d + 3) zm_346 138 [(0, .ref 61), (4, .int x4), (5, .int x5), (6, .int x6)] [] (mH h s) Q := by
  unfold mf_346_138 at hf
  obtain ⟨q0, hf⟩ := mo_if hf
  obtain ⟨q1, hf⟩ := mo_if hf
  obtain ⟨s1, y, e, hf⟩ := mo_bi_ok hf
  exact mb_346_138 (d := d + 2) hh q0 q1 (mr_293 (d := d + 2) hh e (mr_346_161 hh hrc0 hf k))
def mf_346_122 (N : Nat) (rc : Nat → Int32 → mS → mO) (x3 : Int32) (x4 : Int32) (x5 : Int32) (x6 : Int32) (y0 : Int32) (y1 : Int32) (s : mS) : mO := if ¬ y0 = y1 then mf_346_138 N rc x4 x5 x6 s else mf_346_125 N rc x3 s
theorem mr_346_122 {X : Nat → Option zz_C} {h : zz_H} (hh : 111 ≤ h.length) {d : Nat} {N : Nat} {rc : Nat → Int32 → mS → mO} (hrc0 : ∀ {Q : Option Value → zz_H → Prop} {x3 : Int32} {s s' : mS} {v : Option Value}, rc 0 x3 s = some (s', v) → Q v (mH h s') → zz_E zp_P zt_tf zt_fd X (d + 3) zm_346 64 [(0, .ref 61), (3, .int x3)] [] (mH h s) Q) {Q : Option Value → zz_H → Prop} {x3 : Int32} {x4 : Int32} {x5 : Int32} {x6 : Int32} {y0 : Int32} {y1 : Int32} {s s' : mS} {v : Option Value} (hf : mf_346_122 N rc x3 x4 x5 x6 y0 y1 s = some (s', v)) (k : Q v (mH h s')) : zz_E zp_P zt_tf zt_fd X (d + 3) zm_346 122 [(0, .ref 61), (3, .int x3), (4, .int x4), (5, .int x5), (6, .int x6)] [.int y1, .int y0] (mH h s) Q := by
  unfold mf_346_122 at hf
  refine mb_346_122 hh  (fun c => ?_) (fun c => ?_)
  · rw [if_pos c] at hf
    exact mr_346_138 hh hrc0 hf k
  · rw [if_neg c] at hf
    exact mr_346_125 hh hrc0 hf k
def mf_346_75 (N : Nat) (rc : Nat → Int32 → mS → mO) (x3 : Int32) (s : mS) : mO := if ¬ (((s.1 55) - 1) < 0 ∨ 8 ≤ Int32.toNatClampNeg ((s.1 55) - 1)) then (if ¬ (((s.1 55) - 1) < 0 ∨ 8 ≤ Int32.toNatClampNeg ((s.1 55) - 1)) then (if ¬ (((s.1 55) - 1) < 0 ∨ 8 ≤ Int32.toNatClampNeg ((s.1 55) - 1)) then (mo_bi (mf_77 N ((s.2.2.1 52) (Int32.toNatClampNeg ((s.1 55) - 1))) s) (fun s1 y => mf_346_122 N rc x3 ((s.2.2.1 52) (Int32.toNatClampNeg ((s.1 55) - 1))) ((s.2.2.1 53) (Int32.toNatClampNeg ((s.1 55) - 1))) ((s.2.2.1 54) (Int32.toNatClampNeg ((s.1 55) - 1))) ((s.2.2.1 54) (Int32.toNatClampNeg ((s.1 55) - 1))) y s1)) else none) else none) else none
theorem mr_346_75 {X : Nat → Option zz_C} {h : zz_H} (hh : 111 ≤ h.length) {d : Nat} {N : Nat} {rc : Nat → Int32 → mS → mO} (hrc0 : ∀ {Q : Option Value → zz_H → Prop} {x3 : Int32} {s s' : mS} {v : Option Value}, rc 0 x3 s = some (s', v) → Q v (mH h s') → zz_E zp_P zt_tf zt_fd X (d + 3) zm_346 64 [(0, .ref 61), (3, .int x3)] [] (mH h s) Q) {Q : Option Value → zz_H → Prop} {x3 : Int32} {s s' : mS} {v : Option Value} (hf : mf_346_75 N rc x3 s = some (s', v)) (k : Q v (mH h s')) : zz_E zp_P zt_tf zt_fd X (d + 3) zm_346 75 [(0, .ref 61), (3, .int x3)] [] (mH h s) Q := by
  unfold mf_346_75 at hf
  obtain ⟨q0, hf⟩ := mo_if hf
  obtain ⟨q1, hf⟩ := mo_if hf
  obtain ⟨q2, hf⟩ := mo_if hf
  obtain ⟨s1, y, e, hf⟩ := mo_bi_ok hf
  exact mb_346_75 (d := d + 2) hh q0 q1 q2 (mr_77 (d := d + 2) hh e (mr_346_122 hh hrc0 hf k))
def mf_346_68 (N : Nat) (rc : Nat → Int32 → mS → mO) (x3 : Int32) (s : mS) : mO := if (s.1 55) ≤ 0 then mf_346_342 N x3 s else mf_346_75 N rc x3 s
theorem mr_346_68 {X : Nat → Option zz_C} {h : zz_H} (hh : 111 ≤ h.length) {d : Nat} {N : Nat} {rc : Nat → Int32 → mS → mO} (hrc0 : ∀ {Q : Option Value → zz_H → Prop} {x3 : Int32} {s s' : mS} {v : Option Value}, rc 0 x3 s = some (s', v) → Q v (mH h s') → zz_E zp_P zt_tf zt_fd X (d + 3) zm_346 64 [(0, .ref 61), (3, .int x3)] [] (mH h s) Q) {Q : Option Value → zz_H → Prop} {x3 : Int32} {s s' : mS} {v : Option Value} (hf : mf_346_68 N rc x3 s = some (s', v)) (k : Q v (mH h s')) : zz_E zp_P zt_tf zt_fd X (d + 3) zm_346 68 [(0, .ref 61), (3, .int x3)] [] (mH h s) Q := by
  unfold mf_346_68 at hf
  refine mb_346_68 hh  (fun c => ?_) (fun c => ?_)
  · rw [if_pos c] at hf
    exact mr_346_342 hh hf k
  · rw [if_neg c] at hf
    exact mr_346_75 hh hrc0 hf k
def mf_346_64 (N : Nat) (rc : Nat → Int32 → mS → mO) (x3 : Int32) (s : mS) : mO := if x3 = 0 then mf_346_342 N x3 s else mf_346_68 N rc x3 s
theorem mr_346_64 {X : Nat → Option zz_C} {h : zz_H} (hh : 111 ≤ h.length) {d : Nat} {N : Nat} {rc : Nat → Int32 → mS → mO} (hrc0 : ∀ {Q : Option Value → zz_H → Prop} {x3 : Int32} {s s' : mS} {v : Option Value}, rc 0 x3 s = some (s', v) → Q v (mH h s') → zz_E zp_P zt_tf zt_fd X (d + 3) zm_346 64 [(0, .ref 61), (3, .int x3)] [] (mH h s) Q) {Q : Option Value → zz_H → Prop} {x3 : Int32} {s s' : mS} {v : Option Value} (hf : mf_346_64 N rc x3 s = some (s', v)) (k : Q v (mH h s')) : zz_E zp_P zt_tf zt_fd X (d + 3) zm_346 64 [(0, .ref 61), (3, .int x3)] [] (mH h s) Q := by
  unfold mf_346_64 at hf
  refine mb_346_64 hh  (fun c => ?_) (fun c => ?_)
  · rw [if_pos c] at hf
    exact mr_346_342 hh hf k
  · rw [if_neg c] at hf
    exact mr_346_68 hh hrc0 hf k
def mf_346_L1 (N : Nat) : Nat → Nat → Int32 → mS → mO
  | 0, _, _, _ => none
  | n + 1, l, x3, s => if l = 0 then mf_346_64 N (mf_346_L1 N n) x3 s else none
theorem mr_346_L1 {X : Nat → Option zz_C} {h : zz_H} (hh : 111 ≤ h.length) {d : Nat} {N : Nat} : ∀ n : Nat, (∀ {Q : Option Value → zz_H → Prop} {x3 : Int32} {s s' : mS} {v : Option Value}, mf_346_L1 N n 0 x3 s = some (s', v) → Q v (mH h s') → zz_E zp_P zt_tf zt_fd X (d + 3) zm_346 64 [(0, .ref 61), (3, .int x3)] [] (mH h s) Q) := by
  intro n
  induction n with
  | zero => exact (fun hf _ => by cases hf)
  | succ n ih =>
    have h0 := @ih
    intro Q _ s s' v hf k
    unfold mf_346_L1 at hf
    rw [if_pos rfl] at hf
    exact mr_346_64 hh h0 hf k
def mf_346_52 (N : Nat) (x1 : Int32) (x2 : Int32) (y0 : Int32) (s : mS) : mO := mo_bv (mf_296 N x1 x2 (mI s 55 0)) (fun s1 => mf_346_L1 N N 0 y0 s1)
theorem mr_346_52 {X : Nat → Option zz_C} {h : zz_H} (hh : 111 ≤ h.length) {d : Nat} {N : Nat} {Q : Option Value → zz_H → Prop} {x1 : Int32} {x2 : Int32} {y0 : Int32} {s s' : mS} {v : Option Value} (hf : mf_346_52 N x1 x2 y0 s = some (s', v)) (k : Q v (mH h s')) : zz_E zp_P zt_tf zt_fd X (d + 3) zm_346 52 [(0, .ref 61), (1, .int x1), (2, .int x2)] [.int y0] (mH h s) Q := by
  unfold mf_346_52 at hf
  obtain ⟨s1, e, hf⟩ := mo_bv_ok hf
  exact mb_346_52 (d := d + 2) hh  (mr_296 (d := d + 2) hh e (mr_346_L1 hh N hf k))
def mf_346_51 (N : Nat) (x1 : Int32) (x2 : Int32) (s : mS) : mO := mf_346_52 N x1 x2 0 s
theorem mr_346_51 {X : Nat → Option zz_C} {h : zz_H} (hh : 111 ≤ h.length) {d : Nat} {N : Nat} {Q : Option Value → zz_H → Prop} {x1 : Int32} {x2 : Int32} {s s' : mS} {v : Option Value} (hf : mf_346_51 N x1 x2 s = some (s', v)) (k : Q v (mH h s')) : zz_E zp_P zt_tf zt_fd X (d + 3) zm_346 51 [(0, .ref 61), (1, .int x1), (2, .int x2)] [] (mH h s) Q := by
  unfold mf_346_51 at hf
  exact mb_346_51 hh  (mr_346_52 hh hf k)
def mf_346_47 (N : Nat) (x1 : Int32) (x2 : Int32) (s : mS) : mO := mf_346_52 N x1 x2 1 s
theorem mr_346_47 {X : Nat → Option zz_C} {h : zz_H} (hh : 111 ≤ h.length) {d : Nat} {N : Nat} {Q : Option Value → zz_H → Prop} {x1 : Int32} {x2 : Int32} {s s' : mS} {v : Option Value} (hf : mf_346_47 N x1 x2 s = some (s', v)) (k : Q v (mH h s')) : zz_E zp_P zt_tf zt_fd X (d + 3) zm_346 47 [(0, .ref 61), (1, .int x1), (2, .int x2)] [] (mH h s) Q := by
  unfold mf_346_47 at hf
  exact mb_346_47 hh  (mr_346_52 hh hf k)
def mf_346_44 (N : Nat) (x1 : Int32) (x2 : Int32) (y0 : Int32) (y1 : Int32) (s : mS) : mO := if ¬ y0 = y1 then mf_346_51 N x1 x2 s else mf_346_47 N x1 x2 s
theorem mr_346_44 {X : Nat → Option zz_C} {h : zz_H} (hh : 111 ≤ h.length) {d : Nat} {N : Nat} {Q : Option Value → zz_H → Prop} {x1 : Int32} {x2 : Int32} {y0 : Int32} {y1 : Int32} {s s' : mS} {v : Option Value} (hf : mf_346_44 N x1 x2 y0 y1 s = some (s', v)) (k : Q v (mH h s')) : zz_E zp_P zt_tf zt_fd X (d + 3) zm_346 44 [(0, .ref 61), (1, .int x1), (2, .int x2)] [.int y1, .int y0] (mH h s) Q := by
  unfold mf_346_44 at hf
  refine mb_346_44 hh  (fun c => ?_) (fun c => ?_)
  · rw [if_pos c] at hf
    exact mr_346_51 hh hf k
  · rw [if_neg c] at hf
    exact mr_346_47 hh hf k
def mf_346_39 (N : Nat) (x1 : Int32) (x2 : Int32) (y0 : Int32) (s : mS) : mO := mo_bi (mf_77 N x2 s) (fun s1 y => mf_346_44 N x1 x2 y0 y s1)
theorem mr_346_39 {X : Nat → Option zz_C} {h : zz_H} (hh : 111 ≤ h.length) {d : Nat} {N : Nat} {Q : Option Value → zz_H → Prop} {x1 : Int32} {x2 : Int32} {y0 : Int32} {s s' : mS} {v : Option Value} (hf : mf_346_39 N x1 x2 y0 s = some (s', v)) (k : Q v (mH h s')) : zz_E zp_P zt_tf zt_fd X (d + 3) zm_346 39 [(0, .ref 61), (1, .int x1), (2, .int x2)] [.int y0] (mH h s) Q := by
  unfold mf_346_39 at hf
  obtain ⟨s1, y, e, hf⟩ := mo_bi_ok hf
  exact mb_346_39 (d := d + 2) hh  (mr_77 (d := d + 2) hh e (mr_346_44 hh hf k))
def mf_346_34 (N : Nat) (x1 : Int32) (x2 : Int32) (s : mS) : mO := mo_bi (mf_77 N x1 s) (fun s1 y => mf_346_39 N x1 x2 y s1)
theorem mr_346_34 {X : Nat → Option zz_C} {h : zz_H} (hh : 111 ≤ h.length) {d : Nat} {N : Nat} {Q : Option Value → zz_H → Prop} {x1 : Int32} {x2 : Int32} {s s' : mS} {v : Option Value} (hf : mf_346_34 N x1 x2 s = some (s', v)) (k : Q v (mH h s')) : zz_E zp_P zt_tf zt_fd X (d + 3) zm_346 34 [(0, .ref 61), (1, .int x1), (2, .int x2)] [] (mH h s) Q := by
  unfold mf_346_34 at hf
  obtain ⟨s1, y, e, hf⟩ := mo_bi_ok hf
  exact mb_346_34 (d := d + 2) hh  (mr_77 (d := d + 2) hh e (mr_346_39 hh hf k))
def mf_346_33 (N : Nat) (y0 : Int32) (s : mS) : mO := if zz_reti (some .boolean) y0 = true then some (s, (some (.int y0))) else none
theorem mr_346_33 {X : Nat → Option zz_C} {h : zz_H} (hh : 111 ≤ h.length) {d : Nat} {N : Nat} {Q : Option Value → zz_H → Prop} {y0 : Int32} {s s' : mS} {v : Option Value} (hf : mf_346_33 N y0 s = some (s', v)) (k : Q v (mH h s')) : zz_E zp_P zt_tf zt_fd X (d + 3) zm_346 33 [] [.int y0] (mH h s) Q := by
  unfold mf_346_33 at hf
  obtain ⟨rb, hf⟩ := mo_if hf
  cases hf
  exact mb_346_33 hh  k rb
def mf_346_27 (N : Nat) (x1 : Int32) (x2 : Int32) (s : mS) : mO := mo_bi (mf_345 N x1 x2 s) (fun s1 y => mf_346_33 N y s1)
theorem mr_346_27 {X : Nat → Option zz_C} {h : zz_H} (hh : 111 ≤ h.length) {d : Nat} {N : Nat} {Q : Option Value → zz_H → Prop} {x1 : Int32} {x2 : Int32} {s s' : mS} {v : Option Value} (hf : mf_346_27 N x1 x2 s = some (s', v)) (k : Q v (mH h s')) : zz_E zp_P zt_tf zt_fd X (d + 3) zm_346 27 [(0, .ref 61), (1, .int x1), (2, .int x2)] [] (mH h s) Q := by
  unfold mf_346_27 at hf
  obtain ⟨s1, y, e, hf⟩ := mo_bi_ok hf
  exact mb_346_27 (d := d + 2) hh  (mr_345 (d := d + 0) hh e (mr_346_33 hh hf k))
def mf_346_17 (N : Nat) (x1 : Int32) (x2 : Int32) (s : mS) : mO := if ¬ (x1 < 0 ∨ 166300 ≤ Int32.toNatClampNeg x1) then (if ((s.2.2.1 47) (Int32.toNatClampNeg x1)) = 3 then mf_346_34 N x1 x2 s else mf_346_27 N x1 x2 s) else none
theorem mr_346_17 {X : Nat → Option zz_C} {h : zz_H} (hh : 111 ≤ h.length) {d : Nat} {N : Nat} {Q : Option Value → zz_H → Prop} {x1 : Int32} {x2 : Int32} {s s' : mS} {v : Option Value} (hf : mf_346_17 N x1 x2 s = some (s', v)) (k : Q v (mH h s')) : zz_E zp_P zt_tf zt_fd X (d + 3) zm_346 17 [(0, .ref 61), (1, .int x1), (2, .int x2)] [] (mH h s) Q := by
  unfold mf_346_17 at hf
  obtain ⟨q0, hf⟩ := mo_if hf
  refine mb_346_17 hh q0 (fun c => ?_) (fun c => ?_)
  · rw [if_pos c] at hf
    exact mr_346_34 hh hf k
  · rw [if_neg c] at hf
    exact mr_346_27 hh hf k
def mf_346_15 (N : Nat)  (s : mS) : mO := some (s, (some (.int 0)))
theorem mr_346_15 {X : Nat → Option zz_C} {h : zz_H} (hh : 111 ≤ h.length) {d : Nat} {N : Nat} {Q : Option Value → zz_H → Prop}  {s s' : mS} {v : Option Value} (hf : mf_346_15 N  s = some (s', v)) (k : Q v (mH h s')) : zz_E zp_P zt_tf zt_fd X (d + 3) zm_346 15 [] [] (mH h s) Q := by
  unfold mf_346_15 at hf
  cases hf
  exact mb_346_15 hh  k
def mf_346_0 (N : Nat) (x1 : Int32) (x2 : Int32) (s : mS) : mO := if ¬ (x1 < 0 ∨ 166300 ≤ Int32.toNatClampNeg x1) then (if ¬ (x2 < 0 ∨ 166300 ≤ Int32.toNatClampNeg x2) then (if ((s.2.2.1 47) (Int32.toNatClampNeg x1)) = ((s.2.2.1 47) (Int32.toNatClampNeg x2)) then mf_346_17 N x1 x2 s else mf_346_15 N  s) else none) else none
theorem mr_346_0 {X : Nat → Option zz_C} {h : zz_H} (hh : 111 ≤ h.length) {d : Nat} {N : Nat} {Q : Option Value → zz_H → Prop} {x1 : Int32} {x2 : Int32} {s s' : mS} {v : Option Value} (hf : mf_346_0 N x1 x2 s = some (s', v)) (k : Q v (mH h s')) : zz_E zp_P zt_tf zt_fd X (d + 3) zm_346 0 [(0, .ref 61), (1, .int x1), (2, .int x2)] [] (mH h s) Q := by
  unfold mf_346_0 at hf
  obtain ⟨q0, hf⟩ := mo_if hf
  obtain ⟨q1, hf⟩ := mo_if hf
  refine mb_346_0 hh q0 q1 (fun c => ?_) (fun c => ?_)
  · rw [if_pos c] at hf
    exact mr_346_17 hh hf k
  · rw [if_neg c] at hf
    exact mr_346_15 hh hf k
/-- areSame -/
def mf_346 (N : Nat) (x1 : Int32) (x2 : Int32) (s : mS) : mO := mf_346_0 N x1 x2 s
theorem mr_346 {X : Nat → Option zz_C} {h : zz_H} (hh : 111 ≤ h.length) {d : Nat} {N : Nat} {Q : Option Value → zz_H → Prop} {x1 : Int32} {x2 : Int32} {s s' : mS} {v : Option Value} (hf : mf_346 N x1 x2 s = some (s', v)) (k : Q v (mH h s')) : zz_E zp_P zt_tf zt_fd X (d + 3) zm_346 0 [(0, .ref 61), (1, .int x1), (2, .int x2)] [] (mH h s) Q := by
  unfold mf_346 at hf
  exact zz_E.weak (mr_346_0 hh hf k) rfl ⟨rfl, rfl, rfl, trivial⟩
