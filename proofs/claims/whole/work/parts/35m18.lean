/-! reduced (II)I -/
theorem mb_331_0 {X : Nat → Option zz_C} {h : zz_H} (hh : 111 ≤ h.length) {s : mS} {d : Nat} {Q : Option Value → zz_H → Prop} {x1 : Int32} {x2 : Int32} (k1 : ¬ x1 = 9 → zz_E zp_P zt_tf zt_fd X d zm_331 10 [(0, .ref 61), (1, .int x1), (2, .int x2)] [] (mH h s) Q) (k2 : ¬ ¬ x1 = 9 → zz_E zp_P zt_tf zt_fd X d zm_331 6 [(0, .ref 61), (1, .int x1), (2, .int x2)] [] (mH h s) Q) : zz_E zp_P zt_tf zt_fd X d zm_331 0 [(0, .ref 61), (1, .int x1), (2, .int x2)] [] (mH h s) Q := by
  refine zz_E.n 1 rfl rfl rfl ?_
  refine zz_E.c 3 (.int 9) rfl rfl rfl rfl ?_
  refine zz_E.b2 10 6 (A := ¬ x1 = 9) rfl (zz_cond_ne _ _) (by decide) rfl rfl (fun c => ?_) (fun c => ?_)
  · exact zz_E.weak (k1 c) rfl ⟨rfl, rfl, rfl, trivial⟩
  · exact zz_E.weak (k2 c) rfl ⟨rfl, rfl, rfl, trivial⟩
theorem mb_331_6 {X : Nat → Option zz_C} {h : zz_H} (hh : 111 ≤ h.length) {s : mS} {d : Nat} {Q : Option Value → zz_H → Prop} {x1 : Int32} {x2 : Int32} (k : zz_E zp_P zt_tf zt_fd X d zm_331 18 [(0, .ref 61), (1, .int x1), (2, .int x2)] [.int 0] (mH h s) Q) : zz_E zp_P zt_tf zt_fd X d zm_331 6 [(0, .ref 61), (1, .int x1), (2, .int x2)] [] (mH h s) Q := by
  refine zz_E.c 7 (.int 0) rfl rfl rfl rfl ?_
  refine zz_E.n 18 rfl rfl rfl ?_
  exact zz_E.weak k rfl ⟨rfl, rfl, rfl, trivial⟩
theorem mb_331_10 {X : Nat → Option zz_C} {h : zz_H} (hh : 111 ≤ h.length) {s : mS} {d : Nat} {Q : Option Value → zz_H → Prop} {x1 : Int32} {x2 : Int32} (i17 : ¬ ((x2 + 2) < 0 ∨ 166300 ≤ Int32.toNatClampNeg (x2 + 2))) (k : zz_E zp_P zt_tf zt_fd X d zm_331 18 [(0, .ref 61), (1, .int x1), (2, .int x2)] [.int ((s.2.2.1 47) (Int32.toNatClampNeg (x2 + 2)))] (mH h s) Q) : zz_E zp_P zt_tf zt_fd X d zm_331 10 [(0, .ref 61), (1, .int x1), (2, .int x2)] [] (mH h s) Q := by
  refine zz_E.n 11 rfl rfl rfl ?_
  refine mE_g hh 14 (v := .ref 89) rfl rfl rfl ?_
  refine zz_E.n 15 rfl rfl rfl ?_
  refine zz_E.c 16 (.int 2) rfl rfl rfl rfl ?_
  refine zz_E.n 17 rfl rfl rfl ?_
  refine mE_ia hh 18 28 (f := (s.2.2.1 47)) rfl (by decide) rfl rfl i17 rfl ?_
  exact zz_E.weak k rfl ⟨rfl, rfl, rfl, trivial⟩
theorem mb_331_18 {X : Nat → Option zz_C} {h : zz_H} (hh : 111 ≤ h.length) {s : mS} {d : Nat} {Q : Option Value → zz_H → Prop} {x1 : Int32} {x2 : Int32} {y0 : Int32} (k : zz_E zp_P zt_tf zt_fd X d zm_331 22 [(0, .ref 61), (1, .int x1), (2, .int x2), (3, .int y0), (4, .int 0)] [] (mH h s) Q) : zz_E zp_P zt_tf zt_fd X d zm_331 18 [(0, .ref 61), (1, .int x1), (2, .int x2)] [.int y0] (mH h s) Q := by
  refine zz_E.n 19 rfl rfl rfl ?_
  refine zz_E.c 20 (.int 0) rfl rfl rfl rfl ?_
  refine zz_E.n 22 rfl rfl rfl ?_
  exact zz_E.weak k rfl ⟨rfl, rfl, rfl, rfl, rfl, trivial⟩
theorem mb_331_22 {X : Nat → Option zz_C} {h : zz_H} (hh : 111 ≤ h.length) {s : mS} {d : Nat} {Q : Option Value → zz_H → Prop} {x1 : Int32} {x2 : Int32} {x3 : Int32} {x4 : Int32} (k : zz_E zp_P zt_tf zt_fd X d zm_77 0 [(0, .ref 61), (1, .int x2)] [] (mH h s) (fun v h' => zz_E zp_P zt_tf zt_fd X (d + 1) zm_331 29 [(0, .ref 61), (1, .int x1), (2, .int x2), (3, .int x3), (4, .int x4)] (v.toList ++ [.int x4]) h' Q)) : zz_E zp_P zt_tf zt_fd X (d + 1) zm_331 22 [(0, .ref 61), (1, .int x1), (2, .int x2), (3, .int x3), (4, .int x4)] [] (mH h s) Q := by
  refine zz_E.n 24 rfl rfl rfl ?_
  refine zz_E.n 25 rfl rfl rfl ?_
  refine zz_E.n 26 rfl rfl rfl ?_
  refine mE_cv hh 29 (as := [.int x4]) rfl rfl (Nat.le_of_ble_eq_true rfl) (Nat.le_of_ble_eq_true rfl) rfl (Nat.le_of_ble_eq_true rfl) rfl ?_
  refine zz_E.mono k ?_
  intro v h' hE
  exact zz_E.weak hE rfl ⟨rfl, rfl, rfl, rfl, rfl, trivial⟩
theorem mb_331_29 {X : Nat → Option zz_C} {h : zz_H} (hh : 111 ≤ h.length) {s : mS} {d : Nat} {Q : Option Value → zz_H → Prop} {x1 : Int32} {x2 : Int32} {x3 : Int32} {x4 : Int32} {y0 : Int32} {y1 : Int32} (k1 : y1 ≤ y0 → zz_E zp_P zt_tf zt_fd X d zm_331 89 [(3, .int x3)] [] (mH h s) Q) (k2 : ¬ y1 ≤ y0 → zz_E zp_P zt_tf zt_fd X d zm_331 32 [(0, .ref 61), (1, .int x1), (2, .int x2), (3, .int x3), (4, .int x4)] [] (mH h s) Q) : zz_E zp_P zt_tf zt_fd X d zm_331 29 [(0, .ref 61), (1, .int x1), (2, .int x2), (3, .int x3), (4, .int x4)] [.int y1, .int y0] (mH h s) Q := by
  refine zz_E.b2 89 32 (A := y1 ≤ y0) rfl rfl (by decide) rfl rfl (fun c => ?_) (fun c => ?_)
  · exact zz_E.weak (k1 c) rfl ⟨rfl, trivial⟩
  · exact zz_E.weak (k2 c) rfl ⟨rfl, rfl, rfl, rfl, rfl, trivial⟩
theorem mb_331_32 {X : Nat → Option zz_C} {h : zz_H} (hh : 111 ≤ h.length) {s : mS} {d : Nat} {Q : Option Value → zz_H → Prop} {x1 : Int32} {x2 : Int32} {x3 : Int32} {x4 : Int32} (i42 : ¬ (((x2 + 2) + x4) < 0 ∨ 166300 ≤ Int32.toNatClampNeg ((x2 + 2) + x4))) (k1 : ¬ x1 = 9 → zz_E zp_P zt_tf zt_fd X d zm_331 59 [(0, .ref 61), (1, .int x1), (2, .int x2), (3, .int x3), (4, .int x4), (5, .int ((s.2.2.1 47) (Int32.toNatClampNeg ((x2 + 2) + x4))))] [] (mH h s) Q) (k2 : ¬ ¬ x1 = 9 → zz_E zp_P zt_tf zt_fd X d zm_331 51 [(0, .ref 61), (1, .int x1), (2, .int x2), (3, .int x3), (4, .int x4), (5, .int ((s.2.2.1 47) (Int32.toNatClampNeg ((x2 + 2) + x4))))] [] (mH h s) Q) : zz_E zp_P zt_tf zt_fd X d zm_331 32 [(0, .ref 61), (1, .int x1), (2, .int x2), (3, .int x3), (4, .int x4)] [] (mH h s) Q := by
  refine zz_E.n 33 rfl rfl rfl ?_
  refine mE_g hh 36 (v := .ref 89) rfl rfl rfl ?_
  refine zz_E.n 37 rfl rfl rfl ?_
  refine zz_E.c 38 (.int 2) rfl rfl rfl rfl ?_
  refine zz_E.n 39 rfl rfl rfl ?_
  refine zz_E.n 41 rfl rfl rfl ?_
  refine zz_E.n 42 rfl rfl rfl ?_
  refine mE_ia hh 43 28 (f := (s.2.2.1 47)) rfl (by decide) rfl rfl i42 rfl ?_
  refine zz_E.n 45 rfl rfl rfl ?_
  refine zz_E.n 46 rfl rfl rfl ?_
  refine zz_E.c 48 (.int 9) rfl rfl rfl rfl ?_
  refine zz_E.b2 59 51 (A := ¬ x1 = 9) rfl (zz_cond_ne _ _) (by decide) rfl rfl (fun c => ?_) (fun c => ?_)
  · exact zz_E.weak (k1 c) rfl ⟨rfl, rfl, rfl, rfl, rfl, rfl, trivial⟩
  · exact zz_E.weak (k2 c) rfl ⟨rfl, rfl, rfl, rfl, rfl, rfl, trivial⟩
theorem mb_331_51 {X : Nat → Option zz_C} {h : zz_H} (hh : 111 ≤ h.length) {s : mS} {d : Nat} {Q : Option Value → zz_H → Prop} {x1 : Int32} {x2 : Int32} {x3 : Int32} {x4 : Int32} {x5 : Int32} (k : zz_E zp_P zt_tf zt_fd X d zm_331 83 [(0, .ref 61), (1, .int x1), (2, .int x2), (3, .int (x3 + x5)), (4, .int x4)] [] (mH h s) Q) : zz_E zp_P zt_tf zt_fd X d zm_331 51 [(0, .ref 61), (1, .int x1), (2, .int x2), (3, .int x3), (4, .int x4), (5, .int x5)] [] (mH h s) Q := by
  refine zz_E.n 52 rfl rfl rfl ?_
  refine zz_E.n 54 rfl rfl rfl ?_
  refine zz_E.n 55 rfl rfl rfl ?_
  refine zz_E.n 56 rfl rfl rfl ?_
  refine zz_E.n 83 rfl rfl rfl ?_
  exact zz_E.weak k rfl ⟨rfl, rfl, rfl, rfl, rfl, trivial⟩
theorem mb_331_59 {X : Nat → Option zz_C} {h : zz_H} (hh : 111 ≤ h.length) {s : mS} {d : Nat} {Q : Option Value → zz_H → Prop} {x1 : Int32} {x2 : Int32} {x3 : Int32} {x4 : Int32} {x5 : Int32} (k1 : ¬ x1 = 10 → zz_E zp_P zt_tf zt_fd X d zm_331 74 [(0, .ref 61), (1, .int x1), (2, .int x2), (3, .int x3), (4, .int x4), (5, .int x5)] [] (mH h s) Q) (k2 : ¬ ¬ x1 = 10 → zz_E zp_P zt_tf zt_fd X d zm_331 65 [(0, .ref 61), (1, .int x1), (2, .int x2), (3, .int x3), (4, .int x4), (5, .int x5)] [] (mH h s) Q) : zz_E zp_P zt_tf zt_fd X d zm_331 59 [(0, .ref 61), (1, .int x1), (2, .int x2), (3, .int x3), (4, .int x4), (5, .int x5)] [] (mH h s) Q := by
  refine zz_E.n 60 rfl rfl rfl ?_
  refine zz_E.c 62 (.int 10) rfl rfl rfl rfl ?_
  refine zz_E.b2 74 65 (A := ¬ x1 = 10) rfl (zz_cond_ne _ _) (by decide) rfl rfl (fun c => ?_) (fun c => ?_)
  · exact zz_E.weak (k1 c) rfl ⟨rfl, rfl, rfl, rfl, rfl, rfl, trivial⟩
  · exact zz_E.weak (k2 c) rfl ⟨rfl, rfl, rfl, rfl, rfl, rfl, trivial⟩
theorem mb_331_65 {X : Nat → Option zz_C} {h : zz_H} (hh : 111 ≤ h.length) {s : mS} {d : Nat} {Q : Option Value → zz_H → Prop} {x1 : Int32} {x2 : Int32} {x3 : Int32} {x4 : Int32} {x5 : Int32} (k1 : x5 ≤ x3 → zz_E zp_P zt_tf zt_fd X d zm_331 83 [(0, .ref 61), (1, .int x1), (2, .int x2), (3, .int x3), (4, .int x4)] [] (mH h s) Q) (k2 : ¬ x5 ≤ x3 → zz_E zp_P zt_tf zt_fd X d zm_331 71 [(0, .ref 61), (1, .int x1), (2, .int x2), (4, .int x4), (5, .int x5)] [] (mH h s) Q) : zz_E zp_P zt_tf zt_fd X d zm_331 65 [(0, .ref 61), (1, .int x1), (2, .int x2), (3, .int x3), (4, .int x4), (5, .int x5)] [] (mH h s) Q := by
  refine zz_E.n 67 rfl rfl rfl ?_
  refine zz_E.n 68 rfl rfl rfl ?_
  refine zz_E.b2 83 71 (A := x5 ≤ x3) rfl rfl (by decide) rfl rfl (fun c => ?_) (fun c => ?_)
  · exact zz_E.weak (k1 c) rfl ⟨rfl, rfl, rfl, rfl, rfl, trivial⟩
  · exact zz_E.weak (k2 c) rfl ⟨rfl, rfl, rfl, rfl, rfl, trivial⟩
theorem mb_331_71 {X : Nat → Option zz_C} {h : zz_H} (hh : 111 ≤ h.length) {s : mS} {d : Nat} {Q : Option Value → zz_H → Prop} {x1 : Int32} {x2 : Int32} {x4 : Int32} {x5 : Int32} (k : zz_E zp_P zt_tf zt_fd X d zm_331 80 [(0, .ref 61), (1, .int x1), (2, .int x2), (4, .int x4), (5, .int x5)] [] (mH h s) Q) : zz_E zp_P zt_tf zt_fd X d zm_331 71 [(0, .ref 61), (1, .int x1), (2, .int x2), (4, .int x4), (5, .int x5)] [] (mH h s) Q := by
  refine zz_E.n 80 rfl rfl rfl ?_
  exact zz_E.weak k rfl ⟨rfl, rfl, rfl, rfl, rfl, trivial⟩
theorem mb_331_74 {X : Nat → Option zz_C} {h : zz_H} (hh : 111 ≤ h.length) {s : mS} {d : Nat} {Q : Option Value → zz_H → Prop} {x1 : Int32} {x2 : Int32} {x3 : Int32} {x4 : Int32} {x5 : Int32} (k1 : x3 ≤ x5 → zz_E zp_P zt_tf zt_fd X d zm_331 83 [(0, .ref 61), (1, .int x1), (2, .int x2), (3, .int x3), (4, .int x4)] [] (mH h s) Q) (k2 : ¬ x3 ≤ x5 → zz_E zp_P zt_tf zt_fd X d zm_331 80 [(0, .ref 61), (1, .int x1), (2, .int x2), (4, .int x4), (5, .int x5)] [] (mH h s) Q) : zz_E zp_P zt_tf zt_fd X d zm_331 74 [(0, .ref 61), (1, .int x1), (2, .int x2), (3, .int x3), (4, .int x4), (5, .int x5)] [] (mH h s) Q := by
  refine zz_E.n 76 rfl rfl rfl ?_
  refine zz_E.n 77 rfl rfl rfl ?_
  refine zz_E.b2 83 80 (A := x3 ≤ x5) rfl rfl (by decide) rfl rfl (fun c => ?_) (fun c => ?_)
  · exact zz_E.weak (k1 c) rfl ⟨rfl, rfl, rfl, rfl, rfl, trivial⟩
  · exact zz_E.weak (k2 c) rfl ⟨rfl, rfl, rfl, rfl, rfl, trivial⟩
theorem mb_331_80 {X : Nat → Option zz_C} {h : zz_H} (hh : 111 ≤ h.length) {s : mS} {d : Nat} {Q : Option Value → zz_H → Prop} {x1 : Int32} {x2 : Int32} {x4 : Int32} {x5 : Int32} (k : zz_E zp_P zt_tf zt_fd X d zm_331 83 [(0, .ref 61), (1, .int x1), (2, .int x2), (3, .int x5), (4, .int x4)] [] (mH h s) Q) : zz_E zp_P zt_tf zt_fd X d zm_331 80 [(0, .ref 61), (1, .int x1), (2, .int x2), (4, .int x4), (5, .int x5)] [] (mH h s) Q := by
  refine zz_E.n 82 rfl rfl rfl ?_
  refine zz_E.n 83 rfl rfl rfl ?_
  exact zz_E.weak k rfl ⟨rfl, rfl, rfl, rfl, rfl, trivial⟩
theorem mb_331_83 {X : Nat → Option zz_C} {h : zz_H} (hh : 111 ≤ h.length) {s : mS} {d : Nat} {Q : Option Value → zz_H → Prop} {x1 : Int32} {x2 : Int32} {x3 : Int32} {x4 : Int32} (k : zz_E zp_P zt_tf zt_fd X d zm_331 22 [(0, .ref 61), (1, .int x1), (2, .int x2), (3, .int x3), (4, .int (x4 + 1))] [] (mH h s) Q) : zz_E zp_P zt_tf zt_fd X d zm_331 83 [(0, .ref 61), (1, .int x1), (2, .int x2), (3, .int x3), (4, .int x4)] [] (mH h s) Q := by
  refine zz_E.n 86 rfl rfl rfl ?_
  refine zz_E.n 22 rfl rfl rfl ?_
  exact zz_E.weak k rfl ⟨rfl, rfl, rfl, rfl, rfl, trivial⟩
theorem mb_331_89 {X : Nat → Option zz_C} {h : zz_H} (hh : 111 ≤ h.length) {s : mS} {d : Nat} {Q : Option Value → zz_H → Prop} {x3 : Int32} (k : Q (some (.int x3)) (mH h s)) : zz_E zp_P zt_tf zt_fd X d zm_331 89 [(3, .int x3)] [] (mH h s) Q := by
  refine zz_E.n 90 rfl rfl rfl ?_
  refine zz_E.ret rfl rfl rfl ?_
  exact k
def mf_331_89 (N : Nat) (x3 : Int32) (s : mS) : mO := some (s, (some (.int x3)))
theorem mr_331_89 {X : Nat → Option zz_C} {h : zz_H} (hh : 111 ≤ h.length) {d : Nat} {N : Nat} {Q : Option Value → zz_H → Prop} {x3 : Int32} {s s' : mS} {v : Option Value} (hf : mf_331_89 N x3 s = some (s', v)) (k : Q v (mH h s')) : zz_E zp_P zt_tf zt_fd X (d + 1) zm_331 89 [(3, .int x3)] [] (mH h s) Q := by
  unfold mf_331_89 at hf
  cases hf
  exact mb_331_89 hh  k
def mf_331_83 (N : Nat) (rc : Nat → Int32 → Int32 → Int32 → Int32 → mS → mO) (x1 : Int32) (x2 : Int32) (x3 : Int32) (x4 : Int32) (s : mS) : mO := rc 0 x1 x2 x3 (x4 + 1) s
theorem mr_331_83 {X : Nat → Option zz_C} {h : zz_H} (hh : 111 ≤ h.length) {d : Nat} {N : Nat} {rc : Nat → Int32 → Int32 → Int32 → Int32 → mS → mO} (hrc0 : ∀ {Q : Option Value → zz_H → Prop} {x1 : Int32} {x2 : Int32} {x3 : Int32} {x4 : Int32} {s s' : mS} {v : Option Value}, rc 0 x1 x2 x3 x4 s = some (s', v) → Q v (mH h s') → zz_E zp_P zt_tf zt_fd X (d + 1) zm_331 22 [(0, .ref 61), (1, .int x1), (2, .int x2), (3, .int x3), (4, .int x4)] [] (mH h s) Q) {Q : Option Value → zz_H → Prop} {x1 : Int32} {x2 : Int32} {x3 : Int32} {x4 : Int32} {s s' : mS} {v : Option Value} (hf : mf_331_83 N rc x1 x2 x3 x4 s = some (s', v)) (k : Q v (mH h s')) : zz_E zp_P zt_tf zt_fd X (d + 1) zm_331 83 [(0, .ref 61), (1, .int x1), (2, .int x2), (3, .int x3), (4, .int x4)] [] (mH h s) Q := by
  unfold mf_331_83 at hf
  exact mb_331_83 hh  (hrc0 hf k)
def mf_331_51 (N : Nat) (rc : Nat → Int32 → Int32 → Int32 → Int32 → mS → mO) (x1 : Int32) (x2 : Int32) (x3 : Int32) (x4 : Int32) (x5 : Int32) (s : mS) : mO := mf_331_83 N rc x1 x2 (x3 + x5) x4 s
theorem mr_331_51 {X : Nat → Option zz_C} {h : zz_H} (hh : 111 ≤ h.length) {d : Nat} {N : Nat} {rc : Nat → Int32 → Int32 → Int32 → Int32 → mS → mO} (hrc0 : ∀ {Q : Option Value → zz_H → Prop} {x1 : Int32} {x2 : Int32} {x3 : Int32} {x4 : Int32} {s s' : mS} {v : Option Value}, rc 0 x1 x2 x3 x4 s = some (s', v) → Q v (mH h s') → zz_E zp_P zt_tf zt_fd X (d + 1) zm_331 22 [(0, .ref 61), (1, .int x1), (2, .int x2), (3, .int x3), (4, .int x4)] [] (mH h s) Q) {Q : Option Value → zz_H → Prop} {x1 : Int32} {x2 : Int32} {x3 : Int32} {x4 : Int32} {x5 : Int32} {s s' : mS} {v : Option Value} (hf : mf_331_51 N rc x1 x2 x3 x4 x5 s = some (s', v)) (k : Q v (mH h s')) : zz_E zp_P zt_tf zt_fd X (d + 1) zm_331 51 [(0, .ref 61), (1, .int x1), (2, .int x2), (3, .int x3), (4, .int x4), (5, .int x5)] [] (mH h s) Q := by
  unfold mf_331_51 at hf
  exact mb_331_51 hh  (mr_331_83 hh hrc0 hf k)
def mf_331_80 (N : Nat) (rc : Nat → Int32 → Int32 → Int32 → Int32 → mS → mO) (x1 : Int32) (x2 : Int32) (x4 : Int32) (x5 : Int32) (s : mS) : mO := mf_331_83 N rc x1 x2 x5 x4 s
theorem mr_331_80 {X : Nat → Option zz_C} {h : zz_H} (hh : 111 ≤ h.length) {d : Nat} {N : Nat} {rc : Nat → Int32 → Int32 → Int32 → Int32 → mS → mO} (hrc0 : ∀ {Q : Option Value → zz_H → Prop} {x1 : Int32} {x2 : Int32} {x3 : Int32} {x4 : Int32} {s s' : mS} {v : Option Value}, rc 0 x1 x2 x3 x4 s = some (s', v) → Q v (mH h s') → zz_E zp_P zt_tf zt_fd X (d + 1) zm_331 22 [(0, .ref 61), (1, .int x1), (2, .int x2), (3, .int x3), (4, .int x4)] [] (mH h s) Q) {Q : Option Value → zz_H → Prop} {x1 : Int32} {x2 : Int32} {x4 : Int32} {x5 : Int32} {s s' : mS} {v : Option Value} (hf : mf_331_80 N rc x1 x2 x4 x5 s = some (s', v)) (k : Q v (mH h s')) : zz_E zp_P zt_tf zt_fd X (d + 1) zm_331 80 [(0, .ref 61), (1, .int x1), (2, .int x2), (4, .int x4), (5, .int x5)] [] (mH h s) Q := by
  unfold mf_331_80 at hf
  exact mb_331_80 hh  (mr_331_83 hh hrc0 hf k)
def mf_331_71 (N : Nat) (rc : Nat → Int32 → Int32 → Int32 → Int32 → mS → mO) (x1 : Int32) (x2 : Int32) (x4 : Int32) (x5 : Int32) (s : mS) : mO := mf_331_80 N rc x1 x2 x4 x5 s
theorem mr_331_71 {X : Nat → Option zz_C} {h : zz_H} (hh : 111 ≤ h.length) {d : Nat} {N : Nat} {rc : Nat → Int32 → Int32 → Int32 → Int32 → mS → mO} (hrc0 : ∀ {Q : Option Value → zz_H → Prop} {x1 : Int32} {x2 : Int32} {x3 : Int32} {x4 : Int32} {s s' : mS} {v : Option Value}, rc 0 x1 x2 x3 x4 s = some (s', v) → Q v (mH h s') → zz_E zp_P zt_tf zt_fd X (d + 1) zm_331 22 [(0, .ref 61), (1, .int x1), (2, .int x2), (3, .int x3), (4, .int x4)] [] (mH h s) Q) {Q : Option Value → zz_H → Prop} {x1 : Int32} {x2 : Int32} {x4 : Int32} {x5 : Int32} {s s' : mS} {v : Option Value} (hf : mf_331_71 N rc x1 x2 x4 x5 s = some (s', v)) (k : Q v (mH h s')) : zz_E zp_P zt_tf zt_fd X (d + 1) zm_331 71 [(0, .ref 61), (1, .int x1), (2, .int x2), (4, .int x4), (5, .int x5)] [] (mH h s) Q := by
  unfold mf_331_71 at hf
  exact mb_331_71 hh  (mr_331_80 hh hrc0 hf k)
def mf_331_65 (N : Nat) (rc : Nat → Int32 → Int32 → Int32 → Int32 → mS → mO) (x1 : Int32) (x2 : Int32) (x3 : Int32) (x4 : Int32) (x5 : Int32) (s : mS) : mO := if x5 ≤ x3 then mf_331_83 N rc x1 x2 x3 x4 s else mf_331_71 N rc x1 x2 x4 x5 s
theorem mr_331_65 {X : Nat → Option zz_C} {h : zz_H} (hh : 111 ≤ h.length) {d : Nat} {N : Nat} {rc : Nat → Int32 → Int32 → Int32 → Int32 → mS → mO} (hrc0 : ∀ {Q : Option Value → zz_H → Prop} {x1 : Int32} {x2 : Int32} {x3 : Int32} {x4 : Int32} {s s' : mS} {v : Option Value}, rc 0 x1 x2 x3 x4 s = some (s', v) → Q v (mH h s') → zz_E zp_P zt_tf zt_fd X (d + 1) zm_331 22 [(0, .ref 61), (1, .int x1), (2, .int x2), (3, .int x3), (4, .int x4)] [] (mH h s) Q) {Q : Option Value → zz_H → Prop} {x1 : Int32} {x2 : Int32} {x3 : Int32} {x4 : Int32} {x5 : Int32} {s s' : mS} {v : Option Value} (hf : mf_331_65 N rc x1 x2 x3 x4 x5 s = some (s', v)) (k : Q v (mH h s')) : zz_E zp_P zt_tf zt_fd X (d + 1) zm_331 65 [(0, .ref 61), (1, .int x1), (2, .int x2), (3, .int x3), (4, .int x4), (5, .int x5)] [] (mH h s) Q := by
  unfold mf_331_65 at hf
  refine mb_331_65 hh  (fun c => ?_) (fun c => ?_)
  · rw [if_pos c] at hf
    exact mr_331_83 hh hrc0 hf k
  · rw [if_neg c] at hf
    exact mr_331_71 hh hrc0 hf k
def mf_331_74 (N : Nat) (rc : Nat → Int32 → Int32 → Int32 → Int32 → mS → mO) (x1 : Int32) (x2 : Int32) (x3 : Int32) (x4 : Int32) (x5 : Int32) (s : mS) : mO := if x3 ≤ x5 then mf_331_83 N rc x1 x2 x3 x4 s else mf_331_80 N rc x1 x2 x4 x5 s
theorem mr_331_74 {X : Nat → Option zz_C} {h : zz_H} (hh : 111 ≤ h.length) {d : Nat} {N : Nat} {rc : Nat → Int32 → Int32 → Int32 → Int32 → mS → mO} (hrc0 : ∀ {Q : Option Value → zz_H → Prop} {x1 : Int32} {x2 : Int32} {x3 : Int32} {x4 : Int32} {s s' : mS} {v : Option Value}, rc 0 x1 x2 x3 x4 s = some (s', v) → Q v (mH h s') → zz_E zp_P zt_tf zt_fd X (d + 1) zm_331 22 [(0, .ref 61), (1, .int x1), (2, .int x2), (3, .int x3), (4, .int x4)] [] (mH h s) Q) {Q : Option Value → zz_H → Prop} {x1 : Int32} {x2 : Int32} {x3 : Int32} {x4 : Int32} {x5 : Int32} {s s' : mS} {v : Option Value} (hf : mf_331_74 N rc x1 x2 x3 x4 x5 s = some (s', v)) (k : Q v (mH h s')) : zz_E zp_P zt_tf zt_fd X (d + 1) zm_331 74 [(0, .ref 61), (1, .int x1), (2, .int x2), (3, .int x3), (4, .int x4), (5, .int x5)] [] (mH h s) Q := by
  unfold mf_331_74 at hf
  refine mb_331_74 hh  (fun c => ?_) (fun c => ?_)
  · rw [if_pos c] at hf
    exact mr_331_83 hh hrc0 hf k
  · rw [if_neg c] at hf
    exact mr_331_80 hh hrc0 hf k
def mf_331_59 (N : Nat) (rc : Nat → Int32 → Int32 → Int32 → Int32 → mS → mO) (x1 : Int32) (x2 : Int32) (x3 : Int32) (x4 : Int32) (x5 : Int32) (s : mS) : mO := if ¬ x1 = 10 then mf_331_74 N rc x1 x2 x3 x4 x5 s else mf_331_65 N rc x1 x2 x3 x4 x5 s
theorem mr_331_59 {X : Nat → Option zz_C} {h : zz_H} (hh : 111 ≤ h.length) {d : Nat} {N : Nat} {rc : Nat → Int32 → Int32 → Int32 → Int32 → mS → mO} (hrc0 : ∀ {Q : Option Value → zz_H → Prop} {x1 : Int32} {x2 : Int32} {x3 : Int32} {x4 : Int32} {s s' : mS} {v : Option Value}, rc 0 x1 x2 x3 x4 s = some (s', v) → Q v (mH h s') → zz_E zp_P zt_tf zt_fd X (d + 1) zm_331 22 [(0, .ref 61), (1, .int x1), (2, .int x2), (3, .int x3), (4, .int x4)] [] (mH h s) Q) {Q : Option Value → zz_H → Prop} {x1 : Int32} {x2 : Int32} {x3 : Int32} {x4 : Int32} {x5 : Int32} {s s' : mS} {v : Option Value} (hf : mf_331_59 N rc x1 x2 x3 x4 x5 s = some (s', v)) (k : Q v (mH h s')) : zz_E zp_P zt_tf zt_fd X (d + 1) zm_331 59 [(0, .ref 61), (1, .int x1), (2, .int x2), (3, .int x3), (4, .int x4), (5, .int x5)] [] (mH h s) Q := by
  unfold mf_331_59 at hf
  refine mb_331_59 hh  (fun c => ?_) (fun c => ?_)
  · rw [if_pos c] at hf
    exact mr_331_74 hh hrc0 hf k
  · rw [if_neg c] at hf
    exact mr_331_65 hh hrc0 hf k
def mf_331_32 (N : Nat) (rc : Nat → Int32 → Int32 → Int32 → Int32 → mS → mO) (x1 : Int32) (x2 : Int32) (x3 : Int32) (x4 : Int32) (s : mS) : mO := if ¬ (((x2 + 2) + x4) < 0 ∨ 166300 ≤ Int32.toNatClampNeg ((x2 + 2) + x4)) then (if ¬ x1 = 9 then mf_331_59 N rc x1 x2 x3 x4 ((s.2.2.1 47) (Int32.toNatClampNeg ((x2 + 2) + x4))) s else mf_331_51 N rc x1 x2 x3 x4 ((s.2.2.1 47) (Int32.toNatClampNeg ((x2 + 2) + x4))) s) else none
theorem mr_331_32 {X : Nat → Option zz_C} {h : zz_H} (hh : 111 ≤ h.length) {d : Nat} {N : Nat} {rc : Nat → Int32 → Int32 → Int32 → Int32 → mS → mO} (hrc0 : ∀ {Q : Option Value → zz_H → Prop} {x1 : Int32} {x2 : Int32} {x3 : Int32} {x4 : Int32} {s s' : mS} {v : Option Value}, rc 0 x1 x2 x3 x4 s = some (s', v) → Q v (mH h s') → zz_E zp_P zt_tf zt_fd X (d + 1) zm_331 22 [(0, .ref 61), (1, .int x1), (2, .int x2), (3, .int x3), (4, .int x4)] [] (mH h s) Q) {Q : Option Value → zz_H → Prop} {x1 : Int32} {x2 : Int32} {x3 : Int32} {x4 : Int32} {s s' : mS} {v : Option Value} (hf : mf_331_32 N rc x1 x2 x3 x4 s = some (s', v)) (k : Q v (mH h s')) : zz_E zp_P zt_tf zt_fd X (d + 1) zm_331 32 [(0, .ref 61), (1, .int x1), (2, .int x2), (3, .int x3), (4, .int x4)] [] (mH h s) Q := by
  unfold mf_331_32 at hf
  obtain ⟨q0, hf⟩ := mo_if hf
  refine mb_331_32 hh q0 (fun c => ?_) (fun c => ?_)
  · rw [if_pos c] at hf
    exact mr_331_59 hh hrc0 hf k
  · rw [if_neg c] at hf
    exact mr_331_51 hh hrc0 hf k
def mf_331_29 (N : Nat) (rc : Nat → Int32 → Int32 → Int32 → Int32 → mS → mO) (x1 : Int32) (x2 : Int32) (x3 : Int32) (x4 : Int32) (y0 : Int32) (y1 : Int32) (s : mS) : mO := if y1 ≤ y0 then mf_331_89 N x3 s else mf_331_32 N rc x1 x2 x3 x4 s
theorem mr_331_29 {X : Nat → Option zz_C} {h : zz_H} (hh : 111 ≤ h.length) {d : Nat} {N : Nat} {rc : Nat → Int32 → Int32 → Int32 → Int32 → mS → mO} (hrc0 : ∀ {Q : Option Value → zz_H → Prop} {x1 : Int32} {x2 : Int32} {x3 : Int32} {x4 : Int32} {s s' : mS} {v : Option Value}, rc 0 x1 x2 x3 x4 s = some (s', v) → Q v (mH h s') → zz_E zp_P zt_tf zt_fd X (d + 1) zm_331 22 [(0, .ref 61), (1, .int x1), (2, .int x2), (3, .int x3), (4, .int x4)] [] (mH h s) Q) {Q : Option Value → zz_H → Prop} {x1 : Int32} {x2 : Int32} {x3 : Int32} {x4 : Int32} {y0 : Int32} {y1 : Int32} {s s' : mS} {v : Option Value} (hf : mf_331_29 N rc x1 x2 x3 x4 y0 y1 s = some (s', v)) (k : Q v (mH h s')) : zz_E zp_P zt_tf zt_fd X (d + 1) zm_331 29 [(0, .ref 61), (1, .int x1), (2, .int x2), (3, .int x3), (4, .int x4)] [.int y1, .int y0] (mH h s) Q := by
  unfold mf_331_29 at hf
  refine mb_331_29 hh  (fun c => ?_) (fun c => ?_)
  · rw [if_pos c] at hf
    exact mr_331_89 hh hf k
  · rw [if_neg c] at hf
    exact mr_331_32 hh hrc0 hf k
def mf_331_22 (N : Nat) (rc : Nat → Int32 → Int32 → Int32 → Int32 → mS → mO) (x1 : Int32) (x2 : Int32) (x3 : Int32) (x4 : Int32) (s : mS) : mO := mo_bi (mf_77 N x2 s) (fun s1 y => mf_331_29 N rc x1 x2 x3 x4 x4 y s1)
theorem mr_331_22 {X : Nat → Option zz_C} {h : zz_H} (hh : 111 ≤ h.length) {d : Nat} {N : Nat} {rc : Nat → Int32 → Int32 → Int32 → Int32 → mS → mO} (hrc0 : ∀ {Q : Option Value → zz_H → Prop} {x1 : Int32} {x2 : Int32} {x3 : Int32} {x4 : Int32} {s s' : mS} {v : Option Value}, rc 0 x1 x2 x3 x4 s = some (s', v) → Q v (mH h s') → zz_E zp_P zt_tf zt_fd X (d + 1) zm_331 22 [(0, .ref 61), (1, .int x1), (2, .int x2), (3, .int x3), (4, .int x4)] [] (mH h s) Q) {Q : Option Value → zz_H → Prop} {x1 : Int32} {x2 : Int32} {x3 : Int32} {x4 : Int32} {s s' : mS} {v : Option Value} (hf : mf_331_22 N rc x1 x2 x3 x4 s = some (s', v)) (k : Q v (mH h s')) : zz_E zp_P zt_tf zt_fd X (d + 1) zm_331 22 [(0, .ref 61), (1, .int x1), (2, .int x2), (3, .int x3), (4, .int x4)] [] (mH h s) Q := by
  unfold mf_331_22 at hf
  obtain ⟨s1, y, e, hf⟩ := mo_bi_ok hf
  exact mb_331_22 (d := d + 0) hh  (mr_77 (d := d + 0) hh e (mr_331_29 hh hrc0 hf k))
def mf_331_L1 (N : Nat) : Nat → Nat → Int32 → Int32 → Int32 → Int32 → mS → mO
  | 0, _, _, _, _, _, _ => none
  | n + 1, l, x1, x2, x3, x4, s => if l = 0 then mf_331_22 N (mf_331_L1 N n) x1 x2 x3 x4 s else none
theorem mr_331_L1 {X : Nat → Option zz_C} {h : zz_H} (hh : 111 ≤ h.length) {d : Nat} {N : Nat} : ∀ n : Nat, (∀ {Q : Option Value → zz_H → Prop} {x1 : Int32} {x2 : Int32} {x3 : Int32} {x4 : Int32} {s s' : mS} {v : Option Value}, mf_331_L1 N n 0 x1 x2 x3 x4 s = some (s', v) → Q v (mH h s') → zz_E zp_P zt_tf zt_fd X (d + 1) zm_331 22 [(0, .ref 61), (1, .int x1), (2, .int x2), (3, .int x3), (4, .int x4)] [] (mH h s) Q) := by
  intro n
  induction n with
  | zero => exact (fun hf _ => by cases hf)
  | succ n ih =>
    have h0 := @ih
    intro Q _ _ _ _ s s' v hf k
    unfold mf_331_L1 at hf
    rw [if_pos rfl] at hf
    exact mr_331_22 hh h0 hf k
def mf_331_18 (N : Nat) (x1 : Int32) (x2 : Int32) (y0 : Int32) (s : mS) : mO := mf_331_L1 N N 0 x1 x2 y0 0 s
theorem mr_331_18 {X : Nat → Option zz_C} {h : zz_H} (hh : 111 ≤ h.length) {d : Nat} {N : Nat} {Q : Option Value → zz_H → Prop} {x1 : Int32} {x2 : Int32} {y0 : Int32} {s s' : mS} {v : Option Value} (hf : mf_331_18 N x1 x2 y0 s = some (s', v)) (k : Q v (mH h s')) : zz_E zp_P zt_tf zt_fd X (d + 1) zm_331 18 [(0, .ref 61), (1, .int x1), (2, .int x2)] [.int y0] (mH h s) Q := by
  unfold mf_331_18 at hf
  exact mb_331_18 hh  (mr_331_L1 hh N hf k)
def mf_331_10 (N : Nat) (x1 : Int32) (x2 : Int32) (s : mS) : mO := if ¬ ((x2 + 2) < 0 ∨ 166300 ≤ Int32.toNatClampNeg (x2 + 2)) then (mf_331_18 N x1 x2 ((s.2.2.1 47) (Int32.toNatClampNeg (x2 + 2))) s) else none
theorem mr_331_10 {X : Nat → Option zz_C} {h : zz_H} (hh : 111 ≤ h.length) {d : Nat} {N : Nat} {Q : Option Value → zz_H → Prop} {x1 : Int32} {x2 : Int32} {s s' : mS} {v : Option Value} (hf : mf_331_10 N x1 x2 s = some (s', v)) (k : Q v (mH h s')) : zz_E zp_P zt_tf zt_fd X (d + 1) zm_331 10 [(0, .ref 61), (1, .int x1), (2, .int x2)] [] (mH h s) Q := by
  unfold mf_331_10 at hf
  obtain ⟨q0, hf⟩ := mo_if hf
  exact mb_331_10 hh q0 (mr_331_18 hh hf k)
def mf_331_6 (N : Nat) (x1 : Int32) (x2 : Int32) (s : mS) : mO := mf_331_18 N x1 x2 0 s
theorem mr_331_6 {X : Nat → Option zz_C} {h : zz_H} (hh : 111 ≤ h.length) {d : Nat} {N : Nat} {Q : Option Value → zz_H → Prop} {x1 : Int32} {x2 : Int32} {s s' : mS} {v : Option Value} (hf : mf_331_6 N x1 x2 s = some (s', v)) (k : Q v (mH h s')) : zz_E zp_P zt_tf zt_fd X (d + 1) zm_331 6 [(0, .ref 61), (1, .int x1), (2, .int x2)] [] (mH h s) Q := by
  unfold mf_331_6 at hf
  exact mb_331_6 hh  (mr_331_18 hh hf k)
def mf_331_0 (N : Nat) (x1 : Int32) (x2 : Int32) (s : mS) : mO := if ¬ x1 = 9 then mf_331_10 N x1 x2 s else mf_331_6 N x1 x2 s
theorem mr_331_0 {X : Nat → Option zz_C} {h : zz_H} (hh : 111 ≤ h.length) {d : Nat} {N : Nat} {Q : Option Value → zz_H → Prop} {x1 : Int32} {x2 : Int32} {s s' : mS} {v : Option Value} (hf : mf_331_0 N x1 x2 s = some (s', v)) (k : Q v (mH h s')) : zz_E zp_P zt_tf zt_fd X (d + 1) zm_331 0 [(0, .ref 61), (1, .int x1), (2, .int x2)] [] (mH h s) Q := by
  unfold mf_331_0 at hf
  refine mb_331_0 hh  (fun c => ?_) (fun c => ?_)
  · rw [if_pos c] at hf
    exact mr_331_10 hh hf k
  · rw [if_neg c] at hf
    exact mr_331_6 hh hf k
/-- reduced -/
def mf_331 (N : Nat) (x1 : Int32) (x2 : Int32) (s : mS) : mO := mf_331_0 N x1 x2 s
theorem mr_331 {X : Nat → Option zz_C} {h : zz_H} (hh : 111 ≤ h.length) {d : Nat} {N : Nat} {Q : Option Value → zz_H → Prop} {x1 : Int32} {x2 : Int32} {s s' : mS} {v : Option Value} (hf : mf_331 N x1 x2 s = some (s', v)) (k : Q v (mH h s')) : zz_E zp_P zt_tf zt_fd X (d + 1) zm_331 0 [(0, .ref 61), (1, .int x1), (2, .int x2)] [] (mH h s) Q := by
  unfold mf_331 at hf
  exact zz_E.weak (mr_331_0 hh hf k) rfl ⟨rfl, rfl, rfl, trivial⟩
/-! worked (II)V -/
theorem mb_332_0 {X : Nat → Option zz_C} {h : zz_H} (hh : 111 ≤ h.length) {s : mS} {d : Nat} {Q : Option Value → zz_H → Prop} {x1 : Int32} {x2 : Int32} (k : zz_E zp_P zt_tf zt_fd X d zm_332 11 [(0, .ref 61), (1, .int x1), (2, .int x2), (3, .int (s.1 51)), (4, .int 0), (5, .int 0)] [] (mH h s) Q) : zz_E zp_P zt_tf zt_fd X d zm_332 0 [(0, .ref 61), (1, .int x1), (2, .int x2)] [] (mH h s) Q := by
  refine zz_E.n 1 rfl rfl rfl ?_
  refine mE_g hh 4 (v := .int (s.1 51)) rfl rfl rfl ?_
  refine zz_E.n 5 rfl rfl rfl ?_
  refine zz_E.c 6 (.int 0) rfl rfl rfl rfl ?_
  refine zz_E.n 8 rfl rfl rfl ?_
  refine zz_E.c 9 (.int 0) rfl rfl rfl rfl ?_
  refine zz_E.n 11 rfl rfl rfl ?_
  exact zz_E.weak k rfl ⟨rfl, rfl, rfl, rfl, rfl, rfl, trivial⟩
theorem mb_332_11 {X : Nat → Option zz_C} {h : zz_H} (hh : 111 ≤ h.length) {s : mS} {d : Nat} {Q : Option Value → zz_H → Prop} {x1 : Int32} {x2 : Int32} {x3 : Int32} {x4 : Int32} {x5 : Int32} (k : zz_E zp_P zt_tf zt_fd X d zm_77 0 [(0, .ref 61), (1, .int x2)] [] (mH h s) (fun v h' => zz_E zp_P zt_tf zt_fd X (d + 1) zm_332 18 [(0, .ref 61), (1, .int x1), (2, .int x2), (3, .int x3), (4, .int x4), (5, .int x5)] (v.toList ++ [.int x5]) h' Q)) : zz_E zp_P zt_tf zt_fd X (d + 1) zm_332 11 [(0, .ref 61), (1, .int x1), (2, .int x2), (3, .int x3), (4, .int x4), (5, .int x5)] [] (mH h s) Q := by
  refine zz_E.n 13 rfl rfl rfl ?_
  refine zz_E.n 14 rfl rfl rfl ?_
  refine zz_E.n 15 rfl rfl rfl ?_
  refine mE_cv hh 18 (as := [.int x5]) rfl rfl (Nat.le_of_ble_eq_true rfl) (Nat.le_of_ble_eq_true rfl) rfl (Nat.le_of_ble_eq_true rfl) rfl ?_
  refine zz_E.mono k ?_
  intro v h' hE
  exact zz_E.weak hE rfl ⟨rfl, rfl, rfl, rfl, rfl, rfl, trivial⟩
theorem mb_332_18 {X : Nat → Option zz_C} {h : zz_H} (hh : 111 ≤ h.length) {s : mS} {d : Nat} {Q : Option Value → zz_H → Prop} {x1 : Int32} {x2 : Int32} {x3 : Int32} {x4 : Int32} {x5 : Int32} {y0 : Int32} {y1 : Int32} (k1 : y1 ≤ y0 → zz_E zp_P zt_tf zt_fd X d zm_332 76 [(0, .ref 61), (1, .int x1), (2, .int x2), (3, .int x3)] [] (mH h s) Q) (k2 : ¬ y1 ≤ y0 → zz_E zp_P zt_tf zt_fd X d zm_332 21 [(0, .ref 61), (1, .int x1), (2, .int x2), (3, .int x3), (4, .int x4), (5, .int x5)] [] (mH h s) Q) : zz_E zp_P zt_tf zt_fd X d zm_332 18 [(0, .ref 61), (1, .int x1), (2, .int x2), (3, .int x3), (4, .int x4), (5, .int x5)] [.int y1, .int y0] (mH h s) Q := by
  refine zz_E.b2 76 21 (A := y1 ≤ y0) rfl rfl (by decide) rfl rfl (fun c => ?_) (fun c => ?_)
  · exact zz_E.weak (k1 c) rfl ⟨rfl, rfl, rfl, rfl, trivial⟩
  · exact zz_E.weak (k2 c) rfl ⟨rfl, rfl, rfl, rfl, rfl, rfl, trivial⟩
theorem mb_332_21 {X : Nat → Option zz_C} {h : zz_H} (hh : 111 ≤ h.length) {s : mS} {d : Nat} {Q : Option Value → zz_H → Prop} {x1 : Int32} {x2 : Int32} {x3 : Int32} {x4 : Int32} {x5 : Int32} (i31 : ¬ (((x2 + 2) + x5) < 0 ∨ 166300 ≤ Int32.toNatClampNeg ((x2 + 2) + x5))) (k1 : ¬ x1 = 12 → zz_E zp_P zt_tf zt_fd X d zm_332 54 [(0, .ref 61), (1, .int x1), (2, .int x2), (3, .int x3), (4, .int (x4 + ((s.2.2.1 47) (Int32.toNatClampNeg ((x2 + 2) + x5))))), (5, .int x5), (6, .int ((s.2.2.1 47) (Int32.toNatClampNeg ((x2 + 2) + x5))))] [.int 0, .ref 61] (mH h s) Q) (k2 : ¬ ¬ x1 = 12 → zz_E zp_P zt_tf zt_fd X d zm_332 49 [(0, .ref 61), (1, .int x1), (2, .int x2), (3, .int x3), (4, .int (x4 + ((s.2.2.1 47) (Int32.toNatClampNeg ((x2 + 2) + x5))))), (5, .int x5)] [.int 0, .ref 61] (mH h s) Q) : zz_E zp_P zt_tf zt_fd X d zm_332 21 [(0, .ref 61), (1, .int x1), (2, .int x2), (3, .int x3), (4, .int x4), (5, .int x5)] [] (mH h s) Q := by
  refine zz_E.n 22 rfl rfl rfl ?_
  refine mE_g hh 25 (v := .ref 89) rfl rfl rfl ?_
  refine zz_E.n 26 rfl rfl rfl ?_
  refine zz_E.c 27 (.int 2) rfl rfl rfl rfl ?_
  refine zz_E.n 28 rfl rfl rfl ?_
  refine zz_E.n 30 rfl rfl rfl ?_
  refine zz_E.n 31 rfl rfl rfl ?_
  refine mE_ia hh 32 28 (f := (s.2.2.1 47)) rfl (by decide) rfl rfl i31 rfl ?_
  refine zz_E.n 34 rfl rfl rfl ?_
  refine zz_E.n 36 rfl rfl rfl ?_
  refine zz_E.n 38 rfl rfl rfl ?_
  refine zz_E.n 39 rfl rfl rfl ?_
  refine zz_E.n 41 rfl rfl rfl ?_
  refine zz_E.n 42 rfl rfl rfl ?_
  refine zz_E.c 43 (.int 0) rfl rfl rfl rfl ?_
  refine zz_E.n 44 rfl rfl rfl ?_
  refine zz_E.c 46 (.int 12) rfl rfl rfl rfl ?_
  refine zz_E.b2 54 49 (A := ¬ x1 = 12) rfl (zz_cond_ne _ _) (by decide) rfl rfl (fun c => ?_) (fun c => ?_)
  · exact zz_E.weak (k1 c) rfl ⟨rfl, rfl, rfl, rfl, rfl, rfl, rfl, trivial⟩
  · exact zz_E.weak (k2 c) rfl ⟨rfl, rfl, rfl, rfl, rfl, rfl, trivial⟩
theorem mb_332_49 {X : Nat → Option zz_C} {h : zz_H} (hh : 111 ≤ h.length) {s : mS} {d : Nat} {Q : Option Value → zz_H → Prop} {x1 : Int32} {x2 : Int32} {x3 : Int32} {x4 : Int32} {x5 : Int32} {y1 : Int32} (k : zz_E zp_P zt_tf zt_fd X d zm_332 67 [(0, .ref 61), (1, .int x1), (2, .int x2), (3, .int x3), (4, .int x4), (5, .int x5)] [.int x4, .int y1, .ref 61] (mH h s) Q) : zz_E zp_P zt_tf zt_fd X d zm_332 49 [(0, .ref 61), (1, .int x1), (2, .int x2), (3, .int x3), (4, .int x4), (5, .int x5)] [.int y1, .ref 61] (mH h s) Q := by
  refine zz_E.n 51 rfl rfl rfl ?_
  refine zz_E.n 67 rfl rfl rfl ?_
  exact zz_E.weak k rfl ⟨rfl, rfl, rfl, rfl, rfl, rfl, trivial⟩
theorem mb_332_54 {X : Nat → Option zz_C} {h : zz_H} (hh : 111 ≤ h.length) {s : mS} {d : Nat} {Q : Option Value → zz_H → Prop} {x1 : Int32} {x2 : Int32} {x3 : Int32} {x4 : Int32} {x5 : Int32} {x6 : Int32} {y1 : Int32} (k1 : ¬ x1 = 13 → zz_E zp_P zt_tf zt_fd X d zm_332 65 [(0, .ref 61), (1, .int x1), (2, .int x2), (3, .int x3), (4, .int x4), (5, .int x5)] [.int y1, .ref 61] (mH h s) Q) (k2 : ¬ ¬ x1 = 13 → zz_E zp_P zt_tf zt_fd X d zm_332 60 [(0, .ref 61), (1, .int x1), (2, .int x2), (3, .int x3), (4, .int x4), (5, .int x5), (6, .int x6)] [.int y1, .ref 61] (mH h s) Q) : zz_E zp_P zt_tf zt_fd X d zm_332 54 [(0, .ref 61), (1, .int x1), (2, .int x2), (3, .int x3), (4, .int x4), (5, .int x5), (6, .int x6)] [.int y1, .ref 61] (mH h s) Q := by
  refine zz_E.n 55 rfl rfl rfl ?_
  refine zz_E.c 57 (.int 13) rfl rfl rfl rfl ?_
  refine zz_E.b2 65 60 (A := ¬ x1 = 13) rfl (zz_cond_ne _ _) (by decide) rfl rfl (fun c => ?_) (fun c => ?_)
  · exact zz_E.weak (k1 c) rfl ⟨rfl, rfl, rfl, rfl, rfl, rfl, trivial⟩
  · exact zz_E.weak (k2 c) rfl ⟨rfl, rfl, rfl, rfl, rfl, rfl, rfl, trivial⟩
theorem mb_332_60 {X : Nat → Option zz_C} {h : zz_H} (hh : 111 ≤ h.length) {s : mS} {d : Nat} {Q : Option Value → zz_H → Prop} {x1 : Int32} {x2 : Int32} {x3 : Int32} {x4 : Int32} {x5 : Int32} {x6 : Int32} {y1 : Int32} (k : zz_E zp_P zt_tf zt_fd X d zm_332 67 [(0, .ref 61), (1, .int x1), (2, .int x2), (3, .int x3), (4, .int x4), (5, .int x5)] [.int x6, .int y1, .ref 61] (mH h s) Q) : zz_E zp_P zt_tf zt_fd X d zm_332 60 [(0, .ref 61), (1, .int x1), (2, .int x2), (3, .int x3), (4, .int x4), (5, .int x5), (6, .int x6)] [.int y1, .ref 61] (mH h s) Q := by
  refine zz_E.n 62 rfl rfl rfl ?_
  refine zz_E.n 67 rfl rfl rfl ?_
  exact zz_E.weak k rfl ⟨rfl, rfl, rfl, rfl, rfl, rfl, trivial⟩
theorem mb_332_65 {X : Nat → Option zz_C} {h : zz_H} (hh : 111 ≤ h.length) {s : mS} {d : Nat} {Q : Option Value → zz_H → Prop} {x1 : Int32} {x2 : Int32} {x3 : Int32} {x4 : Int32} {x5 : Int32} {y1 : Int32} (k : zz_E zp_P zt_tf zt_fd X d zm_332 67 [(0, .ref 61), (1, .int x1), (2, .int x2), (3, .int x3), (4, .int x4), (5, .int x5)] [.int x5, .int y1, .ref 61] (mH h s) Q) : zz_E zp_P zt_tf zt_fd X d zm_332 65 [(0, .ref 61), (1, .int x1), (2, .int x2), (3, .int x3), (4, .int x4), (5, .int x5)] [.int y1, .ref 61] (mH h s) Q := by
  refine zz_E.n 67 rfl rfl rfl ?_
  exact zz_E.weak k rfl ⟨rfl, rfl, rfl, rfl, rfl, rfl, trivial⟩
theorem mb_332_67 {X : Nat → Option zz_C} {h : zz_H} (hh : 111 ≤ h.length) {s : mS} {d : Nat} {Q : Option Value → zz_H → Prop} {x1 : Int32} {x2 : Int32} {x3 : Int32} {x4 : Int32} {x5 : Int32} {y1 : Int32} {y2 : Int32} (k : zz_E zp_P zt_tf zt_fd X d zm_291 0 [(0, .ref 61), (1, .int y1), (2, .int y2)] [] (mH h s) (fun v h' => zz_E zp_P zt_tf zt_fd X (d + 1) zm_332 70 [(0, .ref 61), (1, .int x1), (2, .int x2), (3, .int x3), (4, .int x4), (5, .int x5)] (v.toList ++ []) h' Q)) : zz_E zp_P zt_tf zt_fd X (d + 1) zm_332 67 [(0, .ref 61), (1, .int x1), (2, .int x2), (3, .int x3), (4, .int x4), (5, .int x5)] [.int y2, .int y1, .ref 61] (mH h s) Q := by
  refine mE_cv hh 70 (as := []) rfl rfl (Nat.le_of_ble_eq_true rfl) (Nat.le_of_ble_eq_true rfl) rfl (Nat.le_of_ble_eq_true rfl) rfl ?_
  refine zz_E.mono k ?_
  intro v h' hE
  exact zz_E.weak hE rfl ⟨rfl, rfl, rfl, rfl, rfl, rfl, trivial⟩
theorem mb_332_70 {X : Nat → Option zz_C} {h : zz_H} (hh : 111 ≤ h.length) {s : mS} {d : Nat} {Q : Option Value → zz_H → Prop} {x1 : Int32} {x2 : Int32} {x3 : Int32} {x4 : Int32} {x5 : Int32} (k : zz_E zp_P zt_tf zt_fd X d zm_332 11 [(0, .ref 61), (1, .int x1), (2, .int x2), (3, .int x3), (4, .int x4), (5, .int (x5 + 1))] [] (mH h s) Q) : zz_E zp_P zt_tf zt_fd X d zm_332 70 [(0, .ref 61), (1, .int x1), (2, .int x2), (3, .int x3), (4, .int x4), (5, .int x5)] [] (mH h s) Q := by
  refine zz_E.n 73 rfl rfl rfl ?_
  refine zz_E.n 11 rfl rfl rfl ?_
  exact zz_E.weak k rfl ⟨rfl, rfl, rfl, rfl, rfl, rfl, trivial⟩
theorem mb_332_76 {X : Nat → Option zz_C} {h : zz_H} (hh : 111 ≤ h.length) {s : mS} {d : Nat} {Q : Option Value → zz_H → Prop} {x1 : Int32} {x2 : Int32} {x3 : Int32} (k1 : ¬ x1 = 12 → zz_E zp_P zt_tf zt_fd X d zm_332 83 [(0, .ref 61), (1, .int x1), (2, .int x2), (3, .int x3)] [] (mH h s) Q) (k2 : ¬ ¬ x1 = 12 → zz_E zp_P zt_tf zt_fd X d zm_332 82 [] [] (mH h s) Q) : zz_E zp_P zt_tf zt_fd X d zm_332 76 [(0, .ref 61), (1, .int x1), (2, .int x2), (3, .int x3)] [] (mH h s) Q := by
  refine zz_E.n 77 rfl rfl rfl ?_
  refine zz_E.c 79 (.int 12) rfl rfl rfl rfl ?_
  refine zz_E.b2 83 82 (A := ¬ x1 = 12) rfl (zz_cond_ne _ _) (by decide) rfl rfl (fun c => ?_) (fun c => ?_)
  · exact zz_E.weak (k1 c) rfl ⟨rfl, rfl, rfl, rfl, trivial⟩
  · exact zz_E.weak (k2 c) rfl trivial
theorem mb_332_82 {X : Nat → Option zz_C} {h : zz_H} (hh : 111 ≤ h.length) {s : mS} {d : Nat} {Q : Option Value → zz_H → Prop}  (k : Q none (mH h s)) : zz_E zp_P zt_tf zt_fd X d zm_332 82 [] [] (mH h s) Q := by
  refine zz_E.ret rfl rfl rfl ?_
  exact k
theorem mb_332_83 {X : Nat → Option zz_C} {h : zz_H} (hh : 111 ≤ h.length) {s : mS} {d : Nat} {Q : Option Value → zz_H → Prop} {x1 : Int32} {x2 : Int32} {x3 : Int32} (k : zz_E zp_P zt_tf zt_fd X d zm_332 88 [(0, .ref 61), (1, .int x1), (2, .int x2), (3, .int x3), (5, .int (x3 + 1))] [] (mH h s) Q) : zz_E zp_P zt_tf zt_fd X d zm_332 83 [(0, .ref 61), (1, .int x1), (2, .int x2), (3, .int x3)] [] (mH h s) Q := by
  refine zz_E.n 84 rfl rfl rfl ?_
  refine zz_E.c 85 (.int 1) rfl rfl rfl rfl ?_
  refine zz_E.n 86 rfl rfl rfl ?_
  refine zz_E.n 88 rfl rfl rfl ?_
  exact zz_E.weak k rfl ⟨rfl, rfl, rfl, rfl, rfl, trivial⟩
theorem mb_332_88 {X : Nat → Option zz_C} {h : zz_H} (hh : 111 ≤ h.length) {s : mS} {d : Nat} {Q : Option Value → zz_H → Prop} {x1 : Int32} {x2 : Int32} {x3 : Int32} {x5 : Int32} (k1 : (s.1 51) ≤ x5 → zz_E zp_P zt_tf zt_fd X d zm_332 218 [] [] (mH h s) Q) (k2 : ¬ (s.1 51) ≤ x5 → zz_E zp_P zt_tf zt_fd X d zm_332 97 [(0, .ref 61), (1, .int x1), (2, .int x2), (3, .int x3), (5, .int x5)] [] (mH h s) Q) : zz_E zp_P zt_tf zt_fd X d zm_332 88 [(0, .ref 61), (1, .int x1), (2, .int x2), (3, .int x3), (5, .int x5)] [] (mH h s) Q := by
  refine zz_E.n 90 rfl rfl rfl ?_
  refine zz_E.n 91 rfl rfl rfl ?_
  refine mE_g hh 94 (v := .int (s.1 51)) rfl rfl rfl ?_
  refine zz_E.b2 218 97 (A := (s.1 51) ≤ x5) rfl rfl (by decide) rfl rfl (fun c => ?_) (fun c => ?_)
  · exact zz_E.weak (k1 c) rfl trivial
  · exact zz_E.weak (k2 c) rfl ⟨rfl, rfl, rfl, rfl, rfl, trivial⟩
theorem mb_332_97 {X : Nat → Option zz_C} {h : zz_H} (hh : 111 ≤ h.length) {s : mS} {d : Nat} {Q : Option Value → zz_H → Prop} {x1 : Int32} {x2 : Int32} {x3 : Int32} {x5 : Int32} (i103 : ¬ (x5 < 0 ∨ 9000 ≤ Int32.toNatClampNeg x5)) (k1 : ¬ x1 = 13 → zz_E zp_P zt_tf zt_fd X d zm_332 117 [(0, .ref 61), (1, .int x1), (2, .int x2), (3, .int x3), (5, .int x5), (6, .int ((s.2.2.1 50) (Int32.toNatClampNeg x5)))] [] (mH h s) Q) (k2 : ¬ ¬ x1 = 13 → zz_E zp_P zt_tf zt_fd X d zm_332 112 [(0, .ref 61), (1, .int x1), (2, .int x2), (3, .int x3), (5, .int x5), (6, .int ((s.2.2.1 50) (Int32.toNatClampNeg x5)))] [] (mH h s) Q) : zz_E zp_P zt_tf zt_fd X d zm_332 97 [(0, .ref 61), (1, .int x1), (2, .int x2), (3, .int x3), (5, .int x5)] [] (mH h s) Q := by
  refine zz_E.n 98 rfl rfl rfl ?_
  refine mE_g hh 101 (v := .ref 91) rfl rfl rfl ?_
  refine zz_E.n 103 rfl rfl rfl ?_
  refine mE_ia hh 104 30 (f := (s.2.2.1 50)) rfl (by decide) rfl rfl i103 rfl ?_
  refine zz_E.n 106 rfl rfl rfl ?_
  refine zz_E.n 107 rfl rfl rfl ?_
  refine zz_E.c 109 (.int 13) rfl rfl rfl rfl ?_
  refine zz_E.b2 117 112 (A := ¬ x1 = 13) rfl (zz_cond_ne _ _) (by decide) rfl rfl (fun c => ?_) (fun c => ?_)
  · exact zz_E.weak (k1 c) rfl ⟨rfl, rfl, rfl, rfl, rfl, rfl, trivial⟩
  · exact zz_E.weak (k2 c) rfl ⟨rfl, rfl, rfl, rfl, rfl, rfl, trivial⟩
theorem mb_332_112 {X : Nat → Option zz_C} {h : zz_H} (hh : 111 ≤ h.length) {s : mS} {d : Nat} {Q : Option Value → zz_H → Prop} {x1 : Int32} {x2 : Int32} {x3 : Int32} {x5 : Int32} {x6 : Int32} (k : zz_E zp_P zt_tf zt_fd X d zm_332 128 [(0, .ref 61), (1, .int x1), (2, .int x2), (3, .int x3), (5, .int x5), (6, .int x6)] [.int x6] (mH h s) Q) : zz_E zp_P zt_tf zt_fd X d zm_332 112 [(0, .ref 61), (1, .int x1), (2, .int x2), (3, .int x3), (5, .int x5), (6, .int x6)] [] (mH h s) Q := by
  refine zz_E.n 114 rfl rfl rfl ?_
  refine zz_E.n 128 rfl rfl rfl ?_
  exact zz_E.weak k rfl ⟨rfl, rfl, rfl, rfl, rfl, rfl, trivial⟩
theorem mb_332_117 {X : Nat → Option zz_C} {h : zz_H} (hh : 111 ≤ h.length) {s : mS} {d : Nat} {Q : Option Value → zz_H → Prop} {x1 : Int32} {x2 : Int32} {x3 : Int32} {x5 : Int32} {x6 : Int32} (i127 : ¬ (((x2 + 2) + x6) < 0 ∨ 166300 ≤ Int32.toNatClampNeg ((x2 + 2) + x6))) (k : zz_E zp_P zt_tf zt_fd X d zm_332 128 [(0, .ref 61), (1, .int x1), (2, .int x2), (3, .int x3), (5, .int x5), (6, .int x6)] [.int ((s.2.2.1 47) (Int32.toNatClampNeg ((x2 + 2) + x6)))] (mH h s) Q) : zz_E zp_P zt_tf zt_fd X d zm_332 117 [(0, .ref 61), (1, .int x1), (2, .int x2), (3, .int x3), (5, .int x5), (6, .int x6)] [] (mH h s) Q := by
  refine zz_E.n 118 rfl rfl rfl ?_
  refine mE_g hh 121 (v := .ref 89) rfl rfl rfl ?_
  refine zz_E.n 122 rfl rfl rfl ?_
  refine zz_E.c 123 (.int 2) rfl rfl rfl rfl ?_
  refine zz_E.n 124 rfl rfl rfl ?_
  refine zz_E.n 126 rfl rfl rfl ?_
  refine zz_E.n 127 rfl rfl rfl ?_
  refine mE_ia hh 128 28 (f := (s.2.2.1 47)) rfl (by decide) rfl rfl i127 rfl ?_
  exact zz_E.weak k rfl ⟨rfl, rfl, rfl, rfl, rfl, rfl, trivial⟩
theorem mb_332_128 {X : Nat → Option zz_C} {h : zz_H} (hh : 111 ≤ h.length) {s : mS} {d : Nat} {Q : Option Value → zz_H → Prop} {x1 : Int32} {x2 : Int32} {x3 : Int32} {x5 : Int32} {x6 : Int32} {y0 : Int32} (k : zz_E zp_P zt_tf zt_fd X d zm_332 134 [(0, .ref 61), (1, .int x1), (2, .int x2), (3, .int x3), (5, .int x5), (6, .int x6), (7, .int y0), (8, .int x5)] [] (mH h s) Q) : zz_E zp_P zt_tf zt_fd X d zm_332 128 [(0, .ref 61), (1, .int x1), (2, .int x2), (3, .int x3), (5, .int x5), (6, .int x6)] [.int y0] (mH h s) Q := by
  refine zz_E.n 130 rfl rfl rfl ?_
  refine zz_E.n 132 rfl rfl rfl ?_
  refine zz_E.n 134 rfl rfl rfl ?_
  exact zz_E.weak k rfl ⟨rfl, rfl, rfl, rfl, rfl, rfl, rfl, rfl, trivial⟩
theorem mb_332_134 {X : Nat → Option zz_C} {h : zz_H} (hh : 111 ≤ h.length) {s : mS} {d : Nat} {Q : Option Value → zz_H → Prop} {x1 : Int32} {x2 : Int32} {x3 : Int32} {x5 : Int32} {x6 : Int32} {x7 : Int32} {x8 : Int32} (k1 : x8 ≤ x3 → zz_E zp_P zt_tf zt_fd X d zm_332 203 [(0, .ref 61), (1, .int x1), (2, .int x2), (3, .int x3), (5, .int x5), (6, .int x6), (8, .int x8)] [] (mH h s) Q) (k2 : ¬ x8 ≤ x3 → zz_E zp_P zt_tf zt_fd X d zm_332 140 [(0, .ref 61), (1, .int x1), (2, .int x2), (3, .int x3), (5, .int x5), (6, .int x6), (7, .int x7), (8, .int x8)] [] (mH h s) Q) : zz_E zp_P zt_tf zt_fd X d zm_332 134 [(0, .ref 61), (1, .int x1), (2, .int x2), (3, .int x3), (5, .int x5), (6, .int x6), (7, .int x7), (8, .int x8)] [] (mH h s) Q := by
  refine zz_E.n 136 rfl rfl rfl ?_
  refine zz_E.n 137 rfl rfl rfl ?_
  refine zz_E.b2 203 140 (A := x8 ≤ x3) rfl rfl (by decide) rfl rfl (fun c => ?_) (fun c => ?_)
  · exact zz_E.weak (k1 c) rfl ⟨rfl, rfl, rfl, rfl, rfl, rfl, rfl, trivial⟩
  · exact zz_E.weak (k2 c) rfl ⟨rfl, rfl, rfl, rfl, rfl, rfl, rfl, rfl, trivial⟩
theorem mb_332_140 {X : Nat → Option zz_C} {h : zz_H} (hh : 111 ≤ h.length) {s : mS} {d : Nat} {Q : Option Value → zz_H → Prop} {x1 : Int32} {x2 : Int32} {x3 : Int32} {x5 : Int32} {x6 : Int32} {x7 : Int32} {x8 : Int32} (k1 : ¬ x1 = 13 → zz_E zp_P zt_tf zt_fd X d zm_332 158 [(0, .ref 61), (1, .int x1), (2, .int x2), (3, .int x3), (5, .int x5), (6, .int x6), (7, .int x7), (8, .int x8)] [] (mH h s) Q) (k2 : ¬ ¬ x1 = 13 → zz_E zp_P zt_tf zt_fd X d zm_332 146 [(0, .ref 61), (1, .int x1), (2, .int x2), (3, .int x3), (5, .int x5), (6, .int x6), (7, .int x7), (8, .int x8)] [] (mH h s) Q) : zz_E zp_P zt_tf zt_fd X d zm_332 140 [(0, .ref 61), (1, .int x1), (2, .int x2), (3, .int x3), (5, .int x5), (6, .int x6), (7, .int x7), (8, .int x8)] [] (mH h s) Q := by
  refine zz_E.n 141 rfl rfl rfl ?_
  refine zz_E.c 143 (.int 13) rfl rfl rfl rfl ?_
  refine zz_E.b2 158 146 (A := ¬ x1 = 13) rfl (zz_cond_ne _ _) (by decide) rfl rfl (fun c => ?_) (fun c => ?_)
  · exact zz_E.weak (k1 c) rfl ⟨rfl, rfl, rfl, rfl, rfl, rfl, rfl, rfl, trivial⟩
  · exact zz_E.weak (k2 c) rfl ⟨rfl, rfl, rfl, rfl, rfl, rfl, rfl, rfl, trivial⟩
theorem mb_332_146 {X : Nat → Option zz_C} {h : zz_H} (hh : 111 ≤ h.length) {s : mS} {d : Nat} {Q : Option Value → zz_H → Prop} {x1 : Int32} {x2 : Int32} {x3 : Int32} {x5 : Int32} {x6 : Int32} {x7 : Int32} {x8 : Int32} (i154 : ¬ ((x8 - 1) < 0 ∨ 9000 ≤ Int32.toNatClampNeg (x8 - 1))) (k : zz_E zp_P zt_tf zt_fd X d zm_332 176 [(0, .ref 61), (1, .int x1), (2, .int x2), (3, .int x3), (5, .int x5), (6, .int x6), (7, .int x7), (8, .int x8)] [.int ((s.2.2.1 50) (Int32.toNatClampNeg (x8 - 1)))] (mH h s) Q) : zz_E zp_P zt_tf zt_fd X d zm_332 146 [(0, .ref 61), (1, .int x1), (2, .int x2), (3, .int x3), (5, .int x5), (6, .int x6), (7, .int x7), (8, .int x8)] [] (mH h s) Q := by
  refine zz_E.n 147 rfl rfl rfl ?_
  refine mE_g hh 150 (v := .ref 91) rfl rfl rfl ?_
  refine zz_E.n 152 rfl rfl rfl ?_
  refine zz_E.c 153 (.int 1) rfl rfl rfl rfl ?_
  refine zz_E.n 154 rfl rfl rfl ?_
  refine mE_ia hh 155 30 (f := (s.2.2.1 50)) rfl (by decide) rfl rfl i154 rfl ?_
  refine zz_E.n 176 rfl rfl rfl ?_
  exact zz_E.weak k rfl ⟨rfl, rfl, rfl, rfl, rfl, rfl, rfl, rfl, trivial⟩
theorem mb_332_158 {X : Nat → Option zz_C} {h : zz_H} (hh : 111 ≤ h.length) {s : mS} {d : Nat} {Q : Option Value → zz_H → Prop} {x1 : Int32} {x2 : Int32} {x3 : Int32} {x5 : Int32} {x6 : Int32} {x7 : Int32} {x8 : Int32} (i173 : ¬ ((x8 - 1) < 0 ∨ 9000 ≤ Int32.toNatClampNeg (x8 - 1))) (i175 : ¬ (((x2 + 2) + ((s.2.2.1 50) (Int32.toNatClampNeg (x8 - 1)))) < 0 ∨ 166300 ≤ Int32.toNatClampNeg ((x2 + 2) + ((s.2.2.1 50) (Int32.toNatClampNeg (x8 - 1)))))) (k : zz_E zp_P zt_tf zt_fd X d zm_332 176 [(0, .ref 61), (1, .int x1), (2, .int x2), (3, .int x3), (5, .int x5), (6, .int x6), (7, .int x7), (8, .int x8)] [.int ((s.2.2.1 47) (Int32.toNatClampNeg ((x2 + 2) + ((s.2.2.1 50) (Int32.toNatClampNeg (x8 - 1))))))] (mH h s) Q) : zz_E zp_P zt_tf zt_fd X d zm_332 158 [(0, .ref 61), (1, .int x1), (2, .int x2), (3, .int x3), (5, .int x5), (6, .int x6), (7, .int x7), (8, .int x8)] [] (mH h s) Q := by
  refine zz_E.n 159 rfl rfl rfl ?_
  refine mE_g hh 162 (v := .ref 89) rfl rfl rfl ?_
  refine zz_E.n 163 rfl rfl rfl ?_
  refine zz_E.c 164 (.int 2) rfl rfl rfl rfl ?_
  refine zz_E.n 165 rfl rfl rfl ?_
  refine zz_E.n 166 rfl rfl rfl ?_
  refine mE_g hh 169 (v := .ref 91) rfl rfl rfl ?_
  refine zz_E.n 171 rfl rfl rfl ?_
  refine zz_E.c 172 (.int 1) rfl rfl rfl rfl ?_
  refine zz_E.n 173 rfl rfl rfl ?_
  refine mE_ia hh 174 30 (f := (s.2.2.1 50)) rfl (by decide) rfl rfl i173 rfl ?_
  refine zz_E.n 175 rfl rfl rfl ?_
  refine mE_ia hh 176 28 (f := (s.2.2.1 47)) rfl (by decide) rfl rfl i175 rfl ?_
  exact zz_E.weak k rfl ⟨rfl, rfl, rfl, rfl, rfl, rfl, rfl, rfl, trivial⟩
theorem mb_332_176 {X : Nat → Option zz_C} {h : zz_H} (hh : 111 ≤ h.length) {s : mS} {d : Nat} {Q : Option Value → zz_H → Prop} {x1 : Int32} {x2 : Int32} {x3 : Int32} {x5 : Int32} {x6 : Int32} {x7 : Int32} {x8 : Int32} {y0 : Int32} (k1 : y0 ≤ x7 → zz_E zp_P zt_tf zt_fd X d zm_332 203 [(0, .ref 61), (1, .int x1), (2, .int x2), (3, .int x3), (5, .int x5), (6, .int x6), (8, .int x8)] [] (mH h s) Q) (k2 : ¬ y0 ≤ x7 → zz_E zp_P zt_tf zt_fd X d zm_332 181 [(0, .ref 61), (1, .int x1), (2, .int x2), (3, .int x3), (5, .int x5), (6, .int x6), (7, .int x7), (8, .int x8)] [] (mH h s) Q) : zz_E zp_P zt_tf zt_fd X d zm_332 176 [(0, .ref 61), (1, .int x1), (2, .int x2), (3, .int x3), (5, .int x5), (6, .int x6), (7, .int x7), (8, .int x8)] [.int y0] (mH h s) Q := by
  refine zz_E.n 178 rfl rfl rfl ?_
  refine zz_E.b2 203 181 (A := y0 ≤ x7) rfl rfl (by decide) rfl rfl (fun c => ?_) (fun c => ?_)
  · exact zz_E.weak (k1 c) rfl ⟨rfl, rfl, rfl, rfl, rfl, rfl, rfl, trivial⟩
  · exact zz_E.weak (k2 c) rfl ⟨rfl, rfl, rfl, rfl, rfl, rfl, rfl, rfl, trivial⟩
theorem mb_332_181 {X : Nat → Option zz_C} {h : zz_H} (hh : 111 ≤ h.length) {s : mS} {d : Nat} {Q : Option Value → zz_H → Prop} {x1 : Int32} {x2 : Int32} {x3 : Int32} {x5 : Int32} {x6 : Int32} {x7 : Int32} {x8 : Int32} (i195 : ¬ ((x8 - 1) < 0 ∨ 9000 ≤ Int32.toNatClampNeg (x8 - 1))) (i196 : ¬ (x8 < 0 ∨ 9000 ≤ Int32.toNatClampNeg x8)) (k : zz_E zp_P zt_tf zt_fd X d zm_332 134 [(0, .ref 61), (1, .int x1), (2, .int x2), (3, .int x3), (5, .int x5), (6, .int x6), (7, .int x7), (8, .int (x8 + (-1)))] [] (mH h (mA s 50 (upd (s.2.2.1 50) (Int32.toNatClampNeg x8) ((s.2.2.1 50) (Int32.toNatClampNeg (x8 - 1)))))) Q) : zz_E zp_P zt_tf zt_fd X d zm_332 181 [(0, .ref 61), (1, .int x1), (2, .int x2), (3, .int x3), (5, .int x5), (6, .int x6), (7, .int x7), (8, .int x8)] [] (mH h s) Q := by
  refine zz_E.n 182 rfl rfl rfl ?_
  refine mE_g hh 185 (v := .ref 91) rfl rfl rfl ?_
  refine zz_E.n 187 rfl rfl rfl ?_
  refine zz_E.n 188 rfl rfl rfl ?_
  refine mE_g hh 191 (v := .ref 91) rfl rfl rfl ?_
  refine zz_E.n 193 rfl rfl rfl ?_
  refine zz_E.c 194 (.int 1) rfl rfl rfl rfl ?_
  refine zz_E.n 195 rfl rfl rfl ?_
  refine mE_ia hh 196 30 (f := (s.2.2.1 50)) rfl (by decide) rfl rfl i195 rfl ?_
  refine mE_is hh 197 30 (f := (s.2.2.1 50)) rfl (by decide) rfl rfl i196 (mA_91 _ _) rfl ?_
  refine zz_E.n 200 rfl rfl rfl ?_
  refine zz_E.n 134 rfl rfl rfl ?_
  exact zz_E.weak k rfl ⟨rfl, rfl, rfl, rfl, rfl, rfl, rfl, rfl, trivial⟩
theorem mb_332_203 {X : Nat → Option zz_C} {h : zz_H} (hh : 111 ≤ h.length) {s : mS} {d : Nat} {Q : Option Value → zz_H → Prop} {x1 : Int32} {x2 : Int32} {x3 : Int32} {x5 : Int32} {x6 : Int32} {x8 : Int32} (i211 : ¬ (x8 < 0 ∨ 9000 ≤ Int32.toNatClampNeg x8)) (k : zz_E zp_P zt_tf zt_fd X d zm_332 88 [(0, .ref 61), (1, .int x1), (2, .int x2), (3, .int x3), (5, .int (x5 + 1))] [] (mH h (mA s 50 (upd (s.2.2.1 50) (Int32.toNatClampNeg x8) x6))) Q) : zz_E zp_P zt_tf zt_fd X d zm_332 203 [(0, .ref 61), (1, .int x1), (2, .int x2), (3, .int x3), (5, .int x5), (6, .int x6), (8, .int x8)] [] (mH h s) Q := by
  refine zz_E.n 204 rfl rfl rfl ?_
  refine mE_g hh 207 (v := .ref 91) rfl rfl rfl ?_
  refine zz_E.n 209 rfl rfl rfl ?_
  refine zz_E.n 211 rfl rfl rfl ?_
  refine mE_is hh 212 30 (f := (s.2.2.1 50)) rfl (by decide) rfl rfl i211 (mA_91 _ _) rfl ?_
  refine zz_E.n 215 rfl rfl rfl ?_
  refine zz_E.n 88 rfl rfl rfl ?_
  exact zz_E.weak k rfl ⟨rfl, rfl, rfl, rfl, rfl, trivial⟩
theorem mb_332_218 {X : Nat → Option zz_C} {h : zz_H} (hh : 111 ≤ h.length) {s : mS} {d : Nat} {Q : Option Value → zz_H → Prop}  (k : Q none (mH h s)) : zz_E zp_P zt_tf zt_fd X d zm_332 218 [] [] (mH h s) Q := by
  refine zz_E.ret rfl rfl rfl ?_
  exact k
def mf_332_218 (N : Nat)  (s : mS) : mO := some (s, none)
theorem mr_332_218 {X : Nat → Option zz_C} {h : zz_H} (hh : 111 ≤ h.length) {d : Nat} {N : Nat} {Q : Option Value → zz_H → Prop}  {s s' : mS} {v : Option Value} (hf : mf_332_218 N  s = some (s', v)) (k : Q v (mH h s')) : zz_E zp_P zt_tf zt_fd X (d + 1) zm_332 218 [] [] (mH h s) Q := by
  unfold mf_332_218 at hf
  cases hf
  exact mb_332_218 hh  k
def mf_332_128 (N : Nat) (rc : Nat → Int32 → Int32 → Int32 → Int32 → Int32 → Int32 → Int32 → mS → mO) (x1 : Int32) (x2 : Int32) (x3 : Int32) (x5 : Int32) (x6 : Int32) (y0 : Int32) (s : mS) : mO := rc 1 x1 x2 x3 x5 x6 y0 x5 s
theorem mr_332_128 {X : Nat → Option zz_C} {h : zz_H} (hh : 111 ≤ h.length) {d : Nat} {N : Nat} {rc : Nat → Int32 → Int32 → Int32 → Int32 → Int32 → Int32 → Int32 → mS → mO} (hrc0 : ∀ {Q : Option Value → zz_H → Prop} {x1 : Int32} {x2 : Int32} {x3 : Int32} {x5 : Int32} {s s' : mS} {v : Option Value}, rc 0 x1 x2 x3 x5 0 0 0 s = some (s', v) → Q v (mH h s') → zz_E zp_P zt_tf zt_fd X (d + 1) zm_332 88 [(0, .ref 61), (1, .int x1), (2, .int x2), (3, .int x3), (5, .int x5)] [] (mH h s) Q) (hrc1 : ∀ {Q : Option Value → zz_H → Prop} {x1 : Int32} {x2 : Int32} {x3 : Int32} {x5 : Int32} {x6 : Int32} {x7 : Int32} {x8 : Int32} {s s' : mS} {v : Option Value}, rc 1 x1 x2 x3 x5 x6 x7 x8 s = some (s', v) → Q v (mH h s') → zz_E zp_P zt_tf zt_fd X (d + 1) zm_332 134 [(0, .ref 61), (1, .int x1), (2, .int x2), (3, .int x3), (5, .int x5), (6, .int x6), (7, .int x7), (8, .int x8)] [] (mH h s) Q) {Q : Option Value → zz_H → Prop} {x1 : Int32} {x2 : Int32} {x3 : Int32} {x5 : Int32} {x6 : Int32} {y0 : Int32} {s s' : mS} {v : Option Value} (hf : mf_332_128 N rc x1 x2 x3 x5 x6 y0 s = some (s', v)) (k : Q v (mH h s')) : zz_E zp_P zt_tf zt_fd X (d + 1) zm_332 128 [(0, .ref 61), (1, .int x1), (2, .int x2), (3, .int x3), (5, .int x5), (6, .int x6)] [.int y0] (mH h s) Q := by
  unfold mf_332_128 at hf
  exact mb_332_128 hh  (hrc1 hf k)
def mf_332_112 (N : Nat) (rc : Nat → Int32 → Int32 → Int32 → Int32 → Int32 → Int32 → Int32 → mS → mO) (x1 : Int32) (x2 : Int32) (x3 : Int32) (x5 : Int32) (x6 : Int32) (s : mS) : mO := mf_332_128 N rc x1 x2 x3 x5 x6 x6 s
theorem mr_332_112 {X : Nat → Option zz_C} {h : zz_H} (hh : 111 ≤ h.length) {d : Nat} {N : Nat} {rc : Nat → Int32 → Int32 → Int32 → Int32 → Int32 → Int32 → Int32 → mS → mO} (hrc0 : ∀ {Q : Option Value → zz_H → Prop} {x1 : Int32} {x2 : Int32} {x3 : Int32} {x5 : Int32} {s s' : mS} {v : Option Value}, rc 0 x1 x2 x3 x5 0 0 0 s = some (s', v) → Q v (mH h s') → zz_E zp_P zt_tf zt_fd X (d + 1) zm_332 88 [(0, .ref 61), (1, .int x1), (2, .int x2), (3, .int x3), (5, .int x5)] [] (mH h s) Q) (hrc1 : ∀ {Q : Option Value → zz_H → Prop} {x1 : Int32} {x2 : Int32} {x3 : Int32} {x5 : Int32} {x6 : Int32} {x7 : Int32} {x8 : Int32} {s s' : mS} {v : Option Value}, rc 1 x1 x2 x3 x5 x6 x7 x8 s = some (s', v) → Q v (mH h s') → zz_E zp_P zt_tf zt_fd X (d + 1) zm_332 134 [(0, .ref 61), (1, .int x1), (2, .int x2), (3, .int x3), (5, .int x5), (6, .int x6), (7, .int x7), (8, .int x8)] [] (mH h s) Q) {Q : Option Value → zz_H → Prop} {x1 : Int32} {x2 : Int32} {x3 : Int32} {x5 : Int32} {x6 : Int32} {s s' : mS} {v : Option Value} (hf : mf_332_112 N rc x1 x2 x3 x5 x6 s = some (s', v)) (k : Q v (mH h s')) : zz_E zp_P zt_tf zt_fd X (d + 1) zm_332 112 [(0, .ref 61), (1, .int x1), (2, .int x2), (3, .int x3), (5, .int x5), (6, .int x6)] [] (mH h s) Q := by
  unfold mf_332_112 at hf
  exact mb_332_112 hh  (mr_332_128 hh hrc0 hrc1 hf k)
def mf_332_203 (N : Nat) (rc : Nat → Int32 → Int32 → Int32 → Int32 → Int32 → Int32 → Int32 → mS → mO) (x1 : Int32) (x2 : Int32) (x3 : Int32) (x5 : Int32) (x6 : Int32) (x8 : Int32) (s : mS) : mO := if ¬ (x8 < 0 ∨ 9000 ≤ Int32.toNatClampNeg x8) then (rc 0 x1 x2 x3 (x5 + 1) 0 0 0 (mA s 50 (upd (s.2.2.1 50) (Int32.toNatClampNeg x8) x6))) else none
theorem mr_332_203 {X : Nat → Option zz_C} {h : zz_H} (hh : 111 ≤ h.length) {d : Nat} {N : Nat} {rc : Nat → Int32 → Int32 → Int32 → Int32 → Int32 → Int32 → Int32 → mS → mO} (hrc0 : ∀ {Q : Option Value → zz_H → Prop} {x1 : Int32} {x2 : Int32} {x3 : Int32} {x5 : Int32} {s s' : mS} {v : Option Value}, rc 0 x1 x2 x3 x5 0 0 0 s = some (s', v) → Q v (mH h s') → zz_E zp_P zt_tf zt_fd X (d + 1) zm_332 88 [(0, .ref 61), (1, .int x1), (2, .int x2), (3, .int x3), (5, .int x5)] [] (mH h s) Q) (hrc1 : ∀ {Q : Option Value → zz_H → Prop} {x1 : Int32} {x2 : Int32} {x3 : Int32} {x5 : Int32} {x6 : Int32} {x7 : Int32} {x8 : Int32} {s s' : mS} {v : Option Value}, rc 1 x1 x2 x3 x5 x6 x7 x8 s = some (s', v) → Q v (mH h s') → zz_E zp_P zt_tf zt_fd X (d + 1) zm_332 134 [(0, .ref 61), (1, .int x1), (2, .int x2), (3, .int x3), (5, .int x5), (6, .int x6), (7, .int x7), (8, .int x8)] [] (mH h s) Q) {Q : Option Value → zz_H → Prop} {x1 : Int32} {x2 : Int32} {x3 : Int32} {x5 : Int32} {x6 : Int32} {x8 : Int32} {s s' : mS} {v : Option Value} (hf : mf_332_203 N rc x1 x2 x3 x5 x6 x8 s = some (s', v)) (k : Q v (mH h s')) : zz_E zp_P zt_tf zt_fd X (d + 1) zm_332 203 [(0, .ref 61), (1, .int x1), (2, .int x2), (3, .int x3), (5, .int x5), (6, .int x6), (8, .int x8)] [] (mH h s) Q := by
  unfold mf_332_203 at hf
  obtain ⟨q0, hf⟩ := mo_if hf
  exact mb_332_203 hh q0 (hrc0 hf k)
def mf_332_181 (N : Nat) (rc : Nat → Int32 → Int32 → Int32 → Int32 → Int32 → Int32 → Int32 → mS → mO) (x1 : Int32) (x2 : Int32) (x3 : Int32) (x5 : Int32) (x6 : Int32) (x7 : Int32) (x8 : Int32) (s : mS) : mO := if ¬ ((x8 - 1) < 0 ∨ 9000 ≤ Int32.toNatClampNeg (x8 - 1)) then (if ¬ (x8 < 0 ∨ 9000 ≤ Int32.toNatClampNeg x8) then (rc 1 x1 x2 x3 x5 x6 x7 (x8 + (-1)) (mA s 50 (upd (s.2.2.1 50) (Int32.toNatClampNeg x8) ((s.2.2.1 50) (Int32.toNatClampNeg (x8 - 1)))))) else none) else none
theorem mr_332_181 {X : Nat → Option zz_C} {h : zz_H} (hh : 111 ≤ h.length) {d : Nat} {N : Nat} {rc : Nat → Int32 → Int32 → Int32 → Int32 → Int32 → Int32 → Int32 → mS → mO} (hrc0 : ∀ {Q : Option Value → zz_H → Prop} {x1 : Int32} {x2 : Int32} {x3 : Int32} {x5 : Int32} {s s' : mS} {v : Option Value}, rc 0 x1 x2 x3 x5 0 0 0 s = some (s', v) → Q v (mH h s') → zz_E zp_P zt_tf zt_fd X (d + 1) zm_332 88 [(0, .ref 61), (1, .int x1), (2, .int x2), (3, .int x3), (5, .int x5)] [] (mH h s) Q) (hrc1 : ∀ {Q : Option Value → zz_H → Prop} {x1 : Int32} {x2 : Int32} {x3 : Int32} {x5 : Int32} {x6 : Int32} {x7 : Int32} {x8 : Int32} {s s' : mS} {v : Option Value}, rc 1 x1 x2 x3 x5 x6 x7 x8 s = some (s', v) → Q v (mH h s') → zz_E zp_P zt_tf zt_fd X (d + 1) zm_332 134 [(0, .ref 61), (1, .int x1), (2, .int x2), (3, .int x3), (5, .int x5), (6, .int x6), (7, .int x7), (8, .int x8)] [] (mH h s) Q) {Q : Option Value → zz_H → Prop} {x1 : Int32} {x2 : Int32} {x3 : Int32} {x5 : Int32} {x6 : Int32} {x7 : Int32} {x8 : Int32} {s s' : mS} {v : Option Value} (hf : mf_332_181 N rc x1 x2 x3 x5 x6 x7 x8 s = some (s', v)) (k : Q v (mH h s')) : zz_E zp_P zt_tf zt_fd X (d + 1) zm_332 181 [(0, .ref 61), (1, .int x1), (2, .int x2), (3, .int x3), (5, .int x5), (6, .int x6), (7, .int x7), (8, .int x8)] [] (mH h s) Q := by
  unfold mf_332_181 at hf
  obtain ⟨q0, hf⟩ := mo_if hf
  obtain ⟨q1, hf⟩ := mo_if hf
  exact mb_332_181 hh q0 q1 (hrc1 hf k)
def mf_332_176 (N : Nat) (rc : Nat → Int32 → Int32 → Int32 → Int32 → Int32 → Int32 → Int32 → mS → mO) (x1 : Int32) (x2 : Int32) (x3 : Int32) (x5 : Int32) (x6 : Int32) (x7 : Int32) (x8 : Int32) (y0 : Int32) (s : mS) : mO := if y0 ≤ x7 then mf_332_203 N rc x1 x2 x3 x5 x6 x8 s else mf_332_181 N rc x1 x2 x3 x5 x6 x7 x8 s
theorem mr_332_176 {X : Nat → Option zz_C} {h : zz_H} (hh : 111 ≤ h.length) {d : Nat} {N : Nat} {rc : Nat → Int32 → Int32 → Int32 → Int32 → Int32 → Int32 → Int32 → mS → mO} (hrc0 : ∀ {Q : Option Value → zz_H → Prop} {x1 : Int32} {x2 : Int32} {x3 : Int32} {x5 : Int32} {s s' : mS} {v : Option Value}, rc 0 x1 x2 x3 x5 0 0 0 s = some (s', v) → Q v (mH h s') → zz_E zp_P zt_tf zt_fd X (d + 1) zm_332 88 [(0, .ref 61), (1, .int x1), (2, .int x2), (3, .int x3), (5, .int x5)] [] (mH h s) Q) (hrc1 : ∀ {Q : Option Value → zz_H → Prop} {x1 : Int32} {x2 : Int32} {x3 : Int32} {x5 : Int32} {x6 : Int32} {x7 : Int32} {x8 : Int32} {s s' : mS} {v : Option Value}, rc 1 x1 x2 x3 x5 x6 x7 x8 s = some (s', v) → Q v (mH h s') → zz_E zp_P zt_tf zt_fd X (d + 1) zm_332 134 [(0, .ref 61), (1, .int x1), (2, .int x2), (3, .int x3), (5, .int x5), (6, .int x6), (7, .int x7), (8, .int x8)] [] (mH h s) Q) {Q : Option Value → zz_H → Prop} {x1 : Int32} {x2 : Int32} {x3 : Int32} {x5 : Int32} {x6 : Int32} {x7 : Int32} {x8 : Int32} {y0 : Int32} {s s' : mS} {v : Option Value} (hf : mf_332_176 N rc x1 x2 x3 x5 x6 x7 x8 y0 s = some (s', v)) (k : Q v (mH h s')) : zz_E zp_P zt_tf zt_fd X (d + 1) zm_332 176 [(0, .ref 61), (1, .int x1), (2, .int x2), (3, .int x3), (5, .int x5), (6, .int x6), (7, .int x7), (8, .int x8)] [.int y0] (mH h s) Q := by
  unfold mf_332_176 at hf
  refine mb_332_176 hh  (fun c => ?_) (fun c => ?_)
  · rw [if_pos c] at hf
    exact mr_332_203 hh hrc0 hrc1 hf k
  · rw [if_neg c] at hf
    exact mr_332_181 hh hrc0 hrc1 hf k
def mf_332_146 (N : Nat) (rc : Nat → Int32 → Int32 → Int32 → Int32 → Int32 → Int32 → Int32 → mS → mO) (x1 : Int32) (x2 : Int32) (x3 : Int32) (x5 : Int32) (x6 : Int32) (x7 : Int32) (x8 : Int32) (s : mS) : mO := if ¬ ((x8 - 1) < 0 ∨ 9000 ≤ Int32.toNatClampNeg (x8 - 1)) then (mf_332_176 N rc x1 x2 x3 x5 x6 x7 x8 ((s.2.2.1 50) (Int32.toNatClampNeg (x8 - 1))) s) else none
theorem mr_332_146 {X : Nat → Option zz_C} {h : zz_H} (hh : 111 ≤ h.length) {d : Nat} {N : Nat} {rc : Nat → Int32 → Int32 → Int32 → Int32 → Int32 → Int32 → Int32 → mS → mO} (hrc0 : ∀ {Q : Option Value → zz_H → Prop} {x1 : Int32} {x2 : Int32} {x3 : Int32} {x5 : Int32} {s s' : mS} {v : Option Value}, rc 0 x1 x2 x3 x5 0 0 0 s = some (s', v) → Q v (mH h s') → zz_E zp_P zt_tf zt_fd X (d + 1) zm_332 88 [(0, .ref 61), (1, .int x1), (2, .int x2), (3, .int x3), (5, .int x5)] [] (mH h s) Q) (hrc1 : ∀ {Q : Option Value → zz_H → Prop} {x1 : Int32} {x2 : Int32} {x3 : Int32} {x5 : Int32} {x6 : Int32} {x7 : Int32} {x8 : Int32} {s s' : mS} {v : Option Value}, rc 1 x1 x2 x3 x5 x6 x7 x8 s = some (s', v) → Q v (mH h s') → zz_E zp_P zt_tf zt_fd X (d + 1) zm_332 134 [(0, .ref 61), (1, .int x1), (2, .int x2), (3, .int x3), (5, .int x5), (6, .int x6), (7, .int x7), (8, .int x8)] [] (mH h s) Q) {Q : Option Value → zz_H → Prop} {x1 : Int32} {x2 : Int32} {x3 : Int32} {x5 : Int32} {x6 : Int32} {x7 : Int32} {x8 : Int32} {s s' : mS} {v : Option Value} (hf : mf_332_146 N rc x1 x2 x3 x5 x6 x7 x8 s = some (s', v)) (k : Q v (mH h s')) : zz_E zp_P zt_tf zt_fd X (d + 1) zm_332 146 [(0, .ref 61), (1, .int x1), (2, .int x2), (3, .int x3), (5, .int x5), (6, .int x6), (7, .int x7), (8, .int x8)] [] (mH h s) Q := by
  unfold mf_332_146 at hf
  obtain ⟨q0, hf⟩ := mo_if hf
  exact mb_332_146 hh q0 (mr_332_176 hh hrc0 hrc1 hf k)
def mf_332_158 (N : Nat) (rc : Nat → Int32 → Int32 → Int32 → Int32 → Int32 → Int32 → Int32 → mS → mO) (x1 : Int32) (x2 : Int32) (x3 : Int32) (x5 : Int32) (x6 : Int32) (x7 : Int32) (x8 : Int32) (s : mS) : mO := if ¬ ((x8 - 1) < 0 ∨ 9000 ≤ Int32.toNatClampNeg (x8 - 1)) then (if ¬ (((x2 + 2) + ((s.2.2.1 50) (Int32.toNatClampNeg (x8 - 1)))) < 0 ∨ 166300 ≤ Int32.toNatClampNeg ((x2 + 2) + ((s.2.2.1 50) (Int32.toNatClampNeg (x8 - 1))))) then (mf_332_176 N rc x1 x2 x3 x5 x6 x7 x8 ((s.2.2.1 47) (Int32.toNatClampNeg ((x2 + 2) + ((s.2.2.1 50) (Int32.toNatClampNeg (x8 - 1)))))) s) else none) else none
theorem mr_332_158 {X : Nat → Option zz_C} {h : zz_H} (hh : 111 ≤ h.length) {d : Nat} {N : Nat} {rc : Nat → Int32 → Int32 → Int32 → Int32 → Int32 → Int32 → Int32 → mS → mO} (hrc0 : ∀ {Q : Option Value → zz_H → Prop} {x1 : Int32} {x2 : Int32} {x3 : Int32} {x5 : Int32} {s s' : mS} {v : Option Value}, rc 0 x1 x2 x3 x5 0 0 0 s = some (s', v) → Q v (mH h s') → zz_E zp_P zt_tf zt_fd X (d + 1) zm_332 88 [(0, .ref 61), (1, .int x1), (2, .int x2), (3, .int x3), (5, .int x5)] [] (mH h s) Q) (hrc1 : ∀ {Q : Option Value → zz_H → Prop} {x1 : Int32} {x2 : Int32} {x3 : Int32} {x5 : Int32} {x6 : Int32} {x7 : Int32} {x8 : Int32} {s s' : mS} {v : Option Value}, rc 1 x1 x2 x3 x5 x6 x7 x8 s = some (s', v) → Q v (mH h s') → zz_E zp_P zt_tf zt_fd X (d + 1) zm_332 134 [(0, .ref 61), (1, .int x1), (2, .int x2), (3, .int x3), (5, .int x5), (6, .int x6), (7, .int x7), (8, .int x8)] [] (mH h s) Q) {Q : Option Value → zz_H → Prop} {x1 : Int32} {x2 : Int32} {x3 : Int32} {x5 : Int32} {x6 : Int32} {x7 : Int32} {x8 : Int32} {s s' : mS} {v : Option Value} (hf : mf_332_158 N rc x1 x2 x3 x5 x6 x7 x8 s = some (s', v)) (k : Q v (mH h s')) : zz_E zp_P zt_tf zt_fd X (d + 1) zm_332 158 [(0, .ref 61), (1, .int x1), (2, .int x2), (3, .int x3), (5, .int x5), (6, .int x6), (7, .int x7), (8, .int x8)] [] (mH h s) Q := by
  unfold mf_332_158 at hf
  obtain ⟨q0, hf⟩ := mo_if hf
  obtain ⟨q1, hf⟩ := mo_if hf
  exact mb_332_158 hh q0 q1 (mr_332_176 hh hrc0 hrc1 hf k)
def mf_332_140 (N : Nat) (rc : Nat → Int32 → Int32 → Int32 → Int32 → Int32 → Int32 → Int32 → mS → mO) (x1 : Int32) (x2 : Int32) (x3 : Int32) (x5 : Int32) (x6 : Int32) (x7 : Int32) (x8 : Int32) (s : mS) : mO := if ¬ x1 = 13 then mf_332_158 N rc x1 x2 x3 x5 x6 x7 x8 s else mf_332_146 N rc x1 x2 x3 x5 x6 x7 x8 s
theorem mr_332_140 {X : Nat → Option zz_C} {h : zz_H} (hh : 111 ≤ h.length) {d : Nat} {N : Nat} {rc : Nat → Int32 → Int32 → Int32 → Int32 → Int32 → Int32 → Int32 → mS → mO} (hrc0 : ∀ {Q : Option Value → zz_H → Prop} {x1 : Int32} {x2 : Int32} {x3 : Int32} {x5 : Int32} {s s' : mS} {v : Option Value}, rc 0 x1 x2 x3 x5 0 0 0 s = some (s', v) → Q v (mH h s') → zz_E zp_P zt_tf zt_fd X (d + 1) zm_332 88 [(0, .ref 61), (1, .int x1), (2, .int x2), (3, .int x3), (5, .int x5)] [] (mH h s) Q) (hrc1 : ∀ {Q : Option Value → zz_H → Prop} {x1 : Int32} {x2 : Int32} {x3 : Int32} {x5 : Int32} {x6 : Int32} {x7 : Int32} {x8 : Int32} {s s' : mS} {v : Option Value}, rc 1 x1 x2 x3 x5 x6 x7 x8 s = some (s', v) → Q v (mH h s') → zz_E zp_P zt_tf zt_fd X (d + 1) zm_332 134 [(0, .ref 61), (1, .int x1), (2, .int x2), (3, .int x3), (5, .int x5), (6, .int x6), (7, .int x7), (8, .int x8)] [] (mH h s) Q) {Q : Option Value → zz_H → Prop} {x1 : Int32} {x2 : Int32} {x3 : Int32} {x5 : Int32} {x6 : Int32} {x7 : Int32} {x8 : Int32} {s s' : mS} {v : Option Value} (hf : mf_332_140 N rc x1 x2 x3 x5 x6 x7 x8 s = some (s', v)) (k : Q v (mH h s')) : zz_E zp_P zt_tf zt_fd X (d + 1) zm_332 140 [(0, .ref 61), (1, .int x1), (2, .int x2), (3, .int x3), (5, .int x5), (6, .int x6), (7, .int x7), (8, .int x8)] [] (mH h s) Q := by
  unfold mf_332_140 at hf
  refine mb_332_140 hh  (fun c => ?_) (fun c => ?_)
  · rw [if_pos c] at hf
    exact mr_332_158 hh hrc0 hrc1 hf k
  · rw [if_neg c] at hf
    exact mr_332_146 hh hrc0 hrc1 hf k
def mf_332_134 (N : Nat) (rc : Nat → Int32 → Int32 → Int32 → Int32 → Int32 → Int32 → Int32 → mS → mO) (x1 : Int32) (x2 : Int32) (x3 : Int32) (x5 : Int32) (x6 : Int32) (x7 : Int32) (x8 : Int32) (s : mS) : mO := if x8 ≤ x3 then mf_332_203 N rc x1 x2 x3 x5 x6 x8 s else mf_332_140 N rc x1 x2 x3 x5 x6 x7 x8 s
theorem mr_332_134 {X : Nat → Option zz_C} {h : zz_H} (hh : 111 ≤ h.length) {d : Nat} {N : Nat} {rc : Nat → Int32 → Int32 → Int32 → Int32 → Int32 → Int32 → Int32 → mS → mO} (hrc0 : ∀ {Q : Option Value → zz_H → Prop} {x1 : Int32} {x2 : Int32} {x3 : Int32} {x5 : Int32} {s s' : mS} {v : Option Value}, rc 0 x1 x2 x3 x5 0 0 0 s = some (s', v) → Q v (mH h s') → zz_E zp_P zt_tf zt_fd X (d + 1) zm_332 88 [(0, .ref 61), (1, .int x1), (2, .int x2), (3, .int x3), (5, .int x5)] [] (mH h s) Q) (hrc1 : ∀ {Q : Option Value → zz_H → Prop} {x1 : Int32} {x2 : Int32} {x3 : Int32} {x5 : Int32} {x6 : Int32} {x7 : Int32} {x8 : Int32} {s s' : mS} {v : Option Value}, rc 1 x1 x2 x3 x5 x6 x7 x8 s = some (s', v) → Q v (mH h s') → zz_E zp_P zt_tf zt_fd X (d + 1) zm_332 134 [(0, .ref 61), (1, .int x1), (2, .int x2), (3, .int x3), (5, .int x5), (6, .int x6), (7, .int x7), (8, .int x8)] [] (mH h s) Q) {Q : Option Value → zz_H → Prop} {x1 : Int32} {x2 : Int32} {x3 : Int32} {x5 : Int32} {x6 : Int32} {x7 : Int32} {x8 : Int32} {s s' : mS} {v : Option Value} (hf : mf_332_134 N rc x1 x2 x3 x5 x6 x7 x8 s = some (s', v)) (k : Q v (mH h s')) : zz_E zp_P zt_tf zt_fd X (d + 1) zm_332 134 [(0, .ref 61), (1, .int x1), (2, .int x2), (3, .int x3), (5, .int x5), (6, .int x6), (7, .int x7), (8, .int x8)] [] (mH h s) Q := by
  unfold mf_332_134 at hf
  refine mb_332_134 hh  (fun c => ?_) (fun c => ?_)
  · rw [if_pos c] at hf
    exact mr_332_203 hh hrc0 hrc1 hf k
  · rw [if_neg c] at hf
    exact mr_332_140 hh hrc0 hrc1 hf k
def mf_332_117 (N : Nat) (rc : Nat → Int32 → Int32 → Int32 → Int32 → Int32 → Int32 → Int32 → mS → mO) (x1 : Int32) (x2 : Int32) (x3 : Int32) (x5 : Int32) (x6 : Int32) (s : mS) : mO := if ¬ (((x2 + 2) + x6) < 0 ∨ 166300 ≤ Int32.toNatClampNeg ((x2 + 2) + x6)) then (mf_332_128 N rc x1 x2 x3 x5 x6 ((s.2.2.1 47) (Int32.toNatClampNeg ((x2 + 2) + x6))) s) else none
theorem mr_332_117 {X : Nat → Option zz_C} {h : zz_H} (hh : 111 ≤ h.length) {d : Nat} {N : Nat} {rc : Nat → Int32 → Int32 → Int32 → Int32 → Int32 → Int32 → Int32 → mS → mO} (hrc0 : ∀ {Q : Option Value → zz_H → Prop} {x1 : Int32} {x2 : Int32} {x3 : Int32} {x5 : Int32} {s s' : mS} {v : Option Value}, rc 0 x1 x2 x3 x5 0 0 0 s = some (s', v) → Q v (mH h s') → zz_E zp_P zt_tf zt_fd X (d + 1) zm_332 88 [(0, .ref 61), (1, .int x1), (2, .int x2), (3, .int x3), (5, .int x5)] [] (mH h s) Q) (hrc1 : ∀ {Q : Option Value → zz_H → Prop} {x1 : Int32} {x2 : Int32} {x3 : Int32} {x5 : Int32} {x6 : Int32} {x7 : Int32} {x8 : Int32} {s s' : mS} {v : Option Value}, rc 1 x1 x2 x3 x5 x6 x7 x8 s = some (s', v) → Q v (mH h s') → zz_E zp_P zt_tf zt_fd X (d + 1) zm_332 134 [(0, .ref 61), (1, .int x1), (2, .int x2), (3, .int x3), (5, .int x5), (6, .int x6), (7, .int x7), (8, .int x8)] [] (mH h s) Q) {Q : Option Value → zz_H → Prop} {x1 : Int32} {x2 : Int32} {x3 : Int32} {x5 : Int32} {x6 : Int32} {s s' : mS} {v : Option Value} (hf : mf_332_117 N rc x1 x2 x3 x5 x6 s = some (s', v)) (k : Q v (mH h s')) : zz_E zp_P zt_tf zt_fd X (d + 1) zm_332 117 [(0, .ref 61), (1, .int x1), (2, .int x2), (3, .int x3), (5, .int x5), (6, .int x6)] [] (mH h s) Q := by
  unfold mf_332_117 at hf
  obtain ⟨q0, hf⟩ := mo_if hf
  exact mb_332_117 hh q0 (mr_332_128 hh hrc0 hrc1 hf k)
def mf_332_97 (N : Nat) (rc : Nat → Int32 → Int32 → Int32 → Int32 → Int32 → Int32 → Int32 → mS → mO) (x1 : Int32) (x2 : Int32) (x3 : Int32) (x5 : Int32) (s : mS) : mO := if ¬ (x5 < 0 ∨ 9000 ≤ Int32.toNatClampNeg x5) then (if ¬ x1 = 13 then mf_332_117 N rc x1 x2 x3 x5 ((s.2.2.1 50) (Int32.toNatClampNeg x5)) s else mf_332_112 N rc x1 x2 x3 x5 ((s.2.2.1 50) (Int32.toNatClampNeg x5)) s) else none
theorem mr_332_97 {X : Nat → Option zz_C} {h : zz_H} (hh : 111 ≤ h.length) {d : Nat} {N : Nat} {rc : Nat → Int32 → Int32 → Int32 → Int32 → Int32 → Int32 → Int32 → mS → mO} (hrc0 : ∀ {Q : Option Value → zz_H → Prop} {x1 : Int32} {x2 : Int32} {x3 : Int32} {x5 : Int32} {s s' : mS} {v : Option Value}, rc 0 x1 x2 x3 x5 0 0 0 s = some (s', v) → Q v (mH h s') → zz_E zp_P zt_tf zt_fd X (d + 1) zm_332 88 [(0, .ref 61), (1, .int x1), (2, .int x2), (3, .int x3), (5, .int x5)] [] (mH h s) Q) (hrc1 : ∀ {Q : Option Value → zz_H → Prop} {x1 : Int32} {x2 : Int32} {x3 : Int32} {x5 : Int32} {x6 : Int32} {x7 : Int32} {x8 : Int32} {s s' : mS} {v : Option Value}, rc 1 x1 x2 x3 x5 x6 x7 x8 s = some (s', v) → Q v (mH h s') → zz_E zp_P zt_tf zt_fd X (d + 1) zm_332 134 [(0, .ref 61), (1, .int x1), (2, .int x2), (3, .int x3), (5, .int x5), (6, .int x6), (7, .int x7), (8, .int x8)] [] (mH h s) Q) {Q : Option Value → zz_H → Prop} {x1 : Int32} {x2 : Int32} {x3 : Int32} {x5 : Int32} {s s' : mS} {v : Option Value} (hf : mf_332_97 N rc x1 x2 x3 x5 s = some (s', v)) (k : Q v (mH h s')) : zz_E zp_P zt_tf zt_fd X (d + 1) zm_332 97 [(0, .ref 61), (1, .int x1), (2, .int x2), (3, .int x3), (5, .int x5)] [] (mH h s) Q := by
  unfold mf_332_97 at hf
  obtain ⟨q0, hf⟩ := mo_if hf
  refine mb_332_97 hh q0 (fun c => ?_) (fun c => ?_)
  · rw [if_pos c] at hf
    exact mr_332_117 hh hrc0 hrc1 hf k
  · rw [if_neg c] at hf
    exact mr_332_112 hh hrc0 hrc1 hf k
def mf_332_88 (N : Nat) (rc : Nat → Int32 → Int32 → Int32 → Int32 → Int32 → Int32 → Int32 → mS → mO) (x1 : Int32) (x2 : Int32) (x3 : Int32) (x5 : Int32) (s : mS) : mO := if (s.1 51) ≤ x5 then mf_332_218 N  s else mf_332_97 N rc x1 x2 x3 x5 s
theorem mr_332_88 {X : Nat → Option zz_C} {h : zz_H} (hh : 111 ≤ h.length) {d : Nat} {N : Nat} {rc : Nat → Int32 → Int32 → Int32 → Int32 → Int32 → Int32 → Int32 → mS → mO} (hrc0 : ∀ {Q : Option Value → zz_H → Prop} {x1 : Int32} {x2 : Int32} {x3 : Int32} {x5 : Int32} {s s' : mS} {v : Option Value}, rc 0 x1 x2 x3 x5 0 0 0 s = some (s', v) → Q v (mH h s') → zz_E zp_P zt_tf zt_fd X (d + 1) zm_332 88 [(0, .ref 61), (1, .int x1), (2, .int x2), (3, .int x3), (5, .int x5)] [] (mH h s) Q) (hrc1 : ∀ {Q : Option Value → zz_H → Prop} {x1 : Int32} {x2 : Int32} {x3 : Int32} {x5 : Int32} {x6 : Int32} {x7 : Int32} {x8 : Int32} {s s' : mS} {v : Option Value}, rc 1 x1 x2 x3 x5 x6 x7 x8 s = some (s', v) → Q v (mH h s') → zz_E zp_P zt_tf zt_fd X (d + 1) zm_332 134 [(0, .ref 61), (1, .int x1), (2, .int x2), (3, .int x3), (5, .int x5), (6, .int x6), (7, .int x7), (8, .int x8)] [] (mH h s) Q) {Q : Option Value → zz_H → Prop} {x1 : Int32} {x2 : Int32} {x3 : Int32} {x5 : Int32} {s s' : mS} {v : Option Value} (hf : mf_332_88 N rc x1 x2 x3 x5 s = some (s', v)) (k : Q v (mH h s')) : zz_E zp_P zt_tf zt_fd X (d + 1) zm_332 88 [(0, .ref 61), (1, .int x1), (2, .int x2), (3, .int x3), (5, .int x5)] [] (mH h s) Q := by
  unfold mf_332_88 at hf
  refine mb_332_88 hh  (fun c => ?_) (fun c => ?_)
  · rw [if_pos c] at hf
    exact mr_332_218 hh hf k
  · rw [if_neg c] at hf
    exact mr_332_97 hh hrc0 hrc1 hf k
def mf_332_L1 (N : Nat) : Nat → Nat → Int32 → Int32 → Int32 → Int32 → Int32 → Int32 → Int32 → mS → mO
  | 0, _, _, _, _, _, _, _, _, _ => none
  | n + 1, l, x1, x2, x3, x5, x6, x7, x8, s => if l = 0 then mf_332_88 N (mf_332_L1 N n) x1 x2 x3 x5 s else if l = 1 then mf_332_134 N (mf_332_L1 N n) x1 x2 x3 x5 x6 x7 x8 s else none
theorem mr_332_L1 {X : Nat → Option zz_C} {h : zz_H} (hh : 111 ≤ h.length) {d : Nat} {N : Nat} : ∀ n : Nat, (∀ {Q : Option Value → zz_H → Prop} {x1 : Int32} {x2 : Int32} {x3 : Int32} {x5 : Int32} {s s' : mS} {v : Option Value}, mf_332_L1 N n 0 x1 x2 x3 x5 0 0 0 s = some (s', v) → Q v (mH h s') → zz_E zp_P zt_tf zt_fd X (d + 1) zm_332 88 [(0, .ref 61), (1, .int x1), (2, .int x2), (3, .int x3), (5, .int x5)] [] (mH h s) Q) ∧ (∀ {Q : Option Value → zz_H → Prop} {x1 : Int32} {x2 : Int32} {x3 : Int32} {x5 : Int32} {x6 : Int32} {x7 : Int32} {x8 : Int32} {s s' : mS} {v : Option Value}, mf_332_L1 N n 1 x1 x2 x3 x5 x6 x7 x8 s = some (s', v) → Q v (mH h s') → zz_E zp_P zt_tf zt_fd X (d + 1) zm_332 134 [(0, .ref 61), (1, .int x1), (2, .int x2), (3, .int x3), (5, .int x5), (6, .int x6), (7, .int x7), (8, .int x8)] [] (mH h s) Q) := by
  intro n
  induction n with
  | zero => exact ⟨(fun hf _ => by cases hf), (fun hf _ => by cases hf)⟩
  | succ n ih =>
    obtain ⟨h0, h1⟩ := ih
    refine ⟨?_, ?_⟩
    · intro Q _ _ _ _ s s' v hf k
      unfold mf_332_L1 at hf
      rw [if_pos rfl] at hf
      exact mr_332_88 hh h0 h1 hf k
    · intro Q _ _ _ _ _ _ _ s s' v hf k
      unfold mf_332_L1 at hf
      rw [if_neg (by decide)] at hf
      rw [if_pos rfl] at hf
      exact mr_332_134 hh h0 h1 hf k
def mf_332_83 (N : Nat) (x1 : Int32) (x2 : Int32) (x3 : Int32) (s : mS) : mO := mf_332_L1 N N 0 x1 x2 x3 (x3 + 1) 0 0 0 s
theorem mr_332_83 {X : Nat → Option zz_C} {h : zz_H} (hh : 111 ≤ h.length) {d : Nat} {N : Nat} {Q : Option Value → zz_H → Prop} {x1 : Int32} {x2 : Int32} {x3 : Int32} {s s' : mS} {v : Option Value} (hf : mf_332_83 N x1 x2 x3 s = some (s', v)) (k : Q v (mH h s')) : zz_E zp_P zt_tf zt_fd X (d + 1) zm_332 83 [(0, .ref 61), (1, .int x1), (2, .int x2), (3, .int x3)] [] (mH h s) Q := by
  unfold mf_332_83 at hf
  exact mb_332_83 hh  ((mr_332_L1 hh N).1 hf k)
def mf_332_82 (N : Nat)  (s : mS) : mO := some (s, none)
theorem mr_332_82 {X : Nat → Option zz_C} {h : zz_H} (hh : 111 ≤ h.length) {d : Nat} {N : Nat} {Q : Option Value → zz_H → Prop}  {s s' : mS} {v : Option Value} (hf : mf_332_82 N  s = some (s', v)) (k : Q v (mH h s')) : zz_E zp_P zt_tf zt_fd X (d + 1) zm_332 82 [] [] (mH h s) Q := by
  unfold mf_332_82 at hf
  cases hf
  exact mb_332_82 hh  k
def mf_332_76 (N : Nat) (x1 : Int32) (x2 : Int32) (x3 : Int32) (s : mS) : mO := if ¬ x1 = 12 then mf_332_83 N x1 x2 x3 s else mf_332_82 N  s
theorem mr_332_76 {X : Nat → Option zz_C} {h : zz_H} (hh : 111 ≤ h.length) {d : Nat} {N : Nat} {Q : Option Value → zz_H → Prop} {x1 : Int32} {x2 : Int32} {x3 : Int32} {s s' : mS} {v : Option Value} (hf : mf_332_76 N x1 x2 x3 s = some (s', v)) (k : Q v (mH h s')) : zz_E zp_P zt_tf zt_fd X (d + 1) zm_332 76 [(0, .ref 61), (1, .int x1), (2, .int x2), (3, .int x3)] [] (mH h s) Q := by
  unfold mf_332_76 at hf
  refine mb_332_76 hh  (fun c => ?_) (fun c => ?_)
  · rw [if_pos c] at hf
    exact mr_332_83 hh hf k
  · rw [if_neg c] at hf
    exact mr_332_82 hh hf k
def mf_332_70 (N : Nat) (rc : Nat → Int32 → Int32 → Int32 → Int32 → Int32 → mS → mO) (x1 : Int32) (x2 : Int32) (x3 : Int32) (x4 : Int32) (x5 : Int32) (s : mS) : mO := rc 0 x1 x2 x3 x4 (x5 + 1) s
theorem mr_332_70 {X : Nat → Option zz_C} {h : zz_H} (hh : 111 ≤ h.length) {d : Nat} {N : Nat} {rc : Nat → Int32 → Int32 → Int32 → Int32 → Int32 → mS → mO} (hrc0 : ∀ {Q : Option Value → zz_H → Prop} {x1 : Int32} {x2 : Int32} {x3 : Int32} {x4 : Int32} {x5 : Int32} {s s' : mS} {v : Option Value}, rc 0 x1 x2 x3 x4 x5 s = some (s', v) → Q v (mH h s') → zz_E zp_P zt_tf zt_fd X (d + 1) zm_332 11 [(0, .ref 61), (1, .int x1), (2, .int x2), (3, .int x3), (4, .int x4), (5, .int x5)] [] (mH h s) Q) {Q : Option Value → zz_H → Prop} {x1 : Int32} {x2 : Int32} {x3 : Int32} {x4 : Int32} {x5 : Int32} {s s' : mS} {v : Option Value} (hf : mf_332_70 N rc x1 x2 x3 x4 x5 s = some (s', v)) (k : Q v (mH h s')) : zz_E zp_P zt_tf zt_fd X (d + 1) zm_332 70 [(0, .ref 61), (1, .int x1), (2, .int x2), (3, .int x3), (4, .int x4), (5, .int x5)] [] (mH h s) Q := by
  unfold mf_332_70 at hf
  exact mb_332_70 hh  (hrc0 hf k)
def mf_332_67 (N : Nat) (rc : Nat → Int32 → Int32 → Int32 → Int32 → Int32 → mS → mO) (x1 : Int32) (x2 : Int32) (x3 : Int32) (x4 : Int32) (x5 : Int32) (y1 : Int32) (y2 : Int32) (s : mS) : mO := mo_bv (mf_291 N y1 y2 s) (fun s1 => mf_332_70 N rc x1 x2 x3 x4 x5 s1)
theorem mr_332_67 {X : Nat → Option zz_C} {h : zz_H} (hh : 111 ≤ h.length) {d : Nat} {N : Nat} {rc : Nat → Int32 → Int32 → Int32 → Int32 → Int32 → mS → mO} (hrc0 : ∀ {Q : Option Value → zz_H → Prop} {x1 : Int32} {x2 : Int32} {x3 : Int32} {x4 : Int32} {x5 : Int32} {s s' : mS} {v : Option Value}, rc 0 x1 x2 x3 x4 x5 s = some (s', v) → Q v (mH h s') → zz_E zp_P zt_tf zt_fd X (d + 1) zm_332 11 [(0, .ref 61), (1, .int x1), (2, .int x2), (3, .int x3), (4, .int x4), (5, .int x5)] [] (mH h s) Q) {Q : Option Value → zz_H → Prop} {x1 : Int32} {x2 : Int32} {x3 : Int32} {x4 : Int32} {x5 : Int32} {y1 : Int32} {y2 : Int32} {s s' : mS} {v : Option Value} (hf : mf_332_67 N rc x1 x2 x3 x4 x5 y1 y2 s = some (s', v)) (k : Q v (mH h s')) : zz_E zp_P zt_tf zt_fd X (d + 1) zm_332 67 [(0, .ref 61), (1, .int x1), (2, .int x2), (3, .int x3), (4, .int x4), (5, .int x5)] [.int y2, .int y1, .ref 61] (mH h s) Q := by
  unfold mf_332_67 at hf
  obtain ⟨s1, e, hf⟩ := mo_bv_ok hf
  exact mb_332_67 (d := d + 0) hh  (mr_291 (d := d + 0) hh e (mr_332_70 hh hrc0 hf k))
def mf_332_49 (N : Nat) (rc : Nat → Int32 → Int32 → Int32 → Int32 → Int32 → mS → mO) (x1 : Int32) (x2 : Int32) (x3 : Int32) (x4 : Int32) (x5 : Int32) (y1 : Int32) (s : mS) : mO := mf_332_67 N rc x1 x2 x3 x4 x5 y1 x4 s
theorem mr_332_49 {X : Nat → Option zz_C} {h : zz_H} (hh : 111 ≤ h.length) {d : Nat} {N : Nat} {rc : Nat → Int32 → Int32 → Int32 → Int32 → Int32 → mS → mO} (hrc0 : ∀ {Q : Option Value → zz_H → Prop} {x1 : Int32} {x2 : Int32} {x3 : Int32} {x4 : Int32} {x5 : Int32} {s s' : mS} {v : Option Value}, rc 0 x1 x2 x3 x4 x5 s = some (s', v) → Q v (mH h s') → zz_E zp_P zt_tf zt_fd X (d + 1) zm_332 11 [(0, .ref 61), (1, .int x1), (2, .int x2), (3, .int x3), (4, .int x4), (5, .int x5)] [] (mH h s) Q) {Q : Option Value → zz_H → Prop} {x1 : Int32} {x2 : Int32} {x3 : Int32} {x4 : Int32} {x5 : Int32} {y1 : Int32} {s s' : mS} {v : Option Value} (hf : mf_332_49 N rc x1 x2 x3 x4 x5 y1 s = some (s', v)) (k : Q v (mH h s')) : zz_E zp_P zt_tf zt_fd X (d + 1) zm_332 49 [(0, .ref 61), (1, .int x1), (2, .int x2), (3, .int x3), (4, .int x4), (5, .int x5)] [.int y1, .ref 61] (mH h s) Q := by
  unfold mf_332_49 at hf
  exact mb_332_49 hh  (mr_332_67 hh hrc0 hf k)
def mf_332_60 (N : Nat) (rc : Nat → Int32 → Int32 → Int32 → Int32 → Int32 → mS → mO) (x1 : Int32) (x2 : Int32) (x3 : Int32) (x4 : Int32) (x5 : Int32) (x6 : Int32) (y1 : Int32) (s : mS) : mO := mf_332_67 N rc x1 x2 x3 x4 x5 y1 x6 s
theorem mr_332_60 {X : Nat → Option zz_C} {h : zz_H} (hh : 111 ≤ h.length) {d : Nat} {N : Nat} {rc : Nat → Int32 → Int32 → Int32 → Int32 → Int32 → mS → mO} (hrc0 : ∀ {Q : Option Value → zz_H → Prop} {x1 : Int32} {x2 : Int32} {x3 : Int32} {x4 : Int32} {x5 : Int32} {s s' : mS} {v : Option Value}, rc 0 x1 x2 x3 x4 x5 s = some (s', v) → Q v (mH h s') → zz_E zp_P zt_tf zt_fd X (d + 1) zm_332 11 [(0, .ref 61), (1, .int x1), (2, .int x2), (3, .int x3), (4, .int x4), (5, .int x5)] [] (mH h s) Q) {Q : Option Value → zz_H → Prop} {x1 : Int32} {x2 : Int32} {x3 : Int32} {x4 : Int32} {x5 : Int32} {x6 : Int32} {y1 : Int32} {s s' : mS} {v : Option Value} (hf : mf_332_60 N rc x1 x2 x3 x4 x5 x6 y1 s = some (s', v)) (k : Q v (mH h s')) : zz_E zp_P zt_tf zt_fd X (d + 1) zm_332 60 [(0, .ref 61), (1, .int x1), (2, .int x2), (3, .int x3), (4, .int x4), (5, .int x5), (6, .int x6)] [.int y1, .ref 61] (mH h s) Q := by
  unfold mf_332_60 at hf
  exact mb_332_60 hh  (mr_332_67 hh hrc0 hf k)
def mf_332_65 (N : Nat) (rc : Nat → Int32 → Int32 → Int32 → Int32 → Int32 → mS → mO) (x1 : Int32) (x2 : Int32) (x3 : Int32) (x4 : Int32) (x5 : Int32) (y1 : Int32) (s : mS) : mO := mf_332_67 N rc x1 x2 x3 x4 x5 y1 x5 s
theorem mr_332_65 {X : Nat → Option zz_C} {h : zz_H} (hh : 111 ≤ h.length) {d : Nat} {N : Nat} {rc : Nat → Int32 → Int32 → Int32 → Int32 → Int32 → mS → mO} (hrc0 : ∀ {Q : Option Value → zz_H → Prop} {x1 : Int32} {x2 : Int32} {x3 : Int32} {x4 : Int32} {x5 : Int32} {s s' : mS} {v : Option Value}, rc 0 x1 x2 x3 x4 x5 s = some (s', v) → Q v (mH h s') → zz_E zp_P zt_tf zt_fd X (d + 1) zm_332 11 [(0, .ref 61), (1, .int x1), (2, .int x2), (3, .int x3), (4, .int x4), (5, .int x5)] [] (mH h s) Q) {Q : Option Value → zz_H → Prop} {x1 : Int32} {x2 : Int32} {x3 : Int32} {x4 : Int32} {x5 : Int32} {y1 : Int32} {s s' : mS} {v : Option Value} (hf : mf_332_65 N rc x1 x2 x3 x4 x5 y1 s = some (s', v)) (k : Q v (mH h s')) : zz_E zp_P zt_tf zt_fd X (d + 1) zm_332 65 [(0, .ref 61), (1, .int x1), (2, .int x2), (3, .int x3), (4, .int x4), (5, .int x5)] [.int y1, .ref 61] (mH h s) Q := by
  unfold mf_332_65 at hf
  exact mb_332_65 hh  (mr_332_67 hh hrc0 hf k)
def mf_332_54 (N : Nat) (rc : Nat → Int32 → Int32 → Int32 → Int32 → Int32 → mS → mO) (x1 : Int32) (x2 : Int32) (x3 : Int32) (x4 : Int32) (x5 : Int32) (x6 : Int32) (y1 : Int32) (s : mS) : mO := if ¬ x1 = 13 then mf_332_65 N rc x1 x2 x3 x4 x5 y1 s else mf_332_60 N rc x1 x2 x3 x4 x5 x6 y1 s
theorem mr_332_54 {X : Nat → Option zz_C} {h : zz_H} (hh : 111 ≤ h.length) {d : Nat} {N : Nat} {rc : Nat → Int32 → Int32 → Int32 → Int32 → Int32 → mS → mO} (hrc0 : ∀ {Q : Option Value → zz_H → Prop} {x1 : Int32} {x2 : Int32} {x3 : Int32} {x4 : Int32} {x5 : Int32} {s s' : mS} {v : Option Value}, rc 0 x1 x2 x3 x4 x5 s = some (s', v) → Q v (mH h s') → zz_E zp_P zt_tf zt_fd X (d + 1) zm_332 11 [(0, .ref 61), (1, .int x1), (2, .int x2), (3, .int x3), (4, .int x4), (5, .int x5)] [] (mH h s) Q) {Q : Option Value → zz_H → Prop} {x1 : Int32} {x2 : Int32} {x3 : Int32} {x4 : Int32} {x5 : Int32} {x6 : Int32} {y1 : Int32} {s s' : mS} {v : Option Value} (hf : mf_332_54 N rc x1 x2 x3 x4 x5 x6 y1 s = some (s', v)) (k : Q v (mH h s')) : zz_E zp_P zt_tf zt_fd X (d + 1) zm_332 54 [(0, .ref 61), (1, .int x1), (2, .int x2), (3, .int x3), (4, .int x4), (5, .int x5), (6, .int x6)] [.int y1, .ref 61] (mH h s) Q := by
  unfold mf_332_54 at hf
  refine mb_332_54 hh  (fun c => ?_) (fun c => ?_)
  · rw [if_pos c] at hf
    exact mr_332_65 hh hrc0 hf k
  · rw [if_neg c] at hf
    exact mr_332_60 hh hrc0 hf k
def mf_332_21 (N : Nat) (rc : Nat → Int32 → Int32 → Int32 → Int32 → Int32 → mS → mO) (x1 : Int32) (x2 : Int32) (x3 : Int32) (x4 : Int32) (x5 : Int32) (s : mS) : mO := if ¬ (((x2 + 2) + x5) < 0 ∨ 166300 ≤ Int32.toNatClampNeg ((x2 + 2) + x5)) then (if ¬ x1 = 12 then mf_332_54 N rc x1 x2 x3 (x4 + ((s.2.2.1 47) (Int32.toNatClampNeg ((x2 + 2) + x5)))) x5 ((s.2.2.1 47) (Int32.toNatClampNeg ((x2 + 2) + x5))) 0 s else mf_332_49 N rc x1 x2 x3 (x4 + ((s.2.2.1 47) (Int32.toNatClampNeg ((x2 + 2) + x5)))) x5 0 s) else none
theorem mr_332_21 {X : Nat → Option zz_C} {h : zz_H} (hh : 111 ≤ h.length) {d : Nat} {N : Nat} {rc : Nat → Int32 → Int32 → Int32 → Int32 → Int32 → mS → mO} (hrc0 : ∀ {Q : Option Value → zz_H → Prop} {x1 : Int32} {x2 : Int32} {x3 : Int32} {x4 : Int32} {x5 : Int32} {s s' : mS} {v : Option Value}, rc 0 x1 x2 x3 x4 x5 s = some (s', v) → Q v (mH h s') → zz_E zp_P zt_tf zt_fd X (d + 1) zm_332 11 [(0, .ref 61), (1, .int x1), (2, .int x2), (3, .int x3), (4, .int x4), (5, .int x5)] [] (mH h s) Q) {Q : Option Value → zz_H → Prop} {x1 : Int32} {x2 : Int32} {x3 : Int32} {x4 : Int32} {x5 : Int32} {s s' : mS} {v : Option Value} (hf : mf_332_21 N rc x1 x2 x3 x4 x5 s = some (s', v)) (k : Q v (mH h s')) : zz_E zp_P zt_tf zt_fd X (d + 1) zm_332 21 [(0, .ref 61), (1, .int x1), (2, .int x2), (3, .int x3), (4, .int x4), (5, .int x5)] [] (mH h s) Q := by
  unfold mf_332_21 at hf
  obtain ⟨q0, hf⟩ := mo_if hf
  refine mb_332_21 hh q0 (fun c => ?_) (fun c => ?_)
  · rw [if_pos c] at hf
    exact mr_332_54 hh hrc0 hf k
  · rw [if_neg c] at hf
    exact mr_332_49 hh hrc0 hf k
def mf_332_18 (N : Nat) (rc : Nat → Int32 → Int32 → Int32 → Int32 → Int32 → mS → mO) (x1 : Int32) (x2 : Int32) (x3 : Int32) (x4 : Int32) (x5 : Int32) (y0 : Int32) (y1 : Int32) (s : mS) : mO := if y1 ≤ y0 then mf_332_76 N x1 x2 x3 s else mf_332_21 N rc x1 x2 x3 x4 x5 s
theorem mr_332_18 {X : Nat → Option zz_C} {h : zz_H} (hh : 111 ≤ h.length) {d : Nat} {N : Nat} {rc : Nat → Int32 → Int32 → Int32 → Int32 → Int32 → mS → mO} (hrc0 : ∀ {Q : Option Value → zz_H → Prop} {x1 : Int32} {x2 : Int32} {x3 : Int32} {x4 : Int32} {x5 : Int32} {s s' : mS} {v : Option Value}, rc 0 x1 x2 x3 x4 x5 s = some (s', v) → Q v (mH h s') → zz_E zp_P zt_tf zt_fd X (d + 1) zm_332 11 [(0, .ref 61), (1, .int x1), (2, .int x2), (3, .int x3), (4, .int x4), (5, .int x5)] [] (mH h s) Q) {Q : Option Value → zz_H → Prop} {x1 : Int32} {x2 : Int32} {x3 : Int32} {x4 : Int32} {x5 : Int32} {y0 : Int32} {y1 : Int32} {s s' : mS} {v : Option Value} (hf : mf_332_18 N rc x1 x2 x3 x4 x5 y0 y1 s = some (s', v)) (k : Q v (mH h s')) : zz_E zp_P zt_tf zt_fd X (d + 1) zm_332 18 [(0, .ref 61), (1, .int x1), (2, .int x2), (3, .int x3), (4, .int x4), (5, .int x5)] [.int y1, .int y0] (mH h s) Q := by
  unfold mf_332_18 at hf
  refine mb_332_18 hh  (fun c => ?_) (fun c => ?_)
  · rw [if_pos c] at hf
    exact mr_332_76 hh hf k
  · rw [if_neg c] at hf
    exact mr_332_21 hh hrc0 hf k
def mf_332_11 (N : Nat) (rc : Nat → Int32 → Int32 → Int32 → Int32 → Int32 → mS → mO) (x1 : Int32) (x2 : Int32) (x3 : Int32) (x4 : Int32) (x5 : Int32) (s : mS) : mO := mo_bi (mf_77 N x2 s) (fun s1 y => mf_332_18 N rc x1 x2 x3 x4 x5 x5 y s1)
theorem mr_332_11 {X : Nat → Option zz_C} {h : zz_H} (hh : 111 ≤ h.length) {d : Nat} {N : Nat} {rc : Nat → Int32 → Int32 → Int32 → Int32 → Int32 → mS → mO} (hrc0 : ∀ {Q : Option Value → zz_H → Prop} {x1 : Int32} {x2 : Int32} {x3 : Int32} {x4 : Int32} {x5 : Int32} {s s' : mS} {v : Option Value}, rc 0 x1 x2 x3 x4 x5 s = some (s', v) → Q v (mH h s') → zz_E zp_P zt_tf zt_fd X (d + 1) zm_332 11 [(0, .ref 61), (1, .int x1), (2, .int x2), (3, .int x3), (4, .int x4), (5, .int x5)] [] (mH h s) Q) {Q : Option Value → zz_H → Prop} {x1 : Int32} {x2 : Int32} {x3 : Int32} {x4 : Int32} {x5 : Int32} {s s' : mS} {v : Option Value} (hf : mf_332_11 N rc x1 x2 x3 x4 x5 s = some (s', v)) (k : Q v (mH h s')) : zz_E zp_P zt_tf zt_fd X (d + 1) zm_332 11 [(0, .ref 61), (1, .int x1), (2, .int x2), (3, .int x3), (4, .int x4), (5, .int x5)] [] (mH h s) Q := by
  unfold mf_332_11 at hf
  obtain ⟨s1, y, e, hf⟩ := mo_bi_ok hf
  exact mb_332_11 (d := d + 0) hh  (mr_77 (d := d + 0) hh e (mr_332_18 hh hrc0 hf k))
def mf_332_L5 (N : Nat) : Nat → Nat → Int32 → Int32 → Int32 → Int32 → Int32 → mS → mO
  | 0, _, _, _, _, _, _, _ => none
  | n + 1, l, x1, x2, x3, x4, x5, s => if l = 0 then mf_332_11 N (mf_332_L5 N n) x1 x2 x3 x4 x5 s else none
theorem mr_332_L5 {X : Nat → Option zz_C} {h : zz_H} (hh : 111 ≤ h.length) {d : Nat} {N : Nat} : ∀ n : Nat, (∀ {Q : Option Value → zz_H → Prop} {x1 : Int32} {x2 : Int32} {x3 : Int32} {x4 : Int32} {x5 : Int32} {s s' : mS} {v : Option Value}, mf_332_L5 N n 0 x1 x2 x3 x4 x5 s = some (s', v) → Q v (mH h s') → zz_E zp_P zt_tf zt_fd X (d + 1) zm_332 11 [(0, .ref 61), (1, .int x1), (2, .int x2), (3, .int x3), (4, .int x4), (5, .int x5)] [] (mH h s) Q) := by
  intro n
  induction n with
  | zero => exact (fun hf _ => by cases hf)
  | succ n ih =>
    have h0 := @ih
    intro Q _ _ _ _ _ s s' v hf k
    unfold mf_332_L5 at hf
    rw [if_pos rfl] at hf
    exact mr_332_11 hh h0 hf k
def mf_332_0 (N : Nat) (x1 : Int32) (x2 : Int32) (s : mS) : mO := mf_332_L5 N N 0 x1 x2 (s.1 51) 0 0 s
theorem mr_332_0 {X : Nat → Option zz_C} {h : zz_H} (hh : 111 ≤ h.length) {d : Nat} {N : Nat} {Q : Option Value → zz_H → Prop} {x1 : Int32} {x2 : Int32} {s s' : mS} {v : Option Value} (hf : mf_332_0 N x1 x2 s = some (s', v)) (k : Q v (mH h s')) : zz_E zp_P zt_tf zt_fd X (d + 1) zm_332 0 [(0, .ref 61), (1, .int x1), (2, .int x2)] [] (mH h s) Q := by
  unfold mf_332_0 at hf
  exact mb_332_0 hh  (mr_332_L5 hh N hf k)
/-- worked -/
def mf_332 (N : Nat) (x1 : Int32) (x2 : Int32) (s : mS) : mO := mf_332_0 N x1 x2 s
theorem mr_332 {X : Nat → Option zz_C} {h : zz_H} (hh : 111 ≤ h.length) {d : Nat} {N : Nat} {Q : Option Value → zz_H → Prop} {x1 : Int32} {x2 : Int32} {s s' : mS} {v : Option Value} (hf : mf_332 N x1 x2 s = some (s', v)) (k : Q v (mH h s')) : zz_E zp_P zt_tf zt_fd X (d + 1) zm_332 0 [(0, .ref 61), (1, .int x1), (2, .int x2)] [] (mH h s) Q := by
  unfold mf_332 at hf
  exact zz_E.weak (mr_332_0 hh hf k) rfl ⟨rfl, rfl, rfl, trivial⟩
/-! eachRow (IIII)V -/
theorem mb_334_0 {X : Nat → Option zz_C} {h : zz_H} (hh : 111 ≤ h.length) {s : mS} {d : Nat} {Q : Option Value → zz_H → Prop} {x1 : Int32} {x2 : Int32} {x3 : Int32} {x4 : Int32} (k1 : ¬ x4 = 1 → zz_E zp_P zt_tf zt_fd X d zm_334 19 [(0, .ref 61), (1, .int x1), (2, .int x2), (3, .int x3)] [] (mH h s) Q) (k2 : ¬ ¬ x4 = 1 → zz_E zp_P zt_tf zt_fd X d zm_334 6 [(0, .ref 61), (1, .int x1), (2, .int x2), (3, .int x3)] [] (mH h s) Q) : zz_E zp_P zt_tf zt_fd X d zm_334 0 [(0, .ref 61), (1, .int x1), (2, .int x2), (3, .int x3), (4, .int x4)] [] (mH h s) Q := by
  refine zz_E.n 2 rfl rfl rfl ?_
  refine zz_E.c 3 (.int 1) rfl rfl rfl rfl ?_
  refine zz_E.b2 19 6 (A := ¬ x4 = 1) rfl (zz_cond_ne _ _) (by decide) rfl rfl (fun c => ?_) (fun c => ?_)
  · exact zz_E.weak (k1 c) rfl ⟨rfl, rfl, rfl, rfl, trivial⟩
  · exact zz_E.weak (k2 c) rfl ⟨rfl, rfl, rfl, rfl, trivial⟩
theorem mb_334_6 {X : Nat → Option zz_C} {h : zz_H} (hh : 111 ≤ h.length) {s : mS} {d : Nat} {Q : Option Value → zz_H → Prop} {x1 : Int32} {x2 : Int32} {x3 : Int32} (k : zz_E zp_P zt_tf zt_fd X d zm_332 0 [(0, .ref 61), (1, .int x1), (2, .int x2)] [] (mH h s) (fun v h' => zz_E zp_P zt_tf zt_fd X (d + 1) zm_334 12 [(0, .ref 61), (3, .int x3)] (v.toList ++ []) h' Q)) : zz_E zp_P zt_tf zt_fd X (d + 1) zm_334 6 [(0, .ref 61), (1, .int x1), (2, .int x2), (3, .int x3)] [] (mH h s) Q := by
  refine zz_E.n 7 rfl rfl rfl ?_
  refine zz_E.n 8 rfl rfl rfl ?_
  refine zz_E.n 9 rfl rfl rfl ?_
  refine mE_cv hh 12 (as := []) rfl rfl (Nat.le_of_ble_eq_true rfl) (Nat.le_of_ble_eq_true rfl) rfl (Nat.le_of_ble_eq_true rfl) rfl ?_
  refine zz_E.mono k ?_
  intro v h' hE
  exact zz_E.weak hE rfl ⟨rfl, rfl, trivial⟩
theorem mb_334_12 {X : Nat → Option zz_C} {h : zz_H} (hh : 111 ≤ h.length) {s : mS} {d : Nat} {Q : Option Value → zz_H → Prop} {x3 : Int32} (k : zz_E zp_P zt_tf zt_fd X d zm_305 0 [(0, .ref 61), (1, .int 1), (2, .int x3)] [] (mH h s) (fun v h' => zz_E zp_P zt_tf zt_fd X (d + 1) zm_334 18 [] (v.toList ++ []) h' Q)) : zz_E zp_P zt_tf zt_fd X (d + 1) zm_334 12 [(0, .ref 61), (3, .int x3)] [] (mH h s) Q := by
  refine zz_E.n 13 rfl rfl rfl ?_
  refine zz_E.c 14 (.int 1) rfl rfl rfl rfl ?_
  refine zz_E.n 15 rfl rfl rfl ?_
  refine mE_cv hh 18 (as := []) rfl rfl (Nat.le_of_ble_eq_true rfl) (Nat.le_of_ble_eq_true rfl) rfl (Nat.le_of_ble_eq_true rfl) rfl ?_
  refine zz_E.mono k ?_
  intro v h' hE
  exact zz_E.weak hE rfl trivial
theorem mb_334_18 {X : Nat → Option zz_C} {h : zz_H} (hh : 111 ≤ h.length) {s : mS} {d : Nat} {Q : Option Value → zz_H → Prop}  (k : Q none (mH h s)) : zz_E zp_P zt_tf zt_fd X d zm_334 18 [] [] (mH h s) Q := by
  refine zz_E.ret rfl rfl rfl ?_
  exact k
theorem mb_334_19 {X : Nat → Option zz_C} {h : zz_H} (hh : 111 ≤ h.length) {s : mS} {d : Nat} {Q : Option Value → zz_H → Prop} {x1 : Int32} {x2 : Int32} {x3 : Int32} (k : zz_E zp_P zt_tf zt_fd X d zm_334 22 [(0, .ref 61), (1, .int x1), (2, .int x2), (3, .int x3), (5, .int 0)] [] (mH h s) Q) : zz_E zp_P zt_tf zt_fd X d zm_334 19 [(0, .ref 61), (1, .int x1), (2, .int x2), (3, .int x3)] [] (mH h s) Q := by
  refine zz_E.c 20 (.int 0) rfl rfl rfl rfl ?_
  refine zz_E.n 22 rfl rfl rfl ?_
  exact zz_E.weak k rfl ⟨rfl, rfl, rfl, rfl, rfl, trivial⟩
theorem mb_334_22 {X : Nat → Option zz_C} {h : zz_H} (hh : 111 ≤ h.length) {s : mS} {d : Nat} {Q : Option Value → zz_H → Prop} {x1 : Int32} {x2 : Int32} {x3 : Int32} {x5 : Int32} (k : zz_E zp_P zt_tf zt_fd X d zm_77 0 [(0, .ref 61), (1, .int x2)] [] (mH h s) (fun v h' => zz_E zp_P zt_tf zt_fd X (d + 1) zm_334 29 [(0, .ref 61), (1, .int x1), (2, .int x2), (3, .int x3), (5, .int x5)] (v.toList ++ [.int x5]) h' Q)) : zz_E zp_P zt_tf zt_fd X (d + 1) zm_334 22 [(0, .ref 61), (1, .int x1), (2, .int x2), (3, .int x3), (5, .int x5)] [] (mH h s) Q := by
  refine zz_E.n 24 rfl rfl rfl ?_
  refine zz_E.n 25 rfl rfl rfl ?_
  refine zz_E.n 26 rfl rfl rfl ?_
  refine mE_cv hh 29 (as := [.int x5]) rfl rfl (Nat.le_of_ble_eq_true rfl) (Nat.le_of_ble_eq_true rfl) rfl (Nat.le_of_ble_eq_true rfl) rfl ?_
  refine zz_E.mono k ?_
  intro v h' hE
  exact zz_E.weak hE rfl ⟨rfl, rfl, rfl, rfl, rfl, trivial⟩
theorem mb_334_29 {X : Nat → Option zz_C} {h : zz_H} (hh : 111 ≤ h.length) {s : mS} {d : Nat} {Q : Option Value → zz_H → Prop} {x1 : Int32} {x2 : Int32} {x3 : Int32} {x5 : Int32} {y0 : Int32} {y1 : Int32} (k1 : y1 ≤ y0 → zz_E zp_P zt_tf zt_fd X d zm_334 62 [(0, .ref 61), (3, .int x3)] [] (mH h s) Q) (k2 : ¬ y1 ≤ y0 → zz_E zp_P zt_tf zt_fd X d zm_334 32 [(0, .ref 61), (1, .int x1), (2, .int x2), (3, .int x3), (5, .int x5)] [] (mH h s) Q) : zz_E zp_P zt_tf zt_fd X d zm_334 29 [(0, .ref 61), (1, .int x1), (2, .int x2), (3, .int x3), (5, .int x5)] [.int y1, .int y0] (mH h s) Q := by
  refine zz_E.b2 62 32 (A := y1 ≤ y0) rfl rfl (by decide) rfl rfl (fun c => ?_) (fun c => ?_)
  · exact zz_E.weak (k1 c) rfl ⟨rfl, rfl, trivial⟩
  · exact zz_E.weak (k2 c) rfl ⟨rfl, rfl, rfl, rfl, rfl, trivial⟩
theorem mb_334_32 {X : Nat → Option zz_C} {h : zz_H} (hh : 111 ≤ h.length) {s : mS} {d : Nat} {Q : Option Value → zz_H → Prop} {x1 : Int32} {x2 : Int32} {x3 : Int32} {x5 : Int32} (k : zz_E zp_P zt_tf zt_fd X d zm_294 0 [(0, .ref 61), (1, .int x2), (2, .int x5)] [] (mH h s) (fun v h' => zz_E zp_P zt_tf zt_fd X (d + 1) zm_334 47 [(0, .ref 61), (1, .int x1), (2, .int x2), (3, .int x3), (5, .int x5), (6, .int (s.1 51))] (v.toList ++ [.int x1, .ref 61]) h' Q)) : zz_E zp_P zt_tf zt_fd X (d + 1) zm_334 32 [(0, .ref 61), (1, .int x1), (2, .int x2), (3, .int x3), (5, .int x5)] [] (mH h s) Q := by
  refine zz_E.n 33 rfl rfl rfl ?_
  refine mE_g hh 36 (v := .int (s.1 51)) rfl rfl rfl ?_
  refine zz_E.n 38 rfl rfl rfl ?_
  refine zz_E.n 39 rfl rfl rfl ?_
  refine zz_E.n 40 rfl rfl rfl ?_
  refine zz_E.n 41 rfl rfl rfl ?_
  refine zz_E.n 42 rfl rfl rfl ?_
  refine zz_E.n 44 rfl rfl rfl ?_
  refine mE_cv hh 47 (as := [.int x1, .ref 61]) rfl rfl (Nat.le_of_ble_eq_true rfl) (Nat.le_of_ble_eq_true rfl) rfl (Nat.le_of_ble_eq_true rfl) rfl ?_
  refine zz_E.mono k ?_
  intro v h' hE
  exact zz_E.weak hE rfl ⟨rfl, rfl, rfl, rfl, rfl, rfl, trivial⟩
theorem mb_334_47 {X : Nat → Option zz_C} {h : zz_H} (hh : 111 ≤ h.length) {s : mS} {d : Nat} {Q : Option Value → zz_H → Prop} {x1 : Int32} {x2 : Int32} {x3 : Int32} {x5 : Int32} {x6 : Int32} {y1 : Int32} {y2 : Int32} (k : zz_E zp_P zt_tf zt_fd X d zm_332 0 [(0, .ref 61), (1, .int y1), (2, .int y2)] [] (mH h s) (fun v h' => zz_E zp_P zt_tf zt_fd X (d + 1) zm_334 50 [(0, .ref 61), (1, .int x1), (2, .int x2), (3, .int x3), (5, .int x5), (6, .int x6)] (v.toList ++ []) h' Q)) : zz_E zp_P zt_tf zt_fd X (d + 1) zm_334 47 [(0, .ref 61), (1, .int x1), (2, .int x2), (3, .int x3), (5, .int x5), (6, .int x6)] [.int y2, .int y1, .ref 61] (mH h s) Q := by
  refine mE_cv hh 50 (as := []) rfl rfl (Nat.le_of_ble_eq_true rfl) (Nat.le_of_ble_eq_true rfl) rfl (Nat.le_of_ble_eq_true rfl) rfl ?_
  refine zz_E.mono k ?_
  intro v h' hE
  exact zz_E.weak hE rfl ⟨rfl, rfl, rfl, rfl, rfl, rfl, trivial⟩
theorem mb_334_50 {X : Nat → Option zz_C} {h : zz_H} (hh : 111 ≤ h.length) {s : mS} {d : Nat} {Q : Option Value → zz_H → Prop} {x1 : Int32} {x2 : Int32} {x3 : Int32} {x5 : Int32} {x6 : Int32} (k : zz_E zp_P zt_tf zt_fd X d zm_306 0 [(0, .ref 61), (1, .int x6)] [] (mH h s) (fun v h' => zz_E zp_P zt_tf zt_fd X (d + 1) zm_334 56 [(0, .ref 61), (1, .int x1), (2, .int x2), (3, .int x3), (5, .int x5)] (v.toList ++ []) h' Q)) : zz_E zp_P zt_tf zt_fd X (d + 1) zm_334 50 [(0, .ref 61), (1, .int x1), (2, .int x2), (3, .int x3), (5, .int x5), (6, .int x6)] [] (mH h s) Q := by
  refine zz_E.n 51 rfl rfl rfl ?_
  refine zz_E.n 53 rfl rfl rfl ?_
  refine mE_cv hh 56 (as := []) rfl rfl (Nat.le_of_ble_eq_true rfl) (Nat.le_of_ble_eq_true rfl) rfl (Nat.le_of_ble_eq_true rfl) rfl ?_
  refine zz_E.mono k ?_
  intro v h' hE
  exact zz_E.weak hE rfl ⟨rfl, rfl, rfl, rfl, rfl, trivial⟩
theorem mb_334_56 {X : Nat → Option zz_C} {h : zz_H} (hh : 111 ≤ h.length) {s : mS} {d : Nat} {Q : Option Value → zz_H → Prop} {x1 : Int32} {x2 : Int32} {x3 : Int32} {x5 : Int32} (k : zz_E zp_P zt_tf zt_fd X d zm_334 22 [(0, .ref 61), (1, .int x1), (2, .int x2), (3, .int x3), (5, .int (x5 + 1))] [] (mH h s) Q) : zz_E zp_P zt_tf zt_fd X d zm_334 56 [(0, .ref 61), (1, .int x1), (2, .int x2), (3, .int x3), (5, .int x5)] [] (mH h s) Q := by
  refine zz_E.n 59 rfl rfl rfl ?_
  refine zz_E.n 22 rfl rfl rfl ?_
  exact zz_E.weak k rfl ⟨rfl, rfl, rfl, rfl, rfl, trivial⟩
theorem mb_334_62 {X : Nat → Option zz_C} {h : zz_H} (hh : 111 ≤ h.length) {s : mS} {d : Nat} {Q : Option Value → zz_H → Prop} {x3 : Int32} (k : zz_E zp_P zt_tf zt_fd X d zm_305 0 [(0, .ref 61), (1, .int 2), (2, .int x3)] [] (mH h s) (fun v h' => zz_E zp_P zt_tf zt_fd X (d + 1) zm_334 68 [] (v.toList ++ []) h' Q)) : zz_E zp_P zt_tf zt_fd X (d + 1) zm_334 62 [(0, .ref 61), (3, .int x3)] [] (mH h s) Q := by
  refine zz_E.n 63 rfl rfl rfl ?_
  refine zz_E.c 64 (.int 2) rfl rfl rfl rfl ?_
  refine zz_E.n 65 rfl rfl rfl ?_
  refine mE_cv hh 68 (as := []) rfl rfl (Nat.le_of_ble_eq_true rfl) (Nat.le_of_ble_eq_true rfl) rfl (Nat.le_of_ble_eq_true rfl) rfl ?_
  refine zz_E.mono k ?_
  intro v h' hE
  exact zz_E.weak hE rfl trivial
theorem mb_334_68 {X : Nat → Option zz_C} {h : zz_H} (hh : 111 ≤ h.length) {s : mS} {d : Nat} {Q : Option Value → zz_H → Prop}  (k : Q none (mH h s)) : zz_E zp_P zt_tf zt_fd X d zm_334 68 [] [] (mH h s) Q := by
  refine zz_E.ret rfl rfl rfl ?_
  exact k
def mf_334_68 (N : Nat)  (s : mS) : mO := some (s, none)
theorem mr_334_68 {X : Nat → Option zz_C} {h : zz_H} (hh : 111 ≤ h.length) {d : Nat} {N : Nat} {Q : Option Value → zz_H → Prop}  {s s' : mS} {v : Option Value} (hf : mf_334_68 N  s = some (s', v)) (k : Q v (mH h s')) : zz_E zp_P zt_tf zt_fd X (d + 4) zm_334 68 [] [] (mH h s) Q := by
  unfold mf_334_68 at hf
  cases hf
  exact mb_334_68 hh  k
def mf_334_62 (N : Nat) (x3 : Int32) (s : mS) : mO := mo_bv (mf_305 N 2 x3 s) (fun s1 => mf_334_68 N  s1)
theorem mr_334_62 {X : Nat → Option zz_C} {h : zz_H} (hh : 111 ≤ h.length) {d : Nat} {N : Nat} {Q : Option Value → zz_H → Prop} {x3 : Int32} {s s' : mS} {v : Option Value} (hf : mf_334_62 N x3 s = some (s', v)) (k : Q v (mH h s')) : zz_E zp_P zt_tf zt_fd X (d + 4) zm_334 62 [(0, .ref 61), (3, .int x3)] [] (mH h s) Q := by
  unfold mf_334_62 at hf
  obtain ⟨s1, e, hf⟩ := mo_bv_ok hf
  exact mb_334_62 (d := d + 3) hh  (mr_305 (d := d + 0) hh e (mr_334_68 hh hf k))
def mf_334_56 (N : Nat) (rc : Nat → Int32 → Int32 → Int32 → Int32 → mS → mO) (x1 : Int32) (x2 : Int32) (x3 : Int32) (x5 : Int32) (s : mS) : mO := rc 0 x1 x2 x3 (x5 + 1) s
theorem mr_334_56 {X : Nat → Option zz_C} {h : zz_H} (hh : 111 ≤ h.length) {d : Nat} {N : Nat} {rc : Nat → Int32 → Int32 → Int32 → Int32 → mS → mO} (hrc0 : ∀ {Q : Option Value → zz_H → Prop} {x1 : Int32} {x2 : Int32} {x3 : Int32} {x5 : Int32} {s s' : mS} {v : Option Value}, rc 0 x1 x2 x3 x5 s = some (s', v) → Q v (mH h s') → zz_E zp_P zt_tf zt_fd X (d + 4) zm_334 22 [(0, .ref 61), (1, .int x1), (2, .int x2), (3, .int x3), (5, .int x5)] [] (mH h s) Q) {Q : Option Value → zz_H → Prop} {x1 : Int32} {x2 : Int32} {x3 : Int32} {x5 : Int32} {s s' : mS} {v : Option Value} (hf : mf_334_56 N rc x1 x2 x3 x5 s = some (s', v)) (k : Q v (mH h s')) : zz_E zp_P zt_tf zt_fd X (d + 4) zm_334 56 [(0, .ref 61), (1, .int x1), (2, .int x2), (3, .int x3), (5, .int x5)] [] (mH h s) Q := by
  unfold mf_334_56 at hf
  exact mb_334_56 hh  (hrc0 hf k)
def mf_334_50 (N : Nat) (rc : Nat → Int32 → Int32 → Int32 → Int32 → mS → mO) (x1 : Int32) (x2 : Int32) (x3 : Int32) (x5 : Int32) (x6 : Int32) (s : mS) : mO := mo_bv (mf_306 N x6 s) (fun s1 => mf_334_56 N rc x1 x2 x3 x5 s1)
theorem mr_334_50 {X : Nat → Option zz_C} {h : zz_H} (hh : 111 ≤ h.length) {d : Nat} {N : Nat} {rc : Nat → Int32 → Int32 → Int32 → Int32 → mS → mO} (hrc0 : ∀ {Q : Option Value → zz_H → Prop} {x1 : Int32} {x2 : Int32} {x3 : Int32} {x5 : Int32} {s s' : mS} {v : Option Value}, rc 0 x1 x2 x3 x5 s = some (s', v) → Q v (mH h s') → zz_E zp_P zt_tf zt_fd X (d + 4) zm_334 22 [(0, .ref 61), (1, .int x1), (2, .int x2), (3, .int x3), (5, .int x5)] [] (mH h s) Q) {Q : Option Value → zz_H → Prop} {x1 : Int32} {x2 : Int32} {x3 : Int32} {x5 : Int32} {x6 : Int32} {s s' : mS} {v : Option Value} (hf : mf_334_50 N rc x1 x2 x3 x5 x6 s = some (s', v)) (k : Q v (mH h s')) : zz_E zp_P zt_tf zt_fd X (d + 4) zm_334 50 [(0, .ref 61), (1, .int x1), (2, .int x2), (3, .int x3), (5, .int x5), (6, .int x6)] [] (mH h s) Q := by
  unfold mf_334_50 at hf
  obtain ⟨s1, e, hf⟩ := mo_bv_ok hf
  exact mb_334_50 (d := d + 3) hh  (mr_306 (d := d + 2) hh e (mr_334_56 hh hrc0 hf k))
def mf_334_47 (N : Nat) (rc : Nat → Int32 → Int32 → Int32 → Int32 → mS → mO) (x1 : Int32) (x2 : Int32) (x3 : Int32) (x5 : Int32) (x6 : Int32) (y1 : Int32) (y2 : Int32) (s : mS) : mO := mo_bv (mf_332 N y1 y2 s) (fun s1 => mf_334_50 N rc x1 x2 x3 x5 x6 s1)
theorem mr_334_47 {X : Nat → Option zz_C} {h : zz_H} (hh : 111 ≤ h.length) {d : Nat} {N : Nat} {rc : Nat → Int32 → Int32 → Int32 → Int32 → mS → mO} (hrc0 : ∀ {Q : Option Value → zz_H → Prop} {x1 : Int32} {x2 : Int32} {x3 : Int32} {x5 : Int32} {s s' : mS} {v : Option Value}, rc 0 x1 x2 x3 x5 s = some (s', v) → Q v (mH h s') → zz_E zp_P zt_tf zt_fd X (d + 4) zm_334 22 [(0, .ref 61), (1, .int x1), (2, .int x2), (3, .int x3), (5, .int x5)] [] (mH h s) Q) {Q : Option Value → zz_H → Prop} {x1 : Int32} {x2 : Int32} {x3 : Int32} {x5 : Int32} {x6 : Int32} {y1 : Int32} {y2 : Int32} {s s' : mS} {v : Option Value} (hf : mf_334_47 N rc x1 x2 x3 x5 x6 y1 y2 s = some (s', v)) (k : Q v (mH h s')) : zz_E zp_P zt_tf zt_fd X (d + 4) zm_334 47 [(0, .ref 61), (1, .int x1), (2, .int x2), (3, .int x3), (5, .int x5), (6, .int x6)] [.int y2, .int y1, .ref 61] (mH h s) Q := by
  unfold mf_334_47 at hf
  obtain ⟨s1, e, hf⟩ := mo_bv_ok hf
  exact mb_334_47 (d := d + 3) hh  (mr_332 (d := d + 2) hh e (mr_334_50 hh hrc0 hf k))
def mf_334_32 (N : Nat) (rc : Nat → Int32 → Int32 → Int32 → Int32 → mS → mO) (x1 : Int32) (x2 : Int32) (x3 : Int32) (x5 : Int32) (s : mS) : mO := mo_bi (mf_294 N x2 x5 s) (fun s1 y => mf_334_47 N rc x1 x2 x3 x5 (s.1 51) x1 y s1)
theorem mr_334_32 {X : Nat → Option zz_C} {h : zz_H} (hh : 111 ≤ h.length) {d : Nat} {N : Nat} {rc : Nat → Int32 → Int32 → Int32 → Int32 → mS → mO} (hrc0 : ∀ {Q : Option Value → zz_H → Prop} {x1 : Int32} {x2 : Int32} {x3 : Int32} {x5 : Int32} {s s' : mS} {v : Option Value}, rc 0 x1 x2 x3 x5 s = some (s', v) → Q v (mH h s') → zz_E zp_P zt_tf zt_fd X (d + 4) zm_334 22 [(0, .ref 61), (1, .int x1), (2, .int x2), (3, .int x3), (5, .int x5)] [] (mH h s) Q) {Q : Option Value → zz_H → Prop} {x1 : Int32} {x2 : Int32} {x3 : Int32} {x5 : Int32} {s s' : mS} {v : Option Value} (hf : mf_334_32 N rc x1 x2 x3 x5 s = some (s', v)) (k : Q v (mH h s')) : zz_E zp_P zt_tf zt_fd X (d + 4) zm_334 32 [(0, .ref 61), (1, .int x1), (2, .int x2), (3, .int x3), (5, .int x5)] [] (mH h s) Q := by
  unfold mf_334_32 at hf
  obtain ⟨s1, y, e, hf⟩ := mo_bi_ok hf
  exact mb_334_32 (d := d + 3) hh  (mr_294 (d := d + 3) hh e (mr_334_47 hh hrc0 hf k))
def mf_334_29 (N : Nat) (rc : Nat → Int32 → Int32 → Int32 → Int32 → mS → mO) (x1 : Int32) (x2 : Int32) (x3 : Int32) (x5 : Int32) (y0 : Int32) (y1 : Int32) (s : mS) : mO := if y1 ≤ y0 then mf_334_62 N x3 s else mf_334_32 N rc x1 x2 x3 x5 s
theorem mr_334_29 {X : Nat → Option zz_C} {h : zz_H} (hh : 111 ≤ h.length) {d : Nat} {N : Nat} {rc : Nat → Int32 → Int32 → Int32 → Int32 → mS → mO} (hrc0 : ∀ {Q : Option Value → zz_H → Prop} {x1 : Int32} {x2 : Int32} {x3 : Int32} {x5 : Int32} {s s' : mS} {v : Option Value}, rc 0 x1 x2 x3 x5 s = some (s', v) → Q v (mH h s') → zz_E zp_P zt_tf zt_fd X (d + 4) zm_334 22 [(0, .ref 61), (1, .int x1), (2, .int x2), (3, .int x3), (5, .int x5)] [] (mH h s) Q) {Q : Option Value → zz_H → Prop} {x1 : Int32} {x2 : Int32} {x3 : Int32} {x5 : Int32} {y0 : Int32} {y1 : Int32} {s s' : mS} {v : Option Value} (hf : mf_334_29 N rc x1 x2 x3 x5 y0 y1 s = some (s', v)) (k : Q v (mH h s')) : zz_E zp_P zt_tf zt_fd X (d + 4) zm_334 29 [(0, .ref 61), (1, .int x1), (2, .int x2), (3, .int x3), (5, .int x5)] [.int y1, .int y0] (mH h s) Q := by
  unfold mf_334_29 at hf
  refine mb_334_29 hh  (fun c => ?_) (fun c => ?_)
  · rw [if_pos c] at hf
    exact mr_334_62 hh hf k
  · rw [if_neg c] at hf
    exact mr_334_32 hh hrc0 hf k
def mf_334_22 (N : Nat) (rc : Nat → Int32 → Int32 → Int32 → Int32 → mS → mO) (x1 : Int32) (x2 : Int32) (x3 : Int32) (x5 : Int32) (s : mS) : mO := mo_bi (mf_77 N x2 s) (fun s1 y => mf_334_29 N rc x1 x2 x3 x5 x5 y s1)
theorem mr_334_22 {X : Nat → Option zz_C} {h : zz_H} (hh : 111 ≤ h.length) {d : Nat} {N : Nat} {rc : Nat → Int32 → Int32 → Int32 → Int32 → mS → mO} (hrc0 : ∀ {Q : Option Value → zz_H → Prop} {x1 : Int32} {x2 : Int32} {x3 : Int32} {x5 : Int32} {s s' : mS} {v : Option Value}, rc 0 x1 x2 x3 x5 s = some (s', v) → Q v (mH h s') → zz_E zp_P zt_tf zt_fd X (d + 4) zm_334 22 [(0, .ref 61), (1, .int x1), (2, .int x2), (3, .int x3), (5, .int x5)] [] (mH h s) Q) {Q : Option Value → zz_H → Prop} {x1 : Int32} {x2 : Int32} {x3 : Int32} {x5 : Int32} {s s' : mS} {v : Option Value} (hf : mf_334_22 N rc x1 x2 x3 x5 s = some (s', v)) (k : Q v (mH h s')) : zz_E zp_P zt_tf zt_fd X (d + 4) zm_334 22 [(0, .ref 61), (1, .int x1), (2, .int x2), (3, .int x3), (5, .int x5)] [] (mH h s) Q := by
  unfold mf_334_22 at hf
  obtain ⟨s1, y, e, hf⟩ := mo_bi_ok hf
  exact mb_334_22 (d := d + 3) hh  (mr_77 (d := d + 3) hh e (mr_334_29 hh hrc0 hf k))
def mf_334_L2 (N : Nat) : Nat → Nat → Int32 → Int32 → Int32 → Int32 → mS → mO
  | 0, _, _, _, _, _, _ => none
  | n + 1, l, x1, x2, x3, x5, s => if l = 0 then mf_334_22 N (mf_334_L2 N n) x1 x2 x3 x5 s else none
theorem mr_334_L2 {X : Nat → Option zz_C} {h : zz_H} (hh : 111 ≤ h.length) {d : Nat} {N : Nat} : ∀ n : Nat, (∀ {Q : Option Value → zz_H → Prop} {x1 : Int32} {x2 : Int32} {x3 : Int32} {x5 : Int32} {s s' : mS} {v : Option Value}, mf_334_L2 N n 0 x1 x2 x3 x5 s = some (s', v) → Q v (mH h s') → zz_E zp_P zt_tf zt_fd X (d + 4) zm_334 22 [(0, .ref 61), (1, .int x1), (2, .int x2), (3, .int x3), (5, .int x5)] [] (mH h s) Q) := by
  intro n
  induction n with
  | zero => exact (fun hf _ => by cases hf)
  | succ n ih =>
    have h0 := @ih
    intro Q _ _ _ _ s s' v hf k
    unfold mf_334_L2 at hf
    rw [if_pos rfl] at hf
    exact mr_334_22 hh h0 hf k
def mf_334_19 (N : Nat) (x1 : Int32) (x2 : Int32) (x3 : Int32) (s : mS) : mO := mf_334_L2 N N 0 x1 x2 x3 0 s
theorem mr_334_19 {X : Nat → Option zz_C} {h : zz_H} (hh : 111 ≤ h.length) {d : Nat} {N : Nat} {Q : Option Value → zz_H → Prop} {x1 : Int32} {x2 : Int32} {x3 : Int32} {s s' : mS} {v : Option Value} (hf : mf_334_19 N x1 x2 x3 s = some (s', v)) (k : Q v (mH h s')) : zz_E zp_P zt_tf zt_fd X (d + 4) zm_334 19 [(0, .ref 61), (1, .int x1), (2, .int x2), (3, .int x3)] [] (mH h s) Q := by
  unfold mf_334_19 at hf
  exact mb_334_19 hh  (mr_334_L2 hh N hf k)
def mf_334_18 (N : Nat)  (s : mS) : mO := some (s, none)
theorem mr_334_18 {X : Nat → Option zz_C} {h : zz_H} (hh : 111 ≤ h.length) {d : Nat} {N : Nat} {Q : Option Value → zz_H → Prop}  {s s' : mS} {v : Option Value} (hf : mf_334_18 N  s = some (s', v)) (k : Q v (mH h s')) : zz_E zp_P zt_tf zt_fd X (d + 4) zm_334 18 [] [] (mH h s) Q := by
  unfold mf_334_18 at hf
  cases hf
  exact mb_334_18 hh  k
def mf_334_12 (N : Nat) (x3 : Int32) (s : mS) : mO := mo_bv (mf_305 N 1 x3 s) (fun s1 => mf_334_18 N  s1)
theorem mr_334_12 {X : Nat → Option zz_C} {h : zz_H} (hh : 111 ≤ h.length) {d : Nat} {N : Nat} {Q : Option Value → zz_H → Prop} {x3 : Int32} {s s' : mS} {v : Option Value} (hf : mf_334_12 N x3 s = some (s', v)) (k : Q v (mH h s')) : zz_E zp_P zt_tf zt_fd X (d + 4) zm_334 12 [(0, .ref 61), (3, .int x3)] [] (mH h s) Q := by
  unfold mf_334_12 at hf
  obtain ⟨s1, e, hf⟩ := mo_bv_ok hf
  exact mb_334_12 (d := d + 3) hh  (mr_305 (d := d + 0) hh e (mr_334_18 hh hf k))
def mf_334_6 (N : Nat) (x1 : Int32) (x2 : Int32) (x3 : Int32) (s : mS) : mO := mo_bv (mf_332 N x1 x2 s) (fun s1 => mf_334_12 N x3 s1)
theorem mr_334_6 {X : Nat → Option zz_C} {h : zz_H} (hh : 111 ≤ h.length) {d : Nat} {N : Nat} {Q : Option Value → zz_H → Prop} {x1 : Int32} {x2 : Int32} {x3 : Int32} {s s' : mS} {v : Option Value} (hf : mf_334_6 N x1 x2 x3 s = some (s', v)) (k : Q v (mH h s')) : zz_E zp_P zt_tf zt_fd X (d + 4) zm_334 6 [(0, .ref 61), (1, .int x1), (2, .int x2), (3, .int x3)] [] (mH h s) Q := by
  unfold mf_334_6 at hf
  obtain ⟨s1, e, hf⟩ := mo_bv_ok hf
  exact mb_334_6 (d := d + 3) hh  (mr_332 (d := d + 2) hh e (mr_334_12 hh hf k))
def mf_334_0 (N : Nat) (x1 : Int32) (x2 : Int32) (x3 : Int32) (x4 : Int32) (s : mS) : mO := if ¬ x4 = 1 then mf_334_19 N x1 x2 x3 s else mf_334_6 N x1 x2 x3 s
theorem mr_334_0 {X : Nat → Option zz_C} {h : zz_H} (hh : 111 ≤ h.length) {d : Nat} {N : Nat} {Q : Option Value → zz_H → Prop} {x1 : Int32} {x2 : Int32} {x3 : Int32} {x4 : Int32} {s s' : mS} {v : Option Value} (hf : mf_334_0 N x1 x2 x3 x4 s = some (s', v)) (k : Q v (mH h s')) : zz_E zp_P zt_tf zt_fd X (d + 4) zm_334 0 [(0, .ref 61), (1, .int x1), (2, .int x2), (3, .int x3), (4, .int x4)] [] (mH h s) Q := by
  unfold mf_334_0 at hf
  refine mb_334_0 hh  (fun c => ?_) (fun c => ?_)
  · rw [if_pos c] at hf
    exact mr_334_19 hh hf k
  · rw [if_neg c] at hf
    exact mr_334_6 hh hf k
/-- eachRow -/
def mf_334 (N : Nat) (x1 : Int32) (x2 : Int32) (x3 : Int32) (x4 : Int32) (s : mS) : mO := mf_334_0 N x1 x2 x3 x4 s
theorem mr_334 {X : Nat → Option zz_C} {h : zz_H} (hh : 111 ≤ h.length) {d : Nat} {N : Nat} {Q : Option Value → zz_H → Prop} {x1 : Int32} {x2 : Int32} {x3 : Int32} {x4 : Int32} {s s' : mS} {v : Option Value} (hf : mf_334 N x1 x2 x3 x4 s = some (s', v)) (k : Q v (mH h s')) : zz_E zp_P zt_tf zt_fd X (d + 4) zm_334 0 [(0, .ref 61), (1, .int x1), (2, .int x2), (3, .int x3), (4, .int x4)] [] (mH h s) Q := by
  unfold mf_334 at hf
  exact zz_E.weak (mr_334_0 hh hf k) rfl ⟨rfl, rfl, rfl, rfl, rfl, trivial⟩
