/-! partAt (II)I -/
theorem mb_294_0 {X : Nat → Option zz_C} {h : zz_H} (hh : 111 ≤ h.length) {s : mS} {d : Nat} {Q : Option Value → zz_H → Prop} {x1 : Int32} {x2 : Int32} (i6 : ¬ (x1 < 0 ∨ 166300 ≤ Int32.toNatClampNeg x1)) (k1 : ¬ ((s.2.2.1 47) (Int32.toNatClampNeg x1)) = 2 → zz_E zp_P zt_tf zt_fd X d zm_294 24 [(0, .ref 61), (1, .int x1), (2, .int x2)] [.int x1] (mH h s) Q) (k2 : ¬ ¬ ((s.2.2.1 47) (Int32.toNatClampNeg x1)) = 2 → zz_E zp_P zt_tf zt_fd X d zm_294 11 [(0, .ref 61), (1, .int x1), (2, .int x2)] [.int x1] (mH h s) Q) : zz_E zp_P zt_tf zt_fd X d zm_294 0 [(0, .ref 61), (1, .int x1), (2, .int x2)] [] (mH h s) Q := by
  refine zz_E.n 1 rfl rfl rfl ?_
  refine zz_E.n 2 rfl rfl rfl ?_
  refine mE_g hh 5 (v := .ref 89) rfl rfl rfl ?_
  refine zz_E.n 6 rfl rfl rfl ?_
  refine mE_ia hh 7 28 (f := (s.2.2.1 47)) rfl (by decide) rfl rfl i6 rfl ?_
  refine zz_E.c 8 (.int 2) rfl rfl rfl rfl ?_
  refine zz_E.b2 24 11 (A := ¬ ((s.2.2.1 47) (Int32.toNatClampNeg x1)) = 2) rfl (zz_cond_ne _ _) (by decide) rfl rfl (fun c => ?_) (fun c => ?_)
  · exact zz_E.weak (k1 c) rfl ⟨rfl, rfl, rfl, trivial⟩
  · exact zz_E.weak (k2 c) rfl ⟨rfl, rfl, rfl, trivial⟩
theorem mb_294_11 {X : Nat → Option zz_C} {h : zz_H} (hh : 111 ≤ h.length) {s : mS} {d : Nat} {Q : Option Value → zz_H → Prop} {x1 : Int32} {x2 : Int32} {y0 : Int32} (i20 : ¬ (((x1 + 2) + x2) < 0 ∨ 166300 ≤ Int32.toNatClampNeg ((x1 + 2) + x2))) (k : zz_E zp_P zt_tf zt_fd X d zm_294 36 [] [.int ((s.2.2.1 47) (Int32.toNatClampNeg ((x1 + 2) + x2))), .int y0] (mH h s) Q) : zz_E zp_P zt_tf zt_fd X d zm_294 11 [(0, .ref 61), (1, .int x1), (2, .int x2)] [.int y0] (mH h s) Q := by
  refine zz_E.n 12 rfl rfl rfl ?_
  refine mE_g hh 15 (v := .ref 89) rfl rfl rfl ?_
  refine zz_E.n 16 rfl rfl rfl ?_
  refine zz_E.c 17 (.int 2) rfl rfl rfl rfl ?_
  refine zz_E.n 18 rfl rfl rfl ?_
  refine zz_E.n 19 rfl rfl rfl ?_
  refine zz_E.n 20 rfl rfl rfl ?_
  refine mE_ia hh 21 28 (f := (s.2.2.1 47)) rfl (by decide) rfl rfl i20 rfl ?_
  refine zz_E.n 36 rfl rfl rfl ?_
  exact zz_E.weak k rfl trivial
theorem mb_294_24 {X : Nat → Option zz_C} {h : zz_H} (hh : 111 ≤ h.length) {s : mS} {d : Nat} {Q : Option Value → zz_H → Prop} {x1 : Int32} {x2 : Int32} {y0 : Int32} (i35 : ¬ (((x1 + 3) + (2 * x2)) < 0 ∨ 166300 ≤ Int32.toNatClampNeg ((x1 + 3) + (2 * x2)))) (k : zz_E zp_P zt_tf zt_fd X d zm_294 36 [] [.int ((s.2.2.1 47) (Int32.toNatClampNeg ((x1 + 3) + (2 * x2)))), .int y0] (mH h s) Q) : zz_E zp_P zt_tf zt_fd X d zm_294 24 [(0, .ref 61), (1, .int x1), (2, .int x2)] [.int y0] (mH h s) Q := by
  refine zz_E.n 25 rfl rfl rfl ?_
  refine mE_g hh 28 (v := .ref 89) rfl rfl rfl ?_
  refine zz_E.n 29 rfl rfl rfl ?_
  refine zz_E.c 30 (.int 3) rfl rfl rfl rfl ?_
  refine zz_E.n 31 rfl rfl rfl ?_
  refine zz_E.c 32 (.int 2) rfl rfl rfl rfl ?_
  refine zz_E.n 33 rfl rfl rfl ?_
  refine zz_E.n 34 rfl rfl rfl ?_
  refine zz_E.n 35 rfl rfl rfl ?_
  refine mE_ia hh 36 28 (f := (s.2.2.1 47)) rfl (by decide) rfl rfl i35 rfl ?_
  exact zz_E.weak k rfl trivial
theorem mb_294_36 {X : Nat → Option zz_C} {h : zz_H} (hh : 111 ≤ h.length) {s : mS} {d : Nat} {Q : Option Value → zz_H → Prop} {y0 : Int32} {y1 : Int32} (k : Q (some (.int (y0 + y1))) (mH h s)) : zz_E zp_P zt_tf zt_fd X d zm_294 36 [] [.int y1, .int y0] (mH h s) Q := by
  refine zz_E.n 37 rfl rfl rfl ?_
  refine zz_E.ret rfl rfl rfl ?_
  exact k
def mf_294_36 (N : Nat) (y0 : Int32) (y1 : Int32) (s : mS) : mO := some (s, (some (.int (y0 + y1))))
theorem mr_294_36 {X : Nat → Option zz_C} {h : zz_H} (hh : 111 ≤ h.length) {d : Nat} {N : Nat} {Q : Option Value → zz_H → Prop} {y0 : Int32} {y1 : Int32} {s s' : mS} {v : Option Value} (hf : mf_294_36 N y0 y1 s = some (s', v)) (k : Q v (mH h s')) : zz_E zp_P zt_tf zt_fd X (d + 0) zm_294 36 [] [.int y1, .int y0] (mH h s) Q := by
  unfold mf_294_36 at hf
  cases hf
  exact mb_294_36 hh  k
def mf_294_24 (N : Nat) (x1 : Int32) (x2 : Int32) (y0 : Int32) (s : mS) : mO := if ¬ (((x1 + 3) + (2 * x2)) < 0 ∨ 166300 ≤ Int32.toNatClampNeg ((x1 + 3) + (2 * x2))) then (mf_294_36 N y0 ((s.2.2.1 47) (Int32.toNatClampNeg ((x1 + 3) + (2 * x2)))) s) else none
theorem mr_294_24 {X : Nat → Option zz_C} {h : zz_H} (hh : 111 ≤ h.length) {d : Nat} {N : Nat} {Q : Option Value → zz_H → Prop} {x1 : Int32} {x2 : Int32} {y0 : Int32} {s s' : mS} {v : Option Value} (hf : mf_294_24 N x1 x2 y0 s = some (s', v)) (k : Q v (mH h s')) : zz_E zp_P zt_tf zt_fd X (d + 0) zm_294 24 [(0, .ref 61), (1, .int x1), (2, .int x2)] [.int y0] (mH h s) Q := by
  unfold mf_294_24 at hf
  obtain ⟨q0, hf⟩ := mo_if hf
  exact mb_294_24 hh q0 (mr_294_36 hh hf k)
def mf_294_11 (N : Nat) (x1 : Int32) (x2 : Int32) (y0 : Int32) (s : mS) : mO := if ¬ (((x1 + 2) + x2) < 0 ∨ 166300 ≤ Int32.toNatClampNeg ((x1 + 2) + x2)) then (mf_294_36 N y0 ((s.2.2.1 47) (Int32.toNatClampNeg ((x1 + 2) + x2))) s) else none
theorem mr_294_11 {X : Nat → Option zz_C} {h : zz_H} (hh : 111 ≤ h.length) {d : Nat} {N : Nat} {Q : Option Value → zz_H → Prop} {x1 : Int32} {x2 : Int32} {y0 : Int32} {s s' : mS} {v : Option Value} (hf : mf_294_11 N x1 x2 y0 s = some (s', v)) (k : Q v (mH h s')) : zz_E zp_P zt_tf zt_fd X (d + 0) zm_294 11 [(0, .ref 61), (1, .int x1), (2, .int x2)] [.int y0] (mH h s) Q := by
  unfold mf_294_11 at hf
  obtain ⟨q0, hf⟩ := mo_if hf
  exact mb_294_11 hh q0 (mr_294_36 hh hf k)
def mf_294_0 (N : Nat) (x1 : Int32) (x2 : Int32) (s : mS) : mO := if ¬ (x1 < 0 ∨ 166300 ≤ Int32.toNatClampNeg x1) then (if ¬ ((s.2.2.1 47) (Int32.toNatClampNeg x1)) = 2 then mf_294_24 N x1 x2 x1 s else mf_294_11 N x1 x2 x1 s) else none
theorem mr_294_0 {X : Nat → Option zz_C} {h : zz_H} (hh : 111 ≤ h.length) {d : Nat} {N : Nat} {Q : Option Value → zz_H → Prop} {x1 : Int32} {x2 : Int32} {s s' : mS} {v : Option Value} (hf : mf_294_0 N x1 x2 s = some (s', v)) (k : Q v (mH h s')) : zz_E zp_P zt_tf zt_fd X (d + 0) zm_294 0 [(0, .ref 61), (1, .int x1), (2, .int x2)] [] (mH h s) Q := by
  unfold mf_294_0 at hf
  obtain ⟨q0, hf⟩ := mo_if hf
  refine mb_294_0 hh q0 (fun c => ?_) (fun c => ?_)
  · rw [if_pos c] at hf
    exact mr_294_24 hh hf k
  · rw [if_neg c] at hf
    exact mr_294_11 hh hf k
/-- partAt -/
def mf_294 (N : Nat) (x1 : Int32) (x2 : Int32) (s : mS) : mO := mf_294_0 N x1 x2 s
theorem mr_294 {X : Nat → Option zz_C} {h : zz_H} (hh : 111 ≤ h.length) {d : Nat} {N : Nat} {Q : Option Value → zz_H → Prop} {x1 : Int32} {x2 : Int32} {s s' : mS} {v : Option Value} (hf : mf_294 N x1 x2 s = some (s', v)) (k : Q v (mH h s')) : zz_E zp_P zt_tf zt_fd X (d + 0) zm_294 0 [(0, .ref 61), (1, .int x1), (2, .int x2)] [] (mH h s) Q := by
  unfold mf_294 at hf
  exact zz_E.weak (mr_294_0 hh hf k) rfl ⟨rfl, rfl, rfl, trivial⟩
/-! goesIn (II)V -/
theorem mb_296_0 {X : Nat → Option zz_C} {h : zz_H} (hh : 111 ≤ h.length) {s : mS} {d : Nat} {Q : Option Value → zz_H → Prop} {x1 : Int32} {x2 : Int32} (i9 : ¬ ((s.1 55) < 0 ∨ 8 ≤ Int32.toNatClampNeg (s.1 55))) (i19 : ¬ ((s.1 55) < 0 ∨ 8 ≤ Int32.toNatClampNeg (s.1 55))) (i29 : ¬ ((s.1 55) < 0 ∨ 8 ≤ Int32.toNatClampNeg (s.1 55))) (k : Q none (mH h (mI (mA (mA (mA s 52 (upd (s.2.2.1 52) (Int32.toNatClampNeg (s.1 55)) x1)) 53 (upd (s.2.2.1 53) (Int32.toNatClampNeg (s.1 55)) x2)) 54 (upd (s.2.2.1 54) (Int32.toNatClampNeg (s.1 55)) 0)) 55 ((s.1 55) + 1)))) : zz_E zp_P zt_tf zt_fd X d zm_296 0 [(0, .ref 61), (1, .int x1), (2, .int x2)] [] (mH h s) Q := by
  refine zz_E.n 1 rfl rfl rfl ?_
  refine mE_g hh 4 (v := .ref 92) rfl rfl rfl ?_
  refine zz_E.n 5 rfl rfl rfl ?_
  refine mE_g hh 8 (v := .int (s.1 55)) rfl rfl rfl ?_
  refine zz_E.n 9 rfl rfl rfl ?_
  refine mE_is hh 10 31 (f := (s.2.2.1 52)) rfl (by decide) rfl rfl i9 (mA_92 _ _) rfl ?_
  refine zz_E.n 11 rfl rfl rfl ?_
  refine mE_g hh 14 (v := .ref 93) rfl rfl rfl ?_
  refine zz_E.n 15 rfl rfl rfl ?_
  refine mE_g hh 18 (v := .int (s.1 55)) rfl rfl rfl ?_
  refine zz_E.n 19 rfl rfl rfl ?_
  refine mE_is hh 20 32 (f := (s.2.2.1 53)) rfl (by decide) rfl rfl i19 (mA_93 _ _) rfl ?_
  refine zz_E.n 21 rfl rfl rfl ?_
  refine mE_g hh 24 (v := .ref 94) rfl rfl rfl ?_
  refine zz_E.n 25 rfl rfl rfl ?_
  refine mE_g hh 28 (v := .int (s.1 55)) rfl rfl rfl ?_
  refine zz_E.c 29 (.int 0) rfl rfl rfl rfl ?_
  refine mE_is hh 30 33 (f := (s.2.2.1 54)) rfl (by decide) rfl rfl i29 (mA_94 _ _) rfl ?_
  refine zz_E.n 31 rfl rfl rfl ?_
  refine zz_E.n 32 rfl rfl rfl ?_
  refine mE_g hh 35 (v := .int (s.1 55)) rfl rfl rfl ?_
  refine zz_E.c 36 (.int 1) rfl rfl rfl rfl ?_
  refine zz_E.n 37 rfl rfl rfl ?_
  refine mE_p hh 40 rfl (by decide) rfl (mF_55 _ _) rfl ?_
  refine zz_E.ret rfl rfl rfl ?_
  exact k
def mf_296_0 (N : Nat) (x1 : Int32) (x2 : Int32) (s : mS) : mO := if ¬ ((s.1 55) < 0 ∨ 8 ≤ Int32.toNatClampNeg (s.1 55)) then (if ¬ ((s.1 55) < 0 ∨ 8 ≤ Int32.toNatClampNeg (s.1 55)) then (if ¬ ((s.1 55) < 0 ∨ 8 ≤ Int32.toNatClampNeg (s.1 55)) then (some ((mI (mA (mA (mA s 52 (upd (s.2.2.1 52) (Int32.toNatClampNeg (s.1 55)) x1)) 53 (upd (s.2.2.1 53) (Int32.toNatClampNeg (s.1 55)) x2)) 54 (upd (s.2.2.1 54) (Int32.toNatClampNeg (s.1 55)) 0)) 55 ((s.1 55) + 1)), none)) else none) else none) else none
theorem mr_296_0 {X : Nat → Option zz_C} {h : zz_H} (hh : 111 ≤ h.length) {d : Nat} {N : Nat} {Q : Option Value → zz_H → Prop} {x1 : Int32} {x2 : Int32} {s s' : mS} {v : Option Value} (hf : mf_296_0 N x1 x2 s = some (s', v)) (k : Q v (mH h s')) : zz_E zp_P zt_tf zt_fd X (d + 0) zm_296 0 [(0, .ref 61), (1, .int x1), (2, .int x2)] [] (mH h s) Q := by
  unfold mf_296_0 at hf
  obtain ⟨q0, hf⟩ := mo_if hf
  obtain ⟨q1, hf⟩ := mo_if hf
  obtain ⟨q2, hf⟩ := mo_if hf
  cases hf
  exact mb_296_0 hh q0 q1 q2 k
/-- goesIn -/
def mf_296 (N : Nat) (x1 : Int32) (x2 : Int32) (s : mS) : mO := mf_296_0 N x1 x2 s
theorem mr_296 {X : Nat → Option zz_C} {h : zz_H} (hh : 111 ≤ h.length) {d : Nat} {N : Nat} {Q : Option Value → zz_H → Prop} {x1 : Int32} {x2 : Int32} {s s' : mS} {v : Option Value} (hf : mf_296 N x1 x2 s = some (s', v)) (k : Q v (mH h s')) : zz_E zp_P zt_tf zt_fd X (d + 0) zm_296 0 [(0, .ref 61), (1, .int x1), (2, .int x2)] [] (mH h s) Q := by
  unfold mf_296 at hf
  exact zz_E.weak (mr_296_0 hh hf k) rfl ⟨rfl, rfl, rfl, trivial⟩
/-! sizeAt (I)I -/
theorem mb_77_0 {X : Nat → Option zz_C} {h : zz_H} (hh : 111 ≤ h.length) {s : mS} {d : Nat} {Q : Option Value → zz_H → Prop} {x1 : Int32} (i7 : ¬ ((x1 + 1) < 0 ∨ 166300 ≤ Int32.toNatClampNeg (x1 + 1))) (k : Q (some (.int ((s.2.2.1 47) (Int32.toNatClampNeg (x1 + 1))))) (mH h s)) : zz_E zp_P zt_tf zt_fd X d zm_77 0 [(0, .ref 61), (1, .int x1)] [] (mH h s) Q := by
  refine zz_E.n 1 rfl rfl rfl ?_
  refine mE_g hh 4 (v := .ref 89) rfl rfl rfl ?_
  refine zz_E.n 5 rfl rfl rfl ?_
  refine zz_E.c 6 (.int 1) rfl rfl rfl rfl ?_
  refine zz_E.n 7 rfl rfl rfl ?_
  refine mE_ia hh 8 28 (f := (s.2.2.1 47)) rfl (by decide) rfl rfl i7 rfl ?_
  refine zz_E.ret rfl rfl rfl ?_
  exact k
def mf_77_0 (N : Nat) (x1 : Int32) (s : mS) : mO := if ¬ ((x1 + 1) < 0 ∨ 166300 ≤ Int32.toNatClampNeg (x1 + 1)) then (some (s, (some (.int ((s.2.2.1 47) (Int32.toNatClampNeg (x1 + 1))))))) else none
theorem mr_77_0 {X : Nat → Option zz_C} {h : zz_H} (hh : 111 ≤ h.length) {d : Nat} {N : Nat} {Q : Option Value → zz_H → Prop} {x1 : Int32} {s s' : mS} {v : Option Value} (hf : mf_77_0 N x1 s = some (s', v)) (k : Q v (mH h s')) : zz_E zp_P zt_tf zt_fd X (d + 0) zm_77 0 [(0, .ref 61), (1, .int x1)] [] (mH h s) Q := by
  unfold mf_77_0 at hf
  obtain ⟨q0, hf⟩ := mo_if hf
  cases hf
  exact mb_77_0 hh q0 k
/-- sizeAt -/
def mf_77 (N : Nat) (x1 : Int32) (s : mS) : mO := mf_77_0 N x1 s
theorem mr_77 {X : Nat → Option zz_C} {h : zz_H} (hh : 111 ≤ h.length) {d : Nat} {N : Nat} {Q : Option Value → zz_H → Prop} {x1 : Int32} {s s' : mS} {v : Option Value} (hf : mf_77 N x1 s = some (s', v)) (k : Q v (mH h s')) : zz_E zp_P zt_tf zt_fd X (d + 0) zm_77 0 [(0, .ref 61), (1, .int x1)] [] (mH h s) Q := by
  unfold mf_77 at hf
  exact zz_E.weak (mr_77_0 hh hf k) rfl ⟨rfl, rfl, trivial⟩
/-! formOfRow (I)V -/
theorem mb_350_0 {X : Nat → Option zz_C} {h : zz_H} (hh : 111 ≤ h.length) {s : mS} {d : Nat} {Q : Option Value → zz_H → Prop} {x1 : Int32} (k : zz_E zp_P zt_tf zt_fd X d zm_348 0 [(0, .ref 61), (1, .int 91)] [] (mH h s) (fun v h' => zz_E zp_P zt_tf zt_fd X (d + 1) zm_350 6 [(0, .ref 61), (1, .int x1)] (v.toList ++ []) h' Q)) : zz_E zp_P zt_tf zt_fd X (d + 1) zm_350 0 [(0, .ref 61), (1, .int x1)] [] (mH h s) Q := by
  refine zz_E.n 1 rfl rfl rfl ?_
  refine zz_E.c 3 (.int 91) rfl rfl rfl rfl ?_
  refine mE_cv hh 6 (as := []) rfl rfl (Nat.le_of_ble_eq_true rfl) (Nat.le_of_ble_eq_true rfl) rfl (Nat.le_of_ble_eq_true rfl) rfl ?_
  refine zz_E.mono k ?_
  intro v h' hE
  exact zz_E.weak hE rfl ⟨rfl, rfl, trivial⟩
theorem mb_350_6 {X : Nat → Option zz_C} {h : zz_H} (hh : 111 ≤ h.length) {s : mS} {d : Nat} {Q : Option Value → zz_H → Prop} {x1 : Int32} (k : zz_E zp_P zt_tf zt_fd X d zm_350 8 [(0, .ref 61), (1, .int x1), (2, .int 0)] [] (mH h s) Q) : zz_E zp_P zt_tf zt_fd X d zm_350 6 [(0, .ref 61), (1, .int x1)] [] (mH h s) Q := by
  refine zz_E.c 7 (.int 0) rfl rfl rfl rfl ?_
  refine zz_E.n 8 rfl rfl rfl ?_
  exact zz_E.weak k rfl ⟨rfl, rfl, rfl, trivial⟩
theorem mb_350_8 {X : Nat → Option zz_C} {h : zz_H} (hh : 111 ≤ h.length) {s : mS} {d : Nat} {Q : Option Value → zz_H → Prop} {x1 : Int32} {x2 : Int32} (k : zz_E zp_P zt_tf zt_fd X d zm_77 0 [(0, .ref 61), (1, .int x1)] [] (mH h s) (fun v h' => zz_E zp_P zt_tf zt_fd X (d + 1) zm_350 14 [(0, .ref 61), (1, .int x1), (2, .int x2)] (v.toList ++ [.int x2]) h' Q)) : zz_E zp_P zt_tf zt_fd X (d + 1) zm_350 8 [(0, .ref 61), (1, .int x1), (2, .int x2)] [] (mH h s) Q := by
  refine zz_E.n 9 rfl rfl rfl ?_
  refine zz_E.n 10 rfl rfl rfl ?_
  refine zz_E.n 11 rfl rfl rfl ?_
  refine mE_cv hh 14 (as := [.int x2]) rfl rfl (Nat.le_of_ble_eq_true rfl) (Nat.le_of_ble_eq_true rfl) rfl (Nat.le_of_ble_eq_true rfl) rfl ?_
  refine zz_E.mono k ?_
  intro v h' hE
  exact zz_E.weak hE rfl ⟨rfl, rfl, rfl, trivial⟩
theorem mb_350_14 {X : Nat → Option zz_C} {h : zz_H} (hh : 111 ≤ h.length) {s : mS} {d : Nat} {Q : Option Value → zz_H → Prop} {x1 : Int32} {x2 : Int32} {y0 : Int32} {y1 : Int32} (k1 : y1 ≤ y0 → zz_E zp_P zt_tf zt_fd X d zm_350 47 [(0, .ref 61)] [] (mH h s) Q) (k2 : ¬ y1 ≤ y0 → zz_E zp_P zt_tf zt_fd X d zm_350 17 [(0, .ref 61), (1, .int x1), (2, .int x2)] [] (mH h s) Q) : zz_E zp_P zt_tf zt_fd X d zm_350 14 [(0, .ref 61), (1, .int x1), (2, .int x2)] [.int y1, .int y0] (mH h s) Q := by
  refine zz_E.b2 47 17 (A := y1 ≤ y0) rfl rfl (by decide) rfl rfl (fun c => ?_) (fun c => ?_)
  · exact zz_E.weak (k1 c) rfl ⟨rfl, trivial⟩
  · exact zz_E.weak (k2 c) rfl ⟨rfl, rfl, rfl, trivial⟩
theorem mb_350_17 {X : Nat → Option zz_C} {h : zz_H} (hh : 111 ≤ h.length) {s : mS} {d : Nat} {Q : Option Value → zz_H → Prop} {x1 : Int32} {x2 : Int32} (k1 : x2 ≤ 0 → zz_E zp_P zt_tf zt_fd X d zm_350 27 [(0, .ref 61), (1, .int x1), (2, .int x2)] [] (mH h s) Q) (k2 : ¬ x2 ≤ 0 → zz_E zp_P zt_tf zt_fd X d zm_350 21 [(0, .ref 61), (1, .int x1), (2, .int x2)] [] (mH h s) Q) : zz_E zp_P zt_tf zt_fd X d zm_350 17 [(0, .ref 61), (1, .int x1), (2, .int x2)] [] (mH h s) Q := by
  refine zz_E.n 18 rfl rfl rfl ?_
  refine zz_E.b1 27 21 (A := x2 ≤ 0) rfl rfl (by decide) rfl rfl (fun c => ?_) (fun c => ?_)
  · exact zz_E.weak (k1 c) rfl ⟨rfl, rfl, rfl, trivial⟩
  · exact zz_E.weak (k2 c) rfl ⟨rfl, rfl, rfl, trivial⟩
theorem mb_350_21 {X : Nat → Option zz_C} {h : zz_H} (hh : 111 ≤ h.length) {s : mS} {d : Nat} {Q : Option Value → zz_H → Prop} {x1 : Int32} {x2 : Int32} (k : zz_E zp_P zt_tf zt_fd X d zm_348 0 [(0, .ref 61), (1, .int 32)] [] (mH h s) (fun v h' => zz_E zp_P zt_tf zt_fd X (d + 1) zm_350 27 [(0, .ref 61), (1, .int x1), (2, .int x2)] (v.toList ++ []) h' Q)) : zz_E zp_P zt_tf zt_fd X (d + 1) zm_350 21 [(0, .ref 61), (1, .int x1), (2, .int x2)] [] (mH h s) Q := by
  refine zz_E.n 22 rfl rfl rfl ?_
  refine zz_E.c 24 (.int 32) rfl rfl rfl rfl ?_
  refine mE_cv hh 27 (as := []) rfl rfl (Nat.le_of_ble_eq_true rfl) (Nat.le_of_ble_eq_true rfl) rfl (Nat.le_of_ble_eq_true rfl) rfl ?_
  refine zz_E.mono k ?_
  intro v h' hE
  exact zz_E.weak hE rfl ⟨rfl, rfl, rfl, trivial⟩
theorem mb_350_27 {X : Nat → Option zz_C} {h : zz_H} (hh : 111 ≤ h.length) {s : mS} {d : Nat} {Q : Option Value → zz_H → Prop} {x1 : Int32} {x2 : Int32} (i37 : ¬ (((x1 + 2) + x2) < 0 ∨ 166300 ≤ Int32.toNatClampNeg ((x1 + 2) + x2))) (k : zz_E zp_P zt_tf zt_fd X d zm_349 0 [(0, .ref 61), (1, .int ((s.2.2.1 47) (Int32.toNatClampNeg ((x1 + 2) + x2))))] [] (mH h s) (fun v h' => zz_E zp_P zt_tf zt_fd X (d + 1) zm_350 41 [(0, .ref 61), (1, .int x1), (2, .int x2)] (v.toList ++ []) h' Q)) : zz_E zp_P zt_tf zt_fd X (d + 1) zm_350 27 [(0, .ref 61), (1, .int x1), (2, .int x2)] [] (mH h s) Q := by
  refine zz_E.n 28 rfl rfl rfl ?_
  refine zz_E.n 29 rfl rfl rfl ?_
  refine mE_g hh 32 (v := .ref 89) rfl rfl rfl ?_
  refine zz_E.n 33 rfl rfl rfl ?_
  refine zz_E.c 34 (.int 2) rfl rfl rfl rfl ?_
  refine zz_E.n 35 rfl rfl rfl ?_
  refine zz_E.n 36 rfl rfl rfl ?_
  refine zz_E.n 37 rfl rfl rfl ?_
  refine mE_ia hh 38 28 (f := (s.2.2.1 47)) rfl (by decide) rfl rfl i37 rfl ?_
  refine mE_cv hh 41 (as := []) rfl rfl (Nat.le_of_ble_eq_true rfl) (Nat.le_of_ble_eq_true rfl) rfl (Nat.le_of_ble_eq_true rfl) rfl ?_
  refine zz_E.mono k ?_
  intro v h' hE
  exact zz_E.weak hE rfl ⟨rfl, rfl, rfl, trivial⟩
theorem mb_350_41 {X : Nat → Option zz_C} {h : zz_H} (hh : 111 ≤ h.length) {s : mS} {d : Nat} {Q : Option Value → zz_H → Prop} {x1 : Int32} {x2 : Int32} (k : zz_E zp_P zt_tf zt_fd X d zm_350 8 [(0, .ref 61), (1, .int x1), (2, .int (x2 + 1))] [] (mH h s) Q) : zz_E zp_P zt_tf zt_fd X d zm_350 41 [(0, .ref 61), (1, .int x1), (2, .int x2)] [] (mH h s) Q := by
  refine zz_E.n 44 rfl rfl rfl ?_
  refine zz_E.n 8 rfl rfl rfl ?_
  exact zz_E.weak k rfl ⟨rfl, rfl, rfl, trivial⟩
theorem mb_350_47 {X : Nat → Option zz_C} {h : zz_H} (hh : 111 ≤ h.length) {s : mS} {d : Nat} {Q : Option Value → zz_H → Prop}  (k : zz_E zp_P zt_tf zt_fd X d zm_348 0 [(0, .ref 61), (1, .int 93)] [] (mH h s) (fun v h' => zz_E zp_P zt_tf zt_fd X (d + 1) zm_350 53 [] (v.toList ++ []) h' Q)) : zz_E zp_P zt_tf zt_fd X (d + 1) zm_350 47 [(0, .ref 61)] [] (mH h s) Q := by
  refine zz_E.n 48 rfl rfl rfl ?_
  refine zz_E.c 50 (.int 93) rfl rfl rfl rfl ?_
  refine mE_cv hh 53 (as := []) rfl rfl (Nat.le_of_ble_eq_true rfl) (Nat.le_of_ble_eq_true rfl) rfl (Nat.le_of_ble_eq_true rfl) rfl ?_
  refine zz_E.mono k ?_
  intro v h' hE
  exact zz_E.weak hE rfl trivial
theorem mb_350_53 {X : Nat → Option zz_C} {h : zz_H} (hh : 111 ≤ h.length) {s : mS} {d : Nat} {Q : Option Value → zz_H → Prop}  (k : Q none (mH h s)) : zz_E zp_P zt_tf zt_fd X d zm_350 53 [] [] (mH h s) Q := by
  refine zz_E.ret rfl rfl rfl ?_
  exact k
def mf_350_53 (N : Nat)  (s : mS) : mO := some (s, none)
theorem mr_350_53 {X : Nat → Option zz_C} {h : zz_H} (hh : 111 ≤ h.length) {d : Nat} {N : Nat} {Q : Option Value → zz_H → Prop}  {s s' : mS} {v : Option Value} (hf : mf_350_53 N  s = some (s', v)) (k : Q v (mH h s')) : zz_E zp_P zt_tf zt_fd X (d + 2) zm_350 53 [] [] (mH h s) Q := by
  unfold mf_350_53 at hf
  cases hf
  exact mb_350_53 hh  k
def mf_350_47 (N : Nat)  (s : mS) : mO := mo_bv (mf_348 N 93 s) (fun s1 => mf_350_53 N  s1)
theorem mr_350_47 {X : Nat → Option zz_C} {h : zz_H} (hh : 111 ≤ h.length) {d : Nat} {N : Nat} {Q : Option Value → zz_H → Prop}  {s s' : mS} {v : Option Value} (hf : mf_350_47 N  s = some (s', v)) (k : Q v (mH h s')) : zz_E zp_P zt_tf zt_fd X (d + 2) zm_350 47 [(0, .ref 61)] [] (mH h s) Q := by
  unfold mf_350_47 at hf
  obtain ⟨s1, e, hf⟩ := mo_bv_ok hf
  exact mb_350_47 (d := d + 1) hh  (mr_348 (d := d + 1) hh e (mr_350_53 hh hf k))
def mf_350_41 (N : Nat) (rc : Nat → Int32 → Int32 → mS → mO) (x1 : Int32) (x2 : Int32) (s : mS) : mO := rc 0 x1 (x2 + 1) s
theorem mr_350_41 {X : Nat → Option zz_C} {h : zz_H} (hh : 111 ≤ h.length) {d : Nat} {N : Nat} {rc : Nat → Int32 → Int32 → mS → mO} (hrc0 : ∀ {Q : Option Value → zz_H → Prop} {x1 : Int32} {x2 : Int32} {s s' : mS} {v : Option Value}, rc 0 x1 x2 s = some (s', v) → Q v (mH h s') → zz_E zp_P zt_tf zt_fd X (d + 2) zm_350 8 [(0, .ref 61), (1, .int x1), (2, .int x2)] [] (mH h s) Q) {Q : Option Value → zz_H → Prop} {x1 : Int32} {x2 : Int32} {s s' : mS} {v : Option Value} (hf : mf_350_41 N rc x1 x2 s = some (s', v)) (k : Q v (mH h s')) : zz_E zp_P zt_tf zt_fd X (d + 2) zm_350 41 [(0, .ref 61), (1, .int x1), (2, .int x2)] [] (mH h s) Q := by
  unfold mf_350_41 at hf
  exact mb_350_41 hh  (hrc0 hf k)
def mf_350_27 (N : Nat) (rc : Nat → Int32 → Int32 → mS → mO) (x1 : Int32) (x2 : Int32) (s : mS) : mO := if ¬ (((x1 + 2) + x2) < 0 ∨ 166300 ≤ Int32.toNatClampNeg ((x1 + 2) + x2)) then (mo_bv (mf_349 N ((s.2.2.1 47) (Int32.toNatClampNeg ((x1 + 2) + x2))) s) (fun s1 => mf_350_41 N rc x1 x2 s1)) else none
theorem mr_350_27 {X : Nat → Option zz_C} {h : zz_H} (hh : 111 ≤ h.length) {d : Nat} {N : Nat} {rc : Nat → Int32 → Int32 → mS → mO} (hrc0 : ∀ {Q : Option Value → zz_H → Prop} {x1 : Int32} {x2 : Int32} {s s' : mS} {v : Option Value}, rc 0 x1 x2 s = some (s', v) → Q v (mH h s') → zz_E zp_P zt_tf zt_fd X (d + 2) zm_350 8 [(0, .ref 61), (1, .int x1), (2, .int x2)] [] (mH h s) Q) {Q : Option Value → zz_H → Prop} {x1 : Int32} {x2 : Int32} {s s' : mS} {v : Option Value} (hf : mf_350_27 N rc x1 x2 s = some (s', v)) (k : Q v (mH h s')) : zz_E zp_P zt_tf zt_fd X (d + 2) zm_350 27 [(0, .ref 61), (1, .int x1), (2, .int x2)] [] (mH h s) Q := by
  unfold mf_350_27 at hf
  obtain ⟨q0, hf⟩ := mo_if hf
  obtain ⟨s1, e, hf⟩ := mo_bv_ok hf
  exact mb_350_27 (d := d + 1) hh q0 (mr_349 (d := d + 0) hh e (mr_350_41 hh hrc0 hf k))
def mf_350_21 (N : Nat) (rc : Nat → Int32 → Int32 → mS → mO) (x1 : Int32) (x2 : Int32) (s : mS) : mO := mo_bv (mf_348 N 32 s) (fun s1 => mf_350_27 N rc x1 x2 s1)
theorem mr_350_21 {X : Nat → Option zz_C} {h : zz_H} (hh : 111 ≤ h.length) {d : Nat} {N : Nat} {rc : Nat → Int32 → Int32 → mS → mO} (hrc0 : ∀ {Q : Option Value → zz_H → Prop} {x1 : Int32} {x2 : Int32} {s s' : mS} {v : Option Value}, rc 0 x1 x2 s = some (s', v) → Q v (mH h s') → zz_E zp_P zt_tf zt_fd X (d + 2) zm_350 8 [(0, .ref 61), (1, .int x1), (2, .int x2)] [] (mH h s) Q) {Q : Option Value → zz_H → Prop} {x1 : Int32} {x2 : Int32} {s s' : mS} {v : Option Value} (hf : mf_350_21 N rc x1 x2 s = some (s', v)) (k : Q v (mH h s')) : zz_E zp_P zt_tf zt_fd X (d + 2) zm_350 21 [(0, .ref 61), (1, .int x1), (2, .int x2)] [] (mH h s) Q := by
  unfold mf_350_21 at hf
  obtain ⟨s1, e, hf⟩ := mo_bv_ok hf
  exact mb_350_21 (d := d + 1) hh  (mr_348 (d := d + 1) hh e (mr_350_27 hh hrc0 hf k))
def mf_350_17 (N : Nat) (rc : Nat → Int32 → Int32 → mS → mO) (x1 : Int32) (x2 : Int32) (s : mS) : mO := if x2 ≤ 0 then mf_350_27 N rc x1 x2 s else mf_350_21 N rc x1 x2 s
theorem mr_350_17 {X : Nat → Option zz_C} {h : zz_H} (hh : 111 ≤ h.length) {d : Nat} {N : Nat} {rc : Nat → Int32 → Int32 → mS → mO} (hrc0 : ∀ {Q : Option Value → zz_H → Prop} {x1 : Int32} {x2 : Int32} {s s' : mS} {v : Option Value}, rc 0 x1 x2 s = some (s', v) → Q v (mH h s') → zz_E zp_P zt_tf zt_fd X (d + 2) zm_350 8 [(0, .ref 61), (1, .int x1), (2, .int x2)] [] (mH h s) Q) {Q : Option Value → zz_H → Prop} {x1 : Int32} {x2 : Int32} {s s' : mS} {v : Option Value} (hf : mf_350_17 N rc x1 x2 s = some (s', v)) (k : Q v (mH h s')) : zz_E zp_P zt_tf zt_fd X (d + 2) zm_350 17 [(0, .ref 61), (1, .int x1), (2, .int x2)] [] (mH h s) Q := by
  unfold mf_350_17 at hf
  refine mb_350_17 hh  (fun c => ?_) (fun c => ?_)
  · rw [if_pos c] at hf
    exact mr_350_27 hh hrc0 hf k
  · rw [if_neg c] at hf
    exact mr_350_21 hh hrc0 hf k
def mf_350_14 (N : Nat) (rc : Nat → Int32 → Int32 → mS → mO) (x1 : Int32) (x2 : Int32) (y0 : Int32) (y1 : Int32) (s : mS) : mO := if y1 ≤ y0 then mf_350_47 N  s else mf_350_17 N rc x1 x2 s
theorem mr_350_14 {X : Nat → Option zz_C} {h : zz_H} (hh : 111 ≤ h.length) {d : Nat} {N : Nat} {rc : Nat → Int32 → Int32 → mS → mO} (hrc0 : ∀ {Q : Option Value → zz_H → Prop} {x1 : Int32} {x2 : Int32} {s s' : mS} {v : Option Value}, rc 0 x1 x2 s = some (s', v) → Q v (mH h s') → zz_E zp_P zt_tf zt_fd X (d + 2) zm_350 8 [(0, .ref 61), (1, .int x1), (2, .int x2)] [] (mH h s) Q) {Q : Option Value → zz_H → Prop} {x1 : Int32} {x2 : Int32} {y0 : Int32} {y1 : Int32} {s s' : mS} {v : Option Value} (hf : mf_350_14 N rc x1 x2 y0 y1 s = some (s', v)) (k : Q v (mH h s')) : zz_E zp_P zt_tf zt_fd X (d + 2) zm_350 14 [(0, .ref 61), (1, .int x1), (2, .int x2)] [.int y1, .int y0] (mH h s) Q := by
  unfold mf_350_14 at hf
  refine mb_350_14 hh  (fun c => ?_) (fun c => ?_)
  · rw [if_pos c] at hf
    exact mr_350_47 hh hf k
  · rw [if_neg c] at hf
    exact mr_350_17 hh hrc0 hf k
def mf_350_8 (N : Nat) (rc : Nat → Int32 → Int32 → mS → mO) (x1 : Int32) (x2 : Int32) (s : mS) : mO := mo_bi (mf_77 N x1 s) (fun s1 y => mf_350_14 N rc x1 x2 x2 y s1)
theorem mr_350_8 {X : Nat → Option zz_C} {h : zz_H} (hh : 111 ≤ h.length) {d : Nat} {N : Nat} {rc : Nat → Int32 → Int32 → mS → mO} (hrc0 : ∀ {Q : Option Value → zz_H → Prop} {x1 : Int32} {x2 : Int32} {s s' : mS} {v : Option Value}, rc 0 x1 x2 s = some (s', v) → Q v (mH h s') → zz_E zp_P zt_tf zt_fd X (d + 2) zm_350 8 [(0, .ref 61), (1, .int x1), (2, .int x2)] [] (mH h s) Q) {Q : Option Value → zz_H → Prop} {x1 : Int32} {x2 : Int32} {s s' : mS} {v : Option Value} (hf : mf_350_8 N rc x1 x2 s = some (s', v)) (k : Q v (mH h s')) : zz_E zp_P zt_tf zt_fd X (d + 2) zm_350 8 [(0, .ref 61), (1, .int x1), (2, .int x2)] [] (mH h s) Q := by
  unfold mf_350_8 at hf
  obtain ⟨s1, y, e, hf⟩ := mo_bi_ok hf
  exact mb_350_8 (d := d + 1) hh  (mr_77 (d := d + 1) hh e (mr_350_14 hh hrc0 hf k))
def mf_350_L2 (N : Nat) : Nat → Nat → Int32 → Int32 → mS → mO
  | 0, _, _, _, _ => none
  | n + 1, l, x1, x2, s => if l = 0 then mf_350_8 N (mf_350_L2 N n) x1 x2 s else none
theorem mr_350_L2 {X : Nat → Option zz_C} {h : zz_H} (hh : 111 ≤ h.length) {d : Nat} {N : Nat} : ∀ n : Nat, (∀ {Q : Option Value → zz_H → Prop} {x1 : Int32} {x2 : Int32} {s s' : mS} {v : Option Value}, mf_350_L2 N n 0 x1 x2 s = some (s', v) → Q v (mH h s') → zz_E zp_P zt_tf zt_fd X (d + 2) zm_350 8 [(0, .ref 61), (1, .int x1), (2, .int x2)] [] (mH h s) Q) := by
  intro n
  induction n with
  | zero => exact (fun hf _ => by cases hf)
  | succ n ih =>
    have h0 := @ih
    intro Q _ _ s s' v hf k
    unfold mf_350_L2 at hf
    rw [if_pos rfl] at hf
    exact mr_350_8 hh h0 hf k
def mf_350_6 (N : Nat) (x1 : Int32) (s : mS) : mO := mf_350_L2 N N 0 x1 0 s
theorem mr_350_6 {X : Nat → Option zz_C} {h : zz_H} (hh : 111 ≤ h.length) {d : Nat} {N : Nat} {Q : Option Value → zz_H → Prop} {x1 : Int32} {s s' : mS} {v : Option Value} (hf : mf_350_6 N x1 s = some (s', v)) (k : Q v (mH h s')) : zz_E zp_P zt_tf zt_fd X (d + 2) zm_350 6 [(0, .ref 61), (1, .int x1)] [] (mH h s) Q := by
  unfold mf_350_6 at hf
  exact mb_350_6 hh  (mr_350_L2 hh N hf k)
def mf_350_0 (N : Nat) (x1 : Int32) (s : mS) : mO := mo_bv (mf_348 N 91 s) (fun s1 => mf_350_6 N x1 s1)
theorem mr_350_0 {X : Nat → Option zz_C} {h : zz_H} (hh : 111 ≤ h.length) {d : Nat} {N : Nat} {Q : Option Value → zz_H → Prop} {x1 : Int32} {s s' : mS} {v : Option Value} (hf : mf_350_0 N x1 s = some (s', v)) (k : Q v (mH h s')) : zz_E zp_P zt_tf zt_fd X (d + 2) zm_350 0 [(0, .ref 61), (1, .int x1)] [] (mH h s) Q := by
  unfold mf_350_0 at hf
  obtain ⟨s1, e, hf⟩ := mo_bv_ok hf
  exact mb_350_0 (d := d + 1) hh  (mr_348 (d := d + 1) hh e (mr_350_6 hh hf k))
/-- formOfRow -/
def mf_350 (N : Nat) (x1 : Int32) (s : mS) : mO := mf_350_0 N x1 s
theorem mr_350 {X : Nat → Option zz_C} {h : zz_H} (hh : 111 ≤ h.length) {d : Nat} {N : Nat} {Q : Option Value → zz_H → Prop} {x1 : Int32} {s s' : mS} {v : Option Value} (hf : mf_350 N x1 s = some (s', v)) (k : Q v (mH h s')) : zz_E zp_P zt_tf zt_fd X (d + 2) zm_350 0 [(0, .ref 61), (1, .int x1)] [] (mH h s) Q := by
  unfold mf_350 at hf
  exact zz_E.weak (mr_350_0 hh hf k) rfl ⟨rfl, rfl, trivial⟩
/-! formOfPlain (I)V -/
theorem mb_351_0 {X : Nat → Option zz_C} {h : zz_H} (hh : 111 ≤ h.length) {s : mS} {d : Nat} {Q : Option Value → zz_H → Prop} {x1 : Int32} (i5 : ¬ (x1 < 0 ∨ 166300 ≤ Int32.toNatClampNeg x1)) (k1 : ¬ ((s.2.2.1 47) (Int32.toNatClampNeg x1)) = 1 → zz_E zp_P zt_tf zt_fd X d zm_351 16 [(0, .ref 61), (1, .int x1)] [] (mH h s) Q) (k2 : ¬ ¬ ((s.2.2.1 47) (Int32.toNatClampNeg x1)) = 1 → zz_E zp_P zt_tf zt_fd X d zm_351 10 [(0, .ref 61), (1, .int x1)] [] (mH h s) Q) : zz_E zp_P zt_tf zt_fd X d zm_351 0 [(0, .ref 61), (1, .int x1)] [] (mH h s) Q := by
  refine zz_E.n 1 rfl rfl rfl ?_
  refine mE_g hh 4 (v := .ref 89) rfl rfl rfl ?_
  refine zz_E.n 5 rfl rfl rfl ?_
  refine mE_ia hh 6 28 (f := (s.2.2.1 47)) rfl (by decide) rfl rfl i5 rfl ?_
  refine zz_E.c 7 (.int 1) rfl rfl rfl rfl ?_
  refine zz_E.b2 16 10 (A := ¬ ((s.2.2.1 47) (Int32.toNatClampNeg x1)) = 1) rfl (zz_cond_ne _ _) (by decide) rfl rfl (fun c => ?_) (fun c => ?_)
  · exact zz_E.weak (k1 c) rfl ⟨rfl, rfl, trivial⟩
  · exact zz_E.weak (k2 c) rfl ⟨rfl, rfl, trivial⟩
theorem mb_351_10 {X : Nat → Option zz_C} {h : zz_H} (hh : 111 ≤ h.length) {s : mS} {d : Nat} {Q : Option Value → zz_H → Prop} {x1 : Int32} (k : zz_E zp_P zt_tf zt_fd X d zm_350 0 [(0, .ref 61), (1, .int x1)] [] (mH h s) (fun v h' => zz_E zp_P zt_tf zt_fd X (d + 1) zm_351 15 [] (v.toList ++ []) h' Q)) : zz_E zp_P zt_tf zt_fd X (d + 1) zm_351 10 [(0, .ref 61), (1, .int x1)] [] (mH h s) Q := by
  refine zz_E.n 11 rfl rfl rfl ?_
  refine zz_E.n 12 rfl rfl rfl ?_
  refine mE_cv hh 15 (as := []) rfl rfl (Nat.le_of_ble_eq_true rfl) (Nat.le_of_ble_eq_true rfl) rfl (Nat.le_of_ble_eq_true rfl) rfl ?_
  refine zz_E.mono k ?_
  intro v h' hE
  exact zz_E.weak hE rfl trivial
theorem mb_351_15 {X : Nat → Option zz_C} {h : zz_H} (hh : 111 ≤ h.length) {s : mS} {d : Nat} {Q : Option Value → zz_H → Prop}  (k : Q none (mH h s)) : zz_E zp_P zt_tf zt_fd X d zm_351 15 [] [] (mH h s) Q := by
  refine zz_E.ret rfl rfl rfl ?_
  exact k
theorem mb_351_16 {X : Nat → Option zz_C} {h : zz_H} (hh : 111 ≤ h.length) {s : mS} {d : Nat} {Q : Option Value → zz_H → Prop} {x1 : Int32} (k : zz_E zp_P zt_tf zt_fd X d zm_348 0 [(0, .ref 61), (1, .int 123)] [] (mH h s) (fun v h' => zz_E zp_P zt_tf zt_fd X (d + 1) zm_351 22 [(0, .ref 61), (1, .int x1)] (v.toList ++ []) h' Q)) : zz_E zp_P zt_tf zt_fd X (d + 1) zm_351 16 [(0, .ref 61), (1, .int x1)] [] (mH h s) Q := by
  refine zz_E.n 17 rfl rfl rfl ?_
  refine zz_E.c 19 (.int 123) rfl rfl rfl rfl ?_
  refine mE_cv hh 22 (as := []) rfl rfl (Nat.le_of_ble_eq_true rfl) (Nat.le_of_ble_eq_true rfl) rfl (Nat.le_of_ble_eq_true rfl) rfl ?_
  refine zz_E.mono k ?_
  intro v h' hE
  exact zz_E.weak hE rfl ⟨rfl, rfl, trivial⟩
theorem mb_351_22 {X : Nat → Option zz_C} {h : zz_H} (hh : 111 ≤ h.length) {s : mS} {d : Nat} {Q : Option Value → zz_H → Prop} {x1 : Int32} (k : zz_E zp_P zt_tf zt_fd X d zm_351 24 [(0, .ref 61), (1, .int x1), (2, .int 0)] [] (mH h s) Q) : zz_E zp_P zt_tf zt_fd X d zm_351 22 [(0, .ref 61), (1, .int x1)] [] (mH h s) Q := by
  refine zz_E.c 23 (.int 0) rfl rfl rfl rfl ?_
  refine zz_E.n 24 rfl rfl rfl ?_
  exact zz_E.weak k rfl ⟨rfl, rfl, rfl, trivial⟩
theorem mb_351_24 {X : Nat → Option zz_C} {h : zz_H} (hh : 111 ≤ h.length) {s : mS} {d : Nat} {Q : Option Value → zz_H → Prop} {x1 : Int32} {x2 : Int32} (k : zz_E zp_P zt_tf zt_fd X d zm_77 0 [(0, .ref 61), (1, .int x1)] [] (mH h s) (fun v h' => zz_E zp_P zt_tf zt_fd X (d + 1) zm_351 30 [(0, .ref 61), (1, .int x1), (2, .int x2)] (v.toList ++ [.int x2]) h' Q)) : zz_E zp_P zt_tf zt_fd X (d + 1) zm_351 24 [(0, .ref 61), (1, .int x1), (2, .int x2)] [] (mH h s) Q := by
  refine zz_E.n 25 rfl rfl rfl ?_
  refine zz_E.n 26 rfl rfl rfl ?_
  refine zz_E.n 27 rfl rfl rfl ?_
  refine mE_cv hh 30 (as := [.int x2]) rfl rfl (Nat.le_of_ble_eq_true rfl) (Nat.le_of_ble_eq_true rfl) rfl (Nat.le_of_ble_eq_true rfl) rfl ?_
  refine zz_E.mono k ?_
  intro v h' hE
  exact zz_E.weak hE rfl ⟨rfl, rfl, rfl, trivial⟩
theorem mb_351_30 {X : Nat → Option zz_C} {h : zz_H} (hh : 111 ≤ h.length) {s : mS} {d : Nat} {Q : Option Value → zz_H → Prop} {x1 : Int32} {x2 : Int32} {y0 : Int32} {y1 : Int32} (k1 : y1 ≤ y0 → zz_E zp_P zt_tf zt_fd X d zm_351 49 [(0, .ref 61)] [] (mH h s) Q) (k2 : ¬ y1 ≤ y0 → zz_E zp_P zt_tf zt_fd X d zm_351 33 [(0, .ref 61), (1, .int x1), (2, .int x2)] [] (mH h s) Q) : zz_E zp_P zt_tf zt_fd X d zm_351 30 [(0, .ref 61), (1, .int x1), (2, .int x2)] [.int y1, .int y0] (mH h s) Q := by
  refine zz_E.b2 49 33 (A := y1 ≤ y0) rfl rfl (by decide) rfl rfl (fun c => ?_) (fun c => ?_)
  · exact zz_E.weak (k1 c) rfl ⟨rfl, trivial⟩
  · exact zz_E.weak (k2 c) rfl ⟨rfl, rfl, rfl, trivial⟩
theorem mb_351_33 {X : Nat → Option zz_C} {h : zz_H} (hh : 111 ≤ h.length) {s : mS} {d : Nat} {Q : Option Value → zz_H → Prop} {x1 : Int32} {x2 : Int32} (k : zz_E zp_P zt_tf zt_fd X d zm_294 0 [(0, .ref 61), (1, .int x1), (2, .int x2)] [] (mH h s) (fun v h' => zz_E zp_P zt_tf zt_fd X (d + 1) zm_351 40 [(0, .ref 61), (1, .int x1), (2, .int x2)] (v.toList ++ [.ref 61]) h' Q)) : zz_E zp_P zt_tf zt_fd X (d + 1) zm_351 33 [(0, .ref 61), (1, .int x1), (2, .int x2)] [] (mH h s) Q := by
  refine zz_E.n 34 rfl rfl rfl ?_
  refine zz_E.n 35 rfl rfl rfl ?_
  refine zz_E.n 36 rfl rfl rfl ?_
  refine zz_E.n 37 rfl rfl rfl ?_
  refine mE_cv hh 40 (as := [.ref 61]) rfl rfl (Nat.le_of_ble_eq_true rfl) (Nat.le_of_ble_eq_true rfl) rfl (Nat.le_of_ble_eq_true rfl) rfl ?_
  refine zz_E.mono k ?_
  intro v h' hE
  exact zz_E.weak hE rfl ⟨rfl, rfl, rfl, trivial⟩
theorem mb_351_40 {X : Nat → Option zz_C} {h : zz_H} (hh : 111 ≤ h.length) {s : mS} {d : Nat} {Q : Option Value → zz_H → Prop} {x1 : Int32} {x2 : Int32} {y1 : Int32} (k : zz_E zp_P zt_tf zt_fd X d zm_350 0 [(0, .ref 61), (1, .int y1)] [] (mH h s) (fun v h' => zz_E zp_P zt_tf zt_fd X (d + 1) zm_351 43 [(0, .ref 61), (1, .int x1), (2, .int x2)] (v.toList ++ []) h' Q)) : zz_E zp_P zt_tf zt_fd X (d + 1) zm_351 40 [(0, .ref 61), (1, .int x1), (2, .int x2)] [.int y1, .ref 61] (mH h s) Q := by
  refine mE_cv hh 43 (as := []) rfl rfl (Nat.le_of_ble_eq_true rfl) (Nat.le_of_ble_eq_true rfl) rfl (Nat.le_of_ble_eq_true rfl) rfl ?_
  refine zz_E.mono k ?_
  intro v h' hE
  exact zz_E.weak hE rfl ⟨rfl, rfl, rfl, trivial⟩
theorem mb_351_43 {X : Nat → Option zz_C} {h : zz_H} (hh : 111 ≤ h.length) {s : mS} {d : Nat} {Q : Option Value → zz_H → Prop} {x1 : Int32} {x2 : Int32} (k : zz_E zp_P zt_tf zt_fd X d zm_351 24 [(0, .ref 61), (1, .int x1), (2, .int (x2 + 1))] [] (mH h s) Q) : zz_E zp_P zt_tf zt_fd X d zm_351 43 [(0, .ref 61), (1, .int x1), (2, .int x2)] [] (mH h s) Q := by
  refine zz_E.n 46 rfl rfl rfl ?_
  refine zz_E.n 24 rfl rfl rfl ?_
  exact zz_E.weak k rfl ⟨rfl, rfl, rfl, trivial⟩
theorem mb_351_49 {X : Nat → Option zz_C} {h : zz_H} (hh : 111 ≤ h.length) {s : mS} {d : Nat} {Q : Option Value → zz_H → Prop}  (k : zz_E zp_P zt_tf zt_fd X d zm_348 0 [(0, .ref 61), (1, .int 125)] [] (mH h s) (fun v h' => zz_E zp_P zt_tf zt_fd X (d + 1) zm_351 55 [] (v.toList ++ []) h' Q)) : zz_E zp_P zt_tf zt_fd X (d + 1) zm_351 49 [(0, .ref 61)] [] (mH h s) Q := by
  refine zz_E.n 50 rfl rfl rfl ?_
  refine zz_E.c 52 (.int 125) rfl rfl rfl rfl ?_
  refine mE_cv hh 55 (as := []) rfl rfl (Nat.le_of_ble_eq_true rfl) (Nat.le_of_ble_eq_true rfl) rfl (Nat.le_of_ble_eq_true rfl) rfl ?_
  refine zz_E.mono k ?_
  intro v h' hE
  exact zz_E.weak hE rfl trivial
theorem mb_351_55 {X : Nat → Option zz_C} {h : zz_H} (hh : 111 ≤ h.length) {s : mS} {d : Nat} {Q : Option Value → zz_H → Prop}  (k : Q none (mH h s)) : zz_E zp_P zt_tf zt_fd X d zm_351 55 [] [] (mH h s) Q := by
  refine zz_E.ret rfl rfl rfl ?_
  exact k
def mf_351_55 (N : Nat)  (s : mS) : mO := some (s, none)
theorem mr_351_55 {X : Nat → Option zz_C} {h : zz_H} (hh : 111 ≤ h.length) {d : Nat} {N : Nat} {Q : Option Value → zz_H → Prop}  {s s' : mS} {v : Option Value} (hf : mf_351_55 N  s = some (s', v)) (k : Q v (mH h s')) : zz_E zp_P zt_tf zt_fd X (d + 3) zm_351 55 [] [] (mH h s) Q := by
  unfold mf_351_55 at hf
  cases hf
  exact mb_351_55 hh  k
def mf_351_49 (N : Nat)  (s : mS) : mO := mo_bv (mf_348 N 125 s) (fun s1 => mf_351_55 N  s1)
theorem mr_351_49 {X : Nat → Option zz_C} {h : zz_H} (hh : 111 ≤ h.length) {d : Nat} {N : Nat} {Q : Option Value → zz_H → Prop}  {s s' : mS} {v : Option Value} (hf : mf_351_49 N  s = some (s', v)) (k : Q v (mH h s')) : zz_E zp_P zt_tf zt_fd X (d + 3) zm_351 49 [(0, .ref 61)] [] (mH h s) Q := by
  unfold mf_351_49 at hf
  obtain ⟨s1, e, hf⟩ := mo_bv_ok hf
  exact mb_351_49 (d := d + 2) hh  (mr_348 (d := d + 2) hh e (mr_351_55 hh hf k))
def mf_351_43 (N : Nat) (rc : Nat → Int32 → Int32 → mS → mO) (x1 : Int32) (x2 : Int32) (s : mS) : mO := rc 0 x1 (x2 + 1) s
theorem mr_351_43 {X : Nat → Option zz_C} {h : zz_H} (hh : 111 ≤ h.length) {d : Nat} {N : Nat} {rc : Nat → Int32 → Int32 → mS → mO} (hrc0 : ∀ {Q : Option Value → zz_H → Prop} {x1 : Int32} {x2 : Int32} {s s' : mS} {v : Option Value}, rc 0 x1 x2 s = some (s', v) → Q v (mH h s') → zz_E zp_P zt_tf zt_fd X (d + 3) zm_351 24 [(0, .ref 61), (1, .int x1), (2, .int x2)] [] (mH h s) Q) {Q : Option Value → zz_H → Prop} {x1 : Int32} {x2 : Int32} {s s' : mS} {v : Option Value} (hf : mf_351_43 N rc x1 x2 s = some (s', v)) (k : Q v (mH h s')) : zz_E zp_P zt_tf zt_fd X (d + 3) zm_351 43 [(0, .ref 61), (1, .int x1), (2, .int x2)] [] (mH h s) Q := by
  unfold mf_351_43 at hf
  exact mb_351_43 hh  (hrc0 hf k)
def mf_351_40 (N : Nat) (rc : Nat → Int32 → Int32 → mS → mO) (x1 : Int32) (x2 : Int32) (y1 : Int32) (s : mS) : mO := mo_bv (mf_350 N y1 s) (fun s1 => mf_351_43 N rc x1 x2 s1)
theorem mr_351_40 {X : Nat → Option zz_C} {h : zz_H} (hh : 111 ≤ h.length) {d : Nat} {N : Nat} {rc : Nat → Int32 → Int32 → mS → mO} (hrc0 : ∀ {Q : Option Value → zz_H → Prop} {x1 : Int32} {x2 : Int32} {s s' : mS} {v : Option Value}, rc 0 x1 x2 s = some (s', v) → Q v (mH h s') → zz_E zp_P zt_tf zt_fd X (d + 3) zm_351 24 [(0, .ref 61), (1, .int x1), (2, .int x2)] [] (mH h s) Q) {Q : Option Value → zz_H → Prop} {x1 : Int32} {x2 : Int32} {y1 : Int32} {s s' : mS} {v : Option Value} (hf : mf_351_40 N rc x1 x2 y1 s = some (s', v)) (k : Q v (mH h s')) : zz_E zp_P zt_tf zt_fd X (d + 3) zm_351 40 [(0, .ref 61), (1, .int x1), (2, .int x2)] [.int y1, .ref 61] (mH h s) Q := by
  unfold mf_351_40 at hf
  obtain ⟨s1, e, hf⟩ := mo_bv_ok hf
  exact mb_351_40 (d := d + 2) hh  (mr_350 (d := d + 0) hh e (mr_351_43 hh hrc0 hf k))
def mf_351_33 (N : Nat) (rc : Nat → Int32 → Int32 → mS → mO) (x1 : Int32) (x2 : Int32) (s : mS) : mO := mo_bi (mf_294 N x1 x2 s) (fun s1 y => mf_351_40 N rc x1 x2 y s1)
theorem mr_351_33 {X : Nat → Option zz_C} {h : zz_H} (hh : 111 ≤ h.length) {d : Nat} {N : Nat} {rc : Nat → Int32 → Int32 → mS → mO} (hrc0 : ∀ {Q : Option Value → zz_H → Prop} {x1 : Int32} {x2 : Int32} {s s' : mS} {v : Option Value}, rc 0 x1 x2 s = some (s', v) → Q v (mH h s') → zz_E zp_P zt_tf zt_fd X (d + 3) zm_351 24 [(0, .ref 61), (1, .int x1), (2, .int x2)] [] (mH h s) Q) {Q : Option Value → zz_H → Prop} {x1 : Int32} {x2 : Int32} {s s' : mS} {v : Option Value} (hf : mf_351_33 N rc x1 x2 s = some (s', v)) (k : Q v (mH h s')) : zz_E zp_P zt_tf zt_fd X (d + 3) zm_351 33 [(0, .ref 61), (1, .int x1), (2, .int x2)] [] (mH h s) Q := by
  unfold mf_351_33 at hf
  obtain ⟨s1, y, e, hf⟩ := mo_bi_ok hf
  exact mb_351_33 (d := d + 2) hh  (mr_294 (d := d + 2) hh e (mr_351_40 hh hrc0 hf k))
def mf_351_30 (N : Nat) (rc : Nat → Int32 → Int32 → mS → mO) (x1 : Int32) (x2 : Int32) (y0 : Int32) (y1 : Int32) (s : mS) : mO := if y1 ≤ y0 then mf_351_49 N  s else mf_351_33 N rc x1 x2 s
theorem mr_351_30 {X : Nat → Option zz_C} {h : zz_H} (hh : 111 ≤ h.length) {d : Nat} {N : Nat} {rc : Nat → Int32 → Int32 → mS → mO} (hrc0 : ∀ {Q : Option Value → zz_H → Prop} {x1 : Int32} {x2 : Int32} {s s' : mS} {v : Option Value}, rc 0 x1 x2 s = some (s', v) → Q v (mH h s') → zz_E zp_P zt_tf zt_fd X (d + 3) zm_351 24 [(0, .ref 61), (1, .int x1), (2, .int x2)] [] (mH h s) Q) {Q : Option Value → zz_H → Prop} {x1 : Int32} {x2 : Int32} {y0 : Int32} {y1 : Int32} {s s' : mS} {v : Option Value} (hf : mf_351_30 N rc x1 x2 y0 y1 s = some (s', v)) (k : Q v (mH h s')) : zz_E zp_P zt_tf zt_fd X (d + 3) zm_351 30 [(0, .ref 61), (1, .int x1), (2, .int x2)] [.int y1, .int y0] (mH h s) Q := by
  unfold mf_351_30 at hf
  refine mb_351_30 hh  (fun c => ?_) (fun c => ?_)
  · rw [if_pos c] at hf
    exact mr_351_49 hh hf k
  · rw [if_neg c] at hf
    exact mr_351_33 hh hrc0 hf k
def mf_351_24 (N : Nat) (rc : Nat → Int32 → Int32 → mS → mO) (x1 : Int32) (x2 : Int32) (s : mS) : mO := mo_bi (mf_77 N x1 s) (fun s1 y => mf_351_30 N rc x1 x2 x2 y s1)
theorem mr_351_24 {X : Nat → Option zz_C} {h : zz_H} (hh : 111 ≤ h.length) {d : Nat} {N : Nat} {rc : Nat → Int32 → Int32 → mS → mO} (hrc0 : ∀ {Q : Option Value → zz_H → Prop} {x1 : Int32} {x2 : Int32} {s s' : mS} {v : Option Value}, rc 0 x1 x2 s = some (s', v) → Q v (mH h s') → zz_E zp_P zt_tf zt_fd X (d + 3) zm_351 24 [(0, .ref 61), (1, .int x1), (2, .int x2)] [] (mH h s) Q) {Q : Option Value → zz_H → Prop} {x1 : Int32} {x2 : Int32} {s s' : mS} {v : Option Value} (hf : mf_351_24 N rc x1 x2 s = some (s', v)) (k : Q v (mH h s')) : zz_E zp_P zt_tf zt_fd X (d + 3) zm_351 24 [(0, .ref 61), (1, .int x1), (2, .int x2)] [] (mH h s) Q := by
  unfold mf_351_24 at hf
  obtain ⟨s1, y, e, hf⟩ := mo_bi_ok hf
  exact mb_351_24 (d := d + 2) hh  (mr_77 (d := d + 2) hh e (mr_351_30 hh hrc0 hf k))
def mf_351_L2 (N : Nat) : Nat → Nat → Int32 → Int32 → mS → mO
  | 0, _, _, _, _ => none
  | n + 1, l, x1, x2, s => if l = 0 then mf_351_24 N (mf_351_L2 N n) x1 x2 s else none
theorem mr_351_L2 {X : Nat → Option zz_C} {h : zz_H} (hh : 111 ≤ h.length) {d : Nat} {N : Nat} : ∀ n : Nat, (∀ {Q : Option Value → zz_H → Prop} {x1 : Int32} {x2 : Int32} {s s' : mS} {v : Option Value}, mf_351_L2 N n 0 x1 x2 s = some (s', v) → Q v (mH h s') → zz_E zp_P zt_tf zt_fd X (d + 3) zm_351 24 [(0, .ref 61), (1, .int x1), (2, .int x2)] [] (mH h s) Q) := by
  intro n
  induction n with
  | zero => exact (fun hf _ => by cases hf)
  | succ n ih =>
    have h0 := @ih
    intro Q _ _ s s' v hf k
    unfold mf_351_L2 at hf
    rw [if_pos rfl] at hf
    exact mr_351_24 hh h0 hf k
def mf_351_22 (N : Nat) (x1 : Int32) (s : mS) : mO := mf_351_L2 N N 0 x1 0 s
theorem mr_351_22 {X : Nat → Option zz_C} {h : zz_H} (hh : 111 ≤ h.length) {d : Nat} {N : Nat} {Q : Option Value → zz_H → Prop} {x1 : Int32} {s s' : mS} {v : Option Value} (hf : mf_351_22 N x1 s = some (s', v)) (k : Q v (mH h s')) : zz_E zp_P zt_tf zt_fd X (d + 3) zm_351 22 [(0, .ref 61), (1, .int x1)] [] (mH h s) Q := by
  unfold mf_351_22 at hf
  exact mb_351_22 hh  (mr_351_L2 hh N hf k)
def mf_351_16 (N : Nat) (x1 : Int32) (s : mS) : mO := mo_bv (mf_348 N 123 s) (fun s1 => mf_351_22 N x1 s1)
theorem mr_351_16 {X : Nat → Option zz_C} {h : zz_H} (hh : 111 ≤ h.length) {d : Nat} {N : Nat} {Q : Option Value → zz_H → Prop} {x1 : Int32} {s s' : mS} {v : Option Value} (hf : mf_351_16 N x1 s = some (s', v)) (k : Q v (mH h s')) : zz_E zp_P zt_tf zt_fd X (d + 3) zm_351 16 [(0, .ref 61), (1, .int x1)] [] (mH h s) Q := by
  unfold mf_351_16 at hf
  obtain ⟨s1, e, hf⟩ := mo_bv_ok hf
  exact mb_351_16 (d := d + 2) hh  (mr_348 (d := d + 2) hh e (mr_351_22 hh hf k))
def mf_351_15 (N : Nat)  (s : mS) : mO := some (s, none)
theorem mr_351_15 {X : Nat → Option zz_C} {h : zz_H} (hh : 111 ≤ h.length) {d : Nat} {N : Nat} {Q : Option Value → zz_H → Prop}  {s s' : mS} {v : Option Value} (hf : mf_351_15 N  s = some (s', v)) (k : Q v (mH h s')) : zz_E zp_P zt_tf zt_fd X (d + 3) zm_351 15 [] [] (mH h s) Q := by
  unfold mf_351_15 at hf
  cases hf
  exact mb_351_15 hh  k
def mf_351_10 (N : Nat) (x1 : Int32) (s : mS) : mO := mo_bv (mf_350 N x1 s) (fun s1 => mf_351_15 N  s1)
theorem mr_351_10 {X : Nat → Option zz_C} {h : zz_H} (hh : 111 ≤ h.length) {d : Nat} {N : Nat} {Q : Option Value → zz_H → Prop} {x1 : Int32} {s s' : mS} {v : Option Value} (hf : mf_351_10 N x1 s = some (s', v)) (k : Q v (mH h s')) : zz_E zp_P zt_tf zt_fd X (d + 3) zm_351 10 [(0, .ref 61), (1, .int x1)] [] (mH h s) Q := by
  unfold mf_351_10 at hf
  obtain ⟨s1, e, hf⟩ := mo_bv_ok hf
  exact mb_351_10 (d := d + 2) hh  (mr_350 (d := d + 0) hh e (mr_351_15 hh hf k))
def mf_351_0 (N : Nat) (x1 : Int32) (s : mS) : mO := if ¬ (x1 < 0 ∨ 166300 ≤ Int32.toNatClampNeg x1) then (if ¬ ((s.2.2.1 47) (Int32.toNatClampNeg x1)) = 1 then mf_351_16 N x1 s else mf_351_10 N x1 s) else none
theorem mr_351_0 {X : Nat → Option zz_C} {h : zz_H} (hh : 111 ≤ h.length) {d : Nat} {N : Nat} {Q : Option Value → zz_H → Prop} {x1 : Int32} {s s' : mS} {v : Option Value} (hf : mf_351_0 N x1 s = some (s', v)) (k : Q v (mH h s')) : zz_E zp_P zt_tf zt_fd X (d + 3) zm_351 0 [(0, .ref 61), (1, .int x1)] [] (mH h s) Q := by
  unfold mf_351_0 at hf
  obtain ⟨q0, hf⟩ := mo_if hf
  refine mb_351_0 hh q0 (fun c => ?_) (fun c => ?_)
  · rw [if_pos c] at hf
    exact mr_351_16 hh hf k
  · rw [if_neg c] at hf
    exact mr_351_10 hh hf k
/-- formOfPlain -/
def mf_351 (N : Nat) (x1 : Int32) (s : mS) : mO := mf_351_0 N x1 s
theorem mr_351 {X : Nat → Option zz_C} {h : zz_H} (hh : 111 ≤ h.length) {d : Nat} {N : Nat} {Q : Option Value → zz_H → Prop} {x1 : Int32} {s s' : mS} {v : Option Value} (hf : mf_351 N x1 s = some (s', v)) (k : Q v (mH h s')) : zz_E zp_P zt_tf zt_fd X (d + 3) zm_351 0 [(0, .ref 61), (1, .int x1)] [] (mH h s) Q := by
  unfold mf_351 at hf
  exact zz_E.weak (mr_351_0 hh hf k) rfl ⟨rfl, rfl, trivial⟩
/-! form (I)V -/
theorem mb_352_0 {X : Nat → Option zz_C} {h : zz_H} (hh : 111 ≤ h.length) {s : mS} {d : Nat} {Q : Option Value → zz_H → Prop} {x1 : Int32} (i5 : ¬ (x1 < 0 ∨ 166300 ≤ Int32.toNatClampNeg x1)) (k1 : ((s.2.2.1 47) (Int32.toNatClampNeg x1)) = 3 → zz_E zp_P zt_tf zt_fd X d zm_352 16 [(0, .ref 61), (1, .int x1)] [] (mH h s) Q) (k2 : ¬ ((s.2.2.1 47) (Int32.toNatClampNeg x1)) = 3 → zz_E zp_P zt_tf zt_fd X d zm_352 10 [(0, .ref 61), (1, .int x1)] [] (mH h s) Q) : zz_E zp_P zt_tf zt_fd X d zm_352 0 [(0, .ref 61), (1, .int x1)] [] (mH h s) Q := by
  refine zz_E.n 1 rfl rfl rfl ?_
  refine mE_g hh 4 (v := .ref 89) rfl rfl rfl ?_
  refine zz_E.n 5 rfl rfl rfl ?_
  refine mE_ia hh 6 28 (f := (s.2.2.1 47)) rfl (by decide) rfl rfl i5 rfl ?_
  refine zz_E.c 7 (.int 3) rfl rfl rfl rfl ?_
  refine zz_E.b2 16 10 (A := ((s.2.2.1 47) (Int32.toNatClampNeg x1)) = 3) rfl rfl (by decide) rfl rfl (fun c => ?_) (fun c => ?_)
  · exact zz_E.weak (k1 c) rfl ⟨rfl, rfl, trivial⟩
  · exact zz_E.weak (k2 c) rfl ⟨rfl, rfl, trivial⟩
theorem mb_352_10 {X : Nat → Option zz_C} {h : zz_H} (hh : 111 ≤ h.length) {s : mS} {d : Nat} {Q : Option Value → zz_H → Prop} {x1 : Int32} (k : zz_E zp_P zt_tf zt_fd X d zm_351 0 [(0, .ref 61), (1, .int x1)] [] (mH h s) (fun v h' => zz_E zp_P zt_tf zt_fd X (d + 1) zm_352 15 [] (v.toList ++ []) h' Q)) : zz_E zp_P zt_tf zt_fd X (d + 1) zm_352 10 [(0, .ref 61), (1, .int x1)] [] (mH h s) Q := by
  refine zz_E.n 11 rfl rfl rfl ?_
  refine zz_E.n 12 rfl rfl rfl ?_
  refine mE_cv hh 15 (as := []) rfl rfl (Nat.le_of_ble_eq_true rfl) (Nat.le_of_ble_eq_true rfl) rfl (Nat.le_of_ble_eq_true rfl) rfl ?_
  refine zz_E.mono k ?_
  intro v h' hE
  exact zz_E.weak hE rfl trivial
theorem mb_352_15 {X : Nat → Option zz_C} {h : zz_H} (hh : 111 ≤ h.length) {s : mS} {d : Nat} {Q : Option Value → zz_H → Prop}  (k : Q none (mH h s)) : zz_E zp_P zt_tf zt_fd X d zm_352 15 [] [] (mH h s) Q := by
  refine zz_E.ret rfl rfl rfl ?_
  exact k
theorem mb_352_16 {X : Nat → Option zz_C} {h : zz_H} (hh : 111 ≤ h.length) {s : mS} {d : Nat} {Q : Option Value → zz_H → Prop} {x1 : Int32} (k : zz_E zp_P zt_tf zt_fd X d zm_348 0 [(0, .ref 61), (1, .int 40)] [] (mH h s) (fun v h' => zz_E zp_P zt_tf zt_fd X (d + 1) zm_352 22 [(0, .ref 61), (1, .int x1)] (v.toList ++ []) h' Q)) : zz_E zp_P zt_tf zt_fd X (d + 1) zm_352 16 [(0, .ref 61), (1, .int x1)] [] (mH h s) Q := by
  refine zz_E.n 17 rfl rfl rfl ?_
  refine zz_E.c 19 (.int 40) rfl rfl rfl rfl ?_
  refine mE_cv hh 22 (as := []) rfl rfl (Nat.le_of_ble_eq_true rfl) (Nat.le_of_ble_eq_true rfl) rfl (Nat.le_of_ble_eq_true rfl) rfl ?_
  refine zz_E.mono k ?_
  intro v h' hE
  exact zz_E.weak hE rfl ⟨rfl, rfl, trivial⟩
theorem mb_352_22 {X : Nat → Option zz_C} {h : zz_H} (hh : 111 ≤ h.length) {s : mS} {d : Nat} {Q : Option Value → zz_H → Prop} {x1 : Int32} (k : zz_E zp_P zt_tf zt_fd X d zm_296 0 [(0, .ref 61), (1, .int x1), (2, .int 0)] [] (mH h (mI s 55 0)) (fun v h' => zz_E zp_P zt_tf zt_fd X (d + 1) zm_352 33 [(0, .ref 61)] (v.toList ++ []) h' Q)) : zz_E zp_P zt_tf zt_fd X (d + 1) zm_352 22 [(0, .ref 61), (1, .int x1)] [] (mH h s) Q := by
  refine zz_E.n 23 rfl rfl rfl ?_
  refine zz_E.c 24 (.int 0) rfl rfl rfl rfl ?_
  refine mE_p hh 27 rfl (by decide) rfl (mF_55 _ _) rfl ?_
  refine zz_E.n 28 rfl rfl rfl ?_
  refine zz_E.n 29 rfl rfl rfl ?_
  refine zz_E.c 30 (.int 0) rfl rfl rfl rfl ?_
  refine mE_cv hh 33 (as := []) rfl rfl (Nat.le_of_ble_eq_true rfl) (Nat.le_of_ble_eq_true rfl) rfl (Nat.le_of_ble_eq_true rfl) rfl ?_
  refine zz_E.mono k ?_
  intro v h' hE
  exact zz_E.weak hE rfl ⟨rfl, trivial⟩
theorem mb_352_33 {X : Nat → Option zz_C} {h : zz_H} (hh : 111 ≤ h.length) {s : mS} {d : Nat} {Q : Option Value → zz_H → Prop}  (k1 : (s.1 55) ≤ 0 → zz_E zp_P zt_tf zt_fd X d zm_352 193 [] [] (mH h s) Q) (k2 : ¬ (s.1 55) ≤ 0 → zz_E zp_P zt_tf zt_fd X d zm_352 40 [(0, .ref 61)] [] (mH h s) Q) : zz_E zp_P zt_tf zt_fd X d zm_352 33 [(0, .ref 61)] [] (mH h s) Q := by
  refine zz_E.n 34 rfl rfl rfl ?_
  refine mE_g hh 37 (v := .int (s.1 55)) rfl rfl rfl ?_
  refine zz_E.b1 193 40 (A := (s.1 55) ≤ 0) rfl rfl (by decide) rfl rfl (fun c => ?_) (fun c => ?_)
  · exact zz_E.weak (k1 c) rfl trivial
  · exact zz_E.weak (k2 c) rfl ⟨rfl, trivial⟩
theorem mb_352_40 {X : Nat → Option zz_C} {h : zz_H} (hh : 111 ≤ h.length) {s : mS} {d : Nat} {Q : Option Value → zz_H → Prop}  (i50 : ¬ (((s.1 55) - 1) < 0 ∨ 8 ≤ Int32.toNatClampNeg ((s.1 55) - 1))) (i62 : ¬ (((s.1 55) - 1) < 0 ∨ 8 ≤ Int32.toNatClampNeg ((s.1 55) - 1))) (k : zz_E zp_P zt_tf zt_fd X d zm_77 0 [(0, .ref 61), (1, .int ((s.2.2.1 52) (Int32.toNatClampNeg ((s.1 55) - 1))))] [] (mH h s) (fun v h' => zz_E zp_P zt_tf zt_fd X (d + 1) zm_352 70 [(0, .ref 61), (2, .int ((s.2.2.1 52) (Int32.toNatClampNeg ((s.1 55) - 1)))), (3, .int ((s.2.2.1 54) (Int32.toNatClampNeg ((s.1 55) - 1))))] (v.toList ++ [.int ((s.2.2.1 54) (Int32.toNatClampNeg ((s.1 55) - 1)))]) h' Q)) : zz_E zp_P zt_tf zt_fd X (d + 1) zm_352 40 [(0, .ref 61)] [] (mH h s) Q := by
  refine zz_E.n 41 rfl rfl rfl ?_
  refine mE_g hh 44 (v := .ref 92) rfl rfl rfl ?_
  refine zz_E.n 45 rfl rfl rfl ?_
  refine mE_g hh 48 (v := .int (s.1 55)) rfl rfl rfl ?_
  refine zz_E.c 49 (.int 1) rfl rfl rfl rfl ?_
  refine zz_E.n 50 rfl rfl rfl ?_
  refine mE_ia hh 51 31 (f := (s.2.2.1 52)) rfl (by decide) rfl rfl i50 rfl ?_
  refine zz_E.n 52 rfl rfl rfl ?_
  refine zz_E.n 53 rfl rfl rfl ?_
  refine mE_g hh 56 (v := .ref 94) rfl rfl rfl ?_
  refine zz_E.n 57 rfl rfl rfl ?_
  refine mE_g hh 60 (v := .int (s.1 55)) rfl rfl rfl ?_
  refine zz_E.c 61 (.int 1) rfl rfl rfl rfl ?_
  refine zz_E.n 62 rfl rfl rfl ?_
  refine mE_ia hh 63 33 (f := (s.2.2.1 54)) rfl (by decide) rfl rfl i62 rfl ?_
  refine zz_E.n 64 rfl rfl rfl ?_
  refine zz_E.n 65 rfl rfl rfl ?_
  refine zz_E.n 66 rfl rfl rfl ?_
  refine zz_E.n 67 rfl rfl rfl ?_
  refine mE_cv hh 70 (as := [.int ((s.2.2.1 54) (Int32.toNatClampNeg ((s.1 55) - 1)))]) rfl rfl (Nat.le_of_ble_eq_true rfl) (Nat.le_of_ble_eq_true rfl) rfl (Nat.le_of_ble_eq_true rfl) rfl ?_
  refine zz_E.mono k ?_
  intro v h' hE
  exact zz_E.weak hE rfl ⟨rfl, rfl, rfl, trivial⟩
theorem mb_352_70 {X : Nat → Option zz_C} {h : zz_H} (hh : 111 ≤ h.length) {s : mS} {d : Nat} {Q : Option Value → zz_H → Prop} {x2 : Int32} {x3 : Int32} {y0 : Int32} {y1 : Int32} (k1 : ¬ y0 = y1 → zz_E zp_P zt_tf zt_fd X d zm_352 92 [(0, .ref 61), (2, .int x2), (3, .int x3)] [] (mH h s) Q) (k2 : ¬ ¬ y0 = y1 → zz_E zp_P zt_tf zt_fd X d zm_352 73 [(0, .ref 61)] [] (mH h s) Q) : zz_E zp_P zt_tf zt_fd X d zm_352 70 [(0, .ref 61), (2, .int x2), (3, .int x3)] [.int y1, .int y0] (mH h s) Q := by
  refine zz_E.b2 92 73 (A := ¬ y0 = y1) rfl (zz_cond_ne _ _) (by decide) rfl rfl (fun c => ?_) (fun c => ?_)
  · exact zz_E.weak (k1 c) rfl ⟨rfl, rfl, rfl, trivial⟩
  · exact zz_E.weak (k2 c) rfl ⟨rfl, trivial⟩
theorem mb_352_73 {X : Nat → Option zz_C} {h : zz_H} (hh : 111 ≤ h.length) {s : mS} {d : Nat} {Q : Option Value → zz_H → Prop}  (k : zz_E zp_P zt_tf zt_fd X d zm_348 0 [(0, .ref 61), (1, .int 41)] [] (mH h s) (fun v h' => zz_E zp_P zt_tf zt_fd X (d + 1) zm_352 79 [(0, .ref 61)] (v.toList ++ []) h' Q)) : zz_E zp_P zt_tf zt_fd X (d + 1) zm_352 73 [(0, .ref 61)] [] (mH h s) Q := by
  refine zz_E.n 74 rfl rfl rfl ?_
  refine zz_E.c 76 (.int 41) rfl rfl rfl rfl ?_
  refine mE_cv hh 79 (as := []) rfl rfl (Nat.le_of_ble_eq_true rfl) (Nat.le_of_ble_eq_true rfl) rfl (Nat.le_of_ble_eq_true rfl) rfl ?_
  refine zz_E.mono k ?_
  intro v h' hE
  exact zz_E.weak hE rfl ⟨rfl, trivial⟩
theorem mb_352_79 {X : Nat → Option zz_C} {h : zz_H} (hh : 111 ≤ h.length) {s : mS} {d : Nat} {Q : Option Value → zz_H → Prop}  (k : zz_E zp_P zt_tf zt_fd X d zm_352 33 [(0, .ref 61)] [] (mH h (mI s 55 ((s.1 55) - 1))) Q) : zz_E zp_P zt_tf zt_fd X d zm_352 79 [(0, .ref 61)] [] (mH h s) Q := by
  refine zz_E.n 80 rfl rfl rfl ?_
  refine zz_E.n 81 rfl rfl rfl ?_
  refine mE_g hh 84 (v := .int (s.1 55)) rfl rfl rfl ?_
  refine zz_E.c 85 (.int 1) rfl rfl rfl rfl ?_
  refine zz_E.n 86 rfl rfl rfl ?_
  refine mE_p hh 89 rfl (by decide) rfl (mF_55 _ _) rfl ?_
  refine zz_E.n 33 rfl rfl rfl ?_
  exact zz_E.weak k rfl ⟨rfl, trivial⟩
theorem mb_352_92 {X : Nat → Option zz_C} {h : zz_H} (hh : 111 ≤ h.length) {s : mS} {d : Nat} {Q : Option Value → zz_H → Prop} {x2 : Int32} {x3 : Int32} (i103 : ¬ (((s.1 55) - 1) < 0 ∨ 8 ≤ Int32.toNatClampNeg ((s.1 55) - 1))) (i106 : ¬ (((s.1 55) - 1) < 0 ∨ 8 ≤ Int32.toNatClampNeg ((s.1 55) - 1))) (k1 : x3 ≤ 0 → zz_E zp_P zt_tf zt_fd X d zm_352 117 [(0, .ref 61), (2, .int x2), (3, .int x3)] [] (mH h (mA s 54 (upd (s.2.2.1 54) (Int32.toNatClampNeg ((s.1 55) - 1)) (((s.2.2.1 54) (Int32.toNatClampNeg ((s.1 55) - 1))) + 1)))) Q) (k2 : ¬ x3 ≤ 0 → zz_E zp_P zt_tf zt_fd X d zm_352 111 [(0, .ref 61), (2, .int x2), (3, .int x3)] [] (mH h (mA s 54 (upd (s.2.2.1 54) (Int32.toNatClampNeg ((s.1 55) - 1)) (((s.2.2.1 54) (Int32.toNatClampNeg ((s.1 55) - 1))) + 1)))) Q) : zz_E zp_P zt_tf zt_fd X d zm_352 92 [(0, .ref 61), (2, .int x2), (3, .int x3)] [] (mH h s) Q := by
  refine zz_E.n 93 rfl rfl rfl ?_
  refine mE_g hh 96 (v := .ref 94) rfl rfl rfl ?_
  refine zz_E.n 97 rfl rfl rfl ?_
  refine mE_g hh 100 (v := .int (s.1 55)) rfl rfl rfl ?_
  refine zz_E.c 101 (.int 1) rfl rfl rfl rfl ?_
  refine zz_E.n 102 rfl rfl rfl ?_
  refine zz_E.n 103 rfl rfl rfl ?_
  refine mE_ia hh 104 33 (f := (s.2.2.1 54)) rfl (by decide) rfl rfl i103 rfl ?_
  refine zz_E.c 105 (.int 1) rfl rfl rfl rfl ?_
  refine zz_E.n 106 rfl rfl rfl ?_
  refine mE_is hh 107 33 (f := (s.2.2.1 54)) rfl (by decide) rfl rfl i106 (mA_94 _ _) rfl ?_
  refine zz_E.n 108 rfl rfl rfl ?_
  refine zz_E.b1 117 111 (A := x3 ≤ 0) rfl rfl (by decide) rfl rfl (fun c => ?_) (fun c => ?_)
  · exact zz_E.weak (k1 c) rfl ⟨rfl, rfl, rfl, trivial⟩
  · exact zz_E.weak (k2 c) rfl ⟨rfl, rfl, rfl, trivial⟩
theorem mb_352_111 {X : Nat → Option zz_C} {h : zz_H} (hh : 111 ≤ h.length) {s : mS} {d : Nat} {Q : Option Value → zz_H → Prop} {x2 : Int32} {x3 : Int32} (k : zz_E zp_P zt_tf zt_fd X d zm_348 0 [(0, .ref 61), (1, .int 59)] [] (mH h s) (fun v h' => zz_E zp_P zt_tf zt_fd X (d + 1) zm_352 117 [(0, .ref 61), (2, .int x2), (3, .int x3)] (v.toList ++ []) h' Q)) : zz_E zp_P zt_tf zt_fd X (d + 1) zm_352 111 [(0, .ref 61), (2, .int x2), (3, .int x3)] [] (mH h s) Q := by
  refine zz_E.n 112 rfl rfl rfl ?_
  refine zz_E.c 114 (.int 59) rfl rfl rfl rfl ?_
  refine mE_cv hh 117 (as := []) rfl rfl (Nat.le_of_ble_eq_true rfl) (Nat.le_of_ble_eq_true rfl) rfl (Nat.le_of_ble_eq_true rfl) rfl ?_
  refine zz_E.mono k ?_
  intro v h' hE
  exact zz_E.weak hE rfl ⟨rfl, rfl, rfl, trivial⟩
theorem mb_352_117 {X : Nat → Option zz_C} {h : zz_H} (hh : 111 ≤ h.length) {s : mS} {d : Nat} {Q : Option Value → zz_H → Prop} {x2 : Int32} {x3 : Int32} (k : zz_E zp_P zt_tf zt_fd X d zm_293 0 [(0, .ref 61), (1, .int x2), (2, .int x3)] [] (mH h s) (fun v h' => zz_E zp_P zt_tf zt_fd X (d + 1) zm_352 123 [(0, .ref 61), (2, .int x2), (3, .int x3)] (v.toList ++ []) h' Q)) : zz_E zp_P zt_tf zt_fd X (d + 1) zm_352 117 [(0, .ref 61), (2, .int x2), (3, .int x3)] [] (mH h s) Q := by
  refine zz_E.n 118 rfl rfl rfl ?_
  refine zz_E.n 119 rfl rfl rfl ?_
  refine zz_E.n 120 rfl rfl rfl ?_
  refine mE_cv hh 123 (as := []) rfl rfl (Nat.le_of_ble_eq_true rfl) (Nat.le_of_ble_eq_true rfl) rfl (Nat.le_of_ble_eq_true rfl) rfl ?_
  refine zz_E.mono k ?_
  intro v h' hE
  exact zz_E.weak hE rfl ⟨rfl, rfl, rfl, trivial⟩
theorem mb_352_123 {X : Nat → Option zz_C} {h : zz_H} (hh : 111 ≤ h.length) {s : mS} {d : Nat} {Q : Option Value → zz_H → Prop} {x2 : Int32} {x3 : Int32} {y0 : Int32} (k1 : y0 = 0 → zz_E zp_P zt_tf zt_fd X d zm_352 145 [(0, .ref 61), (2, .int x2), (3, .int x3)] [] (mH h s) Q) (k2 : ¬ y0 = 0 → zz_E zp_P zt_tf zt_fd X d zm_352 126 [(0, .ref 61), (2, .int x2), (3, .int x3)] [] (mH h s) Q) : zz_E zp_P zt_tf zt_fd X d zm_352 123 [(0, .ref 61), (2, .int x2), (3, .int x3)] [.int y0] (mH h s) Q := by
  refine zz_E.b1 145 126 (A := y0 = 0) rfl rfl (by decide) rfl rfl (fun c => ?_) (fun c => ?_)
  · exact zz_E.weak (k1 c) rfl ⟨rfl, rfl, rfl, trivial⟩
  · exact zz_E.weak (k2 c) rfl ⟨rfl, rfl, rfl, trivial⟩
theorem mb_352_126 {X : Nat → Option zz_C} {h : zz_H} (hh : 111 ≤ h.length) {s : mS} {d : Nat} {Q : Option Value → zz_H → Prop} {x2 : Int32} {x3 : Int32} (i138 : ¬ (((x2 + 3) + (2 * x3)) < 0 ∨ 166300 ≤ Int32.toNatClampNeg ((x2 + 3) + (2 * x3)))) (k : zz_E zp_P zt_tf zt_fd X d zm_349 0 [(0, .ref 61), (1, .int ((s.2.2.1 47) (Int32.toNatClampNeg ((x2 + 3) + (2 * x3)))))] [] (mH h s) (fun v h' => zz_E zp_P zt_tf zt_fd X (d + 1) zm_352 142 [(0, .ref 61)] (v.toList ++ []) h' Q)) : zz_E zp_P zt_tf zt_fd X (d + 1) zm_352 126 [(0, .ref 61), (2, .int x2), (3, .int x3)] [] (mH h s) Q := by
  refine zz_E.n 127 rfl rfl rfl ?_
  refine zz_E.n 128 rfl rfl rfl ?_
  refine mE_g hh 131 (v := .ref 89) rfl rfl rfl ?_
  refine zz_E.n 132 rfl rfl rfl ?_
  refine zz_E.c 133 (.int 3) rfl rfl rfl rfl ?_
  refine zz_E.n 134 rfl rfl rfl ?_
  refine zz_E.c 135 (.int 2) rfl rfl rfl rfl ?_
  refine zz_E.n 136 rfl rfl rfl ?_
  refine zz_E.n 137 rfl rfl rfl ?_
  refine zz_E.n 138 rfl rfl rfl ?_
  refine mE_ia hh 139 28 (f := (s.2.2.1 47)) rfl (by decide) rfl rfl i138 rfl ?_
  refine mE_cv hh 142 (as := []) rfl rfl (Nat.le_of_ble_eq_true rfl) (Nat.le_of_ble_eq_true rfl) rfl (Nat.le_of_ble_eq_true rfl) rfl ?_
  refine zz_E.mono k ?_
  intro v h' hE
  exact zz_E.weak hE rfl ⟨rfl, trivial⟩
theorem mb_352_142 {X : Nat → Option zz_C} {h : zz_H} (hh : 111 ≤ h.length) {s : mS} {d : Nat} {Q : Option Value → zz_H → Prop}  (k : zz_E zp_P zt_tf zt_fd X d zm_352 190 [(0, .ref 61)] [] (mH h s) Q) : zz_E zp_P zt_tf zt_fd X d zm_352 142 [(0, .ref 61)] [] (mH h s) Q := by
  refine zz_E.n 190 rfl rfl rfl ?_
  exact zz_E.weak k rfl ⟨rfl, trivial⟩
theorem mb_352_145 {X : Nat → Option zz_C} {h : zz_H} (hh : 111 ≤ h.length) {s : mS} {d : Nat} {Q : Option Value → zz_H → Prop} {x2 : Int32} {x3 : Int32} (k : zz_E zp_P zt_tf zt_fd X d zm_294 0 [(0, .ref 61), (1, .int x2), (2, .int x3)] [] (mH h s) (fun v h' => zz_E zp_P zt_tf zt_fd X (d + 1) zm_352 155 [(0, .ref 61), (2, .int x2), (3, .int x3)] (v.toList ++ [.ref 89]) h' Q)) : zz_E zp_P zt_tf zt_fd X (d + 1) zm_352 145 [(0, .ref 61), (2, .int x2), (3, .int x3)] [] (mH h s) Q := by
  refine zz_E.n 146 rfl rfl rfl ?_
  refine mE_g hh 149 (v := .ref 89) rfl rfl rfl ?_
  refine zz_E.n 150 rfl rfl rfl ?_
  refine zz_E.n 151 rfl rfl rfl ?_
  refine zz_E.n 152 rfl rfl rfl ?_
  refine mE_cv hh 155 (as := [.ref 89]) rfl rfl (Nat.le_of_ble_eq_true rfl) (Nat.le_of_ble_eq_true rfl) rfl (Nat.le_of_ble_eq_true rfl) rfl ?_
  refine zz_E.mono k ?_
  intro v h' hE
  exact zz_E.weak hE rfl ⟨rfl, rfl, rfl, trivial⟩
theorem mb_352_155 {X : Nat → Option zz_C} {h : zz_H} (hh : 111 ≤ h.length) {s : mS} {d : Nat} {Q : Option Value → zz_H → Prop} {x2 : Int32} {x3 : Int32} {y1 : Int32} (i155 : ¬ (y1 < 0 ∨ 166300 ≤ Int32.toNatClampNeg y1)) (k1 : ¬ ((s.2.2.1 47) (Int32.toNatClampNeg y1)) = 3 → zz_E zp_P zt_tf zt_fd X d zm_352 180 [(0, .ref 61), (2, .int x2), (3, .int x3)] [] (mH h s) Q) (k2 : ¬ ¬ ((s.2.2.1 47) (Int32.toNatClampNeg y1)) = 3 → zz_E zp_P zt_tf zt_fd X d zm_352 160 [(0, .ref 61), (2, .int x2), (3, .int x3)] [] (mH h s) Q) : zz_E zp_P zt_tf zt_fd X d zm_352 155 [(0, .ref 61), (2, .int x2), (3, .int x3)] [.int y1, .ref 89] (mH h s) Q := by
  refine mE_ia hh 156 28 (f := (s.2.2.1 47)) rfl (by decide) rfl rfl i155 rfl ?_
  refine zz_E.c 157 (.int 3) rfl rfl rfl rfl ?_
  refine zz_E.b2 180 160 (A := ¬ ((s.2.2.1 47) (Int32.toNatClampNeg y1)) = 3) rfl (zz_cond_ne _ _) (by decide) rfl rfl (fun c => ?_) (fun c => ?_)
  · exact zz_E.weak (k1 c) rfl ⟨rfl, rfl, rfl, trivial⟩
  · exact zz_E.weak (k2 c) rfl ⟨rfl, rfl, rfl, trivial⟩
theorem mb_352_160 {X : Nat → Option zz_C} {h : zz_H} (hh : 111 ≤ h.length) {s : mS} {d : Nat} {Q : Option Value → zz_H → Prop} {x2 : Int32} {x3 : Int32} (k : zz_E zp_P zt_tf zt_fd X d zm_348 0 [(0, .ref 61), (1, .int 40)] [] (mH h s) (fun v h' => zz_E zp_P zt_tf zt_fd X (d + 1) zm_352 166 [(0, .ref 61), (2, .int x2), (3, .int x3)] (v.toList ++ []) h' Q)) : zz_E zp_P zt_tf zt_fd X (d + 1) zm_352 160 [(0, .ref 61), (2, .int x2), (3, .int x3)] [] (mH h s) Q := by
  refine zz_E.n 161 rfl rfl rfl ?_
  refine zz_E.c 163 (.int 40) rfl rfl rfl rfl ?_
  refine mE_cv hh 166 (as := []) rfl rfl (Nat.le_of_ble_eq_true rfl) (Nat.le_of_ble_eq_true rfl) rfl (Nat.le_of_ble_eq_true rfl) rfl ?_
  refine zz_E.mono k ?_
  intro v h' hE
  exact zz_E.weak hE rfl ⟨rfl, rfl, rfl, trivial⟩
theorem mb_352_166 {X : Nat → Option zz_C} {h : zz_H} (hh : 111 ≤ h.length) {s : mS} {d : Nat} {Q : Option Value → zz_H → Prop} {x2 : Int32} {x3 : Int32} (k : zz_E zp_P zt_tf zt_fd X d zm_294 0 [(0, .ref 61), (1, .int x2), (2, .int x3)] [] (mH h s) (fun v h' => zz_E zp_P zt_tf zt_fd X (d + 1) zm_352 173 [(0, .ref 61)] (v.toList ++ [.ref 61]) h' Q)) : zz_E zp_P zt_tf zt_fd X (d + 1) zm_352 166 [(0, .ref 61), (2, .int x2), (3, .int x3)] [] (mH h s) Q := by
  refine zz_E.n 167 rfl rfl rfl ?_
  refine zz_E.n 168 rfl rfl rfl ?_
  refine zz_E.n 169 rfl rfl rfl ?_
  refine zz_E.n 170 rfl rfl rfl ?_
  refine mE_cv hh 173 (as := [.ref 61]) rfl rfl (Nat.le_of_ble_eq_true rfl) (Nat.le_of_ble_eq_true rfl) rfl (Nat.le_of_ble_eq_true rfl) rfl ?_
  refine zz_E.mono k ?_
  intro v h' hE
  exact zz_E.weak hE rfl ⟨rfl, trivial⟩
theorem mb_352_173 {X : Nat → Option zz_C} {h : zz_H} (hh : 111 ≤ h.length) {s : mS} {d : Nat} {Q : Option Value → zz_H → Prop} {y1 : Int32} (k : zz_E zp_P zt_tf zt_fd X d zm_296 0 [(0, .ref 61), (1, .int y1), (2, .int 0)] [] (mH h s) (fun v h' => zz_E zp_P zt_tf zt_fd X (d + 1) zm_352 177 [(0, .ref 61)] (v.toList ++ []) h' Q)) : zz_E zp_P zt_tf zt_fd X (d + 1) zm_352 173 [(0, .ref 61)] [.int y1, .ref 61] (mH h s) Q := by
  refine zz_E.c 174 (.int 0) rfl rfl rfl rfl ?_
  refine mE_cv hh 177 (as := []) rfl rfl (Nat.le_of_ble_eq_true rfl) (Nat.le_of_ble_eq_true rfl) rfl (Nat.le_of_ble_eq_true rfl) rfl ?_
  refine zz_E.mono k ?_
  intro v h' hE
  exact zz_E.weak hE rfl ⟨rfl, trivial⟩
theorem mb_352_177 {X : Nat → Option zz_C} {h : zz_H} (hh : 111 ≤ h.length) {s : mS} {d : Nat} {Q : Option Value → zz_H → Prop}  (k : zz_E zp_P zt_tf zt_fd X d zm_352 190 [(0, .ref 61)] [] (mH h s) Q) : zz_E zp_P zt_tf zt_fd X d zm_352 177 [(0, .ref 61)] [] (mH h s) Q := by
  refine zz_E.n 190 rfl rfl rfl ?_
  exact zz_E.weak k rfl ⟨rfl, trivial⟩
theorem mb_352_180 {X : Nat → Option zz_C} {h : zz_H} (hh : 111 ≤ h.length) {s : mS} {d : Nat} {Q : Option Value → zz_H → Prop} {x2 : Int32} {x3 : Int32} (k : zz_E zp_P zt_tf zt_fd X d zm_294 0 [(0, .ref 61), (1, .int x2), (2, .int x3)] [] (mH h s) (fun v h' => zz_E zp_P zt_tf zt_fd X (d + 1) zm_352 187 [(0, .ref 61)] (v.toList ++ [.ref 61]) h' Q)) : zz_E zp_P zt_tf zt_fd X (d + 1) zm_352 180 [(0, .ref 61), (2, .int x2), (3, .int x3)] [] (mH h s) Q := by
  refine zz_E.n 181 rfl rfl rfl ?_
  refine zz_E.n 182 rfl rfl rfl ?_
  refine zz_E.n 183 rfl rfl rfl ?_
  refine zz_E.n 184 rfl rfl rfl ?_
  refine mE_cv hh 187 (as := [.ref 61]) rfl rfl (Nat.le_of_ble_eq_true rfl) (Nat.le_of_ble_eq_true rfl) rfl (Nat.le_of_ble_eq_true rfl) rfl ?_
  refine zz_E.mono k ?_
  intro v h' hE
  exact zz_E.weak hE rfl ⟨rfl, trivial⟩
theorem mb_352_187 {X : Nat → Option zz_C} {h : zz_H} (hh : 111 ≤ h.length) {s : mS} {d : Nat} {Q : Option Value → zz_H → Prop} {y1 : Int32} (k : zz_E zp_P zt_tf zt_fd X d zm_351 0 [(0, .ref 61), (1, .int y1)] [] (mH h s) (fun v h' => zz_E zp_P zt_tf zt_fd X (d + 1) zm_352 190 [(0, .ref 61)] (v.toList ++ []) h' Q)) : zz_E zp_P zt_tf zt_fd X (d + 1) zm_352 187 [(0, .ref 61)] [.int y1, .ref 61] (mH h s) Q := by
  refine mE_cv hh 190 (as := []) rfl rfl (Nat.le_of_ble_eq_true rfl) (Nat.le_of_ble_eq_true rfl) rfl (Nat.le_of_ble_eq_true rfl) rfl ?_
  refine zz_E.mono k ?_
  intro v h' hE
  exact zz_E.weak hE rfl ⟨rfl, trivial⟩
theorem mb_352_190 {X : Nat → Option zz_C} {h : zz_H} (hh : 111 ≤ h.length) {s : mS} {d : Nat} {Q : Option Value → zz_H → Prop}  (k : zz_E zp_P zt_tf zt_fd X d zm_352 33 [(0, .ref 61)] [] (mH h s) Q) : zz_E zp_P zt_tf zt_fd X d zm_352 190 [(0, .ref 61)] [] (mH h s) Q := by
  refine zz_E.n 33 rfl rfl rfl ?_
  exact zz_E.weak k rfl ⟨rfl, trivial⟩
theorem mb_352_193 {X : Nat → Option zz_C} {h : zz_H} (hh : 111 ≤ h.length) {s : mS} {d : Nat} {Q : Option Value → zz_H → Prop}  (k : Q none (mH h s)) : zz_E zp_P zt_tf zt_fd X d zm_352 193 [] [] (mH h s) Q := by
  refine zz_E.ret rfl rfl rfl ?_
  exact k
def mf_352_193 (N : Nat)  (s : mS) : mO := some (s, none)
theorem mr_352_193 {X : Nat → Option zz_C} {h : zz_H} (hh : 111 ≤ h.length) {d : Nat} {N : Nat} {Q : Option Value → zz_H → Prop}  {s s' : mS} {v : Option Value} (hf : mf_352_193 N  s = some (s', v)) (k : Q v (mH h s')) : zz_E zp_P zt_tf zt_fd X (d + 4) zm_352 193 [] [] (mH h s) Q := by
  unfold mf_352_193 at hf
  cases hf
  exact mb_352_193 hh  k
def mf_352_79 (N : Nat) (rc : Nat → mS → mO)  (s : mS) : mO := rc 0  (mI s 55 ((s.1 55) - 1))
theorem mr_352_79 {X : Nat → Option zz_C} {h : zz_H} (hh : 111 ≤ h.length) {d : Nat} {N : Nat} {rc : Nat → mS → mO} (hrc0 : ∀ {Q : Option Value → zz_H → Prop}  {s s' : mS} {v : Option Value}, rc 0  s = some (s', v) → Q v (mH h s') → zz_E zp_P zt_tf zt_fd X (d + 4) zm_352 33 [(0, .ref 61)] [] (mH h s) Q) {Q : Option Value → zz_H → Prop}  {s s' : mS} {v : Option Value} (hf : mf_352_79 N rc  s = some (s', v)) (k : Q v (mH h s')) : zz_E zp_P zt_tf zt_fd X (d + 4) zm_352 79 [(0, .ref 61)] [] (mH h s) Q := by
  unfold mf_352_79 at hf
  exact mb_352_79 hh  (hrc0 hf k)
def mf_352_73 (N : Nat) (rc : Nat → mS → mO)  (s : mS) : mO := mo_bv (mf_348 N 41 s) (fun s1 => mf_352_79 N rc  s1)
theorem mr_352_73 {X : Nat → Option zz_C} {h : zz_H} (hh : 111 ≤ h.length) {d : Nat} {N : Nat} {rc : Nat → mS → mO} (hrc0 : ∀ {Q : Option Value → zz_H → Prop}  {s s' : mS} {v : Option Value}, rc 0  s = some (s', v) → Q v (mH h s') → zz_E zp_P zt_tf zt_fd X (d + 4) zm_352 33 [(0, .ref 61)] [] (mH h s) Q) {Q : Option Value → zz_H → Prop}  {s s' : mS} {v : Option Value} (hf : mf_352_73 N rc  s = some (s', v)) (k : Q v (mH h s')) : zz_E zp_P zt_tf zt_fd X (d + 4) zm_352 73 [(0, .ref 61)] [] (mH h s) Q := by
  unfold mf_352_73 at hf
  obtain ⟨s1, e, hf⟩ := mo_bv_ok hf
  exact mb_352_73 (d := d + 3) hh  (mr_348 (d := d + 3) hh e (mr_352_79 hh hrc0 hf k))
def mf_352_190 (N : Nat) (rc : Nat → mS → mO)  (s : mS) : mO := rc 0  s
theorem mr_352_190 {X : Nat → Option zz_C} {h : zz_H} (hh : 111 ≤ h.length) {d : Nat} {N : Nat} {rc : Nat → mS → mO} (hrc0 : ∀ {Q : Option Value → zz_H → Prop}  {s s' : mS} {v : Option Value}, rc 0  s = some (s', v) → Q v (mH h s') → zz_E zp_P zt_tf zt_fd X (d + 4) zm_352 33 [(0, .ref 61)] [] (mH h s) Q) {Q : Option Value → zz_H → Prop}  {s s' : mS} {v : Option Value} (hf : mf_352_190 N rc  s = some (s', v)) (k : Q v (mH h s')) : zz_E zp_P zt_tf zt_fd X (d + 4) zm_352 190 [(0, .ref 61)] [] (mH h s) Q := by
  unfold mf_352_190 at hf
  exact mb_352_190 hh  (hrc0 hf k)
def mf_352_187 (N : Nat) (rc : Nat → mS → mO) (y1 : Int32) (s : mS) : mO := mo_bv (mf_351 N y1 s) (fun s1 => mf_352_190 N rc  s1)
theorem mr_352_187 {X : Nat → Option zz_C} {h : zz_H} (hh : 111 ≤ h.length) {d : Nat} {N : Nat} {rc : Nat → mS → mO} (hrc0 : ∀ {Q : Option Value → zz_H → Prop}  {s s' : mS} {v : Option Value}, rc 0  s = some (s', v) → Q v (mH h s') → zz_E zp_P zt_tf zt_fd X (d + 4) zm_352 33 [(0, .ref 61)] [] (mH h s) Q) {Q : Option Value → zz_H → Prop} {y1 : Int32} {s s' : mS} {v : Option Value} (hf : mf_352_187 N rc y1 s = some (s', v)) (k : Q v (mH h s')) : zz_E zp_P zt_tf zt_fd X (d + 4) zm_352 187 [(0, .ref 61)] [.int y1, .ref 61] (mH h s) Q := by
  unfold mf_352_187 at hf
  obtain ⟨s1, e, hf⟩ := mo_bv_ok hf
  exact mb_352_187 (d := d + 3) hh  (mr_351 (d := d + 0) hh e (mr_352_190 hh hrc0 hf k))
def mf_352_180 (N : Nat) (rc : Nat → mS → mO) (x2 : Int32) (x3 : Int32) (s : mS) : mO := mo_bi (mf_294 N x2 x3 s) (fun s1 y => mf_352_187 N rc y s1)
theorem mr_352_180 {X : Nat → Option zz_C} {h : zz_H} (hh : 111 ≤ h.length) {d : Nat} {N : Nat} {rc : Nat → mS → mO} (hrc0 : ∀ {Q : Option Value → zz_H → Prop}  {s s' : mS} {v : Option Value}, rc 0  s = some (s', v) → Q v (mH h s') → zz_E zp_P zt_tf zt_fd X (d + 4) zm_352 33 [(0, .ref 61)] [] (mH h s) Q) {Q : Option Value → zz_H → Prop} {x2 : Int32} {x3 : Int32} {s s' : mS} {v : Option Value} (hf : mf_352_180 N rc x2 x3 s = some (s', v)) (k : Q v (mH h s')) : zz_E zp_P zt_tf zt_fd X (d + 4) zm_352 180 [(0, .ref 61), (2, .int x2), (3, .int x3)] [] (mH h s) Q := by
  unfold mf_352_180 at hf
  obtain ⟨s1, y, e, hf⟩ := mo_bi_ok hf
  exact mb_352_180 (d := d + 3) hh  (mr_294 (d := d + 3) hh e (mr_352_187 hh hrc0 hf k))
def mf_352_177 (N : Nat) (rc : Nat → mS → mO)  (s : mS) : mO := mf_352_190 N rc  s
theorem mr_352_177 {X : Nat → Option zz_C} {h : zz_H} (hh : 111 ≤ h.length) {d : Nat} {N : Nat} {rc : Nat → mS → mO} (hrc0 : ∀ {Q : Option Value → zz_H → Prop}  {s s' : mS} {v : Option Value}, rc 0  s = some (s', v) → Q v (mH h s') → zz_E zp_P zt_tf zt_fd X (d + 4) zm_352 33 [(0, .ref 61)] [] (mH h s) Q) {Q : Option Value → zz_H → Prop}  {s s' : mS} {v : Option Value} (hf : mf_352_177 N rc  s = some (s', v)) (k : Q v (mH h s')) : zz_E zp_P zt_tf zt_fd X (d + 4) zm_352 177 [(0, .ref 61)] [] (mH h s) Q := by
  unfold mf_352_177 at hf
  exact mb_352_177 hh  (mr_352_190 hh hrc0 hf k)
def mf_352_173 (N : Nat) (rc : Nat → mS → mO) (y1 : Int32) (s : mS) : mO := mo_bv (mf_296 N y1 0 s) (fun s1 => mf_352_177 N rc  s1)
theorem mr_352_173 {X : Nat → Option zz_C} {h : zz_H} (hh : 111 ≤ h.length) {d : Nat} {N : Nat} {rc : Nat → mS → mO} (hrc0 : ∀ {Q : Option Value → zz_H → Prop}  {s s' : mS} {v : Option Value}, rc 0  s = some (s', v) → Q v (mH h s') → zz_E zp_P zt_tf zt_fd X (d + 4) zm_352 33 [(0, .ref 61)] [] (mH h s) Q) {Q : Option Value → zz_H → Prop} {y1 : Int32} {s s' : mS} {v : Option Value} (hf : mf_352_173 N rc y1 s = some (s', v)) (k : Q v (mH h s')) : zz_E zp_P zt_tf zt_fd X (d + 4) zm_352 173 [(0, .ref 61)] [.int y1, .ref 61] (mH h s) Q := by
  unfold mf_352_173 at hf
  obtain ⟨s1, e, hf⟩ := mo_bv_ok hf
  exact mb_352_173 (d := d + 3) hh  (mr_296 (d := d + 3) hh e (mr_352_177 hh hrc0 hf k))
def mf_352_166 (N : Nat) (rc : Nat → mS → mO) (x2 : Int32) (x3 : Int32) (s : mS) : mO := mo_bi (mf_294 N x2 x3 s) (fun s1 y => mf_352_173 N rc y s1)
theorem mr_352_166 {X : Nat → Option zz_C} {h : zz_H} (hh : 111 ≤ h.length) {d : Nat} {N : Nat} {rc : Nat → mS → mO} (hrc0 : ∀ {Q : Option Value → zz_H → Prop}  {s s' : mS} {v : Option Value}, rc 0  s = some (s', v) → Q v (mH h s') → zz_E zp_P zt_tf zt_fd X (d + 4) zm_352 33 [(0, .ref 61)] [] (mH h s) Q) {Q : Option Value → zz_H → Prop} {x2 : Int32} {x3 : Int32} {s s' : mS} {v : Option Value} (hf : mf_352_166 N rc x2 x3 s = some (s', v)) (k : Q v (mH h s')) : zz_E zp_P zt_tf zt_fd X (d + 4) zm_352 166 [(0, .ref 61), (2, .int x2), (3, .int x3)] [] (mH h s) Q := by
  unfold mf_352_166 at hf
  obtain ⟨s1, y, e, hf⟩ := mo_bi_ok hf
  exact mb_352_166 (d := d + 3) hh  (mr_294 (d := d + 3) hh e (mr_352_173 hh hrc0 hf k))
def mf_352_160 (N : Nat) (rc : Nat → mS → mO) (x2 : Int32) (x3 : Int32) (s : mS) : mO := mo_bv (mf_348 N 40 s) (fun s1 => mf_352_166 N rc x2 x3 s1)
theorem mr_352_160 {X : Nat → Option zz_C} {h : zz_H} (hh : 111 ≤ h.length) {d : Nat} {N : Nat} {rc : Nat → mS → mO} (hrc0 : ∀ {Q : Option Value → zz_H → Prop}  {s s' : mS} {v : Option Value}, rc 0  s = some (s', v) → Q v (mH h s') → zz_E zp_P zt_tf zt_fd X (d + 4) zm_352 33 [(0, .ref 61)] [] (mH h s) Q) {Q : Option Value → zz_H → Prop} {x2 : Int32} {x3 : Int32} {s s' : mS} {v : Option Value} (hf : mf_352_160 N rc x2 x3 s = some (s', v)) (k : Q v (mH h s')) : zz_E zp_P zt_tf zt_fd X (d + 4) zm_352 160 [(0, .ref 61), (2, .int x2), (3, .int x3)] [] (mH h s) Q := by
  unfold mf_352_160 at hf
  obtain ⟨s1, e, hf⟩ := mo_bv_ok hf
  exact mb_352_160 (d := d + 3) hh  (mr_348 (d := d + 3) hh e (mr_352_166 hh hrc0 hf k))
def mf_352_155 (N : Nat) (rc : Nat → mS → mO) (x2 : Int32) (x3 : Int32) (y1 : Int32) (s : mS) : mO := if ¬ (y1 < 0 ∨ 166300 ≤ Int32.toNatClampNeg y1) then (if ¬ ((s.2.2.1 47) (Int32.toNatClampNeg y1)) = 3 then mf_352_180 N rc x2 x3 s else mf_352_160 N rc x2 x3 s) else none
theorem mr_352_155 {X : Nat → Option zz_C} {h : zz_H} (hh : 111 ≤ h.length) {d : Nat} {N : Nat} {rc : Nat → mS → mO} (hrc0 : ∀ {Q : Option Value → zz_H → Prop}  {s s' : mS} {v : Option Value}, rc 0  s = some (s', v) → Q v (mH h s') → zz_E zp_P zt_tf zt_fd X (d + 4) zm_352 33 [(0, .ref 61)] [] (mH h s) Q) {Q : Option Value → zz_H → Prop} {x2 : Int32} {x3 : Int32} {y1 : Int32} {s s' : mS} {v : Option Value} (hf : mf_352_155 N rc x2 x3 y1 s = some (s', v)) (k : Q v (mH h s')) : zz_E zp_P zt_tf zt_fd X (d + 4) zm_352 155 [(0, .ref 61), (2, .int x2), (3, .int x3)] [.int y1, .ref 89] (mH h s) Q := by
  unfold mf_352_155 at hf
  obtain ⟨q0, hf⟩ := mo_if hf
  refine mb_352_155 hh q0 (fun c => ?_) (fun c => ?_)
  · rw [if_pos c] at hf
    exact mr_352_180 hh hrc0 hf k
  · rw [if_neg c] at hf
    exact mr_352_160 hh hrc0 hf k
def mf_352_145 (N : Nat) (rc : Nat → mS → mO) (x2 : Int32) (x3 : Int32) (s : mS) : mO := mo_bi (mf_294 N x2 x3 s) (fun s1 y => mf_352_155 N rc x2 x3 y s1)
theorem mr_352_145 {X : Nat → Option zz_C} {h : zz_H} (hh : 111 ≤ h.length) {d : Nat} {N : Nat} {rc : Nat → mS → mO} (hrc0 : ∀ {Q : Option Value → zz_H → Prop}  {s s' : mS} {v : Option Value}, rc 0  s = some (s', v) → Q v (mH h s') → zz_E zp_P zt_tf zt_fd X (d + 4) zm_352 33 [(0, .ref 61)] [] (mH h s) Q) {Q : Option Value → zz_H → Prop} {x2 : Int32} {x3 : Int32} {s s' : mS} {v : Option Value} (hf : mf_352_145 N rc x2 x3 s = some (s', v)) (k : Q v (mH h s')) : zz_E zp_P zt_tf zt_fd X (d + 4) zm_352 145 [(0, .ref 61), (2, .int x2), (3, .int x3)] [] (mH h s) Q := by
  unfold mf_352_145 at hf
  obtain ⟨s1, y, e, hf⟩ := mo_bi_ok hf
  exact mb_352_145 (d := d + 3) hh  (mr_294 (d := d + 3) hh e (mr_352_155 hh hrc0 hf k))
def mf_352_142 (N : Nat) (rc : Nat → mS → mO)  (s : mS) : mO := mf_352_190 N rc  s
theorem mr_352_142 {X : Nat → Option zz_C} {h : zz_H} (hh : 111 ≤ h.length) {d : Nat} {N : Nat} {rc : Nat → mS → mO} (hrc0 : ∀ {Q : Option Value → zz_H → Prop}  {s s' : mS} {v : Option Value}, rc 0  s = some (s', v) → Q v (mH h s') → zz_E zp_P zt_tf zt_fd X (d + 4) zm_352 33 [(0, .ref 61)] [] (mH h s) Q) {Q : Option Value → zz_H → Prop}  {s s' : mS} {v : Option Value} (hf : mf_352_142 N rc  s = some (s', v)) (k : Q v (mH h s')) : zz_E zp_P zt_tf zt_fd X (d + 4) zm_352 142 [(0, .ref 61)] [] (mH h s) Q := by
  unfold mf_352_142 at hf
  exact mb_352_142 hh  (mr_352_190 hh hrc0 hf k)
def mf_352_126 (N : Nat) (rc : Nat → mS → mO) (x2 : Int32) (x3 : Int32) (s : mS) : mO := if ¬ (((x2 + 3) + (2 * x3)) < 0 ∨ 166300 ≤ Int32.toNatClampNeg ((x2 + 3) + (2 * x3))) then (mo_bv (mf_349 N ((s.2.2.1 47) (Int32.toNatClampNeg ((x2 + 3) + (2 * x3)))) s) (fun s1 => mf_352_142 N rc  s1)) else none
theorem mr_352_126 {X : Nat → Option zz_C} {h : zz_H} (hh : 111 ≤ h.length) {d : Nat} {N : Nat} {rc : Nat → mS → mO} (hrc0 : ∀ {Q : Option Value → zz_H → Prop}  {s s' : mS} {v : Option Value}, rc 0  s = some (s', v) → Q v (mH h s') → zz_E zp_P zt_tf zt_fd X (d + 4) zm_352 33 [(0, .ref 61)] [] (mH h s) Q) {Q : Option Value → zz_H → Prop} {x2 : Int32} {x3 : Int32} {s s' : mS} {v : Option Value} (hf : mf_352_126 N rc x2 x3 s = some (s', v)) (k : Q v (mH h s')) : zz_E zp_P zt_tf zt_fd X (d + 4) zm_352 126 [(0, .ref 61), (2, .int x2), (3, .int x3)] [] (mH h s) Q := by
  unfold mf_352_126 at hf
  obtain ⟨q0, hf⟩ := mo_if hf
  obtain ⟨s1, e, hf⟩ := mo_bv_ok hf
  exact mb_352_126 (d := d + 3) hh q0 (mr_349 (d := d + 2) hh e (mr_352_142 hh hrc0 hf k))
def mf_352_123 (N : Nat) (rc : Nat → mS → mO) (x2 : Int32) (x3 : Int32) (y0 : Int32) (s : mS) : mO := if y0 = 0 then mf_352_145 N rc x2 x3 s else mf_352_126 N rc x2 x3 s
theorem mr_352_123 {X : Nat → Option zz_C} {h : zz_H} (hh : 111 ≤ h.length) {d : Nat} {N : Nat} {rc : Nat → mS → mO} (hrc0 : ∀ {Q : Option Value → zz_H → Prop}  {s s' : mS} {v : Option Value}, rc 0  s = some (s', v) → Q v (mH h s') → zz_E zp_P zt_tf zt_fd X (d + 4) zm_352 33 [(0, .ref 61)] [] (mH h s) Q) {Q : Option Value → zz_H → Prop} {x2 : Int32} {x3 : Int32} {y0 : Int32} {s s' : mS} {v : Option Value} (hf : mf_352_123 N rc x2 x3 y0 s = some (s', v)) (k : Q v (mH h s')) : zz_E zp_P zt_tf zt_fd X (d + 4) zm_352 123 [(0, .ref 61), (2, .int x2), (3, .int x3)] [.int y0] (mH h s) Q := by
  unfold mf_352_123 at hf
  refine mb_352_123 hh  (fun c => ?_) (fun c => ?_)
  · rw [if_pos c] at hf
    exact mr_352_145 hh hrc0 hf k
  · rw [if_neg c] at hf
    exact mr_352_126 hh hrc0 hf k
def mf_352_117 (N : Nat) (rc : Nat → mS → mO) (x2 : Int32) (x3 : Int32) (s : mS) : mO := mo_bi (mf_293 N x2 x3 s) (fun s1 y => mf_352_123 N rc x2 x3 y s1)
theorem mr_352_117 {X : Nat → Option zz_C} {h : zz_H} (hh : 111 ≤ h.length) {d : Nat} {N : Nat} {rc : Nat → mS → mO} (hrc0 : ∀ {Q : Option Value → zz_H → Prop}  {s s' : mS} {v : Option Value}, rc 0  s = some (s', v) → Q v (mH h s') → zz_E zp_P zt_tf zt_fd X (d + 4) zm_352 33 [(0, .ref 61)] [] (mH h s) Q) {Q : Option Value → zz_H → Prop} {x2 : Int32} {x3 : Int32} {s s' : mS} {v : Option Value} (hf : mf_352_117 N rc x2 x3 s = some (s', v)) (k : Q v (mH h s')) : zz_E zp_P zt_tf zt_fd X (d + 4) zm_352 117 [(0, .ref 61), (2, .int x2), (3, .int x3)] [] (mH h s) Q := by
  unfold mf_352_117 at hf
  obtain ⟨s1, y, e, hf⟩ := mo_bi_ok hf
  exact mb_352_117 (d := d + 3) hh  (mr_293 (d := d + 3) hh e (mr_352_123 hh hrc0 hf k))
def mf_352_111 (N : Nat) (rc : Nat → mS → mO) (x2 : Int32) (x3 : Int32) (s : mS) : mO := mo_bv (mf_348 N 59 s) (fun s1 => mf_352_117 N rc x2 x3 s1)
theorem mr_352_111 {X : Nat → Option zz_C} {h : zz_H} (hh : 111 ≤ h.length) {d : Nat} {N : Nat} {rc : Nat → mS → mO} (hrc0 : ∀ {Q : Option Value → zz_H → Prop}  {s s' : mS} {v : Option Value}, rc 0  s = some (s', v) → Q v (mH h s') → zz_E zp_P zt_tf zt_fd X (d + 4) zm_352 33 [(0, .ref 61)] [] (mH h s) Q) {Q : Option Value → zz_H → Prop} {x2 : Int32} {x3 : Int32} {s s' : mS} {v : Option Value} (hf : mf_352_111 N rc x2 x3 s = some (s', v)) (k : Q v (mH h s')) : zz_E zp_P zt_tf zt_fd X (d + 4) zm_352 111 [(0, .ref 61), (2, .int x2), (3, .int x3)] [] (mH h s) Q := by
  unfold mf_352_111 at hf
  obtain ⟨s1, e, hf⟩ := mo_bv_ok hf
  exact mb_352_111 (d := d + 3) hh  (mr_348 (d := d + 3) hh e (mr_352_117 hh hrc0 hf k))
def mf_352_92 (N : Nat) (rc : Nat → mS → mO) (x2 : Int32) (x3 : Int32) (s : mS) : mO := if ¬ (((s.1 55) - 1) < 0 ∨ 8 ≤ Int32.toNatClampNeg ((s.1 55) - 1)) then (if ¬ (((s.1 55) - 1) < 0 ∨ 8 ≤ Int32.toNatClampNeg ((s.1 55) - 1)) then (if x3 ≤ 0 then mf_352_117 N rc x2 x3 (mA s 54 (upd (s.2.2.1 54) (Int32.toNatClampNeg ((s.1 55) - 1)) (((s.2.2.1 54) (Int32.toNatClampNeg ((s.1 55) - 1))) + 1))) else mf_352_111 N rc x2 x3 (mA s 54 (upd (s.2.2.1 54) (Int32.toNatClampNeg ((s.1 55) - 1)) (((s.2.2.1 54) (Int32.toNatClampNeg ((s.1 55) - 1))) + 1)))) else none) else none
theorem mr_352_92 {X : Nat → Option zz_C} {h : zz_H} (hh : 111 ≤ h.length) {d : Nat} {N : Nat} {rc : Nat → mS → mO} (hrc0 : ∀ {Q : Option Value → zz_H → Prop}  {s s' : mS} {v : Option Value}, rc 0  s = some (s', v) → Q v (mH h s') → zz_E zp_P zt_tf zt_fd X (d + 4) zm_352 33 [(0, .ref 61)] [] (mH h s) Q) {Q : Option Value → zz_H → Prop} {x2 : Int32} {x3 : Int32} {s s' : mS} {v : Option Value} (hf : mf_352_92 N rc x2 x3 s = some (s', v)) (k : Q v (mH h s')) : zz_E zp_P zt_tf zt_fd X (d + 4) zm_352 92 [(0, .ref 61), (2, .int x2), (3, .int x3)] [] (mH h s) Q := by
  unfold mf_352_92 at hf
  obtain ⟨q0, hf⟩ := mo_if hf
  obtain ⟨q1, hf⟩ := mo_if hf
  refine mb_352_92 hh q0 q1 (fun c => ?_) (fun c => ?_)
  · rw [if_pos c] at hf
    exact mr_352_117 hh hrc0 hf k
  · rw [if_neg c] at hf
    exact mr_352_111 hh hrc0 hf k
def mf_352_70 (N : Nat) (rc : Nat → mS → mO) (x2 : Int32) (x3 : Int32) (y0 : Int32) (y1 : Int32) (s : mS) : mO := if ¬ y0 = y1 then mf_352_92 N rc x2 x3 s else mf_352_73 N rc  s
theorem mr_352_70 {X : Nat → Option zz_C} {h : zz_H} (hh : 111 ≤ h.length) {d : Nat} {N : Nat} {rc : Nat → mS → mO} (hrc0 : ∀ {Q : Option Value → zz_H → Prop}  {s s' : mS} {v : Option Value}, rc 0  s = some (s', v) → Q v (mH h s') → zz_E zp_P zt_tf zt_fd X (d + 4) zm_352 33 [(0, .ref 61)] [] (mH h s) Q) {Q : Option Value → zz_H → Prop} {x2 : Int32} {x3 : Int32} {y0 : Int32} {y1 : Int32} {s s' : mS} {v : Option Value} (hf : mf_352_70 N rc x2 x3 y0 y1 s = some (s', v)) (k : Q v (mH h s')) : zz_E zp_P zt_tf zt_fd X (d + 4) zm_352 70 [(0, .ref 61), (2, .int x2), (3, .int x3)] [.int y1, .int y0] (mH h s) Q := by
  unfold mf_352_70 at hf
  refine mb_352_70 hh  (fun c => ?_) (fun c => ?_)
  · rw [if_pos c] at hf
    exact mr_352_92 hh hrc0 hf k
  · rw [if_neg c] at hf
    exact mr_352_73 hh hrc0 hf k
def mf_352_40 (N : Nat) (rc : Nat → mS → mO)  (s : mS) : mO := if ¬ (((s.1 55) - 1) < 0 ∨ 8 ≤ Int32.toNatClampNeg ((s.1 55) - 1)) then (if ¬ (((s.1 55) - 1) < 0 ∨ 8 ≤ Int32.toNatClampNeg ((s.1 55) - 1)) then (mo_bi (mf_77 N ((s.2.2.1 52) (Int32.toNatClampNeg ((s.1 55) - 1))) s) (fun s1 y => mf_352_70 N rc ((s.2.2.1 52) (Int32.toNatClampNeg ((s.1 55) - 1))) ((s.2.2.1 54) (Int32.toNatClampNeg ((s.1 55) - 1))) ((s.2.2.1 54) (Int32.toNatClampNeg ((s.1 55) - 1))) y s1)) else none) else none
theorem mr_352_40 {X : Nat → Option zz_C} {h : zz_H} (hh : 111 ≤ h.length) {d : Nat} {N : Nat} {rc : Nat → mS → mO} (hrc0 : ∀ {Q : Option Value → zz_H → Prop}  {s s' : mS} {v : Option Value}, rc 0  s = some (s', v) → Q v (mH h s') → zz_E zp_P zt_tf zt_fd X (d + 4) zm_352 33 [(0, .ref 61)] [] (mH h s) Q) {Q : Option Value → zz_H → Prop}  {s s' : mS} {v : Option Value} (hf : mf_352_40 N rc  s = some (s', v)) (k : Q v (mH h s')) : zz_E zp_P zt_tf zt_fd X (d + 4) zm_352 40 [(0, .ref 61)] [] (mH h s) Q := by
  unfold mf_352_40 at hf
  obtain ⟨q0, hf⟩ := mo_if hf
  obtain ⟨q1, hf⟩ := mo_if hf
  obtain ⟨s1, y, e, hf⟩ := mo_bi_ok hf
  exact mb_352_40 (d := d + 3) hh q0 q1 (mr_77 (d := d + 3) hh e (mr_352_70 hh hrc0 hf k))
def mf_352_33 (N : Nat) (rc : Nat → mS → mO)  (s : mS) : mO := if (s.1 55) ≤ 0 then mf_352_193 N  s else mf_352_40 N rc  s
theorem mr_352_33 {X : Nat → Option zz_C} {h : zz_H} (hh : 111 ≤ h.length) {d : Nat} {N : Nat} {rc : Nat → mS → mO} (hrc0 : ∀ {Q : Option Value → zz_H → Prop}  {s s' : mS} {v : Option Value}, rc 0  s = some (s', v) → Q v (mH h s') → zz_E zp_P zt_tf zt_fd X (d + 4) zm_352 33 [(0, .ref 61)] [] (mH h s) Q) {Q : Option Value → zz_H → Prop}  {s s' : mS} {v : Option Value} (hf : mf_352_33 N rc  s = some (s', v)) (k : Q v (mH h s')) : zz_E zp_P zt_tf zt_fd X (d + 4) zm_352 33 [(0, .ref 61)] [] (mH h s) Q := by
  unfold mf_352_33 at hf
  refine mb_352_33 hh  (fun c => ?_) (fun c => ?_)
  · rw [if_pos c] at hf
    exact mr_352_193 hh hf k
  · rw [if_neg c] at hf
    exact mr_352_40 hh hrc0 hf k
def mf_352_L1 (N : Nat) : Nat → Nat → mS → mO
  | 0, _, _ => none
  | n + 1, l, s => if l = 0 then mf_352_33 N (mf_352_L1 N n)  s else none
theorem mr_352_L1 {X : Nat → Option zz_C} {h : zz_H} (hh : 111 ≤ h.length) {d : Nat} {N : Nat} : ∀ n : Nat, (∀ {Q : Option Value → zz_H → Prop}  {s s' : mS} {v : Option Value}, mf_352_L1 N n 0  s = some (s', v) → Q v (mH h s') → zz_E zp_P zt_tf zt_fd X (d + 4) zm_352 33 [(0, .ref 61)] [] (mH h s) Q) := by
  intro n
  induction n with
  | zero => exact (fun hf _ => by cases hf)
  | succ n ih =>
    have h0 := @ih
    intro Q  s s' v hf k
    unfold mf_352_L1 at hf
    rw [if_pos rfl] at hf
    exact mr_352_33 hh h0 hf k
def mf_352_22 (N : Nat) (x1 : Int32) (s : mS) : mO := mo_bv (mf_296 N x1 0 (mI s 55 0)) (fun s1 => mf_352_L1 N N 0  s1)
theorem mr_352_22 {X : Nat → Option zz_C} {h : zz_H} (hh : 111 ≤ h.length) {d : Nat} {N : Nat} {Q : Option Value → zz_H → Prop} {x1 : Int32} {s s' : mS} {v : Option Value} (hf : mf_352_22 N x1 s = some (s', v)) (k : Q v (mH h s')) : zz_E zp_P zt_tf zt_fd X (d + 4) zm_352 22 [(0, .ref 61), (1, .int x1)] [] (mH h s) Q := by
  unfold mf_352_22 at hf
  obtain ⟨s1, e, hf⟩ := mo_bv_ok hf
  exact mb_352_22 (d := d + 3) hh  (mr_296 (d := d + 3) hh e (mr_352_L1 hh N hf k))
def mf_352_16 (N : Nat) (x1 : Int32) (s : mS) : mO := mo_bv (mf_348 N 40 s) (fun s1 => mf_352_22 N x1 s1)
theorem mr_352_16 {X : Nat → Option zz_C} {h : zz_H} (hh : 111 ≤ h.length) {d : Nat} {N : Nat} {Q : Option Value → zz_H → Prop} {x1 : Int32} {s s' : mS} {v : Option Value} (hf : mf_352_16 N x1 s = some (s', v)) (k : Q v (mH h s')) : zz_E zp_P zt_tf zt_fd X (d + 4) zm_352 16 [(0, .ref 61), (1, .int x1)] [] (mH h s) Q := by
  unfold mf_352_16 at hf
  obtain ⟨s1, e, hf⟩ := mo_bv_ok hf
  exact mb_352_16 (d := d + 3) hh  (mr_348 (d := d + 3) hh e (mr_352_22 hh hf k))
def mf_352_15 (N : Nat)  (s : mS) : mO := some (s, none)
theorem mr_352_15 {X : Nat → Option zz_C} {h : zz_H} (hh : 111 ≤ h.length) {d : Nat} {N : Nat} {Q : Option Value → zz_H → Prop}  {s s' : mS} {v : Option Value} (hf : mf_352_15 N  s = some (s', v)) (k : Q v (mH h s')) : zz_E zp_P zt_tf zt_fd X (d + 4) zm_352 15 [] [] (mH h s) Q := by
  unfold mf_352_15 at hf
  cases hf
  exact mb_352_15 hh  k
def mf_352_10 (N : Nat) (x1 : Int32) (s : mS) : mO := mo_bv (mf_351 N x1 s) (fun s1 => mf_352_15 N  s1)
theorem mr_352_10 {X : Nat → Option zz_C} {h : zz_H} (hh : 111 ≤ h.length) {d : Nat} {N : Nat} {Q : Option Value → zz_H → Prop} {x1 : Int32} {s s' : mS} {v : Option Value} (hf : mf_352_10 N x1 s = some (s', v)) (k : Q v (mH h s')) : zz_E zp_P zt_tf zt_fd X (d + 4) zm_352 10 [(0, .ref 61), (1, .int x1)] [] (mH h s) Q := by
  unfold mf_352_10 at hf
  obtain ⟨s1, e, hf⟩ := mo_bv_ok hf
  exact mb_352_10 (d := d + 3) hh  (mr_351 (d := d + 0) hh e (mr_352_15 hh hf k))
def mf_352_0 (N : Nat) (x1 : Int32) (s : mS) : mO := if ¬ (x1 < 0 ∨ 166300 ≤ Int32.toNatClampNeg x1) then (if ((s.2.2.1 47) (Int32.toNatClampNeg x1)) = 3 then mf_352_16 N x1 s else mf_352_10 N x1 s) else none
theorem mr_352_0 {X : Nat → Option zz_C} {h : zz_H} (hh : 111 ≤ h.length) {d : Nat} {N : Nat} {Q : Option Value → zz_H → Prop} {x1 : Int32} {s s' : mS} {v : Option Value} (hf : mf_352_0 N x1 s = some (s', v)) (k : Q v (mH h s')) : zz_E zp_P zt_tf zt_fd X (d + 4) zm_352 0 [(0, .ref 61), (1, .int x1)] [] (mH h s) Q := by
  unfold mf_352_0 at hf
  obtain ⟨q0, hf⟩ := mo_if hf
  refine mb_352_0 hh q0 (fun c => ?_) (fun c => ?_)
  · rw [if_pos c] at hf
    exact mr_352_16 hh hf k
  · rw [if_neg c] at hf
    exact mr_352_10 hh hf k
/-- form -/
def mf_352 (N : Nat) (x1 : Int32) (s : mS) : mO := mf_352_0 N x1 s
theorem mr_352 {X : Nat → Option zz_C} {h : zz_H} (hh : 111 ≤ h.length) {d : Nat} {N : Nat} {Q : Option Value → zz_H → Prop} {x1 : Int32} {s s' : mS} {v : Option Value} (hf : mf_352 N x1 s = some (s', v)) (k : Q v (mH h s')) : zz_E zp_P zt_tf zt_fd X (d + 4) zm_352 0 [(0, .ref 61), (1, .int x1)] [] (mH h s) Q := by
  unfold mf_352 at hf
  exact zz_E.weak (mr_352_0 hh hf k) rfl ⟨rfl, rfl, trivial⟩
/-! ofOne (I)V -/
theorem mb_314_0 {X : Nat → Option zz_C} {h : zz_H} (hh : 111 ≤ h.length) {s : mS} {d : Nat} {Q : Option Value → zz_H → Prop} {x1 : Int32} (i5 : ¬ (x1 < 0 ∨ 8000 ≤ Int32.toNatClampNeg x1)) (k1 : ((s.2.2.1 23) (Int32.toNatClampNeg x1)) = 14 → zz_E zp_P zt_tf zt_fd X d zm_314 19 [(0, .ref 61), (1, .int x1), (2, .int ((s.2.2.1 23) (Int32.toNatClampNeg x1)))] [] (mH h s) Q) (k2 : ¬ ((s.2.2.1 23) (Int32.toNatClampNeg x1)) = 14 → zz_E zp_P zt_tf zt_fd X d zm_314 13 [(0, .ref 61), (1, .int x1), (2, .int ((s.2.2.1 23) (Int32.toNatClampNeg x1)))] [] (mH h s) Q) : zz_E zp_P zt_tf zt_fd X d zm_314 0 [(0, .ref 61), (1, .int x1)] [] (mH h s) Q := by
  refine zz_E.n 1 rfl rfl rfl ?_
  refine mE_g hh 4 (v := .ref 71) rfl rfl rfl ?_
  refine zz_E.n 5 rfl rfl rfl ?_
  refine mE_ia hh 6 10 (f := (s.2.2.1 23)) rfl (by decide) rfl rfl i5 rfl ?_
  refine zz_E.n 7 rfl rfl rfl ?_
  refine zz_E.n 8 rfl rfl rfl ?_
  refine zz_E.c 10 (.int 14) rfl rfl rfl rfl ?_
  refine zz_E.b2 19 13 (A := ((s.2.2.1 23) (Int32.toNatClampNeg x1)) = 14) rfl rfl (by decide) rfl rfl (fun c => ?_) (fun c => ?_)
  · exact zz_E.weak (k1 c) rfl ⟨rfl, rfl, rfl, trivial⟩
  · exact zz_E.weak (k2 c) rfl ⟨rfl, rfl, rfl, trivial⟩
theorem mb_314_13 {X : Nat → Option zz_C} {h : zz_H} (hh : 111 ≤ h.length) {s : mS} {d : Nat} {Q : Option Value → zz_H → Prop} {x1 : Int32} {x2 : Int32} (k1 : ¬ x2 = 21 → zz_E zp_P zt_tf zt_fd X d zm_314 100 [(0, .ref 61), (2, .int x2)] [] (mH h s) Q) (k2 : ¬ ¬ x2 = 21 → zz_E zp_P zt_tf zt_fd X d zm_314 19 [(0, .ref 61), (1, .int x1), (2, .int x2)] [] (mH h s) Q) : zz_E zp_P zt_tf zt_fd X d zm_314 13 [(0, .ref 61), (1, .int x1), (2, .int x2)] [] (mH h s) Q := by
  refine zz_E.n 14 rfl rfl rfl ?_
  refine zz_E.c 16 (.int 21) rfl rfl rfl rfl ?_
  refine zz_E.b2 100 19 (A := ¬ x2 = 21) rfl (zz_cond_ne _ _) (by decide) rfl rfl (fun c => ?_) (fun c => ?_)
  · exact zz_E.weak (k1 c) rfl ⟨rfl, rfl, trivial⟩
  · exact zz_E.weak (k2 c) rfl ⟨rfl, rfl, rfl, trivial⟩
theorem mb_314_19 {X : Nat → Option zz_C} {h : zz_H} (hh : 111 ≤ h.length) {s : mS} {d : Nat} {Q : Option Value → zz_H → Prop} {x1 : Int32} {x2 : Int32} (i27 : ¬ ((s.1 51) < 0 ∨ 9000 ≤ Int32.toNatClampNeg (s.1 51))) (k1 : ((s.2.2.1 49) (Int32.toNatClampNeg (s.1 51))) = 0 → zz_E zp_P zt_tf zt_fd X d zm_314 43 [(0, .ref 61), (1, .int x1), (2, .int x2)] [] (mH h s) Q) (k2 : ¬ ((s.2.2.1 49) (Int32.toNatClampNeg (s.1 51))) = 0 → zz_E zp_P zt_tf zt_fd X d zm_314 31 [(0, .ref 61)] [] (mH h s) Q) : zz_E zp_P zt_tf zt_fd X d zm_314 19 [(0, .ref 61), (1, .int x1), (2, .int x2)] [] (mH h s) Q := by
  refine zz_E.n 20 rfl rfl rfl ?_
  refine mE_g hh 23 (v := .ref 90) rfl rfl rfl ?_
  refine zz_E.n 24 rfl rfl rfl ?_
  refine mE_g hh 27 (v := .int (s.1 51)) rfl rfl rfl ?_
  refine mE_ia hh 28 29 (f := (s.2.2.1 49)) rfl (by decide) rfl rfl i27 rfl ?_
  refine zz_E.b1 43 31 (A := ((s.2.2.1 49) (Int32.toNatClampNeg (s.1 51))) = 0) rfl rfl (by decide) rfl rfl (fun c => ?_) (fun c => ?_)
  · exact zz_E.weak (k1 c) rfl ⟨rfl, rfl, rfl, trivial⟩
  · exact zz_E.weak (k2 c) rfl ⟨rfl, trivial⟩
theorem mb_314_31 {X : Nat → Option zz_C} {h : zz_H} (hh : 111 ≤ h.length) {s : mS} {d : Nat} {Q : Option Value → zz_H → Prop}  (k : zz_E zp_P zt_tf zt_fd X d zm_301 0 [(0, .ref 61), (1, .int 3), (2, .int (s.1 70))] [] (mH h s) (fun v h' => zz_E zp_P zt_tf zt_fd X (d + 1) zm_314 40 [] (v.toList ++ []) h' Q)) : zz_E zp_P zt_tf zt_fd X (d + 1) zm_314 31 [(0, .ref 61)] [] (mH h s) Q := by
  refine zz_E.n 32 rfl rfl rfl ?_
  refine zz_E.c 33 (.int 3) rfl rfl rfl rfl ?_
  refine zz_E.n 34 rfl rfl rfl ?_
  refine mE_g hh 37 (v := .int (s.1 70)) rfl rfl rfl ?_
  refine mE_cv hh 40 (as := []) rfl rfl (Nat.le_of_ble_eq_true rfl) (Nat.le_of_ble_eq_true rfl) rfl (Nat.le_of_ble_eq_true rfl) rfl ?_
  refine zz_E.mono k ?_
  intro v h' hE
  exact zz_E.weak hE rfl trivial
theorem mb_314_40 {X : Nat → Option zz_C} {h : zz_H} (hh : 111 ≤ h.length) {s : mS} {d : Nat} {Q : Option Value → zz_H → Prop}  (k : zz_E zp_P zt_tf zt_fd X d zm_314 337 [] [] (mH h s) Q) : zz_E zp_P zt_tf zt_fd X d zm_314 40 [] [] (mH h s) Q := by
  refine zz_E.n 337 rfl rfl rfl ?_
  exact zz_E.weak k rfl trivial
theorem mb_314_43 {X : Nat → Option zz_C} {h : zz_H} (hh : 111 ≤ h.length) {s : mS} {d : Nat} {Q : Option Value → zz_H → Prop} {x1 : Int32} {x2 : Int32} (k1 : ¬ x2 = 14 → zz_E zp_P zt_tf zt_fd X d zm_314 74 [(0, .ref 61)] [] (mH h s) Q) (k2 : ¬ ¬ x2 = 14 → zz_E zp_P zt_tf zt_fd X d zm_314 49 [(0, .ref 61), (1, .int x1)] [] (mH h s) Q) : zz_E zp_P zt_tf zt_fd X d zm_314 43 [(0, .ref 61), (1, .int x1), (2, .int x2)] [] (mH h s) Q := by
  refine zz_E.n 44 rfl rfl rfl ?_
  refine zz_E.c 46 (.int 14) rfl rfl rfl rfl ?_
  refine zz_E.b2 74 49 (A := ¬ x2 = 14) rfl (zz_cond_ne _ _) (by decide) rfl rfl (fun c => ?_) (fun c => ?_)
  · exact zz_E.weak (k1 c) rfl ⟨rfl, trivial⟩
  · exact zz_E.weak (k2 c) rfl ⟨rfl, rfl, trivial⟩
theorem mb_314_49 {X : Nat → Option zz_C} {h : zz_H} (hh : 111 ≤ h.length) {s : mS} {d : Nat} {Q : Option Value → zz_H → Prop} {x1 : Int32} (i57 : ¬ ((s.1 51) < 0 ∨ 9000 ≤ Int32.toNatClampNeg (s.1 51))) (k1 : ¬ ((s.2.2.1 50) (Int32.toNatClampNeg (s.1 51))) = 0 → zz_E zp_P zt_tf zt_fd X d zm_314 337 [] [] (mH h s) Q) (k2 : ¬ ¬ ((s.2.2.1 50) (Int32.toNatClampNeg (s.1 51))) = 0 → zz_E zp_P zt_tf zt_fd X d zm_314 61 [(0, .ref 61), (1, .int x1)] [] (mH h s) Q) : zz_E zp_P zt_tf zt_fd X d zm_314 49 [(0, .ref 61), (1, .int x1)] [] (mH h s) Q := by
  refine zz_E.n 50 rfl rfl rfl ?_
  refine mE_g hh 53 (v := .ref 91) rfl rfl rfl ?_
  refine zz_E.n 54 rfl rfl rfl ?_
  refine mE_g hh 57 (v := .int (s.1 51)) rfl rfl rfl ?_
  refine mE_ia hh 58 30 (f := (s.2.2.1 50)) rfl (by decide) rfl rfl i57 rfl ?_
  refine zz_E.b1 337 61 (A := ¬ ((s.2.2.1 50) (Int32.toNatClampNeg (s.1 51))) = 0) rfl (zz_cond_ne _ _) (by decide) rfl rfl (fun c => ?_) (fun c => ?_)
  · exact zz_E.weak (k1 c) rfl trivial
  · exact zz_E.weak (k2 c) rfl ⟨rfl, rfl, trivial⟩
theorem mb_314_61 {X : Nat → Option zz_C} {h : zz_H} (hh : 111 ≤ h.length) {s : mS} {d : Nat} {Q : Option Value → zz_H → Prop} {x1 : Int32} (i67 : ¬ (x1 < 0 ∨ 8000 ≤ Int32.toNatClampNeg x1)) (k : zz_E zp_P zt_tf zt_fd X d zm_314 337 [] [] (mH h (mI s 69 ((s.2.2.1 24) (Int32.toNatClampNeg x1)))) Q) : zz_E zp_P zt_tf zt_fd X d zm_314 61 [(0, .ref 61), (1, .int x1)] [] (mH h s) Q := by
  refine zz_E.n 62 rfl rfl rfl ?_
  refine zz_E.n 63 rfl rfl rfl ?_
  refine mE_g hh 66 (v := .ref 72) rfl rfl rfl ?_
  refine zz_E.n 67 rfl rfl rfl ?_
  refine mE_ia hh 68 11 (f := (s.2.2.1 24)) rfl (by decide) rfl rfl i67 rfl ?_
  refine mE_p hh 71 rfl (by decide) rfl (mF_69 _ _) rfl ?_
  refine zz_E.n 337 rfl rfl rfl ?_
  exact zz_E.weak k rfl trivial
theorem mb_314_74 {X : Nat → Option zz_C} {h : zz_H} (hh : 111 ≤ h.length) {s : mS} {d : Nat} {Q : Option Value → zz_H → Prop}  (i83 : ¬ ((s.1 51) < 0 ∨ 9000 ≤ Int32.toNatClampNeg (s.1 51))) (k : zz_E zp_P zt_tf zt_fd X d zm_301 0 [(0, .ref 61), (1, .int 9), (2, .int (s.1 70))] [] (mH h (mI s 65 ((s.2.2.1 50) (Int32.toNatClampNeg (s.1 51))))) (fun v h' => zz_E zp_P zt_tf zt_fd X (d + 1) zm_314 97 [] (v.toList ++ []) h' Q)) : zz_E zp_P zt_tf zt_fd X (d + 1) zm_314 74 [(0, .ref 61)] [] (mH h s) Q := by
  refine zz_E.n 75 rfl rfl rfl ?_
  refine zz_E.n 76 rfl rfl rfl ?_
  refine mE_g hh 79 (v := .ref 91) rfl rfl rfl ?_
  refine zz_E.n 80 rfl rfl rfl ?_
  refine mE_g hh 83 (v := .int (s.1 51)) rfl rfl rfl ?_
  refine mE_ia hh 84 30 (f := (s.2.2.1 50)) rfl (by decide) rfl rfl i83 rfl ?_
  refine mE_p hh 87 rfl (by decide) rfl (mF_65 _ _) rfl ?_
  refine zz_E.n 88 rfl rfl rfl ?_
  refine zz_E.c 90 (.int 9) rfl rfl rfl rfl ?_
  refine zz_E.n 91 rfl rfl rfl ?_
  refine mE_g hh 94 (v := .int (s.1 70)) rfl rfl rfl ?_
  refine mE_cv hh 97 (as := []) rfl rfl (Nat.le_of_ble_eq_true rfl) (Nat.le_of_ble_eq_true rfl) rfl (Nat.le_of_ble_eq_true rfl) rfl ?_
  refine zz_E.mono k ?_
  intro v h' hE
  exact zz_E.weak hE rfl trivial
theorem mb_314_97 {X : Nat → Option zz_C} {h : zz_H} (hh : 111 ≤ h.length) {s : mS} {d : Nat} {Q : Option Value → zz_H → Prop}  (k : zz_E zp_P zt_tf zt_fd X d zm_314 337 [] [] (mH h s) Q) : zz_E zp_P zt_tf zt_fd X d zm_314 97 [] [] (mH h s) Q := by
  refine zz_E.n 337 rfl rfl rfl ?_
  exact zz_E.weak k rfl trivial
theorem mb_314_100 {X : Nat → Option zz_C} {h : zz_H} (hh : 111 ≤ h.length) {s : mS} {d : Nat} {Q : Option Value → zz_H → Prop} {x2 : Int32} (k1 : ¬ x2 = 17 → zz_E zp_P zt_tf zt_fd X d zm_314 204 [(0, .ref 61), (2, .int x2)] [] (mH h s) Q) (k2 : ¬ ¬ x2 = 17 → zz_E zp_P zt_tf zt_fd X d zm_314 106 [(0, .ref 61)] [] (mH h s) Q) : zz_E zp_P zt_tf zt_fd X d zm_314 100 [(0, .ref 61), (2, .int x2)] [] (mH h s) Q := by
  refine zz_E.n 101 rfl rfl rfl ?_
  refine zz_E.c 103 (.int 17) rfl rfl rfl rfl ?_
  refine zz_E.b2 204 106 (A := ¬ x2 = 17) rfl (zz_cond_ne _ _) (by decide) rfl rfl (fun c => ?_) (fun c => ?_)
  · exact zz_E.weak (k1 c) rfl ⟨rfl, rfl, trivial⟩
  · exact zz_E.weak (k2 c) rfl ⟨rfl, trivial⟩
theorem mb_314_106 {X : Nat → Option zz_C} {h : zz_H} (hh : 111 ≤ h.length) {s : mS} {d : Nat} {Q : Option Value → zz_H → Prop}  (i114 : ¬ ((s.1 51) < 0 ∨ 9000 ≤ Int32.toNatClampNeg (s.1 51))) (k1 : ¬ ((s.2.2.1 49) (Int32.toNatClampNeg (s.1 51))) = 0 → zz_E zp_P zt_tf zt_fd X d zm_314 142 [(0, .ref 61)] [] (mH h s) Q) (k2 : ¬ ¬ ((s.2.2.1 49) (Int32.toNatClampNeg (s.1 51))) = 0 → zz_E zp_P zt_tf zt_fd X d zm_314 118 [(0, .ref 61)] [] (mH h s) Q) : zz_E zp_P zt_tf zt_fd X d zm_314 106 [(0, .ref 61)] [] (mH h s) Q := by
  refine zz_E.n 107 rfl rfl rfl ?_
  refine mE_g hh 110 (v := .ref 90) rfl rfl rfl ?_
  refine zz_E.n 111 rfl rfl rfl ?_
  refine mE_g hh 114 (v := .int (s.1 51)) rfl rfl rfl ?_
  refine mE_ia hh 115 29 (f := (s.2.2.1 49)) rfl (by decide) rfl rfl i114 rfl ?_
  refine zz_E.b1 142 118 (A := ¬ ((s.2.2.1 49) (Int32.toNatClampNeg (s.1 51))) = 0) rfl (zz_cond_ne _ _) (by decide) rfl rfl (fun c => ?_) (fun c => ?_)
  · exact zz_E.weak (k1 c) rfl ⟨rfl, trivial⟩
  · exact zz_E.weak (k2 c) rfl ⟨rfl, trivial⟩
theorem mb_314_118 {X : Nat → Option zz_C} {h : zz_H} (hh : 111 ≤ h.length) {s : mS} {d : Nat} {Q : Option Value → zz_H → Prop}  (i126 : ¬ ((s.1 51) < 0 ∨ 9000 ≤ Int32.toNatClampNeg (s.1 51))) (k1 : 0 ≤ ((s.2.2.1 50) (Int32.toNatClampNeg (s.1 51))) → zz_E zp_P zt_tf zt_fd X d zm_314 142 [(0, .ref 61)] [] (mH h s) Q) (k2 : ¬ 0 ≤ ((s.2.2.1 50) (Int32.toNatClampNeg (s.1 51))) → zz_E zp_P zt_tf zt_fd X d zm_314 130 [(0, .ref 61)] [] (mH h s) Q) : zz_E zp_P zt_tf zt_fd X d zm_314 118 [(0, .ref 61)] [] (mH h s) Q := by
  refine zz_E.n 119 rfl rfl rfl ?_
  refine mE_g hh 122 (v := .ref 91) rfl rfl rfl ?_
  refine zz_E.n 123 rfl rfl rfl ?_
  refine mE_g hh 126 (v := .int (s.1 51)) rfl rfl rfl ?_
  refine mE_ia hh 127 30 (f := (s.2.2.1 50)) rfl (by decide) rfl rfl i126 rfl ?_
  refine zz_E.b1 142 130 (A := 0 ≤ ((s.2.2.1 50) (Int32.toNatClampNeg (s.1 51)))) rfl rfl (by decide) rfl rfl (fun c => ?_) (fun c => ?_)
  · exact zz_E.weak (k1 c) rfl ⟨rfl, trivial⟩
  · exact zz_E.weak (k2 c) rfl ⟨rfl, trivial⟩
theorem mb_314_130 {X : Nat → Option zz_C} {h : zz_H} (hh : 111 ≤ h.length) {s : mS} {d : Nat} {Q : Option Value → zz_H → Prop}  (k : zz_E zp_P zt_tf zt_fd X d zm_301 0 [(0, .ref 61), (1, .int 1), (2, .int (s.1 70))] [] (mH h s) (fun v h' => zz_E zp_P zt_tf zt_fd X (d + 1) zm_314 139 [] (v.toList ++ []) h' Q)) : zz_E zp_P zt_tf zt_fd X (d + 1) zm_314 130 [(0, .ref 61)] [] (mH h s) Q := by
  refine zz_E.n 131 rfl rfl rfl ?_
  refine zz_E.c 132 (.int 1) rfl rfl rfl rfl ?_
  refine zz_E.n 133 rfl rfl rfl ?_
  refine mE_g hh 136 (v := .int (s.1 70)) rfl rfl rfl ?_
  refine mE_cv hh 139 (as := []) rfl rfl (Nat.le_of_ble_eq_true rfl) (Nat.le_of_ble_eq_true rfl) rfl (Nat.le_of_ble_eq_true rfl) rfl ?_
  refine zz_E.mono k ?_
  intro v h' hE
  exact zz_E.weak hE rfl trivial
theorem mb_314_139 {X : Nat → Option zz_C} {h : zz_H} (hh : 111 ≤ h.length) {s : mS} {d : Nat} {Q : Option Value → zz_H → Prop}  (k : zz_E zp_P zt_tf zt_fd X d zm_314 337 [] [] (mH h s) Q) : zz_E zp_P zt_tf zt_fd X d zm_314 139 [] [] (mH h s) Q := by
  refine zz_E.n 337 rfl rfl rfl ?_
  exact zz_E.weak k rfl trivial
theorem mb_314_142 {X : Nat → Option zz_C} {h : zz_H} (hh : 111 ≤ h.length) {s : mS} {d : Nat} {Q : Option Value → zz_H → Prop}  (i150 : ¬ ((s.1 51) < 0 ∨ 9000 ≤ Int32.toNatClampNeg (s.1 51))) (k1 : ¬ ((s.2.2.1 49) (Int32.toNatClampNeg (s.1 51))) = 0 → zz_E zp_P zt_tf zt_fd X d zm_314 173 [(0, .ref 61)] [] (mH h s) Q) (k2 : ¬ ¬ ((s.2.2.1 49) (Int32.toNatClampNeg (s.1 51))) = 0 → zz_E zp_P zt_tf zt_fd X d zm_314 154 [(0, .ref 61)] [] (mH h s) Q) : zz_E zp_P zt_tf zt_fd X d zm_314 142 [(0, .ref 61)] [] (mH h s) Q := by
  refine zz_E.n 143 rfl rfl rfl ?_
  refine mE_g hh 146 (v := .ref 90) rfl rfl rfl ?_
  refine zz_E.n 147 rfl rfl rfl ?_
  refine mE_g hh 150 (v := .int (s.1 51)) rfl rfl rfl ?_
  refine mE_ia hh 151 29 (f := (s.2.2.1 49)) rfl (by decide) rfl rfl i150 rfl ?_
  refine zz_E.b1 173 154 (A := ¬ ((s.2.2.1 49) (Int32.toNatClampNeg (s.1 51))) = 0) rfl (zz_cond_ne _ _) (by decide) rfl rfl (fun c => ?_) (fun c => ?_)
  · exact zz_E.weak (k1 c) rfl ⟨rfl, trivial⟩
  · exact zz_E.weak (k2 c) rfl ⟨rfl, trivial⟩
theorem mb_314_154 {X : Nat → Option zz_C} {h : zz_H} (hh : 111 ≤ h.length) {s : mS} {d : Nat} {Q : Option Value → zz_H → Prop}  (i165 : ¬ ((s.1 51) < 0 ∨ 9000 ≤ Int32.toNatClampNeg (s.1 51))) (k : zz_E zp_P zt_tf zt_fd X d zm_311 0 [(0, .ref 61), (1, .int 1), (2, .int (-1)), (3, .int ((s.2.2.1 50) (Int32.toNatClampNeg (s.1 51)))), (4, .int 0)] [] (mH h s) (fun v h' => zz_E zp_P zt_tf zt_fd X (d + 1) zm_314 170 [] (v.toList ++ []) h' Q)) : zz_E zp_P zt_tf zt_fd X (d + 1) zm_314 154 [(0, .ref 61)] [] (mH h s) Q := by
  refine zz_E.n 155 rfl rfl rfl ?_
  refine zz_E.c 156 (.int 1) rfl rfl rfl rfl ?_
  refine zz_E.c 157 (.int (-1)) rfl rfl rfl rfl ?_
  refine zz_E.n 158 rfl rfl rfl ?_
  refine mE_g hh 161 (v := .ref 91) rfl rfl rfl ?_
  refine zz_E.n 162 rfl rfl rfl ?_
  refine mE_g hh 165 (v := .int (s.1 51)) rfl rfl rfl ?_
  refine mE_ia hh 166 30 (f := (s.2.2.1 50)) rfl (by decide) rfl rfl i165 rfl ?_
  refine zz_E.c 167 (.int 0) rfl rfl rfl rfl ?_
  refine mE_cv hh 170 (as := []) rfl rfl (Nat.le_of_ble_eq_true rfl) (Nat.le_of_ble_eq_true rfl) rfl (Nat.le_of_ble_eq_true rfl) rfl ?_
  refine zz_E.mono k ?_
  intro v h' hE
  exact zz_E.weak hE rfl trivial
theorem mb_314_170 {X : Nat → Option zz_C} {h : zz_H} (hh : 111 ≤ h.length) {s : mS} {d : Nat} {Q : Option Value → zz_H → Prop}  (k : zz_E zp_P zt_tf zt_fd X d zm_314 337 [] [] (mH h s) Q) : zz_E zp_P zt_tf zt_fd X d zm_314 170 [] [] (mH h s) Q := by
  refine zz_E.n 337 rfl rfl rfl ?_
  exact zz_E.weak k rfl trivial
theorem mb_314_173 {X : Nat → Option zz_C} {h : zz_H} (hh : 111 ≤ h.length) {s : mS} {d : Nat} {Q : Option Value → zz_H → Prop}  (i183 : ¬ ((s.1 51) < 0 ∨ 9000 ≤ Int32.toNatClampNeg (s.1 51))) (i193 : ¬ ((s.1 51) < 0 ∨ 9000 ≤ Int32.toNatClampNeg (s.1 51))) (k : zz_E zp_P zt_tf zt_fd X d zm_77 0 [(0, .ref 61), (1, .int ((s.2.2.1 50) (Int32.toNatClampNeg (s.1 51))))] [] (mH h s) (fun v h' => zz_E zp_P zt_tf zt_fd X (d + 1) zm_314 197 [] (v.toList ++ [.int ((s.2.2.1 50) (Int32.toNatClampNeg (s.1 51))), .int 1, .ref 61]) h' Q)) : zz_E zp_P zt_tf zt_fd X (d + 1) zm_314 173 [(0, .ref 61)] [] (mH h s) Q := by
  refine zz_E.n 174 rfl rfl rfl ?_
  refine zz_E.c 175 (.int 1) rfl rfl rfl rfl ?_
  refine zz_E.n 176 rfl rfl rfl ?_
  refine mE_g hh 179 (v := .ref 91) rfl rfl rfl ?_
  refine zz_E.n 180 rfl rfl rfl ?_
  refine mE_g hh 183 (v := .int (s.1 51)) rfl rfl rfl ?_
  refine mE_ia hh 184 30 (f := (s.2.2.1 50)) rfl (by decide) rfl rfl i183 rfl ?_
  refine zz_E.n 185 rfl rfl rfl ?_
  refine zz_E.n 186 rfl rfl rfl ?_
  refine mE_g hh 189 (v := .ref 91) rfl rfl rfl ?_
  refine zz_E.n 190 rfl rfl rfl ?_
  refine mE_g hh 193 (v := .int (s.1 51)) rfl rfl rfl ?_
  refine mE_ia hh 194 30 (f := (s.2.2.1 50)) rfl (by decide) rfl rfl i193 rfl ?_
  refine mE_cv hh 197 (as := [.int ((s.2.2.1 50) (Int32.toNatClampNeg (s.1 51))), .int 1, .ref 61]) rfl rfl (Nat.le_of_ble_eq_true rfl) (Nat.le_of_ble_eq_true rfl) rfl (Nat.le_of_ble_eq_true rfl) rfl ?_
  refine zz_E.mono k ?_
  intro v h' hE
  exact zz_E.weak hE rfl trivial
theorem mb_314_197 {X : Nat → Option zz_C} {h : zz_H} (hh : 111 ≤ h.length) {s : mS} {d : Nat} {Q : Option Value → zz_H → Prop} {y1 : Int32} {y2 : Int32} {y3 : Int32} (k : zz_E zp_P zt_tf zt_fd X d zm_311 0 [(0, .ref 61), (1, .int y1), (2, .int y2), (3, .int y3), (4, .int 0)] [] (mH h s) (fun v h' => zz_E zp_P zt_tf zt_fd X (d + 1) zm_314 201 [] (v.toList ++ []) h' Q)) : zz_E zp_P zt_tf zt_fd X (d + 1) zm_314 197 [] [.int y3, .int y2, .int y1, .ref 61] (mH h s) Q := by
  refine zz_E.c 198 (.int 0) rfl rfl rfl rfl ?_
  refine mE_cv hh 201 (as := []) rfl rfl (Nat.le_of_ble_eq_true rfl) (Nat.le_of_ble_eq_true rfl) rfl (Nat.le_of_ble_eq_true rfl) rfl ?_
  refine zz_E.mono k ?_
  intro v h' hE
  exact zz_E.weak hE rfl trivial
theorem mb_314_201 {X : Nat → Option zz_C} {h : zz_H} (hh : 111 ≤ h.length) {s : mS} {d : Nat} {Q : Option Value → zz_H → Prop}  (k : zz_E zp_P zt_tf zt_fd X d zm_314 337 [] [] (mH h s) Q) : zz_E zp_P zt_tf zt_fd X d zm_314 201 [] [] (mH h s) Q := by
  refine zz_E.n 337 rfl rfl rfl ?_
  exact zz_E.weak k rfl trivial
theorem mb_314_204 {X : Nat → Option zz_C} {h : zz_H} (hh : 111 ≤ h.length) {s : mS} {d : Nat} {Q : Option Value → zz_H → Prop} {x2 : Int32} (k1 : ¬ x2 = 19 → zz_E zp_P zt_tf zt_fd X d zm_314 260 [(0, .ref 61)] [] (mH h s) Q) (k2 : ¬ ¬ x2 = 19 → zz_E zp_P zt_tf zt_fd X d zm_314 210 [(0, .ref 61)] [] (mH h s) Q) : zz_E zp_P zt_tf zt_fd X d zm_314 204 [(0, .ref 61), (2, .int x2)] [] (mH h s) Q := by
  refine zz_E.n 205 rfl rfl rfl ?_
  refine zz_E.c 207 (.int 19) rfl rfl rfl rfl ?_
  refine zz_E.b2 260 210 (A := ¬ x2 = 19) rfl (zz_cond_ne _ _) (by decide) rfl rfl (fun c => ?_) (fun c => ?_)
  · exact zz_E.weak (k1 c) rfl ⟨rfl, trivial⟩
  · exact zz_E.weak (k2 c) rfl ⟨rfl, trivial⟩
theorem mb_314_210 {X : Nat → Option zz_C} {h : zz_H} (hh : 111 ≤ h.length) {s : mS} {d : Nat} {Q : Option Value → zz_H → Prop}  (i218 : ¬ ((s.1 51) < 0 ∨ 9000 ≤ Int32.toNatClampNeg (s.1 51))) (k1 : ¬ ((s.2.2.1 49) (Int32.toNatClampNeg (s.1 51))) = 0 → zz_E zp_P zt_tf zt_fd X d zm_314 238 [(0, .ref 61)] [] (mH h s) Q) (k2 : ¬ ¬ ((s.2.2.1 49) (Int32.toNatClampNeg (s.1 51))) = 0 → zz_E zp_P zt_tf zt_fd X d zm_314 222 [(0, .ref 61)] [] (mH h s) Q) : zz_E zp_P zt_tf zt_fd X d zm_314 210 [(0, .ref 61)] [] (mH h s) Q := by
  refine zz_E.n 211 rfl rfl rfl ?_
  refine mE_g hh 214 (v := .ref 90) rfl rfl rfl ?_
  refine zz_E.n 215 rfl rfl rfl ?_
  refine mE_g hh 218 (v := .int (s.1 51)) rfl rfl rfl ?_
  refine mE_ia hh 219 29 (f := (s.2.2.1 49)) rfl (by decide) rfl rfl i218 rfl ?_
  refine zz_E.b1 238 222 (A := ¬ ((s.2.2.1 49) (Int32.toNatClampNeg (s.1 51))) = 0) rfl (zz_cond_ne _ _) (by decide) rfl rfl (fun c => ?_) (fun c => ?_)
  · exact zz_E.weak (k1 c) rfl ⟨rfl, trivial⟩
  · exact zz_E.weak (k2 c) rfl ⟨rfl, trivial⟩
theorem mb_314_222 {X : Nat → Option zz_C} {h : zz_H} (hh : 111 ≤ h.length) {s : mS} {d : Nat} {Q : Option Value → zz_H → Prop}  (i231 : ¬ ((s.1 51) < 0 ∨ 9000 ≤ Int32.toNatClampNeg (s.1 51))) (k : zz_E zp_P zt_tf zt_fd X d zm_349 0 [(0, .ref 61), (1, .int ((s.2.2.1 50) (Int32.toNatClampNeg (s.1 51))))] [] (mH h s) (fun v h' => zz_E zp_P zt_tf zt_fd X (d + 1) zm_314 235 [(0, .ref 61)] (v.toList ++ []) h' Q)) : zz_E zp_P zt_tf zt_fd X (d + 1) zm_314 222 [(0, .ref 61)] [] (mH h s) Q := by
  refine zz_E.n 223 rfl rfl rfl ?_
  refine zz_E.n 224 rfl rfl rfl ?_
  refine mE_g hh 227 (v := .ref 91) rfl rfl rfl ?_
  refine zz_E.n 228 rfl rfl rfl ?_
  refine mE_g hh 231 (v := .int (s.1 51)) rfl rfl rfl ?_
  refine mE_ia hh 232 30 (f := (s.2.2.1 50)) rfl (by decide) rfl rfl i231 rfl ?_
  refine mE_cv hh 235 (as := []) rfl rfl (Nat.le_of_ble_eq_true rfl) (Nat.le_of_ble_eq_true rfl) rfl (Nat.le_of_ble_eq_true rfl) rfl ?_
  refine zz_E.mono k ?_
  intro v h' hE
  exact zz_E.weak hE rfl ⟨rfl, trivial⟩
theorem mb_314_235 {X : Nat → Option zz_C} {h : zz_H} (hh : 111 ≤ h.length) {s : mS} {d : Nat} {Q : Option Value → zz_H → Prop}  (k : zz_E zp_P zt_tf zt_fd X d zm_314 251 [(0, .ref 61)] [] (mH h s) Q) : zz_E zp_P zt_tf zt_fd X d zm_314 235 [(0, .ref 61)] [] (mH h s) Q := by
  refine zz_E.n 251 rfl rfl rfl ?_
  exact zz_E.weak k rfl ⟨rfl, trivial⟩
theorem mb_314_238 {X : Nat → Option zz_C} {h : zz_H} (hh : 111 ≤ h.length) {s : mS} {d : Nat} {Q : Option Value → zz_H → Prop}  (i247 : ¬ ((s.1 51) < 0 ∨ 9000 ≤ Int32.toNatClampNeg (s.1 51))) (k : zz_E zp_P zt_tf zt_fd X d zm_352 0 [(0, .ref 61), (1, .int ((s.2.2.1 50) (Int32.toNatClampNeg (s.1 51))))] [] (mH h s) (fun v h' => zz_E zp_P zt_tf zt_fd X (d + 1) zm_314 251 [(0, .ref 61)] (v.toList ++ []) h' Q)) : zz_E zp_P zt_tf zt_fd X (d + 1) zm_314 238 [(0, .ref 61)] [] (mH h s) Q := by
  refine zz_E.n 239 rfl rfl rfl ?_
  refine zz_E.n 240 rfl rfl rfl ?_
  refine mE_g hh 243 (v := .ref 91) rfl rfl rfl ?_
  refine zz_E.n 244 rfl rfl rfl ?_
  refine mE_g hh 247 (v := .int (s.1 51)) rfl rfl rfl ?_
  refine mE_ia hh 248 30 (f := (s.2.2.1 50)) rfl (by decide) rfl rfl i247 rfl ?_
  refine mE_cv hh 251 (as := []) rfl rfl (Nat.le_of_ble_eq_true rfl) (Nat.le_of_ble_eq_true rfl) rfl (Nat.le_of_ble_eq_true rfl) rfl ?_
  refine zz_E.mono k ?_
  intro v h' hE
  exact zz_E.weak hE rfl ⟨rfl, trivial⟩
theorem mb_314_251 {X : Nat → Option zz_C} {h : zz_H} (hh : 111 ≤ h.length) {s : mS} {d : Nat} {Q : Option Value → zz_H → Prop}  (k : zz_E zp_P zt_tf zt_fd X d zm_348 0 [(0, .ref 61), (1, .int 10)] [] (mH h s) (fun v h' => zz_E zp_P zt_tf zt_fd X (d + 1) zm_314 257 [] (v.toList ++ []) h' Q)) : zz_E zp_P zt_tf zt_fd X (d + 1) zm_314 251 [(0, .ref 61)] [] (mH h s) Q := by
  refine zz_E.n 252 rfl rfl rfl ?_
  refine zz_E.c 254 (.int 10) rfl rfl rfl rfl ?_
  refine mE_cv hh 257 (as := []) rfl rfl (Nat.le_of_ble_eq_true rfl) (Nat.le_of_ble_eq_true rfl) rfl (Nat.le_of_ble_eq_true rfl) rfl ?_
  refine zz_E.mono k ?_
  intro v h' hE
  exact zz_E.weak hE rfl trivial
theorem mb_314_257 {X : Nat → Option zz_C} {h : zz_H} (hh : 111 ≤ h.length) {s : mS} {d : Nat} {Q : Option Value → zz_H → Prop}  (k : zz_E zp_P zt_tf zt_fd X d zm_314 337 [] [] (mH h s) Q) : zz_E zp_P zt_tf zt_fd X d zm_314 257 [] [] (mH h s) Q := by
  refine zz_E.n 337 rfl rfl rfl ?_
  exact zz_E.weak k rfl trivial
theorem mb_314_260 {X : Nat → Option zz_C} {h : zz_H} (hh : 111 ≤ h.length) {s : mS} {d : Nat} {Q : Option Value → zz_H → Prop}  (i268 : ¬ ((s.1 51) < 0 ∨ 9000 ≤ Int32.toNatClampNeg (s.1 51))) (i278 : ¬ ((s.1 51) < 0 ∨ 9000 ≤ Int32.toNatClampNeg (s.1 51))) (i300 : ¬ (((s.1 73) - 1) < 0 ∨ 10 ≤ Int32.toNatClampNeg ((s.1 73) - 1))) (i313 : ¬ (((s.1 73) - 1) < 0 ∨ 10 ≤ Int32.toNatClampNeg ((s.1 73) - 1))) (i326 : ¬ (((s.1 73) - 1) < 0 ∨ 10 ≤ Int32.toNatClampNeg ((s.1 73) - 1))) (k : zz_E zp_P zt_tf zt_fd X d zm_291 0 [(0, .ref 61), (1, .int ((s.2.2.1 49) (Int32.toNatClampNeg (s.1 51)))), (2, .int ((s.2.2.1 50) (Int32.toNatClampNeg (s.1 51))))] [] (mH h (mI (mI (mI (mI s 73 ((s.1 73) - 1)) 79 ((s.2.2.1 76) (Int32.toNatClampNeg ((s.1 73) - 1)))) 51 ((s.2.2.1 74) (Int32.toNatClampNeg ((s.1 73) - 1)))) 69 ((s.2.2.1 75) (Int32.toNatClampNeg ((s.1 73) - 1))))) (fun v h' => zz_E zp_P zt_tf zt_fd X (d + 1) zm_314 337 [] (v.toList ++ []) h' Q)) : zz_E zp_P zt_tf zt_fd X (d + 1) zm_314 260 [(0, .ref 61)] [] (mH h s) Q := by
  refine zz_E.n 261 rfl rfl rfl ?_
  refine mE_g hh 264 (v := .ref 90) rfl rfl rfl ?_
  refine zz_E.n 265 rfl rfl rfl ?_
  refine mE_g hh 268 (v := .int (s.1 51)) rfl rfl rfl ?_
  refine mE_ia hh 269 29 (f := (s.2.2.1 49)) rfl (by decide) rfl rfl i268 rfl ?_
  refine zz_E.n 270 rfl rfl rfl ?_
  refine zz_E.n 271 rfl rfl rfl ?_
  refine mE_g hh 274 (v := .ref 91) rfl rfl rfl ?_
  refine zz_E.n 275 rfl rfl rfl ?_
  refine mE_g hh 278 (v := .int (s.1 51)) rfl rfl rfl ?_
  refine mE_ia hh 279 30 (f := (s.2.2.1 50)) rfl (by decide) rfl rfl i278 rfl ?_
  refine zz_E.n 281 rfl rfl rfl ?_
  refine zz_E.n 282 rfl rfl rfl ?_
  refine zz_E.n 283 rfl rfl rfl ?_
  refine mE_g hh 286 (v := .int (s.1 73)) rfl rfl rfl ?_
  refine zz_E.c 287 (.int 1) rfl rfl rfl rfl ?_
  refine zz_E.n 288 rfl rfl rfl ?_
  refine mE_p hh 291 rfl (by decide) rfl (mF_73 _ _) rfl ?_
  refine zz_E.n 292 rfl rfl rfl ?_
  refine zz_E.n 293 rfl rfl rfl ?_
  refine mE_g hh 296 (v := .ref 101) rfl rfl rfl ?_
  refine zz_E.n 297 rfl rfl rfl ?_
  refine mE_g hh 300 (v := .int ((s.1 73) - 1)) rfl rfl rfl ?_
  refine mE_ia hh 301 40 (f := (s.2.2.1 76)) rfl (by decide) rfl rfl i300 rfl ?_
  refine mE_p hh 304 rfl (by decide) rfl (mF_79 _ _) rfl ?_
  refine zz_E.n 305 rfl rfl rfl ?_
  refine zz_E.n 306 rfl rfl rfl ?_
  refine mE_g hh 309 (v := .ref 99) rfl rfl rfl ?_
  refine zz_E.n 310 rfl rfl rfl ?_
  refine mE_g hh 313 (v := .int ((s.1 73) - 1)) rfl rfl rfl ?_
  refine mE_ia hh 314 38 (f := (s.2.2.1 74)) rfl (by decide) rfl rfl i313 rfl ?_
  refine mE_p hh 317 rfl (by decide) rfl (mF_51 _ _) rfl ?_
  refine zz_E.n 318 rfl rfl rfl ?_
  refine zz_E.n 319 rfl rfl rfl ?_
  refine mE_g hh 322 (v := .ref 100) rfl rfl rfl ?_
  refine zz_E.n 323 rfl rfl rfl ?_
  refine mE_g hh 326 (v := .int ((s.1 73) - 1)) rfl rfl rfl ?_
  refine mE_ia hh 327 39 (f := (s.2.2.1 75)) rfl (by decide) rfl rfl i326 rfl ?_
  refine mE_p hh 330 rfl (by decide) rfl (mF_69 _ _) rfl ?_
  refine zz_E.n 331 rfl rfl rfl ?_
  refine zz_E.n 332 rfl rfl rfl ?_
  refine zz_E.n 334 rfl rfl rfl ?_
  refine mE_cv hh 337 (as := []) rfl rfl (Nat.le_of_ble_eq_true rfl) (Nat.le_of_ble_eq_true rfl) rfl (Nat.le_of_ble_eq_true rfl) rfl ?_
  refine zz_E.mono k ?_
  intro v h' hE
  exact zz_E.weak hE rfl trivial
theorem mb_314_337 {X : Nat → Option zz_C} {h : zz_H} (hh : 111 ≤ h.length) {s : mS} {d : Nat} {Q : Option Value → zz_H → Prop}  (k : Q none (mH h s)) : zz_E zp_P zt_tf zt_fd X d zm_314 337 [] [] (mH h s) Q := by
  refine zz_E.ret rfl rfl rfl ?_
  exact k
def mf_314_337 (N : Nat)  (s : mS) : mO := some (s, none)
theorem mr_314_337 {X : Nat → Option zz_C} {h : zz_H} (hh : 111 ≤ h.length) {d : Nat} {N : Nat} {Q : Option Value → zz_H → Prop}  {s s' : mS} {v : Option Value} (hf : mf_314_337 N  s = some (s', v)) (k : Q v (mH h s')) : zz_E zp_P zt_tf zt_fd X (d + 5) zm_314 337 [] [] (mH h s) Q := by
  unfold mf_314_337 at hf
  cases hf
  exact mb_314_337 hh  k
def mf_314_97 (N : Nat)  (s : mS) : mO := mf_314_337 N  s
theorem mr_314_97 {X : Nat → Option zz_C} {h : zz_H} (hh : 111 ≤ h.length) {d : Nat} {N : Nat} {Q : Option Value → zz_H → Prop}  {s s' : mS} {v : Option Value} (hf : mf_314_97 N  s = some (s', v)) (k : Q v (mH h s')) : zz_E zp_P zt_tf zt_fd X (d + 5) zm_314 97 [] [] (mH h s) Q := by
  unfold mf_314_97 at hf
  exact mb_314_97 hh  (mr_314_337 hh hf k)
def mf_314_74 (N : Nat)  (s : mS) : mO := if ¬ ((s.1 51) < 0 ∨ 9000 ≤ Int32.toNatClampNeg (s.1 51)) then (mo_bv (mf_301 N 9 (s.1 70) (mI s 65 ((s.2.2.1 50) (Int32.toNatClampNeg (s.1 51))))) (fun s1 => mf_314_97 N  s1)) else none
theorem mr_314_74 {X : Nat → Option zz_C} {h : zz_H} (hh : 111 ≤ h.length) {d : Nat} {N : Nat} {Q : Option Value → zz_H → Prop}  {s s' : mS} {v : Option Value} (hf : mf_314_74 N  s = some (s', v)) (k : Q v (mH h s')) : zz_E zp_P zt_tf zt_fd X (d + 5) zm_314 74 [(0, .ref 61)] [] (mH h s) Q := by
  unfold mf_314_74 at hf
  obtain ⟨q0, hf⟩ := mo_if hf
  obtain ⟨s1, e, hf⟩ := mo_bv_ok hf
  exact mb_314_74 (d := d + 4) hh q0 (mr_301 (d := d + 4) hh e (mr_314_97 hh hf k))
def mf_314_61 (N : Nat) (x1 : Int32) (s : mS) : mO := if ¬ (x1 < 0 ∨ 8000 ≤ Int32.toNatClampNeg x1) then (mf_314_337 N  (mI s 69 ((s.2.2.1 24) (Int32.toNatClampNeg x1)))) else none
theorem mr_314_61 {X : Nat → Option zz_C} {h : zz_H} (hh : 111 ≤ h.length) {d : Nat} {N : Nat} {Q : Option Value → zz_H → Prop} {x1 : Int32} {s s' : mS} {v : Option Value} (hf : mf_314_61 N x1 s = some (s', v)) (k : Q v (mH h s')) : zz_E zp_P zt_tf zt_fd X (d + 5) zm_314 61 [(0, .ref 61), (1, .int x1)] [] (mH h s) Q := by
  unfold mf_314_61 at hf
  obtain ⟨q0, hf⟩ := mo_if hf
  exact mb_314_61 hh q0 (mr_314_337 hh hf k)
def mf_314_49 (N : Nat) (x1 : Int32) (s : mS) : mO := if ¬ ((s.1 51) < 0 ∨ 9000 ≤ Int32.toNatClampNeg (s.1 51)) then (if ¬ ((s.2.2.1 50) (Int32.toNatClampNeg (s.1 51))) = 0 then mf_314_337 N  s else mf_314_61 N x1 s) else none
theorem mr_314_49 {X : Nat → Option zz_C} {h : zz_H} (hh : 111 ≤ h.length) {d : Nat} {N : Nat} {Q : Option Value → zz_H → Prop} {x1 : Int32} {s s' : mS} {v : Option Value} (hf : mf_314_49 N x1 s = some (s', v)) (k : Q v (mH h s')) : zz_E zp_P zt_tf zt_fd X (d + 5) zm_314 49 [(0, .ref 61), (1, .int x1)] [] (mH h s) Q := by
  unfold mf_314_49 at hf
  obtain ⟨q0, hf⟩ := mo_if hf
  refine mb_314_49 hh q0 (fun c => ?_) (fun c => ?_)
  · rw [if_pos c] at hf
    exact mr_314_337 hh hf k
  · rw [if_neg c] at hf
    exact mr_314_61 hh hf k
def mf_314_43 (N : Nat) (x1 : Int32) (x2 : Int32) (s : mS) : mO := if ¬ x2 = 14 then mf_314_74 N  s else mf_314_49 N x1 s
theorem mr_314_43 {X : Nat → Option zz_C} {h : zz_H} (hh : 111 ≤ h.length) {d : Nat} {N : Nat} {Q : Option Value → zz_H → Prop} {x1 : Int32} {x2 : Int32} {s s' : mS} {v : Option Value} (hf : mf_314_43 N x1 x2 s = some (s', v)) (k : Q v (mH h s')) : zz_E zp_P zt_tf zt_fd X (d + 5) zm_314 43 [(0, .ref 61), (1, .int x1), (2, .int x2)] [] (mH h s) Q := by
  unfold mf_314_43 at hf
  refine mb_314_43 hh  (fun c => ?_) (fun c => ?_)
  · rw [if_pos c] at hf
    exact mr_314_74 hh hf k
  · rw [if_neg c] at hf
    exact mr_314_49 hh hf k
def mf_314_40 (N : Nat)  (s : mS) : mO := mf_314_337 N  s
theorem mr_314_40 {X : Nat → Option zz_C} {h : zz_H} (hh : 111 ≤ h.length) {d : Nat} {N : Nat} {Q : Option Value → zz_H → Prop}  {s s' : mS} {v : Option Value} (hf : mf_314_40 N  s = some (s', v)) (k : Q v (mH h s')) : zz_E zp_P zt_tf zt_fd X (d + 5) zm_314 40 [] [] (mH h s) Q := by
  unfold mf_314_40 at hf
  exact mb_314_40 hh  (mr_314_337 hh hf k)
def mf_314_31 (N : Nat)  (s : mS) : mO := mo_bv (mf_301 N 3 (s.1 70) s) (fun s1 => mf_314_40 N  s1)
theorem mr_314_31 {X : Nat → Option zz_C} {h : zz_H} (hh : 111 ≤ h.length) {d : Nat} {N : Nat} {Q : Option Value → zz_H → Prop}  {s s' : mS} {v : Option Value} (hf : mf_314_31 N  s = some (s', v)) (k : Q v (mH h s')) : zz_E zp_P zt_tf zt_fd X (d + 5) zm_314 31 [(0, .ref 61)] [] (mH h s) Q := by
  unfold mf_314_31 at hf
  obtain ⟨s1, e, hf⟩ := mo_bv_ok hf
  exact mb_314_31 (d := d + 4) hh  (mr_301 (d := d + 4) hh e (mr_314_40 hh hf k))
def mf_314_19 (N : Nat) (x1 : Int32) (x2 : Int32) (s : mS) : mO := if ¬ ((s.1 51) < 0 ∨ 9000 ≤ Int32.toNatClampNeg (s.1 51)) then (if ((s.2.2.1 49) (Int32.toNatClampNeg (s.1 51))) = 0 then mf_314_43 N x1 x2 s else mf_314_31 N  s) else none
theorem mr_314_19 {X : Nat → Option zz_C} {h : zz_H} (hh : 111 ≤ h.length) {d : Nat} {N : Nat} {Q : Option Value → zz_H → Prop} {x1 : Int32} {x2 : Int32} {s s' : mS} {v : Option Value} (hf : mf_314_19 N x1 x2 s = some (s', v)) (k : Q v (mH h s')) : zz_E zp_P zt_tf zt_fd X (d + 5) zm_314 19 [(0, .ref 61), (1, .int x1), (2, .int x2)] [] (mH h s) Q := by
  unfold mf_314_19 at hf
  obtain ⟨q0, hf⟩ := mo_if hf
  refine mb_314_19 hh q0 (fun c => ?_) (fun c => ?_)
  · rw [if_pos c] at hf
    exact mr_314_43 hh hf k
  · rw [if_neg c] at hf
    exact mr_314_31 hh hf k
def mf_314_260 (N : Nat)  (s : mS) : mO := if ¬ ((s.1 51) < 0 ∨ 9000 ≤ Int32.toNatClampNeg (s.1 51)) then (if ¬ ((s.1 51) < 0 ∨ 9000 ≤ Int32.toNatClampNeg (s.1 51)) then (if ¬ (((s.1 73) - 1) < 0 ∨ 10 ≤ Int32.toNatClampNeg ((s.1 73) - 1)) then (if ¬ (((s.1 73) - 1) < 0 ∨ 10 ≤ Int32.toNatClampNeg ((s.1 73) - 1)) then (if ¬ (((s.1 73) - 1) < 0 ∨ 10 ≤ Int32.toNatClampNeg ((s.1 73) - 1)) then (mo_bv (mf_291 N ((s.2.2.1 49) (Int32.toNatClampNeg (s.1 51))) ((s.2.2.1 50) (Int32.toNatClampNeg (s.1 51))) (mI (mI (mI (mI s 73 ((s.1 73) - 1)) 79 ((s.2.2.1 76) (Int32.toNatClampNeg ((s.1 73) - 1)))) 51 ((s.2.2.1 74) (Int32.toNatClampNeg ((s.1 73) - 1)))) 69 ((s.2.2.1 75) (Int32.toNatClampNeg ((s.1 73) - 1))))) (fun s1 => mf_314_337 N  s1)) else none) else none) else none) else none) else none
theorem mr_314_260 {X : Nat → Option zz_C} {h : zz_H} (hh : 111 ≤ h.length) {d : Nat} {N : Nat} {Q : Option Value → zz_H → Prop}  {s s' : mS} {v : Option Value} (hf : mf_314_260 N  s = some (s', v)) (k : Q v (mH h s')) : zz_E zp_P zt_tf zt_fd X (d + 5) zm_314 260 [(0, .ref 61)] [] (mH h s) Q := by
  unfold mf_314_260 at hf
  obtain ⟨q0, hf⟩ := mo_if hf
  obtain ⟨q1, hf⟩ := mo_if hf
  obtain ⟨q2, hf⟩ := mo_if hf
  obtain ⟨q3, hf⟩ := mo_if hf
  obtain ⟨q4, hf⟩ := mo_if hf
  obtain ⟨s1, e, hf⟩ := mo_bv_ok hf
  exact mb_314_260 (d := d + 4) hh q0 q1 q2 q3 q4 (mr_291 (d := d + 4) hh e (mr_314_337 hh hf k))
def mf_314_257 (N : Nat)  (s : mS) : mO := mf_314_337 N  s
theorem mr_314_257 {X : Nat → Option zz_C} {h : zz_H} (hh : 111 ≤ h.length) {d : Nat} {N : Nat} {Q : Option Value → zz_H → Prop}  {s s' : mS} {v : Option Value} (hf : mf_314_257 N  s = some (s', v)) (k : Q v (mH h s')) : zz_E zp_P zt_tf zt_fd X (d + 5) zm_314 257 [] [] (mH h s) Q := by
  unfold mf_314_257 at hf
  exact mb_314_257 hh  (mr_314_337 hh hf k)
def mf_314_251 (N : Nat)  (s : mS) : mO := mo_bv (mf_348 N 10 s) (fun s1 => mf_314_257 N  s1)
theorem mr_314_251 {X : Nat → Option zz_C} {h : zz_H} (hh : 111 ≤ h.length) {d : Nat} {N : Nat} {Q : Option Value → zz_H → Prop}  {s s' : mS} {v : Option Value} (hf : mf_314_251 N  s = some (s', v)) (k : Q v (mH h s')) : zz_E zp_P zt_tf zt_fd X (d + 5) zm_314 251 [(0, .ref 61)] [] (mH h s) Q := by
  unfold mf_314_251 at hf
  obtain ⟨s1, e, hf⟩ := mo_bv_ok hf
  exact mb_314_251 (d := d + 4) hh  (mr_348 (d := d + 4) hh e (mr_314_257 hh hf k))
def mf_314_238 (N : Nat)  (s : mS) : mO := if ¬ ((s.1 51) < 0 ∨ 9000 ≤ Int32.toNatClampNeg (s.1 51)) then (mo_bv (mf_352 N ((s.2.2.1 50) (Int32.toNatClampNeg (s.1 51))) s) (fun s1 => mf_314_251 N  s1)) else none
theorem mr_314_238 {X : Nat → Option zz_C} {h : zz_H} (hh : 111 ≤ h.length) {d : Nat} {N : Nat} {Q : Option Value → zz_H → Prop}  {s s' : mS} {v : Option Value} (hf : mf_314_238 N  s = some (s', v)) (k : Q v (mH h s')) : zz_E zp_P zt_tf zt_fd X (d + 5) zm_314 238 [(0, .ref 61)] [] (mH h s) Q := by
  unfold mf_314_238 at hf
  obtain ⟨q0, hf⟩ := mo_if hf
  obtain ⟨s1, e, hf⟩ := mo_bv_ok hf
  exact mb_314_238 (d := d + 4) hh q0 (mr_352 (d := d + 0) hh e (mr_314_251 hh hf k))
def mf_314_235 (N : Nat)  (s : mS) : mO := mf_314_251 N  s
theorem mr_314_235 {X : Nat → Option zz_C} {h : zz_H} (hh : 111 ≤ h.length) {d : Nat} {N : Nat} {Q : Option Value → zz_H → Prop}  {s s' : mS} {v : Option Value} (hf : mf_314_235 N  s = some (s', v)) (k : Q v (mH h s')) : zz_E zp_P zt_tf zt_fd X (d + 5) zm_314 235 [(0, .ref 61)] [] (mH h s) Q := by
  unfold mf_314_235 at hf
  exact mb_314_235 hh  (mr_314_251 hh hf k)
def mf_314_222 (N : Nat)  (s : mS) : mO := if ¬ ((s.1 51) < 0 ∨ 9000 ≤ Int32.toNatClampNeg (s.1 51)) then (mo_bv (mf_349 N ((s.2.2.1 50) (Int32.toNatClampNeg (s.1 51))) s) (fun s1 => mf_314_235 N  s1)) else none
theorem mr_314_222 {X : Nat → Option zz_C} {h : zz_H} (hh : 111 ≤ h.length) {d : Nat} {N : Nat} {Q : Option Value → zz_H → Prop}  {s s' : mS} {v : Option Value} (hf : mf_314_222 N  s = some (s', v)) (k : Q v (mH h s')) : zz_E zp_P zt_tf zt_fd X (d + 5) zm_314 222 [(0, .ref 61)] [] (mH h s) Q := by
  unfold mf_314_222 at hf
  obtain ⟨q0, hf⟩ := mo_if hf
  obtain ⟨s1, e, hf⟩ := mo_bv_ok hf
  exact mb_314_222 (d := d + 4) hh q0 (mr_349 (d := d + 3) hh e (mr_314_235 hh hf k))
def mf_314_210 (N : Nat)  (s : mS) : mO := if ¬ ((s.1 51) < 0 ∨ 9000 ≤ Int32.toNatClampNeg (s.1 51)) then (if ¬ ((s.2.2.1 49) (Int32.toNatClampNeg (s.1 51))) = 0 then mf_314_238 N  s else mf_314_222 N  s) else none
theorem mr_314_210 {X : Nat → Option zz_C} {h : zz_H} (hh : 111 ≤ h.length) {d : Nat} {N : Nat} {Q : Option Value → zz_H → Prop}  {s s' : mS} {v : Option Value} (hf : mf_314_210 N  s = some (s', v)) (k : Q v (mH h s')) : zz_E zp_P zt_tf zt_fd X (d + 5) zm_314 210 [(0, .ref 61)] [] (mH h s) Q := by
  unfold mf_314_210 at hf
  obtain ⟨q0, hf⟩ := mo_if hf
  refine mb_314_210 hh q0 (fun c => ?_) (fun c => ?_)
  · rw [if_pos c] at hf
    exact mr_314_238 hh hf k
  · rw [if_neg c] at hf
    exact mr_314_222 hh hf k
def mf_314_204 (N : Nat) (x2 : Int32) (s : mS) : mO := if ¬ x2 = 19 then mf_314_260 N  s else mf_314_210 N  s
theorem mr_314_204 {X : Nat → Option zz_C} {h : zz_H} (hh : 111 ≤ h.length) {d : Nat} {N : Nat} {Q : Option Value → zz_H → Prop} {x2 : Int32} {s s' : mS} {v : Option Value} (hf : mf_314_204 N x2 s = some (s', v)) (k : Q v (mH h s')) : zz_E zp_P zt_tf zt_fd X (d + 5) zm_314 204 [(0, .ref 61), (2, .int x2)] [] (mH h s) Q := by
  unfold mf_314_204 at hf
  refine mb_314_204 hh  (fun c => ?_) (fun c => ?_)
  · rw [if_pos c] at hf
    exact mr_314_260 hh hf k
  · rw [if_neg c] at hf
    exact mr_314_210 hh hf k
def mf_314_201 (N : Nat)  (s : mS) : mO := mf_314_337 N  s
theorem mr_314_201 {X : Nat → Option zz_C} {h : zz_H} (hh : 111 ≤ h.length) {d : Nat} {N : Nat} {Q : Option Value → zz_H → Prop}  {s s' : mS} {v : Option Value} (hf : mf_314_201 N  s = some (s', v)) (k : Q v (mH h s')) : zz_E zp_P zt_tf zt_fd X (d + 5) zm_314 201 [] [] (mH h s) Q := by
  unfold mf_314_201 at hf
  exact mb_314_201 hh  (mr_314_337 hh hf k)
def mf_314_197 (N : Nat) (y1 : Int32) (y2 : Int32) (y3 : Int32) (s : mS) : mO := mo_bv (mf_311 N y1 y2 y3 0 s) (fun s1 => mf_314_201 N  s1)
theorem mr_314_197 {X : Nat → Option zz_C} {h : zz_H} (hh : 111 ≤ h.length) {d : Nat} {N : Nat} {Q : Option Value → zz_H → Prop} {y1 : Int32} {y2 : Int32} {y3 : Int32} {s s' : mS} {v : Option Value} (hf : mf_314_197 N y1 y2 y3 s = some (s', v)) (k : Q v (mH h s')) : zz_E zp_P zt_tf zt_fd X (d + 5) zm_314 197 [] [.int y3, .int y2, .int y1, .ref 61] (mH h s) Q := by
  unfold mf_314_197 at hf
  obtain ⟨s1, e, hf⟩ := mo_bv_ok hf
  exact mb_314_197 (d := d + 4) hh  (mr_311 (d := d + 4) hh e (mr_314_201 hh hf k))
def mf_314_173 (N : Nat)  (s : mS) : mO := if ¬ ((s.1 51) < 0 ∨ 9000 ≤ Int32.toNatClampNeg (s.1 51)) then (if ¬ ((s.1 51) < 0 ∨ 9000 ≤ Int32.toNatClampNeg (s.1 51)) then (mo_bi (mf_77 N ((s.2.2.1 50) (Int32.toNatClampNeg (s.1 51))) s) (fun s1 y => mf_314_197 N 1 ((s.2.2.1 50) (Int32.toNatClampNeg (s.1 51))) y s1)) else none) else none
theorem mr_314_173 {X : Nat → Option zz_C} {h : zz_H} (hh : 111 ≤ h.length) {d : Nat} {N : Nat} {Q : Option Value → zz_H → Prop}  {s s' : mS} {v : Option Value} (hf : mf_314_173 N  s = some (s', v)) (k : Q v (mH h s')) : zz_E zp_P zt_tf zt_fd X (d + 5) zm_314 173 [(0, .ref 61)] [] (mH h s) Q := by
  unfold mf_314_173 at hf
  obtain ⟨q0, hf⟩ := mo_if hf
  obtain ⟨q1, hf⟩ := mo_if hf
  obtain ⟨s1, y, e, hf⟩ := mo_bi_ok hf
  exact mb_314_173 (d := d + 4) hh q0 q1 (mr_77 (d := d + 4) hh e (mr_314_197 hh hf k))
def mf_314_170 (N : Nat)  (s : mS) : mO := mf_314_337 N  s
theorem mr_314_170 {X : Nat → Option zz_C} {h : zz_H} (hh : 111 ≤ h.length) {d : Nat} {N : Nat} {Q : Option Value → zz_H → Prop}  {s s' : mS} {v : Option Value} (hf : mf_314_170 N  s = some (s', v)) (k : Q v (mH h s')) : zz_E zp_P zt_tf zt_fd X (d + 5) zm_314 170 [] [] (mH h s) Q := by
  unfold mf_314_170 at hf
  exact mb_314_170 hh  (mr_314_337 hh hf k)
def mf_314_154 (N : Nat)  (s : mS) : mO := if ¬ ((s.1 51) < 0 ∨ 9000 ≤ Int32.toNatClampNeg (s.1 51)) then (mo_bv (mf_311 N 1 (-1) ((s.2.2.1 50) (Int32.toNatClampNeg (s.1 51))) 0 s) (fun s1 => mf_314_170 N  s1)) else none
theorem mr_314_154 {X : Nat → Option zz_C} {h : zz_H} (hh : 111 ≤ h.length) {d : Nat} {N : Nat} {Q : Option Value → zz_H → Prop}  {s s' : mS} {v : Option Value} (hf : mf_314_154 N  s = some (s', v)) (k : Q v (mH h s')) : zz_E zp_P zt_tf zt_fd X (d + 5) zm_314 154 [(0, .ref 61)] [] (mH h s) Q := by
  unfold mf_314_154 at hf
  obtain ⟨q0, hf⟩ := mo_if hf
  obtain ⟨s1, e, hf⟩ := mo_bv_ok hf
  exact mb_314_154 (d := d + 4) hh q0 (mr_311 (d := d + 4) hh e (mr_314_170 hh hf k))
def mf_314_142 (N : Nat)  (s : mS) : mO := if ¬ ((s.1 51) < 0 ∨ 9000 ≤ Int32.toNatClampNeg (s.1 51)) then (if ¬ ((s.2.2.1 49) (Int32.toNatClampNeg (s.1 51))) = 0 then mf_314_173 N  s else mf_314_154 N  s) else none
theorem mr_314_142 {X : Nat → Option zz_C} {h : zz_H} (hh : 111 ≤ h.length) {d : Nat} {N : Nat} {Q : Option Value → zz_H → Prop}  {s s' : mS} {v : Option Value} (hf : mf_314_142 N  s = some (s', v)) (k : Q v (mH h s')) : zz_E zp_P zt_tf zt_fd X (d + 5) zm_314 142 [(0, .ref 61)] [] (mH h s) Q := by
  unfold mf_314_142 at hf
  obtain ⟨q0, hf⟩ := mo_if hf
  refine mb_314_142 hh q0 (fun c => ?_) (fun c => ?_)
  · rw [if_pos c] at hf
    exact mr_314_173 hh hf k
  · rw [if_neg c] at hf
    exact mr_314_154 hh hf k
def mf_314_139 (N : Nat)  (s : mS) : mO := mf_314_337 N  s
theorem mr_314_139 {X : Nat → Option zz_C} {h : zz_H} (hh : 111 ≤ h.length) {d : Nat} {N : Nat} {Q : Option Value → zz_H → Prop}  {s s' : mS} {v : Option Value} (hf : mf_314_139 N  s = some (s', v)) (k : Q v (mH h s')) : zz_E zp_P zt_tf zt_fd X (d + 5) zm_314 139 [] [] (mH h s) Q := by
  unfold mf_314_139 at hf
  exact mb_314_139 hh  (mr_314_337 hh hf k)
def mf_314_130 (N : Nat)  (s : mS) : mO := mo_bv (mf_301 N 1 (s.1 70) s) (fun s1 => mf_314_139 N  s1)
theorem mr_314_130 {X : Nat → Option zz_C} {h : zz_H} (hh : 111 ≤ h.length) {d : Nat} {N : Nat} {Q : Option Value → zz_H → Prop}  {s s' : mS} {v : Option Value} (hf : mf_314_130 N  s = some (s', v)) (k : Q v (mH h s')) : zz_E zp_P zt_tf zt_fd X (d + 5) zm_314 130 [(0, .ref 61)] [] (mH h s) Q := by
  unfold mf_314_130 at hf
  obtain ⟨s1, e, hf⟩ := mo_bv_ok hf
  exact mb_314_130 (d := d + 4) hh  (mr_301 (d := d + 4) hh e (mr_314_139 hh hf k))
def mf_314_118 (N : Nat)  (s : mS) : mO := if ¬ ((s.1 51) < 0 ∨ 9000 ≤ Int32.toNatClampNeg (s.1 51)) then (if 0 ≤ ((s.2.2.1 50) (Int32.toNatClampNeg (s.1 51))) then mf_314_142 N  s else mf_314_130 N  s) else none
theorem mr_314_118 {X : Nat → Option zz_C} {h : zz_H} (hh : 111 ≤ h.length) {d : Nat} {N : Nat} {Q : Option Value → zz_H → Prop}  {s s' : mS} {v : Option Value} (hf : mf_314_118 N  s = some (s', v)) (k : Q v (mH h s')) : zz_E zp_P zt_tf zt_fd X (d + 5) zm_314 118 [(0, .ref 61)] [] (mH h s) Q := by
  unfold mf_314_118 at hf
  obtain ⟨q0, hf⟩ := mo_if hf
  refine mb_314_118 hh q0 (fun c => ?_) (fun c => ?_)
  · rw [if_pos c] at hf
    exact mr_314_142 hh hf k
  · rw [if_neg c] at hf
    exact mr_314_130 hh hf k
def mf_314_106 (N : Nat)  (s : mS) : mO := if ¬ ((s.1 51) < 0 ∨ 9000 ≤ Int32.toNatClampNeg (s.1 51)) then (if ¬ ((s.2.2.1 49) (Int32.toNatClampNeg (s.1 51))) = 0 then mf_314_142 N  s else mf_314_118 N  s) else none
theorem mr_314_106 {X : Nat → Option zz_C} {h : zz_H} (hh : 111 ≤ h.length) {d : Nat} {N : Nat} {Q : Option Value → zz_H → Prop}  {s s' : mS} {v : Option Value} (hf : mf_314_106 N  s = some (s', v)) (k : Q v (mH h s')) : zz_E zp_P zt_tf zt_fd X (d + 5) zm_314 106 [(0, .ref 61)] [] (mH h s) Q := by
  unfold mf_314_106 at hf
  obtain ⟨q0, hf⟩ := mo_if hf
  refine mb_314_106 hh q0 (fun c => ?_) (fun c => ?_)
  · rw [if_pos c] at hf
    exact mr_314_142 hh hf k
  · rw [if_neg c] at hf
    exact mr_314_118 hh hf k
def mf_314_100 (N : Nat) (x2 : Int32) (s : mS) : mO := if ¬ x2 = 17 then mf_314_204 N x2 s else mf_314_106 N  s
theorem mr_314_100 {X : Nat → Option zz_C} {h : zz_H} (hh : 111 ≤ h.length) {d : Nat} {N : Nat} {Q : Option Value → zz_H → Prop} {x2 : Int32} {s s' : mS} {v : Option Value} (hf : mf_314_100 N x2 s = some (s', v)) (k : Q v (mH h s')) : zz_E zp_P zt_tf zt_fd X (d + 5) zm_314 100 [(0, .ref 61), (2, .int x2)] [] (mH h s) Q := by
  unfold mf_314_100 at hf
  refine mb_314_100 hh  (fun c => ?_) (fun c => ?_)
  · rw [if_pos c] at hf
    exact mr_314_204 hh hf k
  · rw [if_neg c] at hf
    exact mr_314_106 hh hf k
def mf_314_13 (N : Nat) (x1 : Int32) (x2 : Int32) (s : mS) : mO := if ¬ x2 = 21 then mf_314_100 N x2 s else mf_314_19 N x1 x2 s
theorem mr_314_13 {X : Nat → Option zz_C} {h : zz_H} (hh : 111 ≤ h.length) {d : Nat} {N : Nat} {Q : Option Value → zz_H → Prop} {x1 : Int32} {x2 : Int32} {s s' : mS} {v : Option Value} (hf : mf_314_13 N x1 x2 s = some (s', v)) (k : Q v (mH h s')) : zz_E zp_P zt_tf zt_fd X (d + 5) zm_314 13 [(0, .ref 61), (1, .int x1), (2, .int x2)] [] (mH h s) Q := by
  unfold mf_314_13 at hf
  refine mb_314_13 hh  (fun c => ?_) (fun c => ?_)
  · rw [if_pos c] at hf
    exact mr_314_100 hh hf k
  · rw [if_neg c] at hf
    exact mr_314_19 hh hf k
def mf_314_0 (N : Nat) (x1 : Int32) (s : mS) : mO := if ¬ (x1 < 0 ∨ 8000 ≤ Int32.toNatClampNeg x1) then (if ((s.2.2.1 23) (Int32.toNatClampNeg x1)) = 14 then mf_314_19 N x1 ((s.2.2.1 23) (Int32.toNatClampNeg x1)) s else mf_314_13 N x1 ((s.2.2.1 23) (Int32.toNatClampNeg x1)) s) else none
theorem mr_314_0 {X : Nat → Option zz_C} {h : zz_H} (hh : 111 ≤ h.length) {d : Nat} {N : Nat} {Q : Option Value → zz_H → Prop} {x1 : Int32} {s s' : mS} {v : Option Value} (hf : mf_314_0 N x1 s = some (s', v)) (k : Q v (mH h s')) : zz_E zp_P zt_tf zt_fd X (d + 5) zm_314 0 [(0, .ref 61), (1, .int x1)] [] (mH h s) Q := by
  unfold mf_314_0 at hf
  obtain ⟨q0, hf⟩ := mo_if hf
  refine mb_314_0 hh q0 (fun c => ?_) (fun c => ?_)
  · rw [if_pos c] at hf
    exact mr_314_19 hh hf k
  · rw [if_neg c] at hf
    exact mr_314_13 hh hf k
/-- ofOne -/
def mf_314 (N : Nat) (x1 : Int32) (s : mS) : mO := mf_314_0 N x1 s
theorem mr_314 {X : Nat → Option zz_C} {h : zz_H} (hh : 111 ≤ h.length) {d : Nat} {N : Nat} {Q : Option Value → zz_H → Prop} {x1 : Int32} {s s' : mS} {v : Option Value} (hf : mf_314 N x1 s = some (s', v)) (k : Q v (mH h s')) : zz_E zp_P zt_tf zt_fd X (d + 5) zm_314 0 [(0, .ref 61), (1, .int x1)] [] (mH h s) Q := by
  unfold mf_314 at hf
  exact zz_E.weak (mr_314_0 hh hf k) rfl ⟨rfl, rfl, trivial⟩
