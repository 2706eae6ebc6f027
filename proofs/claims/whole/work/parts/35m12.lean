/-! beside (III)I -/
theorem mb_320_0 {X : Nat → Option zz_C} {h : zz_H} (hh : 111 ≤ h.length) {s : mS} {d : Nat} {Q : Option Value → zz_H → Prop} {x1 : Int32} {x2 : Int32} {x3 : Int32} (k1 : ¬ x1 = 0 → zz_E zp_P zt_tf zt_fd X d zm_320 8 [(0, .ref 61), (2, .int x2), (3, .int x3)] [] (mH h s) Q) (k2 : ¬ ¬ x1 = 0 → zz_E zp_P zt_tf zt_fd X d zm_320 4 [] [] (mH h s) Q) : zz_E zp_P zt_tf zt_fd X d zm_320 0 [(0, .ref 61), (1, .int x1), (2, .int x2), (3, .int x3)] [] (mH h s) Q := by
  refine zz_E.n 1 rfl rfl rfl ?_
  refine zz_E.b1 8 4 (A := ¬ x1 = 0) rfl (zz_cond_ne _ _) (by decide) rfl rfl (fun c => ?_) (fun c => ?_)
  · exact zz_E.weak (k1 c) rfl ⟨rfl, rfl, rfl, trivial⟩
  · exact zz_E.weak (k2 c) rfl trivial
theorem mb_320_4 {X : Nat → Option zz_C} {h : zz_H} (hh : 111 ≤ h.length) {s : mS} {d : Nat} {Q : Option Value → zz_H → Prop}  (k : zz_E zp_P zt_tf zt_fd X d zm_320 28 [] [.int (-1)] (mH h s) Q) : zz_E zp_P zt_tf zt_fd X d zm_320 4 [] [] (mH h s) Q := by
  refine zz_E.c 5 (.int (-1)) rfl rfl rfl rfl ?_
  refine zz_E.n 28 rfl rfl rfl ?_
  exact zz_E.weak k rfl trivial
theorem mb_320_8 {X : Nat → Option zz_C} {h : zz_H} (hh : 111 ≤ h.length) {s : mS} {d : Nat} {Q : Option Value → zz_H → Prop} {x2 : Int32} {x3 : Int32} (i13 : ¬ (x2 < 0 ∨ 166300 ≤ Int32.toNatClampNeg x2)) (k1 : ¬ ((s.2.2.1 47) (Int32.toNatClampNeg x2)) = 2 → zz_E zp_P zt_tf zt_fd X d zm_320 27 [(2, .int x2)] [] (mH h s) Q) (k2 : ¬ ¬ ((s.2.2.1 47) (Int32.toNatClampNeg x2)) = 2 → zz_E zp_P zt_tf zt_fd X d zm_320 18 [(0, .ref 61), (2, .int x2), (3, .int x3)] [] (mH h s) Q) : zz_E zp_P zt_tf zt_fd X d zm_320 8 [(0, .ref 61), (2, .int x2), (3, .int x3)] [] (mH h s) Q := by
  refine zz_E.n 9 rfl rfl rfl ?_
  refine mE_g hh 12 (v := .ref 89) rfl rfl rfl ?_
  refine zz_E.n 13 rfl rfl rfl ?_
  refine mE_ia hh 14 28 (f := (s.2.2.1 47)) rfl (by decide) rfl rfl i13 rfl ?_
  refine zz_E.c 15 (.int 2) rfl rfl rfl rfl ?_
  refine zz_E.b2 27 18 (A := ¬ ((s.2.2.1 47) (Int32.toNatClampNeg x2)) = 2) rfl (zz_cond_ne _ _) (by decide) rfl rfl (fun c => ?_) (fun c => ?_)
  · exact zz_E.weak (k1 c) rfl ⟨rfl, trivial⟩
  · exact zz_E.weak (k2 c) rfl ⟨rfl, rfl, rfl, trivial⟩
theorem mb_320_18 {X : Nat → Option zz_C} {h : zz_H} (hh : 111 ≤ h.length) {s : mS} {d : Nat} {Q : Option Value → zz_H → Prop} {x2 : Int32} {x3 : Int32} (k : zz_E zp_P zt_tf zt_fd X d zm_294 0 [(0, .ref 61), (1, .int x2), (2, .int x3)] [] (mH h s) (fun v h' => zz_E zp_P zt_tf zt_fd X (d + 1) zm_320 24 [] (v.toList ++ []) h' Q)) : zz_E zp_P zt_tf zt_fd X (d + 1) zm_320 18 [(0, .ref 61), (2, .int x2), (3, .int x3)] [] (mH h s) Q := by
  refine zz_E.n 19 rfl rfl rfl ?_
  refine zz_E.n 20 rfl rfl rfl ?_
  refine zz_E.n 21 rfl rfl rfl ?_
  refine mE_cv hh 24 (as := []) rfl rfl (Nat.le_of_ble_eq_true rfl) (Nat.le_of_ble_eq_true rfl) rfl (Nat.le_of_ble_eq_true rfl) rfl ?_
  refine zz_E.mono k ?_
  intro v h' hE
  exact zz_E.weak hE rfl trivial
theorem mb_320_24 {X : Nat → Option zz_C} {h : zz_H} (hh : 111 ≤ h.length) {s : mS} {d : Nat} {Q : Option Value → zz_H → Prop} {y0 : Int32} (k : zz_E zp_P zt_tf zt_fd X d zm_320 28 [] [.int y0] (mH h s) Q) : zz_E zp_P zt_tf zt_fd X d zm_320 24 [] [.int y0] (mH h s) Q := by
  refine zz_E.n 28 rfl rfl rfl ?_
  exact zz_E.weak k rfl trivial
theorem mb_320_27 {X : Nat → Option zz_C} {h : zz_H} (hh : 111 ≤ h.length) {s : mS} {d : Nat} {Q : Option Value → zz_H → Prop} {x2 : Int32} (k : zz_E zp_P zt_tf zt_fd X d zm_320 28 [] [.int x2] (mH h s) Q) : zz_E zp_P zt_tf zt_fd X d zm_320 27 [(2, .int x2)] [] (mH h s) Q := by
  refine zz_E.n 28 rfl rfl rfl ?_
  exact zz_E.weak k rfl trivial
theorem mb_320_28 {X : Nat → Option zz_C} {h : zz_H} (hh : 111 ≤ h.length) {s : mS} {d : Nat} {Q : Option Value → zz_H → Prop} {y0 : Int32} (k : Q (some (.int y0)) (mH h s)) : zz_E zp_P zt_tf zt_fd X d zm_320 28 [] [.int y0] (mH h s) Q := by
  refine zz_E.ret rfl rfl rfl ?_
  exact k
def mf_320_28 (N : Nat) (y0 : Int32) (s : mS) : mO := some (s, (some (.int y0)))
theorem mr_320_28 {X : Nat → Option zz_C} {h : zz_H} (hh : 111 ≤ h.length) {d : Nat} {N : Nat} {Q : Option Value → zz_H → Prop} {y0 : Int32} {s s' : mS} {v : Option Value} (hf : mf_320_28 N y0 s = some (s', v)) (k : Q v (mH h s')) : zz_E zp_P zt_tf zt_fd X (d + 1) zm_320 28 [] [.int y0] (mH h s) Q := by
  unfold mf_320_28 at hf
  cases hf
  exact mb_320_28 hh  k
def mf_320_27 (N : Nat) (x2 : Int32) (s : mS) : mO := mf_320_28 N x2 s
theorem mr_320_27 {X : Nat → Option zz_C} {h : zz_H} (hh : 111 ≤ h.length) {d : Nat} {N : Nat} {Q : Option Value → zz_H → Prop} {x2 : Int32} {s s' : mS} {v : Option Value} (hf : mf_320_27 N x2 s = some (s', v)) (k : Q v (mH h s')) : zz_E zp_P zt_tf zt_fd X (d + 1) zm_320 27 [(2, .int x2)] [] (mH h s) Q := by
  unfold mf_320_27 at hf
  exact mb_320_27 hh  (mr_320_28 hh hf k)
def mf_320_24 (N : Nat) (y0 : Int32) (s : mS) : mO := mf_320_28 N y0 s
theorem mr_320_24 {X : Nat → Option zz_C} {h : zz_H} (hh : 111 ≤ h.length) {d : Nat} {N : Nat} {Q : Option Value → zz_H → Prop} {y0 : Int32} {s s' : mS} {v : Option Value} (hf : mf_320_24 N y0 s = some (s', v)) (k : Q v (mH h s')) : zz_E zp_P zt_tf zt_fd X (d + 1) zm_320 24 [] [.int y0] (mH h s) Q := by
  unfold mf_320_24 at hf
  exact mb_320_24 hh  (mr_320_28 hh hf k)
def mf_320_18 (N : Nat) (x2 : Int32) (x3 : Int32) (s : mS) : mO := mo_bi (mf_294 N x2 x3 s) (fun s1 y => mf_320_24 N y s1)
theorem mr_320_18 {X : Nat → Option zz_C} {h : zz_H} (hh : 111 ≤ h.length) {d : Nat} {N : Nat} {Q : Option Value → zz_H → Prop} {x2 : Int32} {x3 : Int32} {s s' : mS} {v : Option Value} (hf : mf_320_18 N x2 x3 s = some (s', v)) (k : Q v (mH h s')) : zz_E zp_P zt_tf zt_fd X (d + 1) zm_320 18 [(0, .ref 61), (2, .int x2), (3, .int x3)] [] (mH h s) Q := by
  unfold mf_320_18 at hf
  obtain ⟨s1, y, e, hf⟩ := mo_bi_ok hf
  exact mb_320_18 (d := d + 0) hh  (mr_294 (d := d + 0) hh e (mr_320_24 hh hf k))
def mf_320_8 (N : Nat) (x2 : Int32) (x3 : Int32) (s : mS) : mO := if ¬ (x2 < 0 ∨ 166300 ≤ Int32.toNatClampNeg x2) then (if ¬ ((s.2.2.1 47) (Int32.toNatClampNeg x2)) = 2 then mf_320_27 N x2 s else mf_320_18 N x2 x3 s) else none
theorem mr_320_8 {X : Nat → Option zz_C} {h : zz_H} (hh : 111 ≤ h.length) {d : Nat} {N : Nat} {Q : Option Value → zz_H → Prop} {x2 : Int32} {x3 : Int32} {s s' : mS} {v : Option Value} (hf : mf_320_8 N x2 x3 s = some (s', v)) (k : Q v (mH h s')) : zz_E zp_P zt_tf zt_fd X (d + 1) zm_320 8 [(0, .ref 61), (2, .int x2), (3, .int x3)] [] (mH h s) Q := by
  unfold mf_320_8 at hf
  obtain ⟨q0, hf⟩ := mo_if hf
  refine mb_320_8 hh q0 (fun c => ?_) (fun c => ?_)
  · rw [if_pos c] at hf
    exact mr_320_27 hh hf k
  · rw [if_neg c] at hf
    exact mr_320_18 hh hf k
def mf_320_4 (N : Nat)  (s : mS) : mO := mf_320_28 N (-1) s
theorem mr_320_4 {X : Nat → Option zz_C} {h : zz_H} (hh : 111 ≤ h.length) {d : Nat} {N : Nat} {Q : Option Value → zz_H → Prop}  {s s' : mS} {v : Option Value} (hf : mf_320_4 N  s = some (s', v)) (k : Q v (mH h s')) : zz_E zp_P zt_tf zt_fd X (d + 1) zm_320 4 [] [] (mH h s) Q := by
  unfold mf_320_4 at hf
  exact mb_320_4 hh  (mr_320_28 hh hf k)
def mf_320_0 (N : Nat) (x1 : Int32) (x2 : Int32) (x3 : Int32) (s : mS) : mO := if ¬ x1 = 0 then mf_320_8 N x2 x3 s else mf_320_4 N  s
theorem mr_320_0 {X : Nat → Option zz_C} {h : zz_H} (hh : 111 ≤ h.length) {d : Nat} {N : Nat} {Q : Option Value → zz_H → Prop} {x1 : Int32} {x2 : Int32} {x3 : Int32} {s s' : mS} {v : Option Value} (hf : mf_320_0 N x1 x2 x3 s = some (s', v)) (k : Q v (mH h s')) : zz_E zp_P zt_tf zt_fd X (d + 1) zm_320 0 [(0, .ref 61), (1, .int x1), (2, .int x2), (3, .int x3)] [] (mH h s) Q := by
  unfold mf_320_0 at hf
  refine mb_320_0 hh  (fun c => ?_) (fun c => ?_)
  · rw [if_pos c] at hf
    exact mr_320_8 hh hf k
  · rw [if_neg c] at hf
    exact mr_320_4 hh hf k
/-- beside -/
def mf_320 (N : Nat) (x1 : Int32) (x2 : Int32) (x3 : Int32) (s : mS) : mO := mf_320_0 N x1 x2 x3 s
theorem mr_320 {X : Nat → Option zz_C} {h : zz_H} (hh : 111 ≤ h.length) {d : Nat} {N : Nat} {Q : Option Value → zz_H → Prop} {x1 : Int32} {x2 : Int32} {x3 : Int32} {s s' : mS} {v : Option Value} (hf : mf_320 N x1 x2 x3 s = some (s', v)) (k : Q v (mH h s')) : zz_E zp_P zt_tf zt_fd X (d + 1) zm_320 0 [(0, .ref 61), (1, .int x1), (2, .int x2), (3, .int x3)] [] (mH h s) Q := by
  unfold mf_320 at hf
  exact zz_E.weak (mr_320_0 hh hf k) rfl ⟨rfl, rfl, rfl, rfl, trivial⟩
