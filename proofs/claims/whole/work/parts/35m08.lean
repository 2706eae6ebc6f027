/-! function (II)I -/
theorem mb_67_0 {X : Nat → Option zz_C} {h : zz_H} (hh : 111 ≤ h.length) {s : mS} {d : Nat} {Q : Option Value → zz_H → Prop} {x1 : Int32} {x2 : Int32} (k1 : x1 < 0 → zz_E zp_P zt_tf zt_fd X d zm_67 12 [] [] (mH h s) Q) (k2 : ¬ x1 < 0 → zz_E zp_P zt_tf zt_fd X d zm_67 4 [(0, .ref 61), (1, .int x1), (2, .int x2)] [] (mH h s) Q) : zz_E zp_P zt_tf zt_fd X d zm_67 0 [(0, .ref 61), (1, .int x1), (2, .int x2)] [] (mH h s) Q := by
  refine zz_E.n 1 rfl rfl rfl ?_
  refine zz_E.b1 12 4 (A := x1 < 0) rfl rfl (by decide) rfl rfl (fun c => ?_) (fun c => ?_)
  · exact zz_E.weak (k1 c) rfl trivial
  · exact zz_E.weak (k2 c) rfl ⟨rfl, rfl, rfl, trivial⟩
theorem mb_67_4 {X : Nat → Option zz_C} {h : zz_H} (hh : 111 ≤ h.length) {s : mS} {d : Nat} {Q : Option Value → zz_H → Prop} {x1 : Int32} {x2 : Int32} (k1 : x1 < (s.1 14) → zz_E zp_P zt_tf zt_fd X d zm_67 14 [(0, .ref 61), (1, .int x1), (2, .int x2)] [] (mH h s) Q) (k2 : ¬ x1 < (s.1 14) → zz_E zp_P zt_tf zt_fd X d zm_67 12 [] [] (mH h s) Q) : zz_E zp_P zt_tf zt_fd X d zm_67 4 [(0, .ref 61), (1, .int x1), (2, .int x2)] [] (mH h s) Q := by
  refine zz_E.n 5 rfl rfl rfl ?_
  refine zz_E.n 6 rfl rfl rfl ?_
  refine mE_g hh 9 (v := .int (s.1 14)) rfl rfl rfl ?_
  refine zz_E.b2 14 12 (A := x1 < (s.1 14)) rfl rfl (by decide) rfl rfl (fun c => ?_) (fun c => ?_)
  · exact zz_E.weak (k1 c) rfl ⟨rfl, rfl, rfl, trivial⟩
  · exact zz_E.weak (k2 c) rfl trivial
theorem mb_67_12 {X : Nat → Option zz_C} {h : zz_H} (hh : 111 ≤ h.length) {s : mS} {d : Nat} {Q : Option Value → zz_H → Prop}  (k : Q (some (.int (-1))) (mH h s)) : zz_E zp_P zt_tf zt_fd X d zm_67 12 [] [] (mH h s) Q := by
  refine zz_E.c 13 (.int (-1)) rfl rfl rfl rfl ?_
  refine zz_E.ret rfl rfl rfl ?_
  exact k
theorem mb_67_14 {X : Nat → Option zz_C} {h : zz_H} (hh : 111 ≤ h.length) {s : mS} {d : Nat} {Q : Option Value → zz_H → Prop} {x1 : Int32} {x2 : Int32} (k1 : ¬ x2 = 0 → zz_E zp_P zt_tf zt_fd X d zm_67 37 [(0, .ref 61), (2, .int x2), (3, .int ((12 * (s.1 12)) + x1))] [] (mH h s) Q) (k2 : ¬ ¬ x2 = 0 → zz_E zp_P zt_tf zt_fd X d zm_67 28 [(0, .ref 61), (3, .int ((12 * (s.1 12)) + x1))] [] (mH h s) Q) : zz_E zp_P zt_tf zt_fd X d zm_67 14 [(0, .ref 61), (1, .int x1), (2, .int x2)] [] (mH h s) Q := by
  refine zz_E.c 16 (.int 12) rfl rfl rfl rfl ?_
  refine zz_E.n 17 rfl rfl rfl ?_
  refine mE_g hh 20 (v := .int (s.1 12)) rfl rfl rfl ?_
  refine zz_E.n 21 rfl rfl rfl ?_
  refine zz_E.n 22 rfl rfl rfl ?_
  refine zz_E.n 23 rfl rfl rfl ?_
  refine zz_E.n 24 rfl rfl rfl ?_
  refine zz_E.n 25 rfl rfl rfl ?_
  refine zz_E.b1 37 28 (A := ¬ x2 = 0) rfl (zz_cond_ne _ _) (by decide) rfl rfl (fun c => ?_) (fun c => ?_)
  · exact zz_E.weak (k1 c) rfl ⟨rfl, rfl, rfl, trivial⟩
  · exact zz_E.weak (k2 c) rfl ⟨rfl, rfl, trivial⟩
theorem mb_67_28 {X : Nat → Option zz_C} {h : zz_H} (hh : 111 ≤ h.length) {s : mS} {d : Nat} {Q : Option Value → zz_H → Prop} {x3 : Int32} (i33 : ¬ (x3 < 0 ∨ 24 ≤ Int32.toNatClampNeg x3)) (k : zz_E zp_P zt_tf zt_fd X d zm_67 66 [] [.int ((s.2.2.1 18) (Int32.toNatClampNeg x3))] (mH h s) Q) : zz_E zp_P zt_tf zt_fd X d zm_67 28 [(0, .ref 61), (3, .int x3)] [] (mH h s) Q := by
  refine zz_E.n 29 rfl rfl rfl ?_
  refine mE_g hh 32 (v := .ref 67) rfl rfl rfl ?_
  refine zz_E.n 33 rfl rfl rfl ?_
  refine mE_ia hh 34 6 (f := (s.2.2.1 18)) rfl (by decide) rfl rfl i33 rfl ?_
  refine zz_E.n 66 rfl rfl rfl ?_
  exact zz_E.weak k rfl trivial
theorem mb_67_37 {X : Nat → Option zz_C} {h : zz_H} (hh : 111 ≤ h.length) {s : mS} {d : Nat} {Q : Option Value → zz_H → Prop} {x2 : Int32} {x3 : Int32} (k1 : ¬ x2 = 1 → zz_E zp_P zt_tf zt_fd X d zm_67 51 [(0, .ref 61), (2, .int x2), (3, .int x3)] [] (mH h s) Q) (k2 : ¬ ¬ x2 = 1 → zz_E zp_P zt_tf zt_fd X d zm_67 42 [(0, .ref 61), (3, .int x3)] [] (mH h s) Q) : zz_E zp_P zt_tf zt_fd X d zm_67 37 [(0, .ref 61), (2, .int x2), (3, .int x3)] [] (mH h s) Q := by
  refine zz_E.n 38 rfl rfl rfl ?_
  refine zz_E.c 39 (.int 1) rfl rfl rfl rfl ?_
  refine zz_E.b2 51 42 (A := ¬ x2 = 1) rfl (zz_cond_ne _ _) (by decide) rfl rfl (fun c => ?_) (fun c => ?_)
  · exact zz_E.weak (k1 c) rfl ⟨rfl, rfl, rfl, trivial⟩
  · exact zz_E.weak (k2 c) rfl ⟨rfl, rfl, trivial⟩
theorem mb_67_42 {X : Nat → Option zz_C} {h : zz_H} (hh : 111 ≤ h.length) {s : mS} {d : Nat} {Q : Option Value → zz_H → Prop} {x3 : Int32} (i47 : ¬ (x3 < 0 ∨ 24 ≤ Int32.toNatClampNeg x3)) (k : zz_E zp_P zt_tf zt_fd X d zm_67 66 [] [.int ((s.2.2.1 19) (Int32.toNatClampNeg x3))] (mH h s) Q) : zz_E zp_P zt_tf zt_fd X d zm_67 42 [(0, .ref 61), (3, .int x3)] [] (mH h s) Q := by
  refine zz_E.n 43 rfl rfl rfl ?_
  refine mE_g hh 46 (v := .ref 68) rfl rfl rfl ?_
  refine zz_E.n 47 rfl rfl rfl ?_
  refine mE_ia hh 48 7 (f := (s.2.2.1 19)) rfl (by decide) rfl rfl i47 rfl ?_
  refine zz_E.n 66 rfl rfl rfl ?_
  exact zz_E.weak k rfl trivial
theorem mb_67_51 {X : Nat → Option zz_C} {h : zz_H} (hh : 111 ≤ h.length) {s : mS} {d : Nat} {Q : Option Value → zz_H → Prop} {x2 : Int32} {x3 : Int32} (k1 : ¬ x2 = 2 → zz_E zp_P zt_tf zt_fd X d zm_67 65 [] [] (mH h s) Q) (k2 : ¬ ¬ x2 = 2 → zz_E zp_P zt_tf zt_fd X d zm_67 56 [(0, .ref 61), (3, .int x3)] [] (mH h s) Q) : zz_E zp_P zt_tf zt_fd X d zm_67 51 [(0, .ref 61), (2, .int x2), (3, .int x3)] [] (mH h s) Q := by
  refine zz_E.n 52 rfl rfl rfl ?_
  refine zz_E.c 53 (.int 2) rfl rfl rfl rfl ?_
  refine zz_E.b2 65 56 (A := ¬ x2 = 2) rfl (zz_cond_ne _ _) (by decide) rfl rfl (fun c => ?_) (fun c => ?_)
  · exact zz_E.weak (k1 c) rfl trivial
  · exact zz_E.weak (k2 c) rfl ⟨rfl, rfl, trivial⟩
theorem mb_67_56 {X : Nat → Option zz_C} {h : zz_H} (hh : 111 ≤ h.length) {s : mS} {d : Nat} {Q : Option Value → zz_H → Prop} {x3 : Int32} (i61 : ¬ (x3 < 0 ∨ 24 ≤ Int32.toNatClampNeg x3)) (k : zz_E zp_P zt_tf zt_fd X d zm_67 66 [] [.int ((s.2.2.1 17) (Int32.toNatClampNeg x3))] (mH h s) Q) : zz_E zp_P zt_tf zt_fd X d zm_67 56 [(0, .ref 61), (3, .int x3)] [] (mH h s) Q := by
  refine zz_E.n 57 rfl rfl rfl ?_
  refine mE_g hh 60 (v := .ref 66) rfl rfl rfl ?_
  refine zz_E.n 61 rfl rfl rfl ?_
  refine mE_ia hh 62 5 (f := (s.2.2.1 17)) rfl (by decide) rfl rfl i61 rfl ?_
  refine zz_E.n 66 rfl rfl rfl ?_
  exact zz_E.weak k rfl trivial
theorem mb_67_65 {X : Nat → Option zz_C} {h : zz_H} (hh : 111 ≤ h.length) {s : mS} {d : Nat} {Q : Option Value → zz_H → Prop}  (k : zz_E zp_P zt_tf zt_fd X d zm_67 66 [] [.int (-1)] (mH h s) Q) : zz_E zp_P zt_tf zt_fd X d zm_67 65 [] [] (mH h s) Q := by
  refine zz_E.c 66 (.int (-1)) rfl rfl rfl rfl ?_
  exact zz_E.weak k rfl trivial
theorem mb_67_66 {X : Nat → Option zz_C} {h : zz_H} (hh : 111 ≤ h.length) {s : mS} {d : Nat} {Q : Option Value → zz_H → Prop} {y0 : Int32} (k : Q (some (.int y0)) (mH h s)) : zz_E zp_P zt_tf zt_fd X d zm_67 66 [] [.int y0] (mH h s) Q := by
  refine zz_E.ret rfl rfl rfl ?_
  exact k
def mf_67_12 (N : Nat)  (s : mS) : mO := some (s, (some (.int (-1))))
theorem mr_67_12 {X : Nat → Option zz_C} {h : zz_H} (hh : 111 ≤ h.length) {d : Nat} {N : Nat} {Q : Option Value → zz_H → Prop}  {s s' : mS} {v : Option Value} (hf : mf_67_12 N  s = some (s', v)) (k : Q v (mH h s')) : zz_E zp_P zt_tf zt_fd X (d + 0) zm_67 12 [] [] (mH h s) Q := by
  unfold mf_67_12 at hf
  cases hf
  exact mb_67_12 hh  k
def mf_67_66 (N : Nat) (y0 : Int32) (s : mS) : mO := some (s, (some (.int y0)))
theorem mr_67_66 {X : Nat → Option zz_C} {h : zz_H} (hh : 111 ≤ h.length) {d : Nat} {N : Nat} {Q : Option Value → zz_H → Prop} {y0 : Int32} {s s' : mS} {v : Option Value} (hf : mf_67_66 N y0 s = some (s', v)) (k : Q v (mH h s')) : zz_E zp_P zt_tf zt_fd X (d + 0) zm_67 66 [] [.int y0] (mH h s) Q := by
  unfold mf_67_66 at hf
  cases hf
  exact mb_67_66 hh  k
def mf_67_65 (N : Nat)  (s : mS) : mO := mf_67_66 N (-1) s
theorem mr_67_65 {X : Nat → Option zz_C} {h : zz_H} (hh : 111 ≤ h.length) {d : Nat} {N : Nat} {Q : Option Value → zz_H → Prop}  {s s' : mS} {v : Option Value} (hf : mf_67_65 N  s = some (s', v)) (k : Q v (mH h s')) : zz_E zp_P zt_tf zt_fd X (d + 0) zm_67 65 [] [] (mH h s) Q := by
  unfold mf_67_65 at hf
  exact mb_67_65 hh  (mr_67_66 hh hf k)
def mf_67_56 (N : Nat) (x3 : Int32) (s : mS) : mO := if ¬ (x3 < 0 ∨ 24 ≤ Int32.toNatClampNeg x3) then (mf_67_66 N ((s.2.2.1 17) (Int32.toNatClampNeg x3)) s) else none
theorem mr_67_56 {X : Nat → Option zz_C} {h : zz_H} (hh : 111 ≤ h.length) {d : Nat} {N : Nat} {Q : Option Value → zz_H → Prop} {x3 : Int32} {s s' : mS} {v : Option Value} (hf : mf_67_56 N x3 s = some (s', v)) (k : Q v (mH h s')) : zz_E zp_P zt_tf zt_fd X (d + 0) zm_67 56 [(0, .ref 61), (3, .int x3)] [] (mH h s) Q := by
  unfold mf_67_56 at hf
  obtain ⟨q0, hf⟩ := mo_if hf
  exact mb_67_56 hh q0 (mr_67_66 hh hf k)
def mf_67_51 (N : Nat) (x2 : Int32) (x3 : Int32) (s : mS) : mO := if ¬ x2 = 2 then mf_67_65 N  s else mf_67_56 N x3 s
theorem mr_67_51 {X : Nat → Option zz_C} {h : zz_H} (hh : 111 ≤ h.length) {d : Nat} {N : Nat} {Q : Option Value → zz_H → Prop} {x2 : Int32} {x3 : Int32} {s s' : mS} {v : Option Value} (hf : mf_67_51 N x2 x3 s = some (s', v)) (k : Q v (mH h s')) : zz_E zp_P zt_tf zt_fd X (d + 0) zm_67 51 [(0, .ref 61), (2, .int x2), (3, .int x3)] [] (mH h s) Q := by
  unfold mf_67_51 at hf
  refine mb_67_51 hh  (fun c => ?_) (fun c => ?_)
  · rw [if_pos c] at hf
    exact mr_67_65 hh hf k
  · rw [if_neg c] at hf
    exact mr_67_56 hh hf k
def mf_67_42 (N : Nat) (x3 : Int32) (s : mS) : mO := if ¬ (x3 < 0 ∨ 24 ≤ Int32.toNatClampNeg x3) then (mf_67_66 N ((s.2.2.1 19) (Int32.toNatClampNeg x3)) s) else none
theorem mr_67_42 {X : Nat → Option zz_C} {h : zz_H} (hh : 111 ≤ h.length) {d : Nat} {N : Nat} {Q : Option Value → zz_H → Prop} {x3 : Int32} {s s' : mS} {v : Option Value} (hf : mf_67_42 N x3 s = some (s', v)) (k : Q v (mH h s')) : zz_E zp_P zt_tf zt_fd X (d + 0) zm_67 42 [(0, .ref 61), (3, .int x3)] [] (mH h s) Q := by
  unfold mf_67_42 at hf
  obtain ⟨q0, hf⟩ := mo_if hf
  exact mb_67_42 hh q0 (mr_67_66 hh hf k)
def mf_67_37 (N : Nat) (x2 : Int32) (x3 : Int32) (s : mS) : mO := if ¬ x2 = 1 then mf_67_51 N x2 x3 s else mf_67_42 N x3 s
theorem mr_67_37 {X : Nat → Option zz_C} {h : zz_H} (hh : 111 ≤ h.length) {d : Nat} {N : Nat} {Q : Option Value → zz_H → Prop} {x2 : Int32} {x3 : Int32} {s s' : mS} {v : Option Value} (hf : mf_67_37 N x2 x3 s = some (s', v)) (k : Q v (mH h s')) : zz_E zp_P zt_tf zt_fd X (d + 0) zm_67 37 [(0, .ref 61), (2, .int x2), (3, .int x3)] [] (mH h s) Q := by
  unfold mf_67_37 at hf
  refine mb_67_37 hh  (fun c => ?_) (fun c => ?_)
  · rw [if_pos c] at hf
    exact mr_67_51 hh hf k
  · rw [if_neg c] at hf
    exact mr_67_42 hh hf k
def mf_67_28 (N : Nat) (x3 : Int32) (s : mS) : mO := if ¬ (x3 < 0 ∨ 24 ≤ Int32.toNatClampNeg x3) then (mf_67_66 N ((s.2.2.1 18) (Int32.toNatClampNeg x3)) s) else none
theorem mr_67_28 {X : Nat → Option zz_C} {h : zz_H} (hh : 111 ≤ h.length) {d : Nat} {N : Nat} {Q : Option Value → zz_H → Prop} {x3 : Int32} {s s' : mS} {v : Option Value} (hf : mf_67_28 N x3 s = some (s', v)) (k : Q v (mH h s')) : zz_E zp_P zt_tf zt_fd X (d + 0) zm_67 28 [(0, .ref 61), (3, .int x3)] [] (mH h s) Q := by
  unfold mf_67_28 at hf
  obtain ⟨q0, hf⟩ := mo_if hf
  exact mb_67_28 hh q0 (mr_67_66 hh hf k)
def mf_67_14 (N : Nat) (x1 : Int32) (x2 : Int32) (s : mS) : mO := if ¬ x2 = 0 then mf_67_37 N x2 ((12 * (s.1 12)) + x1) s else mf_67_28 N ((12 * (s.1 12)) + x1) s
theorem mr_67_14 {X : Nat → Option zz_C} {h : zz_H} (hh : 111 ≤ h.length) {d : Nat} {N : Nat} {Q : Option Value → zz_H → Prop} {x1 : Int32} {x2 : Int32} {s s' : mS} {v : Option Value} (hf : mf_67_14 N x1 x2 s = some (s', v)) (k : Q v (mH h s')) : zz_E zp_P zt_tf zt_fd X (d + 0) zm_67 14 [(0, .ref 61), (1, .int x1), (2, .int x2)] [] (mH h s) Q := by
  unfold mf_67_14 at hf
  refine mb_67_14 hh  (fun c => ?_) (fun c => ?_)
  · rw [if_pos c] at hf
    exact mr_67_37 hh hf k
  · rw [if_neg c] at hf
    exact mr_67_28 hh hf k
def mf_67_4 (N : Nat) (x1 : Int32) (x2 : Int32) (s : mS) : mO := if x1 < (s.1 14) then mf_67_14 N x1 x2 s else mf_67_12 N  s
theorem mr_67_4 {X : Nat → Option zz_C} {h : zz_H} (hh : 111 ≤ h.length) {d : Nat} {N : Nat} {Q : Option Value → zz_H → Prop} {x1 : Int32} {x2 : Int32} {s s' : mS} {v : Option Value} (hf : mf_67_4 N x1 x2 s = some (s', v)) (k : Q v (mH h s')) : zz_E zp_P zt_tf zt_fd X (d + 0) zm_67 4 [(0, .ref 61), (1, .int x1), (2, .int x2)] [] (mH h s) Q := by
  unfold mf_67_4 at hf
  refine mb_67_4 hh  (fun c => ?_) (fun c => ?_)
  · rw [if_pos c] at hf
    exact mr_67_14 hh hf k
  · rw [if_neg c] at hf
    exact mr_67_12 hh hf k
def mf_67_0 (N : Nat) (x1 : Int32) (x2 : Int32) (s : mS) : mO := if x1 < 0 then mf_67_12 N  s else mf_67_4 N x1 x2 s
theorem mr_67_0 {X : Nat → Option zz_C} {h : zz_H} (hh : 111 ≤ h.length) {d : Nat} {N : Nat} {Q : Option Value → zz_H → Prop} {x1 : Int32} {x2 : Int32} {s s' : mS} {v : Option Value} (hf : mf_67_0 N x1 x2 s = some (s', v)) (k : Q v (mH h s')) : zz_E zp_P zt_tf zt_fd X (d + 0) zm_67 0 [(0, .ref 61), (1, .int x1), (2, .int x2)] [] (mH h s) Q := by
  unfold mf_67_0 at hf
  refine mb_67_0 hh  (fun c => ?_) (fun c => ?_)
  · rw [if_pos c] at hf
    exact mr_67_12 hh hf k
  · rw [if_neg c] at hf
    exact mr_67_4 hh hf k
/-- function -/
def mf_67 (N : Nat) (x1 : Int32) (x2 : Int32) (s : mS) : mO := mf_67_0 N x1 x2 s
theorem mr_67 {X : Nat → Option zz_C} {h : zz_H} (hh : 111 ≤ h.length) {d : Nat} {N : Nat} {Q : Option Value → zz_H → Prop} {x1 : Int32} {x2 : Int32} {s s' : mS} {v : Option Value} (hf : mf_67 N x1 x2 s = some (s', v)) (k : Q v (mH h s')) : zz_E zp_P zt_tf zt_fd X (d + 0) zm_67 0 [(0, .ref 61), (1, .int x1), (2, .int x2)] [] (mH h s) Q := by
  unfold mf_67 at hf
  exact zz_E.weak (mr_67_0 hh hf k) rfl ⟨rfl, rfl, rfl, trivial⟩
/-! trouble (II)V -/
theorem mb_301_0 {X : Nat → Option zz_C} {h : zz_H} (hh : 111 ≤ h.length) {s : mS} {d : Nat} {Q : Option Value → zz_H → Prop} {x1 : Int32} {x2 : Int32} (k1 : (s.1 66) ≤ 0 → zz_E zp_P zt_tf zt_fd X d zm_301 8 [(0, .ref 61), (1, .int x1), (2, .int x2)] [] (mH h s) Q) (k2 : ¬ (s.1 66) ≤ 0 → zz_E zp_P zt_tf zt_fd X d zm_301 7 [] [] (mH h s) Q) : zz_E zp_P zt_tf zt_fd X d zm_301 0 [(0, .ref 61), (1, .int x1), (2, .int x2)] [] (mH h s) Q := by
  refine zz_E.n 1 rfl rfl rfl ?_
  refine mE_g hh 4 (v := .int (s.1 66)) rfl rfl rfl ?_
  refine zz_E.b1 8 7 (A := (s.1 66) ≤ 0) rfl rfl (by decide) rfl rfl (fun c => ?_) (fun c => ?_)
  · exact zz_E.weak (k1 c) rfl ⟨rfl, rfl, rfl, trivial⟩
  · exact zz_E.weak (k2 c) rfl trivial
theorem mb_301_7 {X : Nat → Option zz_C} {h : zz_H} (hh : 111 ≤ h.length) {s : mS} {d : Nat} {Q : Option Value → zz_H → Prop}  (k : Q none (mH h s)) : zz_E zp_P zt_tf zt_fd X d zm_301 7 [] [] (mH h s) Q := by
  refine zz_E.ret rfl rfl rfl ?_
  exact k
theorem mb_301_8 {X : Nat → Option zz_C} {h : zz_H} (hh : 111 ≤ h.length) {s : mS} {d : Nat} {Q : Option Value → zz_H → Prop} {x1 : Int32} {x2 : Int32} (k : Q none (mH h (mI (mI s 66 x1) 67 x2))) : zz_E zp_P zt_tf zt_fd X d zm_301 8 [(0, .ref 61), (1, .int x1), (2, .int x2)] [] (mH h s) Q := by
  refine zz_E.n 9 rfl rfl rfl ?_
  refine zz_E.n 10 rfl rfl rfl ?_
  refine mE_p hh 13 rfl (by decide) rfl (mF_66 _ _) rfl ?_
  refine zz_E.n 14 rfl rfl rfl ?_
  refine zz_E.n 15 rfl rfl rfl ?_
  refine mE_p hh 18 rfl (by decide) rfl (mF_67 _ _) rfl ?_
  refine zz_E.ret rfl rfl rfl ?_
  exact k
def mf_301_8 (N : Nat) (x1 : Int32) (x2 : Int32) (s : mS) : mO := some ((mI (mI s 66 x1) 67 x2), none)
theorem mr_301_8 {X : Nat → Option zz_C} {h : zz_H} (hh : 111 ≤ h.length) {d : Nat} {N : Nat} {Q : Option Value → zz_H → Prop} {x1 : Int32} {x2 : Int32} {s s' : mS} {v : Option Value} (hf : mf_301_8 N x1 x2 s = some (s', v)) (k : Q v (mH h s')) : zz_E zp_P zt_tf zt_fd X (d + 0) zm_301 8 [(0, .ref 61), (1, .int x1), (2, .int x2)] [] (mH h s) Q := by
  unfold mf_301_8 at hf
  cases hf
  exact mb_301_8 hh  k
def mf_301_7 (N : Nat)  (s : mS) : mO := some (s, none)
theorem mr_301_7 {X : Nat → Option zz_C} {h : zz_H} (hh : 111 ≤ h.length) {d : Nat} {N : Nat} {Q : Option Value → zz_H → Prop}  {s s' : mS} {v : Option Value} (hf : mf_301_7 N  s = some (s', v)) (k : Q v (mH h s')) : zz_E zp_P zt_tf zt_fd X (d + 0) zm_301 7 [] [] (mH h s) Q := by
  unfold mf_301_7 at hf
  cases hf
  exact mb_301_7 hh  k
def mf_301_0 (N : Nat) (x1 : Int32) (x2 : Int32) (s : mS) : mO := if (s.1 66) ≤ 0 then mf_301_8 N x1 x2 s else mf_301_7 N  s
theorem mr_301_0 {X : Nat → Option zz_C} {h : zz_H} (hh : 111 ≤ h.length) {d : Nat} {N : Nat} {Q : Option Value → zz_H → Prop} {x1 : Int32} {x2 : Int32} {s s' : mS} {v : Option Value} (hf : mf_301_0 N x1 x2 s = some (s', v)) (k : Q v (mH h s')) : zz_E zp_P zt_tf zt_fd X (d + 0) zm_301 0 [(0, .ref 61), (1, .int x1), (2, .int x2)] [] (mH h s) Q := by
  unfold mf_301_0 at hf
  refine mb_301_0 hh  (fun c => ?_) (fun c => ?_)
  · rw [if_pos c] at hf
    exact mr_301_8 hh hf k
  · rw [if_neg c] at hf
    exact mr_301_7 hh hf k
/-- trouble -/
def mf_301 (N : Nat) (x1 : Int32) (x2 : Int32) (s : mS) : mO := mf_301_0 N x1 x2 s
theorem mr_301 {X : Nat → Option zz_C} {h : zz_H} (hh : 111 ≤ h.length) {d : Nat} {N : Nat} {Q : Option Value → zz_H → Prop} {x1 : Int32} {x2 : Int32} {s s' : mS} {v : Option Value} (hf : mf_301 N x1 x2 s = some (s', v)) (k : Q v (mH h s')) : zz_E zp_P zt_tf zt_fd X (d + 0) zm_301 0 [(0, .ref 61), (1, .int x1), (2, .int x2)] [] (mH h s) Q := by
  unfold mf_301 at hf
  exact zz_E.weak (mr_301_0 hh hf k) rfl ⟨rfl, rfl, rfl, trivial⟩
/-! enters (III)V -/
theorem mb_310_0 {X : Nat → Option zz_C} {h : zz_H} (hh : 111 ≤ h.length) {s : mS} {d : Nat} {Q : Option Value → zz_H → Prop} {x1 : Int32} {x2 : Int32} {x3 : Int32} (k1 : ¬ (s.1 73) = 10 → zz_E zp_P zt_tf zt_fd X d zm_310 20 [(0, .ref 61), (1, .int x1), (2, .int x2), (3, .int x3)] [] (mH h s) Q) (k2 : ¬ ¬ (s.1 73) = 10 → zz_E zp_P zt_tf zt_fd X d zm_310 9 [(0, .ref 61)] [] (mH h s) Q) : zz_E zp_P zt_tf zt_fd X d zm_310 0 [(0, .ref 61), (1, .int x1), (2, .int x2), (3, .int x3)] [] (mH h s) Q := by
  refine zz_E.n 1 rfl rfl rfl ?_
  refine mE_g hh 4 (v := .int (s.1 73)) rfl rfl rfl ?_
  refine zz_E.c 6 (.int 10) rfl rfl rfl rfl ?_
  refine zz_E.b2 20 9 (A := ¬ (s.1 73) = 10) rfl (zz_cond_ne _ _) (by decide) rfl rfl (fun c => ?_) (fun c => ?_)
  · exact zz_E.weak (k1 c) rfl ⟨rfl, rfl, rfl, rfl, trivial⟩
  · exact zz_E.weak (k2 c) rfl ⟨rfl, trivial⟩
theorem mb_310_9 {X : Nat → Option zz_C} {h : zz_H} (hh : 111 ≤ h.length) {s : mS} {d : Nat} {Q : Option Value → zz_H → Prop}  (k : zz_E zp_P zt_tf zt_fd X d zm_301 0 [(0, .ref 61), (1, .int 8), (2, .int (s.1 70))] [] (mH h s) (fun v h' => zz_E zp_P zt_tf zt_fd X (d + 1) zm_310 19 [] (v.toList ++ []) h' Q)) : zz_E zp_P zt_tf zt_fd X (d + 1) zm_310 9 [(0, .ref 61)] [] (mH h s) Q := by
  refine zz_E.n 10 rfl rfl rfl ?_
  refine zz_E.c 12 (.int 8) rfl rfl rfl rfl ?_
  refine zz_E.n 13 rfl rfl rfl ?_
  refine mE_g hh 16 (v := .int (s.1 70)) rfl rfl rfl ?_
  refine mE_cv hh 19 (as := []) rfl rfl (Nat.le_of_ble_eq_true rfl) (Nat.le_of_ble_eq_true rfl) rfl (Nat.le_of_ble_eq_true rfl) rfl ?_
  refine zz_E.mono k ?_
  intro v h' hE
  exact zz_E.weak hE rfl trivial
theorem mb_310_19 {X : Nat → Option zz_C} {h : zz_H} (hh : 111 ≤ h.length) {s : mS} {d : Nat} {Q : Option Value → zz_H → Prop}  (k : Q none (mH h s)) : zz_E zp_P zt_tf zt_fd X d zm_310 19 [] [] (mH h s) Q := by
  refine zz_E.ret rfl rfl rfl ?_
  exact k
theorem mb_310_20 {X : Nat → Option zz_C} {h : zz_H} (hh : 111 ≤ h.length) {s : mS} {d : Nat} {Q : Option Value → zz_H → Prop} {x1 : Int32} {x2 : Int32} {x3 : Int32} (k : zz_E zp_P zt_tf zt_fd X d zm_310 31 [(0, .ref 61), (1, .int x1), (2, .int x2), (3, .int x3), (4, .int ((s.1 51) - x2)), (5, .int 0)] [] (mH h s) Q) : zz_E zp_P zt_tf zt_fd X d zm_310 20 [(0, .ref 61), (1, .int x1), (2, .int x2), (3, .int x3)] [] (mH h s) Q := by
  refine zz_E.n 21 rfl rfl rfl ?_
  refine mE_g hh 24 (v := .int (s.1 51)) rfl rfl rfl ?_
  refine zz_E.n 25 rfl rfl rfl ?_
  refine zz_E.n 26 rfl rfl rfl ?_
  refine zz_E.n 28 rfl rfl rfl ?_
  refine zz_E.c 29 (.int 0) rfl rfl rfl rfl ?_
  refine zz_E.n 31 rfl rfl rfl ?_
  exact zz_E.weak k rfl ⟨rfl, rfl, rfl, rfl, rfl, rfl, trivial⟩
theorem mb_310_31 {X : Nat → Option zz_C} {h : zz_H} (hh : 111 ≤ h.length) {s : mS} {d : Nat} {Q : Option Value → zz_H → Prop} {x1 : Int32} {x2 : Int32} {x3 : Int32} {x4 : Int32} {x5 : Int32} (k1 : 14 ≤ x5 → zz_E zp_P zt_tf zt_fd X d zm_310 114 [(0, .ref 61), (1, .int x1), (3, .int x3), (4, .int x4)] [] (mH h s) Q) (k2 : ¬ 14 ≤ x5 → zz_E zp_P zt_tf zt_fd X d zm_310 38 [(0, .ref 61), (1, .int x1), (2, .int x2), (3, .int x3), (4, .int x4), (5, .int x5)] [] (mH h s) Q) : zz_E zp_P zt_tf zt_fd X d zm_310 31 [(0, .ref 61), (1, .int x1), (2, .int x2), (3, .int x3), (4, .int x4), (5, .int x5)] [] (mH h s) Q := by
  refine zz_E.n 33 rfl rfl rfl ?_
  refine zz_E.c 35 (.int 14) rfl rfl rfl rfl ?_
  refine zz_E.b2 114 38 (A := 14 ≤ x5) rfl rfl (by decide) rfl rfl (fun c => ?_) (fun c => ?_)
  · exact zz_E.weak (k1 c) rfl ⟨rfl, rfl, rfl, rfl, trivial⟩
  · exact zz_E.weak (k2 c) rfl ⟨rfl, rfl, rfl, rfl, rfl, rfl, trivial⟩
theorem mb_310_38 {X : Nat → Option zz_C} {h : zz_H} (hh : 111 ≤ h.length) {s : mS} {d : Nat} {Q : Option Value → zz_H → Prop} {x1 : Int32} {x2 : Int32} {x3 : Int32} {x4 : Int32} {x5 : Int32} (k1 : x2 ≤ x5 → zz_E zp_P zt_tf zt_fd X d zm_310 71 [(0, .ref 61), (1, .int x1), (2, .int x2), (3, .int x3), (4, .int x4), (5, .int x5)] [.int ((14 * (s.1 73)) + x5), .ref 102] (mH h s) Q) (k2 : ¬ x2 ≤ x5 → zz_E zp_P zt_tf zt_fd X d zm_310 58 [(0, .ref 61), (1, .int x1), (2, .int x2), (3, .int x3), (4, .int x4), (5, .int x5)] [.int ((14 * (s.1 73)) + x5), .ref 102] (mH h s) Q) : zz_E zp_P zt_tf zt_fd X d zm_310 38 [(0, .ref 61), (1, .int x1), (2, .int x2), (3, .int x3), (4, .int x4), (5, .int x5)] [] (mH h s) Q := by
  refine zz_E.n 39 rfl rfl rfl ?_
  refine mE_g hh 42 (v := .ref 102) rfl rfl rfl ?_
  refine zz_E.c 44 (.int 14) rfl rfl rfl rfl ?_
  refine zz_E.n 45 rfl rfl rfl ?_
  refine mE_g hh 48 (v := .int (s.1 73)) rfl rfl rfl ?_
  refine zz_E.n 49 rfl rfl rfl ?_
  refine zz_E.n 51 rfl rfl rfl ?_
  refine zz_E.n 52 rfl rfl rfl ?_
  refine zz_E.n 54 rfl rfl rfl ?_
  refine zz_E.n 55 rfl rfl rfl ?_
  refine zz_E.b2 71 58 (A := x2 ≤ x5) rfl rfl (by decide) rfl rfl (fun c => ?_) (fun c => ?_)
  · exact zz_E.weak (k1 c) rfl ⟨rfl, rfl, rfl, rfl, rfl, rfl, trivial⟩
  · exact zz_E.weak (k2 c) rfl ⟨rfl, rfl, rfl, rfl, rfl, rfl, trivial⟩
theorem mb_310_58 {X : Nat → Option zz_C} {h : zz_H} (hh : 111 ≤ h.length) {s : mS} {d : Nat} {Q : Option Value → zz_H → Prop} {x1 : Int32} {x2 : Int32} {x3 : Int32} {x4 : Int32} {x5 : Int32} {y1 : Int32} (i67 : ¬ ((x4 + x5) < 0 ∨ 9000 ≤ Int32.toNatClampNeg (x4 + x5))) (k : zz_E zp_P zt_tf zt_fd X d zm_310 72 [(0, .ref 61), (1, .int x1), (2, .int x2), (3, .int x3), (4, .int x4), (5, .int x5)] [.int ((s.2.2.1 49) (Int32.toNatClampNeg (x4 + x5))), .int y1, .ref 102] (mH h s) Q) : zz_E zp_P zt_tf zt_fd X d zm_310 58 [(0, .ref 61), (1, .int x1), (2, .int x2), (3, .int x3), (4, .int x4), (5, .int x5)] [.int y1, .ref 102] (mH h s) Q := by
  refine zz_E.n 59 rfl rfl rfl ?_
  refine mE_g hh 62 (v := .ref 90) rfl rfl rfl ?_
  refine zz_E.n 64 rfl rfl rfl ?_
  refine zz_E.n 66 rfl rfl rfl ?_
  refine zz_E.n 67 rfl rfl rfl ?_
  refine mE_ia hh 68 29 (f := (s.2.2.1 49)) rfl (by decide) rfl rfl i67 rfl ?_
  refine zz_E.n 72 rfl rfl rfl ?_
  exact zz_E.weak k rfl ⟨rfl, rfl, rfl, rfl, rfl, rfl, trivial⟩
theorem mb_310_71 {X : Nat → Option zz_C} {h : zz_H} (hh : 111 ≤ h.length) {s : mS} {d : Nat} {Q : Option Value → zz_H → Prop} {x1 : Int32} {x2 : Int32} {x3 : Int32} {x4 : Int32} {x5 : Int32} {y1 : Int32} (k : zz_E zp_P zt_tf zt_fd X d zm_310 72 [(0, .ref 61), (1, .int x1), (2, .int x2), (3, .int x3), (4, .int x4), (5, .int x5)] [.int 2, .int y1, .ref 102] (mH h s) Q) : zz_E zp_P zt_tf zt_fd X d zm_310 71 [(0, .ref 61), (1, .int x1), (2, .int x2), (3, .int x3), (4, .int x4), (5, .int x5)] [.int y1, .ref 102] (mH h s) Q := by
  refine zz_E.c 72 (.int 2) rfl rfl rfl rfl ?_
  exact zz_E.weak k rfl ⟨rfl, rfl, rfl, rfl, rfl, rfl, trivial⟩
theorem mb_310_72 {X : Nat → Option zz_C} {h : zz_H} (hh : 111 ≤ h.length) {s : mS} {d : Nat} {Q : Option Value → zz_H → Prop} {x1 : Int32} {x2 : Int32} {x3 : Int32} {x4 : Int32} {x5 : Int32} {y1 : Int32} {y2 : Int32} (i72 : ¬ (y1 < 0 ∨ 140 ≤ Int32.toNatClampNeg y1)) (k1 : x2 ≤ x5 → zz_E zp_P zt_tf zt_fd X d zm_310 106 [(0, .ref 61), (1, .int x1), (2, .int x2), (3, .int x3), (4, .int x4), (5, .int x5)] [.int ((14 * (s.1 73)) + x5), .ref 103] (mH h (mA s 77 (upd (s.2.2.1 77) (Int32.toNatClampNeg y1) y2))) Q) (k2 : ¬ x2 ≤ x5 → zz_E zp_P zt_tf zt_fd X d zm_310 93 [(0, .ref 61), (1, .int x1), (2, .int x2), (3, .int x3), (4, .int x4), (5, .int x5)] [.int ((14 * (s.1 73)) + x5), .ref 103] (mH h (mA s 77 (upd (s.2.2.1 77) (Int32.toNatClampNeg y1) y2))) Q) : zz_E zp_P zt_tf zt_fd X d zm_310 72 [(0, .ref 61), (1, .int x1), (2, .int x2), (3, .int x3), (4, .int x4), (5, .int x5)] [.int y2, .int y1, .ref 102] (mH h s) Q := by
  refine mE_is hh 73 41 (f := (s.2.2.1 77)) rfl (by decide) rfl rfl i72 (mA_102 _ _) rfl ?_
  refine zz_E.n 74 rfl rfl rfl ?_
  refine mE_g hh 77 (v := .ref 103) rfl rfl rfl ?_
  refine zz_E.c 79 (.int 14) rfl rfl rfl rfl ?_
  refine zz_E.n 80 rfl rfl rfl ?_
  refine mE_g hh 83 (v := .int (s.1 73)) rfl rfl rfl ?_
  refine zz_E.n 84 rfl rfl rfl ?_
  refine zz_E.n 86 rfl rfl rfl ?_
  refine zz_E.n 87 rfl rfl rfl ?_
  refine zz_E.n 89 rfl rfl rfl ?_
  refine zz_E.n 90 rfl rfl rfl ?_
  refine zz_E.b2 106 93 (A := x2 ≤ x5) rfl rfl (by decide) rfl rfl (fun c => ?_) (fun c => ?_)
  · exact zz_E.weak (k1 c) rfl ⟨rfl, rfl, rfl, rfl, rfl, rfl, trivial⟩
  · exact zz_E.weak (k2 c) rfl ⟨rfl, rfl, rfl, rfl, rfl, rfl, trivial⟩
theorem mb_310_93 {X : Nat → Option zz_C} {h : zz_H} (hh : 111 ≤ h.length) {s : mS} {d : Nat} {Q : Option Value → zz_H → Prop} {x1 : Int32} {x2 : Int32} {x3 : Int32} {x4 : Int32} {x5 : Int32} {y1 : Int32} (i102 : ¬ ((x4 + x5) < 0 ∨ 9000 ≤ Int32.toNatClampNeg (x4 + x5))) (k : zz_E zp_P zt_tf zt_fd X d zm_310 107 [(0, .ref 61), (1, .int x1), (2, .int x2), (3, .int x3), (4, .int x4), (5, .int x5)] [.int ((s.2.2.1 50) (Int32.toNatClampNeg (x4 + x5))), .int y1, .ref 103] (mH h s) Q) : zz_E zp_P zt_tf zt_fd X d zm_310 93 [(0, .ref 61), (1, .int x1), (2, .int x2), (3, .int x3), (4, .int x4), (5, .int x5)] [.int y1, .ref 103] (mH h s) Q := by
  refine zz_E.n 94 rfl rfl rfl ?_
  refine mE_g hh 97 (v := .ref 91) rfl rfl rfl ?_
  refine zz_E.n 99 rfl rfl rfl ?_
  refine zz_E.n 101 rfl rfl rfl ?_
  refine zz_E.n 102 rfl rfl rfl ?_
  refine mE_ia hh 103 30 (f := (s.2.2.1 50)) rfl (by decide) rfl rfl i102 rfl ?_
  refine zz_E.n 107 rfl rfl rfl ?_
  exact zz_E.weak k rfl ⟨rfl, rfl, rfl, rfl, rfl, rfl, trivial⟩
theorem mb_310_106 {X : Nat → Option zz_C} {h : zz_H} (hh : 111 ≤ h.length) {s : mS} {d : Nat} {Q : Option Value → zz_H → Prop} {x1 : Int32} {x2 : Int32} {x3 : Int32} {x4 : Int32} {x5 : Int32} {y1 : Int32} (k : zz_E zp_P zt_tf zt_fd X d zm_310 107 [(0, .ref 61), (1, .int x1), (2, .int x2), (3, .int x3), (4, .int x4), (5, .int x5)] [.int 0, .int y1, .ref 103] (mH h s) Q) : zz_E zp_P zt_tf zt_fd X d zm_310 106 [(0, .ref 61), (1, .int x1), (2, .int x2), (3, .int x3), (4, .int x4), (5, .int x5)] [.int y1, .ref 103] (mH h s) Q := by
  refine zz_E.c 107 (.int 0) rfl rfl rfl rfl ?_
  exact zz_E.weak k rfl ⟨rfl, rfl, rfl, rfl, rfl, rfl, trivial⟩
theorem mb_310_107 {X : Nat → Option zz_C} {h : zz_H} (hh : 111 ≤ h.length) {s : mS} {d : Nat} {Q : Option Value → zz_H → Prop} {x1 : Int32} {x2 : Int32} {x3 : Int32} {x4 : Int32} {x5 : Int32} {y1 : Int32} {y2 : Int32} (i107 : ¬ (y1 < 0 ∨ 140 ≤ Int32.toNatClampNeg y1)) (k : zz_E zp_P zt_tf zt_fd X d zm_310 31 [(0, .ref 61), (1, .int x1), (2, .int x2), (3, .int x3), (4, .int x4), (5, .int (x5 + 1))] [] (mH h (mA s 78 (upd (s.2.2.1 78) (Int32.toNatClampNeg y1) y2))) Q) : zz_E zp_P zt_tf zt_fd X d zm_310 107 [(0, .ref 61), (1, .int x1), (2, .int x2), (3, .int x3), (4, .int x4), (5, .int x5)] [.int y2, .int y1, .ref 103] (mH h s) Q := by
  refine mE_is hh 108 42 (f := (s.2.2.1 78)) rfl (by decide) rfl rfl i107 (mA_103 _ _) rfl ?_
  refine zz_E.n 111 rfl rfl rfl ?_
  refine zz_E.n 31 rfl rfl rfl ?_
  exact zz_E.weak k rfl ⟨rfl, rfl, rfl, rfl, rfl, rfl, trivial⟩
theorem mb_310_114 {X : Nat → Option zz_C} {h : zz_H} (hh : 111 ≤ h.length) {s : mS} {d : Nat} {Q : Option Value → zz_H → Prop} {x1 : Int32} {x3 : Int32} {x4 : Int32} (i130 : ¬ ((s.1 73) < 0 ∨ 10 ≤ Int32.toNatClampNeg (s.1 73))) (i140 : ¬ ((s.1 73) < 0 ∨ 10 ≤ Int32.toNatClampNeg (s.1 73))) (i153 : ¬ ((s.1 73) < 0 ∨ 10 ≤ Int32.toNatClampNeg (s.1 73))) (k1 : ((s.1 73) + 1) ≤ (s.1 63) → zz_E zp_P zt_tf zt_fd X d zm_310 183 [(0, .ref 61), (1, .int x1)] [.ref 61] (mH h (mI (mA (mA (mA (mI s 51 x4) 74 (upd (s.2.2.1 74) (Int32.toNatClampNeg (s.1 73)) x4)) 75 (upd (s.2.2.1 75) (Int32.toNatClampNeg (s.1 73)) x3)) 76 (upd (s.2.2.1 76) (Int32.toNatClampNeg (s.1 73)) (s.1 79))) 73 ((s.1 73) + 1))) Q) (k2 : ¬ ((s.1 73) + 1) ≤ (s.1 63) → zz_E zp_P zt_tf zt_fd X d zm_310 176 [(0, .ref 61), (1, .int x1)] [.ref 61] (mH h (mI (mA (mA (mA (mI s 51 x4) 74 (upd (s.2.2.1 74) (Int32.toNatClampNeg (s.1 73)) x4)) 75 (upd (s.2.2.1 75) (Int32.toNatClampNeg (s.1 73)) x3)) 76 (upd (s.2.2.1 76) (Int32.toNatClampNeg (s.1 73)) (s.1 79))) 73 ((s.1 73) + 1))) Q) : zz_E zp_P zt_tf zt_fd X d zm_310 114 [(0, .ref 61), (1, .int x1), (3, .int x3), (4, .int x4)] [] (mH h s) Q := by
  refine zz_E.n 115 rfl rfl rfl ?_
  refine zz_E.n 117 rfl rfl rfl ?_
  refine mE_p hh 120 rfl (by decide) rfl (mF_51 _ _) rfl ?_
  refine zz_E.n 121 rfl rfl rfl ?_
  refine mE_g hh 124 (v := .ref 99) rfl rfl rfl ?_
  refine zz_E.n 125 rfl rfl rfl ?_
  refine mE_g hh 128 (v := .int (s.1 73)) rfl rfl rfl ?_
  refine zz_E.n 130 rfl rfl rfl ?_
  refine mE_is hh 131 38 (f := (s.2.2.1 74)) rfl (by decide) rfl rfl i130 (mA_99 _ _) rfl ?_
  refine zz_E.n 132 rfl rfl rfl ?_
  refine mE_g hh 135 (v := .ref 100) rfl rfl rfl ?_
  refine zz_E.n 136 rfl rfl rfl ?_
  refine mE_g hh 139 (v := .int (s.1 73)) rfl rfl rfl ?_
  refine zz_E.n 140 rfl rfl rfl ?_
  refine mE_is hh 141 39 (f := (s.2.2.1 75)) rfl (by decide) rfl rfl i140 (mA_100 _ _) rfl ?_
  refine zz_E.n 142 rfl rfl rfl ?_
  refine mE_g hh 145 (v := .ref 101) rfl rfl rfl ?_
  refine zz_E.n 146 rfl rfl rfl ?_
  refine mE_g hh 149 (v := .int (s.1 73)) rfl rfl rfl ?_
  refine zz_E.n 150 rfl rfl rfl ?_
  refine mE_g hh 153 (v := .int (s.1 79)) rfl rfl rfl ?_
  refine mE_is hh 154 40 (f := (s.2.2.1 76)) rfl (by decide) rfl rfl i153 (mA_101 _ _) rfl ?_
  refine zz_E.n 155 rfl rfl rfl ?_
  refine zz_E.n 156 rfl rfl rfl ?_
  refine mE_g hh 159 (v := .int (s.1 73)) rfl rfl rfl ?_
  refine zz_E.c 160 (.int 1) rfl rfl rfl rfl ?_
  refine zz_E.n 161 rfl rfl rfl ?_
  refine mE_p hh 164 rfl (by decide) rfl (mF_73 _ _) rfl ?_
  refine zz_E.n 165 rfl rfl rfl ?_
  refine zz_E.n 166 rfl rfl rfl ?_
  refine mE_g hh 169 (v := .int ((s.1 73) + 1)) rfl rfl rfl ?_
  refine zz_E.n 170 rfl rfl rfl ?_
  refine mE_g hh 173 (v := .int (s.1 63)) rfl rfl rfl ?_
  refine zz_E.b2 183 176 (A := ((s.1 73) + 1) ≤ (s.1 63)) rfl rfl (by decide) rfl rfl (fun c => ?_) (fun c => ?_)
  · exact zz_E.weak (k1 c) rfl ⟨rfl, rfl, trivial⟩
  · exact zz_E.weak (k2 c) rfl ⟨rfl, rfl, trivial⟩
theorem mb_310_176 {X : Nat → Option zz_C} {h : zz_H} (hh : 111 ≤ h.length) {s : mS} {d : Nat} {Q : Option Value → zz_H → Prop} {x1 : Int32} (k : zz_E zp_P zt_tf zt_fd X d zm_310 187 [(0, .ref 61), (1, .int x1)] [.int (s.1 73), .ref 61] (mH h s) Q) : zz_E zp_P zt_tf zt_fd X d zm_310 176 [(0, .ref 61), (1, .int x1)] [.ref 61] (mH h s) Q := by
  refine zz_E.n 177 rfl rfl rfl ?_
  refine mE_g hh 180 (v := .int (s.1 73)) rfl rfl rfl ?_
  refine zz_E.n 187 rfl rfl rfl ?_
  exact zz_E.weak k rfl ⟨rfl, rfl, trivial⟩
theorem mb_310_183 {X : Nat → Option zz_C} {h : zz_H} (hh : 111 ≤ h.length) {s : mS} {d : Nat} {Q : Option Value → zz_H → Prop} {x1 : Int32} (k : zz_E zp_P zt_tf zt_fd X d zm_310 187 [(0, .ref 61), (1, .int x1)] [.int (s.1 63), .ref 61] (mH h s) Q) : zz_E zp_P zt_tf zt_fd X d zm_310 183 [(0, .ref 61), (1, .int x1)] [.ref 61] (mH h s) Q := by
  refine zz_E.n 184 rfl rfl rfl ?_
  refine mE_g hh 187 (v := .int (s.1 63)) rfl rfl rfl ?_
  exact zz_E.weak k rfl ⟨rfl, rfl, trivial⟩
theorem mb_310_187 {X : Nat → Option zz_C} {h : zz_H} (hh : 111 ≤ h.length) {s : mS} {d : Nat} {Q : Option Value → zz_H → Prop} {x1 : Int32} {y1 : Int32} (i196 : ¬ (x1 < 0 ∨ 24 ≤ Int32.toNatClampNeg x1)) (k : Q none (mH h (mI (mI s 63 y1) 69 ((s.2.2.1 20) (Int32.toNatClampNeg x1))))) : zz_E zp_P zt_tf zt_fd X d zm_310 187 [(0, .ref 61), (1, .int x1)] [.int y1, .ref 61] (mH h s) Q := by
  refine mE_p hh 190 rfl (by decide) rfl (mF_63 _ _) rfl ?_
  refine zz_E.n 191 rfl rfl rfl ?_
  refine zz_E.n 192 rfl rfl rfl ?_
  refine mE_g hh 195 (v := .ref 69) rfl rfl rfl ?_
  refine zz_E.n 196 rfl rfl rfl ?_
  refine mE_ia hh 197 8 (f := (s.2.2.1 20)) rfl (by decide) rfl rfl i196 rfl ?_
  refine mE_p hh 200 rfl (by decide) rfl (mF_69 _ _) rfl ?_
  refine zz_E.ret rfl rfl rfl ?_
  exact k
def mf_310_187 (N : Nat) (x1 : Int32) (y1 : Int32) (s : mS) : mO := if ¬ (x1 < 0 ∨ 24 ≤ Int32.toNatClampNeg x1) then (some ((mI (mI s 63 y1) 69 ((s.2.2.1 20) (Int32.toNatClampNeg x1))), none)) else none
theorem mr_310_187 {X : Nat → Option zz_C} {h : zz_H} (hh : 111 ≤ h.length) {d : Nat} {N : Nat} {Q : Option Value → zz_H → Prop} {x1 : Int32} {y1 : Int32} {s s' : mS} {v : Option Value} (hf : mf_310_187 N x1 y1 s = some (s', v)) (k : Q v (mH h s')) : zz_E zp_P zt_tf zt_fd X (d + 1) zm_310 187 [(0, .ref 61), (1, .int x1)] [.int y1, .ref 61] (mH h s) Q := by
  unfold mf_310_187 at hf
  obtain ⟨q0, hf⟩ := mo_if hf
  cases hf
  exact mb_310_187 hh q0 k
def mf_310_183 (N : Nat) (x1 : Int32) (s : mS) : mO := mf_310_187 N x1 (s.1 63) s
theorem mr_310_183 {X : Nat → Option zz_C} {h : zz_H} (hh : 111 ≤ h.length) {d : Nat} {N : Nat} {Q : Option Value → zz_H → Prop} {x1 : Int32} {s s' : mS} {v : Option Value} (hf : mf_310_183 N x1 s = some (s', v)) (k : Q v (mH h s')) : zz_E zp_P zt_tf zt_fd X (d + 1) zm_310 183 [(0, .ref 61), (1, .int x1)] [.ref 61] (mH h s) Q := by
  unfold mf_310_183 at hf
  exact mb_310_183 hh  (mr_310_187 hh hf k)
def mf_310_176 (N : Nat) (x1 : Int32) (s : mS) : mO := mf_310_187 N x1 (s.1 73) s
theorem mr_310_176 {X : Nat → Option zz_C} {h : zz_H} (hh : 111 ≤ h.length) {d : Nat} {N : Nat} {Q : Option Value → zz_H → Prop} {x1 : Int32} {s s' : mS} {v : Option Value} (hf : mf_310_176 N x1 s = some (s', v)) (k : Q v (mH h s')) : zz_E zp_P zt_tf zt_fd X (d + 1) zm_310 176 [(0, .ref 61), (1, .int x1)] [.ref 61] (mH h s) Q := by
  unfold mf_310_176 at hf
  exact mb_310_176 hh  (mr_310_187 hh hf k)
def mf_310_114 (N : Nat) (x1 : Int32) (x3 : Int32) (x4 : Int32) (s : mS) : mO := if ¬ ((s.1 73) < 0 ∨ 10 ≤ Int32.toNatClampNeg (s.1 73)) then (if ¬ ((s.1 73) < 0 ∨ 10 ≤ Int32.toNatClampNeg (s.1 73)) then (if ¬ ((s.1 73) < 0 ∨ 10 ≤ Int32.toNatClampNeg (s.1 73)) then (if ((s.1 73) + 1) ≤ (s.1 63) then mf_310_183 N x1 (mI (mA (mA (mA (mI s 51 x4) 74 (upd (s.2.2.1 74) (Int32.toNatClampNeg (s.1 73)) x4)) 75 (upd (s.2.2.1 75) (Int32.toNatClampNeg (s.1 73)) x3)) 76 (upd (s.2.2.1 76) (Int32.toNatClampNeg (s.1 73)) (s.1 79))) 73 ((s.1 73) + 1)) else mf_310_176 N x1 (mI (mA (mA (mA (mI s 51 x4) 74 (upd (s.2.2.1 74) (Int32.toNatClampNeg (s.1 73)) x4)) 75 (upd (s.2.2.1 75) (Int32.toNatClampNeg (s.1 73)) x3)) 76 (upd (s.2.2.1 76) (Int32.toNatClampNeg (s.1 73)) (s.1 79))) 73 ((s.1 73) + 1))) else none) else none) else none
theorem mr_310_114 {X : Nat → Option zz_C} {h : zz_H} (hh : 111 ≤ h.length) {d : Nat} {N : Nat} {Q : Option Value → zz_H → Prop} {x1 : Int32} {x3 : Int32} {x4 : Int32} {s s' : mS} {v : Option Value} (hf : mf_310_114 N x1 x3 x4 s = some (s', v)) (k : Q v (mH h s')) : zz_E zp_P zt_tf zt_fd X (d + 1) zm_310 114 [(0, .ref 61), (1, .int x1), (3, .int x3), (4, .int x4)] [] (mH h s) Q := by
  unfold mf_310_114 at hf
  obtain ⟨q0, hf⟩ := mo_if hf
  obtain ⟨q1, hf⟩ := mo_if hf
  obtain ⟨q2, hf⟩ := mo_if hf
  refine mb_310_114 hh q0 q1 q2 (fun c => ?_) (fun c => ?_)
  · rw [if_pos c] at hf
    exact mr_310_183 hh hf k
  · rw [if_neg c] at hf
    exact mr_310_176 hh hf k
def mf_310_107 (N : Nat) (rc : Nat → Int32 → Int32 → Int32 → Int32 → Int32 → mS → mO) (x1 : Int32) (x2 : Int32) (x3 : Int32) (x4 : Int32) (x5 : Int32) (y1 : Int32) (y2 : Int32) (s : mS) : mO := if ¬ (y1 < 0 ∨ 140 ≤ Int32.toNatClampNeg y1) then (rc 0 x1 x2 x3 x4 (x5 + 1) (mA s 78 (upd (s.2.2.1 78) (Int32.toNatClampNeg y1) y2))) else none
theorem mr_310_107 {X : Nat → Option zz_C} {h : zz_H} (hh : 111 ≤ h.length) {d : Nat} {N : Nat} {rc : Nat → Int32 → Int32 → Int32 → Int32 → Int32 → mS → mO} (hrc0 : ∀ {Q : Option Value → zz_H → Prop} {x1 : Int32} {x2 : Int32} {x3 : Int32} {x4 : Int32} {x5 : Int32} {s s' : mS} {v : Option Value}, rc 0 x1 x2 x3 x4 x5 s = some (s', v) → Q v (mH h s') → zz_E zp_P zt_tf zt_fd X (d + 1) zm_310 31 [(0, .ref 61), (1, .int x1), (2, .int x2), (3, .int x3), (4, .int x4), (5, .int x5)] [] (mH h s) Q) {Q : Option Value → zz_H → Prop} {x1 : Int32} {x2 : Int32} {x3 : Int32} {x4 : Int32} {x5 : Int32} {y1 : Int32} {y2 : Int32} {s s' : mS} {v : Option Value} (hf : mf_310_107 N rc x1 x2 x3 x4 x5 y1 y2 s = some (s', v)) (k : Q v (mH h s')) : zz_E zp_P zt_tf zt_fd X (d + 1) zm_310 107 [(0, .ref 61), (1, .int x1), (2, .int x2), (3, .int x3), (4, .int x4), (5, .int x5)] [.int y2, .int y1, .ref 103] (mH h s) Q := by
  unfold mf_310_107 at hf
  obtain ⟨q0, hf⟩ := mo_if hf
  exact mb_310_107 hh q0 (hrc0 hf k)
def mf_310_106 (N : Nat) (rc : Nat → Int32 → Int32 → Int32 → Int32 → Int32 → mS → mO) (x1 : Int32) (x2 : Int32) (x3 : Int32) (x4 : Int32) (x5 : Int32) (y1 : Int32) (s : mS) : mO := mf_310_107 N rc x1 x2 x3 x4 x5 y1 0 s
theorem mr_310_106 {X : Nat → Option zz_C} {h : zz_H} (hh : 111 ≤ h.length) {d : Nat} {N : Nat} {rc : Nat → Int32 → Int32 → Int32 → Int32 → Int32 → mS → mO} (hrc0 : ∀ {Q : Option Value → zz_H → Prop} {x1 : Int32} {x2 : Int32} {x3 : Int32} {x4 : Int32} {x5 : Int32} {s s' : mS} {v : Option Value}, rc 0 x1 x2 x3 x4 x5 s = some (s', v) → Q v (mH h s') → zz_E zp_P zt_tf zt_fd X (d + 1) zm_310 31 [(0, .ref 61), (1, .int x1), (2, .int x2), (3, .int x3), (4, .int x4), (5, .int x5)] [] (mH h s) Q) {Q : Option Value → zz_H → Prop} {x1 : Int32} {x2 : Int32} {x3 : Int32} {x4 : Int32} {x5 : Int32} {y1 : Int32} {s s' : mS} {v : Option Value} (hf : mf_310_106 N rc x1 x2 x3 x4 x5 y1 s = some (s', v)) (k : Q v (mH h s')) : zz_E zp_P zt_tf zt_fd X (d + 1) zm_310 106 [(0, .ref 61), (1, .int x1), (2, .int x2), (3, .int x3), (4, .int x4), (5, .int x5)] [.int y1, .ref 103] (mH h s) Q := by
  unfold mf_310_106 at hf
  exact mb_310_106 hh  (mr_310_107 hh hrc0 hf k)
def mf_310_93 (N : Nat) (rc : Nat → Int32 → Int32 → Int32 → Int32 → Int32 → mS → mO) (x1 : Int32) (x2 : Int32) (x3 : Int32) (x4 : Int32) (x5 : Int32) (y1 : Int32) (s : mS) : mO := if ¬ ((x4 + x5) < 0 ∨ 9000 ≤ Int32.toNatClampNeg (x4 + x5)) then (mf_310_107 N rc x1 x2 x3 x4 x5 y1 ((s.2.2.1 50) (Int32.toNatClampNeg (x4 + x5))) s) else none
theorem mr_310_93 {X : Nat → Option zz_C} {h : zz_H} (hh : 111 ≤ h.length) {d : Nat} {N : Nat} {rc : Nat → Int32 → Int32 → Int32 → Int32 → Int32 → mS → mO} (hrc0 : ∀ {Q : Option Value → zz_H → Prop} {x1 : Int32} {x2 : Int32} {x3 : Int32} {x4 : Int32} {x5 : Int32} {s s' : mS} {v : Option Value}, rc 0 x1 x2 x3 x4 x5 s = some (s', v) → Q v (mH h s') → zz_E zp_P zt_tf zt_fd X (d + 1) zm_310 31 [(0, .ref 61), (1, .int x1), (2, .int x2), (3, .int x3), (4, .int x4), (5, .int x5)] [] (mH h s) Q) {Q : Option Value → zz_H → Prop} {x1 : Int32} {x2 : Int32} {x3 : Int32} {x4 : Int32} {x5 : Int32} {y1 : Int32} {s s' : mS} {v : Option Value} (hf : mf_310_93 N rc x1 x2 x3 x4 x5 y1 s = some (s', v)) (k : Q v (mH h s')) : zz_E zp_P zt_tf zt_fd X (d + 1) zm_310 93 [(0, .ref 61), (1, .int x1), (2, .int x2), (3, .int x3), (4, .int x4), (5, .int x5)] [.int y1, .ref 103] (mH h s) Q := by
  unfold mf_310_93 at hf
  obtain ⟨q0, hf⟩ := mo_if hf
  exact mb_310_93 hh q0 (mr_310_107 hh hrc0 hf k)
def mf_310_72 (N : Nat) (rc : Nat → Int32 → Int32 → Int32 → Int32 → Int32 → mS → mO) (x1 : Int32) (x2 : Int32) (x3 : Int32) (x4 : Int32) (x5 : Int32) (y1 : Int32) (y2 : Int32) (s : mS) : mO := if ¬ (y1 < 0 ∨ 140 ≤ Int32.toNatClampNeg y1) then (if x2 ≤ x5 then mf_310_106 N rc x1 x2 x3 x4 x5 ((14 * (s.1 73)) + x5) (mA s 77 (upd (s.2.2.1 77) (Int32.toNatClampNeg y1) y2)) else mf_310_93 N rc x1 x2 x3 x4 x5 ((14 * (s.1 73)) + x5) (mA s 77 (upd (s.2.2.1 77) (Int32.toNatClampNeg y1) y2))) else none
theorem mr_310_72 {X : Nat → Option zz_C} {h : zz_H} (hh : 111 ≤ h.length) {d : Nat} {N : Nat} {rc : Nat → Int32 → Int32 → Int32 → Int32 → Int32 → mS → mO} (hrc0 : ∀ {Q : Option Value → zz_H → Prop} {x1 : Int32} {x2 : Int32} {x3 : Int32} {x4 : Int32} {x5 : Int32} {s s' : mS} {v : Option Value}, rc 0 x1 x2 x3 x4 x5 s = some (s', v) → Q v (mH h s') → zz_E zp_P zt_tf zt_fd X (d + 1) zm_310 31 [(0, .ref 61), (1, .int x1), (2, .int x2), (3, .int x3), (4, .int x4), (5, .int x5)] [] (mH h s) Q) {Q : Option Value → zz_H → Prop} {x1 : Int32} {x2 : Int32} {x3 : Int32} {x4 : Int32} {x5 : Int32} {y1 : Int32} {y2 : Int32} {s s' : mS} {v : Option Value} (hf : mf_310_72 N rc x1 x2 x3 x4 x5 y1 y2 s = some (s', v)) (k : Q v (mH h s')) : zz_E zp_P zt_tf zt_fd X (d + 1) zm_310 72 [(0, .ref 61), (1, .int x1), (2, .int x2), (3, .int x3), (4, .int x4), (5, .int x5)] [.int y2, .int y1, .ref 102] (mH h s) Q := by
  unfold mf_310_72 at hf
  obtain ⟨q0, hf⟩ := mo_if hf
  refine mb_310_72 hh q0 (fun c => ?_) (fun c => ?_)
  · rw [if_pos c] at hf
    exact mr_310_106 hh hrc0 hf k
  · rw [if_neg c] at hf
    exact mr_310_93 hh hrc0 hf k
def mf_310_58 (N : Nat) (rc : Nat → Int32 → Int32 → Int32 → Int32 → Int32 → mS → mO) (x1 : Int32) (x2 : Int32) (x3 : Int32) (x4 : Int32) (x5 : Int32) (y1 : Int32) (s : mS) : mO := if ¬ ((x4 + x5) < 0 ∨ 9000 ≤ Int32.toNatClampNeg (x4 + x5)) then (mf_310_72 N rc x1 x2 x3 x4 x5 y1 ((s.2.2.1 49) (Int32.toNatClampNeg (x4 + x5))) s) else none
theorem mr_310_58 {X : Nat → Option zz_C} {h : zz_H} (hh : 111 ≤ h.length) {d : Nat} {N : Nat} {rc : Nat → Int32 → Int32 → Int32 → Int32 → Int32 → mS → mO} (hrc0 : ∀ {Q : Option Value → zz_H → Prop} {x1 : Int32} {x2 : Int32} {x3 : Int32} {x4 : Int32} {x5 : Int32} {s s' : mS} {v : Option Value}, rc 0 x1 x2 x3 x4 x5 s = some (s', v) → Q v (mH h s') → zz_E zp_P zt_tf zt_fd X (d + 1) zm_310 31 [(0, .ref 61), (1, .int x1), (2, .int x2), (3, .int x3), (4, .int x4), (5, .int x5)] [] (mH h s) Q) {Q : Option Value → zz_H → Prop} {x1 : Int32} {x2 : Int32} {x3 : Int32} {x4 : Int32} {x5 : Int32} {y1 : Int32} {s s' : mS} {v : Option Value} (hf : mf_310_58 N rc x1 x2 x3 x4 x5 y1 s = some (s', v)) (k : Q v (mH h s')) : zz_E zp_P zt_tf zt_fd X (d + 1) zm_310 58 [(0, .ref 61), (1, .int x1), (2, .int x2), (3, .int x3), (4, .int x4), (5, .int x5)] [.int y1, .ref 102] (mH h s) Q := by
  unfold mf_310_58 at hf
  obtain ⟨q0, hf⟩ := mo_if hf
  exact mb_310_58 hh q0 (mr_310_72 hh hrc0 hf k)
def mf_310_71 (N : Nat) (rc : Nat → Int32 → Int32 → Int32 → Int32 → Int32 → mS → mO) (x1 : Int32) (x2 : Int32) (x3 : Int32) (x4 : Int32) (x5 : Int32) (y1 : Int32) (s : mS) : mO := mf_310_72 N rc x1 x2 x3 x4 x5 y1 2 s
theorem mr_310_71 {X : Nat → Option zz_C} {h : zz_H} (hh : 111 ≤ h.length) {d : Nat} {N : Nat} {rc : Nat → Int32 → Int32 → Int32 → Int32 → Int32 → mS → mO} (hrc0 : ∀ {Q : Option Value → zz_H → Prop} {x1 : Int32} {x2 : Int32} {x3 : Int32} {x4 : Int32} {x5 : Int32} {s s' : mS} {v : Option Value}, rc 0 x1 x2 x3 x4 x5 s = some (s', v) → Q v (mH h s') → zz_E zp_P zt_tf zt_fd X (d + 1) zm_310 31 [(0, .ref 61), (1, .int x1), (2, .int x2), (3, .int x3), (4, .int x4), (5, .int x5)] [] (mH h s) Q) {Q : Option Value → zz_H → Prop} {x1 : Int32} {x2 : Int32} {x3 : Int32} {x4 : Int32} {x5 : Int32} {y1 : Int32} {s s' : mS} {v : Option Value} (hf : mf_310_71 N rc x1 x2 x3 x4 x5 y1 s = some (s', v)) (k : Q v (mH h s')) : zz_E zp_P zt_tf zt_fd X (d + 1) zm_310 71 [(0, .ref 61), (1, .int x1), (2, .int x2), (3, .int x3), (4, .int x4), (5, .int x5)] [.int y1, .ref 102] (mH h s) Q := by
  unfold mf_310_71 at hf
  exact mb_310_71 hh  (mr_310_72 hh hrc0 hf k)
def mf_310_38 (N : Nat) (rc : Nat → Int32 → Int32 → Int32 → Int32 → Int32 → mS → mO) (x1 : Int32) (x2 : Int32) (x3 : Int32) (x4 : Int32) (x5 : Int32) (s : mS) : mO := if x2 ≤ x5 then mf_310_71 N rc x1 x2 x3 x4 x5 ((14 * (s.1 73)) + x5) s else mf_310_58 N rc x1 x2 x3 x4 x5 ((14 * (s.1 73)) + x5) s
theorem mr_310_38 {X : Nat → Option zz_C} {h : zz_H} (hh : 111 ≤ h.length) {d : Nat} {N : Nat} {rc : Nat → Int32 → Int32 → Int32 → Int32 → Int32 → mS → mO} (hrc0 : ∀ {Q : Option Value → zz_H → Prop} {x1 : Int32} {x2 : Int32} {x3 : Int32} {x4 : Int32} {x5 : Int32} {s s' : mS} {v : Option Value}, rc 0 x1 x2 x3 x4 x5 s = some (s', v) → Q v (mH h s') → zz_E zp_P zt_tf zt_fd X (d + 1) zm_310 31 [(0, .ref 61), (1, .int x1), (2, .int x2), (3, .int x3), (4, .int x4), (5, .int x5)] [] (mH h s) Q) {Q : Option Value → zz_H → Prop} {x1 : Int32} {x2 : Int32} {x3 : Int32} {x4 : Int32} {x5 : Int32} {s s' : mS} {v : Option Value} (hf : mf_310_38 N rc x1 x2 x3 x4 x5 s = some (s', v)) (k : Q v (mH h s')) : zz_E zp_P zt_tf zt_fd X (d + 1) zm_310 38 [(0, .ref 61), (1, .int x1), (2, .int x2), (3, .int x3), (4, .int x4), (5, .int x5)] [] (mH h s) Q := by
  unfold mf_310_38 at hf
  refine mb_310_38 hh  (fun c => ?_) (fun c => ?_)
  · rw [if_pos c] at hf
    exact mr_310_71 hh hrc0 hf k
  · rw [if_neg c] at hf
    exact mr_310_58 hh hrc0 hf k
def mf_310_31 (N : Nat) (rc : Nat → Int32 → Int32 → Int32 → Int32 → Int32 → mS → mO) (x1 : Int32) (x2 : Int32) (x3 : Int32) (x4 : Int32) (x5 : Int32) (s : mS) : mO := if 14 ≤ x5 then mf_310_114 N x1 x3 x4 s else mf_310_38 N rc x1 x2 x3 x4 x5 s
theorem mr_310_31 {X : Nat → Option zz_C} {h : zz_H} (hh : 111 ≤ h.length) {d : Nat} {N : Nat} {rc : Nat → Int32 → Int32 → Int32 → Int32 → Int32 → mS → mO} (hrc0 : ∀ {Q : Option Value → zz_H → Prop} {x1 : Int32} {x2 : Int32} {x3 : Int32} {x4 : Int32} {x5 : Int32} {s s' : mS} {v : Option Value}, rc 0 x1 x2 x3 x4 x5 s = some (s', v) → Q v (mH h s') → zz_E zp_P zt_tf zt_fd X (d + 1) zm_310 31 [(0, .ref 61), (1, .int x1), (2, .int x2), (3, .int x3), (4, .int x4), (5, .int x5)] [] (mH h s) Q) {Q : Option Value → zz_H → Prop} {x1 : Int32} {x2 : Int32} {x3 : Int32} {x4 : Int32} {x5 : Int32} {s s' : mS} {v : Option Value} (hf : mf_310_31 N rc x1 x2 x3 x4 x5 s = some (s', v)) (k : Q v (mH h s')) : zz_E zp_P zt_tf zt_fd X (d + 1) zm_310 31 [(0, .ref 61), (1, .int x1), (2, .int x2), (3, .int x3), (4, .int x4), (5, .int x5)] [] (mH h s) Q := by
  unfold mf_310_31 at hf
  refine mb_310_31 hh  (fun c => ?_) (fun c => ?_)
  · rw [if_pos c] at hf
    exact mr_310_114 hh hf k
  · rw [if_neg c] at hf
    exact mr_310_38 hh hrc0 hf k
def mf_310_L4 (N : Nat) : Nat → Nat → Int32 → Int32 → Int32 → Int32 → Int32 → mS → mO
  | 0, _, _, _, _, _, _, _ => none
  | n + 1, l, x1, x2, x3, x4, x5, s => if l = 0 then mf_310_31 N (mf_310_L4 N n) x1 x2 x3 x4 x5 s else none
theorem mr_310_L4 {X : Nat → Option zz_C} {h : zz_H} (hh : 111 ≤ h.length) {d : Nat} {N : Nat} : ∀ n : Nat, (∀ {Q : Option Value → zz_H → Prop} {x1 : Int32} {x2 : Int32} {x3 : Int32} {x4 : Int32} {x5 : Int32} {s s' : mS} {v : Option Value}, mf_310_L4 N n 0 x1 x2 x3 x4 x5 s = some (s', v) → Q v (mH h s') → zz_E zp_P zt_tf zt_fd X (d + 1) zm_310 31 [(0, .ref 61), (1, .int x1), (2, .int x2), (3, .int x3), (4, .int x4), (5, .int x5)] [] (mH h s) Q) := by
  intro n
  induction n with
  | zero => exact (fun hf _ => by cases hf)
  | succ n ih =>
    have h0 := @ih
    intro Q _ _ _ _ _ s s' v hf k
    unfold mf_310_L4 at hf
    rw [if_pos rfl] at hf
    exact mr_310_31 hh h0 hf k
def mf_310_20 (N : Nat) (x1 : Int32) (x2 : Int32) (x3 : Int32) (s : mS) : mO := mf_310_L4 N N 0 x1 x2 x3 ((s.1 51) - x2) 0 s
theorem mr_310_20 {X : Nat → Option zz_C} {h : zz_H} (hh : 111 ≤ h.length) {d : Nat} {N : Nat} {Q : Option Value → zz_H → Prop} {x1 : Int32} {x2 : Int32} {x3 : Int32} {s s' : mS} {v : Option Value} (hf : mf_310_20 N x1 x2 x3 s = some (s', v)) (k : Q v (mH h s')) : zz_E zp_P zt_tf zt_fd X (d + 1) zm_310 20 [(0, .ref 61), (1, .int x1), (2, .int x2), (3, .int x3)] [] (mH h s) Q := by
  unfold mf_310_20 at hf
  exact mb_310_20 hh  (mr_310_L4 hh N hf k)
def mf_310_19 (N : Nat)  (s : mS) : mO := some (s, none)
theorem mr_310_19 {X : Nat → Option zz_C} {h : zz_H} (hh : 111 ≤ h.length) {d : Nat} {N : Nat} {Q : Option Value → zz_H → Prop}  {s s' : mS} {v : Option Value} (hf : mf_310_19 N  s = some (s', v)) (k : Q v (mH h s')) : zz_E zp_P zt_tf zt_fd X (d + 1) zm_310 19 [] [] (mH h s) Q := by
  unfold mf_310_19 at hf
  cases hf
  exact mb_310_19 hh  k
def mf_310_9 (N : Nat)  (s : mS) : mO := mo_bv (mf_301 N 8 (s.1 70) s) (fun s1 => mf_310_19 N  s1)
theorem mr_310_9 {X : Nat → Option zz_C} {h : zz_H} (hh : 111 ≤ h.length) {d : Nat} {N : Nat} {Q : Option Value → zz_H → Prop}  {s s' : mS} {v : Option Value} (hf : mf_310_9 N  s = some (s', v)) (k : Q v (mH h s')) : zz_E zp_P zt_tf zt_fd X (d + 1) zm_310 9 [(0, .ref 61)] [] (mH h s) Q := by
  unfold mf_310_9 at hf
  obtain ⟨s1, e, hf⟩ := mo_bv_ok hf
  exact mb_310_9 (d := d + 0) hh  (mr_301 (d := d + 0) hh e (mr_310_19 hh hf k))
def mf_310_0 (N : Nat) (x1 : Int32) (x2 : Int32) (x3 : Int32) (s : mS) : mO := if ¬ (s.1 73) = 10 then mf_310_20 N x1 x2 x3 s else mf_310_9 N  s
theorem mr_310_0 {X : Nat → Option zz_C} {h : zz_H} (hh : 111 ≤ h.length) {d : Nat} {N : Nat} {Q : Option Value → zz_H → Prop} {x1 : Int32} {x2 : Int32} {x3 : Int32} {s s' : mS} {v : Option Value} (hf : mf_310_0 N x1 x2 x3 s = some (s', v)) (k : Q v (mH h s')) : zz_E zp_P zt_tf zt_fd X (d + 1) zm_310 0 [(0, .ref 61), (1, .int x1), (2, .int x2), (3, .int x3)] [] (mH h s) Q := by
  unfold mf_310_0 at hf
  refine mb_310_0 hh  (fun c => ?_) (fun c => ?_)
  · rw [if_pos c] at hf
    exact mr_310_20 hh hf k
  · rw [if_neg c] at hf
    exact mr_310_9 hh hf k
/-- enters -/
def mf_310 (N : Nat) (x1 : Int32) (x2 : Int32) (x3 : Int32) (s : mS) : mO := mf_310_0 N x1 x2 x3 s
theorem mr_310 {X : Nat → Option zz_C} {h : zz_H} (hh : 111 ≤ h.length) {d : Nat} {N : Nat} {Q : Option Value → zz_H → Prop} {x1 : Int32} {x2 : Int32} {x3 : Int32} {s s' : mS} {v : Option Value} (hf : mf_310 N x1 x2 x3 s = some (s', v)) (k : Q v (mH h s')) : zz_E zp_P zt_tf zt_fd X (d + 1) zm_310 0 [(0, .ref 61), (1, .int x1), (2, .int x2), (3, .int x3)] [] (mH h s) Q := by
  unfold mf_310 at hf
  exact zz_E.weak (mr_310_0 hh hf k) rfl ⟨rfl, rfl, rfl, rfl, trivial⟩
/-! store (III)V -/
theorem mb_307_0 {X : Nat → Option zz_C} {h : zz_H} (hh : 111 ≤ h.length) {s : mS} {d : Nat} {Q : Option Value → zz_H → Prop} {x1 : Int32} {x2 : Int32} {x3 : Int32} (k1 : 8 ≤ x1 → zz_E zp_P zt_tf zt_fd X d zm_307 23 [(0, .ref 61), (1, .int x1), (2, .int x2), (3, .int x3)] [] (mH h s) Q) (k2 : ¬ 8 ≤ x1 → zz_E zp_P zt_tf zt_fd X d zm_307 6 [(0, .ref 61), (1, .int x1), (2, .int x2), (3, .int x3)] [] (mH h s) Q) : zz_E zp_P zt_tf zt_fd X d zm_307 0 [(0, .ref 61), (1, .int x1), (2, .int x2), (3, .int x3)] [] (mH h s) Q := by
  refine zz_E.n 1 rfl rfl rfl ?_
  refine zz_E.c 3 (.int 8) rfl rfl rfl rfl ?_
  refine zz_E.b2 23 6 (A := 8 ≤ x1) rfl rfl (by decide) rfl rfl (fun c => ?_) (fun c => ?_)
  · exact zz_E.weak (k1 c) rfl ⟨rfl, rfl, rfl, rfl, trivial⟩
  · exact zz_E.weak (k2 c) rfl ⟨rfl, rfl, rfl, rfl, trivial⟩
theorem mb_307_6 {X : Nat → Option zz_C} {h : zz_H} (hh : 111 ≤ h.length) {s : mS} {d : Nat} {Q : Option Value → zz_H → Prop} {x1 : Int32} {x2 : Int32} {x3 : Int32} (i12 : ¬ (x1 < 0 ∨ 8 ≤ Int32.toNatClampNeg x1)) (i19 : ¬ (x1 < 0 ∨ 8 ≤ Int32.toNatClampNeg x1)) (k : zz_E zp_P zt_tf zt_fd X d zm_307 63 [] [] (mH h (mA (mA s 71 (upd (s.2.2.1 71) (Int32.toNatClampNeg x1) x2)) 72 (upd (s.2.2.1 72) (Int32.toNatClampNeg x1) x3))) Q) : zz_E zp_P zt_tf zt_fd X d zm_307 6 [(0, .ref 61), (1, .int x1), (2, .int x2), (3, .int x3)] [] (mH h s) Q := by
  refine zz_E.n 7 rfl rfl rfl ?_
  refine mE_g hh 10 (v := .ref 97) rfl rfl rfl ?_
  refine zz_E.n 11 rfl rfl rfl ?_
  refine zz_E.n 12 rfl rfl rfl ?_
  refine mE_is hh 13 36 (f := (s.2.2.1 71)) rfl (by decide) rfl rfl i12 (mA_97 _ _) rfl ?_
  refine zz_E.n 14 rfl rfl rfl ?_
  refine mE_g hh 17 (v := .ref 98) rfl rfl rfl ?_
  refine zz_E.n 18 rfl rfl rfl ?_
  refine zz_E.n 19 rfl rfl rfl ?_
  refine mE_is hh 20 37 (f := (s.2.2.1 72)) rfl (by decide) rfl rfl i19 (mA_98 _ _) rfl ?_
  refine zz_E.n 63 rfl rfl rfl ?_
  exact zz_E.weak k rfl trivial
theorem mb_307_23 {X : Nat → Option zz_C} {h : zz_H} (hh : 111 ≤ h.length) {s : mS} {d : Nat} {Q : Option Value → zz_H → Prop} {x1 : Int32} {x2 : Int32} {x3 : Int32} (i42 : ¬ ((((14 * ((s.1 73) - 1)) + x1) - 8) < 0 ∨ 140 ≤ Int32.toNatClampNeg (((14 * ((s.1 73) - 1)) + x1) - 8))) (i62 : ¬ ((((14 * ((s.1 73) - 1)) + x1) - 8) < 0 ∨ 140 ≤ Int32.toNatClampNeg (((14 * ((s.1 73) - 1)) + x1) - 8))) (k : zz_E zp_P zt_tf zt_fd X d zm_307 63 [] [] (mH h (mA (mA s 77 (upd (s.2.2.1 77) (Int32.toNatClampNeg (((14 * ((s.1 73) - 1)) + x1) - 8)) x2)) 78 (upd (s.2.2.1 78) (Int32.toNatClampNeg (((14 * ((s.1 73) - 1)) + x1) - 8)) x3))) Q) : zz_E zp_P zt_tf zt_fd X d zm_307 23 [(0, .ref 61), (1, .int x1), (2, .int x2), (3, .int x3)] [] (mH h s) Q := by
  refine zz_E.n 24 rfl rfl rfl ?_
  refine mE_g hh 27 (v := .ref 102) rfl rfl rfl ?_
  refine zz_E.c 29 (.int 14) rfl rfl rfl rfl ?_
  refine zz_E.n 30 rfl rfl rfl ?_
  refine mE_g hh 33 (v := .int (s.1 73)) rfl rfl rfl ?_
  refine zz_E.c 34 (.int 1) rfl rfl rfl rfl ?_
  refine zz_E.n 35 rfl rfl rfl ?_
  refine zz_E.n 36 rfl rfl rfl ?_
  refine zz_E.n 37 rfl rfl rfl ?_
  refine zz_E.n 38 rfl rfl rfl ?_
  refine zz_E.c 40 (.int 8) rfl rfl rfl rfl ?_
  refine zz_E.n 41 rfl rfl rfl ?_
  refine zz_E.n 42 rfl rfl rfl ?_
  refine mE_is hh 43 41 (f := (s.2.2.1 77)) rfl (by decide) rfl rfl i42 (mA_102 _ _) rfl ?_
  refine zz_E.n 44 rfl rfl rfl ?_
  refine mE_g hh 47 (v := .ref 103) rfl rfl rfl ?_
  refine zz_E.c 49 (.int 14) rfl rfl rfl rfl ?_
  refine zz_E.n 50 rfl rfl rfl ?_
  refine mE_g hh 53 (v := .int (s.1 73)) rfl rfl rfl ?_
  refine zz_E.c 54 (.int 1) rfl rfl rfl rfl ?_
  refine zz_E.n 55 rfl rfl rfl ?_
  refine zz_E.n 56 rfl rfl rfl ?_
  refine zz_E.n 57 rfl rfl rfl ?_
  refine zz_E.n 58 rfl rfl rfl ?_
  refine zz_E.c 60 (.int 8) rfl rfl rfl rfl ?_
  refine zz_E.n 61 rfl rfl rfl ?_
  refine zz_E.n 62 rfl rfl rfl ?_
  refine mE_is hh 63 42 (f := (s.2.2.1 78)) rfl (by decide) rfl rfl i62 (mA_103 _ _) rfl ?_
  exact zz_E.weak k rfl trivial
theorem mb_307_63 {X : Nat → Option zz_C} {h : zz_H} (hh : 111 ≤ h.length) {s : mS} {d : Nat} {Q : Option Value → zz_H → Prop}  (k : Q none (mH h s)) : zz_E zp_P zt_tf zt_fd X d zm_307 63 [] [] (mH h s) Q := by
  refine zz_E.ret rfl rfl rfl ?_
  exact k
def mf_307_63 (N : Nat)  (s : mS) : mO := some (s, none)
theorem mr_307_63 {X : Nat → Option zz_C} {h : zz_H} (hh : 111 ≤ h.length) {d : Nat} {N : Nat} {Q : Option Value → zz_H → Prop}  {s s' : mS} {v : Option Value} (hf : mf_307_63 N  s = some (s', v)) (k : Q v (mH h s')) : zz_E zp_P zt_tf zt_fd X (d + 0) zm_307 63 [] [] (mH h s) Q := by
  unfold mf_307_63 at hf
  cases hf
  exact mb_307_63 hh  k
def mf_307_23 (N : Nat) (x1 : Int32) (x2 : Int32) (x3 : Int32) (s : mS) : mO := if ¬ ((((14 * ((s.1 73) - 1)) + x1) - 8) < 0 ∨ 140 ≤ Int32.toNatClampNeg (((14 * ((s.1 73) - 1)) + x1) - 8)) then (if ¬ ((((14 * ((s.1 73) - 1)) + x1) - 8) < 0 ∨ 140 ≤ Int32.toNatClampNeg (((14 * ((s.1 73) - 1)) + x1) - 8)) then (mf_307_63 N  (mA (mA s 77 (upd (s.2.2.1 77) (Int32.toNatClampNeg (((14 * ((s.1 73) - 1)) + x1) - 8)) x2)) 78 (upd (s.2.2.1 78) (Int32.toNatClampNeg (((14 * ((s.1 73) - 1)) + x1) - 8)) x3))) else none) else none
theorem mr_307_23 {X : Nat → Option zz_C} {h : zz_H} (hh : 111 ≤ h.length) {d : Nat} {N : Nat} {Q : Option Value → zz_H → Prop} {x1 : Int32} {x2 : Int32} {x3 : Int32} {s s' : mS} {v : Option Value} (hf : mf_307_23 N x1 x2 x3 s = some (s', v)) (k : Q v (mH h s')) : zz_E zp_P zt_tf zt_fd X (d + 0) zm_307 23 [(0, .ref 61), (1, .int x1), (2, .int x2), (3, .int x3)] [] (mH h s) Q := by
  unfold mf_307_23 at hf
  obtain ⟨q0, hf⟩ := mo_if hf
  obtain ⟨q1, hf⟩ := mo_if hf
  exact mb_307_23 hh q0 q1 (mr_307_63 hh hf k)
def mf_307_6 (N : Nat) (x1 : Int32) (x2 : Int32) (x3 : Int32) (s : mS) : mO := if ¬ (x1 < 0 ∨ 8 ≤ Int32.toNatClampNeg x1) then (if ¬ (x1 < 0 ∨ 8 ≤ Int32.toNatClampNeg x1) then (mf_307_63 N  (mA (mA s 71 (upd (s.2.2.1 71) (Int32.toNatClampNeg x1) x2)) 72 (upd (s.2.2.1 72) (Int32.toNatClampNeg x1) x3))) else none) else none
theorem mr_307_6 {X : Nat → Option zz_C} {h : zz_H} (hh : 111 ≤ h.length) {d : Nat} {N : Nat} {Q : Option Value → zz_H → Prop} {x1 : Int32} {x2 : Int32} {x3 : Int32} {s s' : mS} {v : Option Value} (hf : mf_307_6 N x1 x2 x3 s = some (s', v)) (k : Q v (mH h s')) : zz_E zp_P zt_tf zt_fd X (d + 0) zm_307 6 [(0, .ref 61), (1, .int x1), (2, .int x2), (3, .int x3)] [] (mH h s) Q := by
  unfold mf_307_6 at hf
  obtain ⟨q0, hf⟩ := mo_if hf
  obtain ⟨q1, hf⟩ := mo_if hf
  exact mb_307_6 hh q0 q1 (mr_307_63 hh hf k)
def mf_307_0 (N : Nat) (x1 : Int32) (x2 : Int32) (x3 : Int32) (s : mS) : mO := if 8 ≤ x1 then mf_307_23 N x1 x2 x3 s else mf_307_6 N x1 x2 x3 s
theorem mr_307_0 {X : Nat → Option zz_C} {h : zz_H} (hh : 111 ≤ h.length) {d : Nat} {N : Nat} {Q : Option Value → zz_H → Prop} {x1 : Int32} {x2 : Int32} {x3 : Int32} {s s' : mS} {v : Option Value} (hf : mf_307_0 N x1 x2 x3 s = some (s', v)) (k : Q v (mH h s')) : zz_E zp_P zt_tf zt_fd X (d + 0) zm_307 0 [(0, .ref 61), (1, .int x1), (2, .int x2), (3, .int x3)] [] (mH h s) Q := by
  unfold mf_307_0 at hf
  refine mb_307_0 hh  (fun c => ?_) (fun c => ?_)
  · rw [if_pos c] at hf
    exact mr_307_23 hh hf k
  · rw [if_neg c] at hf
    exact mr_307_6 hh hf k
/-- store -/
def mf_307 (N : Nat) (x1 : Int32) (x2 : Int32) (x3 : Int32) (s : mS) : mO := mf_307_0 N x1 x2 x3 s
theorem mr_307 {X : Nat → Option zz_C} {h : zz_H} (hh : 111 ≤ h.length) {d : Nat} {N : Nat} {Q : Option Value → zz_H → Prop} {x1 : Int32} {x2 : Int32} {x3 : Int32} {s s' : mS} {v : Option Value} (hf : mf_307 N x1 x2 x3 s = some (s', v)) (k : Q v (mH h s')) : zz_E zp_P zt_tf zt_fd X (d + 0) zm_307 0 [(0, .ref 61), (1, .int x1), (2, .int x2), (3, .int x3)] [] (mH h s) Q := by
  unfold mf_307 at hf
  exact zz_E.weak (mr_307_0 hh hf k) rfl ⟨rfl, rfl, rfl, rfl, trivial⟩
/-! isTaken ()Z -/
theorem mb_312_0 {X : Nat → Option zz_C} {h : zz_H} (hh : 111 ≤ h.length) {s : mS} {d : Nat} {Q : Option Value → zz_H → Prop}  (k1 : (s.1 66) ≤ 9 → zz_E zp_P zt_tf zt_fd X d zm_312 11 [(0, .ref 61)] [] (mH h s) Q) (k2 : ¬ (s.1 66) ≤ 9 → zz_E zp_P zt_tf zt_fd X d zm_312 9 [] [] (mH h s) Q) : zz_E zp_P zt_tf zt_fd X d zm_312 0 [(0, .ref 61)] [] (mH h s) Q := by
  refine zz_E.n 1 rfl rfl rfl ?_
  refine mE_g hh 4 (v := .int (s.1 66)) rfl rfl rfl ?_
  refine zz_E.c 6 (.int 9) rfl rfl rfl rfl ?_
  refine zz_E.b2 11 9 (A := (s.1 66) ≤ 9) rfl rfl (by decide) rfl rfl (fun c => ?_) (fun c => ?_)
  · exact zz_E.weak (k1 c) rfl ⟨rfl, trivial⟩
  · exact zz_E.weak (k2 c) rfl trivial
theorem mb_312_9 {X : Nat → Option zz_C} {h : zz_H} (hh : 111 ≤ h.length) {s : mS} {d : Nat} {Q : Option Value → zz_H → Prop}  (k : Q (some (.int 0)) (mH h s)) : zz_E zp_P zt_tf zt_fd X d zm_312 9 [] [] (mH h s) Q := by
  refine zz_E.c 10 (.int 0) rfl rfl rfl rfl ?_
  refine zz_E.ret rfl rfl rfl ?_
  exact k
theorem mb_312_11 {X : Nat → Option zz_C} {h : zz_H} (hh : 111 ≤ h.length) {s : mS} {d : Nat} {Q : Option Value → zz_H → Prop}  (k : zz_E zp_P zt_tf zt_fd X d zm_312 18 [(0, .ref 61), (1, .int ((s.1 79) - 1))] [] (mH h s) Q) : zz_E zp_P zt_tf zt_fd X d zm_312 11 [(0, .ref 61)] [] (mH h s) Q := by
  refine zz_E.n 12 rfl rfl rfl ?_
  refine mE_g hh 15 (v := .int (s.1 79)) rfl rfl rfl ?_
  refine zz_E.c 16 (.int 1) rfl rfl rfl rfl ?_
  refine zz_E.n 17 rfl rfl rfl ?_
  refine zz_E.n 18 rfl rfl rfl ?_
  exact zz_E.weak k rfl ⟨rfl, rfl, trivial⟩
theorem mb_312_18 {X : Nat → Option zz_C} {h : zz_H} (hh : 111 ≤ h.length) {s : mS} {d : Nat} {Q : Option Value → zz_H → Prop} {x1 : Int32} (k1 : x1 < 0 → zz_E zp_P zt_tf zt_fd X d zm_312 38 [(0, .ref 61), (1, .int x1)] [] (mH h s) Q) (k2 : ¬ x1 < 0 → zz_E zp_P zt_tf zt_fd X d zm_312 22 [(0, .ref 61), (1, .int x1)] [] (mH h s) Q) : zz_E zp_P zt_tf zt_fd X d zm_312 18 [(0, .ref 61), (1, .int x1)] [] (mH h s) Q := by
  refine zz_E.n 19 rfl rfl rfl ?_
  refine zz_E.b1 38 22 (A := x1 < 0) rfl rfl (by decide) rfl rfl (fun c => ?_) (fun c => ?_)
  · exact zz_E.weak (k1 c) rfl ⟨rfl, rfl, trivial⟩
  · exact zz_E.weak (k2 c) rfl ⟨rfl, rfl, trivial⟩
theorem mb_312_22 {X : Nat → Option zz_C} {h : zz_H} (hh : 111 ≤ h.length) {s : mS} {d : Nat} {Q : Option Value → zz_H → Prop} {x1 : Int32} (i27 : ¬ (x1 < 0 ∨ 400 ≤ Int32.toNatClampNeg x1)) (k1 : ((s.2.2.1 80) (Int32.toNatClampNeg x1)) = 2 → zz_E zp_P zt_tf zt_fd X d zm_312 38 [(0, .ref 61), (1, .int x1)] [] (mH h s) Q) (k2 : ¬ ((s.2.2.1 80) (Int32.toNatClampNeg x1)) = 2 → zz_E zp_P zt_tf zt_fd X d zm_312 32 [(0, .ref 61), (1, .int x1)] [] (mH h s) Q) : zz_E zp_P zt_tf zt_fd X d zm_312 22 [(0, .ref 61), (1, .int x1)] [] (mH h s) Q := by
  refine zz_E.n 23 rfl rfl rfl ?_
  refine mE_g hh 26 (v := .ref 104) rfl rfl rfl ?_
  refine zz_E.n 27 rfl rfl rfl ?_
  refine mE_ia hh 28 43 (f := (s.2.2.1 80)) rfl (by decide) rfl rfl i27 rfl ?_
  refine zz_E.c 29 (.int 2) rfl rfl rfl rfl ?_
  refine zz_E.b2 38 32 (A := ((s.2.2.1 80) (Int32.toNatClampNeg x1)) = 2) rfl rfl (by decide) rfl rfl (fun c => ?_) (fun c => ?_)
  · exact zz_E.weak (k1 c) rfl ⟨rfl, rfl, trivial⟩
  · exact zz_E.weak (k2 c) rfl ⟨rfl, rfl, trivial⟩
theorem mb_312_32 {X : Nat → Option zz_C} {h : zz_H} (hh : 111 ≤ h.length) {s : mS} {d : Nat} {Q : Option Value → zz_H → Prop} {x1 : Int32} (k : zz_E zp_P zt_tf zt_fd X d zm_312 18 [(0, .ref 61), (1, .int (x1 + (-1)))] [] (mH h s) Q) : zz_E zp_P zt_tf zt_fd X d zm_312 32 [(0, .ref 61), (1, .int x1)] [] (mH h s) Q := by
  refine zz_E.n 35 rfl rfl rfl ?_
  refine zz_E.n 18 rfl rfl rfl ?_
  exact zz_E.weak k rfl ⟨rfl, rfl, trivial⟩
theorem mb_312_38 {X : Nat → Option zz_C} {h : zz_H} (hh : 111 ≤ h.length) {s : mS} {d : Nat} {Q : Option Value → zz_H → Prop} {x1 : Int32} (k1 : 0 ≤ x1 → zz_E zp_P zt_tf zt_fd X d zm_312 44 [(0, .ref 61), (1, .int x1)] [] (mH h s) Q) (k2 : ¬ 0 ≤ x1 → zz_E zp_P zt_tf zt_fd X d zm_312 42 [] [] (mH h s) Q) : zz_E zp_P zt_tf zt_fd X d zm_312 38 [(0, .ref 61), (1, .int x1)] [] (mH h s) Q := by
  refine zz_E.n 39 rfl rfl rfl ?_
  refine zz_E.b1 44 42 (A := 0 ≤ x1) rfl rfl (by decide) rfl rfl (fun c => ?_) (fun c => ?_)
  · exact zz_E.weak (k1 c) rfl ⟨rfl, rfl, trivial⟩
  · exact zz_E.weak (k2 c) rfl trivial
theorem mb_312_42 {X : Nat → Option zz_C} {h : zz_H} (hh : 111 ≤ h.length) {s : mS} {d : Nat} {Q : Option Value → zz_H → Prop}  (k : Q (some (.int 0)) (mH h s)) : zz_E zp_P zt_tf zt_fd X d zm_312 42 [] [] (mH h s) Q := by
  refine zz_E.c 43 (.int 0) rfl rfl rfl rfl ?_
  refine zz_E.ret rfl rfl rfl ?_
  exact k
theorem mb_312_44 {X : Nat → Option zz_C} {h : zz_H} (hh : 111 ≤ h.length) {s : mS} {d : Nat} {Q : Option Value → zz_H → Prop} {x1 : Int32} (k1 : ¬ (s.1 66) = 9 → zz_E zp_P zt_tf zt_fd X d zm_312 60 [(0, .ref 61), (1, .int x1)] [] (mH h s) Q) (k2 : ¬ ¬ (s.1 66) = 9 → zz_E zp_P zt_tf zt_fd X d zm_312 53 [(0, .ref 61), (1, .int x1)] [] (mH h s) Q) : zz_E zp_P zt_tf zt_fd X d zm_312 44 [(0, .ref 61), (1, .int x1)] [] (mH h s) Q := by
  refine zz_E.n 45 rfl rfl rfl ?_
  refine mE_g hh 48 (v := .int (s.1 66)) rfl rfl rfl ?_
  refine zz_E.c 50 (.int 9) rfl rfl rfl rfl ?_
  refine zz_E.b2 60 53 (A := ¬ (s.1 66) = 9) rfl (zz_cond_ne _ _) (by decide) rfl rfl (fun c => ?_) (fun c => ?_)
  · exact zz_E.weak (k1 c) rfl ⟨rfl, rfl, trivial⟩
  · exact zz_E.weak (k2 c) rfl ⟨rfl, rfl, trivial⟩
theorem mb_312_53 {X : Nat → Option zz_C} {h : zz_H} (hh : 111 ≤ h.length) {s : mS} {d : Nat} {Q : Option Value → zz_H → Prop} {x1 : Int32} (k : zz_E zp_P zt_tf zt_fd X d zm_312 64 [(0, .ref 61), (1, .int x1)] [.int (s.1 65)] (mH h s) Q) : zz_E zp_P zt_tf zt_fd X d zm_312 53 [(0, .ref 61), (1, .int x1)] [] (mH h s) Q := by
  refine zz_E.n 54 rfl rfl rfl ?_
  refine mE_g hh 57 (v := .int (s.1 65)) rfl rfl rfl ?_
  refine zz_E.n 64 rfl rfl rfl ?_
  exact zz_E.weak k rfl ⟨rfl, rfl, trivial⟩
theorem mb_312_60 {X : Nat → Option zz_C} {h : zz_H} (hh : 111 ≤ h.length) {s : mS} {d : Nat} {Q : Option Value → zz_H → Prop} {x1 : Int32} (k : zz_E zp_P zt_tf zt_fd X d zm_312 64 [(0, .ref 61), (1, .int x1)] [.int (s.1 66)] (mH h s) Q) : zz_E zp_P zt_tf zt_fd X d zm_312 60 [(0, .ref 61), (1, .int x1)] [] (mH h s) Q := by
  refine zz_E.n 61 rfl rfl rfl ?_
  refine mE_g hh 64 (v := .int (s.1 66)) rfl rfl rfl ?_
  exact zz_E.weak k rfl ⟨rfl, rfl, trivial⟩
theorem mb_312_64 {X : Nat → Option zz_C} {h : zz_H} (hh : 111 ≤ h.length) {s : mS} {d : Nat} {Q : Option Value → zz_H → Prop} {x1 : Int32} {y0 : Int32} (i76 : ¬ (x1 < 0 ∨ 400 ≤ Int32.toNatClampNeg x1)) (i86 : ¬ (x1 < 0 ∨ 400 ≤ Int32.toNatClampNeg x1)) (i96 : ¬ (x1 < 0 ∨ 400 ≤ Int32.toNatClampNeg x1)) (i138 : ¬ (x1 < 0 ∨ 400 ≤ Int32.toNatClampNeg x1)) (k : zz_E zp_P zt_tf zt_fd X d zm_307 0 [(0, .ref 61), (1, .int ((s.2.2.1 82) (Int32.toNatClampNeg x1))), (2, .int 0), (3, .int y0)] [] (mH h (mI (mI (mI (mI (mI (mI (mI (mI s 79 x1) 73 ((s.2.2.1 85) (Int32.toNatClampNeg x1))) 51 ((s.2.2.1 84) (Int32.toNatClampNeg x1))) 69 ((s.2.2.1 81) (Int32.toNatClampNeg x1))) 64 ((s.1 64) + 1)) 66 0) 67 (-1)) 62 ((s.1 62) + 300))) (fun v h' => zz_E zp_P zt_tf zt_fd X (d + 1) zm_312 144 [(0, .ref 61), (1, .int x1)] (v.toList ++ []) h' Q)) : zz_E zp_P zt_tf zt_fd X (d + 1) zm_312 64 [(0, .ref 61), (1, .int x1)] [.int y0] (mH h s) Q := by
  refine zz_E.n 65 rfl rfl rfl ?_
  refine zz_E.n 66 rfl rfl rfl ?_
  refine zz_E.n 67 rfl rfl rfl ?_
  refine mE_p hh 70 rfl (by decide) rfl (mF_79 _ _) rfl ?_
  refine zz_E.n 71 rfl rfl rfl ?_
  refine zz_E.n 72 rfl rfl rfl ?_
  refine mE_g hh 75 (v := .ref 109) rfl rfl rfl ?_
  refine zz_E.n 76 rfl rfl rfl ?_
  refine mE_ia hh 77 48 (f := (s.2.2.1 85)) rfl (by decide) rfl rfl i76 rfl ?_
  refine mE_p hh 80 rfl (by decide) rfl (mF_73 _ _) rfl ?_
  refine zz_E.n 81 rfl rfl rfl ?_
  refine zz_E.n 82 rfl rfl rfl ?_
  refine mE_g hh 85 (v := .ref 108) rfl rfl rfl ?_
  refine zz_E.n 86 rfl rfl rfl ?_
  refine mE_ia hh 87 47 (f := (s.2.2.1 84)) rfl (by decide) rfl rfl i86 rfl ?_
  refine mE_p hh 90 rfl (by decide) rfl (mF_51 _ _) rfl ?_
  refine zz_E.n 91 rfl rfl rfl ?_
  refine zz_E.n 92 rfl rfl rfl ?_
  refine mE_g hh 95 (v := .ref 105) rfl rfl rfl ?_
  refine zz_E.n 96 rfl rfl rfl ?_
  refine mE_ia hh 97 44 (f := (s.2.2.1 81)) rfl (by decide) rfl rfl i96 rfl ?_
  refine mE_p hh 100 rfl (by decide) rfl (mF_69 _ _) rfl ?_
  refine zz_E.n 101 rfl rfl rfl ?_
  refine zz_E.n 102 rfl rfl rfl ?_
  refine mE_g hh 105 (v := .int (s.1 64)) rfl rfl rfl ?_
  refine zz_E.c 106 (.int 1) rfl rfl rfl rfl ?_
  refine zz_E.n 107 rfl rfl rfl ?_
  refine mE_p hh 110 rfl (by decide) rfl (mF_64 _ _) rfl ?_
  refine zz_E.n 111 rfl rfl rfl ?_
  refine zz_E.c 112 (.int 0) rfl rfl rfl rfl ?_
  refine mE_p hh 115 rfl (by decide) rfl (mF_66 _ _) rfl ?_
  refine zz_E.n 116 rfl rfl rfl ?_
  refine zz_E.c 117 (.int (-1)) rfl rfl rfl rfl ?_
  refine mE_p hh 120 rfl (by decide) rfl (mF_67 _ _) rfl ?_
  refine zz_E.n 121 rfl rfl rfl ?_
  refine zz_E.n 122 rfl rfl rfl ?_
  refine mE_g hh 125 (v := .int (s.1 62)) rfl rfl rfl ?_
  refine zz_E.c 128 (.int 300) rfl rfl rfl rfl ?_
  refine zz_E.n 129 rfl rfl rfl ?_
  refine mE_p hh 132 rfl (by decide) rfl (mF_62 _ _) rfl ?_
  refine zz_E.n 133 rfl rfl rfl ?_
  refine zz_E.n 134 rfl rfl rfl ?_
  refine mE_g hh 137 (v := .ref 106) rfl rfl rfl ?_
  refine zz_E.n 138 rfl rfl rfl ?_
  refine mE_ia hh 139 45 (f := (s.2.2.1 82)) rfl (by decide) rfl rfl i138 rfl ?_
  refine zz_E.c 140 (.int 0) rfl rfl rfl rfl ?_
  refine zz_E.n 141 rfl rfl rfl ?_
  refine mE_cv hh 144 (as := []) rfl rfl (Nat.le_of_ble_eq_true rfl) (Nat.le_of_ble_eq_true rfl) rfl (Nat.le_of_ble_eq_true rfl) rfl ?_
  refine zz_E.mono k ?_
  intro v h' hE
  exact zz_E.weak hE rfl ⟨rfl, rfl, trivial⟩
theorem mb_312_144 {X : Nat → Option zz_C} {h : zz_H} (hh : 111 ≤ h.length) {s : mS} {d : Nat} {Q : Option Value → zz_H → Prop} {x1 : Int32} (k1 : (s.1 62) ≤ 3000 → zz_E zp_P zt_tf zt_fd X d zm_312 166 [(0, .ref 61)] [] (mH h s) Q) (k2 : ¬ (s.1 62) ≤ 3000 → zz_E zp_P zt_tf zt_fd X d zm_312 154 [(0, .ref 61), (1, .int x1)] [] (mH h s) Q) : zz_E zp_P zt_tf zt_fd X d zm_312 144 [(0, .ref 61), (1, .int x1)] [] (mH h s) Q := by
  refine zz_E.n 145 rfl rfl rfl ?_
  refine mE_g hh 148 (v := .int (s.1 62)) rfl rfl rfl ?_
  refine zz_E.c 151 (.int 3000) rfl rfl rfl rfl ?_
  refine zz_E.b2 166 154 (A := (s.1 62) ≤ 3000) rfl rfl (by decide) rfl rfl (fun c => ?_) (fun c => ?_)
  · exact zz_E.weak (k1 c) rfl ⟨rfl, trivial⟩
  · exact zz_E.weak (k2 c) rfl ⟨rfl, rfl, trivial⟩
theorem mb_312_154 {X : Nat → Option zz_C} {h : zz_H} (hh : 111 ≤ h.length) {s : mS} {d : Nat} {Q : Option Value → zz_H → Prop} {x1 : Int32} (i162 : ¬ (x1 < 0 ∨ 400 ≤ Int32.toNatClampNeg x1)) (k : zz_E zp_P zt_tf zt_fd X d zm_301 0 [(0, .ref 61), (1, .int 11), (2, .int ((s.2.2.1 83) (Int32.toNatClampNeg x1)))] [] (mH h s) (fun v h' => zz_E zp_P zt_tf zt_fd X (d + 1) zm_312 166 [(0, .ref 61)] (v.toList ++ []) h' Q)) : zz_E zp_P zt_tf zt_fd X (d + 1) zm_312 154 [(0, .ref 61), (1, .int x1)] [] (mH h s) Q := by
  refine zz_E.n 155 rfl rfl rfl ?_
  refine zz_E.c 157 (.int 11) rfl rfl rfl rfl ?_
  refine zz_E.n 158 rfl rfl rfl ?_
  refine mE_g hh 161 (v := .ref 107) rfl rfl rfl ?_
  refine zz_E.n 162 rfl rfl rfl ?_
  refine mE_ia hh 163 46 (f := (s.2.2.1 83)) rfl (by decide) rfl rfl i162 rfl ?_
  refine mE_cv hh 166 (as := []) rfl rfl (Nat.le_of_ble_eq_true rfl) (Nat.le_of_ble_eq_true rfl) rfl (Nat.le_of_ble_eq_true rfl) rfl ?_
  refine zz_E.mono k ?_
  intro v h' hE
  exact zz_E.weak hE rfl ⟨rfl, trivial⟩
theorem mb_312_166 {X : Nat → Option zz_C} {h : zz_H} (hh : 111 ≤ h.length) {s : mS} {d : Nat} {Q : Option Value → zz_H → Prop}  (k1 : ¬ (s.1 66) = 0 → zz_E zp_P zt_tf zt_fd X d zm_312 177 [] [] (mH h s) Q) (k2 : ¬ ¬ (s.1 66) = 0 → zz_E zp_P zt_tf zt_fd X d zm_312 173 [] [] (mH h s) Q) : zz_E zp_P zt_tf zt_fd X d zm_312 166 [(0, .ref 61)] [] (mH h s) Q := by
  refine zz_E.n 167 rfl rfl rfl ?_
  refine mE_g hh 170 (v := .int (s.1 66)) rfl rfl rfl ?_
  refine zz_E.b1 177 173 (A := ¬ (s.1 66) = 0) rfl (zz_cond_ne _ _) (by decide) rfl rfl (fun c => ?_) (fun c => ?_)
  · exact zz_E.weak (k1 c) rfl trivial
  · exact zz_E.weak (k2 c) rfl trivial
theorem mb_312_173 {X : Nat → Option zz_C} {h : zz_H} (hh : 111 ≤ h.length) {s : mS} {d : Nat} {Q : Option Value → zz_H → Prop}  (k : zz_E zp_P zt_tf zt_fd X d zm_312 178 [] [.int 1] (mH h s) Q) : zz_E zp_P zt_tf zt_fd X d zm_312 173 [] [] (mH h s) Q := by
  refine zz_E.c 174 (.int 1) rfl rfl rfl rfl ?_
  refine zz_E.n 178 rfl rfl rfl ?_
  exact zz_E.weak k rfl trivial
theorem mb_312_177 {X : Nat → Option zz_C} {h : zz_H} (hh : 111 ≤ h.length) {s : mS} {d : Nat} {Q : Option Value → zz_H → Prop}  (k : zz_E zp_P zt_tf zt_fd X d zm_312 178 [] [.int 0] (mH h s) Q) : zz_E zp_P zt_tf zt_fd X d zm_312 177 [] [] (mH h s) Q := by
  refine zz_E.c 178 (.int 0) rfl rfl rfl rfl ?_
  exact zz_E.weak k rfl trivial
theorem mb_312_178 {X : Nat → Option zz_C} {h : zz_H} (hh : 111 ≤ h.length) {s : mS} {d : Nat} {Q : Option Value → zz_H → Prop} {y0 : Int32} (k : Q (some (.int y0)) (mH h s)) (rb : zz_reti (some .boolean) y0 = true) : zz_E zp_P zt_tf zt_fd X d zm_312 178 [] [.int y0] (mH h s) Q := by
  refine zz_E.ret rfl rfl (if_pos ⟨rfl, rb⟩) ?_
  exact k
def mf_312_178 (N : Nat) (y0 : Int32) (s : mS) : mO := if zz_reti (some .boolean) y0 = true then some (s, (some (.int y0))) else none
theorem mr_312_178 {X : Nat → Option zz_C} {h : zz_H} (hh : 111 ≤ h.length) {d : Nat} {N : Nat} {Q : Option Value → zz_H → Prop} {y0 : Int32} {s s' : mS} {v : Option Value} (hf : mf_312_178 N y0 s = some (s', v)) (k : Q v (mH h s')) : zz_E zp_P zt_tf zt_fd X (d + 1) zm_312 178 [] [.int y0] (mH h s) Q := by
  unfold mf_312_178 at hf
  obtain ⟨rb, hf⟩ := mo_if hf
  cases hf
  exact mb_312_178 hh  k rb
def mf_312_177 (N : Nat)  (s : mS) : mO := mf_312_178 N 0 s
theorem mr_312_177 {X : Nat → Option zz_C} {h : zz_H} (hh : 111 ≤ h.length) {d : Nat} {N : Nat} {Q : Option Value → zz_H → Prop}  {s s' : mS} {v : Option Value} (hf : mf_312_177 N  s = some (s', v)) (k : Q v (mH h s')) : zz_E zp_P zt_tf zt_fd X (d + 1) zm_312 177 [] [] (mH h s) Q := by
  unfold mf_312_177 at hf
  exact mb_312_177 hh  (mr_312_178 hh hf k)
def mf_312_173 (N : Nat)  (s : mS) : mO := mf_312_178 N 1 s
theorem mr_312_173 {X : Nat → Option zz_C} {h : zz_H} (hh : 111 ≤ h.length) {d : Nat} {N : Nat} {Q : Option Value → zz_H → Prop}  {s s' : mS} {v : Option Value} (hf : mf_312_173 N  s = some (s', v)) (k : Q v (mH h s')) : zz_E zp_P zt_tf zt_fd X (d + 1) zm_312 173 [] [] (mH h s) Q := by
  unfold mf_312_173 at hf
  exact mb_312_173 hh  (mr_312_178 hh hf k)
def mf_312_166 (N : Nat)  (s : mS) : mO := if ¬ (s.1 66) = 0 then mf_312_177 N  s else mf_312_173 N  s
theorem mr_312_166 {X : Nat → Option zz_C} {h : zz_H} (hh : 111 ≤ h.length) {d : Nat} {N : Nat} {Q : Option Value → zz_H → Prop}  {s s' : mS} {v : Option Value} (hf : mf_312_166 N  s = some (s', v)) (k : Q v (mH h s')) : zz_E zp_P zt_tf zt_fd X (d + 1) zm_312 166 [(0, .ref 61)] [] (mH h s) Q := by
  unfold mf_312_166 at hf
  refine mb_312_166 hh  (fun c => ?_) (fun c => ?_)
  · rw [if_pos c] at hf
    exact mr_312_177 hh hf k
  · rw [if_neg c] at hf
    exact mr_312_173 hh hf k
def mf_312_154 (N : Nat) (x1 : Int32) (s : mS) : mO := if ¬ (x1 < 0 ∨ 400 ≤ Int32.toNatClampNeg x1) then (mo_bv (mf_301 N 11 ((s.2.2.1 83) (Int32.toNatClampNeg x1)) s) (fun s1 => mf_312_166 N  s1)) else none
theorem mr_312_154 {X : Nat → Option zz_C} {h : zz_H} (hh : 111 ≤ h.length) {d : Nat} {N : Nat} {Q : Option Value → zz_H → Prop} {x1 : Int32} {s s' : mS} {v : Option Value} (hf : mf_312_154 N x1 s = some (s', v)) (k : Q v (mH h s')) : zz_E zp_P zt_tf zt_fd X (d + 1) zm_312 154 [(0, .ref 61), (1, .int x1)] [] (mH h s) Q := by
  unfold mf_312_154 at hf
  obtain ⟨q0, hf⟩ := mo_if hf
  obtain ⟨s1, e, hf⟩ := mo_bv_ok hf
  exact mb_312_154 (d := d + 0) hh q0 (mr_301 (d := d + 0) hh e (mr_312_166 hh hf k))
def mf_312_144 (N : Nat) (x1 : Int32) (s : mS) : mO := if (s.1 62) ≤ 3000 then mf_312_166 N  s else mf_312_154 N x1 s
theorem mr_312_144 {X : Nat → Option zz_C} {h : zz_H} (hh : 111 ≤ h.length) {d : Nat} {N : Nat} {Q : Option Value → zz_H → Prop} {x1 : Int32} {s s' : mS} {v : Option Value} (hf : mf_312_144 N x1 s = some (s', v)) (k : Q v (mH h s')) : zz_E zp_P zt_tf zt_fd X (d + 1) zm_312 144 [(0, .ref 61), (1, .int x1)] [] (mH h s) Q := by
  unfold mf_312_144 at hf
  refine mb_312_144 hh  (fun c => ?_) (fun c => ?_)
  · rw [if_pos c] at hf
    exact mr_312_166 hh hf k
  · rw [if_neg c] at hf
    exact mr_312_154 hh hf k
def mf_312_64 (N : Nat) (x1 : Int32) (y0 : Int32) (s : mS) : mO := if ¬ (x1 < 0 ∨ 400 ≤ Int32.toNatClampNeg x1) then (if ¬ (x1 < 0 ∨ 400 ≤ Int32.toNatClampNeg x1) then (if ¬ (x1 < 0 ∨ 400 ≤ Int32.toNatClampNeg x1) then (if ¬ (x1 < 0 ∨ 400 ≤ Int32.toNatClampNeg x1) then (mo_bv (mf_307 N ((s.2.2.1 82) (Int32.toNatClampNeg x1)) 0 y0 (mI (mI (mI (mI (mI (mI (mI (mI s 79 x1) 73 ((s.2.2.1 85) (Int32.toNatClampNeg x1))) 51 ((s.2.2.1 84) (Int32.toNatClampNeg x1))) 69 ((s.2.2.1 81) (Int32.toNatClampNeg x1))) 64 ((s.1 64) + 1)) 66 0) 67 (-1)) 62 ((s.1 62) + 300))) (fun s1 => mf_312_144 N x1 s1)) else none) else none) else none) else none
theorem mr_312_64 {X : Nat → Option zz_C} {h : zz_H} (hh : 111 ≤ h.length) {d : Nat} {N : Nat} {Q : Option Value → zz_H → Prop} {x1 : Int32} {y0 : Int32} {s s' : mS} {v : Option Value} (hf : mf_312_64 N x1 y0 s = some (s', v)) (k : Q v (mH h s')) : zz_E zp_P zt_tf zt_fd X (d + 1) zm_312 64 [(0, .ref 61), (1, .int x1)] [.int y0] (mH h s) Q := by
  unfold mf_312_64 at hf
  obtain ⟨q0, hf⟩ := mo_if hf
  obtain ⟨q1, hf⟩ := mo_if hf
  obtain ⟨q2, hf⟩ := mo_if hf
  obtain ⟨q3, hf⟩ := mo_if hf
  obtain ⟨s1, e, hf⟩ := mo_bv_ok hf
  exact mb_312_64 (d := d + 0) hh q0 q1 q2 q3 (mr_307 (d := d + 0) hh e (mr_312_144 hh hf k))
def mf_312_60 (N : Nat) (x1 : Int32) (s : mS) : mO := mf_312_64 N x1 (s.1 66) s
theorem mr_312_60 {X : Nat → Option zz_C} {h : zz_H} (hh : 111 ≤ h.length) {d : Nat} {N : Nat} {Q : Option Value → zz_H → Prop} {x1 : Int32} {s s' : mS} {v : Option Value} (hf : mf_312_60 N x1 s = some (s', v)) (k : Q v (mH h s')) : zz_E zp_P zt_tf zt_fd X (d + 1) zm_312 60 [(0, .ref 61), (1, .int x1)] [] (mH h s) Q := by
  unfold mf_312_60 at hf
  exact mb_312_60 hh  (mr_312_64 hh hf k)
def mf_312_53 (N : Nat) (x1 : Int32) (s : mS) : mO := mf_312_64 N x1 (s.1 65) s
theorem mr_312_53 {X : Nat → Option zz_C} {h : zz_H} (hh : 111 ≤ h.length) {d : Nat} {N : Nat} {Q : Option Value → zz_H → Prop} {x1 : Int32} {s s' : mS} {v : Option Value} (hf : mf_312_53 N x1 s = some (s', v)) (k : Q v (mH h s')) : zz_E zp_P zt_tf zt_fd X (d + 1) zm_312 53 [(0, .ref 61), (1, .int x1)] [] (mH h s) Q := by
  unfold mf_312_53 at hf
  exact mb_312_53 hh  (mr_312_64 hh hf k)
def mf_312_44 (N : Nat) (x1 : Int32) (s : mS) : mO := if ¬ (s.1 66) = 9 then mf_312_60 N x1 s else mf_312_53 N x1 s
theorem mr_312_44 {X : Nat → Option zz_C} {h : zz_H} (hh : 111 ≤ h.length) {d : Nat} {N : Nat} {Q : Option Value → zz_H → Prop} {x1 : Int32} {s s' : mS} {v : Option Value} (hf : mf_312_44 N x1 s = some (s', v)) (k : Q v (mH h s')) : zz_E zp_P zt_tf zt_fd X (d + 1) zm_312 44 [(0, .ref 61), (1, .int x1)] [] (mH h s) Q := by
  unfold mf_312_44 at hf
  refine mb_312_44 hh  (fun c => ?_) (fun c => ?_)
  · rw [if_pos c] at hf
    exact mr_312_60 hh hf k
  · rw [if_neg c] at hf
    exact mr_312_53 hh hf k
def mf_312_42 (N : Nat)  (s : mS) : mO := some (s, (some (.int 0)))
theorem mr_312_42 {X : Nat → Option zz_C} {h : zz_H} (hh : 111 ≤ h.length) {d : Nat} {N : Nat} {Q : Option Value → zz_H → Prop}  {s s' : mS} {v : Option Value} (hf : mf_312_42 N  s = some (s', v)) (k : Q v (mH h s')) : zz_E zp_P zt_tf zt_fd X (d + 1) zm_312 42 [] [] (mH h s) Q := by
  unfold mf_312_42 at hf
  cases hf
  exact mb_312_42 hh  k
def mf_312_38 (N : Nat) (x1 : Int32) (s : mS) : mO := if 0 ≤ x1 then mf_312_44 N x1 s else mf_312_42 N  s
theorem mr_312_38 {X : Nat → Option zz_C} {h : zz_H} (hh : 111 ≤ h.length) {d : Nat} {N : Nat} {Q : Option Value → zz_H → Prop} {x1 : Int32} {s s' : mS} {v : Option Value} (hf : mf_312_38 N x1 s = some (s', v)) (k : Q v (mH h s')) : zz_E zp_P zt_tf zt_fd X (d + 1) zm_312 38 [(0, .ref 61), (1, .int x1)] [] (mH h s) Q := by
  unfold mf_312_38 at hf
  refine mb_312_38 hh  (fun c => ?_) (fun c => ?_)
  · rw [if_pos c] at hf
    exact mr_312_44 hh hf k
  · rw [if_neg c] at hf
    exact mr_312_42 hh hf k
def mf_312_32 (N : Nat) (rc : Nat → Int32 → mS → mO) (x1 : Int32) (s : mS) : mO := rc 0 (x1 + (-1)) s
theorem mr_312_32 {X : Nat → Option zz_C} {h : zz_H} (hh : 111 ≤ h.length) {d : Nat} {N : Nat} {rc : Nat → Int32 → mS → mO} (hrc0 : ∀ {Q : Option Value → zz_H → Prop} {x1 : Int32} {s s' : mS} {v : Option Value}, rc 0 x1 s = some (s', v) → Q v (mH h s') → zz_E zp_P zt_tf zt_fd X (d + 1) zm_312 18 [(0, .ref 61), (1, .int x1)] [] (mH h s) Q) {Q : Option Value → zz_H → Prop} {x1 : Int32} {s s' : mS} {v : Option Value} (hf : mf_312_32 N rc x1 s = some (s', v)) (k : Q v (mH h s')) : zz_E zp_P zt_tf zt_fd X (d + 1) zm_312 32 [(0, .ref 61), (1, .int x1)] [] (mH h s) Q := by
  unfold mf_312_32 at hf
  exact mb_312_32 hh  (hrc0 hf k)
def mf_312_22 (N : Nat) (rc : Nat → Int32 → mS → mO) (x1 : Int32) (s : mS) : mO := if ¬ (x1 < 0 ∨ 400 ≤ Int32.toNatClampNeg x1) then (if ((s.2.2.1 80) (Int32.toNatClampNeg x1)) = 2 then mf_312_38 N x1 s else mf_312_32 N rc x1 s) else none
theorem mr_312_22 {X : Nat → Option zz_C} {h : zz_H} (hh : 111 ≤ h.length) {d : Nat} {N : Nat} {rc : Nat → Int32 → mS → mO} (hrc0 : ∀ {Q : Option Value → zz_H → Prop} {x1 : Int32} {s s' : mS} {v : Option Value}, rc 0 x1 s = some (s', v) → Q v (mH h s') → zz_E zp_P zt_tf zt_fd X (d + 1) zm_312 18 [(0, .ref 61), (1, .int x1)] [] (mH h s) Q) {Q : Option Value → zz_H → Prop} {x1 : Int32} {s s' : mS} {v : Option Value} (hf : mf_312_22 N rc x1 s = some (s', v)) (k : Q v (mH h s')) : zz_E zp_P zt_tf zt_fd X (d + 1) zm_312 22 [(0, .ref 61), (1, .int x1)] [] (mH h s) Q := by
  unfold mf_312_22 at hf
  obtain ⟨q0, hf⟩ := mo_if hf
  refine mb_312_22 hh q0 (fun c => ?_) (fun c => ?_)
  · rw [if_pos c] at hf
    exact mr_312_38 hh hf k
  · rw [if_neg c] at hf
    exact mr_312_32 hh hrc0 hf k
def mf_312_18 (N : Nat) (rc : Nat → Int32 → mS → mO) (x1 : Int32) (s : mS) : mO := if x1 < 0 then mf_312_38 N x1 s else mf_312_22 N rc x1 s
theorem mr_312_18 {X : Nat → Option zz_C} {h : zz_H} (hh : 111 ≤ h.length) {d : Nat} {N : Nat} {rc : Nat → Int32 → mS → mO} (hrc0 : ∀ {Q : Option Value → zz_H → Prop} {x1 : Int32} {s s' : mS} {v : Option Value}, rc 0 x1 s = some (s', v) → Q v (mH h s') → zz_E zp_P zt_tf zt_fd X (d + 1) zm_312 18 [(0, .ref 61), (1, .int x1)] [] (mH h s) Q) {Q : Option Value → zz_H → Prop} {x1 : Int32} {s s' : mS} {v : Option Value} (hf : mf_312_18 N rc x1 s = some (s', v)) (k : Q v (mH h s')) : zz_E zp_P zt_tf zt_fd X (d + 1) zm_312 18 [(0, .ref 61), (1, .int x1)] [] (mH h s) Q := by
  unfold mf_312_18 at hf
  refine mb_312_18 hh  (fun c => ?_) (fun c => ?_)
  · rw [if_pos c] at hf
    exact mr_312_38 hh hf k
  · rw [if_neg c] at hf
    exact mr_312_22 hh hrc0 hf k
def mf_312_L12 (N : Nat) : Nat → Nat → Int32 → mS → mO
  | 0, _, _, _ => none
  | n + 1, l, x1, s => if l = 0 then mf_312_18 N (mf_312_L12 N n) x1 s else none
theorem mr_312_L12 {X : Nat → Option zz_C} {h : zz_H} (hh : 111 ≤ h.length) {d : Nat} {N : Nat} : ∀ n : Nat, (∀ {Q : Option Value → zz_H → Prop} {x1 : Int32} {s s' : mS} {v : Option Value}, mf_312_L12 N n 0 x1 s = some (s', v) → Q v (mH h s') → zz_E zp_P zt_tf zt_fd X (d + 1) zm_312 18 [(0, .ref 61), (1, .int x1)] [] (mH h s) Q) := by
  intro n
  induction n with
  | zero => exact (fun hf _ => by cases hf)
  | succ n ih =>
    have h0 := @ih
    intro Q _ s s' v hf k
    unfold mf_312_L12 at hf
    rw [if_pos rfl] at hf
    exact mr_312_18 hh h0 hf k
def mf_312_11 (N : Nat)  (s : mS) : mO := mf_312_L12 N N 0 ((s.1 79) - 1) s
theorem mr_312_11 {X : Nat → Option zz_C} {h : zz_H} (hh : 111 ≤ h.length) {d : Nat} {N : Nat} {Q : Option Value → zz_H → Prop}  {s s' : mS} {v : Option Value} (hf : mf_312_11 N  s = some (s', v)) (k : Q v (mH h s')) : zz_E zp_P zt_tf zt_fd X (d + 1) zm_312 11 [(0, .ref 61)] [] (mH h s) Q := by
  unfold mf_312_11 at hf
  exact mb_312_11 hh  (mr_312_L12 hh N hf k)
def mf_312_9 (N : Nat)  (s : mS) : mO := some (s, (some (.int 0)))
theorem mr_312_9 {X : Nat → Option zz_C} {h : zz_H} (hh : 111 ≤ h.length) {d : Nat} {N : Nat} {Q : Option Value → zz_H → Prop}  {s s' : mS} {v : Option Value} (hf : mf_312_9 N  s = some (s', v)) (k : Q v (mH h s')) : zz_E zp_P zt_tf zt_fd X (d + 1) zm_312 9 [] [] (mH h s) Q := by
  unfold mf_312_9 at hf
  cases hf
  exact mb_312_9 hh  k
def mf_312_0 (N : Nat)  (s : mS) : mO := if (s.1 66) ≤ 9 then mf_312_11 N  s else mf_312_9 N  s
theorem mr_312_0 {X : Nat → Option zz_C} {h : zz_H} (hh : 111 ≤ h.length) {d : Nat} {N : Nat} {Q : Option Value → zz_H → Prop}  {s s' : mS} {v : Option Value} (hf : mf_312_0 N  s = some (s', v)) (k : Q v (mH h s')) : zz_E zp_P zt_tf zt_fd X (d + 1) zm_312 0 [(0, .ref 61)] [] (mH h s) Q := by
  unfold mf_312_0 at hf
  refine mb_312_0 hh  (fun c => ?_) (fun c => ?_)
  · rw [if_pos c] at hf
    exact mr_312_11 hh hf k
  · rw [if_neg c] at hf
    exact mr_312_9 hh hf k
/-- isTaken -/
def mf_312 (N : Nat)  (s : mS) : mO := mf_312_0 N  s
theorem mr_312 {X : Nat → Option zz_C} {h : zz_H} (hh : 111 ≤ h.length) {d : Nat} {N : Nat} {Q : Option Value → zz_H → Prop}  {s s' : mS} {v : Option Value} (hf : mf_312 N  s = some (s', v)) (k : Q v (mH h s')) : zz_E zp_P zt_tf zt_fd X (d + 1) zm_312 0 [(0, .ref 61)] [] (mH h s) Q := by
  unfold mf_312 at hf
  exact zz_E.weak (mr_312_0 hh hf k) rfl ⟨rfl, trivial⟩
/-! push (II)V -/
theorem mb_291_0 {X : Nat → Option zz_C} {h : zz_H} (hh : 111 ≤ h.length) {s : mS} {d : Nat} {Q : Option Value → zz_H → Prop} {x1 : Int32} {x2 : Int32} (i9 : ¬ ((s.1 51) < 0 ∨ 9000 ≤ Int32.toNatClampNeg (s.1 51))) (i19 : ¬ ((s.1 51) < 0 ∨ 9000 ≤ Int32.toNatClampNeg (s.1 51))) (k : Q none (mH h (mI (mA (mA s 49 (upd (s.2.2.1 49) (Int32.toNatClampNeg (s.1 51)) x1)) 50 (upd (s.2.2.1 50) (Int32.toNatClampNeg (s.1 51)) x2)) 51 ((s.1 51) + 1)))) : zz_E zp_P zt_tf zt_fd X d zm_291 0 [(0, .ref 61), (1, .int x1), (2, .int x2)] [] (mH h s) Q := by
  refine zz_E.n 1 rfl rfl rfl ?_
  refine mE_g hh 4 (v := .ref 90) rfl rfl rfl ?_
  refine zz_E.n 5 rfl rfl rfl ?_
  refine mE_g hh 8 (v := .int (s.1 51)) rfl rfl rfl ?_
  refine zz_E.n 9 rfl rfl rfl ?_
  refine mE_is hh 10 29 (f := (s.2.2.1 49)) rfl (by decide) rfl rfl i9 (mA_90 _ _) rfl ?_
  refine zz_E.n 11 rfl rfl rfl ?_
  refine mE_g hh 14 (v := .ref 91) rfl rfl rfl ?_
  refine zz_E.n 15 rfl rfl rfl ?_
  refine mE_g hh 18 (v := .int (s.1 51)) rfl rfl rfl ?_
  refine zz_E.n 19 rfl rfl rfl ?_
  refine mE_is hh 20 30 (f := (s.2.2.1 50)) rfl (by decide) rfl rfl i19 (mA_91 _ _) rfl ?_
  refine zz_E.n 21 rfl rfl rfl ?_
  refine zz_E.n 22 rfl rfl rfl ?_
  refine mE_g hh 25 (v := .int (s.1 51)) rfl rfl rfl ?_
  refine zz_E.c 26 (.int 1) rfl rfl rfl rfl ?_
  refine zz_E.n 27 rfl rfl rfl ?_
  refine mE_p hh 30 rfl (by decide) rfl (mF_51 _ _) rfl ?_
  refine zz_E.ret rfl rfl rfl ?_
  exact k
def mf_291_0 (N : Nat) (x1 : Int32) (x2 : Int32) (s : mS) : mO := if ¬ ((s.1 51) < 0 ∨ 9000 ≤ Int32.toNatClampNeg (s.1 51)) then (if ¬ ((s.1 51) < 0 ∨ 9000 ≤ Int32.toNatClampNeg (s.1 51)) then (some ((mI (mA (mA s 49 (upd (s.2.2.1 49) (Int32.toNatClampNeg (s.1 51)) x1)) 50 (upd (s.2.2.1 50) (Int32.toNatClampNeg (s.1 51)) x2)) 51 ((s.1 51) + 1)), none)) else none) else none
theorem mr_291_0 {X : Nat → Option zz_C} {h : zz_H} (hh : 111 ≤ h.length) {d : Nat} {N : Nat} {Q : Option Value → zz_H → Prop} {x1 : Int32} {x2 : Int32} {s s' : mS} {v : Option Value} (hf : mf_291_0 N x1 x2 s = some (s', v)) (k : Q v (mH h s')) : zz_E zp_P zt_tf zt_fd X (d + 0) zm_291 0 [(0, .ref 61), (1, .int x1), (2, .int x2)] [] (mH h s) Q := by
  unfold mf_291_0 at hf
  obtain ⟨q0, hf⟩ := mo_if hf
  obtain ⟨q1, hf⟩ := mo_if hf
  cases hf
  exact mb_291_0 hh q0 q1 k
/-- push -/
def mf_291 (N : Nat) (x1 : Int32) (x2 : Int32) (s : mS) : mO := mf_291_0 N x1 x2 s
theorem mr_291 {X : Nat → Option zz_C} {h : zz_H} (hh : 111 ≤ h.length) {d : Nat} {N : Nat} {Q : Option Value → zz_H → Prop} {x1 : Int32} {x2 : Int32} {s s' : mS} {v : Option Value} (hf : mf_291 N x1 x2 s = some (s', v)) (k : Q v (mH h s')) : zz_E zp_P zt_tf zt_fd X (d + 0) zm_291 0 [(0, .ref 61), (1, .int x1), (2, .int x2)] [] (mH h s) Q := by
  unfold mf_291 at hf
  exact zz_E.weak (mr_291_0 hh hf k) rfl ⟨rfl, rfl, rfl, trivial⟩
/-! step ()V -/
theorem mb_302_0 {X : Nat → Option zz_C} {h : zz_H} (hh : 111 ≤ h.length) {s : mS} {d : Nat} {Q : Option Value → zz_H → Prop}  (k1 : ¬ (s.1 60) = (s.1 61) → zz_E zp_P zt_tf zt_fd X d zm_302 24 [(0, .ref 61)] [] (mH h s) Q) (k2 : ¬ ¬ (s.1 60) = (s.1 61) → zz_E zp_P zt_tf zt_fd X d zm_302 11 [(0, .ref 61)] [] (mH h s) Q) : zz_E zp_P zt_tf zt_fd X d zm_302 0 [(0, .ref 61)] [] (mH h s) Q := by
  refine zz_E.n 1 rfl rfl rfl ?_
  refine mE_g hh 4 (v := .int (s.1 60)) rfl rfl rfl ?_
  refine zz_E.n 5 rfl rfl rfl ?_
  refine mE_g hh 8 (v := .int (s.1 61)) rfl rfl rfl ?_
  refine zz_E.b2 24 11 (A := ¬ (s.1 60) = (s.1 61)) rfl (zz_cond_ne _ _) (by decide) rfl rfl (fun c => ?_) (fun c => ?_)
  · exact zz_E.weak (k1 c) rfl ⟨rfl, trivial⟩
  · exact zz_E.weak (k2 c) rfl ⟨rfl, trivial⟩
theorem mb_302_11 {X : Nat → Option zz_C} {h : zz_H} (hh : 111 ≤ h.length) {s : mS} {d : Nat} {Q : Option Value → zz_H → Prop}  (k : zz_E zp_P zt_tf zt_fd X d zm_301 0 [(0, .ref 61), (1, .int 10), (2, .int (s.1 70))] [] (mH h s) (fun v h' => zz_E zp_P zt_tf zt_fd X (d + 1) zm_302 21 [] (v.toList ++ []) h' Q)) : zz_E zp_P zt_tf zt_fd X (d + 1) zm_302 11 [(0, .ref 61)] [] (mH h s) Q := by
  refine zz_E.n 12 rfl rfl rfl ?_
  refine zz_E.c 14 (.int 10) rfl rfl rfl rfl ?_
  refine zz_E.n 15 rfl rfl rfl ?_
  refine mE_g hh 18 (v := .int (s.1 70)) rfl rfl rfl ?_
  refine mE_cv hh 21 (as := []) rfl rfl (Nat.le_of_ble_eq_true rfl) (Nat.le_of_ble_eq_true rfl) rfl (Nat.le_of_ble_eq_true rfl) rfl ?_
  refine zz_E.mono k ?_
  intro v h' hE
  exact zz_E.weak hE rfl trivial
theorem mb_302_21 {X : Nat → Option zz_C} {h : zz_H} (hh : 111 ≤ h.length) {s : mS} {d : Nat} {Q : Option Value → zz_H → Prop}  (k : zz_E zp_P zt_tf zt_fd X d zm_302 34 [] [] (mH h s) Q) : zz_E zp_P zt_tf zt_fd X d zm_302 21 [] [] (mH h s) Q := by
  refine zz_E.n 34 rfl rfl rfl ?_
  exact zz_E.weak k rfl trivial
theorem mb_302_24 {X : Nat → Option zz_C} {h : zz_H} (hh : 111 ≤ h.length) {s : mS} {d : Nat} {Q : Option Value → zz_H → Prop}  (k : zz_E zp_P zt_tf zt_fd X d zm_302 34 [] [] (mH h (mI s 60 ((s.1 60) + 1))) Q) : zz_E zp_P zt_tf zt_fd X d zm_302 24 [(0, .ref 61)] [] (mH h s) Q := by
  refine zz_E.n 25 rfl rfl rfl ?_
  refine zz_E.n 26 rfl rfl rfl ?_
  refine mE_g hh 29 (v := .int (s.1 60)) rfl rfl rfl ?_
  refine zz_E.c 30 (.int 1) rfl rfl rfl rfl ?_
  refine zz_E.n 31 rfl rfl rfl ?_
  refine mE_p hh 34 rfl (by decide) rfl (mF_60 _ _) rfl ?_
  exact zz_E.weak k rfl trivial
theorem mb_302_34 {X : Nat → Option zz_C} {h : zz_H} (hh : 111 ≤ h.length) {s : mS} {d : Nat} {Q : Option Value → zz_H → Prop}  (k : Q none (mH h s)) : zz_E zp_P zt_tf zt_fd X d zm_302 34 [] [] (mH h s) Q := by
  refine zz_E.ret rfl rfl rfl ?_
  exact k
def mf_302_34 (N : Nat)  (s : mS) : mO := some (s, none)
theorem mr_302_34 {X : Nat → Option zz_C} {h : zz_H} (hh : 111 ≤ h.length) {d : Nat} {N : Nat} {Q : Option Value → zz_H → Prop}  {s s' : mS} {v : Option Value} (hf : mf_302_34 N  s = some (s', v)) (k : Q v (mH h s')) : zz_E zp_P zt_tf zt_fd X (d + 1) zm_302 34 [] [] (mH h s) Q := by
  unfold mf_302_34 at hf
  cases hf
  exact mb_302_34 hh  k
def mf_302_24 (N : Nat)  (s : mS) : mO := mf_302_34 N  (mI s 60 ((s.1 60) + 1))
theorem mr_302_24 {X : Nat → Option zz_C} {h : zz_H} (hh : 111 ≤ h.length) {d : Nat} {N : Nat} {Q : Option Value → zz_H → Prop}  {s s' : mS} {v : Option Value} (hf : mf_302_24 N  s = some (s', v)) (k : Q v (mH h s')) : zz_E zp_P zt_tf zt_fd X (d + 1) zm_302 24 [(0, .ref 61)] [] (mH h s) Q := by
  unfold mf_302_24 at hf
  exact mb_302_24 hh  (mr_302_34 hh hf k)
def mf_302_21 (N : Nat)  (s : mS) : mO := mf_302_34 N  s
theorem mr_302_21 {X : Nat → Option zz_C} {h : zz_H} (hh : 111 ≤ h.length) {d : Nat} {N : Nat} {Q : Option Value → zz_H → Prop}  {s s' : mS} {v : Option Value} (hf : mf_302_21 N  s = some (s', v)) (k : Q v (mH h s')) : zz_E zp_P zt_tf zt_fd X (d + 1) zm_302 21 [] [] (mH h s) Q := by
  unfold mf_302_21 at hf
  exact mb_302_21 hh  (mr_302_34 hh hf k)
def mf_302_11 (N : Nat)  (s : mS) : mO := mo_bv (mf_301 N 10 (s.1 70) s) (fun s1 => mf_302_21 N  s1)
theorem mr_302_11 {X : Nat → Option zz_C} {h : zz_H} (hh : 111 ≤ h.length) {d : Nat} {N : Nat} {Q : Option Value → zz_H → Prop}  {s s' : mS} {v : Option Value} (hf : mf_302_11 N  s = some (s', v)) (k : Q v (mH h s')) : zz_E zp_P zt_tf zt_fd X (d + 1) zm_302 11 [(0, .ref 61)] [] (mH h s) Q := by
  unfold mf_302_11 at hf
  obtain ⟨s1, e, hf⟩ := mo_bv_ok hf
  exact mb_302_11 (d := d + 0) hh  (mr_301 (d := d + 0) hh e (mr_302_21 hh hf k))
def mf_302_0 (N : Nat)  (s : mS) : mO := if ¬ (s.1 60) = (s.1 61) then mf_302_24 N  s else mf_302_11 N  s
theorem mr_302_0 {X : Nat → Option zz_C} {h : zz_H} (hh : 111 ≤ h.length) {d : Nat} {N : Nat} {Q : Option Value → zz_H → Prop}  {s s' : mS} {v : Option Value} (hf : mf_302_0 N  s = some (s', v)) (k : Q v (mH h s')) : zz_E zp_P zt_tf zt_fd X (d + 1) zm_302 0 [(0, .ref 61)] [] (mH h s) Q := by
  unfold mf_302_0 at hf
  refine mb_302_0 hh  (fun c => ?_) (fun c => ?_)
  · rw [if_pos c] at hf
    exact mr_302_24 hh hf k
  · rw [if_neg c] at hf
    exact mr_302_11 hh hf k
/-- step -/
def mf_302 (N : Nat)  (s : mS) : mO := mf_302_0 N  s
theorem mr_302 {X : Nat → Option zz_C} {h : zz_H} (hh : 111 ≤ h.length) {d : Nat} {N : Nat} {Q : Option Value → zz_H → Prop}  {s s' : mS} {v : Option Value} (hf : mf_302 N  s = some (s', v)) (k : Q v (mH h s')) : zz_E zp_P zt_tf zt_fd X (d + 1) zm_302 0 [(0, .ref 61)] [] (mH h s) Q := by
  unfold mf_302 at hf
  exact zz_E.weak (mr_302_0 hh hf k) rfl ⟨rfl, trivial⟩
/-! kindOf (I)I -/
theorem mb_308_0 {X : Nat → Option zz_C} {h : zz_H} (hh : 111 ≤ h.length) {s : mS} {d : Nat} {Q : Option Value → zz_H → Prop} {x1 : Int32} (k1 : 8 ≤ x1 → zz_E zp_P zt_tf zt_fd X d zm_308 15 [(0, .ref 61), (1, .int x1)] [] (mH h s) Q) (k2 : ¬ 8 ≤ x1 → zz_E zp_P zt_tf zt_fd X d zm_308 6 [(0, .ref 61), (1, .int x1)] [] (mH h s) Q) : zz_E zp_P zt_tf zt_fd X d zm_308 0 [(0, .ref 61), (1, .int x1)] [] (mH h s) Q := by
  refine zz_E.n 1 rfl rfl rfl ?_
  refine zz_E.c 3 (.int 8) rfl rfl rfl rfl ?_
  refine zz_E.b2 15 6 (A := 8 ≤ x1) rfl rfl (by decide) rfl rfl (fun c => ?_) (fun c => ?_)
  · exact zz_E.weak (k1 c) rfl ⟨rfl, rfl, trivial⟩
  · exact zz_E.weak (k2 c) rfl ⟨rfl, rfl, trivial⟩
theorem mb_308_6 {X : Nat → Option zz_C} {h : zz_H} (hh : 111 ≤ h.length) {s : mS} {d : Nat} {Q : Option Value → zz_H → Prop} {x1 : Int32} (i11 : ¬ (x1 < 0 ∨ 8 ≤ Int32.toNatClampNeg x1)) (k : zz_E zp_P zt_tf zt_fd X d zm_308 34 [] [.int ((s.2.2.1 71) (Int32.toNatClampNeg x1))] (mH h s) Q) : zz_E zp_P zt_tf zt_fd X d zm_308 6 [(0, .ref 61), (1, .int x1)] [] (mH h s) Q := by
  refine zz_E.n 7 rfl rfl rfl ?_
  refine mE_g hh 10 (v := .ref 97) rfl rfl rfl ?_
  refine zz_E.n 11 rfl rfl rfl ?_
  refine mE_ia hh 12 36 (f := (s.2.2.1 71)) rfl (by decide) rfl rfl i11 rfl ?_
  refine zz_E.n 34 rfl rfl rfl ?_
  exact zz_E.weak k rfl trivial
theorem mb_308_15 {X : Nat → Option zz_C} {h : zz_H} (hh : 111 ≤ h.length) {s : mS} {d : Nat} {Q : Option Value → zz_H → Prop} {x1 : Int32} (i33 : ¬ ((((14 * ((s.1 73) - 1)) + x1) - 8) < 0 ∨ 140 ≤ Int32.toNatClampNeg (((14 * ((s.1 73) - 1)) + x1) - 8))) (k : zz_E zp_P zt_tf zt_fd X d zm_308 34 [] [.int ((s.2.2.1 77) (Int32.toNatClampNeg (((14 * ((s.1 73) - 1)) + x1) - 8)))] (mH h s) Q) : zz_E zp_P zt_tf zt_fd X d zm_308 15 [(0, .ref 61), (1, .int x1)] [] (mH h s) Q := by
  refine zz_E.n 16 rfl rfl rfl ?_
  refine mE_g hh 19 (v := .ref 102) rfl rfl rfl ?_
  refine zz_E.c 21 (.int 14) rfl rfl rfl rfl ?_
  refine zz_E.n 22 rfl rfl rfl ?_
  refine mE_g hh 25 (v := .int (s.1 73)) rfl rfl rfl ?_
  refine zz_E.c 26 (.int 1) rfl rfl rfl rfl ?_
  refine zz_E.n 27 rfl rfl rfl ?_
  refine zz_E.n 28 rfl rfl rfl ?_
  refine zz_E.n 29 rfl rfl rfl ?_
  refine zz_E.n 30 rfl rfl rfl ?_
  refine zz_E.c 32 (.int 8) rfl rfl rfl rfl ?_
  refine zz_E.n 33 rfl rfl rfl ?_
  refine mE_ia hh 34 41 (f := (s.2.2.1 77)) rfl (by decide) rfl rfl i33 rfl ?_
  exact zz_E.weak k rfl trivial
theorem mb_308_34 {X : Nat → Option zz_C} {h : zz_H} (hh : 111 ≤ h.length) {s : mS} {d : Nat} {Q : Option Value → zz_H → Prop} {y0 : Int32} (k : Q (some (.int y0)) (mH h s)) : zz_E zp_P zt_tf zt_fd X d zm_308 34 [] [.int y0] (mH h s) Q := by
  refine zz_E.ret rfl rfl rfl ?_
  exact k
def mf_308_34 (N : Nat) (y0 : Int32) (s : mS) : mO := some (s, (some (.int y0)))
theorem mr_308_34 {X : Nat → Option zz_C} {h : zz_H} (hh : 111 ≤ h.length) {d : Nat} {N : Nat} {Q : Option Value → zz_H → Prop} {y0 : Int32} {s s' : mS} {v : Option Value} (hf : mf_308_34 N y0 s = some (s', v)) (k : Q v (mH h s')) : zz_E zp_P zt_tf zt_fd X (d + 0) zm_308 34 [] [.int y0] (mH h s) Q := by
  unfold mf_308_34 at hf
  cases hf
  exact mb_308_34 hh  k
def mf_308_15 (N : Nat) (x1 : Int32) (s : mS) : mO := if ¬ ((((14 * ((s.1 73) - 1)) + x1) - 8) < 0 ∨ 140 ≤ Int32.toNatClampNeg (((14 * ((s.1 73) - 1)) + x1) - 8)) then (mf_308_34 N ((s.2.2.1 77) (Int32.toNatClampNeg (((14 * ((s.1 73) - 1)) + x1) - 8))) s) else none
theorem mr_308_15 {X : Nat → Option zz_C} {h : zz_H} (hh : 111 ≤ h.length) {d : Nat} {N : Nat} {Q : Option Value → zz_H → Prop} {x1 : Int32} {s s' : mS} {v : Option Value} (hf : mf_308_15 N x1 s = some (s', v)) (k : Q v (mH h s')) : zz_E zp_P zt_tf zt_fd X (d + 0) zm_308 15 [(0, .ref 61), (1, .int x1)] [] (mH h s) Q := by
  unfold mf_308_15 at hf
  obtain ⟨q0, hf⟩ := mo_if hf
  exact mb_308_15 hh q0 (mr_308_34 hh hf k)
def mf_308_6 (N : Nat) (x1 : Int32) (s : mS) : mO := if ¬ (x1 < 0 ∨ 8 ≤ Int32.toNatClampNeg x1) then (mf_308_34 N ((s.2.2.1 71) (Int32.toNatClampNeg x1)) s) else none
theorem mr_308_6 {X : Nat → Option zz_C} {h : zz_H} (hh : 111 ≤ h.length) {d : Nat} {N : Nat} {Q : Option Value → zz_H → Prop} {x1 : Int32} {s s' : mS} {v : Option Value} (hf : mf_308_6 N x1 s = some (s', v)) (k : Q v (mH h s')) : zz_E zp_P zt_tf zt_fd X (d + 0) zm_308 6 [(0, .ref 61), (1, .int x1)] [] (mH h s) Q := by
  unfold mf_308_6 at hf
  obtain ⟨q0, hf⟩ := mo_if hf
  exact mb_308_6 hh q0 (mr_308_34 hh hf k)
def mf_308_0 (N : Nat) (x1 : Int32) (s : mS) : mO := if 8 ≤ x1 then mf_308_15 N x1 s else mf_308_6 N x1 s
theorem mr_308_0 {X : Nat → Option zz_C} {h : zz_H} (hh : 111 ≤ h.length) {d : Nat} {N : Nat} {Q : Option Value → zz_H → Prop} {x1 : Int32} {s s' : mS} {v : Option Value} (hf : mf_308_0 N x1 s = some (s', v)) (k : Q v (mH h s')) : zz_E zp_P zt_tf zt_fd X (d + 0) zm_308 0 [(0, .ref 61), (1, .int x1)] [] (mH h s) Q := by
  unfold mf_308_0 at hf
  refine mb_308_0 hh  (fun c => ?_) (fun c => ?_)
  · rw [if_pos c] at hf
    exact mr_308_15 hh hf k
  · rw [if_neg c] at hf
    exact mr_308_6 hh hf k
/-- kindOf -/
def mf_308 (N : Nat) (x1 : Int32) (s : mS) : mO := mf_308_0 N x1 s
theorem mr_308 {X : Nat → Option zz_C} {h : zz_H} (hh : 111 ≤ h.length) {d : Nat} {N : Nat} {Q : Option Value → zz_H → Prop} {x1 : Int32} {s s' : mS} {v : Option Value} (hf : mf_308 N x1 s = some (s', v)) (k : Q v (mH h s')) : zz_E zp_P zt_tf zt_fd X (d + 0) zm_308 0 [(0, .ref 61), (1, .int x1)] [] (mH h s) Q := by
  unfold mf_308 at hf
  exact zz_E.weak (mr_308_0 hh hf k) rfl ⟨rfl, rfl, trivial⟩
/-! valueOf (I)I -/
theorem mb_309_0 {X : Nat → Option zz_C} {h : zz_H} (hh : 111 ≤ h.length) {s : mS} {d : Nat} {Q : Option Value → zz_H → Prop} {x1 : Int32} (k1 : 8 ≤ x1 → zz_E zp_P zt_tf zt_fd X d zm_309 15 [(0, .ref 61), (1, .int x1)] [] (mH h s) Q) (k2 : ¬ 8 ≤ x1 → zz_E zp_P zt_tf zt_fd X d zm_309 6 [(0, .ref 61), (1, .int x1)] [] (mH h s) Q) : zz_E zp_P zt_tf zt_fd X d zm_309 0 [(0, .ref 61), (1, .int x1)] [] (mH h s) Q := by
  refine zz_E.n 1 rfl rfl rfl ?_
  refine zz_E.c 3 (.int 8) rfl rfl rfl rfl ?_
  refine zz_E.b2 15 6 (A := 8 ≤ x1) rfl rfl (by decide) rfl rfl (fun c => ?_) (fun c => ?_)
  · exact zz_E.weak (k1 c) rfl ⟨rfl, rfl, trivial⟩
  · exact zz_E.weak (k2 c) rfl ⟨rfl, rfl, trivial⟩
theorem mb_309_6 {X : Nat → Option zz_C} {h : zz_H} (hh : 111 ≤ h.length) {s : mS} {d : Nat} {Q : Option Value → zz_H → Prop} {x1 : Int32} (i11 : ¬ (x1 < 0 ∨ 8 ≤ Int32.toNatClampNeg x1)) (k : zz_E zp_P zt_tf zt_fd X d zm_309 34 [] [.int ((s.2.2.1 72) (Int32.toNatClampNeg x1))] (mH h s) Q) : zz_E zp_P zt_tf zt_fd X d zm_309 6 [(0, .ref 61), (1, .int x1)] [] (mH h s) Q := by
  refine zz_E.n 7 rfl rfl rfl ?_
  refine mE_g hh 10 (v := .ref 98) rfl rfl rfl ?_
  refine zz_E.n 11 rfl rfl rfl ?_
  refine mE_ia hh 12 37 (f := (s.2.2.1 72)) rfl (by decide) rfl rfl i11 rfl ?_
  refine zz_E.n 34 rfl rfl rfl ?_
  exact zz_E.weak k rfl trivial
theorem mb_309_15 {X : Nat → Option zz_C} {h : zz_H} (hh : 111 ≤ h.length) {s : mS} {d : Nat} {Q : Option Value → zz_H → Prop} {x1 : Int32} (i33 : ¬ ((((14 * ((s.1 73) - 1)) + x1) - 8) < 0 ∨ 140 ≤ Int32.toNatClampNeg (((14 * ((s.1 73) - 1)) + x1) - 8))) (k : zz_E zp_P zt_tf zt_fd X d zm_309 34 [] [.int ((s.2.2.1 78) (Int32.toNatClampNeg (((14 * ((s.1 73) - 1)) + x1) - 8)))] (mH h s) Q) : zz_E zp_P zt_tf zt_fd X d zm_309 15 [(0, .ref 61), (1, .int x1)] [] (mH h s) Q := by
  refine zz_E.n 16 rfl rfl rfl ?_
  refine mE_g hh 19 (v := .ref 103) rfl rfl rfl ?_
  refine zz_E.c 21 (.int 14) rfl rfl rfl rfl ?_
  refine zz_E.n 22 rfl rfl rfl ?_
  refine mE_g hh 25 (v := .int (s.1 73)) rfl rfl rfl ?_
  refine zz_E.c 26 (.int 1) rfl rfl rfl rfl ?_
  refine zz_E.n 27 rfl rfl rfl ?_
  refine zz_E.n 28 rfl rfl rfl ?_
  refine zz_E.n 29 rfl rfl rfl ?_
  refine zz_E.n 30 rfl rfl rfl ?_
  refine zz_E.c 32 (.int 8) rfl rfl rfl rfl ?_
  refine zz_E.n 33 rfl rfl rfl ?_
  refine mE_ia hh 34 42 (f := (s.2.2.1 78)) rfl (by decide) rfl rfl i33 rfl ?_
  exact zz_E.weak k rfl trivial
theorem mb_309_34 {X : Nat → Option zz_C} {h : zz_H} (hh : 111 ≤ h.length) {s : mS} {d : Nat} {Q : Option Value → zz_H → Prop} {y0 : Int32} (k : Q (some (.int y0)) (mH h s)) : zz_E zp_P zt_tf zt_fd X d zm_309 34 [] [.int y0] (mH h s) Q := by
  refine zz_E.ret rfl rfl rfl ?_
  exact k
def mf_309_34 (N : Nat) (y0 : Int32) (s : mS) : mO := some (s, (some (.int y0)))
theorem mr_309_34 {X : Nat → Option zz_C} {h : zz_H} (hh : 111 ≤ h.length) {d : Nat} {N : Nat} {Q : Option Value → zz_H → Prop} {y0 : Int32} {s s' : mS} {v : Option Value} (hf : mf_309_34 N y0 s = some (s', v)) (k : Q v (mH h s')) : zz_E zp_P zt_tf zt_fd X (d + 0) zm_309 34 [] [.int y0] (mH h s) Q := by
  unfold mf_309_34 at hf
  cases hf
  exact mb_309_34 hh  k
def mf_309_15 (N : Nat) (x1 : Int32) (s : mS) : mO := if ¬ ((((14 * ((s.1 73) - 1)) + x1) - 8) < 0 ∨ 140 ≤ Int32.toNatClampNeg (((14 * ((s.1 73) - 1)) + x1) - 8)) then (mf_309_34 N ((s.2.2.1 78) (Int32.toNatClampNeg (((14 * ((s.1 73) - 1)) + x1) - 8))) s) else none
theorem mr_309_15 {X : Nat → Option zz_C} {h : zz_H} (hh : 111 ≤ h.length) {d : Nat} {N : Nat} {Q : Option Value → zz_H → Prop} {x1 : Int32} {s s' : mS} {v : Option Value} (hf : mf_309_15 N x1 s = some (s', v)) (k : Q v (mH h s')) : zz_E zp_P zt_tf zt_fd X (d + 0) zm_309 15 [(0, .ref 61), (1, .int x1)] [] (mH h s) Q := by
  unfold mf_309_15 at hf
  obtain ⟨q0, hf⟩ := mo_if hf
  exact mb_309_15 hh q0 (mr_309_34 hh hf k)
def mf_309_6 (N : Nat) (x1 : Int32) (s : mS) : mO := if ¬ (x1 < 0 ∨ 8 ≤ Int32.toNatClampNeg x1) then (mf_309_34 N ((s.2.2.1 72) (Int32.toNatClampNeg x1)) s) else none
theorem mr_309_6 {X : Nat → Option zz_C} {h : zz_H} (hh : 111 ≤ h.length) {d : Nat} {N : Nat} {Q : Option Value → zz_H → Prop} {x1 : Int32} {s s' : mS} {v : Option Value} (hf : mf_309_6 N x1 s = some (s', v)) (k : Q v (mH h s')) : zz_E zp_P zt_tf zt_fd X (d + 0) zm_309 6 [(0, .ref 61), (1, .int x1)] [] (mH h s) Q := by
  unfold mf_309_6 at hf
  obtain ⟨q0, hf⟩ := mo_if hf
  exact mb_309_6 hh q0 (mr_309_34 hh hf k)
def mf_309_0 (N : Nat) (x1 : Int32) (s : mS) : mO := if 8 ≤ x1 then mf_309_15 N x1 s else mf_309_6 N x1 s
theorem mr_309_0 {X : Nat → Option zz_C} {h : zz_H} (hh : 111 ≤ h.length) {d : Nat} {N : Nat} {Q : Option Value → zz_H → Prop} {x1 : Int32} {s s' : mS} {v : Option Value} (hf : mf_309_0 N x1 s = some (s', v)) (k : Q v (mH h s')) : zz_E zp_P zt_tf zt_fd X (d + 0) zm_309 0 [(0, .ref 61), (1, .int x1)] [] (mH h s) Q := by
  unfold mf_309_0 at hf
  refine mb_309_0 hh  (fun c => ?_) (fun c => ?_)
  · rw [if_pos c] at hf
    exact mr_309_15 hh hf k
  · rw [if_neg c] at hf
    exact mr_309_6 hh hf k
/-- valueOf -/
def mf_309 (N : Nat) (x1 : Int32) (s : mS) : mO := mf_309_0 N x1 s
theorem mr_309 {X : Nat → Option zz_C} {h : zz_H} (hh : 111 ≤ h.length) {d : Nat} {N : Nat} {Q : Option Value → zz_H → Prop} {x1 : Int32} {s s' : mS} {v : Option Value} (hf : mf_309 N x1 s = some (s', v)) (k : Q v (mH h s')) : zz_E zp_P zt_tf zt_fd X (d + 0) zm_309 0 [(0, .ref 61), (1, .int x1)] [] (mH h s) Q := by
  unfold mf_309 at hf
  exact zz_E.weak (mr_309_0 hh hf k) rfl ⟨rfl, rfl, trivial⟩
/-! way (IIII)V -/
theorem mb_311_0 {X : Nat → Option zz_C} {h : zz_H} (hh : 111 ≤ h.length) {s : mS} {d : Nat} {Q : Option Value → zz_H → Prop} {x1 : Int32} {x2 : Int32} {x3 : Int32} {x4 : Int32} (i9 : ¬ ((s.1 79) < 0 ∨ 400 ≤ Int32.toNatClampNeg (s.1 79))) (i19 : ¬ ((s.1 79) < 0 ∨ 400 ≤ Int32.toNatClampNeg (s.1 79))) (i29 : ¬ ((s.1 79) < 0 ∨ 400 ≤ Int32.toNatClampNeg (s.1 79))) (i39 : ¬ ((s.1 79) < 0 ∨ 400 ≤ Int32.toNatClampNeg (s.1 79))) (i50 : ¬ ((s.1 79) < 0 ∨ 400 ≤ Int32.toNatClampNeg (s.1 79))) (i63 : ¬ ((s.1 79) < 0 ∨ 400 ≤ Int32.toNatClampNeg (s.1 79))) (k : Q none (mH h (mI (mA (mA (mA (mA (mA (mA s 80 (upd (s.2.2.1 80) (Int32.toNatClampNeg (s.1 79)) x1)) 81 (upd (s.2.2.1 81) (Int32.toNatClampNeg (s.1 79)) x2)) 82 (upd (s.2.2.1 82) (Int32.toNatClampNeg (s.1 79)) 0)) 83 (upd (s.2.2.1 83) (Int32.toNatClampNeg (s.1 79)) x3)) 84 (upd (s.2.2.1 84) (Int32.toNatClampNeg (s.1 79)) x4)) 85 (upd (s.2.2.1 85) (Int32.toNatClampNeg (s.1 79)) (s.1 73))) 79 ((s.1 79) + 1)))) : zz_E zp_P zt_tf zt_fd X d zm_311 0 [(0, .ref 61), (1, .int x1), (2, .int x2), (3, .int x3), (4, .int x4)] [] (mH h s) Q := by
  refine zz_E.n 1 rfl rfl rfl ?_
  refine mE_g hh 4 (v := .ref 104) rfl rfl rfl ?_
  refine zz_E.n 5 rfl rfl rfl ?_
  refine mE_g hh 8 (v := .int (s.1 79)) rfl rfl rfl ?_
  refine zz_E.n 9 rfl rfl rfl ?_
  refine mE_is hh 10 43 (f := (s.2.2.1 80)) rfl (by decide) rfl rfl i9 (mA_104 _ _) rfl ?_
  refine zz_E.n 11 rfl rfl rfl ?_
  refine mE_g hh 14 (v := .ref 105) rfl rfl rfl ?_
  refine zz_E.n 15 rfl rfl rfl ?_
  refine mE_g hh 18 (v := .int (s.1 79)) rfl rfl rfl ?_
  refine zz_E.n 19 rfl rfl rfl ?_
  refine mE_is hh 20 44 (f := (s.2.2.1 81)) rfl (by decide) rfl rfl i19 (mA_105 _ _) rfl ?_
  refine zz_E.n 21 rfl rfl rfl ?_
  refine mE_g hh 24 (v := .ref 106) rfl rfl rfl ?_
  refine zz_E.n 25 rfl rfl rfl ?_
  refine mE_g hh 28 (v := .int (s.1 79)) rfl rfl rfl ?_
  refine zz_E.c 29 (.int 0) rfl rfl rfl rfl ?_
  refine mE_is hh 30 45 (f := (s.2.2.1 82)) rfl (by decide) rfl rfl i29 (mA_106 _ _) rfl ?_
  refine zz_E.n 31 rfl rfl rfl ?_
  refine mE_g hh 34 (v := .ref 107) rfl rfl rfl ?_
  refine zz_E.n 35 rfl rfl rfl ?_
  refine mE_g hh 38 (v := .int (s.1 79)) rfl rfl rfl ?_
  refine zz_E.n 39 rfl rfl rfl ?_
  refine mE_is hh 40 46 (f := (s.2.2.1 83)) rfl (by decide) rfl rfl i39 (mA_107 _ _) rfl ?_
  refine zz_E.n 41 rfl rfl rfl ?_
  refine mE_g hh 44 (v := .ref 108) rfl rfl rfl ?_
  refine zz_E.n 45 rfl rfl rfl ?_
  refine mE_g hh 48 (v := .int (s.1 79)) rfl rfl rfl ?_
  refine zz_E.n 50 rfl rfl rfl ?_
  refine mE_is hh 51 47 (f := (s.2.2.1 84)) rfl (by decide) rfl rfl i50 (mA_108 _ _) rfl ?_
  refine zz_E.n 52 rfl rfl rfl ?_
  refine mE_g hh 55 (v := .ref 109) rfl rfl rfl ?_
  refine zz_E.n 56 rfl rfl rfl ?_
  refine mE_g hh 59 (v := .int (s.1 79)) rfl rfl rfl ?_
  refine zz_E.n 60 rfl rfl rfl ?_
  refine mE_g hh 63 (v := .int (s.1 73)) rfl rfl rfl ?_
  refine mE_is hh 64 48 (f := (s.2.2.1 85)) rfl (by decide) rfl rfl i63 (mA_109 _ _) rfl ?_
  refine zz_E.n 65 rfl rfl rfl ?_
  refine zz_E.n 66 rfl rfl rfl ?_
  refine mE_g hh 69 (v := .int (s.1 79)) rfl rfl rfl ?_
  refine zz_E.c 70 (.int 1) rfl rfl rfl rfl ?_
  refine zz_E.n 71 rfl rfl rfl ?_
  refine mE_p hh 74 rfl (by decide) rfl (mF_79 _ _) rfl ?_
  refine zz_E.ret rfl rfl rfl ?_
  exact k
def mf_311_0 (N : Nat) (x1 : Int32) (x2 : Int32) (x3 : Int32) (x4 : Int32) (s : mS) : mO := if ¬ ((s.1 79) < 0 ∨ 400 ≤ Int32.toNatClampNeg (s.1 79)) then (if ¬ ((s.1 79) < 0 ∨ 400 ≤ Int32.toNatClampNeg (s.1 79)) then (if ¬ ((s.1 79) < 0 ∨ 400 ≤ Int32.toNatClampNeg (s.1 79)) then (if ¬ ((s.1 79) < 0 ∨ 400 ≤ Int32.toNatClampNeg (s.1 79)) then (if ¬ ((s.1 79) < 0 ∨ 400 ≤ Int32.toNatClampNeg (s.1 79)) then (if ¬ ((s.1 79) < 0 ∨ 400 ≤ Int32.toNatClampNeg (s.1 79)) then (some ((mI (mA (mA (mA (mA (mA (mA s 80 (upd (s.2.2.1 80) (Int32.toNatClampNeg (s.1 79)) x1)) 81 (upd (s.2.2.1 81) (Int32.toNatClampNeg (s.1 79)) x2)) 82 (upd (s.2.2.1 82) (Int32.toNatClampNeg (s.1 79)) 0)) 83 (upd (s.2.2.1 83) (Int32.toNatClampNeg (s.1 79)) x3)) 84 (upd (s.2.2.1 84) (Int32.toNatClampNeg (s.1 79)) x4)) 85 (upd (s.2.2.1 85) (Int32.toNatClampNeg (s.1 79)) (s.1 73))) 79 ((s.1 79) + 1)), none)) else none) else none) else none) else none) else none) else none
theorem mr_311_0 {X : Nat → Option zz_C} {h : zz_H} (hh : 111 ≤ h.length) {d : Nat} {N : Nat} {Q : Option Value → zz_H → Prop} {x1 : Int32} {x2 : Int32} {x3 : Int32} {x4 : Int32} {s s' : mS} {v : Option Value} (hf : mf_311_0 N x1 x2 x3 x4 s = some (s', v)) (k : Q v (mH h s')) : zz_E zp_P zt_tf zt_fd X (d + 0) zm_311 0 [(0, .ref 61), (1, .int x1), (2, .int x2), (3, .int x3), (4, .int x4)] [] (mH h s) Q := by
  unfold mf_311_0 at hf
  obtain ⟨q0, hf⟩ := mo_if hf
  obtain ⟨q1, hf⟩ := mo_if hf
  obtain ⟨q2, hf⟩ := mo_if hf
  obtain ⟨q3, hf⟩ := mo_if hf
  obtain ⟨q4, hf⟩ := mo_if hf
  obtain ⟨q5, hf⟩ := mo_if hf
  cases hf
  exact mb_311_0 hh q0 q1 q2 q3 q4 q5 k
/-- way -/
def mf_311 (N : Nat) (x1 : Int32) (x2 : Int32) (x3 : Int32) (x4 : Int32) (s : mS) : mO := mf_311_0 N x1 x2 x3 x4 s
theorem mr_311 {X : Nat → Option zz_C} {h : zz_H} (hh : 111 ≤ h.length) {d : Nat} {N : Nat} {Q : Option Value → zz_H → Prop} {x1 : Int32} {x2 : Int32} {x3 : Int32} {x4 : Int32} {s s' : mS} {v : Option Value} (hf : mf_311 N x1 x2 x3 x4 s = some (s', v)) (k : Q v (mH h s')) : zz_E zp_P zt_tf zt_fd X (d + 0) zm_311 0 [(0, .ref 61), (1, .int x1), (2, .int x2), (3, .int x3), (4, .int x4)] [] (mH h s) Q := by
  unfold mf_311 at hf
  exact zz_E.weak (mr_311_0 hh hf k) rfl ⟨rfl, rfl, rfl, rfl, rfl, trivial⟩
/-! says (I)V -/
theorem mb_348_0 {X : Nat → Option zz_C} {h : zz_H} (hh : 111 ≤ h.length) {s : mS} {d : Nat} {Q : Option Value → zz_H → Prop} {x1 : Int32} (k1 : 600 ≤ (s.1 87) → zz_E zp_P zt_tf zt_fd X d zm_348 21 [(0, .ref 61)] [] (mH h s) Q) (k2 : ¬ 600 ≤ (s.1 87) → zz_E zp_P zt_tf zt_fd X d zm_348 10 [(0, .ref 61), (1, .int x1)] [] (mH h s) Q) : zz_E zp_P zt_tf zt_fd X d zm_348 0 [(0, .ref 61), (1, .int x1)] [] (mH h s) Q := by
  refine zz_E.n 1 rfl rfl rfl ?_
  refine mE_g hh 4 (v := .int (s.1 87)) rfl rfl rfl ?_
  refine zz_E.c 7 (.int 600) rfl rfl rfl rfl ?_
  refine zz_E.b2 21 10 (A := 600 ≤ (s.1 87)) rfl rfl (by decide) rfl rfl (fun c => ?_) (fun c => ?_)
  · exact zz_E.weak (k1 c) rfl ⟨rfl, trivial⟩
  · exact zz_E.weak (k2 c) rfl ⟨rfl, rfl, trivial⟩
theorem mb_348_10 {X : Nat → Option zz_C} {h : zz_H} (hh : 111 ≤ h.length) {s : mS} {d : Nat} {Q : Option Value → zz_H → Prop} {x1 : Int32} (i20 : ¬ ((s.1 87) < 0 ∨ 600 ≤ Int32.toNatClampNeg (s.1 87))) (k : zz_E zp_P zt_tf zt_fd X d zm_348 21 [(0, .ref 61)] [] (mH h (mA s 86 (upd (s.2.2.1 86) (Int32.toNatClampNeg (s.1 87)) (vp_nar (zz_ty 2) (Int8.toInt32 (Int32.toInt8 x1)))))) Q) : zz_E zp_P zt_tf zt_fd X d zm_348 10 [(0, .ref 61), (1, .int x1)] [] (mH h s) Q := by
  refine zz_E.n 11 rfl rfl rfl ?_
  refine mE_g hh 14 (v := .ref 110) rfl rfl rfl ?_
  refine zz_E.n 15 rfl rfl rfl ?_
  refine mE_g hh 18 (v := .int (s.1 87)) rfl rfl rfl ?_
  refine zz_E.n 19 rfl rfl rfl ?_
  refine zz_E.n 20 rfl rfl rfl ?_
  refine mE_bs hh 21 49 (f := (s.2.2.1 86)) rfl (by decide) rfl rfl i20 (mA_110 _ _) rfl ?_
  exact zz_E.weak k rfl ⟨rfl, trivial⟩
theorem mb_348_21 {X : Nat → Option zz_C} {h : zz_H} (hh : 111 ≤ h.length) {s : mS} {d : Nat} {Q : Option Value → zz_H → Prop}  (k : Q none (mH h (mI s 87 ((s.1 87) + 1)))) : zz_E zp_P zt_tf zt_fd X d zm_348 21 [(0, .ref 61)] [] (mH h s) Q := by
  refine zz_E.n 22 rfl rfl rfl ?_
  refine zz_E.n 23 rfl rfl rfl ?_
  refine mE_g hh 26 (v := .int (s.1 87)) rfl rfl rfl ?_
  refine zz_E.c 27 (.int 1) rfl rfl rfl rfl ?_
  refine zz_E.n 28 rfl rfl rfl ?_
  refine mE_p hh 31 rfl (by decide) rfl (mF_87 _ _) rfl ?_
  refine zz_E.ret rfl rfl rfl ?_
  exact k
def mf_348_21 (N : Nat)  (s : mS) : mO := some ((mI s 87 ((s.1 87) + 1)), none)
theorem mr_348_21 {X : Nat → Option zz_C} {h : zz_H} (hh : 111 ≤ h.length) {d : Nat} {N : Nat} {Q : Option Value → zz_H → Prop}  {s s' : mS} {v : Option Value} (hf : mf_348_21 N  s = some (s', v)) (k : Q v (mH h s')) : zz_E zp_P zt_tf zt_fd X (d + 0) zm_348 21 [(0, .ref 61)] [] (mH h s) Q := by
  unfold mf_348_21 at hf
  cases hf
  exact mb_348_21 hh  k
def mf_348_10 (N : Nat) (x1 : Int32) (s : mS) : mO := if ¬ ((s.1 87) < 0 ∨ 600 ≤ Int32.toNatClampNeg (s.1 87)) then (mf_348_21 N  (mA s 86 (upd (s.2.2.1 86) (Int32.toNatClampNeg (s.1 87)) (vp_nar (zz_ty 2) (Int8.toInt32 (Int32.toInt8 x1)))))) else none
theorem mr_348_10 {X : Nat → Option zz_C} {h : zz_H} (hh : 111 ≤ h.length) {d : Nat} {N : Nat} {Q : Option Value → zz_H → Prop} {x1 : Int32} {s s' : mS} {v : Option Value} (hf : mf_348_10 N x1 s = some (s', v)) (k : Q v (mH h s')) : zz_E zp_P zt_tf zt_fd X (d + 0) zm_348 10 [(0, .ref 61), (1, .int x1)] [] (mH h s) Q := by
  unfold mf_348_10 at hf
  obtain ⟨q0, hf⟩ := mo_if hf
  exact mb_348_10 hh q0 (mr_348_21 hh hf k)
def mf_348_0 (N : Nat) (x1 : Int32) (s : mS) : mO := if 600 ≤ (s.1 87) then mf_348_21 N  s else mf_348_10 N x1 s
theorem mr_348_0 {X : Nat → Option zz_C} {h : zz_H} (hh : 111 ≤ h.length) {d : Nat} {N : Nat} {Q : Option Value → zz_H → Prop} {x1 : Int32} {s s' : mS} {v : Option Value} (hf : mf_348_0 N x1 s = some (s', v)) (k : Q v (mH h s')) : zz_E zp_P zt_tf zt_fd X (d + 0) zm_348 0 [(0, .ref 61), (1, .int x1)] [] (mH h s) Q := by
  unfold mf_348_0 at hf
  refine mb_348_0 hh  (fun c => ?_) (fun c => ?_)
  · rw [if_pos c] at hf
    exact mr_348_21 hh hf k
  · rw [if_neg c] at hf
    exact mr_348_10 hh hf k
/-- says -/
def mf_348 (N : Nat) (x1 : Int32) (s : mS) : mO := mf_348_0 N x1 s
theorem mr_348 {X : Nat → Option zz_C} {h : zz_H} (hh : 111 ≤ h.length) {d : Nat} {N : Nat} {Q : Option Value → zz_H → Prop} {x1 : Int32} {s s' : mS} {v : Option Value} (hf : mf_348 N x1 s = some (s', v)) (k : Q v (mH h s')) : zz_E zp_P zt_tf zt_fd X (d + 0) zm_348 0 [(0, .ref 61), (1, .int x1)] [] (mH h s) Q := by
  unfold mf_348 at hf
  exact zz_E.weak (mr_348_0 hh hf k) rfl ⟨rfl, rfl, trivial⟩
/-! number (I)V -/
theorem mb_349_0 {X : Nat → Option zz_C} {h : zz_H} (hh : 111 ≤ h.length) {s : mS} {d : Nat} {Q : Option Value → zz_H → Prop} {x1 : Int32} (k1 : 0 ≤ (lg_cmp (Int32.toInt64 x1) 0) → zz_E zp_P zt_tf zt_fd X d zm_349 18 [(0, .ref 61), (2, .long (Int32.toInt64 x1))] [] (mH h s) Q) (k2 : ¬ 0 ≤ (lg_cmp (Int32.toInt64 x1) 0) → zz_E zp_P zt_tf zt_fd X d zm_349 9 [(0, .ref 61), (2, .long (Int32.toInt64 x1))] [] (mH h s) Q) : zz_E zp_P zt_tf zt_fd X d zm_349 0 [(0, .ref 61), (1, .int x1)] [] (mH h s) Q := by
  refine zz_E.n 1 rfl rfl rfl ?_
  refine zz_E.n 2 rfl rfl rfl ?_
  refine zz_E.n 3 rfl rfl rfl ?_
  refine zz_E.n 4 rfl rfl rfl ?_
  refine zz_E.c 5 (.long 0) rfl rfl rfl rfl ?_
  refine zz_E.n 6 rfl rfl rfl ?_
  refine zz_E.b1 18 9 (A := 0 ≤ (lg_cmp (Int32.toInt64 x1) 0)) rfl rfl (by decide) rfl rfl (fun c => ?_) (fun c => ?_)
  · exact zz_E.weak (k1 c) rfl ⟨rfl, rfl, trivial⟩
  · exact zz_E.weak (k2 c) rfl ⟨rfl, rfl, trivial⟩
theorem mb_349_9 {X : Nat → Option zz_C} {h : zz_H} (hh : 111 ≤ h.length) {s : mS} {d : Nat} {Q : Option Value → zz_H → Prop} {x2 : Int64} (k : zz_E zp_P zt_tf zt_fd X d zm_348 0 [(0, .ref 61), (1, .int 45)] [] (mH h s) (fun v h' => zz_E zp_P zt_tf zt_fd X (d + 1) zm_349 15 [(0, .ref 61), (2, .long x2)] (v.toList ++ []) h' Q)) : zz_E zp_P zt_tf zt_fd X (d + 1) zm_349 9 [(0, .ref 61), (2, .long x2)] [] (mH h s) Q := by
  refine zz_E.n 10 rfl rfl rfl ?_
  refine zz_E.c 12 (.int 45) rfl rfl rfl rfl ?_
  refine mE_cv hh 15 (as := []) rfl rfl (Nat.le_of_ble_eq_true rfl) (Nat.le_of_ble_eq_true rfl) rfl (Nat.le_of_ble_eq_true rfl) rfl ?_
  refine zz_E.mono k ?_
  intro v h' hE
  exact zz_E.weak hE rfl ⟨rfl, rfl, trivial⟩
theorem mb_349_15 {X : Nat → Option zz_C} {h : zz_H} (hh : 111 ≤ h.length) {s : mS} {d : Nat} {Q : Option Value → zz_H → Prop} {x2 : Int64} (k : zz_E zp_P zt_tf zt_fd X d zm_349 18 [(0, .ref 61), (2, .long (-x2))] [] (mH h s) Q) : zz_E zp_P zt_tf zt_fd X d zm_349 15 [(0, .ref 61), (2, .long x2)] [] (mH h s) Q := by
  refine zz_E.n 16 rfl rfl rfl ?_
  refine zz_E.n 17 rfl rfl rfl ?_
  refine zz_E.n 18 rfl rfl rfl ?_
  exact zz_E.weak k rfl ⟨rfl, rfl, trivial⟩
theorem mb_349_18 {X : Nat → Option zz_C} {h : zz_H} (hh : 111 ≤ h.length) {s : mS} {d : Nat} {Q : Option Value → zz_H → Prop} {x2 : Int64} (k : zz_E zp_P zt_tf zt_fd X d zm_349 21 [(0, .ref 61), (2, .long x2), (4, .long 1)] [] (mH h s) Q) : zz_E zp_P zt_tf zt_fd X d zm_349 18 [(0, .ref 61), (2, .long x2)] [] (mH h s) Q := by
  refine zz_E.c 19 (.long 1) rfl rfl rfl rfl ?_
  refine zz_E.n 21 rfl rfl rfl ?_
  exact zz_E.weak k rfl ⟨rfl, rfl, rfl, trivial⟩
theorem mb_349_21 {X : Nat → Option zz_C} {h : zz_H} (hh : 111 ≤ h.length) {s : mS} {d : Nat} {Q : Option Value → zz_H → Prop} {x2 : Int64} {x4 : Int64} (z24 : ¬ (x4 : Int64) = 0) (k1 : (lg_cmp (x2 / x4) 9) ≤ 0 → zz_E zp_P zt_tf zt_fd X d zm_349 43 [(0, .ref 61), (2, .long x2), (4, .long x4)] [] (mH h s) Q) (k2 : ¬ (lg_cmp (x2 / x4) 9) ≤ 0 → zz_E zp_P zt_tf zt_fd X d zm_349 32 [(0, .ref 61), (2, .long x2), (4, .long x4)] [] (mH h s) Q) : zz_E zp_P zt_tf zt_fd X d zm_349 21 [(0, .ref 61), (2, .long x2), (4, .long x4)] [] (mH h s) Q := by
  refine zz_E.n 22 rfl rfl rfl ?_
  refine zz_E.n 24 rfl rfl rfl ?_
  refine zz_E.ldv 25 rfl z24 rfl ?_
  refine zz_E.c 28 (.long 9) rfl rfl rfl rfl ?_
  refine zz_E.n 29 rfl rfl rfl ?_
  refine zz_E.b1 43 32 (A := (lg_cmp (x2 / x4) 9) ≤ 0) rfl rfl (by decide) rfl rfl (fun c => ?_) (fun c => ?_)
  · exact zz_E.weak (k1 c) rfl ⟨rfl, rfl, rfl, trivial⟩
  · exact zz_E.weak (k2 c) rfl ⟨rfl, rfl, rfl, trivial⟩
theorem mb_349_32 {X : Nat → Option zz_C} {h : zz_H} (hh : 111 ≤ h.length) {s : mS} {d : Nat} {Q : Option Value → zz_H → Prop} {x2 : Int64} {x4 : Int64} (k : zz_E zp_P zt_tf zt_fd X d zm_349 21 [(0, .ref 61), (2, .long x2), (4, .long (10 * x4))] [] (mH h s) Q) : zz_E zp_P zt_tf zt_fd X d zm_349 32 [(0, .ref 61), (2, .long x2), (4, .long x4)] [] (mH h s) Q := by
  refine zz_E.c 35 (.long 10) rfl rfl rfl rfl ?_
  refine zz_E.n 37 rfl rfl rfl ?_
  refine zz_E.n 38 rfl rfl rfl ?_
  refine zz_E.n 40 rfl rfl rfl ?_
  refine zz_E.n 21 rfl rfl rfl ?_
  exact zz_E.weak k rfl ⟨rfl, rfl, rfl, trivial⟩
theorem mb_349_43 {X : Nat → Option zz_C} {h : zz_H} (hh : 111 ≤ h.length) {s : mS} {d : Nat} {Q : Option Value → zz_H → Prop} {x2 : Int64} {x4 : Int64} (k1 : (lg_cmp x4 0) ≤ 0 → zz_E zp_P zt_tf zt_fd X d zm_349 78 [] [] (mH h s) Q) (k2 : ¬ (lg_cmp x4 0) ≤ 0 → zz_E zp_P zt_tf zt_fd X d zm_349 50 [(0, .ref 61), (2, .long x2), (4, .long x4)] [] (mH h s) Q) : zz_E zp_P zt_tf zt_fd X d zm_349 43 [(0, .ref 61), (2, .long x2), (4, .long x4)] [] (mH h s) Q := by
  refine zz_E.n 45 rfl rfl rfl ?_
  refine zz_E.c 46 (.long 0) rfl rfl rfl rfl ?_
  refine zz_E.n 47 rfl rfl rfl ?_
  refine zz_E.b1 78 50 (A := (lg_cmp x4 0) ≤ 0) rfl rfl (by decide) rfl rfl (fun c => ?_) (fun c => ?_)
  · exact zz_E.weak (k1 c) rfl trivial
  · exact zz_E.weak (k2 c) rfl ⟨rfl, rfl, rfl, trivial⟩
theorem mb_349_50 {X : Nat → Option zz_C} {h : zz_H} (hh : 111 ≤ h.length) {s : mS} {d : Nat} {Q : Option Value → zz_H → Prop} {x2 : Int64} {x4 : Int64} (z57 : ¬ (x4 : Int64) = 0) (z61 : ¬ (10 : Int64) = 0) (k : zz_E zp_P zt_tf zt_fd X d zm_348 0 [(0, .ref 61), (1, .int (Int64.toInt32 (48 + ((x2 / x4) - (x2 / x4) / 10 * 10))))] [] (mH h s) (fun v h' => zz_E zp_P zt_tf zt_fd X (d + 1) zm_349 67 [(0, .ref 61), (2, .long x2), (4, .long x4)] (v.toList ++ []) h' Q)) : zz_E zp_P zt_tf zt_fd X (d + 1) zm_349 50 [(0, .ref 61), (2, .long x2), (4, .long x4)] [] (mH h s) Q := by
  refine zz_E.n 51 rfl rfl rfl ?_
  refine zz_E.c 54 (.long 48) rfl rfl rfl rfl ?_
  refine zz_E.n 55 rfl rfl rfl ?_
  refine zz_E.n 57 rfl rfl rfl ?_
  refine zz_E.ldv 58 rfl z57 rfl ?_
  refine zz_E.c 61 (.long 10) rfl rfl rfl rfl ?_
  refine zz_E.ldr 62 rfl z61 rfl ?_
  refine zz_E.n 63 rfl rfl rfl ?_
  refine zz_E.n 64 rfl rfl rfl ?_
  refine mE_cv hh 67 (as := []) rfl rfl (Nat.le_of_ble_eq_true rfl) (Nat.le_of_ble_eq_true rfl) rfl (Nat.le_of_ble_eq_true rfl) rfl ?_
  refine zz_E.mono k ?_
  intro v h' hE
  exact zz_E.weak hE rfl ⟨rfl, rfl, rfl, trivial⟩
theorem mb_349_67 {X : Nat → Option zz_C} {h : zz_H} (hh : 111 ≤ h.length) {s : mS} {d : Nat} {Q : Option Value → zz_H → Prop} {x2 : Int64} {x4 : Int64} (z72 : ¬ (10 : Int64) = 0) (k : zz_E zp_P zt_tf zt_fd X d zm_349 43 [(0, .ref 61), (2, .long x2), (4, .long (x4 / 10))] [] (mH h s) Q) : zz_E zp_P zt_tf zt_fd X d zm_349 67 [(0, .ref 61), (2, .long x2), (4, .long x4)] [] (mH h s) Q := by
  refine zz_E.n 69 rfl rfl rfl ?_
  refine zz_E.c 72 (.long 10) rfl rfl rfl rfl ?_
  refine zz_E.ldv 73 rfl z72 rfl ?_
  refine zz_E.n 75 rfl rfl rfl ?_
  refine zz_E.n 43 rfl rfl rfl ?_
  exact zz_E.weak k rfl ⟨rfl, rfl, rfl, trivial⟩
theorem mb_349_78 {X : Nat → Option zz_C} {h : zz_H} (hh : 111 ≤ h.length) {s : mS} {d : Nat} {Q : Option Value → zz_H → Prop}  (k : Q none (mH h s)) : zz_E zp_P zt_tf zt_fd X d zm_349 78 [] [] (mH h s) Q := by
  refine zz_E.ret rfl rfl rfl ?_
  exact k
def mf_349_78 (N : Nat)  (s : mS) : mO := some (s, none)
theorem mr_349_78 {X : Nat → Option zz_C} {h : zz_H} (hh : 111 ≤ h.length) {d : Nat} {N : Nat} {Q : Option Value → zz_H → Prop}  {s s' : mS} {v : Option Value} (hf : mf_349_78 N  s = some (s', v)) (k : Q v (mH h s')) : zz_E zp_P zt_tf zt_fd X (d + 1) zm_349 78 [] [] (mH h s) Q := by
  unfold mf_349_78 at hf
  cases hf
  exact mb_349_78 hh  k
def mf_349_67 (N : Nat) (rc : Nat → Int64 → Int64 → mS → mO) (x2 : Int64) (x4 : Int64) (s : mS) : mO := if ¬ (10 : Int64) = 0 then (rc 0 x2 (x4 / 10) s) else none
theorem mr_349_67 {X : Nat → Option zz_C} {h : zz_H} (hh : 111 ≤ h.length) {d : Nat} {N : Nat} {rc : Nat → Int64 → Int64 → mS → mO} (hrc0 : ∀ {Q : Option Value → zz_H → Prop} {x2 : Int64} {x4 : Int64} {s s' : mS} {v : Option Value}, rc 0 x2 x4 s = some (s', v) → Q v (mH h s') → zz_E zp_P zt_tf zt_fd X (d + 1) zm_349 43 [(0, .ref 61), (2, .long x2), (4, .long x4)] [] (mH h s) Q) {Q : Option Value → zz_H → Prop} {x2 : Int64} {x4 : Int64} {s s' : mS} {v : Option Value} (hf : mf_349_67 N rc x2 x4 s = some (s', v)) (k : Q v (mH h s')) : zz_E zp_P zt_tf zt_fd X (d + 1) zm_349 67 [(0, .ref 61), (2, .long x2), (4, .long x4)] [] (mH h s) Q := by
  unfold mf_349_67 at hf
  obtain ⟨q0, hf⟩ := mo_if hf
  exact mb_349_67 hh q0 (hrc0 hf k)
def mf_349_50 (N : Nat) (rc : Nat → Int64 → Int64 → mS → mO) (x2 : Int64) (x4 : Int64) (s : mS) : mO := if ¬ (x4 : Int64) = 0 then (if ¬ (10 : Int64) = 0 then (mo_bv (mf_348 N (Int64.toInt32 (48 + ((x2 / x4) - (x2 / x4) / 10 * 10))) s) (fun s1 => mf_349_67 N rc x2 x4 s1)) else none) else none
theorem mr_349_50 {X : Nat → Option zz_C} {h : zz_H} (hh : 111 ≤ h.length) {d : Nat} {N : Nat} {rc : Nat → Int64 → Int64 → mS → mO} (hrc0 : ∀ {Q : Option Value → zz_H → Prop} {x2 : Int64} {x4 : Int64} {s s' : mS} {v : Option Value}, rc 0 x2 x4 s = some (s', v) → Q v (mH h s') → zz_E zp_P zt_tf zt_fd X (d + 1) zm_349 43 [(0, .ref 61), (2, .long x2), (4, .long x4)] [] (mH h s) Q) {Q : Option Value → zz_H → Prop} {x2 : Int64} {x4 : Int64} {s s' : mS} {v : Option Value} (hf : mf_349_50 N rc x2 x4 s = some (s', v)) (k : Q v (mH h s')) : zz_E zp_P zt_tf zt_fd X (d + 1) zm_349 50 [(0, .ref 61), (2, .long x2), (4, .long x4)] [] (mH h s) Q := by
  unfold mf_349_50 at hf
  obtain ⟨q0, hf⟩ := mo_if hf
  obtain ⟨q1, hf⟩ := mo_if hf
  obtain ⟨s1, e, hf⟩ := mo_bv_ok hf
  exact mb_349_50 (d := d + 0) hh q0 q1 (mr_348 (d := d + 0) hh e (mr_349_67 hh hrc0 hf k))
def mf_349_43 (N : Nat) (rc : Nat → Int64 → Int64 → mS → mO) (x2 : Int64) (x4 : Int64) (s : mS) : mO := if (lg_cmp x4 0) ≤ 0 then mf_349_78 N  s else mf_349_50 N rc x2 x4 s
theorem mr_349_43 {X : Nat → Option zz_C} {h : zz_H} (hh : 111 ≤ h.length) {d : Nat} {N : Nat} {rc : Nat → Int64 → Int64 → mS → mO} (hrc0 : ∀ {Q : Option Value → zz_H → Prop} {x2 : Int64} {x4 : Int64} {s s' : mS} {v : Option Value}, rc 0 x2 x4 s = some (s', v) → Q v (mH h s') → zz_E zp_P zt_tf zt_fd X (d + 1) zm_349 43 [(0, .ref 61), (2, .long x2), (4, .long x4)] [] (mH h s) Q) {Q : Option Value → zz_H → Prop} {x2 : Int64} {x4 : Int64} {s s' : mS} {v : Option Value} (hf : mf_349_43 N rc x2 x4 s = some (s', v)) (k : Q v (mH h s')) : zz_E zp_P zt_tf zt_fd X (d + 1) zm_349 43 [(0, .ref 61), (2, .long x2), (4, .long x4)] [] (mH h s) Q := by
  unfold mf_349_43 at hf
  refine mb_349_43 hh  (fun c => ?_) (fun c => ?_)
  · rw [if_pos c] at hf
    exact mr_349_78 hh hf k
  · rw [if_neg c] at hf
    exact mr_349_50 hh hrc0 hf k
def mf_349_L1 (N : Nat) : Nat → Nat → Int64 → Int64 → mS → mO
  | 0, _, _, _, _ => none
  | n + 1, l, x2, x4, s => if l = 0 then mf_349_43 N (mf_349_L1 N n) x2 x4 s else none
theorem mr_349_L1 {X : Nat → Option zz_C} {h : zz_H} (hh : 111 ≤ h.length) {d : Nat} {N : Nat} : ∀ n : Nat, (∀ {Q : Option Value → zz_H → Prop} {x2 : Int64} {x4 : Int64} {s s' : mS} {v : Option Value}, mf_349_L1 N n 0 x2 x4 s = some (s', v) → Q v (mH h s') → zz_E zp_P zt_tf zt_fd X (d + 1) zm_349 43 [(0, .ref 61), (2, .long x2), (4, .long x4)] [] (mH h s) Q) := by
  intro n
  induction n with
  | zero => exact (fun hf _ => by cases hf)
  | succ n ih =>
    have h0 := @ih
    intro Q _ _ s s' v hf k
    unfold mf_349_L1 at hf
    rw [if_pos rfl] at hf
    exact mr_349_43 hh h0 hf k
def mf_349_32 (N : Nat) (rc : Nat → Int64 → Int64 → mS → mO) (x2 : Int64) (x4 : Int64) (s : mS) : mO := rc 0 x2 (10 * x4) s
theorem mr_349_32 {X : Nat → Option zz_C} {h : zz_H} (hh : 111 ≤ h.length) {d : Nat} {N : Nat} {rc : Nat → Int64 → Int64 → mS → mO} (hrc0 : ∀ {Q : Option Value → zz_H → Prop} {x2 : Int64} {x4 : Int64} {s s' : mS} {v : Option Value}, rc 0 x2 x4 s = some (s', v) → Q v (mH h s') → zz_E zp_P zt_tf zt_fd X (d + 1) zm_349 21 [(0, .ref 61), (2, .long x2), (4, .long x4)] [] (mH h s) Q) {Q : Option Value → zz_H → Prop} {x2 : Int64} {x4 : Int64} {s s' : mS} {v : Option Value} (hf : mf_349_32 N rc x2 x4 s = some (s', v)) (k : Q v (mH h s')) : zz_E zp_P zt_tf zt_fd X (d + 1) zm_349 32 [(0, .ref 61), (2, .long x2), (4, .long x4)] [] (mH h s) Q := by
  unfold mf_349_32 at hf
  exact mb_349_32 hh  (hrc0 hf k)
def mf_349_21 (N : Nat) (rc : Nat → Int64 → Int64 → mS → mO) (x2 : Int64) (x4 : Int64) (s : mS) : mO := if ¬ (x4 : Int64) = 0 then (if (lg_cmp (x2 / x4) 9) ≤ 0 then mf_349_L1 N N 0 x2 x4 s else mf_349_32 N rc x2 x4 s) else none
theorem mr_349_21 {X : Nat → Option zz_C} {h : zz_H} (hh : 111 ≤ h.length) {d : Nat} {N : Nat} {rc : Nat → Int64 → Int64 → mS → mO} (hrc0 : ∀ {Q : Option Value → zz_H → Prop} {x2 : Int64} {x4 : Int64} {s s' : mS} {v : Option Value}, rc 0 x2 x4 s = some (s', v) → Q v (mH h s') → zz_E zp_P zt_tf zt_fd X (d + 1) zm_349 21 [(0, .ref 61), (2, .long x2), (4, .long x4)] [] (mH h s) Q) {Q : Option Value → zz_H → Prop} {x2 : Int64} {x4 : Int64} {s s' : mS} {v : Option Value} (hf : mf_349_21 N rc x2 x4 s = some (s', v)) (k : Q v (mH h s')) : zz_E zp_P zt_tf zt_fd X (d + 1) zm_349 21 [(0, .ref 61), (2, .long x2), (4, .long x4)] [] (mH h s) Q := by
  unfold mf_349_21 at hf
  obtain ⟨q0, hf⟩ := mo_if hf
  refine mb_349_21 hh q0 (fun c => ?_) (fun c => ?_)
  · rw [if_pos c] at hf
    exact mr_349_L1 hh N hf k
  · rw [if_neg c] at hf
    exact mr_349_32 hh hrc0 hf k
def mf_349_L2 (N : Nat) : Nat → Nat → Int64 → Int64 → mS → mO
  | 0, _, _, _, _ => none
  | n + 1, l, x2, x4, s => if l = 0 then mf_349_21 N (mf_349_L2 N n) x2 x4 s else none
theorem mr_349_L2 {X : Nat → Option zz_C} {h : zz_H} (hh : 111 ≤ h.length) {d : Nat} {N : Nat} : ∀ n : Nat, (∀ {Q : Option Value → zz_H → Prop} {x2 : Int64} {x4 : Int64} {s s' : mS} {v : Option Value}, mf_349_L2 N n 0 x2 x4 s = some (s', v) → Q v (mH h s') → zz_E zp_P zt_tf zt_fd X (d + 1) zm_349 21 [(0, .ref 61), (2, .long x2), (4, .long x4)] [] (mH h s) Q) := by
  intro n
  induction n with
  | zero => exact (fun hf _ => by cases hf)
  | succ n ih =>
    have h0 := @ih
    intro Q _ _ s s' v hf k
    unfold mf_349_L2 at hf
    rw [if_pos rfl] at hf
    exact mr_349_21 hh h0 hf k
def mf_349_18 (N : Nat) (x2 : Int64) (s : mS) : mO := mf_349_L2 N N 0 x2 1 s
theorem mr_349_18 {X : Nat → Option zz_C} {h : zz_H} (hh : 111 ≤ h.length) {d : Nat} {N : Nat} {Q : Option Value → zz_H → Prop} {x2 : Int64} {s s' : mS} {v : Option Value} (hf : mf_349_18 N x2 s = some (s', v)) (k : Q v (mH h s')) : zz_E zp_P zt_tf zt_fd X (d + 1) zm_349 18 [(0, .ref 61), (2, .long x2)] [] (mH h s) Q := by
  unfold mf_349_18 at hf
  exact mb_349_18 hh  (mr_349_L2 hh N hf k)
def mf_349_15 (N : Nat) (x2 : Int64) (s : mS) : mO := mf_349_18 N (-x2) s
theorem mr_349_15 {X : Nat → Option zz_C} {h : zz_H} (hh : 111 ≤ h.length) {d : Nat} {N : Nat} {Q : Option Value → zz_H → Prop} {x2 : Int64} {s s' : mS} {v : Option Value} (hf : mf_349_15 N x2 s = some (s', v)) (k : Q v (mH h s')) : zz_E zp_P zt_tf zt_fd X (d + 1) zm_349 15 [(0, .ref 61), (2, .long x2)] [] (mH h s) Q := by
  unfold mf_349_15 at hf
  exact mb_349_15 hh  (mr_349_18 hh hf k)
def mf_349_9 (N : Nat) (x2 : Int64) (s : mS) : mO := mo_bv (mf_348 N 45 s) (fun s1 => mf_349_15 N x2 s1)
theorem mr_349_9 {X : Nat → Option zz_C} {h : zz_H} (hh : 111 ≤ h.length) {d : Nat} {N : Nat} {Q : Option Value → zz_H → Prop} {x2 : Int64} {s s' : mS} {v : Option Value} (hf : mf_349_9 N x2 s = some (s', v)) (k : Q v (mH h s')) : zz_E zp_P zt_tf zt_fd X (d + 1) zm_349 9 [(0, .ref 61), (2, .long x2)] [] (mH h s) Q := by
  unfold mf_349_9 at hf
  obtain ⟨s1, e, hf⟩ := mo_bv_ok hf
  exact mb_349_9 (d := d + 0) hh  (mr_348 (d := d + 0) hh e (mr_349_15 hh hf k))
def mf_349_0 (N : Nat) (x1 : Int32) (s : mS) : mO := if 0 ≤ (lg_cmp (Int32.toInt64 x1) 0) then mf_349_18 N (Int32.toInt64 x1) s else mf_349_9 N (Int32.toInt64 x1) s
theorem mr_349_0 {X : Nat → Option zz_C} {h : zz_H} (hh : 111 ≤ h.length) {d : Nat} {N : Nat} {Q : Option Value → zz_H → Prop} {x1 : Int32} {s s' : mS} {v : Option Value} (hf : mf_349_0 N x1 s = some (s', v)) (k : Q v (mH h s')) : zz_E zp_P zt_tf zt_fd X (d + 1) zm_349 0 [(0, .ref 61), (1, .int x1)] [] (mH h s) Q := by
  unfold mf_349_0 at hf
  refine mb_349_0 hh  (fun c => ?_) (fun c => ?_)
  · rw [if_pos c] at hf
    exact mr_349_18 hh hf k
  · rw [if_neg c] at hf
    exact mr_349_9 hh hf k
/-- number -/
def mf_349 (N : Nat) (x1 : Int32) (s : mS) : mO := mf_349_0 N x1 s
theorem mr_349 {X : Nat → Option zz_C} {h : zz_H} (hh : 111 ≤ h.length) {d : Nat} {N : Nat} {Q : Option Value → zz_H → Prop} {x1 : Int32} {s s' : mS} {v : Option Value} (hf : mf_349 N x1 s = some (s', v)) (k : Q v (mH h s')) : zz_E zp_P zt_tf zt_fd X (d + 1) zm_349 0 [(0, .ref 61), (1, .int x1)] [] (mH h s) Q := by
  unfold mf_349 at hf
  exact zz_E.weak (mr_349_0 hh hf k) rfl ⟨rfl, rfl, trivial⟩
/-! isInt (II)Z -/
theorem mb_293_0 {X : Nat → Option zz_C} {h : zz_H} (hh : 111 ≤ h.length) {s : mS} {d : Nat} {Q : Option Value → zz_H → Prop} {x1 : Int32} {x2 : Int32} (i11 : ¬ (((x1 + 2) + (2 * x2)) < 0 ∨ 166300 ≤ Int32.toNatClampNeg ((x1 + 2) + (2 * x2)))) (k1 : ¬ ((s.2.2.1 47) (Int32.toNatClampNeg ((x1 + 2) + (2 * x2)))) = 0 → zz_E zp_P zt_tf zt_fd X d zm_293 19 [] [] (mH h s) Q) (k2 : ¬ ¬ ((s.2.2.1 47) (Int32.toNatClampNeg ((x1 + 2) + (2 * x2)))) = 0 → zz_E zp_P zt_tf zt_fd X d zm_293 15 [] [] (mH h s) Q) : zz_E zp_P zt_tf zt_fd X d zm_293 0 [(0, .ref 61), (1, .int x1), (2, .int x2)] [] (mH h s) Q := by
  refine zz_E.n 1 rfl rfl rfl ?_
  refine mE_g hh 4 (v := .ref 89) rfl rfl rfl ?_
  refine zz_E.n 5 rfl rfl rfl ?_
  refine zz_E.c 6 (.int 2) rfl rfl rfl rfl ?_
  refine zz_E.n 7 rfl rfl rfl ?_
  refine zz_E.c 8 (.int 2) rfl rfl rfl rfl ?_
  refine zz_E.n 9 rfl rfl rfl ?_
  refine zz_E.n 10 rfl rfl rfl ?_
  refine zz_E.n 11 rfl rfl rfl ?_
  refine mE_ia hh 12 28 (f := (s.2.2.1 47)) rfl (by decide) rfl rfl i11 rfl ?_
  refine zz_E.b1 19 15 (A := ¬ ((s.2.2.1 47) (Int32.toNatClampNeg ((x1 + 2) + (2 * x2)))) = 0) rfl (zz_cond_ne _ _) (by decide) rfl rfl (fun c => ?_) (fun c => ?_)
  · exact zz_E.weak (k1 c) rfl trivial
  · exact zz_E.weak (k2 c) rfl trivial
theorem mb_293_15 {X : Nat → Option zz_C} {h : zz_H} (hh : 111 ≤ h.length) {s : mS} {d : Nat} {Q : Option Value → zz_H → Prop}  (k : zz_E zp_P zt_tf zt_fd X d zm_293 20 [] [.int 1] (mH h s) Q) : zz_E zp_P zt_tf zt_fd X d zm_293 15 [] [] (mH h s) Q := by
  refine zz_E.c 16 (.int 1) rfl rfl rfl rfl ?_
  refine zz_E.n 20 rfl rfl rfl ?_
  exact zz_E.weak k rfl trivial
theorem mb_293_19 {X : Nat → Option zz_C} {h : zz_H} (hh : 111 ≤ h.length) {s : mS} {d : Nat} {Q : Option Value → zz_H → Prop}  (k : zz_E zp_P zt_tf zt_fd X d zm_293 20 [] [.int 0] (mH h s) Q) : zz_E zp_P zt_tf zt_fd X d zm_293 19 [] [] (mH h s) Q := by
  refine zz_E.c 20 (.int 0) rfl rfl rfl rfl ?_
  exact zz_E.weak k rfl trivial
theorem mb_293_20 {X : Nat → Option zz_C} {h : zz_H} (hh : 111 ≤ h.length) {s : mS} {d : Nat} {Q : Option Value → zz_H → Prop} {y0 : Int32} (k : Q (some (.int y0)) (mH h s)) (rb : zz_reti (some .boolean) y0 = true) : zz_E zp_P zt_tf zt_fd X d zm_293 20 [] [.int y0] (mH h s) Q := by
  refine zz_E.ret rfl rfl (if_pos ⟨rfl, rb⟩) ?_
  exact k
def mf_293_20 (N : Nat) (y0 : Int32) (s : mS) : mO := if zz_reti (some .boolean) y0 = true then some (s, (some (.int y0))) else none
theorem mr_293_20 {X : Nat → Option zz_C} {h : zz_H} (hh : 111 ≤ h.length) {d : Nat} {N : Nat} {Q : Option Value → zz_H → Prop} {y0 : Int32} {s s' : mS} {v : Option Value} (hf : mf_293_20 N y0 s = some (s', v)) (k : Q v (mH h s')) : zz_E zp_P zt_tf zt_fd X (d + 0) zm_293 20 [] [.int y0] (mH h s) Q := by
  unfold mf_293_20 at hf
  obtain ⟨rb, hf⟩ := mo_if hf
  cases hf
  exact mb_293_20 hh  k rb
def mf_293_19 (N : Nat)  (s : mS) : mO := mf_293_20 N 0 s
theorem mr_293_19 {X : Nat → Option zz_C} {h : zz_H} (hh : 111 ≤ h.length) {d : Nat} {N : Nat} {Q : Option Value → zz_H → Prop}  {s s' : mS} {v : Option Value} (hf : mf_293_19 N  s = some (s', v)) (k : Q v (mH h s')) : zz_E zp_P zt_tf zt_fd X (d + 0) zm_293 19 [] [] (mH h s) Q := by
  unfold mf_293_19 at hf
  exact mb_293_19 hh  (mr_293_20 hh hf k)
def mf_293_15 (N : Nat)  (s : mS) : mO := mf_293_20 N 1 s
theorem mr_293_15 {X : Nat → Option zz_C} {h : zz_H} (hh : 111 ≤ h.length) {d : Nat} {N : Nat} {Q : Option Value → zz_H → Prop}  {s s' : mS} {v : Option Value} (hf : mf_293_15 N  s = some (s', v)) (k : Q v (mH h s')) : zz_E zp_P zt_tf zt_fd X (d + 0) zm_293 15 [] [] (mH h s) Q := by
  unfold mf_293_15 at hf
  exact mb_293_15 hh  (mr_293_20 hh hf k)
def mf_293_0 (N : Nat) (x1 : Int32) (x2 : Int32) (s : mS) : mO := if ¬ (((x1 + 2) + (2 * x2)) < 0 ∨ 166300 ≤ Int32.toNatClampNeg ((x1 + 2) + (2 * x2))) then (if ¬ ((s.2.2.1 47) (Int32.toNatClampNeg ((x1 + 2) + (2 * x2)))) = 0 then mf_293_19 N  s else mf_293_15 N  s) else none
theorem mr_293_0 {X : Nat → Option zz_C} {h : zz_H} (hh : 111 ≤ h.length) {d : Nat} {N : Nat} {Q : Option Value → zz_H → Prop} {x1 : Int32} {x2 : Int32} {s s' : mS} {v : Option Value} (hf : mf_293_0 N x1 x2 s = some (s', v)) (k : Q v (mH h s')) : zz_E zp_P zt_tf zt_fd X (d + 0) zm_293 0 [(0, .ref 61), (1, .int x1), (2, .int x2)] [] (mH h s) Q := by
  unfold mf_293_0 at hf
  obtain ⟨q0, hf⟩ := mo_if hf
  refine mb_293_0 hh q0 (fun c => ?_) (fun c => ?_)
  · rw [if_pos c] at hf
    exact mr_293_19 hh hf k
  · rw [if_neg c] at hf
    exact mr_293_15 hh hf k
/-- isInt -/
def mf_293 (N : Nat) (x1 : Int32) (x2 : Int32) (s : mS) : mO := mf_293_0 N x1 x2 s
theorem mr_293 {X : Nat → Option zz_C} {h : zz_H} (hh : 111 ≤ h.length) {d : Nat} {N : Nat} {Q : Option Value → zz_H → Prop} {x1 : Int32} {x2 : Int32} {s s' : mS} {v : Option Value} (hf : mf_293 N x1 x2 s = some (s', v)) (k : Q v (mH h s')) : zz_E zp_P zt_tf zt_fd X (d + 0) zm_293 0 [(0, .ref 61), (1, .int x1), (2, .int x2)] [] (mH h s) Q := by
  unfold mf_293 at hf
  exact zz_E.weak (mr_293_0 hh hf k) rfl ⟨rfl, rfl, rfl, trivial⟩
