/-! clear (I)Z -/
theorem mb_78_0 {X : Nat → Option zz_C} {h : zz_H} (hh : 111 ≤ h.length) {s : mS} {d : Nat} {Q : Option Value → zz_H → Prop} {x1 : Int32} (k : zz_E zp_P zt_tf zt_fd X d zm_73 0 [(0, .int x1)] [] (mH h s) (fun v h' => zz_E zp_P zt_tf zt_fd X (d + 1) zm_78 4 [(0, .ref 61), (1, .int x1)] (v.toList ++ []) h' Q)) : zz_E zp_P zt_tf zt_fd X (d + 1) zm_78 0 [(0, .ref 61), (1, .int x1)] [] (mH h s) Q := by
  refine zz_E.n 1 rfl rfl rfl ?_
  refine zz_E.cl (M' := zm_73) 4 rfl rfl (by decide) rfl rfl ⟨rfl, Nat.le_of_ble_eq_true rfl⟩ rfl ?_
  refine zz_E.mono k ?_
  intro v h' hE
  exact zz_E.weak hE rfl ⟨rfl, rfl, trivial⟩
theorem mb_78_4 {X : Nat → Option zz_C} {h : zz_H} (hh : 111 ≤ h.length) {s : mS} {d : Nat} {Q : Option Value → zz_H → Prop} {x1 : Int32} {y0 : Int32} (k1 : y0 = 0 → zz_E zp_P zt_tf zt_fd X d zm_78 21 [] [] (mH h s) Q) (k2 : ¬ y0 = 0 → zz_E zp_P zt_tf zt_fd X d zm_78 7 [(0, .ref 61), (1, .int x1)] [] (mH h s) Q) : zz_E zp_P zt_tf zt_fd X d zm_78 4 [(0, .ref 61), (1, .int x1)] [.int y0] (mH h s) Q := by
  refine zz_E.b1 21 7 (A := y0 = 0) rfl rfl (by decide) rfl rfl (fun c => ?_) (fun c => ?_)
  · exact zz_E.weak (k1 c) rfl trivial
  · exact zz_E.weak (k2 c) rfl ⟨rfl, rfl, trivial⟩
theorem mb_78_7 {X : Nat → Option zz_C} {h : zz_H} (hh : 111 ≤ h.length) {s : mS} {d : Nat} {Q : Option Value → zz_H → Prop} {x1 : Int32} (i16 : ¬ ((2410 * x1) < 0 ∨ 166300 ≤ Int32.toNatClampNeg (2410 * x1))) (k1 : ¬ ((s.2.2.1 47) (Int32.toNatClampNeg (2410 * x1))) = (-1) → zz_E zp_P zt_tf zt_fd X d zm_78 23 [(0, .ref 61), (1, .int x1)] [] (mH h s) Q) (k2 : ¬ ¬ ((s.2.2.1 47) (Int32.toNatClampNeg (2410 * x1))) = (-1) → zz_E zp_P zt_tf zt_fd X d zm_78 21 [] [] (mH h s) Q) : zz_E zp_P zt_tf zt_fd X d zm_78 7 [(0, .ref 61), (1, .int x1)] [] (mH h s) Q := by
  refine zz_E.n 8 rfl rfl rfl ?_
  refine mE_g hh 11 (v := .ref 89) rfl rfl rfl ?_
  refine zz_E.c 14 (.int 2410) rfl rfl rfl rfl ?_
  refine zz_E.n 15 rfl rfl rfl ?_
  refine zz_E.n 16 rfl rfl rfl ?_
  refine mE_ia hh 17 28 (f := (s.2.2.1 47)) rfl (by decide) rfl rfl i16 rfl ?_
  refine zz_E.c 18 (.int (-1)) rfl rfl rfl rfl ?_
  refine zz_E.b2 23 21 (A := ¬ ((s.2.2.1 47) (Int32.toNatClampNeg (2410 * x1))) = (-1)) rfl (zz_cond_ne _ _) (by decide) rfl rfl (fun c => ?_) (fun c => ?_)
  · exact zz_E.weak (k1 c) rfl ⟨rfl, rfl, trivial⟩
  · exact zz_E.weak (k2 c) rfl trivial
theorem mb_78_21 {X : Nat → Option zz_C} {h : zz_H} (hh : 111 ≤ h.length) {s : mS} {d : Nat} {Q : Option Value → zz_H → Prop}  (k : Q (some (.int 0)) (mH h s)) : zz_E zp_P zt_tf zt_fd X d zm_78 21 [] [] (mH h s) Q := by
  refine zz_E.c 22 (.int 0) rfl rfl rfl rfl ?_
  refine zz_E.ret rfl rfl rfl ?_
  exact k
theorem mb_78_23 {X : Nat → Option zz_C} {h : zz_H} (hh : 111 ≤ h.length) {s : mS} {d : Nat} {Q : Option Value → zz_H → Prop} {x1 : Int32} (i33 : ¬ ((2410 * x1) < 0 ∨ 166300 ≤ Int32.toNatClampNeg (2410 * x1))) (k : Q (some (.int 1)) (mH h (mA s 47 (upd (s.2.2.1 47) (Int32.toNatClampNeg (2410 * x1)) (-1))))) : zz_E zp_P zt_tf zt_fd X d zm_78 23 [(0, .ref 61), (1, .int x1)] [] (mH h s) Q := by
  refine zz_E.n 24 rfl rfl rfl ?_
  refine mE_g hh 27 (v := .ref 89) rfl rfl rfl ?_
  refine zz_E.c 30 (.int 2410) rfl rfl rfl rfl ?_
  refine zz_E.n 31 rfl rfl rfl ?_
  refine zz_E.n 32 rfl rfl rfl ?_
  refine zz_E.c 33 (.int (-1)) rfl rfl rfl rfl ?_
  refine mE_is hh 34 28 (f := (s.2.2.1 47)) rfl (by decide) rfl rfl i33 (mA_89 _ _) rfl ?_
  refine zz_E.c 35 (.int 1) rfl rfl rfl rfl ?_
  refine zz_E.ret rfl rfl rfl ?_
  exact k
def mf_78_21 (N : Nat)  (s : mS) : mO := some (s, (some (.int 0)))
theorem mr_78_21 {X : Nat → Option zz_C} {h : zz_H} (hh : 111 ≤ h.length) {d : Nat} {N : Nat} {Q : Option Value → zz_H → Prop}  {s s' : mS} {v : Option Value} (hf : mf_78_21 N  s = some (s', v)) (k : Q v (mH h s')) : zz_E zp_P zt_tf zt_fd X (d + 1) zm_78 21 [] [] (mH h s) Q := by
  unfold mf_78_21 at hf
  cases hf
  exact mb_78_21 hh  k
def mf_78_23 (N : Nat) (x1 : Int32) (s : mS) : mO := if ¬ ((2410 * x1) < 0 ∨ 166300 ≤ Int32.toNatClampNeg (2410 * x1)) then (some ((mA s 47 (upd (s.2.2.1 47) (Int32.toNatClampNeg (2410 * x1)) (-1))), (some (.int 1)))) else none
theorem mr_78_23 {X : Nat → Option zz_C} {h : zz_H} (hh : 111 ≤ h.length) {d : Nat} {N : Nat} {Q : Option Value → zz_H → Prop} {x1 : Int32} {s s' : mS} {v : Option Value} (hf : mf_78_23 N x1 s = some (s', v)) (k : Q v (mH h s')) : zz_E zp_P zt_tf zt_fd X (d + 1) zm_78 23 [(0, .ref 61), (1, .int x1)] [] (mH h s) Q := by
  unfold mf_78_23 at hf
  obtain ⟨q0, hf⟩ := mo_if hf
  cases hf
  exact mb_78_23 hh q0 k
def mf_78_7 (N : Nat) (x1 : Int32) (s : mS) : mO := if ¬ ((2410 * x1) < 0 ∨ 166300 ≤ Int32.toNatClampNeg (2410 * x1)) then (if ¬ ((s.2.2.1 47) (Int32.toNatClampNeg (2410 * x1))) = (-1) then mf_78_23 N x1 s else mf_78_21 N  s) else none
theorem mr_78_7 {X : Nat → Option zz_C} {h : zz_H} (hh : 111 ≤ h.length) {d : Nat} {N : Nat} {Q : Option Value → zz_H → Prop} {x1 : Int32} {s s' : mS} {v : Option Value} (hf : mf_78_7 N x1 s = some (s', v)) (k : Q v (mH h s')) : zz_E zp_P zt_tf zt_fd X (d + 1) zm_78 7 [(0, .ref 61), (1, .int x1)] [] (mH h s) Q := by
  unfold mf_78_7 at hf
  obtain ⟨q0, hf⟩ := mo_if hf
  refine mb_78_7 hh q0 (fun c => ?_) (fun c => ?_)
  · rw [if_pos c] at hf
    exact mr_78_23 hh hf k
  · rw [if_neg c] at hf
    exact mr_78_21 hh hf k
def mf_78_4 (N : Nat) (x1 : Int32) (y0 : Int32) (s : mS) : mO := if y0 = 0 then mf_78_21 N  s else mf_78_7 N x1 s
theorem mr_78_4 {X : Nat → Option zz_C} {h : zz_H} (hh : 111 ≤ h.length) {d : Nat} {N : Nat} {Q : Option Value → zz_H → Prop} {x1 : Int32} {y0 : Int32} {s s' : mS} {v : Option Value} (hf : mf_78_4 N x1 y0 s = some (s', v)) (k : Q v (mH h s')) : zz_E zp_P zt_tf zt_fd X (d + 1) zm_78 4 [(0, .ref 61), (1, .int x1)] [.int y0] (mH h s) Q := by
  unfold mf_78_4 at hf
  refine mb_78_4 hh  (fun c => ?_) (fun c => ?_)
  · rw [if_pos c] at hf
    exact mr_78_21 hh hf k
  · rw [if_neg c] at hf
    exact mr_78_7 hh hf k
def mf_78_0 (N : Nat) (x1 : Int32) (s : mS) : mO := mo_bi (mf_73 N x1 s) (fun s1 y => mf_78_4 N x1 y s1)
theorem mr_78_0 {X : Nat → Option zz_C} {h : zz_H} (hh : 111 ≤ h.length) {d : Nat} {N : Nat} {Q : Option Value → zz_H → Prop} {x1 : Int32} {s s' : mS} {v : Option Value} (hf : mf_78_0 N x1 s = some (s', v)) (k : Q v (mH h s')) : zz_E zp_P zt_tf zt_fd X (d + 1) zm_78 0 [(0, .ref 61), (1, .int x1)] [] (mH h s) Q := by
  unfold mf_78_0 at hf
  obtain ⟨s1, y, e, hf⟩ := mo_bi_ok hf
  exact mb_78_0 (d := d + 0) hh  (mr_73 (d := d + 0) hh e (mr_78_4 hh hf k))
/-- clear -/
def mf_78 (N : Nat) (x1 : Int32) (s : mS) : mO := mf_78_0 N x1 s
theorem mr_78 {X : Nat → Option zz_C} {h : zz_H} (hh : 111 ≤ h.length) {d : Nat} {N : Nat} {Q : Option Value → zz_H → Prop} {x1 : Int32} {s s' : mS} {v : Option Value} (hf : mf_78 N x1 s = some (s', v)) (k : Q v (mH h s')) : zz_E zp_P zt_tf zt_fd X (d + 1) zm_78 0 [(0, .ref 61), (1, .int x1)] [] (mH h s) Q := by
  unfold mf_78 at hf
  exact zz_E.weak (mr_78_0 hh hf k) rfl ⟨rfl, rfl, trivial⟩
/-! kind (I)I -/
theorem mb_79_0 {X : Nat → Option zz_C} {h : zz_H} (hh : 111 ≤ h.length) {s : mS} {d : Nat} {Q : Option Value → zz_H → Prop} {x1 : Int32} (k : zz_E zp_P zt_tf zt_fd X d zm_73 0 [(0, .int x1)] [] (mH h s) (fun v h' => zz_E zp_P zt_tf zt_fd X (d + 1) zm_79 4 [(0, .ref 61), (1, .int x1)] (v.toList ++ []) h' Q)) : zz_E zp_P zt_tf zt_fd X (d + 1) zm_79 0 [(0, .ref 61), (1, .int x1)] [] (mH h s) Q := by
  refine zz_E.n 1 rfl rfl rfl ?_
  refine zz_E.cl (M' := zm_73) 4 rfl rfl (by decide) rfl rfl ⟨rfl, Nat.le_of_ble_eq_true rfl⟩ rfl ?_
  refine zz_E.mono k ?_
  intro v h' hE
  exact zz_E.weak hE rfl ⟨rfl, rfl, trivial⟩
theorem mb_79_4 {X : Nat → Option zz_C} {h : zz_H} (hh : 111 ≤ h.length) {s : mS} {d : Nat} {Q : Option Value → zz_H → Prop} {x1 : Int32} {y0 : Int32} (k1 : y0 = 0 → zz_E zp_P zt_tf zt_fd X d zm_79 20 [] [] (mH h s) Q) (k2 : ¬ y0 = 0 → zz_E zp_P zt_tf zt_fd X d zm_79 7 [(0, .ref 61), (1, .int x1)] [] (mH h s) Q) : zz_E zp_P zt_tf zt_fd X d zm_79 4 [(0, .ref 61), (1, .int x1)] [.int y0] (mH h s) Q := by
  refine zz_E.b1 20 7 (A := y0 = 0) rfl rfl (by decide) rfl rfl (fun c => ?_) (fun c => ?_)
  · exact zz_E.weak (k1 c) rfl trivial
  · exact zz_E.weak (k2 c) rfl ⟨rfl, rfl, trivial⟩
theorem mb_79_7 {X : Nat → Option zz_C} {h : zz_H} (hh : 111 ≤ h.length) {s : mS} {d : Nat} {Q : Option Value → zz_H → Prop} {x1 : Int32} (i16 : ¬ ((2410 * x1) < 0 ∨ 166300 ≤ Int32.toNatClampNeg (2410 * x1))) (k : zz_E zp_P zt_tf zt_fd X d zm_79 21 [] [.int ((s.2.2.1 47) (Int32.toNatClampNeg (2410 * x1)))] (mH h s) Q) : zz_E zp_P zt_tf zt_fd X d zm_79 7 [(0, .ref 61), (1, .int x1)] [] (mH h s) Q := by
  refine zz_E.n 8 rfl rfl rfl ?_
  refine mE_g hh 11 (v := .ref 89) rfl rfl rfl ?_
  refine zz_E.c 14 (.int 2410) rfl rfl rfl rfl ?_
  refine zz_E.n 15 rfl rfl rfl ?_
  refine zz_E.n 16 rfl rfl rfl ?_
  refine mE_ia hh 17 28 (f := (s.2.2.1 47)) rfl (by decide) rfl rfl i16 rfl ?_
  refine zz_E.n 21 rfl rfl rfl ?_
  exact zz_E.weak k rfl trivial
theorem mb_79_20 {X : Nat → Option zz_C} {h : zz_H} (hh : 111 ≤ h.length) {s : mS} {d : Nat} {Q : Option Value → zz_H → Prop}  (k : zz_E zp_P zt_tf zt_fd X d zm_79 21 [] [.int (-1)] (mH h s) Q) : zz_E zp_P zt_tf zt_fd X d zm_79 20 [] [] (mH h s) Q := by
  refine zz_E.c 21 (.int (-1)) rfl rfl rfl rfl ?_
  exact zz_E.weak k rfl trivial
theorem mb_79_21 {X : Nat → Option zz_C} {h : zz_H} (hh : 111 ≤ h.length) {s : mS} {d : Nat} {Q : Option Value → zz_H → Prop} {y0 : Int32} (k : Q (some (.int y0)) (mH h s)) : zz_E zp_P zt_tf zt_fd X d zm_79 21 [] [.int y0] (mH h s) Q := by
  refine zz_E.ret rfl rfl rfl ?_
  exact k
def mf_79_21 (N : Nat) (y0 : Int32) (s : mS) : mO := some (s, (some (.int y0)))
theorem mr_79_21 {X : Nat → Option zz_C} {h : zz_H} (hh : 111 ≤ h.length) {d : Nat} {N : Nat} {Q : Option Value → zz_H → Prop} {y0 : Int32} {s s' : mS} {v : Option Value} (hf : mf_79_21 N y0 s = some (s', v)) (k : Q v (mH h s')) : zz_E zp_P zt_tf zt_fd X (d + 1) zm_79 21 [] [.int y0] (mH h s) Q := by
  unfold mf_79_21 at hf
  cases hf
  exact mb_79_21 hh  k
def mf_79_20 (N : Nat)  (s : mS) : mO := mf_79_21 N (-1) s
theorem mr_79_20 {X : Nat → Option zz_C} {h : zz_H} (hh : 111 ≤ h.length) {d : Nat} {N : Nat} {Q : Option Value → zz_H → Prop}  {s s' : mS} {v : Option Value} (hf : mf_79_20 N  s = some (s', v)) (k : Q v (mH h s')) : zz_E zp_P zt_tf zt_fd X (d + 1) zm_79 20 [] [] (mH h s) Q := by
  unfold mf_79_20 at hf
  exact mb_79_20 hh  (mr_79_21 hh hf k)
def mf_79_7 (N : Nat) (x1 : Int32) (s : mS) : mO := if ¬ ((2410 * x1) < 0 ∨ 166300 ≤ Int32.toNatClampNeg (2410 * x1)) then (mf_79_21 N ((s.2.2.1 47) (Int32.toNatClampNeg (2410 * x1))) s) else none
theorem mr_79_7 {X : Nat → Option zz_C} {h : zz_H} (hh : 111 ≤ h.length) {d : Nat} {N : Nat} {Q : Option Value → zz_H → Prop} {x1 : Int32} {s s' : mS} {v : Option Value} (hf : mf_79_7 N x1 s = some (s', v)) (k : Q v (mH h s')) : zz_E zp_P zt_tf zt_fd X (d + 1) zm_79 7 [(0, .ref 61), (1, .int x1)] [] (mH h s) Q := by
  unfold mf_79_7 at hf
  obtain ⟨q0, hf⟩ := mo_if hf
  exact mb_79_7 hh q0 (mr_79_21 hh hf k)
def mf_79_4 (N : Nat) (x1 : Int32) (y0 : Int32) (s : mS) : mO := if y0 = 0 then mf_79_20 N  s else mf_79_7 N x1 s
theorem mr_79_4 {X : Nat → Option zz_C} {h : zz_H} (hh : 111 ≤ h.length) {d : Nat} {N : Nat} {Q : Option Value → zz_H → Prop} {x1 : Int32} {y0 : Int32} {s s' : mS} {v : Option Value} (hf : mf_79_4 N x1 y0 s = some (s', v)) (k : Q v (mH h s')) : zz_E zp_P zt_tf zt_fd X (d + 1) zm_79 4 [(0, .ref 61), (1, .int x1)] [.int y0] (mH h s) Q := by
  unfold mf_79_4 at hf
  refine mb_79_4 hh  (fun c => ?_) (fun c => ?_)
  · rw [if_pos c] at hf
    exact mr_79_20 hh hf k
  · rw [if_neg c] at hf
    exact mr_79_7 hh hf k
def mf_79_0 (N : Nat) (x1 : Int32) (s : mS) : mO := mo_bi (mf_73 N x1 s) (fun s1 y => mf_79_4 N x1 y s1)
theorem mr_79_0 {X : Nat → Option zz_C} {h : zz_H} (hh : 111 ≤ h.length) {d : Nat} {N : Nat} {Q : Option Value → zz_H → Prop} {x1 : Int32} {s s' : mS} {v : Option Value} (hf : mf_79_0 N x1 s = some (s', v)) (k : Q v (mH h s')) : zz_E zp_P zt_tf zt_fd X (d + 1) zm_79 0 [(0, .ref 61), (1, .int x1)] [] (mH h s) Q := by
  unfold mf_79_0 at hf
  obtain ⟨s1, y, e, hf⟩ := mo_bi_ok hf
  exact mb_79_0 (d := d + 0) hh  (mr_73 (d := d + 0) hh e (mr_79_4 hh hf k))
/-- kind -/
def mf_79 (N : Nat) (x1 : Int32) (s : mS) : mO := mf_79_0 N x1 s
theorem mr_79 {X : Nat → Option zz_C} {h : zz_H} (hh : 111 ≤ h.length) {d : Nat} {N : Nat} {Q : Option Value → zz_H → Prop} {x1 : Int32} {s s' : mS} {v : Option Value} (hf : mf_79 N x1 s = some (s', v)) (k : Q v (mH h s')) : zz_E zp_P zt_tf zt_fd X (d + 1) zm_79 0 [(0, .ref 61), (1, .int x1)] [] (mH h s) Q := by
  unfold mf_79 at hf
  exact zz_E.weak (mr_79_0 hh hf k) rfl ⟨rfl, rfl, trivial⟩
/-! size (II)I -/
theorem mb_80_0 {X : Nat → Option zz_C} {h : zz_H} (hh : 111 ≤ h.length) {s : mS} {d : Nat} {Q : Option Value → zz_H → Prop} {x1 : Int32} {x2 : Int32} (k : zz_E zp_P zt_tf zt_fd X d zm_79 0 [(0, .ref 61), (1, .int x1)] [] (mH h s) (fun v h' => zz_E zp_P zt_tf zt_fd X (d + 1) zm_80 5 [(0, .ref 61), (1, .int x1), (2, .int x2)] (v.toList ++ []) h' Q)) : zz_E zp_P zt_tf zt_fd X (d + 1) zm_80 0 [(0, .ref 61), (1, .int x1), (2, .int x2)] [] (mH h s) Q := by
  refine zz_E.n 1 rfl rfl rfl ?_
  refine zz_E.n 2 rfl rfl rfl ?_
  refine mE_cv hh 5 (as := []) rfl rfl (Nat.le_of_ble_eq_true rfl) (Nat.le_of_ble_eq_true rfl) rfl (Nat.le_of_ble_eq_true rfl) rfl ?_
  refine zz_E.mono k ?_
  intro v h' hE
  exact zz_E.weak hE rfl ⟨rfl, rfl, rfl, trivial⟩
theorem mb_80_5 {X : Nat → Option zz_C} {h : zz_H} (hh : 111 ≤ h.length) {s : mS} {d : Nat} {Q : Option Value → zz_H → Prop} {x1 : Int32} {x2 : Int32} {y0 : Int32} (k1 : 0 ≤ y0 → zz_E zp_P zt_tf zt_fd X d zm_80 12 [(0, .ref 61), (1, .int x1), (2, .int x2), (3, .int y0)] [] (mH h s) Q) (k2 : ¬ 0 ≤ y0 → zz_E zp_P zt_tf zt_fd X d zm_80 10 [] [] (mH h s) Q) : zz_E zp_P zt_tf zt_fd X d zm_80 5 [(0, .ref 61), (1, .int x1), (2, .int x2)] [.int y0] (mH h s) Q := by
  refine zz_E.n 6 rfl rfl rfl ?_
  refine zz_E.n 7 rfl rfl rfl ?_
  refine zz_E.b1 12 10 (A := 0 ≤ y0) rfl rfl (by decide) rfl rfl (fun c => ?_) (fun c => ?_)
  · exact zz_E.weak (k1 c) rfl ⟨rfl, rfl, rfl, rfl, trivial⟩
  · exact zz_E.weak (k2 c) rfl trivial
theorem mb_80_10 {X : Nat → Option zz_C} {h : zz_H} (hh : 111 ≤ h.length) {s : mS} {d : Nat} {Q : Option Value → zz_H → Prop}  (k : Q (some (.int (-1))) (mH h s)) : zz_E zp_P zt_tf zt_fd X d zm_80 10 [] [] (mH h s) Q := by
  refine zz_E.c 11 (.int (-1)) rfl rfl rfl rfl ?_
  refine zz_E.ret rfl rfl rfl ?_
  exact k
theorem mb_80_12 {X : Nat → Option zz_C} {h : zz_H} (hh : 111 ≤ h.length) {s : mS} {d : Nat} {Q : Option Value → zz_H → Prop} {x1 : Int32} {x2 : Int32} {x3 : Int32} (k1 : ¬ x2 = (-1) → zz_E zp_P zt_tf zt_fd X d zm_80 39 [(0, .ref 61), (2, .int x2), (3, .int x3), (4, .int (2410 * x1))] [] (mH h s) Q) (k2 : ¬ ¬ x2 = (-1) → zz_E zp_P zt_tf zt_fd X d zm_80 24 [(0, .ref 61), (3, .int x3), (4, .int (2410 * x1))] [] (mH h s) Q) : zz_E zp_P zt_tf zt_fd X d zm_80 12 [(0, .ref 61), (1, .int x1), (2, .int x2), (3, .int x3)] [] (mH h s) Q := by
  refine zz_E.c 15 (.int 2410) rfl rfl rfl rfl ?_
  refine zz_E.n 16 rfl rfl rfl ?_
  refine zz_E.n 17 rfl rfl rfl ?_
  refine zz_E.n 19 rfl rfl rfl ?_
  refine zz_E.n 20 rfl rfl rfl ?_
  refine zz_E.c 21 (.int (-1)) rfl rfl rfl rfl ?_
  refine zz_E.b2 39 24 (A := ¬ x2 = (-1)) rfl (zz_cond_ne _ _) (by decide) rfl rfl (fun c => ?_) (fun c => ?_)
  · exact zz_E.weak (k1 c) rfl ⟨rfl, rfl, rfl, rfl, trivial⟩
  · exact zz_E.weak (k2 c) rfl ⟨rfl, rfl, rfl, trivial⟩
theorem mb_80_24 {X : Nat → Option zz_C} {h : zz_H} (hh : 111 ≤ h.length) {s : mS} {d : Nat} {Q : Option Value → zz_H → Prop} {x3 : Int32} {x4 : Int32} (k1 : ¬ x3 = 0 → zz_E zp_P zt_tf zt_fd X d zm_80 32 [(0, .ref 61), (4, .int x4)] [] (mH h s) Q) (k2 : ¬ ¬ x3 = 0 → zz_E zp_P zt_tf zt_fd X d zm_80 28 [] [] (mH h s) Q) : zz_E zp_P zt_tf zt_fd X d zm_80 24 [(0, .ref 61), (3, .int x3), (4, .int x4)] [] (mH h s) Q := by
  refine zz_E.n 25 rfl rfl rfl ?_
  refine zz_E.b1 32 28 (A := ¬ x3 = 0) rfl (zz_cond_ne _ _) (by decide) rfl rfl (fun c => ?_) (fun c => ?_)
  · exact zz_E.weak (k1 c) rfl ⟨rfl, rfl, trivial⟩
  · exact zz_E.weak (k2 c) rfl trivial
theorem mb_80_28 {X : Nat → Option zz_C} {h : zz_H} (hh : 111 ≤ h.length) {s : mS} {d : Nat} {Q : Option Value → zz_H → Prop}  (k : zz_E zp_P zt_tf zt_fd X d zm_80 38 [] [.int 0] (mH h s) Q) : zz_E zp_P zt_tf zt_fd X d zm_80 28 [] [] (mH h s) Q := by
  refine zz_E.c 29 (.int 0) rfl rfl rfl rfl ?_
  refine zz_E.n 38 rfl rfl rfl ?_
  exact zz_E.weak k rfl trivial
theorem mb_80_32 {X : Nat → Option zz_C} {h : zz_H} (hh : 111 ≤ h.length) {s : mS} {d : Nat} {Q : Option Value → zz_H → Prop} {x4 : Int32} (k : zz_E zp_P zt_tf zt_fd X d zm_77 0 [(0, .ref 61), (1, .int x4)] [] (mH h s) (fun v h' => zz_E zp_P zt_tf zt_fd X (d + 1) zm_80 38 [] (v.toList ++ []) h' Q)) : zz_E zp_P zt_tf zt_fd X (d + 1) zm_80 32 [(0, .ref 61), (4, .int x4)] [] (mH h s) Q := by
  refine zz_E.n 33 rfl rfl rfl ?_
  refine zz_E.n 35 rfl rfl rfl ?_
  refine mE_cv hh 38 (as := []) rfl rfl (Nat.le_of_ble_eq_true rfl) (Nat.le_of_ble_eq_true rfl) rfl (Nat.le_of_ble_eq_true rfl) rfl ?_
  refine zz_E.mono k ?_
  intro v h' hE
  exact zz_E.weak hE rfl trivial
theorem mb_80_38 {X : Nat → Option zz_C} {h : zz_H} (hh : 111 ≤ h.length) {s : mS} {d : Nat} {Q : Option Value → zz_H → Prop} {y0 : Int32} (k : Q (some (.int y0)) (mH h s)) : zz_E zp_P zt_tf zt_fd X d zm_80 38 [] [.int y0] (mH h s) Q := by
  refine zz_E.ret rfl rfl rfl ?_
  exact k
theorem mb_80_39 {X : Nat → Option zz_C} {h : zz_H} (hh : 111 ≤ h.length) {s : mS} {d : Nat} {Q : Option Value → zz_H → Prop} {x2 : Int32} {x3 : Int32} {x4 : Int32} (k1 : x3 < 2 → zz_E zp_P zt_tf zt_fd X d zm_80 58 [] [] (mH h s) Q) (k2 : ¬ x3 < 2 → zz_E zp_P zt_tf zt_fd X d zm_80 44 [(0, .ref 61), (2, .int x2), (3, .int x3), (4, .int x4)] [] (mH h s) Q) : zz_E zp_P zt_tf zt_fd X d zm_80 39 [(0, .ref 61), (2, .int x2), (3, .int x3), (4, .int x4)] [] (mH h s) Q := by
  refine zz_E.n 40 rfl rfl rfl ?_
  refine zz_E.c 41 (.int 2) rfl rfl rfl rfl ?_
  refine zz_E.b2 58 44 (A := x3 < 2) rfl rfl (by decide) rfl rfl (fun c => ?_) (fun c => ?_)
  · exact zz_E.weak (k1 c) rfl trivial
  · exact zz_E.weak (k2 c) rfl ⟨rfl, rfl, rfl, rfl, trivial⟩
theorem mb_80_44 {X : Nat → Option zz_C} {h : zz_H} (hh : 111 ≤ h.length) {s : mS} {d : Nat} {Q : Option Value → zz_H → Prop} {x2 : Int32} {x3 : Int32} {x4 : Int32} (k1 : x2 < 0 → zz_E zp_P zt_tf zt_fd X d zm_80 58 [] [] (mH h s) Q) (k2 : ¬ x2 < 0 → zz_E zp_P zt_tf zt_fd X d zm_80 48 [(0, .ref 61), (2, .int x2), (3, .int x3), (4, .int x4)] [] (mH h s) Q) : zz_E zp_P zt_tf zt_fd X d zm_80 44 [(0, .ref 61), (2, .int x2), (3, .int x3), (4, .int x4)] [] (mH h s) Q := by
  refine zz_E.n 45 rfl rfl rfl ?_
  refine zz_E.b1 58 48 (A := x2 < 0) rfl rfl (by decide) rfl rfl (fun c => ?_) (fun c => ?_)
  · exact zz_E.weak (k1 c) rfl trivial
  · exact zz_E.weak (k2 c) rfl ⟨rfl, rfl, rfl, rfl, trivial⟩
theorem mb_80_48 {X : Nat → Option zz_C} {h : zz_H} (hh : 111 ≤ h.length) {s : mS} {d : Nat} {Q : Option Value → zz_H → Prop} {x2 : Int32} {x3 : Int32} {x4 : Int32} (k : zz_E zp_P zt_tf zt_fd X d zm_77 0 [(0, .ref 61), (1, .int x4)] [] (mH h s) (fun v h' => zz_E zp_P zt_tf zt_fd X (d + 1) zm_80 55 [(0, .ref 61), (2, .int x2), (3, .int x3), (4, .int x4)] (v.toList ++ [.int x2]) h' Q)) : zz_E zp_P zt_tf zt_fd X (d + 1) zm_80 48 [(0, .ref 61), (2, .int x2), (3, .int x3), (4, .int x4)] [] (mH h s) Q := by
  refine zz_E.n 49 rfl rfl rfl ?_
  refine zz_E.n 50 rfl rfl rfl ?_
  refine zz_E.n 52 rfl rfl rfl ?_
  refine mE_cv hh 55 (as := [.int x2]) rfl rfl (Nat.le_of_ble_eq_true rfl) (Nat.le_of_ble_eq_true rfl) rfl (Nat.le_of_ble_eq_true rfl) rfl ?_
  refine zz_E.mono k ?_
  intro v h' hE
  exact zz_E.weak hE rfl ⟨rfl, rfl, rfl, rfl, trivial⟩
theorem mb_80_55 {X : Nat → Option zz_C} {h : zz_H} (hh : 111 ≤ h.length) {s : mS} {d : Nat} {Q : Option Value → zz_H → Prop} {x2 : Int32} {x3 : Int32} {x4 : Int32} {y0 : Int32} {y1 : Int32} (k1 : y0 < y1 → zz_E zp_P zt_tf zt_fd X d zm_80 60 [(0, .ref 61), (2, .int x2), (3, .int x3), (4, .int x4)] [] (mH h s) Q) (k2 : ¬ y0 < y1 → zz_E zp_P zt_tf zt_fd X d zm_80 58 [] [] (mH h s) Q) : zz_E zp_P zt_tf zt_fd X d zm_80 55 [(0, .ref 61), (2, .int x2), (3, .int x3), (4, .int x4)] [.int y1, .int y0] (mH h s) Q := by
  refine zz_E.b2 60 58 (A := y0 < y1) rfl rfl (by decide) rfl rfl (fun c => ?_) (fun c => ?_)
  · exact zz_E.weak (k1 c) rfl ⟨rfl, rfl, rfl, rfl, trivial⟩
  · exact zz_E.weak (k2 c) rfl trivial
theorem mb_80_58 {X : Nat → Option zz_C} {h : zz_H} (hh : 111 ≤ h.length) {s : mS} {d : Nat} {Q : Option Value → zz_H → Prop}  (k : Q (some (.int (-1))) (mH h s)) : zz_E zp_P zt_tf zt_fd X d zm_80 58 [] [] (mH h s) Q := by
  refine zz_E.c 59 (.int (-1)) rfl rfl rfl rfl ?_
  refine zz_E.ret rfl rfl rfl ?_
  exact k
theorem mb_80_60 {X : Nat → Option zz_C} {h : zz_H} (hh : 111 ≤ h.length) {s : mS} {d : Nat} {Q : Option Value → zz_H → Prop} {x2 : Int32} {x3 : Int32} {x4 : Int32} (k1 : ¬ x3 = 2 → zz_E zp_P zt_tf zt_fd X d zm_80 77 [(0, .ref 61), (2, .int x2), (4, .int x4)] [] (mH h s) Q) (k2 : ¬ ¬ x3 = 2 → zz_E zp_P zt_tf zt_fd X d zm_80 65 [(0, .ref 61), (2, .int x2), (4, .int x4)] [] (mH h s) Q) : zz_E zp_P zt_tf zt_fd X d zm_80 60 [(0, .ref 61), (2, .int x2), (3, .int x3), (4, .int x4)] [] (mH h s) Q := by
  refine zz_E.n 61 rfl rfl rfl ?_
  refine zz_E.c 62 (.int 2) rfl rfl rfl rfl ?_
  refine zz_E.b2 77 65 (A := ¬ x3 = 2) rfl (zz_cond_ne _ _) (by decide) rfl rfl (fun c => ?_) (fun c => ?_)
  · exact zz_E.weak (k1 c) rfl ⟨rfl, rfl, rfl, trivial⟩
  · exact zz_E.weak (k2 c) rfl ⟨rfl, rfl, rfl, trivial⟩
theorem mb_80_65 {X : Nat → Option zz_C} {h : zz_H} (hh : 111 ≤ h.length) {s : mS} {d : Nat} {Q : Option Value → zz_H → Prop} {x2 : Int32} {x4 : Int32} (k : zz_E zp_P zt_tf zt_fd X d zm_294 0 [(0, .ref 61), (1, .int x4), (2, .int x2)] [] (mH h s) (fun v h' => zz_E zp_P zt_tf zt_fd X (d + 1) zm_80 73 [] (v.toList ++ [.ref 61]) h' Q)) : zz_E zp_P zt_tf zt_fd X (d + 1) zm_80 65 [(0, .ref 61), (2, .int x2), (4, .int x4)] [] (mH h s) Q := by
  refine zz_E.n 66 rfl rfl rfl ?_
  refine zz_E.n 67 rfl rfl rfl ?_
  refine zz_E.n 69 rfl rfl rfl ?_
  refine zz_E.n 70 rfl rfl rfl ?_
  refine mE_cv hh 73 (as := [.ref 61]) rfl rfl (Nat.le_of_ble_eq_true rfl) (Nat.le_of_ble_eq_true rfl) rfl (Nat.le_of_ble_eq_true rfl) rfl ?_
  refine zz_E.mono k ?_
  intro v h' hE
  exact zz_E.weak hE rfl trivial
theorem mb_80_73 {X : Nat → Option zz_C} {h : zz_H} (hh : 111 ≤ h.length) {s : mS} {d : Nat} {Q : Option Value → zz_H → Prop} {y1 : Int32} (k : zz_E zp_P zt_tf zt_fd X d zm_77 0 [(0, .ref 61), (1, .int y1)] [] (mH h s) (fun v h' => zz_E zp_P zt_tf zt_fd X (d + 1) zm_80 76 [] (v.toList ++ []) h' Q)) : zz_E zp_P zt_tf zt_fd X (d + 1) zm_80 73 [] [.int y1, .ref 61] (mH h s) Q := by
  refine mE_cv hh 76 (as := []) rfl rfl (Nat.le_of_ble_eq_true rfl) (Nat.le_of_ble_eq_true rfl) rfl (Nat.le_of_ble_eq_true rfl) rfl ?_
  refine zz_E.mono k ?_
  intro v h' hE
  exact zz_E.weak hE rfl trivial
theorem mb_80_76 {X : Nat → Option zz_C} {h : zz_H} (hh : 111 ≤ h.length) {s : mS} {d : Nat} {Q : Option Value → zz_H → Prop} {y0 : Int32} (k : Q (some (.int y0)) (mH h s)) : zz_E zp_P zt_tf zt_fd X d zm_80 76 [] [.int y0] (mH h s) Q := by
  refine zz_E.ret rfl rfl rfl ?_
  exact k
theorem mb_80_77 {X : Nat → Option zz_C} {h : zz_H} (hh : 111 ≤ h.length) {s : mS} {d : Nat} {Q : Option Value → zz_H → Prop} {x2 : Int32} {x4 : Int32} (k : zz_E zp_P zt_tf zt_fd X d zm_293 0 [(0, .ref 61), (1, .int x4), (2, .int x2)] [] (mH h s) (fun v h' => zz_E zp_P zt_tf zt_fd X (d + 1) zm_80 84 [(0, .ref 61), (2, .int x2), (4, .int x4)] (v.toList ++ []) h' Q)) : zz_E zp_P zt_tf zt_fd X (d + 1) zm_80 77 [(0, .ref 61), (2, .int x2), (4, .int x4)] [] (mH h s) Q := by
  refine zz_E.n 78 rfl rfl rfl ?_
  refine zz_E.n 80 rfl rfl rfl ?_
  refine zz_E.n 81 rfl rfl rfl ?_
  refine mE_cv hh 84 (as := []) rfl rfl (Nat.le_of_ble_eq_true rfl) (Nat.le_of_ble_eq_true rfl) rfl (Nat.le_of_ble_eq_true rfl) rfl ?_
  refine zz_E.mono k ?_
  intro v h' hE
  exact zz_E.weak hE rfl ⟨rfl, rfl, rfl, trivial⟩
theorem mb_80_84 {X : Nat → Option zz_C} {h : zz_H} (hh : 111 ≤ h.length) {s : mS} {d : Nat} {Q : Option Value → zz_H → Prop} {x2 : Int32} {x4 : Int32} {y0 : Int32} (k1 : y0 = 0 → zz_E zp_P zt_tf zt_fd X d zm_80 91 [(0, .ref 61), (2, .int x2), (4, .int x4)] [] (mH h s) Q) (k2 : ¬ y0 = 0 → zz_E zp_P zt_tf zt_fd X d zm_80 87 [] [] (mH h s) Q) : zz_E zp_P zt_tf zt_fd X d zm_80 84 [(0, .ref 61), (2, .int x2), (4, .int x4)] [.int y0] (mH h s) Q := by
  refine zz_E.b1 91 87 (A := y0 = 0) rfl rfl (by decide) rfl rfl (fun c => ?_) (fun c => ?_)
  · exact zz_E.weak (k1 c) rfl ⟨rfl, rfl, rfl, trivial⟩
  · exact zz_E.weak (k2 c) rfl trivial
theorem mb_80_87 {X : Nat → Option zz_C} {h : zz_H} (hh : 111 ≤ h.length) {s : mS} {d : Nat} {Q : Option Value → zz_H → Prop}  (k : zz_E zp_P zt_tf zt_fd X d zm_80 103 [] [.int 0] (mH h s) Q) : zz_E zp_P zt_tf zt_fd X d zm_80 87 [] [] (mH h s) Q := by
  refine zz_E.c 88 (.int 0) rfl rfl rfl rfl ?_
  refine zz_E.n 103 rfl rfl rfl ?_
  exact zz_E.weak k rfl trivial
theorem mb_80_91 {X : Nat → Option zz_C} {h : zz_H} (hh : 111 ≤ h.length) {s : mS} {d : Nat} {Q : Option Value → zz_H → Prop} {x2 : Int32} {x4 : Int32} (k : zz_E zp_P zt_tf zt_fd X d zm_294 0 [(0, .ref 61), (1, .int x4), (2, .int x2)] [] (mH h s) (fun v h' => zz_E zp_P zt_tf zt_fd X (d + 1) zm_80 102 [] (v.toList ++ [.ref 89]) h' Q)) : zz_E zp_P zt_tf zt_fd X (d + 1) zm_80 91 [(0, .ref 61), (2, .int x2), (4, .int x4)] [] (mH h s) Q := by
  refine zz_E.n 92 rfl rfl rfl ?_
  refine mE_g hh 95 (v := .ref 89) rfl rfl rfl ?_
  refine zz_E.n 96 rfl rfl rfl ?_
  refine zz_E.n 98 rfl rfl rfl ?_
  refine zz_E.n 99 rfl rfl rfl ?_
  refine mE_cv hh 102 (as := [.ref 89]) rfl rfl (Nat.le_of_ble_eq_true rfl) (Nat.le_of_ble_eq_true rfl) rfl (Nat.le_of_ble_eq_true rfl) rfl ?_
  refine zz_E.mono k ?_
  intro v h' hE
  exact zz_E.weak hE rfl trivial
theorem mb_80_102 {X : Nat → Option zz_C} {h : zz_H} (hh : 111 ≤ h.length) {s : mS} {d : Nat} {Q : Option Value → zz_H → Prop} {y1 : Int32} (i102 : ¬ (y1 < 0 ∨ 166300 ≤ Int32.toNatClampNeg y1)) (k : zz_E zp_P zt_tf zt_fd X d zm_80 103 [] [.int ((s.2.2.1 47) (Int32.toNatClampNeg y1))] (mH h s) Q) : zz_E zp_P zt_tf zt_fd X d zm_80 102 [] [.int y1, .ref 89] (mH h s) Q := by
  refine mE_ia hh 103 28 (f := (s.2.2.1 47)) rfl (by decide) rfl rfl i102 rfl ?_
  exact zz_E.weak k rfl trivial
theorem mb_80_103 {X : Nat → Option zz_C} {h : zz_H} (hh : 111 ≤ h.length) {s : mS} {d : Nat} {Q : Option Value → zz_H → Prop} {y0 : Int32} (k : Q (some (.int y0)) (mH h s)) : zz_E zp_P zt_tf zt_fd X d zm_80 103 [] [.int y0] (mH h s) Q := by
  refine zz_E.ret rfl rfl rfl ?_
  exact k
def mf_80_58 (N : Nat)  (s : mS) : mO := some (s, (some (.int (-1))))
theorem mr_80_58 {X : Nat → Option zz_C} {h : zz_H} (hh : 111 ≤ h.length) {d : Nat} {N : Nat} {Q : Option Value → zz_H → Prop}  {s s' : mS} {v : Option Value} (hf : mf_80_58 N  s = some (s', v)) (k : Q v (mH h s')) : zz_E zp_P zt_tf zt_fd X (d + 2) zm_80 58 [] [] (mH h s) Q := by
  unfold mf_80_58 at hf
  cases hf
  exact mb_80_58 hh  k
def mf_80_103 (N : Nat) (y0 : Int32) (s : mS) : mO := some (s, (some (.int y0)))
theorem mr_80_103 {X : Nat → Option zz_C} {h : zz_H} (hh : 111 ≤ h.length) {d : Nat} {N : Nat} {Q : Option Value → zz_H → Prop} {y0 : Int32} {s s' : mS} {v : Option Value} (hf : mf_80_103 N y0 s = some (s', v)) (k : Q v (mH h s')) : zz_E zp_P zt_tf zt_fd X (d + 2) zm_80 103 [] [.int y0] (mH h s) Q := by
  unfold mf_80_103 at hf
  cases hf
  exact mb_80_103 hh  k
def mf_80_102 (N : Nat) (y1 : Int32) (s : mS) : mO := if ¬ (y1 < 0 ∨ 166300 ≤ Int32.toNatClampNeg y1) then (mf_80_103 N ((s.2.2.1 47) (Int32.toNatClampNeg y1)) s) else none
theorem mr_80_102 {X : Nat → Option zz_C} {h : zz_H} (hh : 111 ≤ h.length) {d : Nat} {N : Nat} {Q : Option Value → zz_H → Prop} {y1 : Int32} {s s' : mS} {v : Option Value} (hf : mf_80_102 N y1 s = some (s', v)) (k : Q v (mH h s')) : zz_E zp_P zt_tf zt_fd X (d + 2) zm_80 102 [] [.int y1, .ref 89] (mH h s) Q := by
  unfold mf_80_102 at hf
  obtain ⟨q0, hf⟩ := mo_if hf
  exact mb_80_102 hh q0 (mr_80_103 hh hf k)
def mf_80_91 (N : Nat) (x2 : Int32) (x4 : Int32) (s : mS) : mO := mo_bi (mf_294 N x4 x2 s) (fun s1 y => mf_80_102 N y s1)
theorem mr_80_91 {X : Nat → Option zz_C} {h : zz_H} (hh : 111 ≤ h.length) {d : Nat} {N : Nat} {Q : Option Value → zz_H → Prop} {x2 : Int32} {x4 : Int32} {s s' : mS} {v : Option Value} (hf : mf_80_91 N x2 x4 s = some (s', v)) (k : Q v (mH h s')) : zz_E zp_P zt_tf zt_fd X (d + 2) zm_80 91 [(0, .ref 61), (2, .int x2), (4, .int x4)] [] (mH h s) Q := by
  unfold mf_80_91 at hf
  obtain ⟨s1, y, e, hf⟩ := mo_bi_ok hf
  exact mb_80_91 (d := d + 1) hh  (mr_294 (d := d + 1) hh e (mr_80_102 hh hf k))
def mf_80_87 (N : Nat)  (s : mS) : mO := mf_80_103 N 0 s
theorem mr_80_87 {X : Nat → Option zz_C} {h : zz_H} (hh : 111 ≤ h.length) {d : Nat} {N : Nat} {Q : Option Value → zz_H → Prop}  {s s' : mS} {v : Option Value} (hf : mf_80_87 N  s = some (s', v)) (k : Q v (mH h s')) : zz_E zp_P zt_tf zt_fd X (d + 2) zm_80 87 [] [] (mH h s) Q := by
  unfold mf_80_87 at hf
  exact mb_80_87 hh  (mr_80_103 hh hf k)
def mf_80_84 (N : Nat) (x2 : Int32) (x4 : Int32) (y0 : Int32) (s : mS) : mO := if y0 = 0 then mf_80_91 N x2 x4 s else mf_80_87 N  s
theorem mr_80_84 {X : Nat → Option zz_C} {h : zz_H} (hh : 111 ≤ h.length) {d : Nat} {N : Nat} {Q : Option Value → zz_H → Prop} {x2 : Int32} {x4 : Int32} {y0 : Int32} {s s' : mS} {v : Option Value} (hf : mf_80_84 N x2 x4 y0 s = some (s', v)) (k : Q v (mH h s')) : zz_E zp_P zt_tf zt_fd X (d + 2) zm_80 84 [(0, .ref 61), (2, .int x2), (4, .int x4)] [.int y0] (mH h s) Q := by
  unfold mf_80_84 at hf
  refine mb_80_84 hh  (fun c => ?_) (fun c => ?_)
  · rw [if_pos c] at hf
    exact mr_80_91 hh hf k
  · rw [if_neg c] at hf
    exact mr_80_87 hh hf k
def mf_80_77 (N : Nat) (x2 : Int32) (x4 : Int32) (s : mS) : mO := mo_bi (mf_293 N x4 x2 s) (fun s1 y => mf_80_84 N x2 x4 y s1)
theorem mr_80_77 {X : Nat → Option zz_C} {h : zz_H} (hh : 111 ≤ h.length) {d : Nat} {N : Nat} {Q : Option Value → zz_H → Prop} {x2 : Int32} {x4 : Int32} {s s' : mS} {v : Option Value} (hf : mf_80_77 N x2 x4 s = some (s', v)) (k : Q v (mH h s')) : zz_E zp_P zt_tf zt_fd X (d + 2) zm_80 77 [(0, .ref 61), (2, .int x2), (4, .int x4)] [] (mH h s) Q := by
  unfold mf_80_77 at hf
  obtain ⟨s1, y, e, hf⟩ := mo_bi_ok hf
  exact mb_80_77 (d := d + 1) hh  (mr_293 (d := d + 1) hh e (mr_80_84 hh hf k))
def mf_80_76 (N : Nat) (y0 : Int32) (s : mS) : mO := some (s, (some (.int y0)))
theorem mr_80_76 {X : Nat → Option zz_C} {h : zz_H} (hh : 111 ≤ h.length) {d : Nat} {N : Nat} {Q : Option Value → zz_H → Prop} {y0 : Int32} {s s' : mS} {v : Option Value} (hf : mf_80_76 N y0 s = some (s', v)) (k : Q v (mH h s')) : zz_E zp_P zt_tf zt_fd X (d + 2) zm_80 76 [] [.int y0] (mH h s) Q := by
  unfold mf_80_76 at hf
  cases hf
  exact mb_80_76 hh  k
def mf_80_73 (N : Nat) (y1 : Int32) (s : mS) : mO := mo_bi (mf_77 N y1 s) (fun s1 y => mf_80_76 N y s1)
theorem mr_80_73 {X : Nat → Option zz_C} {h : zz_H} (hh : 111 ≤ h.length) {d : Nat} {N : Nat} {Q : Option Value → zz_H → Prop} {y1 : Int32} {s s' : mS} {v : Option Value} (hf : mf_80_73 N y1 s = some (s', v)) (k : Q v (mH h s')) : zz_E zp_P zt_tf zt_fd X (d + 2) zm_80 73 [] [.int y1, .ref 61] (mH h s) Q := by
  unfold mf_80_73 at hf
  obtain ⟨s1, y, e, hf⟩ := mo_bi_ok hf
  exact mb_80_73 (d := d + 1) hh  (mr_77 (d := d + 1) hh e (mr_80_76 hh hf k))
def mf_80_65 (N : Nat) (x2 : Int32) (x4 : Int32) (s : mS) : mO := mo_bi (mf_294 N x4 x2 s) (fun s1 y => mf_80_73 N y s1)
theorem mr_80_65 {X : Nat → Option zz_C} {h : zz_H} (hh : 111 ≤ h.length) {d : Nat} {N : Nat} {Q : Option Value → zz_H → Prop} {x2 : Int32} {x4 : Int32} {s s' : mS} {v : Option Value} (hf : mf_80_65 N x2 x4 s = some (s', v)) (k : Q v (mH h s')) : zz_E zp_P zt_tf zt_fd X (d + 2) zm_80 65 [(0, .ref 61), (2, .int x2), (4, .int x4)] [] (mH h s) Q := by
  unfold mf_80_65 at hf
  obtain ⟨s1, y, e, hf⟩ := mo_bi_ok hf
  exact mb_80_65 (d := d + 1) hh  (mr_294 (d := d + 1) hh e (mr_80_73 hh hf k))
def mf_80_60 (N : Nat) (x2 : Int32) (x3 : Int32) (x4 : Int32) (s : mS) : mO := if ¬ x3 = 2 then mf_80_77 N x2 x4 s else mf_80_65 N x2 x4 s
theorem mr_80_60 {X : Nat → Option zz_C} {h : zz_H} (hh : 111 ≤ h.length) {d : Nat} {N : Nat} {Q : Option Value → zz_H → Prop} {x2 : Int32} {x3 : Int32} {x4 : Int32} {s s' : mS} {v : Option Value} (hf : mf_80_60 N x2 x3 x4 s = some (s', v)) (k : Q v (mH h s')) : zz_E zp_P zt_tf zt_fd X (d + 2) zm_80 60 [(0, .ref 61), (2, .int x2), (3, .int x3), (4, .int x4)] [] (mH h s) Q := by
  unfold mf_80_60 at hf
  refine mb_80_60 hh  (fun c => ?_) (fun c => ?_)
  · rw [if_pos c] at hf
    exact mr_80_77 hh hf k
  · rw [if_neg c] at hf
    exact mr_80_65 hh hf k
def mf_80_55 (N : Nat) (x2 : Int32) (x3 : Int32) (x4 : Int32) (y0 : Int32) (y1 : Int32) (s : mS) : mO := if y0 < y1 then mf_80_60 N x2 x3 x4 s else mf_80_58 N  s
theorem mr_80_55 {X : Nat → Option zz_C} {h : zz_H} (hh : 111 ≤ h.length) {d : Nat} {N : Nat} {Q : Option Value → zz_H → Prop} {x2 : Int32} {x3 : Int32} {x4 : Int32} {y0 : Int32} {y1 : Int32} {s s' : mS} {v : Option Value} (hf : mf_80_55 N x2 x3 x4 y0 y1 s = some (s', v)) (k : Q v (mH h s')) : zz_E zp_P zt_tf zt_fd X (d + 2) zm_80 55 [(0, .ref 61), (2, .int x2), (3, .int x3), (4, .int x4)] [.int y1, .int y0] (mH h s) Q := by
  unfold mf_80_55 at hf
  refine mb_80_55 hh  (fun c => ?_) (fun c => ?_)
  · rw [if_pos c] at hf
    exact mr_80_60 hh hf k
  · rw [if_neg c] at hf
    exact mr_80_58 hh hf k
def mf_80_48 (N : Nat) (x2 : Int32) (x3 : Int32) (x4 : Int32) (s : mS) : mO := mo_bi (mf_77 N x4 s) (fun s1 y => mf_80_55 N x2 x3 x4 x2 y s1)
theorem mr_80_48 {X : Nat → Option zz_C} {h : zz_H} (hh : 111 ≤ h.length) {d : Nat} {N : Nat} {Q : Option Value → zz_H → Prop} {x2 : Int32} {x3 : Int32} {x4 : Int32} {s s' : mS} {v : Option Value} (hf : mf_80_48 N x2 x3 x4 s = some (s', v)) (k : Q v (mH h s')) : zz_E zp_P zt_tf zt_fd X (d + 2) zm_80 48 [(0, .ref 61), (2, .int x2), (3, .int x3), (4, .int x4)] [] (mH h s) Q := by
  unfold mf_80_48 at hf
  obtain ⟨s1, y, e, hf⟩ := mo_bi_ok hf
  exact mb_80_48 (d := d + 1) hh  (mr_77 (d := d + 1) hh e (mr_80_55 hh hf k))
def mf_80_44 (N : Nat) (x2 : Int32) (x3 : Int32) (x4 : Int32) (s : mS) : mO := if x2 < 0 then mf_80_58 N  s else mf_80_48 N x2 x3 x4 s
theorem mr_80_44 {X : Nat → Option zz_C} {h : zz_H} (hh : 111 ≤ h.length) {d : Nat} {N : Nat} {Q : Option Value → zz_H → Prop} {x2 : Int32} {x3 : Int32} {x4 : Int32} {s s' : mS} {v : Option Value} (hf : mf_80_44 N x2 x3 x4 s = some (s', v)) (k : Q v (mH h s')) : zz_E zp_P zt_tf zt_fd X (d + 2) zm_80 44 [(0, .ref 61), (2, .int x2), (3, .int x3), (4, .int x4)] [] (mH h s) Q := by
  unfold mf_80_44 at hf
  refine mb_80_44 hh  (fun c => ?_) (fun c => ?_)
  · rw [if_pos c] at hf
    exact mr_80_58 hh hf k
  · rw [if_neg c] at hf
    exact mr_80_48 hh hf k
def mf_80_39 (N : Nat) (x2 : Int32) (x3 : Int32) (x4 : Int32) (s : mS) : mO := if x3 < 2 then mf_80_58 N  s else mf_80_44 N x2 x3 x4 s
theorem mr_80_39 {X : Nat → Option zz_C} {h : zz_H} (hh : 111 ≤ h.length) {d : Nat} {N : Nat} {Q : Option Value → zz_H → Prop} {x2 : Int32} {x3 : Int32} {x4 : Int32} {s s' : mS} {v : Option Value} (hf : mf_80_39 N x2 x3 x4 s = some (s', v)) (k : Q v (mH h s')) : zz_E zp_P zt_tf zt_fd X (d + 2) zm_80 39 [(0, .ref 61), (2, .int x2), (3, .int x3), (4, .int x4)] [] (mH h s) Q := by
  unfold mf_80_39 at hf
  refine mb_80_39 hh  (fun c => ?_) (fun c => ?_)
  · rw [if_pos c] at hf
    exact mr_80_58 hh hf k
  · rw [if_neg c] at hf
    exact mr_80_44 hh hf k
def mf_80_38 (N : Nat) (y0 : Int32) (s : mS) : mO := some (s, (some (.int y0)))
theorem mr_80_38 {X : Nat → Option zz_C} {h : zz_H} (hh : 111 ≤ h.length) {d : Nat} {N : Nat} {Q : Option Value → zz_H → Prop} {y0 : Int32} {s s' : mS} {v : Option Value} (hf : mf_80_38 N y0 s = some (s', v)) (k : Q v (mH h s')) : zz_E zp_P zt_tf zt_fd X (d + 2) zm_80 38 [] [.int y0] (mH h s) Q := by
  unfold mf_80_38 at hf
  cases hf
  exact mb_80_38 hh  k
def mf_80_32 (N : Nat) (x4 : Int32) (s : mS) : mO := mo_bi (mf_77 N x4 s) (fun s1 y => mf_80_38 N y s1)
theorem mr_80_32 {X : Nat → Option zz_C} {h : zz_H} (hh : 111 ≤ h.length) {d : Nat} {N : Nat} {Q : Option Value → zz_H → Prop} {x4 : Int32} {s s' : mS} {v : Option Value} (hf : mf_80_32 N x4 s = some (s', v)) (k : Q v (mH h s')) : zz_E zp_P zt_tf zt_fd X (d + 2) zm_80 32 [(0, .ref 61), (4, .int x4)] [] (mH h s) Q := by
  unfold mf_80_32 at hf
  obtain ⟨s1, y, e, hf⟩ := mo_bi_ok hf
  exact mb_80_32 (d := d + 1) hh  (mr_77 (d := d + 1) hh e (mr_80_38 hh hf k))
def mf_80_28 (N : Nat)  (s : mS) : mO := mf_80_38 N 0 s
theorem mr_80_28 {X : Nat → Option zz_C} {h : zz_H} (hh : 111 ≤ h.length) {d : Nat} {N : Nat} {Q : Option Value → zz_H → Prop}  {s s' : mS} {v : Option Value} (hf : mf_80_28 N  s = some (s', v)) (k : Q v (mH h s')) : zz_E zp_P zt_tf zt_fd X (d + 2) zm_80 28 [] [] (mH h s) Q := by
  unfold mf_80_28 at hf
  exact mb_80_28 hh  (mr_80_38 hh hf k)
def mf_80_24 (N : Nat) (x3 : Int32) (x4 : Int32) (s : mS) : mO := if ¬ x3 = 0 then mf_80_32 N x4 s else mf_80_28 N  s
theorem mr_80_24 {X : Nat → Option zz_C} {h : zz_H} (hh : 111 ≤ h.length) {d : Nat} {N : Nat} {Q : Option Value → zz_H → Prop} {x3 : Int32} {x4 : Int32} {s s' : mS} {v : Option Value} (hf : mf_80_24 N x3 x4 s = some (s', v)) (k : Q v (mH h s')) : zz_E zp_P zt_tf zt_fd X (d + 2) zm_80 24 [(0, .ref 61), (3, .int x3), (4, .int x4)] [] (mH h s) Q := by
  unfold mf_80_24 at hf
  refine mb_80_24 hh  (fun c => ?_) (fun c => ?_)
  · rw [if_pos c] at hf
    exact mr_80_32 hh hf k
  · rw [if_neg c] at hf
    exact mr_80_28 hh hf k
def mf_80_12 (N : Nat) (x1 : Int32) (x2 : Int32) (x3 : Int32) (s : mS) : mO := if ¬ x2 = (-1) then mf_80_39 N x2 x3 (2410 * x1) s else mf_80_24 N x3 (2410 * x1) s
theorem mr_80_12 {X : Nat → Option zz_C} {h : zz_H} (hh : 111 ≤ h.length) {d : Nat} {N : Nat} {Q : Option Value → zz_H → Prop} {x1 : Int32} {x2 : Int32} {x3 : Int32} {s s' : mS} {v : Option Value} (hf : mf_80_12 N x1 x2 x3 s = some (s', v)) (k : Q v (mH h s')) : zz_E zp_P zt_tf zt_fd X (d + 2) zm_80 12 [(0, .ref 61), (1, .int x1), (2, .int x2), (3, .int x3)] [] (mH h s) Q := by
  unfold mf_80_12 at hf
  refine mb_80_12 hh  (fun c => ?_) (fun c => ?_)
  · rw [if_pos c] at hf
    exact mr_80_39 hh hf k
  · rw [if_neg c] at hf
    exact mr_80_24 hh hf k
def mf_80_10 (N : Nat)  (s : mS) : mO := some (s, (some (.int (-1))))
theorem mr_80_10 {X : Nat → Option zz_C} {h : zz_H} (hh : 111 ≤ h.length) {d : Nat} {N : Nat} {Q : Option Value → zz_H → Prop}  {s s' : mS} {v : Option Value} (hf : mf_80_10 N  s = some (s', v)) (k : Q v (mH h s')) : zz_E zp_P zt_tf zt_fd X (d + 2) zm_80 10 [] [] (mH h s) Q := by
  unfold mf_80_10 at hf
  cases hf
  exact mb_80_10 hh  k
def mf_80_5 (N : Nat) (x1 : Int32) (x2 : Int32) (y0 : Int32) (s : mS) : mO := if 0 ≤ y0 then mf_80_12 N x1 x2 y0 s else mf_80_10 N  s
theorem mr_80_5 {X : Nat → Option zz_C} {h : zz_H} (hh : 111 ≤ h.length) {d : Nat} {N : Nat} {Q : Option Value → zz_H → Prop} {x1 : Int32} {x2 : Int32} {y0 : Int32} {s s' : mS} {v : Option Value} (hf : mf_80_5 N x1 x2 y0 s = some (s', v)) (k : Q v (mH h s')) : zz_E zp_P zt_tf zt_fd X (d + 2) zm_80 5 [(0, .ref 61), (1, .int x1), (2, .int x2)] [.int y0] (mH h s) Q := by
  unfold mf_80_5 at hf
  refine mb_80_5 hh  (fun c => ?_) (fun c => ?_)
  · rw [if_pos c] at hf
    exact mr_80_12 hh hf k
  · rw [if_neg c] at hf
    exact mr_80_10 hh hf k
def mf_80_0 (N : Nat) (x1 : Int32) (x2 : Int32) (s : mS) : mO := mo_bi (mf_79 N x1 s) (fun s1 y => mf_80_5 N x1 x2 y s1)
theorem mr_80_0 {X : Nat → Option zz_C} {h : zz_H} (hh : 111 ≤ h.length) {d : Nat} {N : Nat} {Q : Option Value → zz_H → Prop} {x1 : Int32} {x2 : Int32} {s s' : mS} {v : Option Value} (hf : mf_80_0 N x1 x2 s = some (s', v)) (k : Q v (mH h s')) : zz_E zp_P zt_tf zt_fd X (d + 2) zm_80 0 [(0, .ref 61), (1, .int x1), (2, .int x2)] [] (mH h s) Q := by
  unfold mf_80_0 at hf
  obtain ⟨s1, y, e, hf⟩ := mo_bi_ok hf
  exact mb_80_0 (d := d + 1) hh  (mr_79 (d := d + 0) hh e (mr_80_5 hh hf k))
/-- size -/
def mf_80 (N : Nat) (x1 : Int32) (x2 : Int32) (s : mS) : mO := mf_80_0 N x1 x2 s
theorem mr_80 {X : Nat → Option zz_C} {h : zz_H} (hh : 111 ≤ h.length) {d : Nat} {N : Nat} {Q : Option Value → zz_H → Prop} {x1 : Int32} {x2 : Int32} {s s' : mS} {v : Option Value} (hf : mf_80 N x1 x2 s = some (s', v)) (k : Q v (mH h s')) : zz_E zp_P zt_tf zt_fd X (d + 2) zm_80 0 [(0, .ref 61), (1, .int x1), (2, .int x2)] [] (mH h s) Q := by
  unfold mf_80 at hf
  exact zz_E.weak (mr_80_0 hh hf k) rfl ⟨rfl, rfl, rfl, trivial⟩
/-! cell (III)I -/
theorem mb_81_0 {X : Nat → Option zz_C} {h : zz_H} (hh : 111 ≤ h.length) {s : mS} {d : Nat} {Q : Option Value → zz_H → Prop} {x1 : Int32} {x2 : Int32} {x3 : Int32} (k : zz_E zp_P zt_tf zt_fd X d zm_79 0 [(0, .ref 61), (1, .int x1)] [] (mH h s) (fun v h' => zz_E zp_P zt_tf zt_fd X (d + 1) zm_81 5 [(0, .ref 61), (1, .int x1), (2, .int x2), (3, .int x3)] (v.toList ++ []) h' Q)) : zz_E zp_P zt_tf zt_fd X (d + 1) zm_81 0 [(0, .ref 61), (1, .int x1), (2, .int x2), (3, .int x3)] [] (mH h s) Q := by
  refine zz_E.n 1 rfl rfl rfl ?_
  refine zz_E.n 2 rfl rfl rfl ?_
  refine mE_cv hh 5 (as := []) rfl rfl (Nat.le_of_ble_eq_true rfl) (Nat.le_of_ble_eq_true rfl) rfl (Nat.le_of_ble_eq_true rfl) rfl ?_
  refine zz_E.mono k ?_
  intro v h' hE
  exact zz_E.weak hE rfl ⟨rfl, rfl, rfl, rfl, trivial⟩
theorem mb_81_5 {X : Nat → Option zz_C} {h : zz_H} (hh : 111 ≤ h.length) {s : mS} {d : Nat} {Q : Option Value → zz_H → Prop} {x1 : Int32} {x2 : Int32} {x3 : Int32} {y0 : Int32} (k1 : 0 ≤ y0 → zz_E zp_P zt_tf zt_fd X d zm_81 14 [(0, .ref 61), (1, .int x1), (2, .int x2), (3, .int x3), (4, .int y0)] [] (mH h s) Q) (k2 : ¬ 0 ≤ y0 → zz_E zp_P zt_tf zt_fd X d zm_81 12 [] [] (mH h s) Q) : zz_E zp_P zt_tf zt_fd X d zm_81 5 [(0, .ref 61), (1, .int x1), (2, .int x2), (3, .int x3)] [.int y0] (mH h s) Q := by
  refine zz_E.n 7 rfl rfl rfl ?_
  refine zz_E.n 9 rfl rfl rfl ?_
  refine zz_E.b1 14 12 (A := 0 ≤ y0) rfl rfl (by decide) rfl rfl (fun c => ?_) (fun c => ?_)
  · exact zz_E.weak (k1 c) rfl ⟨rfl, rfl, rfl, rfl, rfl, trivial⟩
  · exact zz_E.weak (k2 c) rfl trivial
theorem mb_81_12 {X : Nat → Option zz_C} {h : zz_H} (hh : 111 ≤ h.length) {s : mS} {d : Nat} {Q : Option Value → zz_H → Prop}  (k : Q (some (.int 0)) (mH h s)) : zz_E zp_P zt_tf zt_fd X d zm_81 12 [] [] (mH h s) Q := by
  refine zz_E.c 13 (.int 0) rfl rfl rfl rfl ?_
  refine zz_E.ret rfl rfl rfl ?_
  exact k
theorem mb_81_14 {X : Nat → Option zz_C} {h : zz_H} (hh : 111 ≤ h.length) {s : mS} {d : Nat} {Q : Option Value → zz_H → Prop} {x1 : Int32} {x2 : Int32} {x3 : Int32} {x4 : Int32} (k1 : ¬ x4 = 0 → zz_E zp_P zt_tf zt_fd X d zm_81 36 [(0, .ref 61), (2, .int x2), (3, .int x3), (4, .int x4), (5, .int (2410 * x1))] [] (mH h s) Q) (k2 : ¬ ¬ x4 = 0 → zz_E zp_P zt_tf zt_fd X d zm_81 26 [(0, .ref 61), (5, .int (2410 * x1))] [] (mH h s) Q) : zz_E zp_P zt_tf zt_fd X d zm_81 14 [(0, .ref 61), (1, .int x1), (2, .int x2), (3, .int x3), (4, .int x4)] [] (mH h s) Q := by
  refine zz_E.c 17 (.int 2410) rfl rfl rfl rfl ?_
  refine zz_E.n 18 rfl rfl rfl ?_
  refine zz_E.n 19 rfl rfl rfl ?_
  refine zz_E.n 21 rfl rfl rfl ?_
  refine zz_E.n 23 rfl rfl rfl ?_
  refine zz_E.b1 36 26 (A := ¬ x4 = 0) rfl (zz_cond_ne _ _) (by decide) rfl rfl (fun c => ?_) (fun c => ?_)
  · exact zz_E.weak (k1 c) rfl ⟨rfl, rfl, rfl, rfl, rfl, trivial⟩
  · exact zz_E.weak (k2 c) rfl ⟨rfl, rfl, trivial⟩
theorem mb_81_26 {X : Nat → Option zz_C} {h : zz_H} (hh : 111 ≤ h.length) {s : mS} {d : Nat} {Q : Option Value → zz_H → Prop} {x5 : Int32} (i34 : ¬ ((x5 + 1) < 0 ∨ 166300 ≤ Int32.toNatClampNeg (x5 + 1))) (k : Q (some (.int ((s.2.2.1 47) (Int32.toNatClampNeg (x5 + 1))))) (mH h s)) : zz_E zp_P zt_tf zt_fd X d zm_81 26 [(0, .ref 61), (5, .int x5)] [] (mH h s) Q := by
  refine zz_E.n 27 rfl rfl rfl ?_
  refine mE_g hh 30 (v := .ref 89) rfl rfl rfl ?_
  refine zz_E.n 32 rfl rfl rfl ?_
  refine zz_E.c 33 (.int 1) rfl rfl rfl rfl ?_
  refine zz_E.n 34 rfl rfl rfl ?_
  refine mE_ia hh 35 28 (f := (s.2.2.1 47)) rfl (by decide) rfl rfl i34 rfl ?_
  refine zz_E.ret rfl rfl rfl ?_
  exact k
theorem mb_81_36 {X : Nat → Option zz_C} {h : zz_H} (hh : 111 ≤ h.length) {s : mS} {d : Nat} {Q : Option Value → zz_H → Prop} {x2 : Int32} {x3 : Int32} {x4 : Int32} {x5 : Int32} (k1 : x2 < 0 → zz_E zp_P zt_tf zt_fd X d zm_81 50 [] [] (mH h s) Q) (k2 : ¬ x2 < 0 → zz_E zp_P zt_tf zt_fd X d zm_81 40 [(0, .ref 61), (2, .int x2), (3, .int x3), (4, .int x4), (5, .int x5)] [] (mH h s) Q) : zz_E zp_P zt_tf zt_fd X d zm_81 36 [(0, .ref 61), (2, .int x2), (3, .int x3), (4, .int x4), (5, .int x5)] [] (mH h s) Q := by
  refine zz_E.n 37 rfl rfl rfl ?_
  refine zz_E.b1 50 40 (A := x2 < 0) rfl rfl (by decide) rfl rfl (fun c => ?_) (fun c => ?_)
  · exact zz_E.weak (k1 c) rfl trivial
  · exact zz_E.weak (k2 c) rfl ⟨rfl, rfl, rfl, rfl, rfl, trivial⟩
theorem mb_81_40 {X : Nat → Option zz_C} {h : zz_H} (hh : 111 ≤ h.length) {s : mS} {d : Nat} {Q : Option Value → zz_H → Prop} {x2 : Int32} {x3 : Int32} {x4 : Int32} {x5 : Int32} (k : zz_E zp_P zt_tf zt_fd X d zm_77 0 [(0, .ref 61), (1, .int x5)] [] (mH h s) (fun v h' => zz_E zp_P zt_tf zt_fd X (d + 1) zm_81 47 [(0, .ref 61), (2, .int x2), (3, .int x3), (4, .int x4), (5, .int x5)] (v.toList ++ [.int x2]) h' Q)) : zz_E zp_P zt_tf zt_fd X (d + 1) zm_81 40 [(0, .ref 61), (2, .int x2), (3, .int x3), (4, .int x4), (5, .int x5)] [] (mH h s) Q := by
  refine zz_E.n 41 rfl rfl rfl ?_
  refine zz_E.n 42 rfl rfl rfl ?_
  refine zz_E.n 44 rfl rfl rfl ?_
  refine mE_cv hh 47 (as := [.int x2]) rfl rfl (Nat.le_of_ble_eq_true rfl) (Nat.le_of_ble_eq_true rfl) rfl (Nat.le_of_ble_eq_true rfl) rfl ?_
  refine zz_E.mono k ?_
  intro v h' hE
  exact zz_E.weak hE rfl ⟨rfl, rfl, rfl, rfl, rfl, trivial⟩
theorem mb_81_47 {X : Nat → Option zz_C} {h : zz_H} (hh : 111 ≤ h.length) {s : mS} {d : Nat} {Q : Option Value → zz_H → Prop} {x2 : Int32} {x3 : Int32} {x4 : Int32} {x5 : Int32} {y0 : Int32} {y1 : Int32} (k1 : y0 < y1 → zz_E zp_P zt_tf zt_fd X d zm_81 52 [(0, .ref 61), (2, .int x2), (3, .int x3), (4, .int x4), (5, .int x5)] [] (mH h s) Q) (k2 : ¬ y0 < y1 → zz_E zp_P zt_tf zt_fd X d zm_81 50 [] [] (mH h s) Q) : zz_E zp_P zt_tf zt_fd X d zm_81 47 [(0, .ref 61), (2, .int x2), (3, .int x3), (4, .int x4), (5, .int x5)] [.int y1, .int y0] (mH h s) Q := by
  refine zz_E.b2 52 50 (A := y0 < y1) rfl rfl (by decide) rfl rfl (fun c => ?_) (fun c => ?_)
  · exact zz_E.weak (k1 c) rfl ⟨rfl, rfl, rfl, rfl, rfl, trivial⟩
  · exact zz_E.weak (k2 c) rfl trivial
theorem mb_81_50 {X : Nat → Option zz_C} {h : zz_H} (hh : 111 ≤ h.length) {s : mS} {d : Nat} {Q : Option Value → zz_H → Prop}  (k : Q (some (.int 0)) (mH h s)) : zz_E zp_P zt_tf zt_fd X d zm_81 50 [] [] (mH h s) Q := by
  refine zz_E.c 51 (.int 0) rfl rfl rfl rfl ?_
  refine zz_E.ret rfl rfl rfl ?_
  exact k
theorem mb_81_52 {X : Nat → Option zz_C} {h : zz_H} (hh : 111 ≤ h.length) {s : mS} {d : Nat} {Q : Option Value → zz_H → Prop} {x2 : Int32} {x3 : Int32} {x4 : Int32} {x5 : Int32} (k1 : ¬ x4 = 1 → zz_E zp_P zt_tf zt_fd X d zm_81 70 [(0, .ref 61), (2, .int x2), (3, .int x3), (4, .int x4), (5, .int x5)] [] (mH h s) Q) (k2 : ¬ ¬ x4 = 1 → zz_E zp_P zt_tf zt_fd X d zm_81 58 [(0, .ref 61), (2, .int x2), (5, .int x5)] [] (mH h s) Q) : zz_E zp_P zt_tf zt_fd X d zm_81 52 [(0, .ref 61), (2, .int x2), (3, .int x3), (4, .int x4), (5, .int x5)] [] (mH h s) Q := by
  refine zz_E.n 54 rfl rfl rfl ?_
  refine zz_E.c 55 (.int 1) rfl rfl rfl rfl ?_
  refine zz_E.b2 70 58 (A := ¬ x4 = 1) rfl (zz_cond_ne _ _) (by decide) rfl rfl (fun c => ?_) (fun c => ?_)
  · exact zz_E.weak (k1 c) rfl ⟨rfl, rfl, rfl, rfl, rfl, trivial⟩
  · exact zz_E.weak (k2 c) rfl ⟨rfl, rfl, rfl, trivial⟩
theorem mb_81_58 {X : Nat → Option zz_C} {h : zz_H} (hh : 111 ≤ h.length) {s : mS} {d : Nat} {Q : Option Value → zz_H → Prop} {x2 : Int32} {x5 : Int32} (i68 : ¬ (((x5 + 2) + x2) < 0 ∨ 166300 ≤ Int32.toNatClampNeg ((x5 + 2) + x2))) (k : Q (some (.int ((s.2.2.1 47) (Int32.toNatClampNeg ((x5 + 2) + x2))))) (mH h s)) : zz_E zp_P zt_tf zt_fd X d zm_81 58 [(0, .ref 61), (2, .int x2), (5, .int x5)] [] (mH h s) Q := by
  refine zz_E.n 59 rfl rfl rfl ?_
  refine mE_g hh 62 (v := .ref 89) rfl rfl rfl ?_
  refine zz_E.n 64 rfl rfl rfl ?_
  refine zz_E.c 65 (.int 2) rfl rfl rfl rfl ?_
  refine zz_E.n 66 rfl rfl rfl ?_
  refine zz_E.n 67 rfl rfl rfl ?_
  refine zz_E.n 68 rfl rfl rfl ?_
  refine mE_ia hh 69 28 (f := (s.2.2.1 47)) rfl (by decide) rfl rfl i68 rfl ?_
  refine zz_E.ret rfl rfl rfl ?_
  exact k
theorem mb_81_70 {X : Nat → Option zz_C} {h : zz_H} (hh : 111 ≤ h.length) {s : mS} {d : Nat} {Q : Option Value → zz_H → Prop} {x2 : Int32} {x3 : Int32} {x4 : Int32} {x5 : Int32} (k1 : ¬ x4 = 3 → zz_E zp_P zt_tf zt_fd X d zm_81 100 [(0, .ref 61), (2, .int x2), (3, .int x3), (5, .int x5)] [] (mH h s) Q) (k2 : ¬ ¬ x4 = 3 → zz_E zp_P zt_tf zt_fd X d zm_81 76 [(0, .ref 61), (2, .int x2), (3, .int x3), (5, .int x5)] [] (mH h s) Q) : zz_E zp_P zt_tf zt_fd X d zm_81 70 [(0, .ref 61), (2, .int x2), (3, .int x3), (4, .int x4), (5, .int x5)] [] (mH h s) Q := by
  refine zz_E.n 72 rfl rfl rfl ?_
  refine zz_E.c 73 (.int 3) rfl rfl rfl rfl ?_
  refine zz_E.b2 100 76 (A := ¬ x4 = 3) rfl (zz_cond_ne _ _) (by decide) rfl rfl (fun c => ?_) (fun c => ?_)
  · exact zz_E.weak (k1 c) rfl ⟨rfl, rfl, rfl, rfl, trivial⟩
  · exact zz_E.weak (k2 c) rfl ⟨rfl, rfl, rfl, rfl, trivial⟩
theorem mb_81_76 {X : Nat → Option zz_C} {h : zz_H} (hh : 111 ≤ h.length) {s : mS} {d : Nat} {Q : Option Value → zz_H → Prop} {x2 : Int32} {x3 : Int32} {x5 : Int32} (k : zz_E zp_P zt_tf zt_fd X d zm_293 0 [(0, .ref 61), (1, .int x5), (2, .int x2)] [] (mH h s) (fun v h' => zz_E zp_P zt_tf zt_fd X (d + 1) zm_81 83 [(0, .ref 61), (2, .int x2), (3, .int x3), (5, .int x5)] (v.toList ++ []) h' Q)) : zz_E zp_P zt_tf zt_fd X (d + 1) zm_81 76 [(0, .ref 61), (2, .int x2), (3, .int x3), (5, .int x5)] [] (mH h s) Q := by
  refine zz_E.n 77 rfl rfl rfl ?_
  refine zz_E.n 79 rfl rfl rfl ?_
  refine zz_E.n 80 rfl rfl rfl ?_
  refine mE_cv hh 83 (as := []) rfl rfl (Nat.le_of_ble_eq_true rfl) (Nat.le_of_ble_eq_true rfl) rfl (Nat.le_of_ble_eq_true rfl) rfl ?_
  refine zz_E.mono k ?_
  intro v h' hE
  exact zz_E.weak hE rfl ⟨rfl, rfl, rfl, rfl, trivial⟩
theorem mb_81_83 {X : Nat → Option zz_C} {h : zz_H} (hh : 111 ≤ h.length) {s : mS} {d : Nat} {Q : Option Value → zz_H → Prop} {x2 : Int32} {x3 : Int32} {x5 : Int32} {y0 : Int32} (k1 : y0 = 0 → zz_E zp_P zt_tf zt_fd X d zm_81 100 [(0, .ref 61), (2, .int x2), (3, .int x3), (5, .int x5)] [] (mH h s) Q) (k2 : ¬ y0 = 0 → zz_E zp_P zt_tf zt_fd X d zm_81 86 [(0, .ref 61), (2, .int x2), (5, .int x5)] [] (mH h s) Q) : zz_E zp_P zt_tf zt_fd X d zm_81 83 [(0, .ref 61), (2, .int x2), (3, .int x3), (5, .int x5)] [.int y0] (mH h s) Q := by
  refine zz_E.b1 100 86 (A := y0 = 0) rfl rfl (by decide) rfl rfl (fun c => ?_) (fun c => ?_)
  · exact zz_E.weak (k1 c) rfl ⟨rfl, rfl, rfl, rfl, trivial⟩
  · exact zz_E.weak (k2 c) rfl ⟨rfl, rfl, rfl, trivial⟩
theorem mb_81_86 {X : Nat → Option zz_C} {h : zz_H} (hh : 111 ≤ h.length) {s : mS} {d : Nat} {Q : Option Value → zz_H → Prop} {x2 : Int32} {x5 : Int32} (i98 : ¬ (((x5 + 3) + (2 * x2)) < 0 ∨ 166300 ≤ Int32.toNatClampNeg ((x5 + 3) + (2 * x2)))) (k : Q (some (.int ((s.2.2.1 47) (Int32.toNatClampNeg ((x5 + 3) + (2 * x2)))))) (mH h s)) : zz_E zp_P zt_tf zt_fd X d zm_81 86 [(0, .ref 61), (2, .int x2), (5, .int x5)] [] (mH h s) Q := by
  refine zz_E.n 87 rfl rfl rfl ?_
  refine mE_g hh 90 (v := .ref 89) rfl rfl rfl ?_
  refine zz_E.n 92 rfl rfl rfl ?_
  refine zz_E.c 93 (.int 3) rfl rfl rfl rfl ?_
  refine zz_E.n 94 rfl rfl rfl ?_
  refine zz_E.c 95 (.int 2) rfl rfl rfl rfl ?_
  refine zz_E.n 96 rfl rfl rfl ?_
  refine zz_E.n 97 rfl rfl rfl ?_
  refine zz_E.n 98 rfl rfl rfl ?_
  refine mE_ia hh 99 28 (f := (s.2.2.1 47)) rfl (by decide) rfl rfl i98 rfl ?_
  refine zz_E.ret rfl rfl rfl ?_
  exact k
theorem mb_81_100 {X : Nat → Option zz_C} {h : zz_H} (hh : 111 ≤ h.length) {s : mS} {d : Nat} {Q : Option Value → zz_H → Prop} {x2 : Int32} {x3 : Int32} {x5 : Int32} (k : zz_E zp_P zt_tf zt_fd X d zm_294 0 [(0, .ref 61), (1, .int x5), (2, .int x2)] [] (mH h s) (fun v h' => zz_E zp_P zt_tf zt_fd X (d + 1) zm_81 107 [(0, .ref 61), (3, .int x3)] (v.toList ++ []) h' Q)) : zz_E zp_P zt_tf zt_fd X (d + 1) zm_81 100 [(0, .ref 61), (2, .int x2), (3, .int x3), (5, .int x5)] [] (mH h s) Q := by
  refine zz_E.n 101 rfl rfl rfl ?_
  refine zz_E.n 103 rfl rfl rfl ?_
  refine zz_E.n 104 rfl rfl rfl ?_
  refine mE_cv hh 107 (as := []) rfl rfl (Nat.le_of_ble_eq_true rfl) (Nat.le_of_ble_eq_true rfl) rfl (Nat.le_of_ble_eq_true rfl) rfl ?_
  refine zz_E.mono k ?_
  intro v h' hE
  exact zz_E.weak hE rfl ⟨rfl, rfl, trivial⟩
theorem mb_81_107 {X : Nat → Option zz_C} {h : zz_H} (hh : 111 ≤ h.length) {s : mS} {d : Nat} {Q : Option Value → zz_H → Prop} {x3 : Int32} {y0 : Int32} (i115 : ¬ (y0 < 0 ∨ 166300 ≤ Int32.toNatClampNeg y0)) (k1 : ¬ ((s.2.2.1 47) (Int32.toNatClampNeg y0)) = 1 → zz_E zp_P zt_tf zt_fd X d zm_81 148 [] [] (mH h s) Q) (k2 : ¬ ¬ ((s.2.2.1 47) (Int32.toNatClampNeg y0)) = 1 → zz_E zp_P zt_tf zt_fd X d zm_81 120 [(0, .ref 61), (3, .int x3), (6, .int y0)] [] (mH h s) Q) : zz_E zp_P zt_tf zt_fd X d zm_81 107 [(0, .ref 61), (3, .int x3)] [.int y0] (mH h s) Q := by
  refine zz_E.n 109 rfl rfl rfl ?_
  refine zz_E.n 110 rfl rfl rfl ?_
  refine mE_g hh 113 (v := .ref 89) rfl rfl rfl ?_
  refine zz_E.n 115 rfl rfl rfl ?_
  refine mE_ia hh 116 28 (f := (s.2.2.1 47)) rfl (by decide) rfl rfl i115 rfl ?_
  refine zz_E.c 117 (.int 1) rfl rfl rfl rfl ?_
  refine zz_E.b2 148 120 (A := ¬ ((s.2.2.1 47) (Int32.toNatClampNeg y0)) = 1) rfl (zz_cond_ne _ _) (by decide) rfl rfl (fun c => ?_) (fun c => ?_)
  · exact zz_E.weak (k1 c) rfl trivial
  · exact zz_E.weak (k2 c) rfl ⟨rfl, rfl, rfl, trivial⟩
theorem mb_81_120 {X : Nat → Option zz_C} {h : zz_H} (hh : 111 ≤ h.length) {s : mS} {d : Nat} {Q : Option Value → zz_H → Prop} {x3 : Int32} {x6 : Int32} (k1 : x3 < 0 → zz_E zp_P zt_tf zt_fd X d zm_81 148 [] [] (mH h s) Q) (k2 : ¬ x3 < 0 → zz_E zp_P zt_tf zt_fd X d zm_81 124 [(0, .ref 61), (3, .int x3), (6, .int x6)] [] (mH h s) Q) : zz_E zp_P zt_tf zt_fd X d zm_81 120 [(0, .ref 61), (3, .int x3), (6, .int x6)] [] (mH h s) Q := by
  refine zz_E.n 121 rfl rfl rfl ?_
  refine zz_E.b1 148 124 (A := x3 < 0) rfl rfl (by decide) rfl rfl (fun c => ?_) (fun c => ?_)
  · exact zz_E.weak (k1 c) rfl trivial
  · exact zz_E.weak (k2 c) rfl ⟨rfl, rfl, rfl, trivial⟩
theorem mb_81_124 {X : Nat → Option zz_C} {h : zz_H} (hh : 111 ≤ h.length) {s : mS} {d : Nat} {Q : Option Value → zz_H → Prop} {x3 : Int32} {x6 : Int32} (k : zz_E zp_P zt_tf zt_fd X d zm_77 0 [(0, .ref 61), (1, .int x6)] [] (mH h s) (fun v h' => zz_E zp_P zt_tf zt_fd X (d + 1) zm_81 131 [(0, .ref 61), (3, .int x3), (6, .int x6)] (v.toList ++ [.int x3]) h' Q)) : zz_E zp_P zt_tf zt_fd X (d + 1) zm_81 124 [(0, .ref 61), (3, .int x3), (6, .int x6)] [] (mH h s) Q := by
  refine zz_E.n 125 rfl rfl rfl ?_
  refine zz_E.n 126 rfl rfl rfl ?_
  refine zz_E.n 128 rfl rfl rfl ?_
  refine mE_cv hh 131 (as := [.int x3]) rfl rfl (Nat.le_of_ble_eq_true rfl) (Nat.le_of_ble_eq_true rfl) rfl (Nat.le_of_ble_eq_true rfl) rfl ?_
  refine zz_E.mono k ?_
  intro v h' hE
  exact zz_E.weak hE rfl ⟨rfl, rfl, rfl, trivial⟩
theorem mb_81_131 {X : Nat → Option zz_C} {h : zz_H} (hh : 111 ≤ h.length) {s : mS} {d : Nat} {Q : Option Value → zz_H → Prop} {x3 : Int32} {x6 : Int32} {y0 : Int32} {y1 : Int32} (k1 : y1 ≤ y0 → zz_E zp_P zt_tf zt_fd X d zm_81 148 [] [] (mH h s) Q) (k2 : ¬ y1 ≤ y0 → zz_E zp_P zt_tf zt_fd X d zm_81 134 [(0, .ref 61), (3, .int x3), (6, .int x6)] [] (mH h s) Q) : zz_E zp_P zt_tf zt_fd X d zm_81 131 [(0, .ref 61), (3, .int x3), (6, .int x6)] [.int y1, .int y0] (mH h s) Q := by
  refine zz_E.b2 148 134 (A := y1 ≤ y0) rfl rfl (by decide) rfl rfl (fun c => ?_) (fun c => ?_)
  · exact zz_E.weak (k1 c) rfl trivial
  · exact zz_E.weak (k2 c) rfl ⟨rfl, rfl, rfl, trivial⟩
theorem mb_81_134 {X : Nat → Option zz_C} {h : zz_H} (hh : 111 ≤ h.length) {s : mS} {d : Nat} {Q : Option Value → zz_H → Prop} {x3 : Int32} {x6 : Int32} (i144 : ¬ (((x6 + 2) + x3) < 0 ∨ 166300 ≤ Int32.toNatClampNeg ((x6 + 2) + x3))) (k : zz_E zp_P zt_tf zt_fd X d zm_81 149 [] [.int ((s.2.2.1 47) (Int32.toNatClampNeg ((x6 + 2) + x3)))] (mH h s) Q) : zz_E zp_P zt_tf zt_fd X d zm_81 134 [(0, .ref 61), (3, .int x3), (6, .int x6)] [] (mH h s) Q := by
  refine zz_E.n 135 rfl rfl rfl ?_
  refine mE_g hh 138 (v := .ref 89) rfl rfl rfl ?_
  refine zz_E.n 140 rfl rfl rfl ?_
  refine zz_E.c 141 (.int 2) rfl rfl rfl rfl ?_
  refine zz_E.n 142 rfl rfl rfl ?_
  refine zz_E.n 143 rfl rfl rfl ?_
  refine zz_E.n 144 rfl rfl rfl ?_
  refine mE_ia hh 145 28 (f := (s.2.2.1 47)) rfl (by decide) rfl rfl i144 rfl ?_
  refine zz_E.n 149 rfl rfl rfl ?_
  exact zz_E.weak k rfl trivial
theorem mb_81_148 {X : Nat → Option zz_C} {h : zz_H} (hh : 111 ≤ h.length) {s : mS} {d : Nat} {Q : Option Value → zz_H → Prop}  (k : zz_E zp_P zt_tf zt_fd X d zm_81 149 [] [.int 0] (mH h s) Q) : zz_E zp_P zt_tf zt_fd X d zm_81 148 [] [] (mH h s) Q := by
  refine zz_E.c 149 (.int 0) rfl rfl rfl rfl ?_
  exact zz_E.weak k rfl trivial
theorem mb_81_149 {X : Nat → Option zz_C} {h : zz_H} (hh : 111 ≤ h.length) {s : mS} {d : Nat} {Q : Option Value → zz_H → Prop} {y0 : Int32} (k : Q (some (.int y0)) (mH h s)) : zz_E zp_P zt_tf zt_fd X d zm_81 149 [] [.int y0] (mH h s) Q := by
  refine zz_E.ret rfl rfl rfl ?_
  exact k
def mf_81_50 (N : Nat)  (s : mS) : mO := some (s, (some (.int 0)))
theorem mr_81_50 {X : Nat → Option zz_C} {h : zz_H} (hh : 111 ≤ h.length) {d : Nat} {N : Nat} {Q : Option Value → zz_H → Prop}  {s s' : mS} {v : Option Value} (hf : mf_81_50 N  s = some (s', v)) (k : Q v (mH h s')) : zz_E zp_P zt_tf zt_fd X (d + 2) zm_81 50 [] [] (mH h s) Q := by
  unfold mf_81_50 at hf
  cases hf
  exact mb_81_50 hh  k
def mf_81_149 (N : Nat) (y0 : Int32) (s : mS) : mO := some (s, (some (.int y0)))
theorem mr_81_149 {X : Nat → Option zz_C} {h : zz_H} (hh : 111 ≤ h.length) {d : Nat} {N : Nat} {Q : Option Value → zz_H → Prop} {y0 : Int32} {s s' : mS} {v : Option Value} (hf : mf_81_149 N y0 s = some (s', v)) (k : Q v (mH h s')) : zz_E zp_P zt_tf zt_fd X (d + 2) zm_81 149 [] [.int y0] (mH h s) Q := by
  unfold mf_81_149 at hf
  cases hf
  exact mb_81_149 hh  k
def mf_81_148 (N : Nat)  (s : mS) : mO := mf_81_149 N 0 s
theorem mr_81_148 {X : Nat → Option zz_C} {h : zz_H} (hh : 111 ≤ h.length) {d : Nat} {N : Nat} {Q : Option Value → zz_H → Prop}  {s s' : mS} {v : Option Value} (hf : mf_81_148 N  s = some (s', v)) (k : Q v (mH h s')) : zz_E zp_P zt_tf zt_fd X (d + 2) zm_81 148 [] [] (mH h s) Q := by
  unfold mf_81_148 at hf
  exact mb_81_148 hh  (mr_81_149 hh hf k)
def mf_81_134 (N : Nat) (x3 : Int32) (x6 : Int32) (s : mS) : mO := if ¬ (((x6 + 2) + x3) < 0 ∨ 166300 ≤ Int32.toNatClampNeg ((x6 + 2) + x3)) then (mf_81_149 N ((s.2.2.1 47) (Int32.toNatClampNeg ((x6 + 2) + x3))) s) else none
theorem mr_81_134 {X : Nat → Option zz_C} {h : zz_H} (hh : 111 ≤ h.length) {d : Nat} {N : Nat} {Q : Option Value → zz_H → Prop} {x3 : Int32} {x6 : Int32} {s s' : mS} {v : Option Value} (hf : mf_81_134 N x3 x6 s = some (s', v)) (k : Q v (mH h s')) : zz_E zp_P zt_tf zt_fd X (d + 2) zm_81 134 [(0, .ref 61), (3, .int x3), (6, .int x6)] [] (mH h s) Q := by
  unfold mf_81_134 at hf
  obtain ⟨q0, hf⟩ := mo_if hf
  exact mb_81_134 hh q0 (mr_81_149 hh hf k)
def mf_81_131 (N : Nat) (x3 : Int32) (x6 : Int32) (y0 : Int32) (y1 : Int32) (s : mS) : mO := if y1 ≤ y0 then mf_81_148 N  s else mf_81_134 N x3 x6 s
theorem mr_81_131 {X : Nat → Option zz_C} {h : zz_H} (hh : 111 ≤ h.length) {d : Nat} {N : Nat} {Q : Option Value → zz_H → Prop} {x3 : Int32} {x6 : Int32} {y0 : Int32} {y1 : Int32} {s s' : mS} {v : Option Value} (hf : mf_81_131 N x3 x6 y0 y1 s = some (s', v)) (k : Q v (mH h s')) : zz_E zp_P zt_tf zt_fd X (d + 2) zm_81 131 [(0, .ref 61), (3, .int x3), (6, .int x6)] [.int y1, .int y0] (mH h s) Q := by
  unfold mf_81_131 at hf
  refine mb_81_131 hh  (fun c => ?_) (fun c => ?_)
  · rw [if_pos c] at hf
    exact mr_81_148 hh hf k
  · rw [if_neg c] at hf
    exact mr_81_134 hh hf k
def mf_81_124 (N : Nat) (x3 : Int32) (x6 : Int32) (s : mS) : mO := mo_bi (mf_77 N x6 s) (fun s1 y => mf_81_131 N x3 x6 x3 y s1)
theorem mr_81_124 {X : Nat → Option zz_C} {h : zz_H} (hh : 111 ≤ h.length) {d : Nat} {N : Nat} {Q : Option Value → zz_H → Prop} {x3 : Int32} {x6 : Int32} {s s' : mS} {v : Option Value} (hf : mf_81_124 N x3 x6 s = some (s', v)) (k : Q v (mH h s')) : zz_E zp_P zt_tf zt_fd X (d + 2) zm_81 124 [(0, .ref 61), (3, .int x3), (6, .int x6)] [] (mH h s) Q := by
  unfold mf_81_124 at hf
  obtain ⟨s1, y, e, hf⟩ := mo_bi_ok hf
  exact mb_81_124 (d := d + 1) hh  (mr_77 (d := d + 1) hh e (mr_81_131 hh hf k))
def mf_81_120 (N : Nat) (x3 : Int32) (x6 : Int32) (s : mS) : mO := if x3 < 0 then mf_81_148 N  s else mf_81_124 N x3 x6 s
theorem mr_81_120 {X : Nat → Option zz_C} {h : zz_H} (hh : 111 ≤ h.length) {d : Nat} {N : Nat} {Q : Option Value → zz_H → Prop} {x3 : Int32} {x6 : Int32} {s s' : mS} {v : Option Value} (hf : mf_81_120 N x3 x6 s = some (s', v)) (k : Q v (mH h s')) : zz_E zp_P zt_tf zt_fd X (d + 2) zm_81 120 [(0, .ref 61), (3, .int x3), (6, .int x6)] [] (mH h s) Q := by
  unfold mf_81_120 at hf
  refine mb_81_120 hh  (fun c => ?_) (fun c => ?_)
  · rw [if_pos c] at hf
    exact mr_81_148 hh hf k
  · rw [if_neg c] at hf
    exact mr_81_124 hh hf k
def mf_81_107 (N : Nat) (x3 : Int32) (y0 : Int32) (s : mS) : mO := if ¬ (y0 < 0 ∨ 166300 ≤ Int32.toNatClampNeg y0) then (if ¬ ((s.2.2.1 47) (Int32.toNatClampNeg y0)) = 1 then mf_81_148 N  s else mf_81_120 N x3 y0 s) else none
theorem mr_81_107 {X : Nat → Option zz_C} {h : zz_H} (hh : 111 ≤ h.length) {d : Nat} {N : Nat} {Q : Option Value → zz_H → Prop} {x3 : Int32} {y0 : Int32} {s s' : mS} {v : Option Value} (hf : mf_81_107 N x3 y0 s = some (s', v)) (k : Q v (mH h s')) : zz_E zp_P zt_tf zt_fd X (d + 2) zm_81 107 [(0, .ref 61), (3, .int x3)] [.int y0] (mH h s) Q := by
  unfold mf_81_107 at hf
  obtain ⟨q0, hf⟩ := mo_if hf
  refine mb_81_107 hh q0 (fun c => ?_) (fun c => ?_)
  · rw [if_pos c] at hf
    exact mr_81_148 hh hf k
  · rw [if_neg c] at hf
    exact mr_81_120 hh hf k
def mf_81_100 (N : Nat) (x2 : Int32) (x3 : Int32) (x5 : Int32) (s : mS) : mO := mo_bi (mf_294 N x5 x2 s) (fun s1 y => mf_81_107 N x3 y s1)
theorem mr_81_100 {X : Nat → Option zz_C} {h : zz_H} (hh : 111 ≤ h.length) {d : Nat} {N : Nat} {Q : Option Value → zz_H → Prop} {x2 : Int32} {x3 : Int32} {x5 : Int32} {s s' : mS} {v : Option Value} (hf : mf_81_100 N x2 x3 x5 s = some (s', v)) (k : Q v (mH h s')) : zz_E zp_P zt_tf zt_fd X (d + 2) zm_81 100 [(0, .ref 61), (2, .int x2), (3, .int x3), (5, .int x5)] [] (mH h s) Q := by
  unfold mf_81_100 at hf
  obtain ⟨s1, y, e, hf⟩ := mo_bi_ok hf
  exact mb_81_100 (d := d + 1) hh  (mr_294 (d := d + 1) hh e (mr_81_107 hh hf k))
def mf_81_86 (N : Nat) (x2 : Int32) (x5 : Int32) (s : mS) : mO := if ¬ (((x5 + 3) + (2 * x2)) < 0 ∨ 166300 ≤ Int32.toNatClampNeg ((x5 + 3) + (2 * x2))) then (some (s, (some (.int ((s.2.2.1 47) (Int32.toNatClampNeg ((x5 + 3) + (2 * x2)))))))) else none
theorem mr_81_86 {X : Nat → Option zz_C} {h : zz_H} (hh : 111 ≤ h.length) {d : Nat} {N : Nat} {Q : Option Value → zz_H → Prop} {x2 : Int32} {x5 : Int32} {s s' : mS} {v : Option Value} (hf : mf_81_86 N x2 x5 s = some (s', v)) (k : Q v (mH h s')) : zz_E zp_P zt_tf zt_fd X (d + 2) zm_81 86 [(0, .ref 61), (2, .int x2), (5, .int x5)] [] (mH h s) Q := by
  unfold mf_81_86 at hf
  obtain ⟨q0, hf⟩ := mo_if hf
  cases hf
  exact mb_81_86 hh q0 k
def mf_81_83 (N : Nat) (x2 : Int32) (x3 : Int32) (x5 : Int32) (y0 : Int32) (s : mS) : mO := if y0 = 0 then mf_81_100 N x2 x3 x5 s else mf_81_86 N x2 x5 s
theorem mr_81_83 {X : Nat → Option zz_C} {h : zz_H} (hh : 111 ≤ h.length) {d : Nat} {N : Nat} {Q : Option Value → zz_H → Prop} {x2 : Int32} {x3 : Int32} {x5 : Int32} {y0 : Int32} {s s' : mS} {v : Option Value} (hf : mf_81_83 N x2 x3 x5 y0 s = some (s', v)) (k : Q v (mH h s')) : zz_E zp_P zt_tf zt_fd X (d + 2) zm_81 83 [(0, .ref 61), (2, .int x2), (3, .int x3), (5, .int x5)] [.int y0] (mH h s) Q := by
  unfold mf_81_83 at hf
  refine mb_81_83 hh  (fun c => ?_) (fun c => ?_)
  · rw [if_pos c] at hf
    exact mr_81_100 hh hf k
  · rw [if_neg c] at hf
    exact mr_81_86 hh hf k
def mf_81_76 (N : Nat) (x2 : Int32) (x3 : Int32) (x5 : Int32) (s : mS) : mO := mo_bi (mf_293 N x5 x2 s) (fun s1 y => mf_81_83 N x2 x3 x5 y s1)
theorem mr_81_76 {X : Nat → Option zz_C} {h : zz_H} (hh : 111 ≤ h.length) {d : Nat} {N : Nat} {Q : Option Value → zz_H → Prop} {x2 : Int32} {x3 : Int32} {x5 : Int32} {s s' : mS} {v : Option Value} (hf : mf_81_76 N x2 x3 x5 s = some (s', v)) (k : Q v (mH h s')) : zz_E zp_P zt_tf zt_fd X (d + 2) zm_81 76 [(0, .ref 61), (2, .int x2), (3, .int x3), (5, .int x5)] [] (mH h s) Q := by
  unfold mf_81_76 at hf
  obtain ⟨s1, y, e, hf⟩ := mo_bi_ok hf
  exact mb_81_76 (d := d + 1) hh  (mr_293 (d := d + 1) hh e (mr_81_83 hh hf k))
def mf_81_70 (N : Nat) (x2 : Int32) (x3 : Int32) (x4 : Int32) (x5 : Int32) (s : mS) : mO := if ¬ x4 = 3 then mf_81_100 N x2 x3 x5 s else mf_81_76 N x2 x3 x5 s
theorem mr_81_70 {X : Nat → Option zz_C} {h : zz_H} (hh : 111 ≤ h.length) {d : Nat} {N : Nat} {Q : Option Value → zz_H → Prop} {x2 : Int32} {x3 : Int32} {x4 : Int32} {x5 : Int32} {s s' : mS} {v : Option Value} (hf : mf_81_70 N x2 x3 x4 x5 s = some (s', v)) (k : Q v (mH h s')) : zz_E zp_P zt_tf zt_fd X (d + 2) zm_81 70 [(0, .ref 61), (2, .int x2), (3, .int x3), (4, .int x4), (5, .int x5)] [] (mH h s) Q := by
  unfold mf_81_70 at hf
  refine mb_81_70 hh  (fun c => ?_) (fun c => ?_)
  · rw [if_pos c] at hf
    exact mr_81_100 hh hf k
  · rw [if_neg c] at hf
    exact mr_81_76 hh hf k
def mf_81_58 (N : Nat) (x2 : Int32) (x5 : Int32) (s : mS) : mO := if ¬ (((x5 + 2) + x2) < 0 ∨ 166300 ≤ Int32.toNatClampNeg ((x5 + 2) + x2)) then (some (s, (some (.int ((s.2.2.1 47) (Int32.toNatClampNeg ((x5 + 2) + x2))))))) else none
theorem mr_81_58 {X : Nat → Option zz_C} {h : zz_H} (hh : 111 ≤ h.length) {d : Nat} {N : Nat} {Q : Option Value → zz_H → Prop} {x2 : Int32} {x5 : Int32} {s s' : mS} {v : Option Value} (hf : mf_81_58 N x2 x5 s = some (s', v)) (k : Q v (mH h s')) : zz_E zp_P zt_tf zt_fd X (d + 2) zm_81 58 [(0, .ref 61), (2, .int x2), (5, .int x5)] [] (mH h s) Q := by
  unfold mf_81_58 at hf
  obtain ⟨q0, hf⟩ := mo_if hf
  cases hf
  exact mb_81_58 hh q0 k
def mf_81_52 (N : Nat) (x2 : Int32) (x3 : Int32) (x4 : Int32) (x5 : Int32) (s : mS) : mO := if ¬ x4 = 1 then mf_81_70 N x2 x3 x4 x5 s else mf_81_58 N x2 x5 s
theorem mr_81_52 {X : Nat → Option zz_C} {h : zz_H} (hh : 111 ≤ h.length) {d : Nat} {N : Nat} {Q : Option Value → zz_H → Prop} {x2 : Int32} {x3 : Int32} {x4 : Int32} {x5 : Int32} {s s' : mS} {v : Option Value} (hf : mf_81_52 N x2 x3 x4 x5 s = some (s', v)) (k : Q v (mH h s')) : zz_E zp_P zt_tf zt_fd X (d + 2) zm_81 52 [(0, .ref 61), (2, .int x2), (3, .int x3), (4, .int x4), (5, .int x5)] [] (mH h s) Q := by
  unfold mf_81_52 at hf
  refine mb_81_52 hh  (fun c => ?_) (fun c => ?_)
  · rw [if_pos c] at hf
    exact mr_81_70 hh hf k
  · rw [if_neg c] at hf
    exact mr_81_58 hh hf k
def mf_81_47 (N : Nat) (x2 : Int32) (x3 : Int32) (x4 : Int32) (x5 : Int32) (y0 : Int32) (y1 : Int32) (s : mS) : mO := if y0 < y1 then mf_81_52 N x2 x3 x4 x5 s else mf_81_50 N  s
theorem mr_81_47 {X : Nat → Option zz_C} {h : zz_H} (hh : 111 ≤ h.length) {d : Nat} {N : Nat} {Q : Option Value → zz_H → Prop} {x2 : Int32} {x3 : Int32} {x4 : Int32} {x5 : Int32} {y0 : Int32} {y1 : Int32} {s s' : mS} {v : Option Value} (hf : mf_81_47 N x2 x3 x4 x5 y0 y1 s = some (s', v)) (k : Q v (mH h s')) : zz_E zp_P zt_tf zt_fd X (d + 2) zm_81 47 [(0, .ref 61), (2, .int x2), (3, .int x3), (4, .int x4), (5, .int x5)] [.int y1, .int y0] (mH h s) Q := by
  unfold mf_81_47 at hf
  refine mb_81_47 hh  (fun c => ?_) (fun c => ?_)
  · rw [if_pos c] at hf
    exact mr_81_52 hh hf k
  · rw [if_neg c] at hf
    exact mr_81_50 hh hf k
def mf_81_40 (N : Nat) (x2 : Int32) (x3 : Int32) (x4 : Int32) (x5 : Int32) (s : mS) : mO := mo_bi (mf_77 N x5 s) (fun s1 y => mf_81_47 N x2 x3 x4 x5 x2 y s1)
theorem mr_81_40 {X : Nat → Option zz_C} {h : zz_H} (hh : 111 ≤ h.length) {d : Nat} {N : Nat} {Q : Option Value → zz_H → Prop} {x2 : Int32} {x3 : Int32} {x4 : Int32} {x5 : Int32} {s s' : mS} {v : Option Value} (hf : mf_81_40 N x2 x3 x4 x5 s = some (s', v)) (k : Q v (mH h s')) : zz_E zp_P zt_tf zt_fd X (d + 2) zm_81 40 [(0, .ref 61), (2, .int x2), (3, .int x3), (4, .int x4), (5, .int x5)] [] (mH h s) Q := by
  unfold mf_81_40 at hf
  obtain ⟨s1, y, e, hf⟩ := mo_bi_ok hf
  exact mb_81_40 (d := d + 1) hh  (mr_77 (d := d + 1) hh e (mr_81_47 hh hf k))
def mf_81_36 (N : Nat) (x2 : Int32) (x3 : Int32) (x4 : Int32) (x5 : Int32) (s : mS) : mO := if x2 < 0 then mf_81_50 N  s else mf_81_40 N x2 x3 x4 x5 s
theorem mr_81_36 {X : Nat → Option zz_C} {h : zz_H} (hh : 111 ≤ h.length) {d : Nat} {N : Nat} {Q : Option Value → zz_H → Prop} {x2 : Int32} {x3 : Int32} {x4 : Int32} {x5 : Int32} {s s' : mS} {v : Option Value} (hf : mf_81_36 N x2 x3 x4 x5 s = some (s', v)) (k : Q v (mH h s')) : zz_E zp_P zt_tf zt_fd X (d + 2) zm_81 36 [(0, .ref 61), (2, .int x2), (3, .int x3), (4, .int x4), (5, .int x5)] [] (mH h s) Q := by
  unfold mf_81_36 at hf
  refine mb_81_36 hh  (fun c => ?_) (fun c => ?_)
  · rw [if_pos c] at hf
    exact mr_81_50 hh hf k
  · rw [if_neg c] at hf
    exact mr_81_40 hh hf k
def mf_81_26 (N : Nat) (x5 : Int32) (s : mS) : mO := if ¬ ((x5 + 1) < 0 ∨ 166300 ≤ Int32.toNatClampNeg (x5 + 1)) then (some (s, (some (.int ((s.2.2.1 47) (Int32.toNatClampNeg (x5 + 1))))))) else none
theorem mr_81_26 {X : Nat → Option zz_C} {h : zz_H} (hh : 111 ≤ h.length) {d : Nat} {N : Nat} {Q : Option Value → zz_H → Prop} {x5 : Int32} {s s' : mS} {v : Option Value} (hf : mf_81_26 N x5 s = some (s', v)) (k : Q v (mH h s')) : zz_E zp_P zt_tf zt_fd X (d + 2) zm_81 26 [(0, .ref 61), (5, .int x5)] [] (mH h s) Q := by
  unfold mf_81_26 at hf
  obtain ⟨q0, hf⟩ := mo_if hf
  cases hf
  exact mb_81_26 hh q0 k
def mf_81_14 (N : Nat) (x1 : Int32) (x2 : Int32) (x3 : Int32) (x4 : Int32) (s : mS) : mO := if ¬ x4 = 0 then mf_81_36 N x2 x3 x4 (2410 * x1) s else mf_81_26 N (2410 * x1) s
theorem mr_81_14 {X : Nat → Option zz_C} {h : zz_H} (hh : 111 ≤ h.length) {d : Nat} {N : Nat} {Q : Option Value → zz_H → Prop} {x1 : Int32} {x2 : Int32} {x3 : Int32} {x4 : Int32} {s s' : mS} {v : Option Value} (hf : mf_81_14 N x1 x2 x3 x4 s = some (s', v)) (k : Q v (mH h s')) : zz_E zp_P zt_tf zt_fd X (d + 2) zm_81 14 [(0, .ref 61), (1, .int x1), (2, .int x2), (3, .int x3), (4, .int x4)] [] (mH h s) Q := by
  unfold mf_81_14 at hf
  refine mb_81_14 hh  (fun c => ?_) (fun c => ?_)
  · rw [if_pos c] at hf
    exact mr_81_36 hh hf k
  · rw [if_neg c] at hf
    exact mr_81_26 hh hf k
def mf_81_12 (N : Nat)  (s : mS) : mO := some (s, (some (.int 0)))
theorem mr_81_12 {X : Nat → Option zz_C} {h : zz_H} (hh : 111 ≤ h.length) {d : Nat} {N : Nat} {Q : Option Value → zz_H → Prop}  {s s' : mS} {v : Option Value} (hf : mf_81_12 N  s = some (s', v)) (k : Q v (mH h s')) : zz_E zp_P zt_tf zt_fd X (d + 2) zm_81 12 [] [] (mH h s) Q := by
  unfold mf_81_12 at hf
  cases hf
  exact mb_81_12 hh  k
def mf_81_5 (N : Nat) (x1 : Int32) (x2 : Int32) (x3 : Int32) (y0 : Int32) (s : mS) : mO := if 0 ≤ y0 then mf_81_14 N x1 x2 x3 y0 s else mf_81_12 N  s
theorem mr_81_5 {X : Nat → Option zz_C} {h : zz_H} (hh : 111 ≤ h.length) {d : Nat} {N : Nat} {Q : Option Value → zz_H → Prop} {x1 : Int32} {x2 : Int32} {x3 : Int32} {y0 : Int32} {s s' : mS} {v : Option Value} (hf : mf_81_5 N x1 x2 x3 y0 s = some (s', v)) (k : Q v (mH h s')) : zz_E zp_P zt_tf zt_fd X (d + 2) zm_81 5 [(0, .ref 61), (1, .int x1), (2, .int x2), (3, .int x3)] [.int y0] (mH h s) Q := by
  unfold mf_81_5 at hf
  refine mb_81_5 hh  (fun c => ?_) (fun c => ?_)
  · rw [if_pos c] at hf
    exact mr_81_14 hh hf k
  · rw [if_neg c] at hf
    exact mr_81_12 hh hf k
def mf_81_0 (N : Nat) (x1 : Int32) (x2 : Int32) (x3 : Int32) (s : mS) : mO := mo_bi (mf_79 N x1 s) (fun s1 y => mf_81_5 N x1 x2 x3 y s1)
theorem mr_81_0 {X : Nat → Option zz_C} {h : zz_H} (hh : 111 ≤ h.length) {d : Nat} {N : Nat} {Q : Option Value → zz_H → Prop} {x1 : Int32} {x2 : Int32} {x3 : Int32} {s s' : mS} {v : Option Value} (hf : mf_81_0 N x1 x2 x3 s = some (s', v)) (k : Q v (mH h s')) : zz_E zp_P zt_tf zt_fd X (d + 2) zm_81 0 [(0, .ref 61), (1, .int x1), (2, .int x2), (3, .int x3)] [] (mH h s) Q := by
  unfold mf_81_0 at hf
  obtain ⟨s1, y, e, hf⟩ := mo_bi_ok hf
  exact mb_81_0 (d := d + 1) hh  (mr_79 (d := d + 0) hh e (mr_81_5 hh hf k))
/-- cell -/
def mf_81 (N : Nat) (x1 : Int32) (x2 : Int32) (x3 : Int32) (s : mS) : mO := mf_81_0 N x1 x2 x3 s
theorem mr_81 {X : Nat → Option zz_C} {h : zz_H} (hh : 111 ≤ h.length) {d : Nat} {N : Nat} {Q : Option Value → zz_H → Prop} {x1 : Int32} {x2 : Int32} {x3 : Int32} {s s' : mS} {v : Option Value} (hf : mf_81 N x1 x2 x3 s = some (s', v)) (k : Q v (mH h s')) : zz_E zp_P zt_tf zt_fd X (d + 2) zm_81 0 [(0, .ref 61), (1, .int x1), (2, .int x2), (3, .int x3)] [] (mH h s) Q := by
  unfold mf_81 at hf
  exact zz_E.weak (mr_81_0 hh hf k) rfl ⟨rfl, rfl, rfl, rfl, trivial⟩
/-! same (II)Z -/
theorem mb_82_0 {X : Nat → Option zz_C} {h : zz_H} (hh : 111 ≤ h.length) {s : mS} {d : Nat} {Q : Option Value → zz_H → Prop} {x1 : Int32} {x2 : Int32} (k : zz_E zp_P zt_tf zt_fd X d zm_73 0 [(0, .int x1)] [] (mH h s) (fun v h' => zz_E zp_P zt_tf zt_fd X (d + 1) zm_82 4 [(0, .ref 61), (1, .int x1), (2, .int x2)] (v.toList ++ []) h' Q)) : zz_E zp_P zt_tf zt_fd X (d + 1) zm_82 0 [(0, .ref 61), (1, .int x1), (2, .int x2)] [] (mH h s) Q := by
  refine zz_E.n 1 rfl rfl rfl ?_
  refine zz_E.cl (M' := zm_73) 4 rfl rfl (by decide) rfl rfl ⟨rfl, Nat.le_of_ble_eq_true rfl⟩ rfl ?_
  refine zz_E.mono k ?_
  intro v h' hE
  exact zz_E.weak hE rfl ⟨rfl, rfl, rfl, trivial⟩
theorem mb_82_4 {X : Nat → Option zz_C} {h : zz_H} (hh : 111 ≤ h.length) {s : mS} {d : Nat} {Q : Option Value → zz_H → Prop} {x1 : Int32} {x2 : Int32} {y0 : Int32} (k1 : y0 = 0 → zz_E zp_P zt_tf zt_fd X d zm_82 14 [] [] (mH h s) Q) (k2 : ¬ y0 = 0 → zz_E zp_P zt_tf zt_fd X d zm_82 7 [(0, .ref 61), (1, .int x1), (2, .int x2)] [] (mH h s) Q) : zz_E zp_P zt_tf zt_fd X d zm_82 4 [(0, .ref 61), (1, .int x1), (2, .int x2)] [.int y0] (mH h s) Q := by
  refine zz_E.b1 14 7 (A := y0 = 0) rfl rfl (by decide) rfl rfl (fun c => ?_) (fun c => ?_)
  · exact zz_E.weak (k1 c) rfl trivial
  · exact zz_E.weak (k2 c) rfl ⟨rfl, rfl, rfl, trivial⟩
theorem mb_82_7 {X : Nat → Option zz_C} {h : zz_H} (hh : 111 ≤ h.length) {s : mS} {d : Nat} {Q : Option Value → zz_H → Prop} {x1 : Int32} {x2 : Int32} (k : zz_E zp_P zt_tf zt_fd X d zm_73 0 [(0, .int x2)] [] (mH h s) (fun v h' => zz_E zp_P zt_tf zt_fd X (d + 1) zm_82 11 [(0, .ref 61), (1, .int x1), (2, .int x2)] (v.toList ++ []) h' Q)) : zz_E zp_P zt_tf zt_fd X (d + 1) zm_82 7 [(0, .ref 61), (1, .int x1), (2, .int x2)] [] (mH h s) Q := by
  refine zz_E.n 8 rfl rfl rfl ?_
  refine zz_E.cl (M' := zm_73) 11 rfl rfl (by decide) rfl rfl ⟨rfl, Nat.le_of_ble_eq_true rfl⟩ rfl ?_
  refine zz_E.mono k ?_
  intro v h' hE
  exact zz_E.weak hE rfl ⟨rfl, rfl, rfl, trivial⟩
theorem mb_82_11 {X : Nat → Option zz_C} {h : zz_H} (hh : 111 ≤ h.length) {s : mS} {d : Nat} {Q : Option Value → zz_H → Prop} {x1 : Int32} {x2 : Int32} {y0 : Int32} (k1 : ¬ y0 = 0 → zz_E zp_P zt_tf zt_fd X d zm_82 16 [(0, .ref 61), (1, .int x1), (2, .int x2)] [] (mH h s) Q) (k2 : ¬ ¬ y0 = 0 → zz_E zp_P zt_tf zt_fd X d zm_82 14 [] [] (mH h s) Q) : zz_E zp_P zt_tf zt_fd X d zm_82 11 [(0, .ref 61), (1, .int x1), (2, .int x2)] [.int y0] (mH h s) Q := by
  refine zz_E.b1 16 14 (A := ¬ y0 = 0) rfl (zz_cond_ne _ _) (by decide) rfl rfl (fun c => ?_) (fun c => ?_)
  · exact zz_E.weak (k1 c) rfl ⟨rfl, rfl, rfl, trivial⟩
  · exact zz_E.weak (k2 c) rfl trivial
theorem mb_82_14 {X : Nat → Option zz_C} {h : zz_H} (hh : 111 ≤ h.length) {s : mS} {d : Nat} {Q : Option Value → zz_H → Prop}  (k : Q (some (.int 0)) (mH h s)) : zz_E zp_P zt_tf zt_fd X d zm_82 14 [] [] (mH h s) Q := by
  refine zz_E.c 15 (.int 0) rfl rfl rfl rfl ?_
  refine zz_E.ret rfl rfl rfl ?_
  exact k
theorem mb_82_16 {X : Nat → Option zz_C} {h : zz_H} (hh : 111 ≤ h.length) {s : mS} {d : Nat} {Q : Option Value → zz_H → Prop} {x1 : Int32} {x2 : Int32} (i34 : ¬ ((2410 * x1) < 0 ∨ 166300 ≤ Int32.toNatClampNeg (2410 * x1))) (k1 : ((s.2.2.1 47) (Int32.toNatClampNeg (2410 * x1))) ≤ 0 → zz_E zp_P zt_tf zt_fd X d zm_82 48 [(0, .ref 61), (3, .int (2410 * x1)), (4, .int (2410 * x2))] [] (mH h s) Q) (k2 : ¬ ((s.2.2.1 47) (Int32.toNatClampNeg (2410 * x1))) ≤ 0 → zz_E zp_P zt_tf zt_fd X d zm_82 38 [(0, .ref 61), (3, .int (2410 * x1)), (4, .int (2410 * x2))] [] (mH h s) Q) : zz_E zp_P zt_tf zt_fd X d zm_82 16 [(0, .ref 61), (1, .int x1), (2, .int x2)] [] (mH h s) Q := by
  refine zz_E.c 19 (.int 2410) rfl rfl rfl rfl ?_
  refine zz_E.n 20 rfl rfl rfl ?_
  refine zz_E.n 21 rfl rfl rfl ?_
  refine zz_E.n 22 rfl rfl rfl ?_
  refine zz_E.c 25 (.int 2410) rfl rfl rfl rfl ?_
  refine zz_E.n 26 rfl rfl rfl ?_
  refine zz_E.n 27 rfl rfl rfl ?_
  refine zz_E.n 29 rfl rfl rfl ?_
  refine zz_E.n 30 rfl rfl rfl ?_
  refine mE_g hh 33 (v := .ref 89) rfl rfl rfl ?_
  refine zz_E.n 34 rfl rfl rfl ?_
  refine mE_ia hh 35 28 (f := (s.2.2.1 47)) rfl (by decide) rfl rfl i34 rfl ?_
  refine zz_E.b1 48 38 (A := ((s.2.2.1 47) (Int32.toNatClampNeg (2410 * x1))) ≤ 0) rfl rfl (by decide) rfl rfl (fun c => ?_) (fun c => ?_)
  · exact zz_E.weak (k1 c) rfl ⟨rfl, rfl, rfl, trivial⟩
  · exact zz_E.weak (k2 c) rfl ⟨rfl, rfl, rfl, trivial⟩
theorem mb_82_38 {X : Nat → Option zz_C} {h : zz_H} (hh : 111 ≤ h.length) {s : mS} {d : Nat} {Q : Option Value → zz_H → Prop} {x3 : Int32} {x4 : Int32} (i44 : ¬ (x4 < 0 ∨ 166300 ≤ Int32.toNatClampNeg x4)) (k1 : 0 < ((s.2.2.1 47) (Int32.toNatClampNeg x4)) → zz_E zp_P zt_tf zt_fd X d zm_82 99 [(0, .ref 61), (3, .int x3), (4, .int x4)] [] (mH h s) Q) (k2 : ¬ 0 < ((s.2.2.1 47) (Int32.toNatClampNeg x4)) → zz_E zp_P zt_tf zt_fd X d zm_82 48 [(0, .ref 61), (3, .int x3), (4, .int x4)] [] (mH h s) Q) : zz_E zp_P zt_tf zt_fd X d zm_82 38 [(0, .ref 61), (3, .int x3), (4, .int x4)] [] (mH h s) Q := by
  refine zz_E.n 39 rfl rfl rfl ?_
  refine mE_g hh 42 (v := .ref 89) rfl rfl rfl ?_
  refine zz_E.n 44 rfl rfl rfl ?_
  refine mE_ia hh 45 28 (f := (s.2.2.1 47)) rfl (by decide) rfl rfl i44 rfl ?_
  refine zz_E.b1 99 48 (A := 0 < ((s.2.2.1 47) (Int32.toNatClampNeg x4))) rfl rfl (by decide) rfl rfl (fun c => ?_) (fun c => ?_)
  · exact zz_E.weak (k1 c) rfl ⟨rfl, rfl, rfl, trivial⟩
  · exact zz_E.weak (k2 c) rfl ⟨rfl, rfl, rfl, trivial⟩
theorem mb_82_48 {X : Nat → Option zz_C} {h : zz_H} (hh : 111 ≤ h.length) {s : mS} {d : Nat} {Q : Option Value → zz_H → Prop} {x3 : Int32} {x4 : Int32} (i53 : ¬ (x3 < 0 ∨ 166300 ≤ Int32.toNatClampNeg x3)) (i60 : ¬ (x4 < 0 ∨ 166300 ≤ Int32.toNatClampNeg x4)) (k1 : ¬ ((s.2.2.1 47) (Int32.toNatClampNeg x3)) = ((s.2.2.1 47) (Int32.toNatClampNeg x4)) → zz_E zp_P zt_tf zt_fd X d zm_82 97 [] [] (mH h s) Q) (k2 : ¬ ¬ ((s.2.2.1 47) (Int32.toNatClampNeg x3)) = ((s.2.2.1 47) (Int32.toNatClampNeg x4)) → zz_E zp_P zt_tf zt_fd X d zm_82 64 [(0, .ref 61), (3, .int x3), (4, .int x4)] [] (mH h s) Q) : zz_E zp_P zt_tf zt_fd X d zm_82 48 [(0, .ref 61), (3, .int x3), (4, .int x4)] [] (mH h s) Q := by
  refine zz_E.n 49 rfl rfl rfl ?_
  refine mE_g hh 52 (v := .ref 89) rfl rfl rfl ?_
  refine zz_E.n 53 rfl rfl rfl ?_
  refine mE_ia hh 54 28 (f := (s.2.2.1 47)) rfl (by decide) rfl rfl i53 rfl ?_
  refine zz_E.n 55 rfl rfl rfl ?_
  refine mE_g hh 58 (v := .ref 89) rfl rfl rfl ?_
  refine zz_E.n 60 rfl rfl rfl ?_
  refine mE_ia hh 61 28 (f := (s.2.2.1 47)) rfl (by decide) rfl rfl i60 rfl ?_
  refine zz_E.b2 97 64 (A := ¬ ((s.2.2.1 47) (Int32.toNatClampNeg x3)) = ((s.2.2.1 47) (Int32.toNatClampNeg x4))) rfl (zz_cond_ne _ _) (by decide) rfl rfl (fun c => ?_) (fun c => ?_)
  · exact zz_E.weak (k1 c) rfl trivial
  · exact zz_E.weak (k2 c) rfl ⟨rfl, rfl, rfl, trivial⟩
theorem mb_82_64 {X : Nat → Option zz_C} {h : zz_H} (hh : 111 ≤ h.length) {s : mS} {d : Nat} {Q : Option Value → zz_H → Prop} {x3 : Int32} {x4 : Int32} (i69 : ¬ (x3 < 0 ∨ 166300 ≤ Int32.toNatClampNeg x3)) (k1 : ((s.2.2.1 47) (Int32.toNatClampNeg x3)) < 0 → zz_E zp_P zt_tf zt_fd X d zm_82 93 [] [] (mH h s) Q) (k2 : ¬ ((s.2.2.1 47) (Int32.toNatClampNeg x3)) < 0 → zz_E zp_P zt_tf zt_fd X d zm_82 73 [(0, .ref 61), (3, .int x3), (4, .int x4)] [] (mH h s) Q) : zz_E zp_P zt_tf zt_fd X d zm_82 64 [(0, .ref 61), (3, .int x3), (4, .int x4)] [] (mH h s) Q := by
  refine zz_E.n 65 rfl rfl rfl ?_
  refine mE_g hh 68 (v := .ref 89) rfl rfl rfl ?_
  refine zz_E.n 69 rfl rfl rfl ?_
  refine mE_ia hh 70 28 (f := (s.2.2.1 47)) rfl (by decide) rfl rfl i69 rfl ?_
  refine zz_E.b1 93 73 (A := ((s.2.2.1 47) (Int32.toNatClampNeg x3)) < 0) rfl rfl (by decide) rfl rfl (fun c => ?_) (fun c => ?_)
  · exact zz_E.weak (k1 c) rfl trivial
  · exact zz_E.weak (k2 c) rfl ⟨rfl, rfl, rfl, trivial⟩
theorem mb_82_73 {X : Nat → Option zz_C} {h : zz_H} (hh : 111 ≤ h.length) {s : mS} {d : Nat} {Q : Option Value → zz_H → Prop} {x3 : Int32} {x4 : Int32} (i80 : ¬ ((x3 + 1) < 0 ∨ 166300 ≤ Int32.toNatClampNeg (x3 + 1))) (i89 : ¬ ((x4 + 1) < 0 ∨ 166300 ≤ Int32.toNatClampNeg (x4 + 1))) (k1 : ¬ ((s.2.2.1 47) (Int32.toNatClampNeg (x3 + 1))) = ((s.2.2.1 47) (Int32.toNatClampNeg (x4 + 1))) → zz_E zp_P zt_tf zt_fd X d zm_82 97 [] [] (mH h s) Q) (k2 : ¬ ¬ ((s.2.2.1 47) (Int32.toNatClampNeg (x3 + 1))) = ((s.2.2.1 47) (Int32.toNatClampNeg (x4 + 1))) → zz_E zp_P zt_tf zt_fd X d zm_82 93 [] [] (mH h s) Q) : zz_E zp_P zt_tf zt_fd X d zm_82 73 [(0, .ref 61), (3, .int x3), (4, .int x4)] [] (mH h s) Q := by
  refine zz_E.n 74 rfl rfl rfl ?_
  refine mE_g hh 77 (v := .ref 89) rfl rfl rfl ?_
  refine zz_E.n 78 rfl rfl rfl ?_
  refine zz_E.c 79 (.int 1) rfl rfl rfl rfl ?_
  refine zz_E.n 80 rfl rfl rfl ?_
  refine mE_ia hh 81 28 (f := (s.2.2.1 47)) rfl (by decide) rfl rfl i80 rfl ?_
  refine zz_E.n 82 rfl rfl rfl ?_
  refine mE_g hh 85 (v := .ref 89) rfl rfl rfl ?_
  refine zz_E.n 87 rfl rfl rfl ?_
  refine zz_E.c 88 (.int 1) rfl rfl rfl rfl ?_
  refine zz_E.n 89 rfl rfl rfl ?_
  refine mE_ia hh 90 28 (f := (s.2.2.1 47)) rfl (by decide) rfl rfl i89 rfl ?_
  refine zz_E.b2 97 93 (A := ¬ ((s.2.2.1 47) (Int32.toNatClampNeg (x3 + 1))) = ((s.2.2.1 47) (Int32.toNatClampNeg (x4 + 1)))) rfl (zz_cond_ne _ _) (by decide) rfl rfl (fun c => ?_) (fun c => ?_)
  · exact zz_E.weak (k1 c) rfl trivial
  · exact zz_E.weak (k2 c) rfl trivial
theorem mb_82_93 {X : Nat → Option zz_C} {h : zz_H} (hh : 111 ≤ h.length) {s : mS} {d : Nat} {Q : Option Value → zz_H → Prop}  (k : zz_E zp_P zt_tf zt_fd X d zm_82 98 [] [.int 1] (mH h s) Q) : zz_E zp_P zt_tf zt_fd X d zm_82 93 [] [] (mH h s) Q := by
  refine zz_E.c 94 (.int 1) rfl rfl rfl rfl ?_
  refine zz_E.n 98 rfl rfl rfl ?_
  exact zz_E.weak k rfl trivial
theorem mb_82_97 {X : Nat → Option zz_C} {h : zz_H} (hh : 111 ≤ h.length) {s : mS} {d : Nat} {Q : Option Value → zz_H → Prop}  (k : zz_E zp_P zt_tf zt_fd X d zm_82 98 [] [.int 0] (mH h s) Q) : zz_E zp_P zt_tf zt_fd X d zm_82 97 [] [] (mH h s) Q := by
  refine zz_E.c 98 (.int 0) rfl rfl rfl rfl ?_
  exact zz_E.weak k rfl trivial
theorem mb_82_98 {X : Nat → Option zz_C} {h : zz_H} (hh : 111 ≤ h.length) {s : mS} {d : Nat} {Q : Option Value → zz_H → Prop} {y0 : Int32} (k : Q (some (.int y0)) (mH h s)) (rb : zz_reti (some .boolean) y0 = true) : zz_E zp_P zt_tf zt_fd X d zm_82 98 [] [.int y0] (mH h s) Q := by
  refine zz_E.ret rfl rfl (if_pos ⟨rfl, rb⟩) ?_
  exact k
theorem mb_82_99 {X : Nat → Option zz_C} {h : zz_H} (hh : 111 ≤ h.length) {s : mS} {d : Nat} {Q : Option Value → zz_H → Prop} {x3 : Int32} {x4 : Int32} (k : zz_E zp_P zt_tf zt_fd X d zm_346 0 [(0, .ref 61), (1, .int x3), (2, .int x4)] [] (mH h s) (fun v h' => zz_E zp_P zt_tf zt_fd X (d + 1) zm_82 106 [] (v.toList ++ []) h' Q)) : zz_E zp_P zt_tf zt_fd X (d + 1) zm_82 99 [(0, .ref 61), (3, .int x3), (4, .int x4)] [] (mH h s) Q := by
  refine zz_E.n 100 rfl rfl rfl ?_
  refine zz_E.n 101 rfl rfl rfl ?_
  refine zz_E.n 103 rfl rfl rfl ?_
  refine mE_cv hh 106 (as := []) rfl rfl (Nat.le_of_ble_eq_true rfl) (Nat.le_of_ble_eq_true rfl) rfl (Nat.le_of_ble_eq_true rfl) rfl ?_
  refine zz_E.mono k ?_
  intro v h' hE
  exact zz_E.weak hE rfl trivial
theorem mb_82_106 {X : Nat → Option zz_C} {h : zz_H} (hh : 111 ≤ h.length) {s : mS} {d : Nat} {Q : Option Value → zz_H → Prop} {y0 : Int32} (k : Q (some (.int y0)) (mH h s)) (rb : zz_reti (some .boolean) y0 = true) : zz_E zp_P zt_tf zt_fd X d zm_82 106 [] [.int y0] (mH h s) Q := by
  refine zz_E.ret rfl rfl (if_pos ⟨rfl, rb⟩) ?_
  exact k
def mf_82_14 (N : Nat)  (s : mS) : mO := some (s, (some (.int 0)))
theorem mr_82_14 {X : Nat → Option zz_C} {h : zz_H} (hh : 111 ≤ h.length) {d : Nat} {N : Nat} {Q : Option Value → zz_H → Prop}  {s s' : mS} {v : Option Value} (hf : mf_82_14 N  s = some (s', v)) (k : Q v (mH h s')) : zz_E zp_P zt_tf zt_fd X (d + 4) zm_82 14 [] [] (mH h s) Q := by
  unfold mf_82_14 at hf
  cases hf
  exact mb_82_14 hh  k
def mf_82_98 (N : Nat) (y0 : Int32) (s : mS) : mO := if zz_reti (some .boolean) y0 = true then some (s, (some (.int y0))) else none
theorem mr_82_98 {X : Nat → Option zz_C} {h : zz_H} (hh : 111 ≤ h.length) {d : Nat} {N : Nat} {Q : Option Value → zz_H → Prop} {y0 : Int32} {s s' : mS} {v : Option Value} (hf : mf_82_98 N y0 s = some (s', v)) (k : Q v (mH h s')) : zz_E zp_P zt_tf zt_fd X (d + 4) zm_82 98 [] [.int y0] (mH h s) Q := by
  unfold mf_82_98 at hf
  obtain ⟨rb, hf⟩ := mo_if hf
  cases hf
  exact mb_82_98 hh  k rb
def mf_82_97 (N : Nat)  (s : mS) : mO := mf_82_98 N 0 s
theorem mr_82_97 {X : Nat → Option zz_C} {h : zz_H} (hh : 111 ≤ h.length) {d : Nat} {N : Nat} {Q : Option Value → zz_H → Prop}  {s s' : mS} {v : Option Value} (hf : mf_82_97 N  s = some (s', v)) (k : Q v (mH h s')) : zz_E zp_P zt_tf zt_fd X (d + 4) zm_82 97 [] [] (mH h s) Q := by
  unfold mf_82_97 at hf
  exact mb_82_97 hh  (mr_82_98 hh hf k)
def mf_82_93 (N : Nat)  (s : mS) : mO := mf_82_98 N 1 s
theorem mr_82_93 {X : Nat → Option zz_C} {h : zz_H} (hh : 111 ≤ h.length) {d : Nat} {N : Nat} {Q : Option Value → zz_H → Prop}  {s s' : mS} {v : Option Value} (hf : mf_82_93 N  s = some (s', v)) (k : Q v (mH h s')) : zz_E zp_P zt_tf zt_fd X (d + 4) zm_82 93 [] [] (mH h s) Q := by
  unfold mf_82_93 at hf
  exact mb_82_93 hh  (mr_82_98 hh hf k)
def mf_82_73 (N : Nat) (x3 : Int32) (x4 : Int32) (s : mS) : mO := if ¬ ((x3 + 1) < 0 ∨ 166300 ≤ Int32.toNatClampNeg (x3 + 1)) then (if ¬ ((x4 + 1) < 0 ∨ 166300 ≤ Int32.toNatClampNeg (x4 + 1)) then (if ¬ ((s.2.2.1 47) (Int32.toNatClampNeg (x3 + 1))) = ((s.2.2.1 47) (Int32.toNatClampNeg (x4 + 1))) then mf_82_97 N  s else mf_82_93 N  s) else none) else none
theorem mr_82_73 {X : Nat → Option zz_C} {h : zz_H} (hh : 111 ≤ h.length) {d : Nat} {N : Nat} {Q : Option Value → zz_H → Prop} {x3 : Int32} {x4 : Int32} {s s' : mS} {v : Option Value} (hf : mf_82_73 N x3 x4 s = some (s', v)) (k : Q v (mH h s')) : zz_E zp_P zt_tf zt_fd X (d + 4) zm_82 73 [(0, .ref 61), (3, .int x3), (4, .int x4)] [] (mH h s) Q := by
  unfold mf_82_73 at hf
  obtain ⟨q0, hf⟩ := mo_if hf
  obtain ⟨q1, hf⟩ := mo_if hf
  refine mb_82_73 hh q0 q1 (fun c => ?_) (fun c => ?_)
  · rw [if_pos c] at hf
    exact mr_82_97 hh hf k
  · rw [if_neg c] at hf
    exact mr_82_93 hh hf k
def mf_82_64 (N : Nat) (x3 : Int32) (x4 : Int32) (s : mS) : mO := if ¬ (x3 < 0 ∨ 166300 ≤ Int32.toNatClampNeg x3) then (if ((s.2.2.1 47) (Int32.toNatClampNeg x3)) < 0 then mf_82_93 N  s else mf_82_73 N x3 x4 s) else none
theorem mr_82_64 {X : Nat → Option zz_C} {h : zz_H} (hh : 111 ≤ h.length) {d : Nat} {N : Nat} {Q : Option Value → zz_H → Prop} {x3 : Int32} {x4 : Int32} {s s' : mS} {v : Option Value} (hf : mf_82_64 N x3 x4 s = some (s', v)) (k : Q v (mH h s')) : zz_E zp_P zt_tf zt_fd X (d + 4) zm_82 64 [(0, .ref 61), (3, .int x3), (4, .int x4)] [] (mH h s) Q := by
  unfold mf_82_64 at hf
  obtain ⟨q0, hf⟩ := mo_if hf
  refine mb_82_64 hh q0 (fun c => ?_) (fun c => ?_)
  · rw [if_pos c] at hf
    exact mr_82_93 hh hf k
  · rw [if_neg c] at hf
    exact mr_82_73 hh hf k
def mf_82_48 (N : Nat) (x3 : Int32) (x4 : Int32) (s : mS) : mO := if ¬ (x3 < 0 ∨ 166300 ≤ Int32.toNatClampNeg x3) then (if ¬ (x4 < 0 ∨ 166300 ≤ Int32.toNatClampNeg x4) then (if ¬ ((s.2.2.1 47) (Int32.toNatClampNeg x3)) = ((s.2.2.1 47) (Int32.toNatClampNeg x4)) then mf_82_97 N  s else mf_82_64 N x3 x4 s) else none) else none
theorem mr_82_48 {X : Nat → Option zz_C} {h : zz_H} (hh : 111 ≤ h.length) {d : Nat} {N : Nat} {Q : Option Value → zz_H → Prop} {x3 : Int32} {x4 : Int32} {s s' : mS} {v : Option Value} (hf : mf_82_48 N x3 x4 s = some (s', v)) (k : Q v (mH h s')) : zz_E zp_P zt_tf zt_fd X (d + 4) zm_82 48 [(0, .ref 61), (3, .int x3), (4, .int x4)] [] (mH h s) Q := by
  unfold mf_82_48 at hf
  obtain ⟨q0, hf⟩ := mo_if hf
  obtain ⟨q1, hf⟩ := mo_if hf
  refine mb_82_48 hh q0 q1 (fun c => ?_) (fun c => ?_)
  · rw [if_pos c] at hf
    exact mr_82_97 hh hf k
  · rw [if_neg c] at hf
    exact mr_82_64 hh hf k
def mf_82_106 (N : Nat) (y0 : Int32) (s : mS) : mO := if zz_reti (some .boolean) y0 = true then some (s, (some (.int y0))) else none
theorem mr_82_106 {X : Nat → Option zz_C} {h : zz_H} (hh : 111 ≤ h.length) {d : Nat} {N : Nat} {Q : Option Value → zz_H → Prop} {y0 : Int32} {s s' : mS} {v : Option Value} (hf : mf_82_106 N y0 s = some (s', v)) (k : Q v (mH h s')) : zz_E zp_P zt_tf zt_fd X (d + 4) zm_82 106 [] [.int y0] (mH h s) Q := by
  unfold mf_82_106 at hf
  obtain ⟨rb, hf⟩ := mo_if hf
  cases hf
  exact mb_82_106 hh  k rb
def mf_82_99 (N : Nat) (x3 : Int32) (x4 : Int32) (s : mS) : mO := mo_bi (mf_346 N x3 x4 s) (fun s1 y => mf_82_106 N y s1)
theorem mr_82_99 {X : Nat → Option zz_C} {h : zz_H} (hh : 111 ≤ h.length) {d : Nat} {N : Nat} {Q : Option Value → zz_H → Prop} {x3 : Int32} {x4 : Int32} {s s' : mS} {v : Option Value} (hf : mf_82_99 N x3 x4 s = some (s', v)) (k : Q v (mH h s')) : zz_E zp_P zt_tf zt_fd X (d + 4) zm_82 99 [(0, .ref 61), (3, .int x3), (4, .int x4)] [] (mH h s) Q := by
  unfold mf_82_99 at hf
  obtain ⟨s1, y, e, hf⟩ := mo_bi_ok hf
  exact mb_82_99 (d := d + 3) hh  (mr_346 (d := d + 0) hh e (mr_82_106 hh hf k))
def mf_82_38 (N : Nat) (x3 : Int32) (x4 : Int32) (s : mS) : mO := if ¬ (x4 < 0 ∨ 166300 ≤ Int32.toNatClampNeg x4) then (if 0 < ((s.2.2.1 47) (Int32.toNatClampNeg x4)) then mf_82_99 N x3 x4 s else mf_82_48 N x3 x4 s) else none
theorem mr_82_38 {X : Nat → Option zz_C} {h : zz_H} (hh : 111 ≤ h.length) {d : Nat} {N : Nat} {Q : Option Value → zz_H → Prop} {x3 : Int32} {x4 : Int32} {s s' : mS} {v : Option Value} (hf : mf_82_38 N x3 x4 s = some (s', v)) (k : Q v (mH h s')) : zz_E zp_P zt_tf zt_fd X (d + 4) zm_82 38 [(0, .ref 61), (3, .int x3), (4, .int x4)] [] (mH h s) Q := by
  unfold mf_82_38 at hf
  obtain ⟨q0, hf⟩ := mo_if hf
  refine mb_82_38 hh q0 (fun c => ?_) (fun c => ?_)
  · rw [if_pos c] at hf
    exact mr_82_99 hh hf k
  · rw [if_neg c] at hf
    exact mr_82_48 hh hf k
def mf_82_16 (N : Nat) (x1 : Int32) (x2 : Int32) (s : mS) : mO := if ¬ ((2410 * x1) < 0 ∨ 166300 ≤ Int32.toNatClampNeg (2410 * x1)) then (if ((s.2.2.1 47) (Int32.toNatClampNeg (2410 * x1))) ≤ 0 then mf_82_48 N (2410 * x1) (2410 * x2) s else mf_82_38 N (2410 * x1) (2410 * x2) s) else none
theorem mr_82_16 {X : Nat → Option zz_C} {h : zz_H} (hh : 111 ≤ h.length) {d : Nat} {N : Nat} {Q : Option Value → zz_H → Prop} {x1 : Int32} {x2 : Int32} {s s' : mS} {v : Option Value} (hf : mf_82_16 N x1 x2 s = some (s', v)) (k : Q v (mH h s')) : zz_E zp_P zt_tf zt_fd X (d + 4) zm_82 16 [(0, .ref 61), (1, .int x1), (2, .int x2)] [] (mH h s) Q := by
  unfold mf_82_16 at hf
  obtain ⟨q0, hf⟩ := mo_if hf
  refine mb_82_16 hh q0 (fun c => ?_) (fun c => ?_)
  · rw [if_pos c] at hf
    exact mr_82_48 hh hf k
  · rw [if_neg c] at hf
    exact mr_82_38 hh hf k
def mf_82_11 (N : Nat) (x1 : Int32) (x2 : Int32) (y0 : Int32) (s : mS) : mO := if ¬ y0 = 0 then mf_82_16 N x1 x2 s else mf_82_14 N  s
theorem mr_82_11 {X : Nat → Option zz_C} {h : zz_H} (hh : 111 ≤ h.length) {d : Nat} {N : Nat} {Q : Option Value → zz_H → Prop} {x1 : Int32} {x2 : Int32} {y0 : Int32} {s s' : mS} {v : Option Value} (hf : mf_82_11 N x1 x2 y0 s = some (s', v)) (k : Q v (mH h s')) : zz_E zp_P zt_tf zt_fd X (d + 4) zm_82 11 [(0, .ref 61), (1, .int x1), (2, .int x2)] [.int y0] (mH h s) Q := by
  unfold mf_82_11 at hf
  refine mb_82_11 hh  (fun c => ?_) (fun c => ?_)
  · rw [if_pos c] at hf
    exact mr_82_16 hh hf k
  · rw [if_neg c] at hf
    exact mr_82_14 hh hf k
def mf_82_7 (N : Nat) (x1 : Int32) (x2 : Int32) (s : mS) : mO := mo_bi (mf_73 N x2 s) (fun s1 y => mf_82_11 N x1 x2 y s1)
theorem mr_82_7 {X : Nat → Option zz_C} {h : zz_H} (hh : 111 ≤ h.length) {d : Nat} {N : Nat} {Q : Option Value → zz_H → Prop} {x1 : Int32} {x2 : Int32} {s s' : mS} {v : Option Value} (hf : mf_82_7 N x1 x2 s = some (s', v)) (k : Q v (mH h s')) : zz_E zp_P zt_tf zt_fd X (d + 4) zm_82 7 [(0, .ref 61), (1, .int x1), (2, .int x2)] [] (mH h s) Q := by
  unfold mf_82_7 at hf
  obtain ⟨s1, y, e, hf⟩ := mo_bi_ok hf
  exact mb_82_7 (d := d + 3) hh  (mr_73 (d := d + 3) hh e (mr_82_11 hh hf k))
def mf_82_4 (N : Nat) (x1 : Int32) (x2 : Int32) (y0 : Int32) (s : mS) : mO := if y0 = 0 then mf_82_14 N  s else mf_82_7 N x1 x2 s
theorem mr_82_4 {X : Nat → Option zz_C} {h : zz_H} (hh : 111 ≤ h.length) {d : Nat} {N : Nat} {Q : Option Value → zz_H → Prop} {x1 : Int32} {x2 : Int32} {y0 : Int32} {s s' : mS} {v : Option Value} (hf : mf_82_4 N x1 x2 y0 s = some (s', v)) (k : Q v (mH h s')) : zz_E zp_P zt_tf zt_fd X (d + 4) zm_82 4 [(0, .ref 61), (1, .int x1), (2, .int x2)] [.int y0] (mH h s) Q := by
  unfold mf_82_4 at hf
  refine mb_82_4 hh  (fun c => ?_) (fun c => ?_)
  · rw [if_pos c] at hf
    exact mr_82_14 hh hf k
  · rw [if_neg c] at hf
    exact mr_82_7 hh hf k
def mf_82_0 (N : Nat) (x1 : Int32) (x2 : Int32) (s : mS) : mO := mo_bi (mf_73 N x1 s) (fun s1 y => mf_82_4 N x1 x2 y s1)
theorem mr_82_0 {X : Nat → Option zz_C} {h : zz_H} (hh : 111 ≤ h.length) {d : Nat} {N : Nat} {Q : Option Value → zz_H → Prop} {x1 : Int32} {x2 : Int32} {s s' : mS} {v : Option Value} (hf : mf_82_0 N x1 x2 s = some (s', v)) (k : Q v (mH h s')) : zz_E zp_P zt_tf zt_fd X (d + 4) zm_82 0 [(0, .ref 61), (1, .int x1), (2, .int x2)] [] (mH h s) Q := by
  unfold mf_82_0 at hf
  obtain ⟨s1, y, e, hf⟩ := mo_bi_ok hf
  exact mb_82_0 (d := d + 3) hh  (mr_73 (d := d + 3) hh e (mr_82_4 hh hf k))
/-- same -/
def mf_82 (N : Nat) (x1 : Int32) (x2 : Int32) (s : mS) : mO := mf_82_0 N x1 x2 s
theorem mr_82 {X : Nat → Option zz_C} {h : zz_H} (hh : 111 ≤ h.length) {d : Nat} {N : Nat} {Q : Option Value → zz_H → Prop} {x1 : Int32} {x2 : Int32} {s s' : mS} {v : Option Value} (hf : mf_82 N x1 x2 s = some (s', v)) (k : Q v (mH h s')) : zz_E zp_P zt_tf zt_fd X (d + 4) zm_82 0 [(0, .ref 61), (1, .int x1), (2, .int x2)] [] (mH h s) Q := by
  unfold mf_82 at hf
  exact zz_E.weak (mr_82_0 hh hf k) rfl ⟨rfl, rfl, rfl, trivial⟩
/-! mark ()I -/
theorem mb_83_0 {X : Nat → Option zz_C} {h : zz_H} (hh : 111 ≤ h.length) {s : mS} {d : Nat} {Q : Option Value → zz_H → Prop}  (k1 : ¬ (s.1 88) = 6 → zz_E zp_P zt_tf zt_fd X d zm_83 46 [(0, .ref 61)] [] (mH h s) Q) (k2 : ¬ ¬ (s.1 88) = 6 → zz_E zp_P zt_tf zt_fd X d zm_83 9 [(0, .ref 61)] [] (mH h s) Q) : zz_E zp_P zt_tf zt_fd X d zm_83 0 [(0, .ref 61)] [] (mH h s) Q := by
  refine zz_E.n 1 rfl rfl rfl ?_
  refine mE_g hh 4 (v := .int (s.1 88)) rfl rfl rfl ?_
  refine zz_E.c 6 (.int 6) rfl rfl rfl rfl ?_
  refine zz_E.b2 46 9 (A := ¬ (s.1 88) = 6) rfl (zz_cond_ne _ _) (by decide) rfl rfl (fun c => ?_) (fun c => ?_)
  · exact zz_E.weak (k1 c) rfl ⟨rfl, trivial⟩
  · exact zz_E.weak (k2 c) rfl ⟨rfl, trivial⟩
theorem mb_83_9 {X : Nat → Option zz_C} {h : zz_H} (hh : 111 ≤ h.length) {s : mS} {d : Nat} {Q : Option Value → zz_H → Prop}  (k : zz_E zp_P zt_tf zt_fd X d zm_83 12 [(0, .ref 61), (1, .int 8)] [] (mH h s) Q) : zz_E zp_P zt_tf zt_fd X d zm_83 9 [(0, .ref 61)] [] (mH h s) Q := by
  refine zz_E.c 11 (.int 8) rfl rfl rfl rfl ?_
  refine zz_E.n 12 rfl rfl rfl ?_
  exact zz_E.weak k rfl ⟨rfl, rfl, trivial⟩
theorem mb_83_12 {X : Nat → Option zz_C} {h : zz_H} (hh : 111 ≤ h.length) {s : mS} {d : Nat} {Q : Option Value → zz_H → Prop} {x1 : Int32} (k1 : 48 ≤ x1 → zz_E zp_P zt_tf zt_fd X d zm_83 41 [(0, .ref 61)] [] (mH h s) Q) (k2 : ¬ 48 ≤ x1 → zz_E zp_P zt_tf zt_fd X d zm_83 18 [(0, .ref 61), (1, .int x1)] [] (mH h s) Q) : zz_E zp_P zt_tf zt_fd X d zm_83 12 [(0, .ref 61), (1, .int x1)] [] (mH h s) Q := by
  refine zz_E.n 13 rfl rfl rfl ?_
  refine zz_E.c 15 (.int 48) rfl rfl rfl rfl ?_
  refine zz_E.b2 41 18 (A := 48 ≤ x1) rfl rfl (by decide) rfl rfl (fun c => ?_) (fun c => ?_)
  · exact zz_E.weak (k1 c) rfl ⟨rfl, trivial⟩
  · exact zz_E.weak (k2 c) rfl ⟨rfl, rfl, trivial⟩
theorem mb_83_18 {X : Nat → Option zz_C} {h : zz_H} (hh : 111 ≤ h.length) {s : mS} {d : Nat} {Q : Option Value → zz_H → Prop} {x1 : Int32} (k : zz_E zp_P zt_tf zt_fd X d zm_84 0 [(0, .ref 61), (1, .int (2410 * (x1 + 8))), (2, .int (2410 * x1))] [] (mH h s) (fun v h' => zz_E zp_P zt_tf zt_fd X (d + 1) zm_83 35 [(0, .ref 61), (1, .int x1)] (v.toList ++ []) h' Q)) : zz_E zp_P zt_tf zt_fd X (d + 1) zm_83 18 [(0, .ref 61), (1, .int x1)] [] (mH h s) Q := by
  refine zz_E.n 19 rfl rfl rfl ?_
  refine zz_E.c 22 (.int 2410) rfl rfl rfl rfl ?_
  refine zz_E.n 23 rfl rfl rfl ?_
  refine zz_E.c 25 (.int 8) rfl rfl rfl rfl ?_
  refine zz_E.n 26 rfl rfl rfl ?_
  refine zz_E.n 27 rfl rfl rfl ?_
  refine zz_E.c 30 (.int 2410) rfl rfl rfl rfl ?_
  refine zz_E.n 31 rfl rfl rfl ?_
  refine zz_E.n 32 rfl rfl rfl ?_
  refine mE_cv hh 35 (as := []) rfl rfl (Nat.le_of_ble_eq_true rfl) (Nat.le_of_ble_eq_true rfl) rfl (Nat.le_of_ble_eq_true rfl) rfl ?_
  refine zz_E.mono k ?_
  intro v h' hE
  exact zz_E.weak hE rfl ⟨rfl, rfl, trivial⟩
theorem mb_83_35 {X : Nat → Option zz_C} {h : zz_H} (hh : 111 ≤ h.length) {s : mS} {d : Nat} {Q : Option Value → zz_H → Prop} {x1 : Int32} (k : zz_E zp_P zt_tf zt_fd X d zm_83 12 [(0, .ref 61), (1, .int (x1 + 1))] [] (mH h s) Q) : zz_E zp_P zt_tf zt_fd X d zm_83 35 [(0, .ref 61), (1, .int x1)] [] (mH h s) Q := by
  refine zz_E.n 38 rfl rfl rfl ?_
  refine zz_E.n 12 rfl rfl rfl ?_
  exact zz_E.weak k rfl ⟨rfl, rfl, trivial⟩
theorem mb_83_41 {X : Nat → Option zz_C} {h : zz_H} (hh : 111 ≤ h.length) {s : mS} {d : Nat} {Q : Option Value → zz_H → Prop}  (k : zz_E zp_P zt_tf zt_fd X d zm_83 46 [(0, .ref 61)] [] (mH h (mI s 88 5)) Q) : zz_E zp_P zt_tf zt_fd X d zm_83 41 [(0, .ref 61)] [] (mH h s) Q := by
  refine zz_E.n 42 rfl rfl rfl ?_
  refine zz_E.c 43 (.int 5) rfl rfl rfl rfl ?_
  refine mE_p hh 46 rfl (by decide) rfl (mF_88 _ _) rfl ?_
  exact zz_E.weak k rfl ⟨rfl, trivial⟩
theorem mb_83_46 {X : Nat → Option zz_C} {h : zz_H} (hh : 111 ≤ h.length) {s : mS} {d : Nat} {Q : Option Value → zz_H → Prop}  (k : zz_E zp_P zt_tf zt_fd X d zm_83 48 [(0, .ref 61), (1, .int 0)] [] (mH h s) Q) : zz_E zp_P zt_tf zt_fd X d zm_83 46 [(0, .ref 61)] [] (mH h s) Q := by
  refine zz_E.c 47 (.int 0) rfl rfl rfl rfl ?_
  refine zz_E.n 48 rfl rfl rfl ?_
  exact zz_E.weak k rfl ⟨rfl, rfl, trivial⟩
theorem mb_83_48 {X : Nat → Option zz_C} {h : zz_H} (hh : 111 ≤ h.length) {s : mS} {d : Nat} {Q : Option Value → zz_H → Prop} {x1 : Int32} (k1 : 8 ≤ x1 → zz_E zp_P zt_tf zt_fd X d zm_83 85 [(0, .ref 61)] [] (mH h s) Q) (k2 : ¬ 8 ≤ x1 → zz_E zp_P zt_tf zt_fd X d zm_83 54 [(0, .ref 61), (1, .int x1)] [] (mH h s) Q) : zz_E zp_P zt_tf zt_fd X d zm_83 48 [(0, .ref 61), (1, .int x1)] [] (mH h s) Q := by
  refine zz_E.n 49 rfl rfl rfl ?_
  refine zz_E.c 51 (.int 8) rfl rfl rfl rfl ?_
  refine zz_E.b2 85 54 (A := 8 ≤ x1) rfl rfl (by decide) rfl rfl (fun c => ?_) (fun c => ?_)
  · exact zz_E.weak (k1 c) rfl ⟨rfl, trivial⟩
  · exact zz_E.weak (k2 c) rfl ⟨rfl, rfl, trivial⟩
theorem mb_83_54 {X : Nat → Option zz_C} {h : zz_H} (hh : 111 ≤ h.length) {s : mS} {d : Nat} {Q : Option Value → zz_H → Prop} {x1 : Int32} (k : zz_E zp_P zt_tf zt_fd X d zm_84 0 [(0, .ref 61), (1, .int (2410 * x1)), (2, .int (2410 * ((8 + (8 * (s.1 88))) + x1)))] [] (mH h s) (fun v h' => zz_E zp_P zt_tf zt_fd X (d + 1) zm_83 79 [(0, .ref 61), (1, .int x1)] (v.toList ++ []) h' Q)) : zz_E zp_P zt_tf zt_fd X (d + 1) zm_83 54 [(0, .ref 61), (1, .int x1)] [] (mH h s) Q := by
  refine zz_E.n 55 rfl rfl rfl ?_
  refine zz_E.c 58 (.int 2410) rfl rfl rfl rfl ?_
  refine zz_E.n 59 rfl rfl rfl ?_
  refine zz_E.n 60 rfl rfl rfl ?_
  refine zz_E.c 63 (.int 2410) rfl rfl rfl rfl ?_
  refine zz_E.c 65 (.int 8) rfl rfl rfl rfl ?_
  refine zz_E.c 67 (.int 8) rfl rfl rfl rfl ?_
  refine zz_E.n 68 rfl rfl rfl ?_
  refine mE_g hh 71 (v := .int (s.1 88)) rfl rfl rfl ?_
  refine zz_E.n 72 rfl rfl rfl ?_
  refine zz_E.n 73 rfl rfl rfl ?_
  refine zz_E.n 74 rfl rfl rfl ?_
  refine zz_E.n 75 rfl rfl rfl ?_
  refine zz_E.n 76 rfl rfl rfl ?_
  refine mE_cv hh 79 (as := []) rfl rfl (Nat.le_of_ble_eq_true rfl) (Nat.le_of_ble_eq_true rfl) rfl (Nat.le_of_ble_eq_true rfl) rfl ?_
  refine zz_E.mono k ?_
  intro v h' hE
  exact zz_E.weak hE rfl ⟨rfl, rfl, trivial⟩
theorem mb_83_79 {X : Nat → Option zz_C} {h : zz_H} (hh : 111 ≤ h.length) {s : mS} {d : Nat} {Q : Option Value → zz_H → Prop} {x1 : Int32} (k : zz_E zp_P zt_tf zt_fd X d zm_83 48 [(0, .ref 61), (1, .int (x1 + 1))] [] (mH h s) Q) : zz_E zp_P zt_tf zt_fd X d zm_83 79 [(0, .ref 61), (1, .int x1)] [] (mH h s) Q := by
  refine zz_E.n 82 rfl rfl rfl ?_
  refine zz_E.n 48 rfl rfl rfl ?_
  exact zz_E.weak k rfl ⟨rfl, rfl, trivial⟩
theorem mb_83_85 {X : Nat → Option zz_C} {h : zz_H} (hh : 111 ≤ h.length) {s : mS} {d : Nat} {Q : Option Value → zz_H → Prop}  (k : Q (some (.int ((s.1 88) + 1))) (mH h (mI s 88 ((s.1 88) + 1)))) : zz_E zp_P zt_tf zt_fd X d zm_83 85 [(0, .ref 61)] [] (mH h s) Q := by
  refine zz_E.n 86 rfl rfl rfl ?_
  refine zz_E.n 87 rfl rfl rfl ?_
  refine mE_g hh 90 (v := .int (s.1 88)) rfl rfl rfl ?_
  refine zz_E.c 91 (.int 1) rfl rfl rfl rfl ?_
  refine zz_E.n 92 rfl rfl rfl ?_
  refine mE_p hh 95 rfl (by decide) rfl (mF_88 _ _) rfl ?_
  refine zz_E.n 96 rfl rfl rfl ?_
  refine mE_g hh 99 (v := .int ((s.1 88) + 1)) rfl rfl rfl ?_
  refine zz_E.ret rfl rfl rfl ?_
  exact k
def mf_83_85 (N : Nat)  (s : mS) : mO := some ((mI s 88 ((s.1 88) + 1)), (some (.int ((s.1 88) + 1))))
theorem mr_83_85 {X : Nat → Option zz_C} {h : zz_H} (hh : 111 ≤ h.length) {d : Nat} {N : Nat} {Q : Option Value → zz_H → Prop}  {s s' : mS} {v : Option Value} (hf : mf_83_85 N  s = some (s', v)) (k : Q v (mH h s')) : zz_E zp_P zt_tf zt_fd X (d + 4) zm_83 85 [(0, .ref 61)] [] (mH h s) Q := by
  unfold mf_83_85 at hf
  cases hf
  exact mb_83_85 hh  k
def mf_83_79 (N : Nat) (rc : Nat → Int32 → mS → mO) (x1 : Int32) (s : mS) : mO := rc 0 (x1 + 1) s
theorem mr_83_79 {X : Nat → Option zz_C} {h : zz_H} (hh : 111 ≤ h.length) {d : Nat} {N : Nat} {rc : Nat → Int32 → mS → mO} (hrc0 : ∀ {Q : Option Value → zz_H → Prop} {x1 : Int32} {s s' : mS} {v : Option Value}, rc 0 x1 s = some (s', v) → Q v (mH h s') → zz_E zp_P zt_tf zt_fd X (d + 4) zm_83 48 [(0, .ref 61), (1, .int x1)] [] (mH h s) Q) {Q : Option Value → zz_H → Prop} {x1 : Int32} {s s' : mS} {v : Option Value} (hf : mf_83_79 N rc x1 s = some (s', v)) (k : Q v (mH h s')) : zz_E zp_P zt_tf zt_fd X (d + 4) zm_83 79 [(0, .ref 61), (1, .int x1)] [] (mH h s) Q := by
  unfold mf_83_79 at hf
  exact mb_83_79 hh  (hrc0 hf k)
def mf_83_54 (N : Nat) (rc : Nat → Int32 → mS → mO) (x1 : Int32) (s : mS) : mO := mo_bv (mf_84 N (2410 * x1) (2410 * ((8 + (8 * (s.1 88))) + x1)) s) (fun s1 => mf_83_79 N rc x1 s1)
theorem mr_83_54 {X : Nat → Option zz_C} {h : zz_H} (hh : 111 ≤ h.length) {d : Nat} {N : Nat} {rc : Nat → Int32 → mS → mO} (hrc0 : ∀ {Q : Option Value → zz_H → Prop} {x1 : Int32} {s s' : mS} {v : Option Value}, rc 0 x1 s = some (s', v) → Q v (mH h s') → zz_E zp_P zt_tf zt_fd X (d + 4) zm_83 48 [(0, .ref 61), (1, .int x1)] [] (mH h s) Q) {Q : Option Value → zz_H → Prop} {x1 : Int32} {s s' : mS} {v : Option Value} (hf : mf_83_54 N rc x1 s = some (s', v)) (k : Q v (mH h s')) : zz_E zp_P zt_tf zt_fd X (d + 4) zm_83 54 [(0, .ref 61), (1, .int x1)] [] (mH h s) Q := by
  unfold mf_83_54 at hf
  obtain ⟨s1, e, hf⟩ := mo_bv_ok hf
  exact mb_83_54 (d := d + 3) hh  (mr_84 (d := d + 0) hh e (mr_83_79 hh hrc0 hf k))
def mf_83_48 (N : Nat) (rc : Nat → Int32 → mS → mO) (x1 : Int32) (s : mS) : mO := if 8 ≤ x1 then mf_83_85 N  s else mf_83_54 N rc x1 s
theorem mr_83_48 {X : Nat → Option zz_C} {h : zz_H} (hh : 111 ≤ h.length) {d : Nat} {N : Nat} {rc : Nat → Int32 → mS → mO} (hrc0 : ∀ {Q : Option Value → zz_H → Prop} {x1 : Int32} {s s' : mS} {v : Option Value}, rc 0 x1 s = some (s', v) → Q v (mH h s') → zz_E zp_P zt_tf zt_fd X (d + 4) zm_83 48 [(0, .ref 61), (1, .int x1)] [] (mH h s) Q) {Q : Option Value → zz_H → Prop} {x1 : Int32} {s s' : mS} {v : Option Value} (hf : mf_83_48 N rc x1 s = some (s', v)) (k : Q v (mH h s')) : zz_E zp_P zt_tf zt_fd X (d + 4) zm_83 48 [(0, .ref 61), (1, .int x1)] [] (mH h s) Q := by
  unfold mf_83_48 at hf
  refine mb_83_48 hh  (fun c => ?_) (fun c => ?_)
  · rw [if_pos c] at hf
    exact mr_83_85 hh hf k
  · rw [if_neg c] at hf
    exact mr_83_54 hh hrc0 hf k
def mf_83_L1 (N : Nat) : Nat → Nat → Int32 → mS → mO
  | 0, _, _, _ => none
  | n + 1, l, x1, s => if l = 0 then mf_83_48 N (mf_83_L1 N n) x1 s else none
theorem mr_83_L1 {X : Nat → Option zz_C} {h : zz_H} (hh : 111 ≤ h.length) {d : Nat} {N : Nat} : ∀ n : Nat, (∀ {Q : Option Value → zz_H → Prop} {x1 : Int32} {s s' : mS} {v : Option Value}, mf_83_L1 N n 0 x1 s = some (s', v) → Q v (mH h s') → zz_E zp_P zt_tf zt_fd X (d + 4) zm_83 48 [(0, .ref 61), (1, .int x1)] [] (mH h s) Q) := by
  intro n
  induction n with
  | zero => exact (fun hf _ => by cases hf)
  | succ n ih =>
    have h0 := @ih
    intro Q _ s s' v hf k
    unfold mf_83_L1 at hf
    rw [if_pos rfl] at hf
    exact mr_83_48 hh h0 hf k
def mf_83_46 (N : Nat)  (s : mS) : mO := mf_83_L1 N N 0 0 s
theorem mr_83_46 {X : Nat → Option zz_C} {h : zz_H} (hh : 111 ≤ h.length) {d : Nat} {N : Nat} {Q : Option Value → zz_H → Prop}  {s s' : mS} {v : Option Value} (hf : mf_83_46 N  s = some (s', v)) (k : Q v (mH h s')) : zz_E zp_P zt_tf zt_fd X (d + 4) zm_83 46 [(0, .ref 61)] [] (mH h s) Q := by
  unfold mf_83_46 at hf
  exact mb_83_46 hh  (mr_83_L1 hh N hf k)
def mf_83_41 (N : Nat)  (s : mS) : mO := mf_83_46 N  (mI s 88 5)
theorem mr_83_41 {X : Nat → Option zz_C} {h : zz_H} (hh : 111 ≤ h.length) {d : Nat} {N : Nat} {Q : Option Value → zz_H → Prop}  {s s' : mS} {v : Option Value} (hf : mf_83_41 N  s = some (s', v)) (k : Q v (mH h s')) : zz_E zp_P zt_tf zt_fd X (d + 4) zm_83 41 [(0, .ref 61)] [] (mH h s) Q := by
  unfold mf_83_41 at hf
  exact mb_83_41 hh  (mr_83_46 hh hf k)
def mf_83_35 (N : Nat) (rc : Nat → Int32 → mS → mO) (x1 : Int32) (s : mS) : mO := rc 0 (x1 + 1) s
theorem mr_83_35 {X : Nat → Option zz_C} {h : zz_H} (hh : 111 ≤ h.length) {d : Nat} {N : Nat} {rc : Nat → Int32 → mS → mO} (hrc0 : ∀ {Q : Option Value → zz_H → Prop} {x1 : Int32} {s s' : mS} {v : Option Value}, rc 0 x1 s = some (s', v) → Q v (mH h s') → zz_E zp_P zt_tf zt_fd X (d + 4) zm_83 12 [(0, .ref 61), (1, .int x1)] [] (mH h s) Q) {Q : Option Value → zz_H → Prop} {x1 : Int32} {s s' : mS} {v : Option Value} (hf : mf_83_35 N rc x1 s = some (s', v)) (k : Q v (mH h s')) : zz_E zp_P zt_tf zt_fd X (d + 4) zm_83 35 [(0, .ref 61), (1, .int x1)] [] (mH h s) Q := by
  unfold mf_83_35 at hf
  exact mb_83_35 hh  (hrc0 hf k)
def mf_83_18 (N : Nat) (rc : Nat → Int32 → mS → mO) (x1 : Int32) (s : mS) : mO := mo_bv (mf_84 N (2410 * (x1 + 8)) (2410 * x1) s) (fun s1 => mf_83_35 N rc x1 s1)
theorem mr_83_18 {X : Nat → Option zz_C} {h : zz_H} (hh : 111 ≤ h.length) {d : Nat} {N : Nat} {rc : Nat → Int32 → mS → mO} (hrc0 : ∀ {Q : Option Value → zz_H → Prop} {x1 : Int32} {s s' : mS} {v : Option Value}, rc 0 x1 s = some (s', v) → Q v (mH h s') → zz_E zp_P zt_tf zt_fd X (d + 4) zm_83 12 [(0, .ref 61), (1, .int x1)] [] (mH h s) Q) {Q : Option Value → zz_H → Prop} {x1 : Int32} {s s' : mS} {v : Option Value} (hf : mf_83_18 N rc x1 s = some (s', v)) (k : Q v (mH h s')) : zz_E zp_P zt_tf zt_fd X (d + 4) zm_83 18 [(0, .ref 61), (1, .int x1)] [] (mH h s) Q := by
  unfold mf_83_18 at hf
  obtain ⟨s1, e, hf⟩ := mo_bv_ok hf
  exact mb_83_18 (d := d + 3) hh  (mr_84 (d := d + 0) hh e (mr_83_35 hh hrc0 hf k))
def mf_83_12 (N : Nat) (rc : Nat → Int32 → mS → mO) (x1 : Int32) (s : mS) : mO := if 48 ≤ x1 then mf_83_41 N  s else mf_83_18 N rc x1 s
theorem mr_83_12 {X : Nat → Option zz_C} {h : zz_H} (hh : 111 ≤ h.length) {d : Nat} {N : Nat} {rc : Nat → Int32 → mS → mO} (hrc0 : ∀ {Q : Option Value → zz_H → Prop} {x1 : Int32} {s s' : mS} {v : Option Value}, rc 0 x1 s = some (s', v) → Q v (mH h s') → zz_E zp_P zt_tf zt_fd X (d + 4) zm_83 12 [(0, .ref 61), (1, .int x1)] [] (mH h s) Q) {Q : Option Value → zz_H → Prop} {x1 : Int32} {s s' : mS} {v : Option Value} (hf : mf_83_12 N rc x1 s = some (s', v)) (k : Q v (mH h s')) : zz_E zp_P zt_tf zt_fd X (d + 4) zm_83 12 [(0, .ref 61), (1, .int x1)] [] (mH h s) Q := by
  unfold mf_83_12 at hf
  refine mb_83_12 hh  (fun c => ?_) (fun c => ?_)
  · rw [if_pos c] at hf
    exact mr_83_41 hh hf k
  · rw [if_neg c] at hf
    exact mr_83_18 hh hrc0 hf k
def mf_83_L4 (N : Nat) : Nat → Nat → Int32 → mS → mO
  | 0, _, _, _ => none
  | n + 1, l, x1, s => if l = 0 then mf_83_12 N (mf_83_L4 N n) x1 s else none
theorem mr_83_L4 {X : Nat → Option zz_C} {h : zz_H} (hh : 111 ≤ h.length) {d : Nat} {N : Nat} : ∀ n : Nat, (∀ {Q : Option Value → zz_H → Prop} {x1 : Int32} {s s' : mS} {v : Option Value}, mf_83_L4 N n 0 x1 s = some (s', v) → Q v (mH h s') → zz_E zp_P zt_tf zt_fd X (d + 4) zm_83 12 [(0, .ref 61), (1, .int x1)] [] (mH h s) Q) := by
  intro n
  induction n with
  | zero => exact (fun hf _ => by cases hf)
  | succ n ih =>
    have h0 := @ih
    intro Q _ s s' v hf k
    unfold mf_83_L4 at hf
    rw [if_pos rfl] at hf
    exact mr_83_12 hh h0 hf k
def mf_83_9 (N : Nat)  (s : mS) : mO := mf_83_L4 N N 0 8 s
theorem mr_83_9 {X : Nat → Option zz_C} {h : zz_H} (hh : 111 ≤ h.length) {d : Nat} {N : Nat} {Q : Option Value → zz_H → Prop}  {s s' : mS} {v : Option Value} (hf : mf_83_9 N  s = some (s', v)) (k : Q v (mH h s')) : zz_E zp_P zt_tf zt_fd X (d + 4) zm_83 9 [(0, .ref 61)] [] (mH h s) Q := by
  unfold mf_83_9 at hf
  exact mb_83_9 hh  (mr_83_L4 hh N hf k)
def mf_83_0 (N : Nat)  (s : mS) : mO := if ¬ (s.1 88) = 6 then mf_83_46 N  s else mf_83_9 N  s
theorem mr_83_0 {X : Nat → Option zz_C} {h : zz_H} (hh : 111 ≤ h.length) {d : Nat} {N : Nat} {Q : Option Value → zz_H → Prop}  {s s' : mS} {v : Option Value} (hf : mf_83_0 N  s = some (s', v)) (k : Q v (mH h s')) : zz_E zp_P zt_tf zt_fd X (d + 4) zm_83 0 [(0, .ref 61)] [] (mH h s) Q := by
  unfold mf_83_0 at hf
  refine mb_83_0 hh  (fun c => ?_) (fun c => ?_)
  · rw [if_pos c] at hf
    exact mr_83_46 hh hf k
  · rw [if_neg c] at hf
    exact mr_83_9 hh hf k
/-- mark -/
def mf_83 (N : Nat)  (s : mS) : mO := mf_83_0 N  s
theorem mr_83 {X : Nat → Option zz_C} {h : zz_H} (hh : 111 ≤ h.length) {d : Nat} {N : Nat} {Q : Option Value → zz_H → Prop}  {s s' : mS} {v : Option Value} (hf : mf_83 N  s = some (s', v)) (k : Q v (mH h s')) : zz_E zp_P zt_tf zt_fd X (d + 4) zm_83 0 [(0, .ref 61)] [] (mH h s) Q := by
  unfold mf_83 at hf
  exact zz_E.weak (mr_83_0 hh hf k) rfl ⟨rfl, trivial⟩
/-! back ()Z -/
theorem mb_85_0 {X : Nat → Option zz_C} {h : zz_H} (hh : 111 ≤ h.length) {s : mS} {d : Nat} {Q : Option Value → zz_H → Prop}  (k1 : ¬ (s.1 88) = 0 → zz_E zp_P zt_tf zt_fd X d zm_85 9 [(0, .ref 61)] [] (mH h s) Q) (k2 : ¬ ¬ (s.1 88) = 0 → zz_E zp_P zt_tf zt_fd X d zm_85 7 [] [] (mH h s) Q) : zz_E zp_P zt_tf zt_fd X d zm_85 0 [(0, .ref 61)] [] (mH h s) Q := by
  refine zz_E.n 1 rfl rfl rfl ?_
  refine mE_g hh 4 (v := .int (s.1 88)) rfl rfl rfl ?_
  refine zz_E.b1 9 7 (A := ¬ (s.1 88) = 0) rfl (zz_cond_ne _ _) (by decide) rfl rfl (fun c => ?_) (fun c => ?_)
  · exact zz_E.weak (k1 c) rfl ⟨rfl, trivial⟩
  · exact zz_E.weak (k2 c) rfl trivial
theorem mb_85_7 {X : Nat → Option zz_C} {h : zz_H} (hh : 111 ≤ h.length) {s : mS} {d : Nat} {Q : Option Value → zz_H → Prop}  (k : Q (some (.int 0)) (mH h s)) : zz_E zp_P zt_tf zt_fd X d zm_85 7 [] [] (mH h s) Q := by
  refine zz_E.c 8 (.int 0) rfl rfl rfl rfl ?_
  refine zz_E.ret rfl rfl rfl ?_
  exact k
theorem mb_85_9 {X : Nat → Option zz_C} {h : zz_H} (hh : 111 ≤ h.length) {s : mS} {d : Nat} {Q : Option Value → zz_H → Prop}  (k : zz_E zp_P zt_tf zt_fd X d zm_85 21 [(0, .ref 61), (1, .int 0)] [] (mH h (mI s 88 ((s.1 88) - 1))) Q) : zz_E zp_P zt_tf zt_fd X d zm_85 9 [(0, .ref 61)] [] (mH h s) Q := by
  refine zz_E.n 10 rfl rfl rfl ?_
  refine zz_E.n 11 rfl rfl rfl ?_
  refine mE_g hh 14 (v := .int (s.1 88)) rfl rfl rfl ?_
  refine zz_E.c 15 (.int 1) rfl rfl rfl rfl ?_
  refine zz_E.n 16 rfl rfl rfl ?_
  refine mE_p hh 19 rfl (by decide) rfl (mF_88 _ _) rfl ?_
  refine zz_E.c 20 (.int 0) rfl rfl rfl rfl ?_
  refine zz_E.n 21 rfl rfl rfl ?_
  exact zz_E.weak k rfl ⟨rfl, rfl, trivial⟩
theorem mb_85_21 {X : Nat → Option zz_C} {h : zz_H} (hh : 111 ≤ h.length) {s : mS} {d : Nat} {Q : Option Value → zz_H → Prop} {x1 : Int32} (k1 : 8 ≤ x1 → zz_E zp_P zt_tf zt_fd X d zm_85 58 [] [] (mH h s) Q) (k2 : ¬ 8 ≤ x1 → zz_E zp_P zt_tf zt_fd X d zm_85 27 [(0, .ref 61), (1, .int x1)] [] (mH h s) Q) : zz_E zp_P zt_tf zt_fd X d zm_85 21 [(0, .ref 61), (1, .int x1)] [] (mH h s) Q := by
  refine zz_E.n 22 rfl rfl rfl ?_
  refine zz_E.c 24 (.int 8) rfl rfl rfl rfl ?_
  refine zz_E.b2 58 27 (A := 8 ≤ x1) rfl rfl (by decide) rfl rfl (fun c => ?_) (fun c => ?_)
  · exact zz_E.weak (k1 c) rfl trivial
  · exact zz_E.weak (k2 c) rfl ⟨rfl, rfl, trivial⟩
theorem mb_85_27 {X : Nat → Option zz_C} {h : zz_H} (hh : 111 ≤ h.length) {s : mS} {d : Nat} {Q : Option Value → zz_H → Prop} {x1 : Int32} (k : zz_E zp_P zt_tf zt_fd X d zm_84 0 [(0, .ref 61), (1, .int (2410 * ((8 + (8 * (s.1 88))) + x1))), (2, .int (2410 * x1))] [] (mH h s) (fun v h' => zz_E zp_P zt_tf zt_fd X (d + 1) zm_85 52 [(0, .ref 61), (1, .int x1)] (v.toList ++ []) h' Q)) : zz_E zp_P zt_tf zt_fd X (d + 1) zm_85 27 [(0, .ref 61), (1, .int x1)] [] (mH h s) Q := by
  refine zz_E.n 28 rfl rfl rfl ?_
  refine zz_E.c 31 (.int 2410) rfl rfl rfl rfl ?_
  refine zz_E.c 33 (.int 8) rfl rfl rfl rfl ?_
  refine zz_E.c 35 (.int 8) rfl rfl rfl rfl ?_
  refine zz_E.n 36 rfl rfl rfl ?_
  refine mE_g hh 39 (v := .int (s.1 88)) rfl rfl rfl ?_
  refine zz_E.n 40 rfl rfl rfl ?_
  refine zz_E.n 41 rfl rfl rfl ?_
  refine zz_E.n 42 rfl rfl rfl ?_
  refine zz_E.n 43 rfl rfl rfl ?_
  refine zz_E.n 44 rfl rfl rfl ?_
  refine zz_E.c 47 (.int 2410) rfl rfl rfl rfl ?_
  refine zz_E.n 48 rfl rfl rfl ?_
  refine zz_E.n 49 rfl rfl rfl ?_
  refine mE_cv hh 52 (as := []) rfl rfl (Nat.le_of_ble_eq_true rfl) (Nat.le_of_ble_eq_true rfl) rfl (Nat.le_of_ble_eq_true rfl) rfl ?_
  refine zz_E.mono k ?_
  intro v h' hE
  exact zz_E.weak hE rfl ⟨rfl, rfl, trivial⟩
theorem mb_85_52 {X : Nat → Option zz_C} {h : zz_H} (hh : 111 ≤ h.length) {s : mS} {d : Nat} {Q : Option Value → zz_H → Prop} {x1 : Int32} (k : zz_E zp_P zt_tf zt_fd X d zm_85 21 [(0, .ref 61), (1, .int (x1 + 1))] [] (mH h s) Q) : zz_E zp_P zt_tf zt_fd X d zm_85 52 [(0, .ref 61), (1, .int x1)] [] (mH h s) Q := by
  refine zz_E.n 55 rfl rfl rfl ?_
  refine zz_E.n 21 rfl rfl rfl ?_
  exact zz_E.weak k rfl ⟨rfl, rfl, trivial⟩
theorem mb_85_58 {X : Nat → Option zz_C} {h : zz_H} (hh : 111 ≤ h.length) {s : mS} {d : Nat} {Q : Option Value → zz_H → Prop}  (k : Q (some (.int 1)) (mH h s)) : zz_E zp_P zt_tf zt_fd X d zm_85 58 [] [] (mH h s) Q := by
  refine zz_E.c 59 (.int 1) rfl rfl rfl rfl ?_
  refine zz_E.ret rfl rfl rfl ?_
  exact k
def mf_85_58 (N : Nat)  (s : mS) : mO := some (s, (some (.int 1)))
theorem mr_85_58 {X : Nat → Option zz_C} {h : zz_H} (hh : 111 ≤ h.length) {d : Nat} {N : Nat} {Q : Option Value → zz_H → Prop}  {s s' : mS} {v : Option Value} (hf : mf_85_58 N  s = some (s', v)) (k : Q v (mH h s')) : zz_E zp_P zt_tf zt_fd X (d + 4) zm_85 58 [] [] (mH h s) Q := by
  unfold mf_85_58 at hf
  cases hf
  exact mb_85_58 hh  k
def mf_85_52 (N : Nat) (rc : Nat → Int32 → mS → mO) (x1 : Int32) (s : mS) : mO := rc 0 (x1 + 1) s
theorem mr_85_52 {X : Nat → Option zz_C} {h : zz_H} (hh : 111 ≤ h.length) {d : Nat} {N : Nat} {rc : Nat → Int32 → mS → mO} (hrc0 : ∀ {Q : Option Value → zz_H → Prop} {x1 : Int32} {s s' : mS} {v : Option Value}, rc 0 x1 s = some (s', v) → Q v (mH h s') → zz_E zp_P zt_tf zt_fd X (d + 4) zm_85 21 [(0, .ref 61), (1, .int x1)] [] (mH h s) Q) {Q : Option Value → zz_H → Prop} {x1 : Int32} {s s' : mS} {v : Option Value} (hf : mf_85_52 N rc x1 s = some (s', v)) (k : Q v (mH h s')) : zz_E zp_P zt_tf zt_fd X (d + 4) zm_85 52 [(0, .ref 61), (1, .int x1)] [] (mH h s) Q := by
  unfold mf_85_52 at hf
  exact mb_85_52 hh  (hrc0 hf k)
def mf_85_27 (N : Nat) (rc : Nat → Int32 → mS → mO) (x1 : Int32) (s : mS) : mO := mo_bv (mf_84 N (2410 * ((8 + (8 * (s.1 88))) + x1)) (2410 * x1) s) (fun s1 => mf_85_52 N rc x1 s1)
theorem mr_85_27 {X : Nat → Option zz_C} {h : zz_H} (hh : 111 ≤ h.length) {d : Nat} {N : Nat} {rc : Nat → Int32 → mS → mO} (hrc0 : ∀ {Q : Option Value → zz_H → Prop} {x1 : Int32} {s s' : mS} {v : Option Value}, rc 0 x1 s = some (s', v) → Q v (mH h s') → zz_E zp_P zt_tf zt_fd X (d + 4) zm_85 21 [(0, .ref 61), (1, .int x1)] [] (mH h s) Q) {Q : Option Value → zz_H → Prop} {x1 : Int32} {s s' : mS} {v : Option Value} (hf : mf_85_27 N rc x1 s = some (s', v)) (k : Q v (mH h s')) : zz_E zp_P zt_tf zt_fd X (d + 4) zm_85 27 [(0, .ref 61), (1, .int x1)] [] (mH h s) Q := by
  unfold mf_85_27 at hf
  obtain ⟨s1, e, hf⟩ := mo_bv_ok hf
  exact mb_85_27 (d := d + 3) hh  (mr_84 (d := d + 0) hh e (mr_85_52 hh hrc0 hf k))
def mf_85_21 (N : Nat) (rc : Nat → Int32 → mS → mO) (x1 : Int32) (s : mS) : mO := if 8 ≤ x1 then mf_85_58 N  s else mf_85_27 N rc x1 s
theorem mr_85_21 {X : Nat → Option zz_C} {h : zz_H} (hh : 111 ≤ h.length) {d : Nat} {N : Nat} {rc : Nat → Int32 → mS → mO} (hrc0 : ∀ {Q : Option Value → zz_H → Prop} {x1 : Int32} {s s' : mS} {v : Option Value}, rc 0 x1 s = some (s', v) → Q v (mH h s') → zz_E zp_P zt_tf zt_fd X (d + 4) zm_85 21 [(0, .ref 61), (1, .int x1)] [] (mH h s) Q) {Q : Option Value → zz_H → Prop} {x1 : Int32} {s s' : mS} {v : Option Value} (hf : mf_85_21 N rc x1 s = some (s', v)) (k : Q v (mH h s')) : zz_E zp_P zt_tf zt_fd X (d + 4) zm_85 21 [(0, .ref 61), (1, .int x1)] [] (mH h s) Q := by
  unfold mf_85_21 at hf
  refine mb_85_21 hh  (fun c => ?_) (fun c => ?_)
  · rw [if_pos c] at hf
    exact mr_85_58 hh hf k
  · rw [if_neg c] at hf
    exact mr_85_27 hh hrc0 hf k
def mf_85_L1 (N : Nat) : Nat → Nat → Int32 → mS → mO
  | 0, _, _, _ => none
  | n + 1, l, x1, s => if l = 0 then mf_85_21 N (mf_85_L1 N n) x1 s else none
theorem mr_85_L1 {X : Nat → Option zz_C} {h : zz_H} (hh : 111 ≤ h.length) {d : Nat} {N : Nat} : ∀ n : Nat, (∀ {Q : Option Value → zz_H → Prop} {x1 : Int32} {s s' : mS} {v : Option Value}, mf_85_L1 N n 0 x1 s = some (s', v) → Q v (mH h s') → zz_E zp_P zt_tf zt_fd X (d + 4) zm_85 21 [(0, .ref 61), (1, .int x1)] [] (mH h s) Q) := by
  intro n
  induction n with
  | zero => exact (fun hf _ => by cases hf)
  | succ n ih =>
    have h0 := @ih
    intro Q _ s s' v hf k
    unfold mf_85_L1 at hf
    rw [if_pos rfl] at hf
    exact mr_85_21 hh h0 hf k
def mf_85_9 (N : Nat)  (s : mS) : mO := mf_85_L1 N N 0 0 (mI s 88 ((s.1 88) - 1))
theorem mr_85_9 {X : Nat → Option zz_C} {h : zz_H} (hh : 111 ≤ h.length) {d : Nat} {N : Nat} {Q : Option Value → zz_H → Prop}  {s s' : mS} {v : Option Value} (hf : mf_85_9 N  s = some (s', v)) (k : Q v (mH h s')) : zz_E zp_P zt_tf zt_fd X (d + 4) zm_85 9 [(0, .ref 61)] [] (mH h s) Q := by
  unfold mf_85_9 at hf
  exact mb_85_9 hh  (mr_85_L1 hh N hf k)
def mf_85_7 (N : Nat)  (s : mS) : mO := some (s, (some (.int 0)))
theorem mr_85_7 {X : Nat → Option zz_C} {h : zz_H} (hh : 111 ≤ h.length) {d : Nat} {N : Nat} {Q : Option Value → zz_H → Prop}  {s s' : mS} {v : Option Value} (hf : mf_85_7 N  s = some (s', v)) (k : Q v (mH h s')) : zz_E zp_P zt_tf zt_fd X (d + 4) zm_85 7 [] [] (mH h s) Q := by
  unfold mf_85_7 at hf
  cases hf
  exact mb_85_7 hh  k
def mf_85_0 (N : Nat)  (s : mS) : mO := if ¬ (s.1 88) = 0 then mf_85_9 N  s else mf_85_7 N  s
theorem mr_85_0 {X : Nat → Option zz_C} {h : zz_H} (hh : 111 ≤ h.length) {d : Nat} {N : Nat} {Q : Option Value → zz_H → Prop}  {s s' : mS} {v : Option Value} (hf : mf_85_0 N  s = some (s', v)) (k : Q v (mH h s')) : zz_E zp_P zt_tf zt_fd X (d + 4) zm_85 0 [(0, .ref 61)] [] (mH h s) Q := by
  unfold mf_85_0 at hf
  refine mb_85_0 hh  (fun c => ?_) (fun c => ?_)
  · rw [if_pos c] at hf
    exact mr_85_9 hh hf k
  · rw [if_neg c] at hf
    exact mr_85_7 hh hf k
/-- back -/
def mf_85 (N : Nat)  (s : mS) : mO := mf_85_0 N  s
theorem mr_85 {X : Nat → Option zz_C} {h : zz_H} (hh : 111 ≤ h.length) {d : Nat} {N : Nat} {Q : Option Value → zz_H → Prop}  {s s' : mS} {v : Option Value} (hf : mf_85 N  s = some (s', v)) (k : Q v (mH h s')) : zz_E zp_P zt_tf zt_fd X (d + 4) zm_85 0 [(0, .ref 61)] [] (mH h s) Q := by
  unfold mf_85 at hf
  exact zz_E.weak (mr_85_0 hh hf k) rfl ⟨rfl, trivial⟩
/-! mix (I)V -/
theorem mb_87_0 {X : Nat → Option zz_C} {h : zz_H} (hh : 111 ≤ h.length) {s : mS} {d : Nat} {Q : Option Value → zz_H → Prop} {x1 : Int32} (k : Q none (mH h (mL s 89 (((s.2.1 89) * 1000003) ^^^ (Int32.toInt64 x1))))) : zz_E zp_P zt_tf zt_fd X d zm_87 0 [(0, .ref 61), (1, .int x1)] [] (mH h s) Q := by
  refine zz_E.n 1 rfl rfl rfl ?_
  refine zz_E.n 2 rfl rfl rfl ?_
  refine mE_g hh 5 (v := .long (s.2.1 89)) rfl rfl rfl ?_
  refine zz_E.c 8 (.long 1000003) rfl rfl rfl rfl ?_
  refine zz_E.n 9 rfl rfl rfl ?_
  refine zz_E.n 10 rfl rfl rfl ?_
  refine zz_E.n 11 rfl rfl rfl ?_
  refine zz_E.n 12 rfl rfl rfl ?_
  refine mE_p hh 15 rfl (by decide) rfl (mF_89 _ _) rfl ?_
  refine zz_E.ret rfl rfl rfl ?_
  exact k
def mf_87_0 (N : Nat) (x1 : Int32) (s : mS) : mO := some ((mL s 89 (((s.2.1 89) * 1000003) ^^^ (Int32.toInt64 x1))), none)
theorem mr_87_0 {X : Nat → Option zz_C} {h : zz_H} (hh : 111 ≤ h.length) {d : Nat} {N : Nat} {Q : Option Value → zz_H → Prop} {x1 : Int32} {s s' : mS} {v : Option Value} (hf : mf_87_0 N x1 s = some (s', v)) (k : Q v (mH h s')) : zz_E zp_P zt_tf zt_fd X (d + 0) zm_87 0 [(0, .ref 61), (1, .int x1)] [] (mH h s) Q := by
  unfold mf_87_0 at hf
  cases hf
  exact mb_87_0 hh  k
/-- mix -/
def mf_87 (N : Nat) (x1 : Int32) (s : mS) : mO := mf_87_0 N x1 s
theorem mr_87 {X : Nat → Option zz_C} {h : zz_H} (hh : 111 ≤ h.length) {d : Nat} {N : Nat} {Q : Option Value → zz_H → Prop} {x1 : Int32} {s s' : mS} {v : Option Value} (hf : mf_87 N x1 s = some (s', v)) (k : Q v (mH h s')) : zz_E zp_P zt_tf zt_fd X (d + 0) zm_87 0 [(0, .ref 61), (1, .int x1)] [] (mH h s) Q := by
  unfold mf_87 at hf
  exact zz_E.weak (mr_87_0 hh hf k) rfl ⟨rfl, rfl, trivial⟩
/-! mixRow (I)V -/
theorem mb_353_0 {X : Nat → Option zz_C} {h : zz_H} (hh : 111 ≤ h.length) {s : mS} {d : Nat} {Q : Option Value → zz_H → Prop} {x1 : Int32} (k : zz_E zp_P zt_tf zt_fd X d zm_77 0 [(0, .ref 61), (1, .int x1)] [] (mH h s) (fun v h' => zz_E zp_P zt_tf zt_fd X (d + 1) zm_353 6 [(0, .ref 61), (1, .int x1)] (v.toList ++ [.ref 61]) h' Q)) : zz_E zp_P zt_tf zt_fd X (d + 1) zm_353 0 [(0, .ref 61), (1, .int x1)] [] (mH h s) Q := by
  refine zz_E.n 1 rfl rfl rfl ?_
  refine zz_E.n 2 rfl rfl rfl ?_
  refine zz_E.n 3 rfl rfl rfl ?_
  refine mE_cv hh 6 (as := [.ref 61]) rfl rfl (Nat.le_of_ble_eq_true rfl) (Nat.le_of_ble_eq_true rfl) rfl (Nat.le_of_ble_eq_true rfl) rfl ?_
  refine zz_E.mono k ?_
  intro v h' hE
  exact zz_E.weak hE rfl ⟨rfl, rfl, trivial⟩
theorem mb_353_6 {X : Nat → Option zz_C} {h : zz_H} (hh : 111 ≤ h.length) {s : mS} {d : Nat} {Q : Option Value → zz_H → Prop} {x1 : Int32} {y1 : Int32} (k : zz_E zp_P zt_tf zt_fd X d zm_87 0 [(0, .ref 61), (1, .int y1)] [] (mH h s) (fun v h' => zz_E zp_P zt_tf zt_fd X (d + 1) zm_353 9 [(0, .ref 61), (1, .int x1)] (v.toList ++ []) h' Q)) : zz_E zp_P zt_tf zt_fd X (d + 1) zm_353 6 [(0, .ref 61), (1, .int x1)] [.int y1, .ref 61] (mH h s) Q := by
  refine mE_cv hh 9 (as := []) rfl rfl (Nat.le_of_ble_eq_true rfl) (Nat.le_of_ble_eq_true rfl) rfl (Nat.le_of_ble_eq_true rfl) rfl ?_
  refine zz_E.mono k ?_
  intro v h' hE
  exact zz_E.weak hE rfl ⟨rfl, rfl, trivial⟩
theorem mb_353_9 {X : Nat → Option zz_C} {h : zz_H} (hh : 111 ≤ h.length) {s : mS} {d : Nat} {Q : Option Value → zz_H → Prop} {x1 : Int32} (k : zz_E zp_P zt_tf zt_fd X d zm_353 11 [(0, .ref 61), (1, .int x1), (2, .int 0)] [] (mH h s) Q) : zz_E zp_P zt_tf zt_fd X d zm_353 9 [(0, .ref 61), (1, .int x1)] [] (mH h s) Q := by
  refine zz_E.c 10 (.int 0) rfl rfl rfl rfl ?_
  refine zz_E.n 11 rfl rfl rfl ?_
  exact zz_E.weak k rfl ⟨rfl, rfl, rfl, trivial⟩
theorem mb_353_11 {X : Nat → Option zz_C} {h : zz_H} (hh : 111 ≤ h.length) {s : mS} {d : Nat} {Q : Option Value → zz_H → Prop} {x1 : Int32} {x2 : Int32} (k : zz_E zp_P zt_tf zt_fd X d zm_77 0 [(0, .ref 61), (1, .int x1)] [] (mH h s) (fun v h' => zz_E zp_P zt_tf zt_fd X (d + 1) zm_353 17 [(0, .ref 61), (1, .int x1), (2, .int x2)] (v.toList ++ [.int x2]) h' Q)) : zz_E zp_P zt_tf zt_fd X (d + 1) zm_353 11 [(0, .ref 61), (1, .int x1), (2, .int x2)] [] (mH h s) Q := by
  refine zz_E.n 12 rfl rfl rfl ?_
  refine zz_E.n 13 rfl rfl rfl ?_
  refine zz_E.n 14 rfl rfl rfl ?_
  refine mE_cv hh 17 (as := [.int x2]) rfl rfl (Nat.le_of_ble_eq_true rfl) (Nat.le_of_ble_eq_true rfl) rfl (Nat.le_of_ble_eq_true rfl) rfl ?_
  refine zz_E.mono k ?_
  intro v h' hE
  exact zz_E.weak hE rfl ⟨rfl, rfl, rfl, trivial⟩
theorem mb_353_17 {X : Nat → Option zz_C} {h : zz_H} (hh : 111 ≤ h.length) {s : mS} {d : Nat} {Q : Option Value → zz_H → Prop} {x1 : Int32} {x2 : Int32} {y0 : Int32} {y1 : Int32} (k1 : y1 ≤ y0 → zz_E zp_P zt_tf zt_fd X d zm_353 40 [] [] (mH h s) Q) (k2 : ¬ y1 ≤ y0 → zz_E zp_P zt_tf zt_fd X d zm_353 20 [(0, .ref 61), (1, .int x1), (2, .int x2)] [] (mH h s) Q) : zz_E zp_P zt_tf zt_fd X d zm_353 17 [(0, .ref 61), (1, .int x1), (2, .int x2)] [.int y1, .int y0] (mH h s) Q := by
  refine zz_E.b2 40 20 (A := y1 ≤ y0) rfl rfl (by decide) rfl rfl (fun c => ?_) (fun c => ?_)
  · exact zz_E.weak (k1 c) rfl trivial
  · exact zz_E.weak (k2 c) rfl ⟨rfl, rfl, rfl, trivial⟩
theorem mb_353_20 {X : Nat → Option zz_C} {h : zz_H} (hh : 111 ≤ h.length) {s : mS} {d : Nat} {Q : Option Value → zz_H → Prop} {x1 : Int32} {x2 : Int32} (i30 : ¬ (((x1 + 2) + x2) < 0 ∨ 166300 ≤ Int32.toNatClampNeg ((x1 + 2) + x2))) (k : zz_E zp_P zt_tf zt_fd X d zm_87 0 [(0, .ref 61), (1, .int ((s.2.2.1 47) (Int32.toNatClampNeg ((x1 + 2) + x2))))] [] (mH h s) (fun v h' => zz_E zp_P zt_tf zt_fd X (d + 1) zm_353 34 [(0, .ref 61), (1, .int x1), (2, .int x2)] (v.toList ++ []) h' Q)) : zz_E zp_P zt_tf zt_fd X (d + 1) zm_353 20 [(0, .ref 61), (1, .int x1), (2, .int x2)] [] (mH h s) Q := by
  refine zz_E.n 21 rfl rfl rfl ?_
  refine zz_E.n 22 rfl rfl rfl ?_
  refine mE_g hh 25 (v := .ref 89) rfl rfl rfl ?_
  refine zz_E.n 26 rfl rfl rfl ?_
  refine zz_E.c 27 (.int 2) rfl rfl rfl rfl ?_
  refine zz_E.n 28 rfl rfl rfl ?_
  refine zz_E.n 29 rfl rfl rfl ?_
  refine zz_E.n 30 rfl rfl rfl ?_
  refine mE_ia hh 31 28 (f := (s.2.2.1 47)) rfl (by decide) rfl rfl i30 rfl ?_
  refine mE_cv hh 34 (as := []) rfl rfl (Nat.le_of_ble_eq_true rfl) (Nat.le_of_ble_eq_true rfl) rfl (Nat.le_of_ble_eq_true rfl) rfl ?_
  refine zz_E.mono k ?_
  intro v h' hE
  exact zz_E.weak hE rfl ⟨rfl, rfl, rfl, trivial⟩
theorem mb_353_34 {X : Nat → Option zz_C} {h : zz_H} (hh : 111 ≤ h.length) {s : mS} {d : Nat} {Q : Option Value → zz_H → Prop} {x1 : Int32} {x2 : Int32} (k : zz_E zp_P zt_tf zt_fd X d zm_353 11 [(0, .ref 61), (1, .int x1), (2, .int (x2 + 1))] [] (mH h s) Q) : zz_E zp_P zt_tf zt_fd X d zm_353 34 [(0, .ref 61), (1, .int x1), (2, .int x2)] [] (mH h s) Q := by
  refine zz_E.n 37 rfl rfl rfl ?_
  refine zz_E.n 11 rfl rfl rfl ?_
  exact zz_E.weak k rfl ⟨rfl, rfl, rfl, trivial⟩
theorem mb_353_40 {X : Nat → Option zz_C} {h : zz_H} (hh : 111 ≤ h.length) {s : mS} {d : Nat} {Q : Option Value → zz_H → Prop}  (k : Q none (mH h s)) : zz_E zp_P zt_tf zt_fd X d zm_353 40 [] [] (mH h s) Q := by
  refine zz_E.ret rfl rfl rfl ?_
  exact k
def mf_353_40 (N : Nat)  (s : mS) : mO := some (s, none)
theorem mr_353_40 {X : Nat → Option zz_C} {h : zz_H} (hh : 111 ≤ h.length) {d : Nat} {N : Nat} {Q : Option Value → zz_H → Prop}  {s s' : mS} {v : Option Value} (hf : mf_353_40 N  s = some (s', v)) (k : Q v (mH h s')) : zz_E zp_P zt_tf zt_fd X (d + 1) zm_353 40 [] [] (mH h s) Q := by
  unfold mf_353_40 at hf
  cases hf
  exact mb_353_40 hh  k
def mf_353_34 (N : Nat) (rc : Nat → Int32 → Int32 → mS → mO) (x1 : Int32) (x2 : Int32) (s : mS) : mO := rc 0 x1 (x2 + 1) s
theorem mr_353_34 {X : Nat → Option zz_C} {h : zz_H} (hh : 111 ≤ h.length) {d : Nat} {N : Nat} {rc : Nat → Int32 → Int32 → mS → mO} (hrc0 : ∀ {Q : Option Value → zz_H → Prop} {x1 : Int32} {x2 : Int32} {s s' : mS} {v : Option Value}, rc 0 x1 x2 s = some (s', v) → Q v (mH h s') → zz_E zp_P zt_tf zt_fd X (d + 1) zm_353 11 [(0, .ref 61), (1, .int x1), (2, .int x2)] [] (mH h s) Q) {Q : Option Value → zz_H → Prop} {x1 : Int32} {x2 : Int32} {s s' : mS} {v : Option Value} (hf : mf_353_34 N rc x1 x2 s = some (s', v)) (k : Q v (mH h s')) : zz_E zp_P zt_tf zt_fd X (d + 1) zm_353 34 [(0, .ref 61), (1, .int x1), (2, .int x2)] [] (mH h s) Q := by
  unfold mf_353_34 at hf
  exact mb_353_34 hh  (hrc0 hf k)
def mf_353_20 (N : Nat) (rc : Nat → Int32 → Int32 → mS → mO) (x1 : Int32) (x2 : Int32) (s : mS) : mO := if ¬ (((x1 + 2) + x2) < 0 ∨ 166300 ≤ Int32.toNatClampNeg ((x1 + 2) + x2)) then (mo_bv (mf_87 N ((s.2.2.1 47) (Int32.toNatClampNeg ((x1 + 2) + x2))) s) (fun s1 => mf_353_34 N rc x1 x2 s1)) else none
theorem mr_353_20 {X : Nat → Option zz_C} {h : zz_H} (hh : 111 ≤ h.length) {d : Nat} {N : Nat} {rc : Nat → Int32 → Int32 → mS → mO} (hrc0 : ∀ {Q : Option Value → zz_H → Prop} {x1 : Int32} {x2 : Int32} {s s' : mS} {v : Option Value}, rc 0 x1 x2 s = some (s', v) → Q v (mH h s') → zz_E zp_P zt_tf zt_fd X (d + 1) zm_353 11 [(0, .ref 61), (1, .int x1), (2, .int x2)] [] (mH h s) Q) {Q : Option Value → zz_H → Prop} {x1 : Int32} {x2 : Int32} {s s' : mS} {v : Option Value} (hf : mf_353_20 N rc x1 x2 s = some (s', v)) (k : Q v (mH h s')) : zz_E zp_P zt_tf zt_fd X (d + 1) zm_353 20 [(0, .ref 61), (1, .int x1), (2, .int x2)] [] (mH h s) Q := by
  unfold mf_353_20 at hf
  obtain ⟨q0, hf⟩ := mo_if hf
  obtain ⟨s1, e, hf⟩ := mo_bv_ok hf
  exact mb_353_20 (d := d + 0) hh q0 (mr_87 (d := d + 0) hh e (mr_353_34 hh hrc0 hf k))
def mf_353_17 (N : Nat) (rc : Nat → Int32 → Int32 → mS → mO) (x1 : Int32) (x2 : Int32) (y0 : Int32) (y1 : Int32) (s : mS) : mO := if y1 ≤ y0 then mf_353_40 N  s else mf_353_20 N rc x1 x2 s
theorem mr_353_17 {X : Nat → Option zz_C} {h : zz_H} (hh : 111 ≤ h.length) {d : Nat} {N : Nat} {rc : Nat → Int32 → Int32 → mS → mO} (hrc0 : ∀ {Q : Option Value → zz_H → Prop} {x1 : Int32} {x2 : Int32} {s s' : mS} {v : Option Value}, rc 0 x1 x2 s = some (s', v) → Q v (mH h s') → zz_E zp_P zt_tf zt_fd X (d + 1) zm_353 11 [(0, .ref 61), (1, .int x1), (2, .int x2)] [] (mH h s) Q) {Q : Option Value → zz_H → Prop} {x1 : Int32} {x2 : Int32} {y0 : Int32} {y1 : Int32} {s s' : mS} {v : Option Value} (hf : mf_353_17 N rc x1 x2 y0 y1 s = some (s', v)) (k : Q v (mH h s')) : zz_E zp_P zt_tf zt_fd X (d + 1) zm_353 17 [(0, .ref 61), (1, .int x1), (2, .int x2)] [.int y1, .int y0] (mH h s) Q := by
  unfold mf_353_17 at hf
  refine mb_353_17 hh  (fun c => ?_) (fun c => ?_)
  · rw [if_pos c] at hf
    exact mr_353_40 hh hf k
  · rw [if_neg c] at hf
    exact mr_353_20 hh hrc0 hf k
def mf_353_11 (N : Nat) (rc : Nat → Int32 → Int32 → mS → mO) (x1 : Int32) (x2 : Int32) (s : mS) : mO := mo_bi (mf_77 N x1 s) (fun s1 y => mf_353_17 N rc x1 x2 x2 y s1)
theorem mr_353_11 {X : Nat → Option zz_C} {h : zz_H} (hh : 111 ≤ h.length) {d : Nat} {N : Nat} {rc : Nat → Int32 → Int32 → mS → mO} (hrc0 : ∀ {Q : Option Value → zz_H → Prop} {x1 : Int32} {x2 : Int32} {s s' : mS} {v : Option Value}, rc 0 x1 x2 s = some (s', v) → Q v (mH h s') → zz_E zp_P zt_tf zt_fd X (d + 1) zm_353 11 [(0, .ref 61), (1, .int x1), (2, .int x2)] [] (mH h s) Q) {Q : Option Value → zz_H → Prop} {x1 : Int32} {x2 : Int32} {s s' : mS} {v : Option Value} (hf : mf_353_11 N rc x1 x2 s = some (s', v)) (k : Q v (mH h s')) : zz_E zp_P zt_tf zt_fd X (d + 1) zm_353 11 [(0, .ref 61), (1, .int x1), (2, .int x2)] [] (mH h s) Q := by
  unfold mf_353_11 at hf
  obtain ⟨s1, y, e, hf⟩ := mo_bi_ok hf
  exact mb_353_11 (d := d + 0) hh  (mr_77 (d := d + 0) hh e (mr_353_17 hh hrc0 hf k))
def mf_353_L1 (N : Nat) : Nat → Nat → Int32 → Int32 → mS → mO
  | 0, _, _, _, _ => none
  | n + 1, l, x1, x2, s => if l = 0 then mf_353_11 N (mf_353_L1 N n) x1 x2 s else none
theorem mr_353_L1 {X : Nat → Option zz_C} {h : zz_H} (hh : 111 ≤ h.length) {d : Nat} {N : Nat} : ∀ n : Nat, (∀ {Q : Option Value → zz_H → Prop} {x1 : Int32} {x2 : Int32} {s s' : mS} {v : Option Value}, mf_353_L1 N n 0 x1 x2 s = some (s', v) → Q v (mH h s') → zz_E zp_P zt_tf zt_fd X (d + 1) zm_353 11 [(0, .ref 61), (1, .int x1), (2, .int x2)] [] (mH h s) Q) := by
  intro n
  induction n with
  | zero => exact (fun hf _ => by cases hf)
  | succ n ih =>
    have h0 := @ih
    intro Q _ _ s s' v hf k
    unfold mf_353_L1 at hf
    rw [if_pos rfl] at hf
    exact mr_353_11 hh h0 hf k
def mf_353_9 (N : Nat) (x1 : Int32) (s : mS) : mO := mf_353_L1 N N 0 x1 0 s
theorem mr_353_9 {X : Nat → Option zz_C} {h : zz_H} (hh : 111 ≤ h.length) {d : Nat} {N : Nat} {Q : Option Value → zz_H → Prop} {x1 : Int32} {s s' : mS} {v : Option Value} (hf : mf_353_9 N x1 s = some (s', v)) (k : Q v (mH h s')) : zz_E zp_P zt_tf zt_fd X (d + 1) zm_353 9 [(0, .ref 61), (1, .int x1)] [] (mH h s) Q := by
  unfold mf_353_9 at hf
  exact mb_353_9 hh  (mr_353_L1 hh N hf k)
def mf_353_6 (N : Nat) (x1 : Int32) (y1 : Int32) (s : mS) : mO := mo_bv (mf_87 N y1 s) (fun s1 => mf_353_9 N x1 s1)
theorem mr_353_6 {X : Nat → Option zz_C} {h : zz_H} (hh : 111 ≤ h.length) {d : Nat} {N : Nat} {Q : Option Value → zz_H → Prop} {x1 : Int32} {y1 : Int32} {s s' : mS} {v : Option Value} (hf : mf_353_6 N x1 y1 s = some (s', v)) (k : Q v (mH h s')) : zz_E zp_P zt_tf zt_fd X (d + 1) zm_353 6 [(0, .ref 61), (1, .int x1)] [.int y1, .ref 61] (mH h s) Q := by
  unfold mf_353_6 at hf
  obtain ⟨s1, e, hf⟩ := mo_bv_ok hf
  exact mb_353_6 (d := d + 0) hh  (mr_87 (d := d + 0) hh e (mr_353_9 hh hf k))
def mf_353_0 (N : Nat) (x1 : Int32) (s : mS) : mO := mo_bi (mf_77 N x1 s) (fun s1 y => mf_353_6 N x1 y s1)
theorem mr_353_0 {X : Nat → Option zz_C} {h : zz_H} (hh : 111 ≤ h.length) {d : Nat} {N : Nat} {Q : Option Value → zz_H → Prop} {x1 : Int32} {s s' : mS} {v : Option Value} (hf : mf_353_0 N x1 s = some (s', v)) (k : Q v (mH h s')) : zz_E zp_P zt_tf zt_fd X (d + 1) zm_353 0 [(0, .ref 61), (1, .int x1)] [] (mH h s) Q := by
  unfold mf_353_0 at hf
  obtain ⟨s1, y, e, hf⟩ := mo_bi_ok hf
  exact mb_353_0 (d := d + 0) hh  (mr_77 (d := d + 0) hh e (mr_353_6 hh hf k))
/-- mixRow -/
def mf_353 (N : Nat) (x1 : Int32) (s : mS) : mO := mf_353_0 N x1 s
theorem mr_353 {X : Nat → Option zz_C} {h : zz_H} (hh : 111 ≤ h.length) {d : Nat} {N : Nat} {Q : Option Value → zz_H → Prop} {x1 : Int32} {s s' : mS} {v : Option Value} (hf : mf_353 N x1 s = some (s', v)) (k : Q v (mH h s')) : zz_E zp_P zt_tf zt_fd X (d + 1) zm_353 0 [(0, .ref 61), (1, .int x1)] [] (mH h s) Q := by
  unfold mf_353 at hf
  exact zz_E.weak (mr_353_0 hh hf k) rfl ⟨rfl, rfl, trivial⟩
