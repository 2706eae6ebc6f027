/-! mixPlain (I)V -/
theorem mb_354_0 {X : Nat → Option zz_C} {h : zz_H} (hh : 111 ≤ h.length) {s : mS} {d : Nat} {Q : Option Value → zz_H → Prop} {x1 : Int32} (i6 : ¬ (x1 < 0 ∨ 166300 ≤ Int32.toNatClampNeg x1)) (k : zz_E zp_P zt_tf zt_fd X d zm_87 0 [(0, .ref 61), (1, .int ((s.2.2.1 47) (Int32.toNatClampNeg x1)))] [] (mH h s) (fun v h' => zz_E zp_P zt_tf zt_fd X (d + 1) zm_354 10 [(0, .ref 61), (1, .int x1)] (v.toList ++ []) h' Q)) : zz_E zp_P zt_tf zt_fd X (d + 1) zm_354 0 [(0, .ref 61), (1, .int x1)] [] (mH h s) Q := by
  refine zz_E.n 1 rfl rfl rfl ?_
  refine zz_E.n 2 rfl rfl rfl ?_
  refine mE_g hh 5 (v := .ref 89) rfl rfl rfl ?_
  refine zz_E.n 6 rfl rfl rfl ?_
  refine mE_ia hh 7 28 (f := (s.2.2.1 47)) rfl (by decide) rfl rfl i6 rfl ?_
  refine mE_cv hh 10 (as := []) rfl rfl (Nat.le_of_ble_eq_true rfl) (Nat.le_of_ble_eq_true rfl) rfl (Nat.le_of_ble_eq_true rfl) rfl ?_
  refine zz_E.mono k ?_
  intro v h' hE
  exact zz_E.weak hE rfl ⟨rfl, rfl, trivial⟩
theorem mb_354_10 {X : Nat → Option zz_C} {h : zz_H} (hh : 111 ≤ h.length) {s : mS} {d : Nat} {Q : Option Value → zz_H → Prop} {x1 : Int32} (i15 : ¬ (x1 < 0 ∨ 166300 ≤ Int32.toNatClampNeg x1)) (k1 : ¬ ((s.2.2.1 47) (Int32.toNatClampNeg x1)) = 1 → zz_E zp_P zt_tf zt_fd X d zm_354 26 [(0, .ref 61), (1, .int x1)] [] (mH h s) Q) (k2 : ¬ ¬ ((s.2.2.1 47) (Int32.toNatClampNeg x1)) = 1 → zz_E zp_P zt_tf zt_fd X d zm_354 20 [(0, .ref 61), (1, .int x1)] [] (mH h s) Q) : zz_E zp_P zt_tf zt_fd X d zm_354 10 [(0, .ref 61), (1, .int x1)] [] (mH h s) Q := by
  refine zz_E.n 11 rfl rfl rfl ?_
  refine mE_g hh 14 (v := .ref 89) rfl rfl rfl ?_
  refine zz_E.n 15 rfl rfl rfl ?_
  refine mE_ia hh 16 28 (f := (s.2.2.1 47)) rfl (by decide) rfl rfl i15 rfl ?_
  refine zz_E.c 17 (.int 1) rfl rfl rfl rfl ?_
  refine zz_E.b2 26 20 (A := ¬ ((s.2.2.1 47) (Int32.toNatClampNeg x1)) = 1) rfl (zz_cond_ne _ _) (by decide) rfl rfl (fun c => ?_) (fun c => ?_)
  · exact zz_E.weak (k1 c) rfl ⟨rfl, rfl, trivial⟩
  · exact zz_E.weak (k2 c) rfl ⟨rfl, rfl, trivial⟩
theorem mb_354_20 {X : Nat → Option zz_C} {h : zz_H} (hh : 111 ≤ h.length) {s : mS} {d : Nat} {Q : Option Value → zz_H → Prop} {x1 : Int32} (k : zz_E zp_P zt_tf zt_fd X d zm_353 0 [(0, .ref 61), (1, .int x1)] [] (mH h s) (fun v h' => zz_E zp_P zt_tf zt_fd X (d + 1) zm_354 25 [] (v.toList ++ []) h' Q)) : zz_E zp_P zt_tf zt_fd X (d + 1) zm_354 20 [(0, .ref 61), (1, .int x1)] [] (mH h s) Q := by
  refine zz_E.n 21 rfl rfl rfl ?_
  refine zz_E.n 22 rfl rfl rfl ?_
  refine mE_cv hh 25 (as := []) rfl rfl (Nat.le_of_ble_eq_true rfl) (Nat.le_of_ble_eq_true rfl) rfl (Nat.le_of_ble_eq_true rfl) rfl ?_
  refine zz_E.mono k ?_
  intro v h' hE
  exact zz_E.weak hE rfl trivial
theorem mb_354_25 {X : Nat → Option zz_C} {h : zz_H} (hh : 111 ≤ h.length) {s : mS} {d : Nat} {Q : Option Value → zz_H → Prop}  (k : Q none (mH h s)) : zz_E zp_P zt_tf zt_fd X d zm_354 25 [] [] (mH h s) Q := by
  refine zz_E.ret rfl rfl rfl ?_
  exact k
theorem mb_354_26 {X : Nat → Option zz_C} {h : zz_H} (hh : 111 ≤ h.length) {s : mS} {d : Nat} {Q : Option Value → zz_H → Prop} {x1 : Int32} (k : zz_E zp_P zt_tf zt_fd X d zm_77 0 [(0, .ref 61), (1, .int x1)] [] (mH h s) (fun v h' => zz_E zp_P zt_tf zt_fd X (d + 1) zm_354 32 [(0, .ref 61), (1, .int x1)] (v.toList ++ [.ref 61]) h' Q)) : zz_E zp_P zt_tf zt_fd X (d + 1) zm_354 26 [(0, .ref 61), (1, .int x1)] [] (mH h s) Q := by
  refine zz_E.n 27 rfl rfl rfl ?_
  refine zz_E.n 28 rfl rfl rfl ?_
  refine zz_E.n 29 rfl rfl rfl ?_
  refine mE_cv hh 32 (as := [.ref 61]) rfl rfl (Nat.le_of_ble_eq_true rfl) (Nat.le_of_ble_eq_true rfl) rfl (Nat.le_of_ble_eq_true rfl) rfl ?_
  refine zz_E.mono k ?_
  intro v h' hE
  exact zz_E.weak hE rfl ⟨rfl, rfl, trivial⟩
theorem mb_354_32 {X : Nat → Option zz_C} {h : zz_H} (hh : 111 ≤ h.length) {s : mS} {d : Nat} {Q : Option Value → zz_H → Prop} {x1 : Int32} {y1 : Int32} (k : zz_E zp_P zt_tf zt_fd X d zm_87 0 [(0, .ref 61), (1, .int y1)] [] (mH h s) (fun v h' => zz_E zp_P zt_tf zt_fd X (d + 1) zm_354 35 [(0, .ref 61), (1, .int x1)] (v.toList ++ []) h' Q)) : zz_E zp_P zt_tf zt_fd X (d + 1) zm_354 32 [(0, .ref 61), (1, .int x1)] [.int y1, .ref 61] (mH h s) Q := by
  refine mE_cv hh 35 (as := []) rfl rfl (Nat.le_of_ble_eq_true rfl) (Nat.le_of_ble_eq_true rfl) rfl (Nat.le_of_ble_eq_true rfl) rfl ?_
  refine zz_E.mono k ?_
  intro v h' hE
  exact zz_E.weak hE rfl ⟨rfl, rfl, trivial⟩
theorem mb_354_35 {X : Nat → Option zz_C} {h : zz_H} (hh : 111 ≤ h.length) {s : mS} {d : Nat} {Q : Option Value → zz_H → Prop} {x1 : Int32} (k : zz_E zp_P zt_tf zt_fd X d zm_354 37 [(0, .ref 61), (1, .int x1), (2, .int 0)] [] (mH h s) Q) : zz_E zp_P zt_tf zt_fd X d zm_354 35 [(0, .ref 61), (1, .int x1)] [] (mH h s) Q := by
  refine zz_E.c 36 (.int 0) rfl rfl rfl rfl ?_
  refine zz_E.n 37 rfl rfl rfl ?_
  exact zz_E.weak k rfl ⟨rfl, rfl, rfl, trivial⟩
theorem mb_354_37 {X : Nat → Option zz_C} {h : zz_H} (hh : 111 ≤ h.length) {s : mS} {d : Nat} {Q : Option Value → zz_H → Prop} {x1 : Int32} {x2 : Int32} (k : zz_E zp_P zt_tf zt_fd X d zm_77 0 [(0, .ref 61), (1, .int x1)] [] (mH h s) (fun v h' => zz_E zp_P zt_tf zt_fd X (d + 1) zm_354 43 [(0, .ref 61), (1, .int x1), (2, .int x2)] (v.toList ++ [.int x2]) h' Q)) : zz_E zp_P zt_tf zt_fd X (d + 1) zm_354 37 [(0, .ref 61), (1, .int x1), (2, .int x2)] [] (mH h s) Q := by
  refine zz_E.n 38 rfl rfl rfl ?_
  refine zz_E.n 39 rfl rfl rfl ?_
  refine zz_E.n 40 rfl rfl rfl ?_
  refine mE_cv hh 43 (as := [.int x2]) rfl rfl (Nat.le_of_ble_eq_true rfl) (Nat.le_of_ble_eq_true rfl) rfl (Nat.le_of_ble_eq_true rfl) rfl ?_
  refine zz_E.mono k ?_
  intro v h' hE
  exact zz_E.weak hE rfl ⟨rfl, rfl, rfl, trivial⟩
theorem mb_354_43 {X : Nat → Option zz_C} {h : zz_H} (hh : 111 ≤ h.length) {s : mS} {d : Nat} {Q : Option Value → zz_H → Prop} {x1 : Int32} {x2 : Int32} {y0 : Int32} {y1 : Int32} (k1 : y1 ≤ y0 → zz_E zp_P zt_tf zt_fd X d zm_354 62 [] [] (mH h s) Q) (k2 : ¬ y1 ≤ y0 → zz_E zp_P zt_tf zt_fd X d zm_354 46 [(0, .ref 61), (1, .int x1), (2, .int x2)] [] (mH h s) Q) : zz_E zp_P zt_tf zt_fd X d zm_354 43 [(0, .ref 61), (1, .int x1), (2, .int x2)] [.int y1, .int y0] (mH h s) Q := by
  refine zz_E.b2 62 46 (A := y1 ≤ y0) rfl rfl (by decide) rfl rfl (fun c => ?_) (fun c => ?_)
  · exact zz_E.weak (k1 c) rfl trivial
  · exact zz_E.weak (k2 c) rfl ⟨rfl, rfl, rfl, trivial⟩
theorem mb_354_46 {X : Nat → Option zz_C} {h : zz_H} (hh : 111 ≤ h.length) {s : mS} {d : Nat} {Q : Option Value → zz_H → Prop} {x1 : Int32} {x2 : Int32} (k : zz_E zp_P zt_tf zt_fd X d zm_294 0 [(0, .ref 61), (1, .int x1), (2, .int x2)] [] (mH h s) (fun v h' => zz_E zp_P zt_tf zt_fd X (d + 1) zm_354 53 [(0, .ref 61), (1, .int x1), (2, .int x2)] (v.toList ++ [.ref 61]) h' Q)) : zz_E zp_P zt_tf zt_fd X (d + 1) zm_354 46 [(0, .ref 61), (1, .int x1), (2, .int x2)] [] (mH h s) Q := by
  refine zz_E.n 47 rfl rfl rfl ?_
  refine zz_E.n 48 rfl rfl rfl ?_
  refine zz_E.n 49 rfl rfl rfl ?_
  refine zz_E.n 50 rfl rfl rfl ?_
  refine mE_cv hh 53 (as := [.ref 61]) rfl rfl (Nat.le_of_ble_eq_true rfl) (Nat.le_of_ble_eq_true rfl) rfl (Nat.le_of_ble_eq_true rfl) rfl ?_
  refine zz_E.mono k ?_
  intro v h' hE
  exact zz_E.weak hE rfl ⟨rfl, rfl, rfl, trivial⟩
theorem mb_354_53 {X : Nat → Option zz_C} {h : zz_H} (hh : 111 ≤ h.length) {s : mS} {d : Nat} {Q : Option Value → zz_H → Prop} {x1 : Int32} {x2 : Int32} {y1 : Int32} (k : zz_E zp_P zt_tf zt_fd X d zm_353 0 [(0, .ref 61), (1, .int y1)] [] (mH h s) (fun v h' => zz_E zp_P zt_tf zt_fd X (d + 1) zm_354 56 [(0, .ref 61), (1, .int x1), (2, .int x2)] (v.toList ++ []) h' Q)) : zz_E zp_P zt_tf zt_fd X (d + 1) zm_354 53 [(0, .ref 61), (1, .int x1), (2, .int x2)] [.int y1, .ref 61] (mH h s) Q := by
  refine mE_cv hh 56 (as := []) rfl rfl (Nat.le_of_ble_eq_true rfl) (Nat.le_of_ble_eq_true rfl) rfl (Nat.le_of_ble_eq_true rfl) rfl ?_
  refine zz_E.mono k ?_
  intro v h' hE
  exact zz_E.weak hE rfl ⟨rfl, rfl, rfl, trivial⟩
theorem mb_354_56 {X : Nat → Option zz_C} {h : zz_H} (hh : 111 ≤ h.length) {s : mS} {d : Nat} {Q : Option Value → zz_H → Prop} {x1 : Int32} {x2 : Int32} (k : zz_E zp_P zt_tf zt_fd X d zm_354 37 [(0, .ref 61), (1, .int x1), (2, .int (x2 + 1))] [] (mH h s) Q) : zz_E zp_P zt_tf zt_fd X d zm_354 56 [(0, .ref 61), (1, .int x1), (2, .int x2)] [] (mH h s) Q := by
  refine zz_E.n 59 rfl rfl rfl ?_
  refine zz_E.n 37 rfl rfl rfl ?_
  exact zz_E.weak k rfl ⟨rfl, rfl, rfl, trivial⟩
theorem mb_354_62 {X : Nat → Option zz_C} {h : zz_H} (hh : 111 ≤ h.length) {s : mS} {d : Nat} {Q : Option Value → zz_H → Prop}  (k : Q none (mH h s)) : zz_E zp_P zt_tf zt_fd X d zm_354 62 [] [] (mH h s) Q := by
  refine zz_E.ret rfl rfl rfl ?_
  exact k
def mf_354_62 (N : Nat)  (s : mS) : mO := some (s, none)
theorem mr_354_62 {X : Nat → Option zz_C} {h : zz_H} (hh : 111 ≤ h.length) {d : Nat} {N : Nat} {Q : Option Value → zz_H → Prop}  {s s' : mS} {v : Option Value} (hf : mf_354_62 N  s = some (s', v)) (k : Q v (mH h s')) : zz_E zp_P zt_tf zt_fd X (d + 2) zm_354 62 [] [] (mH h s) Q := by
  unfold mf_354_62 at hf
  cases hf
  exact mb_354_62 hh  k
def mf_354_56 (N : Nat) (rc : Nat → Int32 → Int32 → mS → mO) (x1 : Int32) (x2 : Int32) (s : mS) : mO := rc 0 x1 (x2 + 1) s
theorem mr_354_56 {X : Nat → Option zz_C} {h : zz_H} (hh : 111 ≤ h.length) {d : Nat} {N : Nat} {rc : Nat → Int32 → Int32 → mS → mO} (hrc0 : ∀ {Q : Option Value → zz_H → Prop} {x1 : Int32} {x2 : Int32} {s s' : mS} {v : Option Value}, rc 0 x1 x2 s = some (s', v) → Q v (mH h s') → zz_E zp_P zt_tf zt_fd X (d + 2) zm_354 37 [(0, .ref 61), (1, .int x1), (2, .int x2)] [] (mH h s) Q) {Q : Option Value → zz_H → Prop} {x1 : Int32} {x2 : Int32} {s s' : mS} {v : Option Value} (hf : mf_354_56 N rc x1 x2 s = some (s', v)) (k : Q v (mH h s')) : zz_E zp_P zt_tf zt_fd X (d + 2) zm_354 56 [(0, .ref 61), (1, .int x1), (2, .int x2)] [] (mH h s) Q := by
  unfold mf_354_56 at hf
  exact mb_354_56 hh  (hrc0 hf k)
def mf_354_53 (N : Nat) (rc : Nat → Int32 → Int32 → mS → mO) (x1 : Int32) (x2 : Int32) (y1 : Int32) (s : mS) : mO := mo_bv (mf_353 N y1 s) (fun s1 => mf_354_56 N rc x1 x2 s1)
theorem mr_354_53 {X : Nat → Option zz_C} {h : zz_H} (hh : 111 ≤ h.length) {d : Nat} {N : Nat} {rc : Nat → Int32 → Int32 → mS → mO} (hrc0 : ∀ {Q : Option Value → zz_H → Prop} {x1 : Int32} {x2 : Int32} {s s' : mS} {v : Option Value}, rc 0 x1 x2 s = some (s', v) → Q v (mH h s') → zz_E zp_P zt_tf zt_fd X (d + 2) zm_354 37 [(0, .ref 61), (1, .int x1), (2, .int x2)] [] (mH h s) Q) {Q : Option Value → zz_H → Prop} {x1 : Int32} {x2 : Int32} {y1 : Int32} {s s' : mS} {v : Option Value} (hf : mf_354_53 N rc x1 x2 y1 s = some (s', v)) (k : Q v (mH h s')) : zz_E zp_P zt_tf zt_fd X (d + 2) zm_354 53 [(0, .ref 61), (1, .int x1), (2, .int x2)] [.int y1, .ref 61] (mH h s) Q := by
  unfold mf_354_53 at hf
  obtain ⟨s1, e, hf⟩ := mo_bv_ok hf
  exact mb_354_53 (d := d + 1) hh  (mr_353 (d := d + 0) hh e (mr_354_56 hh hrc0 hf k))
def mf_354_46 (N : Nat) (rc : Nat → Int32 → Int32 → mS → mO) (x1 : Int32) (x2 : Int32) (s : mS) : mO := mo_bi (mf_294 N x1 x2 s) (fun s1 y => mf_354_53 N rc x1 x2 y s1)
theorem mr_354_46 {X : Nat → Option zz_C} {h : zz_H} (hh : 111 ≤ h.length) {d : Nat} {N : Nat} {rc : Nat → Int32 → Int32 → mS → mO} (hrc0 : ∀ {Q : Option Value → zz_H → Prop} {x1 : Int32} {x2 : Int32} {s s' : mS} {v : Option Value}, rc 0 x1 x2 s = some (s', v) → Q v (mH h s') → zz_E zp_P zt_tf zt_fd X (d + 2) zm_354 37 [(0, .ref 61), (1, .int x1), (2, .int x2)] [] (mH h s) Q) {Q : Option Value → zz_H → Prop} {x1 : Int32} {x2 : Int32} {s s' : mS} {v : Option Value} (hf : mf_354_46 N rc x1 x2 s = some (s', v)) (k : Q v (mH h s')) : zz_E zp_P zt_tf zt_fd X (d + 2) zm_354 46 [(0, .ref 61), (1, .int x1), (2, .int x2)] [] (mH h s) Q := by
  unfold mf_354_46 at hf
  obtain ⟨s1, y, e, hf⟩ := mo_bi_ok hf
  exact mb_354_46 (d := d + 1) hh  (mr_294 (d := d + 1) hh e (mr_354_53 hh hrc0 hf k))
def mf_354_43 (N : Nat) (rc : Nat → Int32 → Int32 → mS → mO) (x1 : Int32) (x2 : Int32) (y0 : Int32) (y1 : Int32) (s : mS) : mO := if y1 ≤ y0 then mf_354_62 N  s else mf_354_46 N rc x1 x2 s
theorem mr_354_43 {X : Nat → Option zz_C} {h : zz_H} (hh : 111 ≤ h.length) {d : Nat} {N : Nat} {rc : Nat → Int32 → Int32 → mS → mO} (hrc0 : ∀ {Q : Option Value → zz_H → Prop} {x1 : Int32} {x2 : Int32} {s s' : mS} {v : Option Value}, rc 0 x1 x2 s = some (s', v) → Q v (mH h s') → zz_E zp_P zt_tf zt_fd X (d + 2) zm_354 37 [(0, .ref 61), (1, .int x1), (2, .int x2)] [] (mH h s) Q) {Q : Option Value → zz_H → Prop} {x1 : Int32} {x2 : Int32} {y0 : Int32} {y1 : Int32} {s s' : mS} {v : Option Value} (hf : mf_354_43 N rc x1 x2 y0 y1 s = some (s', v)) (k : Q v (mH h s')) : zz_E zp_P zt_tf zt_fd X (d + 2) zm_354 43 [(0, .ref 61), (1, .int x1), (2, .int x2)] [.int y1, .int y0] (mH h s) Q := by
  unfold mf_354_43 at hf
  refine mb_354_43 hh  (fun c => ?_) (fun c => ?_)
  · rw [if_pos c] at hf
    exact mr_354_62 hh hf k
  · rw [if_neg c] at hf
    exact mr_354_46 hh hrc0 hf k
def mf_354_37 (N : Nat) (rc : Nat → Int32 → Int32 → mS → mO) (x1 : Int32) (x2 : Int32) (s : mS) : mO := mo_bi (mf_77 N x1 s) (fun s1 y => mf_354_43 N rc x1 x2 x2 y s1)
theorem mr_354_37 {X : Nat → Option zz_C} {h : zz_H} (hh : 111 ≤ h.length) {d : Nat} {N : Nat} {rc : Nat → Int32 → Int32 → mS → mO} (hrc0 : ∀ {Q : Option Value → zz_H → Prop} {x1 : Int32} {x2 : Int32} {s s' : mS} {v : Option Value}, rc 0 x1 x2 s = some (s', v) → Q v (mH h s') → zz_E zp_P zt_tf zt_fd X (d + 2) zm_354 37 [(0, .ref 61), (1, .int x1), (2, .int x2)] [] (mH h s) Q) {Q : Option Value → zz_H → Prop} {x1 : Int32} {x2 : Int32} {s s' : mS} {v : Option Value} (hf : mf_354_37 N rc x1 x2 s = some (s', v)) (k : Q v (mH h s')) : zz_E zp_P zt_tf zt_fd X (d + 2) zm_354 37 [(0, .ref 61), (1, .int x1), (2, .int x2)] [] (mH h s) Q := by
  unfold mf_354_37 at hf
  obtain ⟨s1, y, e, hf⟩ := mo_bi_ok hf
  exact mb_354_37 (d := d + 1) hh  (mr_77 (d := d + 1) hh e (mr_354_43 hh hrc0 hf k))
def mf_354_L1 (N : Nat) : Nat → Nat → Int32 → Int32 → mS → mO
  | 0, _, _, _, _ => none
  | n + 1, l, x1, x2, s => if l = 0 then mf_354_37 N (mf_354_L1 N n) x1 x2 s else none
theorem mr_354_L1 {X : Nat → Option zz_C} {h : zz_H} (hh : 111 ≤ h.length) {d : Nat} {N : Nat} : ∀ n : Nat, (∀ {Q : Option Value → zz_H → Prop} {x1 : Int32} {x2 : Int32} {s s' : mS} {v : Option Value}, mf_354_L1 N n 0 x1 x2 s = some (s', v) → Q v (mH h s') → zz_E zp_P zt_tf zt_fd X (d + 2) zm_354 37 [(0, .ref 61), (1, .int x1), (2, .int x2)] [] (mH h s) Q) := by
  intro n
  induction n with
  | zero => exact (fun hf _ => by cases hf)
  | succ n ih =>
    have h0 := @ih
    intro Q _ _ s s' v hf k
    unfold mf_354_L1 at hf
    rw [if_pos rfl] at hf
    exact mr_354_37 hh h0 hf k
def mf_354_35 (N : Nat) (x1 : Int32) (s : mS) : mO := mf_354_L1 N N 0 x1 0 s
theorem mr_354_35 {X : Nat → Option zz_C} {h : zz_H} (hh : 111 ≤ h.length) {d : Nat} {N : Nat} {Q : Option Value → zz_H → Prop} {x1 : Int32} {s s' : mS} {v : Option Value} (hf : mf_354_35 N x1 s = some (s', v)) (k : Q v (mH h s')) : zz_E zp_P zt_tf zt_fd X (d + 2) zm_354 35 [(0, .ref 61), (1, .int x1)] [] (mH h s) Q := by
  unfold mf_354_35 at hf
  exact mb_354_35 hh  (mr_354_L1 hh N hf k)
def mf_354_32 (N : Nat) (x1 : Int32) (y1 : Int32) (s : mS) : mO := mo_bv (mf_87 N y1 s) (fun s1 => mf_354_35 N x1 s1)
theorem mr_354_32 {X : Nat → Option zz_C} {h : zz_H} (hh : 111 ≤ h.length) {d : Nat} {N : Nat} {Q : Option Value → zz_H → Prop} {x1 : Int32} {y1 : Int32} {s s' : mS} {v : Option Value} (hf : mf_354_32 N x1 y1 s = some (s', v)) (k : Q v (mH h s')) : zz_E zp_P zt_tf zt_fd X (d + 2) zm_354 32 [(0, .ref 61), (1, .int x1)] [.int y1, .ref 61] (mH h s) Q := by
  unfold mf_354_32 at hf
  obtain ⟨s1, e, hf⟩ := mo_bv_ok hf
  exact mb_354_32 (d := d + 1) hh  (mr_87 (d := d + 1) hh e (mr_354_35 hh hf k))
def mf_354_26 (N : Nat) (x1 : Int32) (s : mS) : mO := mo_bi (mf_77 N x1 s) (fun s1 y => mf_354_32 N x1 y s1)
theorem mr_354_26 {X : Nat → Option zz_C} {h : zz_H} (hh : 111 ≤ h.length) {d : Nat} {N : Nat} {Q : Option Value → zz_H → Prop} {x1 : Int32} {s s' : mS} {v : Option Value} (hf : mf_354_26 N x1 s = some (s', v)) (k : Q v (mH h s')) : zz_E zp_P zt_tf zt_fd X (d + 2) zm_354 26 [(0, .ref 61), (1, .int x1)] [] (mH h s) Q := by
  unfold mf_354_26 at hf
  obtain ⟨s1, y, e, hf⟩ := mo_bi_ok hf
  exact mb_354_26 (d := d + 1) hh  (mr_77 (d := d + 1) hh e (mr_354_32 hh hf k))
def mf_354_25 (N : Nat)  (s : mS) : mO := some (s, none)
theorem mr_354_25 {X : Nat → Option zz_C} {h : zz_H} (hh : 111 ≤ h.length) {d : Nat} {N : Nat} {Q : Option Value → zz_H → Prop}  {s s' : mS} {v : Option Value} (hf : mf_354_25 N  s = some (s', v)) (k : Q v (mH h s')) : zz_E zp_P zt_tf zt_fd X (d + 2) zm_354 25 [] [] (mH h s) Q := by
  unfold mf_354_25 at hf
  cases hf
  exact mb_354_25 hh  k
def mf_354_20 (N : Nat) (x1 : Int32) (s : mS) : mO := mo_bv (mf_353 N x1 s) (fun s1 => mf_354_25 N  s1)
theorem mr_354_20 {X : Nat → Option zz_C} {h : zz_H} (hh : 111 ≤ h.length) {d : Nat} {N : Nat} {Q : Option Value → zz_H → Prop} {x1 : Int32} {s s' : mS} {v : Option Value} (hf : mf_354_20 N x1 s = some (s', v)) (k : Q v (mH h s')) : zz_E zp_P zt_tf zt_fd X (d + 2) zm_354 20 [(0, .ref 61), (1, .int x1)] [] (mH h s) Q := by
  unfold mf_354_20 at hf
  obtain ⟨s1, e, hf⟩ := mo_bv_ok hf
  exact mb_354_20 (d := d + 1) hh  (mr_353 (d := d + 0) hh e (mr_354_25 hh hf k))
def mf_354_10 (N : Nat) (x1 : Int32) (s : mS) : mO := if ¬ (x1 < 0 ∨ 166300 ≤ Int32.toNatClampNeg x1) then (if ¬ ((s.2.2.1 47) (Int32.toNatClampNeg x1)) = 1 then mf_354_26 N x1 s else mf_354_20 N x1 s) else none
theorem mr_354_10 {X : Nat → Option zz_C} {h : zz_H} (hh : 111 ≤ h.length) {d : Nat} {N : Nat} {Q : Option Value → zz_H → Prop} {x1 : Int32} {s s' : mS} {v : Option Value} (hf : mf_354_10 N x1 s = some (s', v)) (k : Q v (mH h s')) : zz_E zp_P zt_tf zt_fd X (d + 2) zm_354 10 [(0, .ref 61), (1, .int x1)] [] (mH h s) Q := by
  unfold mf_354_10 at hf
  obtain ⟨q0, hf⟩ := mo_if hf
  refine mb_354_10 hh q0 (fun c => ?_) (fun c => ?_)
  · rw [if_pos c] at hf
    exact mr_354_26 hh hf k
  · rw [if_neg c] at hf
    exact mr_354_20 hh hf k
def mf_354_0 (N : Nat) (x1 : Int32) (s : mS) : mO := if ¬ (x1 < 0 ∨ 166300 ≤ Int32.toNatClampNeg x1) then (mo_bv (mf_87 N ((s.2.2.1 47) (Int32.toNatClampNeg x1)) s) (fun s1 => mf_354_10 N x1 s1)) else none
theorem mr_354_0 {X : Nat → Option zz_C} {h : zz_H} (hh : 111 ≤ h.length) {d : Nat} {N : Nat} {Q : Option Value → zz_H → Prop} {x1 : Int32} {s s' : mS} {v : Option Value} (hf : mf_354_0 N x1 s = some (s', v)) (k : Q v (mH h s')) : zz_E zp_P zt_tf zt_fd X (d + 2) zm_354 0 [(0, .ref 61), (1, .int x1)] [] (mH h s) Q := by
  unfold mf_354_0 at hf
  obtain ⟨q0, hf⟩ := mo_if hf
  obtain ⟨s1, e, hf⟩ := mo_bv_ok hf
  exact mb_354_0 (d := d + 1) hh q0 (mr_87 (d := d + 1) hh e (mr_354_10 hh hf k))
/-- mixPlain -/
def mf_354 (N : Nat) (x1 : Int32) (s : mS) : mO := mf_354_0 N x1 s
theorem mr_354 {X : Nat → Option zz_C} {h : zz_H} (hh : 111 ≤ h.length) {d : Nat} {N : Nat} {Q : Option Value → zz_H → Prop} {x1 : Int32} {s s' : mS} {v : Option Value} (hf : mf_354 N x1 s = some (s', v)) (k : Q v (mH h s')) : zz_E zp_P zt_tf zt_fd X (d + 2) zm_354 0 [(0, .ref 61), (1, .int x1)] [] (mH h s) Q := by
  unfold mf_354 at hf
  exact zz_E.weak (mr_354_0 hh hf k) rfl ⟨rfl, rfl, trivial⟩
/-! mixThing (I)V -/
theorem mb_355_0 {X : Nat → Option zz_C} {h : zz_H} (hh : 111 ≤ h.length) {s : mS} {d : Nat} {Q : Option Value → zz_H → Prop} {x1 : Int32} (i5 : ¬ (x1 < 0 ∨ 166300 ≤ Int32.toNatClampNeg x1)) (k1 : ((s.2.2.1 47) (Int32.toNatClampNeg x1)) = 3 → zz_E zp_P zt_tf zt_fd X d zm_355 16 [(0, .ref 61), (1, .int x1)] [] (mH h s) Q) (k2 : ¬ ((s.2.2.1 47) (Int32.toNatClampNeg x1)) = 3 → zz_E zp_P zt_tf zt_fd X d zm_355 10 [(0, .ref 61), (1, .int x1)] [] (mH h s) Q) : zz_E zp_P zt_tf zt_fd X d zm_355 0 [(0, .ref 61), (1, .int x1)] [] (mH h s) Q := by
  refine zz_E.n 1 rfl rfl rfl ?_
  refine mE_g hh 4 (v := .ref 89) rfl rfl rfl ?_
  refine zz_E.n 5 rfl rfl rfl ?_
  refine mE_ia hh 6 28 (f := (s.2.2.1 47)) rfl (by decide) rfl rfl i5 rfl ?_
  refine zz_E.c 7 (.int 3) rfl rfl rfl rfl ?_
  refine zz_E.b2 16 10 (A := ((s.2.2.1 47) (Int32.toNatClampNeg x1)) = 3) rfl rfl (by decide) rfl rfl (fun c => ?_) (fun c => ?_)
  · exact zz_E.weak (k1 c) rfl ⟨rfl, rfl, trivial⟩
  · exact zz_E.weak (k2 c) rfl ⟨rfl, rfl, trivial⟩
theorem mb_355_10 {X : Nat → Option zz_C} {h : zz_H} (hh : 111 ≤ h.length) {s : mS} {d : Nat} {Q : Option Value → zz_H → Prop} {x1 : Int32} (k : zz_E zp_P zt_tf zt_fd X d zm_354 0 [(0, .ref 61), (1, .int x1)] [] (mH h s) (fun v h' => zz_E zp_P zt_tf zt_fd X (d + 1) zm_355 15 [] (v.toList ++ []) h' Q)) : zz_E zp_P zt_tf zt_fd X (d + 1) zm_355 10 [(0, .ref 61), (1, .int x1)] [] (mH h s) Q := by
  refine zz_E.n 11 rfl rfl rfl ?_
  refine zz_E.n 12 rfl rfl rfl ?_
  refine mE_cv hh 15 (as := []) rfl rfl (Nat.le_of_ble_eq_true rfl) (Nat.le_of_ble_eq_true rfl) rfl (Nat.le_of_ble_eq_true rfl) rfl ?_
  refine zz_E.mono k ?_
  intro v h' hE
  exact zz_E.weak hE rfl trivial
theorem mb_355_15 {X : Nat → Option zz_C} {h : zz_H} (hh : 111 ≤ h.length) {s : mS} {d : Nat} {Q : Option Value → zz_H → Prop}  (k : Q none (mH h s)) : zz_E zp_P zt_tf zt_fd X d zm_355 15 [] [] (mH h s) Q := by
  refine zz_E.ret rfl rfl rfl ?_
  exact k
theorem mb_355_16 {X : Nat → Option zz_C} {h : zz_H} (hh : 111 ≤ h.length) {s : mS} {d : Nat} {Q : Option Value → zz_H → Prop} {x1 : Int32} (k : zz_E zp_P zt_tf zt_fd X d zm_87 0 [(0, .ref 61), (1, .int 3)] [] (mH h s) (fun v h' => zz_E zp_P zt_tf zt_fd X (d + 1) zm_355 21 [(0, .ref 61), (1, .int x1)] (v.toList ++ []) h' Q)) : zz_E zp_P zt_tf zt_fd X (d + 1) zm_355 16 [(0, .ref 61), (1, .int x1)] [] (mH h s) Q := by
  refine zz_E.n 17 rfl rfl rfl ?_
  refine zz_E.c 18 (.int 3) rfl rfl rfl rfl ?_
  refine mE_cv hh 21 (as := []) rfl rfl (Nat.le_of_ble_eq_true rfl) (Nat.le_of_ble_eq_true rfl) rfl (Nat.le_of_ble_eq_true rfl) rfl ?_
  refine zz_E.mono k ?_
  intro v h' hE
  exact zz_E.weak hE rfl ⟨rfl, rfl, trivial⟩
theorem mb_355_21 {X : Nat → Option zz_C} {h : zz_H} (hh : 111 ≤ h.length) {s : mS} {d : Nat} {Q : Option Value → zz_H → Prop} {x1 : Int32} (k : zz_E zp_P zt_tf zt_fd X d zm_77 0 [(0, .ref 61), (1, .int x1)] [] (mH h s) (fun v h' => zz_E zp_P zt_tf zt_fd X (d + 1) zm_355 27 [(0, .ref 61), (1, .int x1)] (v.toList ++ [.ref 61]) h' Q)) : zz_E zp_P zt_tf zt_fd X (d + 1) zm_355 21 [(0, .ref 61), (1, .int x1)] [] (mH h s) Q := by
  refine zz_E.n 22 rfl rfl rfl ?_
  refine zz_E.n 23 rfl rfl rfl ?_
  refine zz_E.n 24 rfl rfl rfl ?_
  refine mE_cv hh 27 (as := [.ref 61]) rfl rfl (Nat.le_of_ble_eq_true rfl) (Nat.le_of_ble_eq_true rfl) rfl (Nat.le_of_ble_eq_true rfl) rfl ?_
  refine zz_E.mono k ?_
  intro v h' hE
  exact zz_E.weak hE rfl ⟨rfl, rfl, trivial⟩
theorem mb_355_27 {X : Nat → Option zz_C} {h : zz_H} (hh : 111 ≤ h.length) {s : mS} {d : Nat} {Q : Option Value → zz_H → Prop} {x1 : Int32} {y1 : Int32} (k : zz_E zp_P zt_tf zt_fd X d zm_87 0 [(0, .ref 61), (1, .int y1)] [] (mH h s) (fun v h' => zz_E zp_P zt_tf zt_fd X (d + 1) zm_355 30 [(0, .ref 61), (1, .int x1)] (v.toList ++ []) h' Q)) : zz_E zp_P zt_tf zt_fd X (d + 1) zm_355 27 [(0, .ref 61), (1, .int x1)] [.int y1, .ref 61] (mH h s) Q := by
  refine mE_cv hh 30 (as := []) rfl rfl (Nat.le_of_ble_eq_true rfl) (Nat.le_of_ble_eq_true rfl) rfl (Nat.le_of_ble_eq_true rfl) rfl ?_
  refine zz_E.mono k ?_
  intro v h' hE
  exact zz_E.weak hE rfl ⟨rfl, rfl, trivial⟩
theorem mb_355_30 {X : Nat → Option zz_C} {h : zz_H} (hh : 111 ≤ h.length) {s : mS} {d : Nat} {Q : Option Value → zz_H → Prop} {x1 : Int32} (k : zz_E zp_P zt_tf zt_fd X d zm_296 0 [(0, .ref 61), (1, .int x1), (2, .int 0)] [] (mH h (mI s 55 0)) (fun v h' => zz_E zp_P zt_tf zt_fd X (d + 1) zm_355 41 [(0, .ref 61)] (v.toList ++ []) h' Q)) : zz_E zp_P zt_tf zt_fd X (d + 1) zm_355 30 [(0, .ref 61), (1, .int x1)] [] (mH h s) Q := by
  refine zz_E.n 31 rfl rfl rfl ?_
  refine zz_E.c 32 (.int 0) rfl rfl rfl rfl ?_
  refine mE_p hh 35 rfl (by decide) rfl (mF_55 _ _) rfl ?_
  refine zz_E.n 36 rfl rfl rfl ?_
  refine zz_E.n 37 rfl rfl rfl ?_
  refine zz_E.c 38 (.int 0) rfl rfl rfl rfl ?_
  refine mE_cv hh 41 (as := []) rfl rfl (Nat.le_of_ble_eq_true rfl) (Nat.le_of_ble_eq_true rfl) rfl (Nat.le_of_ble_eq_true rfl) rfl ?_
  refine zz_E.mono k ?_
  intro v h' hE
  exact zz_E.weak hE rfl ⟨rfl, trivial⟩
theorem mb_355_41 {X : Nat → Option zz_C} {h : zz_H} (hh : 111 ≤ h.length) {s : mS} {d : Nat} {Q : Option Value → zz_H → Prop}  (k1 : (s.1 55) ≤ 0 → zz_E zp_P zt_tf zt_fd X d zm_355 203 [] [] (mH h s) Q) (k2 : ¬ (s.1 55) ≤ 0 → zz_E zp_P zt_tf zt_fd X d zm_355 48 [(0, .ref 61)] [] (mH h s) Q) : zz_E zp_P zt_tf zt_fd X d zm_355 41 [(0, .ref 61)] [] (mH h s) Q := by
  refine zz_E.n 42 rfl rfl rfl ?_
  refine mE_g hh 45 (v := .int (s.1 55)) rfl rfl rfl ?_
  refine zz_E.b1 203 48 (A := (s.1 55) ≤ 0) rfl rfl (by decide) rfl rfl (fun c => ?_) (fun c => ?_)
  · exact zz_E.weak (k1 c) rfl trivial
  · exact zz_E.weak (k2 c) rfl ⟨rfl, trivial⟩
theorem mb_355_48 {X : Nat → Option zz_C} {h : zz_H} (hh : 111 ≤ h.length) {s : mS} {d : Nat} {Q : Option Value → zz_H → Prop}  (i58 : ¬ (((s.1 55) - 1) < 0 ∨ 8 ≤ Int32.toNatClampNeg ((s.1 55) - 1))) (i70 : ¬ (((s.1 55) - 1) < 0 ∨ 8 ≤ Int32.toNatClampNeg ((s.1 55) - 1))) (k : zz_E zp_P zt_tf zt_fd X d zm_77 0 [(0, .ref 61), (1, .int ((s.2.2.1 52) (Int32.toNatClampNeg ((s.1 55) - 1))))] [] (mH h s) (fun v h' => zz_E zp_P zt_tf zt_fd X (d + 1) zm_355 78 [(0, .ref 61), (2, .int ((s.2.2.1 52) (Int32.toNatClampNeg ((s.1 55) - 1)))), (3, .int ((s.2.2.1 54) (Int32.toNatClampNeg ((s.1 55) - 1))))] (v.toList ++ [.int ((s.2.2.1 54) (Int32.toNatClampNeg ((s.1 55) - 1)))]) h' Q)) : zz_E zp_P zt_tf zt_fd X (d + 1) zm_355 48 [(0, .ref 61)] [] (mH h s) Q := by
  refine zz_E.n 49 rfl rfl rfl ?_
  refine mE_g hh 52 (v := .ref 92) rfl rfl rfl ?_
  refine zz_E.n 53 rfl rfl rfl ?_
  refine mE_g hh 56 (v := .int (s.1 55)) rfl rfl rfl ?_
  refine zz_E.c 57 (.int 1) rfl rfl rfl rfl ?_
  refine zz_E.n 58 rfl rfl rfl ?_
  refine mE_ia hh 59 31 (f := (s.2.2.1 52)) rfl (by decide) rfl rfl i58 rfl ?_
  refine zz_E.n 60 rfl rfl rfl ?_
  refine zz_E.n 61 rfl rfl rfl ?_
  refine mE_g hh 64 (v := .ref 94) rfl rfl rfl ?_
  refine zz_E.n 65 rfl rfl rfl ?_
  refine mE_g hh 68 (v := .int (s.1 55)) rfl rfl rfl ?_
  refine zz_E.c 69 (.int 1) rfl rfl rfl rfl ?_
  refine zz_E.n 70 rfl rfl rfl ?_
  refine mE_ia hh 71 33 (f := (s.2.2.1 54)) rfl (by decide) rfl rfl i70 rfl ?_
  refine zz_E.n 72 rfl rfl rfl ?_
  refine zz_E.n 73 rfl rfl rfl ?_
  refine zz_E.n 74 rfl rfl rfl ?_
  refine zz_E.n 75 rfl rfl rfl ?_
  refine mE_cv hh 78 (as := [.int ((s.2.2.1 54) (Int32.toNatClampNeg ((s.1 55) - 1)))]) rfl rfl (Nat.le_of_ble_eq_true rfl) (Nat.le_of_ble_eq_true rfl) rfl (Nat.le_of_ble_eq_true rfl) rfl ?_
  refine zz_E.mono k ?_
  intro v h' hE
  exact zz_E.weak hE rfl ⟨rfl, rfl, rfl, trivial⟩
theorem mb_355_78 {X : Nat → Option zz_C} {h : zz_H} (hh : 111 ≤ h.length) {s : mS} {d : Nat} {Q : Option Value → zz_H → Prop} {x2 : Int32} {x3 : Int32} {y0 : Int32} {y1 : Int32} (k1 : ¬ y0 = y1 → zz_E zp_P zt_tf zt_fd X d zm_355 94 [(0, .ref 61), (2, .int x2), (3, .int x3)] [] (mH h s) Q) (k2 : ¬ ¬ y0 = y1 → zz_E zp_P zt_tf zt_fd X d zm_355 81 [(0, .ref 61)] [] (mH h s) Q) : zz_E zp_P zt_tf zt_fd X d zm_355 78 [(0, .ref 61), (2, .int x2), (3, .int x3)] [.int y1, .int y0] (mH h s) Q := by
  refine zz_E.b2 94 81 (A := ¬ y0 = y1) rfl (zz_cond_ne _ _) (by decide) rfl rfl (fun c => ?_) (fun c => ?_)
  · exact zz_E.weak (k1 c) rfl ⟨rfl, rfl, rfl, trivial⟩
  · exact zz_E.weak (k2 c) rfl ⟨rfl, trivial⟩
theorem mb_355_81 {X : Nat → Option zz_C} {h : zz_H} (hh : 111 ≤ h.length) {s : mS} {d : Nat} {Q : Option Value → zz_H → Prop}  (k : zz_E zp_P zt_tf zt_fd X d zm_355 41 [(0, .ref 61)] [] (mH h (mI s 55 ((s.1 55) - 1))) Q) : zz_E zp_P zt_tf zt_fd X d zm_355 81 [(0, .ref 61)] [] (mH h s) Q := by
  refine zz_E.n 82 rfl rfl rfl ?_
  refine zz_E.n 83 rfl rfl rfl ?_
  refine mE_g hh 86 (v := .int (s.1 55)) rfl rfl rfl ?_
  refine zz_E.c 87 (.int 1) rfl rfl rfl rfl ?_
  refine zz_E.n 88 rfl rfl rfl ?_
  refine mE_p hh 91 rfl (by decide) rfl (mF_55 _ _) rfl ?_
  refine zz_E.n 41 rfl rfl rfl ?_
  exact zz_E.weak k rfl ⟨rfl, trivial⟩
theorem mb_355_94 {X : Nat → Option zz_C} {h : zz_H} (hh : 111 ≤ h.length) {s : mS} {d : Nat} {Q : Option Value → zz_H → Prop} {x2 : Int32} {x3 : Int32} (i105 : ¬ (((s.1 55) - 1) < 0 ∨ 8 ≤ Int32.toNatClampNeg ((s.1 55) - 1))) (i108 : ¬ (((s.1 55) - 1) < 0 ∨ 8 ≤ Int32.toNatClampNeg ((s.1 55) - 1))) (k : zz_E zp_P zt_tf zt_fd X d zm_293 0 [(0, .ref 61), (1, .int x2), (2, .int x3)] [] (mH h (mA s 54 (upd (s.2.2.1 54) (Int32.toNatClampNeg ((s.1 55) - 1)) (((s.2.2.1 54) (Int32.toNatClampNeg ((s.1 55) - 1))) + 1)))) (fun v h' => zz_E zp_P zt_tf zt_fd X (d + 1) zm_355 115 [(0, .ref 61), (2, .int x2), (3, .int x3)] (v.toList ++ []) h' Q)) : zz_E zp_P zt_tf zt_fd X (d + 1) zm_355 94 [(0, .ref 61), (2, .int x2), (3, .int x3)] [] (mH h s) Q := by
  refine zz_E.n 95 rfl rfl rfl ?_
  refine mE_g hh 98 (v := .ref 94) rfl rfl rfl ?_
  refine zz_E.n 99 rfl rfl rfl ?_
  refine mE_g hh 102 (v := .int (s.1 55)) rfl rfl rfl ?_
  refine zz_E.c 103 (.int 1) rfl rfl rfl rfl ?_
  refine zz_E.n 104 rfl rfl rfl ?_
  refine zz_E.n 105 rfl rfl rfl ?_
  refine mE_ia hh 106 33 (f := (s.2.2.1 54)) rfl (by decide) rfl rfl i105 rfl ?_
  refine zz_E.c 107 (.int 1) rfl rfl rfl rfl ?_
  refine zz_E.n 108 rfl rfl rfl ?_
  refine mE_is hh 109 33 (f := (s.2.2.1 54)) rfl (by decide) rfl rfl i108 (mA_94 _ _) rfl ?_
  refine zz_E.n 110 rfl rfl rfl ?_
  refine zz_E.n 111 rfl rfl rfl ?_
  refine zz_E.n 112 rfl rfl rfl ?_
  refine mE_cv hh 115 (as := []) rfl rfl (Nat.le_of_ble_eq_true rfl) (Nat.le_of_ble_eq_true rfl) rfl (Nat.le_of_ble_eq_true rfl) rfl ?_
  refine zz_E.mono k ?_
  intro v h' hE
  exact zz_E.weak hE rfl ⟨rfl, rfl, rfl, trivial⟩
theorem mb_355_115 {X : Nat → Option zz_C} {h : zz_H} (hh : 111 ≤ h.length) {s : mS} {d : Nat} {Q : Option Value → zz_H → Prop} {x2 : Int32} {x3 : Int32} {y0 : Int32} (k1 : y0 = 0 → zz_E zp_P zt_tf zt_fd X d zm_355 142 [(0, .ref 61), (2, .int x2), (3, .int x3)] [] (mH h s) Q) (k2 : ¬ y0 = 0 → zz_E zp_P zt_tf zt_fd X d zm_355 118 [(0, .ref 61), (2, .int x2), (3, .int x3)] [] (mH h s) Q) : zz_E zp_P zt_tf zt_fd X d zm_355 115 [(0, .ref 61), (2, .int x2), (3, .int x3)] [.int y0] (mH h s) Q := by
  refine zz_E.b1 142 118 (A := y0 = 0) rfl rfl (by decide) rfl rfl (fun c => ?_) (fun c => ?_)
  · exact zz_E.weak (k1 c) rfl ⟨rfl, rfl, rfl, trivial⟩
  · exact zz_E.weak (k2 c) rfl ⟨rfl, rfl, rfl, trivial⟩
theorem mb_355_118 {X : Nat → Option zz_C} {h : zz_H} (hh : 111 ≤ h.length) {s : mS} {d : Nat} {Q : Option Value → zz_H → Prop} {x2 : Int32} {x3 : Int32} (k : zz_E zp_P zt_tf zt_fd X d zm_87 0 [(0, .ref 61), (1, .int 0)] [] (mH h s) (fun v h' => zz_E zp_P zt_tf zt_fd X (d + 1) zm_355 123 [(0, .ref 61), (2, .int x2), (3, .int x3)] (v.toList ++ []) h' Q)) : zz_E zp_P zt_tf zt_fd X (d + 1) zm_355 118 [(0, .ref 61), (2, .int x2), (3, .int x3)] [] (mH h s) Q := by
  refine zz_E.n 119 rfl rfl rfl ?_
  refine zz_E.c 120 (.int 0) rfl rfl rfl rfl ?_
  refine mE_cv hh 123 (as := []) rfl rfl (Nat.le_of_ble_eq_true rfl) (Nat.le_of_ble_eq_true rfl) rfl (Nat.le_of_ble_eq_true rfl) rfl ?_
  refine zz_E.mono k ?_
  intro v h' hE
  exact zz_E.weak hE rfl ⟨rfl, rfl, rfl, trivial⟩
theorem mb_355_123 {X : Nat → Option zz_C} {h : zz_H} (hh : 111 ≤ h.length) {s : mS} {d : Nat} {Q : Option Value → zz_H → Prop} {x2 : Int32} {x3 : Int32} (i135 : ¬ (((x2 + 3) + (2 * x3)) < 0 ∨ 166300 ≤ Int32.toNatClampNeg ((x2 + 3) + (2 * x3)))) (k : zz_E zp_P zt_tf zt_fd X d zm_87 0 [(0, .ref 61), (1, .int ((s.2.2.1 47) (Int32.toNatClampNeg ((x2 + 3) + (2 * x3)))))] [] (mH h s) (fun v h' => zz_E zp_P zt_tf zt_fd X (d + 1) zm_355 139 [(0, .ref 61)] (v.toList ++ []) h' Q)) : zz_E zp_P zt_tf zt_fd X (d + 1) zm_355 123 [(0, .ref 61), (2, .int x2), (3, .int x3)] [] (mH h s) Q := by
  refine zz_E.n 124 rfl rfl rfl ?_
  refine zz_E.n 125 rfl rfl rfl ?_
  refine mE_g hh 128 (v := .ref 89) rfl rfl rfl ?_
  refine zz_E.n 129 rfl rfl rfl ?_
  refine zz_E.c 130 (.int 3) rfl rfl rfl rfl ?_
  refine zz_E.n 131 rfl rfl rfl ?_
  refine zz_E.c 132 (.int 2) rfl rfl rfl rfl ?_
  refine zz_E.n 133 rfl rfl rfl ?_
  refine zz_E.n 134 rfl rfl rfl ?_
  refine zz_E.n 135 rfl rfl rfl ?_
  refine mE_ia hh 136 28 (f := (s.2.2.1 47)) rfl (by decide) rfl rfl i135 rfl ?_
  refine mE_cv hh 139 (as := []) rfl rfl (Nat.le_of_ble_eq_true rfl) (Nat.le_of_ble_eq_true rfl) rfl (Nat.le_of_ble_eq_true rfl) rfl ?_
  refine zz_E.mono k ?_
  intro v h' hE
  exact zz_E.weak hE rfl ⟨rfl, trivial⟩
theorem mb_355_139 {X : Nat → Option zz_C} {h : zz_H} (hh : 111 ≤ h.length) {s : mS} {d : Nat} {Q : Option Value → zz_H → Prop}  (k : zz_E zp_P zt_tf zt_fd X d zm_355 200 [(0, .ref 61)] [] (mH h s) Q) : zz_E zp_P zt_tf zt_fd X d zm_355 139 [(0, .ref 61)] [] (mH h s) Q := by
  refine zz_E.n 200 rfl rfl rfl ?_
  exact zz_E.weak k rfl ⟨rfl, trivial⟩
theorem mb_355_142 {X : Nat → Option zz_C} {h : zz_H} (hh : 111 ≤ h.length) {s : mS} {d : Nat} {Q : Option Value → zz_H → Prop} {x2 : Int32} {x3 : Int32} (k : zz_E zp_P zt_tf zt_fd X d zm_294 0 [(0, .ref 61), (1, .int x2), (2, .int x3)] [] (mH h s) (fun v h' => zz_E zp_P zt_tf zt_fd X (d + 1) zm_355 152 [(0, .ref 61), (2, .int x2), (3, .int x3)] (v.toList ++ [.ref 89]) h' Q)) : zz_E zp_P zt_tf zt_fd X (d + 1) zm_355 142 [(0, .ref 61), (2, .int x2), (3, .int x3)] [] (mH h s) Q := by
  refine zz_E.n 143 rfl rfl rfl ?_
  refine mE_g hh 146 (v := .ref 89) rfl rfl rfl ?_
  refine zz_E.n 147 rfl rfl rfl ?_
  refine zz_E.n 148 rfl rfl rfl ?_
  refine zz_E.n 149 rfl rfl rfl ?_
  refine mE_cv hh 152 (as := [.ref 89]) rfl rfl (Nat.le_of_ble_eq_true rfl) (Nat.le_of_ble_eq_true rfl) rfl (Nat.le_of_ble_eq_true rfl) rfl ?_
  refine zz_E.mono k ?_
  intro v h' hE
  exact zz_E.weak hE rfl ⟨rfl, rfl, rfl, trivial⟩
theorem mb_355_152 {X : Nat → Option zz_C} {h : zz_H} (hh : 111 ≤ h.length) {s : mS} {d : Nat} {Q : Option Value → zz_H → Prop} {x2 : Int32} {x3 : Int32} {y1 : Int32} (i152 : ¬ (y1 < 0 ∨ 166300 ≤ Int32.toNatClampNeg y1)) (k1 : ¬ ((s.2.2.1 47) (Int32.toNatClampNeg y1)) = 3 → zz_E zp_P zt_tf zt_fd X d zm_355 190 [(0, .ref 61), (2, .int x2), (3, .int x3)] [] (mH h s) Q) (k2 : ¬ ¬ ((s.2.2.1 47) (Int32.toNatClampNeg y1)) = 3 → zz_E zp_P zt_tf zt_fd X d zm_355 157 [(0, .ref 61), (2, .int x2), (3, .int x3)] [] (mH h s) Q) : zz_E zp_P zt_tf zt_fd X d zm_355 152 [(0, .ref 61), (2, .int x2), (3, .int x3)] [.int y1, .ref 89] (mH h s) Q := by
  refine mE_ia hh 153 28 (f := (s.2.2.1 47)) rfl (by decide) rfl rfl i152 rfl ?_
  refine zz_E.c 154 (.int 3) rfl rfl rfl rfl ?_
  refine zz_E.b2 190 157 (A := ¬ ((s.2.2.1 47) (Int32.toNatClampNeg y1)) = 3) rfl (zz_cond_ne _ _) (by decide) rfl rfl (fun c => ?_) (fun c => ?_)
  · exact zz_E.weak (k1 c) rfl ⟨rfl, rfl, rfl, trivial⟩
  · exact zz_E.weak (k2 c) rfl ⟨rfl, rfl, rfl, trivial⟩
theorem mb_355_157 {X : Nat → Option zz_C} {h : zz_H} (hh : 111 ≤ h.length) {s : mS} {d : Nat} {Q : Option Value → zz_H → Prop} {x2 : Int32} {x3 : Int32} (k : zz_E zp_P zt_tf zt_fd X d zm_87 0 [(0, .ref 61), (1, .int 3)] [] (mH h s) (fun v h' => zz_E zp_P zt_tf zt_fd X (d + 1) zm_355 162 [(0, .ref 61), (2, .int x2), (3, .int x3)] (v.toList ++ []) h' Q)) : zz_E zp_P zt_tf zt_fd X (d + 1) zm_355 157 [(0, .ref 61), (2, .int x2), (3, .int x3)] [] (mH h s) Q := by
  refine zz_E.n 158 rfl rfl rfl ?_
  refine zz_E.c 159 (.int 3) rfl rfl rfl rfl ?_
  refine mE_cv hh 162 (as := []) rfl rfl (Nat.le_of_ble_eq_true rfl) (Nat.le_of_ble_eq_true rfl) rfl (Nat.le_of_ble_eq_true rfl) rfl ?_
  refine zz_E.mono k ?_
  intro v h' hE
  exact zz_E.weak hE rfl ⟨rfl, rfl, rfl, trivial⟩
theorem mb_355_162 {X : Nat → Option zz_C} {h : zz_H} (hh : 111 ≤ h.length) {s : mS} {d : Nat} {Q : Option Value → zz_H → Prop} {x2 : Int32} {x3 : Int32} (k : zz_E zp_P zt_tf zt_fd X d zm_294 0 [(0, .ref 61), (1, .int x2), (2, .int x3)] [] (mH h s) (fun v h' => zz_E zp_P zt_tf zt_fd X (d + 1) zm_355 170 [(0, .ref 61), (2, .int x2), (3, .int x3)] (v.toList ++ [.ref 61, .ref 61]) h' Q)) : zz_E zp_P zt_tf zt_fd X (d + 1) zm_355 162 [(0, .ref 61), (2, .int x2), (3, .int x3)] [] (mH h s) Q := by
  refine zz_E.n 163 rfl rfl rfl ?_
  refine zz_E.n 164 rfl rfl rfl ?_
  refine zz_E.n 165 rfl rfl rfl ?_
  refine zz_E.n 166 rfl rfl rfl ?_
  refine zz_E.n 167 rfl rfl rfl ?_
  refine mE_cv hh 170 (as := [.ref 61, .ref 61]) rfl rfl (Nat.le_of_ble_eq_true rfl) (Nat.le_of_ble_eq_true rfl) rfl (Nat.le_of_ble_eq_true rfl) rfl ?_
  refine zz_E.mono k ?_
  intro v h' hE
  exact zz_E.weak hE rfl ⟨rfl, rfl, rfl, trivial⟩
theorem mb_355_170 {X : Nat → Option zz_C} {h : zz_H} (hh : 111 ≤ h.length) {s : mS} {d : Nat} {Q : Option Value → zz_H → Prop} {x2 : Int32} {x3 : Int32} {y2 : Int32} (k : zz_E zp_P zt_tf zt_fd X d zm_77 0 [(0, .ref 61), (1, .int y2)] [] (mH h s) (fun v h' => zz_E zp_P zt_tf zt_fd X (d + 1) zm_355 173 [(0, .ref 61), (2, .int x2), (3, .int x3)] (v.toList ++ [.ref 61]) h' Q)) : zz_E zp_P zt_tf zt_fd X (d + 1) zm_355 170 [(0, .ref 61), (2, .int x2), (3, .int x3)] [.int y2, .ref 61, .ref 61] (mH h s) Q := by
  refine mE_cv hh 173 (as := [.ref 61]) rfl rfl (Nat.le_of_ble_eq_true rfl) (Nat.le_of_ble_eq_true rfl) rfl (Nat.le_of_ble_eq_true rfl) rfl ?_
  refine zz_E.mono k ?_
  intro v h' hE
  exact zz_E.weak hE rfl ⟨rfl, rfl, rfl, trivial⟩
theorem mb_355_173 {X : Nat → Option zz_C} {h : zz_H} (hh : 111 ≤ h.length) {s : mS} {d : Nat} {Q : Option Value → zz_H → Prop} {x2 : Int32} {x3 : Int32} {y1 : Int32} (k : zz_E zp_P zt_tf zt_fd X d zm_87 0 [(0, .ref 61), (1, .int y1)] [] (mH h s) (fun v h' => zz_E zp_P zt_tf zt_fd X (d + 1) zm_355 176 [(0, .ref 61), (2, .int x2), (3, .int x3)] (v.toList ++ []) h' Q)) : zz_E zp_P zt_tf zt_fd X (d + 1) zm_355 173 [(0, .ref 61), (2, .int x2), (3, .int x3)] [.int y1, .ref 61] (mH h s) Q := by
  refine mE_cv hh 176 (as := []) rfl rfl (Nat.le_of_ble_eq_true rfl) (Nat.le_of_ble_eq_true rfl) rfl (Nat.le_of_ble_eq_true rfl) rfl ?_
  refine zz_E.mono k ?_
  intro v h' hE
  exact zz_E.weak hE rfl ⟨rfl, rfl, rfl, trivial⟩
theorem mb_355_176 {X : Nat → Option zz_C} {h : zz_H} (hh : 111 ≤ h.length) {s : mS} {d : Nat} {Q : Option Value → zz_H → Prop} {x2 : Int32} {x3 : Int32} (k : zz_E zp_P zt_tf zt_fd X d zm_294 0 [(0, .ref 61), (1, .int x2), (2, .int x3)] [] (mH h s) (fun v h' => zz_E zp_P zt_tf zt_fd X (d + 1) zm_355 183 [(0, .ref 61)] (v.toList ++ [.ref 61]) h' Q)) : zz_E zp_P zt_tf zt_fd X (d + 1) zm_355 176 [(0, .ref 61), (2, .int x2), (3, .int x3)] [] (mH h s) Q := by
  refine zz_E.n 177 rfl rfl rfl ?_
  refine zz_E.n 178 rfl rfl rfl ?_
  refine zz_E.n 179 rfl rfl rfl ?_
  refine zz_E.n 180 rfl rfl rfl ?_
  refine mE_cv hh 183 (as := [.ref 61]) rfl rfl (Nat.le_of_ble_eq_true rfl) (Nat.le_of_ble_eq_true rfl) rfl (Nat.le_of_ble_eq_true rfl) rfl ?_
  refine zz_E.mono k ?_
  intro v h' hE
  exact zz_E.weak hE rfl ⟨rfl, trivial⟩
theorem mb_355_183 {X : Nat → Option zz_C} {h : zz_H} (hh : 111 ≤ h.length) {s : mS} {d : Nat} {Q : Option Value → zz_H → Prop} {y1 : Int32} (k : zz_E zp_P zt_tf zt_fd X d zm_296 0 [(0, .ref 61), (1, .int y1), (2, .int 0)] [] (mH h s) (fun v h' => zz_E zp_P zt_tf zt_fd X (d + 1) zm_355 187 [(0, .ref 61)] (v.toList ++ []) h' Q)) : zz_E zp_P zt_tf zt_fd X (d + 1) zm_355 183 [(0, .ref 61)] [.int y1, .ref 61] (mH h s) Q := by
  refine zz_E.c 184 (.int 0) rfl rfl rfl rfl ?_
  refine mE_cv hh 187 (as := []) rfl rfl (Nat.le_of_ble_eq_true rfl) (Nat.le_of_ble_eq_true rfl) rfl (Nat.le_of_ble_eq_true rfl) rfl ?_
  refine zz_E.mono k ?_
  intro v h' hE
  exact zz_E.weak hE rfl ⟨rfl, trivial⟩
theorem mb_355_187 {X : Nat → Option zz_C} {h : zz_H} (hh : 111 ≤ h.length) {s : mS} {d : Nat} {Q : Option Value → zz_H → Prop}  (k : zz_E zp_P zt_tf zt_fd X d zm_355 200 [(0, .ref 61)] [] (mH h s) Q) : zz_E zp_P zt_tf zt_fd X d zm_355 187 [(0, .ref 61)] [] (mH h s) Q := by
  refine zz_E.n 200 rfl rfl rfl ?_
  exact zz_E.weak k rfl ⟨rfl, trivial⟩
theorem mb_355_190 {X : Nat → Option zz_C} {h : zz_H} (hh : 111 ≤ h.length) {s : mS} {d : Nat} {Q : Option Value → zz_H → Prop} {x2 : Int32} {x3 : Int32} (k : zz_E zp_P zt_tf zt_fd X d zm_294 0 [(0, .ref 61), (1, .int x2), (2, .int x3)] [] (mH h s) (fun v h' => zz_E zp_P zt_tf zt_fd X (d + 1) zm_355 197 [(0, .ref 61)] (v.toList ++ [.ref 61]) h' Q)) : zz_E zp_P zt_tf zt_fd X (d + 1) zm_355 190 [(0, .ref 61), (2, .int x2), (3, .int x3)] [] (mH h s) Q := by
  refine zz_E.n 191 rfl rfl rfl ?_
  refine zz_E.n 192 rfl rfl rfl ?_
  refine zz_E.n 193 rfl rfl rfl ?_
  refine zz_E.n 194 rfl rfl rfl ?_
  refine mE_cv hh 197 (as := [.ref 61]) rfl rfl (Nat.le_of_ble_eq_true rfl) (Nat.le_of_ble_eq_true rfl) rfl (Nat.le_of_ble_eq_true rfl) rfl ?_
  refine zz_E.mono k ?_
  intro v h' hE
  exact zz_E.weak hE rfl ⟨rfl, trivial⟩
theorem mb_355_197 {X : Nat → Option zz_C} {h : zz_H} (hh : 111 ≤ h.length) {s : mS} {d : Nat} {Q : Option Value → zz_H → Prop} {y1 : Int32} (k : zz_E zp_P zt_tf zt_fd X d zm_354 0 [(0, .ref 61), (1, .int y1)] [] (mH h s) (fun v h' => zz_E zp_P zt_tf zt_fd X (d + 1) zm_355 200 [(0, .ref 61)] (v.toList ++ []) h' Q)) : zz_E zp_P zt_tf zt_fd X (d + 1) zm_355 197 [(0, .ref 61)] [.int y1, .ref 61] (mH h s) Q := by
  refine mE_cv hh 200 (as := []) rfl rfl (Nat.le_of_ble_eq_true rfl) (Nat.le_of_ble_eq_true rfl) rfl (Nat.le_of_ble_eq_true rfl) rfl ?_
  refine zz_E.mono k ?_
  intro v h' hE
  exact zz_E.weak hE rfl ⟨rfl, trivial⟩
theorem mb_355_200 {X : Nat → Option zz_C} {h : zz_H} (hh : 111 ≤ h.length) {s : mS} {d : Nat} {Q : Option Value → zz_H → Prop}  (k : zz_E zp_P zt_tf zt_fd X d zm_355 41 [(0, .ref 61)] [] (mH h s) Q) : zz_E zp_P zt_tf zt_fd X d zm_355 200 [(0, .ref 61)] [] (mH h s) Q := by
  refine zz_E.n 41 rfl rfl rfl ?_
  exact zz_E.weak k rfl ⟨rfl, trivial⟩
theorem mb_355_203 {X : Nat → Option zz_C} {h : zz_H} (hh : 111 ≤ h.length) {s : mS} {d : Nat} {Q : Option Value → zz_H → Prop}  (k : Q none (mH h s)) : zz_E zp_P zt_tf zt_fd X d zm_355 203 [] [] (mH h s) Q := by
  refine zz_E.ret rfl rfl rfl ?_
  exact k
def mf_355_203 (N : Nat)  (s : mS) : mO := some (s, none)
theorem mr_355_203 {X : Nat → Option zz_C} {h : zz_H} (hh : 111 ≤ h.length) {d : Nat} {N : Nat} {Q : Option Value → zz_H → Prop}  {s s' : mS} {v : Option Value} (hf : mf_355_203 N  s = some (s', v)) (k : Q v (mH h s')) : zz_E zp_P zt_tf zt_fd X (d + 3) zm_355 203 [] [] (mH h s) Q := by
  unfold mf_355_203 at hf
  cases hf
  exact mb_355_203 hh  k
def mf_355_81 (N : Nat) (rc : Nat → mS → mO)  (s : mS) : mO := rc 0  (mI s 55 ((s.1 55) - 1))
theorem mr_355_81 {X : Nat → Option zz_C} {h : zz_H} (hh : 111 ≤ h.length) {d : Nat} {N : Nat} {rc : Nat → mS → mO} (hrc0 : ∀ {Q : Option Value → zz_H → Prop}  {s s' : mS} {v : Option Value}, rc 0  s = some (s', v) → Q v (mH h s') → zz_E zp_P zt_tf zt_fd X (d + 3) zm_355 41 [(0, .ref 61)] [] (mH h s) Q) {Q : Option Value → zz_H → Prop}  {s s' : mS} {v : Option Value} (hf : mf_355_81 N rc  s = some (s', v)) (k : Q v (mH h s')) : zz_E zp_P zt_tf zt_fd X (d + 3) zm_355 81 [(0, .ref 61)] [] (mH h s) Q := by
  unfold mf_355_81 at hf
  exact mb_355_81 hh  (hrc0 hf k)
def mf_355_200 (N : Nat) (rc : Nat → mS → mO)  (s : mS) : mO := rc 0  s
theorem mr_355_200 {X : Nat → Option zz_C} {h : zz_H} (hh : 111 ≤ h.length) {d : Nat} {N : Nat} {rc : Nat → mS → mO} (hrc0 : ∀ {Q : Option Value → zz_H → Prop}  {s s' : mS} {v : Option Value}, rc 0  s = some (s', v) → Q v (mH h s') → zz_E zp_P zt_tf zt_fd X (d + 3) zm_355 41 [(0, .ref 61)] [] (mH h s) Q) {Q : Option Value → zz_H → Prop}  {s s' : mS} {v : Option Value} (hf : mf_355_200 N rc  s = some (s', v)) (k : Q v (mH h s')) : zz_E zp_P zt_tf zt_fd X (d + 3) zm_355 200 [(0, .ref 61)] [] (mH h s) Q := by
  unfold mf_355_200 at hf
  exact mb_355_200 hh  (hrc0 hf k)
def mf_355_139 (N : Nat) (rc : Nat → mS → mO)  (s : mS) : mO := mf_355_200 N rc  s
theorem mr_355_139 {X : Nat → Option zz_C} {h : zz_H} (hh : 111 ≤ h.length) {d : Nat} {N : Nat} {rc : Nat → mS → mO} (hrc0 : ∀ {Q : Option Value → zz_H → Prop}  {s s' : mS} {v : Option Value}, rc 0  s = some (s', v) → Q v (mH h s') → zz_E zp_P zt_tf zt_fd X (d + 3) zm_355 41 [(0, .ref 61)] [] (mH h s) Q) {Q : Option Value → zz_H → Prop}  {s s' : mS} {v : Option Value} (hf : mf_355_139 N rc  s = some (s', v)) (k : Q v (mH h s')) : zz_E zp_P zt_tf zt_fd X (d + 3) zm_355 139 [(0, .ref 61)] [] (mH h s) Q := by
  unfold mf_355_139 at hf
  exact mb_355_139 hh  (mr_355_200 hh hrc0 hf k)
def mf_355_123 (N : Nat) (rc : Nat → mS → mO) (x2 : Int32) (x3 : Int32) (s : mS) : mO := if ¬ (((x2 + 3) + (2 * x3)) < 0 ∨ 166300 ≤ Int32.toNatClampNeg ((x2 + 3) + (2 * x3))) then (mo_bv (mf_87 N ((s.2.2.1 47) (Int32.toNatClampNeg ((x2 + 3) + (2 * x3)))) s) (fun s1 => mf_355_139 N rc  s1)) else none
theorem mr_355_123 {X : Nat → Option zz_C} {h : zz_H} (hh : 111 ≤ h.length) {d : Nat} {N : Nat} {rc : Nat → mS → mO} (hrc0 : ∀ {Q : Option Value → zz_H → Prop}  {s s' : mS} {v : Option Value}, rc 0  s = some (s', v) → Q v (mH h s') → zz_E zp_P zt_tf zt_fd X (d + 3) zm_355 41 [(0, .ref 61)] [] (mH h s) Q) {Q : Option Value → zz_H → Prop} {x2 : Int32} {x3 : Int32} {s s' : mS} {v : Option Value} (hf : mf_355_123 N rc x2 x3 s = some (s', v)) (k : Q v (mH h s')) : zz_E zp_P zt_tf zt_fd X (d + 3) zm_355 123 [(0, .ref 61), (2, .int x2), (3, .int x3)] [] (mH h s) Q := by
  unfold mf_355_123 at hf
  obtain ⟨q0, hf⟩ := mo_if hf
  obtain ⟨s1, e, hf⟩ := mo_bv_ok hf
  exact mb_355_123 (d := d + 2) hh q0 (mr_87 (d := d + 2) hh e (mr_355_139 hh hrc0 hf k))
def mf_355_118 (N : Nat) (rc : Nat → mS → mO) (x2 : Int32) (x3 : Int32) (s : mS) : mO := mo_bv (mf_87 N 0 s) (fun s1 => mf_355_123 N rc x2 x3 s1)
theorem mr_355_118 {X : Nat → Option zz_C} {h : zz_H} (hh : 111 ≤ h.length) {d : Nat} {N : Nat} {rc : Nat → mS → mO} (hrc0 : ∀ {Q : Option Value → zz_H → Prop}  {s s' : mS} {v : Option Value}, rc 0  s = some (s', v) → Q v (mH h s') → zz_E zp_P zt_tf zt_fd X (d + 3) zm_355 41 [(0, .ref 61)] [] (mH h s) Q) {Q : Option Value → zz_H → Prop} {x2 : Int32} {x3 : Int32} {s s' : mS} {v : Option Value} (hf : mf_355_118 N rc x2 x3 s = some (s', v)) (k : Q v (mH h s')) : zz_E zp_P zt_tf zt_fd X (d + 3) zm_355 118 [(0, .ref 61), (2, .int x2), (3, .int x3)] [] (mH h s) Q := by
  unfold mf_355_118 at hf
  obtain ⟨s1, e, hf⟩ := mo_bv_ok hf
  exact mb_355_118 (d := d + 2) hh  (mr_87 (d := d + 2) hh e (mr_355_123 hh hrc0 hf k))
def mf_355_187 (N : Nat) (rc : Nat → mS → mO)  (s : mS) : mO := mf_355_200 N rc  s
theorem mr_355_187 {X : Nat → Option zz_C} {h : zz_H} (hh : 111 ≤ h.length) {d : Nat} {N : Nat} {rc : Nat → mS → mO} (hrc0 : ∀ {Q : Option Value → zz_H → Prop}  {s s' : mS} {v : Option Value}, rc 0  s = some (s', v) → Q v (mH h s') → zz_E zp_P zt_tf zt_fd X (d + 3) zm_355 41 [(0, .ref 61)] [] (mH h s) Q) {Q : Option Value → zz_H → Prop}  {s s' : mS} {v : Option Value} (hf : mf_355_187 N rc  s = some (s', v)) (k : Q v (mH h s')) : zz_E zp_P zt_tf zt_fd X (d + 3) zm_355 187 [(0, .ref 61)] [] (mH h s) Q := by
  unfold mf_355_187 at hf
  exact mb_355_187 hh  (mr_355_200 hh hrc0 hf k)
def mf_355_183 (N : Nat) (rc : Nat → mS → mO) (y1 : Int32) (s : mS) : mO := mo_bv (mf_296 N y1 0 s) (fun s1 => mf_355_187 N rc  s1)
theorem mr_355_183 {X : Nat → Option zz_C} {h : zz_H} (hh : 111 ≤ h.length) {d : Nat} {N : Nat} {rc : Nat → mS → mO} (hrc0 : ∀ {Q : Option Value → zz_H → Prop}  {s s' : mS} {v : Option Value}, rc 0  s = some (s', v) → Q v (mH h s') → zz_E zp_P zt_tf zt_fd X (d + 3) zm_355 41 [(0, .ref 61)] [] (mH h s) Q) {Q : Option Value → zz_H → Prop} {y1 : Int32} {s s' : mS} {v : Option Value} (hf : mf_355_183 N rc y1 s = some (s', v)) (k : Q v (mH h s')) : zz_E zp_P zt_tf zt_fd X (d + 3) zm_355 183 [(0, .ref 61)] [.int y1, .ref 61] (mH h s) Q := by
  unfold mf_355_183 at hf
  obtain ⟨s1, e, hf⟩ := mo_bv_ok hf
  exact mb_355_183 (d := d + 2) hh  (mr_296 (d := d + 2) hh e (mr_355_187 hh hrc0 hf k))
def mf_355_176 (N : Nat) (rc : Nat → mS → mO) (x2 : Int32) (x3 : Int32) (s : mS) : mO := mo_bi (mf_294 N x2 x3 s) (fun s1 y => mf_355_183 N rc y s1)
theorem mr_355_176 {X : Nat → Option zz_C} {h : zz_H} (hh : 111 ≤ h.length) {d : Nat} {N : Nat} {rc : Nat → mS → mO} (hrc0 : ∀ {Q : Option Value → zz_H → Prop}  {s s' : mS} {v : Option Value}, rc 0  s = some (s', v) → Q v (mH h s') → zz_E zp_P zt_tf zt_fd X (d + 3) zm_355 41 [(0, .ref 61)] [] (mH h s) Q) {Q : Option Value → zz_H → Prop} {x2 : Int32} {x3 : Int32} {s s' : mS} {v : Option Value} (hf : mf_355_176 N rc x2 x3 s = some (s', v)) (k : Q v (mH h s')) : zz_E zp_P zt_tf zt_fd X (d + 3) zm_355 176 [(0, .ref 61), (2, .int x2), (3, .int x3)] [] (mH h s) Q := by
  unfold mf_355_176 at hf
  obtain ⟨s1, y, e, hf⟩ := mo_bi_ok hf
  exact mb_355_176 (d := d + 2) hh  (mr_294 (d := d + 2) hh e (mr_355_183 hh hrc0 hf k))
def mf_355_173 (N : Nat) (rc : Nat → mS → mO) (x2 : Int32) (x3 : Int32) (y1 : Int32) (s : mS) : mO := mo_bv (mf_87 N y1 s) (fun s1 => mf_355_176 N rc x2 x3 s1)
theorem mr_355_173 {X : Nat → Option zz_C} {h : zz_H} (hh : 111 ≤ h.length) {d : Nat} {N : Nat} {rc : Nat → mS → mO} (hrc0 : ∀ {Q : Option Value → zz_H → Prop}  {s s' : mS} {v : Option Value}, rc 0  s = some (s', v) → Q v (mH h s') → zz_E zp_P zt_tf zt_fd X (d + 3) zm_355 41 [(0, .ref 61)] [] (mH h s) Q) {Q : Option Value → zz_H → Prop} {x2 : Int32} {x3 : Int32} {y1 : Int32} {s s' : mS} {v : Option Value} (hf : mf_355_173 N rc x2 x3 y1 s = some (s', v)) (k : Q v (mH h s')) : zz_E zp_P zt_tf zt_fd X (d + 3) zm_355 173 [(0, .ref 61), (2, .int x2), (3, .int x3)] [.int y1, .ref 61] (mH h s) Q := by
  unfold mf_355_173 at hf
  obtain ⟨s1, e, hf⟩ := mo_bv_ok hf
  exact mb_355_173 (d := d + 2) hh  (mr_87 (d := d + 2) hh e (mr_355_176 hh hrc0 hf k))
def mf_355_170 (N : Nat) (rc : Nat → mS → mO) (x2 : Int32) (x3 : Int32) (y2 : Int32) (s : mS) : mO := mo_bi (mf_77 N y2 s) (fun s1 y => mf_355_173 N rc x2 x3 y s1)
theorem mr_355_170 {X : Nat → Option zz_C} {h : zz_H} (hh : 111 ≤ h.length) {d : Nat} {N : Nat} {rc : Nat → mS → mO} (hrc0 : ∀ {Q : Option Value → zz_H → Prop}  {s s' : mS} {v : Option Value}, rc 0  s = some (s', v) → Q v (mH h s') → zz_E zp_P zt_tf zt_fd X (d + 3) zm_355 41 [(0, .ref 61)] [] (mH h s) Q) {Q : Option Value → zz_H → Prop} {x2 : Int32} {x3 : Int32} {y2 : Int32} {s s' : mS} {v : Option Value} (hf : mf_355_170 N rc x2 x3 y2 s = some (s', v)) (k : Q v (mH h s')) : zz_E zp_P zt_tf zt_fd X (d + 3) zm_355 170 [(0, .ref 61), (2, .int x2), (3, .int x3)] [.int y2, .ref 61, .ref 61] (mH h s) Q := by
  unfold mf_355_170 at hf
  obtain ⟨s1, y, e, hf⟩ := mo_bi_ok hf
  exact mb_355_170 (d := d + 2) hh  (mr_77 (d := d + 2) hh e (mr_355_173 hh hrc0 hf k))
def mf_355_162 (N : Nat) (rc : Nat → mS → mO) (x2 : Int32) (x3 : Int32) (s : mS) : mO := mo_bi (mf_294 N x2 x3 s) (fun s1 y => mf_355_170 N rc x2 x3 y s1)
theorem mr_355_162 {X : Nat → Option zz_C} {h : zz_H} (hh : 111 ≤ h.length) {d : Nat} {N : Nat} {rc : Nat → mS → mO} (hrc0 : ∀ {Q : Option Value → zz_H → Prop}  {s s' : mS} {v : Option Value}, rc 0  s = some (s', v) → Q v (mH h s') → zz_E zp_P zt_tf zt_fd X (d + 3) zm_355 41 [(0, .ref 61)] [] (mH h s) Q) {Q : Option Value → zz_H → Prop} {x2 : Int32} {x3 : Int32} {s s' : mS} {v : Option Value} (hf : mf_355_162 N rc x2 x3 s = some (s', v)) (k : Q v (mH h s')) : zz_E zp_P zt_tf zt_fd X (d + 3) zm_355 162 [(0, .ref 61), (2, .int x2), (3, .int x3)] [] (mH h s) Q := by
  unfold mf_355_162 at hf
  obtain ⟨s1, y, e, hf⟩ := mo_bi_ok hf
  exact mb_355_162 (d := d + 2) hh  (mr_294 (d := d + 2) hh e (mr_355_170 hh hrc0 hf k))
def mf_355_157 (N : Nat) (rc : Nat → mS → mO) (x2 : Int32) (x3 : Int32) (s : mS) : mO := mo_bv (mf_87 N 3 s) (fun s1 => mf_355_162 N rc x2 x3 s1)
theorem mr_355_157 {X : Nat → Option zz_C} {h : zz_H} (hh : 111 ≤ h.length) {d : Nat} {N : Nat} {rc : Nat → mS → mO} (hrc0 : ∀ {Q : Option Value → zz_H → Prop}  {s s' : mS} {v : Option Value}, rc 0  s = some (s', v) → Q v (mH h s') → zz_E zp_P zt_tf zt_fd X (d + 3) zm_355 41 [(0, .ref 61)] [] (mH h s) Q) {Q : Option Value → zz_H → Prop} {x2 : Int32} {x3 : Int32} {s s' : mS} {v : Option Value} (hf : mf_355_157 N rc x2 x3 s = some (s', v)) (k : Q v (mH h s')) : zz_E zp_P zt_tf zt_fd X (d + 3) zm_355 157 [(0, .ref 61), (2, .int x2), (3, .int x3)] [] (mH h s) Q := by
  unfold mf_355_157 at hf
  obtain ⟨s1, e, hf⟩ := mo_bv_ok hf
  exact mb_355_157 (d := d + 2) hh  (mr_87 (d := d + 2) hh e (mr_355_162 hh hrc0 hf k))
def mf_355_197 (N : Nat) (rc : Nat → mS → mO) (y1 : Int32) (s : mS) : mO := mo_bv (mf_354 N y1 s) (fun s1 => mf_355_200 N rc  s1)
theorem mr_355_197 {X : Nat → Option zz_C} {h : zz_H} (hh : 111 ≤ h.length) {d : Nat} {N : Nat} {rc : Nat → mS → mO} (hrc0 : ∀ {Q : Option Value → zz_H → Prop}  {s s' : mS} {v : Option Value}, rc 0  s = some (s', v) → Q v (mH h s') → zz_E zp_P zt_tf zt_fd X (d + 3) zm_355 41 [(0, .ref 61)] [] (mH h s) Q) {Q : Option Value → zz_H → Prop} {y1 : Int32} {s s' : mS} {v : Option Value} (hf : mf_355_197 N rc y1 s = some (s', v)) (k : Q v (mH h s')) : zz_E zp_P zt_tf zt_fd X (d + 3) zm_355 197 [(0, .ref 61)] [.int y1, .ref 61] (mH h s) Q := by
  unfold mf_355_197 at hf
  obtain ⟨s1, e, hf⟩ := mo_bv_ok hf
  exact mb_355_197 (d := d + 2) hh  (mr_354 (d := d + 0) hh e (mr_355_200 hh hrc0 hf k))
def mf_355_190 (N : Nat) (rc : Nat → mS → mO) (x2 : Int32) (x3 : Int32) (s : mS) : mO := mo_bi (mf_294 N x2 x3 s) (fun s1 y => mf_355_197 N rc y s1)
theorem mr_355_190 {X : Nat → Option zz_C} {h : zz_H} (hh : 111 ≤ h.length) {d : Nat} {N : Nat} {rc : Nat → mS → mO} (hrc0 : ∀ {Q : Option Value → zz_H → Prop}  {s s' : mS} {v : Option Value}, rc 0  s = some (s', v) → Q v (mH h s') → zz_E zp_P zt_tf zt_fd X (d + 3) zm_355 41 [(0, .ref 61)] [] (mH h s) Q) {Q : Option Value → zz_H → Prop} {x2 : Int32} {x3 : Int32} {s s' : mS} {v : Option Value} (hf : mf_355_190 N rc x2 x3 s = some (s', v)) (k : Q v (mH h s')) : zz_E zp_P zt_tf zt_fd X (d + 3) zm_355 190 [(0, .ref 61), (2, .int x2), (3, .int x3)] [] (mH h s) Q := by
  unfold mf_355_190 at hf
  obtain ⟨s1, y, e, hf⟩ := mo_bi_ok hf
  exact mb_355_190 (d := d + 2) hh  (mr_294 (d := d + 2) hh e (mr_355_197 hh hrc0 hf k))
def mf_355_152 (N : Nat) (rc : Nat → mS → mO) (x2 : Int32) (x3 : Int32) (y1 : Int32) (s : mS) : mO := if ¬ (y1 < 0 ∨ 166300 ≤ Int32.toNatClampNeg y1) then (if ¬ ((s.2.2.1 47) (Int32.toNatClampNeg y1)) = 3 then mf_355_190 N rc x2 x3 s else mf_355_157 N rc x2 x3 s) else none
theorem mr_355_152 {X : Nat → Option zz_C} {h : zz_H} (hh : 111 ≤ h.length) {d : Nat} {N : Nat} {rc : Nat → mS → mO} (hrc0 : ∀ {Q : Option Value → zz_H → Prop}  {s s' : mS} {v : Option Value}, rc 0  s = some (s', v) → Q v (mH h s') → zz_E zp_P zt_tf zt_fd X (d + 3) zm_355 41 [(0, .ref 61)] [] (mH h s) Q) {Q : Option Value → zz_H → Prop} {x2 : Int32} {x3 : Int32} {y1 : Int32} {s s' : mS} {v : Option Value} (hf : mf_355_152 N rc x2 x3 y1 s = some (s', v)) (k : Q v (mH h s')) : zz_E zp_P zt_tf zt_fd X (d + 3) zm_355 152 [(0, .ref 61), (2, .int x2), (3, .int x3)] [.int y1, .ref 89] (mH h s) Q := by
  unfold mf_355_152 at hf
  obtain ⟨q0, hf⟩ := mo_if hf
  refine mb_355_152 hh q0 (fun c => ?_) (fun c => ?_)
  · rw [if_pos c] at hf
    exact mr_355_190 hh hrc0 hf k
  · rw [if_neg c] at hf
    exact mr_355_157 hh hrc0 hf k
def mf_355_142 (N : Nat) (rc : Nat → mS → mO) (x2 : Int32) (x3 : Int32) (s : mS) : mO := mo_bi (mf_294 N x2 x3 s) (fun s1 y => mf_355_152 N rc x2 x3 y s1)
theorem mr_355_142 {X : Nat → Option zz_C} {h : zz_H} (hh : 111 ≤ h.length) {d : Nat} {N : Nat} {rc : Nat → mS → mO} (hrc0 : ∀ {Q : Option Value → zz_H → Prop}  {s s' : mS} {v : Option Value}, rc 0  s = some (s', v) → Q v (mH h s') → zz_E zp_P zt_tf zt_fd X (d + 3) zm_355 41 [(0, .ref 61)] [] (mH h s) Q) {Q : Option Value → zz_H → Prop} {x2 : Int32} {x3 : Int32} {s s' : mS} {v : Option Value} (hf : mf_355_142 N rc x2 x3 s = some (s', v)) (k : Q v (mH h s')) : zz_E zp_P zt_tf zt_fd X (d + 3) zm_355 142 [(0, .ref 61), (2, .int x2), (3, .int x3)] [] (mH h s) Q := by
  unfold mf_355_142 at hf
  obtain ⟨s1, y, e, hf⟩ := mo_bi_ok hf
  exact mb_355_142 (d := d + 2) hh  (mr_294 (d := d + 2) hh e (mr_355_152 hh hrc0 hf k))
def mf_355_115 (N : Nat) (rc : Nat → mS → mO) (x2 : Int32) (x3 : Int32) (y0 : Int32) (s : mS) : mO := if y0 = 0 then mf_355_142 N rc x2 x3 s else mf_355_118 N rc x2 x3 s
theorem mr_355_115 {X : Nat → Option zz_C} {h : zz_H} (hh : 111 ≤ h.length) {d : Nat} {N : Nat} {rc : Nat → mS → mO} (hrc0 : ∀ {Q : Option Value → zz_H → Prop}  {s s' : mS} {v : Option Value}, rc 0  s = some (s', v) → Q v (mH h s') → zz_E zp_P zt_tf zt_fd X (d + 3) zm_355 41 [(0, .ref 61)] [] (mH h s) Q) {Q : Option Value → zz_H → Prop} {x2 : Int32} {x3 : Int32} {y0 : Int32} {s s' : mS} {v : Option Value} (hf : mf_355_115 N rc x2 x3 y0 s = some (s', v)) (k : Q v (mH h s')) : zz_E zp_P zt_tf zt_fd X (d + 3) zm_355 115 [(0, .ref 61), (2, .int x2), (3, .int x3)] [.int y0] (mH h s) Q := by
  unfold mf_355_115 at hf
  refine mb_355_115 hh  (fun c => ?_) (fun c => ?_)
  · rw [if_pos c] at hf
    exact mr_355_142 hh hrc0 hf k
  · rw [if_neg c] at hf
    exact mr_355_118 hh hrc0 hf k
def mf_355_94 (N : Nat) (rc : Nat → mS → mO) (x2 : Int32) (x3 : Int32) (s : mS) : mO := if ¬ (((s.1 55) - 1) < 0 ∨ 8 ≤ Int32.toNatClampNeg ((s.1 55) - 1)) then (if ¬ (((s.1 55) - 1) < 0 ∨ 8 ≤ Int32.toNatClampNeg ((s.1 55) - 1)) then (mo_bi (mf_293 N x2 x3 (mA s 54 (upd (s.2.2.1 54) (Int32.toNatClampNeg ((s.1 55) - 1)) (((s.2.2.1 54) (Int32.toNatClampNeg ((s.1 55) - 1))) + 1)))) (fun s1 y => mf_355_115 N rc x2 x3 y s1)) else none) else none
theorem mr_355_94 {X : Nat → Option zz_C} {h : zz_H} (hh : 111 ≤ h.length) {d : Nat} {N : Nat} {rc : Nat → mS → mO} (hrc0 : ∀ {Q : Option Value → zz_H → Prop}  {s s' : mS} {v : Option Value}, rc 0  s = some (s', v) → Q v (mH h s') → zz_E zp_P zt_tf zt_fd X (d + 3) zm_355 41 [(0, .ref 61)] [] (mH h s) Q) {Q : Option Value → zz_H → Prop} {x2 : Int32} {x3 : Int32} {s s' : mS} {v : Option Value} (hf : mf_355_94 N rc x2 x3 s = some (s', v)) (k : Q v (mH h s')) : zz_E zp_P zt_tf zt_fd X (d + 3) zm_355 94 [(0, .ref 61), (2, .int x2), (3, .int x3)] [] (mH h s) Q := by
  unfold mf_355_94 at hf
  obtain ⟨q0, hf⟩ := mo_if hf
  obtain ⟨q1, hf⟩ := mo_if hf
  obtain ⟨s1, y, e, hf⟩ := mo_bi_ok hf
  exact mb_355_94 (d := d + 2) hh q0 q1 (mr_293 (d := d + 2) hh e (mr_355_115 hh hrc0 hf k))
def mf_355_78 (N : Nat) (rc : Nat → mS → mO) (x2 : Int32) (x3 : Int32) (y0 : Int32) (y1 : Int32) (s : mS) : mO := if ¬ y0 = y1 then mf_355_94 N rc x2 x3 s else mf_355_81 N rc  s
theorem mr_355_78 {X : Nat → Option zz_C} {h : zz_H} (hh : 111 ≤ h.length) {d : Nat} {N : Nat} {rc : Nat → mS → mO} (hrc0 : ∀ {Q : Option Value → zz_H → Prop}  {s s' : mS} {v : Option Value}, rc 0  s = some (s', v) → Q v (mH h s') → zz_E zp_P zt_tf zt_fd X (d + 3) zm_355 41 [(0, .ref 61)] [] (mH h s) Q) {Q : Option Value → zz_H → Prop} {x2 : Int32} {x3 : Int32} {y0 : Int32} {y1 : Int32} {s s' : mS} {v : Option Value} (hf : mf_355_78 N rc x2 x3 y0 y1 s = some (s', v)) (k : Q v (mH h s')) : zz_E zp_P zt_tf zt_fd X (d + 3) zm_355 78 [(0, .ref 61), (2, .int x2), (3, .int x3)] [.int y1, .int y0] (mH h s) Q := by
  unfold mf_355_78 at hf
  refine mb_355_78 hh  (fun c => ?_) (fun c => ?_)
  · rw [if_pos c] at hf
    exact mr_355_94 hh hrc0 hf k
  · rw [if_neg c] at hf
    exact mr_355_81 hh hrc0 hf k
def mf_355_48 (N : Nat) (rc : Nat → mS → mO)  (s : mS) : mO := if ¬ (((s.1 55) - 1) < 0 ∨ 8 ≤ Int32.toNatClampNeg ((s.1 55) - 1)) then (if ¬ (((s.1 55) - 1) < 0 ∨ 8 ≤ Int32.toNatClampNeg ((s.1 55) - 1)) then (mo_bi (mf_77 N ((s.2.2.1 52) (Int32.toNatClampNeg ((s.1 55) - 1))) s) (fun s1 y => mf_355_78 N rc ((s.2.2.1 52) (Int32.toNatClampNeg ((s.1 55) - 1))) ((s.2.2.1 54) (Int32.toNatClampNeg ((s.1 55) - 1))) ((s.2.2.1 54) (Int32.toNatClampNeg ((s.1 55) - 1))) y s1)) else none) else none
theorem mr_355_48 {X : Nat → Option zz_C} {h : zz_H} (hh : 111 ≤ h.length) {d : Nat} {N : Nat} {rc : Nat → mS → mO} (hrc0 : ∀ {Q : Option Value → zz_H → Prop}  {s s' : mS} {v : Option Value}, rc 0  s = some (s', v) → Q v (mH h s') → zz_E zp_P zt_tf zt_fd X (d + 3) zm_355 41 [(0, .ref 61)] [] (mH h s) Q) {Q : Option Value → zz_H → Prop}  {s s' : mS} {v : Option Value} (hf : mf_355_48 N rc  s = some (s', v)) (k : Q v (mH h s')) : zz_E zp_P zt_tf zt_fd X (d + 3) zm_355 48 [(0, .ref 61)] [] (mH h s) Q := by
  unfold mf_355_48 at hf
  obtain ⟨q0, hf⟩ := mo_if hf
  obtain ⟨q1, hf⟩ := mo_if hf
  obtain ⟨s1, y, e, hf⟩ := mo_bi_ok hf
  exact mb_355_48 (d := d + 2) hh q0 q1 (mr_77 (d := d + 2) hh e (mr_355_78 hh hrc0 hf k))
def mf_355_41 (N : Nat) (rc : Nat → mS → mO)  (s : mS) : mO := if (s.1 55) ≤ 0 then mf_355_203 N  s else mf_355_48 N rc  s
theorem mr_355_41 {X : Nat → Option zz_C} {h : zz_H} (hh : 111 ≤ h.length) {d : Nat} {N : Nat} {rc : Nat → mS → mO} (hrc0 : ∀ {Q : Option Value → zz_H → Prop}  {s s' : mS} {v : Option Value}, rc 0  s = some (s', v) → Q v (mH h s') → zz_E zp_P zt_tf zt_fd X (d + 3) zm_355 41 [(0, .ref 61)] [] (mH h s) Q) {Q : Option Value → zz_H → Prop}  {s s' : mS} {v : Option Value} (hf : mf_355_41 N rc  s = some (s', v)) (k : Q v (mH h s')) : zz_E zp_P zt_tf zt_fd X (d + 3) zm_355 41 [(0, .ref 61)] [] (mH h s) Q := by
  unfold mf_355_41 at hf
  refine mb_355_41 hh  (fun c => ?_) (fun c => ?_)
  · rw [if_pos c] at hf
    exact mr_355_203 hh hf k
  · rw [if_neg c] at hf
    exact mr_355_48 hh hrc0 hf k
def mf_355_L1 (N : Nat) : Nat → Nat → mS → mO
  | 0, _, _ => none
  | n + 1, l, s => if l = 0 then mf_355_41 N (mf_355_L1 N n)  s else none
theorem mr_355_L1 {X : Nat → Option zz_C} {h : zz_H} (hh : 111 ≤ h.length) {d : Nat} {N : Nat} : ∀ n : Nat, (∀ {Q : Option Value → zz_H → Prop}  {s s' : mS} {v : Option Value}, mf_355_L1 N n 0  s = some (s', v) → Q v (mH h s') → zz_E zp_P zt_tf zt_fd X (d + 3) zm_355 41 [(0, .ref 61)] [] (mH h s) Q) := by
  intro n
  induction n with
  | zero => exact (fun hf _ => by cases hf)
  | succ n ih =>
    have h0 := @ih
    intro Q  s s' v hf k
    unfold mf_355_L1 at hf
    rw [if_pos rfl] at hf
    exact mr_355_41 hh h0 hf k
def mf_355_30 (N : Nat) (x1 : Int32) (s : mS) : mO := mo_bv (mf_296 N x1 0 (mI s 55 0)) (fun s1 => mf_355_L1 N N 0  s1)
theorem mr_355_30 {X : Nat → Option zz_C} {h : zz_H} (hh : 111 ≤ h.length) {d : Nat} {N : Nat} {Q : Option Value → zz_H → Prop} {x1 : Int32} {s s' : mS} {v : Option Value} (hf : mf_355_30 N x1 s = some (s', v)) (k : Q v (mH h s')) : zz_E zp_P zt_tf zt_fd X (d + 3) zm_355 30 [(0, .ref 61), (1, .int x1)] [] (mH h s) Q := by
  unfold mf_355_30 at hf
  obtain ⟨s1, e, hf⟩ := mo_bv_ok hf
  exact mb_355_30 (d := d + 2) hh  (mr_296 (d := d + 2) hh e (mr_355_L1 hh N hf k))
def mf_355_27 (N : Nat) (x1 : Int32) (y1 : Int32) (s : mS) : mO := mo_bv (mf_87 N y1 s) (fun s1 => mf_355_30 N x1 s1)
theorem mr_355_27 {X : Nat → Option zz_C} {h : zz_H} (hh : 111 ≤ h.length) {d : Nat} {N : Nat} {Q : Option Value → zz_H → Prop} {x1 : Int32} {y1 : Int32} {s s' : mS} {v : Option Value} (hf : mf_355_27 N x1 y1 s = some (s', v)) (k : Q v (mH h s')) : zz_E zp_P zt_tf zt_fd X (d + 3) zm_355 27 [(0, .ref 61), (1, .int x1)] [.int y1, .ref 61] (mH h s) Q := by
  unfold mf_355_27 at hf
  obtain ⟨s1, e, hf⟩ := mo_bv_ok hf
  exact mb_355_27 (d := d + 2) hh  (mr_87 (d := d + 2) hh e (mr_355_30 hh hf k))
def mf_355_21 (N : Nat) (x1 : Int32) (s : mS) : mO := mo_bi (mf_77 N x1 s) (fun s1 y => mf_355_27 N x1 y s1)
theorem mr_355_21 {X : Nat → Option zz_C} {h : zz_H} (hh : 111 ≤ h.length) {d : Nat} {N : Nat} {Q : Option Value → zz_H → Prop} {x1 : Int32} {s s' : mS} {v : Option Value} (hf : mf_355_21 N x1 s = some (s', v)) (k : Q v (mH h s')) : zz_E zp_P zt_tf zt_fd X (d + 3) zm_355 21 [(0, .ref 61), (1, .int x1)] [] (mH h s) Q := by
  unfold mf_355_21 at hf
  obtain ⟨s1, y, e, hf⟩ := mo_bi_ok hf
  exact mb_355_21 (d := d + 2) hh  (mr_77 (d := d + 2) hh e (mr_355_27 hh hf k))
def mf_355_16 (N : Nat) (x1 : Int32) (s : mS) : mO := mo_bv (mf_87 N 3 s) (fun s1 => mf_355_21 N x1 s1)
theorem mr_355_16 {X : Nat → Option zz_C} {h : zz_H} (hh : 111 ≤ h.length) {d : Nat} {N : Nat} {Q : Option Value → zz_H → Prop} {x1 : Int32} {s s' : mS} {v : Option Value} (hf : mf_355_16 N x1 s = some (s', v)) (k : Q v (mH h s')) : zz_E zp_P zt_tf zt_fd X (d + 3) zm_355 16 [(0, .ref 61), (1, .int x1)] [] (mH h s) Q := by
  unfold mf_355_16 at hf
  obtain ⟨s1, e, hf⟩ := mo_bv_ok hf
  exact mb_355_16 (d := d + 2) hh  (mr_87 (d := d + 2) hh e (mr_355_21 hh hf k))
def mf_355_15 (N : Nat)  (s : mS) : mO := some (s, none)
theorem mr_355_15 {X : Nat → Option zz_C} {h : zz_H} (hh : 111 ≤ h.length) {d : Nat} {N : Nat} {Q : Option Value → zz_H → Prop}  {s s' : mS} {v : Option Value} (hf : mf_355_15 N  s = some (s', v)) (k : Q v (mH h s')) : zz_E zp_P zt_tf zt_fd X (d + 3) zm_355 15 [] [] (mH h s) Q := by
  unfold mf_355_15 at hf
  cases hf
  exact mb_355_15 hh  k
def mf_355_10 (N : Nat) (x1 : Int32) (s : mS) : mO := mo_bv (mf_354 N x1 s) (fun s1 => mf_355_15 N  s1)
theorem mr_355_10 {X : Nat → Option zz_C} {h : zz_H} (hh : 111 ≤ h.length) {d : Nat} {N : Nat} {Q : Option Value → zz_H → Prop} {x1 : Int32} {s s' : mS} {v : Option Value} (hf : mf_355_10 N x1 s = some (s', v)) (k : Q v (mH h s')) : zz_E zp_P zt_tf zt_fd X (d + 3) zm_355 10 [(0, .ref 61), (1, .int x1)] [] (mH h s) Q := by
  unfold mf_355_10 at hf
  obtain ⟨s1, e, hf⟩ := mo_bv_ok hf
  exact mb_355_10 (d := d + 2) hh  (mr_354 (d := d + 0) hh e (mr_355_15 hh hf k))
def mf_355_0 (N : Nat) (x1 : Int32) (s : mS) : mO := if ¬ (x1 < 0 ∨ 166300 ≤ Int32.toNatClampNeg x1) then (if ((s.2.2.1 47) (Int32.toNatClampNeg x1)) = 3 then mf_355_16 N x1 s else mf_355_10 N x1 s) else none
theorem mr_355_0 {X : Nat → Option zz_C} {h : zz_H} (hh : 111 ≤ h.length) {d : Nat} {N : Nat} {Q : Option Value → zz_H → Prop} {x1 : Int32} {s s' : mS} {v : Option Value} (hf : mf_355_0 N x1 s = some (s', v)) (k : Q v (mH h s')) : zz_E zp_P zt_tf zt_fd X (d + 3) zm_355 0 [(0, .ref 61), (1, .int x1)] [] (mH h s) Q := by
  unfold mf_355_0 at hf
  obtain ⟨q0, hf⟩ := mo_if hf
  refine mb_355_0 hh q0 (fun c => ?_) (fun c => ?_)
  · rw [if_pos c] at hf
    exact mr_355_16 hh hf k
  · rw [if_neg c] at hf
    exact mr_355_10 hh hf k
/-- mixThing -/
def mf_355 (N : Nat) (x1 : Int32) (s : mS) : mO := mf_355_0 N x1 s
theorem mr_355 {X : Nat → Option zz_C} {h : zz_H} (hh : 111 ≤ h.length) {d : Nat} {N : Nat} {Q : Option Value → zz_H → Prop} {x1 : Int32} {s s' : mS} {v : Option Value} (hf : mf_355 N x1 s = some (s', v)) (k : Q v (mH h s')) : zz_E zp_P zt_tf zt_fd X (d + 3) zm_355 0 [(0, .ref 61), (1, .int x1)] [] (mH h s) Q := by
  unfold mf_355 at hf
  exact zz_E.weak (mr_355_0 hh hf k) rfl ⟨rfl, rfl, trivial⟩
/-! sum ()J -/
theorem mb_86_0 {X : Nat → Option zz_C} {h : zz_H} (hh : 111 ≤ h.length) {s : mS} {d : Nat} {Q : Option Value → zz_H → Prop}  (k : zz_E zp_P zt_tf zt_fd X d zm_86 7 [(0, .ref 61), (1, .int 0)] [] (mH h (mL s 89 0)) Q) : zz_E zp_P zt_tf zt_fd X d zm_86 0 [(0, .ref 61)] [] (mH h s) Q := by
  refine zz_E.n 1 rfl rfl rfl ?_
  refine zz_E.c 2 (.long 0) rfl rfl rfl rfl ?_
  refine mE_p hh 5 rfl (by decide) rfl (mF_89 _ _) rfl ?_
  refine zz_E.c 6 (.int 0) rfl rfl rfl rfl ?_
  refine zz_E.n 7 rfl rfl rfl ?_
  exact zz_E.weak k rfl ⟨rfl, rfl, trivial⟩
theorem mb_86_7 {X : Nat → Option zz_C} {h : zz_H} (hh : 111 ≤ h.length) {s : mS} {d : Nat} {Q : Option Value → zz_H → Prop} {x1 : Int32} (k1 : 8 ≤ x1 → zz_E zp_P zt_tf zt_fd X d zm_86 87 [(0, .ref 61)] [] (mH h s) Q) (k2 : ¬ 8 ≤ x1 → zz_E zp_P zt_tf zt_fd X d zm_86 13 [(0, .ref 61), (1, .int x1)] [] (mH h s) Q) : zz_E zp_P zt_tf zt_fd X d zm_86 7 [(0, .ref 61), (1, .int x1)] [] (mH h s) Q := by
  refine zz_E.n 8 rfl rfl rfl ?_
  refine zz_E.c 10 (.int 8) rfl rfl rfl rfl ?_
  refine zz_E.b2 87 13 (A := 8 ≤ x1) rfl rfl (by decide) rfl rfl (fun c => ?_) (fun c => ?_)
  · exact zz_E.weak (k1 c) rfl ⟨rfl, trivial⟩
  · exact zz_E.weak (k2 c) rfl ⟨rfl, rfl, trivial⟩
theorem mb_86_13 {X : Nat → Option zz_C} {h : zz_H} (hh : 111 ≤ h.length) {s : mS} {d : Nat} {Q : Option Value → zz_H → Prop} {x1 : Int32} (i22 : ¬ ((2410 * x1) < 0 ∨ 166300 ≤ Int32.toNatClampNeg (2410 * x1))) (k1 : ¬ ((s.2.2.1 47) (Int32.toNatClampNeg (2410 * x1))) = (-1) → zz_E zp_P zt_tf zt_fd X d zm_86 35 [(0, .ref 61), (1, .int x1)] [] (mH h s) Q) (k2 : ¬ ¬ ((s.2.2.1 47) (Int32.toNatClampNeg (2410 * x1))) = (-1) → zz_E zp_P zt_tf zt_fd X d zm_86 27 [(0, .ref 61), (1, .int x1)] [] (mH h s) Q) : zz_E zp_P zt_tf zt_fd X d zm_86 13 [(0, .ref 61), (1, .int x1)] [] (mH h s) Q := by
  refine zz_E.n 14 rfl rfl rfl ?_
  refine mE_g hh 17 (v := .ref 89) rfl rfl rfl ?_
  refine zz_E.c 20 (.int 2410) rfl rfl rfl rfl ?_
  refine zz_E.n 21 rfl rfl rfl ?_
  refine zz_E.n 22 rfl rfl rfl ?_
  refine mE_ia hh 23 28 (f := (s.2.2.1 47)) rfl (by decide) rfl rfl i22 rfl ?_
  refine zz_E.c 24 (.int (-1)) rfl rfl rfl rfl ?_
  refine zz_E.b2 35 27 (A := ¬ ((s.2.2.1 47) (Int32.toNatClampNeg (2410 * x1))) = (-1)) rfl (zz_cond_ne _ _) (by decide) rfl rfl (fun c => ?_) (fun c => ?_)
  · exact zz_E.weak (k1 c) rfl ⟨rfl, rfl, trivial⟩
  · exact zz_E.weak (k2 c) rfl ⟨rfl, rfl, trivial⟩
theorem mb_86_27 {X : Nat → Option zz_C} {h : zz_H} (hh : 111 ≤ h.length) {s : mS} {d : Nat} {Q : Option Value → zz_H → Prop} {x1 : Int32} (k : zz_E zp_P zt_tf zt_fd X d zm_87 0 [(0, .ref 61), (1, .int (-1))] [] (mH h s) (fun v h' => zz_E zp_P zt_tf zt_fd X (d + 1) zm_86 32 [(0, .ref 61), (1, .int x1)] (v.toList ++ []) h' Q)) : zz_E zp_P zt_tf zt_fd X (d + 1) zm_86 27 [(0, .ref 61), (1, .int x1)] [] (mH h s) Q := by
  refine zz_E.n 28 rfl rfl rfl ?_
  refine zz_E.c 29 (.int (-1)) rfl rfl rfl rfl ?_
  refine mE_cv hh 32 (as := []) rfl rfl (Nat.le_of_ble_eq_true rfl) (Nat.le_of_ble_eq_true rfl) rfl (Nat.le_of_ble_eq_true rfl) rfl ?_
  refine zz_E.mono k ?_
  intro v h' hE
  exact zz_E.weak hE rfl ⟨rfl, rfl, trivial⟩
theorem mb_86_32 {X : Nat → Option zz_C} {h : zz_H} (hh : 111 ≤ h.length) {s : mS} {d : Nat} {Q : Option Value → zz_H → Prop} {x1 : Int32} (k : zz_E zp_P zt_tf zt_fd X d zm_86 81 [(0, .ref 61), (1, .int x1)] [] (mH h s) Q) : zz_E zp_P zt_tf zt_fd X d zm_86 32 [(0, .ref 61), (1, .int x1)] [] (mH h s) Q := by
  refine zz_E.n 81 rfl rfl rfl ?_
  exact zz_E.weak k rfl ⟨rfl, rfl, trivial⟩
theorem mb_86_35 {X : Nat → Option zz_C} {h : zz_H} (hh : 111 ≤ h.length) {s : mS} {d : Nat} {Q : Option Value → zz_H → Prop} {x1 : Int32} (i44 : ¬ ((2410 * x1) < 0 ∨ 166300 ≤ Int32.toNatClampNeg (2410 * x1))) (k1 : ¬ ((s.2.2.1 47) (Int32.toNatClampNeg (2410 * x1))) = 0 → zz_E zp_P zt_tf zt_fd X d zm_86 72 [(0, .ref 61), (1, .int x1)] [] (mH h s) Q) (k2 : ¬ ¬ ((s.2.2.1 47) (Int32.toNatClampNeg (2410 * x1))) = 0 → zz_E zp_P zt_tf zt_fd X d zm_86 48 [(0, .ref 61), (1, .int x1)] [] (mH h s) Q) : zz_E zp_P zt_tf zt_fd X d zm_86 35 [(0, .ref 61), (1, .int x1)] [] (mH h s) Q := by
  refine zz_E.n 36 rfl rfl rfl ?_
  refine mE_g hh 39 (v := .ref 89) rfl rfl rfl ?_
  refine zz_E.c 42 (.int 2410) rfl rfl rfl rfl ?_
  refine zz_E.n 43 rfl rfl rfl ?_
  refine zz_E.n 44 rfl rfl rfl ?_
  refine mE_ia hh 45 28 (f := (s.2.2.1 47)) rfl (by decide) rfl rfl i44 rfl ?_
  refine zz_E.b1 72 48 (A := ¬ ((s.2.2.1 47) (Int32.toNatClampNeg (2410 * x1))) = 0) rfl (zz_cond_ne _ _) (by decide) rfl rfl (fun c => ?_) (fun c => ?_)
  · exact zz_E.weak (k1 c) rfl ⟨rfl, rfl, trivial⟩
  · exact zz_E.weak (k2 c) rfl ⟨rfl, rfl, trivial⟩
theorem mb_86_48 {X : Nat → Option zz_C} {h : zz_H} (hh : 111 ≤ h.length) {s : mS} {d : Nat} {Q : Option Value → zz_H → Prop} {x1 : Int32} (k : zz_E zp_P zt_tf zt_fd X d zm_87 0 [(0, .ref 61), (1, .int 0)] [] (mH h s) (fun v h' => zz_E zp_P zt_tf zt_fd X (d + 1) zm_86 53 [(0, .ref 61), (1, .int x1)] (v.toList ++ []) h' Q)) : zz_E zp_P zt_tf zt_fd X (d + 1) zm_86 48 [(0, .ref 61), (1, .int x1)] [] (mH h s) Q := by
  refine zz_E.n 49 rfl rfl rfl ?_
  refine zz_E.c 50 (.int 0) rfl rfl rfl rfl ?_
  refine mE_cv hh 53 (as := []) rfl rfl (Nat.le_of_ble_eq_true rfl) (Nat.le_of_ble_eq_true rfl) rfl (Nat.le_of_ble_eq_true rfl) rfl ?_
  refine zz_E.mono k ?_
  intro v h' hE
  exact zz_E.weak hE rfl ⟨rfl, rfl, trivial⟩
theorem mb_86_53 {X : Nat → Option zz_C} {h : zz_H} (hh : 111 ≤ h.length) {s : mS} {d : Nat} {Q : Option Value → zz_H → Prop} {x1 : Int32} (i65 : ¬ (((2410 * x1) + 1) < 0 ∨ 166300 ≤ Int32.toNatClampNeg ((2410 * x1) + 1))) (k : zz_E zp_P zt_tf zt_fd X d zm_87 0 [(0, .ref 61), (1, .int ((s.2.2.1 47) (Int32.toNatClampNeg ((2410 * x1) + 1))))] [] (mH h s) (fun v h' => zz_E zp_P zt_tf zt_fd X (d + 1) zm_86 69 [(0, .ref 61), (1, .int x1)] (v.toList ++ []) h' Q)) : zz_E zp_P zt_tf zt_fd X (d + 1) zm_86 53 [(0, .ref 61), (1, .int x1)] [] (mH h s) Q := by
  refine zz_E.n 54 rfl rfl rfl ?_
  refine zz_E.n 55 rfl rfl rfl ?_
  refine mE_g hh 58 (v := .ref 89) rfl rfl rfl ?_
  refine zz_E.c 61 (.int 2410) rfl rfl rfl rfl ?_
  refine zz_E.n 62 rfl rfl rfl ?_
  refine zz_E.n 63 rfl rfl rfl ?_
  refine zz_E.c 64 (.int 1) rfl rfl rfl rfl ?_
  refine zz_E.n 65 rfl rfl rfl ?_
  refine mE_ia hh 66 28 (f := (s.2.2.1 47)) rfl (by decide) rfl rfl i65 rfl ?_
  refine mE_cv hh 69 (as := []) rfl rfl (Nat.le_of_ble_eq_true rfl) (Nat.le_of_ble_eq_true rfl) rfl (Nat.le_of_ble_eq_true rfl) rfl ?_
  refine zz_E.mono k ?_
  intro v h' hE
  exact zz_E.weak hE rfl ⟨rfl, rfl, trivial⟩
theorem mb_86_69 {X : Nat → Option zz_C} {h : zz_H} (hh : 111 ≤ h.length) {s : mS} {d : Nat} {Q : Option Value → zz_H → Prop} {x1 : Int32} (k : zz_E zp_P zt_tf zt_fd X d zm_86 81 [(0, .ref 61), (1, .int x1)] [] (mH h s) Q) : zz_E zp_P zt_tf zt_fd X d zm_86 69 [(0, .ref 61), (1, .int x1)] [] (mH h s) Q := by
  refine zz_E.n 81 rfl rfl rfl ?_
  exact zz_E.weak k rfl ⟨rfl, rfl, trivial⟩
theorem mb_86_72 {X : Nat → Option zz_C} {h : zz_H} (hh : 111 ≤ h.length) {s : mS} {d : Nat} {Q : Option Value → zz_H → Prop} {x1 : Int32} (k : zz_E zp_P zt_tf zt_fd X d zm_355 0 [(0, .ref 61), (1, .int (2410 * x1))] [] (mH h s) (fun v h' => zz_E zp_P zt_tf zt_fd X (d + 1) zm_86 81 [(0, .ref 61), (1, .int x1)] (v.toList ++ []) h' Q)) : zz_E zp_P zt_tf zt_fd X (d + 1) zm_86 72 [(0, .ref 61), (1, .int x1)] [] (mH h s) Q := by
  refine zz_E.n 73 rfl rfl rfl ?_
  refine zz_E.c 76 (.int 2410) rfl rfl rfl rfl ?_
  refine zz_E.n 77 rfl rfl rfl ?_
  refine zz_E.n 78 rfl rfl rfl ?_
  refine mE_cv hh 81 (as := []) rfl rfl (Nat.le_of_ble_eq_true rfl) (Nat.le_of_ble_eq_true rfl) rfl (Nat.le_of_ble_eq_true rfl) rfl ?_
  refine zz_E.mono k ?_
  intro v h' hE
  exact zz_E.weak hE rfl ⟨rfl, rfl, trivial⟩
theorem mb_86_81 {X : Nat → Option zz_C} {h : zz_H} (hh : 111 ≤ h.length) {s : mS} {d : Nat} {Q : Option Value → zz_H → Prop} {x1 : Int32} (k : zz_E zp_P zt_tf zt_fd X d zm_86 7 [(0, .ref 61), (1, .int (x1 + 1))] [] (mH h s) Q) : zz_E zp_P zt_tf zt_fd X d zm_86 81 [(0, .ref 61), (1, .int x1)] [] (mH h s) Q := by
  refine zz_E.n 84 rfl rfl rfl ?_
  refine zz_E.n 7 rfl rfl rfl ?_
  exact zz_E.weak k rfl ⟨rfl, rfl, trivial⟩
theorem mb_86_87 {X : Nat → Option zz_C} {h : zz_H} (hh : 111 ≤ h.length) {s : mS} {d : Nat} {Q : Option Value → zz_H → Prop}  (k : Q (some (.long (s.2.1 89))) (mH h s)) : zz_E zp_P zt_tf zt_fd X d zm_86 87 [(0, .ref 61)] [] (mH h s) Q := by
  refine zz_E.n 88 rfl rfl rfl ?_
  refine mE_g hh 91 (v := .long (s.2.1 89)) rfl rfl rfl ?_
  refine zz_E.ret rfl rfl rfl ?_
  exact k
def mf_86_87 (N : Nat)  (s : mS) : mO := some (s, (some (.long (s.2.1 89))))
theorem mr_86_87 {X : Nat → Option zz_C} {h : zz_H} (hh : 111 ≤ h.length) {d : Nat} {N : Nat} {Q : Option Value → zz_H → Prop}  {s s' : mS} {v : Option Value} (hf : mf_86_87 N  s = some (s', v)) (k : Q v (mH h s')) : zz_E zp_P zt_tf zt_fd X (d + 4) zm_86 87 [(0, .ref 61)] [] (mH h s) Q := by
  unfold mf_86_87 at hf
  cases hf
  exact mb_86_87 hh  k
def mf_86_81 (N : Nat) (rc : Nat → Int32 → mS → mO) (x1 : Int32) (s : mS) : mO := rc 0 (x1 + 1) s
theorem mr_86_81 {X : Nat → Option zz_C} {h : zz_H} (hh : 111 ≤ h.length) {d : Nat} {N : Nat} {rc : Nat → Int32 → mS → mO} (hrc0 : ∀ {Q : Option Value → zz_H → Prop} {x1 : Int32} {s s' : mS} {v : Option Value}, rc 0 x1 s = some (s', v) → Q v (mH h s') → zz_E zp_P zt_tf zt_fd X (d + 4) zm_86 7 [(0, .ref 61), (1, .int x1)] [] (mH h s) Q) {Q : Option Value → zz_H → Prop} {x1 : Int32} {s s' : mS} {v : Option Value} (hf : mf_86_81 N rc x1 s = some (s', v)) (k : Q v (mH h s')) : zz_E zp_P zt_tf zt_fd X (d + 4) zm_86 81 [(0, .ref 61), (1, .int x1)] [] (mH h s) Q := by
  unfold mf_86_81 at hf
  exact mb_86_81 hh  (hrc0 hf k)
def mf_86_32 (N : Nat) (rc : Nat → Int32 → mS → mO) (x1 : Int32) (s : mS) : mO := mf_86_81 N rc x1 s
theorem mr_86_32 {X : Nat → Option zz_C} {h : zz_H} (hh : 111 ≤ h.length) {d : Nat} {N : Nat} {rc : Nat → Int32 → mS → mO} (hrc0 : ∀ {Q : Option Value → zz_H → Prop} {x1 : Int32} {s s' : mS} {v : Option Value}, rc 0 x1 s = some (s', v) → Q v (mH h s') → zz_E zp_P zt_tf zt_fd X (d + 4) zm_86 7 [(0, .ref 61), (1, .int x1)] [] (mH h s) Q) {Q : Option Value → zz_H → Prop} {x1 : Int32} {s s' : mS} {v : Option Value} (hf : mf_86_32 N rc x1 s = some (s', v)) (k : Q v (mH h s')) : zz_E zp_P zt_tf zt_fd X (d + 4) zm_86 32 [(0, .ref 61), (1, .int x1)] [] (mH h s) Q := by
  unfold mf_86_32 at hf
  exact mb_86_32 hh  (mr_86_81 hh hrc0 hf k)
def mf_86_27 (N : Nat) (rc : Nat → Int32 → mS → mO) (x1 : Int32) (s : mS) : mO := mo_bv (mf_87 N (-1) s) (fun s1 => mf_86_32 N rc x1 s1)
theorem mr_86_27 {X : Nat → Option zz_C} {h : zz_H} (hh : 111 ≤ h.length) {d : Nat} {N : Nat} {rc : Nat → Int32 → mS → mO} (hrc0 : ∀ {Q : Option Value → zz_H → Prop} {x1 : Int32} {s s' : mS} {v : Option Value}, rc 0 x1 s = some (s', v) → Q v (mH h s') → zz_E zp_P zt_tf zt_fd X (d + 4) zm_86 7 [(0, .ref 61), (1, .int x1)] [] (mH h s) Q) {Q : Option Value → zz_H → Prop} {x1 : Int32} {s s' : mS} {v : Option Value} (hf : mf_86_27 N rc x1 s = some (s', v)) (k : Q v (mH h s')) : zz_E zp_P zt_tf zt_fd X (d + 4) zm_86 27 [(0, .ref 61), (1, .int x1)] [] (mH h s) Q := by
  unfold mf_86_27 at hf
  obtain ⟨s1, e, hf⟩ := mo_bv_ok hf
  exact mb_86_27 (d := d + 3) hh  (mr_87 (d := d + 3) hh e (mr_86_32 hh hrc0 hf k))
def mf_86_69 (N : Nat) (rc : Nat → Int32 → mS → mO) (x1 : Int32) (s : mS) : mO := mf_86_81 N rc x1 s
theorem mr_86_69 {X : Nat → Option zz_C} {h : zz_H} (hh : 111 ≤ h.length) {d : Nat} {N : Nat} {rc : Nat → Int32 → mS → mO} (hrc0 : ∀ {Q : Option Value → zz_H → Prop} {x1 : Int32} {s s' : mS} {v : Option Value}, rc 0 x1 s = some (s', v) → Q v (mH h s') → zz_E zp_P zt_tf zt_fd X (d + 4) zm_86 7 [(0, .ref 61), (1, .int x1)] [] (mH h s) Q) {Q : Option Value → zz_H → Prop} {x1 : Int32} {s s' : mS} {v : Option Value} (hf : mf_86_69 N rc x1 s = some (s', v)) (k : Q v (mH h s')) : zz_E zp_P zt_tf zt_fd X (d + 4) zm_86 69 [(0, .ref 61), (1, .int x1)] [] (mH h s) Q := by
  unfold mf_86_69 at hf
  exact mb_86_69 hh  (mr_86_81 hh hrc0 hf k)
def mf_86_53 (N : Nat) (rc : Nat → Int32 → mS → mO) (x1 : Int32) (s : mS) : mO := if ¬ (((2410 * x1) + 1) < 0 ∨ 166300 ≤ Int32.toNatClampNeg ((2410 * x1) + 1)) then (mo_bv (mf_87 N ((s.2.2.1 47) (Int32.toNatClampNeg ((2410 * x1) + 1))) s) (fun s1 => mf_86_69 N rc x1 s1)) else none
theorem mr_86_53 {X : Nat → Option zz_C} {h : zz_H} (hh : 111 ≤ h.length) {d : Nat} {N : Nat} {rc : Nat → Int32 → mS → mO} (hrc0 : ∀ {Q : Option Value → zz_H → Prop} {x1 : Int32} {s s' : mS} {v : Option Value}, rc 0 x1 s = some (s', v) → Q v (mH h s') → zz_E zp_P zt_tf zt_fd X (d + 4) zm_86 7 [(0, .ref 61), (1, .int x1)] [] (mH h s) Q) {Q : Option Value → zz_H → Prop} {x1 : Int32} {s s' : mS} {v : Option Value} (hf : mf_86_53 N rc x1 s = some (s', v)) (k : Q v (mH h s')) : zz_E zp_P zt_tf zt_fd X (d + 4) zm_86 53 [(0, .ref 61), (1, .int x1)] [] (mH h s) Q := by
  unfold mf_86_53 at hf
  obtain ⟨q0, hf⟩ := mo_if hf
  obtain ⟨s1, e, hf⟩ := mo_bv_ok hf
  exact mb_86_53 (d := d + 3) hh q0 (mr_87 (d := d + 3) hh e (mr_86_69 hh hrc0 hf k))
def mf_86_48 (N : Nat) (rc : Nat → Int32 → mS → mO) (x1 : Int32) (s : mS) : mO := mo_bv (mf_87 N 0 s) (fun s1 => mf_86_53 N rc x1 s1)
theorem mr_86_48 {X : Nat → Option zz_C} {h : zz_H} (hh : 111 ≤ h.length) {d : Nat} {N : Nat} {rc : Nat → Int32 → mS → mO} (hrc0 : ∀ {Q : Option Value → zz_H → Prop} {x1 : Int32} {s s' : mS} {v : Option Value}, rc 0 x1 s = some (s', v) → Q v (mH h s') → zz_E zp_P zt_tf zt_fd X (d + 4) zm_86 7 [(0, .ref 61), (1, .int x1)] [] (mH h s) Q) {Q : Option Value → zz_H → Prop} {x1 : Int32} {s s' : mS} {v : Option Value} (hf : mf_86_48 N rc x1 s = some (s', v)) (k : Q v (mH h s')) : zz_E zp_P zt_tf zt_fd X (d + 4) zm_86 48 [(0, .ref 61), (1, .int x1)] [] (mH h s) Q := by
  unfold mf_86_48 at hf
  obtain ⟨s1, e, hf⟩ := mo_bv_ok hf
  exact mb_86_48 (d := d + 3) hh  (mr_87 (d := d + 3) hh e (mr_86_53 hh hrc0 hf k))
def mf_86_72 (N : Nat) (rc : Nat → Int32 → mS → mO) (x1 : Int32) (s : mS) : mO := mo_bv (mf_355 N (2410 * x1) s) (fun s1 => mf_86_81 N rc x1 s1)
theorem mr_86_72 {X : Nat → Option zz_C} {h : zz_H} (hh : 111 ≤ h.length) {d : Nat} {N : Nat} {rc : Nat → Int32 → mS → mO} (hrc0 : ∀ {Q : Option Value → zz_H → Prop} {x1 : Int32} {s s' : mS} {v : Option Value}, rc 0 x1 s = some (s', v) → Q v (mH h s') → zz_E zp_P zt_tf zt_fd X (d + 4) zm_86 7 [(0, .ref 61), (1, .int x1)] [] (mH h s) Q) {Q : Option Value → zz_H → Prop} {x1 : Int32} {s s' : mS} {v : Option Value} (hf : mf_86_72 N rc x1 s = some (s', v)) (k : Q v (mH h s')) : zz_E zp_P zt_tf zt_fd X (d + 4) zm_86 72 [(0, .ref 61), (1, .int x1)] [] (mH h s) Q := by
  unfold mf_86_72 at hf
  obtain ⟨s1, e, hf⟩ := mo_bv_ok hf
  exact mb_86_72 (d := d + 3) hh  (mr_355 (d := d + 0) hh e (mr_86_81 hh hrc0 hf k))
def mf_86_35 (N : Nat) (rc : Nat → Int32 → mS → mO) (x1 : Int32) (s : mS) : mO := if ¬ ((2410 * x1) < 0 ∨ 166300 ≤ Int32.toNatClampNeg (2410 * x1)) then (if ¬ ((s.2.2.1 47) (Int32.toNatClampNeg (2410 * x1))) = 0 then mf_86_72 N rc x1 s else mf_86_48 N rc x1 s) else none
theorem mr_86_35 {X : Nat → Option zz_C} {h : zz_H} (hh : 111 ≤ h.length) {d : Nat} {N : Nat} {rc : Nat → Int32 → mS → mO} (hrc0 : ∀ {Q : Option Value → zz_H → Prop} {x1 : Int32} {s s' : mS} {v : Option Value}, rc 0 x1 s = some (s', v) → Q v (mH h s') → zz_E zp_P zt_tf zt_fd X (d + 4) zm_86 7 [(0, .ref 61), (1, .int x1)] [] (mH h s) Q) {Q : Option Value → zz_H → Prop} {x1 : Int32} {s s' : mS} {v : Option Value} (hf : mf_86_35 N rc x1 s = some (s', v)) (k : Q v (mH h s')) : zz_E zp_P zt_tf zt_fd X (d + 4) zm_86 35 [(0, .ref 61), (1, .int x1)] [] (mH h s) Q := by
  unfold mf_86_35 at hf
  obtain ⟨q0, hf⟩ := mo_if hf
  refine mb_86_35 hh q0 (fun c => ?_) (fun c => ?_)
  · rw [if_pos c] at hf
    exact mr_86_72 hh hrc0 hf k
  · rw [if_neg c] at hf
    exact mr_86_48 hh hrc0 hf k
def mf_86_13 (N : Nat) (rc : Nat → Int32 → mS → mO) (x1 : Int32) (s : mS) : mO := if ¬ ((2410 * x1) < 0 ∨ 166300 ≤ Int32.toNatClampNeg (2410 * x1)) then (if ¬ ((s.2.2.1 47) (Int32.toNatClampNeg (2410 * x1))) = (-1) then mf_86_35 N rc x1 s else mf_86_27 N rc x1 s) else none
theorem mr_86_13 {X : Nat → Option zz_C} {h : zz_H} (hh : 111 ≤ h.length) {d : Nat} {N : Nat} {rc : Nat → Int32 → mS → mO} (hrc0 : ∀ {Q : Option Value → zz_H → Prop} {x1 : Int32} {s s' : mS} {v : Option Value}, rc 0 x1 s = some (s', v) → Q v (mH h s') → zz_E zp_P zt_tf zt_fd X (d + 4) zm_86 7 [(0, .ref 61), (1, .int x1)] [] (mH h s) Q) {Q : Option Value → zz_H → Prop} {x1 : Int32} {s s' : mS} {v : Option Value} (hf : mf_86_13 N rc x1 s = some (s', v)) (k : Q v (mH h s')) : zz_E zp_P zt_tf zt_fd X (d + 4) zm_86 13 [(0, .ref 61), (1, .int x1)] [] (mH h s) Q := by
  unfold mf_86_13 at hf
  obtain ⟨q0, hf⟩ := mo_if hf
  refine mb_86_13 hh q0 (fun c => ?_) (fun c => ?_)
  · rw [if_pos c] at hf
    exact mr_86_35 hh hrc0 hf k
  · rw [if_neg c] at hf
    exact mr_86_27 hh hrc0 hf k
def mf_86_7 (N : Nat) (rc : Nat → Int32 → mS → mO) (x1 : Int32) (s : mS) : mO := if 8 ≤ x1 then mf_86_87 N  s else mf_86_13 N rc x1 s
theorem mr_86_7 {X : Nat → Option zz_C} {h : zz_H} (hh : 111 ≤ h.length) {d : Nat} {N : Nat} {rc : Nat → Int32 → mS → mO} (hrc0 : ∀ {Q : Option Value → zz_H → Prop} {x1 : Int32} {s s' : mS} {v : Option Value}, rc 0 x1 s = some (s', v) → Q v (mH h s') → zz_E zp_P zt_tf zt_fd X (d + 4) zm_86 7 [(0, .ref 61), (1, .int x1)] [] (mH h s) Q) {Q : Option Value → zz_H → Prop} {x1 : Int32} {s s' : mS} {v : Option Value} (hf : mf_86_7 N rc x1 s = some (s', v)) (k : Q v (mH h s')) : zz_E zp_P zt_tf zt_fd X (d + 4) zm_86 7 [(0, .ref 61), (1, .int x1)] [] (mH h s) Q := by
  unfold mf_86_7 at hf
  refine mb_86_7 hh  (fun c => ?_) (fun c => ?_)
  · rw [if_pos c] at hf
    exact mr_86_87 hh hf k
  · rw [if_neg c] at hf
    exact mr_86_13 hh hrc0 hf k
def mf_86_L1 (N : Nat) : Nat → Nat → Int32 → mS → mO
  | 0, _, _, _ => none
  | n + 1, l, x1, s => if l = 0 then mf_86_7 N (mf_86_L1 N n) x1 s else none
theorem mr_86_L1 {X : Nat → Option zz_C} {h : zz_H} (hh : 111 ≤ h.length) {d : Nat} {N : Nat} : ∀ n : Nat, (∀ {Q : Option Value → zz_H → Prop} {x1 : Int32} {s s' : mS} {v : Option Value}, mf_86_L1 N n 0 x1 s = some (s', v) → Q v (mH h s') → zz_E zp_P zt_tf zt_fd X (d + 4) zm_86 7 [(0, .ref 61), (1, .int x1)] [] (mH h s) Q) := by
  intro n
  induction n with
  | zero => exact (fun hf _ => by cases hf)
  | succ n ih =>
    have h0 := @ih
    intro Q _ s s' v hf k
    unfold mf_86_L1 at hf
    rw [if_pos rfl] at hf
    exact mr_86_7 hh h0 hf k
def mf_86_0 (N : Nat)  (s : mS) : mO := mf_86_L1 N N 0 0 (mL s 89 0)
theorem mr_86_0 {X : Nat → Option zz_C} {h : zz_H} (hh : 111 ≤ h.length) {d : Nat} {N : Nat} {Q : Option Value → zz_H → Prop}  {s s' : mS} {v : Option Value} (hf : mf_86_0 N  s = some (s', v)) (k : Q v (mH h s')) : zz_E zp_P zt_tf zt_fd X (d + 4) zm_86 0 [(0, .ref 61)] [] (mH h s) Q := by
  unfold mf_86_0 at hf
  exact mb_86_0 hh  (mr_86_L1 hh N hf k)
/-- sum -/
def mf_86 (N : Nat)  (s : mS) : mO := mf_86_0 N  s
theorem mr_86 {X : Nat → Option zz_C} {h : zz_H} (hh : 111 ≤ h.length) {d : Nat} {N : Nat} {Q : Option Value → zz_H → Prop}  {s s' : mS} {v : Option Value} (hf : mf_86 N  s = some (s', v)) (k : Q v (mH h s')) : zz_E zp_P zt_tf zt_fd X (d + 4) zm_86 0 [(0, .ref 61)] [] (mH h s) Q := by
  unfold mf_86 at hf
  exact zz_E.weak (mr_86_0 hh hf k) rfl ⟨rfl, trivial⟩
