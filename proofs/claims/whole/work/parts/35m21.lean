/-! all (IIZ)V -/
theorem mb_336_0 {X : Nat → Option zz_C} {h : zz_H} (hh : 111 ≤ h.length) {s : mS} {d : Nat} {Q : Option Value → zz_H → Prop} {x1 : Int32} {x2 : Int32} {x3 : Int32} (k1 : x1 = 0 → zz_E zp_P zt_tf zt_fd X d zm_336 8 [(0, .ref 61), (1, .int x1), (2, .int x2)] [] (mH h s) Q) (k2 : ¬ x1 = 0 → zz_E zp_P zt_tf zt_fd X d zm_336 4 [(0, .ref 61), (1, .int x1), (2, .int x2), (3, .int x3)] [] (mH h s) Q) : zz_E zp_P zt_tf zt_fd X d zm_336 0 [(0, .ref 61), (1, .int x1), (2, .int x2), (3, .int x3)] [] (mH h s) Q := by
  refine zz_E.n 1 rfl rfl rfl ?_
  refine zz_E.b1 8 4 (A := x1 = 0) rfl rfl (by decide) rfl rfl (fun c => ?_) (fun c => ?_)
  · exact zz_E.weak (k1 c) rfl ⟨rfl, rfl, rfl, trivial⟩
  · exact zz_E.weak (k2 c) rfl ⟨rfl, rfl, rfl, rfl, trivial⟩
theorem mb_336_4 {X : Nat → Option zz_C} {h : zz_H} (hh : 111 ≤ h.length) {s : mS} {d : Nat} {Q : Option Value → zz_H → Prop} {x1 : Int32} {x2 : Int32} {x3 : Int32} (k1 : ¬ x3 = 0 → zz_E zp_P zt_tf zt_fd X d zm_336 17 [(0, .ref 61), (2, .int x2)] [] (mH h s) Q) (k2 : ¬ ¬ x3 = 0 → zz_E zp_P zt_tf zt_fd X d zm_336 8 [(0, .ref 61), (1, .int x1), (2, .int x2)] [] (mH h s) Q) : zz_E zp_P zt_tf zt_fd X d zm_336 4 [(0, .ref 61), (1, .int x1), (2, .int x2), (3, .int x3)] [] (mH h s) Q := by
  refine zz_E.n 5 rfl rfl rfl ?_
  refine zz_E.b1 17 8 (A := ¬ x3 = 0) rfl (zz_cond_ne _ _) (by decide) rfl rfl (fun c => ?_) (fun c => ?_)
  · exact zz_E.weak (k1 c) rfl ⟨rfl, rfl, trivial⟩
  · exact zz_E.weak (k2 c) rfl ⟨rfl, rfl, rfl, trivial⟩
theorem mb_336_8 {X : Nat → Option zz_C} {h : zz_H} (hh : 111 ≤ h.length) {s : mS} {d : Nat} {Q : Option Value → zz_H → Prop} {x1 : Int32} {x2 : Int32} (k : zz_E zp_P zt_tf zt_fd X d zm_291 0 [(0, .ref 61), (1, .int x1), (2, .int x2)] [] (mH h s) (fun v h' => zz_E zp_P zt_tf zt_fd X (d + 1) zm_336 14 [] (v.toList ++ []) h' Q)) : zz_E zp_P zt_tf zt_fd X (d + 1) zm_336 8 [(0, .ref 61), (1, .int x1), (2, .int x2)] [] (mH h s) Q := by
  refine zz_E.n 9 rfl rfl rfl ?_
  refine zz_E.n 10 rfl rfl rfl ?_
  refine zz_E.n 11 rfl rfl rfl ?_
  refine mE_cv hh 14 (as := []) rfl rfl (Nat.le_of_ble_eq_true rfl) (Nat.le_of_ble_eq_true rfl) rfl (Nat.le_of_ble_eq_true rfl) rfl ?_
  refine zz_E.mono k ?_
  intro v h' hE
  exact zz_E.weak hE rfl trivial
theorem mb_336_14 {X : Nat → Option zz_C} {h : zz_H} (hh : 111 ≤ h.length) {s : mS} {d : Nat} {Q : Option Value → zz_H → Prop}  (k : zz_E zp_P zt_tf zt_fd X d zm_336 43 [] [] (mH h s) Q) : zz_E zp_P zt_tf zt_fd X d zm_336 14 [] [] (mH h s) Q := by
  refine zz_E.n 43 rfl rfl rfl ?_
  exact zz_E.weak k rfl trivial
theorem mb_336_17 {X : Nat → Option zz_C} {h : zz_H} (hh : 111 ≤ h.length) {s : mS} {d : Nat} {Q : Option Value → zz_H → Prop} {x2 : Int32} (k : zz_E zp_P zt_tf zt_fd X d zm_336 20 [(0, .ref 61), (2, .int x2), (4, .int 0)] [] (mH h s) Q) : zz_E zp_P zt_tf zt_fd X d zm_336 17 [(0, .ref 61), (2, .int x2)] [] (mH h s) Q := by
  refine zz_E.c 18 (.int 0) rfl rfl rfl rfl ?_
  refine zz_E.n 20 rfl rfl rfl ?_
  exact zz_E.weak k rfl ⟨rfl, rfl, rfl, trivial⟩
theorem mb_336_20 {X : Nat → Option zz_C} {h : zz_H} (hh : 111 ≤ h.length) {s : mS} {d : Nat} {Q : Option Value → zz_H → Prop} {x2 : Int32} {x4 : Int32} (k : zz_E zp_P zt_tf zt_fd X d zm_77 0 [(0, .ref 61), (1, .int x2)] [] (mH h s) (fun v h' => zz_E zp_P zt_tf zt_fd X (d + 1) zm_336 27 [(0, .ref 61), (2, .int x2), (4, .int x4)] (v.toList ++ [.int x4]) h' Q)) : zz_E zp_P zt_tf zt_fd X (d + 1) zm_336 20 [(0, .ref 61), (2, .int x2), (4, .int x4)] [] (mH h s) Q := by
  refine zz_E.n 22 rfl rfl rfl ?_
  refine zz_E.n 23 rfl rfl rfl ?_
  refine zz_E.n 24 rfl rfl rfl ?_
  refine mE_cv hh 27 (as := [.int x4]) rfl rfl (Nat.le_of_ble_eq_true rfl) (Nat.le_of_ble_eq_true rfl) rfl (Nat.le_of_ble_eq_true rfl) rfl ?_
  refine zz_E.mono k ?_
  intro v h' hE
  exact zz_E.weak hE rfl ⟨rfl, rfl, rfl, trivial⟩
theorem mb_336_27 {X : Nat → Option zz_C} {h : zz_H} (hh : 111 ≤ h.length) {s : mS} {d : Nat} {Q : Option Value → zz_H → Prop} {x2 : Int32} {x4 : Int32} {y0 : Int32} {y1 : Int32} (k1 : y1 ≤ y0 → zz_E zp_P zt_tf zt_fd X d zm_336 43 [] [] (mH h s) Q) (k2 : ¬ y1 ≤ y0 → zz_E zp_P zt_tf zt_fd X d zm_336 30 [(0, .ref 61), (2, .int x2), (4, .int x4)] [] (mH h s) Q) : zz_E zp_P zt_tf zt_fd X d zm_336 27 [(0, .ref 61), (2, .int x2), (4, .int x4)] [.int y1, .int y0] (mH h s) Q := by
  refine zz_E.b2 43 30 (A := y1 ≤ y0) rfl rfl (by decide) rfl rfl (fun c => ?_) (fun c => ?_)
  · exact zz_E.weak (k1 c) rfl trivial
  · exact zz_E.weak (k2 c) rfl ⟨rfl, rfl, rfl, trivial⟩
theorem mb_336_30 {X : Nat → Option zz_C} {h : zz_H} (hh : 111 ≤ h.length) {s : mS} {d : Nat} {Q : Option Value → zz_H → Prop} {x2 : Int32} {x4 : Int32} (k : zz_E zp_P zt_tf zt_fd X d zm_295 0 [(0, .ref 61), (1, .int x2), (2, .int x4)] [] (mH h s) (fun v h' => zz_E zp_P zt_tf zt_fd X (d + 1) zm_336 37 [(0, .ref 61), (2, .int x2), (4, .int x4)] (v.toList ++ []) h' Q)) : zz_E zp_P zt_tf zt_fd X (d + 1) zm_336 30 [(0, .ref 61), (2, .int x2), (4, .int x4)] [] (mH h s) Q := by
  refine zz_E.n 31 rfl rfl rfl ?_
  refine zz_E.n 32 rfl rfl rfl ?_
  refine zz_E.n 34 rfl rfl rfl ?_
  refine mE_cv hh 37 (as := []) rfl rfl (Nat.le_of_ble_eq_true rfl) (Nat.le_of_ble_eq_true rfl) rfl (Nat.le_of_ble_eq_true rfl) rfl ?_
  refine zz_E.mono k ?_
  intro v h' hE
  exact zz_E.weak hE rfl ⟨rfl, rfl, rfl, trivial⟩
theorem mb_336_37 {X : Nat → Option zz_C} {h : zz_H} (hh : 111 ≤ h.length) {s : mS} {d : Nat} {Q : Option Value → zz_H → Prop} {x2 : Int32} {x4 : Int32} (k : zz_E zp_P zt_tf zt_fd X d zm_336 20 [(0, .ref 61), (2, .int x2), (4, .int (x4 + 1))] [] (mH h s) Q) : zz_E zp_P zt_tf zt_fd X d zm_336 37 [(0, .ref 61), (2, .int x2), (4, .int x4)] [] (mH h s) Q := by
  refine zz_E.n 40 rfl rfl rfl ?_
  refine zz_E.n 20 rfl rfl rfl ?_
  exact zz_E.weak k rfl ⟨rfl, rfl, rfl, trivial⟩
theorem mb_336_43 {X : Nat → Option zz_C} {h : zz_H} (hh : 111 ≤ h.length) {s : mS} {d : Nat} {Q : Option Value → zz_H → Prop}  (k : Q none (mH h s)) : zz_E zp_P zt_tf zt_fd X d zm_336 43 [] [] (mH h s) Q := by
  refine zz_E.ret rfl rfl rfl ?_
  exact k
def mf_336_43 (N : Nat)  (s : mS) : mO := some (s, none)
theorem mr_336_43 {X : Nat → Option zz_C} {h : zz_H} (hh : 111 ≤ h.length) {d : Nat} {N : Nat} {Q : Option Value → zz_H → Prop}  {s s' : mS} {v : Option Value} (hf : mf_336_43 N  s = some (s', v)) (k : Q v (mH h s')) : zz_E zp_P zt_tf zt_fd X (d + 2) zm_336 43 [] [] (mH h s) Q := by
  unfold mf_336_43 at hf
  cases hf
  exact mb_336_43 hh  k
def mf_336_14 (N : Nat)  (s : mS) : mO := mf_336_43 N  s
theorem mr_336_14 {X : Nat → Option zz_C} {h : zz_H} (hh : 111 ≤ h.length) {d : Nat} {N : Nat} {Q : Option Value → zz_H → Prop}  {s s' : mS} {v : Option Value} (hf : mf_336_14 N  s = some (s', v)) (k : Q v (mH h s')) : zz_E zp_P zt_tf zt_fd X (d + 2) zm_336 14 [] [] (mH h s) Q := by
  unfold mf_336_14 at hf
  exact mb_336_14 hh  (mr_336_43 hh hf k)
def mf_336_8 (N : Nat) (x1 : Int32) (x2 : Int32) (s : mS) : mO := mo_bv (mf_291 N x1 x2 s) (fun s1 => mf_336_14 N  s1)
theorem mr_336_8 {X : Nat → Option zz_C} {h : zz_H} (hh : 111 ≤ h.length) {d : Nat} {N : Nat} {Q : Option Value → zz_H → Prop} {x1 : Int32} {x2 : Int32} {s s' : mS} {v : Option Value} (hf : mf_336_8 N x1 x2 s = some (s', v)) (k : Q v (mH h s')) : zz_E zp_P zt_tf zt_fd X (d + 2) zm_336 8 [(0, .ref 61), (1, .int x1), (2, .int x2)] [] (mH h s) Q := by
  unfold mf_336_8 at hf
  obtain ⟨s1, e, hf⟩ := mo_bv_ok hf
  exact mb_336_8 (d := d + 1) hh  (mr_291 (d := d + 1) hh e (mr_336_14 hh hf k))
def mf_336_37 (N : Nat) (rc : Nat → Int32 → Int32 → mS → mO) (x2 : Int32) (x4 : Int32) (s : mS) : mO := rc 0 x2 (x4 + 1) s
theorem mr_336_37 {X : Nat → Option zz_C} {h : zz_H} (hh : 111 ≤ h.length) {d : Nat} {N : Nat} {rc : Nat → Int32 → Int32 → mS → mO} (hrc0 : ∀ {Q : Option Value → zz_H → Prop} {x2 : Int32} {x4 : Int32} {s s' : mS} {v : Option Value}, rc 0 x2 x4 s = some (s', v) → Q v (mH h s') → zz_E zp_P zt_tf zt_fd X (d + 2) zm_336 20 [(0, .ref 61), (2, .int x2), (4, .int x4)] [] (mH h s) Q) {Q : Option Value → zz_H → Prop} {x2 : Int32} {x4 : Int32} {s s' : mS} {v : Option Value} (hf : mf_336_37 N rc x2 x4 s = some (s', v)) (k : Q v (mH h s')) : zz_E zp_P zt_tf zt_fd X (d + 2) zm_336 37 [(0, .ref 61), (2, .int x2), (4, .int x4)] [] (mH h s) Q := by
  unfold mf_336_37 at hf
  exact mb_336_37 hh  (hrc0 hf k)
def mf_336_30 (N : Nat) (rc : Nat → Int32 → Int32 → mS → mO) (x2 : Int32) (x4 : Int32) (s : mS) : mO := mo_bv (mf_295 N x2 x4 s) (fun s1 => mf_336_37 N rc x2 x4 s1)
theorem mr_336_30 {X : Nat → Option zz_C} {h : zz_H} (hh : 111 ≤ h.length) {d : Nat} {N : Nat} {rc : Nat → Int32 → Int32 → mS → mO} (hrc0 : ∀ {Q : Option Value → zz_H → Prop} {x2 : Int32} {x4 : Int32} {s s' : mS} {v : Option Value}, rc 0 x2 x4 s = some (s', v) → Q v (mH h s') → zz_E zp_P zt_tf zt_fd X (d + 2) zm_336 20 [(0, .ref 61), (2, .int x2), (4, .int x4)] [] (mH h s) Q) {Q : Option Value → zz_H → Prop} {x2 : Int32} {x4 : Int32} {s s' : mS} {v : Option Value} (hf : mf_336_30 N rc x2 x4 s = some (s', v)) (k : Q v (mH h s')) : zz_E zp_P zt_tf zt_fd X (d + 2) zm_336 30 [(0, .ref 61), (2, .int x2), (4, .int x4)] [] (mH h s) Q := by
  unfold mf_336_30 at hf
  obtain ⟨s1, e, hf⟩ := mo_bv_ok hf
  exact mb_336_30 (d := d + 1) hh  (mr_295 (d := d + 0) hh e (mr_336_37 hh hrc0 hf k))
def mf_336_27 (N : Nat) (rc : Nat → Int32 → Int32 → mS → mO) (x2 : Int32) (x4 : Int32) (y0 : Int32) (y1 : Int32) (s : mS) : mO := if y1 ≤ y0 then mf_336_43 N  s else mf_336_30 N rc x2 x4 s
theorem mr_336_27 {X : Nat → Option zz_C} {h : zz_H} (hh : 111 ≤ h.length) {d : Nat} {N : Nat} {rc : Nat → Int32 → Int32 → mS → mO} (hrc0 : ∀ {Q : Option Value → zz_H → Prop} {x2 : Int32} {x4 : Int32} {s s' : mS} {v : Option Value}, rc 0 x2 x4 s = some (s', v) → Q v (mH h s') → zz_E zp_P zt_tf zt_fd X (d + 2) zm_336 20 [(0, .ref 61), (2, .int x2), (4, .int x4)] [] (mH h s) Q) {Q : Option Value → zz_H → Prop} {x2 : Int32} {x4 : Int32} {y0 : Int32} {y1 : Int32} {s s' : mS} {v : Option Value} (hf : mf_336_27 N rc x2 x4 y0 y1 s = some (s', v)) (k : Q v (mH h s')) : zz_E zp_P zt_tf zt_fd X (d + 2) zm_336 27 [(0, .ref 61), (2, .int x2), (4, .int x4)] [.int y1, .int y0] (mH h s) Q := by
  unfold mf_336_27 at hf
  refine mb_336_27 hh  (fun c => ?_) (fun c => ?_)
  · rw [if_pos c] at hf
    exact mr_336_43 hh hf k
  · rw [if_neg c] at hf
    exact mr_336_30 hh hrc0 hf k
def mf_336_20 (N : Nat) (rc : Nat → Int32 → Int32 → mS → mO) (x2 : Int32) (x4 : Int32) (s : mS) : mO := mo_bi (mf_77 N x2 s) (fun s1 y => mf_336_27 N rc x2 x4 x4 y s1)
theorem mr_336_20 {X : Nat → Option zz_C} {h : zz_H} (hh : 111 ≤ h.length) {d : Nat} {N : Nat} {rc : Nat → Int32 → Int32 → mS → mO} (hrc0 : ∀ {Q : Option Value → zz_H → Prop} {x2 : Int32} {x4 : Int32} {s s' : mS} {v : Option Value}, rc 0 x2 x4 s = some (s', v) → Q v (mH h s') → zz_E zp_P zt_tf zt_fd X (d + 2) zm_336 20 [(0, .ref 61), (2, .int x2), (4, .int x4)] [] (mH h s) Q) {Q : Option Value → zz_H → Prop} {x2 : Int32} {x4 : Int32} {s s' : mS} {v : Option Value} (hf : mf_336_20 N rc x2 x4 s = some (s', v)) (k : Q v (mH h s')) : zz_E zp_P zt_tf zt_fd X (d + 2) zm_336 20 [(0, .ref 61), (2, .int x2), (4, .int x4)] [] (mH h s) Q := by
  unfold mf_336_20 at hf
  obtain ⟨s1, y, e, hf⟩ := mo_bi_ok hf
  exact mb_336_20 (d := d + 1) hh  (mr_77 (d := d + 1) hh e (mr_336_27 hh hrc0 hf k))
def mf_336_L3 (N : Nat) : Nat → Nat → Int32 → Int32 → mS → mO
  | 0, _, _, _, _ => none
  | n + 1, l, x2, x4, s => if l = 0 then mf_336_20 N (mf_336_L3 N n) x2 x4 s else none
theorem mr_336_L3 {X : Nat → Option zz_C} {h : zz_H} (hh : 111 ≤ h.length) {d : Nat} {N : Nat} : ∀ n : Nat, (∀ {Q : Option Value → zz_H → Prop} {x2 : Int32} {x4 : Int32} {s s' : mS} {v : Option Value}, mf_336_L3 N n 0 x2 x4 s = some (s', v) → Q v (mH h s') → zz_E zp_P zt_tf zt_fd X (d + 2) zm_336 20 [(0, .ref 61), (2, .int x2), (4, .int x4)] [] (mH h s) Q) := by
  intro n
  induction n with
  | zero => exact (fun hf _ => by cases hf)
  | succ n ih =>
    have h0 := @ih
    intro Q _ _ s s' v hf k
    unfold mf_336_L3 at hf
    rw [if_pos rfl] at hf
    exact mr_336_20 hh h0 hf k
def mf_336_17 (N : Nat) (x2 : Int32) (s : mS) : mO := mf_336_L3 N N 0 x2 0 s
theorem mr_336_17 {X : Nat → Option zz_C} {h : zz_H} (hh : 111 ≤ h.length) {d : Nat} {N : Nat} {Q : Option Value → zz_H → Prop} {x2 : Int32} {s s' : mS} {v : Option Value} (hf : mf_336_17 N x2 s = some (s', v)) (k : Q v (mH h s')) : zz_E zp_P zt_tf zt_fd X (d + 2) zm_336 17 [(0, .ref 61), (2, .int x2)] [] (mH h s) Q := by
  unfold mf_336_17 at hf
  exact mb_336_17 hh  (mr_336_L3 hh N hf k)
def mf_336_4 (N : Nat) (x1 : Int32) (x2 : Int32) (x3 : Int32) (s : mS) : mO := if ¬ x3 = 0 then mf_336_17 N x2 s else mf_336_8 N x1 x2 s
theorem mr_336_4 {X : Nat → Option zz_C} {h : zz_H} (hh : 111 ≤ h.length) {d : Nat} {N : Nat} {Q : Option Value → zz_H → Prop} {x1 : Int32} {x2 : Int32} {x3 : Int32} {s s' : mS} {v : Option Value} (hf : mf_336_4 N x1 x2 x3 s = some (s', v)) (k : Q v (mH h s')) : zz_E zp_P zt_tf zt_fd X (d + 2) zm_336 4 [(0, .ref 61), (1, .int x1), (2, .int x2), (3, .int x3)] [] (mH h s) Q := by
  unfold mf_336_4 at hf
  refine mb_336_4 hh  (fun c => ?_) (fun c => ?_)
  · rw [if_pos c] at hf
    exact mr_336_17 hh hf k
  · rw [if_neg c] at hf
    exact mr_336_8 hh hf k
def mf_336_0 (N : Nat) (x1 : Int32) (x2 : Int32) (x3 : Int32) (s : mS) : mO := if x1 = 0 then mf_336_8 N x1 x2 s else mf_336_4 N x1 x2 x3 s
theorem mr_336_0 {X : Nat → Option zz_C} {h : zz_H} (hh : 111 ≤ h.length) {d : Nat} {N : Nat} {Q : Option Value → zz_H → Prop} {x1 : Int32} {x2 : Int32} {x3 : Int32} {s s' : mS} {v : Option Value} (hf : mf_336_0 N x1 x2 x3 s = some (s', v)) (k : Q v (mH h s')) : zz_E zp_P zt_tf zt_fd X (d + 2) zm_336 0 [(0, .ref 61), (1, .int x1), (2, .int x2), (3, .int x3)] [] (mH h s) Q := by
  unfold mf_336_0 at hf
  refine mb_336_0 hh  (fun c => ?_) (fun c => ?_)
  · rw [if_pos c] at hf
    exact mr_336_8 hh hf k
  · rw [if_neg c] at hf
    exact mr_336_4 hh hf k
/-- all -/
def mf_336 (N : Nat) (x1 : Int32) (x2 : Int32) (x3 : Int32) (s : mS) : mO := mf_336_0 N x1 x2 x3 s
theorem mr_336 {X : Nat → Option zz_C} {h : zz_H} (hh : 111 ≤ h.length) {d : Nat} {N : Nat} {Q : Option Value → zz_H → Prop} {x1 : Int32} {x2 : Int32} {x3 : Int32} {s s' : mS} {v : Option Value} (hf : mf_336 N x1 x2 x3 s = some (s', v)) (k : Q v (mH h s')) : zz_E zp_P zt_tf zt_fd X (d + 2) zm_336 0 [(0, .ref 61), (1, .int x1), (2, .int x2), (3, .int x3)] [] (mH h s) Q := by
  unfold mf_336 at hf
  exact zz_E.weak (mr_336_0 hh hf k) rfl ⟨rfl, rfl, rfl, rfl, trivial⟩
/-! join (III)V -/
theorem mb_337_0 {X : Nat → Option zz_C} {h : zz_H} (hh : 111 ≤ h.length) {s : mS} {d : Nat} {Q : Option Value → zz_H → Prop} {x1 : Int32} {x2 : Int32} {x3 : Int32} (i5 : ¬ (x3 < 0 ∨ 9000 ≤ Int32.toNatClampNeg x3)) (i15 : ¬ ((x3 + 1) < 0 ∨ 9000 ≤ Int32.toNatClampNeg (x3 + 1))) (k : zz_E zp_P zt_tf zt_fd X d zm_292 0 [(0, .ref 61), (1, .int x3)] [] (mH h s) (fun v h' => zz_E zp_P zt_tf zt_fd X (d + 1) zm_337 23 [(0, .ref 61), (1, .int x1), (2, .int x2), (3, .int x3), (4, .int ((s.2.2.1 49) (Int32.toNatClampNeg x3))), (5, .int ((s.2.2.1 49) (Int32.toNatClampNeg (x3 + 1))))] (v.toList ++ []) h' Q)) : zz_E zp_P zt_tf zt_fd X (d + 1) zm_337 0 [(0, .ref 61), (1, .int x1), (2, .int x2), (3, .int x3)] [] (mH h s) Q := by
  refine zz_E.n 1 rfl rfl rfl ?_
  refine mE_g hh 4 (v := .ref 90) rfl rfl rfl ?_
  refine zz_E.n 5 rfl rfl rfl ?_
  refine mE_ia hh 6 29 (f := (s.2.2.1 49)) rfl (by decide) rfl rfl i5 rfl ?_
  refine zz_E.n 8 rfl rfl rfl ?_
  refine zz_E.n 9 rfl rfl rfl ?_
  refine mE_g hh 12 (v := .ref 90) rfl rfl rfl ?_
  refine zz_E.n 13 rfl rfl rfl ?_
  refine zz_E.c 14 (.int 1) rfl rfl rfl rfl ?_
  refine zz_E.n 15 rfl rfl rfl ?_
  refine mE_ia hh 16 29 (f := (s.2.2.1 49)) rfl (by decide) rfl rfl i15 rfl ?_
  refine zz_E.n 18 rfl rfl rfl ?_
  refine zz_E.n 19 rfl rfl rfl ?_
  refine zz_E.n 20 rfl rfl rfl ?_
  refine mE_cv hh 23 (as := []) rfl rfl (Nat.le_of_ble_eq_true rfl) (Nat.le_of_ble_eq_true rfl) rfl (Nat.le_of_ble_eq_true rfl) rfl ?_
  refine zz_E.mono k ?_
  intro v h' hE
  exact zz_E.weak hE rfl ⟨rfl, rfl, rfl, rfl, rfl, rfl, trivial⟩
theorem mb_337_23 {X : Nat → Option zz_C} {h : zz_H} (hh : 111 ≤ h.length) {s : mS} {d : Nat} {Q : Option Value → zz_H → Prop} {x1 : Int32} {x2 : Int32} {x3 : Int32} {x4 : Int32} {x5 : Int32} {y0 : Int32} (k : zz_E zp_P zt_tf zt_fd X d zm_292 0 [(0, .ref 61), (1, .int (x3 + 1))] [] (mH h s) (fun v h' => zz_E zp_P zt_tf zt_fd X (d + 1) zm_337 32 [(0, .ref 61), (1, .int x1), (2, .int x2), (3, .int x3), (4, .int x4), (5, .int x5), (6, .int y0)] (v.toList ++ []) h' Q)) : zz_E zp_P zt_tf zt_fd X (d + 1) zm_337 23 [(0, .ref 61), (1, .int x1), (2, .int x2), (3, .int x3), (4, .int x4), (5, .int x5)] [.int y0] (mH h s) Q := by
  refine zz_E.n 25 rfl rfl rfl ?_
  refine zz_E.n 26 rfl rfl rfl ?_
  refine zz_E.n 27 rfl rfl rfl ?_
  refine zz_E.c 28 (.int 1) rfl rfl rfl rfl ?_
  refine zz_E.n 29 rfl rfl rfl ?_
  refine mE_cv hh 32 (as := []) rfl rfl (Nat.le_of_ble_eq_true rfl) (Nat.le_of_ble_eq_true rfl) rfl (Nat.le_of_ble_eq_true rfl) rfl ?_
  refine zz_E.mono k ?_
  intro v h' hE
  exact zz_E.weak hE rfl ⟨rfl, rfl, rfl, rfl, rfl, rfl, rfl, trivial⟩
theorem mb_337_32 {X : Nat → Option zz_C} {h : zz_H} (hh : 111 ≤ h.length) {s : mS} {d : Nat} {Q : Option Value → zz_H → Prop} {x1 : Int32} {x2 : Int32} {x3 : Int32} {x4 : Int32} {x5 : Int32} {x6 : Int32} {y0 : Int32} (k1 : x6 = 3 → zz_E zp_P zt_tf zt_fd X d zm_337 46 [(0, .ref 61), (1, .int x1), (2, .int x2), (3, .int x3), (4, .int x4), (5, .int x5), (6, .int x6), (7, .int y0)] [] (mH h s) Q) (k2 : ¬ x6 = 3 → zz_E zp_P zt_tf zt_fd X d zm_337 40 [(0, .ref 61), (1, .int x1), (2, .int x2), (3, .int x3), (4, .int x4), (5, .int x5), (6, .int x6), (7, .int y0)] [] (mH h s) Q) : zz_E zp_P zt_tf zt_fd X d zm_337 32 [(0, .ref 61), (1, .int x1), (2, .int x2), (3, .int x3), (4, .int x4), (5, .int x5), (6, .int x6)] [.int y0] (mH h s) Q := by
  refine zz_E.n 34 rfl rfl rfl ?_
  refine zz_E.n 36 rfl rfl rfl ?_
  refine zz_E.c 37 (.int 3) rfl rfl rfl rfl ?_
  refine zz_E.b2 46 40 (A := x6 = 3) rfl rfl (by decide) rfl rfl (fun c => ?_) (fun c => ?_)
  · exact zz_E.weak (k1 c) rfl ⟨rfl, rfl, rfl, rfl, rfl, rfl, rfl, rfl, trivial⟩
  · exact zz_E.weak (k2 c) rfl ⟨rfl, rfl, rfl, rfl, rfl, rfl, rfl, rfl, trivial⟩
theorem mb_337_40 {X : Nat → Option zz_C} {h : zz_H} (hh : 111 ≤ h.length) {s : mS} {d : Nat} {Q : Option Value → zz_H → Prop} {x1 : Int32} {x2 : Int32} {x3 : Int32} {x4 : Int32} {x5 : Int32} {x6 : Int32} {x7 : Int32} (k1 : ¬ x7 = 3 → zz_E zp_P zt_tf zt_fd X d zm_337 50 [(0, .ref 61), (1, .int x1), (2, .int x2), (3, .int x3), (4, .int x4), (5, .int x5), (6, .int x6), (7, .int x7)] [] (mH h s) Q) (k2 : ¬ ¬ x7 = 3 → zz_E zp_P zt_tf zt_fd X d zm_337 46 [(0, .ref 61), (1, .int x1), (2, .int x2), (3, .int x3), (4, .int x4), (5, .int x5), (6, .int x6), (7, .int x7)] [] (mH h s) Q) : zz_E zp_P zt_tf zt_fd X d zm_337 40 [(0, .ref 61), (1, .int x1), (2, .int x2), (3, .int x3), (4, .int x4), (5, .int x5), (6, .int x6), (7, .int x7)] [] (mH h s) Q := by
  refine zz_E.n 42 rfl rfl rfl ?_
  refine zz_E.c 43 (.int 3) rfl rfl rfl rfl ?_
  refine zz_E.b2 50 46 (A := ¬ x7 = 3) rfl (zz_cond_ne _ _) (by decide) rfl rfl (fun c => ?_) (fun c => ?_)
  · exact zz_E.weak (k1 c) rfl ⟨rfl, rfl, rfl, rfl, rfl, rfl, rfl, rfl, trivial⟩
  · exact zz_E.weak (k2 c) rfl ⟨rfl, rfl, rfl, rfl, rfl, rfl, rfl, rfl, trivial⟩
theorem mb_337_46 {X : Nat → Option zz_C} {h : zz_H} (hh : 111 ≤ h.length) {s : mS} {d : Nat} {Q : Option Value → zz_H → Prop} {x1 : Int32} {x2 : Int32} {x3 : Int32} {x4 : Int32} {x5 : Int32} {x6 : Int32} {x7 : Int32} (k : zz_E zp_P zt_tf zt_fd X d zm_337 67 [(0, .ref 61), (1, .int x1), (2, .int x2), (3, .int x3), (4, .int x4), (5, .int x5), (6, .int x6), (7, .int x7)] [.int 3] (mH h s) Q) : zz_E zp_P zt_tf zt_fd X d zm_337 46 [(0, .ref 61), (1, .int x1), (2, .int x2), (3, .int x3), (4, .int x4), (5, .int x5), (6, .int x6), (7, .int x7)] [] (mH h s) Q := by
  refine zz_E.c 47 (.int 3) rfl rfl rfl rfl ?_
  refine zz_E.n 67 rfl rfl rfl ?_
  exact zz_E.weak k rfl ⟨rfl, rfl, rfl, rfl, rfl, rfl, rfl, rfl, trivial⟩
theorem mb_337_50 {X : Nat → Option zz_C} {h : zz_H} (hh : 111 ≤ h.length) {s : mS} {d : Nat} {Q : Option Value → zz_H → Prop} {x1 : Int32} {x2 : Int32} {x3 : Int32} {x4 : Int32} {x5 : Int32} {x6 : Int32} {x7 : Int32} (k1 : x6 = 2 → zz_E zp_P zt_tf zt_fd X d zm_337 62 [(0, .ref 61), (1, .int x1), (2, .int x2), (3, .int x3), (4, .int x4), (5, .int x5), (6, .int x6), (7, .int x7)] [] (mH h s) Q) (k2 : ¬ x6 = 2 → zz_E zp_P zt_tf zt_fd X d zm_337 56 [(0, .ref 61), (1, .int x1), (2, .int x2), (3, .int x3), (4, .int x4), (5, .int x5), (6, .int x6), (7, .int x7)] [] (mH h s) Q) : zz_E zp_P zt_tf zt_fd X d zm_337 50 [(0, .ref 61), (1, .int x1), (2, .int x2), (3, .int x3), (4, .int x4), (5, .int x5), (6, .int x6), (7, .int x7)] [] (mH h s) Q := by
  refine zz_E.n 52 rfl rfl rfl ?_
  refine zz_E.c 53 (.int 2) rfl rfl rfl rfl ?_
  refine zz_E.b2 62 56 (A := x6 = 2) rfl rfl (by decide) rfl rfl (fun c => ?_) (fun c => ?_)
  · exact zz_E.weak (k1 c) rfl ⟨rfl, rfl, rfl, rfl, rfl, rfl, rfl, rfl, trivial⟩
  · exact zz_E.weak (k2 c) rfl ⟨rfl, rfl, rfl, rfl, rfl, rfl, rfl, rfl, trivial⟩
theorem mb_337_56 {X : Nat → Option zz_C} {h : zz_H} (hh : 111 ≤ h.length) {s : mS} {d : Nat} {Q : Option Value → zz_H → Prop} {x1 : Int32} {x2 : Int32} {x3 : Int32} {x4 : Int32} {x5 : Int32} {x6 : Int32} {x7 : Int32} (k1 : ¬ x7 = 2 → zz_E zp_P zt_tf zt_fd X d zm_337 66 [(0, .ref 61), (1, .int x1), (2, .int x2), (3, .int x3), (4, .int x4), (5, .int x5), (6, .int x6), (7, .int x7)] [] (mH h s) Q) (k2 : ¬ ¬ x7 = 2 → zz_E zp_P zt_tf zt_fd X d zm_337 62 [(0, .ref 61), (1, .int x1), (2, .int x2), (3, .int x3), (4, .int x4), (5, .int x5), (6, .int x6), (7, .int x7)] [] (mH h s) Q) : zz_E zp_P zt_tf zt_fd X d zm_337 56 [(0, .ref 61), (1, .int x1), (2, .int x2), (3, .int x3), (4, .int x4), (5, .int x5), (6, .int x6), (7, .int x7)] [] (mH h s) Q := by
  refine zz_E.n 58 rfl rfl rfl ?_
  refine zz_E.c 59 (.int 2) rfl rfl rfl rfl ?_
  refine zz_E.b2 66 62 (A := ¬ x7 = 2) rfl (zz_cond_ne _ _) (by decide) rfl rfl (fun c => ?_) (fun c => ?_)
  · exact zz_E.weak (k1 c) rfl ⟨rfl, rfl, rfl, rfl, rfl, rfl, rfl, rfl, trivial⟩
  · exact zz_E.weak (k2 c) rfl ⟨rfl, rfl, rfl, rfl, rfl, rfl, rfl, rfl, trivial⟩
theorem mb_337_62 {X : Nat → Option zz_C} {h : zz_H} (hh : 111 ≤ h.length) {s : mS} {d : Nat} {Q : Option Value → zz_H → Prop} {x1 : Int32} {x2 : Int32} {x3 : Int32} {x4 : Int32} {x5 : Int32} {x6 : Int32} {x7 : Int32} (k : zz_E zp_P zt_tf zt_fd X d zm_337 67 [(0, .ref 61), (1, .int x1), (2, .int x2), (3, .int x3), (4, .int x4), (5, .int x5), (6, .int x6), (7, .int x7)] [.int 2] (mH h s) Q) : zz_E zp_P zt_tf zt_fd X d zm_337 62 [(0, .ref 61), (1, .int x1), (2, .int x2), (3, .int x3), (4, .int x4), (5, .int x5), (6, .int x6), (7, .int x7)] [] (mH h s) Q := by
  refine zz_E.c 63 (.int 2) rfl rfl rfl rfl ?_
  refine zz_E.n 67 rfl rfl rfl ?_
  exact zz_E.weak k rfl ⟨rfl, rfl, rfl, rfl, rfl, rfl, rfl, rfl, trivial⟩
theorem mb_337_66 {X : Nat → Option zz_C} {h : zz_H} (hh : 111 ≤ h.length) {s : mS} {d : Nat} {Q : Option Value → zz_H → Prop} {x1 : Int32} {x2 : Int32} {x3 : Int32} {x4 : Int32} {x5 : Int32} {x6 : Int32} {x7 : Int32} (k : zz_E zp_P zt_tf zt_fd X d zm_337 67 [(0, .ref 61), (1, .int x1), (2, .int x2), (3, .int x3), (4, .int x4), (5, .int x5), (6, .int x6), (7, .int x7)] [.int 1] (mH h s) Q) : zz_E zp_P zt_tf zt_fd X d zm_337 66 [(0, .ref 61), (1, .int x1), (2, .int x2), (3, .int x3), (4, .int x4), (5, .int x5), (6, .int x6), (7, .int x7)] [] (mH h s) Q := by
  refine zz_E.c 67 (.int 1) rfl rfl rfl rfl ?_
  exact zz_E.weak k rfl ⟨rfl, rfl, rfl, rfl, rfl, rfl, rfl, rfl, trivial⟩
theorem mb_337_67 {X : Nat → Option zz_C} {h : zz_H} (hh : 111 ≤ h.length) {s : mS} {d : Nat} {Q : Option Value → zz_H → Prop} {x1 : Int32} {x2 : Int32} {x3 : Int32} {x4 : Int32} {x5 : Int32} {x6 : Int32} {x7 : Int32} {y0 : Int32} (k1 : ¬ x6 = y0 → zz_E zp_P zt_tf zt_fd X d zm_337 89 [(0, .ref 61), (2, .int x2), (3, .int x3), (5, .int x5), (7, .int x7), (8, .int y0)] [.int x1, .int x4, .ref 61] (mH h (mI s 51 x3)) Q) (k2 : ¬ ¬ x6 = y0 → zz_E zp_P zt_tf zt_fd X d zm_337 85 [(0, .ref 61), (2, .int x2), (3, .int x3), (5, .int x5), (7, .int x7), (8, .int y0)] [.int x1, .int x4, .ref 61] (mH h (mI s 51 x3)) Q) : zz_E zp_P zt_tf zt_fd X d zm_337 67 [(0, .ref 61), (1, .int x1), (2, .int x2), (3, .int x3), (4, .int x4), (5, .int x5), (6, .int x6), (7, .int x7)] [.int y0] (mH h s) Q := by
  refine zz_E.n 69 rfl rfl rfl ?_
  refine zz_E.n 70 rfl rfl rfl ?_
  refine zz_E.n 71 rfl rfl rfl ?_
  refine mE_p hh 74 rfl (by decide) rfl (mF_51 _ _) rfl ?_
  refine zz_E.n 75 rfl rfl rfl ?_
  refine zz_E.n 77 rfl rfl rfl ?_
  refine zz_E.n 78 rfl rfl rfl ?_
  refine zz_E.n 80 rfl rfl rfl ?_
  refine zz_E.n 82 rfl rfl rfl ?_
  refine zz_E.b2 89 85 (A := ¬ x6 = y0) rfl (zz_cond_ne _ _) (by decide) rfl rfl (fun c => ?_) (fun c => ?_)
  · exact zz_E.weak (k1 c) rfl ⟨rfl, rfl, rfl, rfl, rfl, rfl, trivial⟩
  · exact zz_E.weak (k2 c) rfl ⟨rfl, rfl, rfl, rfl, rfl, rfl, trivial⟩
theorem mb_337_85 {X : Nat → Option zz_C} {h : zz_H} (hh : 111 ≤ h.length) {s : mS} {d : Nat} {Q : Option Value → zz_H → Prop} {x2 : Int32} {x3 : Int32} {x5 : Int32} {x7 : Int32} {x8 : Int32} {y1 : Int32} {y2 : Int32} (k : zz_E zp_P zt_tf zt_fd X d zm_337 90 [(0, .ref 61), (2, .int x2), (3, .int x3), (5, .int x5), (7, .int x7), (8, .int x8)] [.int 1, .int y2, .int y1, .ref 61] (mH h s) Q) : zz_E zp_P zt_tf zt_fd X d zm_337 85 [(0, .ref 61), (2, .int x2), (3, .int x3), (5, .int x5), (7, .int x7), (8, .int x8)] [.int y2, .int y1, .ref 61] (mH h s) Q := by
  refine zz_E.c 86 (.int 1) rfl rfl rfl rfl ?_
  refine zz_E.n 90 rfl rfl rfl ?_
  exact zz_E.weak k rfl ⟨rfl, rfl, rfl, rfl, rfl, rfl, trivial⟩
theorem mb_337_89 {X : Nat → Option zz_C} {h : zz_H} (hh : 111 ≤ h.length) {s : mS} {d : Nat} {Q : Option Value → zz_H → Prop} {x2 : Int32} {x3 : Int32} {x5 : Int32} {x7 : Int32} {x8 : Int32} {y1 : Int32} {y2 : Int32} (k : zz_E zp_P zt_tf zt_fd X d zm_337 90 [(0, .ref 61), (2, .int x2), (3, .int x3), (5, .int x5), (7, .int x7), (8, .int x8)] [.int 0, .int y2, .int y1, .ref 61] (mH h s) Q) : zz_E zp_P zt_tf zt_fd X d zm_337 89 [(0, .ref 61), (2, .int x2), (3, .int x3), (5, .int x5), (7, .int x7), (8, .int x8)] [.int y2, .int y1, .ref 61] (mH h s) Q := by
  refine zz_E.c 90 (.int 0) rfl rfl rfl rfl ?_
  exact zz_E.weak k rfl ⟨rfl, rfl, rfl, rfl, rfl, rfl, trivial⟩
theorem mb_337_90 {X : Nat → Option zz_C} {h : zz_H} (hh : 111 ≤ h.length) {s : mS} {d : Nat} {Q : Option Value → zz_H → Prop} {x2 : Int32} {x3 : Int32} {x5 : Int32} {x7 : Int32} {x8 : Int32} {y1 : Int32} {y2 : Int32} {y3 : Int32} (k : zz_E zp_P zt_tf zt_fd X d zm_336 0 [(0, .ref 61), (1, .int y1), (2, .int y2), (3, .int y3)] [] (mH h s) (fun v h' => zz_E zp_P zt_tf zt_fd X (d + 1) zm_337 93 [(0, .ref 61), (2, .int x2), (3, .int x3), (5, .int x5), (7, .int x7), (8, .int x8)] (v.toList ++ []) h' Q)) : zz_E zp_P zt_tf zt_fd X (d + 1) zm_337 90 [(0, .ref 61), (2, .int x2), (3, .int x3), (5, .int x5), (7, .int x7), (8, .int x8)] [.int y3, .int y2, .int y1, .ref 61] (mH h s) Q := by
  refine mE_cv hh 93 (as := []) rfl rfl (Nat.le_of_ble_eq_true rfl) (Nat.le_of_ble_eq_true rfl) rfl (Nat.le_of_ble_eq_true rfl) rfl ?_
  refine zz_E.mono k ?_
  intro v h' hE
  exact zz_E.weak hE rfl ⟨rfl, rfl, rfl, rfl, rfl, rfl, trivial⟩
theorem mb_337_93 {X : Nat → Option zz_C} {h : zz_H} (hh : 111 ≤ h.length) {s : mS} {d : Nat} {Q : Option Value → zz_H → Prop} {x2 : Int32} {x3 : Int32} {x5 : Int32} {x7 : Int32} {x8 : Int32} (k1 : ¬ x7 = x8 → zz_E zp_P zt_tf zt_fd X d zm_337 108 [(0, .ref 61), (3, .int x3), (8, .int x8)] [.int x2, .int x5, .ref 61] (mH h s) Q) (k2 : ¬ ¬ x7 = x8 → zz_E zp_P zt_tf zt_fd X d zm_337 104 [(0, .ref 61), (3, .int x3), (8, .int x8)] [.int x2, .int x5, .ref 61] (mH h s) Q) : zz_E zp_P zt_tf zt_fd X d zm_337 93 [(0, .ref 61), (2, .int x2), (3, .int x3), (5, .int x5), (7, .int x7), (8, .int x8)] [] (mH h s) Q := by
  refine zz_E.n 94 rfl rfl rfl ?_
  refine zz_E.n 96 rfl rfl rfl ?_
  refine zz_E.n 97 rfl rfl rfl ?_
  refine zz_E.n 99 rfl rfl rfl ?_
  refine zz_E.n 101 rfl rfl rfl ?_
  refine zz_E.b2 108 104 (A := ¬ x7 = x8) rfl (zz_cond_ne _ _) (by decide) rfl rfl (fun c => ?_) (fun c => ?_)
  · exact zz_E.weak (k1 c) rfl ⟨rfl, rfl, rfl, trivial⟩
  · exact zz_E.weak (k2 c) rfl ⟨rfl, rfl, rfl, trivial⟩
theorem mb_337_104 {X : Nat → Option zz_C} {h : zz_H} (hh : 111 ≤ h.length) {s : mS} {d : Nat} {Q : Option Value → zz_H → Prop} {x3 : Int32} {x8 : Int32} {y1 : Int32} {y2 : Int32} (k : zz_E zp_P zt_tf zt_fd X d zm_337 109 [(0, .ref 61), (3, .int x3), (8, .int x8)] [.int 1, .int y2, .int y1, .ref 61] (mH h s) Q) : zz_E zp_P zt_tf zt_fd X d zm_337 104 [(0, .ref 61), (3, .int x3), (8, .int x8)] [.int y2, .int y1, .ref 61] (mH h s) Q := by
  refine zz_E.c 105 (.int 1) rfl rfl rfl rfl ?_
  refine zz_E.n 109 rfl rfl rfl ?_
  exact zz_E.weak k rfl ⟨rfl, rfl, rfl, trivial⟩
theorem mb_337_108 {X : Nat → Option zz_C} {h : zz_H} (hh : 111 ≤ h.length) {s : mS} {d : Nat} {Q : Option Value → zz_H → Prop} {x3 : Int32} {x8 : Int32} {y1 : Int32} {y2 : Int32} (k : zz_E zp_P zt_tf zt_fd X d zm_337 109 [(0, .ref 61), (3, .int x3), (8, .int x8)] [.int 0, .int y2, .int y1, .ref 61] (mH h s) Q) : zz_E zp_P zt_tf zt_fd X d zm_337 108 [(0, .ref 61), (3, .int x3), (8, .int x8)] [.int y2, .int y1, .ref 61] (mH h s) Q := by
  refine zz_E.c 109 (.int 0) rfl rfl rfl rfl ?_
  exact zz_E.weak k rfl ⟨rfl, rfl, rfl, trivial⟩
theorem mb_337_109 {X : Nat → Option zz_C} {h : zz_H} (hh : 111 ≤ h.length) {s : mS} {d : Nat} {Q : Option Value → zz_H → Prop} {x3 : Int32} {x8 : Int32} {y1 : Int32} {y2 : Int32} {y3 : Int32} (k : zz_E zp_P zt_tf zt_fd X d zm_336 0 [(0, .ref 61), (1, .int y1), (2, .int y2), (3, .int y3)] [] (mH h s) (fun v h' => zz_E zp_P zt_tf zt_fd X (d + 1) zm_337 112 [(0, .ref 61), (3, .int x3), (8, .int x8)] (v.toList ++ []) h' Q)) : zz_E zp_P zt_tf zt_fd X (d + 1) zm_337 109 [(0, .ref 61), (3, .int x3), (8, .int x8)] [.int y3, .int y2, .int y1, .ref 61] (mH h s) Q := by
  refine mE_cv hh 112 (as := []) rfl rfl (Nat.le_of_ble_eq_true rfl) (Nat.le_of_ble_eq_true rfl) rfl (Nat.le_of_ble_eq_true rfl) rfl ?_
  refine zz_E.mono k ?_
  intro v h' hE
  exact zz_E.weak hE rfl ⟨rfl, rfl, rfl, trivial⟩
theorem mb_337_112 {X : Nat → Option zz_C} {h : zz_H} (hh : 111 ≤ h.length) {s : mS} {d : Nat} {Q : Option Value → zz_H → Prop} {x3 : Int32} {x8 : Int32} (k : zz_E zp_P zt_tf zt_fd X d zm_305 0 [(0, .ref 61), (1, .int x8), (2, .int x3)] [] (mH h s) (fun v h' => zz_E zp_P zt_tf zt_fd X (d + 1) zm_337 119 [] (v.toList ++ []) h' Q)) : zz_E zp_P zt_tf zt_fd X (d + 1) zm_337 112 [(0, .ref 61), (3, .int x3), (8, .int x8)] [] (mH h s) Q := by
  refine zz_E.n 113 rfl rfl rfl ?_
  refine zz_E.n 115 rfl rfl rfl ?_
  refine zz_E.n 116 rfl rfl rfl ?_
  refine mE_cv hh 119 (as := []) rfl rfl (Nat.le_of_ble_eq_true rfl) (Nat.le_of_ble_eq_true rfl) rfl (Nat.le_of_ble_eq_true rfl) rfl ?_
  refine zz_E.mono k ?_
  intro v h' hE
  exact zz_E.weak hE rfl trivial
theorem mb_337_119 {X : Nat → Option zz_C} {h : zz_H} (hh : 111 ≤ h.length) {s : mS} {d : Nat} {Q : Option Value → zz_H → Prop}  (k : Q none (mH h s)) : zz_E zp_P zt_tf zt_fd X d zm_337 119 [] [] (mH h s) Q := by
  refine zz_E.ret rfl rfl rfl ?_
  exact k
def mf_337_119 (N : Nat)  (s : mS) : mO := some (s, none)
theorem mr_337_119 {X : Nat → Option zz_C} {h : zz_H} (hh : 111 ≤ h.length) {d : Nat} {N : Nat} {Q : Option Value → zz_H → Prop}  {s s' : mS} {v : Option Value} (hf : mf_337_119 N  s = some (s', v)) (k : Q v (mH h s')) : zz_E zp_P zt_tf zt_fd X (d + 4) zm_337 119 [] [] (mH h s) Q := by
  unfold mf_337_119 at hf
  cases hf
  exact mb_337_119 hh  k
def mf_337_112 (N : Nat) (x3 : Int32) (x8 : Int32) (s : mS) : mO := mo_bv (mf_305 N x8 x3 s) (fun s1 => mf_337_119 N  s1)
theorem mr_337_112 {X : Nat → Option zz_C} {h : zz_H} (hh : 111 ≤ h.length) {d : Nat} {N : Nat} {Q : Option Value → zz_H → Prop} {x3 : Int32} {x8 : Int32} {s s' : mS} {v : Option Value} (hf : mf_337_112 N x3 x8 s = some (s', v)) (k : Q v (mH h s')) : zz_E zp_P zt_tf zt_fd X (d + 4) zm_337 112 [(0, .ref 61), (3, .int x3), (8, .int x8)] [] (mH h s) Q := by
  unfold mf_337_112 at hf
  obtain ⟨s1, e, hf⟩ := mo_bv_ok hf
  exact mb_337_112 (d := d + 3) hh  (mr_305 (d := d + 0) hh e (mr_337_119 hh hf k))
def mf_337_109 (N : Nat) (x3 : Int32) (x8 : Int32) (y1 : Int32) (y2 : Int32) (y3 : Int32) (s : mS) : mO := mo_bv (mf_336 N y1 y2 y3 s) (fun s1 => mf_337_112 N x3 x8 s1)
theorem mr_337_109 {X : Nat → Option zz_C} {h : zz_H} (hh : 111 ≤ h.length) {d : Nat} {N : Nat} {Q : Option Value → zz_H → Prop} {x3 : Int32} {x8 : Int32} {y1 : Int32} {y2 : Int32} {y3 : Int32} {s s' : mS} {v : Option Value} (hf : mf_337_109 N x3 x8 y1 y2 y3 s = some (s', v)) (k : Q v (mH h s')) : zz_E zp_P zt_tf zt_fd X (d + 4) zm_337 109 [(0, .ref 61), (3, .int x3), (8, .int x8)] [.int y3, .int y2, .int y1, .ref 61] (mH h s) Q := by
  unfold mf_337_109 at hf
  obtain ⟨s1, e, hf⟩ := mo_bv_ok hf
  exact mb_337_109 (d := d + 3) hh  (mr_336 (d := d + 1) hh e (mr_337_112 hh hf k))
def mf_337_108 (N : Nat) (x3 : Int32) (x8 : Int32) (y1 : Int32) (y2 : Int32) (s : mS) : mO := mf_337_109 N x3 x8 y1 y2 0 s
theorem mr_337_108 {X : Nat → Option zz_C} {h : zz_H} (hh : 111 ≤ h.length) {d : Nat} {N : Nat} {Q : Option Value → zz_H → Prop} {x3 : Int32} {x8 : Int32} {y1 : Int32} {y2 : Int32} {s s' : mS} {v : Option Value} (hf : mf_337_108 N x3 x8 y1 y2 s = some (s', v)) (k : Q v (mH h s')) : zz_E zp_P zt_tf zt_fd X (d + 4) zm_337 108 [(0, .ref 61), (3, .int x3), (8, .int x8)] [.int y2, .int y1, .ref 61] (mH h s) Q := by
  unfold mf_337_108 at hf
  exact mb_337_108 hh  (mr_337_109 hh hf k)
def mf_337_104 (N : Nat) (x3 : Int32) (x8 : Int32) (y1 : Int32) (y2 : Int32) (s : mS) : mO := mf_337_109 N x3 x8 y1 y2 1 s
theorem mr_337_104 {X : Nat → Option zz_C} {h : zz_H} (hh : 111 ≤ h.length) {d : Nat} {N : Nat} {Q : Option Value → zz_H → Prop} {x3 : Int32} {x8 : Int32} {y1 : Int32} {y2 : Int32} {s s' : mS} {v : Option Value} (hf : mf_337_104 N x3 x8 y1 y2 s = some (s', v)) (k : Q v (mH h s')) : zz_E zp_P zt_tf zt_fd X (d + 4) zm_337 104 [(0, .ref 61), (3, .int x3), (8, .int x8)] [.int y2, .int y1, .ref 61] (mH h s) Q := by
  unfold mf_337_104 at hf
  exact mb_337_104 hh  (mr_337_109 hh hf k)
def mf_337_93 (N : Nat) (x2 : Int32) (x3 : Int32) (x5 : Int32) (x7 : Int32) (x8 : Int32) (s : mS) : mO := if ¬ x7 = x8 then mf_337_108 N x3 x8 x5 x2 s else mf_337_104 N x3 x8 x5 x2 s
theorem mr_337_93 {X : Nat → Option zz_C} {h : zz_H} (hh : 111 ≤ h.length) {d : Nat} {N : Nat} {Q : Option Value → zz_H → Prop} {x2 : Int32} {x3 : Int32} {x5 : Int32} {x7 : Int32} {x8 : Int32} {s s' : mS} {v : Option Value} (hf : mf_337_93 N x2 x3 x5 x7 x8 s = some (s', v)) (k : Q v (mH h s')) : zz_E zp_P zt_tf zt_fd X (d + 4) zm_337 93 [(0, .ref 61), (2, .int x2), (3, .int x3), (5, .int x5), (7, .int x7), (8, .int x8)] [] (mH h s) Q := by
  unfold mf_337_93 at hf
  refine mb_337_93 hh  (fun c => ?_) (fun c => ?_)
  · rw [if_pos c] at hf
    exact mr_337_108 hh hf k
  · rw [if_neg c] at hf
    exact mr_337_104 hh hf k
def mf_337_90 (N : Nat) (x2 : Int32) (x3 : Int32) (x5 : Int32) (x7 : Int32) (x8 : Int32) (y1 : Int32) (y2 : Int32) (y3 : Int32) (s : mS) : mO := mo_bv (mf_336 N y1 y2 y3 s) (fun s1 => mf_337_93 N x2 x3 x5 x7 x8 s1)
theorem mr_337_90 {X : Nat → Option zz_C} {h : zz_H} (hh : 111 ≤ h.length) {d : Nat} {N : Nat} {Q : Option Value → zz_H → Prop} {x2 : Int32} {x3 : Int32} {x5 : Int32} {x7 : Int32} {x8 : Int32} {y1 : Int32} {y2 : Int32} {y3 : Int32} {s s' : mS} {v : Option Value} (hf : mf_337_90 N x2 x3 x5 x7 x8 y1 y2 y3 s = some (s', v)) (k : Q v (mH h s')) : zz_E zp_P zt_tf zt_fd X (d + 4) zm_337 90 [(0, .ref 61), (2, .int x2), (3, .int x3), (5, .int x5), (7, .int x7), (8, .int x8)] [.int y3, .int y2, .int y1, .ref 61] (mH h s) Q := by
  unfold mf_337_90 at hf
  obtain ⟨s1, e, hf⟩ := mo_bv_ok hf
  exact mb_337_90 (d := d + 3) hh  (mr_336 (d := d + 1) hh e (mr_337_93 hh hf k))
def mf_337_89 (N : Nat) (x2 : Int32) (x3 : Int32) (x5 : Int32) (x7 : Int32) (x8 : Int32) (y1 : Int32) (y2 : Int32) (s : mS) : mO := mf_337_90 N x2 x3 x5 x7 x8 y1 y2 0 s
theorem mr_337_89 {X : Nat → Option zz_C} {h : zz_H} (hh : 111 ≤ h.length) {d : Nat} {N : Nat} {Q : Option Value → zz_H → Prop} {x2 : Int32} {x3 : Int32} {x5 : Int32} {x7 : Int32} {x8 : Int32} {y1 : Int32} {y2 : Int32} {s s' : mS} {v : Option Value} (hf : mf_337_89 N x2 x3 x5 x7 x8 y1 y2 s = some (s', v)) (k : Q v (mH h s')) : zz_E zp_P zt_tf zt_fd X (d + 4) zm_337 89 [(0, .ref 61), (2, .int x2), (3, .int x3), (5, .int x5), (7, .int x7), (8, .int x8)] [.int y2, .int y1, .ref 61] (mH h s) Q := by
  unfold mf_337_89 at hf
  exact mb_337_89 hh  (mr_337_90 hh hf k)
def mf_337_85 (N : Nat) (x2 : Int32) (x3 : Int32) (x5 : Int32) (x7 : Int32) (x8 : Int32) (y1 : Int32) (y2 : Int32) (s : mS) : mO := mf_337_90 N x2 x3 x5 x7 x8 y1 y2 1 s
theorem mr_337_85 {X : Nat → Option zz_C} {h : zz_H} (hh : 111 ≤ h.length) {d : Nat} {N : Nat} {Q : Option Value → zz_H → Prop} {x2 : Int32} {x3 : Int32} {x5 : Int32} {x7 : Int32} {x8 : Int32} {y1 : Int32} {y2 : Int32} {s s' : mS} {v : Option Value} (hf : mf_337_85 N x2 x3 x5 x7 x8 y1 y2 s = some (s', v)) (k : Q v (mH h s')) : zz_E zp_P zt_tf zt_fd X (d + 4) zm_337 85 [(0, .ref 61), (2, .int x2), (3, .int x3), (5, .int x5), (7, .int x7), (8, .int x8)] [.int y2, .int y1, .ref 61] (mH h s) Q := by
  unfold mf_337_85 at hf
  exact mb_337_85 hh  (mr_337_90 hh hf k)
def mf_337_67 (N : Nat) (x1 : Int32) (x2 : Int32) (x3 : Int32) (x4 : Int32) (x5 : Int32) (x6 : Int32) (x7 : Int32) (y0 : Int32) (s : mS) : mO := if ¬ x6 = y0 then mf_337_89 N x2 x3 x5 x7 y0 x4 x1 (mI s 51 x3) else mf_337_85 N x2 x3 x5 x7 y0 x4 x1 (mI s 51 x3)
theorem mr_337_67 {X : Nat → Option zz_C} {h : zz_H} (hh : 111 ≤ h.length) {d : Nat} {N : Nat} {Q : Option Value → zz_H → Prop} {x1 : Int32} {x2 : Int32} {x3 : Int32} {x4 : Int32} {x5 : Int32} {x6 : Int32} {x7 : Int32} {y0 : Int32} {s s' : mS} {v : Option Value} (hf : mf_337_67 N x1 x2 x3 x4 x5 x6 x7 y0 s = some (s', v)) (k : Q v (mH h s')) : zz_E zp_P zt_tf zt_fd X (d + 4) zm_337 67 [(0, .ref 61), (1, .int x1), (2, .int x2), (3, .int x3), (4, .int x4), (5, .int x5), (6, .int x6), (7, .int x7)] [.int y0] (mH h s) Q := by
  unfold mf_337_67 at hf
  refine mb_337_67 hh  (fun c => ?_) (fun c => ?_)
  · rw [if_pos c] at hf
    exact mr_337_89 hh hf k
  · rw [if_neg c] at hf
    exact mr_337_85 hh hf k
def mf_337_46 (N : Nat) (x1 : Int32) (x2 : Int32) (x3 : Int32) (x4 : Int32) (x5 : Int32) (x6 : Int32) (x7 : Int32) (s : mS) : mO := mf_337_67 N x1 x2 x3 x4 x5 x6 x7 3 s
theorem mr_337_46 {X : Nat → Option zz_C} {h : zz_H} (hh : 111 ≤ h.length) {d : Nat} {N : Nat} {Q : Option Value → zz_H → Prop} {x1 : Int32} {x2 : Int32} {x3 : Int32} {x4 : Int32} {x5 : Int32} {x6 : Int32} {x7 : Int32} {s s' : mS} {v : Option Value} (hf : mf_337_46 N x1 x2 x3 x4 x5 x6 x7 s = some (s', v)) (k : Q v (mH h s')) : zz_E zp_P zt_tf zt_fd X (d + 4) zm_337 46 [(0, .ref 61), (1, .int x1), (2, .int x2), (3, .int x3), (4, .int x4), (5, .int x5), (6, .int x6), (7, .int x7)] [] (mH h s) Q := by
  unfold mf_337_46 at hf
  exact mb_337_46 hh  (mr_337_67 hh hf k)
def mf_337_62 (N : Nat) (x1 : Int32) (x2 : Int32) (x3 : Int32) (x4 : Int32) (x5 : Int32) (x6 : Int32) (x7 : Int32) (s : mS) : mO := mf_337_67 N x1 x2 x3 x4 x5 x6 x7 2 s
theorem mr_337_62 {X : Nat → Option zz_C} {h : zz_H} (hh : 111 ≤ h.length) {d : Nat} {N : Nat} {Q : Option Value → zz_H → Prop} {x1 : Int32} {x2 : Int32} {x3 : Int32} {x4 : Int32} {x5 : Int32} {x6 : Int32} {x7 : Int32} {s s' : mS} {v : Option Value} (hf : mf_337_62 N x1 x2 x3 x4 x5 x6 x7 s = some (s', v)) (k : Q v (mH h s')) : zz_E zp_P zt_tf zt_fd X (d + 4) zm_337 62 [(0, .ref 61), (1, .int x1), (2, .int x2), (3, .int x3), (4, .int x4), (5, .int x5), (6, .int x6), (7, .int x7)] [] (mH h s) Q := by
  unfold mf_337_62 at hf
  exact mb_337_62 hh  (mr_337_67 hh hf k)
def mf_337_66 (N : Nat) (x1 : Int32) (x2 : Int32) (x3 : Int32) (x4 : Int32) (x5 : Int32) (x6 : Int32) (x7 : Int32) (s : mS) : mO := mf_337_67 N x1 x2 x3 x4 x5 x6 x7 1 s
theorem mr_337_66 {X : Nat → Option zz_C} {h : zz_H} (hh : 111 ≤ h.length) {d : Nat} {N : Nat} {Q : Option Value → zz_H → Prop} {x1 : Int32} {x2 : Int32} {x3 : Int32} {x4 : Int32} {x5 : Int32} {x6 : Int32} {x7 : Int32} {s s' : mS} {v : Option Value} (hf : mf_337_66 N x1 x2 x3 x4 x5 x6 x7 s = some (s', v)) (k : Q v (mH h s')) : zz_E zp_P zt_tf zt_fd X (d + 4) zm_337 66 [(0, .ref 61), (1, .int x1), (2, .int x2), (3, .int x3), (4, .int x4), (5, .int x5), (6, .int x6), (7, .int x7)] [] (mH h s) Q := by
  unfold mf_337_66 at hf
  exact mb_337_66 hh  (mr_337_67 hh hf k)
def mf_337_56 (N : Nat) (x1 : Int32) (x2 : Int32) (x3 : Int32) (x4 : Int32) (x5 : Int32) (x6 : Int32) (x7 : Int32) (s : mS) : mO := if ¬ x7 = 2 then mf_337_66 N x1 x2 x3 x4 x5 x6 x7 s else mf_337_62 N x1 x2 x3 x4 x5 x6 x7 s
theorem mr_337_56 {X : Nat → Option zz_C} {h : zz_H} (hh : 111 ≤ h.length) {d : Nat} {N : Nat} {Q : Option Value → zz_H → Prop} {x1 : Int32} {x2 : Int32} {x3 : Int32} {x4 : Int32} {x5 : Int32} {x6 : Int32} {x7 : Int32} {s s' : mS} {v : Option Value} (hf : mf_337_56 N x1 x2 x3 x4 x5 x6 x7 s = some (s', v)) (k : Q v (mH h s')) : zz_E zp_P zt_tf zt_fd X (d + 4) zm_337 56 [(0, .ref 61), (1, .int x1), (2, .int x2), (3, .int x3), (4, .int x4), (5, .int x5), (6, .int x6), (7, .int x7)] [] (mH h s) Q := by
  unfold mf_337_56 at hf
  refine mb_337_56 hh  (fun c => ?_) (fun c => ?_)
  · rw [if_pos c] at hf
    exact mr_337_66 hh hf k
  · rw [if_neg c] at hf
    exact mr_337_62 hh hf k
def mf_337_50 (N : Nat) (x1 : Int32) (x2 : Int32) (x3 : Int32) (x4 : Int32) (x5 : Int32) (x6 : Int32) (x7 : Int32) (s : mS) : mO := if x6 = 2 then mf_337_62 N x1 x2 x3 x4 x5 x6 x7 s else mf_337_56 N x1 x2 x3 x4 x5 x6 x7 s
theorem mr_337_50 {X : Nat → Option zz_C} {h : zz_H} (hh : 111 ≤ h.length) {d : Nat} {N : Nat} {Q : Option Value → zz_H → Prop} {x1 : Int32} {x2 : Int32} {x3 : Int32} {x4 : Int32} {x5 : Int32} {x6 : Int32} {x7 : Int32} {s s' : mS} {v : Option Value} (hf : mf_337_50 N x1 x2 x3 x4 x5 x6 x7 s = some (s', v)) (k : Q v (mH h s')) : zz_E zp_P zt_tf zt_fd X (d + 4) zm_337 50 [(0, .ref 61), (1, .int x1), (2, .int x2), (3, .int x3), (4, .int x4), (5, .int x5), (6, .int x6), (7, .int x7)] [] (mH h s) Q := by
  unfold mf_337_50 at hf
  refine mb_337_50 hh  (fun c => ?_) (fun c => ?_)
  · rw [if_pos c] at hf
    exact mr_337_62 hh hf k
  · rw [if_neg c] at hf
    exact mr_337_56 hh hf k
def mf_337_40 (N : Nat) (x1 : Int32) (x2 : Int32) (x3 : Int32) (x4 : Int32) (x5 : Int32) (x6 : Int32) (x7 : Int32) (s : mS) : mO := if ¬ x7 = 3 then mf_337_50 N x1 x2 x3 x4 x5 x6 x7 s else mf_337_46 N x1 x2 x3 x4 x5 x6 x7 s
theorem mr_337_40 {X : Nat → Option zz_C} {h : zz_H} (hh : 111 ≤ h.length) {d : Nat} {N : Nat} {Q : Option Value → zz_H → Prop} {x1 : Int32} {x2 : Int32} {x3 : Int32} {x4 : Int32} {x5 : Int32} {x6 : Int32} {x7 : Int32} {s s' : mS} {v : Option Value} (hf : mf_337_40 N x1 x2 x3 x4 x5 x6 x7 s = some (s', v)) (k : Q v (mH h s')) : zz_E zp_P zt_tf zt_fd X (d + 4) zm_337 40 [(0, .ref 61), (1, .int x1), (2, .int x2), (3, .int x3), (4, .int x4), (5, .int x5), (6, .int x6), (7, .int x7)] [] (mH h s) Q := by
  unfold mf_337_40 at hf
  refine mb_337_40 hh  (fun c => ?_) (fun c => ?_)
  · rw [if_pos c] at hf
    exact mr_337_50 hh hf k
  · rw [if_neg c] at hf
    exact mr_337_46 hh hf k
def mf_337_32 (N : Nat) (x1 : Int32) (x2 : Int32) (x3 : Int32) (x4 : Int32) (x5 : Int32) (x6 : Int32) (y0 : Int32) (s : mS) : mO := if x6 = 3 then mf_337_46 N x1 x2 x3 x4 x5 x6 y0 s else mf_337_40 N x1 x2 x3 x4 x5 x6 y0 s
theorem mr_337_32 {X : Nat → Option zz_C} {h : zz_H} (hh : 111 ≤ h.length) {d : Nat} {N : Nat} {Q : Option Value → zz_H → Prop} {x1 : Int32} {x2 : Int32} {x3 : Int32} {x4 : Int32} {x5 : Int32} {x6 : Int32} {y0 : Int32} {s s' : mS} {v : Option Value} (hf : mf_337_32 N x1 x2 x3 x4 x5 x6 y0 s = some (s', v)) (k : Q v (mH h s')) : zz_E zp_P zt_tf zt_fd X (d + 4) zm_337 32 [(0, .ref 61), (1, .int x1), (2, .int x2), (3, .int x3), (4, .int x4), (5, .int x5), (6, .int x6)] [.int y0] (mH h s) Q := by
  unfold mf_337_32 at hf
  refine mb_337_32 hh  (fun c => ?_) (fun c => ?_)
  · rw [if_pos c] at hf
    exact mr_337_46 hh hf k
  · rw [if_neg c] at hf
    exact mr_337_40 hh hf k
def mf_337_23 (N : Nat) (x1 : Int32) (x2 : Int32) (x3 : Int32) (x4 : Int32) (x5 : Int32) (y0 : Int32) (s : mS) : mO := mo_bi (mf_292 N (x3 + 1) s) (fun s1 y => mf_337_32 N x1 x2 x3 x4 x5 y0 y s1)
theorem mr_337_23 {X : Nat → Option zz_C} {h : zz_H} (hh : 111 ≤ h.length) {d : Nat} {N : Nat} {Q : Option Value → zz_H → Prop} {x1 : Int32} {x2 : Int32} {x3 : Int32} {x4 : Int32} {x5 : Int32} {y0 : Int32} {s s' : mS} {v : Option Value} (hf : mf_337_23 N x1 x2 x3 x4 x5 y0 s = some (s', v)) (k : Q v (mH h s')) : zz_E zp_P zt_tf zt_fd X (d + 4) zm_337 23 [(0, .ref 61), (1, .int x1), (2, .int x2), (3, .int x3), (4, .int x4), (5, .int x5)] [.int y0] (mH h s) Q := by
  unfold mf_337_23 at hf
  obtain ⟨s1, y, e, hf⟩ := mo_bi_ok hf
  exact mb_337_23 (d := d + 3) hh  (mr_292 (d := d + 3) hh e (mr_337_32 hh hf k))
def mf_337_0 (N : Nat) (x1 : Int32) (x2 : Int32) (x3 : Int32) (s : mS) : mO := if ¬ (x3 < 0 ∨ 9000 ≤ Int32.toNatClampNeg x3) then (if ¬ ((x3 + 1) < 0 ∨ 9000 ≤ Int32.toNatClampNeg (x3 + 1)) then (mo_bi (mf_292 N x3 s) (fun s1 y => mf_337_23 N x1 x2 x3 ((s.2.2.1 49) (Int32.toNatClampNeg x3)) ((s.2.2.1 49) (Int32.toNatClampNeg (x3 + 1))) y s1)) else none) else none
theorem mr_337_0 {X : Nat → Option zz_C} {h : zz_H} (hh : 111 ≤ h.length) {d : Nat} {N : Nat} {Q : Option Value → zz_H → Prop} {x1 : Int32} {x2 : Int32} {x3 : Int32} {s s' : mS} {v : Option Value} (hf : mf_337_0 N x1 x2 x3 s = some (s', v)) (k : Q v (mH h s')) : zz_E zp_P zt_tf zt_fd X (d + 4) zm_337 0 [(0, .ref 61), (1, .int x1), (2, .int x2), (3, .int x3)] [] (mH h s) Q := by
  unfold mf_337_0 at hf
  obtain ⟨q0, hf⟩ := mo_if hf
  obtain ⟨q1, hf⟩ := mo_if hf
  obtain ⟨s1, y, e, hf⟩ := mo_bi_ok hf
  exact mb_337_0 (d := d + 3) hh q0 q1 (mr_292 (d := d + 3) hh e (mr_337_23 hh hf k))
/-- join -/
def mf_337 (N : Nat) (x1 : Int32) (x2 : Int32) (x3 : Int32) (s : mS) : mO := mf_337_0 N x1 x2 x3 s
theorem mr_337 {X : Nat → Option zz_C} {h : zz_H} (hh : 111 ≤ h.length) {d : Nat} {N : Nat} {Q : Option Value → zz_H → Prop} {x1 : Int32} {x2 : Int32} {x3 : Int32} {s s' : mS} {v : Option Value} (hf : mf_337 N x1 x2 x3 s = some (s', v)) (k : Q v (mH h s')) : zz_E zp_P zt_tf zt_fd X (d + 4) zm_337 0 [(0, .ref 61), (1, .int x1), (2, .int x2), (3, .int x3)] [] (mH h s) Q := by
  unfold mf_337 at hf
  exact zz_E.weak (mr_337_0 hh hf k) rfl ⟨rfl, rfl, rfl, rfl, trivial⟩
/-! ends2 (IIII)V -/
theorem mb_338_0 {X : Nat → Option zz_C} {h : zz_H} (hh : 111 ≤ h.length) {s : mS} {d : Nat} {Q : Option Value → zz_H → Prop} {x1 : Int32} {x2 : Int32} {x3 : Int32} {x4 : Int32} (i5 : ¬ (x3 < 0 ∨ 166300 ≤ Int32.toNatClampNeg x3)) (k : zz_E zp_P zt_tf zt_fd X d zm_77 0 [(0, .ref 61), (1, .int x3)] [] (mH h s) (fun v h' => zz_E zp_P zt_tf zt_fd X (d + 1) zm_338 13 [(0, .ref 61), (1, .int x1), (2, .int x2), (3, .int x3), (4, .int x4), (5, .int ((s.2.2.1 47) (Int32.toNatClampNeg x3)))] (v.toList ++ []) h' Q)) : zz_E zp_P zt_tf zt_fd X (d + 1) zm_338 0 [(0, .ref 61), (1, .int x1), (2, .int x2), (3, .int x3), (4, .int x4)] [] (mH h s) Q := by
  refine zz_E.n 1 rfl rfl rfl ?_
  refine mE_g hh 4 (v := .ref 89) rfl rfl rfl ?_
  refine zz_E.n 5 rfl rfl rfl ?_
  refine mE_ia hh 6 28 (f := (s.2.2.1 47)) rfl (by decide) rfl rfl i5 rfl ?_
  refine zz_E.n 8 rfl rfl rfl ?_
  refine zz_E.n 9 rfl rfl rfl ?_
  refine zz_E.n 10 rfl rfl rfl ?_
  refine mE_cv hh 13 (as := []) rfl rfl (Nat.le_of_ble_eq_true rfl) (Nat.le_of_ble_eq_true rfl) rfl (Nat.le_of_ble_eq_true rfl) rfl ?_
  refine zz_E.mono k ?_
  intro v h' hE
  exact zz_E.weak hE rfl ⟨rfl, rfl, rfl, rfl, rfl, rfl, trivial⟩
theorem mb_338_13 {X : Nat → Option zz_C} {h : zz_H} (hh : 111 ≤ h.length) {s : mS} {d : Nat} {Q : Option Value → zz_H → Prop} {x1 : Int32} {x2 : Int32} {x3 : Int32} {x4 : Int32} {x5 : Int32} {y0 : Int32} (k1 : 0 ≤ x2 → zz_E zp_P zt_tf zt_fd X d zm_338 25 [(0, .ref 61), (1, .int x1), (2, .int x2), (3, .int x3), (4, .int x4), (5, .int x5), (6, .int y0)] [] (mH h s) Q) (k2 : ¬ 0 ≤ x2 → zz_E zp_P zt_tf zt_fd X d zm_338 19 [(0, .ref 61), (1, .int x1), (2, .int x2), (3, .int x3), (4, .int x4), (5, .int x5), (6, .int y0)] [] (mH h s) Q) : zz_E zp_P zt_tf zt_fd X d zm_338 13 [(0, .ref 61), (1, .int x1), (2, .int x2), (3, .int x3), (4, .int x4), (5, .int x5)] [.int y0] (mH h s) Q := by
  refine zz_E.n 15 rfl rfl rfl ?_
  refine zz_E.n 16 rfl rfl rfl ?_
  refine zz_E.b1 25 19 (A := 0 ≤ x2) rfl rfl (by decide) rfl rfl (fun c => ?_) (fun c => ?_)
  · exact zz_E.weak (k1 c) rfl ⟨rfl, rfl, rfl, rfl, rfl, rfl, rfl, trivial⟩
  · exact zz_E.weak (k2 c) rfl ⟨rfl, rfl, rfl, rfl, rfl, rfl, rfl, trivial⟩
theorem mb_338_19 {X : Nat → Option zz_C} {h : zz_H} (hh : 111 ≤ h.length) {s : mS} {d : Nat} {Q : Option Value → zz_H → Prop} {x1 : Int32} {x2 : Int32} {x3 : Int32} {x4 : Int32} {x5 : Int32} {x6 : Int32} (k : zz_E zp_P zt_tf zt_fd X d zm_338 27 [(0, .ref 61), (1, .int x1), (2, .int x2), (3, .int x3), (4, .int x4), (5, .int x5), (6, .int x6)] [.long (-(Int32.toInt64 x2))] (mH h s) Q) : zz_E zp_P zt_tf zt_fd X d zm_338 19 [(0, .ref 61), (1, .int x1), (2, .int x2), (3, .int x3), (4, .int x4), (5, .int x5), (6, .int x6)] [] (mH h s) Q := by
  refine zz_E.n 20 rfl rfl rfl ?_
  refine zz_E.n 21 rfl rfl rfl ?_
  refine zz_E.n 22 rfl rfl rfl ?_
  refine zz_E.n 27 rfl rfl rfl ?_
  exact zz_E.weak k rfl ⟨rfl, rfl, rfl, rfl, rfl, rfl, rfl, trivial⟩
theorem mb_338_25 {X : Nat → Option zz_C} {h : zz_H} (hh : 111 ≤ h.length) {s : mS} {d : Nat} {Q : Option Value → zz_H → Prop} {x1 : Int32} {x2 : Int32} {x3 : Int32} {x4 : Int32} {x5 : Int32} {x6 : Int32} (k : zz_E zp_P zt_tf zt_fd X d zm_338 27 [(0, .ref 61), (1, .int x1), (2, .int x2), (3, .int x3), (4, .int x4), (5, .int x5), (6, .int x6)] [.long (Int32.toInt64 x2)] (mH h s) Q) : zz_E zp_P zt_tf zt_fd X d zm_338 25 [(0, .ref 61), (1, .int x1), (2, .int x2), (3, .int x3), (4, .int x4), (5, .int x5), (6, .int x6)] [] (mH h s) Q := by
  refine zz_E.n 26 rfl rfl rfl ?_
  refine zz_E.n 27 rfl rfl rfl ?_
  exact zz_E.weak k rfl ⟨rfl, rfl, rfl, rfl, rfl, rfl, rfl, trivial⟩
theorem mb_338_27 {X : Nat → Option zz_C} {h : zz_H} (hh : 111 ≤ h.length) {s : mS} {d : Nat} {Q : Option Value → zz_H → Prop} {x1 : Int32} {x2 : Int32} {x3 : Int32} {x4 : Int32} {x5 : Int32} {x6 : Int32} {y0 : Int64} (k1 : ¬ x1 = 20 → zz_E zp_P zt_tf zt_fd X d zm_338 66 [(0, .ref 61), (1, .int x1), (2, .int x2), (3, .int x3), (4, .int x4), (5, .int x5), (6, .int x6), (7, .long y0)] [] (mH h s) Q) (k2 : ¬ ¬ x1 = 20 → zz_E zp_P zt_tf zt_fd X d zm_338 35 [(0, .ref 61), (1, .int x1), (2, .int x2), (3, .int x3), (4, .int x4), (5, .int x5), (6, .int x6), (7, .long y0)] [] (mH h s) Q) : zz_E zp_P zt_tf zt_fd X d zm_338 27 [(0, .ref 61), (1, .int x1), (2, .int x2), (3, .int x3), (4, .int x4), (5, .int x5), (6, .int x6)] [.long y0] (mH h s) Q := by
  refine zz_E.n 29 rfl rfl rfl ?_
  refine zz_E.n 30 rfl rfl rfl ?_
  refine zz_E.c 32 (.int 20) rfl rfl rfl rfl ?_
  refine zz_E.b2 66 35 (A := ¬ x1 = 20) rfl (zz_cond_ne _ _) (by decide) rfl rfl (fun c => ?_) (fun c => ?_)
  · exact zz_E.weak (k1 c) rfl ⟨rfl, rfl, rfl, rfl, rfl, rfl, rfl, rfl, trivial⟩
  · exact zz_E.weak (k2 c) rfl ⟨rfl, rfl, rfl, rfl, rfl, rfl, rfl, rfl, trivial⟩
theorem mb_338_35 {X : Nat → Option zz_C} {h : zz_H} (hh : 111 ≤ h.length) {s : mS} {d : Nat} {Q : Option Value → zz_H → Prop} {x1 : Int32} {x2 : Int32} {x3 : Int32} {x4 : Int32} {x5 : Int32} {x6 : Int32} {x7 : Int64} (k1 : ¬ x5 = 1 → zz_E zp_P zt_tf zt_fd X d zm_338 49 [(0, .ref 61), (1, .int x1), (2, .int x2), (3, .int x3), (4, .int x4), (5, .int x5), (6, .int x6), (7, .long x7)] [.long x7] (mH h s) Q) (k2 : ¬ ¬ x5 = 1 → zz_E zp_P zt_tf zt_fd X d zm_338 43 [(0, .ref 61), (1, .int x1), (2, .int x2), (3, .int x3), (4, .int x4), (5, .int x5), (6, .int x6), (7, .long x7)] [.long x7] (mH h s) Q) : zz_E zp_P zt_tf zt_fd X d zm_338 35 [(0, .ref 61), (1, .int x1), (2, .int x2), (3, .int x3), (4, .int x4), (5, .int x5), (6, .int x6), (7, .long x7)] [] (mH h s) Q := by
  refine zz_E.n 37 rfl rfl rfl ?_
  refine zz_E.n 39 rfl rfl rfl ?_
  refine zz_E.c 40 (.int 1) rfl rfl rfl rfl ?_
  refine zz_E.b2 49 43 (A := ¬ x5 = 1) rfl (zz_cond_ne _ _) (by decide) rfl rfl (fun c => ?_) (fun c => ?_)
  · exact zz_E.weak (k1 c) rfl ⟨rfl, rfl, rfl, rfl, rfl, rfl, rfl, rfl, trivial⟩
  · exact zz_E.weak (k2 c) rfl ⟨rfl, rfl, rfl, rfl, rfl, rfl, rfl, rfl, trivial⟩
theorem mb_338_43 {X : Nat → Option zz_C} {h : zz_H} (hh : 111 ≤ h.length) {s : mS} {d : Nat} {Q : Option Value → zz_H → Prop} {x1 : Int32} {x2 : Int32} {x3 : Int32} {x4 : Int32} {x5 : Int32} {x6 : Int32} {x7 : Int64} {y0 : Int64} (k : zz_E zp_P zt_tf zt_fd X d zm_338 52 [(0, .ref 61), (1, .int x1), (2, .int x2), (3, .int x3), (4, .int x4), (5, .int x5), (6, .int x6), (7, .long x7)] [.long 64, .long y0] (mH h s) Q) : zz_E zp_P zt_tf zt_fd X d zm_338 43 [(0, .ref 61), (1, .int x1), (2, .int x2), (3, .int x3), (4, .int x4), (5, .int x5), (6, .int x6), (7, .long x7)] [.long y0] (mH h s) Q := by
  refine zz_E.c 46 (.long 64) rfl rfl rfl rfl ?_
  refine zz_E.n 52 rfl rfl rfl ?_
  exact zz_E.weak k rfl ⟨rfl, rfl, rfl, rfl, rfl, rfl, rfl, rfl, trivial⟩
theorem mb_338_49 {X : Nat → Option zz_C} {h : zz_H} (hh : 111 ≤ h.length) {s : mS} {d : Nat} {Q : Option Value → zz_H → Prop} {x1 : Int32} {x2 : Int32} {x3 : Int32} {x4 : Int32} {x5 : Int32} {x6 : Int32} {x7 : Int64} {y0 : Int64} (k : zz_E zp_P zt_tf zt_fd X d zm_338 52 [(0, .ref 61), (1, .int x1), (2, .int x2), (3, .int x3), (4, .int x4), (5, .int x5), (6, .int x6), (7, .long x7)] [.long 20, .long y0] (mH h s) Q) : zz_E zp_P zt_tf zt_fd X d zm_338 49 [(0, .ref 61), (1, .int x1), (2, .int x2), (3, .int x3), (4, .int x4), (5, .int x5), (6, .int x6), (7, .long x7)] [.long y0] (mH h s) Q := by
  refine zz_E.c 52 (.long 20) rfl rfl rfl rfl ?_
  exact zz_E.weak k rfl ⟨rfl, rfl, rfl, rfl, rfl, rfl, rfl, rfl, trivial⟩
theorem mb_338_52 {X : Nat → Option zz_C} {h : zz_H} (hh : 111 ≤ h.length) {s : mS} {d : Nat} {Q : Option Value → zz_H → Prop} {x1 : Int32} {x2 : Int32} {x3 : Int32} {x4 : Int32} {x5 : Int32} {x6 : Int32} {x7 : Int64} {y0 : Int64} {y1 : Int64} (k1 : (lg_cmp y0 y1) ≤ 0 → zz_E zp_P zt_tf zt_fd X d zm_338 66 [(0, .ref 61), (1, .int x1), (2, .int x2), (3, .int x3), (4, .int x4), (5, .int x5), (6, .int x6), (7, .long x7)] [] (mH h s) Q) (k2 : ¬ (lg_cmp y0 y1) ≤ 0 → zz_E zp_P zt_tf zt_fd X d zm_338 56 [(0, .ref 61)] [] (mH h s) Q) : zz_E zp_P zt_tf zt_fd X d zm_338 52 [(0, .ref 61), (1, .int x1), (2, .int x2), (3, .int x3), (4, .int x4), (5, .int x5), (6, .int x6), (7, .long x7)] [.long y1, .long y0] (mH h s) Q := by
  refine zz_E.n 53 rfl rfl rfl ?_
  refine zz_E.b1 66 56 (A := (lg_cmp y0 y1) ≤ 0) rfl rfl (by decide) rfl rfl (fun c => ?_) (fun c => ?_)
  · exact zz_E.weak (k1 c) rfl ⟨rfl, rfl, rfl, rfl, rfl, rfl, rfl, rfl, trivial⟩
  · exact zz_E.weak (k2 c) rfl ⟨rfl, trivial⟩
theorem mb_338_56 {X : Nat → Option zz_C} {h : zz_H} (hh : 111 ≤ h.length) {s : mS} {d : Nat} {Q : Option Value → zz_H → Prop}  (k : zz_E zp_P zt_tf zt_fd X d zm_301 0 [(0, .ref 61), (1, .int 2), (2, .int (s.1 70))] [] (mH h s) (fun v h' => zz_E zp_P zt_tf zt_fd X (d + 1) zm_338 65 [] (v.toList ++ []) h' Q)) : zz_E zp_P zt_tf zt_fd X (d + 1) zm_338 56 [(0, .ref 61)] [] (mH h s) Q := by
  refine zz_E.n 57 rfl rfl rfl ?_
  refine zz_E.c 58 (.int 2) rfl rfl rfl rfl ?_
  refine zz_E.n 59 rfl rfl rfl ?_
  refine mE_g hh 62 (v := .int (s.1 70)) rfl rfl rfl ?_
  refine mE_cv hh 65 (as := []) rfl rfl (Nat.le_of_ble_eq_true rfl) (Nat.le_of_ble_eq_true rfl) rfl (Nat.le_of_ble_eq_true rfl) rfl ?_
  refine zz_E.mono k ?_
  intro v h' hE
  exact zz_E.weak hE rfl trivial
theorem mb_338_65 {X : Nat → Option zz_C} {h : zz_H} (hh : 111 ≤ h.length) {s : mS} {d : Nat} {Q : Option Value → zz_H → Prop}  (k : Q none (mH h s)) : zz_E zp_P zt_tf zt_fd X d zm_338 65 [] [] (mH h s) Q := by
  refine zz_E.ret rfl rfl rfl ?_
  exact k
theorem mb_338_66 {X : Nat → Option zz_C} {h : zz_H} (hh : 111 ≤ h.length) {s : mS} {d : Nat} {Q : Option Value → zz_H → Prop} {x1 : Int32} {x2 : Int32} {x3 : Int32} {x4 : Int32} {x5 : Int32} {x6 : Int32} {x7 : Int64} (k1 : ¬ x1 = 21 → zz_E zp_P zt_tf zt_fd X d zm_338 148 [(0, .ref 61), (2, .int x2), (3, .int x3), (4, .int x4), (5, .int x5), (6, .int x6), (7, .long x7)] [] (mH h (mI s 51 x4)) Q) (k2 : ¬ ¬ x1 = 21 → zz_E zp_P zt_tf zt_fd X d zm_338 78 [(0, .ref 61), (2, .int x2), (3, .int x3), (4, .int x4), (5, .int x5), (6, .int x6), (7, .long x7)] [] (mH h (mI s 51 x4)) Q) : zz_E zp_P zt_tf zt_fd X d zm_338 66 [(0, .ref 61), (1, .int x1), (2, .int x2), (3, .int x3), (4, .int x4), (5, .int x5), (6, .int x6), (7, .long x7)] [] (mH h s) Q := by
  refine zz_E.n 67 rfl rfl rfl ?_
  refine zz_E.n 69 rfl rfl rfl ?_
  refine mE_p hh 72 rfl (by decide) rfl (mF_51 _ _) rfl ?_
  refine zz_E.n 73 rfl rfl rfl ?_
  refine zz_E.c 75 (.int 21) rfl rfl rfl rfl ?_
  refine zz_E.b2 148 78 (A := ¬ x1 = 21) rfl (zz_cond_ne _ _) (by decide) rfl rfl (fun c => ?_) (fun c => ?_)
  · exact zz_E.weak (k1 c) rfl ⟨rfl, rfl, rfl, rfl, rfl, rfl, rfl, trivial⟩
  · exact zz_E.weak (k2 c) rfl ⟨rfl, rfl, rfl, rfl, rfl, rfl, rfl, trivial⟩
theorem mb_338_78 {X : Nat → Option zz_C} {h : zz_H} (hh : 111 ≤ h.length) {s : mS} {d : Nat} {Q : Option Value → zz_H → Prop} {x2 : Int32} {x3 : Int32} {x4 : Int32} {x5 : Int32} {x6 : Int32} {x7 : Int64} (k1 : (lg_cmp x7 (Int32.toInt64 x6)) ≤ 0 → zz_E zp_P zt_tf zt_fd X d zm_338 92 [(0, .ref 61), (2, .int x2), (3, .int x3), (4, .int x4), (5, .int x5), (6, .int x6), (7, .long x7)] [] (mH h s) Q) (k2 : ¬ (lg_cmp x7 (Int32.toInt64 x6)) ≤ 0 → zz_E zp_P zt_tf zt_fd X d zm_338 87 [(0, .ref 61), (2, .int x2), (3, .int x3), (4, .int x4), (5, .int x5), (6, .int x6)] [] (mH h s) Q) : zz_E zp_P zt_tf zt_fd X d zm_338 78 [(0, .ref 61), (2, .int x2), (3, .int x3), (4, .int x4), (5, .int x5), (6, .int x6), (7, .long x7)] [] (mH h s) Q := by
  refine zz_E.n 80 rfl rfl rfl ?_
  refine zz_E.n 82 rfl rfl rfl ?_
  refine zz_E.n 83 rfl rfl rfl ?_
  refine zz_E.n 84 rfl rfl rfl ?_
  refine zz_E.b1 92 87 (A := (lg_cmp x7 (Int32.toInt64 x6)) ≤ 0) rfl rfl (by decide) rfl rfl (fun c => ?_) (fun c => ?_)
  · exact zz_E.weak (k1 c) rfl ⟨rfl, rfl, rfl, rfl, rfl, rfl, rfl, trivial⟩
  · exact zz_E.weak (k2 c) rfl ⟨rfl, rfl, rfl, rfl, rfl, rfl, trivial⟩
theorem mb_338_87 {X : Nat → Option zz_C} {h : zz_H} (hh : 111 ≤ h.length) {s : mS} {d : Nat} {Q : Option Value → zz_H → Prop} {x2 : Int32} {x3 : Int32} {x4 : Int32} {x5 : Int32} {x6 : Int32} (k : zz_E zp_P zt_tf zt_fd X d zm_338 95 [(0, .ref 61), (2, .int x2), (3, .int x3), (4, .int x4), (5, .int x5), (6, .int x6)] [.int x6] (mH h s) Q) : zz_E zp_P zt_tf zt_fd X d zm_338 87 [(0, .ref 61), (2, .int x2), (3, .int x3), (4, .int x4), (5, .int x5), (6, .int x6)] [] (mH h s) Q := by
  refine zz_E.n 89 rfl rfl rfl ?_
  refine zz_E.n 95 rfl rfl rfl ?_
  exact zz_E.weak k rfl ⟨rfl, rfl, rfl, rfl, rfl, rfl, trivial⟩
theorem mb_338_92 {X : Nat → Option zz_C} {h : zz_H} (hh : 111 ≤ h.length) {s : mS} {d : Nat} {Q : Option Value → zz_H → Prop} {x2 : Int32} {x3 : Int32} {x4 : Int32} {x5 : Int32} {x6 : Int32} {x7 : Int64} (k : zz_E zp_P zt_tf zt_fd X d zm_338 95 [(0, .ref 61), (2, .int x2), (3, .int x3), (4, .int x4), (5, .int x5), (6, .int x6)] [.int (Int64.toInt32 x7)] (mH h s) Q) : zz_E zp_P zt_tf zt_fd X d zm_338 92 [(0, .ref 61), (2, .int x2), (3, .int x3), (4, .int x4), (5, .int x5), (6, .int x6), (7, .long x7)] [] (mH h s) Q := by
  refine zz_E.n 94 rfl rfl rfl ?_
  refine zz_E.n 95 rfl rfl rfl ?_
  exact zz_E.weak k rfl ⟨rfl, rfl, rfl, rfl, rfl, rfl, trivial⟩
theorem mb_338_95 {X : Nat → Option zz_C} {h : zz_H} (hh : 111 ≤ h.length) {s : mS} {d : Nat} {Q : Option Value → zz_H → Prop} {x2 : Int32} {x3 : Int32} {x4 : Int32} {x5 : Int32} {x6 : Int32} {y0 : Int32} (k1 : 0 ≤ x2 → zz_E zp_P zt_tf zt_fd X d zm_338 105 [(0, .ref 61), (3, .int x3), (4, .int x4), (5, .int x5), (6, .int x6), (9, .int y0)] [] (mH h s) Q) (k2 : ¬ 0 ≤ x2 → zz_E zp_P zt_tf zt_fd X d zm_338 101 [(0, .ref 61), (3, .int x3), (4, .int x4), (5, .int x5), (6, .int x6), (9, .int y0)] [] (mH h s) Q) : zz_E zp_P zt_tf zt_fd X d zm_338 95 [(0, .ref 61), (2, .int x2), (3, .int x3), (4, .int x4), (5, .int x5), (6, .int x6)] [.int y0] (mH h s) Q := by
  refine zz_E.n 97 rfl rfl rfl ?_
  refine zz_E.n 98 rfl rfl rfl ?_
  refine zz_E.b1 105 101 (A := 0 ≤ x2) rfl rfl (by decide) rfl rfl (fun c => ?_) (fun c => ?_)
  · exact zz_E.weak (k1 c) rfl ⟨rfl, rfl, rfl, rfl, rfl, rfl, trivial⟩
  · exact zz_E.weak (k2 c) rfl ⟨rfl, rfl, rfl, rfl, rfl, rfl, trivial⟩
theorem mb_338_101 {X : Nat → Option zz_C} {h : zz_H} (hh : 111 ≤ h.length) {s : mS} {d : Nat} {Q : Option Value → zz_H → Prop} {x3 : Int32} {x4 : Int32} {x5 : Int32} {x6 : Int32} {x9 : Int32} (k : zz_E zp_P zt_tf zt_fd X d zm_338 107 [(0, .ref 61), (3, .int x3), (4, .int x4), (5, .int x5), (6, .int x6), (9, .int x9)] [.int 0] (mH h s) Q) : zz_E zp_P zt_tf zt_fd X d zm_338 101 [(0, .ref 61), (3, .int x3), (4, .int x4), (5, .int x5), (6, .int x6), (9, .int x9)] [] (mH h s) Q := by
  refine zz_E.c 102 (.int 0) rfl rfl rfl rfl ?_
  refine zz_E.n 107 rfl rfl rfl ?_
  exact zz_E.weak k rfl ⟨rfl, rfl, rfl, rfl, rfl, rfl, trivial⟩
theorem mb_338_105 {X : Nat → Option zz_C} {h : zz_H} (hh : 111 ≤ h.length) {s : mS} {d : Nat} {Q : Option Value → zz_H → Prop} {x3 : Int32} {x4 : Int32} {x5 : Int32} {x6 : Int32} {x9 : Int32} (k : zz_E zp_P zt_tf zt_fd X d zm_338 107 [(0, .ref 61), (3, .int x3), (4, .int x4), (5, .int x5), (6, .int x6), (9, .int x9)] [.int x9] (mH h s) Q) : zz_E zp_P zt_tf zt_fd X d zm_338 105 [(0, .ref 61), (3, .int x3), (4, .int x4), (5, .int x5), (6, .int x6), (9, .int x9)] [] (mH h s) Q := by
  refine zz_E.n 107 rfl rfl rfl ?_
  exact zz_E.weak k rfl ⟨rfl, rfl, rfl, rfl, rfl, rfl, trivial⟩
theorem mb_338_107 {X : Nat → Option zz_C} {h : zz_H} (hh : 111 ≤ h.length) {s : mS} {d : Nat} {Q : Option Value → zz_H → Prop} {x3 : Int32} {x4 : Int32} {x5 : Int32} {x6 : Int32} {x9 : Int32} {y0 : Int32} (k : zz_E zp_P zt_tf zt_fd X d zm_338 113 [(0, .ref 61), (3, .int x3), (4, .int x4), (5, .int x5), (6, .int x6), (9, .int x9), (10, .int y0), (11, .int y0)] [] (mH h s) Q) : zz_E zp_P zt_tf zt_fd X d zm_338 107 [(0, .ref 61), (3, .int x3), (4, .int x4), (5, .int x5), (6, .int x6), (9, .int x9)] [.int y0] (mH h s) Q := by
  refine zz_E.n 109 rfl rfl rfl ?_
  refine zz_E.n 111 rfl rfl rfl ?_
  refine zz_E.n 113 rfl rfl rfl ?_
  exact zz_E.weak k rfl ⟨rfl, rfl, rfl, rfl, rfl, rfl, rfl, rfl, trivial⟩
theorem mb_338_113 {X : Nat → Option zz_C} {h : zz_H} (hh : 111 ≤ h.length) {s : mS} {d : Nat} {Q : Option Value → zz_H → Prop} {x3 : Int32} {x4 : Int32} {x5 : Int32} {x6 : Int32} {x9 : Int32} {x10 : Int32} {x11 : Int32} (k1 : ((x10 + x6) - x9) ≤ x11 → zz_E zp_P zt_tf zt_fd X d zm_338 139 [(0, .ref 61), (4, .int x4), (5, .int x5)] [] (mH h s) Q) (k2 : ¬ ((x10 + x6) - x9) ≤ x11 → zz_E zp_P zt_tf zt_fd X d zm_338 126 [(0, .ref 61), (3, .int x3), (4, .int x4), (5, .int x5), (6, .int x6), (9, .int x9), (10, .int x10), (11, .int x11)] [] (mH h s) Q) : zz_E zp_P zt_tf zt_fd X d zm_338 113 [(0, .ref 61), (3, .int x3), (4, .int x4), (5, .int x5), (6, .int x6), (9, .int x9), (10, .int x10), (11, .int x11)] [] (mH h s) Q := by
  refine zz_E.n 115 rfl rfl rfl ?_
  refine zz_E.n 117 rfl rfl rfl ?_
  refine zz_E.n 119 rfl rfl rfl ?_
  refine zz_E.n 120 rfl rfl rfl ?_
  refine zz_E.n 122 rfl rfl rfl ?_
  refine zz_E.n 123 rfl rfl rfl ?_
  refine zz_E.b2 139 126 (A := ((x10 + x6) - x9) ≤ x11) rfl rfl (by decide) rfl rfl (fun c => ?_) (fun c => ?_)
  · exact zz_E.weak (k1 c) rfl ⟨rfl, rfl, rfl, trivial⟩
  · exact zz_E.weak (k2 c) rfl ⟨rfl, rfl, rfl, rfl, rfl, rfl, rfl, rfl, trivial⟩
theorem mb_338_126 {X : Nat → Option zz_C} {h : zz_H} (hh : 111 ≤ h.length) {s : mS} {d : Nat} {Q : Option Value → zz_H → Prop} {x3 : Int32} {x4 : Int32} {x5 : Int32} {x6 : Int32} {x9 : Int32} {x10 : Int32} {x11 : Int32} (k : zz_E zp_P zt_tf zt_fd X d zm_295 0 [(0, .ref 61), (1, .int x3), (2, .int x11)] [] (mH h s) (fun v h' => zz_E zp_P zt_tf zt_fd X (d + 1) zm_338 133 [(0, .ref 61), (3, .int x3), (4, .int x4), (5, .int x5), (6, .int x6), (9, .int x9), (10, .int x10), (11, .int x11)] (v.toList ++ []) h' Q)) : zz_E zp_P zt_tf zt_fd X (d + 1) zm_338 126 [(0, .ref 61), (3, .int x3), (4, .int x4), (5, .int x5), (6, .int x6), (9, .int x9), (10, .int x10), (11, .int x11)] [] (mH h s) Q := by
  refine zz_E.n 127 rfl rfl rfl ?_
  refine zz_E.n 128 rfl rfl rfl ?_
  refine zz_E.n 130 rfl rfl rfl ?_
  refine mE_cv hh 133 (as := []) rfl rfl (Nat.le_of_ble_eq_true rfl) (Nat.le_of_ble_eq_true rfl) rfl (Nat.le_of_ble_eq_true rfl) rfl ?_
  refine zz_E.mono k ?_
  intro v h' hE
  exact zz_E.weak hE rfl ⟨rfl, rfl, rfl, rfl, rfl, rfl, rfl, rfl, trivial⟩
theorem mb_338_133 {X : Nat → Option zz_C} {h : zz_H} (hh : 111 ≤ h.length) {s : mS} {d : Nat} {Q : Option Value → zz_H → Prop} {x3 : Int32} {x4 : Int32} {x5 : Int32} {x6 : Int32} {x9 : Int32} {x10 : Int32} {x11 : Int32} (k : zz_E zp_P zt_tf zt_fd X d zm_338 113 [(0, .ref 61), (3, .int x3), (4, .int x4), (5, .int x5), (6, .int x6), (9, .int x9), (10, .int x10), (11, .int (x11 + 1))] [] (mH h s) Q) : zz_E zp_P zt_tf zt_fd X d zm_338 133 [(0, .ref 61), (3, .int x3), (4, .int x4), (5, .int x5), (6, .int x6), (9, .int x9), (10, .int x10), (11, .int x11)] [] (mH h s) Q := by
  refine zz_E.n 136 rfl rfl rfl ?_
  refine zz_E.n 113 rfl rfl rfl ?_
  exact zz_E.weak k rfl ⟨rfl, rfl, rfl, rfl, rfl, rfl, rfl, rfl, trivial⟩
theorem mb_338_139 {X : Nat → Option zz_C} {h : zz_H} (hh : 111 ≤ h.length) {s : mS} {d : Nat} {Q : Option Value → zz_H → Prop} {x4 : Int32} {x5 : Int32} (k : zz_E zp_P zt_tf zt_fd X d zm_305 0 [(0, .ref 61), (1, .int x5), (2, .int x4)] [] (mH h s) (fun v h' => zz_E zp_P zt_tf zt_fd X (d + 1) zm_338 147 [] (v.toList ++ []) h' Q)) : zz_E zp_P zt_tf zt_fd X (d + 1) zm_338 139 [(0, .ref 61), (4, .int x4), (5, .int x5)] [] (mH h s) Q := by
  refine zz_E.n 140 rfl rfl rfl ?_
  refine zz_E.n 142 rfl rfl rfl ?_
  refine zz_E.n 144 rfl rfl rfl ?_
  refine mE_cv hh 147 (as := []) rfl rfl (Nat.le_of_ble_eq_true rfl) (Nat.le_of_ble_eq_true rfl) rfl (Nat.le_of_ble_eq_true rfl) rfl ?_
  refine zz_E.mono k ?_
  intro v h' hE
  exact zz_E.weak hE rfl trivial
theorem mb_338_147 {X : Nat → Option zz_C} {h : zz_H} (hh : 111 ≤ h.length) {s : mS} {d : Nat} {Q : Option Value → zz_H → Prop}  (k : Q none (mH h s)) : zz_E zp_P zt_tf zt_fd X d zm_338 147 [] [] (mH h s) Q := by
  refine zz_E.ret rfl rfl rfl ?_
  exact k
theorem mb_338_148 {X : Nat → Option zz_C} {h : zz_H} (hh : 111 ≤ h.length) {s : mS} {d : Nat} {Q : Option Value → zz_H → Prop} {x2 : Int32} {x3 : Int32} {x4 : Int32} {x5 : Int32} {x6 : Int32} {x7 : Int64} (k1 : 0 ≤ x2 → zz_E zp_P zt_tf zt_fd X d zm_338 161 [(0, .ref 61), (3, .int x3), (4, .int x4), (5, .int x5), (6, .int x6), (7, .long x7)] [] (mH h s) Q) (k2 : ¬ 0 ≤ x2 → zz_E zp_P zt_tf zt_fd X d zm_338 152 [(0, .ref 61), (3, .int x3), (4, .int x4), (5, .int x5), (6, .int x6), (7, .long x7)] [] (mH h s) Q) : zz_E zp_P zt_tf zt_fd X d zm_338 148 [(0, .ref 61), (2, .int x2), (3, .int x3), (4, .int x4), (5, .int x5), (6, .int x6), (7, .long x7)] [] (mH h s) Q := by
  refine zz_E.n 149 rfl rfl rfl ?_
  refine zz_E.b1 161 152 (A := 0 ≤ x2) rfl rfl (by decide) rfl rfl (fun c => ?_) (fun c => ?_)
  · exact zz_E.weak (k1 c) rfl ⟨rfl, rfl, rfl, rfl, rfl, rfl, trivial⟩
  · exact zz_E.weak (k2 c) rfl ⟨rfl, rfl, rfl, rfl, rfl, rfl, trivial⟩
theorem mb_338_152 {X : Nat → Option zz_C} {h : zz_H} (hh : 111 ≤ h.length) {s : mS} {d : Nat} {Q : Option Value → zz_H → Prop} {x3 : Int32} {x4 : Int32} {x5 : Int32} {x6 : Int32} {x7 : Int64} (k : zz_E zp_P zt_tf zt_fd X d zm_338 162 [(0, .ref 61), (3, .int x3), (4, .int x4), (5, .int x5), (6, .int x6), (7, .long x7)] [.int (x6 - (Int64.toInt32 x7))] (mH h s) Q) : zz_E zp_P zt_tf zt_fd X d zm_338 152 [(0, .ref 61), (3, .int x3), (4, .int x4), (5, .int x5), (6, .int x6), (7, .long x7)] [] (mH h s) Q := by
  refine zz_E.n 154 rfl rfl rfl ?_
  refine zz_E.n 156 rfl rfl rfl ?_
  refine zz_E.n 157 rfl rfl rfl ?_
  refine zz_E.n 158 rfl rfl rfl ?_
  refine zz_E.n 162 rfl rfl rfl ?_
  exact zz_E.weak k rfl ⟨rfl, rfl, rfl, rfl, rfl, rfl, trivial⟩
theorem mb_338_161 {X : Nat → Option zz_C} {h : zz_H} (hh : 111 ≤ h.length) {s : mS} {d : Nat} {Q : Option Value → zz_H → Prop} {x3 : Int32} {x4 : Int32} {x5 : Int32} {x6 : Int32} {x7 : Int64} (k : zz_E zp_P zt_tf zt_fd X d zm_338 162 [(0, .ref 61), (3, .int x3), (4, .int x4), (5, .int x5), (6, .int x6), (7, .long x7)] [.int 0] (mH h s) Q) : zz_E zp_P zt_tf zt_fd X d zm_338 161 [(0, .ref 61), (3, .int x3), (4, .int x4), (5, .int x5), (6, .int x6), (7, .long x7)] [] (mH h s) Q := by
  refine zz_E.c 162 (.int 0) rfl rfl rfl rfl ?_
  exact zz_E.weak k rfl ⟨rfl, rfl, rfl, rfl, rfl, rfl, trivial⟩
theorem mb_338_162 {X : Nat → Option zz_C} {h : zz_H} (hh : 111 ≤ h.length) {s : mS} {d : Nat} {Q : Option Value → zz_H → Prop} {x3 : Int32} {x4 : Int32} {x5 : Int32} {x6 : Int32} {x7 : Int64} {y0 : Int32} (k : zz_E zp_P zt_tf zt_fd X d zm_338 168 [(0, .ref 61), (3, .int x3), (4, .int x4), (5, .int x5), (6, .int x6), (7, .long x7), (9, .int y0), (10, .int y0)] [] (mH h s) Q) : zz_E zp_P zt_tf zt_fd X d zm_338 162 [(0, .ref 61), (3, .int x3), (4, .int x4), (5, .int x5), (6, .int x6), (7, .long x7)] [.int y0] (mH h s) Q := by
  refine zz_E.n 164 rfl rfl rfl ?_
  refine zz_E.n 166 rfl rfl rfl ?_
  refine zz_E.n 168 rfl rfl rfl ?_
  exact zz_E.weak k rfl ⟨rfl, rfl, rfl, rfl, rfl, rfl, rfl, rfl, trivial⟩
theorem mb_338_168 {X : Nat → Option zz_C} {h : zz_H} (hh : 111 ≤ h.length) {s : mS} {d : Nat} {Q : Option Value → zz_H → Prop} {x3 : Int32} {x4 : Int32} {x5 : Int32} {x6 : Int32} {x7 : Int64} {x9 : Int32} {x10 : Int32} (k1 : (x9 + (Int64.toInt32 x7)) ≤ x10 → zz_E zp_P zt_tf zt_fd X d zm_338 235 [(0, .ref 61), (4, .int x4), (5, .int x5)] [] (mH h s) Q) (k2 : ¬ (x9 + (Int64.toInt32 x7)) ≤ x10 → zz_E zp_P zt_tf zt_fd X d zm_338 179 [(0, .ref 61), (3, .int x3), (4, .int x4), (5, .int x5), (6, .int x6), (7, .long x7), (9, .int x9), (10, .int x10)] [] (mH h s) Q) : zz_E zp_P zt_tf zt_fd X d zm_338 168 [(0, .ref 61), (3, .int x3), (4, .int x4), (5, .int x5), (6, .int x6), (7, .long x7), (9, .int x9), (10, .int x10)] [] (mH h s) Q := by
  refine zz_E.n 170 rfl rfl rfl ?_
  refine zz_E.n 172 rfl rfl rfl ?_
  refine zz_E.n 174 rfl rfl rfl ?_
  refine zz_E.n 175 rfl rfl rfl ?_
  refine zz_E.n 176 rfl rfl rfl ?_
  refine zz_E.b2 235 179 (A := (x9 + (Int64.toInt32 x7)) ≤ x10) rfl rfl (by decide) rfl rfl (fun c => ?_) (fun c => ?_)
  · exact zz_E.weak (k1 c) rfl ⟨rfl, rfl, rfl, trivial⟩
  · exact zz_E.weak (k2 c) rfl ⟨rfl, rfl, rfl, rfl, rfl, rfl, rfl, rfl, trivial⟩
theorem mb_338_179 {X : Nat → Option zz_C} {h : zz_H} (hh : 111 ≤ h.length) {s : mS} {d : Nat} {Q : Option Value → zz_H → Prop} {x3 : Int32} {x4 : Int32} {x5 : Int32} {x6 : Int32} {x7 : Int64} {x9 : Int32} {x10 : Int32} (k1 : x10 < 0 → zz_E zp_P zt_tf zt_fd X d zm_338 201 [(0, .ref 61), (3, .int x3), (4, .int x4), (5, .int x5), (6, .int x6), (7, .long x7), (9, .int x9), (10, .int x10)] [] (mH h s) Q) (k2 : ¬ x10 < 0 → zz_E zp_P zt_tf zt_fd X d zm_338 184 [(0, .ref 61), (3, .int x3), (4, .int x4), (5, .int x5), (6, .int x6), (7, .long x7), (9, .int x9), (10, .int x10)] [] (mH h s) Q) : zz_E zp_P zt_tf zt_fd X d zm_338 179 [(0, .ref 61), (3, .int x3), (4, .int x4), (5, .int x5), (6, .int x6), (7, .long x7), (9, .int x9), (10, .int x10)] [] (mH h s) Q := by
  refine zz_E.n 181 rfl rfl rfl ?_
  refine zz_E.b1 201 184 (A := x10 < 0) rfl rfl (by decide) rfl rfl (fun c => ?_) (fun c => ?_)
  · exact zz_E.weak (k1 c) rfl ⟨rfl, rfl, rfl, rfl, rfl, rfl, rfl, rfl, trivial⟩
  · exact zz_E.weak (k2 c) rfl ⟨rfl, rfl, rfl, rfl, rfl, rfl, rfl, rfl, trivial⟩
theorem mb_338_184 {X : Nat → Option zz_C} {h : zz_H} (hh : 111 ≤ h.length) {s : mS} {d : Nat} {Q : Option Value → zz_H → Prop} {x3 : Int32} {x4 : Int32} {x5 : Int32} {x6 : Int32} {x7 : Int64} {x9 : Int32} {x10 : Int32} (k1 : x6 ≤ x10 → zz_E zp_P zt_tf zt_fd X d zm_338 201 [(0, .ref 61), (3, .int x3), (4, .int x4), (5, .int x5), (6, .int x6), (7, .long x7), (9, .int x9), (10, .int x10)] [] (mH h s) Q) (k2 : ¬ x6 ≤ x10 → zz_E zp_P zt_tf zt_fd X d zm_338 191 [(0, .ref 61), (3, .int x3), (4, .int x4), (5, .int x5), (6, .int x6), (7, .long x7), (9, .int x9), (10, .int x10)] [] (mH h s) Q) : zz_E zp_P zt_tf zt_fd X d zm_338 184 [(0, .ref 61), (3, .int x3), (4, .int x4), (5, .int x5), (6, .int x6), (7, .long x7), (9, .int x9), (10, .int x10)] [] (mH h s) Q := by
  refine zz_E.n 186 rfl rfl rfl ?_
  refine zz_E.n 188 rfl rfl rfl ?_
  refine zz_E.b2 201 191 (A := x6 ≤ x10) rfl rfl (by decide) rfl rfl (fun c => ?_) (fun c => ?_)
  · exact zz_E.weak (k1 c) rfl ⟨rfl, rfl, rfl, rfl, rfl, rfl, rfl, rfl, trivial⟩
  · exact zz_E.weak (k2 c) rfl ⟨rfl, rfl, rfl, rfl, rfl, rfl, rfl, rfl, trivial⟩
theorem mb_338_191 {X : Nat → Option zz_C} {h : zz_H} (hh : 111 ≤ h.length) {s : mS} {d : Nat} {Q : Option Value → zz_H → Prop} {x3 : Int32} {x4 : Int32} {x5 : Int32} {x6 : Int32} {x7 : Int64} {x9 : Int32} {x10 : Int32} (k : zz_E zp_P zt_tf zt_fd X d zm_295 0 [(0, .ref 61), (1, .int x3), (2, .int x10)] [] (mH h s) (fun v h' => zz_E zp_P zt_tf zt_fd X (d + 1) zm_338 198 [(0, .ref 61), (3, .int x3), (4, .int x4), (5, .int x5), (6, .int x6), (7, .long x7), (9, .int x9), (10, .int x10)] (v.toList ++ []) h' Q)) : zz_E zp_P zt_tf zt_fd X (d + 1) zm_338 191 [(0, .ref 61), (3, .int x3), (4, .int x4), (5, .int x5), (6, .int x6), (7, .long x7), (9, .int x9), (10, .int x10)] [] (mH h s) Q := by
  refine zz_E.n 192 rfl rfl rfl ?_
  refine zz_E.n 193 rfl rfl rfl ?_
  refine zz_E.n 195 rfl rfl rfl ?_
  refine mE_cv hh 198 (as := []) rfl rfl (Nat.le_of_ble_eq_true rfl) (Nat.le_of_ble_eq_true rfl) rfl (Nat.le_of_ble_eq_true rfl) rfl ?_
  refine zz_E.mono k ?_
  intro v h' hE
  exact zz_E.weak hE rfl ⟨rfl, rfl, rfl, rfl, rfl, rfl, rfl, rfl, trivial⟩
theorem mb_338_198 {X : Nat → Option zz_C} {h : zz_H} (hh : 111 ≤ h.length) {s : mS} {d : Nat} {Q : Option Value → zz_H → Prop} {x3 : Int32} {x4 : Int32} {x5 : Int32} {x6 : Int32} {x7 : Int64} {x9 : Int32} {x10 : Int32} (k : zz_E zp_P zt_tf zt_fd X d zm_338 229 [(0, .ref 61), (3, .int x3), (4, .int x4), (5, .int x5), (6, .int x6), (7, .long x7), (9, .int x9), (10, .int x10)] [] (mH h s) Q) : zz_E zp_P zt_tf zt_fd X d zm_338 198 [(0, .ref 61), (3, .int x3), (4, .int x4), (5, .int x5), (6, .int x6), (7, .long x7), (9, .int x9), (10, .int x10)] [] (mH h s) Q := by
  refine zz_E.n 229 rfl rfl rfl ?_
  exact zz_E.weak k rfl ⟨rfl, rfl, rfl, rfl, rfl, rfl, rfl, rfl, trivial⟩
theorem mb_338_201 {X : Nat → Option zz_C} {h : zz_H} (hh : 111 ≤ h.length) {s : mS} {d : Nat} {Q : Option Value → zz_H → Prop} {x3 : Int32} {x4 : Int32} {x5 : Int32} {x6 : Int32} {x7 : Int64} {x9 : Int32} {x10 : Int32} (k1 : ¬ x5 = 2 → zz_E zp_P zt_tf zt_fd X d zm_338 212 [(0, .ref 61), (3, .int x3), (4, .int x4), (5, .int x5), (6, .int x6), (7, .long x7), (9, .int x9), (10, .int x10)] [.ref 61] (mH h s) Q) (k2 : ¬ ¬ x5 = 2 → zz_E zp_P zt_tf zt_fd X d zm_338 208 [(0, .ref 61), (3, .int x3), (4, .int x4), (5, .int x5), (6, .int x6), (7, .long x7), (9, .int x9), (10, .int x10)] [.ref 61] (mH h s) Q) : zz_E zp_P zt_tf zt_fd X d zm_338 201 [(0, .ref 61), (3, .int x3), (4, .int x4), (5, .int x5), (6, .int x6), (7, .long x7), (9, .int x9), (10, .int x10)] [] (mH h s) Q := by
  refine zz_E.n 202 rfl rfl rfl ?_
  refine zz_E.n 204 rfl rfl rfl ?_
  refine zz_E.c 205 (.int 2) rfl rfl rfl rfl ?_
  refine zz_E.b2 212 208 (A := ¬ x5 = 2) rfl (zz_cond_ne _ _) (by decide) rfl rfl (fun c => ?_) (fun c => ?_)
  · exact zz_E.weak (k1 c) rfl ⟨rfl, rfl, rfl, rfl, rfl, rfl, rfl, rfl, trivial⟩
  · exact zz_E.weak (k2 c) rfl ⟨rfl, rfl, rfl, rfl, rfl, rfl, rfl, rfl, trivial⟩
theorem mb_338_208 {X : Nat → Option zz_C} {h : zz_H} (hh : 111 ≤ h.length) {s : mS} {d : Nat} {Q : Option Value → zz_H → Prop} {x3 : Int32} {x4 : Int32} {x5 : Int32} {x6 : Int32} {x7 : Int64} {x9 : Int32} {x10 : Int32} (k : zz_E zp_P zt_tf zt_fd X d zm_338 213 [(0, .ref 61), (3, .int x3), (4, .int x4), (5, .int x5), (6, .int x6), (7, .long x7), (9, .int x9), (10, .int x10)] [.int 1, .ref 61] (mH h s) Q) : zz_E zp_P zt_tf zt_fd X d zm_338 208 [(0, .ref 61), (3, .int x3), (4, .int x4), (5, .int x5), (6, .int x6), (7, .long x7), (9, .int x9), (10, .int x10)] [.ref 61] (mH h s) Q := by
  refine zz_E.c 209 (.int 1) rfl rfl rfl rfl ?_
  refine zz_E.n 213 rfl rfl rfl ?_
  exact zz_E.weak k rfl ⟨rfl, rfl, rfl, rfl, rfl, rfl, rfl, rfl, trivial⟩
theorem mb_338_212 {X : Nat → Option zz_C} {h : zz_H} (hh : 111 ≤ h.length) {s : mS} {d : Nat} {Q : Option Value → zz_H → Prop} {x3 : Int32} {x4 : Int32} {x5 : Int32} {x6 : Int32} {x7 : Int64} {x9 : Int32} {x10 : Int32} (k : zz_E zp_P zt_tf zt_fd X d zm_338 213 [(0, .ref 61), (3, .int x3), (4, .int x4), (5, .int x5), (6, .int x6), (7, .long x7), (9, .int x9), (10, .int x10)] [.int 0, .ref 61] (mH h s) Q) : zz_E zp_P zt_tf zt_fd X d zm_338 212 [(0, .ref 61), (3, .int x3), (4, .int x4), (5, .int x5), (6, .int x6), (7, .long x7), (9, .int x9), (10, .int x10)] [.ref 61] (mH h s) Q := by
  refine zz_E.c 213 (.int 0) rfl rfl rfl rfl ?_
  exact zz_E.weak k rfl ⟨rfl, rfl, rfl, rfl, rfl, rfl, rfl, rfl, trivial⟩
theorem mb_338_213 {X : Nat → Option zz_C} {h : zz_H} (hh : 111 ≤ h.length) {s : mS} {d : Nat} {Q : Option Value → zz_H → Prop} {x3 : Int32} {x4 : Int32} {x5 : Int32} {x6 : Int32} {x7 : Int64} {x9 : Int32} {x10 : Int32} {y1 : Int32} (k1 : ¬ x5 = 2 → zz_E zp_P zt_tf zt_fd X d zm_338 225 [(0, .ref 61), (3, .int x3), (4, .int x4), (5, .int x5), (6, .int x6), (7, .long x7), (9, .int x9), (10, .int x10)] [.int y1, .ref 61] (mH h s) Q) (k2 : ¬ ¬ x5 = 2 → zz_E zp_P zt_tf zt_fd X d zm_338 219 [(0, .ref 61), (3, .int x3), (4, .int x4), (5, .int x5), (6, .int x6), (7, .long x7), (9, .int x9), (10, .int x10)] [.int y1, .ref 61] (mH h s) Q) : zz_E zp_P zt_tf zt_fd X d zm_338 213 [(0, .ref 61), (3, .int x3), (4, .int x4), (5, .int x5), (6, .int x6), (7, .long x7), (9, .int x9), (10, .int x10)] [.int y1, .ref 61] (mH h s) Q := by
  refine zz_E.n 215 rfl rfl rfl ?_
  refine zz_E.c 216 (.int 2) rfl rfl rfl rfl ?_
  refine zz_E.b2 225 219 (A := ¬ x5 = 2) rfl (zz_cond_ne _ _) (by decide) rfl rfl (fun c => ?_) (fun c => ?_)
  · exact zz_E.weak (k1 c) rfl ⟨rfl, rfl, rfl, rfl, rfl, rfl, rfl, rfl, trivial⟩
  · exact zz_E.weak (k2 c) rfl ⟨rfl, rfl, rfl, rfl, rfl, rfl, rfl, rfl, trivial⟩
theorem mb_338_219 {X : Nat → Option zz_C} {h : zz_H} (hh : 111 ≤ h.length) {s : mS} {d : Nat} {Q : Option Value → zz_H → Prop} {x3 : Int32} {x4 : Int32} {x5 : Int32} {x6 : Int32} {x7 : Int64} {x9 : Int32} {x10 : Int32} {y1 : Int32} (k : zz_E zp_P zt_tf zt_fd X d zm_338 226 [(0, .ref 61), (3, .int x3), (4, .int x4), (5, .int x5), (6, .int x6), (7, .long x7), (9, .int x9), (10, .int x10)] [.int 154240, .int y1, .ref 61] (mH h s) Q) : zz_E zp_P zt_tf zt_fd X d zm_338 219 [(0, .ref 61), (3, .int x3), (4, .int x4), (5, .int x5), (6, .int x6), (7, .long x7), (9, .int x9), (10, .int x10)] [.int y1, .ref 61] (mH h s) Q := by
  refine zz_E.c 222 (.int 154240) rfl rfl rfl rfl ?_
  refine zz_E.n 226 rfl rfl rfl ?_
  exact zz_E.weak k rfl ⟨rfl, rfl, rfl, rfl, rfl, rfl, rfl, rfl, trivial⟩
theorem mb_338_225 {X : Nat → Option zz_C} {h : zz_H} (hh : 111 ≤ h.length) {s : mS} {d : Nat} {Q : Option Value → zz_H → Prop} {x3 : Int32} {x4 : Int32} {x5 : Int32} {x6 : Int32} {x7 : Int64} {x9 : Int32} {x10 : Int32} {y1 : Int32} (k : zz_E zp_P zt_tf zt_fd X d zm_338 226 [(0, .ref 61), (3, .int x3), (4, .int x4), (5, .int x5), (6, .int x6), (7, .long x7), (9, .int x9), (10, .int x10)] [.int 0, .int y1, .ref 61] (mH h s) Q) : zz_E zp_P zt_tf zt_fd X d zm_338 225 [(0, .ref 61), (3, .int x3), (4, .int x4), (5, .int x5), (6, .int x6), (7, .long x7), (9, .int x9), (10, .int x10)] [.int y1, .ref 61] (mH h s) Q := by
  refine zz_E.c 226 (.int 0) rfl rfl rfl rfl ?_
  exact zz_E.weak k rfl ⟨rfl, rfl, rfl, rfl, rfl, rfl, rfl, rfl, trivial⟩
theorem mb_338_226 {X : Nat → Option zz_C} {h : zz_H} (hh : 111 ≤ h.length) {s : mS} {d : Nat} {Q : Option Value → zz_H → Prop} {x3 : Int32} {x4 : Int32} {x5 : Int32} {x6 : Int32} {x7 : Int64} {x9 : Int32} {x10 : Int32} {y1 : Int32} {y2 : Int32} (k : zz_E zp_P zt_tf zt_fd X d zm_291 0 [(0, .ref 61), (1, .int y1), (2, .int y2)] [] (mH h s) (fun v h' => zz_E zp_P zt_tf zt_fd X (d + 1) zm_338 229 [(0, .ref 61), (3, .int x3), (4, .int x4), (5, .int x5), (6, .int x6), (7, .long x7), (9, .int x9), (10, .int x10)] (v.toList ++ []) h' Q)) : zz_E zp_P zt_tf zt_fd X (d + 1) zm_338 226 [(0, .ref 61), (3, .int x3), (4, .int x4), (5, .int x5), (6, .int x6), (7, .long x7), (9, .int x9), (10, .int x10)] [.int y2, .int y1, .ref 61] (mH h s) Q := by
  refine mE_cv hh 229 (as := []) rfl rfl (Nat.le_of_ble_eq_true rfl) (Nat.le_of_ble_eq_true rfl) rfl (Nat.le_of_ble_eq_true rfl) rfl ?_
  refine zz_E.mono k ?_
  intro v h' hE
  exact zz_E.weak hE rfl ⟨rfl, rfl, rfl, rfl, rfl, rfl, rfl, rfl, trivial⟩
theorem mb_338_229 {X : Nat → Option zz_C} {h : zz_H} (hh : 111 ≤ h.length) {s : mS} {d : Nat} {Q : Option Value → zz_H → Prop} {x3 : Int32} {x4 : Int32} {x5 : Int32} {x6 : Int32} {x7 : Int64} {x9 : Int32} {x10 : Int32} (k : zz_E zp_P zt_tf zt_fd X d zm_338 168 [(0, .ref 61), (3, .int x3), (4, .int x4), (5, .int x5), (6, .int x6), (7, .long x7), (9, .int x9), (10, .int (x10 + 1))] [] (mH h s) Q) : zz_E zp_P zt_tf zt_fd X d zm_338 229 [(0, .ref 61), (3, .int x3), (4, .int x4), (5, .int x5), (6, .int x6), (7, .long x7), (9, .int x9), (10, .int x10)] [] (mH h s) Q := by
  refine zz_E.n 232 rfl rfl rfl ?_
  refine zz_E.n 168 rfl rfl rfl ?_
  exact zz_E.weak k rfl ⟨rfl, rfl, rfl, rfl, rfl, rfl, rfl, rfl, trivial⟩
theorem mb_338_235 {X : Nat → Option zz_C} {h : zz_H} (hh : 111 ≤ h.length) {s : mS} {d : Nat} {Q : Option Value → zz_H → Prop} {x4 : Int32} {x5 : Int32} (k : zz_E zp_P zt_tf zt_fd X d zm_305 0 [(0, .ref 61), (1, .int x5), (2, .int x4)] [] (mH h s) (fun v h' => zz_E zp_P zt_tf zt_fd X (d + 1) zm_338 243 [] (v.toList ++ []) h' Q)) : zz_E zp_P zt_tf zt_fd X (d + 1) zm_338 235 [(0, .ref 61), (4, .int x4), (5, .int x5)] [] (mH h s) Q := by
  refine zz_E.n 236 rfl rfl rfl ?_
  refine zz_E.n 238 rfl rfl rfl ?_
  refine zz_E.n 240 rfl rfl rfl ?_
  refine mE_cv hh 243 (as := []) rfl rfl (Nat.le_of_ble_eq_true rfl) (Nat.le_of_ble_eq_true rfl) rfl (Nat.le_of_ble_eq_true rfl) rfl ?_
  refine zz_E.mono k ?_
  intro v h' hE
  exact zz_E.weak hE rfl trivial
theorem mb_338_243 {X : Nat → Option zz_C} {h : zz_H} (hh : 111 ≤ h.length) {s : mS} {d : Nat} {Q : Option Value → zz_H → Prop}  (k : Q none (mH h s)) : zz_E zp_P zt_tf zt_fd X d zm_338 243 [] [] (mH h s) Q := by
  refine zz_E.ret rfl rfl rfl ?_
  exact k
def mf_338_243 (N : Nat)  (s : mS) : mO := some (s, none)
theorem mr_338_243 {X : Nat → Option zz_C} {h : zz_H} (hh : 111 ≤ h.length) {d : Nat} {N : Nat} {Q : Option Value → zz_H → Prop}  {s s' : mS} {v : Option Value} (hf : mf_338_243 N  s = some (s', v)) (k : Q v (mH h s')) : zz_E zp_P zt_tf zt_fd X (d + 4) zm_338 243 [] [] (mH h s) Q := by
  unfold mf_338_243 at hf
  cases hf
  exact mb_338_243 hh  k
def mf_338_235 (N : Nat) (x4 : Int32) (x5 : Int32) (s : mS) : mO := mo_bv (mf_305 N x5 x4 s) (fun s1 => mf_338_243 N  s1)
theorem mr_338_235 {X : Nat → Option zz_C} {h : zz_H} (hh : 111 ≤ h.length) {d : Nat} {N : Nat} {Q : Option Value → zz_H → Prop} {x4 : Int32} {x5 : Int32} {s s' : mS} {v : Option Value} (hf : mf_338_235 N x4 x5 s = some (s', v)) (k : Q v (mH h s')) : zz_E zp_P zt_tf zt_fd X (d + 4) zm_338 235 [(0, .ref 61), (4, .int x4), (5, .int x5)] [] (mH h s) Q := by
  unfold mf_338_235 at hf
  obtain ⟨s1, e, hf⟩ := mo_bv_ok hf
  exact mb_338_235 (d := d + 3) hh  (mr_305 (d := d + 0) hh e (mr_338_243 hh hf k))
def mf_338_229 (N : Nat) (rc : Nat → Int32 → Int32 → Int32 → Int32 → Int32 → Int64 → Int32 → mS → mO) (x3 : Int32) (x4 : Int32) (x5 : Int32) (x6 : Int32) (x7 : Int64) (x9 : Int32) (x10 : Int32) (s : mS) : mO := rc 0 (x10 + 1) x3 x4 x5 x6 x7 x9 s
theorem mr_338_229 {X : Nat → Option zz_C} {h : zz_H} (hh : 111 ≤ h.length) {d : Nat} {N : Nat} {rc : Nat → Int32 → Int32 → Int32 → Int32 → Int32 → Int64 → Int32 → mS → mO} (hrc0 : ∀ {Q : Option Value → zz_H → Prop} {x3 : Int32} {x4 : Int32} {x5 : Int32} {x6 : Int32} {x7 : Int64} {x9 : Int32} {x10 : Int32} {s s' : mS} {v : Option Value}, rc 0 x10 x3 x4 x5 x6 x7 x9 s = some (s', v) → Q v (mH h s') → zz_E zp_P zt_tf zt_fd X (d + 4) zm_338 168 [(0, .ref 61), (3, .int x3), (4, .int x4), (5, .int x5), (6, .int x6), (7, .long x7), (9, .int x9), (10, .int x10)] [] (mH h s) Q) {Q : Option Value → zz_H → Prop} {x3 : Int32} {x4 : Int32} {x5 : Int32} {x6 : Int32} {x7 : Int64} {x9 : Int32} {x10 : Int32} {s s' : mS} {v : Option Value} (hf : mf_338_229 N rc x3 x4 x5 x6 x7 x9 x10 s = some (s', v)) (k : Q v (mH h s')) : zz_E zp_P zt_tf zt_fd X (d + 4) zm_338 229 [(0, .ref 61), (3, .int x3), (4, .int x4), (5, .int x5), (6, .int x6), (7, .long x7), (9, .int x9), (10, .int x10)] [] (mH h s) Q := by
  unfold mf_338_229 at hf
  exact mb_338_229 hh  (hrc0 hf k)
def mf_338_198 (N : Nat) (rc : Nat → Int32 → Int32 → Int32 → Int32 → Int32 → Int64 → Int32 → mS → mO) (x3 : Int32) (x4 : Int32) (x5 : Int32) (x6 : Int32) (x7 : Int64) (x9 : Int32) (x10 : Int32) (s : mS) : mO := mf_338_229 N rc x3 x4 x5 x6 x7 x9 x10 s
theorem mr_338_198 {X : Nat → Option zz_C} {h : zz_H} (hh : 111 ≤ h.length) {d : Nat} {N : Nat} {rc : Nat → Int32 → Int32 → Int32 → Int32 → Int32 → Int64 → Int32 → mS → mO} (hrc0 : ∀ {Q : Option Value → zz_H → Prop} {x3 : Int32} {x4 : Int32} {x5 : Int32} {x6 : Int32} {x7 : Int64} {x9 : Int32} {x10 : Int32} {s s' : mS} {v : Option Value}, rc 0 x10 x3 x4 x5 x6 x7 x9 s = some (s', v) → Q v (mH h s') → zz_E zp_P zt_tf zt_fd X (d + 4) zm_338 168 [(0, .ref 61), (3, .int x3), (4, .int x4), (5, .int x5), (6, .int x6), (7, .long x7), (9, .int x9), (10, .int x10)] [] (mH h s) Q) {Q : Option Value → zz_H → Prop} {x3 : Int32} {x4 : Int32} {x5 : Int32} {x6 : Int32} {x7 : Int64} {x9 : Int32} {x10 : Int32} {s s' : mS} {v : Option Value} (hf : mf_338_198 N rc x3 x4 x5 x6 x7 x9 x10 s = some (s', v)) (k : Q v (mH h s')) : zz_E zp_P zt_tf zt_fd X (d + 4) zm_338 198 [(0, .ref 61), (3, .int x3), (4, .int x4), (5, .int x5), (6, .int x6), (7, .long x7), (9, .int x9), (10, .int x10)] [] (mH h s) Q := by
  unfold mf_338_198 at hf
  exact mb_338_198 hh  (mr_338_229 hh hrc0 hf k)
def mf_338_191 (N : Nat) (rc : Nat → Int32 → Int32 → Int32 → Int32 → Int32 → Int64 → Int32 → mS → mO) (x3 : Int32) (x4 : Int32) (x5 : Int32) (x6 : Int32) (x7 : Int64) (x9 : Int32) (x10 : Int32) (s : mS) : mO := mo_bv (mf_295 N x3 x10 s) (fun s1 => mf_338_198 N rc x3 x4 x5 x6 x7 x9 x10 s1)
theorem mr_338_191 {X : Nat → Option zz_C} {h : zz_H} (hh : 111 ≤ h.length) {d : Nat} {N : Nat} {rc : Nat → Int32 → Int32 → Int32 → Int32 → Int32 → Int64 → Int32 → mS → mO} (hrc0 : ∀ {Q : Option Value → zz_H → Prop} {x3 : Int32} {x4 : Int32} {x5 : Int32} {x6 : Int32} {x7 : Int64} {x9 : Int32} {x10 : Int32} {s s' : mS} {v : Option Value}, rc 0 x10 x3 x4 x5 x6 x7 x9 s = some (s', v) → Q v (mH h s') → zz_E zp_P zt_tf zt_fd X (d + 4) zm_338 168 [(0, .ref 61), (3, .int x3), (4, .int x4), (5, .int x5), (6, .int x6), (7, .long x7), (9, .int x9), (10, .int x10)] [] (mH h s) Q) {Q : Option Value → zz_H → Prop} {x3 : Int32} {x4 : Int32} {x5 : Int32} {x6 : Int32} {x7 : Int64} {x9 : Int32} {x10 : Int32} {s s' : mS} {v : Option Value} (hf : mf_338_191 N rc x3 x4 x5 x6 x7 x9 x10 s = some (s', v)) (k : Q v (mH h s')) : zz_E zp_P zt_tf zt_fd X (d + 4) zm_338 191 [(0, .ref 61), (3, .int x3), (4, .int x4), (5, .int x5), (6, .int x6), (7, .long x7), (9, .int x9), (10, .int x10)] [] (mH h s) Q := by
  unfold mf_338_191 at hf
  obtain ⟨s1, e, hf⟩ := mo_bv_ok hf
  exact mb_338_191 (d := d + 3) hh  (mr_295 (d := d + 2) hh e (mr_338_198 hh hrc0 hf k))
def mf_338_226 (N : Nat) (rc : Nat → Int32 → Int32 → Int32 → Int32 → Int32 → Int64 → Int32 → mS → mO) (x3 : Int32) (x4 : Int32) (x5 : Int32) (x6 : Int32) (x7 : Int64) (x9 : Int32) (x10 : Int32) (y1 : Int32) (y2 : Int32) (s : mS) : mO := mo_bv (mf_291 N y1 y2 s) (fun s1 => mf_338_229 N rc x3 x4 x5 x6 x7 x9 x10 s1)
theorem mr_338_226 {X : Nat → Option zz_C} {h : zz_H} (hh : 111 ≤ h.length) {d : Nat} {N : Nat} {rc : Nat → Int32 → Int32 → Int32 → Int32 → Int32 → Int64 → Int32 → mS → mO} (hrc0 : ∀ {Q : Option Value → zz_H → Prop} {x3 : Int32} {x4 : Int32} {x5 : Int32} {x6 : Int32} {x7 : Int64} {x9 : Int32} {x10 : Int32} {s s' : mS} {v : Option Value}, rc 0 x10 x3 x4 x5 x6 x7 x9 s = some (s', v) → Q v (mH h s') → zz_E zp_P zt_tf zt_fd X (d + 4) zm_338 168 [(0, .ref 61), (3, .int x3), (4, .int x4), (5, .int x5), (6, .int x6), (7, .long x7), (9, .int x9), (10, .int x10)] [] (mH h s) Q) {Q : Option Value → zz_H → Prop} {x3 : Int32} {x4 : Int32} {x5 : Int32} {x6 : Int32} {x7 : Int64} {x9 : Int32} {x10 : Int32} {y1 : Int32} {y2 : Int32} {s s' : mS} {v : Option Value} (hf : mf_338_226 N rc x3 x4 x5 x6 x7 x9 x10 y1 y2 s = some (s', v)) (k : Q v (mH h s')) : zz_E zp_P zt_tf zt_fd X (d + 4) zm_338 226 [(0, .ref 61), (3, .int x3), (4, .int x4), (5, .int x5), (6, .int x6), (7, .long x7), (9, .int x9), (10, .int x10)] [.int y2, .int y1, .ref 61] (mH h s) Q := by
  unfold mf_338_226 at hf
  obtain ⟨s1, e, hf⟩ := mo_bv_ok hf
  exact mb_338_226 (d := d + 3) hh  (mr_291 (d := d + 3) hh e (mr_338_229 hh hrc0 hf k))
def mf_338_225 (N : Nat) (rc : Nat → Int32 → Int32 → Int32 → Int32 → Int32 → Int64 → Int32 → mS → mO) (x3 : Int32) (x4 : Int32) (x5 : Int32) (x6 : Int32) (x7 : Int64) (x9 : Int32) (x10 : Int32) (y1 : Int32) (s : mS) : mO := mf_338_226 N rc x3 x4 x5 x6 x7 x9 x10 y1 0 s
theorem mr_338_225 {X : Nat → Option zz_C} {h : zz_H} (hh : 111 ≤ h.length) {d : Nat} {N : Nat} {rc : Nat → Int32 → Int32 → Int32 → Int32 → Int32 → Int64 → Int32 → mS → mO} (hrc0 : ∀ {Q : Option Value → zz_H → Prop} {x3 : Int32} {x4 : Int32} {x5 : Int32} {x6 : Int32} {x7 : Int64} {x9 : Int32} {x10 : Int32} {s s' : mS} {v : Option Value}, rc 0 x10 x3 x4 x5 x6 x7 x9 s = some (s', v) → Q v (mH h s') → zz_E zp_P zt_tf zt_fd X (d + 4) zm_338 168 [(0, .ref 61), (3, .int x3), (4, .int x4), (5, .int x5), (6, .int x6), (7, .long x7), (9, .int x9), (10, .int x10)] [] (mH h s) Q) {Q : Option Value → zz_H → Prop} {x3 : Int32} {x4 : Int32} {x5 : Int32} {x6 : Int32} {x7 : Int64} {x9 : Int32} {x10 : Int32} {y1 : Int32} {s s' : mS} {v : Option Value} (hf : mf_338_225 N rc x3 x4 x5 x6 x7 x9 x10 y1 s = some (s', v)) (k : Q v (mH h s')) : zz_E zp_P zt_tf zt_fd X (d + 4) zm_338 225 [(0, .ref 61), (3, .int x3), (4, .int x4), (5, .int x5), (6, .int x6), (7, .long x7), (9, .int x9), (10, .int x10)] [.int y1, .ref 61] (mH h s) Q := by
  unfold mf_338_225 at hf
  exact mb_338_225 hh  (mr_338_226 hh hrc0 hf k)
def mf_338_219 (N : Nat) (rc : Nat → Int32 → Int32 → Int32 → Int32 → Int32 → Int64 → Int32 → mS → mO) (x3 : Int32) (x4 : Int32) (x5 : Int32) (x6 : Int32) (x7 : Int64) (x9 : Int32) (x10 : Int32) (y1 : Int32) (s : mS) : mO := mf_338_226 N rc x3 x4 x5 x6 x7 x9 x10 y1 154240 s
theorem mr_338_219 {X : Nat → Option zz_C} {h : zz_H} (hh : 111 ≤ h.length) {d : Nat} {N : Nat} {rc : Nat → Int32 → Int32 → Int32 → Int32 → Int32 → Int64 → Int32 → mS → mO} (hrc0 : ∀ {Q : Option Value → zz_H → Prop} {x3 : Int32} {x4 : Int32} {x5 : Int32} {x6 : Int32} {x7 : Int64} {x9 : Int32} {x10 : Int32} {s s' : mS} {v : Option Value}, rc 0 x10 x3 x4 x5 x6 x7 x9 s = some (s', v) → Q v (mH h s') → zz_E zp_P zt_tf zt_fd X (d + 4) zm_338 168 [(0, .ref 61), (3, .int x3), (4, .int x4), (5, .int x5), (6, .int x6), (7, .long x7), (9, .int x9), (10, .int x10)] [] (mH h s) Q) {Q : Option Value → zz_H → Prop} {x3 : Int32} {x4 : Int32} {x5 : Int32} {x6 : Int32} {x7 : Int64} {x9 : Int32} {x10 : Int32} {y1 : Int32} {s s' : mS} {v : Option Value} (hf : mf_338_219 N rc x3 x4 x5 x6 x7 x9 x10 y1 s = some (s', v)) (k : Q v (mH h s')) : zz_E zp_P zt_tf zt_fd X (d + 4) zm_338 219 [(0, .ref 61), (3, .int x3), (4, .int x4), (5, .int x5), (6, .int x6), (7, .long x7), (9, .int x9), (10, .int x10)] [.int y1, .ref 61] (mH h s) Q := by
  unfold mf_338_219 at hf
  exact mb_338_219 hh  (mr_338_226 hh hrc0 hf k)
def mf_338_213 (N : Nat) (rc : Nat → Int32 → Int32 → Int32 → Int32 → Int32 → Int64 → Int32 → mS → mO) (x3 : Int32) (x4 : Int32) (x5 : Int32) (x6 : Int32) (x7 : Int64) (x9 : Int32) (x10 : Int32) (y1 : Int32) (s : mS) : mO := if ¬ x5 = 2 then mf_338_225 N rc x3 x4 x5 x6 x7 x9 x10 y1 s else mf_338_219 N rc x3 x4 x5 x6 x7 x9 x10 y1 s
theorem mr_338_213 {X : Nat → Option zz_C} {h : zz_H} (hh : 111 ≤ h.length) {d : Nat} {N : Nat} {rc : Nat → Int32 → Int32 → Int32 → Int32 → Int32 → Int64 → Int32 → mS → mO} (hrc0 : ∀ {Q : Option Value → zz_H → Prop} {x3 : Int32} {x4 : Int32} {x5 : Int32} {x6 : Int32} {x7 : Int64} {x9 : Int32} {x10 : Int32} {s s' : mS} {v : Option Value}, rc 0 x10 x3 x4 x5 x6 x7 x9 s = some (s', v) → Q v (mH h s') → zz_E zp_P zt_tf zt_fd X (d + 4) zm_338 168 [(0, .ref 61), (3, .int x3), (4, .int x4), (5, .int x5), (6, .int x6), (7, .long x7), (9, .int x9), (10, .int x10)] [] (mH h s) Q) {Q : Option Value → zz_H → Prop} {x3 : Int32} {x4 : Int32} {x5 : Int32} {x6 : Int32} {x7 : Int64} {x9 : Int32} {x10 : Int32} {y1 : Int32} {s s' : mS} {v : Option Value} (hf : mf_338_213 N rc x3 x4 x5 x6 x7 x9 x10 y1 s = some (s', v)) (k : Q v (mH h s')) : zz_E zp_P zt_tf zt_fd X (d + 4) zm_338 213 [(0, .ref 61), (3, .int x3), (4, .int x4), (5, .int x5), (6, .int x6), (7, .long x7), (9, .int x9), (10, .int x10)] [.int y1, .ref 61] (mH h s) Q := by
  unfold mf_338_213 at hf
  refine mb_338_213 hh  (fun c => ?_) (fun c => ?_)
  · rw [if_pos c] at hf
    exact mr_338_225 hh hrc0 hf k
  · rw [if_neg c] at hf
    exact mr_338_219 hh hrc0 hf k
def mf_338_212 (N : Nat) (rc : Nat → Int32 → Int32 → Int32 → Int32 → Int32 → Int64 → Int32 → mS → mO) (x3 : Int32) (x4 : Int32) (x5 : Int32) (x6 : Int32) (x7 : Int64) (x9 : Int32) (x10 : Int32) (s : mS) : mO := mf_338_213 N rc x3 x4 x5 x6 x7 x9 x10 0 s
theorem mr_338_212 {X : Nat → Option zz_C} {h : zz_H} (hh : 111 ≤ h.length) {d : Nat} {N : Nat} {rc : Nat → Int32 → Int32 → Int32 → Int32 → Int32 → Int64 → Int32 → mS → mO} (hrc0 : ∀ {Q : Option Value → zz_H → Prop} {x3 : Int32} {x4 : Int32} {x5 : Int32} {x6 : Int32} {x7 : Int64} {x9 : Int32} {x10 : Int32} {s s' : mS} {v : Option Value}, rc 0 x10 x3 x4 x5 x6 x7 x9 s = some (s', v) → Q v (mH h s') → zz_E zp_P zt_tf zt_fd X (d + 4) zm_338 168 [(0, .ref 61), (3, .int x3), (4, .int x4), (5, .int x5), (6, .int x6), (7, .long x7), (9, .int x9), (10, .int x10)] [] (mH h s) Q) {Q : Option Value → zz_H → Prop} {x3 : Int32} {x4 : Int32} {x5 : Int32} {x6 : Int32} {x7 : Int64} {x9 : Int32} {x10 : Int32} {s s' : mS} {v : Option Value} (hf : mf_338_212 N rc x3 x4 x5 x6 x7 x9 x10 s = some (s', v)) (k : Q v (mH h s')) : zz_E zp_P zt_tf zt_fd X (d + 4) zm_338 212 [(0, .ref 61), (3, .int x3), (4, .int x4), (5, .int x5), (6, .int x6), (7, .long x7), (9, .int x9), (10, .int x10)] [.ref 61] (mH h s) Q := by
  unfold mf_338_212 at hf
  exact mb_338_212 hh  (mr_338_213 hh hrc0 hf k)
def mf_338_208 (N : Nat) (rc : Nat → Int32 → Int32 → Int32 → Int32 → Int32 → Int64 → Int32 → mS → mO) (x3 : Int32) (x4 : Int32) (x5 : Int32) (x6 : Int32) (x7 : Int64) (x9 : Int32) (x10 : Int32) (s : mS) : mO := mf_338_213 N rc x3 x4 x5 x6 x7 x9 x10 1 s
theorem mr_338_208 {X : Nat → Option zz_C} {h : zz_H} (hh : 111 ≤ h.length) {d : Nat} {N : Nat} {rc : Nat → Int32 → Int32 → Int32 → Int32 → Int32 → Int64 → Int32 → mS → mO} (hrc0 : ∀ {Q : Option Value → zz_H → Prop} {x3 : Int32} {x4 : Int32} {x5 : Int32} {x6 : Int32} {x7 : Int64} {x9 : Int32} {x10 : Int32} {s s' : mS} {v : Option Value}, rc 0 x10 x3 x4 x5 x6 x7 x9 s = some (s', v) → Q v (mH h s') → zz_E zp_P zt_tf zt_fd X (d + 4) zm_338 168 [(0, .ref 61), (3, .int x3), (4, .int x4), (5, .int x5), (6, .int x6), (7, .long x7), (9, .int x9), (10, .int x10)] [] (mH h s) Q) {Q : Option Value → zz_H → Prop} {x3 : Int32} {x4 : Int32} {x5 : Int32} {x6 : Int32} {x7 : Int64} {x9 : Int32} {x10 : Int32} {s s' : mS} {v : Option Value} (hf : mf_338_208 N rc x3 x4 x5 x6 x7 x9 x10 s = some (s', v)) (k : Q v (mH h s')) : zz_E zp_P zt_tf zt_fd X (d + 4) zm_338 208 [(0, .ref 61), (3, .int x3), (4, .int x4), (5, .int x5), (6, .int x6), (7, .long x7), (9, .int x9), (10, .int x10)] [.ref 61] (mH h s) Q := by
  unfold mf_338_208 at hf
  exact mb_338_208 hh  (mr_338_213 hh hrc0 hf k)
def mf_338_201 (N : Nat) (rc : Nat → Int32 → Int32 → Int32 → Int32 → Int32 → Int64 → Int32 → mS → mO) (x3 : Int32) (x4 : Int32) (x5 : Int32) (x6 : Int32) (x7 : Int64) (x9 : Int32) (x10 : Int32) (s : mS) : mO := if ¬ x5 = 2 then mf_338_212 N rc x3 x4 x5 x6 x7 x9 x10 s else mf_338_208 N rc x3 x4 x5 x6 x7 x9 x10 s
theorem mr_338_201 {X : Nat → Option zz_C} {h : zz_H} (hh : 111 ≤ h.length) {d : Nat} {N : Nat} {rc : Nat → Int32 → Int32 → Int32 → Int32 → Int32 → Int64 → Int32 → mS → mO} (hrc0 : ∀ {Q : Option Value → zz_H → Prop} {x3 : Int32} {x4 : Int32} {x5 : Int32} {x6 : Int32} {x7 : Int64} {x9 : Int32} {x10 : Int32} {s s' : mS} {v : Option Value}, rc 0 x10 x3 x4 x5 x6 x7 x9 s = some (s', v) → Q v (mH h s') → zz_E zp_P zt_tf zt_fd X (d + 4) zm_338 168 [(0, .ref 61), (3, .int x3), (4, .int x4), (5, .int x5), (6, .int x6), (7, .long x7), (9, .int x9), (10, .int x10)] [] (mH h s) Q) {Q : Option Value → zz_H → Prop} {x3 : Int32} {x4 : Int32} {x5 : Int32} {x6 : Int32} {x7 : Int64} {x9 : Int32} {x10 : Int32} {s s' : mS} {v : Option Value} (hf : mf_338_201 N rc x3 x4 x5 x6 x7 x9 x10 s = some (s', v)) (k : Q v (mH h s')) : zz_E zp_P zt_tf zt_fd X (d + 4) zm_338 201 [(0, .ref 61), (3, .int x3), (4, .int x4), (5, .int x5), (6, .int x6), (7, .long x7), (9, .int x9), (10, .int x10)] [] (mH h s) Q := by
  unfold mf_338_201 at hf
  refine mb_338_201 hh  (fun c => ?_) (fun c => ?_)
  · rw [if_pos c] at hf
    exact mr_338_212 hh hrc0 hf k
  · rw [if_neg c] at hf
    exact mr_338_208 hh hrc0 hf k
def mf_338_184 (N : Nat) (rc : Nat → Int32 → Int32 → Int32 → Int32 → Int32 → Int64 → Int32 → mS → mO) (x3 : Int32) (x4 : Int32) (x5 : Int32) (x6 : Int32) (x7 : Int64) (x9 : Int32) (x10 : Int32) (s : mS) : mO := if x6 ≤ x10 then mf_338_201 N rc x3 x4 x5 x6 x7 x9 x10 s else mf_338_191 N rc x3 x4 x5 x6 x7 x9 x10 s
theorem mr_338_184 {X : Nat → Option zz_C} {h : zz_H} (hh : 111 ≤ h.length) {d : Nat} {N : Nat} {rc : Nat → Int32 → Int32 → Int32 → Int32 → Int32 → Int64 → Int32 → mS → mO} (hrc0 : ∀ {Q : Option Value → zz_H → Prop} {x3 : Int32} {x4 : Int32} {x5 : Int32} {x6 : Int32} {x7 : Int64} {x9 : Int32} {x10 : Int32} {s s' : mS} {v : Option Value}, rc 0 x10 x3 x4 x5 x6 x7 x9 s = some (s', v) → Q v (mH h s') → zz_E zp_P zt_tf zt_fd X (d + 4) zm_338 168 [(0, .ref 61), (3, .int x3), (4, .int x4), (5, .int x5), (6, .int x6), (7, .long x7), (9, .int x9), (10, .int x10)] [] (mH h s) Q) {Q : Option Value → zz_H → Prop} {x3 : Int32} {x4 : Int32} {x5 : Int32} {x6 : Int32} {x7 : Int64} {x9 : Int32} {x10 : Int32} {s s' : mS} {v : Option Value} (hf : mf_338_184 N rc x3 x4 x5 x6 x7 x9 x10 s = some (s', v)) (k : Q v (mH h s')) : zz_E zp_P zt_tf zt_fd X (d + 4) zm_338 184 [(0, .ref 61), (3, .int x3), (4, .int x4), (5, .int x5), (6, .int x6), (7, .long x7), (9, .int x9), (10, .int x10)] [] (mH h s) Q := by
  unfold mf_338_184 at hf
  refine mb_338_184 hh  (fun c => ?_) (fun c => ?_)
  · rw [if_pos c] at hf
    exact mr_338_201 hh hrc0 hf k
  · rw [if_neg c] at hf
    exact mr_338_191 hh hrc0 hf k
def mf_338_179 (N : Nat) (rc : Nat → Int32 → Int32 → Int32 → Int32 → Int32 → Int64 → Int32 → mS → mO) (x3 : Int32) (x4 : Int32) (x5 : Int32) (x6 : Int32) (x7 : Int64) (x9 : Int32) (x10 : Int32) (s : mS) : mO := if x10 < 0 then mf_338_201 N rc x3 x4 x5 x6 x7 x9 x10 s else mf_338_184 N rc x3 x4 x5 x6 x7 x9 x10 s
theorem mr_338_179 {X : Nat → Option zz_C} {h : zz_H} (hh : 111 ≤ h.length) {d : Nat} {N : Nat} {rc : Nat → Int32 → Int32 → Int32 → Int32 → Int32 → Int64 → Int32 → mS → mO} (hrc0 : ∀ {Q : Option Value → zz_H → Prop} {x3 : Int32} {x4 : Int32} {x5 : Int32} {x6 : Int32} {x7 : Int64} {x9 : Int32} {x10 : Int32} {s s' : mS} {v : Option Value}, rc 0 x10 x3 x4 x5 x6 x7 x9 s = some (s', v) → Q v (mH h s') → zz_E zp_P zt_tf zt_fd X (d + 4) zm_338 168 [(0, .ref 61), (3, .int x3), (4, .int x4), (5, .int x5), (6, .int x6), (7, .long x7), (9, .int x9), (10, .int x10)] [] (mH h s) Q) {Q : Option Value → zz_H → Prop} {x3 : Int32} {x4 : Int32} {x5 : Int32} {x6 : Int32} {x7 : Int64} {x9 : Int32} {x10 : Int32} {s s' : mS} {v : Option Value} (hf : mf_338_179 N rc x3 x4 x5 x6 x7 x9 x10 s = some (s', v)) (k : Q v (mH h s')) : zz_E zp_P zt_tf zt_fd X (d + 4) zm_338 179 [(0, .ref 61), (3, .int x3), (4, .int x4), (5, .int x5), (6, .int x6), (7, .long x7), (9, .int x9), (10, .int x10)] [] (mH h s) Q := by
  unfold mf_338_179 at hf
  refine mb_338_179 hh  (fun c => ?_) (fun c => ?_)
  · rw [if_pos c] at hf
    exact mr_338_201 hh hrc0 hf k
  · rw [if_neg c] at hf
    exact mr_338_184 hh hrc0 hf k
def mf_338_168 (N : Nat) (rc : Nat → Int32 → Int32 → Int32 → Int32 → Int32 → Int64 → Int32 → mS → mO) (x3 : Int32) (x4 : Int32) (x5 : Int32) (x6 : Int32) (x7 : Int64) (x9 : Int32) (x10 : Int32) (s : mS) : mO := if (x9 + (Int64.toInt32 x7)) ≤ x10 then mf_338_235 N x4 x5 s else mf_338_179 N rc x3 x4 x5 x6 x7 x9 x10 s
theorem mr_338_168 {X : Nat → Option zz_C} {h : zz_H} (hh : 111 ≤ h.length) {d : Nat} {N : Nat} {rc : Nat → Int32 → Int32 → Int32 → Int32 → Int32 → Int64 → Int32 → mS → mO} (hrc0 : ∀ {Q : Option Value → zz_H → Prop} {x3 : Int32} {x4 : Int32} {x5 : Int32} {x6 : Int32} {x7 : Int64} {x9 : Int32} {x10 : Int32} {s s' : mS} {v : Option Value}, rc 0 x10 x3 x4 x5 x6 x7 x9 s = some (s', v) → Q v (mH h s') → zz_E zp_P zt_tf zt_fd X (d + 4) zm_338 168 [(0, .ref 61), (3, .int x3), (4, .int x4), (5, .int x5), (6, .int x6), (7, .long x7), (9, .int x9), (10, .int x10)] [] (mH h s) Q) {Q : Option Value → zz_H → Prop} {x3 : Int32} {x4 : Int32} {x5 : Int32} {x6 : Int32} {x7 : Int64} {x9 : Int32} {x10 : Int32} {s s' : mS} {v : Option Value} (hf : mf_338_168 N rc x3 x4 x5 x6 x7 x9 x10 s = some (s', v)) (k : Q v (mH h s')) : zz_E zp_P zt_tf zt_fd X (d + 4) zm_338 168 [(0, .ref 61), (3, .int x3), (4, .int x4), (5, .int x5), (6, .int x6), (7, .long x7), (9, .int x9), (10, .int x10)] [] (mH h s) Q := by
  unfold mf_338_168 at hf
  refine mb_338_168 hh  (fun c => ?_) (fun c => ?_)
  · rw [if_pos c] at hf
    exact mr_338_235 hh hf k
  · rw [if_neg c] at hf
    exact mr_338_179 hh hrc0 hf k
def mf_338_L2 (N : Nat) : Nat → Nat → Int32 → Int32 → Int32 → Int32 → Int32 → Int64 → Int32 → mS → mO
  | 0, _, _, _, _, _, _, _, _, _ => none
  | n + 1, l, x10, x3, x4, x5, x6, x7, x9, s => if l = 0 then mf_338_168 N (mf_338_L2 N n) x3 x4 x5 x6 x7 x9 x10 s else none
theorem mr_338_L2 {X : Nat → Option zz_C} {h : zz_H} (hh : 111 ≤ h.length) {d : Nat} {N : Nat} : ∀ n : Nat, (∀ {Q : Option Value → zz_H → Prop} {x3 : Int32} {x4 : Int32} {x5 : Int32} {x6 : Int32} {x7 : Int64} {x9 : Int32} {x10 : Int32} {s s' : mS} {v : Option Value}, mf_338_L2 N n 0 x10 x3 x4 x5 x6 x7 x9 s = some (s', v) → Q v (mH h s') → zz_E zp_P zt_tf zt_fd X (d + 4) zm_338 168 [(0, .ref 61), (3, .int x3), (4, .int x4), (5, .int x5), (6, .int x6), (7, .long x7), (9, .int x9), (10, .int x10)] [] (mH h s) Q) := by
  intro n
  induction n with
  | zero => exact (fun hf _ => by cases hf)
  | succ n ih =>
    have h0 := @ih
    intro Q _ _ _ _ _ _ _ s s' v hf k
    unfold mf_338_L2 at hf
    rw [if_pos rfl] at hf
    exact mr_338_168 hh h0 hf k
def mf_338_162 (N : Nat) (x3 : Int32) (x4 : Int32) (x5 : Int32) (x6 : Int32) (x7 : Int64) (y0 : Int32) (s : mS) : mO := mf_338_L2 N N 0 y0 x3 x4 x5 x6 x7 y0 s
theorem mr_338_162 {X : Nat → Option zz_C} {h : zz_H} (hh : 111 ≤ h.length) {d : Nat} {N : Nat} {Q : Option Value → zz_H → Prop} {x3 : Int32} {x4 : Int32} {x5 : Int32} {x6 : Int32} {x7 : Int64} {y0 : Int32} {s s' : mS} {v : Option Value} (hf : mf_338_162 N x3 x4 x5 x6 x7 y0 s = some (s', v)) (k : Q v (mH h s')) : zz_E zp_P zt_tf zt_fd X (d + 4) zm_338 162 [(0, .ref 61), (3, .int x3), (4, .int x4), (5, .int x5), (6, .int x6), (7, .long x7)] [.int y0] (mH h s) Q := by
  unfold mf_338_162 at hf
  exact mb_338_162 hh  (mr_338_L2 hh N hf k)
def mf_338_161 (N : Nat) (x3 : Int32) (x4 : Int32) (x5 : Int32) (x6 : Int32) (x7 : Int64) (s : mS) : mO := mf_338_162 N x3 x4 x5 x6 x7 0 s
theorem mr_338_161 {X : Nat → Option zz_C} {h : zz_H} (hh : 111 ≤ h.length) {d : Nat} {N : Nat} {Q : Option Value → zz_H → Prop} {x3 : Int32} {x4 : Int32} {x5 : Int32} {x6 : Int32} {x7 : Int64} {s s' : mS} {v : Option Value} (hf : mf_338_161 N x3 x4 x5 x6 x7 s = some (s', v)) (k : Q v (mH h s')) : zz_E zp_P zt_tf zt_fd X (d + 4) zm_338 161 [(0, .ref 61), (3, .int x3), (4, .int x4), (5, .int x5), (6, .int x6), (7, .long x7)] [] (mH h s) Q := by
  unfold mf_338_161 at hf
  exact mb_338_161 hh  (mr_338_162 hh hf k)
def mf_338_152 (N : Nat) (x3 : Int32) (x4 : Int32) (x5 : Int32) (x6 : Int32) (x7 : Int64) (s : mS) : mO := mf_338_162 N x3 x4 x5 x6 x7 (x6 - (Int64.toInt32 x7)) s
theorem mr_338_152 {X : Nat → Option zz_C} {h : zz_H} (hh : 111 ≤ h.length) {d : Nat} {N : Nat} {Q : Option Value → zz_H → Prop} {x3 : Int32} {x4 : Int32} {x5 : Int32} {x6 : Int32} {x7 : Int64} {s s' : mS} {v : Option Value} (hf : mf_338_152 N x3 x4 x5 x6 x7 s = some (s', v)) (k : Q v (mH h s')) : zz_E zp_P zt_tf zt_fd X (d + 4) zm_338 152 [(0, .ref 61), (3, .int x3), (4, .int x4), (5, .int x5), (6, .int x6), (7, .long x7)] [] (mH h s) Q := by
  unfold mf_338_152 at hf
  exact mb_338_152 hh  (mr_338_162 hh hf k)
def mf_338_148 (N : Nat) (x2 : Int32) (x3 : Int32) (x4 : Int32) (x5 : Int32) (x6 : Int32) (x7 : Int64) (s : mS) : mO := if 0 ≤ x2 then mf_338_161 N x3 x4 x5 x6 x7 s else mf_338_152 N x3 x4 x5 x6 x7 s
theorem mr_338_148 {X : Nat → Option zz_C} {h : zz_H} (hh : 111 ≤ h.length) {d : Nat} {N : Nat} {Q : Option Value → zz_H → Prop} {x2 : Int32} {x3 : Int32} {x4 : Int32} {x5 : Int32} {x6 : Int32} {x7 : Int64} {s s' : mS} {v : Option Value} (hf : mf_338_148 N x2 x3 x4 x5 x6 x7 s = some (s', v)) (k : Q v (mH h s')) : zz_E zp_P zt_tf zt_fd X (d + 4) zm_338 148 [(0, .ref 61), (2, .int x2), (3, .int x3), (4, .int x4), (5, .int x5), (6, .int x6), (7, .long x7)] [] (mH h s) Q := by
  unfold mf_338_148 at hf
  refine mb_338_148 hh  (fun c => ?_) (fun c => ?_)
  · rw [if_pos c] at hf
    exact mr_338_161 hh hf k
  · rw [if_neg c] at hf
    exact mr_338_152 hh hf k
def mf_338_147 (N : Nat)  (s : mS) : mO := some (s, none)
theorem mr_338_147 {X : Nat → Option zz_C} {h : zz_H} (hh : 111 ≤ h.length) {d : Nat} {N : Nat} {Q : Option Value → zz_H → Prop}  {s s' : mS} {v : Option Value} (hf : mf_338_147 N  s = some (s', v)) (k : Q v (mH h s')) : zz_E zp_P zt_tf zt_fd X (d + 4) zm_338 147 [] [] (mH h s) Q := by
  unfold mf_338_147 at hf
  cases hf
  exact mb_338_147 hh  k
def mf_338_139 (N : Nat) (x4 : Int32) (x5 : Int32) (s : mS) : mO := mo_bv (mf_305 N x5 x4 s) (fun s1 => mf_338_147 N  s1)
theorem mr_338_139 {X : Nat → Option zz_C} {h : zz_H} (hh : 111 ≤ h.length) {d : Nat} {N : Nat} {Q : Option Value → zz_H → Prop} {x4 : Int32} {x5 : Int32} {s s' : mS} {v : Option Value} (hf : mf_338_139 N x4 x5 s = some (s', v)) (k : Q v (mH h s')) : zz_E zp_P zt_tf zt_fd X (d + 4) zm_338 139 [(0, .ref 61), (4, .int x4), (5, .int x5)] [] (mH h s) Q := by
  unfold mf_338_139 at hf
  obtain ⟨s1, e, hf⟩ := mo_bv_ok hf
  exact mb_338_139 (d := d + 3) hh  (mr_305 (d := d + 0) hh e (mr_338_147 hh hf k))
def mf_338_133 (N : Nat) (rc : Nat → Int32 → Int32 → Int32 → Int32 → Int32 → Int32 → Int32 → mS → mO) (x3 : Int32) (x4 : Int32) (x5 : Int32) (x6 : Int32) (x9 : Int32) (x10 : Int32) (x11 : Int32) (s : mS) : mO := rc 0 x10 (x11 + 1) x3 x4 x5 x6 x9 s
theorem mr_338_133 {X : Nat → Option zz_C} {h : zz_H} (hh : 111 ≤ h.length) {d : Nat} {N : Nat} {rc : Nat → Int32 → Int32 → Int32 → Int32 → Int32 → Int32 → Int32 → mS → mO} (hrc0 : ∀ {Q : Option Value → zz_H → Prop} {x3 : Int32} {x4 : Int32} {x5 : Int32} {x6 : Int32} {x9 : Int32} {x10 : Int32} {x11 : Int32} {s s' : mS} {v : Option Value}, rc 0 x10 x11 x3 x4 x5 x6 x9 s = some (s', v) → Q v (mH h s') → zz_E zp_P zt_tf zt_fd X (d + 4) zm_338 113 [(0, .ref 61), (3, .int x3), (4, .int x4), (5, .int x5), (6, .int x6), (9, .int x9), (10, .int x10), (11, .int x11)] [] (mH h s) Q) {Q : Option Value → zz_H → Prop} {x3 : Int32} {x4 : Int32} {x5 : Int32} {x6 : Int32} {x9 : Int32} {x10 : Int32} {x11 : Int32} {s s' : mS} {v : Option Value} (hf : mf_338_133 N rc x3 x4 x5 x6 x9 x10 x11 s = some (s', v)) (k : Q v (mH h s')) : zz_E zp_P zt_tf zt_fd X (d + 4) zm_338 133 [(0, .ref 61), (3, .int x3), (4, .int x4), (5, .int x5), (6, .int x6), (9, .int x9), (10, .int x10), (11, .int x11)] [] (mH h s) Q := by
  unfold mf_338_133 at hf
  exact mb_338_133 hh  (hrc0 hf k)
def mf_338_126 (N : Nat) (rc : Nat → Int32 → Int32 → Int32 → Int32 → Int32 → Int32 → Int32 → mS → mO) (x3 : Int32) (x4 : Int32) (x5 : Int32) (x6 : Int32) (x9 : Int32) (x10 : Int32) (x11 : Int32) (s : mS) : mO := mo_bv (mf_295 N x3 x11 s) (fun s1 => mf_338_133 N rc x3 x4 x5 x6 x9 x10 x11 s1)
theorem mr_338_126 {X : Nat → Option zz_C} {h : zz_H} (hh : 111 ≤ h.length) {d : Nat} {N : Nat} {rc : Nat → Int32 → Int32 → Int32 → Int32 → Int32 → Int32 → Int32 → mS → mO} (hrc0 : ∀ {Q : Option Value → zz_H → Prop} {x3 : Int32} {x4 : Int32} {x5 : Int32} {x6 : Int32} {x9 : Int32} {x10 : Int32} {x11 : Int32} {s s' : mS} {v : Option Value}, rc 0 x10 x11 x3 x4 x5 x6 x9 s = some (s', v) → Q v (mH h s') → zz_E zp_P zt_tf zt_fd X (d + 4) zm_338 113 [(0, .ref 61), (3, .int x3), (4, .int x4), (5, .int x5), (6, .int x6), (9, .int x9), (10, .int x10), (11, .int x11)] [] (mH h s) Q) {Q : Option Value → zz_H → Prop} {x3 : Int32} {x4 : Int32} {x5 : Int32} {x6 : Int32} {x9 : Int32} {x10 : Int32} {x11 : Int32} {s s' : mS} {v : Option Value} (hf : mf_338_126 N rc x3 x4 x5 x6 x9 x10 x11 s = some (s', v)) (k : Q v (mH h s')) : zz_E zp_P zt_tf zt_fd X (d + 4) zm_338 126 [(0, .ref 61), (3, .int x3), (4, .int x4), (5, .int x5), (6, .int x6), (9, .int x9), (10, .int x10), (11, .int x11)] [] (mH h s) Q := by
  unfold mf_338_126 at hf
  obtain ⟨s1, e, hf⟩ := mo_bv_ok hf
  exact mb_338_126 (d := d + 3) hh  (mr_295 (d := d + 2) hh e (mr_338_133 hh hrc0 hf k))
def mf_338_113 (N : Nat) (rc : Nat → Int32 → Int32 → Int32 → Int32 → Int32 → Int32 → Int32 → mS → mO) (x3 : Int32) (x4 : Int32) (x5 : Int32) (x6 : Int32) (x9 : Int32) (x10 : Int32) (x11 : Int32) (s : mS) : mO := if ((x10 + x6) - x9) ≤ x11 then mf_338_139 N x4 x5 s else mf_338_126 N rc x3 x4 x5 x6 x9 x10 x11 s
theorem mr_338_113 {X : Nat → Option zz_C} {h : zz_H} (hh : 111 ≤ h.length) {d : Nat} {N : Nat} {rc : Nat → Int32 → Int32 → Int32 → Int32 → Int32 → Int32 → Int32 → mS → mO} (hrc0 : ∀ {Q : Option Value → zz_H → Prop} {x3 : Int32} {x4 : Int32} {x5 : Int32} {x6 : Int32} {x9 : Int32} {x10 : Int32} {x11 : Int32} {s s' : mS} {v : Option Value}, rc 0 x10 x11 x3 x4 x5 x6 x9 s = some (s', v) → Q v (mH h s') → zz_E zp_P zt_tf zt_fd X (d + 4) zm_338 113 [(0, .ref 61), (3, .int x3), (4, .int x4), (5, .int x5), (6, .int x6), (9, .int x9), (10, .int x10), (11, .int x11)] [] (mH h s) Q) {Q : Option Value → zz_H → Prop} {x3 : Int32} {x4 : Int32} {x5 : Int32} {x6 : Int32} {x9 : Int32} {x10 : Int32} {x11 : Int32} {s s' : mS} {v : Option Value} (hf : mf_338_113 N rc x3 x4 x5 x6 x9 x10 x11 s = some (s', v)) (k : Q v (mH h s')) : zz_E zp_P zt_tf zt_fd X (d + 4) zm_338 113 [(0, .ref 61), (3, .int x3), (4, .int x4), (5, .int x5), (6, .int x6), (9, .int x9), (10, .int x10), (11, .int x11)] [] (mH h s) Q := by
  unfold mf_338_113 at hf
  refine mb_338_113 hh  (fun c => ?_) (fun c => ?_)
  · rw [if_pos c] at hf
    exact mr_338_139 hh hf k
  · rw [if_neg c] at hf
    exact mr_338_126 hh hrc0 hf k
def mf_338_L9 (N : Nat) : Nat → Nat → Int32 → Int32 → Int32 → Int32 → Int32 → Int32 → Int32 → mS → mO
  | 0, _, _, _, _, _, _, _, _, _ => none
  | n + 1, l, x10, x11, x3, x4, x5, x6, x9, s => if l = 0 then mf_338_113 N (mf_338_L9 N n) x3 x4 x5 x6 x9 x10 x11 s else none
theorem mr_338_L9 {X : Nat → Option zz_C} {h : zz_H} (hh : 111 ≤ h.length) {d : Nat} {N : Nat} : ∀ n : Nat, (∀ {Q : Option Value → zz_H → Prop} {x3 : Int32} {x4 : Int32} {x5 : Int32} {x6 : Int32} {x9 : Int32} {x10 : Int32} {x11 : Int32} {s s' : mS} {v : Option Value}, mf_338_L9 N n 0 x10 x11 x3 x4 x5 x6 x9 s = some (s', v) → Q v (mH h s') → zz_E zp_P zt_tf zt_fd X (d + 4) zm_338 113 [(0, .ref 61), (3, .int x3), (4, .int x4), (5, .int x5), (6, .int x6), (9, .int x9), (10, .int x10), (11, .int x11)] [] (mH h s) Q) := by
  intro n
  induction n with
  | zero => exact (fun hf _ => by cases hf)
  | succ n ih =>
    have h0 := @ih
    intro Q _ _ _ _ _ _ _ s s' v hf k
    unfold mf_338_L9 at hf
    rw [if_pos rfl] at hf
    exact mr_338_113 hh h0 hf k
def mf_338_107 (N : Nat) (x3 : Int32) (x4 : Int32) (x5 : Int32) (x6 : Int32) (x9 : Int32) (y0 : Int32) (s : mS) : mO := mf_338_L9 N N 0 y0 y0 x3 x4 x5 x6 x9 s
theorem mr_338_107 {X : Nat → Option zz_C} {h : zz_H} (hh : 111 ≤ h.length) {d : Nat} {N : Nat} {Q : Option Value → zz_H → Prop} {x3 : Int32} {x4 : Int32} {x5 : Int32} {x6 : Int32} {x9 : Int32} {y0 : Int32} {s s' : mS} {v : Option Value} (hf : mf_338_107 N x3 x4 x5 x6 x9 y0 s = some (s', v)) (k : Q v (mH h s')) : zz_E zp_P zt_tf zt_fd X (d + 4) zm_338 107 [(0, .ref 61), (3, .int x3), (4, .int x4), (5, .int x5), (6, .int x6), (9, .int x9)] [.int y0] (mH h s) Q := by
  unfold mf_338_107 at hf
  exact mb_338_107 hh  (mr_338_L9 hh N hf k)
def mf_338_105 (N : Nat) (x3 : Int32) (x4 : Int32) (x5 : Int32) (x6 : Int32) (x9 : Int32) (s : mS) : mO := mf_338_107 N x3 x4 x5 x6 x9 x9 s
theorem mr_338_105 {X : Nat → Option zz_C} {h : zz_H} (hh : 111 ≤ h.length) {d : Nat} {N : Nat} {Q : Option Value → zz_H → Prop} {x3 : Int32} {x4 : Int32} {x5 : Int32} {x6 : Int32} {x9 : Int32} {s s' : mS} {v : Option Value} (hf : mf_338_105 N x3 x4 x5 x6 x9 s = some (s', v)) (k : Q v (mH h s')) : zz_E zp_P zt_tf zt_fd X (d + 4) zm_338 105 [(0, .ref 61), (3, .int x3), (4, .int x4), (5, .int x5), (6, .int x6), (9, .int x9)] [] (mH h s) Q := by
  unfold mf_338_105 at hf
  exact mb_338_105 hh  (mr_338_107 hh hf k)
def mf_338_101 (N : Nat) (x3 : Int32) (x4 : Int32) (x5 : Int32) (x6 : Int32) (x9 : Int32) (s : mS) : mO := mf_338_107 N x3 x4 x5 x6 x9 0 s
theorem mr_338_101 {X : Nat → Option zz_C} {h : zz_H} (hh : 111 ≤ h.length) {d : Nat} {N : Nat} {Q : Option Value → zz_H → Prop} {x3 : Int32} {x4 : Int32} {x5 : Int32} {x6 : Int32} {x9 : Int32} {s s' : mS} {v : Option Value} (hf : mf_338_101 N x3 x4 x5 x6 x9 s = some (s', v)) (k : Q v (mH h s')) : zz_E zp_P zt_tf zt_fd X (d + 4) zm_338 101 [(0, .ref 61), (3, .int x3), (4, .int x4), (5, .int x5), (6, .int x6), (9, .int x9)] [] (mH h s) Q := by
  unfold mf_338_101 at hf
  exact mb_338_101 hh  (mr_338_107 hh hf k)
def mf_338_95 (N : Nat) (x2 : Int32) (x3 : Int32) (x4 : Int32) (x5 : Int32) (x6 : Int32) (y0 : Int32) (s : mS) : mO := if 0 ≤ x2 then mf_338_105 N x3 x4 x5 x6 y0 s else mf_338_101 N x3 x4 x5 x6 y0 s
theorem mr_338_95 {X : Nat → Option zz_C} {h : zz_H} (hh : 111 ≤ h.length) {d : Nat} {N : Nat} {Q : Option Value → zz_H → Prop} {x2 : Int32} {x3 : Int32} {x4 : Int32} {x5 : Int32} {x6 : Int32} {y0 : Int32} {s s' : mS} {v : Option Value} (hf : mf_338_95 N x2 x3 x4 x5 x6 y0 s = some (s', v)) (k : Q v (mH h s')) : zz_E zp_P zt_tf zt_fd X (d + 4) zm_338 95 [(0, .ref 61), (2, .int x2), (3, .int x3), (4, .int x4), (5, .int x5), (6, .int x6)] [.int y0] (mH h s) Q := by
  unfold mf_338_95 at hf
  refine mb_338_95 hh  (fun c => ?_) (fun c => ?_)
  · rw [if_pos c] at hf
    exact mr_338_105 hh hf k
  · rw [if_neg c] at hf
    exact mr_338_101 hh hf k
def mf_338_92 (N : Nat) (x2 : Int32) (x3 : Int32) (x4 : Int32) (x5 : Int32) (x6 : Int32) (x7 : Int64) (s : mS) : mO := mf_338_95 N x2 x3 x4 x5 x6 (Int64.toInt32 x7) s
theorem mr_338_92 {X : Nat → Option zz_C} {h : zz_H} (hh : 111 ≤ h.length) {d : Nat} {N : Nat} {Q : Option Value → zz_H → Prop} {x2 : Int32} {x3 : Int32} {x4 : Int32} {x5 : Int32} {x6 : Int32} {x7 : Int64} {s s' : mS} {v : Option Value} (hf : mf_338_92 N x2 x3 x4 x5 x6 x7 s = some (s', v)) (k : Q v (mH h s')) : zz_E zp_P zt_tf zt_fd X (d + 4) zm_338 92 [(0, .ref 61), (2, .int x2), (3, .int x3), (4, .int x4), (5, .int x5), (6, .int x6), (7, .long x7)] [] (mH h s) Q := by
  unfold mf_338_92 at hf
  exact mb_338_92 hh  (mr_338_95 hh hf k)
def mf_338_87 (N : Nat) (x2 : Int32) (x3 : Int32) (x4 : Int32) (x5 : Int32) (x6 : Int32) (s : mS) : mO := mf_338_95 N x2 x3 x4 x5 x6 x6 s
theorem mr_338_87 {X : Nat → Option zz_C} {h : zz_H} (hh : 111 ≤ h.length) {d : Nat} {N : Nat} {Q : Option Value → zz_H → Prop} {x2 : Int32} {x3 : Int32} {x4 : Int32} {x5 : Int32} {x6 : Int32} {s s' : mS} {v : Option Value} (hf : mf_338_87 N x2 x3 x4 x5 x6 s = some (s', v)) (k : Q v (mH h s')) : zz_E zp_P zt_tf zt_fd X (d + 4) zm_338 87 [(0, .ref 61), (2, .int x2), (3, .int x3), (4, .int x4), (5, .int x5), (6, .int x6)] [] (mH h s) Q := by
  unfold mf_338_87 at hf
  exact mb_338_87 hh  (mr_338_95 hh hf k)
def mf_338_78 (N : Nat) (x2 : Int32) (x3 : Int32) (x4 : Int32) (x5 : Int32) (x6 : Int32) (x7 : Int64) (s : mS) : mO := if (lg_cmp x7 (Int32.toInt64 x6)) ≤ 0 then mf_338_92 N x2 x3 x4 x5 x6 x7 s else mf_338_87 N x2 x3 x4 x5 x6 s
theorem mr_338_78 {X : Nat → Option zz_C} {h : zz_H} (hh : 111 ≤ h.length) {d : Nat} {N : Nat} {Q : Option Value → zz_H → Prop} {x2 : Int32} {x3 : Int32} {x4 : Int32} {x5 : Int32} {x6 : Int32} {x7 : Int64} {s s' : mS} {v : Option Value} (hf : mf_338_78 N x2 x3 x4 x5 x6 x7 s = some (s', v)) (k : Q v (mH h s')) : zz_E zp_P zt_tf zt_fd X (d + 4) zm_338 78 [(0, .ref 61), (2, .int x2), (3, .int x3), (4, .int x4), (5, .int x5), (6, .int x6), (7, .long x7)] [] (mH h s) Q := by
  unfold mf_338_78 at hf
  refine mb_338_78 hh  (fun c => ?_) (fun c => ?_)
  · rw [if_pos c] at hf
    exact mr_338_92 hh hf k
  · rw [if_neg c] at hf
    exact mr_338_87 hh hf k
def mf_338_66 (N : Nat) (x1 : Int32) (x2 : Int32) (x3 : Int32) (x4 : Int32) (x5 : Int32) (x6 : Int32) (x7 : Int64) (s : mS) : mO := if ¬ x1 = 21 then mf_338_148 N x2 x3 x4 x5 x6 x7 (mI s 51 x4) else mf_338_78 N x2 x3 x4 x5 x6 x7 (mI s 51 x4)
theorem mr_338_66 {X : Nat → Option zz_C} {h : zz_H} (hh : 111 ≤ h.length) {d : Nat} {N : Nat} {Q : Option Value → zz_H → Prop} {x1 : Int32} {x2 : Int32} {x3 : Int32} {x4 : Int32} {x5 : Int32} {x6 : Int32} {x7 : Int64} {s s' : mS} {v : Option Value} (hf : mf_338_66 N x1 x2 x3 x4 x5 x6 x7 s = some (s', v)) (k : Q v (mH h s')) : zz_E zp_P zt_tf zt_fd X (d + 4) zm_338 66 [(0, .ref 61), (1, .int x1), (2, .int x2), (3, .int x3), (4, .int x4), (5, .int x5), (6, .int x6), (7, .long x7)] [] (mH h s) Q := by
  unfold mf_338_66 at hf
  refine mb_338_66 hh  (fun c => ?_) (fun c => ?_)
  · rw [if_pos c] at hf
    exact mr_338_148 hh hf k
  · rw [if_neg c] at hf
    exact mr_338_78 hh hf k
def mf_338_65 (N : Nat)  (s : mS) : mO := some (s, none)
theorem mr_338_65 {X : Nat → Option zz_C} {h : zz_H} (hh : 111 ≤ h.length) {d : Nat} {N : Nat} {Q : Option Value → zz_H → Prop}  {s s' : mS} {v : Option Value} (hf : mf_338_65 N  s = some (s', v)) (k : Q v (mH h s')) : zz_E zp_P zt_tf zt_fd X (d + 4) zm_338 65 [] [] (mH h s) Q := by
  unfold mf_338_65 at hf
  cases hf
  exact mb_338_65 hh  k
def mf_338_56 (N : Nat)  (s : mS) : mO := mo_bv (mf_301 N 2 (s.1 70) s) (fun s1 => mf_338_65 N  s1)
theorem mr_338_56 {X : Nat → Option zz_C} {h : zz_H} (hh : 111 ≤ h.length) {d : Nat} {N : Nat} {Q : Option Value → zz_H → Prop}  {s s' : mS} {v : Option Value} (hf : mf_338_56 N  s = some (s', v)) (k : Q v (mH h s')) : zz_E zp_P zt_tf zt_fd X (d + 4) zm_338 56 [(0, .ref 61)] [] (mH h s) Q := by
  unfold mf_338_56 at hf
  obtain ⟨s1, e, hf⟩ := mo_bv_ok hf
  exact mb_338_56 (d := d + 3) hh  (mr_301 (d := d + 3) hh e (mr_338_65 hh hf k))
def mf_338_52 (N : Nat) (x1 : Int32) (x2 : Int32) (x3 : Int32) (x4 : Int32) (x5 : Int32) (x6 : Int32) (x7 : Int64) (y0 : Int64) (y1 : Int64) (s : mS) : mO := if (lg_cmp y0 y1) ≤ 0 then mf_338_66 N x1 x2 x3 x4 x5 x6 x7 s else mf_338_56 N  s
theorem mr_338_52 {X : Nat → Option zz_C} {h : zz_H} (hh : 111 ≤ h.length) {d : Nat} {N : Nat} {Q : Option Value → zz_H → Prop} {x1 : Int32} {x2 : Int32} {x3 : Int32} {x4 : Int32} {x5 : Int32} {x6 : Int32} {x7 : Int64} {y0 : Int64} {y1 : Int64} {s s' : mS} {v : Option Value} (hf : mf_338_52 N x1 x2 x3 x4 x5 x6 x7 y0 y1 s = some (s', v)) (k : Q v (mH h s')) : zz_E zp_P zt_tf zt_fd X (d + 4) zm_338 52 [(0, .ref 61), (1, .int x1), (2, .int x2), (3, .int x3), (4, .int x4), (5, .int x5), (6, .int x6), (7, .long x7)] [.long y1, .long y0] (mH h s) Q := by
  unfold mf_338_52 at hf
  refine mb_338_52 hh  (fun c => ?_) (fun c => ?_)
  · rw [if_pos c] at hf
    exact mr_338_66 hh hf k
  · rw [if_neg c] at hf
    exact mr_338_56 hh hf k
def mf_338_49 (N : Nat) (x1 : Int32) (x2 : Int32) (x3 : Int32) (x4 : Int32) (x5 : Int32) (x6 : Int32) (x7 : Int64) (y0 : Int64) (s : mS) : mO := mf_338_52 N x1 x2 x3 x4 x5 x6 x7 y0 20 s
theorem mr_338_49 {X : Nat → Option zz_C} {h : zz_H} (hh : 111 ≤ h.length) {d : Nat} {N : Nat} {Q : Option Value → zz_H → Prop} {x1 : Int32} {x2 : Int32} {x3 : Int32} {x4 : Int32} {x5 : Int32} {x6 : Int32} {x7 : Int64} {y0 : Int64} {s s' : mS} {v : Option Value} (hf : mf_338_49 N x1 x2 x3 x4 x5 x6 x7 y0 s = some (s', v)) (k : Q v (mH h s')) : zz_E zp_P zt_tf zt_fd X (d + 4) zm_338 49 [(0, .ref 61), (1, .int x1), (2, .int x2), (3, .int x3), (4, .int x4), (5, .int x5), (6, .int x6), (7, .long x7)] [.long y0] (mH h s) Q := by
  unfold mf_338_49 at hf
  exact mb_338_49 hh  (mr_338_52 hh hf k)
def mf_338_43 (N : Nat) (x1 : Int32) (x2 : Int32) (x3 : Int32) (x4 : Int32) (x5 : Int32) (x6 : Int32) (x7 : Int64) (y0 : Int64) (s : mS) : mO := mf_338_52 N x1 x2 x3 x4 x5 x6 x7 y0 64 s
theorem mr_338_43 {X : Nat → Option zz_C} {h : zz_H} (hh : 111 ≤ h.length) {d : Nat} {N : Nat} {Q : Option Value → zz_H → Prop} {x1 : Int32} {x2 : Int32} {x3 : Int32} {x4 : Int32} {x5 : Int32} {x6 : Int32} {x7 : Int64} {y0 : Int64} {s s' : mS} {v : Option Value} (hf : mf_338_43 N x1 x2 x3 x4 x5 x6 x7 y0 s = some (s', v)) (k : Q v (mH h s')) : zz_E zp_P zt_tf zt_fd X (d + 4) zm_338 43 [(0, .ref 61), (1, .int x1), (2, .int x2), (3, .int x3), (4, .int x4), (5, .int x5), (6, .int x6), (7, .long x7)] [.long y0] (mH h s) Q := by
  unfold mf_338_43 at hf
  exact mb_338_43 hh  (mr_338_52 hh hf k)
def mf_338_35 (N : Nat) (x1 : Int32) (x2 : Int32) (x3 : Int32) (x4 : Int32) (x5 : Int32) (x6 : Int32) (x7 : Int64) (s : mS) : mO := if ¬ x5 = 1 then mf_338_49 N x1 x2 x3 x4 x5 x6 x7 x7 s else mf_338_43 N x1 x2 x3 x4 x5 x6 x7 x7 s
theorem mr_338_35 {X : Nat → Option zz_C} {h : zz_H} (hh : 111 ≤ h.length) {d : Nat} {N : Nat} {Q : Option Value → zz_H → Prop} {x1 : Int32} {x2 : Int32} {x3 : Int32} {x4 : Int32} {x5 : Int32} {x6 : Int32} {x7 : Int64} {s s' : mS} {v : Option Value} (hf : mf_338_35 N x1 x2 x3 x4 x5 x6 x7 s = some (s', v)) (k : Q v (mH h s')) : zz_E zp_P zt_tf zt_fd X (d + 4) zm_338 35 [(0, .ref 61), (1, .int x1), (2, .int x2), (3, .int x3), (4, .int x4), (5, .int x5), (6, .int x6), (7, .long x7)] [] (mH h s) Q := by
  unfold mf_338_35 at hf
  refine mb_338_35 hh  (fun c => ?_) (fun c => ?_)
  · rw [if_pos c] at hf
    exact mr_338_49 hh hf k
  · rw [if_neg c] at hf
    exact mr_338_43 hh hf k
def mf_338_27 (N : Nat) (x1 : Int32) (x2 : Int32) (x3 : Int32) (x4 : Int32) (x5 : Int32) (x6 : Int32) (y0 : Int64) (s : mS) : mO := if ¬ x1 = 20 then mf_338_66 N x1 x2 x3 x4 x5 x6 y0 s else mf_338_35 N x1 x2 x3 x4 x5 x6 y0 s
theorem mr_338_27 {X : Nat → Option zz_C} {h : zz_H} (hh : 111 ≤ h.length) {d : Nat} {N : Nat} {Q : Option Value → zz_H → Prop} {x1 : Int32} {x2 : Int32} {x3 : Int32} {x4 : Int32} {x5 : Int32} {x6 : Int32} {y0 : Int64} {s s' : mS} {v : Option Value} (hf : mf_338_27 N x1 x2 x3 x4 x5 x6 y0 s = some (s', v)) (k : Q v (mH h s')) : zz_E zp_P zt_tf zt_fd X (d + 4) zm_338 27 [(0, .ref 61), (1, .int x1), (2, .int x2), (3, .int x3), (4, .int x4), (5, .int x5), (6, .int x6)] [.long y0] (mH h s) Q := by
  unfold mf_338_27 at hf
  refine mb_338_27 hh  (fun c => ?_) (fun c => ?_)
  · rw [if_pos c] at hf
    exact mr_338_66 hh hf k
  · rw [if_neg c] at hf
    exact mr_338_35 hh hf k
def mf_338_25 (N : Nat) (x1 : Int32) (x2 : Int32) (x3 : Int32) (x4 : Int32) (x5 : Int32) (x6 : Int32) (s : mS) : mO := mf_338_27 N x1 x2 x3 x4 x5 x6 (Int32.toInt64 x2) s
theorem mr_338_25 {X : Nat → Option zz_C} {h : zz_H} (hh : 111 ≤ h.length) {d : Nat} {N : Nat} {Q : Option Value → zz_H → Prop} {x1 : Int32} {x2 : Int32} {x3 : Int32} {x4 : Int32} {x5 : Int32} {x6 : Int32} {s s' : mS} {v : Option Value} (hf : mf_338_25 N x1 x2 x3 x4 x5 x6 s = some (s', v)) (k : Q v (mH h s')) : zz_E zp_P zt_tf zt_fd X (d + 4) zm_338 25 [(0, .ref 61), (1, .int x1), (2, .int x2), (3, .int x3), (4, .int x4), (5, .int x5), (6, .int x6)] [] (mH h s) Q := by
  unfold mf_338_25 at hf
  exact mb_338_25 hh  (mr_338_27 hh hf k)
def mf_338_19 (N : Nat) (x1 : Int32) (x2 : Int32) (x3 : Int32) (x4 : Int32) (x5 : Int32) (x6 : Int32) (s : mS) : mO := mf_338_27 N x1 x2 x3 x4 x5 x6 (-(Int32.toInt64 x2)) s
theorem mr_338_19 {X : Nat → Option zz_C} {h : zz_H} (hh : 111 ≤ h.length) {d : Nat} {N : Nat} {Q : Option Value → zz_H → Prop} {x1 : Int32} {x2 : Int32} {x3 : Int32} {x4 : Int32} {x5 : Int32} {x6 : Int32} {s s' : mS} {v : Option Value} (hf : mf_338_19 N x1 x2 x3 x4 x5 x6 s = some (s', v)) (k : Q v (mH h s')) : zz_E zp_P zt_tf zt_fd X (d + 4) zm_338 19 [(0, .ref 61), (1, .int x1), (2, .int x2), (3, .int x3), (4, .int x4), (5, .int x5), (6, .int x6)] [] (mH h s) Q := by
  unfold mf_338_19 at hf
  exact mb_338_19 hh  (mr_338_27 hh hf k)
def mf_338_13 (N : Nat) (x1 : Int32) (x2 : Int32) (x3 : Int32) (x4 : Int32) (x5 : Int32) (y0 : Int32) (s : mS) : mO := if 0 ≤ x2 then mf_338_25 N x1 x2 x3 x4 x5 y0 s else mf_338_19 N x1 x2 x3 x4 x5 y0 s
theorem mr_338_13 {X : Nat → Option zz_C} {h : zz_H} (hh : 111 ≤ h.length) {d : Nat} {N : Nat} {Q : Option Value → zz_H → Prop} {x1 : Int32} {x2 : Int32} {x3 : Int32} {x4 : Int32} {x5 : Int32} {y0 : Int32} {s s' : mS} {v : Option Value} (hf : mf_338_13 N x1 x2 x3 x4 x5 y0 s = some (s', v)) (k : Q v (mH h s')) : zz_E zp_P zt_tf zt_fd X (d + 4) zm_338 13 [(0, .ref 61), (1, .int x1), (2, .int x2), (3, .int x3), (4, .int x4), (5, .int x5)] [.int y0] (mH h s) Q := by
  unfold mf_338_13 at hf
  refine mb_338_13 hh  (fun c => ?_) (fun c => ?_)
  · rw [if_pos c] at hf
    exact mr_338_25 hh hf k
  · rw [if_neg c] at hf
    exact mr_338_19 hh hf k
def mf_338_0 (N : Nat) (x1 : Int32) (x2 : Int32) (x3 : Int32) (x4 : Int32) (s : mS) : mO := if ¬ (x3 < 0 ∨ 166300 ≤ Int32.toNatClampNeg x3) then (mo_bi (mf_77 N x3 s) (fun s1 y => mf_338_13 N x1 x2 x3 x4 ((s.2.2.1 47) (Int32.toNatClampNeg x3)) y s1)) else none
theorem mr_338_0 {X : Nat → Option zz_C} {h : zz_H} (hh : 111 ≤ h.length) {d : Nat} {N : Nat} {Q : Option Value → zz_H → Prop} {x1 : Int32} {x2 : Int32} {x3 : Int32} {x4 : Int32} {s s' : mS} {v : Option Value} (hf : mf_338_0 N x1 x2 x3 x4 s = some (s', v)) (k : Q v (mH h s')) : zz_E zp_P zt_tf zt_fd X (d + 4) zm_338 0 [(0, .ref 61), (1, .int x1), (2, .int x2), (3, .int x3), (4, .int x4)] [] (mH h s) Q := by
  unfold mf_338_0 at hf
  obtain ⟨q0, hf⟩ := mo_if hf
  obtain ⟨s1, y, e, hf⟩ := mo_bi_ok hf
  exact mb_338_0 (d := d + 3) hh q0 (mr_77 (d := d + 3) hh e (mr_338_13 hh hf k))
/-- ends2 -/
def mf_338 (N : Nat) (x1 : Int32) (x2 : Int32) (x3 : Int32) (x4 : Int32) (s : mS) : mO := mf_338_0 N x1 x2 x3 x4 s
theorem mr_338 {X : Nat → Option zz_C} {h : zz_H} (hh : 111 ≤ h.length) {d : Nat} {N : Nat} {Q : Option Value → zz_H → Prop} {x1 : Int32} {x2 : Int32} {x3 : Int32} {x4 : Int32} {s s' : mS} {v : Option Value} (hf : mf_338 N x1 x2 x3 x4 s = some (s', v)) (k : Q v (mH h s')) : zz_E zp_P zt_tf zt_fd X (d + 4) zm_338 0 [(0, .ref 61), (1, .int x1), (2, .int x2), (3, .int x3), (4, .int x4)] [] (mH h s) Q := by
  unfold mf_338 at hf
  exact zz_E.weak (mr_338_0 hh hf k) rfl ⟨rfl, rfl, rfl, rfl, rfl, trivial⟩
