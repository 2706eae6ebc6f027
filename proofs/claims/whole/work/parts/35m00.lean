/-! ===== the reference's methods as functions (printed by program) ===== -/
abbrev mO : Type := Option (mS × Option Value)
theorem mo_if {α : Type} {C : Prop} [Decidable C] {a : Option α} {r : α} (h : (if C then a else none) = some r) : C ∧ a = some r := by
  by_cases c : C
  · rw [if_pos c] at h
    exact ⟨c, h⟩
  · rw [if_neg c] at h
    cases h
def mo_bi (r : mO) (g : mS → Int32 → mO) : mO := match r with
  | some (s1, some (.int y)) => g s1 y
  | _ => none
def mo_bl (r : mO) (g : mS → Int64 → mO) : mO := match r with
  | some (s1, some (.long y)) => g s1 y
  | _ => none
def mo_bv (r : mO) (g : mS → mO) : mO := match r with
  | some (s1, none) => g s1
  | _ => none
theorem mo_bi_ok {r : mO} {g : mS → Int32 → mO} {q : mS × Option Value} (h : mo_bi r g = some q) : ∃ s1 y, r = some (s1, some (.int y)) ∧ g s1 y = some q := by
  unfold mo_bi at h
  split at h
  · exact ⟨_, _, rfl, h⟩
  · cases h
theorem mo_bl_ok {r : mO} {g : mS → Int64 → mO} {q : mS × Option Value} (h : mo_bl r g = some q) : ∃ s1 y, r = some (s1, some (.long y)) ∧ g s1 y = some q := by
  unfold mo_bl at h
  split at h
  · exact ⟨_, _, rfl, h⟩
  · cases h
theorem mo_bv_ok {r : mO} {g : mS → mO} {q : mS × Option Value} (h : mo_bv r g = some q) : ∃ s1, r = some (s1, none) ∧ g s1 = some q := by
  unfold mo_bv at h
  split at h
  · exact ⟨_, rfl, h⟩
  · cases h
/-! four (I)V -/
theorem mb_58_0 {X : Nat → Option zz_C} {h : zz_H} (hh : 111 ≤ h.length) {s : mS} {d : Nat} {Q : Option Value → zz_H → Prop} {x1 : Int32} (k : zz_E zp_P zt_tf zt_fd X d zm_58 3 [(0, .ref 61), (1, .int x1), (2, .int 24)] [] (mH h s) Q) : zz_E zp_P zt_tf zt_fd X d zm_58 0 [(0, .ref 61), (1, .int x1)] [] (mH h s) Q := by
  refine zz_E.c 2 (.int 24) rfl rfl rfl rfl ?_
  refine zz_E.n 3 rfl rfl rfl ?_
  exact zz_E.weak k rfl ⟨rfl, rfl, rfl, trivial⟩
theorem mb_58_3 {X : Nat → Option zz_C} {h : zz_H} (hh : 111 ≤ h.length) {s : mS} {d : Nat} {Q : Option Value → zz_H → Prop} {x1 : Int32} {x2 : Int32} (k1 : x2 < 0 → zz_E zp_P zt_tf zt_fd X d zm_58 36 [] [] (mH h s) Q) (k2 : ¬ x2 < 0 → zz_E zp_P zt_tf zt_fd X d zm_58 7 [(0, .ref 61), (1, .int x1), (2, .int x2)] [] (mH h s) Q) : zz_E zp_P zt_tf zt_fd X d zm_58 3 [(0, .ref 61), (1, .int x1), (2, .int x2)] [] (mH h s) Q := by
  refine zz_E.n 4 rfl rfl rfl ?_
  refine zz_E.b1 36 7 (A := x2 < 0) rfl rfl (by decide) rfl rfl (fun c => ?_) (fun c => ?_)
  · exact zz_E.weak (k1 c) rfl trivial
  · exact zz_E.weak (k2 c) rfl ⟨rfl, rfl, rfl, trivial⟩
theorem mb_58_7 {X : Nat → Option zz_C} {h : zz_H} (hh : 111 ≤ h.length) {s : mS} {d : Nat} {Q : Option Value → zz_H → Prop} {x1 : Int32} {x2 : Int32} (i19 : ¬ ((s.1 3) < 0 ∨ 1620 ≤ Int32.toNatClampNeg (s.1 3))) (k : zz_E zp_P zt_tf zt_fd X d zm_58 3 [(0, .ref 61), (1, .int x1), (2, .int (x2 + (-8)))] [] (mH h (mI (mA s 2 (upd (s.2.2.1 2) (Int32.toNatClampNeg (s.1 3)) (vp_nar (zz_ty 2) (Int8.toInt32 (Int32.toInt8 (x1 >>> (x2 &&& 31))))))) 3 ((s.1 3) + 1))) Q) : zz_E zp_P zt_tf zt_fd X d zm_58 7 [(0, .ref 61), (1, .int x1), (2, .int x2)] [] (mH h s) Q := by
  refine zz_E.n 8 rfl rfl rfl ?_
  refine mE_g hh 11 (v := .ref 64) rfl rfl rfl ?_
  refine zz_E.n 12 rfl rfl rfl ?_
  refine mE_g hh 15 (v := .int (s.1 3)) rfl rfl rfl ?_
  refine zz_E.n 16 rfl rfl rfl ?_
  refine zz_E.n 17 rfl rfl rfl ?_
  refine zz_E.n 18 rfl rfl rfl ?_
  refine zz_E.n 19 rfl rfl rfl ?_
  refine mE_bs hh 20 3 (f := (s.2.2.1 2)) rfl (by decide) rfl rfl i19 (mA_64 _ _) rfl ?_
  refine zz_E.n 21 rfl rfl rfl ?_
  refine zz_E.n 22 rfl rfl rfl ?_
  refine mE_g hh 25 (v := .int (s.1 3)) rfl rfl rfl ?_
  refine zz_E.c 26 (.int 1) rfl rfl rfl rfl ?_
  refine zz_E.n 27 rfl rfl rfl ?_
  refine mE_p hh 30 rfl (by decide) rfl (mF_3 _ _) rfl ?_
  refine zz_E.n 33 rfl rfl rfl ?_
  refine zz_E.n 3 rfl rfl rfl ?_
  exact zz_E.weak k rfl ⟨rfl, rfl, rfl, trivial⟩
theorem mb_58_36 {X : Nat → Option zz_C} {h : zz_H} (hh : 111 ≤ h.length) {s : mS} {d : Nat} {Q : Option Value → zz_H → Prop}  (k : Q none (mH h s)) : zz_E zp_P zt_tf zt_fd X d zm_58 36 [] [] (mH h s) Q := by
  refine zz_E.ret rfl rfl rfl ?_
  exact k
def mf_58_36 (N : Nat)  (s : mS) : mO := some (s, none)
theorem mr_58_36 {X : Nat → Option zz_C} {h : zz_H} (hh : 111 ≤ h.length) {d : Nat} {N : Nat} {Q : Option Value → zz_H → Prop}  {s s' : mS} {v : Option Value} (hf : mf_58_36 N  s = some (s', v)) (k : Q v (mH h s')) : zz_E zp_P zt_tf zt_fd X (d + 0) zm_58 36 [] [] (mH h s) Q := by
  unfold mf_58_36 at hf
  cases hf
  exact mb_58_36 hh  k
def mf_58_7 (N : Nat) (rc : Nat → Int32 → Int32 → mS → mO) (x1 : Int32) (x2 : Int32) (s : mS) : mO := if ¬ ((s.1 3) < 0 ∨ 1620 ≤ Int32.toNatClampNeg (s.1 3)) then (rc 0 x1 (x2 + (-8)) (mI (mA s 2 (upd (s.2.2.1 2) (Int32.toNatClampNeg (s.1 3)) (vp_nar (zz_ty 2) (Int8.toInt32 (Int32.toInt8 (x1 >>> (x2 &&& 31))))))) 3 ((s.1 3) + 1))) else none
theorem mr_58_7 {X : Nat → Option zz_C} {h : zz_H} (hh : 111 ≤ h.length) {d : Nat} {N : Nat} {rc : Nat → Int32 → Int32 → mS → mO} (hrc0 : ∀ {Q : Option Value → zz_H → Prop} {x1 : Int32} {x2 : Int32} {s s' : mS} {v : Option Value}, rc 0 x1 x2 s = some (s', v) → Q v (mH h s') → zz_E zp_P zt_tf zt_fd X (d + 0) zm_58 3 [(0, .ref 61), (1, .int x1), (2, .int x2)] [] (mH h s) Q) {Q : Option Value → zz_H → Prop} {x1 : Int32} {x2 : Int32} {s s' : mS} {v : Option Value} (hf : mf_58_7 N rc x1 x2 s = some (s', v)) (k : Q v (mH h s')) : zz_E zp_P zt_tf zt_fd X (d + 0) zm_58 7 [(0, .ref 61), (1, .int x1), (2, .int x2)] [] (mH h s) Q := by
  unfold mf_58_7 at hf
  obtain ⟨q0, hf⟩ := mo_if hf
  exact mb_58_7 hh q0 (hrc0 hf k)
def mf_58_3 (N : Nat) (rc : Nat → Int32 → Int32 → mS → mO) (x1 : Int32) (x2 : Int32) (s : mS) : mO := if x2 < 0 then mf_58_36 N  s else mf_58_7 N rc x1 x2 s
theorem mr_58_3 {X : Nat → Option zz_C} {h : zz_H} (hh : 111 ≤ h.length) {d : Nat} {N : Nat} {rc : Nat → Int32 → Int32 → mS → mO} (hrc0 : ∀ {Q : Option Value → zz_H → Prop} {x1 : Int32} {x2 : Int32} {s s' : mS} {v : Option Value}, rc 0 x1 x2 s = some (s', v) → Q v (mH h s') → zz_E zp_P zt_tf zt_fd X (d + 0) zm_58 3 [(0, .ref 61), (1, .int x1), (2, .int x2)] [] (mH h s) Q) {Q : Option Value → zz_H → Prop} {x1 : Int32} {x2 : Int32} {s s' : mS} {v : Option Value} (hf : mf_58_3 N rc x1 x2 s = some (s', v)) (k : Q v (mH h s')) : zz_E zp_P zt_tf zt_fd X (d + 0) zm_58 3 [(0, .ref 61), (1, .int x1), (2, .int x2)] [] (mH h s) Q := by
  unfold mf_58_3 at hf
  refine mb_58_3 hh  (fun c => ?_) (fun c => ?_)
  · rw [if_pos c] at hf
    exact mr_58_36 hh hf k
  · rw [if_neg c] at hf
    exact mr_58_7 hh hrc0 hf k
def mf_58_L1 (N : Nat) : Nat → Nat → Int32 → Int32 → mS → mO
  | 0, _, _, _, _ => none
  | n + 1, l, x1, x2, s => if l = 0 then mf_58_3 N (mf_58_L1 N n) x1 x2 s else none
theorem mr_58_L1 {X : Nat → Option zz_C} {h : zz_H} (hh : 111 ≤ h.length) {d : Nat} {N : Nat} : ∀ n : Nat, (∀ {Q : Option Value → zz_H → Prop} {x1 : Int32} {x2 : Int32} {s s' : mS} {v : Option Value}, mf_58_L1 N n 0 x1 x2 s = some (s', v) → Q v (mH h s') → zz_E zp_P zt_tf zt_fd X (d + 0) zm_58 3 [(0, .ref 61), (1, .int x1), (2, .int x2)] [] (mH h s) Q) := by
  intro n
  induction n with
  | zero => exact (fun hf _ => by cases hf)
  | succ n ih =>
    have h0 := @ih
    intro Q _ _ s s' v hf k
    unfold mf_58_L1 at hf
    rw [if_pos rfl] at hf
    exact mr_58_3 hh h0 hf k
def mf_58_0 (N : Nat) (x1 : Int32) (s : mS) : mO := mf_58_L1 N N 0 x1 24 s
theorem mr_58_0 {X : Nat → Option zz_C} {h : zz_H} (hh : 111 ≤ h.length) {d : Nat} {N : Nat} {Q : Option Value → zz_H → Prop} {x1 : Int32} {s s' : mS} {v : Option Value} (hf : mf_58_0 N x1 s = some (s', v)) (k : Q v (mH h s')) : zz_E zp_P zt_tf zt_fd X (d + 0) zm_58 0 [(0, .ref 61), (1, .int x1)] [] (mH h s) Q := by
  unfold mf_58_0 at hf
  exact mb_58_0 hh  (mr_58_L1 hh N hf k)
/-- four -/
def mf_58 (N : Nat) (x1 : Int32) (s : mS) : mO := mf_58_0 N x1 s
theorem mr_58 {X : Nat → Option zz_C} {h : zz_H} (hh : 111 ≤ h.length) {d : Nat} {N : Nat} {Q : Option Value → zz_H → Prop} {x1 : Int32} {s s' : mS} {v : Option Value} (hf : mf_58 N x1 s = some (s', v)) (k : Q v (mH h s')) : zz_E zp_P zt_tf zt_fd X (d + 0) zm_58 0 [(0, .ref 61), (1, .int x1)] [] (mH h s) Q := by
  unfold mf_58 at hf
  exact zz_E.weak (mr_58_0 hh hf k) rfl ⟨rfl, rfl, trivial⟩
/-! feed (IIIII)I -/
theorem mb_57_0 {X : Nat → Option zz_C} {h : zz_H} (hh : 111 ≤ h.length) {s : mS} {d : Nat} {Q : Option Value → zz_H → Prop} {x1 : Int32} {x2 : Int32} {x3 : Int32} {x4 : Int32} {x5 : Int32} (k1 : (s.1 3) ≤ 1600 → zz_E zp_P zt_tf zt_fd X d zm_57 12 [(0, .ref 61), (1, .int x1), (2, .int x2), (3, .int x3), (4, .int x4), (5, .int x5)] [] (mH h s) Q) (k2 : ¬ (s.1 3) ≤ 1600 → zz_E zp_P zt_tf zt_fd X d zm_57 10 [] [] (mH h s) Q) : zz_E zp_P zt_tf zt_fd X d zm_57 0 [(0, .ref 61), (1, .int x1), (2, .int x2), (3, .int x3), (4, .int x4), (5, .int x5)] [] (mH h s) Q := by
  refine zz_E.n 1 rfl rfl rfl ?_
  refine mE_g hh 4 (v := .int (s.1 3)) rfl rfl rfl ?_
  refine zz_E.c 7 (.int 1600) rfl rfl rfl rfl ?_
  refine zz_E.b2 12 10 (A := (s.1 3) ≤ 1600) rfl rfl (by decide) rfl rfl (fun c => ?_) (fun c => ?_)
  · exact zz_E.weak (k1 c) rfl ⟨rfl, rfl, rfl, rfl, rfl, rfl, trivial⟩
  · exact zz_E.weak (k2 c) rfl trivial
theorem mb_57_10 {X : Nat → Option zz_C} {h : zz_H} (hh : 111 ≤ h.length) {s : mS} {d : Nat} {Q : Option Value → zz_H → Prop}  (k : Q (some (.int (-1))) (mH h s)) : zz_E zp_P zt_tf zt_fd X d zm_57 10 [] [] (mH h s) Q := by
  refine zz_E.c 11 (.int (-1)) rfl rfl rfl rfl ?_
  refine zz_E.ret rfl rfl rfl ?_
  exact k
theorem mb_57_12 {X : Nat → Option zz_C} {h : zz_H} (hh : 111 ≤ h.length) {s : mS} {d : Nat} {Q : Option Value → zz_H → Prop} {x1 : Int32} {x2 : Int32} {x3 : Int32} {x4 : Int32} {x5 : Int32} (k : zz_E zp_P zt_tf zt_fd X d zm_58 0 [(0, .ref 61), (1, .int x1)] [] (mH h s) (fun v h' => zz_E zp_P zt_tf zt_fd X (d + 1) zm_57 17 [(0, .ref 61), (2, .int x2), (3, .int x3), (4, .int x4), (5, .int x5)] (v.toList ++ []) h' Q)) : zz_E zp_P zt_tf zt_fd X (d + 1) zm_57 12 [(0, .ref 61), (1, .int x1), (2, .int x2), (3, .int x3), (4, .int x4), (5, .int x5)] [] (mH h s) Q := by
  refine zz_E.n 13 rfl rfl rfl ?_
  refine zz_E.n 14 rfl rfl rfl ?_
  refine mE_cv hh 17 (as := []) rfl rfl (Nat.le_of_ble_eq_true rfl) (Nat.le_of_ble_eq_true rfl) rfl (Nat.le_of_ble_eq_true rfl) rfl ?_
  refine zz_E.mono k ?_
  intro v h' hE
  exact zz_E.weak hE rfl ⟨rfl, rfl, rfl, rfl, rfl, trivial⟩
theorem mb_57_17 {X : Nat → Option zz_C} {h : zz_H} (hh : 111 ≤ h.length) {s : mS} {d : Nat} {Q : Option Value → zz_H → Prop} {x2 : Int32} {x3 : Int32} {x4 : Int32} {x5 : Int32} (k : zz_E zp_P zt_tf zt_fd X d zm_58 0 [(0, .ref 61), (1, .int x2)] [] (mH h s) (fun v h' => zz_E zp_P zt_tf zt_fd X (d + 1) zm_57 22 [(0, .ref 61), (3, .int x3), (4, .int x4), (5, .int x5)] (v.toList ++ []) h' Q)) : zz_E zp_P zt_tf zt_fd X (d + 1) zm_57 17 [(0, .ref 61), (2, .int x2), (3, .int x3), (4, .int x4), (5, .int x5)] [] (mH h s) Q := by
  refine zz_E.n 18 rfl rfl rfl ?_
  refine zz_E.n 19 rfl rfl rfl ?_
  refine mE_cv hh 22 (as := []) rfl rfl (Nat.le_of_ble_eq_true rfl) (Nat.le_of_ble_eq_true rfl) rfl (Nat.le_of_ble_eq_true rfl) rfl ?_
  refine zz_E.mono k ?_
  intro v h' hE
  exact zz_E.weak hE rfl ⟨rfl, rfl, rfl, rfl, trivial⟩
theorem mb_57_22 {X : Nat → Option zz_C} {h : zz_H} (hh : 111 ≤ h.length) {s : mS} {d : Nat} {Q : Option Value → zz_H → Prop} {x3 : Int32} {x4 : Int32} {x5 : Int32} (k : zz_E zp_P zt_tf zt_fd X d zm_58 0 [(0, .ref 61), (1, .int x3)] [] (mH h s) (fun v h' => zz_E zp_P zt_tf zt_fd X (d + 1) zm_57 27 [(0, .ref 61), (4, .int x4), (5, .int x5)] (v.toList ++ []) h' Q)) : zz_E zp_P zt_tf zt_fd X (d + 1) zm_57 22 [(0, .ref 61), (3, .int x3), (4, .int x4), (5, .int x5)] [] (mH h s) Q := by
  refine zz_E.n 23 rfl rfl rfl ?_
  refine zz_E.n 24 rfl rfl rfl ?_
  refine mE_cv hh 27 (as := []) rfl rfl (Nat.le_of_ble_eq_true rfl) (Nat.le_of_ble_eq_true rfl) rfl (Nat.le_of_ble_eq_true rfl) rfl ?_
  refine zz_E.mono k ?_
  intro v h' hE
  exact zz_E.weak hE rfl ⟨rfl, rfl, rfl, trivial⟩
theorem mb_57_27 {X : Nat → Option zz_C} {h : zz_H} (hh : 111 ≤ h.length) {s : mS} {d : Nat} {Q : Option Value → zz_H → Prop} {x4 : Int32} {x5 : Int32} (k : zz_E zp_P zt_tf zt_fd X d zm_58 0 [(0, .ref 61), (1, .int x4)] [] (mH h s) (fun v h' => zz_E zp_P zt_tf zt_fd X (d + 1) zm_57 33 [(0, .ref 61), (5, .int x5)] (v.toList ++ []) h' Q)) : zz_E zp_P zt_tf zt_fd X (d + 1) zm_57 27 [(0, .ref 61), (4, .int x4), (5, .int x5)] [] (mH h s) Q := by
  refine zz_E.n 28 rfl rfl rfl ?_
  refine zz_E.n 30 rfl rfl rfl ?_
  refine mE_cv hh 33 (as := []) rfl rfl (Nat.le_of_ble_eq_true rfl) (Nat.le_of_ble_eq_true rfl) rfl (Nat.le_of_ble_eq_true rfl) rfl ?_
  refine zz_E.mono k ?_
  intro v h' hE
  exact zz_E.weak hE rfl ⟨rfl, rfl, trivial⟩
theorem mb_57_33 {X : Nat → Option zz_C} {h : zz_H} (hh : 111 ≤ h.length) {s : mS} {d : Nat} {Q : Option Value → zz_H → Prop} {x5 : Int32} (k : zz_E zp_P zt_tf zt_fd X d zm_58 0 [(0, .ref 61), (1, .int x5)] [] (mH h s) (fun v h' => zz_E zp_P zt_tf zt_fd X (d + 1) zm_57 39 [(0, .ref 61)] (v.toList ++ []) h' Q)) : zz_E zp_P zt_tf zt_fd X (d + 1) zm_57 33 [(0, .ref 61), (5, .int x5)] [] (mH h s) Q := by
  refine zz_E.n 34 rfl rfl rfl ?_
  refine zz_E.n 36 rfl rfl rfl ?_
  refine mE_cv hh 39 (as := []) rfl rfl (Nat.le_of_ble_eq_true rfl) (Nat.le_of_ble_eq_true rfl) rfl (Nat.le_of_ble_eq_true rfl) rfl ?_
  refine zz_E.mono k ?_
  intro v h' hE
  exact zz_E.weak hE rfl ⟨rfl, trivial⟩
theorem mb_57_39 {X : Nat → Option zz_C} {h : zz_H} (hh : 111 ≤ h.length) {s : mS} {d : Nat} {Q : Option Value → zz_H → Prop}  (k : Q (some (.int (s.1 3))) (mH h s)) : zz_E zp_P zt_tf zt_fd X d zm_57 39 [(0, .ref 61)] [] (mH h s) Q := by
  refine zz_E.n 40 rfl rfl rfl ?_
  refine mE_g hh 43 (v := .int (s.1 3)) rfl rfl rfl ?_
  refine zz_E.ret rfl rfl rfl ?_
  exact k
def mf_57_39 (N : Nat)  (s : mS) : mO := some (s, (some (.int (s.1 3))))
theorem mr_57_39 {X : Nat → Option zz_C} {h : zz_H} (hh : 111 ≤ h.length) {d : Nat} {N : Nat} {Q : Option Value → zz_H → Prop}  {s s' : mS} {v : Option Value} (hf : mf_57_39 N  s = some (s', v)) (k : Q v (mH h s')) : zz_E zp_P zt_tf zt_fd X (d + 1) zm_57 39 [(0, .ref 61)] [] (mH h s) Q := by
  unfold mf_57_39 at hf
  cases hf
  exact mb_57_39 hh  k
def mf_57_33 (N : Nat) (x5 : Int32) (s : mS) : mO := mo_bv (mf_58 N x5 s) (fun s1 => mf_57_39 N  s1)
theorem mr_57_33 {X : Nat → Option zz_C} {h : zz_H} (hh : 111 ≤ h.length) {d : Nat} {N : Nat} {Q : Option Value → zz_H → Prop} {x5 : Int32} {s s' : mS} {v : Option Value} (hf : mf_57_33 N x5 s = some (s', v)) (k : Q v (mH h s')) : zz_E zp_P zt_tf zt_fd X (d + 1) zm_57 33 [(0, .ref 61), (5, .int x5)] [] (mH h s) Q := by
  unfold mf_57_33 at hf
  obtain ⟨s1, e, hf⟩ := mo_bv_ok hf
  exact mb_57_33 (d := d + 0) hh  (mr_58 (d := d + 0) hh e (mr_57_39 hh hf k))
def mf_57_27 (N : Nat) (x4 : Int32) (x5 : Int32) (s : mS) : mO := mo_bv (mf_58 N x4 s) (fun s1 => mf_57_33 N x5 s1)
theorem mr_57_27 {X : Nat → Option zz_C} {h : zz_H} (hh : 111 ≤ h.length) {d : Nat} {N : Nat} {Q : Option Value → zz_H → Prop} {x4 : Int32} {x5 : Int32} {s s' : mS} {v : Option Value} (hf : mf_57_27 N x4 x5 s = some (s', v)) (k : Q v (mH h s')) : zz_E zp_P zt_tf zt_fd X (d + 1) zm_57 27 [(0, .ref 61), (4, .int x4), (5, .int x5)] [] (mH h s) Q := by
  unfold mf_57_27 at hf
  obtain ⟨s1, e, hf⟩ := mo_bv_ok hf
  exact mb_57_27 (d := d + 0) hh  (mr_58 (d := d + 0) hh e (mr_57_33 hh hf k))
def mf_57_22 (N : Nat) (x3 : Int32) (x4 : Int32) (x5 : Int32) (s : mS) : mO := mo_bv (mf_58 N x3 s) (fun s1 => mf_57_27 N x4 x5 s1)
theorem mr_57_22 {X : Nat → Option zz_C} {h : zz_H} (hh : 111 ≤ h.length) {d : Nat} {N : Nat} {Q : Option Value → zz_H → Prop} {x3 : Int32} {x4 : Int32} {x5 : Int32} {s s' : mS} {v : Option Value} (hf : mf_57_22 N x3 x4 x5 s = some (s', v)) (k : Q v (mH h s')) : zz_E zp_P zt_tf zt_fd X (d + 1) zm_57 22 [(0, .ref 61), (3, .int x3), (4, .int x4), (5, .int x5)] [] (mH h s) Q := by
  unfold mf_57_22 at hf
  obtain ⟨s1, e, hf⟩ := mo_bv_ok hf
  exact mb_57_22 (d := d + 0) hh  (mr_58 (d := d + 0) hh e (mr_57_27 hh hf k))
def mf_57_17 (N : Nat) (x2 : Int32) (x3 : Int32) (x4 : Int32) (x5 : Int32) (s : mS) : mO := mo_bv (mf_58 N x2 s) (fun s1 => mf_57_22 N x3 x4 x5 s1)
theorem mr_57_17 {X : Nat → Option zz_C} {h : zz_H} (hh : 111 ≤ h.length) {d : Nat} {N : Nat} {Q : Option Value → zz_H → Prop} {x2 : Int32} {x3 : Int32} {x4 : Int32} {x5 : Int32} {s s' : mS} {v : Option Value} (hf : mf_57_17 N x2 x3 x4 x5 s = some (s', v)) (k : Q v (mH h s')) : zz_E zp_P zt_tf zt_fd X (d + 1) zm_57 17 [(0, .ref 61), (2, .int x2), (3, .int x3), (4, .int x4), (5, .int x5)] [] (mH h s) Q := by
  unfold mf_57_17 at hf
  obtain ⟨s1, e, hf⟩ := mo_bv_ok hf
  exact mb_57_17 (d := d + 0) hh  (mr_58 (d := d + 0) hh e (mr_57_22 hh hf k))
def mf_57_12 (N : Nat) (x1 : Int32) (x2 : Int32) (x3 : Int32) (x4 : Int32) (x5 : Int32) (s : mS) : mO := mo_bv (mf_58 N x1 s) (fun s1 => mf_57_17 N x2 x3 x4 x5 s1)
theorem mr_57_12 {X : Nat → Option zz_C} {h : zz_H} (hh : 111 ≤ h.length) {d : Nat} {N : Nat} {Q : Option Value → zz_H → Prop} {x1 : Int32} {x2 : Int32} {x3 : Int32} {x4 : Int32} {x5 : Int32} {s s' : mS} {v : Option Value} (hf : mf_57_12 N x1 x2 x3 x4 x5 s = some (s', v)) (k : Q v (mH h s')) : zz_E zp_P zt_tf zt_fd X (d + 1) zm_57 12 [(0, .ref 61), (1, .int x1), (2, .int x2), (3, .int x3), (4, .int x4), (5, .int x5)] [] (mH h s) Q := by
  unfold mf_57_12 at hf
  obtain ⟨s1, e, hf⟩ := mo_bv_ok hf
  exact mb_57_12 (d := d + 0) hh  (mr_58 (d := d + 0) hh e (mr_57_17 hh hf k))
def mf_57_10 (N : Nat)  (s : mS) : mO := some (s, (some (.int (-1))))
theorem mr_57_10 {X : Nat → Option zz_C} {h : zz_H} (hh : 111 ≤ h.length) {d : Nat} {N : Nat} {Q : Option Value → zz_H → Prop}  {s s' : mS} {v : Option Value} (hf : mf_57_10 N  s = some (s', v)) (k : Q v (mH h s')) : zz_E zp_P zt_tf zt_fd X (d + 1) zm_57 10 [] [] (mH h s) Q := by
  unfold mf_57_10 at hf
  cases hf
  exact mb_57_10 hh  k
def mf_57_0 (N : Nat) (x1 : Int32) (x2 : Int32) (x3 : Int32) (x4 : Int32) (x5 : Int32) (s : mS) : mO := if (s.1 3) ≤ 1600 then mf_57_12 N x1 x2 x3 x4 x5 s else mf_57_10 N  s
theorem mr_57_0 {X : Nat → Option zz_C} {h : zz_H} (hh : 111 ≤ h.length) {d : Nat} {N : Nat} {Q : Option Value → zz_H → Prop} {x1 : Int32} {x2 : Int32} {x3 : Int32} {x4 : Int32} {x5 : Int32} {s s' : mS} {v : Option Value} (hf : mf_57_0 N x1 x2 x3 x4 x5 s = some (s', v)) (k : Q v (mH h s')) : zz_E zp_P zt_tf zt_fd X (d + 1) zm_57 0 [(0, .ref 61), (1, .int x1), (2, .int x2), (3, .int x3), (4, .int x4), (5, .int x5)] [] (mH h s) Q := by
  unfold mf_57_0 at hf
  refine mb_57_0 hh  (fun c => ?_) (fun c => ?_)
  · rw [if_pos c] at hf
    exact mr_57_12 hh hf k
  · rw [if_neg c] at hf
    exact mr_57_10 hh hf k
/-- feed -/
def mf_57 (N : Nat) (x1 : Int32) (x2 : Int32) (x3 : Int32) (x4 : Int32) (x5 : Int32) (s : mS) : mO := mf_57_0 N x1 x2 x3 x4 x5 s
theorem mr_57 {X : Nat → Option zz_C} {h : zz_H} (hh : 111 ≤ h.length) {d : Nat} {N : Nat} {Q : Option Value → zz_H → Prop} {x1 : Int32} {x2 : Int32} {x3 : Int32} {x4 : Int32} {x5 : Int32} {s s' : mS} {v : Option Value} (hf : mf_57 N x1 x2 x3 x4 x5 s = some (s', v)) (k : Q v (mH h s')) : zz_E zp_P zt_tf zt_fd X (d + 1) zm_57 0 [(0, .ref 61), (1, .int x1), (2, .int x2), (3, .int x3), (4, .int x4), (5, .int x5)] [] (mH h s) Q := by
  unfold mf_57 at hf
  exact zz_E.weak (mr_57_0 hh hf k) rfl ⟨rfl, rfl, rfl, rfl, rfl, rfl, trivial⟩
/-! breaks (II)V -/
theorem mb_261_0 {X : Nat → Option zz_C} {h : zz_H} (hh : 111 ≤ h.length) {s : mS} {d : Nat} {Q : Option Value → zz_H → Prop} {x1 : Int32} {x2 : Int32} (k1 : (s.1 9) ≤ 0 → zz_E zp_P zt_tf zt_fd X d zm_261 8 [(0, .ref 61), (1, .int x1), (2, .int x2)] [] (mH h s) Q) (k2 : ¬ (s.1 9) ≤ 0 → zz_E zp_P zt_tf zt_fd X d zm_261 7 [] [] (mH h s) Q) : zz_E zp_P zt_tf zt_fd X d zm_261 0 [(0, .ref 61), (1, .int x1), (2, .int x2)] [] (mH h s) Q := by
  refine zz_E.n 1 rfl rfl rfl ?_
  refine mE_g hh 4 (v := .int (s.1 9)) rfl rfl rfl ?_
  refine zz_E.b1 8 7 (A := (s.1 9) ≤ 0) rfl rfl (by decide) rfl rfl (fun c => ?_) (fun c => ?_)
  · exact zz_E.weak (k1 c) rfl ⟨rfl, rfl, rfl, trivial⟩
  · exact zz_E.weak (k2 c) rfl trivial
theorem mb_261_7 {X : Nat → Option zz_C} {h : zz_H} (hh : 111 ≤ h.length) {s : mS} {d : Nat} {Q : Option Value → zz_H → Prop}  (k : Q none (mH h s)) : zz_E zp_P zt_tf zt_fd X d zm_261 7 [] [] (mH h s) Q := by
  refine zz_E.ret rfl rfl rfl ?_
  exact k
theorem mb_261_8 {X : Nat → Option zz_C} {h : zz_H} (hh : 111 ≤ h.length) {s : mS} {d : Nat} {Q : Option Value → zz_H → Prop} {x1 : Int32} {x2 : Int32} (k : Q none (mH h (mI (mI s 9 x1) 10 x2))) : zz_E zp_P zt_tf zt_fd X d zm_261 8 [(0, .ref 61), (1, .int x1), (2, .int x2)] [] (mH h s) Q := by
  refine zz_E.n 9 rfl rfl rfl ?_
  refine zz_E.n 10 rfl rfl rfl ?_
  refine mE_p hh 13 rfl (by decide) rfl (mF_9 _ _) rfl ?_
  refine zz_E.n 14 rfl rfl rfl ?_
  refine zz_E.n 15 rfl rfl rfl ?_
  refine mE_p hh 18 rfl (by decide) rfl (mF_10 _ _) rfl ?_
  refine zz_E.ret rfl rfl rfl ?_
  exact k
def mf_261_8 (N : Nat) (x1 : Int32) (x2 : Int32) (s : mS) : mO := some ((mI (mI s 9 x1) 10 x2), none)
theorem mr_261_8 {X : Nat → Option zz_C} {h : zz_H} (hh : 111 ≤ h.length) {d : Nat} {N : Nat} {Q : Option Value → zz_H → Prop} {x1 : Int32} {x2 : Int32} {s s' : mS} {v : Option Value} (hf : mf_261_8 N x1 x2 s = some (s', v)) (k : Q v (mH h s')) : zz_E zp_P zt_tf zt_fd X (d + 0) zm_261 8 [(0, .ref 61), (1, .int x1), (2, .int x2)] [] (mH h s) Q := by
  unfold mf_261_8 at hf
  cases hf
  exact mb_261_8 hh  k
def mf_261_7 (N : Nat)  (s : mS) : mO := some (s, none)
theorem mr_261_7 {X : Nat → Option zz_C} {h : zz_H} (hh : 111 ≤ h.length) {d : Nat} {N : Nat} {Q : Option Value → zz_H → Prop}  {s s' : mS} {v : Option Value} (hf : mf_261_7 N  s = some (s', v)) (k : Q v (mH h s')) : zz_E zp_P zt_tf zt_fd X (d + 0) zm_261 7 [] [] (mH h s) Q := by
  unfold mf_261_7 at hf
  cases hf
  exact mb_261_7 hh  k
def mf_261_0 (N : Nat) (x1 : Int32) (x2 : Int32) (s : mS) : mO := if (s.1 9) ≤ 0 then mf_261_8 N x1 x2 s else mf_261_7 N  s
theorem mr_261_0 {X : Nat → Option zz_C} {h : zz_H} (hh : 111 ≤ h.length) {d : Nat} {N : Nat} {Q : Option Value → zz_H → Prop} {x1 : Int32} {x2 : Int32} {s s' : mS} {v : Option Value} (hf : mf_261_0 N x1 x2 s = some (s', v)) (k : Q v (mH h s')) : zz_E zp_P zt_tf zt_fd X (d + 0) zm_261 0 [(0, .ref 61), (1, .int x1), (2, .int x2)] [] (mH h s) Q := by
  unfold mf_261_0 at hf
  refine mb_261_0 hh  (fun c => ?_) (fun c => ?_)
  · rw [if_pos c] at hf
    exact mr_261_8 hh hf k
  · rw [if_neg c] at hf
    exact mr_261_7 hh hf k
/-- breaks -/
def mf_261 (N : Nat) (x1 : Int32) (x2 : Int32) (s : mS) : mO := mf_261_0 N x1 x2 s
theorem mr_261 {X : Nat → Option zz_C} {h : zz_H} (hh : 111 ≤ h.length) {d : Nat} {N : Nat} {Q : Option Value → zz_H → Prop} {x1 : Int32} {x2 : Int32} {s s' : mS} {v : Option Value} (hf : mf_261 N x1 x2 s = some (s', v)) (k : Q v (mH h s')) : zz_E zp_P zt_tf zt_fd X (d + 0) zm_261 0 [(0, .ref 61), (1, .int x1), (2, .int x2)] [] (mH h s) Q := by
  unfold mf_261 at hf
  exact zz_E.weak (mr_261_0 hh hf k) rfl ⟨rfl, rfl, rfl, trivial⟩
/-! isLetter (I)Z -/
theorem mb_257_0 {X : Nat → Option zz_C} {h : zz_H} (hh : 111 ≤ h.length) {s : mS} {d : Nat} {Q : Option Value → zz_H → Prop} {x0 : Int32} (k1 : x0 < 97 → zz_E zp_P zt_tf zt_fd X d zm_257 16 [] [] (mH h s) Q) (k2 : ¬ x0 < 97 → zz_E zp_P zt_tf zt_fd X d zm_257 6 [(0, .int x0)] [] (mH h s) Q) : zz_E zp_P zt_tf zt_fd X d zm_257 0 [(0, .int x0)] [] (mH h s) Q := by
  refine zz_E.n 1 rfl rfl rfl ?_
  refine zz_E.c 3 (.int 97) rfl rfl rfl rfl ?_
  refine zz_E.b2 16 6 (A := x0 < 97) rfl rfl (by decide) rfl rfl (fun c => ?_) (fun c => ?_)
  · exact zz_E.weak (k1 c) rfl trivial
  · exact zz_E.weak (k2 c) rfl ⟨rfl, trivial⟩
theorem mb_257_6 {X : Nat → Option zz_C} {h : zz_H} (hh : 111 ≤ h.length) {s : mS} {d : Nat} {Q : Option Value → zz_H → Prop} {x0 : Int32} (k1 : 122 < x0 → zz_E zp_P zt_tf zt_fd X d zm_257 16 [] [] (mH h s) Q) (k2 : ¬ 122 < x0 → zz_E zp_P zt_tf zt_fd X d zm_257 12 [] [] (mH h s) Q) : zz_E zp_P zt_tf zt_fd X d zm_257 6 [(0, .int x0)] [] (mH h s) Q := by
  refine zz_E.n 7 rfl rfl rfl ?_
  refine zz_E.c 9 (.int 122) rfl rfl rfl rfl ?_
  refine zz_E.b2 16 12 (A := 122 < x0) rfl rfl (by decide) rfl rfl (fun c => ?_) (fun c => ?_)
  · exact zz_E.weak (k1 c) rfl trivial
  · exact zz_E.weak (k2 c) rfl trivial
theorem mb_257_12 {X : Nat → Option zz_C} {h : zz_H} (hh : 111 ≤ h.length) {s : mS} {d : Nat} {Q : Option Value → zz_H → Prop}  (k : zz_E zp_P zt_tf zt_fd X d zm_257 17 [] [.int 1] (mH h s) Q) : zz_E zp_P zt_tf zt_fd X d zm_257 12 [] [] (mH h s) Q := by
  refine zz_E.c 13 (.int 1) rfl rfl rfl rfl ?_
  refine zz_E.n 17 rfl rfl rfl ?_
  exact zz_E.weak k rfl trivial
theorem mb_257_16 {X : Nat → Option zz_C} {h : zz_H} (hh : 111 ≤ h.length) {s : mS} {d : Nat} {Q : Option Value → zz_H → Prop}  (k : zz_E zp_P zt_tf zt_fd X d zm_257 17 [] [.int 0] (mH h s) Q) : zz_E zp_P zt_tf zt_fd X d zm_257 16 [] [] (mH h s) Q := by
  refine zz_E.c 17 (.int 0) rfl rfl rfl rfl ?_
  exact zz_E.weak k rfl trivial
theorem mb_257_17 {X : Nat → Option zz_C} {h : zz_H} (hh : 111 ≤ h.length) {s : mS} {d : Nat} {Q : Option Value → zz_H → Prop} {y0 : Int32} (k : Q (some (.int y0)) (mH h s)) (rb : zz_reti (some .boolean) y0 = true) : zz_E zp_P zt_tf zt_fd X d zm_257 17 [] [.int y0] (mH h s) Q := by
  refine zz_E.ret rfl rfl (if_pos ⟨rfl, rb⟩) ?_
  exact k
def mf_257_17 (N : Nat) (y0 : Int32) (s : mS) : mO := if zz_reti (some .boolean) y0 = true then some (s, (some (.int y0))) else none
theorem mr_257_17 {X : Nat → Option zz_C} {h : zz_H} (hh : 111 ≤ h.length) {d : Nat} {N : Nat} {Q : Option Value → zz_H → Prop} {y0 : Int32} {s s' : mS} {v : Option Value} (hf : mf_257_17 N y0 s = some (s', v)) (k : Q v (mH h s')) : zz_E zp_P zt_tf zt_fd X (d + 0) zm_257 17 [] [.int y0] (mH h s) Q := by
  unfold mf_257_17 at hf
  obtain ⟨rb, hf⟩ := mo_if hf
  cases hf
  exact mb_257_17 hh  k rb
def mf_257_16 (N : Nat)  (s : mS) : mO := mf_257_17 N 0 s
theorem mr_257_16 {X : Nat → Option zz_C} {h : zz_H} (hh : 111 ≤ h.length) {d : Nat} {N : Nat} {Q : Option Value → zz_H → Prop}  {s s' : mS} {v : Option Value} (hf : mf_257_16 N  s = some (s', v)) (k : Q v (mH h s')) : zz_E zp_P zt_tf zt_fd X (d + 0) zm_257 16 [] [] (mH h s) Q := by
  unfold mf_257_16 at hf
  exact mb_257_16 hh  (mr_257_17 hh hf k)
def mf_257_12 (N : Nat)  (s : mS) : mO := mf_257_17 N 1 s
theorem mr_257_12 {X : Nat → Option zz_C} {h : zz_H} (hh : 111 ≤ h.length) {d : Nat} {N : Nat} {Q : Option Value → zz_H → Prop}  {s s' : mS} {v : Option Value} (hf : mf_257_12 N  s = some (s', v)) (k : Q v (mH h s')) : zz_E zp_P zt_tf zt_fd X (d + 0) zm_257 12 [] [] (mH h s) Q := by
  unfold mf_257_12 at hf
  exact mb_257_12 hh  (mr_257_17 hh hf k)
def mf_257_6 (N : Nat) (x0 : Int32) (s : mS) : mO := if 122 < x0 then mf_257_16 N  s else mf_257_12 N  s
theorem mr_257_6 {X : Nat → Option zz_C} {h : zz_H} (hh : 111 ≤ h.length) {d : Nat} {N : Nat} {Q : Option Value → zz_H → Prop} {x0 : Int32} {s s' : mS} {v : Option Value} (hf : mf_257_6 N x0 s = some (s', v)) (k : Q v (mH h s')) : zz_E zp_P zt_tf zt_fd X (d + 0) zm_257 6 [(0, .int x0)] [] (mH h s) Q := by
  unfold mf_257_6 at hf
  refine mb_257_6 hh  (fun c => ?_) (fun c => ?_)
  · rw [if_pos c] at hf
    exact mr_257_16 hh hf k
  · rw [if_neg c] at hf
    exact mr_257_12 hh hf k
def mf_257_0 (N : Nat) (x0 : Int32) (s : mS) : mO := if x0 < 97 then mf_257_16 N  s else mf_257_6 N x0 s
theorem mr_257_0 {X : Nat → Option zz_C} {h : zz_H} (hh : 111 ≤ h.length) {d : Nat} {N : Nat} {Q : Option Value → zz_H → Prop} {x0 : Int32} {s s' : mS} {v : Option Value} (hf : mf_257_0 N x0 s = some (s', v)) (k : Q v (mH h s')) : zz_E zp_P zt_tf zt_fd X (d + 0) zm_257 0 [(0, .int x0)] [] (mH h s) Q := by
  unfold mf_257_0 at hf
  refine mb_257_0 hh  (fun c => ?_) (fun c => ?_)
  · rw [if_pos c] at hf
    exact mr_257_16 hh hf k
  · rw [if_neg c] at hf
    exact mr_257_6 hh hf k
/-- isLetter -/
def mf_257 (N : Nat) (x0 : Int32) (s : mS) : mO := mf_257_0 N x0 s
theorem mr_257 {X : Nat → Option zz_C} {h : zz_H} (hh : 111 ≤ h.length) {d : Nat} {N : Nat} {Q : Option Value → zz_H → Prop} {x0 : Int32} {s s' : mS} {v : Option Value} (hf : mf_257 N x0 s = some (s', v)) (k : Q v (mH h s')) : zz_E zp_P zt_tf zt_fd X (d + 0) zm_257 0 [(0, .int x0)] [] (mH h s) Q := by
  unfold mf_257 at hf
  exact zz_E.weak (mr_257_0 hh hf k) rfl ⟨rfl, trivial⟩
/-! isDigit (I)Z -/
theorem mb_258_0 {X : Nat → Option zz_C} {h : zz_H} (hh : 111 ≤ h.length) {s : mS} {d : Nat} {Q : Option Value → zz_H → Prop} {x0 : Int32} (k1 : x0 < 48 → zz_E zp_P zt_tf zt_fd X d zm_258 16 [] [] (mH h s) Q) (k2 : ¬ x0 < 48 → zz_E zp_P zt_tf zt_fd X d zm_258 6 [(0, .int x0)] [] (mH h s) Q) : zz_E zp_P zt_tf zt_fd X d zm_258 0 [(0, .int x0)] [] (mH h s) Q := by
  refine zz_E.n 1 rfl rfl rfl ?_
  refine zz_E.c 3 (.int 48) rfl rfl rfl rfl ?_
  refine zz_E.b2 16 6 (A := x0 < 48) rfl rfl (by decide) rfl rfl (fun c => ?_) (fun c => ?_)
  · exact zz_E.weak (k1 c) rfl trivial
  · exact zz_E.weak (k2 c) rfl ⟨rfl, trivial⟩
theorem mb_258_6 {X : Nat → Option zz_C} {h : zz_H} (hh : 111 ≤ h.length) {s : mS} {d : Nat} {Q : Option Value → zz_H → Prop} {x0 : Int32} (k1 : 57 < x0 → zz_E zp_P zt_tf zt_fd X d zm_258 16 [] [] (mH h s) Q) (k2 : ¬ 57 < x0 → zz_E zp_P zt_tf zt_fd X d zm_258 12 [] [] (mH h s) Q) : zz_E zp_P zt_tf zt_fd X d zm_258 6 [(0, .int x0)] [] (mH h s) Q := by
  refine zz_E.n 7 rfl rfl rfl ?_
  refine zz_E.c 9 (.int 57) rfl rfl rfl rfl ?_
  refine zz_E.b2 16 12 (A := 57 < x0) rfl rfl (by decide) rfl rfl (fun c => ?_) (fun c => ?_)
  · exact zz_E.weak (k1 c) rfl trivial
  · exact zz_E.weak (k2 c) rfl trivial
theorem mb_258_12 {X : Nat → Option zz_C} {h : zz_H} (hh : 111 ≤ h.length) {s : mS} {d : Nat} {Q : Option Value → zz_H → Prop}  (k : zz_E zp_P zt_tf zt_fd X d zm_258 17 [] [.int 1] (mH h s) Q) : zz_E zp_P zt_tf zt_fd X d zm_258 12 [] [] (mH h s) Q := by
  refine zz_E.c 13 (.int 1) rfl rfl rfl rfl ?_
  refine zz_E.n 17 rfl rfl rfl ?_
  exact zz_E.weak k rfl trivial
theorem mb_258_16 {X : Nat → Option zz_C} {h : zz_H} (hh : 111 ≤ h.length) {s : mS} {d : Nat} {Q : Option Value → zz_H → Prop}  (k : zz_E zp_P zt_tf zt_fd X d zm_258 17 [] [.int 0] (mH h s) Q) : zz_E zp_P zt_tf zt_fd X d zm_258 16 [] [] (mH h s) Q := by
  refine zz_E.c 17 (.int 0) rfl rfl rfl rfl ?_
  exact zz_E.weak k rfl trivial
theorem mb_258_17 {X : Nat → Option zz_C} {h : zz_H} (hh : 111 ≤ h.length) {s : mS} {d : Nat} {Q : Option Value → zz_H → Prop} {y0 : Int32} (k : Q (some (.int y0)) (mH h s)) (rb : zz_reti (some .boolean) y0 = true) : zz_E zp_P zt_tf zt_fd X d zm_258 17 [] [.int y0] (mH h s) Q := by
  refine zz_E.ret rfl rfl (if_pos ⟨rfl, rb⟩) ?_
  exact k
def mf_258_17 (N : Nat) (y0 : Int32) (s : mS) : mO := if zz_reti (some .boolean) y0 = true then some (s, (some (.int y0))) else none
theorem mr_258_17 {X : Nat → Option zz_C} {h : zz_H} (hh : 111 ≤ h.length) {d : Nat} {N : Nat} {Q : Option Value → zz_H → Prop} {y0 : Int32} {s s' : mS} {v : Option Value} (hf : mf_258_17 N y0 s = some (s', v)) (k : Q v (mH h s')) : zz_E zp_P zt_tf zt_fd X (d + 0) zm_258 17 [] [.int y0] (mH h s) Q := by
  unfold mf_258_17 at hf
  obtain ⟨rb, hf⟩ := mo_if hf
  cases hf
  exact mb_258_17 hh  k rb
def mf_258_16 (N : Nat)  (s : mS) : mO := mf_258_17 N 0 s
theorem mr_258_16 {X : Nat → Option zz_C} {h : zz_H} (hh : 111 ≤ h.length) {d : Nat} {N : Nat} {Q : Option Value → zz_H → Prop}  {s s' : mS} {v : Option Value} (hf : mf_258_16 N  s = some (s', v)) (k : Q v (mH h s')) : zz_E zp_P zt_tf zt_fd X (d + 0) zm_258 16 [] [] (mH h s) Q := by
  unfold mf_258_16 at hf
  exact mb_258_16 hh  (mr_258_17 hh hf k)
def mf_258_12 (N : Nat)  (s : mS) : mO := mf_258_17 N 1 s
theorem mr_258_12 {X : Nat → Option zz_C} {h : zz_H} (hh : 111 ≤ h.length) {d : Nat} {N : Nat} {Q : Option Value → zz_H → Prop}  {s s' : mS} {v : Option Value} (hf : mf_258_12 N  s = some (s', v)) (k : Q v (mH h s')) : zz_E zp_P zt_tf zt_fd X (d + 0) zm_258 12 [] [] (mH h s) Q := by
  unfold mf_258_12 at hf
  exact mb_258_12 hh  (mr_258_17 hh hf k)
def mf_258_6 (N : Nat) (x0 : Int32) (s : mS) : mO := if 57 < x0 then mf_258_16 N  s else mf_258_12 N  s
theorem mr_258_6 {X : Nat → Option zz_C} {h : zz_H} (hh : 111 ≤ h.length) {d : Nat} {N : Nat} {Q : Option Value → zz_H → Prop} {x0 : Int32} {s s' : mS} {v : Option Value} (hf : mf_258_6 N x0 s = some (s', v)) (k : Q v (mH h s')) : zz_E zp_P zt_tf zt_fd X (d + 0) zm_258 6 [(0, .int x0)] [] (mH h s) Q := by
  unfold mf_258_6 at hf
  refine mb_258_6 hh  (fun c => ?_) (fun c => ?_)
  · rw [if_pos c] at hf
    exact mr_258_16 hh hf k
  · rw [if_neg c] at hf
    exact mr_258_12 hh hf k
def mf_258_0 (N : Nat) (x0 : Int32) (s : mS) : mO := if x0 < 48 then mf_258_16 N  s else mf_258_6 N x0 s
theorem mr_258_0 {X : Nat → Option zz_C} {h : zz_H} (hh : 111 ≤ h.length) {d : Nat} {N : Nat} {Q : Option Value → zz_H → Prop} {x0 : Int32} {s s' : mS} {v : Option Value} (hf : mf_258_0 N x0 s = some (s', v)) (k : Q v (mH h s')) : zz_E zp_P zt_tf zt_fd X (d + 0) zm_258 0 [(0, .int x0)] [] (mH h s) Q := by
  unfold mf_258_0 at hf
  refine mb_258_0 hh  (fun c => ?_) (fun c => ?_)
  · rw [if_pos c] at hf
    exact mr_258_16 hh hf k
  · rw [if_neg c] at hf
    exact mr_258_6 hh hf k
/-- isDigit -/
def mf_258 (N : Nat) (x0 : Int32) (s : mS) : mO := mf_258_0 N x0 s
theorem mr_258 {X : Nat → Option zz_C} {h : zz_H} (hh : 111 ≤ h.length) {d : Nat} {N : Nat} {Q : Option Value → zz_H → Prop} {x0 : Int32} {s s' : mS} {v : Option Value} (hf : mf_258 N x0 s = some (s', v)) (k : Q v (mH h s')) : zz_E zp_P zt_tf zt_fd X (d + 0) zm_258 0 [(0, .int x0)] [] (mH h s) Q := by
  unfold mf_258 at hf
  exact zz_E.weak (mr_258_0 hh hf k) rfl ⟨rfl, trivial⟩
/-! byteAt (I)I -/
theorem mb_62_0 {X : Nat → Option zz_C} {h : zz_H} (hh : 111 ≤ h.length) {s : mS} {d : Nat} {Q : Option Value → zz_H → Prop} {x1 : Int32} (k1 : (s.1 4) ≤ x1 → zz_E zp_P zt_tf zt_fd X d zm_62 21 [] [] (mH h s) Q) (k2 : ¬ (s.1 4) ≤ x1 → zz_E zp_P zt_tf zt_fd X d zm_62 8 [(0, .ref 61), (1, .int x1)] [] (mH h s) Q) : zz_E zp_P zt_tf zt_fd X d zm_62 0 [(0, .ref 61), (1, .int x1)] [] (mH h s) Q := by
  refine zz_E.n 1 rfl rfl rfl ?_
  refine zz_E.n 2 rfl rfl rfl ?_
  refine mE_g hh 5 (v := .int (s.1 4)) rfl rfl rfl ?_
  refine zz_E.b2 21 8 (A := (s.1 4) ≤ x1) rfl rfl (by decide) rfl rfl (fun c => ?_) (fun c => ?_)
  · exact zz_E.weak (k1 c) rfl trivial
  · exact zz_E.weak (k2 c) rfl ⟨rfl, rfl, trivial⟩
theorem mb_62_8 {X : Nat → Option zz_C} {h : zz_H} (hh : 111 ≤ h.length) {s : mS} {d : Nat} {Q : Option Value → zz_H → Prop} {x1 : Int32} (i13 : ¬ (x1 < 0 ∨ 1620 ≤ Int32.toNatClampNeg x1)) (k : zz_E zp_P zt_tf zt_fd X d zm_62 22 [] [.int (((s.2.2.1 2) (Int32.toNatClampNeg x1)) &&& 255)] (mH h s) Q) : zz_E zp_P zt_tf zt_fd X d zm_62 8 [(0, .ref 61), (1, .int x1)] [] (mH h s) Q := by
  refine zz_E.n 9 rfl rfl rfl ?_
  refine mE_g hh 12 (v := .ref 64) rfl rfl rfl ?_
  refine zz_E.n 13 rfl rfl rfl ?_
  refine mE_ba hh 14 3 (f := (s.2.2.1 2)) rfl (by decide) rfl rfl i13 rfl ?_
  refine zz_E.c 17 (.int 255) rfl rfl rfl rfl ?_
  refine zz_E.n 18 rfl rfl rfl ?_
  refine zz_E.n 22 rfl rfl rfl ?_
  exact zz_E.weak k rfl trivial
theorem mb_62_21 {X : Nat → Option zz_C} {h : zz_H} (hh : 111 ≤ h.length) {s : mS} {d : Nat} {Q : Option Value → zz_H → Prop}  (k : zz_E zp_P zt_tf zt_fd X d zm_62 22 [] [.int 0] (mH h s) Q) : zz_E zp_P zt_tf zt_fd X d zm_62 21 [] [] (mH h s) Q := by
  refine zz_E.c 22 (.int 0) rfl rfl rfl rfl ?_
  exact zz_E.weak k rfl trivial
theorem mb_62_22 {X : Nat → Option zz_C} {h : zz_H} (hh : 111 ≤ h.length) {s : mS} {d : Nat} {Q : Option Value → zz_H → Prop} {y0 : Int32} (k : Q (some (.int y0)) (mH h s)) : zz_E zp_P zt_tf zt_fd X d zm_62 22 [] [.int y0] (mH h s) Q := by
  refine zz_E.ret rfl rfl rfl ?_
  exact k
def mf_62_22 (N : Nat) (y0 : Int32) (s : mS) : mO := some (s, (some (.int y0)))
theorem mr_62_22 {X : Nat → Option zz_C} {h : zz_H} (hh : 111 ≤ h.length) {d : Nat} {N : Nat} {Q : Option Value → zz_H → Prop} {y0 : Int32} {s s' : mS} {v : Option Value} (hf : mf_62_22 N y0 s = some (s', v)) (k : Q v (mH h s')) : zz_E zp_P zt_tf zt_fd X (d + 0) zm_62 22 [] [.int y0] (mH h s) Q := by
  unfold mf_62_22 at hf
  cases hf
  exact mb_62_22 hh  k
def mf_62_21 (N : Nat)  (s : mS) : mO := mf_62_22 N 0 s
theorem mr_62_21 {X : Nat → Option zz_C} {h : zz_H} (hh : 111 ≤ h.length) {d : Nat} {N : Nat} {Q : Option Value → zz_H → Prop}  {s s' : mS} {v : Option Value} (hf : mf_62_21 N  s = some (s', v)) (k : Q v (mH h s')) : zz_E zp_P zt_tf zt_fd X (d + 0) zm_62 21 [] [] (mH h s) Q := by
  unfold mf_62_21 at hf
  exact mb_62_21 hh  (mr_62_22 hh hf k)
def mf_62_8 (N : Nat) (x1 : Int32) (s : mS) : mO := if ¬ (x1 < 0 ∨ 1620 ≤ Int32.toNatClampNeg x1) then (mf_62_22 N (((s.2.2.1 2) (Int32.toNatClampNeg x1)) &&& 255) s) else none
theorem mr_62_8 {X : Nat → Option zz_C} {h : zz_H} (hh : 111 ≤ h.length) {d : Nat} {N : Nat} {Q : Option Value → zz_H → Prop} {x1 : Int32} {s s' : mS} {v : Option Value} (hf : mf_62_8 N x1 s = some (s', v)) (k : Q v (mH h s')) : zz_E zp_P zt_tf zt_fd X (d + 0) zm_62 8 [(0, .ref 61), (1, .int x1)] [] (mH h s) Q := by
  unfold mf_62_8 at hf
  obtain ⟨q0, hf⟩ := mo_if hf
  exact mb_62_8 hh q0 (mr_62_22 hh hf k)
def mf_62_0 (N : Nat) (x1 : Int32) (s : mS) : mO := if (s.1 4) ≤ x1 then mf_62_21 N  s else mf_62_8 N x1 s
theorem mr_62_0 {X : Nat → Option zz_C} {h : zz_H} (hh : 111 ≤ h.length) {d : Nat} {N : Nat} {Q : Option Value → zz_H → Prop} {x1 : Int32} {s s' : mS} {v : Option Value} (hf : mf_62_0 N x1 s = some (s', v)) (k : Q v (mH h s')) : zz_E zp_P zt_tf zt_fd X (d + 0) zm_62 0 [(0, .ref 61), (1, .int x1)] [] (mH h s) Q := by
  unfold mf_62_0 at hf
  refine mb_62_0 hh  (fun c => ?_) (fun c => ?_)
  · rw [if_pos c] at hf
    exact mr_62_21 hh hf k
  · rw [if_neg c] at hf
    exact mr_62_8 hh hf k
/-- byteAt -/
def mf_62 (N : Nat) (x1 : Int32) (s : mS) : mO := mf_62_0 N x1 s
theorem mr_62 {X : Nat → Option zz_C} {h : zz_H} (hh : 111 ≤ h.length) {d : Nat} {N : Nat} {Q : Option Value → zz_H → Prop} {x1 : Int32} {s s' : mS} {v : Option Value} (hf : mf_62 N x1 s = some (s', v)) (k : Q v (mH h s')) : zz_E zp_P zt_tf zt_fd X (d + 0) zm_62 0 [(0, .ref 61), (1, .int x1)] [] (mH h s) Q := by
  unfold mf_62 at hf
  exact zz_E.weak (mr_62_0 hh hf k) rfl ⟨rfl, rfl, trivial⟩
/-! signAt (I)I -/
theorem mb_259_0 {X : Nat → Option zz_C} {h : zz_H} (hh : 111 ≤ h.length) {s : mS} {d : Nat} {Q : Option Value → zz_H → Prop} {x1 : Int32} (k : zz_E zp_P zt_tf zt_fd X d zm_62 0 [(0, .ref 61), (1, .int ((s.1 6) + 1))] [] (mH h (mI s 5 3)) (fun v h' => zz_E zp_P zt_tf zt_fd X (d + 1) zm_259 15 [(0, .ref 61), (1, .int x1)] (v.toList ++ []) h' Q)) : zz_E zp_P zt_tf zt_fd X (d + 1) zm_259 0 [(0, .ref 61), (1, .int x1)] [] (mH h s) Q := by
  refine zz_E.n 1 rfl rfl rfl ?_
  refine zz_E.c 2 (.int 3) rfl rfl rfl rfl ?_
  refine mE_p hh 5 rfl (by decide) rfl (mF_5 _ _) rfl ?_
  refine zz_E.n 6 rfl rfl rfl ?_
  refine zz_E.n 7 rfl rfl rfl ?_
  refine mE_g hh 10 (v := .int (s.1 6)) rfl rfl rfl ?_
  refine zz_E.c 11 (.int 1) rfl rfl rfl rfl ?_
  refine zz_E.n 12 rfl rfl rfl ?_
  refine mE_cv hh 15 (as := []) rfl rfl (Nat.le_of_ble_eq_true rfl) (Nat.le_of_ble_eq_true rfl) rfl (Nat.le_of_ble_eq_true rfl) rfl ?_
  refine zz_E.mono k ?_
  intro v h' hE
  exact zz_E.weak hE rfl ⟨rfl, rfl, trivial⟩
theorem mb_259_15 {X : Nat → Option zz_C} {h : zz_H} (hh : 111 ≤ h.length) {s : mS} {d : Nat} {Q : Option Value → zz_H → Prop} {x1 : Int32} {y0 : Int32} (k1 : ¬ y0 = 61 → zz_E zp_P zt_tf zt_fd X d zm_259 24 [(0, .ref 61), (1, .int x1)] [] (mH h s) Q) (k2 : ¬ ¬ y0 = 61 → zz_E zp_P zt_tf zt_fd X d zm_259 20 [(0, .ref 61), (1, .int x1)] [] (mH h s) Q) : zz_E zp_P zt_tf zt_fd X d zm_259 15 [(0, .ref 61), (1, .int x1)] [.int y0] (mH h s) Q := by
  refine zz_E.c 17 (.int 61) rfl rfl rfl rfl ?_
  refine zz_E.b2 24 20 (A := ¬ y0 = 61) rfl (zz_cond_ne _ _) (by decide) rfl rfl (fun c => ?_) (fun c => ?_)
  · exact zz_E.weak (k1 c) rfl ⟨rfl, rfl, trivial⟩
  · exact zz_E.weak (k2 c) rfl ⟨rfl, rfl, trivial⟩
theorem mb_259_20 {X : Nat → Option zz_C} {h : zz_H} (hh : 111 ≤ h.length) {s : mS} {d : Nat} {Q : Option Value → zz_H → Prop} {x1 : Int32} (k : zz_E zp_P zt_tf zt_fd X d zm_259 25 [(0, .ref 61), (1, .int x1)] [.int 1] (mH h s) Q) : zz_E zp_P zt_tf zt_fd X d zm_259 20 [(0, .ref 61), (1, .int x1)] [] (mH h s) Q := by
  refine zz_E.c 21 (.int 1) rfl rfl rfl rfl ?_
  refine zz_E.n 25 rfl rfl rfl ?_
  exact zz_E.weak k rfl ⟨rfl, rfl, trivial⟩
theorem mb_259_24 {X : Nat → Option zz_C} {h : zz_H} (hh : 111 ≤ h.length) {s : mS} {d : Nat} {Q : Option Value → zz_H → Prop} {x1 : Int32} (k : zz_E zp_P zt_tf zt_fd X d zm_259 25 [(0, .ref 61), (1, .int x1)] [.int 0] (mH h s) Q) : zz_E zp_P zt_tf zt_fd X d zm_259 24 [(0, .ref 61), (1, .int x1)] [] (mH h s) Q := by
  refine zz_E.c 25 (.int 0) rfl rfl rfl rfl ?_
  exact zz_E.weak k rfl ⟨rfl, rfl, trivial⟩
theorem mb_259_25 {X : Nat → Option zz_C} {h : zz_H} (hh : 111 ≤ h.length) {s : mS} {d : Nat} {Q : Option Value → zz_H → Prop} {x1 : Int32} {y0 : Int32} (k1 : y0 = 0 → zz_E zp_P zt_tf zt_fd X d zm_259 104 [(0, .ref 61), (1, .int x1)] [] (mH h s) Q) (k2 : ¬ y0 = 0 → zz_E zp_P zt_tf zt_fd X d zm_259 30 [(0, .ref 61), (1, .int x1)] [] (mH h s) Q) : zz_E zp_P zt_tf zt_fd X d zm_259 25 [(0, .ref 61), (1, .int x1)] [.int y0] (mH h s) Q := by
  refine zz_E.n 26 rfl rfl rfl ?_
  refine zz_E.n 27 rfl rfl rfl ?_
  refine zz_E.b1 104 30 (A := y0 = 0) rfl rfl (by decide) rfl rfl (fun c => ?_) (fun c => ?_)
  · exact zz_E.weak (k1 c) rfl ⟨rfl, rfl, trivial⟩
  · exact zz_E.weak (k2 c) rfl ⟨rfl, rfl, trivial⟩
theorem mb_259_30 {X : Nat → Option zz_C} {h : zz_H} (hh : 111 ≤ h.length) {s : mS} {d : Nat} {Q : Option Value → zz_H → Prop} {x1 : Int32} (k1 : x1 = 61 → zz_E zp_P zt_tf zt_fd X d zm_259 54 [(0, .ref 61), (1, .int x1)] [] (mH h s) Q) (k2 : ¬ x1 = 61 → zz_E zp_P zt_tf zt_fd X d zm_259 36 [(0, .ref 61), (1, .int x1)] [] (mH h s) Q) : zz_E zp_P zt_tf zt_fd X d zm_259 30 [(0, .ref 61), (1, .int x1)] [] (mH h s) Q := by
  refine zz_E.n 31 rfl rfl rfl ?_
  refine zz_E.c 33 (.int 61) rfl rfl rfl rfl ?_
  refine zz_E.b2 54 36 (A := x1 = 61) rfl rfl (by decide) rfl rfl (fun c => ?_) (fun c => ?_)
  · exact zz_E.weak (k1 c) rfl ⟨rfl, rfl, trivial⟩
  · exact zz_E.weak (k2 c) rfl ⟨rfl, rfl, trivial⟩
theorem mb_259_36 {X : Nat → Option zz_C} {h : zz_H} (hh : 111 ≤ h.length) {s : mS} {d : Nat} {Q : Option Value → zz_H → Prop} {x1 : Int32} (k1 : x1 = 33 → zz_E zp_P zt_tf zt_fd X d zm_259 54 [(0, .ref 61), (1, .int x1)] [] (mH h s) Q) (k2 : ¬ x1 = 33 → zz_E zp_P zt_tf zt_fd X d zm_259 42 [(0, .ref 61), (1, .int x1)] [] (mH h s) Q) : zz_E zp_P zt_tf zt_fd X d zm_259 36 [(0, .ref 61), (1, .int x1)] [] (mH h s) Q := by
  refine zz_E.n 37 rfl rfl rfl ?_
  refine zz_E.c 39 (.int 33) rfl rfl rfl rfl ?_
  refine zz_E.b2 54 42 (A := x1 = 33) rfl rfl (by decide) rfl rfl (fun c => ?_) (fun c => ?_)
  · exact zz_E.weak (k1 c) rfl ⟨rfl, rfl, trivial⟩
  · exact zz_E.weak (k2 c) rfl ⟨rfl, rfl, trivial⟩
theorem mb_259_42 {X : Nat → Option zz_C} {h : zz_H} (hh : 111 ≤ h.length) {s : mS} {d : Nat} {Q : Option Value → zz_H → Prop} {x1 : Int32} (k1 : x1 = 60 → zz_E zp_P zt_tf zt_fd X d zm_259 54 [(0, .ref 61), (1, .int x1)] [] (mH h s) Q) (k2 : ¬ x1 = 60 → zz_E zp_P zt_tf zt_fd X d zm_259 48 [(0, .ref 61), (1, .int x1)] [] (mH h s) Q) : zz_E zp_P zt_tf zt_fd X d zm_259 42 [(0, .ref 61), (1, .int x1)] [] (mH h s) Q := by
  refine zz_E.n 43 rfl rfl rfl ?_
  refine zz_E.c 45 (.int 60) rfl rfl rfl rfl ?_
  refine zz_E.b2 54 48 (A := x1 = 60) rfl rfl (by decide) rfl rfl (fun c => ?_) (fun c => ?_)
  · exact zz_E.weak (k1 c) rfl ⟨rfl, rfl, trivial⟩
  · exact zz_E.weak (k2 c) rfl ⟨rfl, rfl, trivial⟩
theorem mb_259_48 {X : Nat → Option zz_C} {h : zz_H} (hh : 111 ≤ h.length) {s : mS} {d : Nat} {Q : Option Value → zz_H → Prop} {x1 : Int32} (k1 : ¬ x1 = 62 → zz_E zp_P zt_tf zt_fd X d zm_259 104 [(0, .ref 61), (1, .int x1)] [] (mH h s) Q) (k2 : ¬ ¬ x1 = 62 → zz_E zp_P zt_tf zt_fd X d zm_259 54 [(0, .ref 61), (1, .int x1)] [] (mH h s) Q) : zz_E zp_P zt_tf zt_fd X d zm_259 48 [(0, .ref 61), (1, .int x1)] [] (mH h s) Q := by
  refine zz_E.n 49 rfl rfl rfl ?_
  refine zz_E.c 51 (.int 62) rfl rfl rfl rfl ?_
  refine zz_E.b2 104 54 (A := ¬ x1 = 62) rfl (zz_cond_ne _ _) (by decide) rfl rfl (fun c => ?_) (fun c => ?_)
  · exact zz_E.weak (k1 c) rfl ⟨rfl, rfl, trivial⟩
  · exact zz_E.weak (k2 c) rfl ⟨rfl, rfl, trivial⟩
theorem mb_259_54 {X : Nat → Option zz_C} {h : zz_H} (hh : 111 ≤ h.length) {s : mS} {d : Nat} {Q : Option Value → zz_H → Prop} {x1 : Int32} (k1 : ¬ x1 = 61 → zz_E zp_P zt_tf zt_fd X d zm_259 67 [(0, .ref 61), (1, .int x1)] [.ref 61] (mH h s) Q) (k2 : ¬ ¬ x1 = 61 → zz_E zp_P zt_tf zt_fd X d zm_259 61 [(0, .ref 61)] [.ref 61] (mH h s) Q) : zz_E zp_P zt_tf zt_fd X d zm_259 54 [(0, .ref 61), (1, .int x1)] [] (mH h s) Q := by
  refine zz_E.n 55 rfl rfl rfl ?_
  refine zz_E.n 56 rfl rfl rfl ?_
  refine zz_E.c 58 (.int 61) rfl rfl rfl rfl ?_
  refine zz_E.b2 67 61 (A := ¬ x1 = 61) rfl (zz_cond_ne _ _) (by decide) rfl rfl (fun c => ?_) (fun c => ?_)
  · exact zz_E.weak (k1 c) rfl ⟨rfl, rfl, trivial⟩
  · exact zz_E.weak (k2 c) rfl ⟨rfl, trivial⟩
theorem mb_259_61 {X : Nat → Option zz_C} {h : zz_H} (hh : 111 ≤ h.length) {s : mS} {d : Nat} {Q : Option Value → zz_H → Prop}  (k : zz_E zp_P zt_tf zt_fd X d zm_259 94 [(0, .ref 61)] [.long 256, .ref 61] (mH h s) Q) : zz_E zp_P zt_tf zt_fd X d zm_259 61 [(0, .ref 61)] [.ref 61] (mH h s) Q := by
  refine zz_E.c 64 (.long 256) rfl rfl rfl rfl ?_
  refine zz_E.n 94 rfl rfl rfl ?_
  exact zz_E.weak k rfl ⟨rfl, trivial⟩
theorem mb_259_67 {X : Nat → Option zz_C} {h : zz_H} (hh : 111 ≤ h.length) {s : mS} {d : Nat} {Q : Option Value → zz_H → Prop} {x1 : Int32} (k1 : ¬ x1 = 33 → zz_E zp_P zt_tf zt_fd X d zm_259 79 [(0, .ref 61), (1, .int x1)] [.ref 61] (mH h s) Q) (k2 : ¬ ¬ x1 = 33 → zz_E zp_P zt_tf zt_fd X d zm_259 73 [(0, .ref 61)] [.ref 61] (mH h s) Q) : zz_E zp_P zt_tf zt_fd X d zm_259 67 [(0, .ref 61), (1, .int x1)] [.ref 61] (mH h s) Q := by
  refine zz_E.n 68 rfl rfl rfl ?_
  refine zz_E.c 70 (.int 33) rfl rfl rfl rfl ?_
  refine zz_E.b2 79 73 (A := ¬ x1 = 33) rfl (zz_cond_ne _ _) (by decide) rfl rfl (fun c => ?_) (fun c => ?_)
  · exact zz_E.weak (k1 c) rfl ⟨rfl, rfl, trivial⟩
  · exact zz_E.weak (k2 c) rfl ⟨rfl, trivial⟩
theorem mb_259_73 {X : Nat → Option zz_C} {h : zz_H} (hh : 111 ≤ h.length) {s : mS} {d : Nat} {Q : Option Value → zz_H → Prop}  (k : zz_E zp_P zt_tf zt_fd X d zm_259 94 [(0, .ref 61)] [.long 257, .ref 61] (mH h s) Q) : zz_E zp_P zt_tf zt_fd X d zm_259 73 [(0, .ref 61)] [.ref 61] (mH h s) Q := by
  refine zz_E.c 76 (.long 257) rfl rfl rfl rfl ?_
  refine zz_E.n 94 rfl rfl rfl ?_
  exact zz_E.weak k rfl ⟨rfl, trivial⟩
theorem mb_259_79 {X : Nat → Option zz_C} {h : zz_H} (hh : 111 ≤ h.length) {s : mS} {d : Nat} {Q : Option Value → zz_H → Prop} {x1 : Int32} (k1 : ¬ x1 = 60 → zz_E zp_P zt_tf zt_fd X d zm_259 91 [(0, .ref 61)] [.ref 61] (mH h s) Q) (k2 : ¬ ¬ x1 = 60 → zz_E zp_P zt_tf zt_fd X d zm_259 85 [(0, .ref 61)] [.ref 61] (mH h s) Q) : zz_E zp_P zt_tf zt_fd X d zm_259 79 [(0, .ref 61), (1, .int x1)] [.ref 61] (mH h s) Q := by
  refine zz_E.n 80 rfl rfl rfl ?_
  refine zz_E.c 82 (.int 60) rfl rfl rfl rfl ?_
  refine zz_E.b2 91 85 (A := ¬ x1 = 60) rfl (zz_cond_ne _ _) (by decide) rfl rfl (fun c => ?_) (fun c => ?_)
  · exact zz_E.weak (k1 c) rfl ⟨rfl, trivial⟩
  · exact zz_E.weak (k2 c) rfl ⟨rfl, trivial⟩
theorem mb_259_85 {X : Nat → Option zz_C} {h : zz_H} (hh : 111 ≤ h.length) {s : mS} {d : Nat} {Q : Option Value → zz_H → Prop}  (k : zz_E zp_P zt_tf zt_fd X d zm_259 94 [(0, .ref 61)] [.long 258, .ref 61] (mH h s) Q) : zz_E zp_P zt_tf zt_fd X d zm_259 85 [(0, .ref 61)] [.ref 61] (mH h s) Q := by
  refine zz_E.c 88 (.long 258) rfl rfl rfl rfl ?_
  refine zz_E.n 94 rfl rfl rfl ?_
  exact zz_E.weak k rfl ⟨rfl, trivial⟩
theorem mb_259_91 {X : Nat → Option zz_C} {h : zz_H} (hh : 111 ≤ h.length) {s : mS} {d : Nat} {Q : Option Value → zz_H → Prop}  (k : zz_E zp_P zt_tf zt_fd X d zm_259 94 [(0, .ref 61)] [.long 259, .ref 61] (mH h s) Q) : zz_E zp_P zt_tf zt_fd X d zm_259 91 [(0, .ref 61)] [.ref 61] (mH h s) Q := by
  refine zz_E.c 94 (.long 259) rfl rfl rfl rfl ?_
  exact zz_E.weak k rfl ⟨rfl, trivial⟩
theorem mb_259_94 {X : Nat → Option zz_C} {h : zz_H} (hh : 111 ≤ h.length) {s : mS} {d : Nat} {Q : Option Value → zz_H → Prop} {y1 : Int64} (k : Q (some (.int ((s.1 6) + 2))) (mH h (mL s 7 y1))) : zz_E zp_P zt_tf zt_fd X d zm_259 94 [(0, .ref 61)] [.long y1, .ref 61] (mH h s) Q := by
  refine mE_p hh 97 rfl (by decide) rfl (mF_7 _ _) rfl ?_
  refine zz_E.n 98 rfl rfl rfl ?_
  refine mE_g hh 101 (v := .int (s.1 6)) rfl rfl rfl ?_
  refine zz_E.c 102 (.int 2) rfl rfl rfl rfl ?_
  refine zz_E.n 103 rfl rfl rfl ?_
  refine zz_E.ret rfl rfl rfl ?_
  exact k
theorem mb_259_104 {X : Nat → Option zz_C} {h : zz_H} (hh : 111 ≤ h.length) {s : mS} {d : Nat} {Q : Option Value → zz_H → Prop} {x1 : Int32} (k1 : x1 = 123 → zz_E zp_P zt_tf zt_fd X d zm_259 218 [(0, .ref 61), (1, .int x1)] [] (mH h s) Q) (k2 : ¬ x1 = 123 → zz_E zp_P zt_tf zt_fd X d zm_259 110 [(0, .ref 61), (1, .int x1)] [] (mH h s) Q) : zz_E zp_P zt_tf zt_fd X d zm_259 104 [(0, .ref 61), (1, .int x1)] [] (mH h s) Q := by
  refine zz_E.n 105 rfl rfl rfl ?_
  refine zz_E.c 107 (.int 123) rfl rfl rfl rfl ?_
  refine zz_E.b2 218 110 (A := x1 = 123) rfl rfl (by decide) rfl rfl (fun c => ?_) (fun c => ?_)
  · exact zz_E.weak (k1 c) rfl ⟨rfl, rfl, trivial⟩
  · exact zz_E.weak (k2 c) rfl ⟨rfl, rfl, trivial⟩
theorem mb_259_110 {X : Nat → Option zz_C} {h : zz_H} (hh : 111 ≤ h.length) {s : mS} {d : Nat} {Q : Option Value → zz_H → Prop} {x1 : Int32} (k1 : x1 = 125 → zz_E zp_P zt_tf zt_fd X d zm_259 218 [(0, .ref 61), (1, .int x1)] [] (mH h s) Q) (k2 : ¬ x1 = 125 → zz_E zp_P zt_tf zt_fd X d zm_259 116 [(0, .ref 61), (1, .int x1)] [] (mH h s) Q) : zz_E zp_P zt_tf zt_fd X d zm_259 110 [(0, .ref 61), (1, .int x1)] [] (mH h s) Q := by
  refine zz_E.n 111 rfl rfl rfl ?_
  refine zz_E.c 113 (.int 125) rfl rfl rfl rfl ?_
  refine zz_E.b2 218 116 (A := x1 = 125) rfl rfl (by decide) rfl rfl (fun c => ?_) (fun c => ?_)
  · exact zz_E.weak (k1 c) rfl ⟨rfl, rfl, trivial⟩
  · exact zz_E.weak (k2 c) rfl ⟨rfl, rfl, trivial⟩
theorem mb_259_116 {X : Nat → Option zz_C} {h : zz_H} (hh : 111 ≤ h.length) {s : mS} {d : Nat} {Q : Option Value → zz_H → Prop} {x1 : Int32} (k1 : x1 = 40 → zz_E zp_P zt_tf zt_fd X d zm_259 218 [(0, .ref 61), (1, .int x1)] [] (mH h s) Q) (k2 : ¬ x1 = 40 → zz_E zp_P zt_tf zt_fd X d zm_259 122 [(0, .ref 61), (1, .int x1)] [] (mH h s) Q) : zz_E zp_P zt_tf zt_fd X d zm_259 116 [(0, .ref 61), (1, .int x1)] [] (mH h s) Q := by
  refine zz_E.n 117 rfl rfl rfl ?_
  refine zz_E.c 119 (.int 40) rfl rfl rfl rfl ?_
  refine zz_E.b2 218 122 (A := x1 = 40) rfl rfl (by decide) rfl rfl (fun c => ?_) (fun c => ?_)
  · exact zz_E.weak (k1 c) rfl ⟨rfl, rfl, trivial⟩
  · exact zz_E.weak (k2 c) rfl ⟨rfl, rfl, trivial⟩
theorem mb_259_122 {X : Nat → Option zz_C} {h : zz_H} (hh : 111 ≤ h.length) {s : mS} {d : Nat} {Q : Option Value → zz_H → Prop} {x1 : Int32} (k1 : x1 = 41 → zz_E zp_P zt_tf zt_fd X d zm_259 218 [(0, .ref 61), (1, .int x1)] [] (mH h s) Q) (k2 : ¬ x1 = 41 → zz_E zp_P zt_tf zt_fd X d zm_259 128 [(0, .ref 61), (1, .int x1)] [] (mH h s) Q) : zz_E zp_P zt_tf zt_fd X d zm_259 122 [(0, .ref 61), (1, .int x1)] [] (mH h s) Q := by
  refine zz_E.n 123 rfl rfl rfl ?_
  refine zz_E.c 125 (.int 41) rfl rfl rfl rfl ?_
  refine zz_E.b2 218 128 (A := x1 = 41) rfl rfl (by decide) rfl rfl (fun c => ?_) (fun c => ?_)
  · exact zz_E.weak (k1 c) rfl ⟨rfl, rfl, trivial⟩
  · exact zz_E.weak (k2 c) rfl ⟨rfl, rfl, trivial⟩
theorem mb_259_128 {X : Nat → Option zz_C} {h : zz_H} (hh : 111 ≤ h.length) {s : mS} {d : Nat} {Q : Option Value → zz_H → Prop} {x1 : Int32} (k1 : x1 = 91 → zz_E zp_P zt_tf zt_fd X d zm_259 218 [(0, .ref 61), (1, .int x1)] [] (mH h s) Q) (k2 : ¬ x1 = 91 → zz_E zp_P zt_tf zt_fd X d zm_259 134 [(0, .ref 61), (1, .int x1)] [] (mH h s) Q) : zz_E zp_P zt_tf zt_fd X d zm_259 128 [(0, .ref 61), (1, .int x1)] [] (mH h s) Q := by
  refine zz_E.n 129 rfl rfl rfl ?_
  refine zz_E.c 131 (.int 91) rfl rfl rfl rfl ?_
  refine zz_E.b2 218 134 (A := x1 = 91) rfl rfl (by decide) rfl rfl (fun c => ?_) (fun c => ?_)
  · exact zz_E.weak (k1 c) rfl ⟨rfl, rfl, trivial⟩
  · exact zz_E.weak (k2 c) rfl ⟨rfl, rfl, trivial⟩
theorem mb_259_134 {X : Nat → Option zz_C} {h : zz_H} (hh : 111 ≤ h.length) {s : mS} {d : Nat} {Q : Option Value → zz_H → Prop} {x1 : Int32} (k1 : x1 = 93 → zz_E zp_P zt_tf zt_fd X d zm_259 218 [(0, .ref 61), (1, .int x1)] [] (mH h s) Q) (k2 : ¬ x1 = 93 → zz_E zp_P zt_tf zt_fd X d zm_259 140 [(0, .ref 61), (1, .int x1)] [] (mH h s) Q) : zz_E zp_P zt_tf zt_fd X d zm_259 134 [(0, .ref 61), (1, .int x1)] [] (mH h s) Q := by
  refine zz_E.n 135 rfl rfl rfl ?_
  refine zz_E.c 137 (.int 93) rfl rfl rfl rfl ?_
  refine zz_E.b2 218 140 (A := x1 = 93) rfl rfl (by decide) rfl rfl (fun c => ?_) (fun c => ?_)
  · exact zz_E.weak (k1 c) rfl ⟨rfl, rfl, trivial⟩
  · exact zz_E.weak (k2 c) rfl ⟨rfl, rfl, trivial⟩
theorem mb_259_140 {X : Nat → Option zz_C} {h : zz_H} (hh : 111 ≤ h.length) {s : mS} {d : Nat} {Q : Option Value → zz_H → Prop} {x1 : Int32} (k1 : x1 = 59 → zz_E zp_P zt_tf zt_fd X d zm_259 218 [(0, .ref 61), (1, .int x1)] [] (mH h s) Q) (k2 : ¬ x1 = 59 → zz_E zp_P zt_tf zt_fd X d zm_259 146 [(0, .ref 61), (1, .int x1)] [] (mH h s) Q) : zz_E zp_P zt_tf zt_fd X d zm_259 140 [(0, .ref 61), (1, .int x1)] [] (mH h s) Q := by
  refine zz_E.n 141 rfl rfl rfl ?_
  refine zz_E.c 143 (.int 59) rfl rfl rfl rfl ?_
  refine zz_E.b2 218 146 (A := x1 = 59) rfl rfl (by decide) rfl rfl (fun c => ?_) (fun c => ?_)
  · exact zz_E.weak (k1 c) rfl ⟨rfl, rfl, trivial⟩
  · exact zz_E.weak (k2 c) rfl ⟨rfl, rfl, trivial⟩
theorem mb_259_146 {X : Nat → Option zz_C} {h : zz_H} (hh : 111 ≤ h.length) {s : mS} {d : Nat} {Q : Option Value → zz_H → Prop} {x1 : Int32} (k1 : x1 = 44 → zz_E zp_P zt_tf zt_fd X d zm_259 218 [(0, .ref 61), (1, .int x1)] [] (mH h s) Q) (k2 : ¬ x1 = 44 → zz_E zp_P zt_tf zt_fd X d zm_259 152 [(0, .ref 61), (1, .int x1)] [] (mH h s) Q) : zz_E zp_P zt_tf zt_fd X d zm_259 146 [(0, .ref 61), (1, .int x1)] [] (mH h s) Q := by
  refine zz_E.n 147 rfl rfl rfl ?_
  refine zz_E.c 149 (.int 44) rfl rfl rfl rfl ?_
  refine zz_E.b2 218 152 (A := x1 = 44) rfl rfl (by decide) rfl rfl (fun c => ?_) (fun c => ?_)
  · exact zz_E.weak (k1 c) rfl ⟨rfl, rfl, trivial⟩
  · exact zz_E.weak (k2 c) rfl ⟨rfl, rfl, trivial⟩
theorem mb_259_152 {X : Nat → Option zz_C} {h : zz_H} (hh : 111 ≤ h.length) {s : mS} {d : Nat} {Q : Option Value → zz_H → Prop} {x1 : Int32} (k1 : x1 = 61 → zz_E zp_P zt_tf zt_fd X d zm_259 218 [(0, .ref 61), (1, .int x1)] [] (mH h s) Q) (k2 : ¬ x1 = 61 → zz_E zp_P zt_tf zt_fd X d zm_259 158 [(0, .ref 61), (1, .int x1)] [] (mH h s) Q) : zz_E zp_P zt_tf zt_fd X d zm_259 152 [(0, .ref 61), (1, .int x1)] [] (mH h s) Q := by
  refine zz_E.n 153 rfl rfl rfl ?_
  refine zz_E.c 155 (.int 61) rfl rfl rfl rfl ?_
  refine zz_E.b2 218 158 (A := x1 = 61) rfl rfl (by decide) rfl rfl (fun c => ?_) (fun c => ?_)
  · exact zz_E.weak (k1 c) rfl ⟨rfl, rfl, trivial⟩
  · exact zz_E.weak (k2 c) rfl ⟨rfl, rfl, trivial⟩
theorem mb_259_158 {X : Nat → Option zz_C} {h : zz_H} (hh : 111 ≤ h.length) {s : mS} {d : Nat} {Q : Option Value → zz_H → Prop} {x1 : Int32} (k1 : x1 = 60 → zz_E zp_P zt_tf zt_fd X d zm_259 218 [(0, .ref 61), (1, .int x1)] [] (mH h s) Q) (k2 : ¬ x1 = 60 → zz_E zp_P zt_tf zt_fd X d zm_259 164 [(0, .ref 61), (1, .int x1)] [] (mH h s) Q) : zz_E zp_P zt_tf zt_fd X d zm_259 158 [(0, .ref 61), (1, .int x1)] [] (mH h s) Q := by
  refine zz_E.n 159 rfl rfl rfl ?_
  refine zz_E.c 161 (.int 60) rfl rfl rfl rfl ?_
  refine zz_E.b2 218 164 (A := x1 = 60) rfl rfl (by decide) rfl rfl (fun c => ?_) (fun c => ?_)
  · exact zz_E.weak (k1 c) rfl ⟨rfl, rfl, trivial⟩
  · exact zz_E.weak (k2 c) rfl ⟨rfl, rfl, trivial⟩
theorem mb_259_164 {X : Nat → Option zz_C} {h : zz_H} (hh : 111 ≤ h.length) {s : mS} {d : Nat} {Q : Option Value → zz_H → Prop} {x1 : Int32} (k1 : x1 = 62 → zz_E zp_P zt_tf zt_fd X d zm_259 218 [(0, .ref 61), (1, .int x1)] [] (mH h s) Q) (k2 : ¬ x1 = 62 → zz_E zp_P zt_tf zt_fd X d zm_259 170 [(0, .ref 61), (1, .int x1)] [] (mH h s) Q) : zz_E zp_P zt_tf zt_fd X d zm_259 164 [(0, .ref 61), (1, .int x1)] [] (mH h s) Q := by
  refine zz_E.n 165 rfl rfl rfl ?_
  refine zz_E.c 167 (.int 62) rfl rfl rfl rfl ?_
  refine zz_E.b2 218 170 (A := x1 = 62) rfl rfl (by decide) rfl rfl (fun c => ?_) (fun c => ?_)
  · exact zz_E.weak (k1 c) rfl ⟨rfl, rfl, trivial⟩
  · exact zz_E.weak (k2 c) rfl ⟨rfl, rfl, trivial⟩
theorem mb_259_170 {X : Nat → Option zz_C} {h : zz_H} (hh : 111 ≤ h.length) {s : mS} {d : Nat} {Q : Option Value → zz_H → Prop} {x1 : Int32} (k1 : x1 = 43 → zz_E zp_P zt_tf zt_fd X d zm_259 218 [(0, .ref 61), (1, .int x1)] [] (mH h s) Q) (k2 : ¬ x1 = 43 → zz_E zp_P zt_tf zt_fd X d zm_259 176 [(0, .ref 61), (1, .int x1)] [] (mH h s) Q) : zz_E zp_P zt_tf zt_fd X d zm_259 170 [(0, .ref 61), (1, .int x1)] [] (mH h s) Q := by
  refine zz_E.n 171 rfl rfl rfl ?_
  refine zz_E.c 173 (.int 43) rfl rfl rfl rfl ?_
  refine zz_E.b2 218 176 (A := x1 = 43) rfl rfl (by decide) rfl rfl (fun c => ?_) (fun c => ?_)
  · exact zz_E.weak (k1 c) rfl ⟨rfl, rfl, trivial⟩
  · exact zz_E.weak (k2 c) rfl ⟨rfl, rfl, trivial⟩
theorem mb_259_176 {X : Nat → Option zz_C} {h : zz_H} (hh : 111 ≤ h.length) {s : mS} {d : Nat} {Q : Option Value → zz_H → Prop} {x1 : Int32} (k1 : x1 = 45 → zz_E zp_P zt_tf zt_fd X d zm_259 218 [(0, .ref 61), (1, .int x1)] [] (mH h s) Q) (k2 : ¬ x1 = 45 → zz_E zp_P zt_tf zt_fd X d zm_259 182 [(0, .ref 61), (1, .int x1)] [] (mH h s) Q) : zz_E zp_P zt_tf zt_fd X d zm_259 176 [(0, .ref 61), (1, .int x1)] [] (mH h s) Q := by
  refine zz_E.n 177 rfl rfl rfl ?_
  refine zz_E.c 179 (.int 45) rfl rfl rfl rfl ?_
  refine zz_E.b2 218 182 (A := x1 = 45) rfl rfl (by decide) rfl rfl (fun c => ?_) (fun c => ?_)
  · exact zz_E.weak (k1 c) rfl ⟨rfl, rfl, trivial⟩
  · exact zz_E.weak (k2 c) rfl ⟨rfl, rfl, trivial⟩
theorem mb_259_182 {X : Nat → Option zz_C} {h : zz_H} (hh : 111 ≤ h.length) {s : mS} {d : Nat} {Q : Option Value → zz_H → Prop} {x1 : Int32} (k1 : x1 = 42 → zz_E zp_P zt_tf zt_fd X d zm_259 218 [(0, .ref 61), (1, .int x1)] [] (mH h s) Q) (k2 : ¬ x1 = 42 → zz_E zp_P zt_tf zt_fd X d zm_259 188 [(0, .ref 61), (1, .int x1)] [] (mH h s) Q) : zz_E zp_P zt_tf zt_fd X d zm_259 182 [(0, .ref 61), (1, .int x1)] [] (mH h s) Q := by
  refine zz_E.n 183 rfl rfl rfl ?_
  refine zz_E.c 185 (.int 42) rfl rfl rfl rfl ?_
  refine zz_E.b2 218 188 (A := x1 = 42) rfl rfl (by decide) rfl rfl (fun c => ?_) (fun c => ?_)
  · exact zz_E.weak (k1 c) rfl ⟨rfl, rfl, trivial⟩
  · exact zz_E.weak (k2 c) rfl ⟨rfl, rfl, trivial⟩
theorem mb_259_188 {X : Nat → Option zz_C} {h : zz_H} (hh : 111 ≤ h.length) {s : mS} {d : Nat} {Q : Option Value → zz_H → Prop} {x1 : Int32} (k1 : x1 = 47 → zz_E zp_P zt_tf zt_fd X d zm_259 218 [(0, .ref 61), (1, .int x1)] [] (mH h s) Q) (k2 : ¬ x1 = 47 → zz_E zp_P zt_tf zt_fd X d zm_259 194 [(0, .ref 61), (1, .int x1)] [] (mH h s) Q) : zz_E zp_P zt_tf zt_fd X d zm_259 188 [(0, .ref 61), (1, .int x1)] [] (mH h s) Q := by
  refine zz_E.n 189 rfl rfl rfl ?_
  refine zz_E.c 191 (.int 47) rfl rfl rfl rfl ?_
  refine zz_E.b2 218 194 (A := x1 = 47) rfl rfl (by decide) rfl rfl (fun c => ?_) (fun c => ?_)
  · exact zz_E.weak (k1 c) rfl ⟨rfl, rfl, trivial⟩
  · exact zz_E.weak (k2 c) rfl ⟨rfl, rfl, trivial⟩
theorem mb_259_194 {X : Nat → Option zz_C} {h : zz_H} (hh : 111 ≤ h.length) {s : mS} {d : Nat} {Q : Option Value → zz_H → Prop} {x1 : Int32} (k1 : x1 = 37 → zz_E zp_P zt_tf zt_fd X d zm_259 218 [(0, .ref 61), (1, .int x1)] [] (mH h s) Q) (k2 : ¬ x1 = 37 → zz_E zp_P zt_tf zt_fd X d zm_259 200 [(0, .ref 61), (1, .int x1)] [] (mH h s) Q) : zz_E zp_P zt_tf zt_fd X d zm_259 194 [(0, .ref 61), (1, .int x1)] [] (mH h s) Q := by
  refine zz_E.n 195 rfl rfl rfl ?_
  refine zz_E.c 197 (.int 37) rfl rfl rfl rfl ?_
  refine zz_E.b2 218 200 (A := x1 = 37) rfl rfl (by decide) rfl rfl (fun c => ?_) (fun c => ?_)
  · exact zz_E.weak (k1 c) rfl ⟨rfl, rfl, trivial⟩
  · exact zz_E.weak (k2 c) rfl ⟨rfl, rfl, trivial⟩
theorem mb_259_200 {X : Nat → Option zz_C} {h : zz_H} (hh : 111 ≤ h.length) {s : mS} {d : Nat} {Q : Option Value → zz_H → Prop} {x1 : Int32} (k1 : x1 = 38 → zz_E zp_P zt_tf zt_fd X d zm_259 218 [(0, .ref 61), (1, .int x1)] [] (mH h s) Q) (k2 : ¬ x1 = 38 → zz_E zp_P zt_tf zt_fd X d zm_259 206 [(0, .ref 61), (1, .int x1)] [] (mH h s) Q) : zz_E zp_P zt_tf zt_fd X d zm_259 200 [(0, .ref 61), (1, .int x1)] [] (mH h s) Q := by
  refine zz_E.n 201 rfl rfl rfl ?_
  refine zz_E.c 203 (.int 38) rfl rfl rfl rfl ?_
  refine zz_E.b2 218 206 (A := x1 = 38) rfl rfl (by decide) rfl rfl (fun c => ?_) (fun c => ?_)
  · exact zz_E.weak (k1 c) rfl ⟨rfl, rfl, trivial⟩
  · exact zz_E.weak (k2 c) rfl ⟨rfl, rfl, trivial⟩
theorem mb_259_206 {X : Nat → Option zz_C} {h : zz_H} (hh : 111 ≤ h.length) {s : mS} {d : Nat} {Q : Option Value → zz_H → Prop} {x1 : Int32} (k1 : x1 = 124 → zz_E zp_P zt_tf zt_fd X d zm_259 218 [(0, .ref 61), (1, .int x1)] [] (mH h s) Q) (k2 : ¬ x1 = 124 → zz_E zp_P zt_tf zt_fd X d zm_259 212 [(0, .ref 61), (1, .int x1)] [] (mH h s) Q) : zz_E zp_P zt_tf zt_fd X d zm_259 206 [(0, .ref 61), (1, .int x1)] [] (mH h s) Q := by
  refine zz_E.n 207 rfl rfl rfl ?_
  refine zz_E.c 209 (.int 124) rfl rfl rfl rfl ?_
  refine zz_E.b2 218 212 (A := x1 = 124) rfl rfl (by decide) rfl rfl (fun c => ?_) (fun c => ?_)
  · exact zz_E.weak (k1 c) rfl ⟨rfl, rfl, trivial⟩
  · exact zz_E.weak (k2 c) rfl ⟨rfl, rfl, trivial⟩
theorem mb_259_212 {X : Nat → Option zz_C} {h : zz_H} (hh : 111 ≤ h.length) {s : mS} {d : Nat} {Q : Option Value → zz_H → Prop} {x1 : Int32} (k1 : ¬ x1 = 33 → zz_E zp_P zt_tf zt_fd X d zm_259 222 [(0, .ref 61), (1, .int x1)] [] (mH h s) Q) (k2 : ¬ ¬ x1 = 33 → zz_E zp_P zt_tf zt_fd X d zm_259 218 [(0, .ref 61), (1, .int x1)] [] (mH h s) Q) : zz_E zp_P zt_tf zt_fd X d zm_259 212 [(0, .ref 61), (1, .int x1)] [] (mH h s) Q := by
  refine zz_E.n 213 rfl rfl rfl ?_
  refine zz_E.c 215 (.int 33) rfl rfl rfl rfl ?_
  refine zz_E.b2 222 218 (A := ¬ x1 = 33) rfl (zz_cond_ne _ _) (by decide) rfl rfl (fun c => ?_) (fun c => ?_)
  · exact zz_E.weak (k1 c) rfl ⟨rfl, rfl, trivial⟩
  · exact zz_E.weak (k2 c) rfl ⟨rfl, rfl, trivial⟩
theorem mb_259_218 {X : Nat → Option zz_C} {h : zz_H} (hh : 111 ≤ h.length) {s : mS} {d : Nat} {Q : Option Value → zz_H → Prop} {x1 : Int32} (k : zz_E zp_P zt_tf zt_fd X d zm_259 223 [(0, .ref 61), (1, .int x1)] [.int 1] (mH h s) Q) : zz_E zp_P zt_tf zt_fd X d zm_259 218 [(0, .ref 61), (1, .int x1)] [] (mH h s) Q := by
  refine zz_E.c 219 (.int 1) rfl rfl rfl rfl ?_
  refine zz_E.n 223 rfl rfl rfl ?_
  exact zz_E.weak k rfl ⟨rfl, rfl, trivial⟩
theorem mb_259_222 {X : Nat → Option zz_C} {h : zz_H} (hh : 111 ≤ h.length) {s : mS} {d : Nat} {Q : Option Value → zz_H → Prop} {x1 : Int32} (k : zz_E zp_P zt_tf zt_fd X d zm_259 223 [(0, .ref 61), (1, .int x1)] [.int 0] (mH h s) Q) : zz_E zp_P zt_tf zt_fd X d zm_259 222 [(0, .ref 61), (1, .int x1)] [] (mH h s) Q := by
  refine zz_E.c 223 (.int 0) rfl rfl rfl rfl ?_
  exact zz_E.weak k rfl ⟨rfl, rfl, trivial⟩
theorem mb_259_223 {X : Nat → Option zz_C} {h : zz_H} (hh : 111 ≤ h.length) {s : mS} {d : Nat} {Q : Option Value → zz_H → Prop} {x1 : Int32} {y0 : Int32} (k1 : ¬ y0 = 0 → zz_E zp_P zt_tf zt_fd X d zm_259 239 [(0, .ref 61)] [] (mH h (mL s 7 (Int32.toInt64 x1))) Q) (k2 : ¬ ¬ y0 = 0 → zz_E zp_P zt_tf zt_fd X d zm_259 234 [(0, .ref 61)] [] (mH h (mL s 7 (Int32.toInt64 x1))) Q) : zz_E zp_P zt_tf zt_fd X d zm_259 223 [(0, .ref 61), (1, .int x1)] [.int y0] (mH h s) Q := by
  refine zz_E.n 224 rfl rfl rfl ?_
  refine zz_E.n 225 rfl rfl rfl ?_
  refine zz_E.n 226 rfl rfl rfl ?_
  refine zz_E.n 227 rfl rfl rfl ?_
  refine mE_p hh 230 rfl (by decide) rfl (mF_7 _ _) rfl ?_
  refine zz_E.n 231 rfl rfl rfl ?_
  refine zz_E.b1 239 234 (A := ¬ y0 = 0) rfl (zz_cond_ne _ _) (by decide) rfl rfl (fun c => ?_) (fun c => ?_)
  · exact zz_E.weak (k1 c) rfl ⟨rfl, trivial⟩
  · exact zz_E.weak (k2 c) rfl ⟨rfl, trivial⟩
theorem mb_259_234 {X : Nat → Option zz_C} {h : zz_H} (hh : 111 ≤ h.length) {s : mS} {d : Nat} {Q : Option Value → zz_H → Prop}  (k : zz_E zp_P zt_tf zt_fd X d zm_259 239 [(0, .ref 61)] [] (mH h (mI s 5 4)) Q) : zz_E zp_P zt_tf zt_fd X d zm_259 234 [(0, .ref 61)] [] (mH h s) Q := by
  refine zz_E.n 235 rfl rfl rfl ?_
  refine zz_E.c 236 (.int 4) rfl rfl rfl rfl ?_
  refine mE_p hh 239 rfl (by decide) rfl (mF_5 _ _) rfl ?_
  exact zz_E.weak k rfl ⟨rfl, trivial⟩
theorem mb_259_239 {X : Nat → Option zz_C} {h : zz_H} (hh : 111 ≤ h.length) {s : mS} {d : Nat} {Q : Option Value → zz_H → Prop}  (k : Q (some (.int ((s.1 6) + 1))) (mH h s)) : zz_E zp_P zt_tf zt_fd X d zm_259 239 [(0, .ref 61)] [] (mH h s) Q := by
  refine zz_E.n 240 rfl rfl rfl ?_
  refine mE_g hh 243 (v := .int (s.1 6)) rfl rfl rfl ?_
  refine zz_E.c 244 (.int 1) rfl rfl rfl rfl ?_
  refine zz_E.n 245 rfl rfl rfl ?_
  refine zz_E.ret rfl rfl rfl ?_
  exact k
def mf_259_239 (N : Nat)  (s : mS) : mO := some (s, (some (.int ((s.1 6) + 1))))
theorem mr_259_239 {X : Nat → Option zz_C} {h : zz_H} (hh : 111 ≤ h.length) {d : Nat} {N : Nat} {Q : Option Value → zz_H → Prop}  {s s' : mS} {v : Option Value} (hf : mf_259_239 N  s = some (s', v)) (k : Q v (mH h s')) : zz_E zp_P zt_tf zt_fd X (d + 1) zm_259 239 [(0, .ref 61)] [] (mH h s) Q := by
  unfold mf_259_239 at hf
  cases hf
  exact mb_259_239 hh  k
def mf_259_234 (N : Nat)  (s : mS) : mO := mf_259_239 N  (mI s 5 4)
theorem mr_259_234 {X : Nat → Option zz_C} {h : zz_H} (hh : 111 ≤ h.length) {d : Nat} {N : Nat} {Q : Option Value → zz_H → Prop}  {s s' : mS} {v : Option Value} (hf : mf_259_234 N  s = some (s', v)) (k : Q v (mH h s')) : zz_E zp_P zt_tf zt_fd X (d + 1) zm_259 234 [(0, .ref 61)] [] (mH h s) Q := by
  unfold mf_259_234 at hf
  exact mb_259_234 hh  (mr_259_239 hh hf k)
def mf_259_223 (N : Nat) (x1 : Int32) (y0 : Int32) (s : mS) : mO := if ¬ y0 = 0 then mf_259_239 N  (mL s 7 (Int32.toInt64 x1)) else mf_259_234 N  (mL s 7 (Int32.toInt64 x1))
theorem mr_259_223 {X : Nat → Option zz_C} {h : zz_H} (hh : 111 ≤ h.length) {d : Nat} {N : Nat} {Q : Option Value → zz_H → Prop} {x1 : Int32} {y0 : Int32} {s s' : mS} {v : Option Value} (hf : mf_259_223 N x1 y0 s = some (s', v)) (k : Q v (mH h s')) : zz_E zp_P zt_tf zt_fd X (d + 1) zm_259 223 [(0, .ref 61), (1, .int x1)] [.int y0] (mH h s) Q := by
  unfold mf_259_223 at hf
  refine mb_259_223 hh  (fun c => ?_) (fun c => ?_)
  · rw [if_pos c] at hf
    exact mr_259_239 hh hf k
  · rw [if_neg c] at hf
    exact mr_259_234 hh hf k
def mf_259_218 (N : Nat) (x1 : Int32) (s : mS) : mO := mf_259_223 N x1 1 s
theorem mr_259_218 {X : Nat → Option zz_C} {h : zz_H} (hh : 111 ≤ h.length) {d : Nat} {N : Nat} {Q : Option Value → zz_H → Prop} {x1 : Int32} {s s' : mS} {v : Option Value} (hf : mf_259_218 N x1 s = some (s', v)) (k : Q v (mH h s')) : zz_E zp_P zt_tf zt_fd X (d + 1) zm_259 218 [(0, .ref 61), (1, .int x1)] [] (mH h s) Q := by
  unfold mf_259_218 at hf
  exact mb_259_218 hh  (mr_259_223 hh hf k)
def mf_259_222 (N : Nat) (x1 : Int32) (s : mS) : mO := mf_259_223 N x1 0 s
theorem mr_259_222 {X : Nat → Option zz_C} {h : zz_H} (hh : 111 ≤ h.length) {d : Nat} {N : Nat} {Q : Option Value → zz_H → Prop} {x1 : Int32} {s s' : mS} {v : Option Value} (hf : mf_259_222 N x1 s = some (s', v)) (k : Q v (mH h s')) : zz_E zp_P zt_tf zt_fd X (d + 1) zm_259 222 [(0, .ref 61), (1, .int x1)] [] (mH h s) Q := by
  unfold mf_259_222 at hf
  exact mb_259_222 hh  (mr_259_223 hh hf k)
def mf_259_212 (N : Nat) (x1 : Int32) (s : mS) : mO := if ¬ x1 = 33 then mf_259_222 N x1 s else mf_259_218 N x1 s
theorem mr_259_212 {X : Nat → Option zz_C} {h : zz_H} (hh : 111 ≤ h.length) {d : Nat} {N : Nat} {Q : Option Value → zz_H → Prop} {x1 : Int32} {s s' : mS} {v : Option Value} (hf : mf_259_212 N x1 s = some (s', v)) (k : Q v (mH h s')) : zz_E zp_P zt_tf zt_fd X (d + 1) zm_259 212 [(0, .ref 61), (1, .int x1)] [] (mH h s) Q := by
  unfold mf_259_212 at hf
  refine mb_259_212 hh  (fun c => ?_) (fun c => ?_)
  · rw [if_pos c] at hf
    exact mr_259_222 hh hf k
  · rw [if_neg c] at hf
    exact mr_259_218 hh hf k
def mf_259_206 (N : Nat) (x1 : Int32) (s : mS) : mO := if x1 = 124 then mf_259_218 N x1 s else mf_259_212 N x1 s
theorem mr_259_206 {X : Nat → Option zz_C} {h : zz_H} (hh : 111 ≤ h.length) {d : Nat} {N : Nat} {Q : Option Value → zz_H → Prop} {x1 : Int32} {s s' : mS} {v : Option Value} (hf : mf_259_206 N x1 s = some (s', v)) (k : Q v (mH h s')) : zz_E zp_P zt_tf zt_fd X (d + 1) zm_259 206 [(0, .ref 61), (1, .int x1)] [] (mH h s) Q := by
  unfold mf_259_206 at hf
  refine mb_259_206 hh  (fun c => ?_) (fun c => ?_)
  · rw [if_pos c] at hf
    exact mr_259_218 hh hf k
  · rw [if_neg c] at hf
    exact mr_259_212 hh hf k
def mf_259_200 (N : Nat) (x1 : Int32) (s : mS) : mO := if x1 = 38 then mf_259_218 N x1 s else mf_259_206 N x1 s
theorem mr_259_200 {X : Nat → Option zz_C} {h : zz_H} (hh : 111 ≤ h.length) {d : Nat} {N : Nat} {Q : Option Value → zz_H → Prop} {x1 : Int32} {s s' : mS} {v : Option Value} (hf : mf_259_200 N x1 s = some (s', v)) (k : Q v (mH h s')) : zz_E zp_P zt_tf zt_fd X (d + 1) zm_259 200 [(0, .ref 61), (1, .int x1)] [] (mH h s) Q := by
  unfold mf_259_200 at hf
  refine mb_259_200 hh  (fun c => ?_) (fun c => ?_)
  · rw [if_pos c] at hf
    exact mr_259_218 hh hf k
  · rw [if_neg c] at hf
    exact mr_259_206 hh hf k
def mf_259_194 (N : Nat) (x1 : Int32) (s : mS) : mO := if x1 = 37 then mf_259_218 N x1 s else mf_259_200 N x1 s
theorem mr_259_194 {X : Nat → Option zz_C} {h : zz_H} (hh : 111 ≤ h.length) {d : Nat} {N : Nat} {Q : Option Value → zz_H → Prop} {x1 : Int32} {s s' : mS} {v : Option Value} (hf : mf_259_194 N x1 s = some (s', v)) (k : Q v (mH h s')) : zz_E zp_P zt_tf zt_fd X (d + 1) zm_259 194 [(0, .ref 61), (1, .int x1)] [] (mH h s) Q := by
  unfold mf_259_194 at hf
  refine mb_259_194 hh  (fun c => ?_) (fun c => ?_)
  · rw [if_pos c] at hf
    exact mr_259_218 hh hf k
  · rw [if_neg c] at hf
    exact mr_259_200 hh hf k
def mf_259_188 (N : Nat) (x1 : Int32) (s : mS) : mO := if x1 = 47 then mf_259_218 N x1 s else mf_259_194 N x1 s
theorem mr_259_188 {X : Nat → Option zz_C} {h : zz_H} (hh : 111 ≤ h.length) {d : Nat} {N : Nat} {Q : Option Value → zz_H → Prop} {x1 : Int32} {s s' : mS} {v : Option Value} (hf : mf_259_188 N x1 s = some (s', v)) (k : Q v (mH h s')) : zz_E zp_P zt_tf zt_fd X (d + 1) zm_259 188 [(0, .ref 61), (1, .int x1)] [] (mH h s) Q := by
  unfold mf_259_188 at hf
  refine mb_259_188 hh  (fun c => ?_) (fun c => ?_)
  · rw [if_pos c] at hf
    exact mr_259_218 hh hf k
  · rw [if_neg c] at hf
    exact mr_259_194 hh hf k
def mf_259_182 (N : Nat) (x1 : Int32) (s : mS) : mO := if x1 = 42 then mf_259_218 N x1 s else mf_259_188 N x1 s
theorem mr_259_182 {X : Nat → Option zz_C} {h : zz_H} (hh : 111 ≤ h.length) {d : Nat} {N : Nat} {Q : Option Value → zz_H → Prop} {x1 : Int32} {s s' : mS} {v : Option Value} (hf : mf_259_182 N x1 s = some (s', v)) (k : Q v (mH h s')) : zz_E zp_P zt_tf zt_fd X (d + 1) zm_259 182 [(0, .ref 61), (1, .int x1)] [] (mH h s) Q := by
  unfold mf_259_182 at hf
  refine mb_259_182 hh  (fun c => ?_) (fun c => ?_)
  · rw [if_pos c] at hf
    exact mr_259_218 hh hf k
  · rw [if_neg c] at hf
    exact mr_259_188 hh hf k
def mf_259_176 (N : Nat) (x1 : Int32) (s : mS) : mO := if x1 = 45 then mf_259_218 N x1 s else mf_259_182 N x1 s
theorem mr_259_176 {X : Nat → Option zz_C} {h : zz_H} (hh : 111 ≤ h.length) {d : Nat} {N : Nat} {Q : Option Value → zz_H → Prop} {x1 : Int32} {s s' : mS} {v : Option Value} (hf : mf_259_176 N x1 s = some (s', v)) (k : Q v (mH h s')) : zz_E zp_P zt_tf zt_fd X (d + 1) zm_259 176 [(0, .ref 61), (1, .int x1)] [] (mH h s) Q := by
  unfold mf_259_176 at hf
  refine mb_259_176 hh  (fun c => ?_) (fun c => ?_)
  · rw [if_pos c] at hf
    exact mr_259_218 hh hf k
  · rw [if_neg c] at hf
    exact mr_259_182 hh hf k
def mf_259_170 (N : Nat) (x1 : Int32) (s : mS) : mO := if x1 = 43 then mf_259_218 N x1 s else mf_259_176 N x1 s
theorem mr_259_170 {X : Nat → Option zz_C} {h : zz_H} (hh : 111 ≤ h.length) {d : Nat} {N : Nat} {Q : Option Value → zz_H → Prop} {x1 : Int32} {s s' : mS} {v : Option Value} (hf : mf_259_170 N x1 s = some (s', v)) (k : Q v (mH h s')) : zz_E zp_P zt_tf zt_fd X (d + 1) zm_259 170 [(0, .ref 61), (1, .int x1)] [] (mH h s) Q := by
  unfold mf_259_170 at hf
  refine mb_259_170 hh  (fun c => ?_) (fun c => ?_)
  · rw [if_pos c] at hf
    exact mr_259_218 hh hf k
  · rw [if_neg c] at hf
    exact mr_259_176 hh hf k
def mf_259_164 (N : Nat) (x1 : Int32) (s : mS) : mO := if x1 = 62 then mf_259_218 N x1 s else mf_259_170 N x1 s
theorem mr_259_164 {X : Nat → Option zz_C} {h : zz_H} (hh : 111 ≤ h.length) {d : Nat} {N : Nat} {Q : Option Value → zz_H → Prop} {x1 : Int32} {s s' : mS} {v : Option Value} (hf : mf_259_164 N x1 s = some (s', v)) (k : Q v (mH h s')) : zz_E zp_P zt_tf zt_fd X (d + 1) zm_259 164 [(0, .ref 61), (1, .int x1)] [] (mH h s) Q := by
  unfold mf_259_164 at hf
  refine mb_259_164 hh  (fun c => ?_) (fun c => ?_)
  · rw [if_pos c] at hf
    exact mr_259_218 hh hf k
  · rw [if_neg c] at hf
    exact mr_259_170 hh hf k
def mf_259_158 (N : Nat) (x1 : Int32) (s : mS) : mO := if x1 = 60 then mf_259_218 N x1 s else mf_259_164 N x1 s
theorem mr_259_158 {X : Nat → Option zz_C} {h : zz_H} (hh : 111 ≤ h.length) {d : Nat} {N : Nat} {Q : Option Value → zz_H → Prop} {x1 : Int32} {s s' : mS} {v : Option Value} (hf : mf_259_158 N x1 s = some (s', v)) (k : Q v (mH h s')) : zz_E zp_P zt_tf zt_fd X (d + 1) zm_259 158 [(0, .ref 61), (1, .int x1)] [] (mH h s) Q := by
  unfold mf_259_158 at hf
  refine mb_259_158 hh  (fun c => ?_) (fun c => ?_)
  · rw [if_pos c] at hf
    exact mr_259_218 hh hf k
  · rw [if_neg c] at hf
    exact mr_259_164 hh hf k
def mf_259_152 (N : Nat) (x1 : Int32) (s : mS) : mO := if x1 = 61 then mf_259_218 N x1 s else mf_259_158 N x1 s
theorem mr_259_152 {X : Nat → Option zz_C} {h : zz_H} (hh : 111 ≤ h.length) {d : Nat} {N : Nat} {Q : Option Value → zz_H → Prop} {x1 : Int32} {s s' : mS} {v : Option Value} (hf : mf_259_152 N x1 s = some (s', v)) (k : Q v (mH h s')) : zz_E zp_P zt_tf zt_fd X (d + 1) zm_259 152 [(0, .ref 61), (1, .int x1)] [] (mH h s) Q := by
  unfold mf_259_152 at hf
  refine mb_259_152 hh  (fun c => ?_) (fun c => ?_)
  · rw [if_pos c] at hf
    exact mr_259_218 hh hf k
  · rw [if_neg c] at hf
    exact mr_259_158 hh hf k
def mf_259_146 (N : Nat) (x1 : Int32) (s : mS) : mO := if x1 = 44 then mf_259_218 N x1 s else mf_259_152 N x1 s
theorem mr_259_146 {X : Nat → Option zz_C} {h : zz_H} (hh : 111 ≤ h.length) {d : Nat} {N : Nat} {Q : Option Value → zz_H → Prop} {x1 : Int32} {s s' : mS} {v : Option Value} (hf : mf_259_146 N x1 s = some (s', v)) (k : Q v (mH h s')) : zz_E zp_P zt_tf zt_fd X (d + 1) zm_259 146 [(0, .ref 61), (1, .int x1)] [] (mH h s) Q := by
  unfold mf_259_146 at hf
  refine mb_259_146 hh  (fun c => ?_) (fun c => ?_)
  · rw [if_pos c] at hf
    exact mr_259_218 hh hf k
  · rw [if_neg c] at hf
    exact mr_259_152 hh hf k
def mf_259_140 (N : Nat) (x1 : Int32) (s : mS) : mO := if x1 = 59 then mf_259_218 N x1 s else mf_259_146 N x1 s
theorem mr_259_140 {X : Nat → Option zz_C} {h : zz_H} (hh : 111 ≤ h.length) {d : Nat} {N : Nat} {Q : Option Value → zz_H → Prop} {x1 : Int32} {s s' : mS} {v : Option Value} (hf : mf_259_140 N x1 s = some (s', v)) (k : Q v (mH h s')) : zz_E zp_P zt_tf zt_fd X (d + 1) zm_259 140 [(0, .ref 61), (1, .int x1)] [] (mH h s) Q := by
  unfold mf_259_140 at hf
  refine mb_259_140 hh  (fun c => ?_) (fun c => ?_)
  · rw [if_pos c] at hf
    exact mr_259_218 hh hf k
  · rw [if_neg c] at hf
    exact mr_259_146 hh hf k
def mf_259_134 (N : Nat) (x1 : Int32) (s : mS) : mO := if x1 = 93 then mf_259_218 N x1 s else mf_259_140 N x1 s
theorem mr_259_134 {X : Nat → Option zz_C} {h : zz_H} (hh : 111 ≤ h.length) {d : Nat} {N : Nat} {Q : Option Value → zz_H → Prop} {x1 : Int32} {s s' : mS} {v : Option Value} (hf : mf_259_134 N x1 s = some (s', v)) (k : Q v (mH h s')) : zz_E zp_P zt_tf zt_fd X (d + 1) zm_259 134 [(0, .ref 61), (1, .int x1)] [] (mH h s) Q := by
  unfold mf_259_134 at hf
  refine mb_259_134 hh  (fun c => ?_) (fun c => ?_)
  · rw [if_pos c] at hf
    exact mr_259_218 hh hf k
  · rw [if_neg c] at hf
    exact mr_259_140 hh hf k
def mf_259_128 (N : Nat) (x1 : Int32) (s : mS) : mO := if x1 = 91 then mf_259_218 N x1 s else mf_259_134 N x1 s
theorem mr_259_128 {X : Nat → Option zz_C} {h : zz_H} (hh : 111 ≤ h.length) {d : Nat} {N : Nat} {Q : Option Value → zz_H → Prop} {x1 : Int32} {s s' : mS} {v : Option Value} (hf : mf_259_128 N x1 s = some (s', v)) (k : Q v (mH h s')) : zz_E zp_P zt_tf zt_fd X (d + 1) zm_259 128 [(0, .ref 61), (1, .int x1)] [] (mH h s) Q := by
  unfold mf_259_128 at hf
  refine mb_259_128 hh  (fun c => ?_) (fun c => ?_)
  · rw [if_pos c] at hf
    exact mr_259_218 hh hf k
  · rw [if_neg c] at hf
    exact mr_259_134 hh hf k
def mf_259_122 (N : Nat) (x1 : Int32) (s : mS) : mO := if x1 = 41 then mf_259_218 N x1 s else mf_259_128 N x1 s
theorem mr_259_122 {X : Nat → Option zz_C} {h : zz_H} (hh : 111 ≤ h.length) {d : Nat} {N : Nat} {Q : Option Value → zz_H → Prop} {x1 : Int32} {s s' : mS} {v : Option Value} (hf : mf_259_122 N x1 s = some (s', v)) (k : Q v (mH h s')) : zz_E zp_P zt_tf zt_fd X (d + 1) zm_259 122 [(0, .ref 61), (1, .int x1)] [] (mH h s) Q := by
  unfold mf_259_122 at hf
  refine mb_259_122 hh  (fun c => ?_) (fun c => ?_)
  · rw [if_pos c] at hf
    exact mr_259_218 hh hf k
  · rw [if_neg c] at hf
    exact mr_259_128 hh hf k
def mf_259_116 (N : Nat) (x1 : Int32) (s : mS) : mO := if x1 = 40 then mf_259_218 N x1 s else mf_259_122 N x1 s
theorem mr_259_116 {X : Nat → Option zz_C} {h : zz_H} (hh : 111 ≤ h.length) {d : Nat} {N : Nat} {Q : Option Value → zz_H → Prop} {x1 : Int32} {s s' : mS} {v : Option Value} (hf : mf_259_116 N x1 s = some (s', v)) (k : Q v (mH h s')) : zz_E zp_P zt_tf zt_fd X (d + 1) zm_259 116 [(0, .ref 61), (1, .int x1)] [] (mH h s) Q := by
  unfold mf_259_116 at hf
  refine mb_259_116 hh  (fun c => ?_) (fun c => ?_)
  · rw [if_pos c] at hf
    exact mr_259_218 hh hf k
  · rw [if_neg c] at hf
    exact mr_259_122 hh hf k
def mf_259_110 (N : Nat) (x1 : Int32) (s : mS) : mO := if x1 = 125 then mf_259_218 N x1 s else mf_259_116 N x1 s
theorem mr_259_110 {X : Nat → Option zz_C} {h : zz_H} (hh : 111 ≤ h.length) {d : Nat} {N : Nat} {Q : Option Value → zz_H → Prop} {x1 : Int32} {s s' : mS} {v : Option Value} (hf : mf_259_110 N x1 s = some (s', v)) (k : Q v (mH h s')) : zz_E zp_P zt_tf zt_fd X (d + 1) zm_259 110 [(0, .ref 61), (1, .int x1)] [] (mH h s) Q := by
  unfold mf_259_110 at hf
  refine mb_259_110 hh  (fun c => ?_) (fun c => ?_)
  · rw [if_pos c] at hf
    exact mr_259_218 hh hf k
  · rw [if_neg c] at hf
    exact mr_259_116 hh hf k
def mf_259_104 (N : Nat) (x1 : Int32) (s : mS) : mO := if x1 = 123 then mf_259_218 N x1 s else mf_259_110 N x1 s
theorem mr_259_104 {X : Nat → Option zz_C} {h : zz_H} (hh : 111 ≤ h.length) {d : Nat} {N : Nat} {Q : Option Value → zz_H → Prop} {x1 : Int32} {s s' : mS} {v : Option Value} (hf : mf_259_104 N x1 s = some (s', v)) (k : Q v (mH h s')) : zz_E zp_P zt_tf zt_fd X (d + 1) zm_259 104 [(0, .ref 61), (1, .int x1)] [] (mH h s) Q := by
  unfold mf_259_104 at hf
  refine mb_259_104 hh  (fun c => ?_) (fun c => ?_)
  · rw [if_pos c] at hf
    exact mr_259_218 hh hf k
  · rw [if_neg c] at hf
    exact mr_259_110 hh hf k
def mf_259_94 (N : Nat) (y1 : Int64) (s : mS) : mO := some ((mL s 7 y1), (some (.int ((s.1 6) + 2))))
theorem mr_259_94 {X : Nat → Option zz_C} {h : zz_H} (hh : 111 ≤ h.length) {d : Nat} {N : Nat} {Q : Option Value → zz_H → Prop} {y1 : Int64} {s s' : mS} {v : Option Value} (hf : mf_259_94 N y1 s = some (s', v)) (k : Q v (mH h s')) : zz_E zp_P zt_tf zt_fd X (d + 1) zm_259 94 [(0, .ref 61)] [.long y1, .ref 61] (mH h s) Q := by
  unfold mf_259_94 at hf
  cases hf
  exact mb_259_94 hh  k
def mf_259_91 (N : Nat)  (s : mS) : mO := mf_259_94 N 259 s
theorem mr_259_91 {X : Nat → Option zz_C} {h : zz_H} (hh : 111 ≤ h.length) {d : Nat} {N : Nat} {Q : Option Value → zz_H → Prop}  {s s' : mS} {v : Option Value} (hf : mf_259_91 N  s = some (s', v)) (k : Q v (mH h s')) : zz_E zp_P zt_tf zt_fd X (d + 1) zm_259 91 [(0, .ref 61)] [.ref 61] (mH h s) Q := by
  unfold mf_259_91 at hf
  exact mb_259_91 hh  (mr_259_94 hh hf k)
def mf_259_85 (N : Nat)  (s : mS) : mO := mf_259_94 N 258 s
theorem mr_259_85 {X : Nat → Option zz_C} {h : zz_H} (hh : 111 ≤ h.length) {d : Nat} {N : Nat} {Q : Option Value → zz_H → Prop}  {s s' : mS} {v : Option Value} (hf : mf_259_85 N  s = some (s', v)) (k : Q v (mH h s')) : zz_E zp_P zt_tf zt_fd X (d + 1) zm_259 85 [(0, .ref 61)] [.ref 61] (mH h s) Q := by
  unfold mf_259_85 at hf
  exact mb_259_85 hh  (mr_259_94 hh hf k)
def mf_259_79 (N : Nat) (x1 : Int32) (s : mS) : mO := if ¬ x1 = 60 then mf_259_91 N  s else mf_259_85 N  s
theorem mr_259_79 {X : Nat → Option zz_C} {h : zz_H} (hh : 111 ≤ h.length) {d : Nat} {N : Nat} {Q : Option Value → zz_H → Prop} {x1 : Int32} {s s' : mS} {v : Option Value} (hf : mf_259_79 N x1 s = some (s', v)) (k : Q v (mH h s')) : zz_E zp_P zt_tf zt_fd X (d + 1) zm_259 79 [(0, .ref 61), (1, .int x1)] [.ref 61] (mH h s) Q := by
  unfold mf_259_79 at hf
  refine mb_259_79 hh  (fun c => ?_) (fun c => ?_)
  · rw [if_pos c] at hf
    exact mr_259_91 hh hf k
  · rw [if_neg c] at hf
    exact mr_259_85 hh hf k
def mf_259_73 (N : Nat)  (s : mS) : mO := mf_259_94 N 257 s
theorem mr_259_73 {X : Nat → Option zz_C} {h : zz_H} (hh : 111 ≤ h.length) {d : Nat} {N : Nat} {Q : Option Value → zz_H → Prop}  {s s' : mS} {v : Option Value} (hf : mf_259_73 N  s = some (s', v)) (k : Q v (mH h s')) : zz_E zp_P zt_tf zt_fd X (d + 1) zm_259 73 [(0, .ref 61)] [.ref 61] (mH h s) Q := by
  unfold mf_259_73 at hf
  exact mb_259_73 hh  (mr_259_94 hh hf k)
def mf_259_67 (N : Nat) (x1 : Int32) (s : mS) : mO := if ¬ x1 = 33 then mf_259_79 N x1 s else mf_259_73 N  s
theorem mr_259_67 {X : Nat → Option zz_C} {h : zz_H} (hh : 111 ≤ h.length) {d : Nat} {N : Nat} {Q : Option Value → zz_H → Prop} {x1 : Int32} {s s' : mS} {v : Option Value} (hf : mf_259_67 N x1 s = some (s', v)) (k : Q v (mH h s')) : zz_E zp_P zt_tf zt_fd X (d + 1) zm_259 67 [(0, .ref 61), (1, .int x1)] [.ref 61] (mH h s) Q := by
  unfold mf_259_67 at hf
  refine mb_259_67 hh  (fun c => ?_) (fun c => ?_)
  · rw [if_pos c] at hf
    exact mr_259_79 hh hf k
  · rw [if_neg c] at hf
    exact mr_259_73 hh hf k
def mf_259_61 (N : Nat)  (s : mS) : mO := mf_259_94 N 256 s
theorem mr_259_61 {X : Nat → Option zz_C} {h : zz_H} (hh : 111 ≤ h.length) {d : Nat} {N : Nat} {Q : Option Value → zz_H → Prop}  {s s' : mS} {v : Option Value} (hf : mf_259_61 N  s = some (s', v)) (k : Q v (mH h s')) : zz_E zp_P zt_tf zt_fd X (d + 1) zm_259 61 [(0, .ref 61)] [.ref 61] (mH h s) Q := by
  unfold mf_259_61 at hf
  exact mb_259_61 hh  (mr_259_94 hh hf k)
def mf_259_54 (N : Nat) (x1 : Int32) (s : mS) : mO := if ¬ x1 = 61 then mf_259_67 N x1 s else mf_259_61 N  s
theorem mr_259_54 {X : Nat → Option zz_C} {h : zz_H} (hh : 111 ≤ h.length) {d : Nat} {N : Nat} {Q : Option Value → zz_H → Prop} {x1 : Int32} {s s' : mS} {v : Option Value} (hf : mf_259_54 N x1 s = some (s', v)) (k : Q v (mH h s')) : zz_E zp_P zt_tf zt_fd X (d + 1) zm_259 54 [(0, .ref 61), (1, .int x1)] [] (mH h s) Q := by
  unfold mf_259_54 at hf
  refine mb_259_54 hh  (fun c => ?_) (fun c => ?_)
  · rw [if_pos c] at hf
    exact mr_259_67 hh hf k
  · rw [if_neg c] at hf
    exact mr_259_61 hh hf k
def mf_259_48 (N : Nat) (x1 : Int32) (s : mS) : mO := if ¬ x1 = 62 then mf_259_104 N x1 s else mf_259_54 N x1 s
theorem mr_259_48 {X : Nat → Option zz_C} {h : zz_H} (hh : 111 ≤ h.length) {d : Nat} {N : Nat} {Q : Option Value → zz_H → Prop} {x1 : Int32} {s s' : mS} {v : Option Value} (hf : mf_259_48 N x1 s = some (s', v)) (k : Q v (mH h s')) : zz_E zp_P zt_tf zt_fd X (d + 1) zm_259 48 [(0, .ref 61), (1, .int x1)] [] (mH h s) Q := by
  unfold mf_259_48 at hf
  refine mb_259_48 hh  (fun c => ?_) (fun c => ?_)
  · rw [if_pos c] at hf
    exact mr_259_104 hh hf k
  · rw [if_neg c] at hf
    exact mr_259_54 hh hf k
def mf_259_42 (N : Nat) (x1 : Int32) (s : mS) : mO := if x1 = 60 then mf_259_54 N x1 s else mf_259_48 N x1 s
theorem mr_259_42 {X : Nat → Option zz_C} {h : zz_H} (hh : 111 ≤ h.length) {d : Nat} {N : Nat} {Q : Option Value → zz_H → Prop} {x1 : Int32} {s s' : mS} {v : Option Value} (hf : mf_259_42 N x1 s = some (s', v)) (k : Q v (mH h s')) : zz_E zp_P zt_tf zt_fd X (d + 1) zm_259 42 [(0, .ref 61), (1, .int x1)] [] (mH h s) Q := by
  unfold mf_259_42 at hf
  refine mb_259_42 hh  (fun c => ?_) (fun c => ?_)
  · rw [if_pos c] at hf
    exact mr_259_54 hh hf k
  · rw [if_neg c] at hf
    exact mr_259_48 hh hf k
def mf_259_36 (N : Nat) (x1 : Int32) (s : mS) : mO := if x1 = 33 then mf_259_54 N x1 s else mf_259_42 N x1 s
theorem mr_259_36 {X : Nat → Option zz_C} {h : zz_H} (hh : 111 ≤ h.length) {d : Nat} {N : Nat} {Q : Option Value → zz_H → Prop} {x1 : Int32} {s s' : mS} {v : Option Value} (hf : mf_259_36 N x1 s = some (s', v)) (k : Q v (mH h s')) : zz_E zp_P zt_tf zt_fd X (d + 1) zm_259 36 [(0, .ref 61), (1, .int x1)] [] (mH h s) Q := by
  unfold mf_259_36 at hf
  refine mb_259_36 hh  (fun c => ?_) (fun c => ?_)
  · rw [if_pos c] at hf
    exact mr_259_54 hh hf k
  · rw [if_neg c] at hf
    exact mr_259_42 hh hf k
def mf_259_30 (N : Nat) (x1 : Int32) (s : mS) : mO := if x1 = 61 then mf_259_54 N x1 s else mf_259_36 N x1 s
theorem mr_259_30 {X : Nat → Option zz_C} {h : zz_H} (hh : 111 ≤ h.length) {d : Nat} {N : Nat} {Q : Option Value → zz_H → Prop} {x1 : Int32} {s s' : mS} {v : Option Value} (hf : mf_259_30 N x1 s = some (s', v)) (k : Q v (mH h s')) : zz_E zp_P zt_tf zt_fd X (d + 1) zm_259 30 [(0, .ref 61), (1, .int x1)] [] (mH h s) Q := by
  unfold mf_259_30 at hf
  refine mb_259_30 hh  (fun c => ?_) (fun c => ?_)
  · rw [if_pos c] at hf
    exact mr_259_54 hh hf k
  · rw [if_neg c] at hf
    exact mr_259_36 hh hf k
def mf_259_25 (N : Nat) (x1 : Int32) (y0 : Int32) (s : mS) : mO := if y0 = 0 then mf_259_104 N x1 s else mf_259_30 N x1 s
theorem mr_259_25 {X : Nat → Option zz_C} {h : zz_H} (hh : 111 ≤ h.length) {d : Nat} {N : Nat} {Q : Option Value → zz_H → Prop} {x1 : Int32} {y0 : Int32} {s s' : mS} {v : Option Value} (hf : mf_259_25 N x1 y0 s = some (s', v)) (k : Q v (mH h s')) : zz_E zp_P zt_tf zt_fd X (d + 1) zm_259 25 [(0, .ref 61), (1, .int x1)] [.int y0] (mH h s) Q := by
  unfold mf_259_25 at hf
  refine mb_259_25 hh  (fun c => ?_) (fun c => ?_)
  · rw [if_pos c] at hf
    exact mr_259_104 hh hf k
  · rw [if_neg c] at hf
    exact mr_259_30 hh hf k
def mf_259_24 (N : Nat) (x1 : Int32) (s : mS) : mO := mf_259_25 N x1 0 s
theorem mr_259_24 {X : Nat → Option zz_C} {h : zz_H} (hh : 111 ≤ h.length) {d : Nat} {N : Nat} {Q : Option Value → zz_H → Prop} {x1 : Int32} {s s' : mS} {v : Option Value} (hf : mf_259_24 N x1 s = some (s', v)) (k : Q v (mH h s')) : zz_E zp_P zt_tf zt_fd X (d + 1) zm_259 24 [(0, .ref 61), (1, .int x1)] [] (mH h s) Q := by
  unfold mf_259_24 at hf
  exact mb_259_24 hh  (mr_259_25 hh hf k)
def mf_259_20 (N : Nat) (x1 : Int32) (s : mS) : mO := mf_259_25 N x1 1 s
theorem mr_259_20 {X : Nat → Option zz_C} {h : zz_H} (hh : 111 ≤ h.length) {d : Nat} {N : Nat} {Q : Option Value → zz_H → Prop} {x1 : Int32} {s s' : mS} {v : Option Value} (hf : mf_259_20 N x1 s = some (s', v)) (k : Q v (mH h s')) : zz_E zp_P zt_tf zt_fd X (d + 1) zm_259 20 [(0, .ref 61), (1, .int x1)] [] (mH h s) Q := by
  unfold mf_259_20 at hf
  exact mb_259_20 hh  (mr_259_25 hh hf k)
def mf_259_15 (N : Nat) (x1 : Int32) (y0 : Int32) (s : mS) : mO := if ¬ y0 = 61 then mf_259_24 N x1 s else mf_259_20 N x1 s
theorem mr_259_15 {X : Nat → Option zz_C} {h : zz_H} (hh : 111 ≤ h.length) {d : Nat} {N : Nat} {Q : Option Value → zz_H → Prop} {x1 : Int32} {y0 : Int32} {s s' : mS} {v : Option Value} (hf : mf_259_15 N x1 y0 s = some (s', v)) (k : Q v (mH h s')) : zz_E zp_P zt_tf zt_fd X (d + 1) zm_259 15 [(0, .ref 61), (1, .int x1)] [.int y0] (mH h s) Q := by
  unfold mf_259_15 at hf
  refine mb_259_15 hh  (fun c => ?_) (fun c => ?_)
  · rw [if_pos c] at hf
    exact mr_259_24 hh hf k
  · rw [if_neg c] at hf
    exact mr_259_20 hh hf k
def mf_259_0 (N : Nat) (x1 : Int32) (s : mS) : mO := mo_bi (mf_62 N ((s.1 6) + 1) (mI s 5 3)) (fun s1 y => mf_259_15 N x1 y s1)
theorem mr_259_0 {X : Nat → Option zz_C} {h : zz_H} (hh : 111 ≤ h.length) {d : Nat} {N : Nat} {Q : Option Value → zz_H → Prop} {x1 : Int32} {s s' : mS} {v : Option Value} (hf : mf_259_0 N x1 s = some (s', v)) (k : Q v (mH h s')) : zz_E zp_P zt_tf zt_fd X (d + 1) zm_259 0 [(0, .ref 61), (1, .int x1)] [] (mH h s) Q := by
  unfold mf_259_0 at hf
  obtain ⟨s1, y, e, hf⟩ := mo_bi_ok hf
  exact mb_259_0 (d := d + 0) hh  (mr_62 (d := d + 0) hh e (mr_259_15 hh hf k))
/-- signAt -/
def mf_259 (N : Nat) (x1 : Int32) (s : mS) : mO := mf_259_0 N x1 s
theorem mr_259 {X : Nat → Option zz_C} {h : zz_H} (hh : 111 ≤ h.length) {d : Nat} {N : Nat} {Q : Option Value → zz_H → Prop} {x1 : Int32} {s s' : mS} {v : Option Value} (hf : mf_259 N x1 s = some (s', v)) (k : Q v (mH h s')) : zz_E zp_P zt_tf zt_fd X (d + 1) zm_259 0 [(0, .ref 61), (1, .int x1)] [] (mH h s) Q := by
  unfold mf_259 at hf
  exact zz_E.weak (mr_259_0 hh hf k) rfl ⟨rfl, rfl, trivial⟩
/-! begin (I)I -/
theorem mb_61_0 {X : Nat → Option zz_C} {h : zz_H} (hh : 111 ≤ h.length) {s : mS} {d : Nat} {Q : Option Value → zz_H → Prop} {x1 : Int32} (k : zz_E zp_P zt_tf zt_fd X d zm_61 4 [(0, .ref 61), (2, .int x1), (3, .int 1)] [] (mH h s) Q) : zz_E zp_P zt_tf zt_fd X d zm_61 0 [(0, .ref 61), (1, .int x1)] [] (mH h s) Q := by
  refine zz_E.n 1 rfl rfl rfl ?_
  refine zz_E.n 2 rfl rfl rfl ?_
  refine zz_E.c 3 (.int 1) rfl rfl rfl rfl ?_
  refine zz_E.n 4 rfl rfl rfl ?_
  exact zz_E.weak k rfl ⟨rfl, rfl, rfl, trivial⟩
theorem mb_61_4 {X : Nat → Option zz_C} {h : zz_H} (hh : 111 ≤ h.length) {s : mS} {d : Nat} {Q : Option Value → zz_H → Prop} {x2 : Int32} {x3 : Int32} (k1 : x3 = 0 → zz_E zp_P zt_tf zt_fd X d zm_61 79 [(2, .int x2)] [] (mH h s) Q) (k2 : ¬ x3 = 0 → zz_E zp_P zt_tf zt_fd X d zm_61 8 [(0, .ref 61), (2, .int x2), (3, .int x3)] [] (mH h s) Q) : zz_E zp_P zt_tf zt_fd X d zm_61 4 [(0, .ref 61), (2, .int x2), (3, .int x3)] [] (mH h s) Q := by
  refine zz_E.n 5 rfl rfl rfl ?_
  refine zz_E.b1 79 8 (A := x3 = 0) rfl rfl (by decide) rfl rfl (fun c => ?_) (fun c => ?_)
  · exact zz_E.weak (k1 c) rfl ⟨rfl, trivial⟩
  · exact zz_E.weak (k2 c) rfl ⟨rfl, rfl, rfl, trivial⟩
theorem mb_61_8 {X : Nat → Option zz_C} {h : zz_H} (hh : 111 ≤ h.length) {s : mS} {d : Nat} {Q : Option Value → zz_H → Prop} {x2 : Int32} {x3 : Int32} (k1 : (s.1 4) ≤ x2 → zz_E zp_P zt_tf zt_fd X d zm_61 79 [(2, .int x2)] [] (mH h s) Q) (k2 : ¬ (s.1 4) ≤ x2 → zz_E zp_P zt_tf zt_fd X d zm_61 16 [(0, .ref 61), (2, .int x2), (3, .int x3)] [] (mH h s) Q) : zz_E zp_P zt_tf zt_fd X d zm_61 8 [(0, .ref 61), (2, .int x2), (3, .int x3)] [] (mH h s) Q := by
  refine zz_E.n 9 rfl rfl rfl ?_
  refine zz_E.n 10 rfl rfl rfl ?_
  refine mE_g hh 13 (v := .int (s.1 4)) rfl rfl rfl ?_
  refine zz_E.b2 79 16 (A := (s.1 4) ≤ x2) rfl rfl (by decide) rfl rfl (fun c => ?_) (fun c => ?_)
  · exact zz_E.weak (k1 c) rfl ⟨rfl, trivial⟩
  · exact zz_E.weak (k2 c) rfl ⟨rfl, rfl, rfl, trivial⟩
theorem mb_61_16 {X : Nat → Option zz_C} {h : zz_H} (hh : 111 ≤ h.length) {s : mS} {d : Nat} {Q : Option Value → zz_H → Prop} {x2 : Int32} {x3 : Int32} (k : zz_E zp_P zt_tf zt_fd X d zm_62 0 [(0, .ref 61), (1, .int x2)] [] (mH h s) (fun v h' => zz_E zp_P zt_tf zt_fd X (d + 1) zm_61 21 [(0, .ref 61), (2, .int x2), (3, .int x3)] (v.toList ++ []) h' Q)) : zz_E zp_P zt_tf zt_fd X (d + 1) zm_61 16 [(0, .ref 61), (2, .int x2), (3, .int x3)] [] (mH h s) Q := by
  refine zz_E.n 17 rfl rfl rfl ?_
  refine zz_E.n 18 rfl rfl rfl ?_
  refine mE_cv hh 21 (as := []) rfl rfl (Nat.le_of_ble_eq_true rfl) (Nat.le_of_ble_eq_true rfl) rfl (Nat.le_of_ble_eq_true rfl) rfl ?_
  refine zz_E.mono k ?_
  intro v h' hE
  exact zz_E.weak hE rfl ⟨rfl, rfl, rfl, trivial⟩
theorem mb_61_21 {X : Nat → Option zz_C} {h : zz_H} (hh : 111 ≤ h.length) {s : mS} {d : Nat} {Q : Option Value → zz_H → Prop} {x2 : Int32} {x3 : Int32} {y0 : Int32} (k1 : ¬ y0 = 35 → zz_E zp_P zt_tf zt_fd X d zm_61 54 [(0, .ref 61), (2, .int x2), (3, .int x3), (4, .int y0)] [] (mH h s) Q) (k2 : ¬ ¬ y0 = 35 → zz_E zp_P zt_tf zt_fd X d zm_61 30 [(0, .ref 61), (2, .int x2), (3, .int x3)] [] (mH h s) Q) : zz_E zp_P zt_tf zt_fd X d zm_61 21 [(0, .ref 61), (2, .int x2), (3, .int x3)] [.int y0] (mH h s) Q := by
  refine zz_E.n 23 rfl rfl rfl ?_
  refine zz_E.n 25 rfl rfl rfl ?_
  refine zz_E.c 27 (.int 35) rfl rfl rfl rfl ?_
  refine zz_E.b2 54 30 (A := ¬ y0 = 35) rfl (zz_cond_ne _ _) (by decide) rfl rfl (fun c => ?_) (fun c => ?_)
  · exact zz_E.weak (k1 c) rfl ⟨rfl, rfl, rfl, rfl, trivial⟩
  · exact zz_E.weak (k2 c) rfl ⟨rfl, rfl, rfl, trivial⟩
theorem mb_61_30 {X : Nat → Option zz_C} {h : zz_H} (hh : 111 ≤ h.length) {s : mS} {d : Nat} {Q : Option Value → zz_H → Prop} {x2 : Int32} {x3 : Int32} (k1 : (s.1 4) ≤ x2 → zz_E zp_P zt_tf zt_fd X d zm_61 76 [(0, .ref 61), (2, .int x2), (3, .int x3)] [] (mH h s) Q) (k2 : ¬ (s.1 4) ≤ x2 → zz_E zp_P zt_tf zt_fd X d zm_61 38 [(0, .ref 61), (2, .int x2), (3, .int x3)] [] (mH h s) Q) : zz_E zp_P zt_tf zt_fd X d zm_61 30 [(0, .ref 61), (2, .int x2), (3, .int x3)] [] (mH h s) Q := by
  refine zz_E.n 31 rfl rfl rfl ?_
  refine zz_E.n 32 rfl rfl rfl ?_
  refine mE_g hh 35 (v := .int (s.1 4)) rfl rfl rfl ?_
  refine zz_E.b2 76 38 (A := (s.1 4) ≤ x2) rfl rfl (by decide) rfl rfl (fun c => ?_) (fun c => ?_)
  · exact zz_E.weak (k1 c) rfl ⟨rfl, rfl, rfl, trivial⟩
  · exact zz_E.weak (k2 c) rfl ⟨rfl, rfl, rfl, trivial⟩
theorem mb_61_38 {X : Nat → Option zz_C} {h : zz_H} (hh : 111 ≤ h.length) {s : mS} {d : Nat} {Q : Option Value → zz_H → Prop} {x2 : Int32} {x3 : Int32} (k : zz_E zp_P zt_tf zt_fd X d zm_62 0 [(0, .ref 61), (1, .int x2)] [] (mH h s) (fun v h' => zz_E zp_P zt_tf zt_fd X (d + 1) zm_61 43 [(0, .ref 61), (2, .int x2), (3, .int x3)] (v.toList ++ []) h' Q)) : zz_E zp_P zt_tf zt_fd X (d + 1) zm_61 38 [(0, .ref 61), (2, .int x2), (3, .int x3)] [] (mH h s) Q := by
  refine zz_E.n 39 rfl rfl rfl ?_
  refine zz_E.n 40 rfl rfl rfl ?_
  refine mE_cv hh 43 (as := []) rfl rfl (Nat.le_of_ble_eq_true rfl) (Nat.le_of_ble_eq_true rfl) rfl (Nat.le_of_ble_eq_true rfl) rfl ?_
  refine zz_E.mono k ?_
  intro v h' hE
  exact zz_E.weak hE rfl ⟨rfl, rfl, rfl, trivial⟩
theorem mb_61_43 {X : Nat → Option zz_C} {h : zz_H} (hh : 111 ≤ h.length) {s : mS} {d : Nat} {Q : Option Value → zz_H → Prop} {x2 : Int32} {x3 : Int32} {y0 : Int32} (k1 : y0 = 10 → zz_E zp_P zt_tf zt_fd X d zm_61 76 [(0, .ref 61), (2, .int x2), (3, .int x3)] [] (mH h s) Q) (k2 : ¬ y0 = 10 → zz_E zp_P zt_tf zt_fd X d zm_61 48 [(0, .ref 61), (2, .int x2), (3, .int x3)] [] (mH h s) Q) : zz_E zp_P zt_tf zt_fd X d zm_61 43 [(0, .ref 61), (2, .int x2), (3, .int x3)] [.int y0] (mH h s) Q := by
  refine zz_E.c 45 (.int 10) rfl rfl rfl rfl ?_
  refine zz_E.b2 76 48 (A := y0 = 10) rfl rfl (by decide) rfl rfl (fun c => ?_) (fun c => ?_)
  · exact zz_E.weak (k1 c) rfl ⟨rfl, rfl, rfl, trivial⟩
  · exact zz_E.weak (k2 c) rfl ⟨rfl, rfl, rfl, trivial⟩
theorem mb_61_48 {X : Nat → Option zz_C} {h : zz_H} (hh : 111 ≤ h.length) {s : mS} {d : Nat} {Q : Option Value → zz_H → Prop} {x2 : Int32} {x3 : Int32} (k : zz_E zp_P zt_tf zt_fd X d zm_61 30 [(0, .ref 61), (2, .int (x2 + 1)), (3, .int x3)] [] (mH h s) Q) : zz_E zp_P zt_tf zt_fd X d zm_61 48 [(0, .ref 61), (2, .int x2), (3, .int x3)] [] (mH h s) Q := by
  refine zz_E.n 51 rfl rfl rfl ?_
  refine zz_E.n 30 rfl rfl rfl ?_
  exact zz_E.weak k rfl ⟨rfl, rfl, rfl, trivial⟩
theorem mb_61_54 {X : Nat → Option zz_C} {h : zz_H} (hh : 111 ≤ h.length) {s : mS} {d : Nat} {Q : Option Value → zz_H → Prop} {x2 : Int32} {x3 : Int32} {x4 : Int32} (k1 : x4 = 32 → zz_E zp_P zt_tf zt_fd X d zm_61 68 [(0, .ref 61), (2, .int x2), (3, .int x3)] [] (mH h s) Q) (k2 : ¬ x4 = 32 → zz_E zp_P zt_tf zt_fd X d zm_61 61 [(0, .ref 61), (2, .int x2), (3, .int x3), (4, .int x4)] [] (mH h s) Q) : zz_E zp_P zt_tf zt_fd X d zm_61 54 [(0, .ref 61), (2, .int x2), (3, .int x3), (4, .int x4)] [] (mH h s) Q := by
  refine zz_E.n 56 rfl rfl rfl ?_
  refine zz_E.c 58 (.int 32) rfl rfl rfl rfl ?_
  refine zz_E.b2 68 61 (A := x4 = 32) rfl rfl (by decide) rfl rfl (fun c => ?_) (fun c => ?_)
  · exact zz_E.weak (k1 c) rfl ⟨rfl, rfl, rfl, trivial⟩
  · exact zz_E.weak (k2 c) rfl ⟨rfl, rfl, rfl, rfl, trivial⟩
theorem mb_61_61 {X : Nat → Option zz_C} {h : zz_H} (hh : 111 ≤ h.length) {s : mS} {d : Nat} {Q : Option Value → zz_H → Prop} {x2 : Int32} {x3 : Int32} {x4 : Int32} (k1 : ¬ x4 = 10 → zz_E zp_P zt_tf zt_fd X d zm_61 74 [(0, .ref 61), (2, .int x2)] [] (mH h s) Q) (k2 : ¬ ¬ x4 = 10 → zz_E zp_P zt_tf zt_fd X d zm_61 68 [(0, .ref 61), (2, .int x2), (3, .int x3)] [] (mH h s) Q) : zz_E zp_P zt_tf zt_fd X d zm_61 61 [(0, .ref 61), (2, .int x2), (3, .int x3), (4, .int x4)] [] (mH h s) Q := by
  refine zz_E.n 63 rfl rfl rfl ?_
  refine zz_E.c 65 (.int 10) rfl rfl rfl rfl ?_
  refine zz_E.b2 74 68 (A := ¬ x4 = 10) rfl (zz_cond_ne _ _) (by decide) rfl rfl (fun c => ?_) (fun c => ?_)
  · exact zz_E.weak (k1 c) rfl ⟨rfl, rfl, trivial⟩
  · exact zz_E.weak (k2 c) rfl ⟨rfl, rfl, rfl, trivial⟩
theorem mb_61_68 {X : Nat → Option zz_C} {h : zz_H} (hh : 111 ≤ h.length) {s : mS} {d : Nat} {Q : Option Value → zz_H → Prop} {x2 : Int32} {x3 : Int32} (k : zz_E zp_P zt_tf zt_fd X d zm_61 76 [(0, .ref 61), (2, .int (x2 + 1)), (3, .int x3)] [] (mH h s) Q) : zz_E zp_P zt_tf zt_fd X d zm_61 68 [(0, .ref 61), (2, .int x2), (3, .int x3)] [] (mH h s) Q := by
  refine zz_E.n 71 rfl rfl rfl ?_
  refine zz_E.n 76 rfl rfl rfl ?_
  exact zz_E.weak k rfl ⟨rfl, rfl, rfl, trivial⟩
theorem mb_61_74 {X : Nat → Option zz_C} {h : zz_H} (hh : 111 ≤ h.length) {s : mS} {d : Nat} {Q : Option Value → zz_H → Prop} {x2 : Int32} (k : zz_E zp_P zt_tf zt_fd X d zm_61 76 [(0, .ref 61), (2, .int x2), (3, .int 0)] [] (mH h s) Q) : zz_E zp_P zt_tf zt_fd X d zm_61 74 [(0, .ref 61), (2, .int x2)] [] (mH h s) Q := by
  refine zz_E.c 75 (.int 0) rfl rfl rfl rfl ?_
  refine zz_E.n 76 rfl rfl rfl ?_
  exact zz_E.weak k rfl ⟨rfl, rfl, rfl, trivial⟩
theorem mb_61_76 {X : Nat → Option zz_C} {h : zz_H} (hh : 111 ≤ h.length) {s : mS} {d : Nat} {Q : Option Value → zz_H → Prop} {x2 : Int32} {x3 : Int32} (k : zz_E zp_P zt_tf zt_fd X d zm_61 4 [(0, .ref 61), (2, .int x2), (3, .int x3)] [] (mH h s) Q) : zz_E zp_P zt_tf zt_fd X d zm_61 76 [(0, .ref 61), (2, .int x2), (3, .int x3)] [] (mH h s) Q := by
  refine zz_E.n 4 rfl rfl rfl ?_
  exact zz_E.weak k rfl ⟨rfl, rfl, rfl, trivial⟩
theorem mb_61_79 {X : Nat → Option zz_C} {h : zz_H} (hh : 111 ≤ h.length) {s : mS} {d : Nat} {Q : Option Value → zz_H → Prop} {x2 : Int32} (k : Q (some (.int x2)) (mH h s)) : zz_E zp_P zt_tf zt_fd X d zm_61 79 [(2, .int x2)] [] (mH h s) Q := by
  refine zz_E.n 80 rfl rfl rfl ?_
  refine zz_E.ret rfl rfl rfl ?_
  exact k
def mf_61_79 (N : Nat) (x2 : Int32) (s : mS) : mO := some (s, (some (.int x2)))
theorem mr_61_79 {X : Nat → Option zz_C} {h : zz_H} (hh : 111 ≤ h.length) {d : Nat} {N : Nat} {Q : Option Value → zz_H → Prop} {x2 : Int32} {s s' : mS} {v : Option Value} (hf : mf_61_79 N x2 s = some (s', v)) (k : Q v (mH h s')) : zz_E zp_P zt_tf zt_fd X (d + 1) zm_61 79 [(2, .int x2)] [] (mH h s) Q := by
  unfold mf_61_79 at hf
  cases hf
  exact mb_61_79 hh  k
def mf_61_48 (N : Nat) (rc : Nat → Int32 → Int32 → mS → mO) (x2 : Int32) (x3 : Int32) (s : mS) : mO := rc 1 (x2 + 1) x3 s
theorem mr_61_48 {X : Nat → Option zz_C} {h : zz_H} (hh : 111 ≤ h.length) {d : Nat} {N : Nat} {rc : Nat → Int32 → Int32 → mS → mO} (hrc0 : ∀ {Q : Option Value → zz_H → Prop} {x2 : Int32} {x3 : Int32} {s s' : mS} {v : Option Value}, rc 0 x2 x3 s = some (s', v) → Q v (mH h s') → zz_E zp_P zt_tf zt_fd X (d + 1) zm_61 4 [(0, .ref 61), (2, .int x2), (3, .int x3)] [] (mH h s) Q) (hrc1 : ∀ {Q : Option Value → zz_H → Prop} {x2 : Int32} {x3 : Int32} {s s' : mS} {v : Option Value}, rc 1 x2 x3 s = some (s', v) → Q v (mH h s') → zz_E zp_P zt_tf zt_fd X (d + 1) zm_61 30 [(0, .ref 61), (2, .int x2), (3, .int x3)] [] (mH h s) Q) {Q : Option Value → zz_H → Prop} {x2 : Int32} {x3 : Int32} {s s' : mS} {v : Option Value} (hf : mf_61_48 N rc x2 x3 s = some (s', v)) (k : Q v (mH h s')) : zz_E zp_P zt_tf zt_fd X (d + 1) zm_61 48 [(0, .ref 61), (2, .int x2), (3, .int x3)] [] (mH h s) Q := by
  unfold mf_61_48 at hf
  exact mb_61_48 hh  (hrc1 hf k)
def mf_61_76 (N : Nat) (rc : Nat → Int32 → Int32 → mS → mO) (x2 : Int32) (x3 : Int32) (s : mS) : mO := rc 0 x2 x3 s
theorem mr_61_76 {X : Nat → Option zz_C} {h : zz_H} (hh : 111 ≤ h.length) {d : Nat} {N : Nat} {rc : Nat → Int32 → Int32 → mS → mO} (hrc0 : ∀ {Q : Option Value → zz_H → Prop} {x2 : Int32} {x3 : Int32} {s s' : mS} {v : Option Value}, rc 0 x2 x3 s = some (s', v) → Q v (mH h s') → zz_E zp_P zt_tf zt_fd X (d + 1) zm_61 4 [(0, .ref 61), (2, .int x2), (3, .int x3)] [] (mH h s) Q) (hrc1 : ∀ {Q : Option Value → zz_H → Prop} {x2 : Int32} {x3 : Int32} {s s' : mS} {v : Option Value}, rc 1 x2 x3 s = some (s', v) → Q v (mH h s') → zz_E zp_P zt_tf zt_fd X (d + 1) zm_61 30 [(0, .ref 61), (2, .int x2), (3, .int x3)] [] (mH h s) Q) {Q : Option Value → zz_H → Prop} {x2 : Int32} {x3 : Int32} {s s' : mS} {v : Option Value} (hf : mf_61_76 N rc x2 x3 s = some (s', v)) (k : Q v (mH h s')) : zz_E zp_P zt_tf zt_fd X (d + 1) zm_61 76 [(0, .ref 61), (2, .int x2), (3, .int x3)] [] (mH h s) Q := by
  unfold mf_61_76 at hf
  exact mb_61_76 hh  (hrc0 hf k)
def mf_61_43 (N : Nat) (rc : Nat → Int32 → Int32 → mS → mO) (x2 : Int32) (x3 : Int32) (y0 : Int32) (s : mS) : mO := if y0 = 10 then mf_61_76 N rc x2 x3 s else mf_61_48 N rc x2 x3 s
theorem mr_61_43 {X : Nat → Option zz_C} {h : zz_H} (hh : 111 ≤ h.length) {d : Nat} {N : Nat} {rc : Nat → Int32 → Int32 → mS → mO} (hrc0 : ∀ {Q : Option Value → zz_H → Prop} {x2 : Int32} {x3 : Int32} {s s' : mS} {v : Option Value}, rc 0 x2 x3 s = some (s', v) → Q v (mH h s') → zz_E zp_P zt_tf zt_fd X (d + 1) zm_61 4 [(0, .ref 61), (2, .int x2), (3, .int x3)] [] (mH h s) Q) (hrc1 : ∀ {Q : Option Value → zz_H → Prop} {x2 : Int32} {x3 : Int32} {s s' : mS} {v : Option Value}, rc 1 x2 x3 s = some (s', v) → Q v (mH h s') → zz_E zp_P zt_tf zt_fd X (d + 1) zm_61 30 [(0, .ref 61), (2, .int x2), (3, .int x3)] [] (mH h s) Q) {Q : Option Value → zz_H → Prop} {x2 : Int32} {x3 : Int32} {y0 : Int32} {s s' : mS} {v : Option Value} (hf : mf_61_43 N rc x2 x3 y0 s = some (s', v)) (k : Q v (mH h s')) : zz_E zp_P zt_tf zt_fd X (d + 1) zm_61 43 [(0, .ref 61), (2, .int x2), (3, .int x3)] [.int y0] (mH h s) Q := by
  unfold mf_61_43 at hf
  refine mb_61_43 hh  (fun c => ?_) (fun c => ?_)
  · rw [if_pos c] at hf
    exact mr_61_76 hh hrc0 hrc1 hf k
  · rw [if_neg c] at hf
    exact mr_61_48 hh hrc0 hrc1 hf k
def mf_61_38 (N : Nat) (rc : Nat → Int32 → Int32 → mS → mO) (x2 : Int32) (x3 : Int32) (s : mS) : mO := mo_bi (mf_62 N x2 s) (fun s1 y => mf_61_43 N rc x2 x3 y s1)
theorem mr_61_38 {X : Nat → Option zz_C} {h : zz_H} (hh : 111 ≤ h.length) {d : Nat} {N : Nat} {rc : Nat → Int32 → Int32 → mS → mO} (hrc0 : ∀ {Q : Option Value → zz_H → Prop} {x2 : Int32} {x3 : Int32} {s s' : mS} {v : Option Value}, rc 0 x2 x3 s = some (s', v) → Q v (mH h s') → zz_E zp_P zt_tf zt_fd X (d + 1) zm_61 4 [(0, .ref 61), (2, .int x2), (3, .int x3)] [] (mH h s) Q) (hrc1 : ∀ {Q : Option Value → zz_H → Prop} {x2 : Int32} {x3 : Int32} {s s' : mS} {v : Option Value}, rc 1 x2 x3 s = some (s', v) → Q v (mH h s') → zz_E zp_P zt_tf zt_fd X (d + 1) zm_61 30 [(0, .ref 61), (2, .int x2), (3, .int x3)] [] (mH h s) Q) {Q : Option Value → zz_H → Prop} {x2 : Int32} {x3 : Int32} {s s' : mS} {v : Option Value} (hf : mf_61_38 N rc x2 x3 s = some (s', v)) (k : Q v (mH h s')) : zz_E zp_P zt_tf zt_fd X (d + 1) zm_61 38 [(0, .ref 61), (2, .int x2), (3, .int x3)] [] (mH h s) Q := by
  unfold mf_61_38 at hf
  obtain ⟨s1, y, e, hf⟩ := mo_bi_ok hf
  exact mb_61_38 (d := d + 0) hh  (mr_62 (d := d + 0) hh e (mr_61_43 hh hrc0 hrc1 hf k))
def mf_61_30 (N : Nat) (rc : Nat → Int32 → Int32 → mS → mO) (x2 : Int32) (x3 : Int32) (s : mS) : mO := if (s.1 4) ≤ x2 then mf_61_76 N rc x2 x3 s else mf_61_38 N rc x2 x3 s
theorem mr_61_30 {X : Nat → Option zz_C} {h : zz_H} (hh : 111 ≤ h.length) {d : Nat} {N : Nat} {rc : Nat → Int32 → Int32 → mS → mO} (hrc0 : ∀ {Q : Option Value → zz_H → Prop} {x2 : Int32} {x3 : Int32} {s s' : mS} {v : Option Value}, rc 0 x2 x3 s = some (s', v) → Q v (mH h s') → zz_E zp_P zt_tf zt_fd X (d + 1) zm_61 4 [(0, .ref 61), (2, .int x2), (3, .int x3)] [] (mH h s) Q) (hrc1 : ∀ {Q : Option Value → zz_H → Prop} {x2 : Int32} {x3 : Int32} {s s' : mS} {v : Option Value}, rc 1 x2 x3 s = some (s', v) → Q v (mH h s') → zz_E zp_P zt_tf zt_fd X (d + 1) zm_61 30 [(0, .ref 61), (2, .int x2), (3, .int x3)] [] (mH h s) Q) {Q : Option Value → zz_H → Prop} {x2 : Int32} {x3 : Int32} {s s' : mS} {v : Option Value} (hf : mf_61_30 N rc x2 x3 s = some (s', v)) (k : Q v (mH h s')) : zz_E zp_P zt_tf zt_fd X (d + 1) zm_61 30 [(0, .ref 61), (2, .int x2), (3, .int x3)] [] (mH h s) Q := by
  unfold mf_61_30 at hf
  refine mb_61_30 hh  (fun c => ?_) (fun c => ?_)
  · rw [if_pos c] at hf
    exact mr_61_76 hh hrc0 hrc1 hf k
  · rw [if_neg c] at hf
    exact mr_61_38 hh hrc0 hrc1 hf k
def mf_61_74 (N : Nat) (rc : Nat → Int32 → Int32 → mS → mO) (x2 : Int32) (s : mS) : mO := mf_61_76 N rc x2 0 s
theorem mr_61_74 {X : Nat → Option zz_C} {h : zz_H} (hh : 111 ≤ h.length) {d : Nat} {N : Nat} {rc : Nat → Int32 → Int32 → mS → mO} (hrc0 : ∀ {Q : Option Value → zz_H → Prop} {x2 : Int32} {x3 : Int32} {s s' : mS} {v : Option Value}, rc 0 x2 x3 s = some (s', v) → Q v (mH h s') → zz_E zp_P zt_tf zt_fd X (d + 1) zm_61 4 [(0, .ref 61), (2, .int x2), (3, .int x3)] [] (mH h s) Q) (hrc1 : ∀ {Q : Option Value → zz_H → Prop} {x2 : Int32} {x3 : Int32} {s s' : mS} {v : Option Value}, rc 1 x2 x3 s = some (s', v) → Q v (mH h s') → zz_E zp_P zt_tf zt_fd X (d + 1) zm_61 30 [(0, .ref 61), (2, .int x2), (3, .int x3)] [] (mH h s) Q) {Q : Option Value → zz_H → Prop} {x2 : Int32} {s s' : mS} {v : Option Value} (hf : mf_61_74 N rc x2 s = some (s', v)) (k : Q v (mH h s')) : zz_E zp_P zt_tf zt_fd X (d + 1) zm_61 74 [(0, .ref 61), (2, .int x2)] [] (mH h s) Q := by
  unfold mf_61_74 at hf
  exact mb_61_74 hh  (mr_61_76 hh hrc0 hrc1 hf k)
def mf_61_68 (N : Nat) (rc : Nat → Int32 → Int32 → mS → mO) (x2 : Int32) (x3 : Int32) (s : mS) : mO := mf_61_76 N rc (x2 + 1) x3 s
theorem mr_61_68 {X : Nat → Option zz_C} {h : zz_H} (hh : 111 ≤ h.length) {d : Nat} {N : Nat} {rc : Nat → Int32 → Int32 → mS → mO} (hrc0 : ∀ {Q : Option Value → zz_H → Prop} {x2 : Int32} {x3 : Int32} {s s' : mS} {v : Option Value}, rc 0 x2 x3 s = some (s', v) → Q v (mH h s') → zz_E zp_P zt_tf zt_fd X (d + 1) zm_61 4 [(0, .ref 61), (2, .int x2), (3, .int x3)] [] (mH h s) Q) (hrc1 : ∀ {Q : Option Value → zz_H → Prop} {x2 : Int32} {x3 : Int32} {s s' : mS} {v : Option Value}, rc 1 x2 x3 s = some (s', v) → Q v (mH h s') → zz_E zp_P zt_tf zt_fd X (d + 1) zm_61 30 [(0, .ref 61), (2, .int x2), (3, .int x3)] [] (mH h s) Q) {Q : Option Value → zz_H → Prop} {x2 : Int32} {x3 : Int32} {s s' : mS} {v : Option Value} (hf : mf_61_68 N rc x2 x3 s = some (s', v)) (k : Q v (mH h s')) : zz_E zp_P zt_tf zt_fd X (d + 1) zm_61 68 [(0, .ref 61), (2, .int x2), (3, .int x3)] [] (mH h s) Q := by
  unfold mf_61_68 at hf
  exact mb_61_68 hh  (mr_61_76 hh hrc0 hrc1 hf k)
def mf_61_61 (N : Nat) (rc : Nat → Int32 → Int32 → mS → mO) (x2 : Int32) (x3 : Int32) (x4 : Int32) (s : mS) : mO := if ¬ x4 = 10 then mf_61_74 N rc x2 s else mf_61_68 N rc x2 x3 s
theorem mr_61_61 {X : Nat → Option zz_C} {h : zz_H} (hh : 111 ≤ h.length) {d : Nat} {N : Nat} {rc : Nat → Int32 → Int32 → mS → mO} (hrc0 : ∀ {Q : Option Value → zz_H → Prop} {x2 : Int32} {x3 : Int32} {s s' : mS} {v : Option Value}, rc 0 x2 x3 s = some (s', v) → Q v (mH h s') → zz_E zp_P zt_tf zt_fd X (d + 1) zm_61 4 [(0, .ref 61), (2, .int x2), (3, .int x3)] [] (mH h s) Q) (hrc1 : ∀ {Q : Option Value → zz_H → Prop} {x2 : Int32} {x3 : Int32} {s s' : mS} {v : Option Value}, rc 1 x2 x3 s = some (s', v) → Q v (mH h s') → zz_E zp_P zt_tf zt_fd X (d + 1) zm_61 30 [(0, .ref 61), (2, .int x2), (3, .int x3)] [] (mH h s) Q) {Q : Option Value → zz_H → Prop} {x2 : Int32} {x3 : Int32} {x4 : Int32} {s s' : mS} {v : Option Value} (hf : mf_61_61 N rc x2 x3 x4 s = some (s', v)) (k : Q v (mH h s')) : zz_E zp_P zt_tf zt_fd X (d + 1) zm_61 61 [(0, .ref 61), (2, .int x2), (3, .int x3), (4, .int x4)] [] (mH h s) Q := by
  unfold mf_61_61 at hf
  refine mb_61_61 hh  (fun c => ?_) (fun c => ?_)
  · rw [if_pos c] at hf
    exact mr_61_74 hh hrc0 hrc1 hf k
  · rw [if_neg c] at hf
    exact mr_61_68 hh hrc0 hrc1 hf k
def mf_61_54 (N : Nat) (rc : Nat → Int32 → Int32 → mS → mO) (x2 : Int32) (x3 : Int32) (x4 : Int32) (s : mS) : mO := if x4 = 32 then mf_61_68 N rc x2 x3 s else mf_61_61 N rc x2 x3 x4 s
theorem mr_61_54 {X : Nat → Option zz_C} {h : zz_H} (hh : 111 ≤ h.length) {d : Nat} {N : Nat} {rc : Nat → Int32 → Int32 → mS → mO} (hrc0 : ∀ {Q : Option Value → zz_H → Prop} {x2 : Int32} {x3 : Int32} {s s' : mS} {v : Option Value}, rc 0 x2 x3 s = some (s', v) → Q v (mH h s') → zz_E zp_P zt_tf zt_fd X (d + 1) zm_61 4 [(0, .ref 61), (2, .int x2), (3, .int x3)] [] (mH h s) Q) (hrc1 : ∀ {Q : Option Value → zz_H → Prop} {x2 : Int32} {x3 : Int32} {s s' : mS} {v : Option Value}, rc 1 x2 x3 s = some (s', v) → Q v (mH h s') → zz_E zp_P zt_tf zt_fd X (d + 1) zm_61 30 [(0, .ref 61), (2, .int x2), (3, .int x3)] [] (mH h s) Q) {Q : Option Value → zz_H → Prop} {x2 : Int32} {x3 : Int32} {x4 : Int32} {s s' : mS} {v : Option Value} (hf : mf_61_54 N rc x2 x3 x4 s = some (s', v)) (k : Q v (mH h s')) : zz_E zp_P zt_tf zt_fd X (d + 1) zm_61 54 [(0, .ref 61), (2, .int x2), (3, .int x3), (4, .int x4)] [] (mH h s) Q := by
  unfold mf_61_54 at hf
  refine mb_61_54 hh  (fun c => ?_) (fun c => ?_)
  · rw [if_pos c] at hf
    exact mr_61_68 hh hrc0 hrc1 hf k
  · rw [if_neg c] at hf
    exact mr_61_61 hh hrc0 hrc1 hf k
def mf_61_21 (N : Nat) (rc : Nat → Int32 → Int32 → mS → mO) (x2 : Int32) (x3 : Int32) (y0 : Int32) (s : mS) : mO := if ¬ y0 = 35 then mf_61_54 N rc x2 x3 y0 s else rc 1 x2 x3 s
theorem mr_61_21 {X : Nat → Option zz_C} {h : zz_H} (hh : 111 ≤ h.length) {d : Nat} {N : Nat} {rc : Nat → Int32 → Int32 → mS → mO} (hrc0 : ∀ {Q : Option Value → zz_H → Prop} {x2 : Int32} {x3 : Int32} {s s' : mS} {v : Option Value}, rc 0 x2 x3 s = some (s', v) → Q v (mH h s') → zz_E zp_P zt_tf zt_fd X (d + 1) zm_61 4 [(0, .ref 61), (2, .int x2), (3, .int x3)] [] (mH h s) Q) (hrc1 : ∀ {Q : Option Value → zz_H → Prop} {x2 : Int32} {x3 : Int32} {s s' : mS} {v : Option Value}, rc 1 x2 x3 s = some (s', v) → Q v (mH h s') → zz_E zp_P zt_tf zt_fd X (d + 1) zm_61 30 [(0, .ref 61), (2, .int x2), (3, .int x3)] [] (mH h s) Q) {Q : Option Value → zz_H → Prop} {x2 : Int32} {x3 : Int32} {y0 : Int32} {s s' : mS} {v : Option Value} (hf : mf_61_21 N rc x2 x3 y0 s = some (s', v)) (k : Q v (mH h s')) : zz_E zp_P zt_tf zt_fd X (d + 1) zm_61 21 [(0, .ref 61), (2, .int x2), (3, .int x3)] [.int y0] (mH h s) Q := by
  unfold mf_61_21 at hf
  refine mb_61_21 hh  (fun c => ?_) (fun c => ?_)
  · rw [if_pos c] at hf
    exact mr_61_54 hh hrc0 hrc1 hf k
  · rw [if_neg c] at hf
    exact hrc1 hf k
def mf_61_16 (N : Nat) (rc : Nat → Int32 → Int32 → mS → mO) (x2 : Int32) (x3 : Int32) (s : mS) : mO := mo_bi (mf_62 N x2 s) (fun s1 y => mf_61_21 N rc x2 x3 y s1)
theorem mr_61_16 {X : Nat → Option zz_C} {h : zz_H} (hh : 111 ≤ h.length) {d : Nat} {N : Nat} {rc : Nat → Int32 → Int32 → mS → mO} (hrc0 : ∀ {Q : Option Value → zz_H → Prop} {x2 : Int32} {x3 : Int32} {s s' : mS} {v : Option Value}, rc 0 x2 x3 s = some (s', v) → Q v (mH h s') → zz_E zp_P zt_tf zt_fd X (d + 1) zm_61 4 [(0, .ref 61), (2, .int x2), (3, .int x3)] [] (mH h s) Q) (hrc1 : ∀ {Q : Option Value → zz_H → Prop} {x2 : Int32} {x3 : Int32} {s s' : mS} {v : Option Value}, rc 1 x2 x3 s = some (s', v) → Q v (mH h s') → zz_E zp_P zt_tf zt_fd X (d + 1) zm_61 30 [(0, .ref 61), (2, .int x2), (3, .int x3)] [] (mH h s) Q) {Q : Option Value → zz_H → Prop} {x2 : Int32} {x3 : Int32} {s s' : mS} {v : Option Value} (hf : mf_61_16 N rc x2 x3 s = some (s', v)) (k : Q v (mH h s')) : zz_E zp_P zt_tf zt_fd X (d + 1) zm_61 16 [(0, .ref 61), (2, .int x2), (3, .int x3)] [] (mH h s) Q := by
  unfold mf_61_16 at hf
  obtain ⟨s1, y, e, hf⟩ := mo_bi_ok hf
  exact mb_61_16 (d := d + 0) hh  (mr_62 (d := d + 0) hh e (mr_61_21 hh hrc0 hrc1 hf k))
def mf_61_8 (N : Nat) (rc : Nat → Int32 → Int32 → mS → mO) (x2 : Int32) (x3 : Int32) (s : mS) : mO := if (s.1 4) ≤ x2 then mf_61_79 N x2 s else mf_61_16 N rc x2 x3 s
theorem mr_61_8 {X : Nat → Option zz_C} {h : zz_H} (hh : 111 ≤ h.length) {d : Nat} {N : Nat} {rc : Nat → Int32 → Int32 → mS → mO} (hrc0 : ∀ {Q : Option Value → zz_H → Prop} {x2 : Int32} {x3 : Int32} {s s' : mS} {v : Option Value}, rc 0 x2 x3 s = some (s', v) → Q v (mH h s') → zz_E zp_P zt_tf zt_fd X (d + 1) zm_61 4 [(0, .ref 61), (2, .int x2), (3, .int x3)] [] (mH h s) Q) (hrc1 : ∀ {Q : Option Value → zz_H → Prop} {x2 : Int32} {x3 : Int32} {s s' : mS} {v : Option Value}, rc 1 x2 x3 s = some (s', v) → Q v (mH h s') → zz_E zp_P zt_tf zt_fd X (d + 1) zm_61 30 [(0, .ref 61), (2, .int x2), (3, .int x3)] [] (mH h s) Q) {Q : Option Value → zz_H → Prop} {x2 : Int32} {x3 : Int32} {s s' : mS} {v : Option Value} (hf : mf_61_8 N rc x2 x3 s = some (s', v)) (k : Q v (mH h s')) : zz_E zp_P zt_tf zt_fd X (d + 1) zm_61 8 [(0, .ref 61), (2, .int x2), (3, .int x3)] [] (mH h s) Q := by
  unfold mf_61_8 at hf
  refine mb_61_8 hh  (fun c => ?_) (fun c => ?_)
  · rw [if_pos c] at hf
    exact mr_61_79 hh hf k
  · rw [if_neg c] at hf
    exact mr_61_16 hh hrc0 hrc1 hf k
def mf_61_4 (N : Nat) (rc : Nat → Int32 → Int32 → mS → mO) (x2 : Int32) (x3 : Int32) (s : mS) : mO := if x3 = 0 then mf_61_79 N x2 s else mf_61_8 N rc x2 x3 s
theorem mr_61_4 {X : Nat → Option zz_C} {h : zz_H} (hh : 111 ≤ h.length) {d : Nat} {N : Nat} {rc : Nat → Int32 → Int32 → mS → mO} (hrc0 : ∀ {Q : Option Value → zz_H → Prop} {x2 : Int32} {x3 : Int32} {s s' : mS} {v : Option Value}, rc 0 x2 x3 s = some (s', v) → Q v (mH h s') → zz_E zp_P zt_tf zt_fd X (d + 1) zm_61 4 [(0, .ref 61), (2, .int x2), (3, .int x3)] [] (mH h s) Q) (hrc1 : ∀ {Q : Option Value → zz_H → Prop} {x2 : Int32} {x3 : Int32} {s s' : mS} {v : Option Value}, rc 1 x2 x3 s = some (s', v) → Q v (mH h s') → zz_E zp_P zt_tf zt_fd X (d + 1) zm_61 30 [(0, .ref 61), (2, .int x2), (3, .int x3)] [] (mH h s) Q) {Q : Option Value → zz_H → Prop} {x2 : Int32} {x3 : Int32} {s s' : mS} {v : Option Value} (hf : mf_61_4 N rc x2 x3 s = some (s', v)) (k : Q v (mH h s')) : zz_E zp_P zt_tf zt_fd X (d + 1) zm_61 4 [(0, .ref 61), (2, .int x2), (3, .int x3)] [] (mH h s) Q := by
  unfold mf_61_4 at hf
  refine mb_61_4 hh  (fun c => ?_) (fun c => ?_)
  · rw [if_pos c] at hf
    exact mr_61_79 hh hf k
  · rw [if_neg c] at hf
    exact mr_61_8 hh hrc0 hrc1 hf k
def mf_61_L1 (N : Nat) : Nat → Nat → Int32 → Int32 → mS → mO
  | 0, _, _, _, _ => none
  | n + 1, l, x2, x3, s => if l = 0 then mf_61_4 N (mf_61_L1 N n) x2 x3 s else if l = 1 then mf_61_30 N (mf_61_L1 N n) x2 x3 s else none
theorem mr_61_L1 {X : Nat → Option zz_C} {h : zz_H} (hh : 111 ≤ h.length) {d : Nat} {N : Nat} : ∀ n : Nat, (∀ {Q : Option Value → zz_H → Prop} {x2 : Int32} {x3 : Int32} {s s' : mS} {v : Option Value}, mf_61_L1 N n 0 x2 x3 s = some (s', v) → Q v (mH h s') → zz_E zp_P zt_tf zt_fd X (d + 1) zm_61 4 [(0, .ref 61), (2, .int x2), (3, .int x3)] [] (mH h s) Q) ∧ (∀ {Q : Option Value → zz_H → Prop} {x2 : Int32} {x3 : Int32} {s s' : mS} {v : Option Value}, mf_61_L1 N n 1 x2 x3 s = some (s', v) → Q v (mH h s') → zz_E zp_P zt_tf zt_fd X (d + 1) zm_61 30 [(0, .ref 61), (2, .int x2), (3, .int x3)] [] (mH h s) Q) := by
  intro n
  induction n with
  | zero => exact ⟨(fun hf _ => by cases hf), (fun hf _ => by cases hf)⟩
  | succ n ih =>
    obtain ⟨h0, h1⟩ := ih
    refine ⟨?_, ?_⟩
    · intro Q _ _ s s' v hf k
      unfold mf_61_L1 at hf
      rw [if_pos rfl] at hf
      exact mr_61_4 hh h0 h1 hf k
    · intro Q _ _ s s' v hf k
      unfold mf_61_L1 at hf
      rw [if_neg (by decide)] at hf
      rw [if_pos rfl] at hf
      exact mr_61_30 hh h0 h1 hf k
def mf_61_0 (N : Nat) (x1 : Int32) (s : mS) : mO := mf_61_L1 N N 0 x1 1 s
theorem mr_61_0 {X : Nat → Option zz_C} {h : zz_H} (hh : 111 ≤ h.length) {d : Nat} {N : Nat} {Q : Option Value → zz_H → Prop} {x1 : Int32} {s s' : mS} {v : Option Value} (hf : mf_61_0 N x1 s = some (s', v)) (k : Q v (mH h s')) : zz_E zp_P zt_tf zt_fd X (d + 1) zm_61 0 [(0, .ref 61), (1, .int x1)] [] (mH h s) Q := by
  unfold mf_61_0 at hf
  exact mb_61_0 hh  ((mr_61_L1 hh N).1 hf k)
/-- begin -/
def mf_61 (N : Nat) (x1 : Int32) (s : mS) : mO := mf_61_0 N x1 s
theorem mr_61 {X : Nat → Option zz_C} {h : zz_H} (hh : 111 ≤ h.length) {d : Nat} {N : Nat} {Q : Option Value → zz_H → Prop} {x1 : Int32} {s s' : mS} {v : Option Value} (hf : mf_61 N x1 s = some (s', v)) (k : Q v (mH h s')) : zz_E zp_P zt_tf zt_fd X (d + 1) zm_61 0 [(0, .ref 61), (1, .int x1)] [] (mH h s) Q := by
  unfold mf_61 at hf
  exact zz_E.weak (mr_61_0 hh hf k) rfl ⟨rfl, rfl, trivial⟩
