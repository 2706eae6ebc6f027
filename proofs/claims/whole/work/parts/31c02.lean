/-! yX5_passVariable ()I -/
theorem cb_195_0 {X : Nat → Option zz_C} {h : zz_H} {t : cS} {s : mS} {d : Nat} {Q : zz_O → zz_H → Prop}  (hR : kR h t s) (k : ∀ {h : zz_H}, kR h t s → zz_J zp_P zt_tf zt_fd X d zm_42 0 [(0, .ref 3)] [] h (zz_after 10 Q (fun v h' => zz_J zp_P zt_tf zt_fd X (d + 1) zm_195 8 [(0, .ref 2)] (v.toList ++ [.ref 2]) h' Q))) : zz_J zp_P zt_tf zt_fd X (d + 1) zm_195 0 [(0, .ref 2)] [] h Q := by
  refine zz_J.n 1 rfl rfl rfl ?_
  refine zz_J.n 2 rfl rfl rfl ?_
  refine zz_J.g 5 rfl (hR.gv (v := .ref 3) ko_2 (by decide) rfl) rfl ?_
  refine zz_J.cv 8 (as := [.ref 2]) rfl rfl (hR.clO ko_3 (by decide) (by decide)) (by decide) (Nat.le_of_ble_eq_true rfl) (Nat.le_of_ble_eq_true rfl) rfl (Nat.le_of_ble_eq_true rfl) rfl ?_
  refine zz_J.mono (k hR) ?_
  intro o h' hE
  cases o with
  | inl v => exact zz_J.weak hE rfl ⟨rfl, trivial⟩
  | inr q => exact hE
theorem cb_195_8 {X : Nat → Option zz_C} {h : zz_H} {t : cS} {s : mS} {d : Nat} {Q : zz_O → zz_H → Prop} {y1 : Int32} (hR : kR h t s) (k1 : ¬ y1 = 3 → (∀ {h : zz_H}, kR h t s → zz_J zp_P zt_tf zt_fd X d zm_195 16 [(0, .ref 2)] [.ref 2] h Q)) (k2 : ¬ ¬ y1 = 3 → (∀ {h : zz_H}, kR h t s → zz_J zp_P zt_tf zt_fd X d zm_195 12 [(0, .ref 2)] [.ref 2] h Q)) : zz_J zp_P zt_tf zt_fd X d zm_195 8 [(0, .ref 2)] [.int y1, .ref 2] h Q := by
  refine zz_J.c 9 (.int 3) rfl rfl rfl rfl ?_
  refine zz_J.b2 16 12 (A := ¬ y1 = 3) rfl (zz_cond_ne _ _) (by decide) rfl rfl (fun c => ?_) (fun c => ?_)
  · exact zz_J.weak (k1 c hR) rfl ⟨rfl, trivial⟩
  · exact zz_J.weak (k2 c hR) rfl ⟨rfl, trivial⟩
theorem cb_195_12 {X : Nat → Option zz_C} {h : zz_H} {t : cS} {s : mS} {d : Nat} {Q : zz_O → zz_H → Prop}  (hR : kR h t s) (k : ∀ {h : zz_H}, kR h t s → zz_J zp_P zt_tf zt_fd X d zm_195 17 [(0, .ref 2)] [.int 1, .ref 2] h Q) : zz_J zp_P zt_tf zt_fd X d zm_195 12 [(0, .ref 2)] [.ref 2] h Q := by
  refine zz_J.c 13 (.int 1) rfl rfl rfl rfl ?_
  refine zz_J.n 17 rfl rfl rfl ?_
  exact zz_J.weak (k hR) rfl ⟨rfl, trivial⟩
theorem cb_195_16 {X : Nat → Option zz_C} {h : zz_H} {t : cS} {s : mS} {d : Nat} {Q : zz_O → zz_H → Prop}  (hR : kR h t s) (k : ∀ {h : zz_H}, kR h t s → zz_J zp_P zt_tf zt_fd X d zm_195 17 [(0, .ref 2)] [.int 0, .ref 2] h Q) : zz_J zp_P zt_tf zt_fd X d zm_195 16 [(0, .ref 2)] [.ref 2] h Q := by
  refine zz_J.c 17 (.int 0) rfl rfl rfl rfl ?_
  exact zz_J.weak (k hR) rfl ⟨rfl, trivial⟩
theorem cb_195_17 {X : Nat → Option zz_C} {h : zz_H} {t : cS} {s : mS} {d : Nat} {Q : zz_O → zz_H → Prop} {y1 : Int32} (hR : kR h t s) (k : ∀ {h : zz_H}, kR h t s → zz_J zp_P zt_tf zt_fd X d zm_202 0 [(0, .ref 2), (1, .int y1), (2, .int 2)] [] h (zz_after 5 Q (fun v h' => zz_J zp_P zt_tf zt_fd X (d + 1) zm_195 21 [(0, .ref 2)] (v.toList ++ []) h' Q))) : zz_J zp_P zt_tf zt_fd X (d + 1) zm_195 17 [(0, .ref 2)] [.int y1, .ref 2] h Q := by
  refine zz_J.c 18 (.int 2) rfl rfl rfl rfl ?_
  refine zz_J.cv 21 (as := []) rfl rfl (hR.clO ko_2 (by decide) (by decide)) (by decide) (Nat.le_of_ble_eq_true rfl) (Nat.le_of_ble_eq_true rfl) rfl (Nat.le_of_ble_eq_true rfl) rfl ?_
  refine zz_J.mono (k hR) ?_
  intro o h' hE
  cases o with
  | inl v => exact zz_J.weak hE rfl ⟨rfl, trivial⟩
  | inr q => exact hE
theorem cb_195_21 {X : Nat → Option zz_C} {h : zz_H} {t : cS} {s : mS} {d : Nat} {Q : zz_O → zz_H → Prop}  (hR : kR h t s) (k : ∀ {h : zz_H}, kR h t s → zz_J zp_P zt_tf zt_fd X d zm_244 0 [(0, .ref 3)] [] h (zz_after 10 Q (fun v h' => zz_J zp_P zt_tf zt_fd X (d + 1) zm_195 28 [(0, .ref 2)] (v.toList ++ []) h' Q))) : zz_J zp_P zt_tf zt_fd X (d + 1) zm_195 21 [(0, .ref 2)] [] h Q := by
  refine zz_J.n 22 rfl rfl rfl ?_
  refine zz_J.g 25 rfl (hR.gv (v := .ref 3) ko_2 (by decide) rfl) rfl ?_
  refine zz_J.cv 28 (as := []) rfl rfl (hR.clO ko_3 (by decide) (by decide)) (by decide) (Nat.le_of_ble_eq_true rfl) (Nat.le_of_ble_eq_true rfl) rfl (Nat.le_of_ble_eq_true rfl) rfl ?_
  refine zz_J.mono (k hR) ?_
  intro o h' hE
  cases o with
  | inl v => exact zz_J.weak hE rfl ⟨rfl, trivial⟩
  | inr q => exact hE
theorem cb_195_28 {X : Nat → Option zz_C} {h : zz_H} {t : cS} {s : mS} {d : Nat} {Q : zz_O → zz_H → Prop} {y0 : Int64} (hR : kR h t s) (k : ∀ {h : zz_H}, kR h t s → zz_J zp_P zt_tf zt_fd X d zm_197 0 [(0, .long y0)] [] h (zz_after 0 Q (fun v h' => zz_J zp_P zt_tf zt_fd X (d + 1) zm_195 33 [(0, .ref 2), (1, .long y0)] (v.toList ++ []) h' Q))) : zz_J zp_P zt_tf zt_fd X (d + 1) zm_195 28 [(0, .ref 2)] [.long y0] h Q := by
  refine zz_J.n 29 rfl rfl rfl ?_
  refine zz_J.n 30 rfl rfl rfl ?_
  refine zz_J.cl (M' := zm_197) 33 rfl rfl (by decide) rfl rfl ⟨rfl, Nat.le_of_ble_eq_true rfl⟩ rfl ?_
  refine zz_J.mono (k hR) ?_
  intro o h' hE
  cases o with
  | inl v => exact zz_J.weak hE rfl ⟨rfl, rfl, trivial⟩
  | inr q => exact hE
theorem cb_195_33 {X : Nat → Option zz_C} {h : zz_H} {t : cS} {s : mS} {d : Nat} {Q : zz_O → zz_H → Prop} {x1 : Int64} {y0 : Int32} (hR : kR h t s) (k1 : y0 = 0 → (∀ {h : zz_H}, kR h t s → zz_J zp_P zt_tf zt_fd X d zm_195 42 [(0, .ref 2), (1, .long x1)] [] h Q)) (k2 : ¬ y0 = 0 → (∀ {h : zz_H}, kR h t s → zz_J zp_P zt_tf zt_fd X d zm_195 36 [(0, .ref 2), (1, .long x1)] [] h Q)) : zz_J zp_P zt_tf zt_fd X d zm_195 33 [(0, .ref 2), (1, .long x1)] [.int y0] h Q := by
  refine zz_J.b1 42 36 (A := y0 = 0) rfl rfl (by decide) rfl rfl (fun c => ?_) (fun c => ?_)
  · exact zz_J.weak (k1 c hR) rfl ⟨rfl, rfl, trivial⟩
  · exact zz_J.weak (k2 c hR) rfl ⟨rfl, rfl, trivial⟩
theorem cb_195_36 {X : Nat → Option zz_C} {h : zz_H} {t : cS} {s : mS} {d : Nat} {Q : zz_O → zz_H → Prop} {x1 : Int64} (hR : kR h t s) (k : ∀ {h : zz_H}, kR h t s → zz_J zp_P zt_tf zt_fd X d zm_195 47 [(0, .ref 2), (1, .long x1)] [.int (Int64.toInt32 (-x1))] h Q) : zz_J zp_P zt_tf zt_fd X d zm_195 36 [(0, .ref 2), (1, .long x1)] [] h Q := by
  refine zz_J.n 37 rfl rfl rfl ?_
  refine zz_J.n 38 rfl rfl rfl ?_
  refine zz_J.n 39 rfl rfl rfl ?_
  refine zz_J.n 47 rfl rfl rfl ?_
  exact zz_J.weak (k hR) rfl ⟨rfl, rfl, trivial⟩
theorem cb_195_42 {X : Nat → Option zz_C} {h : zz_H} {t : cS} {s : mS} {d : Nat} {Q : zz_O → zz_H → Prop} {x1 : Int64} (hR : kR h t s) (k : ∀ {h : zz_H}, kR h t s → zz_J zp_P zt_tf zt_fd X d zm_196 0 [(0, .ref 2), (1, .long x1)] [] h (zz_after 5 Q (fun v h' => zz_J zp_P zt_tf zt_fd X (d + 1) zm_195 47 [(0, .ref 2), (1, .long x1)] (v.toList ++ []) h' Q))) : zz_J zp_P zt_tf zt_fd X (d + 1) zm_195 42 [(0, .ref 2), (1, .long x1)] [] h Q := by
  refine zz_J.n 43 rfl rfl rfl ?_
  refine zz_J.n 44 rfl rfl rfl ?_
  refine zz_J.cv 47 (as := []) rfl rfl (hR.clO ko_2 (by decide) (by decide)) (by decide) (Nat.le_of_ble_eq_true rfl) (Nat.le_of_ble_eq_true rfl) rfl (Nat.le_of_ble_eq_true rfl) rfl ?_
  refine zz_J.mono (k hR) ?_
  intro o h' hE
  cases o with
  | inl v => exact zz_J.weak hE rfl ⟨rfl, rfl, trivial⟩
  | inr q => exact hE
theorem cb_195_47 {X : Nat → Option zz_C} {h : zz_H} {t : cS} {s : mS} {d : Nat} {Q : zz_O → zz_H → Prop} {x1 : Int64} {y0 : Int32} (hR : kR h t s) (k1 : ¬ y0 = (-1) → (∀ {h : zz_H}, kR h t s → zz_J zp_P zt_tf zt_fd X d zm_195 104 [(0, .ref 2), (3, .int y0)] [] h Q)) (k2 : ¬ ¬ y0 = (-1) → (∀ {h : zz_H}, kR h t s → zz_J zp_P zt_tf zt_fd X d zm_195 53 [(0, .ref 2), (1, .long x1), (3, .int y0)] [] h Q)) : zz_J zp_P zt_tf zt_fd X d zm_195 47 [(0, .ref 2), (1, .long x1)] [.int y0] h Q := by
  refine zz_J.n 48 rfl rfl rfl ?_
  refine zz_J.n 49 rfl rfl rfl ?_
  refine zz_J.c 50 (.int (-1)) rfl rfl rfl rfl ?_
  refine zz_J.b2 104 53 (A := ¬ y0 = (-1)) rfl (zz_cond_ne _ _) (by decide) rfl rfl (fun c => ?_) (fun c => ?_)
  · exact zz_J.weak (k1 c hR) rfl ⟨rfl, rfl, trivial⟩
  · exact zz_J.weak (k2 c hR) rfl ⟨rfl, rfl, rfl, trivial⟩
theorem cb_195_53 {X : Nat → Option zz_C} {h : zz_H} {t : cS} {s : mS} {d : Nat} {Q : zz_O → zz_H → Prop} {x1 : Int64} {x3 : Int32} (hR : kR h t s) (k : ∀ {h : zz_H}, kR h t s → zz_J zp_P zt_tf zt_fd X d zm_197 0 [(0, .long x1)] [] h (zz_after 0 Q (fun v h' => zz_J zp_P zt_tf zt_fd X (d + 1) zm_195 57 [(0, .ref 2), (1, .long x1), (3, .int x3)] (v.toList ++ []) h' Q))) : zz_J zp_P zt_tf zt_fd X (d + 1) zm_195 53 [(0, .ref 2), (1, .long x1), (3, .int x3)] [] h Q := by
  refine zz_J.n 54 rfl rfl rfl ?_
  refine zz_J.cl (M' := zm_197) 57 rfl rfl (by decide) rfl rfl ⟨rfl, Nat.le_of_ble_eq_true rfl⟩ rfl ?_
  refine zz_J.mono (k hR) ?_
  intro o h' hE
  cases o with
  | inl v => exact zz_J.weak hE rfl ⟨rfl, rfl, rfl, trivial⟩
  | inr q => exact hE
theorem cb_195_57 {X : Nat → Option zz_C} {h : zz_H} {t : cS} {s : mS} {d : Nat} {Q : zz_O → zz_H → Prop} {x1 : Int64} {x3 : Int32} {y0 : Int32} (hR : kR h t s) (k1 : ¬ y0 = 0 → (∀ {h : zz_H}, kR h t s → zz_J zp_P zt_tf zt_fd X d zm_195 104 [(0, .ref 2), (3, .int x3)] [] h Q)) (k2 : ¬ ¬ y0 = 0 → (∀ {h : zz_H}, kR h t s → zz_J zp_P zt_tf zt_fd X d zm_195 60 [(0, .ref 2), (1, .long x1)] [] h Q)) : zz_J zp_P zt_tf zt_fd X d zm_195 57 [(0, .ref 2), (1, .long x1), (3, .int x3)] [.int y0] h Q := by
  refine zz_J.b1 104 60 (A := ¬ y0 = 0) rfl (zz_cond_ne _ _) (by decide) rfl rfl (fun c => ?_) (fun c => ?_)
  · exact zz_J.weak (k1 c hR) rfl ⟨rfl, rfl, trivial⟩
  · exact zz_J.weak (k2 c hR) rfl ⟨rfl, rfl, trivial⟩
theorem cb_195_60 {X : Nat → Option zz_C} {h : zz_H} {t : cS} {s : mS} {d : Nat} {Q : zz_O → zz_H → Prop} {x1 : Int64} (hR : kR h t s) (k1 : 14 ≤ (kI t 2 4) → (∀ {h : zz_H}, kR h t s → zz_J zp_P zt_tf zt_fd X d zm_195 74 [(0, .ref 2), (1, .long x1)] [.ref 2] h Q)) (k2 : ¬ 14 ≤ (kI t 2 4) → (∀ {h : zz_H}, kR h t s → zz_J zp_P zt_tf zt_fd X d zm_195 70 [(0, .ref 2), (1, .long x1)] [.ref 2] h Q)) : zz_J zp_P zt_tf zt_fd X d zm_195 60 [(0, .ref 2), (1, .long x1)] [] h Q := by
  refine zz_J.n 61 rfl rfl rfl ?_
  refine zz_J.n 62 rfl rfl rfl ?_
  refine zz_J.g 65 rfl (hR.gv (v := .int (kI t 2 4)) ko_2 (by decide) rfl) rfl ?_
  refine zz_J.c 67 (.int 14) rfl rfl rfl rfl ?_
  refine zz_J.b2 74 70 (A := 14 ≤ (kI t 2 4)) rfl rfl (by decide) rfl rfl (fun c => ?_) (fun c => ?_)
  · exact zz_J.weak (k1 c hR) rfl ⟨rfl, rfl, trivial⟩
  · exact zz_J.weak (k2 c hR) rfl ⟨rfl, rfl, trivial⟩
theorem cb_195_70 {X : Nat → Option zz_C} {h : zz_H} {t : cS} {s : mS} {d : Nat} {Q : zz_O → zz_H → Prop} {x1 : Int64} (hR : kR h t s) (k : ∀ {h : zz_H}, kR h t s → zz_J zp_P zt_tf zt_fd X d zm_195 75 [(0, .ref 2), (1, .long x1)] [.int 1, .ref 2] h Q) : zz_J zp_P zt_tf zt_fd X d zm_195 70 [(0, .ref 2), (1, .long x1)] [.ref 2] h Q := by
  refine zz_J.c 71 (.int 1) rfl rfl rfl rfl ?_
  refine zz_J.n 75 rfl rfl rfl ?_
  exact zz_J.weak (k hR) rfl ⟨rfl, rfl, trivial⟩
theorem cb_195_74 {X : Nat → Option zz_C} {h : zz_H} {t : cS} {s : mS} {d : Nat} {Q : zz_O → zz_H → Prop} {x1 : Int64} (hR : kR h t s) (k : ∀ {h : zz_H}, kR h t s → zz_J zp_P zt_tf zt_fd X d zm_195 75 [(0, .ref 2), (1, .long x1)] [.int 0, .ref 2] h Q) : zz_J zp_P zt_tf zt_fd X d zm_195 74 [(0, .ref 2), (1, .long x1)] [.ref 2] h Q := by
  refine zz_J.c 75 (.int 0) rfl rfl rfl rfl ?_
  exact zz_J.weak (k hR) rfl ⟨rfl, rfl, trivial⟩
theorem cb_195_75 {X : Nat → Option zz_C} {h : zz_H} {t : cS} {s : mS} {d : Nat} {Q : zz_O → zz_H → Prop} {x1 : Int64} {y1 : Int32} (hR : kR h t s) (k : ∀ {h : zz_H}, kR h t s → zz_J zp_P zt_tf zt_fd X d zm_202 0 [(0, .ref 2), (1, .int y1), (2, .int 3)] [] h (zz_after 5 Q (fun v h' => zz_J zp_P zt_tf zt_fd X (d + 1) zm_195 79 [(0, .ref 2), (1, .long x1)] (v.toList ++ []) h' Q))) : zz_J zp_P zt_tf zt_fd X (d + 1) zm_195 75 [(0, .ref 2), (1, .long x1)] [.int y1, .ref 2] h Q := by
  refine zz_J.c 76 (.int 3) rfl rfl rfl rfl ?_
  refine zz_J.cv 79 (as := []) rfl rfl (hR.clO ko_2 (by decide) (by decide)) (by decide) (Nat.le_of_ble_eq_true rfl) (Nat.le_of_ble_eq_true rfl) rfl (Nat.le_of_ble_eq_true rfl) rfl ?_
  refine zz_J.mono (k hR) ?_
  intro o h' hE
  cases o with
  | inl v => exact zz_J.weak hE rfl ⟨rfl, rfl, trivial⟩
  | inr q => exact hE
theorem cb_195_79 {X : Nat → Option zz_C} {h : zz_H} {t : cS} {s : mS} {d : Nat} {Q : zz_O → zz_H → Prop} {x1 : Int64} (hR : kR h t s) (e0 : ¬ ((kI t 2 4) < 0 ∨ (kB t 7).1 ≤ (Int32.toNatClampNeg (kI t 2 4)))) (k : ∀ {h : zz_H}, kR h (jI (jB t 7 (vp_updL (kB t 7).2 (Int32.toNatClampNeg (kI t 2 4)) x1)) 2 4 ((kI t 2 4) + 1)) s → zz_J zp_P zt_tf zt_fd X d zm_195 104 [(0, .ref 2), (3, .int (kI t 2 4))] [] h Q) : zz_J zp_P zt_tf zt_fd X d zm_195 79 [(0, .ref 2), (1, .long x1)] [] h Q := by
  refine zz_J.n 80 rfl rfl rfl ?_
  refine zz_J.g 83 rfl (hR.gv (v := .ref (kD t 7)) ko_2 (by decide) rfl) rfl ?_
  refine zz_J.n 84 rfl rfl rfl ?_
  refine zz_J.g 87 rfl (hR.gv (v := .int (kI t 2 4)) ko_2 (by decide) rfl) rfl ?_
  refine zz_J.n 88 rfl rfl rfl ?_
  obtain ⟨h1, eq1, hR⟩ := hR.sl (x := x1) ka_7 rfl e0
  refine zz_J.sl 89 rfl eq1 rfl ?_
  clear eq1
  refine zz_J.n 90 rfl rfl rfl ?_
  refine zz_J.g 93 rfl (hR.gv (v := .int (kI t 2 4)) ko_2 (by decide) rfl) rfl ?_
  refine zz_J.n 94 rfl rfl rfl ?_
  refine zz_J.n 95 rfl rfl rfl ?_
  refine zz_J.n 96 rfl rfl rfl ?_
  refine zz_J.g 99 rfl (hR.gv (v := .int (kI t 2 4)) ko_2 (by decide) rfl) rfl ?_
  refine zz_J.c 100 (.int 1) rfl rfl rfl rfl ?_
  refine zz_J.n 101 rfl rfl rfl ?_
  obtain ⟨h1, eq1, hR⟩ := hR.pI (x := ((kI t 2 4) + 1)) (by decide) ko_2 (kpi_2_4 _) (Nat.le_of_ble_eq_true rfl) rfl
  refine zz_J.pv 104 rfl eq1 rfl ?_
  clear eq1
  exact zz_J.weak (k hR) rfl ⟨rfl, rfl, trivial⟩
theorem cb_195_104 {X : Nat → Option zz_C} {h : zz_H} {t : cS} {s : mS} {d : Nat} {Q : zz_O → zz_H → Prop} {x3 : Int32} (hR : kR h t s) (k : ∀ {h : zz_H}, kR h t s → zz_J zp_P zt_tf zt_fd X d zm_46 0 [(0, .ref 3)] [] h (zz_after 10 Q (fun v h' => zz_J zp_P zt_tf zt_fd X (d + 1) zm_195 111 [(3, .int x3)] (v.toList ++ []) h' Q))) : zz_J zp_P zt_tf zt_fd X (d + 1) zm_195 104 [(0, .ref 2), (3, .int x3)] [] h Q := by
  refine zz_J.n 105 rfl rfl rfl ?_
  refine zz_J.g 108 rfl (hR.gv (v := .ref 3) ko_2 (by decide) rfl) rfl ?_
  refine zz_J.cv 111 (as := []) rfl rfl (hR.clO ko_3 (by decide) (by decide)) (by decide) (Nat.le_of_ble_eq_true rfl) (Nat.le_of_ble_eq_true rfl) rfl (Nat.le_of_ble_eq_true rfl) rfl ?_
  refine zz_J.mono (k hR) ?_
  intro o h' hE
  cases o with
  | inl v => exact zz_J.weak hE rfl ⟨rfl, trivial⟩
  | inr q => exact hE
theorem cb_195_111 {X : Nat → Option zz_C} {h : zz_H} {t : cS} {s : mS} {d : Nat} {Q : zz_O → zz_H → Prop} {x3 : Int32} (hR : kR h t s) (k : ∀ {h : zz_H}, kR h t s → Q (.inl (some (.int x3))) h) : zz_J zp_P zt_tf zt_fd X d zm_195 111 [(3, .int x3)] [] h Q := by
  refine zz_J.n 112 rfl rfl rfl ?_
  refine zz_J.ret rfl rfl rfl ?_
  exact k hR
def cf_195_111 (N : Nat) (X : Nat → Option zz_C) (x3 : Int32) (t : cS) : kO := some (t, .inl (some (.int x3)))
theorem cr_195_111 {X : Nat → Option zz_C} {s : mS} {N : Nat} {d : Nat} (hd : 9 ≤ d) {Q : zz_O → zz_H → Prop} {x3 : Int32} {h : zz_H} {t t' : cS} {o : kY} (hR : kR h t s) (hf : cf_195_111 N X x3 t = some (t', o)) (k : (∀ h', kR h' t' s → kE o Q h')) : zz_J zp_P zt_tf zt_fd X d zm_195 111 [(3, .int x3)] [] h Q := by
  unfold cf_195_111 at hf
  cases hf
  exact cb_195_111 hR  (fun {h} hR => k h hR)
def cf_195_104 (N : Nat) (X : Nat → Option zz_C) (x3 : Int32) (t : cS) : kO := ko_call 10 (cf_46 N X  t) (fun g1 v1 => co_v v1 (cf_195_111 N X x3 g1))
theorem cr_195_104 {X : Nat → Option zz_C} {s : mS} {N : Nat} {d : Nat} (hd : 9 ≤ d) {Q : zz_O → zz_H → Prop} {x3 : Int32} {h : zz_H} {t t' : cS} {o : kY} (hR : kR h t s) (hf : cf_195_104 N X x3 t = some (t', o)) (k : (∀ h', kR h' t' s → kE o Q h')) : zz_J zp_P zt_tf zt_fd X d zm_195 104 [(0, .ref 2), (3, .int x3)] [] h Q := by
  unfold cf_195_104 at hf
  obtain ⟨d', rfl⟩ : ∃ d', d = d' + 1 := ⟨d - 1, by omega⟩
  refine cb_195_104 hR  (fun {h} hR => ?_)
  rcases ko_call_ok hf with ⟨g1, v1, er, hf⟩ | ⟨g1, er, hq⟩
  · obtain ⟨hv, hf2⟩ := co_v_ok hf
    clear hf
    have hf := hf2
    clear hf2
    subst hv
    refine cr_46 (by omega) hR er (fun h hR => ?_)
    exact cr_195_111 hd hR hf k
  · refine cr_46 (by omega) hR er (fun h hR => ?_)
    exact ko_thrown hq hR k
def cf_195_79 (N : Nat) (X : Nat → Option zz_C) (x1 : Int64) (t : cS) : kO := if ¬ ((kI t 2 4) < 0 ∨ (kB t 7).1 ≤ (Int32.toNatClampNeg (kI t 2 4))) then (cf_195_104 N X (kI t 2 4) (jI (jB t 7 (vp_updL (kB t 7).2 (Int32.toNatClampNeg (kI t 2 4)) x1)) 2 4 ((kI t 2 4) + 1))) else none
theorem cr_195_79 {X : Nat → Option zz_C} {s : mS} {N : Nat} {d : Nat} (hd : 9 ≤ d) {Q : zz_O → zz_H → Prop} {x1 : Int64} {h : zz_H} {t t' : cS} {o : kY} (hR : kR h t s) (hf : cf_195_79 N X x1 t = some (t', o)) (k : (∀ h', kR h' t' s → kE o Q h')) : zz_J zp_P zt_tf zt_fd X d zm_195 79 [(0, .ref 2), (1, .long x1)] [] h Q := by
  unfold cf_195_79 at hf
  obtain ⟨e0, hf⟩ := ko_if hf
  exact cb_195_79 hR e0 (fun hR => cr_195_104 hd hR hf k)
def cf_195_75 (N : Nat) (X : Nat → Option zz_C) (x1 : Int64) (y1 : Int32) (t : cS) : kO := ko_call 5 (cf_202 N X y1 3 t) (fun g1 v1 => co_v v1 (cf_195_79 N X x1 g1))
theorem cr_195_75 {X : Nat → Option zz_C} {s : mS} {N : Nat} {d : Nat} (hd : 9 ≤ d) {Q : zz_O → zz_H → Prop} {x1 : Int64} {y1 : Int32} {h : zz_H} {t t' : cS} {o : kY} (hR : kR h t s) (hf : cf_195_75 N X x1 y1 t = some (t', o)) (k : (∀ h', kR h' t' s → kE o Q h')) : zz_J zp_P zt_tf zt_fd X d zm_195 75 [(0, .ref 2), (1, .long x1)] [.int y1, .ref 2] h Q := by
  unfold cf_195_75 at hf
  obtain ⟨d', rfl⟩ : ∃ d', d = d' + 1 := ⟨d - 1, by omega⟩
  refine cb_195_75 hR  (fun {h} hR => ?_)
  rcases ko_call_ok hf with ⟨g1, v1, er, hf⟩ | ⟨g1, er, hq⟩
  · obtain ⟨hv, hf2⟩ := co_v_ok hf
    clear hf
    have hf := hf2
    clear hf2
    subst hv
    refine cr_202 (by omega) hR er (fun h hR => ?_)
    exact cr_195_79 hd hR hf k
  · refine cr_202 (by omega) hR er (fun h hR => ?_)
    exact ko_thrown hq hR k
def cf_195_74 (N : Nat) (X : Nat → Option zz_C) (x1 : Int64) (t : cS) : kO := cf_195_75 N X x1 0 t
theorem cr_195_74 {X : Nat → Option zz_C} {s : mS} {N : Nat} {d : Nat} (hd : 9 ≤ d) {Q : zz_O → zz_H → Prop} {x1 : Int64} {h : zz_H} {t t' : cS} {o : kY} (hR : kR h t s) (hf : cf_195_74 N X x1 t = some (t', o)) (k : (∀ h', kR h' t' s → kE o Q h')) : zz_J zp_P zt_tf zt_fd X d zm_195 74 [(0, .ref 2), (1, .long x1)] [.ref 2] h Q := by
  unfold cf_195_74 at hf
  exact cb_195_74 hR  (fun hR => cr_195_75 hd hR hf k)
def cf_195_70 (N : Nat) (X : Nat → Option zz_C) (x1 : Int64) (t : cS) : kO := cf_195_75 N X x1 1 t
theorem cr_195_70 {X : Nat → Option zz_C} {s : mS} {N : Nat} {d : Nat} (hd : 9 ≤ d) {Q : zz_O → zz_H → Prop} {x1 : Int64} {h : zz_H} {t t' : cS} {o : kY} (hR : kR h t s) (hf : cf_195_70 N X x1 t = some (t', o)) (k : (∀ h', kR h' t' s → kE o Q h')) : zz_J zp_P zt_tf zt_fd X d zm_195 70 [(0, .ref 2), (1, .long x1)] [.ref 2] h Q := by
  unfold cf_195_70 at hf
  exact cb_195_70 hR  (fun hR => cr_195_75 hd hR hf k)
def cf_195_60 (N : Nat) (X : Nat → Option zz_C) (x1 : Int64) (t : cS) : kO := if 14 ≤ (kI t 2 4) then cf_195_74 N X x1 t else cf_195_70 N X x1 t
theorem cr_195_60 {X : Nat → Option zz_C} {s : mS} {N : Nat} {d : Nat} (hd : 9 ≤ d) {Q : zz_O → zz_H → Prop} {x1 : Int64} {h : zz_H} {t t' : cS} {o : kY} (hR : kR h t s) (hf : cf_195_60 N X x1 t = some (t', o)) (k : (∀ h', kR h' t' s → kE o Q h')) : zz_J zp_P zt_tf zt_fd X d zm_195 60 [(0, .ref 2), (1, .long x1)] [] h Q := by
  unfold cf_195_60 at hf
  refine cb_195_60 hR  (fun c {h} hR => ?_) (fun c {h} hR => ?_)
  · rw [if_pos c] at hf
    exact cr_195_74 hd hR hf k
  · rw [if_neg c] at hf
    exact cr_195_70 hd hR hf k
def cf_195_57 (N : Nat) (X : Nat → Option zz_C) (x1 : Int64) (x3 : Int32) (y0 : Int32) (t : cS) : kO := if ¬ y0 = 0 then cf_195_104 N X x3 t else cf_195_60 N X x1 t
theorem cr_195_57 {X : Nat → Option zz_C} {s : mS} {N : Nat} {d : Nat} (hd : 9 ≤ d) {Q : zz_O → zz_H → Prop} {x1 : Int64} {x3 : Int32} {y0 : Int32} {h : zz_H} {t t' : cS} {o : kY} (hR : kR h t s) (hf : cf_195_57 N X x1 x3 y0 t = some (t', o)) (k : (∀ h', kR h' t' s → kE o Q h')) : zz_J zp_P zt_tf zt_fd X d zm_195 57 [(0, .ref 2), (1, .long x1), (3, .int x3)] [.int y0] h Q := by
  unfold cf_195_57 at hf
  refine cb_195_57 hR  (fun c {h} hR => ?_) (fun c {h} hR => ?_)
  · rw [if_pos c] at hf
    exact cr_195_104 hd hR hf k
  · rw [if_neg c] at hf
    exact cr_195_60 hd hR hf k
def cf_195_53 (N : Nat) (X : Nat → Option zz_C) (x1 : Int64) (x3 : Int32) (t : cS) : kO := ko_call 0 (cf_197 N X x1 t) (fun g1 v1 => co_i v1 (fun y => cf_195_57 N X x1 x3 y g1))
theorem cr_195_53 {X : Nat → Option zz_C} {s : mS} {N : Nat} {d : Nat} (hd : 9 ≤ d) {Q : zz_O → zz_H → Prop} {x1 : Int64} {x3 : Int32} {h : zz_H} {t t' : cS} {o : kY} (hR : kR h t s) (hf : cf_195_53 N X x1 x3 t = some (t', o)) (k : (∀ h', kR h' t' s → kE o Q h')) : zz_J zp_P zt_tf zt_fd X d zm_195 53 [(0, .ref 2), (1, .long x1), (3, .int x3)] [] h Q := by
  unfold cf_195_53 at hf
  obtain ⟨d', rfl⟩ : ∃ d', d = d' + 1 := ⟨d - 1, by omega⟩
  refine cb_195_53 hR  (fun {h} hR => ?_)
  rcases ko_call_ok hf with ⟨g1, v1, er, hf⟩ | ⟨g1, er, hq⟩
  · obtain ⟨y, hv, hf2⟩ := co_i_ok hf
    clear hf
    have hf := hf2
    clear hf2
    subst hv
    refine cr_197 (by omega) hR er (fun h hR => ?_)
    exact cr_195_57 hd hR hf k
  · refine cr_197 (by omega) hR er (fun h hR => ?_)
    exact ko_thrown hq hR k
def cf_195_47 (N : Nat) (X : Nat → Option zz_C) (x1 : Int64) (y0 : Int32) (t : cS) : kO := if ¬ y0 = (-1) then cf_195_104 N X y0 t else cf_195_53 N X x1 y0 t
theorem cr_195_47 {X : Nat → Option zz_C} {s : mS} {N : Nat} {d : Nat} (hd : 9 ≤ d) {Q : zz_O → zz_H → Prop} {x1 : Int64} {y0 : Int32} {h : zz_H} {t t' : cS} {o : kY} (hR : kR h t s) (hf : cf_195_47 N X x1 y0 t = some (t', o)) (k : (∀ h', kR h' t' s → kE o Q h')) : zz_J zp_P zt_tf zt_fd X d zm_195 47 [(0, .ref 2), (1, .long x1)] [.int y0] h Q := by
  unfold cf_195_47 at hf
  refine cb_195_47 hR  (fun c {h} hR => ?_) (fun c {h} hR => ?_)
  · rw [if_pos c] at hf
    exact cr_195_104 hd hR hf k
  · rw [if_neg c] at hf
    exact cr_195_53 hd hR hf k
def cf_195_42 (N : Nat) (X : Nat → Option zz_C) (x1 : Int64) (t : cS) : kO := ko_call 5 (cf_196 N X x1 t) (fun g1 v1 => co_i v1 (fun y => cf_195_47 N X x1 y g1))
theorem cr_195_42 {X : Nat → Option zz_C} {s : mS} {N : Nat} {d : Nat} (hd : 9 ≤ d) {Q : zz_O → zz_H → Prop} {x1 : Int64} {h : zz_H} {t t' : cS} {o : kY} (hR : kR h t s) (hf : cf_195_42 N X x1 t = some (t', o)) (k : (∀ h', kR h' t' s → kE o Q h')) : zz_J zp_P zt_tf zt_fd X d zm_195 42 [(0, .ref 2), (1, .long x1)] [] h Q := by
  unfold cf_195_42 at hf
  obtain ⟨d', rfl⟩ : ∃ d', d = d' + 1 := ⟨d - 1, by omega⟩
  refine cb_195_42 hR  (fun {h} hR => ?_)
  rcases ko_call_ok hf with ⟨g1, v1, er, hf⟩ | ⟨g1, er, hq⟩
  · obtain ⟨y, hv, hf2⟩ := co_i_ok hf
    clear hf
    have hf := hf2
    clear hf2
    subst hv
    refine cr_196 (by omega) hR er (fun h hR => ?_)
    exact cr_195_47 hd hR hf k
  · refine cr_196 (by omega) hR er (fun h hR => ?_)
    exact ko_thrown hq hR k
def cf_195_36 (N : Nat) (X : Nat → Option zz_C) (x1 : Int64) (t : cS) : kO := cf_195_47 N X x1 (Int64.toInt32 (-x1)) t
theorem cr_195_36 {X : Nat → Option zz_C} {s : mS} {N : Nat} {d : Nat} (hd : 9 ≤ d) {Q : zz_O → zz_H → Prop} {x1 : Int64} {h : zz_H} {t t' : cS} {o : kY} (hR : kR h t s) (hf : cf_195_36 N X x1 t = some (t', o)) (k : (∀ h', kR h' t' s → kE o Q h')) : zz_J zp_P zt_tf zt_fd X d zm_195 36 [(0, .ref 2), (1, .long x1)] [] h Q := by
  unfold cf_195_36 at hf
  exact cb_195_36 hR  (fun hR => cr_195_47 hd hR hf k)
def cf_195_33 (N : Nat) (X : Nat → Option zz_C) (x1 : Int64) (y0 : Int32) (t : cS) : kO := if y0 = 0 then cf_195_42 N X x1 t else cf_195_36 N X x1 t
theorem cr_195_33 {X : Nat → Option zz_C} {s : mS} {N : Nat} {d : Nat} (hd : 9 ≤ d) {Q : zz_O → zz_H → Prop} {x1 : Int64} {y0 : Int32} {h : zz_H} {t t' : cS} {o : kY} (hR : kR h t s) (hf : cf_195_33 N X x1 y0 t = some (t', o)) (k : (∀ h', kR h' t' s → kE o Q h')) : zz_J zp_P zt_tf zt_fd X d zm_195 33 [(0, .ref 2), (1, .long x1)] [.int y0] h Q := by
  unfold cf_195_33 at hf
  refine cb_195_33 hR  (fun c {h} hR => ?_) (fun c {h} hR => ?_)
  · rw [if_pos c] at hf
    exact cr_195_42 hd hR hf k
  · rw [if_neg c] at hf
    exact cr_195_36 hd hR hf k
def cf_195_28 (N : Nat) (X : Nat → Option zz_C) (y0 : Int64) (t : cS) : kO := ko_call 0 (cf_197 N X y0 t) (fun g1 v1 => co_i v1 (fun y => cf_195_33 N X y0 y g1))
theorem cr_195_28 {X : Nat → Option zz_C} {s : mS} {N : Nat} {d : Nat} (hd : 9 ≤ d) {Q : zz_O → zz_H → Prop} {y0 : Int64} {h : zz_H} {t t' : cS} {o : kY} (hR : kR h t s) (hf : cf_195_28 N X y0 t = some (t', o)) (k : (∀ h', kR h' t' s → kE o Q h')) : zz_J zp_P zt_tf zt_fd X d zm_195 28 [(0, .ref 2)] [.long y0] h Q := by
  unfold cf_195_28 at hf
  obtain ⟨d', rfl⟩ : ∃ d', d = d' + 1 := ⟨d - 1, by omega⟩
  refine cb_195_28 hR  (fun {h} hR => ?_)
  rcases ko_call_ok hf with ⟨g1, v1, er, hf⟩ | ⟨g1, er, hq⟩
  · obtain ⟨y, hv, hf2⟩ := co_i_ok hf
    clear hf
    have hf := hf2
    clear hf2
    subst hv
    refine cr_197 (by omega) hR er (fun h hR => ?_)
    exact cr_195_33 hd hR hf k
  · refine cr_197 (by omega) hR er (fun h hR => ?_)
    exact ko_thrown hq hR k
def cf_195_21 (N : Nat) (X : Nat → Option zz_C)  (t : cS) : kO := ko_call 10 (cf_244 N X  t) (fun g1 v1 => co_l v1 (fun y => cf_195_28 N X y g1))
theorem cr_195_21 {X : Nat → Option zz_C} {s : mS} {N : Nat} {d : Nat} (hd : 9 ≤ d) {Q : zz_O → zz_H → Prop}  {h : zz_H} {t t' : cS} {o : kY} (hR : kR h t s) (hf : cf_195_21 N X  t = some (t', o)) (k : (∀ h', kR h' t' s → kE o Q h')) : zz_J zp_P zt_tf zt_fd X d zm_195 21 [(0, .ref 2)] [] h Q := by
  unfold cf_195_21 at hf
  obtain ⟨d', rfl⟩ : ∃ d', d = d' + 1 := ⟨d - 1, by omega⟩
  refine cb_195_21 hR  (fun {h} hR => ?_)
  rcases ko_call_ok hf with ⟨g1, v1, er, hf⟩ | ⟨g1, er, hq⟩
  · obtain ⟨y, hv, hf2⟩ := co_l_ok hf
    clear hf
    have hf := hf2
    clear hf2
    subst hv
    refine cr_244 (by omega) hR er (fun h hR => ?_)
    exact cr_195_28 hd hR hf k
  · refine cr_244 (by omega) hR er (fun h hR => ?_)
    exact ko_thrown hq hR k
def cf_195_17 (N : Nat) (X : Nat → Option zz_C) (y1 : Int32) (t : cS) : kO := ko_call 5 (cf_202 N X y1 2 t) (fun g1 v1 => co_v v1 (cf_195_21 N X  g1))
theorem cr_195_17 {X : Nat → Option zz_C} {s : mS} {N : Nat} {d : Nat} (hd : 9 ≤ d) {Q : zz_O → zz_H → Prop} {y1 : Int32} {h : zz_H} {t t' : cS} {o : kY} (hR : kR h t s) (hf : cf_195_17 N X y1 t = some (t', o)) (k : (∀ h', kR h' t' s → kE o Q h')) : zz_J zp_P zt_tf zt_fd X d zm_195 17 [(0, .ref 2)] [.int y1, .ref 2] h Q := by
  unfold cf_195_17 at hf
  obtain ⟨d', rfl⟩ : ∃ d', d = d' + 1 := ⟨d - 1, by omega⟩
  refine cb_195_17 hR  (fun {h} hR => ?_)
  rcases ko_call_ok hf with ⟨g1, v1, er, hf⟩ | ⟨g1, er, hq⟩
  · obtain ⟨hv, hf2⟩ := co_v_ok hf
    clear hf
    have hf := hf2
    clear hf2
    subst hv
    refine cr_202 (by omega) hR er (fun h hR => ?_)
    exact cr_195_21 hd hR hf k
  · refine cr_202 (by omega) hR er (fun h hR => ?_)
    exact ko_thrown hq hR k
def cf_195_16 (N : Nat) (X : Nat → Option zz_C)  (t : cS) : kO := cf_195_17 N X 0 t
theorem cr_195_16 {X : Nat → Option zz_C} {s : mS} {N : Nat} {d : Nat} (hd : 9 ≤ d) {Q : zz_O → zz_H → Prop}  {h : zz_H} {t t' : cS} {o : kY} (hR : kR h t s) (hf : cf_195_16 N X  t = some (t', o)) (k : (∀ h', kR h' t' s → kE o Q h')) : zz_J zp_P zt_tf zt_fd X d zm_195 16 [(0, .ref 2)] [.ref 2] h Q := by
  unfold cf_195_16 at hf
  exact cb_195_16 hR  (fun hR => cr_195_17 hd hR hf k)
def cf_195_12 (N : Nat) (X : Nat → Option zz_C)  (t : cS) : kO := cf_195_17 N X 1 t
theorem cr_195_12 {X : Nat → Option zz_C} {s : mS} {N : Nat} {d : Nat} (hd : 9 ≤ d) {Q : zz_O → zz_H → Prop}  {h : zz_H} {t t' : cS} {o : kY} (hR : kR h t s) (hf : cf_195_12 N X  t = some (t', o)) (k : (∀ h', kR h' t' s → kE o Q h')) : zz_J zp_P zt_tf zt_fd X d zm_195 12 [(0, .ref 2)] [.ref 2] h Q := by
  unfold cf_195_12 at hf
  exact cb_195_12 hR  (fun hR => cr_195_17 hd hR hf k)
def cf_195_8 (N : Nat) (X : Nat → Option zz_C) (y1 : Int32) (t : cS) : kO := if ¬ y1 = 3 then cf_195_16 N X  t else cf_195_12 N X  t
theorem cr_195_8 {X : Nat → Option zz_C} {s : mS} {N : Nat} {d : Nat} (hd : 9 ≤ d) {Q : zz_O → zz_H → Prop} {y1 : Int32} {h : zz_H} {t t' : cS} {o : kY} (hR : kR h t s) (hf : cf_195_8 N X y1 t = some (t', o)) (k : (∀ h', kR h' t' s → kE o Q h')) : zz_J zp_P zt_tf zt_fd X d zm_195 8 [(0, .ref 2)] [.int y1, .ref 2] h Q := by
  unfold cf_195_8 at hf
  refine cb_195_8 hR  (fun c {h} hR => ?_) (fun c {h} hR => ?_)
  · rw [if_pos c] at hf
    exact cr_195_16 hd hR hf k
  · rw [if_neg c] at hf
    exact cr_195_12 hd hR hf k
def cf_195_0 (N : Nat) (X : Nat → Option zz_C)  (t : cS) : kO := ko_call 10 (cf_42 N X  t) (fun g1 v1 => co_i v1 (fun y => cf_195_8 N X y g1))
theorem cr_195_0 {X : Nat → Option zz_C} {s : mS} {N : Nat} {d : Nat} (hd : 9 ≤ d) {Q : zz_O → zz_H → Prop}  {h : zz_H} {t t' : cS} {o : kY} (hR : kR h t s) (hf : cf_195_0 N X  t = some (t', o)) (k : (∀ h', kR h' t' s → kE o Q h')) : zz_J zp_P zt_tf zt_fd X d zm_195 0 [(0, .ref 2)] [] h Q := by
  unfold cf_195_0 at hf
  obtain ⟨d', rfl⟩ : ∃ d', d = d' + 1 := ⟨d - 1, by omega⟩
  refine cb_195_0 hR  (fun {h} hR => ?_)
  rcases ko_call_ok hf with ⟨g1, v1, er, hf⟩ | ⟨g1, er, hq⟩
  · obtain ⟨y, hv, hf2⟩ := co_i_ok hf
    clear hf
    have hf := hf2
    clear hf2
    subst hv
    refine cr_42 (by omega) hR er (fun h hR => ?_)
    exact cr_195_8 hd hR hf k
  · refine cr_42 (by omega) hR er (fun h hR => ?_)
    exact ko_thrown hq hR k
/-- passVariable -/
def cf_195 (N : Nat) (X : Nat → Option zz_C)  (t : cS) : kO := cf_195_0 N X  t
theorem cr_195 {X : Nat → Option zz_C} {s : mS} {N : Nat} {d : Nat} (hd : 9 ≤ d) {Q : zz_O → zz_H → Prop}  {h : zz_H} {t t' : cS} {o : kY} (hR : kR h t s) (hf : cf_195 N X  t = some (t', o)) (k : ∀ h', kR h' t' s → kE o Q h') : zz_J zp_P zt_tf zt_fd X d zm_195 0 [(0, .ref 2)] [] h Q := by
  unfold cf_195 at hf
  exact zz_J.weak (cr_195_0 hd hR hf k) rfl ⟨rfl, trivial⟩
/-! yX11_numbered (J)LTallySlate$Word; -/
theorem cb_248_0 {X : Nat → Option zz_C} {h : zz_H} {t : cS} {s : mS} {d : Nat} {Q : zz_O → zz_H → Prop} {x0 : Int64} (hR : kR h t s) (k1 : (lg_cmp x0 0) < 0 → (∀ {h : zz_H}, kR h t s → zz_J zp_P zt_tf zt_fd X d zm_248 25 [] [] h Q)) (k2 : ¬ (lg_cmp x0 0) < 0 → (∀ {h : zz_H}, kR h t s → zz_J zp_P zt_tf zt_fd X d zm_248 6 [(0, .long x0)] [] h Q)) : zz_J zp_P zt_tf zt_fd X d zm_248 0 [(0, .long x0)] [] h Q := by
  refine zz_J.n 1 rfl rfl rfl ?_
  refine zz_J.c 2 (.long 0) rfl rfl rfl rfl ?_
  refine zz_J.n 3 rfl rfl rfl ?_
  refine zz_J.b1 25 6 (A := (lg_cmp x0 0) < 0) rfl rfl (by decide) rfl rfl (fun c => ?_) (fun c => ?_)
  · exact zz_J.weak (k1 c hR) rfl trivial
  · exact zz_J.weak (k2 c hR) rfl ⟨rfl, trivial⟩
theorem cb_248_6 {X : Nat → Option zz_C} {h : zz_H} {t : cS} {s : mS} {d : Nat} {Q : zz_O → zz_H → Prop} {x0 : Int64} (hR : kR h t s) {w0 : Int32} (e0 : hlen X [] (zz_out + 42) = some w0) (k1 : 0 ≤ (lg_cmp x0 (Int32.toInt64 w0)) → (∀ {h : zz_H}, kR h t s → zz_J zp_P zt_tf zt_fd X d zm_248 25 [] [] h Q)) (k2 : ¬ 0 ≤ (lg_cmp x0 (Int32.toInt64 w0)) → (∀ {h : zz_H}, kR h t s → zz_J zp_P zt_tf zt_fd X d zm_248 16 [(0, .long x0)] [] h Q)) : zz_J zp_P zt_tf zt_fd X d zm_248 6 [(0, .long x0)] [] h Q := by
  refine zz_J.n 7 rfl rfl rfl ?_
  refine zz_J.c 10 (.ref (zz_out + 42)) rfl rfl rfl rfl ?_
  refine zz_J.ln 11 rfl ((hx_ln (Nat.not_lt.mpr (Nat.le_add_right _ _))).trans e0) rfl ?_
  refine zz_J.n 12 rfl rfl rfl ?_
  refine zz_J.n 13 rfl rfl rfl ?_
  refine zz_J.b1 25 16 (A := 0 ≤ (lg_cmp x0 (Int32.toInt64 w0))) rfl rfl (by decide) rfl rfl (fun c => ?_) (fun c => ?_)
  · exact zz_J.weak (k1 c hR) rfl trivial
  · exact zz_J.weak (k2 c hR) rfl ⟨rfl, trivial⟩
theorem cb_248_16 {X : Nat → Option zz_C} {h : zz_H} {t : cS} {s : mS} {d : Nat} {Q : zz_O → zz_H → Prop} {x0 : Int64} (hR : kR h t s) {w0 : Nat} (e0 : har X [] (zz_out + 42) (Int64.toInt32 x0) = some w0) (k : ∀ {h : zz_H}, kR h t s → zz_J zp_P zt_tf zt_fd X d zm_248 28 [] [.ref w0] h Q) : zz_J zp_P zt_tf zt_fd X d zm_248 16 [(0, .long x0)] [] h Q := by
  refine zz_J.c 19 (.ref (zz_out + 42)) rfl rfl rfl rfl ?_
  refine zz_J.n 20 rfl rfl rfl ?_
  refine zz_J.n 21 rfl rfl rfl ?_
  refine zz_J.ar 22 rfl ((hx_ar (Nat.not_lt.mpr (Nat.le_add_right _ _))).trans e0) rfl ?_
  refine zz_J.n 28 rfl rfl rfl ?_
  exact zz_J.weak (k hR) rfl trivial
theorem cb_248_25 {X : Nat → Option zz_C} {h : zz_H} {t : cS} {s : mS} {d : Nat} {Q : zz_O → zz_H → Prop}  (hR : kR h t s) (k : ∀ {h : zz_H}, kR h t s → zz_J zp_P zt_tf zt_fd X d zm_248 28 [] [.ref (zz_out + 1)] h Q) : zz_J zp_P zt_tf zt_fd X d zm_248 25 [] [] h Q := by
  refine zz_J.c 28 (.ref (zz_out + 1)) rfl rfl rfl rfl ?_
  exact zz_J.weak (k hR) rfl trivial
theorem cb_248_28 {X : Nat → Option zz_C} {h : zz_H} {t : cS} {s : mS} {d : Nat} {Q : zz_O → zz_H → Prop} {y0 : Nat} (hR : kR h t s) (k : ∀ {h : zz_H}, kR h t s → Q (.inl (some (.ref y0))) h) : zz_J zp_P zt_tf zt_fd X d zm_248 28 [] [.ref y0] h Q := by
  refine zz_J.ret rfl rfl rfl ?_
  exact k hR
def cf_248_28 (N : Nat) (X : Nat → Option zz_C) (y0 : Nat) (t : cS) : kO := some (t, .inl (some (.ref y0)))
theorem cr_248_28 {X : Nat → Option zz_C} {s : mS} {N : Nat} {d : Nat} (hd : 0 ≤ d) {Q : zz_O → zz_H → Prop} {y0 : Nat} {h : zz_H} {t t' : cS} {o : kY} (hR : kR h t s) (hf : cf_248_28 N X y0 t = some (t', o)) (k : (∀ h', kR h' t' s → kE o Q h')) : zz_J zp_P zt_tf zt_fd X d zm_248 28 [] [.ref y0] h Q := by
  unfold cf_248_28 at hf
  cases hf
  exact cb_248_28 hR  (fun {h} hR => k h hR)
def cf_248_25 (N : Nat) (X : Nat → Option zz_C)  (t : cS) : kO := cf_248_28 N X (zz_out + 1) t
theorem cr_248_25 {X : Nat → Option zz_C} {s : mS} {N : Nat} {d : Nat} (hd : 0 ≤ d) {Q : zz_O → zz_H → Prop}  {h : zz_H} {t t' : cS} {o : kY} (hR : kR h t s) (hf : cf_248_25 N X  t = some (t', o)) (k : (∀ h', kR h' t' s → kE o Q h')) : zz_J zp_P zt_tf zt_fd X d zm_248 25 [] [] h Q := by
  unfold cf_248_25 at hf
  exact cb_248_25 hR  (fun hR => cr_248_28 hd hR hf k)
def cf_248_16 (N : Nat) (X : Nat → Option zz_C) (x0 : Int64) (t : cS) : kO := co_b (har X [] (zz_out + 42) (Int64.toInt32 x0)) (fun w0 => cf_248_28 N X w0 t)
theorem cr_248_16 {X : Nat → Option zz_C} {s : mS} {N : Nat} {d : Nat} (hd : 0 ≤ d) {Q : zz_O → zz_H → Prop} {x0 : Int64} {h : zz_H} {t t' : cS} {o : kY} (hR : kR h t s) (hf : cf_248_16 N X x0 t = some (t', o)) (k : (∀ h', kR h' t' s → kE o Q h')) : zz_J zp_P zt_tf zt_fd X d zm_248 16 [(0, .long x0)] [] h Q := by
  unfold cf_248_16 at hf
  obtain ⟨w0, e0, hf⟩ := co_b_ok hf
  exact cb_248_16 hR e0 (fun hR => cr_248_28 hd hR hf k)
def cf_248_6 (N : Nat) (X : Nat → Option zz_C) (x0 : Int64) (t : cS) : kO := co_b (hlen X [] (zz_out + 42)) (fun w0 => if 0 ≤ (lg_cmp x0 (Int32.toInt64 w0)) then cf_248_25 N X  t else cf_248_16 N X x0 t)
theorem cr_248_6 {X : Nat → Option zz_C} {s : mS} {N : Nat} {d : Nat} (hd : 0 ≤ d) {Q : zz_O → zz_H → Prop} {x0 : Int64} {h : zz_H} {t t' : cS} {o : kY} (hR : kR h t s) (hf : cf_248_6 N X x0 t = some (t', o)) (k : (∀ h', kR h' t' s → kE o Q h')) : zz_J zp_P zt_tf zt_fd X d zm_248 6 [(0, .long x0)] [] h Q := by
  unfold cf_248_6 at hf
  obtain ⟨w0, e0, hf⟩ := co_b_ok hf
  refine cb_248_6 hR e0 (fun c {h} hR => ?_) (fun c {h} hR => ?_)
  · rw [if_pos c] at hf
    exact cr_248_25 hd hR hf k
  · rw [if_neg c] at hf
    exact cr_248_16 hd hR hf k
def cf_248_0 (N : Nat) (X : Nat → Option zz_C) (x0 : Int64) (t : cS) : kO := if (lg_cmp x0 0) < 0 then cf_248_25 N X  t else cf_248_6 N X x0 t
theorem cr_248_0 {X : Nat → Option zz_C} {s : mS} {N : Nat} {d : Nat} (hd : 0 ≤ d) {Q : zz_O → zz_H → Prop} {x0 : Int64} {h : zz_H} {t t' : cS} {o : kY} (hR : kR h t s) (hf : cf_248_0 N X x0 t = some (t', o)) (k : (∀ h', kR h' t' s → kE o Q h')) : zz_J zp_P zt_tf zt_fd X d zm_248 0 [(0, .long x0)] [] h Q := by
  unfold cf_248_0 at hf
  refine cb_248_0 hR  (fun c {h} hR => ?_) (fun c {h} hR => ?_)
  · rw [if_pos c] at hf
    exact cr_248_25 hd hR hf k
  · rw [if_neg c] at hf
    exact cr_248_6 hd hR hf k
/-- numbered -/
def cf_248 (N : Nat) (X : Nat → Option zz_C) (x0 : Int64) (t : cS) : kO := cf_248_0 N X x0 t
theorem cr_248 {X : Nat → Option zz_C} {s : mS} {N : Nat} {d : Nat} (hd : 0 ≤ d) {Q : zz_O → zz_H → Prop} {x0 : Int64} {h : zz_H} {t t' : cS} {o : kY} (hR : kR h t s) (hf : cf_248 N X x0 t = some (t', o)) (k : ∀ h', kR h' t' s → kE o Q h') : zz_J zp_P zt_tf zt_fd X d zm_248 0 [(0, .long x0)] [] h Q := by
  unfold cf_248 at hf
  exact zz_J.weak (cr_248_0 hd hR hf k) rfl ⟨rfl, trivial⟩
/-! yX5_wordNow ()LTallySlate$Word; -/
theorem cb_199_0 {X : Nat → Option zz_C} {h : zz_H} {t : cS} {s : mS} {d : Nat} {Q : zz_O → zz_H → Prop}  (hR : kR h t s) (k : ∀ {h : zz_H}, kR h t s → zz_J zp_P zt_tf zt_fd X d zm_244 0 [(0, .ref 3)] [] h (zz_after 10 Q (fun v h' => zz_J zp_P zt_tf zt_fd X (d + 1) zm_199 7 [] (v.toList ++ []) h' Q))) : zz_J zp_P zt_tf zt_fd X (d + 1) zm_199 0 [(0, .ref 2)] [] h Q := by
  refine zz_J.n 1 rfl rfl rfl ?_
  refine zz_J.g 4 rfl (hR.gv (v := .ref 3) ko_2 (by decide) rfl) rfl ?_
  refine zz_J.cv 7 (as := []) rfl rfl (hR.clO ko_3 (by decide) (by decide)) (by decide) (Nat.le_of_ble_eq_true rfl) (Nat.le_of_ble_eq_true rfl) rfl (Nat.le_of_ble_eq_true rfl) rfl ?_
  refine zz_J.mono (k hR) ?_
  intro o h' hE
  cases o with
  | inl v => exact zz_J.weak hE rfl trivial
  | inr q => exact hE
theorem cb_199_7 {X : Nat → Option zz_C} {h : zz_H} {t : cS} {s : mS} {d : Nat} {Q : zz_O → zz_H → Prop} {y0 : Int64} (hR : kR h t s) (k : ∀ {h : zz_H}, kR h t s → zz_J zp_P zt_tf zt_fd X d zm_248 0 [(0, .long y0)] [] h (zz_after 0 Q (fun v h' => zz_J zp_P zt_tf zt_fd X (d + 1) zm_199 10 [] (v.toList ++ []) h' Q))) : zz_J zp_P zt_tf zt_fd X (d + 1) zm_199 7 [] [.long y0] h Q := by
  refine zz_J.cl (M' := zm_248) 10 rfl rfl (by decide) rfl rfl ⟨rfl, Nat.le_of_ble_eq_true rfl⟩ rfl ?_
  refine zz_J.mono (k hR) ?_
  intro o h' hE
  cases o with
  | inl v => exact zz_J.weak hE rfl trivial
  | inr q => exact hE
theorem cb_199_10 {X : Nat → Option zz_C} {h : zz_H} {t : cS} {s : mS} {d : Nat} {Q : zz_O → zz_H → Prop} {y0 : Nat} (hR : kR h t s) (k : ∀ {h : zz_H}, kR h t s → Q (.inl (some (.ref y0))) h) : zz_J zp_P zt_tf zt_fd X d zm_199 10 [] [.ref y0] h Q := by
  refine zz_J.ret rfl rfl rfl ?_
  exact k hR
def cf_199_10 (N : Nat) (X : Nat → Option zz_C) (y0 : Nat) (t : cS) : kO := some (t, .inl (some (.ref y0)))
theorem cr_199_10 {X : Nat → Option zz_C} {s : mS} {N : Nat} {d : Nat} (hd : 1 ≤ d) {Q : zz_O → zz_H → Prop} {y0 : Nat} {h : zz_H} {t t' : cS} {o : kY} (hR : kR h t s) (hf : cf_199_10 N X y0 t = some (t', o)) (k : (∀ h', kR h' t' s → kE o Q h')) : zz_J zp_P zt_tf zt_fd X d zm_199 10 [] [.ref y0] h Q := by
  unfold cf_199_10 at hf
  cases hf
  exact cb_199_10 hR  (fun {h} hR => k h hR)
def cf_199_7 (N : Nat) (X : Nat → Option zz_C) (y0 : Int64) (t : cS) : kO := ko_call 0 (cf_248 N X y0 t) (fun g1 v1 => co_r v1 (fun y => cf_199_10 N X y g1))
theorem cr_199_7 {X : Nat → Option zz_C} {s : mS} {N : Nat} {d : Nat} (hd : 1 ≤ d) {Q : zz_O → zz_H → Prop} {y0 : Int64} {h : zz_H} {t t' : cS} {o : kY} (hR : kR h t s) (hf : cf_199_7 N X y0 t = some (t', o)) (k : (∀ h', kR h' t' s → kE o Q h')) : zz_J zp_P zt_tf zt_fd X d zm_199 7 [] [.long y0] h Q := by
  unfold cf_199_7 at hf
  obtain ⟨d', rfl⟩ : ∃ d', d = d' + 1 := ⟨d - 1, by omega⟩
  refine cb_199_7 hR  (fun {h} hR => ?_)
  rcases ko_call_ok hf with ⟨g1, v1, er, hf⟩ | ⟨g1, er, hq⟩
  · obtain ⟨y, hv, hf2⟩ := co_r_ok hf
    clear hf
    have hf := hf2
    clear hf2
    subst hv
    refine cr_248 (by omega) hR er (fun h hR => ?_)
    exact cr_199_10 hd hR hf k
  · refine cr_248 (by omega) hR er (fun h hR => ?_)
    exact ko_thrown hq hR k
def cf_199_0 (N : Nat) (X : Nat → Option zz_C)  (t : cS) : kO := ko_call 10 (cf_244 N X  t) (fun g1 v1 => co_l v1 (fun y => cf_199_7 N X y g1))
theorem cr_199_0 {X : Nat → Option zz_C} {s : mS} {N : Nat} {d : Nat} (hd : 1 ≤ d) {Q : zz_O → zz_H → Prop}  {h : zz_H} {t t' : cS} {o : kY} (hR : kR h t s) (hf : cf_199_0 N X  t = some (t', o)) (k : (∀ h', kR h' t' s → kE o Q h')) : zz_J zp_P zt_tf zt_fd X d zm_199 0 [(0, .ref 2)] [] h Q := by
  unfold cf_199_0 at hf
  obtain ⟨d', rfl⟩ : ∃ d', d = d' + 1 := ⟨d - 1, by omega⟩
  refine cb_199_0 hR  (fun {h} hR => ?_)
  rcases ko_call_ok hf with ⟨g1, v1, er, hf⟩ | ⟨g1, er, hq⟩
  · obtain ⟨y, hv, hf2⟩ := co_l_ok hf
    clear hf
    have hf := hf2
    clear hf2
    subst hv
    refine cr_244 (by omega) hR er (fun h hR => ?_)
    exact cr_199_7 hd hR hf k
  · refine cr_244 (by omega) hR er (fun h hR => ?_)
    exact ko_thrown hq hR k
/-- wordNow -/
def cf_199 (N : Nat) (X : Nat → Option zz_C)  (t : cS) : kO := cf_199_0 N X  t
theorem cr_199 {X : Nat → Option zz_C} {s : mS} {N : Nat} {d : Nat} (hd : 1 ≤ d) {Q : zz_O → zz_H → Prop}  {h : zz_H} {t t' : cS} {o : kY} (hR : kR h t s) (hf : cf_199 N X  t = some (t', o)) (k : ∀ h', kR h' t' s → kE o Q h') : zz_J zp_P zt_tf zt_fd X d zm_199 0 [(0, .ref 2)] [] h Q := by
  unfold cf_199 at hf
  exact zz_J.weak (cr_199_0 hd hR hf k) rfl ⟨rfl, trivial⟩
/-! yX10_kindNext ()I -/
theorem cb_242_0 {X : Nat → Option zz_C} {h : zz_H} {t : cS} {s : mS} {d : Nat} {Q : zz_O → zz_H → Prop}  (hR : kR h t s) (k1 : (kI t 3 3) ≤ ((kI t 3 4) + 1) → (∀ {h : zz_H}, kR h t s → zz_J zp_P zt_tf zt_fd X d zm_242 27 [] [] h Q)) (k2 : ¬ (kI t 3 3) ≤ ((kI t 3 4) + 1) → (∀ {h : zz_H}, kR h t s → zz_J zp_P zt_tf zt_fd X d zm_242 13 [(0, .ref 3)] [] h Q)) : zz_J zp_P zt_tf zt_fd X d zm_242 0 [(0, .ref 3)] [] h Q := by
  refine zz_J.n 1 rfl rfl rfl ?_
  refine zz_J.g 4 rfl (hR.gv (v := .int (kI t 3 4)) ko_3 (by decide) rfl) rfl ?_
  refine zz_J.c 5 (.int 1) rfl rfl rfl rfl ?_
  refine zz_J.n 6 rfl rfl rfl ?_
  refine zz_J.n 7 rfl rfl rfl ?_
  refine zz_J.g 10 rfl (hR.gv (v := .int (kI t 3 3)) ko_3 (by decide) rfl) rfl ?_
  refine zz_J.b2 27 13 (A := (kI t 3 3) ≤ ((kI t 3 4) + 1)) rfl rfl (by decide) rfl rfl (fun c => ?_) (fun c => ?_)
  · exact zz_J.weak (k1 c hR) rfl trivial
  · exact zz_J.weak (k2 c hR) rfl ⟨rfl, trivial⟩
theorem cb_242_13 {X : Nat → Option zz_C} {h : zz_H} {t : cS} {s : mS} {d : Nat} {Q : zz_O → zz_H → Prop}  (hR : kR h t s) (e0 : ¬ (((kI t 3 4) + 1) < 0 ∨ (kA t 4).1 ≤ (Int32.toNatClampNeg ((kI t 3 4) + 1)))) (k : ∀ {h : zz_H}, kR h t s → zz_J zp_P zt_tf zt_fd X d zm_242 28 [] [.int ((kA t 4).2 (Int32.toNatClampNeg ((kI t 3 4) + 1)))] h Q) : zz_J zp_P zt_tf zt_fd X d zm_242 13 [(0, .ref 3)] [] h Q := by
  refine zz_J.n 14 rfl rfl rfl ?_
  refine zz_J.g 17 rfl (hR.gv (v := .ref (kD t 4)) ko_3 (by decide) rfl) rfl ?_
  refine zz_J.n 18 rfl rfl rfl ?_
  refine zz_J.g 21 rfl (hR.gv (v := .int (kI t 3 4)) ko_3 (by decide) rfl) rfl ?_
  refine zz_J.c 22 (.int 1) rfl rfl rfl rfl ?_
  refine zz_J.n 23 rfl rfl rfl ?_
  refine zz_J.ai 24 rfl (hR.ai (w := ((kA t 4).2 (Int32.toNatClampNeg ((kI t 3 4) + 1)))) ka_4 rfl e0 rfl) rfl ?_
  refine zz_J.n 28 rfl rfl rfl ?_
  exact zz_J.weak (k hR) rfl trivial
theorem cb_242_27 {X : Nat → Option zz_C} {h : zz_H} {t : cS} {s : mS} {d : Nat} {Q : zz_O → zz_H → Prop}  (hR : kR h t s) (k : ∀ {h : zz_H}, kR h t s → zz_J zp_P zt_tf zt_fd X d zm_242 28 [] [.int 0] h Q) : zz_J zp_P zt_tf zt_fd X d zm_242 27 [] [] h Q := by
  refine zz_J.c 28 (.int 0) rfl rfl rfl rfl ?_
  exact zz_J.weak (k hR) rfl trivial
theorem cb_242_28 {X : Nat → Option zz_C} {h : zz_H} {t : cS} {s : mS} {d : Nat} {Q : zz_O → zz_H → Prop} {y0 : Int32} (hR : kR h t s) (k : ∀ {h : zz_H}, kR h t s → Q (.inl (some (.int y0))) h) : zz_J zp_P zt_tf zt_fd X d zm_242 28 [] [.int y0] h Q := by
  refine zz_J.ret rfl rfl rfl ?_
  exact k hR
def cf_242_28 (N : Nat) (X : Nat → Option zz_C) (y0 : Int32) (t : cS) : kO := some (t, .inl (some (.int y0)))
theorem cr_242_28 {X : Nat → Option zz_C} {s : mS} {N : Nat} {d : Nat} (hd : 0 ≤ d) {Q : zz_O → zz_H → Prop} {y0 : Int32} {h : zz_H} {t t' : cS} {o : kY} (hR : kR h t s) (hf : cf_242_28 N X y0 t = some (t', o)) (k : (∀ h', kR h' t' s → kE o Q h')) : zz_J zp_P zt_tf zt_fd X d zm_242 28 [] [.int y0] h Q := by
  unfold cf_242_28 at hf
  cases hf
  exact cb_242_28 hR  (fun {h} hR => k h hR)
def cf_242_27 (N : Nat) (X : Nat → Option zz_C)  (t : cS) : kO := cf_242_28 N X 0 t
theorem cr_242_27 {X : Nat → Option zz_C} {s : mS} {N : Nat} {d : Nat} (hd : 0 ≤ d) {Q : zz_O → zz_H → Prop}  {h : zz_H} {t t' : cS} {o : kY} (hR : kR h t s) (hf : cf_242_27 N X  t = some (t', o)) (k : (∀ h', kR h' t' s → kE o Q h')) : zz_J zp_P zt_tf zt_fd X d zm_242 27 [] [] h Q := by
  unfold cf_242_27 at hf
  exact cb_242_27 hR  (fun hR => cr_242_28 hd hR hf k)
def cf_242_13 (N : Nat) (X : Nat → Option zz_C)  (t : cS) : kO := if ¬ (((kI t 3 4) + 1) < 0 ∨ (kA t 4).1 ≤ (Int32.toNatClampNeg ((kI t 3 4) + 1))) then (cf_242_28 N X ((kA t 4).2 (Int32.toNatClampNeg ((kI t 3 4) + 1))) t) else none
theorem cr_242_13 {X : Nat → Option zz_C} {s : mS} {N : Nat} {d : Nat} (hd : 0 ≤ d) {Q : zz_O → zz_H → Prop}  {h : zz_H} {t t' : cS} {o : kY} (hR : kR h t s) (hf : cf_242_13 N X  t = some (t', o)) (k : (∀ h', kR h' t' s → kE o Q h')) : zz_J zp_P zt_tf zt_fd X d zm_242 13 [(0, .ref 3)] [] h Q := by
  unfold cf_242_13 at hf
  obtain ⟨e0, hf⟩ := ko_if hf
  exact cb_242_13 hR e0 (fun hR => cr_242_28 hd hR hf k)
def cf_242_0 (N : Nat) (X : Nat → Option zz_C)  (t : cS) : kO := if (kI t 3 3) ≤ ((kI t 3 4) + 1) then cf_242_27 N X  t else cf_242_13 N X  t
theorem cr_242_0 {X : Nat → Option zz_C} {s : mS} {N : Nat} {d : Nat} (hd : 0 ≤ d) {Q : zz_O → zz_H → Prop}  {h : zz_H} {t t' : cS} {o : kY} (hR : kR h t s) (hf : cf_242_0 N X  t = some (t', o)) (k : (∀ h', kR h' t' s → kE o Q h')) : zz_J zp_P zt_tf zt_fd X d zm_242 0 [(0, .ref 3)] [] h Q := by
  unfold cf_242_0 at hf
  refine cb_242_0 hR  (fun c {h} hR => ?_) (fun c {h} hR => ?_)
  · rw [if_pos c] at hf
    exact cr_242_27 hd hR hf k
  · rw [if_neg c] at hf
    exact cr_242_13 hd hR hf k
/-- kindNext -/
def cf_242 (N : Nat) (X : Nat → Option zz_C)  (t : cS) : kO := cf_242_0 N X  t
theorem cr_242 {X : Nat → Option zz_C} {s : mS} {N : Nat} {d : Nat} (hd : 0 ≤ d) {Q : zz_O → zz_H → Prop}  {h : zz_H} {t t' : cS} {o : kY} (hR : kR h t s) (hf : cf_242 N X  t = some (t', o)) (k : ∀ h', kR h' t' s → kE o Q h') : zz_J zp_P zt_tf zt_fd X d zm_242 0 [(0, .ref 3)] [] h Q := by
  unfold cf_242 at hf
  exact zz_J.weak (cr_242_0 hd hR hf k) rfl ⟨rfl, trivial⟩
