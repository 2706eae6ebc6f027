/-! yX5_parameter ()V -/
theorem cb_175_0 {X : Nat → Option zz_C} {h : zz_H} {t : cS} {s : mS} {d : Nat} {Q : zz_O → zz_H → Prop}  (hR : kR h t s) (k : ∀ {h : zz_H}, kR h t s → zz_J zp_P zt_tf zt_fd X d zm_42 0 [(0, .ref 3)] [] h (zz_after 10 Q (fun v h' => zz_J zp_P zt_tf zt_fd X (d + 1) zm_175 8 [(0, .ref 2)] (v.toList ++ [.ref 2]) h' Q))) : zz_J zp_P zt_tf zt_fd X (d + 1) zm_175 0 [(0, .ref 2)] [] h Q := by
  refine zz_J.n 1 rfl rfl rfl ?_
  refine zz_J.n 2 rfl rfl rfl ?_
  refine zz_J.g 5 rfl (hR.gv (v := .ref 3) ko_2 (by decide) rfl) rfl ?_
  refine zz_J.cv 8 (as := [.ref 2]) rfl rfl (hR.clO ko_3 (by decide) (by decide)) (by decide) (Nat.le_of_ble_eq_true rfl) (Nat.le_of_ble_eq_true rfl) rfl (Nat.le_of_ble_eq_true rfl) rfl ?_
  refine zz_J.mono (k hR) ?_
  intro o h' hE
  cases o with
  | inl v => exact zz_J.weak hE rfl ⟨rfl, trivial⟩
  | inr q => exact hE
theorem cb_175_8 {X : Nat → Option zz_C} {h : zz_H} {t : cS} {s : mS} {d : Nat} {Q : zz_O → zz_H → Prop} {y1 : Int32} (hR : kR h t s) (k1 : ¬ y1 = 3 → (∀ {h : zz_H}, kR h t s → zz_J zp_P zt_tf zt_fd X d zm_175 16 [(0, .ref 2)] [.ref 2] h Q)) (k2 : ¬ ¬ y1 = 3 → (∀ {h : zz_H}, kR h t s → zz_J zp_P zt_tf zt_fd X d zm_175 12 [(0, .ref 2)] [.ref 2] h Q)) : zz_J zp_P zt_tf zt_fd X d zm_175 8 [(0, .ref 2)] [.int y1, .ref 2] h Q := by
  refine zz_J.c 9 (.int 3) rfl rfl rfl rfl ?_
  refine zz_J.b2 16 12 (A := ¬ y1 = 3) rfl (zz_cond_ne _ _) (by decide) rfl rfl (fun c => ?_) (fun c => ?_)
  · exact zz_J.weak (k1 c hR) rfl ⟨rfl, trivial⟩
  · exact zz_J.weak (k2 c hR) rfl ⟨rfl, trivial⟩
theorem cb_175_12 {X : Nat → Option zz_C} {h : zz_H} {t : cS} {s : mS} {d : Nat} {Q : zz_O → zz_H → Prop}  (hR : kR h t s) (k : ∀ {h : zz_H}, kR h t s → zz_J zp_P zt_tf zt_fd X d zm_175 17 [(0, .ref 2)] [.int 1, .ref 2] h Q) : zz_J zp_P zt_tf zt_fd X d zm_175 12 [(0, .ref 2)] [.ref 2] h Q := by
  refine zz_J.c 13 (.int 1) rfl rfl rfl rfl ?_
  refine zz_J.n 17 rfl rfl rfl ?_
  exact zz_J.weak (k hR) rfl ⟨rfl, trivial⟩
theorem cb_175_16 {X : Nat → Option zz_C} {h : zz_H} {t : cS} {s : mS} {d : Nat} {Q : zz_O → zz_H → Prop}  (hR : kR h t s) (k : ∀ {h : zz_H}, kR h t s → zz_J zp_P zt_tf zt_fd X d zm_175 17 [(0, .ref 2)] [.int 0, .ref 2] h Q) : zz_J zp_P zt_tf zt_fd X d zm_175 16 [(0, .ref 2)] [.ref 2] h Q := by
  refine zz_J.c 17 (.int 0) rfl rfl rfl rfl ?_
  exact zz_J.weak (k hR) rfl ⟨rfl, trivial⟩
theorem cb_175_17 {X : Nat → Option zz_C} {h : zz_H} {t : cS} {s : mS} {d : Nat} {Q : zz_O → zz_H → Prop} {y1 : Int32} (hR : kR h t s) (k : ∀ {h : zz_H}, kR h t s → zz_J zp_P zt_tf zt_fd X d zm_202 0 [(0, .ref 2), (1, .int y1), (2, .int 2)] [] h (zz_after 5 Q (fun v h' => zz_J zp_P zt_tf zt_fd X (d + 1) zm_175 21 [(0, .ref 2)] (v.toList ++ []) h' Q))) : zz_J zp_P zt_tf zt_fd X (d + 1) zm_175 17 [(0, .ref 2)] [.int y1, .ref 2] h Q := by
  refine zz_J.c 18 (.int 2) rfl rfl rfl rfl ?_
  refine zz_J.cv 21 (as := []) rfl rfl (hR.clO ko_2 (by decide) (by decide)) (by decide) (Nat.le_of_ble_eq_true rfl) (Nat.le_of_ble_eq_true rfl) rfl (Nat.le_of_ble_eq_true rfl) rfl ?_
  refine zz_J.mono (k hR) ?_
  intro o h' hE
  cases o with
  | inl v => exact zz_J.weak hE rfl ⟨rfl, trivial⟩
  | inr q => exact hE
theorem cb_175_21 {X : Nat → Option zz_C} {h : zz_H} {t : cS} {s : mS} {d : Nat} {Q : zz_O → zz_H → Prop}  (hR : kR h t s) (k : ∀ {h : zz_H}, kR h t s → zz_J zp_P zt_tf zt_fd X d zm_244 0 [(0, .ref 3)] [] h (zz_after 10 Q (fun v h' => zz_J zp_P zt_tf zt_fd X (d + 1) zm_175 28 [(0, .ref 2)] (v.toList ++ []) h' Q))) : zz_J zp_P zt_tf zt_fd X (d + 1) zm_175 21 [(0, .ref 2)] [] h Q := by
  refine zz_J.n 22 rfl rfl rfl ?_
  refine zz_J.g 25 rfl (hR.gv (v := .ref 3) ko_2 (by decide) rfl) rfl ?_
  refine zz_J.cv 28 (as := []) rfl rfl (hR.clO ko_3 (by decide) (by decide)) (by decide) (Nat.le_of_ble_eq_true rfl) (Nat.le_of_ble_eq_true rfl) rfl (Nat.le_of_ble_eq_true rfl) rfl ?_
  refine zz_J.mono (k hR) ?_
  intro o h' hE
  cases o with
  | inl v => exact zz_J.weak hE rfl ⟨rfl, trivial⟩
  | inr q => exact hE
theorem cb_175_28 {X : Nat → Option zz_C} {h : zz_H} {t : cS} {s : mS} {d : Nat} {Q : zz_O → zz_H → Prop} {y0 : Int64} (hR : kR h t s) (k1 : 4 ≤ (kI t 2 4) → (∀ {h : zz_H}, kR h t s → zz_J zp_P zt_tf zt_fd X d zm_175 42 [(0, .ref 2), (1, .long y0)] [.ref 2] h Q)) (k2 : ¬ 4 ≤ (kI t 2 4) → (∀ {h : zz_H}, kR h t s → zz_J zp_P zt_tf zt_fd X d zm_175 38 [(0, .ref 2), (1, .long y0)] [.ref 2] h Q)) : zz_J zp_P zt_tf zt_fd X d zm_175 28 [(0, .ref 2)] [.long y0] h Q := by
  refine zz_J.n 29 rfl rfl rfl ?_
  refine zz_J.n 30 rfl rfl rfl ?_
  refine zz_J.n 31 rfl rfl rfl ?_
  refine zz_J.g 34 rfl (hR.gv (v := .int (kI t 2 4)) ko_2 (by decide) rfl) rfl ?_
  refine zz_J.c 35 (.int 4) rfl rfl rfl rfl ?_
  refine zz_J.b2 42 38 (A := 4 ≤ (kI t 2 4)) rfl rfl (by decide) rfl rfl (fun c => ?_) (fun c => ?_)
  · exact zz_J.weak (k1 c hR) rfl ⟨rfl, rfl, trivial⟩
  · exact zz_J.weak (k2 c hR) rfl ⟨rfl, rfl, trivial⟩
theorem cb_175_38 {X : Nat → Option zz_C} {h : zz_H} {t : cS} {s : mS} {d : Nat} {Q : zz_O → zz_H → Prop} {x1 : Int64} (hR : kR h t s) (k : ∀ {h : zz_H}, kR h t s → zz_J zp_P zt_tf zt_fd X d zm_175 43 [(0, .ref 2), (1, .long x1)] [.int 1, .ref 2] h Q) : zz_J zp_P zt_tf zt_fd X d zm_175 38 [(0, .ref 2), (1, .long x1)] [.ref 2] h Q := by
  refine zz_J.c 39 (.int 1) rfl rfl rfl rfl ?_
  refine zz_J.n 43 rfl rfl rfl ?_
  exact zz_J.weak (k hR) rfl ⟨rfl, rfl, trivial⟩
theorem cb_175_42 {X : Nat → Option zz_C} {h : zz_H} {t : cS} {s : mS} {d : Nat} {Q : zz_O → zz_H → Prop} {x1 : Int64} (hR : kR h t s) (k : ∀ {h : zz_H}, kR h t s → zz_J zp_P zt_tf zt_fd X d zm_175 43 [(0, .ref 2), (1, .long x1)] [.int 0, .ref 2] h Q) : zz_J zp_P zt_tf zt_fd X d zm_175 42 [(0, .ref 2), (1, .long x1)] [.ref 2] h Q := by
  refine zz_J.c 43 (.int 0) rfl rfl rfl rfl ?_
  exact zz_J.weak (k hR) rfl ⟨rfl, rfl, trivial⟩
theorem cb_175_43 {X : Nat → Option zz_C} {h : zz_H} {t : cS} {s : mS} {d : Nat} {Q : zz_O → zz_H → Prop} {x1 : Int64} {y1 : Int32} (hR : kR h t s) (k : ∀ {h : zz_H}, kR h t s → zz_J zp_P zt_tf zt_fd X d zm_202 0 [(0, .ref 2), (1, .int y1), (2, .int 3)] [] h (zz_after 5 Q (fun v h' => zz_J zp_P zt_tf zt_fd X (d + 1) zm_175 47 [(0, .ref 2), (1, .long x1)] (v.toList ++ []) h' Q))) : zz_J zp_P zt_tf zt_fd X (d + 1) zm_175 43 [(0, .ref 2), (1, .long x1)] [.int y1, .ref 2] h Q := by
  refine zz_J.c 44 (.int 3) rfl rfl rfl rfl ?_
  refine zz_J.cv 47 (as := []) rfl rfl (hR.clO ko_2 (by decide) (by decide)) (by decide) (Nat.le_of_ble_eq_true rfl) (Nat.le_of_ble_eq_true rfl) rfl (Nat.le_of_ble_eq_true rfl) rfl ?_
  refine zz_J.mono (k hR) ?_
  intro o h' hE
  cases o with
  | inl v => exact zz_J.weak hE rfl ⟨rfl, rfl, trivial⟩
  | inr q => exact hE
theorem cb_175_47 {X : Nat → Option zz_C} {h : zz_H} {t : cS} {s : mS} {d : Nat} {Q : zz_O → zz_H → Prop} {x1 : Int64} (hR : kR h t s) (k : ∀ {h : zz_H}, kR h t s → zz_J zp_P zt_tf zt_fd X d zm_197 0 [(0, .long x1)] [] h (zz_after 0 Q (fun v h' => zz_J zp_P zt_tf zt_fd X (d + 1) zm_175 52 [(0, .ref 2), (1, .long x1)] (v.toList ++ [.ref 2]) h' Q))) : zz_J zp_P zt_tf zt_fd X (d + 1) zm_175 47 [(0, .ref 2), (1, .long x1)] [] h Q := by
  refine zz_J.n 48 rfl rfl rfl ?_
  refine zz_J.n 49 rfl rfl rfl ?_
  refine zz_J.cl (M' := zm_197) 52 rfl rfl (by decide) rfl rfl ⟨rfl, Nat.le_of_ble_eq_true rfl⟩ rfl ?_
  refine zz_J.mono (k hR) ?_
  intro o h' hE
  cases o with
  | inl v => exact zz_J.weak hE rfl ⟨rfl, rfl, trivial⟩
  | inr q => exact hE
theorem cb_175_52 {X : Nat → Option zz_C} {h : zz_H} {t : cS} {s : mS} {d : Nat} {Q : zz_O → zz_H → Prop} {x1 : Int64} {y1 : Int32} (hR : kR h t s) (k1 : ¬ y1 = 0 → (∀ {h : zz_H}, kR h t s → zz_J zp_P zt_tf zt_fd X d zm_175 68 [(0, .ref 2), (1, .long x1)] [.ref 2] h Q)) (k2 : ¬ ¬ y1 = 0 → (∀ {h : zz_H}, kR h t s → zz_J zp_P zt_tf zt_fd X d zm_175 55 [(0, .ref 2), (1, .long x1)] [.ref 2] h Q)) : zz_J zp_P zt_tf zt_fd X d zm_175 52 [(0, .ref 2), (1, .long x1)] [.int y1, .ref 2] h Q := by
  refine zz_J.b1 68 55 (A := ¬ y1 = 0) rfl (zz_cond_ne _ _) (by decide) rfl rfl (fun c => ?_) (fun c => ?_)
  · exact zz_J.weak (k1 c hR) rfl ⟨rfl, rfl, trivial⟩
  · exact zz_J.weak (k2 c hR) rfl ⟨rfl, rfl, trivial⟩
theorem cb_175_55 {X : Nat → Option zz_C} {h : zz_H} {t : cS} {s : mS} {d : Nat} {Q : zz_O → zz_H → Prop} {x1 : Int64} (hR : kR h t s) (k : ∀ {h : zz_H}, kR h t s → zz_J zp_P zt_tf zt_fd X d zm_196 0 [(0, .ref 2), (1, .long x1)] [] h (zz_after 5 Q (fun v h' => zz_J zp_P zt_tf zt_fd X (d + 1) zm_175 60 [(0, .ref 2), (1, .long x1)] (v.toList ++ [.ref 2]) h' Q))) : zz_J zp_P zt_tf zt_fd X (d + 1) zm_175 55 [(0, .ref 2), (1, .long x1)] [.ref 2] h Q := by
  refine zz_J.n 56 rfl rfl rfl ?_
  refine zz_J.n 57 rfl rfl rfl ?_
  refine zz_J.cv 60 (as := [.ref 2]) rfl rfl (hR.clO ko_2 (by decide) (by decide)) (by decide) (Nat.le_of_ble_eq_true rfl) (Nat.le_of_ble_eq_true rfl) rfl (Nat.le_of_ble_eq_true rfl) rfl ?_
  refine zz_J.mono (k hR) ?_
  intro o h' hE
  cases o with
  | inl v => exact zz_J.weak hE rfl ⟨rfl, rfl, trivial⟩
  | inr q => exact hE
theorem cb_175_60 {X : Nat → Option zz_C} {h : zz_H} {t : cS} {s : mS} {d : Nat} {Q : zz_O → zz_H → Prop} {x1 : Int64} {y1 : Int32} (hR : kR h t s) (k1 : ¬ y1 = (-1) → (∀ {h : zz_H}, kR h t s → zz_J zp_P zt_tf zt_fd X d zm_175 68 [(0, .ref 2), (1, .long x1)] [.ref 2] h Q)) (k2 : ¬ ¬ y1 = (-1) → (∀ {h : zz_H}, kR h t s → zz_J zp_P zt_tf zt_fd X d zm_175 64 [(0, .ref 2), (1, .long x1)] [.ref 2] h Q)) : zz_J zp_P zt_tf zt_fd X d zm_175 60 [(0, .ref 2), (1, .long x1)] [.int y1, .ref 2] h Q := by
  refine zz_J.c 61 (.int (-1)) rfl rfl rfl rfl ?_
  refine zz_J.b2 68 64 (A := ¬ y1 = (-1)) rfl (zz_cond_ne _ _) (by decide) rfl rfl (fun c => ?_) (fun c => ?_)
  · exact zz_J.weak (k1 c hR) rfl ⟨rfl, rfl, trivial⟩
  · exact zz_J.weak (k2 c hR) rfl ⟨rfl, rfl, trivial⟩
theorem cb_175_64 {X : Nat → Option zz_C} {h : zz_H} {t : cS} {s : mS} {d : Nat} {Q : zz_O → zz_H → Prop} {x1 : Int64} (hR : kR h t s) (k : ∀ {h : zz_H}, kR h t s → zz_J zp_P zt_tf zt_fd X d zm_175 69 [(0, .ref 2), (1, .long x1)] [.int 1, .ref 2] h Q) : zz_J zp_P zt_tf zt_fd X d zm_175 64 [(0, .ref 2), (1, .long x1)] [.ref 2] h Q := by
  refine zz_J.c 65 (.int 1) rfl rfl rfl rfl ?_
  refine zz_J.n 69 rfl rfl rfl ?_
  exact zz_J.weak (k hR) rfl ⟨rfl, rfl, trivial⟩
theorem cb_175_68 {X : Nat → Option zz_C} {h : zz_H} {t : cS} {s : mS} {d : Nat} {Q : zz_O → zz_H → Prop} {x1 : Int64} (hR : kR h t s) (k : ∀ {h : zz_H}, kR h t s → zz_J zp_P zt_tf zt_fd X d zm_175 69 [(0, .ref 2), (1, .long x1)] [.int 0, .ref 2] h Q) : zz_J zp_P zt_tf zt_fd X d zm_175 68 [(0, .ref 2), (1, .long x1)] [.ref 2] h Q := by
  refine zz_J.c 69 (.int 0) rfl rfl rfl rfl ?_
  exact zz_J.weak (k hR) rfl ⟨rfl, rfl, trivial⟩
theorem cb_175_69 {X : Nat → Option zz_C} {h : zz_H} {t : cS} {s : mS} {d : Nat} {Q : zz_O → zz_H → Prop} {x1 : Int64} {y1 : Int32} (hR : kR h t s) (k : ∀ {h : zz_H}, kR h t s → zz_J zp_P zt_tf zt_fd X d zm_202 0 [(0, .ref 2), (1, .int y1), (2, .int 4)] [] h (zz_after 5 Q (fun v h' => zz_J zp_P zt_tf zt_fd X (d + 1) zm_175 73 [(0, .ref 2), (1, .long x1)] (v.toList ++ []) h' Q))) : zz_J zp_P zt_tf zt_fd X (d + 1) zm_175 69 [(0, .ref 2), (1, .long x1)] [.int y1, .ref 2] h Q := by
  refine zz_J.c 70 (.int 4) rfl rfl rfl rfl ?_
  refine zz_J.cv 73 (as := []) rfl rfl (hR.clO ko_2 (by decide) (by decide)) (by decide) (Nat.le_of_ble_eq_true rfl) (Nat.le_of_ble_eq_true rfl) rfl (Nat.le_of_ble_eq_true rfl) rfl ?_
  refine zz_J.mono (k hR) ?_
  intro o h' hE
  cases o with
  | inl v => exact zz_J.weak hE rfl ⟨rfl, rfl, trivial⟩
  | inr q => exact hE
theorem cb_175_73 {X : Nat → Option zz_C} {h : zz_H} {t : cS} {s : mS} {d : Nat} {Q : zz_O → zz_H → Prop} {x1 : Int64} (hR : kR h t s) (e0 : ¬ ((kI t 2 4) < 0 ∨ (kB t 7).1 ≤ (Int32.toNatClampNeg (kI t 2 4)))) (k : ∀ {h : zz_H}, kR h (jI (jB t 7 (vp_updL (kB t 7).2 (Int32.toNatClampNeg (kI t 2 4)) x1)) 2 4 ((kI t 2 4) + 1)) s → zz_J zp_P zt_tf zt_fd X d zm_46 0 [(0, .ref 3)] [] h (zz_after 10 Q (fun v h' => zz_J zp_P zt_tf zt_fd X (d + 1) zm_175 100 [] (v.toList ++ []) h' Q))) : zz_J zp_P zt_tf zt_fd X (d + 1) zm_175 73 [(0, .ref 2), (1, .long x1)] [] h Q := by
  refine zz_J.n 74 rfl rfl rfl ?_
  refine zz_J.g 77 rfl (hR.gv (v := .ref (kD t 7)) ko_2 (by decide) rfl) rfl ?_
  refine zz_J.n 78 rfl rfl rfl ?_
  refine zz_J.g 81 rfl (hR.gv (v := .int (kI t 2 4)) ko_2 (by decide) rfl) rfl ?_
  refine zz_J.n 82 rfl rfl rfl ?_
  obtain ⟨h1, eq1, hR⟩ := hR.sl (x := x1) ka_7 rfl e0
  refine zz_J.sl 83 rfl eq1 rfl ?_
  clear eq1
  refine zz_J.n 84 rfl rfl rfl ?_
  refine zz_J.n 85 rfl rfl rfl ?_
  refine zz_J.g 88 rfl (hR.gv (v := .int (kI t 2 4)) ko_2 (by decide) rfl) rfl ?_
  refine zz_J.c 89 (.int 1) rfl rfl rfl rfl ?_
  refine zz_J.n 90 rfl rfl rfl ?_
  obtain ⟨h1, eq1, hR⟩ := hR.pI (x := ((kI t 2 4) + 1)) (by decide) ko_2 (kpi_2_4 _) (Nat.le_of_ble_eq_true rfl) rfl
  refine zz_J.pv 93 rfl eq1 rfl ?_
  clear eq1
  refine zz_J.n 94 rfl rfl rfl ?_
  refine zz_J.g 97 rfl (hR.gv (v := .ref 3) ko_2 (by decide) rfl) rfl ?_
  refine zz_J.cv 100 (as := []) rfl rfl (hR.clO ko_3 (by decide) (by decide)) (by decide) (Nat.le_of_ble_eq_true rfl) (Nat.le_of_ble_eq_true rfl) rfl (Nat.le_of_ble_eq_true rfl) rfl ?_
  refine zz_J.mono (k hR) ?_
  intro o h' hE
  cases o with
  | inl v => exact zz_J.weak hE rfl trivial
  | inr q => exact hE
theorem cb_175_100 {X : Nat → Option zz_C} {h : zz_H} {t : cS} {s : mS} {d : Nat} {Q : zz_O → zz_H → Prop}  (hR : kR h t s) (k : ∀ {h : zz_H}, kR h t s → Q (.inl none) h) : zz_J zp_P zt_tf zt_fd X d zm_175 100 [] [] h Q := by
  refine zz_J.ret rfl rfl rfl ?_
  exact k hR
def cf_175_100 (N : Nat) (X : Nat → Option zz_C)  (t : cS) : kO := some (t, .inl none)
theorem cr_175_100 {X : Nat → Option zz_C} {s : mS} {N : Nat} {d : Nat} (hd : 9 ≤ d) {Q : zz_O → zz_H → Prop}  {h : zz_H} {t t' : cS} {o : kY} (hR : kR h t s) (hf : cf_175_100 N X  t = some (t', o)) (k : (∀ h', kR h' t' s → kE o Q h')) : zz_J zp_P zt_tf zt_fd X d zm_175 100 [] [] h Q := by
  unfold cf_175_100 at hf
  cases hf
  exact cb_175_100 hR  (fun {h} hR => k h hR)
def cf_175_73 (N : Nat) (X : Nat → Option zz_C) (x1 : Int64) (t : cS) : kO := if ¬ ((kI t 2 4) < 0 ∨ (kB t 7).1 ≤ (Int32.toNatClampNeg (kI t 2 4))) then (ko_call 10 (cf_46 N X  (jI (jB t 7 (vp_updL (kB t 7).2 (Int32.toNatClampNeg (kI t 2 4)) x1)) 2 4 ((kI t 2 4) + 1))) (fun g1 v1 => co_v v1 (cf_175_100 N X  g1))) else none
theorem cr_175_73 {X : Nat → Option zz_C} {s : mS} {N : Nat} {d : Nat} (hd : 9 ≤ d) {Q : zz_O → zz_H → Prop} {x1 : Int64} {h : zz_H} {t t' : cS} {o : kY} (hR : kR h t s) (hf : cf_175_73 N X x1 t = some (t', o)) (k : (∀ h', kR h' t' s → kE o Q h')) : zz_J zp_P zt_tf zt_fd X d zm_175 73 [(0, .ref 2), (1, .long x1)] [] h Q := by
  unfold cf_175_73 at hf
  obtain ⟨e0, hf⟩ := ko_if hf
  obtain ⟨d', rfl⟩ : ∃ d', d = d' + 1 := ⟨d - 1, by omega⟩
  refine cb_175_73 hR e0 (fun {h} hR => ?_)
  rcases ko_call_ok hf with ⟨g1, v1, er, hf⟩ | ⟨g1, er, hq⟩
  · obtain ⟨hv, hf2⟩ := co_v_ok hf
    clear hf
    have hf := hf2
    clear hf2
    subst hv
    refine cr_46 (by omega) hR er (fun h hR => ?_)
    exact cr_175_100 hd hR hf k
  · refine cr_46 (by omega) hR er (fun h hR => ?_)
    exact ko_thrown hq hR k
def cf_175_69 (N : Nat) (X : Nat → Option zz_C) (x1 : Int64) (y1 : Int32) (t : cS) : kO := ko_call 5 (cf_202 N X y1 4 t) (fun g1 v1 => co_v v1 (cf_175_73 N X x1 g1))
theorem cr_175_69 {X : Nat → Option zz_C} {s : mS} {N : Nat} {d : Nat} (hd : 9 ≤ d) {Q : zz_O → zz_H → Prop} {x1 : Int64} {y1 : Int32} {h : zz_H} {t t' : cS} {o : kY} (hR : kR h t s) (hf : cf_175_69 N X x1 y1 t = some (t', o)) (k : (∀ h', kR h' t' s → kE o Q h')) : zz_J zp_P zt_tf zt_fd X d zm_175 69 [(0, .ref 2), (1, .long x1)] [.int y1, .ref 2] h Q := by
  unfold cf_175_69 at hf
  obtain ⟨d', rfl⟩ : ∃ d', d = d' + 1 := ⟨d - 1, by omega⟩
  refine cb_175_69 hR  (fun {h} hR => ?_)
  rcases ko_call_ok hf with ⟨g1, v1, er, hf⟩ | ⟨g1, er, hq⟩
  · obtain ⟨hv, hf2⟩ := co_v_ok hf
    clear hf
    have hf := hf2
    clear hf2
    subst hv
    refine cr_202 (by omega) hR er (fun h hR => ?_)
    exact cr_175_73 hd hR hf k
  · refine cr_202 (by omega) hR er (fun h hR => ?_)
    exact ko_thrown hq hR k
def cf_175_68 (N : Nat) (X : Nat → Option zz_C) (x1 : Int64) (t : cS) : kO := cf_175_69 N X x1 0 t
theorem cr_175_68 {X : Nat → Option zz_C} {s : mS} {N : Nat} {d : Nat} (hd : 9 ≤ d) {Q : zz_O → zz_H → Prop} {x1 : Int64} {h : zz_H} {t t' : cS} {o : kY} (hR : kR h t s) (hf : cf_175_68 N X x1 t = some (t', o)) (k : (∀ h', kR h' t' s → kE o Q h')) : zz_J zp_P zt_tf zt_fd X d zm_175 68 [(0, .ref 2), (1, .long x1)] [.ref 2] h Q := by
  unfold cf_175_68 at hf
  exact cb_175_68 hR  (fun hR => cr_175_69 hd hR hf k)
def cf_175_64 (N : Nat) (X : Nat → Option zz_C) (x1 : Int64) (t : cS) : kO := cf_175_69 N X x1 1 t
theorem cr_175_64 {X : Nat → Option zz_C} {s : mS} {N : Nat} {d : Nat} (hd : 9 ≤ d) {Q : zz_O → zz_H → Prop} {x1 : Int64} {h : zz_H} {t t' : cS} {o : kY} (hR : kR h t s) (hf : cf_175_64 N X x1 t = some (t', o)) (k : (∀ h', kR h' t' s → kE o Q h')) : zz_J zp_P zt_tf zt_fd X d zm_175 64 [(0, .ref 2), (1, .long x1)] [.ref 2] h Q := by
  unfold cf_175_64 at hf
  exact cb_175_64 hR  (fun hR => cr_175_69 hd hR hf k)
def cf_175_60 (N : Nat) (X : Nat → Option zz_C) (x1 : Int64) (y1 : Int32) (t : cS) : kO := if ¬ y1 = (-1) then cf_175_68 N X x1 t else cf_175_64 N X x1 t
theorem cr_175_60 {X : Nat → Option zz_C} {s : mS} {N : Nat} {d : Nat} (hd : 9 ≤ d) {Q : zz_O → zz_H → Prop} {x1 : Int64} {y1 : Int32} {h : zz_H} {t t' : cS} {o : kY} (hR : kR h t s) (hf : cf_175_60 N X x1 y1 t = some (t', o)) (k : (∀ h', kR h' t' s → kE o Q h')) : zz_J zp_P zt_tf zt_fd X d zm_175 60 [(0, .ref 2), (1, .long x1)] [.int y1, .ref 2] h Q := by
  unfold cf_175_60 at hf
  refine cb_175_60 hR  (fun c {h} hR => ?_) (fun c {h} hR => ?_)
  · rw [if_pos c] at hf
    exact cr_175_68 hd hR hf k
  · rw [if_neg c] at hf
    exact cr_175_64 hd hR hf k
def cf_175_55 (N : Nat) (X : Nat → Option zz_C) (x1 : Int64) (t : cS) : kO := ko_call 5 (cf_196 N X x1 t) (fun g1 v1 => co_i v1 (fun y => cf_175_60 N X x1 y g1))
theorem cr_175_55 {X : Nat → Option zz_C} {s : mS} {N : Nat} {d : Nat} (hd : 9 ≤ d) {Q : zz_O → zz_H → Prop} {x1 : Int64} {h : zz_H} {t t' : cS} {o : kY} (hR : kR h t s) (hf : cf_175_55 N X x1 t = some (t', o)) (k : (∀ h', kR h' t' s → kE o Q h')) : zz_J zp_P zt_tf zt_fd X d zm_175 55 [(0, .ref 2), (1, .long x1)] [.ref 2] h Q := by
  unfold cf_175_55 at hf
  obtain ⟨d', rfl⟩ : ∃ d', d = d' + 1 := ⟨d - 1, by omega⟩
  refine cb_175_55 hR  (fun {h} hR => ?_)
  rcases ko_call_ok hf with ⟨g1, v1, er, hf⟩ | ⟨g1, er, hq⟩
  · obtain ⟨y, hv, hf2⟩ := co_i_ok hf
    clear hf
    have hf := hf2
    clear hf2
    subst hv
    refine cr_196 (by omega) hR er (fun h hR => ?_)
    exact cr_175_60 hd hR hf k
  · refine cr_196 (by omega) hR er (fun h hR => ?_)
    exact ko_thrown hq hR k
def cf_175_52 (N : Nat) (X : Nat → Option zz_C) (x1 : Int64) (y1 : Int32) (t : cS) : kO := if ¬ y1 = 0 then cf_175_68 N X x1 t else cf_175_55 N X x1 t
theorem cr_175_52 {X : Nat → Option zz_C} {s : mS} {N : Nat} {d : Nat} (hd : 9 ≤ d) {Q : zz_O → zz_H → Prop} {x1 : Int64} {y1 : Int32} {h : zz_H} {t t' : cS} {o : kY} (hR : kR h t s) (hf : cf_175_52 N X x1 y1 t = some (t', o)) (k : (∀ h', kR h' t' s → kE o Q h')) : zz_J zp_P zt_tf zt_fd X d zm_175 52 [(0, .ref 2), (1, .long x1)] [.int y1, .ref 2] h Q := by
  unfold cf_175_52 at hf
  refine cb_175_52 hR  (fun c {h} hR => ?_) (fun c {h} hR => ?_)
  · rw [if_pos c] at hf
    exact cr_175_68 hd hR hf k
  · rw [if_neg c] at hf
    exact cr_175_55 hd hR hf k
def cf_175_47 (N : Nat) (X : Nat → Option zz_C) (x1 : Int64) (t : cS) : kO := ko_call 0 (cf_197 N X x1 t) (fun g1 v1 => co_i v1 (fun y => cf_175_52 N X x1 y g1))
theorem cr_175_47 {X : Nat → Option zz_C} {s : mS} {N : Nat} {d : Nat} (hd : 9 ≤ d) {Q : zz_O → zz_H → Prop} {x1 : Int64} {h : zz_H} {t t' : cS} {o : kY} (hR : kR h t s) (hf : cf_175_47 N X x1 t = some (t', o)) (k : (∀ h', kR h' t' s → kE o Q h')) : zz_J zp_P zt_tf zt_fd X d zm_175 47 [(0, .ref 2), (1, .long x1)] [] h Q := by
  unfold cf_175_47 at hf
  obtain ⟨d', rfl⟩ : ∃ d', d = d' + 1 := ⟨d - 1, by omega⟩
  refine cb_175_47 hR  (fun {h} hR => ?_)
  rcases ko_call_ok hf with ⟨g1, v1, er, hf⟩ | ⟨g1, er, hq⟩
  · obtain ⟨y, hv, hf2⟩ := co_i_ok hf
    clear hf
    have hf := hf2
    clear hf2
    subst hv
    refine cr_197 (by omega) hR er (fun h hR => ?_)
    exact cr_175_52 hd hR hf k
  · refine cr_197 (by omega) hR er (fun h hR => ?_)
    exact ko_thrown hq hR k
def cf_175_43 (N : Nat) (X : Nat → Option zz_C) (x1 : Int64) (y1 : Int32) (t : cS) : kO := ko_call 5 (cf_202 N X y1 3 t) (fun g1 v1 => co_v v1 (cf_175_47 N X x1 g1))
theorem cr_175_43 {X : Nat → Option zz_C} {s : mS} {N : Nat} {d : Nat} (hd : 9 ≤ d) {Q : zz_O → zz_H → Prop} {x1 : Int64} {y1 : Int32} {h : zz_H} {t t' : cS} {o : kY} (hR : kR h t s) (hf : cf_175_43 N X x1 y1 t = some (t', o)) (k : (∀ h', kR h' t' s → kE o Q h')) : zz_J zp_P zt_tf zt_fd X d zm_175 43 [(0, .ref 2), (1, .long x1)] [.int y1, .ref 2] h Q := by
  unfold cf_175_43 at hf
  obtain ⟨d', rfl⟩ : ∃ d', d = d' + 1 := ⟨d - 1, by omega⟩
  refine cb_175_43 hR  (fun {h} hR => ?_)
  rcases ko_call_ok hf with ⟨g1, v1, er, hf⟩ | ⟨g1, er, hq⟩
  · obtain ⟨hv, hf2⟩ := co_v_ok hf
    clear hf
    have hf := hf2
    clear hf2
    subst hv
    refine cr_202 (by omega) hR er (fun h hR => ?_)
    exact cr_175_47 hd hR hf k
  · refine cr_202 (by omega) hR er (fun h hR => ?_)
    exact ko_thrown hq hR k
def cf_175_42 (N : Nat) (X : Nat → Option zz_C) (x1 : Int64) (t : cS) : kO := cf_175_43 N X x1 0 t
theorem cr_175_42 {X : Nat → Option zz_C} {s : mS} {N : Nat} {d : Nat} (hd : 9 ≤ d) {Q : zz_O → zz_H → Prop} {x1 : Int64} {h : zz_H} {t t' : cS} {o : kY} (hR : kR h t s) (hf : cf_175_42 N X x1 t = some (t', o)) (k : (∀ h', kR h' t' s → kE o Q h')) : zz_J zp_P zt_tf zt_fd X d zm_175 42 [(0, .ref 2), (1, .long x1)] [.ref 2] h Q := by
  unfold cf_175_42 at hf
  exact cb_175_42 hR  (fun hR => cr_175_43 hd hR hf k)
def cf_175_38 (N : Nat) (X : Nat → Option zz_C) (x1 : Int64) (t : cS) : kO := cf_175_43 N X x1 1 t
theorem cr_175_38 {X : Nat → Option zz_C} {s : mS} {N : Nat} {d : Nat} (hd : 9 ≤ d) {Q : zz_O → zz_H → Prop} {x1 : Int64} {h : zz_H} {t t' : cS} {o : kY} (hR : kR h t s) (hf : cf_175_38 N X x1 t = some (t', o)) (k : (∀ h', kR h' t' s → kE o Q h')) : zz_J zp_P zt_tf zt_fd X d zm_175 38 [(0, .ref 2), (1, .long x1)] [.ref 2] h Q := by
  unfold cf_175_38 at hf
  exact cb_175_38 hR  (fun hR => cr_175_43 hd hR hf k)
def cf_175_28 (N : Nat) (X : Nat → Option zz_C) (y0 : Int64) (t : cS) : kO := if 4 ≤ (kI t 2 4) then cf_175_42 N X y0 t else cf_175_38 N X y0 t
theorem cr_175_28 {X : Nat → Option zz_C} {s : mS} {N : Nat} {d : Nat} (hd : 9 ≤ d) {Q : zz_O → zz_H → Prop} {y0 : Int64} {h : zz_H} {t t' : cS} {o : kY} (hR : kR h t s) (hf : cf_175_28 N X y0 t = some (t', o)) (k : (∀ h', kR h' t' s → kE o Q h')) : zz_J zp_P zt_tf zt_fd X d zm_175 28 [(0, .ref 2)] [.long y0] h Q := by
  unfold cf_175_28 at hf
  refine cb_175_28 hR  (fun c {h} hR => ?_) (fun c {h} hR => ?_)
  · rw [if_pos c] at hf
    exact cr_175_42 hd hR hf k
  · rw [if_neg c] at hf
    exact cr_175_38 hd hR hf k
def cf_175_21 (N : Nat) (X : Nat → Option zz_C)  (t : cS) : kO := ko_call 10 (cf_244 N X  t) (fun g1 v1 => co_l v1 (fun y => cf_175_28 N X y g1))
theorem cr_175_21 {X : Nat → Option zz_C} {s : mS} {N : Nat} {d : Nat} (hd : 9 ≤ d) {Q : zz_O → zz_H → Prop}  {h : zz_H} {t t' : cS} {o : kY} (hR : kR h t s) (hf : cf_175_21 N X  t = some (t', o)) (k : (∀ h', kR h' t' s → kE o Q h')) : zz_J zp_P zt_tf zt_fd X d zm_175 21 [(0, .ref 2)] [] h Q := by
  unfold cf_175_21 at hf
  obtain ⟨d', rfl⟩ : ∃ d', d = d' + 1 := ⟨d - 1, by omega⟩
  refine cb_175_21 hR  (fun {h} hR => ?_)
  rcases ko_call_ok hf with ⟨g1, v1, er, hf⟩ | ⟨g1, er, hq⟩
  · obtain ⟨y, hv, hf2⟩ := co_l_ok hf
    clear hf
    have hf := hf2
    clear hf2
    subst hv
    refine cr_244 (by omega) hR er (fun h hR => ?_)
    exact cr_175_28 hd hR hf k
  · refine cr_244 (by omega) hR er (fun h hR => ?_)
    exact ko_thrown hq hR k
def cf_175_17 (N : Nat) (X : Nat → Option zz_C) (y1 : Int32) (t : cS) : kO := ko_call 5 (cf_202 N X y1 2 t) (fun g1 v1 => co_v v1 (cf_175_21 N X  g1))
theorem cr_175_17 {X : Nat → Option zz_C} {s : mS} {N : Nat} {d : Nat} (hd : 9 ≤ d) {Q : zz_O → zz_H → Prop} {y1 : Int32} {h : zz_H} {t t' : cS} {o : kY} (hR : kR h t s) (hf : cf_175_17 N X y1 t = some (t', o)) (k : (∀ h', kR h' t' s → kE o Q h')) : zz_J zp_P zt_tf zt_fd X d zm_175 17 [(0, .ref 2)] [.int y1, .ref 2] h Q := by
  unfold cf_175_17 at hf
  obtain ⟨d', rfl⟩ : ∃ d', d = d' + 1 := ⟨d - 1, by omega⟩
  refine cb_175_17 hR  (fun {h} hR => ?_)
  rcases ko_call_ok hf with ⟨g1, v1, er, hf⟩ | ⟨g1, er, hq⟩
  · obtain ⟨hv, hf2⟩ := co_v_ok hf
    clear hf
    have hf := hf2
    clear hf2
    subst hv
    refine cr_202 (by omega) hR er (fun h hR => ?_)
    exact cr_175_21 hd hR hf k
  · refine cr_202 (by omega) hR er (fun h hR => ?_)
    exact ko_thrown hq hR k
def cf_175_16 (N : Nat) (X : Nat → Option zz_C)  (t : cS) : kO := cf_175_17 N X 0 t
theorem cr_175_16 {X : Nat → Option zz_C} {s : mS} {N : Nat} {d : Nat} (hd : 9 ≤ d) {Q : zz_O → zz_H → Prop}  {h : zz_H} {t t' : cS} {o : kY} (hR : kR h t s) (hf : cf_175_16 N X  t = some (t', o)) (k : (∀ h', kR h' t' s → kE o Q h')) : zz_J zp_P zt_tf zt_fd X d zm_175 16 [(0, .ref 2)] [.ref 2] h Q := by
  unfold cf_175_16 at hf
  exact cb_175_16 hR  (fun hR => cr_175_17 hd hR hf k)
def cf_175_12 (N : Nat) (X : Nat → Option zz_C)  (t : cS) : kO := cf_175_17 N X 1 t
theorem cr_175_12 {X : Nat → Option zz_C} {s : mS} {N : Nat} {d : Nat} (hd : 9 ≤ d) {Q : zz_O → zz_H → Prop}  {h : zz_H} {t t' : cS} {o : kY} (hR : kR h t s) (hf : cf_175_12 N X  t = some (t', o)) (k : (∀ h', kR h' t' s → kE o Q h')) : zz_J zp_P zt_tf zt_fd X d zm_175 12 [(0, .ref 2)] [.ref 2] h Q := by
  unfold cf_175_12 at hf
  exact cb_175_12 hR  (fun hR => cr_175_17 hd hR hf k)
def cf_175_8 (N : Nat) (X : Nat → Option zz_C) (y1 : Int32) (t : cS) : kO := if ¬ y1 = 3 then cf_175_16 N X  t else cf_175_12 N X  t
theorem cr_175_8 {X : Nat → Option zz_C} {s : mS} {N : Nat} {d : Nat} (hd : 9 ≤ d) {Q : zz_O → zz_H → Prop} {y1 : Int32} {h : zz_H} {t t' : cS} {o : kY} (hR : kR h t s) (hf : cf_175_8 N X y1 t = some (t', o)) (k : (∀ h', kR h' t' s → kE o Q h')) : zz_J zp_P zt_tf zt_fd X d zm_175 8 [(0, .ref 2)] [.int y1, .ref 2] h Q := by
  unfold cf_175_8 at hf
  refine cb_175_8 hR  (fun c {h} hR => ?_) (fun c {h} hR => ?_)
  · rw [if_pos c] at hf
    exact cr_175_16 hd hR hf k
  · rw [if_neg c] at hf
    exact cr_175_12 hd hR hf k
def cf_175_0 (N : Nat) (X : Nat → Option zz_C)  (t : cS) : kO := ko_call 10 (cf_42 N X  t) (fun g1 v1 => co_i v1 (fun y => cf_175_8 N X y g1))
theorem cr_175_0 {X : Nat → Option zz_C} {s : mS} {N : Nat} {d : Nat} (hd : 9 ≤ d) {Q : zz_O → zz_H → Prop}  {h : zz_H} {t t' : cS} {o : kY} (hR : kR h t s) (hf : cf_175_0 N X  t = some (t', o)) (k : (∀ h', kR h' t' s → kE o Q h')) : zz_J zp_P zt_tf zt_fd X d zm_175 0 [(0, .ref 2)] [] h Q := by
  unfold cf_175_0 at hf
  obtain ⟨d', rfl⟩ : ∃ d', d = d' + 1 := ⟨d - 1, by omega⟩
  refine cb_175_0 hR  (fun {h} hR => ?_)
  rcases ko_call_ok hf with ⟨g1, v1, er, hf⟩ | ⟨g1, er, hq⟩
  · obtain ⟨y, hv, hf2⟩ := co_i_ok hf
    clear hf
    have hf := hf2
    clear hf2
    subst hv
    refine cr_42 (by omega) hR er (fun h hR => ?_)
    exact cr_175_8 hd hR hf k
  · refine cr_42 (by omega) hR er (fun h hR => ?_)
    exact ko_thrown hq hR k
/-- parameter -/
def cf_175 (N : Nat) (X : Nat → Option zz_C)  (t : cS) : kO := cf_175_0 N X  t
theorem cr_175 {X : Nat → Option zz_C} {s : mS} {N : Nat} {d : Nat} (hd : 9 ≤ d) {Q : zz_O → zz_H → Prop}  {h : zz_H} {t t' : cS} {o : kY} (hR : kR h t s) (hf : cf_175 N X  t = some (t', o)) (k : ∀ h', kR h' t' s → kE o Q h') : zz_J zp_P zt_tf zt_fd X d zm_175 0 [(0, .ref 2)] [] h Q := by
  unfold cf_175 at hf
  exact zz_J.weak (cr_175_0 hd hR hf k) rfl ⟨rfl, trivial⟩
/-! yX5_pass (I)V -/
theorem cb_201_0 {X : Nat → Option zz_C} {h : zz_H} {t : cS} {s : mS} {d : Nat} {Q : zz_O → zz_H → Prop} {x1 : Int32} (hR : kR h t s) (k : ∀ {h : zz_H}, kR h t s → zz_J zp_P zt_tf zt_fd X d zm_42 0 [(0, .ref 3)] [] h (zz_after 10 Q (fun v h' => zz_J zp_P zt_tf zt_fd X (d + 1) zm_201 8 [(0, .ref 2), (1, .int x1)] (v.toList ++ [.ref 2]) h' Q))) : zz_J zp_P zt_tf zt_fd X (d + 1) zm_201 0 [(0, .ref 2), (1, .int x1)] [] h Q := by
  refine zz_J.n 1 rfl rfl rfl ?_
  refine zz_J.n 2 rfl rfl rfl ?_
  refine zz_J.g 5 rfl (hR.gv (v := .ref 3) ko_2 (by decide) rfl) rfl ?_
  refine zz_J.cv 8 (as := [.ref 2]) rfl rfl (hR.clO ko_3 (by decide) (by decide)) (by decide) (Nat.le_of_ble_eq_true rfl) (Nat.le_of_ble_eq_true rfl) rfl (Nat.le_of_ble_eq_true rfl) rfl ?_
  refine zz_J.mono (k hR) ?_
  intro o h' hE
  cases o with
  | inl v => exact zz_J.weak hE rfl ⟨rfl, rfl, trivial⟩
  | inr q => exact hE
theorem cb_201_8 {X : Nat → Option zz_C} {h : zz_H} {t : cS} {s : mS} {d : Nat} {Q : zz_O → zz_H → Prop} {x1 : Int32} {y1 : Int32} (hR : kR h t s) (k1 : ¬ y1 = x1 → (∀ {h : zz_H}, kR h t s → zz_J zp_P zt_tf zt_fd X d zm_201 16 [(0, .ref 2), (1, .int x1)] [.ref 2] h Q)) (k2 : ¬ ¬ y1 = x1 → (∀ {h : zz_H}, kR h t s → zz_J zp_P zt_tf zt_fd X d zm_201 12 [(0, .ref 2), (1, .int x1)] [.ref 2] h Q)) : zz_J zp_P zt_tf zt_fd X d zm_201 8 [(0, .ref 2), (1, .int x1)] [.int y1, .ref 2] h Q := by
  refine zz_J.n 9 rfl rfl rfl ?_
  refine zz_J.b2 16 12 (A := ¬ y1 = x1) rfl (zz_cond_ne _ _) (by decide) rfl rfl (fun c => ?_) (fun c => ?_)
  · exact zz_J.weak (k1 c hR) rfl ⟨rfl, rfl, trivial⟩
  · exact zz_J.weak (k2 c hR) rfl ⟨rfl, rfl, trivial⟩
theorem cb_201_12 {X : Nat → Option zz_C} {h : zz_H} {t : cS} {s : mS} {d : Nat} {Q : zz_O → zz_H → Prop} {x1 : Int32} (hR : kR h t s) (k : ∀ {h : zz_H}, kR h t s → zz_J zp_P zt_tf zt_fd X d zm_201 17 [(0, .ref 2), (1, .int x1)] [.int 1, .ref 2] h Q) : zz_J zp_P zt_tf zt_fd X d zm_201 12 [(0, .ref 2), (1, .int x1)] [.ref 2] h Q := by
  refine zz_J.c 13 (.int 1) rfl rfl rfl rfl ?_
  refine zz_J.n 17 rfl rfl rfl ?_
  exact zz_J.weak (k hR) rfl ⟨rfl, rfl, trivial⟩
theorem cb_201_16 {X : Nat → Option zz_C} {h : zz_H} {t : cS} {s : mS} {d : Nat} {Q : zz_O → zz_H → Prop} {x1 : Int32} (hR : kR h t s) (k : ∀ {h : zz_H}, kR h t s → zz_J zp_P zt_tf zt_fd X d zm_201 17 [(0, .ref 2), (1, .int x1)] [.int 0, .ref 2] h Q) : zz_J zp_P zt_tf zt_fd X d zm_201 16 [(0, .ref 2), (1, .int x1)] [.ref 2] h Q := by
  refine zz_J.c 17 (.int 0) rfl rfl rfl rfl ?_
  exact zz_J.weak (k hR) rfl ⟨rfl, rfl, trivial⟩
theorem cb_201_17 {X : Nat → Option zz_C} {h : zz_H} {t : cS} {s : mS} {d : Nat} {Q : zz_O → zz_H → Prop} {x1 : Int32} {y1 : Int32} (hR : kR h t s) (k : ∀ {h : zz_H}, kR h t s → zz_J zp_P zt_tf zt_fd X d zm_202 0 [(0, .ref 2), (1, .int y1), (2, .int 2)] [] h (zz_after 5 Q (fun v h' => zz_J zp_P zt_tf zt_fd X (d + 1) zm_201 21 [(0, .ref 2), (1, .int x1)] (v.toList ++ []) h' Q))) : zz_J zp_P zt_tf zt_fd X (d + 1) zm_201 17 [(0, .ref 2), (1, .int x1)] [.int y1, .ref 2] h Q := by
  refine zz_J.c 18 (.int 2) rfl rfl rfl rfl ?_
  refine zz_J.cv 21 (as := []) rfl rfl (hR.clO ko_2 (by decide) (by decide)) (by decide) (Nat.le_of_ble_eq_true rfl) (Nat.le_of_ble_eq_true rfl) rfl (Nat.le_of_ble_eq_true rfl) rfl ?_
  refine zz_J.mono (k hR) ?_
  intro o h' hE
  cases o with
  | inl v => exact zz_J.weak hE rfl ⟨rfl, rfl, trivial⟩
  | inr q => exact hE
theorem cb_201_21 {X : Nat → Option zz_C} {h : zz_H} {t : cS} {s : mS} {d : Nat} {Q : zz_O → zz_H → Prop} {x1 : Int32} (hR : kR h t s) (k1 : x1 = 40 → (∀ {h : zz_H}, kR h t s → zz_J zp_P zt_tf zt_fd X d zm_201 39 [(0, .ref 2)] [] h Q)) (k2 : ¬ x1 = 40 → (∀ {h : zz_H}, kR h t s → zz_J zp_P zt_tf zt_fd X d zm_201 27 [(0, .ref 2), (1, .int x1)] [] h Q)) : zz_J zp_P zt_tf zt_fd X d zm_201 21 [(0, .ref 2), (1, .int x1)] [] h Q := by
  refine zz_J.n 22 rfl rfl rfl ?_
  refine zz_J.c 24 (.int 40) rfl rfl rfl rfl ?_
  refine zz_J.b2 39 27 (A := x1 = 40) rfl rfl (by decide) rfl rfl (fun c => ?_) (fun c => ?_)
  · exact zz_J.weak (k1 c hR) rfl ⟨rfl, trivial⟩
  · exact zz_J.weak (k2 c hR) rfl ⟨rfl, rfl, trivial⟩
theorem cb_201_27 {X : Nat → Option zz_C} {h : zz_H} {t : cS} {s : mS} {d : Nat} {Q : zz_O → zz_H → Prop} {x1 : Int32} (hR : kR h t s) (k1 : x1 = 91 → (∀ {h : zz_H}, kR h t s → zz_J zp_P zt_tf zt_fd X d zm_201 39 [(0, .ref 2)] [] h Q)) (k2 : ¬ x1 = 91 → (∀ {h : zz_H}, kR h t s → zz_J zp_P zt_tf zt_fd X d zm_201 33 [(0, .ref 2), (1, .int x1)] [] h Q)) : zz_J zp_P zt_tf zt_fd X d zm_201 27 [(0, .ref 2), (1, .int x1)] [] h Q := by
  refine zz_J.n 28 rfl rfl rfl ?_
  refine zz_J.c 30 (.int 91) rfl rfl rfl rfl ?_
  refine zz_J.b2 39 33 (A := x1 = 91) rfl rfl (by decide) rfl rfl (fun c => ?_) (fun c => ?_)
  · exact zz_J.weak (k1 c hR) rfl ⟨rfl, trivial⟩
  · exact zz_J.weak (k2 c hR) rfl ⟨rfl, rfl, trivial⟩
theorem cb_201_33 {X : Nat → Option zz_C} {h : zz_H} {t : cS} {s : mS} {d : Nat} {Q : zz_O → zz_H → Prop} {x1 : Int32} (hR : kR h t s) (k1 : ¬ x1 = 123 → (∀ {h : zz_H}, kR h t s → zz_J zp_P zt_tf zt_fd X d zm_201 71 [(0, .ref 2), (1, .int x1)] [] h Q)) (k2 : ¬ ¬ x1 = 123 → (∀ {h : zz_H}, kR h t s → zz_J zp_P zt_tf zt_fd X d zm_201 39 [(0, .ref 2)] [] h Q)) : zz_J zp_P zt_tf zt_fd X d zm_201 33 [(0, .ref 2), (1, .int x1)] [] h Q := by
  refine zz_J.n 34 rfl rfl rfl ?_
  refine zz_J.c 36 (.int 123) rfl rfl rfl rfl ?_
  refine zz_J.b2 71 39 (A := ¬ x1 = 123) rfl (zz_cond_ne _ _) (by decide) rfl rfl (fun c => ?_) (fun c => ?_)
  · exact zz_J.weak (k1 c hR) rfl ⟨rfl, rfl, trivial⟩
  · exact zz_J.weak (k2 c hR) rfl ⟨rfl, trivial⟩
theorem cb_201_39 {X : Nat → Option zz_C} {h : zz_H} {t : cS} {s : mS} {d : Nat} {Q : zz_O → zz_H → Prop}  (hR : kR h t s) (k1 : 10 ≤ (kI t 2 2) → (∀ {h : zz_H}, kR h t s → zz_J zp_P zt_tf zt_fd X d zm_201 53 [(0, .ref 2)] [.ref 2] h Q)) (k2 : ¬ 10 ≤ (kI t 2 2) → (∀ {h : zz_H}, kR h t s → zz_J zp_P zt_tf zt_fd X d zm_201 49 [(0, .ref 2)] [.ref 2] h Q)) : zz_J zp_P zt_tf zt_fd X d zm_201 39 [(0, .ref 2)] [] h Q := by
  refine zz_J.n 40 rfl rfl rfl ?_
  refine zz_J.n 41 rfl rfl rfl ?_
  refine zz_J.g 44 rfl (hR.gv (v := .int (kI t 2 2)) ko_2 (by decide) rfl) rfl ?_
  refine zz_J.c 46 (.int 10) rfl rfl rfl rfl ?_
  refine zz_J.b2 53 49 (A := 10 ≤ (kI t 2 2)) rfl rfl (by decide) rfl rfl (fun c => ?_) (fun c => ?_)
  · exact zz_J.weak (k1 c hR) rfl ⟨rfl, trivial⟩
  · exact zz_J.weak (k2 c hR) rfl ⟨rfl, trivial⟩
theorem cb_201_49 {X : Nat → Option zz_C} {h : zz_H} {t : cS} {s : mS} {d : Nat} {Q : zz_O → zz_H → Prop}  (hR : kR h t s) (k : ∀ {h : zz_H}, kR h t s → zz_J zp_P zt_tf zt_fd X d zm_201 54 [(0, .ref 2)] [.int 1, .ref 2] h Q) : zz_J zp_P zt_tf zt_fd X d zm_201 49 [(0, .ref 2)] [.ref 2] h Q := by
  refine zz_J.c 50 (.int 1) rfl rfl rfl rfl ?_
  refine zz_J.n 54 rfl rfl rfl ?_
  exact zz_J.weak (k hR) rfl ⟨rfl, trivial⟩
theorem cb_201_53 {X : Nat → Option zz_C} {h : zz_H} {t : cS} {s : mS} {d : Nat} {Q : zz_O → zz_H → Prop}  (hR : kR h t s) (k : ∀ {h : zz_H}, kR h t s → zz_J zp_P zt_tf zt_fd X d zm_201 54 [(0, .ref 2)] [.int 0, .ref 2] h Q) : zz_J zp_P zt_tf zt_fd X d zm_201 53 [(0, .ref 2)] [.ref 2] h Q := by
  refine zz_J.c 54 (.int 0) rfl rfl rfl rfl ?_
  exact zz_J.weak (k hR) rfl ⟨rfl, trivial⟩
theorem cb_201_54 {X : Nat → Option zz_C} {h : zz_H} {t : cS} {s : mS} {d : Nat} {Q : zz_O → zz_H → Prop} {y1 : Int32} (hR : kR h t s) (k : ∀ {h : zz_H}, kR h t s → zz_J zp_P zt_tf zt_fd X d zm_202 0 [(0, .ref 2), (1, .int y1), (2, .int 3)] [] h (zz_after 5 Q (fun v h' => zz_J zp_P zt_tf zt_fd X (d + 1) zm_201 58 [(0, .ref 2)] (v.toList ++ []) h' Q))) : zz_J zp_P zt_tf zt_fd X (d + 1) zm_201 54 [(0, .ref 2)] [.int y1, .ref 2] h Q := by
  refine zz_J.c 55 (.int 3) rfl rfl rfl rfl ?_
  refine zz_J.cv 58 (as := []) rfl rfl (hR.clO ko_2 (by decide) (by decide)) (by decide) (Nat.le_of_ble_eq_true rfl) (Nat.le_of_ble_eq_true rfl) rfl (Nat.le_of_ble_eq_true rfl) rfl ?_
  refine zz_J.mono (k hR) ?_
  intro o h' hE
  cases o with
  | inl v => exact zz_J.weak hE rfl ⟨rfl, trivial⟩
  | inr q => exact hE
theorem cb_201_58 {X : Nat → Option zz_C} {h : zz_H} {t : cS} {s : mS} {d : Nat} {Q : zz_O → zz_H → Prop}  (hR : kR h t s) (k : ∀ {h : zz_H}, kR h (jI t 2 2 ((kI t 2 2) + 1)) s → zz_J zp_P zt_tf zt_fd X d zm_201 99 [(0, .ref 2)] [] h Q) : zz_J zp_P zt_tf zt_fd X d zm_201 58 [(0, .ref 2)] [] h Q := by
  refine zz_J.n 59 rfl rfl rfl ?_
  refine zz_J.n 60 rfl rfl rfl ?_
  refine zz_J.g 63 rfl (hR.gv (v := .int (kI t 2 2)) ko_2 (by decide) rfl) rfl ?_
  refine zz_J.c 64 (.int 1) rfl rfl rfl rfl ?_
  refine zz_J.n 65 rfl rfl rfl ?_
  obtain ⟨h1, eq1, hR⟩ := hR.pI (x := ((kI t 2 2) + 1)) (by decide) ko_2 (kpi_2_2 _) (Nat.le_of_ble_eq_true rfl) rfl
  refine zz_J.pv 68 rfl eq1 rfl ?_
  clear eq1
  refine zz_J.n 99 rfl rfl rfl ?_
  exact zz_J.weak (k hR) rfl ⟨rfl, trivial⟩
theorem cb_201_71 {X : Nat → Option zz_C} {h : zz_H} {t : cS} {s : mS} {d : Nat} {Q : zz_O → zz_H → Prop} {x1 : Int32} (hR : kR h t s) (k1 : x1 = 41 → (∀ {h : zz_H}, kR h t s → zz_J zp_P zt_tf zt_fd X d zm_201 89 [(0, .ref 2)] [] h Q)) (k2 : ¬ x1 = 41 → (∀ {h : zz_H}, kR h t s → zz_J zp_P zt_tf zt_fd X d zm_201 77 [(0, .ref 2), (1, .int x1)] [] h Q)) : zz_J zp_P zt_tf zt_fd X d zm_201 71 [(0, .ref 2), (1, .int x1)] [] h Q := by
  refine zz_J.n 72 rfl rfl rfl ?_
  refine zz_J.c 74 (.int 41) rfl rfl rfl rfl ?_
  refine zz_J.b2 89 77 (A := x1 = 41) rfl rfl (by decide) rfl rfl (fun c => ?_) (fun c => ?_)
  · exact zz_J.weak (k1 c hR) rfl ⟨rfl, trivial⟩
  · exact zz_J.weak (k2 c hR) rfl ⟨rfl, rfl, trivial⟩
theorem cb_201_77 {X : Nat → Option zz_C} {h : zz_H} {t : cS} {s : mS} {d : Nat} {Q : zz_O → zz_H → Prop} {x1 : Int32} (hR : kR h t s) (k1 : x1 = 93 → (∀ {h : zz_H}, kR h t s → zz_J zp_P zt_tf zt_fd X d zm_201 89 [(0, .ref 2)] [] h Q)) (k2 : ¬ x1 = 93 → (∀ {h : zz_H}, kR h t s → zz_J zp_P zt_tf zt_fd X d zm_201 83 [(0, .ref 2), (1, .int x1)] [] h Q)) : zz_J zp_P zt_tf zt_fd X d zm_201 77 [(0, .ref 2), (1, .int x1)] [] h Q := by
  refine zz_J.n 78 rfl rfl rfl ?_
  refine zz_J.c 80 (.int 93) rfl rfl rfl rfl ?_
  refine zz_J.b2 89 83 (A := x1 = 93) rfl rfl (by decide) rfl rfl (fun c => ?_) (fun c => ?_)
  · exact zz_J.weak (k1 c hR) rfl ⟨rfl, trivial⟩
  · exact zz_J.weak (k2 c hR) rfl ⟨rfl, rfl, trivial⟩
theorem cb_201_83 {X : Nat → Option zz_C} {h : zz_H} {t : cS} {s : mS} {d : Nat} {Q : zz_O → zz_H → Prop} {x1 : Int32} (hR : kR h t s) (k1 : ¬ x1 = 125 → (∀ {h : zz_H}, kR h t s → zz_J zp_P zt_tf zt_fd X d zm_201 99 [(0, .ref 2)] [] h Q)) (k2 : ¬ ¬ x1 = 125 → (∀ {h : zz_H}, kR h t s → zz_J zp_P zt_tf zt_fd X d zm_201 89 [(0, .ref 2)] [] h Q)) : zz_J zp_P zt_tf zt_fd X d zm_201 83 [(0, .ref 2), (1, .int x1)] [] h Q := by
  refine zz_J.n 84 rfl rfl rfl ?_
  refine zz_J.c 86 (.int 125) rfl rfl rfl rfl ?_
  refine zz_J.b2 99 89 (A := ¬ x1 = 125) rfl (zz_cond_ne _ _) (by decide) rfl rfl (fun c => ?_) (fun c => ?_)
  · exact zz_J.weak (k1 c hR) rfl ⟨rfl, trivial⟩
  · exact zz_J.weak (k2 c hR) rfl ⟨rfl, trivial⟩
theorem cb_201_89 {X : Nat → Option zz_C} {h : zz_H} {t : cS} {s : mS} {d : Nat} {Q : zz_O → zz_H → Prop}  (hR : kR h t s) (k : ∀ {h : zz_H}, kR h (jI t 2 2 ((kI t 2 2) - 1)) s → zz_J zp_P zt_tf zt_fd X d zm_201 99 [(0, .ref 2)] [] h Q) : zz_J zp_P zt_tf zt_fd X d zm_201 89 [(0, .ref 2)] [] h Q := by
  refine zz_J.n 90 rfl rfl rfl ?_
  refine zz_J.n 91 rfl rfl rfl ?_
  refine zz_J.g 94 rfl (hR.gv (v := .int (kI t 2 2)) ko_2 (by decide) rfl) rfl ?_
  refine zz_J.c 95 (.int 1) rfl rfl rfl rfl ?_
  refine zz_J.n 96 rfl rfl rfl ?_
  obtain ⟨h1, eq1, hR⟩ := hR.pI (x := ((kI t 2 2) - 1)) (by decide) ko_2 (kpi_2_2 _) (Nat.le_of_ble_eq_true rfl) rfl
  refine zz_J.pv 99 rfl eq1 rfl ?_
  clear eq1
  exact zz_J.weak (k hR) rfl ⟨rfl, trivial⟩
theorem cb_201_99 {X : Nat → Option zz_C} {h : zz_H} {t : cS} {s : mS} {d : Nat} {Q : zz_O → zz_H → Prop}  (hR : kR h t s) (k : ∀ {h : zz_H}, kR h t s → zz_J zp_P zt_tf zt_fd X d zm_46 0 [(0, .ref 3)] [] h (zz_after 10 Q (fun v h' => zz_J zp_P zt_tf zt_fd X (d + 1) zm_201 106 [] (v.toList ++ []) h' Q))) : zz_J zp_P zt_tf zt_fd X (d + 1) zm_201 99 [(0, .ref 2)] [] h Q := by
  refine zz_J.n 100 rfl rfl rfl ?_
  refine zz_J.g 103 rfl (hR.gv (v := .ref 3) ko_2 (by decide) rfl) rfl ?_
  refine zz_J.cv 106 (as := []) rfl rfl (hR.clO ko_3 (by decide) (by decide)) (by decide) (Nat.le_of_ble_eq_true rfl) (Nat.le_of_ble_eq_true rfl) rfl (Nat.le_of_ble_eq_true rfl) rfl ?_
  refine zz_J.mono (k hR) ?_
  intro o h' hE
  cases o with
  | inl v => exact zz_J.weak hE rfl trivial
  | inr q => exact hE
theorem cb_201_106 {X : Nat → Option zz_C} {h : zz_H} {t : cS} {s : mS} {d : Nat} {Q : zz_O → zz_H → Prop}  (hR : kR h t s) (k : ∀ {h : zz_H}, kR h t s → Q (.inl none) h) : zz_J zp_P zt_tf zt_fd X d zm_201 106 [] [] h Q := by
  refine zz_J.ret rfl rfl rfl ?_
  exact k hR
def cf_201_106 (N : Nat) (X : Nat → Option zz_C)  (t : cS) : kO := some (t, .inl none)
theorem cr_201_106 {X : Nat → Option zz_C} {s : mS} {N : Nat} {d : Nat} (hd : 9 ≤ d) {Q : zz_O → zz_H → Prop}  {h : zz_H} {t t' : cS} {o : kY} (hR : kR h t s) (hf : cf_201_106 N X  t = some (t', o)) (k : (∀ h', kR h' t' s → kE o Q h')) : zz_J zp_P zt_tf zt_fd X d zm_201 106 [] [] h Q := by
  unfold cf_201_106 at hf
  cases hf
  exact cb_201_106 hR  (fun {h} hR => k h hR)
def cf_201_99 (N : Nat) (X : Nat → Option zz_C)  (t : cS) : kO := ko_call 10 (cf_46 N X  t) (fun g1 v1 => co_v v1 (cf_201_106 N X  g1))
theorem cr_201_99 {X : Nat → Option zz_C} {s : mS} {N : Nat} {d : Nat} (hd : 9 ≤ d) {Q : zz_O → zz_H → Prop}  {h : zz_H} {t t' : cS} {o : kY} (hR : kR h t s) (hf : cf_201_99 N X  t = some (t', o)) (k : (∀ h', kR h' t' s → kE o Q h')) : zz_J zp_P zt_tf zt_fd X d zm_201 99 [(0, .ref 2)] [] h Q := by
  unfold cf_201_99 at hf
  obtain ⟨d', rfl⟩ : ∃ d', d = d' + 1 := ⟨d - 1, by omega⟩
  refine cb_201_99 hR  (fun {h} hR => ?_)
  rcases ko_call_ok hf with ⟨g1, v1, er, hf⟩ | ⟨g1, er, hq⟩
  · obtain ⟨hv, hf2⟩ := co_v_ok hf
    clear hf
    have hf := hf2
    clear hf2
    subst hv
    refine cr_46 (by omega) hR er (fun h hR => ?_)
    exact cr_201_106 hd hR hf k
  · refine cr_46 (by omega) hR er (fun h hR => ?_)
    exact ko_thrown hq hR k
def cf_201_58 (N : Nat) (X : Nat → Option zz_C)  (t : cS) : kO := cf_201_99 N X  (jI t 2 2 ((kI t 2 2) + 1))
theorem cr_201_58 {X : Nat → Option zz_C} {s : mS} {N : Nat} {d : Nat} (hd : 9 ≤ d) {Q : zz_O → zz_H → Prop}  {h : zz_H} {t t' : cS} {o : kY} (hR : kR h t s) (hf : cf_201_58 N X  t = some (t', o)) (k : (∀ h', kR h' t' s → kE o Q h')) : zz_J zp_P zt_tf zt_fd X d zm_201 58 [(0, .ref 2)] [] h Q := by
  unfold cf_201_58 at hf
  exact cb_201_58 hR  (fun hR => cr_201_99 hd hR hf k)
def cf_201_54 (N : Nat) (X : Nat → Option zz_C) (y1 : Int32) (t : cS) : kO := ko_call 5 (cf_202 N X y1 3 t) (fun g1 v1 => co_v v1 (cf_201_58 N X  g1))
theorem cr_201_54 {X : Nat → Option zz_C} {s : mS} {N : Nat} {d : Nat} (hd : 9 ≤ d) {Q : zz_O → zz_H → Prop} {y1 : Int32} {h : zz_H} {t t' : cS} {o : kY} (hR : kR h t s) (hf : cf_201_54 N X y1 t = some (t', o)) (k : (∀ h', kR h' t' s → kE o Q h')) : zz_J zp_P zt_tf zt_fd X d zm_201 54 [(0, .ref 2)] [.int y1, .ref 2] h Q := by
  unfold cf_201_54 at hf
  obtain ⟨d', rfl⟩ : ∃ d', d = d' + 1 := ⟨d - 1, by omega⟩
  refine cb_201_54 hR  (fun {h} hR => ?_)
  rcases ko_call_ok hf with ⟨g1, v1, er, hf⟩ | ⟨g1, er, hq⟩
  · obtain ⟨hv, hf2⟩ := co_v_ok hf
    clear hf
    have hf := hf2
    clear hf2
    subst hv
    refine cr_202 (by omega) hR er (fun h hR => ?_)
    exact cr_201_58 hd hR hf k
  · refine cr_202 (by omega) hR er (fun h hR => ?_)
    exact ko_thrown hq hR k
def cf_201_53 (N : Nat) (X : Nat → Option zz_C)  (t : cS) : kO := cf_201_54 N X 0 t
theorem cr_201_53 {X : Nat → Option zz_C} {s : mS} {N : Nat} {d : Nat} (hd : 9 ≤ d) {Q : zz_O → zz_H → Prop}  {h : zz_H} {t t' : cS} {o : kY} (hR : kR h t s) (hf : cf_201_53 N X  t = some (t', o)) (k : (∀ h', kR h' t' s → kE o Q h')) : zz_J zp_P zt_tf zt_fd X d zm_201 53 [(0, .ref 2)] [.ref 2] h Q := by
  unfold cf_201_53 at hf
  exact cb_201_53 hR  (fun hR => cr_201_54 hd hR hf k)
def cf_201_49 (N : Nat) (X : Nat → Option zz_C)  (t : cS) : kO := cf_201_54 N X 1 t
theorem cr_201_49 {X : Nat → Option zz_C} {s : mS} {N : Nat} {d : Nat} (hd : 9 ≤ d) {Q : zz_O → zz_H → Prop}  {h : zz_H} {t t' : cS} {o : kY} (hR : kR h t s) (hf : cf_201_49 N X  t = some (t', o)) (k : (∀ h', kR h' t' s → kE o Q h')) : zz_J zp_P zt_tf zt_fd X d zm_201 49 [(0, .ref 2)] [.ref 2] h Q := by
  unfold cf_201_49 at hf
  exact cb_201_49 hR  (fun hR => cr_201_54 hd hR hf k)
def cf_201_39 (N : Nat) (X : Nat → Option zz_C)  (t : cS) : kO := if 10 ≤ (kI t 2 2) then cf_201_53 N X  t else cf_201_49 N X  t
theorem cr_201_39 {X : Nat → Option zz_C} {s : mS} {N : Nat} {d : Nat} (hd : 9 ≤ d) {Q : zz_O → zz_H → Prop}  {h : zz_H} {t t' : cS} {o : kY} (hR : kR h t s) (hf : cf_201_39 N X  t = some (t', o)) (k : (∀ h', kR h' t' s → kE o Q h')) : zz_J zp_P zt_tf zt_fd X d zm_201 39 [(0, .ref 2)] [] h Q := by
  unfold cf_201_39 at hf
  refine cb_201_39 hR  (fun c {h} hR => ?_) (fun c {h} hR => ?_)
  · rw [if_pos c] at hf
    exact cr_201_53 hd hR hf k
  · rw [if_neg c] at hf
    exact cr_201_49 hd hR hf k
def cf_201_89 (N : Nat) (X : Nat → Option zz_C)  (t : cS) : kO := cf_201_99 N X  (jI t 2 2 ((kI t 2 2) - 1))
theorem cr_201_89 {X : Nat → Option zz_C} {s : mS} {N : Nat} {d : Nat} (hd : 9 ≤ d) {Q : zz_O → zz_H → Prop}  {h : zz_H} {t t' : cS} {o : kY} (hR : kR h t s) (hf : cf_201_89 N X  t = some (t', o)) (k : (∀ h', kR h' t' s → kE o Q h')) : zz_J zp_P zt_tf zt_fd X d zm_201 89 [(0, .ref 2)] [] h Q := by
  unfold cf_201_89 at hf
  exact cb_201_89 hR  (fun hR => cr_201_99 hd hR hf k)
def cf_201_83 (N : Nat) (X : Nat → Option zz_C) (x1 : Int32) (t : cS) : kO := if ¬ x1 = 125 then cf_201_99 N X  t else cf_201_89 N X  t
theorem cr_201_83 {X : Nat → Option zz_C} {s : mS} {N : Nat} {d : Nat} (hd : 9 ≤ d) {Q : zz_O → zz_H → Prop} {x1 : Int32} {h : zz_H} {t t' : cS} {o : kY} (hR : kR h t s) (hf : cf_201_83 N X x1 t = some (t', o)) (k : (∀ h', kR h' t' s → kE o Q h')) : zz_J zp_P zt_tf zt_fd X d zm_201 83 [(0, .ref 2), (1, .int x1)] [] h Q := by
  unfold cf_201_83 at hf
  refine cb_201_83 hR  (fun c {h} hR => ?_) (fun c {h} hR => ?_)
  · rw [if_pos c] at hf
    exact cr_201_99 hd hR hf k
  · rw [if_neg c] at hf
    exact cr_201_89 hd hR hf k
def cf_201_77 (N : Nat) (X : Nat → Option zz_C) (x1 : Int32) (t : cS) : kO := if x1 = 93 then cf_201_89 N X  t else cf_201_83 N X x1 t
theorem cr_201_77 {X : Nat → Option zz_C} {s : mS} {N : Nat} {d : Nat} (hd : 9 ≤ d) {Q : zz_O → zz_H → Prop} {x1 : Int32} {h : zz_H} {t t' : cS} {o : kY} (hR : kR h t s) (hf : cf_201_77 N X x1 t = some (t', o)) (k : (∀ h', kR h' t' s → kE o Q h')) : zz_J zp_P zt_tf zt_fd X d zm_201 77 [(0, .ref 2), (1, .int x1)] [] h Q := by
  unfold cf_201_77 at hf
  refine cb_201_77 hR  (fun c {h} hR => ?_) (fun c {h} hR => ?_)
  · rw [if_pos c] at hf
    exact cr_201_89 hd hR hf k
  · rw [if_neg c] at hf
    exact cr_201_83 hd hR hf k
def cf_201_71 (N : Nat) (X : Nat → Option zz_C) (x1 : Int32) (t : cS) : kO := if x1 = 41 then cf_201_89 N X  t else cf_201_77 N X x1 t
theorem cr_201_71 {X : Nat → Option zz_C} {s : mS} {N : Nat} {d : Nat} (hd : 9 ≤ d) {Q : zz_O → zz_H → Prop} {x1 : Int32} {h : zz_H} {t t' : cS} {o : kY} (hR : kR h t s) (hf : cf_201_71 N X x1 t = some (t', o)) (k : (∀ h', kR h' t' s → kE o Q h')) : zz_J zp_P zt_tf zt_fd X d zm_201 71 [(0, .ref 2), (1, .int x1)] [] h Q := by
  unfold cf_201_71 at hf
  refine cb_201_71 hR  (fun c {h} hR => ?_) (fun c {h} hR => ?_)
  · rw [if_pos c] at hf
    exact cr_201_89 hd hR hf k
  · rw [if_neg c] at hf
    exact cr_201_77 hd hR hf k
def cf_201_33 (N : Nat) (X : Nat → Option zz_C) (x1 : Int32) (t : cS) : kO := if ¬ x1 = 123 then cf_201_71 N X x1 t else cf_201_39 N X  t
theorem cr_201_33 {X : Nat → Option zz_C} {s : mS} {N : Nat} {d : Nat} (hd : 9 ≤ d) {Q : zz_O → zz_H → Prop} {x1 : Int32} {h : zz_H} {t t' : cS} {o : kY} (hR : kR h t s) (hf : cf_201_33 N X x1 t = some (t', o)) (k : (∀ h', kR h' t' s → kE o Q h')) : zz_J zp_P zt_tf zt_fd X d zm_201 33 [(0, .ref 2), (1, .int x1)] [] h Q := by
  unfold cf_201_33 at hf
  refine cb_201_33 hR  (fun c {h} hR => ?_) (fun c {h} hR => ?_)
  · rw [if_pos c] at hf
    exact cr_201_71 hd hR hf k
  · rw [if_neg c] at hf
    exact cr_201_39 hd hR hf k
def cf_201_27 (N : Nat) (X : Nat → Option zz_C) (x1 : Int32) (t : cS) : kO := if x1 = 91 then cf_201_39 N X  t else cf_201_33 N X x1 t
theorem cr_201_27 {X : Nat → Option zz_C} {s : mS} {N : Nat} {d : Nat} (hd : 9 ≤ d) {Q : zz_O → zz_H → Prop} {x1 : Int32} {h : zz_H} {t t' : cS} {o : kY} (hR : kR h t s) (hf : cf_201_27 N X x1 t = some (t', o)) (k : (∀ h', kR h' t' s → kE o Q h')) : zz_J zp_P zt_tf zt_fd X d zm_201 27 [(0, .ref 2), (1, .int x1)] [] h Q := by
  unfold cf_201_27 at hf
  refine cb_201_27 hR  (fun c {h} hR => ?_) (fun c {h} hR => ?_)
  · rw [if_pos c] at hf
    exact cr_201_39 hd hR hf k
  · rw [if_neg c] at hf
    exact cr_201_33 hd hR hf k
def cf_201_21 (N : Nat) (X : Nat → Option zz_C) (x1 : Int32) (t : cS) : kO := if x1 = 40 then cf_201_39 N X  t else cf_201_27 N X x1 t
theorem cr_201_21 {X : Nat → Option zz_C} {s : mS} {N : Nat} {d : Nat} (hd : 9 ≤ d) {Q : zz_O → zz_H → Prop} {x1 : Int32} {h : zz_H} {t t' : cS} {o : kY} (hR : kR h t s) (hf : cf_201_21 N X x1 t = some (t', o)) (k : (∀ h', kR h' t' s → kE o Q h')) : zz_J zp_P zt_tf zt_fd X d zm_201 21 [(0, .ref 2), (1, .int x1)] [] h Q := by
  unfold cf_201_21 at hf
  refine cb_201_21 hR  (fun c {h} hR => ?_) (fun c {h} hR => ?_)
  · rw [if_pos c] at hf
    exact cr_201_39 hd hR hf k
  · rw [if_neg c] at hf
    exact cr_201_27 hd hR hf k
def cf_201_17 (N : Nat) (X : Nat → Option zz_C) (x1 : Int32) (y1 : Int32) (t : cS) : kO := ko_call 5 (cf_202 N X y1 2 t) (fun g1 v1 => co_v v1 (cf_201_21 N X x1 g1))
theorem cr_201_17 {X : Nat → Option zz_C} {s : mS} {N : Nat} {d : Nat} (hd : 9 ≤ d) {Q : zz_O → zz_H → Prop} {x1 : Int32} {y1 : Int32} {h : zz_H} {t t' : cS} {o : kY} (hR : kR h t s) (hf : cf_201_17 N X x1 y1 t = some (t', o)) (k : (∀ h', kR h' t' s → kE o Q h')) : zz_J zp_P zt_tf zt_fd X d zm_201 17 [(0, .ref 2), (1, .int x1)] [.int y1, .ref 2] h Q := by
  unfold cf_201_17 at hf
  obtain ⟨d', rfl⟩ : ∃ d', d = d' + 1 := ⟨d - 1, by omega⟩
  refine cb_201_17 hR  (fun {h} hR => ?_)
  rcases ko_call_ok hf with ⟨g1, v1, er, hf⟩ | ⟨g1, er, hq⟩
  · obtain ⟨hv, hf2⟩ := co_v_ok hf
    clear hf
    have hf := hf2
    clear hf2
    subst hv
    refine cr_202 (by omega) hR er (fun h hR => ?_)
    exact cr_201_21 hd hR hf k
  · refine cr_202 (by omega) hR er (fun h hR => ?_)
    exact ko_thrown hq hR k
def cf_201_16 (N : Nat) (X : Nat → Option zz_C) (x1 : Int32) (t : cS) : kO := cf_201_17 N X x1 0 t
theorem cr_201_16 {X : Nat → Option zz_C} {s : mS} {N : Nat} {d : Nat} (hd : 9 ≤ d) {Q : zz_O → zz_H → Prop} {x1 : Int32} {h : zz_H} {t t' : cS} {o : kY} (hR : kR h t s) (hf : cf_201_16 N X x1 t = some (t', o)) (k : (∀ h', kR h' t' s → kE o Q h')) : zz_J zp_P zt_tf zt_fd X d zm_201 16 [(0, .ref 2), (1, .int x1)] [.ref 2] h Q := by
  unfold cf_201_16 at hf
  exact cb_201_16 hR  (fun hR => cr_201_17 hd hR hf k)
def cf_201_12 (N : Nat) (X : Nat → Option zz_C) (x1 : Int32) (t : cS) : kO := cf_201_17 N X x1 1 t
theorem cr_201_12 {X : Nat → Option zz_C} {s : mS} {N : Nat} {d : Nat} (hd : 9 ≤ d) {Q : zz_O → zz_H → Prop} {x1 : Int32} {h : zz_H} {t t' : cS} {o : kY} (hR : kR h t s) (hf : cf_201_12 N X x1 t = some (t', o)) (k : (∀ h', kR h' t' s → kE o Q h')) : zz_J zp_P zt_tf zt_fd X d zm_201 12 [(0, .ref 2), (1, .int x1)] [.ref 2] h Q := by
  unfold cf_201_12 at hf
  exact cb_201_12 hR  (fun hR => cr_201_17 hd hR hf k)
def cf_201_8 (N : Nat) (X : Nat → Option zz_C) (x1 : Int32) (y1 : Int32) (t : cS) : kO := if ¬ y1 = x1 then cf_201_16 N X x1 t else cf_201_12 N X x1 t
theorem cr_201_8 {X : Nat → Option zz_C} {s : mS} {N : Nat} {d : Nat} (hd : 9 ≤ d) {Q : zz_O → zz_H → Prop} {x1 : Int32} {y1 : Int32} {h : zz_H} {t t' : cS} {o : kY} (hR : kR h t s) (hf : cf_201_8 N X x1 y1 t = some (t', o)) (k : (∀ h', kR h' t' s → kE o Q h')) : zz_J zp_P zt_tf zt_fd X d zm_201 8 [(0, .ref 2), (1, .int x1)] [.int y1, .ref 2] h Q := by
  unfold cf_201_8 at hf
  refine cb_201_8 hR  (fun c {h} hR => ?_) (fun c {h} hR => ?_)
  · rw [if_pos c] at hf
    exact cr_201_16 hd hR hf k
  · rw [if_neg c] at hf
    exact cr_201_12 hd hR hf k
def cf_201_0 (N : Nat) (X : Nat → Option zz_C) (x1 : Int32) (t : cS) : kO := ko_call 10 (cf_42 N X  t) (fun g1 v1 => co_i v1 (fun y => cf_201_8 N X x1 y g1))
theorem cr_201_0 {X : Nat → Option zz_C} {s : mS} {N : Nat} {d : Nat} (hd : 9 ≤ d) {Q : zz_O → zz_H → Prop} {x1 : Int32} {h : zz_H} {t t' : cS} {o : kY} (hR : kR h t s) (hf : cf_201_0 N X x1 t = some (t', o)) (k : (∀ h', kR h' t' s → kE o Q h')) : zz_J zp_P zt_tf zt_fd X d zm_201 0 [(0, .ref 2), (1, .int x1)] [] h Q := by
  unfold cf_201_0 at hf
  obtain ⟨d', rfl⟩ : ∃ d', d = d' + 1 := ⟨d - 1, by omega⟩
  refine cb_201_0 hR  (fun {h} hR => ?_)
  rcases ko_call_ok hf with ⟨g1, v1, er, hf⟩ | ⟨g1, er, hq⟩
  · obtain ⟨y, hv, hf2⟩ := co_i_ok hf
    clear hf
    have hf := hf2
    clear hf2
    subst hv
    refine cr_42 (by omega) hR er (fun h hR => ?_)
    exact cr_201_8 hd hR hf k
  · refine cr_42 (by omega) hR er (fun h hR => ?_)
    exact ko_thrown hq hR k
/-- pass -/
def cf_201 (N : Nat) (X : Nat → Option zz_C) (x1 : Int32) (t : cS) : kO := cf_201_0 N X x1 t
theorem cr_201 {X : Nat → Option zz_C} {s : mS} {N : Nat} {d : Nat} (hd : 9 ≤ d) {Q : zz_O → zz_H → Prop} {x1 : Int32} {h : zz_H} {t t' : cS} {o : kY} (hR : kR h t s) (hf : cf_201 N X x1 t = some (t', o)) (k : ∀ h', kR h' t' s → kE o Q h') : zz_J zp_P zt_tf zt_fd X d zm_201 0 [(0, .ref 2), (1, .int x1)] [] h Q := by
  unfold cf_201 at hf
  exact zz_J.weak (cr_201_0 hd hR hf k) rfl ⟨rfl, rfl, trivial⟩
/-! yX6_emit (III)I -/
theorem cb_209_0 {X : Nat → Option zz_C} {h : zz_H} {t : cS} {s : mS} {d : Nat} {Q : zz_O → zz_H → Prop} {x0 : Nat} {x1 : Int32} {x2 : Int32} {x3 : Int32} (hR : kR h t s) (e0 : x0 = 12 ∨ x0 = 21) (k1 : ¬ (kI t x0 3) = (Int32.ofNat (kA t (x0 + 1)).1) → (∀ {h : zz_H}, kR h t s → zz_J zp_P zt_tf zt_fd X d zm_209 63 [(0, .ref x0), (1, .int x1), (2, .int x2), (3, .int x3)] [] h Q)) (k2 : ¬ ¬ (kI t x0 3) = (Int32.ofNat (kA t (x0 + 1)).1) → (∀ {h : zz_H}, kR h t s → zz_J zp_P zt_tf zt_fd X d zm_209 12 [(0, .ref x0), (1, .int x1), (2, .int x2), (3, .int x3)] [] h Q)) : zz_J zp_P zt_tf zt_fd X d zm_209 0 [(0, .ref x0), (1, .int x1), (2, .int x2), (3, .int x3)] [] h Q := by
  refine zz_J.n 1 rfl rfl rfl ?_
  refine zz_J.g 4 rfl (hR.gv (v := .int (kI t x0 3)) (ko_P e0) (by decide) rfl) rfl ?_
  refine zz_J.n 5 rfl rfl rfl ?_
  refine zz_J.g 8 rfl (hR.gv (v := .ref (kD t (x0 + 1))) (ko_P e0) (by decide) rfl) rfl ?_
  refine zz_J.ln 9 rfl (hR.ln (w := (Int32.ofNat (kA t (x0 + 1)).1)) (ka_P1 e0) rfl (by decide) rfl) rfl ?_
  refine zz_J.b2 63 12 (A := ¬ (kI t x0 3) = (Int32.ofNat (kA t (x0 + 1)).1)) rfl (zz_cond_ne _ _) (by decide) rfl rfl (fun c => ?_) (fun c => ?_)
  · exact zz_J.weak (k1 c hR) rfl ⟨rfl, rfl, rfl, rfl, trivial⟩
  · exact zz_J.weak (k2 c hR) rfl ⟨rfl, rfl, rfl, rfl, trivial⟩
theorem cb_209_12 {X : Nat → Option zz_C} {h : zz_H} {t : cS} {s : mS} {d : Nat} {Q : zz_O → zz_H → Prop} {x0 : Nat} {x1 : Int32} {x2 : Int32} {x3 : Int32} (hR : kR h t s) (e0 : x0 = 12 ∨ x0 = 21) (e1 : ¬ (2 * (kI t x0 3)) < 0 ∧ (Int32.toNatClampNeg (2 * (kI t x0 3))) ≤ 1000000 ∧ (kA t (x0 + 1)).1 ≤ 1000000 ∧ ¬ (2 * (kI t x0 3)) = Int32.ofNat (kA t (x0 + 1)).1 ∧ (kN t) + 1 < zz_out) (k : ∀ {h : zz_H}, kR h (jMv (jNI t 1 (Int32.toNatClampNeg (2 * (kI t x0 3))) (kcp 0 (kA t (x0 + 1)).2 (Nat.min (kA t (x0 + 1)).1 (Int32.toNatClampNeg (2 * (kI t x0 3)))))) (x0 + 1)) s → zz_J zp_P zt_tf zt_fd X (d + 9) zm_209 29 [(0, .ref x0), (1, .int x1), (2, .int x2), (3, .int x3)] [] h Q) : zz_J zp_P zt_tf zt_fd X (d + 9) zm_209 12 [(0, .ref x0), (1, .int x1), (2, .int x2), (3, .int x3)] [] h Q := by
  refine zz_J.n 13 rfl rfl rfl ?_
  refine zz_J.n 14 rfl rfl rfl ?_
  refine zz_J.g 17 rfl (hR.gv (v := .ref (kD t (x0 + 1))) (ko_P e0) (by decide) rfl) rfl ?_
  refine zz_J.c 18 (.int 2) rfl rfl rfl rfl ?_
  refine zz_J.n 19 rfl rfl rfl ?_
  refine zz_J.g 22 rfl (hR.gv (v := .int (kI t x0 3)) (ko_P e0) (by decide) rfl) rfl ?_
  refine zz_J.n 23 rfl rfl rfl ?_
  refine kq_copyi 26 rfl rfl hR (by omega) (ka_P1 e0) rfl e1 (Nat.le_of_ble_eq_true rfl) (fun {h} hR => ?_)
  obtain ⟨h1, eq1, hR⟩ := hR.pMvi (k := (x0 + 1)) (kOwn_P1 e0) (kP_rng (j := 1) e0 (by decide) (by decide)) (ko_P e0) (kpa_P_0 e0) (Nat.le_of_ble_eq_true rfl) rfl rfl rfl (ka_P1 e0)
  refine zz_J.pv 29 rfl eq1 rfl ?_
  clear eq1
  exact zz_J.weak (k hR) rfl ⟨rfl, rfl, rfl, rfl, trivial⟩
theorem cb_209_29 {X : Nat → Option zz_C} {h : zz_H} {t : cS} {s : mS} {d : Nat} {Q : zz_O → zz_H → Prop} {x0 : Nat} {x1 : Int32} {x2 : Int32} {x3 : Int32} (hR : kR h t s) (e0 : x0 = 12 ∨ x0 = 21) (e1 : ¬ (2 * (kI t x0 3)) < 0 ∧ (Int32.toNatClampNeg (2 * (kI t x0 3))) ≤ 1000000 ∧ (kA t (x0 + 2)).1 ≤ 1000000 ∧ ¬ (2 * (kI t x0 3)) = Int32.ofNat (kA t (x0 + 2)).1 ∧ (kN t) + 1 < zz_out) (k : ∀ {h : zz_H}, kR h (jMv (jNI t 1 (Int32.toNatClampNeg (2 * (kI t x0 3))) (kcp 0 (kA t (x0 + 2)).2 (Nat.min (kA t (x0 + 2)).1 (Int32.toNatClampNeg (2 * (kI t x0 3)))))) (x0 + 2)) s → zz_J zp_P zt_tf zt_fd X (d + 9) zm_209 46 [(0, .ref x0), (1, .int x1), (2, .int x2), (3, .int x3)] [] h Q) : zz_J zp_P zt_tf zt_fd X (d + 9) zm_209 29 [(0, .ref x0), (1, .int x1), (2, .int x2), (3, .int x3)] [] h Q := by
  refine zz_J.n 30 rfl rfl rfl ?_
  refine zz_J.n 31 rfl rfl rfl ?_
  refine zz_J.g 34 rfl (hR.gv (v := .ref (kD t (x0 + 2))) (ko_P e0) (by decide) rfl) rfl ?_
  refine zz_J.c 35 (.int 2) rfl rfl rfl rfl ?_
  refine zz_J.n 36 rfl rfl rfl ?_
  refine zz_J.g 39 rfl (hR.gv (v := .int (kI t x0 3)) (ko_P e0) (by decide) rfl) rfl ?_
  refine zz_J.n 40 rfl rfl rfl ?_
  refine kq_copyi 43 rfl rfl hR (by omega) (ka_P2 e0) rfl e1 (Nat.le_of_ble_eq_true rfl) (fun {h} hR => ?_)
  obtain ⟨h1, eq1, hR⟩ := hR.pMvi (k := (x0 + 2)) (kOwn_P2 e0) (kP_rng (j := 2) e0 (by decide) (by decide)) (ko_P e0) (kpa_P_1 e0) (Nat.le_of_ble_eq_true rfl) rfl rfl rfl (ka_P2 e0)
  refine zz_J.pv 46 rfl eq1 rfl ?_
  clear eq1
  exact zz_J.weak (k hR) rfl ⟨rfl, rfl, rfl, rfl, trivial⟩
theorem cb_209_46 {X : Nat → Option zz_C} {h : zz_H} {t : cS} {s : mS} {d : Nat} {Q : zz_O → zz_H → Prop} {x0 : Nat} {x1 : Int32} {x2 : Int32} {x3 : Int32} (hR : kR h t s) (e0 : x0 = 12 ∨ x0 = 21) (e1 : ¬ (2 * (kI t x0 3)) < 0 ∧ (Int32.toNatClampNeg (2 * (kI t x0 3))) ≤ 1000000 ∧ (kA t (x0 + 3)).1 ≤ 1000000 ∧ ¬ (2 * (kI t x0 3)) = Int32.ofNat (kA t (x0 + 3)).1 ∧ (kN t) + 1 < zz_out) (k : ∀ {h : zz_H}, kR h (jMv (jNI t 1 (Int32.toNatClampNeg (2 * (kI t x0 3))) (kcp 0 (kA t (x0 + 3)).2 (Nat.min (kA t (x0 + 3)).1 (Int32.toNatClampNeg (2 * (kI t x0 3)))))) (x0 + 3)) s → zz_J zp_P zt_tf zt_fd X (d + 9) zm_209 63 [(0, .ref x0), (1, .int x1), (2, .int x2), (3, .int x3)] [] h Q) : zz_J zp_P zt_tf zt_fd X (d + 9) zm_209 46 [(0, .ref x0), (1, .int x1), (2, .int x2), (3, .int x3)] [] h Q := by
  refine zz_J.n 47 rfl rfl rfl ?_
  refine zz_J.n 48 rfl rfl rfl ?_
  refine zz_J.g 51 rfl (hR.gv (v := .ref (kD t (x0 + 3))) (ko_P e0) (by decide) rfl) rfl ?_
  refine zz_J.c 52 (.int 2) rfl rfl rfl rfl ?_
  refine zz_J.n 53 rfl rfl rfl ?_
  refine zz_J.g 56 rfl (hR.gv (v := .int (kI t x0 3)) (ko_P e0) (by decide) rfl) rfl ?_
  refine zz_J.n 57 rfl rfl rfl ?_
  refine kq_copyi 60 rfl rfl hR (by omega) (ka_P3 e0) rfl e1 (Nat.le_of_ble_eq_true rfl) (fun {h} hR => ?_)
  obtain ⟨h1, eq1, hR⟩ := hR.pMvi (k := (x0 + 3)) (kOwn_P3 e0) (kP_rng (j := 3) e0 (by decide) (by decide)) (ko_P e0) (kpa_P_2 e0) (Nat.le_of_ble_eq_true rfl) rfl rfl rfl (ka_P3 e0)
  refine zz_J.pv 63 rfl eq1 rfl ?_
  clear eq1
  exact zz_J.weak (k hR) rfl ⟨rfl, rfl, rfl, rfl, trivial⟩
theorem cb_209_63 {X : Nat → Option zz_C} {h : zz_H} {t : cS} {s : mS} {d : Nat} {Q : zz_O → zz_H → Prop} {x0 : Nat} {x1 : Int32} {x2 : Int32} {x3 : Int32} (hR : kR h t s) (e0 : x0 = 12 ∨ x0 = 21) (e1 : ¬ ((kI t x0 3) < 0 ∨ (kA t (x0 + 1)).1 ≤ (Int32.toNatClampNeg (kI t x0 3)))) (e2 : ¬ ((kI t x0 3) < 0 ∨ (kA (jA t (x0 + 1) (upd (kA t (x0 + 1)).2 (Int32.toNatClampNeg (kI t x0 3)) x1)) (x0 + 2)).1 ≤ (Int32.toNatClampNeg (kI t x0 3)))) (e3 : ¬ ((kI t x0 3) < 0 ∨ (kA (jA (jA t (x0 + 1) (upd (kA t (x0 + 1)).2 (Int32.toNatClampNeg (kI t x0 3)) x1)) (x0 + 2) (upd (kA (jA t (x0 + 1) (upd (kA t (x0 + 1)).2 (Int32.toNatClampNeg (kI t x0 3)) x1)) (x0 + 2)).2 (Int32.toNatClampNeg (kI t x0 3)) x2)) (x0 + 3)).1 ≤ (Int32.toNatClampNeg (kI t x0 3)))) (k : ∀ {h : zz_H}, kR h (jI (jA (jA (jA t (x0 + 1) (upd (kA t (x0 + 1)).2 (Int32.toNatClampNeg (kI t x0 3)) x1)) (x0 + 2) (upd (kA (jA t (x0 + 1) (upd (kA t (x0 + 1)).2 (Int32.toNatClampNeg (kI t x0 3)) x1)) (x0 + 2)).2 (Int32.toNatClampNeg (kI t x0 3)) x2)) (x0 + 3) (upd (kA (jA (jA t (x0 + 1) (upd (kA t (x0 + 1)).2 (Int32.toNatClampNeg (kI t x0 3)) x1)) (x0 + 2) (upd (kA (jA t (x0 + 1) (upd (kA t (x0 + 1)).2 (Int32.toNatClampNeg (kI t x0 3)) x1)) (x0 + 2)).2 (Int32.toNatClampNeg (kI t x0 3)) x2)) (x0 + 3)).2 (Int32.toNatClampNeg (kI t x0 3)) x3)) x0 3 ((kI t x0 3) + 1)) s → Q (.inl (some (.int ((kI (jI (jA (jA (jA t (x0 + 1) (upd (kA t (x0 + 1)).2 (Int32.toNatClampNeg (kI t x0 3)) x1)) (x0 + 2) (upd (kA (jA t (x0 + 1) (upd (kA t (x0 + 1)).2 (Int32.toNatClampNeg (kI t x0 3)) x1)) (x0 + 2)).2 (Int32.toNatClampNeg (kI t x0 3)) x2)) (x0 + 3) (upd (kA (jA (jA t (x0 + 1) (upd (kA t (x0 + 1)).2 (Int32.toNatClampNeg (kI t x0 3)) x1)) (x0 + 2) (upd (kA (jA t (x0 + 1) (upd (kA t (x0 + 1)).2 (Int32.toNatClampNeg (kI t x0 3)) x1)) (x0 + 2)).2 (Int32.toNatClampNeg (kI t x0 3)) x2)) (x0 + 3)).2 (Int32.toNatClampNeg (kI t x0 3)) x3)) x0 3 ((kI t x0 3) + 1)) x0 3) - 1)))) h) : zz_J zp_P zt_tf zt_fd X d zm_209 63 [(0, .ref x0), (1, .int x1), (2, .int x2), (3, .int x3)] [] h Q := by
  refine zz_J.n 64 rfl rfl rfl ?_
  refine zz_J.g 67 rfl (hR.gv (v := .ref (kD t (x0 + 1))) (ko_P e0) (by decide) rfl) rfl ?_
  refine zz_J.n 68 rfl rfl rfl ?_
  refine zz_J.g 71 rfl (hR.gv (v := .int (kI t x0 3)) (ko_P e0) (by decide) rfl) rfl ?_
  refine zz_J.n 72 rfl rfl rfl ?_
  obtain ⟨h1, eq1, hR⟩ := hR.si (x := x1) (ka_P1 e0) rfl e1
  refine zz_J.si 73 rfl eq1 rfl ?_
  clear eq1
  refine zz_J.n 74 rfl rfl rfl ?_
  refine zz_J.g 77 rfl (hR.gv (v := .ref (kD t (x0 + 2))) (ko_P e0) (by decide) rfl) rfl ?_
  refine zz_J.n 78 rfl rfl rfl ?_
  refine zz_J.g 81 rfl (hR.gv (v := .int (kI t x0 3)) (ko_P e0) (by decide) rfl) rfl ?_
  refine zz_J.n 82 rfl rfl rfl ?_
  obtain ⟨h1, eq1, hR⟩ := hR.si (x := x2) (ka_P2 e0) rfl e2
  refine zz_J.si 83 rfl eq1 rfl ?_
  clear eq1
  refine zz_J.n 84 rfl rfl rfl ?_
  refine zz_J.g 87 rfl (hR.gv (v := .ref (kD t (x0 + 3))) (ko_P e0) (by decide) rfl) rfl ?_
  refine zz_J.n 88 rfl rfl rfl ?_
  refine zz_J.g 91 rfl (hR.gv (v := .int (kI t x0 3)) (ko_P e0) (by decide) rfl) rfl ?_
  refine zz_J.n 92 rfl rfl rfl ?_
  obtain ⟨h1, eq1, hR⟩ := hR.si (x := x3) (ka_P3 e0) rfl e3
  refine zz_J.si 93 rfl eq1 rfl ?_
  clear eq1
  refine zz_J.n 94 rfl rfl rfl ?_
  refine zz_J.n 95 rfl rfl rfl ?_
  refine zz_J.g 98 rfl (hR.gv (v := .int (kI t x0 3)) (ko_P e0) (by decide) rfl) rfl ?_
  refine zz_J.c 99 (.int 1) rfl rfl rfl rfl ?_
  refine zz_J.n 100 rfl rfl rfl ?_
  obtain ⟨h1, eq1, hR⟩ := hR.pI (x := ((kI t x0 3) + 1)) (kP_lt e0) (ko_P e0) (kpi_P_3 e0 _) (Nat.le_of_ble_eq_true rfl) rfl
  refine zz_J.pv 103 rfl eq1 rfl ?_
  clear eq1
  refine zz_J.n 104 rfl rfl rfl ?_
  refine zz_J.g 107 rfl (hR.gv (v := .int (kI (jI (jA (jA (jA t (x0 + 1) (upd (kA t (x0 + 1)).2 (Int32.toNatClampNeg (kI t x0 3)) x1)) (x0 + 2) (upd (kA (jA t (x0 + 1) (upd (kA t (x0 + 1)).2 (Int32.toNatClampNeg (kI t x0 3)) x1)) (x0 + 2)).2 (Int32.toNatClampNeg (kI t x0 3)) x2)) (x0 + 3) (upd (kA (jA (jA t (x0 + 1) (upd (kA t (x0 + 1)).2 (Int32.toNatClampNeg (kI t x0 3)) x1)) (x0 + 2) (upd (kA (jA t (x0 + 1) (upd (kA t (x0 + 1)).2 (Int32.toNatClampNeg (kI t x0 3)) x1)) (x0 + 2)).2 (Int32.toNatClampNeg (kI t x0 3)) x2)) (x0 + 3)).2 (Int32.toNatClampNeg (kI t x0 3)) x3)) x0 3 ((kI t x0 3) + 1)) x0 3)) (ko_P e0) (by decide) rfl) rfl ?_
  refine zz_J.c 108 (.int 1) rfl rfl rfl rfl ?_
  refine zz_J.n 109 rfl rfl rfl ?_
  refine zz_J.ret rfl rfl rfl ?_
  exact k hR
def cf_209_63 (N : Nat) (X : Nat → Option zz_C) (x0 : Nat) (x1 : Int32) (x2 : Int32) (x3 : Int32) (t : cS) : kO := if x0 = 12 ∨ x0 = 21 then (if ¬ ((kI t x0 3) < 0 ∨ (kA t (x0 + 1)).1 ≤ (Int32.toNatClampNeg (kI t x0 3))) then (if ¬ ((kI t x0 3) < 0 ∨ (kA (jA t (x0 + 1) (upd (kA t (x0 + 1)).2 (Int32.toNatClampNeg (kI t x0 3)) x1)) (x0 + 2)).1 ≤ (Int32.toNatClampNeg (kI t x0 3))) then (if ¬ ((kI t x0 3) < 0 ∨ (kA (jA (jA t (x0 + 1) (upd (kA t (x0 + 1)).2 (Int32.toNatClampNeg (kI t x0 3)) x1)) (x0 + 2) (upd (kA (jA t (x0 + 1) (upd (kA t (x0 + 1)).2 (Int32.toNatClampNeg (kI t x0 3)) x1)) (x0 + 2)).2 (Int32.toNatClampNeg (kI t x0 3)) x2)) (x0 + 3)).1 ≤ (Int32.toNatClampNeg (kI t x0 3))) then (some ((jI (jA (jA (jA t (x0 + 1) (upd (kA t (x0 + 1)).2 (Int32.toNatClampNeg (kI t x0 3)) x1)) (x0 + 2) (upd (kA (jA t (x0 + 1) (upd (kA t (x0 + 1)).2 (Int32.toNatClampNeg (kI t x0 3)) x1)) (x0 + 2)).2 (Int32.toNatClampNeg (kI t x0 3)) x2)) (x0 + 3) (upd (kA (jA (jA t (x0 + 1) (upd (kA t (x0 + 1)).2 (Int32.toNatClampNeg (kI t x0 3)) x1)) (x0 + 2) (upd (kA (jA t (x0 + 1) (upd (kA t (x0 + 1)).2 (Int32.toNatClampNeg (kI t x0 3)) x1)) (x0 + 2)).2 (Int32.toNatClampNeg (kI t x0 3)) x2)) (x0 + 3)).2 (Int32.toNatClampNeg (kI t x0 3)) x3)) x0 3 ((kI t x0 3) + 1)), .inl (some (.int ((kI (jI (jA (jA (jA t (x0 + 1) (upd (kA t (x0 + 1)).2 (Int32.toNatClampNeg (kI t x0 3)) x1)) (x0 + 2) (upd (kA (jA t (x0 + 1) (upd (kA t (x0 + 1)).2 (Int32.toNatClampNeg (kI t x0 3)) x1)) (x0 + 2)).2 (Int32.toNatClampNeg (kI t x0 3)) x2)) (x0 + 3) (upd (kA (jA (jA t (x0 + 1) (upd (kA t (x0 + 1)).2 (Int32.toNatClampNeg (kI t x0 3)) x1)) (x0 + 2) (upd (kA (jA t (x0 + 1) (upd (kA t (x0 + 1)).2 (Int32.toNatClampNeg (kI t x0 3)) x1)) (x0 + 2)).2 (Int32.toNatClampNeg (kI t x0 3)) x2)) (x0 + 3)).2 (Int32.toNatClampNeg (kI t x0 3)) x3)) x0 3 ((kI t x0 3) + 1)) x0 3) - 1))))) else none) else none) else none) else none
theorem cr_209_63 {X : Nat → Option zz_C} {s : mS} {N : Nat} {d : Nat} (hd : 9 ≤ d) {Q : zz_O → zz_H → Prop} {x0 : Nat} {x1 : Int32} {x2 : Int32} {x3 : Int32} {h : zz_H} {t t' : cS} {o : kY} (hR : kR h t s) (hf : cf_209_63 N X x0 x1 x2 x3 t = some (t', o)) (k : (∀ h', kR h' t' s → kE o Q h')) : zz_J zp_P zt_tf zt_fd X d zm_209 63 [(0, .ref x0), (1, .int x1), (2, .int x2), (3, .int x3)] [] h Q := by
  unfold cf_209_63 at hf
  obtain ⟨e0, hf⟩ := ko_if hf
  obtain ⟨e1, hf⟩ := ko_if hf
  obtain ⟨e2, hf⟩ := ko_if hf
  obtain ⟨e3, hf⟩ := ko_if hf
  cases hf
  exact cb_209_63 hR e0 e1 e2 e3 (fun {h} hR => k h hR)
def cf_209_46 (N : Nat) (X : Nat → Option zz_C) (x0 : Nat) (x1 : Int32) (x2 : Int32) (x3 : Int32) (t : cS) : kO := if x0 = 12 ∨ x0 = 21 then (if ¬ (2 * (kI t x0 3)) < 0 ∧ (Int32.toNatClampNeg (2 * (kI t x0 3))) ≤ 1000000 ∧ (kA t (x0 + 3)).1 ≤ 1000000 ∧ ¬ (2 * (kI t x0 3)) = Int32.ofNat (kA t (x0 + 3)).1 ∧ (kN t) + 1 < zz_out then (cf_209_63 N X x0 x1 x2 x3 (jMv (jNI t 1 (Int32.toNatClampNeg (2 * (kI t x0 3))) (kcp 0 (kA t (x0 + 3)).2 (Nat.min (kA t (x0 + 3)).1 (Int32.toNatClampNeg (2 * (kI t x0 3)))))) (x0 + 3))) else none) else none
theorem cr_209_46 {X : Nat → Option zz_C} {s : mS} {N : Nat} {d : Nat} (hd : 9 ≤ d) {Q : zz_O → zz_H → Prop} {x0 : Nat} {x1 : Int32} {x2 : Int32} {x3 : Int32} {h : zz_H} {t t' : cS} {o : kY} (hR : kR h t s) (hf : cf_209_46 N X x0 x1 x2 x3 t = some (t', o)) (k : (∀ h', kR h' t' s → kE o Q h')) : zz_J zp_P zt_tf zt_fd X d zm_209 46 [(0, .ref x0), (1, .int x1), (2, .int x2), (3, .int x3)] [] h Q := by
  unfold cf_209_46 at hf
  obtain ⟨e0, hf⟩ := ko_if hf
  obtain ⟨e1, hf⟩ := ko_if hf
  obtain ⟨d', rfl⟩ : ∃ d', d = d' + 9 := ⟨d - 9, by omega⟩
  exact cb_209_46 hR e0 e1 (fun hR => cr_209_63 hd hR hf k)
def cf_209_29 (N : Nat) (X : Nat → Option zz_C) (x0 : Nat) (x1 : Int32) (x2 : Int32) (x3 : Int32) (t : cS) : kO := if x0 = 12 ∨ x0 = 21 then (if ¬ (2 * (kI t x0 3)) < 0 ∧ (Int32.toNatClampNeg (2 * (kI t x0 3))) ≤ 1000000 ∧ (kA t (x0 + 2)).1 ≤ 1000000 ∧ ¬ (2 * (kI t x0 3)) = Int32.ofNat (kA t (x0 + 2)).1 ∧ (kN t) + 1 < zz_out then (cf_209_46 N X x0 x1 x2 x3 (jMv (jNI t 1 (Int32.toNatClampNeg (2 * (kI t x0 3))) (kcp 0 (kA t (x0 + 2)).2 (Nat.min (kA t (x0 + 2)).1 (Int32.toNatClampNeg (2 * (kI t x0 3)))))) (x0 + 2))) else none) else none
theorem cr_209_29 {X : Nat → Option zz_C} {s : mS} {N : Nat} {d : Nat} (hd : 9 ≤ d) {Q : zz_O → zz_H → Prop} {x0 : Nat} {x1 : Int32} {x2 : Int32} {x3 : Int32} {h : zz_H} {t t' : cS} {o : kY} (hR : kR h t s) (hf : cf_209_29 N X x0 x1 x2 x3 t = some (t', o)) (k : (∀ h', kR h' t' s → kE o Q h')) : zz_J zp_P zt_tf zt_fd X d zm_209 29 [(0, .ref x0), (1, .int x1), (2, .int x2), (3, .int x3)] [] h Q := by
  unfold cf_209_29 at hf
  obtain ⟨e0, hf⟩ := ko_if hf
  obtain ⟨e1, hf⟩ := ko_if hf
  obtain ⟨d', rfl⟩ : ∃ d', d = d' + 9 := ⟨d - 9, by omega⟩
  exact cb_209_29 hR e0 e1 (fun hR => cr_209_46 hd hR hf k)
def cf_209_12 (N : Nat) (X : Nat → Option zz_C) (x0 : Nat) (x1 : Int32) (x2 : Int32) (x3 : Int32) (t : cS) : kO := if x0 = 12 ∨ x0 = 21 then (if ¬ (2 * (kI t x0 3)) < 0 ∧ (Int32.toNatClampNeg (2 * (kI t x0 3))) ≤ 1000000 ∧ (kA t (x0 + 1)).1 ≤ 1000000 ∧ ¬ (2 * (kI t x0 3)) = Int32.ofNat (kA t (x0 + 1)).1 ∧ (kN t) + 1 < zz_out then (cf_209_29 N X x0 x1 x2 x3 (jMv (jNI t 1 (Int32.toNatClampNeg (2 * (kI t x0 3))) (kcp 0 (kA t (x0 + 1)).2 (Nat.min (kA t (x0 + 1)).1 (Int32.toNatClampNeg (2 * (kI t x0 3)))))) (x0 + 1))) else none) else none
theorem cr_209_12 {X : Nat → Option zz_C} {s : mS} {N : Nat} {d : Nat} (hd : 9 ≤ d) {Q : zz_O → zz_H → Prop} {x0 : Nat} {x1 : Int32} {x2 : Int32} {x3 : Int32} {h : zz_H} {t t' : cS} {o : kY} (hR : kR h t s) (hf : cf_209_12 N X x0 x1 x2 x3 t = some (t', o)) (k : (∀ h', kR h' t' s → kE o Q h')) : zz_J zp_P zt_tf zt_fd X d zm_209 12 [(0, .ref x0), (1, .int x1), (2, .int x2), (3, .int x3)] [] h Q := by
  unfold cf_209_12 at hf
  obtain ⟨e0, hf⟩ := ko_if hf
  obtain ⟨e1, hf⟩ := ko_if hf
  obtain ⟨d', rfl⟩ : ∃ d', d = d' + 9 := ⟨d - 9, by omega⟩
  exact cb_209_12 hR e0 e1 (fun hR => cr_209_29 hd hR hf k)
def cf_209_0 (N : Nat) (X : Nat → Option zz_C) (x0 : Nat) (x1 : Int32) (x2 : Int32) (x3 : Int32) (t : cS) : kO := if x0 = 12 ∨ x0 = 21 then (if ¬ (kI t x0 3) = (Int32.ofNat (kA t (x0 + 1)).1) then cf_209_63 N X x0 x1 x2 x3 t else cf_209_12 N X x0 x1 x2 x3 t) else none
theorem cr_209_0 {X : Nat → Option zz_C} {s : mS} {N : Nat} {d : Nat} (hd : 9 ≤ d) {Q : zz_O → zz_H → Prop} {x0 : Nat} {x1 : Int32} {x2 : Int32} {x3 : Int32} {h : zz_H} {t t' : cS} {o : kY} (hR : kR h t s) (hf : cf_209_0 N X x0 x1 x2 x3 t = some (t', o)) (k : (∀ h', kR h' t' s → kE o Q h')) : zz_J zp_P zt_tf zt_fd X d zm_209 0 [(0, .ref x0), (1, .int x1), (2, .int x2), (3, .int x3)] [] h Q := by
  unfold cf_209_0 at hf
  obtain ⟨e0, hf⟩ := ko_if hf
  refine cb_209_0 hR e0 (fun c {h} hR => ?_) (fun c {h} hR => ?_)
  · rw [if_pos c] at hf
    exact cr_209_63 hd hR hf k
  · rw [if_neg c] at hf
    exact cr_209_12 hd hR hf k
/-- emit -/
def cf_209 (N : Nat) (X : Nat → Option zz_C) (x0 : Nat) (x1 : Int32) (x2 : Int32) (x3 : Int32) (t : cS) : kO := cf_209_0 N X x0 x1 x2 x3 t
theorem cr_209 {X : Nat → Option zz_C} {s : mS} {N : Nat} {d : Nat} (hd : 9 ≤ d) {Q : zz_O → zz_H → Prop} {x0 : Nat} {x1 : Int32} {x2 : Int32} {x3 : Int32} {h : zz_H} {t t' : cS} {o : kY} (hR : kR h t s) (hf : cf_209 N X x0 x1 x2 x3 t = some (t', o)) (k : ∀ h', kR h' t' s → kE o Q h') : zz_J zp_P zt_tf zt_fd X d zm_209 0 [(0, .ref x0), (1, .int x1), (2, .int x2), (3, .int x3)] [] h Q := by
  unfold cf_209 at hf
  exact zz_J.weak (cr_209_0 hd hR hf k) rfl ⟨rfl, rfl, rfl, rfl, trivial⟩
/-! yX5_endCallStatement ()V -/
theorem cb_178_0 {X : Nat → Option zz_C} {h : zz_H} {t : cS} {s : mS} {d : Nat} {Q : zz_O → zz_H → Prop}  (hR : kR h t s) (k : ∀ {h : zz_H}, kR h t s → zz_J zp_P zt_tf zt_fd X d zm_201 0 [(0, .ref 2), (1, .int 59)] [] h (zz_after 5 Q (fun v h' => zz_J zp_P zt_tf zt_fd X (d + 1) zm_178 6 [(0, .ref 2)] (v.toList ++ []) h' Q))) : zz_J zp_P zt_tf zt_fd X (d + 1) zm_178 0 [(0, .ref 2)] [] h Q := by
  refine zz_J.n 1 rfl rfl rfl ?_
  refine zz_J.c 3 (.int 59) rfl rfl rfl rfl ?_
  refine zz_J.cv 6 (as := []) rfl rfl (hR.clO ko_2 (by decide) (by decide)) (by decide) (Nat.le_of_ble_eq_true rfl) (Nat.le_of_ble_eq_true rfl) rfl (Nat.le_of_ble_eq_true rfl) rfl ?_
  refine zz_J.mono (k hR) ?_
  intro o h' hE
  cases o with
  | inl v => exact zz_J.weak hE rfl ⟨rfl, trivial⟩
  | inr q => exact hE
theorem cb_178_6 {X : Nat → Option zz_C} {h : zz_H} {t : cS} {s : mS} {d : Nat} {Q : zz_O → zz_H → Prop}  (hR : kR h t s) {w0 : Nat} (e0 : (kP t 2 1) = some w0) (e1 : w0 = 12 ∨ w0 = 21) (k : ∀ {h : zz_H}, kR h t s → zz_J zp_P zt_tf zt_fd X d zm_209 0 [(0, .ref w0), (1, .int 3), (2, .int 0), (3, .int 0)] [] h (zz_after 6 Q (fun v h' => zz_J zp_P zt_tf zt_fd X (d + 1) zm_178 16 [] (v.toList ++ []) h' Q))) : zz_J zp_P zt_tf zt_fd X (d + 1) zm_178 6 [(0, .ref 2)] [] h Q := by
  refine zz_J.n 7 rfl rfl rfl ?_
  refine zz_J.g 10 rfl (hR.gv (v := .ref w0) ko_2 (by decide) ((congrArg (fun q => some (zz_rv q)) e0).trans rfl)) rfl ?_
  refine zz_J.c 11 (.int 3) rfl rfl rfl rfl ?_
  refine zz_J.c 12 (.int 0) rfl rfl rfl rfl ?_
  refine zz_J.c 13 (.int 0) rfl rfl rfl rfl ?_
  refine zz_J.cv 16 (as := []) rfl rfl (hR.clO (ko_P e1) (by decide) (by decide)) (by decide) (Nat.le_of_ble_eq_true rfl) (Nat.le_of_ble_eq_true rfl) rfl (Nat.le_of_ble_eq_true rfl) rfl ?_
  refine zz_J.mono (k hR) ?_
  intro o h' hE
  cases o with
  | inl v => exact zz_J.weak hE rfl trivial
  | inr q => exact hE
theorem cb_178_16 {X : Nat → Option zz_C} {h : zz_H} {t : cS} {s : mS} {d : Nat} {Q : zz_O → zz_H → Prop} {y0 : Int32} (hR : kR h t s) (k : ∀ {h : zz_H}, kR h t s → Q (.inl none) h) : zz_J zp_P zt_tf zt_fd X d zm_178 16 [] [.int y0] h Q := by
  refine zz_J.n 17 rfl rfl rfl ?_
  refine zz_J.ret rfl rfl rfl ?_
  exact k hR
def cf_178_16 (N : Nat) (X : Nat → Option zz_C) (y0 : Int32) (t : cS) : kO := some (t, .inl none)
theorem cr_178_16 {X : Nat → Option zz_C} {s : mS} {N : Nat} {d : Nat} (hd : 10 ≤ d) {Q : zz_O → zz_H → Prop} {y0 : Int32} {h : zz_H} {t t' : cS} {o : kY} (hR : kR h t s) (hf : cf_178_16 N X y0 t = some (t', o)) (k : (∀ h', kR h' t' s → kE o Q h')) : zz_J zp_P zt_tf zt_fd X d zm_178 16 [] [.int y0] h Q := by
  unfold cf_178_16 at hf
  cases hf
  exact cb_178_16 hR  (fun {h} hR => k h hR)
def cf_178_6 (N : Nat) (X : Nat → Option zz_C)  (t : cS) : kO := co_b ((kP t 2 1)) (fun w0 => if w0 = 12 ∨ w0 = 21 then (ko_call 6 (cf_209 N X w0 3 0 0 t) (fun g1 v1 => co_i v1 (fun y => cf_178_16 N X y g1))) else none)
theorem cr_178_6 {X : Nat → Option zz_C} {s : mS} {N : Nat} {d : Nat} (hd : 10 ≤ d) {Q : zz_O → zz_H → Prop}  {h : zz_H} {t t' : cS} {o : kY} (hR : kR h t s) (hf : cf_178_6 N X  t = some (t', o)) (k : (∀ h', kR h' t' s → kE o Q h')) : zz_J zp_P zt_tf zt_fd X d zm_178 6 [(0, .ref 2)] [] h Q := by
  unfold cf_178_6 at hf
  obtain ⟨w0, e0, hf⟩ := co_b_ok hf
  obtain ⟨e1, hf⟩ := ko_if hf
  obtain ⟨d', rfl⟩ : ∃ d', d = d' + 1 := ⟨d - 1, by omega⟩
  refine cb_178_6 hR e0 e1 (fun {h} hR => ?_)
  rcases ko_call_ok hf with ⟨g1, v1, er, hf⟩ | ⟨g1, er, hq⟩
  · obtain ⟨y, hv, hf2⟩ := co_i_ok hf
    clear hf
    have hf := hf2
    clear hf2
    subst hv
    refine cr_209 (by omega) hR er (fun h hR => ?_)
    exact cr_178_16 hd hR hf k
  · refine cr_209 (by omega) hR er (fun h hR => ?_)
    exact ko_thrown hq hR k
def cf_178_0 (N : Nat) (X : Nat → Option zz_C)  (t : cS) : kO := ko_call 5 (cf_201 N X 59 t) (fun g1 v1 => co_v v1 (cf_178_6 N X  g1))
theorem cr_178_0 {X : Nat → Option zz_C} {s : mS} {N : Nat} {d : Nat} (hd : 10 ≤ d) {Q : zz_O → zz_H → Prop}  {h : zz_H} {t t' : cS} {o : kY} (hR : kR h t s) (hf : cf_178_0 N X  t = some (t', o)) (k : (∀ h', kR h' t' s → kE o Q h')) : zz_J zp_P zt_tf zt_fd X d zm_178 0 [(0, .ref 2)] [] h Q := by
  unfold cf_178_0 at hf
  obtain ⟨d', rfl⟩ : ∃ d', d = d' + 1 := ⟨d - 1, by omega⟩
  refine cb_178_0 hR  (fun {h} hR => ?_)
  rcases ko_call_ok hf with ⟨g1, v1, er, hf⟩ | ⟨g1, er, hq⟩
  · obtain ⟨hv, hf2⟩ := co_v_ok hf
    clear hf
    have hf := hf2
    clear hf2
    subst hv
    refine cr_201 (by omega) hR er (fun h hR => ?_)
    exact cr_178_6 hd hR hf k
  · refine cr_201 (by omega) hR er (fun h hR => ?_)
    exact ko_thrown hq hR k
/-- endCallStatement -/
def cf_178 (N : Nat) (X : Nat → Option zz_C)  (t : cS) : kO := cf_178_0 N X  t
theorem cr_178 {X : Nat → Option zz_C} {s : mS} {N : Nat} {d : Nat} (hd : 10 ≤ d) {Q : zz_O → zz_H → Prop}  {h : zz_H} {t t' : cS} {o : kY} (hR : kR h t s) (hf : cf_178 N X  t = some (t', o)) (k : ∀ h', kR h' t' s → kE o Q h') : zz_J zp_P zt_tf zt_fd X d zm_178 0 [(0, .ref 2)] [] h Q := by
  unfold cf_178 at hf
  exact zz_J.weak (cr_178_0 hd hR hf k) rfl ⟨rfl, trivial⟩
/-! yX5_levelOf (I)I -/
theorem cb_187_0 {X : Nat → Option zz_C} {h : zz_H} {t : cS} {s : mS} {d : Nat} {Q : zz_O → zz_H → Prop} {x0 : Int32} (hR : kR h t s) (c37 : x0 = 37 → (∀ {h : zz_H}, kR h t s → zz_J zp_P zt_tf zt_fd X d zm_187 122 [] [] h Q)) (c38 : x0 = 38 → (∀ {h : zz_H}, kR h t s → zz_J zp_P zt_tf zt_fd X d zm_187 116 [] [] h Q)) (c42 : x0 = 42 → (∀ {h : zz_H}, kR h t s → zz_J zp_P zt_tf zt_fd X d zm_187 122 [] [] h Q)) (c43 : x0 = 43 → (∀ {h : zz_H}, kR h t s → zz_J zp_P zt_tf zt_fd X d zm_187 120 [] [] h Q)) (c45 : x0 = 45 → (∀ {h : zz_H}, kR h t s → zz_J zp_P zt_tf zt_fd X d zm_187 120 [] [] h Q)) (c47 : x0 = 47 → (∀ {h : zz_H}, kR h t s → zz_J zp_P zt_tf zt_fd X d zm_187 122 [] [] h Q)) (c60 : x0 = 60 → (∀ {h : zz_H}, kR h t s → zz_J zp_P zt_tf zt_fd X d zm_187 118 [] [] h Q)) (c62 : x0 = 62 → (∀ {h : zz_H}, kR h t s → zz_J zp_P zt_tf zt_fd X d zm_187 118 [] [] h Q)) (c124 : x0 = 124 → (∀ {h : zz_H}, kR h t s → zz_J zp_P zt_tf zt_fd X d zm_187 116 [] [] h Q)) (c289 : x0 = 289 → (∀ {h : zz_H}, kR h t s → zz_J zp_P zt_tf zt_fd X d zm_187 118 [] [] h Q)) (c316 : x0 = 316 → (∀ {h : zz_H}, kR h t s → zz_J zp_P zt_tf zt_fd X d zm_187 118 [] [] h Q)) (c317 : x0 = 317 → (∀ {h : zz_H}, kR h t s → zz_J zp_P zt_tf zt_fd X d zm_187 118 [] [] h Q)) (c318 : x0 = 318 → (∀ {h : zz_H}, kR h t s → zz_J zp_P zt_tf zt_fd X d zm_187 118 [] [] h Q)) (kd : (¬ x0 = 37 ∧ ¬ x0 = 38 ∧ ¬ x0 = 42 ∧ ¬ x0 = 43 ∧ ¬ x0 = 45 ∧ ¬ x0 = 47 ∧ ¬ x0 = 60 ∧ ¬ x0 = 62 ∧ ¬ x0 = 124 ∧ ¬ x0 = 289 ∧ ¬ x0 = 316 ∧ ¬ x0 = 317 ∧ ¬ x0 = 318) → (∀ {h : zz_H}, kR h t s → zz_J zp_P zt_tf zt_fd X d zm_187 124 [] [] h Q)) : zz_J zp_P zt_tf zt_fd X d zm_187 0 [(0, .int x0)] [] h Q := by
  refine zz_J.n 1 rfl rfl rfl ?_
  by_cases g37 : x0 = 37
  · exact zz_J.lk 122 121 rfl (by rw [g37]; rfl) (by decide) (by decide) rfl (zz_J.weak (c37 g37 hR) rfl trivial)
  by_cases g38 : x0 = 38
  · exact zz_J.lk 116 115 rfl (by rw [g38]; rfl) (by decide) (by decide) rfl (zz_J.weak (c38 g38 hR) rfl trivial)
  by_cases g42 : x0 = 42
  · exact zz_J.lk 122 121 rfl (by rw [g42]; rfl) (by decide) (by decide) rfl (zz_J.weak (c42 g42 hR) rfl trivial)
  by_cases g43 : x0 = 43
  · exact zz_J.lk 120 119 rfl (by rw [g43]; rfl) (by decide) (by decide) rfl (zz_J.weak (c43 g43 hR) rfl trivial)
  by_cases g45 : x0 = 45
  · exact zz_J.lk 120 119 rfl (by rw [g45]; rfl) (by decide) (by decide) rfl (zz_J.weak (c45 g45 hR) rfl trivial)
  by_cases g47 : x0 = 47
  · exact zz_J.lk 122 121 rfl (by rw [g47]; rfl) (by decide) (by decide) rfl (zz_J.weak (c47 g47 hR) rfl trivial)
  by_cases g60 : x0 = 60
  · exact zz_J.lk 118 117 rfl (by rw [g60]; rfl) (by decide) (by decide) rfl (zz_J.weak (c60 g60 hR) rfl trivial)
  by_cases g62 : x0 = 62
  · exact zz_J.lk 118 117 rfl (by rw [g62]; rfl) (by decide) (by decide) rfl (zz_J.weak (c62 g62 hR) rfl trivial)
  by_cases g124 : x0 = 124
  · exact zz_J.lk 116 115 rfl (by rw [g124]; rfl) (by decide) (by decide) rfl (zz_J.weak (c124 g124 hR) rfl trivial)
  by_cases g289 : x0 = 289
  · exact zz_J.lk 118 117 rfl (by rw [g289]; rfl) (by decide) (by decide) rfl (zz_J.weak (c289 g289 hR) rfl trivial)
  by_cases g316 : x0 = 316
  · exact zz_J.lk 118 117 rfl (by rw [g316]; rfl) (by decide) (by decide) rfl (zz_J.weak (c316 g316 hR) rfl trivial)
  by_cases g317 : x0 = 317
  · exact zz_J.lk 118 117 rfl (by rw [g317]; rfl) (by decide) (by decide) rfl (zz_J.weak (c317 g317 hR) rfl trivial)
  by_cases g318 : x0 = 318
  · exact zz_J.lk 118 117 rfl (by rw [g318]; rfl) (by decide) (by decide) rfl (zz_J.weak (c318 g318 hR) rfl trivial)
  refine zz_J.lk 124 123 rfl ?_ (by decide) (by decide) rfl (zz_J.weak (kd ⟨g37, g38, g42, g43, g45, g47, g60, g62, g124, g289, g316, g317, g318⟩ hR) rfl trivial)
  refine (if_neg (fun q => g37 (Int32.toInt_inj.mp (q.symm.trans rfl)))).trans ?_
  refine (if_neg (fun q => g38 (Int32.toInt_inj.mp (q.symm.trans rfl)))).trans ?_
  refine (if_neg (fun q => g42 (Int32.toInt_inj.mp (q.symm.trans rfl)))).trans ?_
  refine (if_neg (fun q => g43 (Int32.toInt_inj.mp (q.symm.trans rfl)))).trans ?_
  refine (if_neg (fun q => g45 (Int32.toInt_inj.mp (q.symm.trans rfl)))).trans ?_
  refine (if_neg (fun q => g47 (Int32.toInt_inj.mp (q.symm.trans rfl)))).trans ?_
  refine (if_neg (fun q => g60 (Int32.toInt_inj.mp (q.symm.trans rfl)))).trans ?_
  refine (if_neg (fun q => g62 (Int32.toInt_inj.mp (q.symm.trans rfl)))).trans ?_
  refine (if_neg (fun q => g124 (Int32.toInt_inj.mp (q.symm.trans rfl)))).trans ?_
  refine (if_neg (fun q => g289 (Int32.toInt_inj.mp (q.symm.trans rfl)))).trans ?_
  refine (if_neg (fun q => g316 (Int32.toInt_inj.mp (q.symm.trans rfl)))).trans ?_
  refine (if_neg (fun q => g317 (Int32.toInt_inj.mp (q.symm.trans rfl)))).trans ?_
  refine (if_neg (fun q => g318 (Int32.toInt_inj.mp (q.symm.trans rfl)))).trans ?_
  rfl
theorem cb_187_116 {X : Nat → Option zz_C} {h : zz_H} {t : cS} {s : mS} {d : Nat} {Q : zz_O → zz_H → Prop}  (hR : kR h t s) (k : ∀ {h : zz_H}, kR h t s → Q (.inl (some (.int 0))) h) : zz_J zp_P zt_tf zt_fd X d zm_187 116 [] [] h Q := by
  refine zz_J.c 117 (.int 0) rfl rfl rfl rfl ?_
  refine zz_J.ret rfl rfl rfl ?_
  exact k hR
theorem cb_187_118 {X : Nat → Option zz_C} {h : zz_H} {t : cS} {s : mS} {d : Nat} {Q : zz_O → zz_H → Prop}  (hR : kR h t s) (k : ∀ {h : zz_H}, kR h t s → Q (.inl (some (.int 1))) h) : zz_J zp_P zt_tf zt_fd X d zm_187 118 [] [] h Q := by
  refine zz_J.c 119 (.int 1) rfl rfl rfl rfl ?_
  refine zz_J.ret rfl rfl rfl ?_
  exact k hR
theorem cb_187_120 {X : Nat → Option zz_C} {h : zz_H} {t : cS} {s : mS} {d : Nat} {Q : zz_O → zz_H → Prop}  (hR : kR h t s) (k : ∀ {h : zz_H}, kR h t s → Q (.inl (some (.int 2))) h) : zz_J zp_P zt_tf zt_fd X d zm_187 120 [] [] h Q := by
  refine zz_J.c 121 (.int 2) rfl rfl rfl rfl ?_
  refine zz_J.ret rfl rfl rfl ?_
  exact k hR
theorem cb_187_122 {X : Nat → Option zz_C} {h : zz_H} {t : cS} {s : mS} {d : Nat} {Q : zz_O → zz_H → Prop}  (hR : kR h t s) (k : ∀ {h : zz_H}, kR h t s → Q (.inl (some (.int 3))) h) : zz_J zp_P zt_tf zt_fd X d zm_187 122 [] [] h Q := by
  refine zz_J.c 123 (.int 3) rfl rfl rfl rfl ?_
  refine zz_J.ret rfl rfl rfl ?_
  exact k hR
theorem cb_187_124 {X : Nat → Option zz_C} {h : zz_H} {t : cS} {s : mS} {d : Nat} {Q : zz_O → zz_H → Prop}  (hR : kR h t s) (k : ∀ {h : zz_H}, kR h t s → Q (.inl (some (.int (-1)))) h) : zz_J zp_P zt_tf zt_fd X d zm_187 124 [] [] h Q := by
  refine zz_J.c 125 (.int (-1)) rfl rfl rfl rfl ?_
  refine zz_J.ret rfl rfl rfl ?_
  exact k hR
def cf_187_122 (N : Nat) (X : Nat → Option zz_C)  (t : cS) : kO := some (t, .inl (some (.int 3)))
theorem cr_187_122 {X : Nat → Option zz_C} {s : mS} {N : Nat} {d : Nat} (hd : 0 ≤ d) {Q : zz_O → zz_H → Prop}  {h : zz_H} {t t' : cS} {o : kY} (hR : kR h t s) (hf : cf_187_122 N X  t = some (t', o)) (k : (∀ h', kR h' t' s → kE o Q h')) : zz_J zp_P zt_tf zt_fd X d zm_187 122 [] [] h Q := by
  unfold cf_187_122 at hf
  cases hf
  exact cb_187_122 hR  (fun {h} hR => k h hR)
def cf_187_116 (N : Nat) (X : Nat → Option zz_C)  (t : cS) : kO := some (t, .inl (some (.int 0)))
theorem cr_187_116 {X : Nat → Option zz_C} {s : mS} {N : Nat} {d : Nat} (hd : 0 ≤ d) {Q : zz_O → zz_H → Prop}  {h : zz_H} {t t' : cS} {o : kY} (hR : kR h t s) (hf : cf_187_116 N X  t = some (t', o)) (k : (∀ h', kR h' t' s → kE o Q h')) : zz_J zp_P zt_tf zt_fd X d zm_187 116 [] [] h Q := by
  unfold cf_187_116 at hf
  cases hf
  exact cb_187_116 hR  (fun {h} hR => k h hR)
def cf_187_120 (N : Nat) (X : Nat → Option zz_C)  (t : cS) : kO := some (t, .inl (some (.int 2)))
theorem cr_187_120 {X : Nat → Option zz_C} {s : mS} {N : Nat} {d : Nat} (hd : 0 ≤ d) {Q : zz_O → zz_H → Prop}  {h : zz_H} {t t' : cS} {o : kY} (hR : kR h t s) (hf : cf_187_120 N X  t = some (t', o)) (k : (∀ h', kR h' t' s → kE o Q h')) : zz_J zp_P zt_tf zt_fd X d zm_187 120 [] [] h Q := by
  unfold cf_187_120 at hf
  cases hf
  exact cb_187_120 hR  (fun {h} hR => k h hR)
def cf_187_118 (N : Nat) (X : Nat → Option zz_C)  (t : cS) : kO := some (t, .inl (some (.int 1)))
theorem cr_187_118 {X : Nat → Option zz_C} {s : mS} {N : Nat} {d : Nat} (hd : 0 ≤ d) {Q : zz_O → zz_H → Prop}  {h : zz_H} {t t' : cS} {o : kY} (hR : kR h t s) (hf : cf_187_118 N X  t = some (t', o)) (k : (∀ h', kR h' t' s → kE o Q h')) : zz_J zp_P zt_tf zt_fd X d zm_187 118 [] [] h Q := by
  unfold cf_187_118 at hf
  cases hf
  exact cb_187_118 hR  (fun {h} hR => k h hR)
def cf_187_124 (N : Nat) (X : Nat → Option zz_C)  (t : cS) : kO := some (t, .inl (some (.int (-1))))
theorem cr_187_124 {X : Nat → Option zz_C} {s : mS} {N : Nat} {d : Nat} (hd : 0 ≤ d) {Q : zz_O → zz_H → Prop}  {h : zz_H} {t t' : cS} {o : kY} (hR : kR h t s) (hf : cf_187_124 N X  t = some (t', o)) (k : (∀ h', kR h' t' s → kE o Q h')) : zz_J zp_P zt_tf zt_fd X d zm_187 124 [] [] h Q := by
  unfold cf_187_124 at hf
  cases hf
  exact cb_187_124 hR  (fun {h} hR => k h hR)
def cf_187_0 (N : Nat) (X : Nat → Option zz_C) (x0 : Int32) (t : cS) : kO := if x0 = 37 then cf_187_122 N X  t else if x0 = 38 then cf_187_116 N X  t else if x0 = 42 then cf_187_122 N X  t else if x0 = 43 then cf_187_120 N X  t else if x0 = 45 then cf_187_120 N X  t else if x0 = 47 then cf_187_122 N X  t else if x0 = 60 then cf_187_118 N X  t else if x0 = 62 then cf_187_118 N X  t else if x0 = 124 then cf_187_116 N X  t else if x0 = 289 then cf_187_118 N X  t else if x0 = 316 then cf_187_118 N X  t else if x0 = 317 then cf_187_118 N X  t else if x0 = 318 then cf_187_118 N X  t else cf_187_124 N X  t
theorem cr_187_0 {X : Nat → Option zz_C} {s : mS} {N : Nat} {d : Nat} (hd : 0 ≤ d) {Q : zz_O → zz_H → Prop} {x0 : Int32} {h : zz_H} {t t' : cS} {o : kY} (hR : kR h t s) (hf : cf_187_0 N X x0 t = some (t', o)) (k : (∀ h', kR h' t' s → kE o Q h')) : zz_J zp_P zt_tf zt_fd X d zm_187 0 [(0, .int x0)] [] h Q := by
  unfold cf_187_0 at hf
  refine cb_187_0 hR  (fun c {h} hR => ?_) (fun c {h} hR => ?_) (fun c {h} hR => ?_) (fun c {h} hR => ?_) (fun c {h} hR => ?_) (fun c {h} hR => ?_) (fun c {h} hR => ?_) (fun c {h} hR => ?_) (fun c {h} hR => ?_) (fun c {h} hR => ?_) (fun c {h} hR => ?_) (fun c {h} hR => ?_) (fun c {h} hR => ?_) (fun c {h} hR => ?_)
  · skip
    rw [if_pos c] at hf
    exact cr_187_122 hd hR hf k
  · rw [if_neg (by rw [c]; decide)] at hf
    rw [if_pos c] at hf
    exact cr_187_116 hd hR hf k
  · rw [if_neg (by rw [c]; decide)] at hf
    rw [if_neg (by rw [c]; decide)] at hf
    rw [if_pos c] at hf
    exact cr_187_122 hd hR hf k
  · rw [if_neg (by rw [c]; decide)] at hf
    rw [if_neg (by rw [c]; decide)] at hf
    rw [if_neg (by rw [c]; decide)] at hf
    rw [if_pos c] at hf
    exact cr_187_120 hd hR hf k
  · rw [if_neg (by rw [c]; decide)] at hf
    rw [if_neg (by rw [c]; decide)] at hf
    rw [if_neg (by rw [c]; decide)] at hf
    rw [if_neg (by rw [c]; decide)] at hf
    rw [if_pos c] at hf
    exact cr_187_120 hd hR hf k
  · rw [if_neg (by rw [c]; decide)] at hf
    rw [if_neg (by rw [c]; decide)] at hf
    rw [if_neg (by rw [c]; decide)] at hf
    rw [if_neg (by rw [c]; decide)] at hf
    rw [if_neg (by rw [c]; decide)] at hf
    rw [if_pos c] at hf
    exact cr_187_122 hd hR hf k
  · rw [if_neg (by rw [c]; decide)] at hf
    rw [if_neg (by rw [c]; decide)] at hf
    rw [if_neg (by rw [c]; decide)] at hf
    rw [if_neg (by rw [c]; decide)] at hf
    rw [if_neg (by rw [c]; decide)] at hf
    rw [if_neg (by rw [c]; decide)] at hf
    rw [if_pos c] at hf
    exact cr_187_118 hd hR hf k
  · rw [if_neg (by rw [c]; decide)] at hf
    rw [if_neg (by rw [c]; decide)] at hf
    rw [if_neg (by rw [c]; decide)] at hf
    rw [if_neg (by rw [c]; decide)] at hf
    rw [if_neg (by rw [c]; decide)] at hf
    rw [if_neg (by rw [c]; decide)] at hf
    rw [if_neg (by rw [c]; decide)] at hf
    rw [if_pos c] at hf
    exact cr_187_118 hd hR hf k
  · rw [if_neg (by rw [c]; decide)] at hf
    rw [if_neg (by rw [c]; decide)] at hf
    rw [if_neg (by rw [c]; decide)] at hf
    rw [if_neg (by rw [c]; decide)] at hf
    rw [if_neg (by rw [c]; decide)] at hf
    rw [if_neg (by rw [c]; decide)] at hf
    rw [if_neg (by rw [c]; decide)] at hf
    rw [if_neg (by rw [c]; decide)] at hf
    rw [if_pos c] at hf
    exact cr_187_116 hd hR hf k
  · rw [if_neg (by rw [c]; decide)] at hf
    rw [if_neg (by rw [c]; decide)] at hf
    rw [if_neg (by rw [c]; decide)] at hf
    rw [if_neg (by rw [c]; decide)] at hf
    rw [if_neg (by rw [c]; decide)] at hf
    rw [if_neg (by rw [c]; decide)] at hf
    rw [if_neg (by rw [c]; decide)] at hf
    rw [if_neg (by rw [c]; decide)] at hf
    rw [if_neg (by rw [c]; decide)] at hf
    rw [if_pos c] at hf
    exact cr_187_118 hd hR hf k
  · rw [if_neg (by rw [c]; decide)] at hf
    rw [if_neg (by rw [c]; decide)] at hf
    rw [if_neg (by rw [c]; decide)] at hf
    rw [if_neg (by rw [c]; decide)] at hf
    rw [if_neg (by rw [c]; decide)] at hf
    rw [if_neg (by rw [c]; decide)] at hf
    rw [if_neg (by rw [c]; decide)] at hf
    rw [if_neg (by rw [c]; decide)] at hf
    rw [if_neg (by rw [c]; decide)] at hf
    rw [if_neg (by rw [c]; decide)] at hf
    rw [if_pos c] at hf
    exact cr_187_118 hd hR hf k
  · rw [if_neg (by rw [c]; decide)] at hf
    rw [if_neg (by rw [c]; decide)] at hf
    rw [if_neg (by rw [c]; decide)] at hf
    rw [if_neg (by rw [c]; decide)] at hf
    rw [if_neg (by rw [c]; decide)] at hf
    rw [if_neg (by rw [c]; decide)] at hf
    rw [if_neg (by rw [c]; decide)] at hf
    rw [if_neg (by rw [c]; decide)] at hf
    rw [if_neg (by rw [c]; decide)] at hf
    rw [if_neg (by rw [c]; decide)] at hf
    rw [if_neg (by rw [c]; decide)] at hf
    rw [if_pos c] at hf
    exact cr_187_118 hd hR hf k
  · rw [if_neg (by rw [c]; decide)] at hf
    rw [if_neg (by rw [c]; decide)] at hf
    rw [if_neg (by rw [c]; decide)] at hf
    rw [if_neg (by rw [c]; decide)] at hf
    rw [if_neg (by rw [c]; decide)] at hf
    rw [if_neg (by rw [c]; decide)] at hf
    rw [if_neg (by rw [c]; decide)] at hf
    rw [if_neg (by rw [c]; decide)] at hf
    rw [if_neg (by rw [c]; decide)] at hf
    rw [if_neg (by rw [c]; decide)] at hf
    rw [if_neg (by rw [c]; decide)] at hf
    rw [if_neg (by rw [c]; decide)] at hf
    rw [if_pos c] at hf
    exact cr_187_118 hd hR hf k
  · skip
    rw [if_neg c.1] at hf
    rw [if_neg c.2.1] at hf
    rw [if_neg c.2.2.1] at hf
    rw [if_neg c.2.2.2.1] at hf
    rw [if_neg c.2.2.2.2.1] at hf
    rw [if_neg c.2.2.2.2.2.1] at hf
    rw [if_neg c.2.2.2.2.2.2.1] at hf
    rw [if_neg c.2.2.2.2.2.2.2.1] at hf
    rw [if_neg c.2.2.2.2.2.2.2.2.1] at hf
    rw [if_neg c.2.2.2.2.2.2.2.2.2.1] at hf
    rw [if_neg c.2.2.2.2.2.2.2.2.2.2.1] at hf
    rw [if_neg c.2.2.2.2.2.2.2.2.2.2.2.1] at hf
    rw [if_neg c.2.2.2.2.2.2.2.2.2.2.2.2] at hf
    exact cr_187_124 hd hR hf k
/-- levelOf -/
def cf_187 (N : Nat) (X : Nat → Option zz_C) (x0 : Int32) (t : cS) : kO := cf_187_0 N X x0 t
theorem cr_187 {X : Nat → Option zz_C} {s : mS} {N : Nat} {d : Nat} (hd : 0 ≤ d) {Q : zz_O → zz_H → Prop} {x0 : Int32} {h : zz_H} {t t' : cS} {o : kY} (hR : kR h t s) (hf : cf_187 N X x0 t = some (t', o)) (k : ∀ h', kR h' t' s → kE o Q h') : zz_J zp_P zt_tf zt_fd X d zm_187 0 [(0, .int x0)] [] h Q := by
  unfold cf_187 at hf
  exact zz_J.weak (cr_187_0 hd hR hf k) rfl ⟨rfl, trivial⟩
/-! yX10_count ()I -/
theorem cb_41_0 {X : Nat → Option zz_C} {h : zz_H} {t : cS} {s : mS} {d : Nat} {Q : zz_O → zz_H → Prop}  (hR : kR h t s) (k : ∀ {h : zz_H}, kR h t s → Q (.inl (some (.int (kI t 3 3)))) h) : zz_J zp_P zt_tf zt_fd X d zm_41 0 [(0, .ref 3)] [] h Q := by
  refine zz_J.n 1 rfl rfl rfl ?_
  refine zz_J.g 4 rfl (hR.gv (v := .int (kI t 3 3)) ko_3 (by decide) rfl) rfl ?_
  refine zz_J.ret rfl rfl rfl ?_
  exact k hR
def cf_41_0 (N : Nat) (X : Nat → Option zz_C)  (t : cS) : kO := some (t, .inl (some (.int (kI t 3 3))))
theorem cr_41_0 {X : Nat → Option zz_C} {s : mS} {N : Nat} {d : Nat} (hd : 0 ≤ d) {Q : zz_O → zz_H → Prop}  {h : zz_H} {t t' : cS} {o : kY} (hR : kR h t s) (hf : cf_41_0 N X  t = some (t', o)) (k : (∀ h', kR h' t' s → kE o Q h')) : zz_J zp_P zt_tf zt_fd X d zm_41 0 [(0, .ref 3)] [] h Q := by
  unfold cf_41_0 at hf
  cases hf
  exact cb_41_0 hR  (fun {h} hR => k h hR)
/-- count -/
def cf_41 (N : Nat) (X : Nat → Option zz_C)  (t : cS) : kO := cf_41_0 N X  t
theorem cr_41 {X : Nat → Option zz_C} {s : mS} {N : Nat} {d : Nat} (hd : 0 ≤ d) {Q : zz_O → zz_H → Prop}  {h : zz_H} {t t' : cS} {o : kY} (hR : kR h t s) (hf : cf_41 N X  t = some (t', o)) (k : ∀ h', kR h' t' s → kE o Q h') : zz_J zp_P zt_tf zt_fd X d zm_41 0 [(0, .ref 3)] [] h Q := by
  unfold cf_41 at hf
  exact zz_J.weak (cr_41_0 hd hR hf k) rfl ⟨rfl, trivial⟩
/-! yX5_noteCall (IJII)V -/
theorem cb_198_0 {X : Nat → Option zz_C} {h : zz_H} {t : cS} {s : mS} {d : Nat} {Q : zz_O → zz_H → Prop} {x1 : Int32} {x2 : Int64} {x4 : Int32} {x5 : Int32} (hR : kR h t s) (k1 : ¬ (kI t 2 9) = (Int32.ofNat (kA t 8).1) → (∀ {h : zz_H}, kR h t s → zz_J zp_P zt_tf zt_fd X d zm_198 80 [(0, .ref 2), (1, .int x1), (2, .long x2), (4, .int x4), (5, .int x5)] [] h Q)) (k2 : ¬ ¬ (kI t 2 9) = (Int32.ofNat (kA t 8).1) → (∀ {h : zz_H}, kR h t s → zz_J zp_P zt_tf zt_fd X d zm_198 12 [(0, .ref 2), (1, .int x1), (2, .long x2), (4, .int x4), (5, .int x5)] [] h Q)) : zz_J zp_P zt_tf zt_fd X d zm_198 0 [(0, .ref 2), (1, .int x1), (2, .long x2), (4, .int x4), (5, .int x5)] [] h Q := by
  refine zz_J.n 1 rfl rfl rfl ?_
  refine zz_J.g 4 rfl (hR.gv (v := .int (kI t 2 9)) ko_2 (by decide) rfl) rfl ?_
  refine zz_J.n 5 rfl rfl rfl ?_
  refine zz_J.g 8 rfl (hR.gv (v := .ref (kD t 8)) ko_2 (by decide) rfl) rfl ?_
  refine zz_J.ln 9 rfl (hR.ln (w := (Int32.ofNat (kA t 8).1)) ka_8 rfl (by decide) rfl) rfl ?_
  refine zz_J.b2 80 12 (A := ¬ (kI t 2 9) = (Int32.ofNat (kA t 8).1)) rfl (zz_cond_ne _ _) (by decide) rfl rfl (fun c => ?_) (fun c => ?_)
  · exact zz_J.weak (k1 c hR) rfl ⟨rfl, rfl, rfl, rfl, rfl, trivial⟩
  · exact zz_J.weak (k2 c hR) rfl ⟨rfl, rfl, rfl, rfl, rfl, trivial⟩
theorem cb_198_12 {X : Nat → Option zz_C} {h : zz_H} {t : cS} {s : mS} {d : Nat} {Q : zz_O → zz_H → Prop} {x1 : Int32} {x2 : Int64} {x4 : Int32} {x5 : Int32} (hR : kR h t s) (e0 : ¬ (2 * (kI t 2 9)) < 0 ∧ (Int32.toNatClampNeg (2 * (kI t 2 9))) ≤ 1000000 ∧ (kA t 8).1 ≤ 1000000 ∧ ¬ (2 * (kI t 2 9)) = Int32.ofNat (kA t 8).1 ∧ (kN t) + 1 < zz_out) (k : ∀ {h : zz_H}, kR h (jMv (jNI t 1 (Int32.toNatClampNeg (2 * (kI t 2 9))) (kcp 0 (kA t 8).2 (Nat.min (kA t 8).1 (Int32.toNatClampNeg (2 * (kI t 2 9)))))) 8) s → zz_J zp_P zt_tf zt_fd X (d + 9) zm_198 29 [(0, .ref 2), (1, .int x1), (2, .long x2), (4, .int x4), (5, .int x5)] [] h Q) : zz_J zp_P zt_tf zt_fd X (d + 9) zm_198 12 [(0, .ref 2), (1, .int x1), (2, .long x2), (4, .int x4), (5, .int x5)] [] h Q := by
  refine zz_J.n 13 rfl rfl rfl ?_
  refine zz_J.n 14 rfl rfl rfl ?_
  refine zz_J.g 17 rfl (hR.gv (v := .ref (kD t 8)) ko_2 (by decide) rfl) rfl ?_
  refine zz_J.c 18 (.int 2) rfl rfl rfl rfl ?_
  refine zz_J.n 19 rfl rfl rfl ?_
  refine zz_J.g 22 rfl (hR.gv (v := .int (kI t 2 9)) ko_2 (by decide) rfl) rfl ?_
  refine zz_J.n 23 rfl rfl rfl ?_
  refine kq_copyi 26 rfl rfl hR (by omega) ka_8 rfl e0 (Nat.le_of_ble_eq_true rfl) (fun {h} hR => ?_)
  obtain ⟨h1, eq1, hR⟩ := hR.pMvi (k := 8) rfl (by decide) ko_2 (kpa_2_5) (Nat.le_of_ble_eq_true rfl) rfl rfl rfl ka_8
  refine zz_J.pv 29 rfl eq1 rfl ?_
  clear eq1
  exact zz_J.weak (k hR) rfl ⟨rfl, rfl, rfl, rfl, rfl, trivial⟩
theorem cb_198_29 {X : Nat → Option zz_C} {h : zz_H} {t : cS} {s : mS} {d : Nat} {Q : zz_O → zz_H → Prop} {x1 : Int32} {x2 : Int64} {x4 : Int32} {x5 : Int32} (hR : kR h t s) (e0 : ¬ (2 * (kI t 2 9)) < 0 ∧ (Int32.toNatClampNeg (2 * (kI t 2 9))) ≤ 1000000 ∧ (kB t 9).1 ≤ 1000000 ∧ ¬ (2 * (kI t 2 9)) = Int32.ofNat (kB t 9).1 ∧ (kN t) + 1 < zz_out) (k : ∀ {h : zz_H}, kR h (jMv (jNL t (Int32.toNatClampNeg (2 * (kI t 2 9))) (kcp 0 (kB t 9).2 (Nat.min (kB t 9).1 (Int32.toNatClampNeg (2 * (kI t 2 9)))))) 9) s → zz_J zp_P zt_tf zt_fd X (d + 9) zm_198 46 [(0, .ref 2), (1, .int x1), (2, .long x2), (4, .int x4), (5, .int x5)] [] h Q) : zz_J zp_P zt_tf zt_fd X (d + 9) zm_198 29 [(0, .ref 2), (1, .int x1), (2, .long x2), (4, .int x4), (5, .int x5)] [] h Q := by
  refine zz_J.n 30 rfl rfl rfl ?_
  refine zz_J.n 31 rfl rfl rfl ?_
  refine zz_J.g 34 rfl (hR.gv (v := .ref (kD t 9)) ko_2 (by decide) rfl) rfl ?_
  refine zz_J.c 35 (.int 2) rfl rfl rfl rfl ?_
  refine zz_J.n 36 rfl rfl rfl ?_
  refine zz_J.g 39 rfl (hR.gv (v := .int (kI t 2 9)) ko_2 (by decide) rfl) rfl ?_
  refine zz_J.n 40 rfl rfl rfl ?_
  refine kq_copyl 43 rfl rfl hR (by omega) ka_9 rfl e0 (Nat.le_of_ble_eq_true rfl) (fun {h} hR => ?_)
  obtain ⟨h1, eq1, hR⟩ := hR.pMvl (k := 9) rfl (by decide) ko_2 (kpa_2_6) (Nat.le_of_ble_eq_true rfl) rfl rfl rfl ka_9
  refine zz_J.pv 46 rfl eq1 rfl ?_
  clear eq1
  exact zz_J.weak (k hR) rfl ⟨rfl, rfl, rfl, rfl, rfl, trivial⟩
theorem cb_198_46 {X : Nat → Option zz_C} {h : zz_H} {t : cS} {s : mS} {d : Nat} {Q : zz_O → zz_H → Prop} {x1 : Int32} {x2 : Int64} {x4 : Int32} {x5 : Int32} (hR : kR h t s) (e0 : ¬ (2 * (kI t 2 9)) < 0 ∧ (Int32.toNatClampNeg (2 * (kI t 2 9))) ≤ 1000000 ∧ (kA t 10).1 ≤ 1000000 ∧ ¬ (2 * (kI t 2 9)) = Int32.ofNat (kA t 10).1 ∧ (kN t) + 1 < zz_out) (k : ∀ {h : zz_H}, kR h (jMv (jNI t 1 (Int32.toNatClampNeg (2 * (kI t 2 9))) (kcp 0 (kA t 10).2 (Nat.min (kA t 10).1 (Int32.toNatClampNeg (2 * (kI t 2 9)))))) 10) s → zz_J zp_P zt_tf zt_fd X (d + 9) zm_198 63 [(0, .ref 2), (1, .int x1), (2, .long x2), (4, .int x4), (5, .int x5)] [] h Q) : zz_J zp_P zt_tf zt_fd X (d + 9) zm_198 46 [(0, .ref 2), (1, .int x1), (2, .long x2), (4, .int x4), (5, .int x5)] [] h Q := by
  refine zz_J.n 47 rfl rfl rfl ?_
  refine zz_J.n 48 rfl rfl rfl ?_
  refine zz_J.g 51 rfl (hR.gv (v := .ref (kD t 10)) ko_2 (by decide) rfl) rfl ?_
  refine zz_J.c 52 (.int 2) rfl rfl rfl rfl ?_
  refine zz_J.n 53 rfl rfl rfl ?_
  refine zz_J.g 56 rfl (hR.gv (v := .int (kI t 2 9)) ko_2 (by decide) rfl) rfl ?_
  refine zz_J.n 57 rfl rfl rfl ?_
  refine kq_copyi 60 rfl rfl hR (by omega) ka_10 rfl e0 (Nat.le_of_ble_eq_true rfl) (fun {h} hR => ?_)
  obtain ⟨h1, eq1, hR⟩ := hR.pMvi (k := 10) rfl (by decide) ko_2 (kpa_2_7) (Nat.le_of_ble_eq_true rfl) rfl rfl rfl ka_10
  refine zz_J.pv 63 rfl eq1 rfl ?_
  clear eq1
  exact zz_J.weak (k hR) rfl ⟨rfl, rfl, rfl, rfl, rfl, trivial⟩
theorem cb_198_63 {X : Nat → Option zz_C} {h : zz_H} {t : cS} {s : mS} {d : Nat} {Q : zz_O → zz_H → Prop} {x1 : Int32} {x2 : Int64} {x4 : Int32} {x5 : Int32} (hR : kR h t s) (e0 : ¬ (2 * (kI t 2 9)) < 0 ∧ (Int32.toNatClampNeg (2 * (kI t 2 9))) ≤ 1000000 ∧ (kA t 11).1 ≤ 1000000 ∧ ¬ (2 * (kI t 2 9)) = Int32.ofNat (kA t 11).1 ∧ (kN t) + 1 < zz_out) (k : ∀ {h : zz_H}, kR h (jMv (jNI t 1 (Int32.toNatClampNeg (2 * (kI t 2 9))) (kcp 0 (kA t 11).2 (Nat.min (kA t 11).1 (Int32.toNatClampNeg (2 * (kI t 2 9)))))) 11) s → zz_J zp_P zt_tf zt_fd X (d + 9) zm_198 80 [(0, .ref 2), (1, .int x1), (2, .long x2), (4, .int x4), (5, .int x5)] [] h Q) : zz_J zp_P zt_tf zt_fd X (d + 9) zm_198 63 [(0, .ref 2), (1, .int x1), (2, .long x2), (4, .int x4), (5, .int x5)] [] h Q := by
  refine zz_J.n 64 rfl rfl rfl ?_
  refine zz_J.n 65 rfl rfl rfl ?_
  refine zz_J.g 68 rfl (hR.gv (v := .ref (kD t 11)) ko_2 (by decide) rfl) rfl ?_
  refine zz_J.c 69 (.int 2) rfl rfl rfl rfl ?_
  refine zz_J.n 70 rfl rfl rfl ?_
  refine zz_J.g 73 rfl (hR.gv (v := .int (kI t 2 9)) ko_2 (by decide) rfl) rfl ?_
  refine zz_J.n 74 rfl rfl rfl ?_
  refine kq_copyi 77 rfl rfl hR (by omega) ka_11 rfl e0 (Nat.le_of_ble_eq_true rfl) (fun {h} hR => ?_)
  obtain ⟨h1, eq1, hR⟩ := hR.pMvi (k := 11) rfl (by decide) ko_2 (kpa_2_8) (Nat.le_of_ble_eq_true rfl) rfl rfl rfl ka_11
  refine zz_J.pv 80 rfl eq1 rfl ?_
  clear eq1
  exact zz_J.weak (k hR) rfl ⟨rfl, rfl, rfl, rfl, rfl, trivial⟩
theorem cb_198_80 {X : Nat → Option zz_C} {h : zz_H} {t : cS} {s : mS} {d : Nat} {Q : zz_O → zz_H → Prop} {x1 : Int32} {x2 : Int64} {x4 : Int32} {x5 : Int32} (hR : kR h t s) (e0 : ¬ ((kI t 2 9) < 0 ∨ (kA t 8).1 ≤ (Int32.toNatClampNeg (kI t 2 9)))) (e1 : ¬ ((kI t 2 9) < 0 ∨ (kB t 9).1 ≤ (Int32.toNatClampNeg (kI t 2 9)))) (e2 : ¬ ((kI t 2 9) < 0 ∨ (kA (jB (jA t 8 (upd (kA t 8).2 (Int32.toNatClampNeg (kI t 2 9)) x1)) 9 (vp_updL (kB t 9).2 (Int32.toNatClampNeg (kI t 2 9)) x2)) 10).1 ≤ (Int32.toNatClampNeg (kI t 2 9)))) (e3 : ¬ ((kI t 2 9) < 0 ∨ (kA (jA (jB (jA t 8 (upd (kA t 8).2 (Int32.toNatClampNeg (kI t 2 9)) x1)) 9 (vp_updL (kB t 9).2 (Int32.toNatClampNeg (kI t 2 9)) x2)) 10 (upd (kA (jB (jA t 8 (upd (kA t 8).2 (Int32.toNatClampNeg (kI t 2 9)) x1)) 9 (vp_updL (kB t 9).2 (Int32.toNatClampNeg (kI t 2 9)) x2)) 10).2 (Int32.toNatClampNeg (kI t 2 9)) x4)) 11).1 ≤ (Int32.toNatClampNeg (kI t 2 9)))) (k : ∀ {h : zz_H}, kR h (jI (jA (jA (jB (jA t 8 (upd (kA t 8).2 (Int32.toNatClampNeg (kI t 2 9)) x1)) 9 (vp_updL (kB t 9).2 (Int32.toNatClampNeg (kI t 2 9)) x2)) 10 (upd (kA (jB (jA t 8 (upd (kA t 8).2 (Int32.toNatClampNeg (kI t 2 9)) x1)) 9 (vp_updL (kB t 9).2 (Int32.toNatClampNeg (kI t 2 9)) x2)) 10).2 (Int32.toNatClampNeg (kI t 2 9)) x4)) 11 (upd (kA (jA (jB (jA t 8 (upd (kA t 8).2 (Int32.toNatClampNeg (kI t 2 9)) x1)) 9 (vp_updL (kB t 9).2 (Int32.toNatClampNeg (kI t 2 9)) x2)) 10 (upd (kA (jB (jA t 8 (upd (kA t 8).2 (Int32.toNatClampNeg (kI t 2 9)) x1)) 9 (vp_updL (kB t 9).2 (Int32.toNatClampNeg (kI t 2 9)) x2)) 10).2 (Int32.toNatClampNeg (kI t 2 9)) x4)) 11).2 (Int32.toNatClampNeg (kI t 2 9)) x5)) 2 9 ((kI t 2 9) + 1)) s → Q (.inl none) h) : zz_J zp_P zt_tf zt_fd X d zm_198 80 [(0, .ref 2), (1, .int x1), (2, .long x2), (4, .int x4), (5, .int x5)] [] h Q := by
  refine zz_J.n 81 rfl rfl rfl ?_
  refine zz_J.g 84 rfl (hR.gv (v := .ref (kD t 8)) ko_2 (by decide) rfl) rfl ?_
  refine zz_J.n 85 rfl rfl rfl ?_
  refine zz_J.g 88 rfl (hR.gv (v := .int (kI t 2 9)) ko_2 (by decide) rfl) rfl ?_
  refine zz_J.n 89 rfl rfl rfl ?_
  obtain ⟨h1, eq1, hR⟩ := hR.si (x := x1) ka_8 rfl e0
  refine zz_J.si 90 rfl eq1 rfl ?_
  clear eq1
  refine zz_J.n 91 rfl rfl rfl ?_
  refine zz_J.g 94 rfl (hR.gv (v := .ref (kD t 9)) ko_2 (by decide) rfl) rfl ?_
  refine zz_J.n 95 rfl rfl rfl ?_
  refine zz_J.g 98 rfl (hR.gv (v := .int (kI t 2 9)) ko_2 (by decide) rfl) rfl ?_
  refine zz_J.n 99 rfl rfl rfl ?_
  obtain ⟨h1, eq1, hR⟩ := hR.sl (x := x2) ka_9 rfl e1
  refine zz_J.sl 100 rfl eq1 rfl ?_
  clear eq1
  refine zz_J.n 101 rfl rfl rfl ?_
  refine zz_J.g 104 rfl (hR.gv (v := .ref (kD t 10)) ko_2 (by decide) rfl) rfl ?_
  refine zz_J.n 105 rfl rfl rfl ?_
  refine zz_J.g 108 rfl (hR.gv (v := .int (kI t 2 9)) ko_2 (by decide) rfl) rfl ?_
  refine zz_J.n 110 rfl rfl rfl ?_
  obtain ⟨h1, eq1, hR⟩ := hR.si (x := x4) ka_10 rfl e2
  refine zz_J.si 111 rfl eq1 rfl ?_
  clear eq1
  refine zz_J.n 112 rfl rfl rfl ?_
  refine zz_J.g 115 rfl (hR.gv (v := .ref (kD t 11)) ko_2 (by decide) rfl) rfl ?_
  refine zz_J.n 116 rfl rfl rfl ?_
  refine zz_J.g 119 rfl (hR.gv (v := .int (kI t 2 9)) ko_2 (by decide) rfl) rfl ?_
  refine zz_J.n 121 rfl rfl rfl ?_
  obtain ⟨h1, eq1, hR⟩ := hR.si (x := x5) ka_11 rfl e3
  refine zz_J.si 122 rfl eq1 rfl ?_
  clear eq1
  refine zz_J.n 123 rfl rfl rfl ?_
  refine zz_J.n 124 rfl rfl rfl ?_
  refine zz_J.g 127 rfl (hR.gv (v := .int (kI t 2 9)) ko_2 (by decide) rfl) rfl ?_
  refine zz_J.c 128 (.int 1) rfl rfl rfl rfl ?_
  refine zz_J.n 129 rfl rfl rfl ?_
  obtain ⟨h1, eq1, hR⟩ := hR.pI (x := ((kI t 2 9) + 1)) (by decide) ko_2 (kpi_2_9 _) (Nat.le_of_ble_eq_true rfl) rfl
  refine zz_J.pv 132 rfl eq1 rfl ?_
  clear eq1
  refine zz_J.ret rfl rfl rfl ?_
  exact k hR
def cf_198_80 (N : Nat) (X : Nat → Option zz_C) (x1 : Int32) (x2 : Int64) (x4 : Int32) (x5 : Int32) (t : cS) : kO := if ¬ ((kI t 2 9) < 0 ∨ (kA t 8).1 ≤ (Int32.toNatClampNeg (kI t 2 9))) then (if ¬ ((kI t 2 9) < 0 ∨ (kB t 9).1 ≤ (Int32.toNatClampNeg (kI t 2 9))) then (if ¬ ((kI t 2 9) < 0 ∨ (kA (jB (jA t 8 (upd (kA t 8).2 (Int32.toNatClampNeg (kI t 2 9)) x1)) 9 (vp_updL (kB t 9).2 (Int32.toNatClampNeg (kI t 2 9)) x2)) 10).1 ≤ (Int32.toNatClampNeg (kI t 2 9))) then (if ¬ ((kI t 2 9) < 0 ∨ (kA (jA (jB (jA t 8 (upd (kA t 8).2 (Int32.toNatClampNeg (kI t 2 9)) x1)) 9 (vp_updL (kB t 9).2 (Int32.toNatClampNeg (kI t 2 9)) x2)) 10 (upd (kA (jB (jA t 8 (upd (kA t 8).2 (Int32.toNatClampNeg (kI t 2 9)) x1)) 9 (vp_updL (kB t 9).2 (Int32.toNatClampNeg (kI t 2 9)) x2)) 10).2 (Int32.toNatClampNeg (kI t 2 9)) x4)) 11).1 ≤ (Int32.toNatClampNeg (kI t 2 9))) then (some ((jI (jA (jA (jB (jA t 8 (upd (kA t 8).2 (Int32.toNatClampNeg (kI t 2 9)) x1)) 9 (vp_updL (kB t 9).2 (Int32.toNatClampNeg (kI t 2 9)) x2)) 10 (upd (kA (jB (jA t 8 (upd (kA t 8).2 (Int32.toNatClampNeg (kI t 2 9)) x1)) 9 (vp_updL (kB t 9).2 (Int32.toNatClampNeg (kI t 2 9)) x2)) 10).2 (Int32.toNatClampNeg (kI t 2 9)) x4)) 11 (upd (kA (jA (jB (jA t 8 (upd (kA t 8).2 (Int32.toNatClampNeg (kI t 2 9)) x1)) 9 (vp_updL (kB t 9).2 (Int32.toNatClampNeg (kI t 2 9)) x2)) 10 (upd (kA (jB (jA t 8 (upd (kA t 8).2 (Int32.toNatClampNeg (kI t 2 9)) x1)) 9 (vp_updL (kB t 9).2 (Int32.toNatClampNeg (kI t 2 9)) x2)) 10).2 (Int32.toNatClampNeg (kI t 2 9)) x4)) 11).2 (Int32.toNatClampNeg (kI t 2 9)) x5)) 2 9 ((kI t 2 9) + 1)), .inl none)) else none) else none) else none) else none
theorem cr_198_80 {X : Nat → Option zz_C} {s : mS} {N : Nat} {d : Nat} (hd : 9 ≤ d) {Q : zz_O → zz_H → Prop} {x1 : Int32} {x2 : Int64} {x4 : Int32} {x5 : Int32} {h : zz_H} {t t' : cS} {o : kY} (hR : kR h t s) (hf : cf_198_80 N X x1 x2 x4 x5 t = some (t', o)) (k : (∀ h', kR h' t' s → kE o Q h')) : zz_J zp_P zt_tf zt_fd X d zm_198 80 [(0, .ref 2), (1, .int x1), (2, .long x2), (4, .int x4), (5, .int x5)] [] h Q := by
  unfold cf_198_80 at hf
  obtain ⟨e0, hf⟩ := ko_if hf
  obtain ⟨e1, hf⟩ := ko_if hf
  obtain ⟨e2, hf⟩ := ko_if hf
  obtain ⟨e3, hf⟩ := ko_if hf
  cases hf
  exact cb_198_80 hR e0 e1 e2 e3 (fun {h} hR => k h hR)
def cf_198_63 (N : Nat) (X : Nat → Option zz_C) (x1 : Int32) (x2 : Int64) (x4 : Int32) (x5 : Int32) (t : cS) : kO := if ¬ (2 * (kI t 2 9)) < 0 ∧ (Int32.toNatClampNeg (2 * (kI t 2 9))) ≤ 1000000 ∧ (kA t 11).1 ≤ 1000000 ∧ ¬ (2 * (kI t 2 9)) = Int32.ofNat (kA t 11).1 ∧ (kN t) + 1 < zz_out then (cf_198_80 N X x1 x2 x4 x5 (jMv (jNI t 1 (Int32.toNatClampNeg (2 * (kI t 2 9))) (kcp 0 (kA t 11).2 (Nat.min (kA t 11).1 (Int32.toNatClampNeg (2 * (kI t 2 9)))))) 11)) else none
theorem cr_198_63 {X : Nat → Option zz_C} {s : mS} {N : Nat} {d : Nat} (hd : 9 ≤ d) {Q : zz_O → zz_H → Prop} {x1 : Int32} {x2 : Int64} {x4 : Int32} {x5 : Int32} {h : zz_H} {t t' : cS} {o : kY} (hR : kR h t s) (hf : cf_198_63 N X x1 x2 x4 x5 t = some (t', o)) (k : (∀ h', kR h' t' s → kE o Q h')) : zz_J zp_P zt_tf zt_fd X d zm_198 63 [(0, .ref 2), (1, .int x1), (2, .long x2), (4, .int x4), (5, .int x5)] [] h Q := by
  unfold cf_198_63 at hf
  obtain ⟨e0, hf⟩ := ko_if hf
  obtain ⟨d', rfl⟩ : ∃ d', d = d' + 9 := ⟨d - 9, by omega⟩
  exact cb_198_63 hR e0 (fun hR => cr_198_80 hd hR hf k)
def cf_198_46 (N : Nat) (X : Nat → Option zz_C) (x1 : Int32) (x2 : Int64) (x4 : Int32) (x5 : Int32) (t : cS) : kO := if ¬ (2 * (kI t 2 9)) < 0 ∧ (Int32.toNatClampNeg (2 * (kI t 2 9))) ≤ 1000000 ∧ (kA t 10).1 ≤ 1000000 ∧ ¬ (2 * (kI t 2 9)) = Int32.ofNat (kA t 10).1 ∧ (kN t) + 1 < zz_out then (cf_198_63 N X x1 x2 x4 x5 (jMv (jNI t 1 (Int32.toNatClampNeg (2 * (kI t 2 9))) (kcp 0 (kA t 10).2 (Nat.min (kA t 10).1 (Int32.toNatClampNeg (2 * (kI t 2 9)))))) 10)) else none
theorem cr_198_46 {X : Nat → Option zz_C} {s : mS} {N : Nat} {d : Nat} (hd : 9 ≤ d) {Q : zz_O → zz_H → Prop} {x1 : Int32} {x2 : Int64} {x4 : Int32} {x5 : Int32} {h : zz_H} {t t' : cS} {o : kY} (hR : kR h t s) (hf : cf_198_46 N X x1 x2 x4 x5 t = some (t', o)) (k : (∀ h', kR h' t' s → kE o Q h')) : zz_J zp_P zt_tf zt_fd X d zm_198 46 [(0, .ref 2), (1, .int x1), (2, .long x2), (4, .int x4), (5, .int x5)] [] h Q := by
  unfold cf_198_46 at hf
  obtain ⟨e0, hf⟩ := ko_if hf
  obtain ⟨d', rfl⟩ : ∃ d', d = d' + 9 := ⟨d - 9, by omega⟩
  exact cb_198_46 hR e0 (fun hR => cr_198_63 hd hR hf k)
def cf_198_29 (N : Nat) (X : Nat → Option zz_C) (x1 : Int32) (x2 : Int64) (x4 : Int32) (x5 : Int32) (t : cS) : kO := if ¬ (2 * (kI t 2 9)) < 0 ∧ (Int32.toNatClampNeg (2 * (kI t 2 9))) ≤ 1000000 ∧ (kB t 9).1 ≤ 1000000 ∧ ¬ (2 * (kI t 2 9)) = Int32.ofNat (kB t 9).1 ∧ (kN t) + 1 < zz_out then (cf_198_46 N X x1 x2 x4 x5 (jMv (jNL t (Int32.toNatClampNeg (2 * (kI t 2 9))) (kcp 0 (kB t 9).2 (Nat.min (kB t 9).1 (Int32.toNatClampNeg (2 * (kI t 2 9)))))) 9)) else none
theorem cr_198_29 {X : Nat → Option zz_C} {s : mS} {N : Nat} {d : Nat} (hd : 9 ≤ d) {Q : zz_O → zz_H → Prop} {x1 : Int32} {x2 : Int64} {x4 : Int32} {x5 : Int32} {h : zz_H} {t t' : cS} {o : kY} (hR : kR h t s) (hf : cf_198_29 N X x1 x2 x4 x5 t = some (t', o)) (k : (∀ h', kR h' t' s → kE o Q h')) : zz_J zp_P zt_tf zt_fd X d zm_198 29 [(0, .ref 2), (1, .int x1), (2, .long x2), (4, .int x4), (5, .int x5)] [] h Q := by
  unfold cf_198_29 at hf
  obtain ⟨e0, hf⟩ := ko_if hf
  obtain ⟨d', rfl⟩ : ∃ d', d = d' + 9 := ⟨d - 9, by omega⟩
  exact cb_198_29 hR e0 (fun hR => cr_198_46 hd hR hf k)
def cf_198_12 (N : Nat) (X : Nat → Option zz_C) (x1 : Int32) (x2 : Int64) (x4 : Int32) (x5 : Int32) (t : cS) : kO := if ¬ (2 * (kI t 2 9)) < 0 ∧ (Int32.toNatClampNeg (2 * (kI t 2 9))) ≤ 1000000 ∧ (kA t 8).1 ≤ 1000000 ∧ ¬ (2 * (kI t 2 9)) = Int32.ofNat (kA t 8).1 ∧ (kN t) + 1 < zz_out then (cf_198_29 N X x1 x2 x4 x5 (jMv (jNI t 1 (Int32.toNatClampNeg (2 * (kI t 2 9))) (kcp 0 (kA t 8).2 (Nat.min (kA t 8).1 (Int32.toNatClampNeg (2 * (kI t 2 9)))))) 8)) else none
theorem cr_198_12 {X : Nat → Option zz_C} {s : mS} {N : Nat} {d : Nat} (hd : 9 ≤ d) {Q : zz_O → zz_H → Prop} {x1 : Int32} {x2 : Int64} {x4 : Int32} {x5 : Int32} {h : zz_H} {t t' : cS} {o : kY} (hR : kR h t s) (hf : cf_198_12 N X x1 x2 x4 x5 t = some (t', o)) (k : (∀ h', kR h' t' s → kE o Q h')) : zz_J zp_P zt_tf zt_fd X d zm_198 12 [(0, .ref 2), (1, .int x1), (2, .long x2), (4, .int x4), (5, .int x5)] [] h Q := by
  unfold cf_198_12 at hf
  obtain ⟨e0, hf⟩ := ko_if hf
  obtain ⟨d', rfl⟩ : ∃ d', d = d' + 9 := ⟨d - 9, by omega⟩
  exact cb_198_12 hR e0 (fun hR => cr_198_29 hd hR hf k)
def cf_198_0 (N : Nat) (X : Nat → Option zz_C) (x1 : Int32) (x2 : Int64) (x4 : Int32) (x5 : Int32) (t : cS) : kO := if ¬ (kI t 2 9) = (Int32.ofNat (kA t 8).1) then cf_198_80 N X x1 x2 x4 x5 t else cf_198_12 N X x1 x2 x4 x5 t
theorem cr_198_0 {X : Nat → Option zz_C} {s : mS} {N : Nat} {d : Nat} (hd : 9 ≤ d) {Q : zz_O → zz_H → Prop} {x1 : Int32} {x2 : Int64} {x4 : Int32} {x5 : Int32} {h : zz_H} {t t' : cS} {o : kY} (hR : kR h t s) (hf : cf_198_0 N X x1 x2 x4 x5 t = some (t', o)) (k : (∀ h', kR h' t' s → kE o Q h')) : zz_J zp_P zt_tf zt_fd X d zm_198 0 [(0, .ref 2), (1, .int x1), (2, .long x2), (4, .int x4), (5, .int x5)] [] h Q := by
  unfold cf_198_0 at hf
  refine cb_198_0 hR  (fun c {h} hR => ?_) (fun c {h} hR => ?_)
  · rw [if_pos c] at hf
    exact cr_198_80 hd hR hf k
  · rw [if_neg c] at hf
    exact cr_198_12 hd hR hf k
/-- noteCall -/
def cf_198 (N : Nat) (X : Nat → Option zz_C) (x1 : Int32) (x2 : Int64) (x4 : Int32) (x5 : Int32) (t : cS) : kO := cf_198_0 N X x1 x2 x4 x5 t
theorem cr_198 {X : Nat → Option zz_C} {s : mS} {N : Nat} {d : Nat} (hd : 9 ≤ d) {Q : zz_O → zz_H → Prop} {x1 : Int32} {x2 : Int64} {x4 : Int32} {x5 : Int32} {h : zz_H} {t t' : cS} {o : kY} (hR : kR h t s) (hf : cf_198 N X x1 x2 x4 x5 t = some (t', o)) (k : ∀ h', kR h' t' s → kE o Q h') : zz_J zp_P zt_tf zt_fd X d zm_198 0 [(0, .ref 2), (1, .int x1), (2, .long x2), (4, .int x4), (5, .int x5)] [] h Q := by
  unfold cf_198 at hf
  exact zz_J.weak (cr_198_0 hd hR hf k) rfl ⟨rfl, rfl, rfl, rfl, rfl, trivial⟩
/-! yX11_isBuiltIn ()Z -/
theorem cb_249_0 {X : Nat → Option zz_C} {h : zz_H} {t : cS} {s : mS} {d : Nat} {Q : zz_O → zz_H → Prop} {x0 : Nat} (hR : kR h t s) {w0 : Int32} (e0 : hgi X [] x0 20 2 = some w0) (k1 : w0 ≤ 0 → (∀ {h : zz_H}, kR h t s → zz_J zp_P zt_tf zt_fd X d zm_249 11 [] [] h Q)) (k2 : ¬ w0 ≤ 0 → (∀ {h : zz_H}, kR h t s → zz_J zp_P zt_tf zt_fd X d zm_249 7 [] [] h Q)) : zz_J zp_P zt_tf zt_fd X d zm_249 0 [(0, .ref x0)] [] h Q := by
  refine zz_J.n 1 rfl rfl rfl ?_
  refine zz_J.gi 4 rfl e0 rfl ?_
  refine zz_J.b1 11 7 (A := w0 ≤ 0) rfl rfl (by decide) rfl rfl (fun c => ?_) (fun c => ?_)
  · exact zz_J.weak (k1 c hR) rfl trivial
  · exact zz_J.weak (k2 c hR) rfl trivial
theorem cb_249_7 {X : Nat → Option zz_C} {h : zz_H} {t : cS} {s : mS} {d : Nat} {Q : zz_O → zz_H → Prop}  (hR : kR h t s) (k : ∀ {h : zz_H}, kR h t s → zz_J zp_P zt_tf zt_fd X d zm_249 12 [] [.int 1] h Q) : zz_J zp_P zt_tf zt_fd X d zm_249 7 [] [] h Q := by
  refine zz_J.c 8 (.int 1) rfl rfl rfl rfl ?_
  refine zz_J.n 12 rfl rfl rfl ?_
  exact zz_J.weak (k hR) rfl trivial
theorem cb_249_11 {X : Nat → Option zz_C} {h : zz_H} {t : cS} {s : mS} {d : Nat} {Q : zz_O → zz_H → Prop}  (hR : kR h t s) (k : ∀ {h : zz_H}, kR h t s → zz_J zp_P zt_tf zt_fd X d zm_249 12 [] [.int 0] h Q) : zz_J zp_P zt_tf zt_fd X d zm_249 11 [] [] h Q := by
  refine zz_J.c 12 (.int 0) rfl rfl rfl rfl ?_
  exact zz_J.weak (k hR) rfl trivial
theorem cb_249_12 {X : Nat → Option zz_C} {h : zz_H} {t : cS} {s : mS} {d : Nat} {Q : zz_O → zz_H → Prop} {y0 : Int32} (hR : kR h t s) (k : ∀ {h : zz_H}, kR h t s → Q (.inl (some (.int y0))) h) (rb : zz_reti (some .boolean) y0 = true) : zz_J zp_P zt_tf zt_fd X d zm_249 12 [] [.int y0] h Q := by
  refine zz_J.ret rfl rfl (if_pos ⟨rfl, rb⟩) ?_
  exact k hR
def cf_249_12 (N : Nat) (X : Nat → Option zz_C) (y0 : Int32) (t : cS) : kO := if zz_reti (some .boolean) y0 = true then some (t, .inl (some (.int y0))) else none
theorem cr_249_12 {X : Nat → Option zz_C} {s : mS} {N : Nat} {d : Nat} (hd : 0 ≤ d) {Q : zz_O → zz_H → Prop} {y0 : Int32} {h : zz_H} {t t' : cS} {o : kY} (hR : kR h t s) (hf : cf_249_12 N X y0 t = some (t', o)) (k : (∀ h', kR h' t' s → kE o Q h')) : zz_J zp_P zt_tf zt_fd X d zm_249 12 [] [.int y0] h Q := by
  unfold cf_249_12 at hf
  obtain ⟨rb, hf⟩ := ko_if hf
  cases hf
  exact cb_249_12 hR  (fun {h} hR => k h hR) rb
def cf_249_11 (N : Nat) (X : Nat → Option zz_C)  (t : cS) : kO := cf_249_12 N X 0 t
theorem cr_249_11 {X : Nat → Option zz_C} {s : mS} {N : Nat} {d : Nat} (hd : 0 ≤ d) {Q : zz_O → zz_H → Prop}  {h : zz_H} {t t' : cS} {o : kY} (hR : kR h t s) (hf : cf_249_11 N X  t = some (t', o)) (k : (∀ h', kR h' t' s → kE o Q h')) : zz_J zp_P zt_tf zt_fd X d zm_249 11 [] [] h Q := by
  unfold cf_249_11 at hf
  exact cb_249_11 hR  (fun hR => cr_249_12 hd hR hf k)
def cf_249_7 (N : Nat) (X : Nat → Option zz_C)  (t : cS) : kO := cf_249_12 N X 1 t
theorem cr_249_7 {X : Nat → Option zz_C} {s : mS} {N : Nat} {d : Nat} (hd : 0 ≤ d) {Q : zz_O → zz_H → Prop}  {h : zz_H} {t t' : cS} {o : kY} (hR : kR h t s) (hf : cf_249_7 N X  t = some (t', o)) (k : (∀ h', kR h' t' s → kE o Q h')) : zz_J zp_P zt_tf zt_fd X d zm_249 7 [] [] h Q := by
  unfold cf_249_7 at hf
  exact cb_249_7 hR  (fun hR => cr_249_12 hd hR hf k)
def cf_249_0 (N : Nat) (X : Nat → Option zz_C) (x0 : Nat) (t : cS) : kO := co_b (hgi X [] x0 20 2) (fun w0 => if w0 ≤ 0 then cf_249_11 N X  t else cf_249_7 N X  t)
theorem cr_249_0 {X : Nat → Option zz_C} {s : mS} {N : Nat} {d : Nat} (hd : 0 ≤ d) {Q : zz_O → zz_H → Prop} {x0 : Nat} {h : zz_H} {t t' : cS} {o : kY} (hR : kR h t s) (hf : cf_249_0 N X x0 t = some (t', o)) (k : (∀ h', kR h' t' s → kE o Q h')) : zz_J zp_P zt_tf zt_fd X d zm_249 0 [(0, .ref x0)] [] h Q := by
  unfold cf_249_0 at hf
  obtain ⟨w0, e0, hf⟩ := co_b_ok hf
  refine cb_249_0 hR e0 (fun c {h} hR => ?_) (fun c {h} hR => ?_)
  · rw [if_pos c] at hf
    exact cr_249_11 hd hR hf k
  · rw [if_neg c] at hf
    exact cr_249_7 hd hR hf k
/-- isBuiltIn -/
def cf_249 (N : Nat) (X : Nat → Option zz_C) (x0 : Nat) (t : cS) : kO := cf_249_0 N X x0 t
theorem cr_249 {X : Nat → Option zz_C} {s : mS} {N : Nat} {d : Nat} (hd : 0 ≤ d) {Q : zz_O → zz_H → Prop} {x0 : Nat} {h : zz_H} {t t' : cS} {o : kY} (hR : kR h t s) (hf : cf_249 N X x0 t = some (t', o)) (k : ∀ h', kR h' t' s → kE o Q h') : zz_J zp_P zt_tf zt_fd X d zm_249 0 [(0, .ref x0)] [] h Q := by
  unfold cf_249 at hf
  exact zz_J.weak (cr_249_0 hd hR hf k) rfl ⟨rfl, trivial⟩
