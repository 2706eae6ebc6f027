/-! yX2_build (II)J -/
theorem cb_126_0 {X : Nat → Option zz_C} {h : zz_H} {t : cS} {s : mS} {d : Nat} {Q : zz_O → zz_H → Prop} {x1 : Int32} {x2 : Int32} (hR : kR h t s) (k1 : x2 < 0 → (∀ {h : zz_H}, kR h t s → zz_J zp_P zt_tf zt_fd X d zm_126 15 [] [] h Q)) (k2 : ¬ x2 < 0 → (∀ {h : zz_H}, kR h t s → zz_J zp_P zt_tf zt_fd X d zm_126 11 [(0, .ref 42), (1, .int x1), (2, .int x2), (3, .int ((kI t 42 3) - x2))] [] h Q)) : zz_J zp_P zt_tf zt_fd X d zm_126 0 [(0, .ref 42), (1, .int x1), (2, .int x2)] [] h Q := by
  refine zz_J.n 1 rfl rfl rfl ?_
  refine zz_J.g 4 rfl (hR.gv (v := .int (kI t 42 3)) ko_42 (by decide) rfl) rfl ?_
  refine zz_J.n 5 rfl rfl rfl ?_
  refine zz_J.n 6 rfl rfl rfl ?_
  refine zz_J.n 7 rfl rfl rfl ?_
  refine zz_J.n 8 rfl rfl rfl ?_
  refine zz_J.b1 15 11 (A := x2 < 0) rfl rfl (by decide) rfl rfl (fun c => ?_) (fun c => ?_)
  · exact zz_J.weak (k1 c hR) rfl trivial
  · exact zz_J.weak (k2 c hR) rfl ⟨rfl, rfl, rfl, rfl, trivial⟩
theorem cb_126_11 {X : Nat → Option zz_C} {h : zz_H} {t : cS} {s : mS} {d : Nat} {Q : zz_O → zz_H → Prop} {x1 : Int32} {x2 : Int32} {x3 : Int32} (hR : kR h t s) (k1 : 0 ≤ x3 → (∀ {h : zz_H}, kR h t s → zz_J zp_P zt_tf zt_fd X d zm_126 20 [(0, .ref 42), (1, .int x1), (2, .int x2), (3, .int x3)] [] h Q)) (k2 : ¬ 0 ≤ x3 → (∀ {h : zz_H}, kR h t s → zz_J zp_P zt_tf zt_fd X d zm_126 15 [] [] h Q)) : zz_J zp_P zt_tf zt_fd X d zm_126 11 [(0, .ref 42), (1, .int x1), (2, .int x2), (3, .int x3)] [] h Q := by
  refine zz_J.n 12 rfl rfl rfl ?_
  refine zz_J.b1 20 15 (A := 0 ≤ x3) rfl rfl (by decide) rfl rfl (fun c => ?_) (fun c => ?_)
  · exact zz_J.weak (k1 c hR) rfl ⟨rfl, rfl, rfl, rfl, trivial⟩
  · exact zz_J.weak (k2 c hR) rfl trivial
theorem cb_126_15 {X : Nat → Option zz_C} {h : zz_H} {t : cS} {s : mS} {d : Nat} {Q : zz_O → zz_H → Prop}  (hR : kR h t s) (k : ∀ {h : zz_H}, kR h t s → zz_J zp_P zt_tf zt_fd X d zm_254 0 [(0, .int 2)] [] h (zz_after 1000 Q (fun v h' => zz_J zp_P zt_tf zt_fd X (d + 1) zm_126 19 [] (v.toList ++ []) h' Q))) : zz_J zp_P zt_tf zt_fd X (d + 1) zm_126 15 [] [] h Q := by
  refine zz_J.c 16 (.int 2) rfl rfl rfl rfl ?_
  refine zz_J.cl (M' := zm_254) 19 rfl rfl (by decide) rfl rfl ⟨rfl, Nat.le_of_ble_eq_true rfl⟩ rfl ?_
  refine zz_J.mono (k hR) ?_
  intro o h' hE
  cases o with
  | inl v => exact zz_J.weak hE rfl trivial
  | inr q => exact hE
theorem cb_126_19 {X : Nat → Option zz_C} {h : zz_H} {t : cS} {s : mS} {d : Nat} {Q : zz_O → zz_H → Prop} {y0 : Int64} (hR : kR h t s) (k : ∀ {h : zz_H}, kR h t s → Q (.inl (some (.long y0))) h) : zz_J zp_P zt_tf zt_fd X d zm_126 19 [] [.long y0] h Q := by
  refine zz_J.ret rfl rfl rfl ?_
  exact k hR
theorem cb_126_20 {X : Nat → Option zz_C} {h : zz_H} {t : cS} {s : mS} {d : Nat} {Q : zz_O → zz_H → Prop} {x1 : Int32} {x2 : Int32} {x3 : Int32} (hR : kR h t s) (k : ∀ {h : zz_H}, kR h (jI t 42 3 x2) s → zz_J zp_P zt_tf zt_fd X d zm_126 34 [(0, .ref 42), (1, .int x1), (2, .int x2), (3, .int x3), (4, .int 0), (5, .int 0), (6, .int x2)] [] h Q) : zz_J zp_P zt_tf zt_fd X d zm_126 20 [(0, .ref 42), (1, .int x1), (2, .int x2), (3, .int x3)] [] h Q := by
  refine zz_J.n 21 rfl rfl rfl ?_
  refine zz_J.n 22 rfl rfl rfl ?_
  obtain ⟨h1, eq1, hR⟩ := hR.pI (x := x2) (by decide) ko_42 (kpi_42_3 _) (Nat.le_of_ble_eq_true rfl) rfl
  refine zz_J.pv 25 rfl eq1 rfl ?_
  clear eq1
  refine zz_J.c 26 (.int 0) rfl rfl rfl rfl ?_
  refine zz_J.n 28 rfl rfl rfl ?_
  refine zz_J.c 29 (.int 0) rfl rfl rfl rfl ?_
  refine zz_J.n 31 rfl rfl rfl ?_
  refine zz_J.n 32 rfl rfl rfl ?_
  refine zz_J.n 34 rfl rfl rfl ?_
  exact zz_J.weak (k hR) rfl ⟨rfl, rfl, rfl, rfl, rfl, rfl, rfl, trivial⟩
theorem cb_126_34 {X : Nat → Option zz_C} {h : zz_H} {t : cS} {s : mS} {d : Nat} {Q : zz_O → zz_H → Prop} {x1 : Int32} {x2 : Int32} {x3 : Int32} {x4 : Int32} {x5 : Int32} {x6 : Int32} (hR : kR h t s) (k1 : x1 ≤ 1 → (∀ {h : zz_H}, kR h t s → zz_J zp_P zt_tf zt_fd X d zm_126 106 [(0, .ref 42), (1, .int x1), (2, .int x2), (3, .int x3), (4, .int x4), (5, .int x5)] [] h Q)) (k2 : ¬ x1 ≤ 1 → (∀ {h : zz_H}, kR h t s → zz_J zp_P zt_tf zt_fd X d zm_126 39 [(0, .ref 42), (1, .int x1), (2, .int x2), (3, .int x3), (4, .int x4), (5, .int x5), (6, .int x6)] [] h Q)) : zz_J zp_P zt_tf zt_fd X d zm_126 34 [(0, .ref 42), (1, .int x1), (2, .int x2), (3, .int x3), (4, .int x4), (5, .int x5), (6, .int x6)] [] h Q := by
  refine zz_J.n 35 rfl rfl rfl ?_
  refine zz_J.c 36 (.int 1) rfl rfl rfl rfl ?_
  refine zz_J.b2 106 39 (A := x1 ≤ 1) rfl rfl (by decide) rfl rfl (fun c => ?_) (fun c => ?_)
  · exact zz_J.weak (k1 c hR) rfl ⟨rfl, rfl, rfl, rfl, rfl, rfl, trivial⟩
  · exact zz_J.weak (k2 c hR) rfl ⟨rfl, rfl, rfl, rfl, rfl, rfl, rfl, trivial⟩
theorem cb_126_39 {X : Nat → Option zz_C} {h : zz_H} {t : cS} {s : mS} {d : Nat} {Q : zz_O → zz_H → Prop} {x1 : Int32} {x2 : Int32} {x3 : Int32} {x4 : Int32} {x5 : Int32} {x6 : Int32} (hR : kR h t s) (k1 : (x2 + x3) ≤ x6 → (∀ {h : zz_H}, kR h t s → zz_J zp_P zt_tf zt_fd X d zm_126 106 [(0, .ref 42), (1, .int x1), (2, .int x2), (3, .int x3), (4, .int x4), (5, .int x5)] [] h Q)) (k2 : ¬ (x2 + x3) ≤ x6 → (∀ {h : zz_H}, kR h t s → zz_J zp_P zt_tf zt_fd X d zm_126 47 [(0, .ref 42), (1, .int x1), (2, .int x2), (3, .int x3), (4, .int x4), (5, .int x5), (6, .int x6)] [] h Q)) : zz_J zp_P zt_tf zt_fd X d zm_126 39 [(0, .ref 42), (1, .int x1), (2, .int x2), (3, .int x3), (4, .int x4), (5, .int x5), (6, .int x6)] [] h Q := by
  refine zz_J.n 41 rfl rfl rfl ?_
  refine zz_J.n 42 rfl rfl rfl ?_
  refine zz_J.n 43 rfl rfl rfl ?_
  refine zz_J.n 44 rfl rfl rfl ?_
  refine zz_J.b2 106 47 (A := (x2 + x3) ≤ x6) rfl rfl (by decide) rfl rfl (fun c => ?_) (fun c => ?_)
  · exact zz_J.weak (k1 c hR) rfl ⟨rfl, rfl, rfl, rfl, rfl, rfl, trivial⟩
  · exact zz_J.weak (k2 c hR) rfl ⟨rfl, rfl, rfl, rfl, rfl, rfl, rfl, trivial⟩
theorem cb_126_47 {X : Nat → Option zz_C} {h : zz_H} {t : cS} {s : mS} {d : Nat} {Q : zz_O → zz_H → Prop} {x1 : Int32} {x2 : Int32} {x3 : Int32} {x4 : Int32} {x5 : Int32} {x6 : Int32} (hR : kR h t s) (k1 : ¬ x1 = 3 → (∀ {h : zz_H}, kR h t s → zz_J zp_P zt_tf zt_fd X d zm_126 68 [(0, .ref 42), (1, .int x1), (2, .int x2), (3, .int x3), (5, .int x5), (6, .int x6)] [.int x4] h Q)) (k2 : ¬ ¬ x1 = 3 → (∀ {h : zz_H}, kR h t s → zz_J zp_P zt_tf zt_fd X d zm_126 54 [(0, .ref 42), (1, .int x1), (2, .int x2), (3, .int x3), (5, .int x5), (6, .int x6)] [.int x4] h Q)) : zz_J zp_P zt_tf zt_fd X d zm_126 47 [(0, .ref 42), (1, .int x1), (2, .int x2), (3, .int x3), (4, .int x4), (5, .int x5), (6, .int x6)] [] h Q := by
  refine zz_J.n 49 rfl rfl rfl ?_
  refine zz_J.n 50 rfl rfl rfl ?_
  refine zz_J.c 51 (.int 3) rfl rfl rfl rfl ?_
  refine zz_J.b2 68 54 (A := ¬ x1 = 3) rfl (zz_cond_ne _ _) (by decide) rfl rfl (fun c => ?_) (fun c => ?_)
  · exact zz_J.weak (k1 c hR) rfl ⟨rfl, rfl, rfl, rfl, rfl, rfl, trivial⟩
  · exact zz_J.weak (k2 c hR) rfl ⟨rfl, rfl, rfl, rfl, rfl, rfl, trivial⟩
theorem cb_126_54 {X : Nat → Option zz_C} {h : zz_H} {t : cS} {s : mS} {d : Nat} {Q : zz_O → zz_H → Prop} {x1 : Int32} {x2 : Int32} {x3 : Int32} {x5 : Int32} {x6 : Int32} {y0 : Int32} (hR : kR h t s) (e0 : ¬ (x6 < 0 ∨ (kB t 44).1 ≤ (Int32.toNatClampNeg x6))) (k : ∀ {h : zz_H}, kR h t s → zz_J zp_P zt_tf zt_fd X d zm_134 0 [(0, .ref 42), (1, .long ((kB t 44).2 (Int32.toNatClampNeg x6)))] [] h (zz_after 2 Q (fun v h' => zz_J zp_P zt_tf zt_fd X (d + 1) zm_126 65 [(0, .ref 42), (1, .int x1), (2, .int x2), (3, .int x3), (5, .int x5), (6, .int x6)] (v.toList ++ [.int y0]) h' Q))) : zz_J zp_P zt_tf zt_fd X (d + 1) zm_126 54 [(0, .ref 42), (1, .int x1), (2, .int x2), (3, .int x3), (5, .int x5), (6, .int x6)] [.int y0] h Q := by
  refine zz_J.n 55 rfl rfl rfl ?_
  refine zz_J.n 56 rfl rfl rfl ?_
  refine zz_J.g 59 rfl (hR.gv (v := .ref (kD t 44)) ko_42 (by decide) rfl) rfl ?_
  refine zz_J.n 61 rfl rfl rfl ?_
  refine zz_J.al 62 rfl (hR.al (w := ((kB t 44).2 (Int32.toNatClampNeg x6))) ka_44 rfl e0 rfl) rfl ?_
  refine zz_J.cv 65 (as := [.int y0]) rfl rfl (hR.clO ko_42 (by decide) (by decide)) (by decide) (Nat.le_of_ble_eq_true rfl) (Nat.le_of_ble_eq_true rfl) rfl (Nat.le_of_ble_eq_true rfl) rfl ?_
  refine zz_J.mono (k hR) ?_
  intro o h' hE
  cases o with
  | inl v => exact zz_J.weak hE rfl ⟨rfl, rfl, rfl, rfl, rfl, rfl, trivial⟩
  | inr q => exact hE
theorem cb_126_65 {X : Nat → Option zz_C} {h : zz_H} {t : cS} {s : mS} {d : Nat} {Q : zz_O → zz_H → Prop} {x1 : Int32} {x2 : Int32} {x3 : Int32} {x5 : Int32} {x6 : Int32} {y0 : Int32} {y1 : Int32} (hR : kR h t s) (k : ∀ {h : zz_H}, kR h t s → zz_J zp_P zt_tf zt_fd X d zm_126 79 [(0, .ref 42), (1, .int x1), (2, .int x2), (3, .int x3), (5, .int x5), (6, .int x6)] [.int y1, .int y0] h Q) : zz_J zp_P zt_tf zt_fd X d zm_126 65 [(0, .ref 42), (1, .int x1), (2, .int x2), (3, .int x3), (5, .int x5), (6, .int x6)] [.int y1, .int y0] h Q := by
  refine zz_J.n 79 rfl rfl rfl ?_
  exact zz_J.weak (k hR) rfl ⟨rfl, rfl, rfl, rfl, rfl, rfl, trivial⟩
theorem cb_126_68 {X : Nat → Option zz_C} {h : zz_H} {t : cS} {s : mS} {d : Nat} {Q : zz_O → zz_H → Prop} {x1 : Int32} {x2 : Int32} {x3 : Int32} {x5 : Int32} {x6 : Int32} {y0 : Int32} (hR : kR h t s) (e0 : ¬ (x6 < 0 ∨ (kB t 44).1 ≤ (Int32.toNatClampNeg x6))) (k : ∀ {h : zz_H}, kR h t s → zz_J zp_P zt_tf zt_fd X d zm_128 0 [(0, .ref 42), (1, .long ((kB t 44).2 (Int32.toNatClampNeg x6)))] [] h (zz_after 2 Q (fun v h' => zz_J zp_P zt_tf zt_fd X (d + 1) zm_126 79 [(0, .ref 42), (1, .int x1), (2, .int x2), (3, .int x3), (5, .int x5), (6, .int x6)] (v.toList ++ [.int y0]) h' Q))) : zz_J zp_P zt_tf zt_fd X (d + 1) zm_126 68 [(0, .ref 42), (1, .int x1), (2, .int x2), (3, .int x3), (5, .int x5), (6, .int x6)] [.int y0] h Q := by
  refine zz_J.n 69 rfl rfl rfl ?_
  refine zz_J.n 70 rfl rfl rfl ?_
  refine zz_J.g 73 rfl (hR.gv (v := .ref (kD t 44)) ko_42 (by decide) rfl) rfl ?_
  refine zz_J.n 75 rfl rfl rfl ?_
  refine zz_J.al 76 rfl (hR.al (w := ((kB t 44).2 (Int32.toNatClampNeg x6))) ka_44 rfl e0 rfl) rfl ?_
  refine zz_J.cv 79 (as := [.int y0]) rfl rfl (hR.clO ko_42 (by decide) (by decide)) (by decide) (Nat.le_of_ble_eq_true rfl) (Nat.le_of_ble_eq_true rfl) rfl (Nat.le_of_ble_eq_true rfl) rfl ?_
  refine zz_J.mono (k hR) ?_
  intro o h' hE
  cases o with
  | inl v => exact zz_J.weak hE rfl ⟨rfl, rfl, rfl, rfl, rfl, rfl, trivial⟩
  | inr q => exact hE
theorem cb_126_79 {X : Nat → Option zz_C} {h : zz_H} {t : cS} {s : mS} {d : Nat} {Q : zz_O → zz_H → Prop} {x1 : Int32} {x2 : Int32} {x3 : Int32} {x5 : Int32} {x6 : Int32} {y0 : Int32} {y1 : Int32} (hR : kR h t s) (e0 : ¬ (x6 < 0 ∨ (kB t 44).1 ≤ (Int32.toNatClampNeg x6))) (k : ∀ {h : zz_H}, kR h t s → zz_J zp_P zt_tf zt_fd X d zm_135 0 [(0, .ref 42), (1, .long ((kB t 44).2 (Int32.toNatClampNeg x6)))] [] h (zz_after 2 Q (fun v h' => zz_J zp_P zt_tf zt_fd X (d + 1) zm_126 95 [(0, .ref 42), (1, .int x1), (2, .int x2), (3, .int x3), (4, .int (y0 + y1)), (6, .int x6)] (v.toList ++ [.int x5]) h' Q))) : zz_J zp_P zt_tf zt_fd X (d + 1) zm_126 79 [(0, .ref 42), (1, .int x1), (2, .int x2), (3, .int x3), (5, .int x5), (6, .int x6)] [.int y1, .int y0] h Q := by
  refine zz_J.n 80 rfl rfl rfl ?_
  refine zz_J.n 82 rfl rfl rfl ?_
  refine zz_J.n 84 rfl rfl rfl ?_
  refine zz_J.n 85 rfl rfl rfl ?_
  refine zz_J.n 86 rfl rfl rfl ?_
  refine zz_J.g 89 rfl (hR.gv (v := .ref (kD t 44)) ko_42 (by decide) rfl) rfl ?_
  refine zz_J.n 91 rfl rfl rfl ?_
  refine zz_J.al 92 rfl (hR.al (w := ((kB t 44).2 (Int32.toNatClampNeg x6))) ka_44 rfl e0 rfl) rfl ?_
  refine zz_J.cv 95 (as := [.int x5]) rfl rfl (hR.clO ko_42 (by decide) (by decide)) (by decide) (Nat.le_of_ble_eq_true rfl) (Nat.le_of_ble_eq_true rfl) rfl (Nat.le_of_ble_eq_true rfl) rfl ?_
  refine zz_J.mono (k hR) ?_
  intro o h' hE
  cases o with
  | inl v => exact zz_J.weak hE rfl ⟨rfl, rfl, rfl, rfl, rfl, rfl, trivial⟩
  | inr q => exact hE
theorem cb_126_95 {X : Nat → Option zz_C} {h : zz_H} {t : cS} {s : mS} {d : Nat} {Q : zz_O → zz_H → Prop} {x1 : Int32} {x2 : Int32} {x3 : Int32} {x4 : Int32} {x6 : Int32} {y0 : Int32} {y1 : Int32} (hR : kR h t s) (k : ∀ {h : zz_H}, kR h t s → zz_J zp_P zt_tf zt_fd X (d + 1) zm_126 34 [(0, .ref 42), (1, .int x1), (2, .int x2), (3, .int x3), (4, .int x4), (5, .int (if (y0 : Int32) < y1 then y1 else y0)), (6, .int (x6 + 1))] [] h Q) : zz_J zp_P zt_tf zt_fd X (d + 1) zm_126 95 [(0, .ref 42), (1, .int x1), (2, .int x2), (3, .int x3), (4, .int x4), (6, .int x6)] [.int y1, .int y0] h Q := by
  refine zz_J.spec 98 rfl rfl (by decide) rfl rfl rfl ?_
  refine zz_J.n 100 rfl rfl rfl ?_
  refine zz_J.n 103 rfl rfl rfl ?_
  refine zz_J.n 34 rfl rfl rfl ?_
  exact zz_J.weak (k hR) rfl ⟨rfl, rfl, rfl, rfl, rfl, rfl, rfl, trivial⟩
theorem cb_126_106 {X : Nat → Option zz_C} {h : zz_H} {t : cS} {s : mS} {d : Nat} {Q : zz_O → zz_H → Prop} {x1 : Int32} {x2 : Int32} {x3 : Int32} {x4 : Int32} {x5 : Int32} (hR : kR h t s) (k1 : ¬ x1 = 1 → (∀ {h : zz_H}, kR h t s → zz_J zp_P zt_tf zt_fd X d zm_126 117 [(0, .ref 42), (1, .int x1), (2, .int x2), (3, .int x3), (4, .int x4), (5, .int x5)] [.int x3] h Q)) (k2 : ¬ ¬ x1 = 1 → (∀ {h : zz_H}, kR h t s → zz_J zp_P zt_tf zt_fd X d zm_126 112 [(0, .ref 42), (1, .int x1), (2, .int x2), (3, .int x3), (4, .int x4), (5, .int x5)] [.int x3] h Q)) : zz_J zp_P zt_tf zt_fd X d zm_126 106 [(0, .ref 42), (1, .int x1), (2, .int x2), (3, .int x3), (4, .int x4), (5, .int x5)] [] h Q := by
  refine zz_J.n 107 rfl rfl rfl ?_
  refine zz_J.n 108 rfl rfl rfl ?_
  refine zz_J.c 109 (.int 1) rfl rfl rfl rfl ?_
  refine zz_J.b2 117 112 (A := ¬ x1 = 1) rfl (zz_cond_ne _ _) (by decide) rfl rfl (fun c => ?_) (fun c => ?_)
  · exact zz_J.weak (k1 c hR) rfl ⟨rfl, rfl, rfl, rfl, rfl, rfl, trivial⟩
  · exact zz_J.weak (k2 c hR) rfl ⟨rfl, rfl, rfl, rfl, rfl, rfl, trivial⟩
theorem cb_126_112 {X : Nat → Option zz_C} {h : zz_H} {t : cS} {s : mS} {d : Nat} {Q : zz_O → zz_H → Prop} {x1 : Int32} {x2 : Int32} {x3 : Int32} {x4 : Int32} {x5 : Int32} {y0 : Int32} (hR : kR h t s) (k : ∀ {h : zz_H}, kR h t s → zz_J zp_P zt_tf zt_fd X d zm_126 119 [(0, .ref 42), (1, .int x1), (2, .int x2), (3, .int x3), (4, .int x4), (5, .int x5)] [.int 64, .int y0] h Q) : zz_J zp_P zt_tf zt_fd X d zm_126 112 [(0, .ref 42), (1, .int x1), (2, .int x2), (3, .int x3), (4, .int x4), (5, .int x5)] [.int y0] h Q := by
  refine zz_J.c 114 (.int 64) rfl rfl rfl rfl ?_
  refine zz_J.n 119 rfl rfl rfl ?_
  exact zz_J.weak (k hR) rfl ⟨rfl, rfl, rfl, rfl, rfl, rfl, trivial⟩
theorem cb_126_117 {X : Nat → Option zz_C} {h : zz_H} {t : cS} {s : mS} {d : Nat} {Q : zz_O → zz_H → Prop} {x1 : Int32} {x2 : Int32} {x3 : Int32} {x4 : Int32} {x5 : Int32} {y0 : Int32} (hR : kR h t s) (k : ∀ {h : zz_H}, kR h t s → zz_J zp_P zt_tf zt_fd X d zm_126 119 [(0, .ref 42), (1, .int x1), (2, .int x2), (3, .int x3), (4, .int x4), (5, .int x5)] [.int 20, .int y0] h Q) : zz_J zp_P zt_tf zt_fd X d zm_126 117 [(0, .ref 42), (1, .int x1), (2, .int x2), (3, .int x3), (4, .int x4), (5, .int x5)] [.int y0] h Q := by
  refine zz_J.c 119 (.int 20) rfl rfl rfl rfl ?_
  exact zz_J.weak (k hR) rfl ⟨rfl, rfl, rfl, rfl, rfl, rfl, trivial⟩
theorem cb_126_119 {X : Nat → Option zz_C} {h : zz_H} {t : cS} {s : mS} {d : Nat} {Q : zz_O → zz_H → Prop} {x1 : Int32} {x2 : Int32} {x3 : Int32} {x4 : Int32} {x5 : Int32} {y0 : Int32} {y1 : Int32} (hR : kR h t s) (k1 : y1 < y0 → (∀ {h : zz_H}, kR h t s → zz_J zp_P zt_tf zt_fd X d zm_126 158 [] [] h Q)) (k2 : ¬ y1 < y0 → (∀ {h : zz_H}, kR h t s → zz_J zp_P zt_tf zt_fd X d zm_126 122 [(0, .ref 42), (1, .int x1), (2, .int x2), (3, .int x3), (4, .int x4), (5, .int x5)] [] h Q)) : zz_J zp_P zt_tf zt_fd X d zm_126 119 [(0, .ref 42), (1, .int x1), (2, .int x2), (3, .int x3), (4, .int x4), (5, .int x5)] [.int y1, .int y0] h Q := by
  refine zz_J.b2 158 122 (A := y1 < y0) rfl rfl (by decide) rfl rfl (fun c => ?_) (fun c => ?_)
  · exact zz_J.weak (k1 c hR) rfl trivial
  · exact zz_J.weak (k2 c hR) rfl ⟨rfl, rfl, rfl, rfl, rfl, rfl, trivial⟩
theorem cb_126_122 {X : Nat → Option zz_C} {h : zz_H} {t : cS} {s : mS} {d : Nat} {Q : zz_O → zz_H → Prop} {x1 : Int32} {x2 : Int32} {x3 : Int32} {x4 : Int32} {x5 : Int32} (hR : kR h t s) (k1 : ¬ x1 = 2 → (∀ {h : zz_H}, kR h t s → zz_J zp_P zt_tf zt_fd X d zm_126 135 [(0, .ref 42), (1, .int x1), (2, .int x2), (3, .int x3), (4, .int x4), (5, .int x5)] [] h Q)) (k2 : ¬ ¬ x1 = 2 → (∀ {h : zz_H}, kR h t s → zz_J zp_P zt_tf zt_fd X d zm_126 127 [(0, .ref 42), (1, .int x1), (2, .int x2), (3, .int x3), (4, .int x4), (5, .int x5)] [] h Q)) : zz_J zp_P zt_tf zt_fd X d zm_126 122 [(0, .ref 42), (1, .int x1), (2, .int x2), (3, .int x3), (4, .int x4), (5, .int x5)] [] h Q := by
  refine zz_J.n 123 rfl rfl rfl ?_
  refine zz_J.c 124 (.int 2) rfl rfl rfl rfl ?_
  refine zz_J.b2 135 127 (A := ¬ x1 = 2) rfl (zz_cond_ne _ _) (by decide) rfl rfl (fun c => ?_) (fun c => ?_)
  · exact zz_J.weak (k1 c hR) rfl ⟨rfl, rfl, rfl, rfl, rfl, rfl, trivial⟩
  · exact zz_J.weak (k2 c hR) rfl ⟨rfl, rfl, rfl, rfl, rfl, rfl, trivial⟩
theorem cb_126_127 {X : Nat → Option zz_C} {h : zz_H} {t : cS} {s : mS} {d : Nat} {Q : zz_O → zz_H → Prop} {x1 : Int32} {x2 : Int32} {x3 : Int32} {x4 : Int32} {x5 : Int32} (hR : kR h t s) (k1 : 200 < x4 → (∀ {h : zz_H}, kR h t s → zz_J zp_P zt_tf zt_fd X d zm_126 158 [] [] h Q)) (k2 : ¬ 200 < x4 → (∀ {h : zz_H}, kR h t s → zz_J zp_P zt_tf zt_fd X d zm_126 135 [(0, .ref 42), (1, .int x1), (2, .int x2), (3, .int x3), (4, .int x4), (5, .int x5)] [] h Q)) : zz_J zp_P zt_tf zt_fd X d zm_126 127 [(0, .ref 42), (1, .int x1), (2, .int x2), (3, .int x3), (4, .int x4), (5, .int x5)] [] h Q := by
  refine zz_J.n 129 rfl rfl rfl ?_
  refine zz_J.c 132 (.int 200) rfl rfl rfl rfl ?_
  refine zz_J.b2 158 135 (A := 200 < x4) rfl rfl (by decide) rfl rfl (fun c => ?_) (fun c => ?_)
  · exact zz_J.weak (k1 c hR) rfl trivial
  · exact zz_J.weak (k2 c hR) rfl ⟨rfl, rfl, rfl, rfl, rfl, rfl, trivial⟩
theorem cb_126_135 {X : Nat → Option zz_C} {h : zz_H} {t : cS} {s : mS} {d : Nat} {Q : zz_O → zz_H → Prop} {x1 : Int32} {x2 : Int32} {x3 : Int32} {x4 : Int32} {x5 : Int32} (hR : kR h t s) (k1 : ¬ x1 = 3 → (∀ {h : zz_H}, kR h t s → zz_J zp_P zt_tf zt_fd X d zm_126 163 [(0, .ref 42), (1, .int x1), (2, .int x2), (3, .int x3), (4, .int x4), (5, .int x5)] [] h Q)) (k2 : ¬ ¬ x1 = 3 → (∀ {h : zz_H}, kR h t s → zz_J zp_P zt_tf zt_fd X d zm_126 140 [(0, .ref 42), (1, .int x1), (2, .int x2), (3, .int x3), (4, .int x4), (5, .int x5)] [] h Q)) : zz_J zp_P zt_tf zt_fd X d zm_126 135 [(0, .ref 42), (1, .int x1), (2, .int x2), (3, .int x3), (4, .int x4), (5, .int x5)] [] h Q := by
  refine zz_J.n 136 rfl rfl rfl ?_
  refine zz_J.c 137 (.int 3) rfl rfl rfl rfl ?_
  refine zz_J.b2 163 140 (A := ¬ x1 = 3) rfl (zz_cond_ne _ _) (by decide) rfl rfl (fun c => ?_) (fun c => ?_)
  · exact zz_J.weak (k1 c hR) rfl ⟨rfl, rfl, rfl, rfl, rfl, rfl, trivial⟩
  · exact zz_J.weak (k2 c hR) rfl ⟨rfl, rfl, rfl, rfl, rfl, rfl, trivial⟩
theorem cb_126_140 {X : Nat → Option zz_C} {h : zz_H} {t : cS} {s : mS} {d : Nat} {Q : zz_O → zz_H → Prop} {x1 : Int32} {x2 : Int32} {x3 : Int32} {x4 : Int32} {x5 : Int32} (hR : kR h t s) (k1 : 600 < (x4 + 1) → (∀ {h : zz_H}, kR h t s → zz_J zp_P zt_tf zt_fd X d zm_126 158 [] [] h Q)) (k2 : ¬ 600 < (x4 + 1) → (∀ {h : zz_H}, kR h t s → zz_J zp_P zt_tf zt_fd X d zm_126 150 [(0, .ref 42), (1, .int x1), (2, .int x2), (3, .int x3), (4, .int x4), (5, .int x5)] [] h Q)) : zz_J zp_P zt_tf zt_fd X d zm_126 140 [(0, .ref 42), (1, .int x1), (2, .int x2), (3, .int x3), (4, .int x4), (5, .int x5)] [] h Q := by
  refine zz_J.n 142 rfl rfl rfl ?_
  refine zz_J.c 143 (.int 1) rfl rfl rfl rfl ?_
  refine zz_J.n 144 rfl rfl rfl ?_
  refine zz_J.c 147 (.int 600) rfl rfl rfl rfl ?_
  refine zz_J.b2 158 150 (A := 600 < (x4 + 1)) rfl rfl (by decide) rfl rfl (fun c => ?_) (fun c => ?_)
  · exact zz_J.weak (k1 c hR) rfl trivial
  · exact zz_J.weak (k2 c hR) rfl ⟨rfl, rfl, rfl, rfl, rfl, rfl, trivial⟩
theorem cb_126_150 {X : Nat → Option zz_C} {h : zz_H} {t : cS} {s : mS} {d : Nat} {Q : zz_O → zz_H → Prop} {x1 : Int32} {x2 : Int32} {x3 : Int32} {x4 : Int32} {x5 : Int32} (hR : kR h t s) (k1 : (x5 + 1) ≤ 4 → (∀ {h : zz_H}, kR h t s → zz_J zp_P zt_tf zt_fd X d zm_126 163 [(0, .ref 42), (1, .int x1), (2, .int x2), (3, .int x3), (4, .int x4), (5, .int x5)] [] h Q)) (k2 : ¬ (x5 + 1) ≤ 4 → (∀ {h : zz_H}, kR h t s → zz_J zp_P zt_tf zt_fd X d zm_126 158 [] [] h Q)) : zz_J zp_P zt_tf zt_fd X d zm_126 150 [(0, .ref 42), (1, .int x1), (2, .int x2), (3, .int x3), (4, .int x4), (5, .int x5)] [] h Q := by
  refine zz_J.n 152 rfl rfl rfl ?_
  refine zz_J.c 153 (.int 1) rfl rfl rfl rfl ?_
  refine zz_J.n 154 rfl rfl rfl ?_
  refine zz_J.c 155 (.int 4) rfl rfl rfl rfl ?_
  refine zz_J.b2 163 158 (A := (x5 + 1) ≤ 4) rfl rfl (by decide) rfl rfl (fun c => ?_) (fun c => ?_)
  · exact zz_J.weak (k1 c hR) rfl ⟨rfl, rfl, rfl, rfl, rfl, rfl, trivial⟩
  · exact zz_J.weak (k2 c hR) rfl trivial
theorem cb_126_158 {X : Nat → Option zz_C} {h : zz_H} {t : cS} {s : mS} {d : Nat} {Q : zz_O → zz_H → Prop}  (hR : kR h t s) (k : ∀ {h : zz_H}, kR h t s → zz_J zp_P zt_tf zt_fd X d zm_254 0 [(0, .int 2)] [] h (zz_after 1000 Q (fun v h' => zz_J zp_P zt_tf zt_fd X (d + 1) zm_126 162 [] (v.toList ++ []) h' Q))) : zz_J zp_P zt_tf zt_fd X (d + 1) zm_126 158 [] [] h Q := by
  refine zz_J.c 159 (.int 2) rfl rfl rfl rfl ?_
  refine zz_J.cl (M' := zm_254) 162 rfl rfl (by decide) rfl rfl ⟨rfl, Nat.le_of_ble_eq_true rfl⟩ rfl ?_
  refine zz_J.mono (k hR) ?_
  intro o h' hE
  cases o with
  | inl v => exact zz_J.weak hE rfl trivial
  | inr q => exact hE
theorem cb_126_162 {X : Nat → Option zz_C} {h : zz_H} {t : cS} {s : mS} {d : Nat} {Q : zz_O → zz_H → Prop} {y0 : Int64} (hR : kR h t s) (k : ∀ {h : zz_H}, kR h t s → Q (.inl (some (.long y0))) h) : zz_J zp_P zt_tf zt_fd X d zm_126 162 [] [.long y0] h Q := by
  refine zz_J.ret rfl rfl rfl ?_
  exact k hR
theorem cb_126_163 {X : Nat → Option zz_C} {h : zz_H} {t : cS} {s : mS} {d : Nat} {Q : zz_O → zz_H → Prop} {x1 : Int32} {x2 : Int32} {x3 : Int32} {x4 : Int32} {x5 : Int32} (hR : kR h t s) (k1 : ((kI t 42 1) + (x1 + x3)) ≤ (Int32.ofNat (kB t 43).1) → (∀ {h : zz_H}, kR h (jI t 42 1 ((kI t 42 1) + (x1 + x3))) s → zz_J zp_P zt_tf zt_fd X d zm_126 210 [(0, .ref 42), (1, .int x1), (2, .int x2), (3, .int x3), (4, .int x4), (5, .int x5), (6, .int (kI t 42 1))] [] h Q)) (k2 : ¬ ((kI t 42 1) + (x1 + x3)) ≤ (Int32.ofNat (kB t 43).1) → (∀ {h : zz_H}, kR h (jI t 42 1 ((kI t 42 1) + (x1 + x3))) s → zz_J zp_P zt_tf zt_fd X d zm_126 193 [(0, .ref 42), (1, .int x1), (2, .int x2), (3, .int x3), (4, .int x4), (5, .int x5), (6, .int (kI t 42 1))] [] h Q)) : zz_J zp_P zt_tf zt_fd X d zm_126 163 [(0, .ref 42), (1, .int x1), (2, .int x2), (3, .int x3), (4, .int x4), (5, .int x5)] [] h Q := by
  refine zz_J.n 164 rfl rfl rfl ?_
  refine zz_J.g 167 rfl (hR.gv (v := .int (kI t 42 1)) ko_42 (by decide) rfl) rfl ?_
  refine zz_J.n 169 rfl rfl rfl ?_
  refine zz_J.n 170 rfl rfl rfl ?_
  refine zz_J.n 171 rfl rfl rfl ?_
  refine zz_J.g 174 rfl (hR.gv (v := .int (kI t 42 1)) ko_42 (by decide) rfl) rfl ?_
  refine zz_J.n 175 rfl rfl rfl ?_
  refine zz_J.n 176 rfl rfl rfl ?_
  refine zz_J.n 177 rfl rfl rfl ?_
  refine zz_J.n 178 rfl rfl rfl ?_
  obtain ⟨h1, eq1, hR⟩ := hR.pI (x := ((kI t 42 1) + (x1 + x3))) (by decide) ko_42 (kpi_42_1 _) (Nat.le_of_ble_eq_true rfl) rfl
  refine zz_J.pv 181 rfl eq1 rfl ?_
  clear eq1
  refine zz_J.n 182 rfl rfl rfl ?_
  refine zz_J.g 185 rfl (hR.gv (v := .int ((kI t 42 1) + (x1 + x3))) ko_42 (by decide) rfl) rfl ?_
  refine zz_J.n 186 rfl rfl rfl ?_
  refine zz_J.g 189 rfl (hR.gv (v := .ref (kD t 43)) ko_42 (by decide) rfl) rfl ?_
  refine zz_J.ln 190 rfl (hR.ln (w := (Int32.ofNat (kB t 43).1)) ka_43 rfl (by decide) rfl) rfl ?_
  refine zz_J.b2 210 193 (A := ((kI t 42 1) + (x1 + x3)) ≤ (Int32.ofNat (kB t 43).1)) rfl rfl (by decide) rfl rfl (fun c => ?_) (fun c => ?_)
  · exact zz_J.weak (k1 c hR) rfl ⟨rfl, rfl, rfl, rfl, rfl, rfl, rfl, trivial⟩
  · exact zz_J.weak (k2 c hR) rfl ⟨rfl, rfl, rfl, rfl, rfl, rfl, rfl, trivial⟩
theorem cb_126_193 {X : Nat → Option zz_C} {h : zz_H} {t : cS} {s : mS} {d : Nat} {Q : zz_O → zz_H → Prop} {x1 : Int32} {x2 : Int32} {x3 : Int32} {x4 : Int32} {x5 : Int32} {x6 : Int32} (hR : kR h t s) (e0 : ¬ (2 * (kI t 42 1)) < 0 ∧ (Int32.toNatClampNeg (2 * (kI t 42 1))) ≤ 1000000 ∧ (kB t 43).1 ≤ 1000000 ∧ ¬ (2 * (kI t 42 1)) = Int32.ofNat (kB t 43).1 ∧ (kN t) + 1 < zz_out) (k : ∀ {h : zz_H}, kR h (jMv (jNL t (Int32.toNatClampNeg (2 * (kI t 42 1))) (kcp 0 (kB t 43).2 (Nat.min (kB t 43).1 (Int32.toNatClampNeg (2 * (kI t 42 1)))))) 43) s → zz_J zp_P zt_tf zt_fd X (d + 9) zm_126 210 [(0, .ref 42), (1, .int x1), (2, .int x2), (3, .int x3), (4, .int x4), (5, .int x5), (6, .int x6)] [] h Q) : zz_J zp_P zt_tf zt_fd X (d + 9) zm_126 193 [(0, .ref 42), (1, .int x1), (2, .int x2), (3, .int x3), (4, .int x4), (5, .int x5), (6, .int x6)] [] h Q := by
  refine zz_J.n 194 rfl rfl rfl ?_
  refine zz_J.n 195 rfl rfl rfl ?_
  refine zz_J.g 198 rfl (hR.gv (v := .ref (kD t 43)) ko_42 (by decide) rfl) rfl ?_
  refine zz_J.c 199 (.int 2) rfl rfl rfl rfl ?_
  refine zz_J.n 200 rfl rfl rfl ?_
  refine zz_J.g 203 rfl (hR.gv (v := .int (kI t 42 1)) ko_42 (by decide) rfl) rfl ?_
  refine zz_J.n 204 rfl rfl rfl ?_
  refine kq_copyl 207 rfl rfl hR (by omega) ka_43 rfl e0 (Nat.le_of_ble_eq_true rfl) (fun {h} hR => ?_)
  obtain ⟨h1, eq1, hR⟩ := hR.pMvl (k := 43) rfl (by decide) ko_42 (kpa_42_0) (Nat.le_of_ble_eq_true rfl) rfl rfl rfl ka_43
  refine zz_J.pv 210 rfl eq1 rfl ?_
  clear eq1
  exact zz_J.weak (k hR) rfl ⟨rfl, rfl, rfl, rfl, rfl, rfl, rfl, trivial⟩
theorem cb_126_210 {X : Nat → Option zz_C} {h : zz_H} {t : cS} {s : mS} {d : Nat} {Q : zz_O → zz_H → Prop} {x1 : Int32} {x2 : Int32} {x3 : Int32} {x4 : Int32} {x5 : Int32} {x6 : Int32} (hR : kR h t s) (e0 : ¬ (x6 < 0 ∨ (kB t 43).1 ≤ (Int32.toNatClampNeg x6))) (k1 : ¬ x1 = 2 → (∀ {h : zz_H}, kR h (jB t 43 (vp_updL (kB t 43).2 (Int32.toNatClampNeg x6) (Int32.toInt64 x3))) s → zz_J zp_P zt_tf zt_fd X d zm_126 239 [(0, .ref 42), (1, .int x1), (2, .int x2), (3, .int x3), (4, .int x4), (5, .int x5), (6, .int x6)] [] h Q)) (k2 : ¬ ¬ x1 = 2 → (∀ {h : zz_H}, kR h (jB t 43 (vp_updL (kB t 43).2 (Int32.toNatClampNeg x6) (Int32.toInt64 x3))) s → zz_J zp_P zt_tf zt_fd X d zm_126 224 [(0, .ref 42), (1, .int x1), (2, .int x2), (3, .int x3), (4, .int x4), (6, .int x6)] [] h Q)) : zz_J zp_P zt_tf zt_fd X d zm_126 210 [(0, .ref 42), (1, .int x1), (2, .int x2), (3, .int x3), (4, .int x4), (5, .int x5), (6, .int x6)] [] h Q := by
  refine zz_J.n 211 rfl rfl rfl ?_
  refine zz_J.g 214 rfl (hR.gv (v := .ref (kD t 43)) ko_42 (by decide) rfl) rfl ?_
  refine zz_J.n 216 rfl rfl rfl ?_
  refine zz_J.n 217 rfl rfl rfl ?_
  refine zz_J.n 218 rfl rfl rfl ?_
  obtain ⟨h1, eq1, hR⟩ := hR.sl (x := (Int32.toInt64 x3)) ka_43 rfl e0
  refine zz_J.sl 219 rfl eq1 rfl ?_
  clear eq1
  refine zz_J.n 220 rfl rfl rfl ?_
  refine zz_J.c 221 (.int 2) rfl rfl rfl rfl ?_
  refine zz_J.b2 239 224 (A := ¬ x1 = 2) rfl (zz_cond_ne _ _) (by decide) rfl rfl (fun c => ?_) (fun c => ?_)
  · exact zz_J.weak (k1 c hR) rfl ⟨rfl, rfl, rfl, rfl, rfl, rfl, rfl, trivial⟩
  · exact zz_J.weak (k2 c hR) rfl ⟨rfl, rfl, rfl, rfl, rfl, rfl, trivial⟩
theorem cb_126_224 {X : Nat → Option zz_C} {h : zz_H} {t : cS} {s : mS} {d : Nat} {Q : zz_O → zz_H → Prop} {x1 : Int32} {x2 : Int32} {x3 : Int32} {x4 : Int32} {x6 : Int32} (hR : kR h t s) (e0 : ¬ ((x6 + 1) < 0 ∨ (kB t 43).1 ≤ (Int32.toNatClampNeg (x6 + 1)))) (k : ∀ {h : zz_H}, kR h (jB t 43 (vp_updL (kB t 43).2 (Int32.toNatClampNeg (x6 + 1)) (Int32.toInt64 x4))) s → zz_J zp_P zt_tf zt_fd X d zm_126 272 [(0, .ref 42), (1, .int x1), (2, .int x2), (3, .int x3), (6, .int x6)] [] h Q) : zz_J zp_P zt_tf zt_fd X d zm_126 224 [(0, .ref 42), (1, .int x1), (2, .int x2), (3, .int x3), (4, .int x4), (6, .int x6)] [] h Q := by
  refine zz_J.n 225 rfl rfl rfl ?_
  refine zz_J.g 228 rfl (hR.gv (v := .ref (kD t 43)) ko_42 (by decide) rfl) rfl ?_
  refine zz_J.n 230 rfl rfl rfl ?_
  refine zz_J.c 231 (.int 1) rfl rfl rfl rfl ?_
  refine zz_J.n 232 rfl rfl rfl ?_
  refine zz_J.n 234 rfl rfl rfl ?_
  refine zz_J.n 235 rfl rfl rfl ?_
  obtain ⟨h1, eq1, hR⟩ := hR.sl (x := (Int32.toInt64 x4)) ka_43 rfl e0
  refine zz_J.sl 236 rfl eq1 rfl ?_
  clear eq1
  refine zz_J.n 272 rfl rfl rfl ?_
  exact zz_J.weak (k hR) rfl ⟨rfl, rfl, rfl, rfl, rfl, trivial⟩
theorem cb_126_239 {X : Nat → Option zz_C} {h : zz_H} {t : cS} {s : mS} {d : Nat} {Q : zz_O → zz_H → Prop} {x1 : Int32} {x2 : Int32} {x3 : Int32} {x4 : Int32} {x5 : Int32} {x6 : Int32} (hR : kR h t s) (k1 : ¬ x1 = 3 → (∀ {h : zz_H}, kR h t s → zz_J zp_P zt_tf zt_fd X d zm_126 272 [(0, .ref 42), (1, .int x1), (2, .int x2), (3, .int x3), (6, .int x6)] [] h Q)) (k2 : ¬ ¬ x1 = 3 → (∀ {h : zz_H}, kR h t s → zz_J zp_P zt_tf zt_fd X d zm_126 244 [(0, .ref 42), (1, .int x1), (2, .int x2), (3, .int x3), (4, .int x4), (5, .int x5), (6, .int x6)] [] h Q)) : zz_J zp_P zt_tf zt_fd X d zm_126 239 [(0, .ref 42), (1, .int x1), (2, .int x2), (3, .int x3), (4, .int x4), (5, .int x5), (6, .int x6)] [] h Q := by
  refine zz_J.n 240 rfl rfl rfl ?_
  refine zz_J.c 241 (.int 3) rfl rfl rfl rfl ?_
  refine zz_J.b2 272 244 (A := ¬ x1 = 3) rfl (zz_cond_ne _ _) (by decide) rfl rfl (fun c => ?_) (fun c => ?_)
  · exact zz_J.weak (k1 c hR) rfl ⟨rfl, rfl, rfl, rfl, rfl, trivial⟩
  · exact zz_J.weak (k2 c hR) rfl ⟨rfl, rfl, rfl, rfl, rfl, rfl, rfl, trivial⟩
theorem cb_126_244 {X : Nat → Option zz_C} {h : zz_H} {t : cS} {s : mS} {d : Nat} {Q : zz_O → zz_H → Prop} {x1 : Int32} {x2 : Int32} {x3 : Int32} {x4 : Int32} {x5 : Int32} {x6 : Int32} (hR : kR h t s) (e0 : ¬ ((x6 + 1) < 0 ∨ (kB t 43).1 ≤ (Int32.toNatClampNeg (x6 + 1)))) (e1 : ¬ ((x6 + 2) < 0 ∨ (kB (jB t 43 (vp_updL (kB t 43).2 (Int32.toNatClampNeg (x6 + 1)) (Int32.toInt64 (x4 + 1)))) 43).1 ≤ (Int32.toNatClampNeg (x6 + 2)))) (k : ∀ {h : zz_H}, kR h (jB (jB t 43 (vp_updL (kB t 43).2 (Int32.toNatClampNeg (x6 + 1)) (Int32.toInt64 (x4 + 1)))) 43 (vp_updL (kB (jB t 43 (vp_updL (kB t 43).2 (Int32.toNatClampNeg (x6 + 1)) (Int32.toInt64 (x4 + 1)))) 43).2 (Int32.toNatClampNeg (x6 + 2)) (Int32.toInt64 (x5 + 1)))) s → zz_J zp_P zt_tf zt_fd X d zm_126 272 [(0, .ref 42), (1, .int x1), (2, .int x2), (3, .int x3), (6, .int x6)] [] h Q) : zz_J zp_P zt_tf zt_fd X d zm_126 244 [(0, .ref 42), (1, .int x1), (2, .int x2), (3, .int x3), (4, .int x4), (5, .int x5), (6, .int x6)] [] h Q := by
  refine zz_J.n 245 rfl rfl rfl ?_
  refine zz_J.g 248 rfl (hR.gv (v := .ref (kD t 43)) ko_42 (by decide) rfl) rfl ?_
  refine zz_J.n 250 rfl rfl rfl ?_
  refine zz_J.c 251 (.int 1) rfl rfl rfl rfl ?_
  refine zz_J.n 252 rfl rfl rfl ?_
  refine zz_J.n 254 rfl rfl rfl ?_
  refine zz_J.c 255 (.int 1) rfl rfl rfl rfl ?_
  refine zz_J.n 256 rfl rfl rfl ?_
  refine zz_J.n 257 rfl rfl rfl ?_
  obtain ⟨h1, eq1, hR⟩ := hR.sl (x := (Int32.toInt64 (x4 + 1))) ka_43 rfl e0
  refine zz_J.sl 258 rfl eq1 rfl ?_
  clear eq1
  refine zz_J.n 259 rfl rfl rfl ?_
  refine zz_J.g 262 rfl (hR.gv (v := .ref (kD t 43)) ko_42 (by decide) rfl) rfl ?_
  refine zz_J.n 264 rfl rfl rfl ?_
  refine zz_J.c 265 (.int 2) rfl rfl rfl rfl ?_
  refine zz_J.n 266 rfl rfl rfl ?_
  refine zz_J.n 268 rfl rfl rfl ?_
  refine zz_J.c 269 (.int 1) rfl rfl rfl rfl ?_
  refine zz_J.n 270 rfl rfl rfl ?_
  refine zz_J.n 271 rfl rfl rfl ?_
  obtain ⟨h1, eq1, hR⟩ := hR.sl (x := (Int32.toInt64 (x5 + 1))) ka_43 rfl e1
  refine zz_J.sl 272 rfl eq1 rfl ?_
  clear eq1
  exact zz_J.weak (k hR) rfl ⟨rfl, rfl, rfl, rfl, rfl, trivial⟩
theorem cb_126_272 {X : Nat → Option zz_C} {h : zz_H} {t : cS} {s : mS} {d : Nat} {Q : zz_O → zz_H → Prop} {x1 : Int32} {x2 : Int32} {x3 : Int32} {x6 : Int32} (hR : kR h t s) (k : ∀ {h : zz_H}, kR h t s → zz_J zp_P zt_tf zt_fd X d zm_126 275 [(0, .ref 42), (1, .int x1), (2, .int x2), (3, .int x3), (6, .int x6), (7, .int 0)] [] h Q) : zz_J zp_P zt_tf zt_fd X d zm_126 272 [(0, .ref 42), (1, .int x1), (2, .int x2), (3, .int x3), (6, .int x6)] [] h Q := by
  refine zz_J.c 273 (.int 0) rfl rfl rfl rfl ?_
  refine zz_J.n 275 rfl rfl rfl ?_
  exact zz_J.weak (k hR) rfl ⟨rfl, rfl, rfl, rfl, rfl, rfl, trivial⟩
theorem cb_126_275 {X : Nat → Option zz_C} {h : zz_H} {t : cS} {s : mS} {d : Nat} {Q : zz_O → zz_H → Prop} {x1 : Int32} {x2 : Int32} {x3 : Int32} {x6 : Int32} {x7 : Int32} (hR : kR h t s) (k1 : x3 ≤ x7 → (∀ {h : zz_H}, kR h t s → zz_J zp_P zt_tf zt_fd X d zm_126 327 [(1, .int x1), (6, .int x6)] [] h Q)) (k2 : ¬ x3 ≤ x7 → (∀ {h : zz_H}, kR h t s → zz_J zp_P zt_tf zt_fd X d zm_126 281 [(0, .ref 42), (1, .int x1), (2, .int x2), (3, .int x3), (6, .int x6), (7, .int x7)] [] h Q)) : zz_J zp_P zt_tf zt_fd X d zm_126 275 [(0, .ref 42), (1, .int x1), (2, .int x2), (3, .int x3), (6, .int x6), (7, .int x7)] [] h Q := by
  refine zz_J.n 277 rfl rfl rfl ?_
  refine zz_J.n 278 rfl rfl rfl ?_
  refine zz_J.b2 327 281 (A := x3 ≤ x7) rfl rfl (by decide) rfl rfl (fun c => ?_) (fun c => ?_)
  · exact zz_J.weak (k1 c hR) rfl ⟨rfl, rfl, trivial⟩
  · exact zz_J.weak (k2 c hR) rfl ⟨rfl, rfl, rfl, rfl, rfl, rfl, trivial⟩
theorem cb_126_281 {X : Nat → Option zz_C} {h : zz_H} {t : cS} {s : mS} {d : Nat} {Q : zz_O → zz_H → Prop} {x1 : Int32} {x2 : Int32} {x3 : Int32} {x6 : Int32} {x7 : Int32} (hR : kR h t s) (k1 : ¬ x1 = 3 → (∀ {h : zz_H}, kR h t s → zz_J zp_P zt_tf zt_fd X d zm_126 309 [(0, .ref 42), (1, .int x1), (2, .int x2), (3, .int x3), (6, .int x6), (7, .int x7)] [.int ((x6 + x1) + x7), .ref (kD t 43)] h Q)) (k2 : ¬ ¬ x1 = 3 → (∀ {h : zz_H}, kR h t s → zz_J zp_P zt_tf zt_fd X d zm_126 297 [(0, .ref 42), (1, .int x1), (2, .int x2), (3, .int x3), (6, .int x6), (7, .int x7)] [.int ((x6 + x1) + x7), .ref (kD t 43)] h Q)) : zz_J zp_P zt_tf zt_fd X d zm_126 281 [(0, .ref 42), (1, .int x1), (2, .int x2), (3, .int x3), (6, .int x6), (7, .int x7)] [] h Q := by
  refine zz_J.n 282 rfl rfl rfl ?_
  refine zz_J.g 285 rfl (hR.gv (v := .ref (kD t 43)) ko_42 (by decide) rfl) rfl ?_
  refine zz_J.n 287 rfl rfl rfl ?_
  refine zz_J.n 288 rfl rfl rfl ?_
  refine zz_J.n 289 rfl rfl rfl ?_
  refine zz_J.n 291 rfl rfl rfl ?_
  refine zz_J.n 292 rfl rfl rfl ?_
  refine zz_J.n 293 rfl rfl rfl ?_
  refine zz_J.c 294 (.int 3) rfl rfl rfl rfl ?_
  refine zz_J.b2 309 297 (A := ¬ x1 = 3) rfl (zz_cond_ne _ _) (by decide) rfl rfl (fun c => ?_) (fun c => ?_)
  · exact zz_J.weak (k1 c hR) rfl ⟨rfl, rfl, rfl, rfl, rfl, rfl, trivial⟩
  · exact zz_J.weak (k2 c hR) rfl ⟨rfl, rfl, rfl, rfl, rfl, rfl, trivial⟩
theorem cb_126_297 {X : Nat → Option zz_C} {h : zz_H} {t : cS} {s : mS} {d : Nat} {Q : zz_O → zz_H → Prop} {x1 : Int32} {x2 : Int32} {x3 : Int32} {x6 : Int32} {x7 : Int32} {y0 : Nat} {y1 : Int32} (hR : kR h t s) (e0 : ¬ ((x2 + x7) < 0 ∨ (kB t 44).1 ≤ (Int32.toNatClampNeg (x2 + x7)))) (k : ∀ {h : zz_H}, kR h t s → zz_J zp_P zt_tf zt_fd X d zm_126 320 [(0, .ref 42), (1, .int x1), (2, .int x2), (3, .int x3), (6, .int x6), (7, .int x7)] [.long ((kB t 44).2 (Int32.toNatClampNeg (x2 + x7))), .int y1, .ref y0] h Q) : zz_J zp_P zt_tf zt_fd X d zm_126 297 [(0, .ref 42), (1, .int x1), (2, .int x2), (3, .int x3), (6, .int x6), (7, .int x7)] [.int y1, .ref y0] h Q := by
  refine zz_J.n 298 rfl rfl rfl ?_
  refine zz_J.g 301 rfl (hR.gv (v := .ref (kD t 44)) ko_42 (by decide) rfl) rfl ?_
  refine zz_J.n 302 rfl rfl rfl ?_
  refine zz_J.n 304 rfl rfl rfl ?_
  refine zz_J.n 305 rfl rfl rfl ?_
  refine zz_J.al 306 rfl (hR.al (w := ((kB t 44).2 (Int32.toNatClampNeg (x2 + x7)))) ka_44 rfl e0 rfl) rfl ?_
  refine zz_J.n 320 rfl rfl rfl ?_
  exact zz_J.weak (k hR) rfl ⟨rfl, rfl, rfl, rfl, rfl, rfl, trivial⟩
theorem cb_126_309 {X : Nat → Option zz_C} {h : zz_H} {t : cS} {s : mS} {d : Nat} {Q : zz_O → zz_H → Prop} {x1 : Int32} {x2 : Int32} {x3 : Int32} {x6 : Int32} {x7 : Int32} {y0 : Nat} {y1 : Int32} (hR : kR h t s) (e0 : ¬ ((x2 + x7) < 0 ∨ (kB t 44).1 ≤ (Int32.toNatClampNeg (x2 + x7)))) (k : ∀ {h : zz_H}, kR h t s → zz_J zp_P zt_tf zt_fd X d zm_126 320 [(0, .ref 42), (1, .int x1), (2, .int x2), (3, .int x3), (6, .int x6), (7, .int x7)] [.long (Int32.toInt64 (Int64.toInt32 ((kB t 44).2 (Int32.toNatClampNeg (x2 + x7))))), .int y1, .ref y0] h Q) : zz_J zp_P zt_tf zt_fd X d zm_126 309 [(0, .ref 42), (1, .int x1), (2, .int x2), (3, .int x3), (6, .int x6), (7, .int x7)] [.int y1, .ref y0] h Q := by
  refine zz_J.n 310 rfl rfl rfl ?_
  refine zz_J.g 313 rfl (hR.gv (v := .ref (kD t 44)) ko_42 (by decide) rfl) rfl ?_
  refine zz_J.n 314 rfl rfl rfl ?_
  refine zz_J.n 316 rfl rfl rfl ?_
  refine zz_J.n 317 rfl rfl rfl ?_
  refine zz_J.al 318 rfl (hR.al (w := ((kB t 44).2 (Int32.toNatClampNeg (x2 + x7)))) ka_44 rfl e0 rfl) rfl ?_
  refine zz_J.n 319 rfl rfl rfl ?_
  refine zz_J.n 320 rfl rfl rfl ?_
  exact zz_J.weak (k hR) rfl ⟨rfl, rfl, rfl, rfl, rfl, rfl, trivial⟩
theorem cb_126_320 {X : Nat → Option zz_C} {h : zz_H} {t : cS} {s : mS} {d : Nat} {Q : zz_O → zz_H → Prop} {x1 : Int32} {x2 : Int32} {x3 : Int32} {x6 : Int32} {x7 : Int32} {y0 : Nat} {y1 : Int32} {y2 : Int64} (hR : kR h t s) (e0 : kD t 43 = y0) (e1 : ¬ (y1 < 0 ∨ (kB t 43).1 ≤ (Int32.toNatClampNeg y1))) (k : ∀ {h : zz_H}, kR h (jB t 43 (vp_updL (kB t 43).2 (Int32.toNatClampNeg y1) y2)) s → zz_J zp_P zt_tf zt_fd X d zm_126 275 [(0, .ref 42), (1, .int x1), (2, .int x2), (3, .int x3), (6, .int x6), (7, .int (x7 + 1))] [] h Q) : zz_J zp_P zt_tf zt_fd X d zm_126 320 [(0, .ref 42), (1, .int x1), (2, .int x2), (3, .int x3), (6, .int x6), (7, .int x7)] [.long y2, .int y1, .ref y0] h Q := by
  obtain ⟨h1, eq1, hR⟩ := hR.sl (x := y2) ka_43 e0 e1
  refine zz_J.sl 321 rfl eq1 rfl ?_
  clear eq1
  refine zz_J.n 324 rfl rfl rfl ?_
  refine zz_J.n 275 rfl rfl rfl ?_
  exact zz_J.weak (k hR) rfl ⟨rfl, rfl, rfl, rfl, rfl, rfl, trivial⟩
theorem cb_126_327 {X : Nat → Option zz_C} {h : zz_H} {t : cS} {s : mS} {d : Nat} {Q : zz_O → zz_H → Prop} {x1 : Int32} {x6 : Int32} (hR : kR h t s) (k : ∀ {h : zz_H}, kR h t s → zz_J zp_P zt_tf zt_fd X d zm_253 0 [(0, .int x1), (1, .int x6)] [] h (zz_after 1000 Q (fun v h' => zz_J zp_P zt_tf zt_fd X (d + 1) zm_126 333 [] (v.toList ++ []) h' Q))) : zz_J zp_P zt_tf zt_fd X (d + 1) zm_126 327 [(1, .int x1), (6, .int x6)] [] h Q := by
  refine zz_J.n 328 rfl rfl rfl ?_
  refine zz_J.n 330 rfl rfl rfl ?_
  refine zz_J.cl (M' := zm_253) 333 rfl rfl (by decide) rfl rfl ⟨rfl, Nat.le_of_ble_eq_true rfl⟩ rfl ?_
  refine zz_J.mono (k hR) ?_
  intro o h' hE
  cases o with
  | inl v => exact zz_J.weak hE rfl trivial
  | inr q => exact hE
theorem cb_126_333 {X : Nat → Option zz_C} {h : zz_H} {t : cS} {s : mS} {d : Nat} {Q : zz_O → zz_H → Prop} {y0 : Int64} (hR : kR h t s) (k : ∀ {h : zz_H}, kR h t s → Q (.inl (some (.long y0))) h) : zz_J zp_P zt_tf zt_fd X d zm_126 333 [] [.long y0] h Q := by
  refine zz_J.ret rfl rfl rfl ?_
  exact k hR
def cf_126_19 (N : Nat) (X : Nat → Option zz_C) (y0 : Int64) (t : cS) : kO := some (t, .inl (some (.long y0)))
theorem cr_126_19 {X : Nat → Option zz_C} {s : mS} {N : Nat} {d : Nat} (hd : 9 ≤ d) {Q : zz_O → zz_H → Prop} {y0 : Int64} {h : zz_H} {t t' : cS} {o : kY} (hR : kR h t s) (hf : cf_126_19 N X y0 t = some (t', o)) (k : (∀ h', kR h' t' s → kE o Q h')) : zz_J zp_P zt_tf zt_fd X d zm_126 19 [] [.long y0] h Q := by
  unfold cf_126_19 at hf
  cases hf
  exact cb_126_19 hR  (fun {h} hR => k h hR)
def cf_126_15 (N : Nat) (X : Nat → Option zz_C)  (t : cS) : kO := ko_call 1000 (cf_254 N X 2 t) (fun g1 v1 => co_l v1 (fun y => cf_126_19 N X y g1))
theorem cr_126_15 {X : Nat → Option zz_C} {s : mS} {N : Nat} {d : Nat} (hd : 9 ≤ d) {Q : zz_O → zz_H → Prop}  {h : zz_H} {t t' : cS} {o : kY} (hR : kR h t s) (hf : cf_126_15 N X  t = some (t', o)) (k : (∀ h', kR h' t' s → kE o Q h')) : zz_J zp_P zt_tf zt_fd X d zm_126 15 [] [] h Q := by
  unfold cf_126_15 at hf
  obtain ⟨d', rfl⟩ : ∃ d', d = d' + 1 := ⟨d - 1, by omega⟩
  refine cb_126_15 hR  (fun {h} hR => ?_)
  rcases ko_call_ok hf with ⟨g1, v1, er, hf⟩ | ⟨g1, er, hq⟩
  · obtain ⟨y, hv, hf2⟩ := co_l_ok hf
    clear hf
    have hf := hf2
    clear hf2
    subst hv
    refine cr_254 (by omega) hR er (fun h hR => ?_)
    exact cr_126_19 hd hR hf k
  · refine cr_254 (by omega) hR er (fun h hR => ?_)
    exact ko_thrown hq hR k
def cf_126_162 (N : Nat) (X : Nat → Option zz_C) (y0 : Int64) (t : cS) : kO := some (t, .inl (some (.long y0)))
theorem cr_126_162 {X : Nat → Option zz_C} {s : mS} {N : Nat} {d : Nat} (hd : 9 ≤ d) {Q : zz_O → zz_H → Prop} {y0 : Int64} {h : zz_H} {t t' : cS} {o : kY} (hR : kR h t s) (hf : cf_126_162 N X y0 t = some (t', o)) (k : (∀ h', kR h' t' s → kE o Q h')) : zz_J zp_P zt_tf zt_fd X d zm_126 162 [] [.long y0] h Q := by
  unfold cf_126_162 at hf
  cases hf
  exact cb_126_162 hR  (fun {h} hR => k h hR)
def cf_126_158 (N : Nat) (X : Nat → Option zz_C)  (t : cS) : kO := ko_call 1000 (cf_254 N X 2 t) (fun g1 v1 => co_l v1 (fun y => cf_126_162 N X y g1))
theorem cr_126_158 {X : Nat → Option zz_C} {s : mS} {N : Nat} {d : Nat} (hd : 9 ≤ d) {Q : zz_O → zz_H → Prop}  {h : zz_H} {t t' : cS} {o : kY} (hR : kR h t s) (hf : cf_126_158 N X  t = some (t', o)) (k : (∀ h', kR h' t' s → kE o Q h')) : zz_J zp_P zt_tf zt_fd X d zm_126 158 [] [] h Q := by
  unfold cf_126_158 at hf
  obtain ⟨d', rfl⟩ : ∃ d', d = d' + 1 := ⟨d - 1, by omega⟩
  refine cb_126_158 hR  (fun {h} hR => ?_)
  rcases ko_call_ok hf with ⟨g1, v1, er, hf⟩ | ⟨g1, er, hq⟩
  · obtain ⟨y, hv, hf2⟩ := co_l_ok hf
    clear hf
    have hf := hf2
    clear hf2
    subst hv
    refine cr_254 (by omega) hR er (fun h hR => ?_)
    exact cr_126_162 hd hR hf k
  · refine cr_254 (by omega) hR er (fun h hR => ?_)
    exact ko_thrown hq hR k
def cf_126_333 (N : Nat) (X : Nat → Option zz_C) (y0 : Int64) (t : cS) : kO := some (t, .inl (some (.long y0)))
theorem cr_126_333 {X : Nat → Option zz_C} {s : mS} {N : Nat} {d : Nat} (hd : 9 ≤ d) {Q : zz_O → zz_H → Prop} {y0 : Int64} {h : zz_H} {t t' : cS} {o : kY} (hR : kR h t s) (hf : cf_126_333 N X y0 t = some (t', o)) (k : (∀ h', kR h' t' s → kE o Q h')) : zz_J zp_P zt_tf zt_fd X d zm_126 333 [] [.long y0] h Q := by
  unfold cf_126_333 at hf
  cases hf
  exact cb_126_333 hR  (fun {h} hR => k h hR)
def cf_126_327 (N : Nat) (X : Nat → Option zz_C) (x1 : Int32) (x6 : Int32) (t : cS) : kO := ko_call 1000 (cf_253 N X x1 x6 t) (fun g1 v1 => co_l v1 (fun y => cf_126_333 N X y g1))
theorem cr_126_327 {X : Nat → Option zz_C} {s : mS} {N : Nat} {d : Nat} (hd : 9 ≤ d) {Q : zz_O → zz_H → Prop} {x1 : Int32} {x6 : Int32} {h : zz_H} {t t' : cS} {o : kY} (hR : kR h t s) (hf : cf_126_327 N X x1 x6 t = some (t', o)) (k : (∀ h', kR h' t' s → kE o Q h')) : zz_J zp_P zt_tf zt_fd X d zm_126 327 [(1, .int x1), (6, .int x6)] [] h Q := by
  unfold cf_126_327 at hf
  obtain ⟨d', rfl⟩ : ∃ d', d = d' + 1 := ⟨d - 1, by omega⟩
  refine cb_126_327 hR  (fun {h} hR => ?_)
  rcases ko_call_ok hf with ⟨g1, v1, er, hf⟩ | ⟨g1, er, hq⟩
  · obtain ⟨y, hv, hf2⟩ := co_l_ok hf
    clear hf
    have hf := hf2
    clear hf2
    subst hv
    refine cr_253 (by omega) hR er (fun h hR => ?_)
    exact cr_126_333 hd hR hf k
  · refine cr_253 (by omega) hR er (fun h hR => ?_)
    exact ko_thrown hq hR k
def cf_126_320 (N : Nat) (X : Nat → Option zz_C) (rc : Nat → Int32 → Int32 → Int32 → Int32 → Int32 → cS → kO) (x1 : Int32) (x2 : Int32) (x3 : Int32) (x6 : Int32) (x7 : Int32) (y0 : Nat) (y1 : Int32) (y2 : Int64) (t : cS) : kO := if kD t 43 = y0 then (if ¬ (y1 < 0 ∨ (kB t 43).1 ≤ (Int32.toNatClampNeg y1)) then (rc 0 x1 x2 x3 x6 (x7 + 1) (jB t 43 (vp_updL (kB t 43).2 (Int32.toNatClampNeg y1) y2))) else none) else none
theorem cr_126_320 {X : Nat → Option zz_C} {s : mS} {N : Nat} {d : Nat} (hd : 9 ≤ d) {rc : Nat → Int32 → Int32 → Int32 → Int32 → Int32 → cS → kO} (hrc0 : ∀ {Q : zz_O → zz_H → Prop} {x1 : Int32} {x2 : Int32} {x3 : Int32} {x6 : Int32} {x7 : Int32} {h : zz_H} {t t' : cS} {o : kY}, kR h t s → rc 0 x1 x2 x3 x6 x7 t = some (t', o) → (∀ h', kR h' t' s → kE o Q h') → zz_J zp_P zt_tf zt_fd X d zm_126 275 [(0, .ref 42), (1, .int x1), (2, .int x2), (3, .int x3), (6, .int x6), (7, .int x7)] [] h Q) {Q : zz_O → zz_H → Prop} {x1 : Int32} {x2 : Int32} {x3 : Int32} {x6 : Int32} {x7 : Int32} {y0 : Nat} {y1 : Int32} {y2 : Int64} {h : zz_H} {t t' : cS} {o : kY} (hR : kR h t s) (hf : cf_126_320 N X rc x1 x2 x3 x6 x7 y0 y1 y2 t = some (t', o)) (k : (∀ h', kR h' t' s → kE o Q h')) : zz_J zp_P zt_tf zt_fd X d zm_126 320 [(0, .ref 42), (1, .int x1), (2, .int x2), (3, .int x3), (6, .int x6), (7, .int x7)] [.long y2, .int y1, .ref y0] h Q := by
  unfold cf_126_320 at hf
  obtain ⟨e0, hf⟩ := ko_if hf
  obtain ⟨e1, hf⟩ := ko_if hf
  exact cb_126_320 hR e0 e1 (fun hR => hrc0 hR hf k)
def cf_126_297 (N : Nat) (X : Nat → Option zz_C) (rc : Nat → Int32 → Int32 → Int32 → Int32 → Int32 → cS → kO) (x1 : Int32) (x2 : Int32) (x3 : Int32) (x6 : Int32) (x7 : Int32) (y0 : Nat) (y1 : Int32) (t : cS) : kO := if ¬ ((x2 + x7) < 0 ∨ (kB t 44).1 ≤ (Int32.toNatClampNeg (x2 + x7))) then (cf_126_320 N X rc x1 x2 x3 x6 x7 y0 y1 ((kB t 44).2 (Int32.toNatClampNeg (x2 + x7))) t) else none
theorem cr_126_297 {X : Nat → Option zz_C} {s : mS} {N : Nat} {d : Nat} (hd : 9 ≤ d) {rc : Nat → Int32 → Int32 → Int32 → Int32 → Int32 → cS → kO} (hrc0 : ∀ {Q : zz_O → zz_H → Prop} {x1 : Int32} {x2 : Int32} {x3 : Int32} {x6 : Int32} {x7 : Int32} {h : zz_H} {t t' : cS} {o : kY}, kR h t s → rc 0 x1 x2 x3 x6 x7 t = some (t', o) → (∀ h', kR h' t' s → kE o Q h') → zz_J zp_P zt_tf zt_fd X d zm_126 275 [(0, .ref 42), (1, .int x1), (2, .int x2), (3, .int x3), (6, .int x6), (7, .int x7)] [] h Q) {Q : zz_O → zz_H → Prop} {x1 : Int32} {x2 : Int32} {x3 : Int32} {x6 : Int32} {x7 : Int32} {y0 : Nat} {y1 : Int32} {h : zz_H} {t t' : cS} {o : kY} (hR : kR h t s) (hf : cf_126_297 N X rc x1 x2 x3 x6 x7 y0 y1 t = some (t', o)) (k : (∀ h', kR h' t' s → kE o Q h')) : zz_J zp_P zt_tf zt_fd X d zm_126 297 [(0, .ref 42), (1, .int x1), (2, .int x2), (3, .int x3), (6, .int x6), (7, .int x7)] [.int y1, .ref y0] h Q := by
  unfold cf_126_297 at hf
  obtain ⟨e0, hf⟩ := ko_if hf
  exact cb_126_297 hR e0 (fun hR => cr_126_320 hd hrc0 hR hf k)
def cf_126_309 (N : Nat) (X : Nat → Option zz_C) (rc : Nat → Int32 → Int32 → Int32 → Int32 → Int32 → cS → kO) (x1 : Int32) (x2 : Int32) (x3 : Int32) (x6 : Int32) (x7 : Int32) (y0 : Nat) (y1 : Int32) (t : cS) : kO := if ¬ ((x2 + x7) < 0 ∨ (kB t 44).1 ≤ (Int32.toNatClampNeg (x2 + x7))) then (cf_126_320 N X rc x1 x2 x3 x6 x7 y0 y1 (Int32.toInt64 (Int64.toInt32 ((kB t 44).2 (Int32.toNatClampNeg (x2 + x7))))) t) else none
theorem cr_126_309 {X : Nat → Option zz_C} {s : mS} {N : Nat} {d : Nat} (hd : 9 ≤ d) {rc : Nat → Int32 → Int32 → Int32 → Int32 → Int32 → cS → kO} (hrc0 : ∀ {Q : zz_O → zz_H → Prop} {x1 : Int32} {x2 : Int32} {x3 : Int32} {x6 : Int32} {x7 : Int32} {h : zz_H} {t t' : cS} {o : kY}, kR h t s → rc 0 x1 x2 x3 x6 x7 t = some (t', o) → (∀ h', kR h' t' s → kE o Q h') → zz_J zp_P zt_tf zt_fd X d zm_126 275 [(0, .ref 42), (1, .int x1), (2, .int x2), (3, .int x3), (6, .int x6), (7, .int x7)] [] h Q) {Q : zz_O → zz_H → Prop} {x1 : Int32} {x2 : Int32} {x3 : Int32} {x6 : Int32} {x7 : Int32} {y0 : Nat} {y1 : Int32} {h : zz_H} {t t' : cS} {o : kY} (hR : kR h t s) (hf : cf_126_309 N X rc x1 x2 x3 x6 x7 y0 y1 t = some (t', o)) (k : (∀ h', kR h' t' s → kE o Q h')) : zz_J zp_P zt_tf zt_fd X d zm_126 309 [(0, .ref 42), (1, .int x1), (2, .int x2), (3, .int x3), (6, .int x6), (7, .int x7)] [.int y1, .ref y0] h Q := by
  unfold cf_126_309 at hf
  obtain ⟨e0, hf⟩ := ko_if hf
  exact cb_126_309 hR e0 (fun hR => cr_126_320 hd hrc0 hR hf k)
def cf_126_281 (N : Nat) (X : Nat → Option zz_C) (rc : Nat → Int32 → Int32 → Int32 → Int32 → Int32 → cS → kO) (x1 : Int32) (x2 : Int32) (x3 : Int32) (x6 : Int32) (x7 : Int32) (t : cS) : kO := if ¬ x1 = 3 then cf_126_309 N X rc x1 x2 x3 x6 x7 (kD t 43) ((x6 + x1) + x7) t else cf_126_297 N X rc x1 x2 x3 x6 x7 (kD t 43) ((x6 + x1) + x7) t
theorem cr_126_281 {X : Nat → Option zz_C} {s : mS} {N : Nat} {d : Nat} (hd : 9 ≤ d) {rc : Nat → Int32 → Int32 → Int32 → Int32 → Int32 → cS → kO} (hrc0 : ∀ {Q : zz_O → zz_H → Prop} {x1 : Int32} {x2 : Int32} {x3 : Int32} {x6 : Int32} {x7 : Int32} {h : zz_H} {t t' : cS} {o : kY}, kR h t s → rc 0 x1 x2 x3 x6 x7 t = some (t', o) → (∀ h', kR h' t' s → kE o Q h') → zz_J zp_P zt_tf zt_fd X d zm_126 275 [(0, .ref 42), (1, .int x1), (2, .int x2), (3, .int x3), (6, .int x6), (7, .int x7)] [] h Q) {Q : zz_O → zz_H → Prop} {x1 : Int32} {x2 : Int32} {x3 : Int32} {x6 : Int32} {x7 : Int32} {h : zz_H} {t t' : cS} {o : kY} (hR : kR h t s) (hf : cf_126_281 N X rc x1 x2 x3 x6 x7 t = some (t', o)) (k : (∀ h', kR h' t' s → kE o Q h')) : zz_J zp_P zt_tf zt_fd X d zm_126 281 [(0, .ref 42), (1, .int x1), (2, .int x2), (3, .int x3), (6, .int x6), (7, .int x7)] [] h Q := by
  unfold cf_126_281 at hf
  refine cb_126_281 hR  (fun c {h} hR => ?_) (fun c {h} hR => ?_)
  · rw [if_pos c] at hf
    exact cr_126_309 hd hrc0 hR hf k
  · rw [if_neg c] at hf
    exact cr_126_297 hd hrc0 hR hf k
def cf_126_275 (N : Nat) (X : Nat → Option zz_C) (rc : Nat → Int32 → Int32 → Int32 → Int32 → Int32 → cS → kO) (x1 : Int32) (x2 : Int32) (x3 : Int32) (x6 : Int32) (x7 : Int32) (t : cS) : kO := if x3 ≤ x7 then cf_126_327 N X x1 x6 t else cf_126_281 N X rc x1 x2 x3 x6 x7 t
theorem cr_126_275 {X : Nat → Option zz_C} {s : mS} {N : Nat} {d : Nat} (hd : 9 ≤ d) {rc : Nat → Int32 → Int32 → Int32 → Int32 → Int32 → cS → kO} (hrc0 : ∀ {Q : zz_O → zz_H → Prop} {x1 : Int32} {x2 : Int32} {x3 : Int32} {x6 : Int32} {x7 : Int32} {h : zz_H} {t t' : cS} {o : kY}, kR h t s → rc 0 x1 x2 x3 x6 x7 t = some (t', o) → (∀ h', kR h' t' s → kE o Q h') → zz_J zp_P zt_tf zt_fd X d zm_126 275 [(0, .ref 42), (1, .int x1), (2, .int x2), (3, .int x3), (6, .int x6), (7, .int x7)] [] h Q) {Q : zz_O → zz_H → Prop} {x1 : Int32} {x2 : Int32} {x3 : Int32} {x6 : Int32} {x7 : Int32} {h : zz_H} {t t' : cS} {o : kY} (hR : kR h t s) (hf : cf_126_275 N X rc x1 x2 x3 x6 x7 t = some (t', o)) (k : (∀ h', kR h' t' s → kE o Q h')) : zz_J zp_P zt_tf zt_fd X d zm_126 275 [(0, .ref 42), (1, .int x1), (2, .int x2), (3, .int x3), (6, .int x6), (7, .int x7)] [] h Q := by
  unfold cf_126_275 at hf
  refine cb_126_275 hR  (fun c {h} hR => ?_) (fun c {h} hR => ?_)
  · rw [if_pos c] at hf
    exact cr_126_327 hd hR hf k
  · rw [if_neg c] at hf
    exact cr_126_281 hd hrc0 hR hf k
def cf_126_L6 (N : Nat) (X : Nat → Option zz_C) : Nat → Nat → Int32 → Int32 → Int32 → Int32 → Int32 → cS → kO
  | 0, _, _, _, _, _, _, _ => none
  | n + 1, l, x1, x2, x3, x6, x7, t => if l = 0 then cf_126_275 N X (cf_126_L6 N X n) x1 x2 x3 x6 x7 t else none
theorem cr_126_L6 {X : Nat → Option zz_C} {s : mS} {N : Nat} {d : Nat} (hd : 9 ≤ d) : ∀ n : Nat, (∀ {Q : zz_O → zz_H → Prop} {x1 : Int32} {x2 : Int32} {x3 : Int32} {x6 : Int32} {x7 : Int32} {h : zz_H} {t t' : cS} {o : kY}, kR h t s → cf_126_L6 N X n 0 x1 x2 x3 x6 x7 t = some (t', o) → (∀ h', kR h' t' s → kE o Q h') → zz_J zp_P zt_tf zt_fd X d zm_126 275 [(0, .ref 42), (1, .int x1), (2, .int x2), (3, .int x3), (6, .int x6), (7, .int x7)] [] h Q) := by
  intro n
  induction n with
  | zero => exact (fun _ hf _ => by cases hf)
  | succ n ih =>
    have h0 := @ih
    intro Q _ _ _ _ _ h t t' o hR hf k
    unfold cf_126_L6 at hf
    rw [if_pos rfl] at hf
    exact cr_126_275 hd h0 hR hf k
def cf_126_272 (N : Nat) (X : Nat → Option zz_C) (x1 : Int32) (x2 : Int32) (x3 : Int32) (x6 : Int32) (t : cS) : kO := cf_126_L6 N X N 0 x1 x2 x3 x6 0 t
theorem cr_126_272 {X : Nat → Option zz_C} {s : mS} {N : Nat} {d : Nat} (hd : 9 ≤ d) {Q : zz_O → zz_H → Prop} {x1 : Int32} {x2 : Int32} {x3 : Int32} {x6 : Int32} {h : zz_H} {t t' : cS} {o : kY} (hR : kR h t s) (hf : cf_126_272 N X x1 x2 x3 x6 t = some (t', o)) (k : (∀ h', kR h' t' s → kE o Q h')) : zz_J zp_P zt_tf zt_fd X d zm_126 272 [(0, .ref 42), (1, .int x1), (2, .int x2), (3, .int x3), (6, .int x6)] [] h Q := by
  unfold cf_126_272 at hf
  exact cb_126_272 hR  (fun hR => cr_126_L6 hd N hR hf k)
def cf_126_244 (N : Nat) (X : Nat → Option zz_C) (x1 : Int32) (x2 : Int32) (x3 : Int32) (x4 : Int32) (x5 : Int32) (x6 : Int32) (t : cS) : kO := if ¬ ((x6 + 1) < 0 ∨ (kB t 43).1 ≤ (Int32.toNatClampNeg (x6 + 1))) then (if ¬ ((x6 + 2) < 0 ∨ (kB (jB t 43 (vp_updL (kB t 43).2 (Int32.toNatClampNeg (x6 + 1)) (Int32.toInt64 (x4 + 1)))) 43).1 ≤ (Int32.toNatClampNeg (x6 + 2))) then (cf_126_272 N X x1 x2 x3 x6 (jB (jB t 43 (vp_updL (kB t 43).2 (Int32.toNatClampNeg (x6 + 1)) (Int32.toInt64 (x4 + 1)))) 43 (vp_updL (kB (jB t 43 (vp_updL (kB t 43).2 (Int32.toNatClampNeg (x6 + 1)) (Int32.toInt64 (x4 + 1)))) 43).2 (Int32.toNatClampNeg (x6 + 2)) (Int32.toInt64 (x5 + 1))))) else none) else none
theorem cr_126_244 {X : Nat → Option zz_C} {s : mS} {N : Nat} {d : Nat} (hd : 9 ≤ d) {Q : zz_O → zz_H → Prop} {x1 : Int32} {x2 : Int32} {x3 : Int32} {x4 : Int32} {x5 : Int32} {x6 : Int32} {h : zz_H} {t t' : cS} {o : kY} (hR : kR h t s) (hf : cf_126_244 N X x1 x2 x3 x4 x5 x6 t = some (t', o)) (k : (∀ h', kR h' t' s → kE o Q h')) : zz_J zp_P zt_tf zt_fd X d zm_126 244 [(0, .ref 42), (1, .int x1), (2, .int x2), (3, .int x3), (4, .int x4), (5, .int x5), (6, .int x6)] [] h Q := by
  unfold cf_126_244 at hf
  obtain ⟨e0, hf⟩ := ko_if hf
  obtain ⟨e1, hf⟩ := ko_if hf
  exact cb_126_244 hR e0 e1 (fun hR => cr_126_272 hd hR hf k)
def cf_126_239 (N : Nat) (X : Nat → Option zz_C) (x1 : Int32) (x2 : Int32) (x3 : Int32) (x4 : Int32) (x5 : Int32) (x6 : Int32) (t : cS) : kO := if ¬ x1 = 3 then cf_126_272 N X x1 x2 x3 x6 t else cf_126_244 N X x1 x2 x3 x4 x5 x6 t
theorem cr_126_239 {X : Nat → Option zz_C} {s : mS} {N : Nat} {d : Nat} (hd : 9 ≤ d) {Q : zz_O → zz_H → Prop} {x1 : Int32} {x2 : Int32} {x3 : Int32} {x4 : Int32} {x5 : Int32} {x6 : Int32} {h : zz_H} {t t' : cS} {o : kY} (hR : kR h t s) (hf : cf_126_239 N X x1 x2 x3 x4 x5 x6 t = some (t', o)) (k : (∀ h', kR h' t' s → kE o Q h')) : zz_J zp_P zt_tf zt_fd X d zm_126 239 [(0, .ref 42), (1, .int x1), (2, .int x2), (3, .int x3), (4, .int x4), (5, .int x5), (6, .int x6)] [] h Q := by
  unfold cf_126_239 at hf
  refine cb_126_239 hR  (fun c {h} hR => ?_) (fun c {h} hR => ?_)
  · rw [if_pos c] at hf
    exact cr_126_272 hd hR hf k
  · rw [if_neg c] at hf
    exact cr_126_244 hd hR hf k
def cf_126_224 (N : Nat) (X : Nat → Option zz_C) (x1 : Int32) (x2 : Int32) (x3 : Int32) (x4 : Int32) (x6 : Int32) (t : cS) : kO := if ¬ ((x6 + 1) < 0 ∨ (kB t 43).1 ≤ (Int32.toNatClampNeg (x6 + 1))) then (cf_126_272 N X x1 x2 x3 x6 (jB t 43 (vp_updL (kB t 43).2 (Int32.toNatClampNeg (x6 + 1)) (Int32.toInt64 x4)))) else none
theorem cr_126_224 {X : Nat → Option zz_C} {s : mS} {N : Nat} {d : Nat} (hd : 9 ≤ d) {Q : zz_O → zz_H → Prop} {x1 : Int32} {x2 : Int32} {x3 : Int32} {x4 : Int32} {x6 : Int32} {h : zz_H} {t t' : cS} {o : kY} (hR : kR h t s) (hf : cf_126_224 N X x1 x2 x3 x4 x6 t = some (t', o)) (k : (∀ h', kR h' t' s → kE o Q h')) : zz_J zp_P zt_tf zt_fd X d zm_126 224 [(0, .ref 42), (1, .int x1), (2, .int x2), (3, .int x3), (4, .int x4), (6, .int x6)] [] h Q := by
  unfold cf_126_224 at hf
  obtain ⟨e0, hf⟩ := ko_if hf
  exact cb_126_224 hR e0 (fun hR => cr_126_272 hd hR hf k)
def cf_126_210 (N : Nat) (X : Nat → Option zz_C) (x1 : Int32) (x2 : Int32) (x3 : Int32) (x4 : Int32) (x5 : Int32) (x6 : Int32) (t : cS) : kO := if ¬ (x6 < 0 ∨ (kB t 43).1 ≤ (Int32.toNatClampNeg x6)) then (if ¬ x1 = 2 then cf_126_239 N X x1 x2 x3 x4 x5 x6 (jB t 43 (vp_updL (kB t 43).2 (Int32.toNatClampNeg x6) (Int32.toInt64 x3))) else cf_126_224 N X x1 x2 x3 x4 x6 (jB t 43 (vp_updL (kB t 43).2 (Int32.toNatClampNeg x6) (Int32.toInt64 x3)))) else none
theorem cr_126_210 {X : Nat → Option zz_C} {s : mS} {N : Nat} {d : Nat} (hd : 9 ≤ d) {Q : zz_O → zz_H → Prop} {x1 : Int32} {x2 : Int32} {x3 : Int32} {x4 : Int32} {x5 : Int32} {x6 : Int32} {h : zz_H} {t t' : cS} {o : kY} (hR : kR h t s) (hf : cf_126_210 N X x1 x2 x3 x4 x5 x6 t = some (t', o)) (k : (∀ h', kR h' t' s → kE o Q h')) : zz_J zp_P zt_tf zt_fd X d zm_126 210 [(0, .ref 42), (1, .int x1), (2, .int x2), (3, .int x3), (4, .int x4), (5, .int x5), (6, .int x6)] [] h Q := by
  unfold cf_126_210 at hf
  obtain ⟨e0, hf⟩ := ko_if hf
  refine cb_126_210 hR e0 (fun c {h} hR => ?_) (fun c {h} hR => ?_)
  · rw [if_pos c] at hf
    exact cr_126_239 hd hR hf k
  · rw [if_neg c] at hf
    exact cr_126_224 hd hR hf k
def cf_126_193 (N : Nat) (X : Nat → Option zz_C) (x1 : Int32) (x2 : Int32) (x3 : Int32) (x4 : Int32) (x5 : Int32) (x6 : Int32) (t : cS) : kO := if ¬ (2 * (kI t 42 1)) < 0 ∧ (Int32.toNatClampNeg (2 * (kI t 42 1))) ≤ 1000000 ∧ (kB t 43).1 ≤ 1000000 ∧ ¬ (2 * (kI t 42 1)) = Int32.ofNat (kB t 43).1 ∧ (kN t) + 1 < zz_out then (cf_126_210 N X x1 x2 x3 x4 x5 x6 (jMv (jNL t (Int32.toNatClampNeg (2 * (kI t 42 1))) (kcp 0 (kB t 43).2 (Nat.min (kB t 43).1 (Int32.toNatClampNeg (2 * (kI t 42 1)))))) 43)) else none
theorem cr_126_193 {X : Nat → Option zz_C} {s : mS} {N : Nat} {d : Nat} (hd : 9 ≤ d) {Q : zz_O → zz_H → Prop} {x1 : Int32} {x2 : Int32} {x3 : Int32} {x4 : Int32} {x5 : Int32} {x6 : Int32} {h : zz_H} {t t' : cS} {o : kY} (hR : kR h t s) (hf : cf_126_193 N X x1 x2 x3 x4 x5 x6 t = some (t', o)) (k : (∀ h', kR h' t' s → kE o Q h')) : zz_J zp_P zt_tf zt_fd X d zm_126 193 [(0, .ref 42), (1, .int x1), (2, .int x2), (3, .int x3), (4, .int x4), (5, .int x5), (6, .int x6)] [] h Q := by
  unfold cf_126_193 at hf
  obtain ⟨e0, hf⟩ := ko_if hf
  obtain ⟨d', rfl⟩ : ∃ d', d = d' + 9 := ⟨d - 9, by omega⟩
  exact cb_126_193 hR e0 (fun hR => cr_126_210 hd hR hf k)
def cf_126_163 (N : Nat) (X : Nat → Option zz_C) (x1 : Int32) (x2 : Int32) (x3 : Int32) (x4 : Int32) (x5 : Int32) (t : cS) : kO := if ((kI t 42 1) + (x1 + x3)) ≤ (Int32.ofNat (kB t 43).1) then cf_126_210 N X x1 x2 x3 x4 x5 (kI t 42 1) (jI t 42 1 ((kI t 42 1) + (x1 + x3))) else cf_126_193 N X x1 x2 x3 x4 x5 (kI t 42 1) (jI t 42 1 ((kI t 42 1) + (x1 + x3)))
theorem cr_126_163 {X : Nat → Option zz_C} {s : mS} {N : Nat} {d : Nat} (hd : 9 ≤ d) {Q : zz_O → zz_H → Prop} {x1 : Int32} {x2 : Int32} {x3 : Int32} {x4 : Int32} {x5 : Int32} {h : zz_H} {t t' : cS} {o : kY} (hR : kR h t s) (hf : cf_126_163 N X x1 x2 x3 x4 x5 t = some (t', o)) (k : (∀ h', kR h' t' s → kE o Q h')) : zz_J zp_P zt_tf zt_fd X d zm_126 163 [(0, .ref 42), (1, .int x1), (2, .int x2), (3, .int x3), (4, .int x4), (5, .int x5)] [] h Q := by
  unfold cf_126_163 at hf
  refine cb_126_163 hR  (fun c {h} hR => ?_) (fun c {h} hR => ?_)
  · rw [if_pos c] at hf
    exact cr_126_210 hd hR hf k
  · rw [if_neg c] at hf
    exact cr_126_193 hd hR hf k
def cf_126_150 (N : Nat) (X : Nat → Option zz_C) (x1 : Int32) (x2 : Int32) (x3 : Int32) (x4 : Int32) (x5 : Int32) (t : cS) : kO := if (x5 + 1) ≤ 4 then cf_126_163 N X x1 x2 x3 x4 x5 t else cf_126_158 N X  t
theorem cr_126_150 {X : Nat → Option zz_C} {s : mS} {N : Nat} {d : Nat} (hd : 9 ≤ d) {Q : zz_O → zz_H → Prop} {x1 : Int32} {x2 : Int32} {x3 : Int32} {x4 : Int32} {x5 : Int32} {h : zz_H} {t t' : cS} {o : kY} (hR : kR h t s) (hf : cf_126_150 N X x1 x2 x3 x4 x5 t = some (t', o)) (k : (∀ h', kR h' t' s → kE o Q h')) : zz_J zp_P zt_tf zt_fd X d zm_126 150 [(0, .ref 42), (1, .int x1), (2, .int x2), (3, .int x3), (4, .int x4), (5, .int x5)] [] h Q := by
  unfold cf_126_150 at hf
  refine cb_126_150 hR  (fun c {h} hR => ?_) (fun c {h} hR => ?_)
  · rw [if_pos c] at hf
    exact cr_126_163 hd hR hf k
  · rw [if_neg c] at hf
    exact cr_126_158 hd hR hf k
def cf_126_140 (N : Nat) (X : Nat → Option zz_C) (x1 : Int32) (x2 : Int32) (x3 : Int32) (x4 : Int32) (x5 : Int32) (t : cS) : kO := if 600 < (x4 + 1) then cf_126_158 N X  t else cf_126_150 N X x1 x2 x3 x4 x5 t
theorem cr_126_140 {X : Nat → Option zz_C} {s : mS} {N : Nat} {d : Nat} (hd : 9 ≤ d) {Q : zz_O → zz_H → Prop} {x1 : Int32} {x2 : Int32} {x3 : Int32} {x4 : Int32} {x5 : Int32} {h : zz_H} {t t' : cS} {o : kY} (hR : kR h t s) (hf : cf_126_140 N X x1 x2 x3 x4 x5 t = some (t', o)) (k : (∀ h', kR h' t' s → kE o Q h')) : zz_J zp_P zt_tf zt_fd X d zm_126 140 [(0, .ref 42), (1, .int x1), (2, .int x2), (3, .int x3), (4, .int x4), (5, .int x5)] [] h Q := by
  unfold cf_126_140 at hf
  refine cb_126_140 hR  (fun c {h} hR => ?_) (fun c {h} hR => ?_)
  · rw [if_pos c] at hf
    exact cr_126_158 hd hR hf k
  · rw [if_neg c] at hf
    exact cr_126_150 hd hR hf k
def cf_126_135 (N : Nat) (X : Nat → Option zz_C) (x1 : Int32) (x2 : Int32) (x3 : Int32) (x4 : Int32) (x5 : Int32) (t : cS) : kO := if ¬ x1 = 3 then cf_126_163 N X x1 x2 x3 x4 x5 t else cf_126_140 N X x1 x2 x3 x4 x5 t
theorem cr_126_135 {X : Nat → Option zz_C} {s : mS} {N : Nat} {d : Nat} (hd : 9 ≤ d) {Q : zz_O → zz_H → Prop} {x1 : Int32} {x2 : Int32} {x3 : Int32} {x4 : Int32} {x5 : Int32} {h : zz_H} {t t' : cS} {o : kY} (hR : kR h t s) (hf : cf_126_135 N X x1 x2 x3 x4 x5 t = some (t', o)) (k : (∀ h', kR h' t' s → kE o Q h')) : zz_J zp_P zt_tf zt_fd X d zm_126 135 [(0, .ref 42), (1, .int x1), (2, .int x2), (3, .int x3), (4, .int x4), (5, .int x5)] [] h Q := by
  unfold cf_126_135 at hf
  refine cb_126_135 hR  (fun c {h} hR => ?_) (fun c {h} hR => ?_)
  · rw [if_pos c] at hf
    exact cr_126_163 hd hR hf k
  · rw [if_neg c] at hf
    exact cr_126_140 hd hR hf k
def cf_126_127 (N : Nat) (X : Nat → Option zz_C) (x1 : Int32) (x2 : Int32) (x3 : Int32) (x4 : Int32) (x5 : Int32) (t : cS) : kO := if 200 < x4 then cf_126_158 N X  t else cf_126_135 N X x1 x2 x3 x4 x5 t
theorem cr_126_127 {X : Nat → Option zz_C} {s : mS} {N : Nat} {d : Nat} (hd : 9 ≤ d) {Q : zz_O → zz_H → Prop} {x1 : Int32} {x2 : Int32} {x3 : Int32} {x4 : Int32} {x5 : Int32} {h : zz_H} {t t' : cS} {o : kY} (hR : kR h t s) (hf : cf_126_127 N X x1 x2 x3 x4 x5 t = some (t', o)) (k : (∀ h', kR h' t' s → kE o Q h')) : zz_J zp_P zt_tf zt_fd X d zm_126 127 [(0, .ref 42), (1, .int x1), (2, .int x2), (3, .int x3), (4, .int x4), (5, .int x5)] [] h Q := by
  unfold cf_126_127 at hf
  refine cb_126_127 hR  (fun c {h} hR => ?_) (fun c {h} hR => ?_)
  · rw [if_pos c] at hf
    exact cr_126_158 hd hR hf k
  · rw [if_neg c] at hf
    exact cr_126_135 hd hR hf k
def cf_126_122 (N : Nat) (X : Nat → Option zz_C) (x1 : Int32) (x2 : Int32) (x3 : Int32) (x4 : Int32) (x5 : Int32) (t : cS) : kO := if ¬ x1 = 2 then cf_126_135 N X x1 x2 x3 x4 x5 t else cf_126_127 N X x1 x2 x3 x4 x5 t
theorem cr_126_122 {X : Nat → Option zz_C} {s : mS} {N : Nat} {d : Nat} (hd : 9 ≤ d) {Q : zz_O → zz_H → Prop} {x1 : Int32} {x2 : Int32} {x3 : Int32} {x4 : Int32} {x5 : Int32} {h : zz_H} {t t' : cS} {o : kY} (hR : kR h t s) (hf : cf_126_122 N X x1 x2 x3 x4 x5 t = some (t', o)) (k : (∀ h', kR h' t' s → kE o Q h')) : zz_J zp_P zt_tf zt_fd X d zm_126 122 [(0, .ref 42), (1, .int x1), (2, .int x2), (3, .int x3), (4, .int x4), (5, .int x5)] [] h Q := by
  unfold cf_126_122 at hf
  refine cb_126_122 hR  (fun c {h} hR => ?_) (fun c {h} hR => ?_)
  · rw [if_pos c] at hf
    exact cr_126_135 hd hR hf k
  · rw [if_neg c] at hf
    exact cr_126_127 hd hR hf k
def cf_126_119 (N : Nat) (X : Nat → Option zz_C) (x1 : Int32) (x2 : Int32) (x3 : Int32) (x4 : Int32) (x5 : Int32) (y0 : Int32) (y1 : Int32) (t : cS) : kO := if y1 < y0 then cf_126_158 N X  t else cf_126_122 N X x1 x2 x3 x4 x5 t
theorem cr_126_119 {X : Nat → Option zz_C} {s : mS} {N : Nat} {d : Nat} (hd : 9 ≤ d) {Q : zz_O → zz_H → Prop} {x1 : Int32} {x2 : Int32} {x3 : Int32} {x4 : Int32} {x5 : Int32} {y0 : Int32} {y1 : Int32} {h : zz_H} {t t' : cS} {o : kY} (hR : kR h t s) (hf : cf_126_119 N X x1 x2 x3 x4 x5 y0 y1 t = some (t', o)) (k : (∀ h', kR h' t' s → kE o Q h')) : zz_J zp_P zt_tf zt_fd X d zm_126 119 [(0, .ref 42), (1, .int x1), (2, .int x2), (3, .int x3), (4, .int x4), (5, .int x5)] [.int y1, .int y0] h Q := by
  unfold cf_126_119 at hf
  refine cb_126_119 hR  (fun c {h} hR => ?_) (fun c {h} hR => ?_)
  · rw [if_pos c] at hf
    exact cr_126_158 hd hR hf k
  · rw [if_neg c] at hf
    exact cr_126_122 hd hR hf k
def cf_126_117 (N : Nat) (X : Nat → Option zz_C) (x1 : Int32) (x2 : Int32) (x3 : Int32) (x4 : Int32) (x5 : Int32) (y0 : Int32) (t : cS) : kO := cf_126_119 N X x1 x2 x3 x4 x5 y0 20 t
theorem cr_126_117 {X : Nat → Option zz_C} {s : mS} {N : Nat} {d : Nat} (hd : 9 ≤ d) {Q : zz_O → zz_H → Prop} {x1 : Int32} {x2 : Int32} {x3 : Int32} {x4 : Int32} {x5 : Int32} {y0 : Int32} {h : zz_H} {t t' : cS} {o : kY} (hR : kR h t s) (hf : cf_126_117 N X x1 x2 x3 x4 x5 y0 t = some (t', o)) (k : (∀ h', kR h' t' s → kE o Q h')) : zz_J zp_P zt_tf zt_fd X d zm_126 117 [(0, .ref 42), (1, .int x1), (2, .int x2), (3, .int x3), (4, .int x4), (5, .int x5)] [.int y0] h Q := by
  unfold cf_126_117 at hf
  exact cb_126_117 hR  (fun hR => cr_126_119 hd hR hf k)
def cf_126_112 (N : Nat) (X : Nat → Option zz_C) (x1 : Int32) (x2 : Int32) (x3 : Int32) (x4 : Int32) (x5 : Int32) (y0 : Int32) (t : cS) : kO := cf_126_119 N X x1 x2 x3 x4 x5 y0 64 t
theorem cr_126_112 {X : Nat → Option zz_C} {s : mS} {N : Nat} {d : Nat} (hd : 9 ≤ d) {Q : zz_O → zz_H → Prop} {x1 : Int32} {x2 : Int32} {x3 : Int32} {x4 : Int32} {x5 : Int32} {y0 : Int32} {h : zz_H} {t t' : cS} {o : kY} (hR : kR h t s) (hf : cf_126_112 N X x1 x2 x3 x4 x5 y0 t = some (t', o)) (k : (∀ h', kR h' t' s → kE o Q h')) : zz_J zp_P zt_tf zt_fd X d zm_126 112 [(0, .ref 42), (1, .int x1), (2, .int x2), (3, .int x3), (4, .int x4), (5, .int x5)] [.int y0] h Q := by
  unfold cf_126_112 at hf
  exact cb_126_112 hR  (fun hR => cr_126_119 hd hR hf k)
def cf_126_106 (N : Nat) (X : Nat → Option zz_C) (x1 : Int32) (x2 : Int32) (x3 : Int32) (x4 : Int32) (x5 : Int32) (t : cS) : kO := if ¬ x1 = 1 then cf_126_117 N X x1 x2 x3 x4 x5 x3 t else cf_126_112 N X x1 x2 x3 x4 x5 x3 t
theorem cr_126_106 {X : Nat → Option zz_C} {s : mS} {N : Nat} {d : Nat} (hd : 9 ≤ d) {Q : zz_O → zz_H → Prop} {x1 : Int32} {x2 : Int32} {x3 : Int32} {x4 : Int32} {x5 : Int32} {h : zz_H} {t t' : cS} {o : kY} (hR : kR h t s) (hf : cf_126_106 N X x1 x2 x3 x4 x5 t = some (t', o)) (k : (∀ h', kR h' t' s → kE o Q h')) : zz_J zp_P zt_tf zt_fd X d zm_126 106 [(0, .ref 42), (1, .int x1), (2, .int x2), (3, .int x3), (4, .int x4), (5, .int x5)] [] h Q := by
  unfold cf_126_106 at hf
  refine cb_126_106 hR  (fun c {h} hR => ?_) (fun c {h} hR => ?_)
  · rw [if_pos c] at hf
    exact cr_126_117 hd hR hf k
  · rw [if_neg c] at hf
    exact cr_126_112 hd hR hf k
def cf_126_95 (N : Nat) (X : Nat → Option zz_C) (rc : Nat → Int32 → Int32 → Int32 → Int32 → Int32 → Int32 → cS → kO) (x1 : Int32) (x2 : Int32) (x3 : Int32) (x4 : Int32) (x6 : Int32) (y0 : Int32) (y1 : Int32) (t : cS) : kO := rc 0 x1 x2 x3 x4 (if (y0 : Int32) < y1 then y1 else y0) (x6 + 1) t
theorem cr_126_95 {X : Nat → Option zz_C} {s : mS} {N : Nat} {d : Nat} (hd : 9 ≤ d) {rc : Nat → Int32 → Int32 → Int32 → Int32 → Int32 → Int32 → cS → kO} (hrc0 : ∀ {Q : zz_O → zz_H → Prop} {x1 : Int32} {x2 : Int32} {x3 : Int32} {x4 : Int32} {x5 : Int32} {x6 : Int32} {h : zz_H} {t t' : cS} {o : kY}, kR h t s → rc 0 x1 x2 x3 x4 x5 x6 t = some (t', o) → (∀ h', kR h' t' s → kE o Q h') → zz_J zp_P zt_tf zt_fd X d zm_126 34 [(0, .ref 42), (1, .int x1), (2, .int x2), (3, .int x3), (4, .int x4), (5, .int x5), (6, .int x6)] [] h Q) {Q : zz_O → zz_H → Prop} {x1 : Int32} {x2 : Int32} {x3 : Int32} {x4 : Int32} {x6 : Int32} {y0 : Int32} {y1 : Int32} {h : zz_H} {t t' : cS} {o : kY} (hR : kR h t s) (hf : cf_126_95 N X rc x1 x2 x3 x4 x6 y0 y1 t = some (t', o)) (k : (∀ h', kR h' t' s → kE o Q h')) : zz_J zp_P zt_tf zt_fd X d zm_126 95 [(0, .ref 42), (1, .int x1), (2, .int x2), (3, .int x3), (4, .int x4), (6, .int x6)] [.int y1, .int y0] h Q := by
  unfold cf_126_95 at hf
  obtain ⟨d', rfl⟩ : ∃ d', d = d' + 1 := ⟨d - 1, by omega⟩
  exact cb_126_95 hR  (fun hR => hrc0 hR hf k)
def cf_126_79 (N : Nat) (X : Nat → Option zz_C) (rc : Nat → Int32 → Int32 → Int32 → Int32 → Int32 → Int32 → cS → kO) (x1 : Int32) (x2 : Int32) (x3 : Int32) (x5 : Int32) (x6 : Int32) (y0 : Int32) (y1 : Int32) (t : cS) : kO := if ¬ (x6 < 0 ∨ (kB t 44).1 ≤ (Int32.toNatClampNeg x6)) then (ko_call 2 (cf_135 N X ((kB t 44).2 (Int32.toNatClampNeg x6)) t) (fun g1 v1 => co_i v1 (fun y => cf_126_95 N X rc x1 x2 x3 (y0 + y1) x6 x5 y g1))) else none
theorem cr_126_79 {X : Nat → Option zz_C} {s : mS} {N : Nat} {d : Nat} (hd : 9 ≤ d) {rc : Nat → Int32 → Int32 → Int32 → Int32 → Int32 → Int32 → cS → kO} (hrc0 : ∀ {Q : zz_O → zz_H → Prop} {x1 : Int32} {x2 : Int32} {x3 : Int32} {x4 : Int32} {x5 : Int32} {x6 : Int32} {h : zz_H} {t t' : cS} {o : kY}, kR h t s → rc 0 x1 x2 x3 x4 x5 x6 t = some (t', o) → (∀ h', kR h' t' s → kE o Q h') → zz_J zp_P zt_tf zt_fd X d zm_126 34 [(0, .ref 42), (1, .int x1), (2, .int x2), (3, .int x3), (4, .int x4), (5, .int x5), (6, .int x6)] [] h Q) {Q : zz_O → zz_H → Prop} {x1 : Int32} {x2 : Int32} {x3 : Int32} {x5 : Int32} {x6 : Int32} {y0 : Int32} {y1 : Int32} {h : zz_H} {t t' : cS} {o : kY} (hR : kR h t s) (hf : cf_126_79 N X rc x1 x2 x3 x5 x6 y0 y1 t = some (t', o)) (k : (∀ h', kR h' t' s → kE o Q h')) : zz_J zp_P zt_tf zt_fd X d zm_126 79 [(0, .ref 42), (1, .int x1), (2, .int x2), (3, .int x3), (5, .int x5), (6, .int x6)] [.int y1, .int y0] h Q := by
  unfold cf_126_79 at hf
  obtain ⟨e0, hf⟩ := ko_if hf
  obtain ⟨d', rfl⟩ : ∃ d', d = d' + 1 := ⟨d - 1, by omega⟩
  refine cb_126_79 hR e0 (fun {h} hR => ?_)
  rcases ko_call_ok hf with ⟨g1, v1, er, hf⟩ | ⟨g1, er, hq⟩
  · obtain ⟨y, hv, hf2⟩ := co_i_ok hf
    clear hf
    have hf := hf2
    clear hf2
    subst hv
    refine cr_135 (by omega) hR er (fun h hR => ?_)
    exact cr_126_95 hd hrc0 hR hf k
  · refine cr_135 (by omega) hR er (fun h hR => ?_)
    exact ko_thrown hq hR k
def cf_126_65 (N : Nat) (X : Nat → Option zz_C) (rc : Nat → Int32 → Int32 → Int32 → Int32 → Int32 → Int32 → cS → kO) (x1 : Int32) (x2 : Int32) (x3 : Int32) (x5 : Int32) (x6 : Int32) (y0 : Int32) (y1 : Int32) (t : cS) : kO := cf_126_79 N X rc x1 x2 x3 x5 x6 y0 y1 t
theorem cr_126_65 {X : Nat → Option zz_C} {s : mS} {N : Nat} {d : Nat} (hd : 9 ≤ d) {rc : Nat → Int32 → Int32 → Int32 → Int32 → Int32 → Int32 → cS → kO} (hrc0 : ∀ {Q : zz_O → zz_H → Prop} {x1 : Int32} {x2 : Int32} {x3 : Int32} {x4 : Int32} {x5 : Int32} {x6 : Int32} {h : zz_H} {t t' : cS} {o : kY}, kR h t s → rc 0 x1 x2 x3 x4 x5 x6 t = some (t', o) → (∀ h', kR h' t' s → kE o Q h') → zz_J zp_P zt_tf zt_fd X d zm_126 34 [(0, .ref 42), (1, .int x1), (2, .int x2), (3, .int x3), (4, .int x4), (5, .int x5), (6, .int x6)] [] h Q) {Q : zz_O → zz_H → Prop} {x1 : Int32} {x2 : Int32} {x3 : Int32} {x5 : Int32} {x6 : Int32} {y0 : Int32} {y1 : Int32} {h : zz_H} {t t' : cS} {o : kY} (hR : kR h t s) (hf : cf_126_65 N X rc x1 x2 x3 x5 x6 y0 y1 t = some (t', o)) (k : (∀ h', kR h' t' s → kE o Q h')) : zz_J zp_P zt_tf zt_fd X d zm_126 65 [(0, .ref 42), (1, .int x1), (2, .int x2), (3, .int x3), (5, .int x5), (6, .int x6)] [.int y1, .int y0] h Q := by
  unfold cf_126_65 at hf
  exact cb_126_65 hR  (fun hR => cr_126_79 hd hrc0 hR hf k)
def cf_126_54 (N : Nat) (X : Nat → Option zz_C) (rc : Nat → Int32 → Int32 → Int32 → Int32 → Int32 → Int32 → cS → kO) (x1 : Int32) (x2 : Int32) (x3 : Int32) (x5 : Int32) (x6 : Int32) (y0 : Int32) (t : cS) : kO := if ¬ (x6 < 0 ∨ (kB t 44).1 ≤ (Int32.toNatClampNeg x6)) then (ko_call 2 (cf_134 N X ((kB t 44).2 (Int32.toNatClampNeg x6)) t) (fun g1 v1 => co_i v1 (fun y => cf_126_65 N X rc x1 x2 x3 x5 x6 y0 y g1))) else none
theorem cr_126_54 {X : Nat → Option zz_C} {s : mS} {N : Nat} {d : Nat} (hd : 9 ≤ d) {rc : Nat → Int32 → Int32 → Int32 → Int32 → Int32 → Int32 → cS → kO} (hrc0 : ∀ {Q : zz_O → zz_H → Prop} {x1 : Int32} {x2 : Int32} {x3 : Int32} {x4 : Int32} {x5 : Int32} {x6 : Int32} {h : zz_H} {t t' : cS} {o : kY}, kR h t s → rc 0 x1 x2 x3 x4 x5 x6 t = some (t', o) → (∀ h', kR h' t' s → kE o Q h') → zz_J zp_P zt_tf zt_fd X d zm_126 34 [(0, .ref 42), (1, .int x1), (2, .int x2), (3, .int x3), (4, .int x4), (5, .int x5), (6, .int x6)] [] h Q) {Q : zz_O → zz_H → Prop} {x1 : Int32} {x2 : Int32} {x3 : Int32} {x5 : Int32} {x6 : Int32} {y0 : Int32} {h : zz_H} {t t' : cS} {o : kY} (hR : kR h t s) (hf : cf_126_54 N X rc x1 x2 x3 x5 x6 y0 t = some (t', o)) (k : (∀ h', kR h' t' s → kE o Q h')) : zz_J zp_P zt_tf zt_fd X d zm_126 54 [(0, .ref 42), (1, .int x1), (2, .int x2), (3, .int x3), (5, .int x5), (6, .int x6)] [.int y0] h Q := by
  unfold cf_126_54 at hf
  obtain ⟨e0, hf⟩ := ko_if hf
  obtain ⟨d', rfl⟩ : ∃ d', d = d' + 1 := ⟨d - 1, by omega⟩
  refine cb_126_54 hR e0 (fun {h} hR => ?_)
  rcases ko_call_ok hf with ⟨g1, v1, er, hf⟩ | ⟨g1, er, hq⟩
  · obtain ⟨y, hv, hf2⟩ := co_i_ok hf
    clear hf
    have hf := hf2
    clear hf2
    subst hv
    refine cr_134 (by omega) hR er (fun h hR => ?_)
    exact cr_126_65 hd hrc0 hR hf k
  · refine cr_134 (by omega) hR er (fun h hR => ?_)
    exact ko_thrown hq hR k
def cf_126_68 (N : Nat) (X : Nat → Option zz_C) (rc : Nat → Int32 → Int32 → Int32 → Int32 → Int32 → Int32 → cS → kO) (x1 : Int32) (x2 : Int32) (x3 : Int32) (x5 : Int32) (x6 : Int32) (y0 : Int32) (t : cS) : kO := if ¬ (x6 < 0 ∨ (kB t 44).1 ≤ (Int32.toNatClampNeg x6)) then (ko_call 2 (cf_128 N X ((kB t 44).2 (Int32.toNatClampNeg x6)) t) (fun g1 v1 => co_i v1 (fun y => cf_126_79 N X rc x1 x2 x3 x5 x6 y0 y g1))) else none
theorem cr_126_68 {X : Nat → Option zz_C} {s : mS} {N : Nat} {d : Nat} (hd : 9 ≤ d) {rc : Nat → Int32 → Int32 → Int32 → Int32 → Int32 → Int32 → cS → kO} (hrc0 : ∀ {Q : zz_O → zz_H → Prop} {x1 : Int32} {x2 : Int32} {x3 : Int32} {x4 : Int32} {x5 : Int32} {x6 : Int32} {h : zz_H} {t t' : cS} {o : kY}, kR h t s → rc 0 x1 x2 x3 x4 x5 x6 t = some (t', o) → (∀ h', kR h' t' s → kE o Q h') → zz_J zp_P zt_tf zt_fd X d zm_126 34 [(0, .ref 42), (1, .int x1), (2, .int x2), (3, .int x3), (4, .int x4), (5, .int x5), (6, .int x6)] [] h Q) {Q : zz_O → zz_H → Prop} {x1 : Int32} {x2 : Int32} {x3 : Int32} {x5 : Int32} {x6 : Int32} {y0 : Int32} {h : zz_H} {t t' : cS} {o : kY} (hR : kR h t s) (hf : cf_126_68 N X rc x1 x2 x3 x5 x6 y0 t = some (t', o)) (k : (∀ h', kR h' t' s → kE o Q h')) : zz_J zp_P zt_tf zt_fd X d zm_126 68 [(0, .ref 42), (1, .int x1), (2, .int x2), (3, .int x3), (5, .int x5), (6, .int x6)] [.int y0] h Q := by
  unfold cf_126_68 at hf
  obtain ⟨e0, hf⟩ := ko_if hf
  obtain ⟨d', rfl⟩ : ∃ d', d = d' + 1 := ⟨d - 1, by omega⟩
  refine cb_126_68 hR e0 (fun {h} hR => ?_)
  rcases ko_call_ok hf with ⟨g1, v1, er, hf⟩ | ⟨g1, er, hq⟩
  · obtain ⟨y, hv, hf2⟩ := co_i_ok hf
    clear hf
    have hf := hf2
    clear hf2
    subst hv
    refine cr_128 (by omega) hR er (fun h hR => ?_)
    exact cr_126_79 hd hrc0 hR hf k
  · refine cr_128 (by omega) hR er (fun h hR => ?_)
    exact ko_thrown hq hR k
def cf_126_47 (N : Nat) (X : Nat → Option zz_C) (rc : Nat → Int32 → Int32 → Int32 → Int32 → Int32 → Int32 → cS → kO) (x1 : Int32) (x2 : Int32) (x3 : Int32) (x4 : Int32) (x5 : Int32) (x6 : Int32) (t : cS) : kO := if ¬ x1 = 3 then cf_126_68 N X rc x1 x2 x3 x5 x6 x4 t else cf_126_54 N X rc x1 x2 x3 x5 x6 x4 t
theorem cr_126_47 {X : Nat → Option zz_C} {s : mS} {N : Nat} {d : Nat} (hd : 9 ≤ d) {rc : Nat → Int32 → Int32 → Int32 → Int32 → Int32 → Int32 → cS → kO} (hrc0 : ∀ {Q : zz_O → zz_H → Prop} {x1 : Int32} {x2 : Int32} {x3 : Int32} {x4 : Int32} {x5 : Int32} {x6 : Int32} {h : zz_H} {t t' : cS} {o : kY}, kR h t s → rc 0 x1 x2 x3 x4 x5 x6 t = some (t', o) → (∀ h', kR h' t' s → kE o Q h') → zz_J zp_P zt_tf zt_fd X d zm_126 34 [(0, .ref 42), (1, .int x1), (2, .int x2), (3, .int x3), (4, .int x4), (5, .int x5), (6, .int x6)] [] h Q) {Q : zz_O → zz_H → Prop} {x1 : Int32} {x2 : Int32} {x3 : Int32} {x4 : Int32} {x5 : Int32} {x6 : Int32} {h : zz_H} {t t' : cS} {o : kY} (hR : kR h t s) (hf : cf_126_47 N X rc x1 x2 x3 x4 x5 x6 t = some (t', o)) (k : (∀ h', kR h' t' s → kE o Q h')) : zz_J zp_P zt_tf zt_fd X d zm_126 47 [(0, .ref 42), (1, .int x1), (2, .int x2), (3, .int x3), (4, .int x4), (5, .int x5), (6, .int x6)] [] h Q := by
  unfold cf_126_47 at hf
  refine cb_126_47 hR  (fun c {h} hR => ?_) (fun c {h} hR => ?_)
  · rw [if_pos c] at hf
    exact cr_126_68 hd hrc0 hR hf k
  · rw [if_neg c] at hf
    exact cr_126_54 hd hrc0 hR hf k
def cf_126_39 (N : Nat) (X : Nat → Option zz_C) (rc : Nat → Int32 → Int32 → Int32 → Int32 → Int32 → Int32 → cS → kO) (x1 : Int32) (x2 : Int32) (x3 : Int32) (x4 : Int32) (x5 : Int32) (x6 : Int32) (t : cS) : kO := if (x2 + x3) ≤ x6 then cf_126_106 N X x1 x2 x3 x4 x5 t else cf_126_47 N X rc x1 x2 x3 x4 x5 x6 t
theorem cr_126_39 {X : Nat → Option zz_C} {s : mS} {N : Nat} {d : Nat} (hd : 9 ≤ d) {rc : Nat → Int32 → Int32 → Int32 → Int32 → Int32 → Int32 → cS → kO} (hrc0 : ∀ {Q : zz_O → zz_H → Prop} {x1 : Int32} {x2 : Int32} {x3 : Int32} {x4 : Int32} {x5 : Int32} {x6 : Int32} {h : zz_H} {t t' : cS} {o : kY}, kR h t s → rc 0 x1 x2 x3 x4 x5 x6 t = some (t', o) → (∀ h', kR h' t' s → kE o Q h') → zz_J zp_P zt_tf zt_fd X d zm_126 34 [(0, .ref 42), (1, .int x1), (2, .int x2), (3, .int x3), (4, .int x4), (5, .int x5), (6, .int x6)] [] h Q) {Q : zz_O → zz_H → Prop} {x1 : Int32} {x2 : Int32} {x3 : Int32} {x4 : Int32} {x5 : Int32} {x6 : Int32} {h : zz_H} {t t' : cS} {o : kY} (hR : kR h t s) (hf : cf_126_39 N X rc x1 x2 x3 x4 x5 x6 t = some (t', o)) (k : (∀ h', kR h' t' s → kE o Q h')) : zz_J zp_P zt_tf zt_fd X d zm_126 39 [(0, .ref 42), (1, .int x1), (2, .int x2), (3, .int x3), (4, .int x4), (5, .int x5), (6, .int x6)] [] h Q := by
  unfold cf_126_39 at hf
  refine cb_126_39 hR  (fun c {h} hR => ?_) (fun c {h} hR => ?_)
  · rw [if_pos c] at hf
    exact cr_126_106 hd hR hf k
  · rw [if_neg c] at hf
    exact cr_126_47 hd hrc0 hR hf k
def cf_126_34 (N : Nat) (X : Nat → Option zz_C) (rc : Nat → Int32 → Int32 → Int32 → Int32 → Int32 → Int32 → cS → kO) (x1 : Int32) (x2 : Int32) (x3 : Int32) (x4 : Int32) (x5 : Int32) (x6 : Int32) (t : cS) : kO := if x1 ≤ 1 then cf_126_106 N X x1 x2 x3 x4 x5 t else cf_126_39 N X rc x1 x2 x3 x4 x5 x6 t
theorem cr_126_34 {X : Nat → Option zz_C} {s : mS} {N : Nat} {d : Nat} (hd : 9 ≤ d) {rc : Nat → Int32 → Int32 → Int32 → Int32 → Int32 → Int32 → cS → kO} (hrc0 : ∀ {Q : zz_O → zz_H → Prop} {x1 : Int32} {x2 : Int32} {x3 : Int32} {x4 : Int32} {x5 : Int32} {x6 : Int32} {h : zz_H} {t t' : cS} {o : kY}, kR h t s → rc 0 x1 x2 x3 x4 x5 x6 t = some (t', o) → (∀ h', kR h' t' s → kE o Q h') → zz_J zp_P zt_tf zt_fd X d zm_126 34 [(0, .ref 42), (1, .int x1), (2, .int x2), (3, .int x3), (4, .int x4), (5, .int x5), (6, .int x6)] [] h Q) {Q : zz_O → zz_H → Prop} {x1 : Int32} {x2 : Int32} {x3 : Int32} {x4 : Int32} {x5 : Int32} {x6 : Int32} {h : zz_H} {t t' : cS} {o : kY} (hR : kR h t s) (hf : cf_126_34 N X rc x1 x2 x3 x4 x5 x6 t = some (t', o)) (k : (∀ h', kR h' t' s → kE o Q h')) : zz_J zp_P zt_tf zt_fd X d zm_126 34 [(0, .ref 42), (1, .int x1), (2, .int x2), (3, .int x3), (4, .int x4), (5, .int x5), (6, .int x6)] [] h Q := by
  unfold cf_126_34 at hf
  refine cb_126_34 hR  (fun c {h} hR => ?_) (fun c {h} hR => ?_)
  · rw [if_pos c] at hf
    exact cr_126_106 hd hR hf k
  · rw [if_neg c] at hf
    exact cr_126_39 hd hrc0 hR hf k
def cf_126_L23 (N : Nat) (X : Nat → Option zz_C) : Nat → Nat → Int32 → Int32 → Int32 → Int32 → Int32 → Int32 → cS → kO
  | 0, _, _, _, _, _, _, _, _ => none
  | n + 1, l, x1, x2, x3, x4, x5, x6, t => if l = 0 then cf_126_34 N X (cf_126_L23 N X n) x1 x2 x3 x4 x5 x6 t else none
theorem cr_126_L23 {X : Nat → Option zz_C} {s : mS} {N : Nat} {d : Nat} (hd : 9 ≤ d) : ∀ n : Nat, (∀ {Q : zz_O → zz_H → Prop} {x1 : Int32} {x2 : Int32} {x3 : Int32} {x4 : Int32} {x5 : Int32} {x6 : Int32} {h : zz_H} {t t' : cS} {o : kY}, kR h t s → cf_126_L23 N X n 0 x1 x2 x3 x4 x5 x6 t = some (t', o) → (∀ h', kR h' t' s → kE o Q h') → zz_J zp_P zt_tf zt_fd X d zm_126 34 [(0, .ref 42), (1, .int x1), (2, .int x2), (3, .int x3), (4, .int x4), (5, .int x5), (6, .int x6)] [] h Q) := by
  intro n
  induction n with
  | zero => exact (fun _ hf _ => by cases hf)
  | succ n ih =>
    have h0 := @ih
    intro Q _ _ _ _ _ _ h t t' o hR hf k
    unfold cf_126_L23 at hf
    rw [if_pos rfl] at hf
    exact cr_126_34 hd h0 hR hf k
def cf_126_20 (N : Nat) (X : Nat → Option zz_C) (x1 : Int32) (x2 : Int32) (x3 : Int32) (t : cS) : kO := cf_126_L23 N X N 0 x1 x2 x3 0 0 x2 (jI t 42 3 x2)
theorem cr_126_20 {X : Nat → Option zz_C} {s : mS} {N : Nat} {d : Nat} (hd : 9 ≤ d) {Q : zz_O → zz_H → Prop} {x1 : Int32} {x2 : Int32} {x3 : Int32} {h : zz_H} {t t' : cS} {o : kY} (hR : kR h t s) (hf : cf_126_20 N X x1 x2 x3 t = some (t', o)) (k : (∀ h', kR h' t' s → kE o Q h')) : zz_J zp_P zt_tf zt_fd X d zm_126 20 [(0, .ref 42), (1, .int x1), (2, .int x2), (3, .int x3)] [] h Q := by
  unfold cf_126_20 at hf
  exact cb_126_20 hR  (fun hR => cr_126_L23 hd N hR hf k)
def cf_126_11 (N : Nat) (X : Nat → Option zz_C) (x1 : Int32) (x2 : Int32) (x3 : Int32) (t : cS) : kO := if 0 ≤ x3 then cf_126_20 N X x1 x2 x3 t else cf_126_15 N X  t
theorem cr_126_11 {X : Nat → Option zz_C} {s : mS} {N : Nat} {d : Nat} (hd : 9 ≤ d) {Q : zz_O → zz_H → Prop} {x1 : Int32} {x2 : Int32} {x3 : Int32} {h : zz_H} {t t' : cS} {o : kY} (hR : kR h t s) (hf : cf_126_11 N X x1 x2 x3 t = some (t', o)) (k : (∀ h', kR h' t' s → kE o Q h')) : zz_J zp_P zt_tf zt_fd X d zm_126 11 [(0, .ref 42), (1, .int x1), (2, .int x2), (3, .int x3)] [] h Q := by
  unfold cf_126_11 at hf
  refine cb_126_11 hR  (fun c {h} hR => ?_) (fun c {h} hR => ?_)
  · rw [if_pos c] at hf
    exact cr_126_20 hd hR hf k
  · rw [if_neg c] at hf
    exact cr_126_15 hd hR hf k
def cf_126_0 (N : Nat) (X : Nat → Option zz_C) (x1 : Int32) (x2 : Int32) (t : cS) : kO := if x2 < 0 then cf_126_15 N X  t else cf_126_11 N X x1 x2 ((kI t 42 3) - x2) t
theorem cr_126_0 {X : Nat → Option zz_C} {s : mS} {N : Nat} {d : Nat} (hd : 9 ≤ d) {Q : zz_O → zz_H → Prop} {x1 : Int32} {x2 : Int32} {h : zz_H} {t t' : cS} {o : kY} (hR : kR h t s) (hf : cf_126_0 N X x1 x2 t = some (t', o)) (k : (∀ h', kR h' t' s → kE o Q h')) : zz_J zp_P zt_tf zt_fd X d zm_126 0 [(0, .ref 42), (1, .int x1), (2, .int x2)] [] h Q := by
  unfold cf_126_0 at hf
  refine cb_126_0 hR  (fun c {h} hR => ?_) (fun c {h} hR => ?_)
  · rw [if_pos c] at hf
    exact cr_126_15 hd hR hf k
  · rw [if_neg c] at hf
    exact cr_126_11 hd hR hf k
/-- build -/
def cf_126 (N : Nat) (X : Nat → Option zz_C) (x1 : Int32) (x2 : Int32) (t : cS) : kO := cf_126_0 N X x1 x2 t
theorem cr_126 {X : Nat → Option zz_C} {s : mS} {N : Nat} {d : Nat} (hd : 9 ≤ d) {Q : zz_O → zz_H → Prop} {x1 : Int32} {x2 : Int32} {h : zz_H} {t t' : cS} {o : kY} (hR : kR h t s) (hf : cf_126 N X x1 x2 t = some (t', o)) (k : ∀ h', kR h' t' s → kE o Q h') : zz_J zp_P zt_tf zt_fd X d zm_126 0 [(0, .ref 42), (1, .int x1), (2, .int x2)] [] h Q := by
  unfold cf_126 at hf
  exact zz_J.weak (cr_126_0 hd hR hf k) rfl ⟨rfl, rfl, rfl, trivial⟩
/-! yX2_buildAlike (II)J -/
theorem cb_127_0 {X : Nat → Option zz_C} {h : zz_H} {t : cS} {s : mS} {d : Nat} {Q : zz_O → zz_H → Prop} {x1 : Int32} {x2 : Int32} (hR : kR h t s) (k1 : (kI t 42 3) ≤ x2 → (∀ {h : zz_H}, kR h t s → zz_J zp_P zt_tf zt_fd X d zm_127 22 [(0, .ref 42), (1, .int x1), (2, .int x2)] [] h Q)) (k2 : ¬ (kI t 42 3) ≤ x2 → (∀ {h : zz_H}, kR h t s → zz_J zp_P zt_tf zt_fd X d zm_127 8 [(0, .ref 42), (2, .int x2)] [] h Q)) : zz_J zp_P zt_tf zt_fd X d zm_127 0 [(0, .ref 42), (1, .int x1), (2, .int x2)] [] h Q := by
  refine zz_J.n 1 rfl rfl rfl ?_
  refine zz_J.g 4 rfl (hR.gv (v := .int (kI t 42 3)) ko_42 (by decide) rfl) rfl ?_
  refine zz_J.n 5 rfl rfl rfl ?_
  refine zz_J.b2 22 8 (A := (kI t 42 3) ≤ x2) rfl rfl (by decide) rfl rfl (fun c => ?_) (fun c => ?_)
  · exact zz_J.weak (k1 c hR) rfl ⟨rfl, rfl, rfl, trivial⟩
  · exact zz_J.weak (k2 c hR) rfl ⟨rfl, rfl, trivial⟩
theorem cb_127_8 {X : Nat → Option zz_C} {h : zz_H} {t : cS} {s : mS} {d : Nat} {Q : zz_O → zz_H → Prop} {x2 : Int32} (hR : kR h t s) (e0 : ¬ (x2 < 0 ∨ (kB t 44).1 ≤ (Int32.toNatClampNeg x2))) (k : ∀ {h : zz_H}, kR h t s → zz_J zp_P zt_tf zt_fd X d zm_255 0 [(0, .long ((kB t 44).2 (Int32.toNatClampNeg x2)))] [] h (zz_after 1000 Q (fun v h' => zz_J zp_P zt_tf zt_fd X (d + 1) zm_127 17 [(0, .ref 42), (2, .int x2)] (v.toList ++ []) h' Q))) : zz_J zp_P zt_tf zt_fd X (d + 1) zm_127 8 [(0, .ref 42), (2, .int x2)] [] h Q := by
  refine zz_J.n 9 rfl rfl rfl ?_
  refine zz_J.g 12 rfl (hR.gv (v := .ref (kD t 44)) ko_42 (by decide) rfl) rfl ?_
  refine zz_J.n 13 rfl rfl rfl ?_
  refine zz_J.al 14 rfl (hR.al (w := ((kB t 44).2 (Int32.toNatClampNeg x2))) ka_44 rfl e0 rfl) rfl ?_
  refine zz_J.cl (M' := zm_255) 17 rfl rfl (by decide) rfl rfl ⟨rfl, Nat.le_of_ble_eq_true rfl⟩ rfl ?_
  refine zz_J.mono (k hR) ?_
  intro o h' hE
  cases o with
  | inl v => exact zz_J.weak hE rfl ⟨rfl, rfl, trivial⟩
  | inr q => exact hE
theorem cb_127_17 {X : Nat → Option zz_C} {h : zz_H} {t : cS} {s : mS} {d : Nat} {Q : zz_O → zz_H → Prop} {x2 : Int32} {y0 : Int32} (hR : kR h t s) (k : ∀ {h : zz_H}, kR h t s → zz_J zp_P zt_tf zt_fd X d zm_127 23 [(0, .ref 42), (2, .int x2)] [.int (y0 + 1)] h Q) : zz_J zp_P zt_tf zt_fd X d zm_127 17 [(0, .ref 42), (2, .int x2)] [.int y0] h Q := by
  refine zz_J.c 18 (.int 1) rfl rfl rfl rfl ?_
  refine zz_J.n 19 rfl rfl rfl ?_
  refine zz_J.n 23 rfl rfl rfl ?_
  exact zz_J.weak (k hR) rfl ⟨rfl, rfl, trivial⟩
theorem cb_127_22 {X : Nat → Option zz_C} {h : zz_H} {t : cS} {s : mS} {d : Nat} {Q : zz_O → zz_H → Prop} {x1 : Int32} {x2 : Int32} (hR : kR h t s) (k : ∀ {h : zz_H}, kR h t s → zz_J zp_P zt_tf zt_fd X d zm_127 23 [(0, .ref 42), (2, .int x2)] [.int x1] h Q) : zz_J zp_P zt_tf zt_fd X d zm_127 22 [(0, .ref 42), (1, .int x1), (2, .int x2)] [] h Q := by
  refine zz_J.n 23 rfl rfl rfl ?_
  exact zz_J.weak (k hR) rfl ⟨rfl, rfl, trivial⟩
theorem cb_127_23 {X : Nat → Option zz_C} {h : zz_H} {t : cS} {s : mS} {d : Nat} {Q : zz_O → zz_H → Prop} {x2 : Int32} {y0 : Int32} (hR : kR h t s) (k1 : y0 = 1 → (∀ {h : zz_H}, kR h t s → zz_J zp_P zt_tf zt_fd X d zm_127 34 [(0, .ref 42), (2, .int x2), (3, .int y0)] [] h Q)) (k2 : ¬ y0 = 1 → (∀ {h : zz_H}, kR h t s → zz_J zp_P zt_tf zt_fd X d zm_127 29 [(0, .ref 42), (2, .int x2), (3, .int y0)] [] h Q)) : zz_J zp_P zt_tf zt_fd X d zm_127 23 [(0, .ref 42), (2, .int x2)] [.int y0] h Q := by
  refine zz_J.n 24 rfl rfl rfl ?_
  refine zz_J.n 25 rfl rfl rfl ?_
  refine zz_J.c 26 (.int 1) rfl rfl rfl rfl ?_
  refine zz_J.b2 34 29 (A := y0 = 1) rfl rfl (by decide) rfl rfl (fun c => ?_) (fun c => ?_)
  · exact zz_J.weak (k1 c hR) rfl ⟨rfl, rfl, rfl, trivial⟩
  · exact zz_J.weak (k2 c hR) rfl ⟨rfl, rfl, rfl, trivial⟩
theorem cb_127_29 {X : Nat → Option zz_C} {h : zz_H} {t : cS} {s : mS} {d : Nat} {Q : zz_O → zz_H → Prop} {x2 : Int32} {x3 : Int32} (hR : kR h t s) (k1 : ¬ x3 = 2 → (∀ {h : zz_H}, kR h t s → zz_J zp_P zt_tf zt_fd X d zm_127 38 [(0, .ref 42), (2, .int x2), (3, .int x3)] [] h Q)) (k2 : ¬ ¬ x3 = 2 → (∀ {h : zz_H}, kR h t s → zz_J zp_P zt_tf zt_fd X d zm_127 34 [(0, .ref 42), (2, .int x2), (3, .int x3)] [] h Q)) : zz_J zp_P zt_tf zt_fd X d zm_127 29 [(0, .ref 42), (2, .int x2), (3, .int x3)] [] h Q := by
  refine zz_J.n 30 rfl rfl rfl ?_
  refine zz_J.c 31 (.int 2) rfl rfl rfl rfl ?_
  refine zz_J.b2 38 34 (A := ¬ x3 = 2) rfl (zz_cond_ne _ _) (by decide) rfl rfl (fun c => ?_) (fun c => ?_)
  · exact zz_J.weak (k1 c hR) rfl ⟨rfl, rfl, rfl, trivial⟩
  · exact zz_J.weak (k2 c hR) rfl ⟨rfl, rfl, rfl, trivial⟩
theorem cb_127_34 {X : Nat → Option zz_C} {h : zz_H} {t : cS} {s : mS} {d : Nat} {Q : zz_O → zz_H → Prop} {x2 : Int32} {x3 : Int32} (hR : kR h t s) (k : ∀ {h : zz_H}, kR h t s → zz_J zp_P zt_tf zt_fd X d zm_127 39 [(0, .ref 42), (2, .int x2), (3, .int x3)] [.int 1] h Q) : zz_J zp_P zt_tf zt_fd X d zm_127 34 [(0, .ref 42), (2, .int x2), (3, .int x3)] [] h Q := by
  refine zz_J.c 35 (.int 1) rfl rfl rfl rfl ?_
  refine zz_J.n 39 rfl rfl rfl ?_
  exact zz_J.weak (k hR) rfl ⟨rfl, rfl, rfl, trivial⟩
theorem cb_127_38 {X : Nat → Option zz_C} {h : zz_H} {t : cS} {s : mS} {d : Nat} {Q : zz_O → zz_H → Prop} {x2 : Int32} {x3 : Int32} (hR : kR h t s) (k : ∀ {h : zz_H}, kR h t s → zz_J zp_P zt_tf zt_fd X d zm_127 39 [(0, .ref 42), (2, .int x2), (3, .int x3)] [.int 0] h Q) : zz_J zp_P zt_tf zt_fd X d zm_127 38 [(0, .ref 42), (2, .int x2), (3, .int x3)] [] h Q := by
  refine zz_J.c 39 (.int 0) rfl rfl rfl rfl ?_
  exact zz_J.weak (k hR) rfl ⟨rfl, rfl, rfl, trivial⟩
theorem cb_127_39 {X : Nat → Option zz_C} {h : zz_H} {t : cS} {s : mS} {d : Nat} {Q : zz_O → zz_H → Prop} {x2 : Int32} {x3 : Int32} {y0 : Int32} (hR : kR h t s) (k : ∀ {h : zz_H}, kR h t s → zz_J zp_P zt_tf zt_fd X d zm_127 44 [(0, .ref 42), (2, .int x2), (3, .int x3), (4, .int y0), (5, .int x2)] [] h Q) : zz_J zp_P zt_tf zt_fd X d zm_127 39 [(0, .ref 42), (2, .int x2), (3, .int x3)] [.int y0] h Q := by
  refine zz_J.n 41 rfl rfl rfl ?_
  refine zz_J.n 42 rfl rfl rfl ?_
  refine zz_J.n 44 rfl rfl rfl ?_
  exact zz_J.weak (k hR) rfl ⟨rfl, rfl, rfl, rfl, rfl, trivial⟩
theorem cb_127_44 {X : Nat → Option zz_C} {h : zz_H} {t : cS} {s : mS} {d : Nat} {Q : zz_O → zz_H → Prop} {x2 : Int32} {x3 : Int32} {x4 : Int32} {x5 : Int32} (hR : kR h t s) (k1 : (kI t 42 3) ≤ x5 → (∀ {h : zz_H}, kR h t s → zz_J zp_P zt_tf zt_fd X d zm_127 87 [(0, .ref 42), (2, .int x2), (3, .int x3), (4, .int x4)] [] h Q)) (k2 : ¬ (kI t 42 3) ≤ x5 → (∀ {h : zz_H}, kR h t s → zz_J zp_P zt_tf zt_fd X d zm_127 53 [(0, .ref 42), (2, .int x2), (3, .int x3), (4, .int x4), (5, .int x5)] [] h Q)) : zz_J zp_P zt_tf zt_fd X d zm_127 44 [(0, .ref 42), (2, .int x2), (3, .int x3), (4, .int x4), (5, .int x5)] [] h Q := by
  refine zz_J.n 46 rfl rfl rfl ?_
  refine zz_J.n 47 rfl rfl rfl ?_
  refine zz_J.g 50 rfl (hR.gv (v := .int (kI t 42 3)) ko_42 (by decide) rfl) rfl ?_
  refine zz_J.b2 87 53 (A := (kI t 42 3) ≤ x5) rfl rfl (by decide) rfl rfl (fun c => ?_) (fun c => ?_)
  · exact zz_J.weak (k1 c hR) rfl ⟨rfl, rfl, rfl, rfl, trivial⟩
  · exact zz_J.weak (k2 c hR) rfl ⟨rfl, rfl, rfl, rfl, rfl, trivial⟩
theorem cb_127_53 {X : Nat → Option zz_C} {h : zz_H} {t : cS} {s : mS} {d : Nat} {Q : zz_O → zz_H → Prop} {x2 : Int32} {x3 : Int32} {x4 : Int32} {x5 : Int32} (hR : kR h t s) (k1 : x4 = 0 → (∀ {h : zz_H}, kR h t s → zz_J zp_P zt_tf zt_fd X d zm_127 87 [(0, .ref 42), (2, .int x2), (3, .int x3), (4, .int x4)] [] h Q)) (k2 : ¬ x4 = 0 → (∀ {h : zz_H}, kR h t s → zz_J zp_P zt_tf zt_fd X d zm_127 58 [(0, .ref 42), (2, .int x2), (3, .int x3), (5, .int x5)] [] h Q)) : zz_J zp_P zt_tf zt_fd X d zm_127 53 [(0, .ref 42), (2, .int x2), (3, .int x3), (4, .int x4), (5, .int x5)] [] h Q := by
  refine zz_J.n 55 rfl rfl rfl ?_
  refine zz_J.b1 87 58 (A := x4 = 0) rfl rfl (by decide) rfl rfl (fun c => ?_) (fun c => ?_)
  · exact zz_J.weak (k1 c hR) rfl ⟨rfl, rfl, rfl, rfl, trivial⟩
  · exact zz_J.weak (k2 c hR) rfl ⟨rfl, rfl, rfl, rfl, trivial⟩
theorem cb_127_58 {X : Nat → Option zz_C} {h : zz_H} {t : cS} {s : mS} {d : Nat} {Q : zz_O → zz_H → Prop} {x2 : Int32} {x3 : Int32} {x5 : Int32} (hR : kR h t s) (e0 : ¬ (x5 < 0 ∨ (kB t 44).1 ≤ (Int32.toNatClampNeg x5))) (k : ∀ {h : zz_H}, kR h t s → zz_J zp_P zt_tf zt_fd X d zm_255 0 [(0, .long ((kB t 44).2 (Int32.toNatClampNeg x5)))] [] h (zz_after 1000 Q (fun v h' => zz_J zp_P zt_tf zt_fd X (d + 1) zm_127 68 [(0, .ref 42), (2, .int x2), (3, .int x3), (5, .int x5)] (v.toList ++ []) h' Q))) : zz_J zp_P zt_tf zt_fd X (d + 1) zm_127 58 [(0, .ref 42), (2, .int x2), (3, .int x3), (5, .int x5)] [] h Q := by
  refine zz_J.n 59 rfl rfl rfl ?_
  refine zz_J.g 62 rfl (hR.gv (v := .ref (kD t 44)) ko_42 (by decide) rfl) rfl ?_
  refine zz_J.n 64 rfl rfl rfl ?_
  refine zz_J.al 65 rfl (hR.al (w := ((kB t 44).2 (Int32.toNatClampNeg x5))) ka_44 rfl e0 rfl) rfl ?_
  refine zz_J.cl (M' := zm_255) 68 rfl rfl (by decide) rfl rfl ⟨rfl, Nat.le_of_ble_eq_true rfl⟩ rfl ?_
  refine zz_J.mono (k hR) ?_
  intro o h' hE
  cases o with
  | inl v => exact zz_J.weak hE rfl ⟨rfl, rfl, rfl, rfl, trivial⟩
  | inr q => exact hE
theorem cb_127_68 {X : Nat → Option zz_C} {h : zz_H} {t : cS} {s : mS} {d : Nat} {Q : zz_O → zz_H → Prop} {x2 : Int32} {x3 : Int32} {x5 : Int32} {y0 : Int32} (hR : kR h t s) (k1 : ¬ (y0 + 1) = x3 → (∀ {h : zz_H}, kR h t s → zz_J zp_P zt_tf zt_fd X d zm_127 78 [(0, .ref 42), (2, .int x2), (3, .int x3), (5, .int x5)] [] h Q)) (k2 : ¬ ¬ (y0 + 1) = x3 → (∀ {h : zz_H}, kR h t s → zz_J zp_P zt_tf zt_fd X d zm_127 74 [(0, .ref 42), (2, .int x2), (3, .int x3), (5, .int x5)] [] h Q)) : zz_J zp_P zt_tf zt_fd X d zm_127 68 [(0, .ref 42), (2, .int x2), (3, .int x3), (5, .int x5)] [.int y0] h Q := by
  refine zz_J.c 69 (.int 1) rfl rfl rfl rfl ?_
  refine zz_J.n 70 rfl rfl rfl ?_
  refine zz_J.n 71 rfl rfl rfl ?_
  refine zz_J.b2 78 74 (A := ¬ (y0 + 1) = x3) rfl (zz_cond_ne _ _) (by decide) rfl rfl (fun c => ?_) (fun c => ?_)
  · exact zz_J.weak (k1 c hR) rfl ⟨rfl, rfl, rfl, rfl, trivial⟩
  · exact zz_J.weak (k2 c hR) rfl ⟨rfl, rfl, rfl, rfl, trivial⟩
theorem cb_127_74 {X : Nat → Option zz_C} {h : zz_H} {t : cS} {s : mS} {d : Nat} {Q : zz_O → zz_H → Prop} {x2 : Int32} {x3 : Int32} {x5 : Int32} (hR : kR h t s) (k : ∀ {h : zz_H}, kR h t s → zz_J zp_P zt_tf zt_fd X d zm_127 79 [(0, .ref 42), (2, .int x2), (3, .int x3), (5, .int x5)] [.int 1] h Q) : zz_J zp_P zt_tf zt_fd X d zm_127 74 [(0, .ref 42), (2, .int x2), (3, .int x3), (5, .int x5)] [] h Q := by
  refine zz_J.c 75 (.int 1) rfl rfl rfl rfl ?_
  refine zz_J.n 79 rfl rfl rfl ?_
  exact zz_J.weak (k hR) rfl ⟨rfl, rfl, rfl, rfl, trivial⟩
theorem cb_127_78 {X : Nat → Option zz_C} {h : zz_H} {t : cS} {s : mS} {d : Nat} {Q : zz_O → zz_H → Prop} {x2 : Int32} {x3 : Int32} {x5 : Int32} (hR : kR h t s) (k : ∀ {h : zz_H}, kR h t s → zz_J zp_P zt_tf zt_fd X d zm_127 79 [(0, .ref 42), (2, .int x2), (3, .int x3), (5, .int x5)] [.int 0] h Q) : zz_J zp_P zt_tf zt_fd X d zm_127 78 [(0, .ref 42), (2, .int x2), (3, .int x3), (5, .int x5)] [] h Q := by
  refine zz_J.c 79 (.int 0) rfl rfl rfl rfl ?_
  exact zz_J.weak (k hR) rfl ⟨rfl, rfl, rfl, rfl, trivial⟩
theorem cb_127_79 {X : Nat → Option zz_C} {h : zz_H} {t : cS} {s : mS} {d : Nat} {Q : zz_O → zz_H → Prop} {x2 : Int32} {x3 : Int32} {x5 : Int32} {y0 : Int32} (hR : kR h t s) (k : ∀ {h : zz_H}, kR h t s → zz_J zp_P zt_tf zt_fd X d zm_127 44 [(0, .ref 42), (2, .int x2), (3, .int x3), (4, .int y0), (5, .int (x5 + 1))] [] h Q) : zz_J zp_P zt_tf zt_fd X d zm_127 79 [(0, .ref 42), (2, .int x2), (3, .int x3), (5, .int x5)] [.int y0] h Q := by
  refine zz_J.n 81 rfl rfl rfl ?_
  refine zz_J.n 84 rfl rfl rfl ?_
  refine zz_J.n 44 rfl rfl rfl ?_
  exact zz_J.weak (k hR) rfl ⟨rfl, rfl, rfl, rfl, rfl, trivial⟩
theorem cb_127_87 {X : Nat → Option zz_C} {h : zz_H} {t : cS} {s : mS} {d : Nat} {Q : zz_O → zz_H → Prop} {x2 : Int32} {x3 : Int32} {x4 : Int32} (hR : kR h t s) (k1 : x4 = 0 → (∀ {h : zz_H}, kR h t s → zz_J zp_P zt_tf zt_fd X d zm_127 101 [] [] h Q)) (k2 : ¬ x4 = 0 → (∀ {h : zz_H}, kR h t s → zz_J zp_P zt_tf zt_fd X d zm_127 92 [(0, .ref 42), (2, .int x2), (3, .int x3)] [] h Q)) : zz_J zp_P zt_tf zt_fd X d zm_127 87 [(0, .ref 42), (2, .int x2), (3, .int x3), (4, .int x4)] [] h Q := by
  refine zz_J.n 89 rfl rfl rfl ?_
  refine zz_J.b1 101 92 (A := x4 = 0) rfl rfl (by decide) rfl rfl (fun c => ?_) (fun c => ?_)
  · exact zz_J.weak (k1 c hR) rfl trivial
  · exact zz_J.weak (k2 c hR) rfl ⟨rfl, rfl, rfl, trivial⟩
theorem cb_127_92 {X : Nat → Option zz_C} {h : zz_H} {t : cS} {s : mS} {d : Nat} {Q : zz_O → zz_H → Prop} {x2 : Int32} {x3 : Int32} (hR : kR h t s) (k : ∀ {h : zz_H}, kR h t s → zz_J zp_P zt_tf zt_fd X d zm_126 0 [(0, .ref 42), (1, .int x3), (2, .int x2)] [] h (zz_after 2 Q (fun v h' => zz_J zp_P zt_tf zt_fd X (d + 1) zm_127 98 [] (v.toList ++ []) h' Q))) : zz_J zp_P zt_tf zt_fd X (d + 1) zm_127 92 [(0, .ref 42), (2, .int x2), (3, .int x3)] [] h Q := by
  refine zz_J.n 93 rfl rfl rfl ?_
  refine zz_J.n 94 rfl rfl rfl ?_
  refine zz_J.n 95 rfl rfl rfl ?_
  refine zz_J.cv 98 (as := []) rfl rfl (hR.clO ko_42 (by decide) (by decide)) (by decide) (Nat.le_of_ble_eq_true rfl) (Nat.le_of_ble_eq_true rfl) rfl (Nat.le_of_ble_eq_true rfl) rfl ?_
  refine zz_J.mono (k hR) ?_
  intro o h' hE
  cases o with
  | inl v => exact zz_J.weak hE rfl trivial
  | inr q => exact hE
theorem cb_127_98 {X : Nat → Option zz_C} {h : zz_H} {t : cS} {s : mS} {d : Nat} {Q : zz_O → zz_H → Prop} {y0 : Int64} (hR : kR h t s) (k : ∀ {h : zz_H}, kR h t s → zz_J zp_P zt_tf zt_fd X d zm_127 105 [] [.long y0] h Q) : zz_J zp_P zt_tf zt_fd X d zm_127 98 [] [.long y0] h Q := by
  refine zz_J.n 105 rfl rfl rfl ?_
  exact zz_J.weak (k hR) rfl trivial
theorem cb_127_101 {X : Nat → Option zz_C} {h : zz_H} {t : cS} {s : mS} {d : Nat} {Q : zz_O → zz_H → Prop}  (hR : kR h t s) (k : ∀ {h : zz_H}, kR h t s → zz_J zp_P zt_tf zt_fd X d zm_254 0 [(0, .int 3)] [] h (zz_after 1000 Q (fun v h' => zz_J zp_P zt_tf zt_fd X (d + 1) zm_127 105 [] (v.toList ++ []) h' Q))) : zz_J zp_P zt_tf zt_fd X (d + 1) zm_127 101 [] [] h Q := by
  refine zz_J.c 102 (.int 3) rfl rfl rfl rfl ?_
  refine zz_J.cl (M' := zm_254) 105 rfl rfl (by decide) rfl rfl ⟨rfl, Nat.le_of_ble_eq_true rfl⟩ rfl ?_
  refine zz_J.mono (k hR) ?_
  intro o h' hE
  cases o with
  | inl v => exact zz_J.weak hE rfl trivial
  | inr q => exact hE
theorem cb_127_105 {X : Nat → Option zz_C} {h : zz_H} {t : cS} {s : mS} {d : Nat} {Q : zz_O → zz_H → Prop} {y0 : Int64} (hR : kR h t s) (k : ∀ {h : zz_H}, kR h t s → Q (.inl (some (.long y0))) h) : zz_J zp_P zt_tf zt_fd X d zm_127 105 [] [.long y0] h Q := by
  refine zz_J.ret rfl rfl rfl ?_
  exact k hR
def cf_127_105 (N : Nat) (X : Nat → Option zz_C) (y0 : Int64) (t : cS) : kO := some (t, .inl (some (.long y0)))
theorem cr_127_105 {X : Nat → Option zz_C} {s : mS} {N : Nat} {d : Nat} (hd : 10 ≤ d) {Q : zz_O → zz_H → Prop} {y0 : Int64} {h : zz_H} {t t' : cS} {o : kY} (hR : kR h t s) (hf : cf_127_105 N X y0 t = some (t', o)) (k : (∀ h', kR h' t' s → kE o Q h')) : zz_J zp_P zt_tf zt_fd X d zm_127 105 [] [.long y0] h Q := by
  unfold cf_127_105 at hf
  cases hf
  exact cb_127_105 hR  (fun {h} hR => k h hR)
def cf_127_101 (N : Nat) (X : Nat → Option zz_C)  (t : cS) : kO := ko_call 1000 (cf_254 N X 3 t) (fun g1 v1 => co_l v1 (fun y => cf_127_105 N X y g1))
theorem cr_127_101 {X : Nat → Option zz_C} {s : mS} {N : Nat} {d : Nat} (hd : 10 ≤ d) {Q : zz_O → zz_H → Prop}  {h : zz_H} {t t' : cS} {o : kY} (hR : kR h t s) (hf : cf_127_101 N X  t = some (t', o)) (k : (∀ h', kR h' t' s → kE o Q h')) : zz_J zp_P zt_tf zt_fd X d zm_127 101 [] [] h Q := by
  unfold cf_127_101 at hf
  obtain ⟨d', rfl⟩ : ∃ d', d = d' + 1 := ⟨d - 1, by omega⟩
  refine cb_127_101 hR  (fun {h} hR => ?_)
  rcases ko_call_ok hf with ⟨g1, v1, er, hf⟩ | ⟨g1, er, hq⟩
  · obtain ⟨y, hv, hf2⟩ := co_l_ok hf
    clear hf
    have hf := hf2
    clear hf2
    subst hv
    refine cr_254 (by omega) hR er (fun h hR => ?_)
    exact cr_127_105 hd hR hf k
  · refine cr_254 (by omega) hR er (fun h hR => ?_)
    exact ko_thrown hq hR k
def cf_127_98 (N : Nat) (X : Nat → Option zz_C) (y0 : Int64) (t : cS) : kO := cf_127_105 N X y0 t
theorem cr_127_98 {X : Nat → Option zz_C} {s : mS} {N : Nat} {d : Nat} (hd : 10 ≤ d) {Q : zz_O → zz_H → Prop} {y0 : Int64} {h : zz_H} {t t' : cS} {o : kY} (hR : kR h t s) (hf : cf_127_98 N X y0 t = some (t', o)) (k : (∀ h', kR h' t' s → kE o Q h')) : zz_J zp_P zt_tf zt_fd X d zm_127 98 [] [.long y0] h Q := by
  unfold cf_127_98 at hf
  exact cb_127_98 hR  (fun hR => cr_127_105 hd hR hf k)
def cf_127_92 (N : Nat) (X : Nat → Option zz_C) (x2 : Int32) (x3 : Int32) (t : cS) : kO := ko_call 2 (cf_126 N X x3 x2 t) (fun g1 v1 => co_l v1 (fun y => cf_127_98 N X y g1))
theorem cr_127_92 {X : Nat → Option zz_C} {s : mS} {N : Nat} {d : Nat} (hd : 10 ≤ d) {Q : zz_O → zz_H → Prop} {x2 : Int32} {x3 : Int32} {h : zz_H} {t t' : cS} {o : kY} (hR : kR h t s) (hf : cf_127_92 N X x2 x3 t = some (t', o)) (k : (∀ h', kR h' t' s → kE o Q h')) : zz_J zp_P zt_tf zt_fd X d zm_127 92 [(0, .ref 42), (2, .int x2), (3, .int x3)] [] h Q := by
  unfold cf_127_92 at hf
  obtain ⟨d', rfl⟩ : ∃ d', d = d' + 1 := ⟨d - 1, by omega⟩
  refine cb_127_92 hR  (fun {h} hR => ?_)
  rcases ko_call_ok hf with ⟨g1, v1, er, hf⟩ | ⟨g1, er, hq⟩
  · obtain ⟨y, hv, hf2⟩ := co_l_ok hf
    clear hf
    have hf := hf2
    clear hf2
    subst hv
    refine cr_126 (by omega) hR er (fun h hR => ?_)
    exact cr_127_98 hd hR hf k
  · refine cr_126 (by omega) hR er (fun h hR => ?_)
    exact ko_thrown hq hR k
def cf_127_87 (N : Nat) (X : Nat → Option zz_C) (x2 : Int32) (x3 : Int32) (x4 : Int32) (t : cS) : kO := if x4 = 0 then cf_127_101 N X  t else cf_127_92 N X x2 x3 t
theorem cr_127_87 {X : Nat → Option zz_C} {s : mS} {N : Nat} {d : Nat} (hd : 10 ≤ d) {Q : zz_O → zz_H → Prop} {x2 : Int32} {x3 : Int32} {x4 : Int32} {h : zz_H} {t t' : cS} {o : kY} (hR : kR h t s) (hf : cf_127_87 N X x2 x3 x4 t = some (t', o)) (k : (∀ h', kR h' t' s → kE o Q h')) : zz_J zp_P zt_tf zt_fd X d zm_127 87 [(0, .ref 42), (2, .int x2), (3, .int x3), (4, .int x4)] [] h Q := by
  unfold cf_127_87 at hf
  refine cb_127_87 hR  (fun c {h} hR => ?_) (fun c {h} hR => ?_)
  · rw [if_pos c] at hf
    exact cr_127_101 hd hR hf k
  · rw [if_neg c] at hf
    exact cr_127_92 hd hR hf k
def cf_127_79 (N : Nat) (X : Nat → Option zz_C) (rc : Nat → Int32 → Int32 → Int32 → Int32 → cS → kO) (x2 : Int32) (x3 : Int32) (x5 : Int32) (y0 : Int32) (t : cS) : kO := rc 0 x2 x3 y0 (x5 + 1) t
theorem cr_127_79 {X : Nat → Option zz_C} {s : mS} {N : Nat} {d : Nat} (hd : 10 ≤ d) {rc : Nat → Int32 → Int32 → Int32 → Int32 → cS → kO} (hrc0 : ∀ {Q : zz_O → zz_H → Prop} {x2 : Int32} {x3 : Int32} {x4 : Int32} {x5 : Int32} {h : zz_H} {t t' : cS} {o : kY}, kR h t s → rc 0 x2 x3 x4 x5 t = some (t', o) → (∀ h', kR h' t' s → kE o Q h') → zz_J zp_P zt_tf zt_fd X d zm_127 44 [(0, .ref 42), (2, .int x2), (3, .int x3), (4, .int x4), (5, .int x5)] [] h Q) {Q : zz_O → zz_H → Prop} {x2 : Int32} {x3 : Int32} {x5 : Int32} {y0 : Int32} {h : zz_H} {t t' : cS} {o : kY} (hR : kR h t s) (hf : cf_127_79 N X rc x2 x3 x5 y0 t = some (t', o)) (k : (∀ h', kR h' t' s → kE o Q h')) : zz_J zp_P zt_tf zt_fd X d zm_127 79 [(0, .ref 42), (2, .int x2), (3, .int x3), (5, .int x5)] [.int y0] h Q := by
  unfold cf_127_79 at hf
  exact cb_127_79 hR  (fun hR => hrc0 hR hf k)
def cf_127_74 (N : Nat) (X : Nat → Option zz_C) (rc : Nat → Int32 → Int32 → Int32 → Int32 → cS → kO) (x2 : Int32) (x3 : Int32) (x5 : Int32) (t : cS) : kO := cf_127_79 N X rc x2 x3 x5 1 t
theorem cr_127_74 {X : Nat → Option zz_C} {s : mS} {N : Nat} {d : Nat} (hd : 10 ≤ d) {rc : Nat → Int32 → Int32 → Int32 → Int32 → cS → kO} (hrc0 : ∀ {Q : zz_O → zz_H → Prop} {x2 : Int32} {x3 : Int32} {x4 : Int32} {x5 : Int32} {h : zz_H} {t t' : cS} {o : kY}, kR h t s → rc 0 x2 x3 x4 x5 t = some (t', o) → (∀ h', kR h' t' s → kE o Q h') → zz_J zp_P zt_tf zt_fd X d zm_127 44 [(0, .ref 42), (2, .int x2), (3, .int x3), (4, .int x4), (5, .int x5)] [] h Q) {Q : zz_O → zz_H → Prop} {x2 : Int32} {x3 : Int32} {x5 : Int32} {h : zz_H} {t t' : cS} {o : kY} (hR : kR h t s) (hf : cf_127_74 N X rc x2 x3 x5 t = some (t', o)) (k : (∀ h', kR h' t' s → kE o Q h')) : zz_J zp_P zt_tf zt_fd X d zm_127 74 [(0, .ref 42), (2, .int x2), (3, .int x3), (5, .int x5)] [] h Q := by
  unfold cf_127_74 at hf
  exact cb_127_74 hR  (fun hR => cr_127_79 hd hrc0 hR hf k)
def cf_127_78 (N : Nat) (X : Nat → Option zz_C) (rc : Nat → Int32 → Int32 → Int32 → Int32 → cS → kO) (x2 : Int32) (x3 : Int32) (x5 : Int32) (t : cS) : kO := cf_127_79 N X rc x2 x3 x5 0 t
theorem cr_127_78 {X : Nat → Option zz_C} {s : mS} {N : Nat} {d : Nat} (hd : 10 ≤ d) {rc : Nat → Int32 → Int32 → Int32 → Int32 → cS → kO} (hrc0 : ∀ {Q : zz_O → zz_H → Prop} {x2 : Int32} {x3 : Int32} {x4 : Int32} {x5 : Int32} {h : zz_H} {t t' : cS} {o : kY}, kR h t s → rc 0 x2 x3 x4 x5 t = some (t', o) → (∀ h', kR h' t' s → kE o Q h') → zz_J zp_P zt_tf zt_fd X d zm_127 44 [(0, .ref 42), (2, .int x2), (3, .int x3), (4, .int x4), (5, .int x5)] [] h Q) {Q : zz_O → zz_H → Prop} {x2 : Int32} {x3 : Int32} {x5 : Int32} {h : zz_H} {t t' : cS} {o : kY} (hR : kR h t s) (hf : cf_127_78 N X rc x2 x3 x5 t = some (t', o)) (k : (∀ h', kR h' t' s → kE o Q h')) : zz_J zp_P zt_tf zt_fd X d zm_127 78 [(0, .ref 42), (2, .int x2), (3, .int x3), (5, .int x5)] [] h Q := by
  unfold cf_127_78 at hf
  exact cb_127_78 hR  (fun hR => cr_127_79 hd hrc0 hR hf k)
def cf_127_68 (N : Nat) (X : Nat → Option zz_C) (rc : Nat → Int32 → Int32 → Int32 → Int32 → cS → kO) (x2 : Int32) (x3 : Int32) (x5 : Int32) (y0 : Int32) (t : cS) : kO := if ¬ (y0 + 1) = x3 then cf_127_78 N X rc x2 x3 x5 t else cf_127_74 N X rc x2 x3 x5 t
theorem cr_127_68 {X : Nat → Option zz_C} {s : mS} {N : Nat} {d : Nat} (hd : 10 ≤ d) {rc : Nat → Int32 → Int32 → Int32 → Int32 → cS → kO} (hrc0 : ∀ {Q : zz_O → zz_H → Prop} {x2 : Int32} {x3 : Int32} {x4 : Int32} {x5 : Int32} {h : zz_H} {t t' : cS} {o : kY}, kR h t s → rc 0 x2 x3 x4 x5 t = some (t', o) → (∀ h', kR h' t' s → kE o Q h') → zz_J zp_P zt_tf zt_fd X d zm_127 44 [(0, .ref 42), (2, .int x2), (3, .int x3), (4, .int x4), (5, .int x5)] [] h Q) {Q : zz_O → zz_H → Prop} {x2 : Int32} {x3 : Int32} {x5 : Int32} {y0 : Int32} {h : zz_H} {t t' : cS} {o : kY} (hR : kR h t s) (hf : cf_127_68 N X rc x2 x3 x5 y0 t = some (t', o)) (k : (∀ h', kR h' t' s → kE o Q h')) : zz_J zp_P zt_tf zt_fd X d zm_127 68 [(0, .ref 42), (2, .int x2), (3, .int x3), (5, .int x5)] [.int y0] h Q := by
  unfold cf_127_68 at hf
  refine cb_127_68 hR  (fun c {h} hR => ?_) (fun c {h} hR => ?_)
  · rw [if_pos c] at hf
    exact cr_127_78 hd hrc0 hR hf k
  · rw [if_neg c] at hf
    exact cr_127_74 hd hrc0 hR hf k
def cf_127_58 (N : Nat) (X : Nat → Option zz_C) (rc : Nat → Int32 → Int32 → Int32 → Int32 → cS → kO) (x2 : Int32) (x3 : Int32) (x5 : Int32) (t : cS) : kO := if ¬ (x5 < 0 ∨ (kB t 44).1 ≤ (Int32.toNatClampNeg x5)) then (ko_call 1000 (cf_255 N X ((kB t 44).2 (Int32.toNatClampNeg x5)) t) (fun g1 v1 => co_i v1 (fun y => cf_127_68 N X rc x2 x3 x5 y g1))) else none
theorem cr_127_58 {X : Nat → Option zz_C} {s : mS} {N : Nat} {d : Nat} (hd : 10 ≤ d) {rc : Nat → Int32 → Int32 → Int32 → Int32 → cS → kO} (hrc0 : ∀ {Q : zz_O → zz_H → Prop} {x2 : Int32} {x3 : Int32} {x4 : Int32} {x5 : Int32} {h : zz_H} {t t' : cS} {o : kY}, kR h t s → rc 0 x2 x3 x4 x5 t = some (t', o) → (∀ h', kR h' t' s → kE o Q h') → zz_J zp_P zt_tf zt_fd X d zm_127 44 [(0, .ref 42), (2, .int x2), (3, .int x3), (4, .int x4), (5, .int x5)] [] h Q) {Q : zz_O → zz_H → Prop} {x2 : Int32} {x3 : Int32} {x5 : Int32} {h : zz_H} {t t' : cS} {o : kY} (hR : kR h t s) (hf : cf_127_58 N X rc x2 x3 x5 t = some (t', o)) (k : (∀ h', kR h' t' s → kE o Q h')) : zz_J zp_P zt_tf zt_fd X d zm_127 58 [(0, .ref 42), (2, .int x2), (3, .int x3), (5, .int x5)] [] h Q := by
  unfold cf_127_58 at hf
  obtain ⟨e0, hf⟩ := ko_if hf
  obtain ⟨d', rfl⟩ : ∃ d', d = d' + 1 := ⟨d - 1, by omega⟩
  refine cb_127_58 hR e0 (fun {h} hR => ?_)
  rcases ko_call_ok hf with ⟨g1, v1, er, hf⟩ | ⟨g1, er, hq⟩
  · obtain ⟨y, hv, hf2⟩ := co_i_ok hf
    clear hf
    have hf := hf2
    clear hf2
    subst hv
    refine cr_255 (by omega) hR er (fun h hR => ?_)
    exact cr_127_68 hd hrc0 hR hf k
  · refine cr_255 (by omega) hR er (fun h hR => ?_)
    exact ko_thrown hq hR k
def cf_127_53 (N : Nat) (X : Nat → Option zz_C) (rc : Nat → Int32 → Int32 → Int32 → Int32 → cS → kO) (x2 : Int32) (x3 : Int32) (x4 : Int32) (x5 : Int32) (t : cS) : kO := if x4 = 0 then cf_127_87 N X x2 x3 x4 t else cf_127_58 N X rc x2 x3 x5 t
theorem cr_127_53 {X : Nat → Option zz_C} {s : mS} {N : Nat} {d : Nat} (hd : 10 ≤ d) {rc : Nat → Int32 → Int32 → Int32 → Int32 → cS → kO} (hrc0 : ∀ {Q : zz_O → zz_H → Prop} {x2 : Int32} {x3 : Int32} {x4 : Int32} {x5 : Int32} {h : zz_H} {t t' : cS} {o : kY}, kR h t s → rc 0 x2 x3 x4 x5 t = some (t', o) → (∀ h', kR h' t' s → kE o Q h') → zz_J zp_P zt_tf zt_fd X d zm_127 44 [(0, .ref 42), (2, .int x2), (3, .int x3), (4, .int x4), (5, .int x5)] [] h Q) {Q : zz_O → zz_H → Prop} {x2 : Int32} {x3 : Int32} {x4 : Int32} {x5 : Int32} {h : zz_H} {t t' : cS} {o : kY} (hR : kR h t s) (hf : cf_127_53 N X rc x2 x3 x4 x5 t = some (t', o)) (k : (∀ h', kR h' t' s → kE o Q h')) : zz_J zp_P zt_tf zt_fd X d zm_127 53 [(0, .ref 42), (2, .int x2), (3, .int x3), (4, .int x4), (5, .int x5)] [] h Q := by
  unfold cf_127_53 at hf
  refine cb_127_53 hR  (fun c {h} hR => ?_) (fun c {h} hR => ?_)
  · rw [if_pos c] at hf
    exact cr_127_87 hd hR hf k
  · rw [if_neg c] at hf
    exact cr_127_58 hd hrc0 hR hf k
def cf_127_44 (N : Nat) (X : Nat → Option zz_C) (rc : Nat → Int32 → Int32 → Int32 → Int32 → cS → kO) (x2 : Int32) (x3 : Int32) (x4 : Int32) (x5 : Int32) (t : cS) : kO := if (kI t 42 3) ≤ x5 then cf_127_87 N X x2 x3 x4 t else cf_127_53 N X rc x2 x3 x4 x5 t
theorem cr_127_44 {X : Nat → Option zz_C} {s : mS} {N : Nat} {d : Nat} (hd : 10 ≤ d) {rc : Nat → Int32 → Int32 → Int32 → Int32 → cS → kO} (hrc0 : ∀ {Q : zz_O → zz_H → Prop} {x2 : Int32} {x3 : Int32} {x4 : Int32} {x5 : Int32} {h : zz_H} {t t' : cS} {o : kY}, kR h t s → rc 0 x2 x3 x4 x5 t = some (t', o) → (∀ h', kR h' t' s → kE o Q h') → zz_J zp_P zt_tf zt_fd X d zm_127 44 [(0, .ref 42), (2, .int x2), (3, .int x3), (4, .int x4), (5, .int x5)] [] h Q) {Q : zz_O → zz_H → Prop} {x2 : Int32} {x3 : Int32} {x4 : Int32} {x5 : Int32} {h : zz_H} {t t' : cS} {o : kY} (hR : kR h t s) (hf : cf_127_44 N X rc x2 x3 x4 x5 t = some (t', o)) (k : (∀ h', kR h' t' s → kE o Q h')) : zz_J zp_P zt_tf zt_fd X d zm_127 44 [(0, .ref 42), (2, .int x2), (3, .int x3), (4, .int x4), (5, .int x5)] [] h Q := by
  unfold cf_127_44 at hf
  refine cb_127_44 hR  (fun c {h} hR => ?_) (fun c {h} hR => ?_)
  · rw [if_pos c] at hf
    exact cr_127_87 hd hR hf k
  · rw [if_neg c] at hf
    exact cr_127_53 hd hrc0 hR hf k
def cf_127_L5 (N : Nat) (X : Nat → Option zz_C) : Nat → Nat → Int32 → Int32 → Int32 → Int32 → cS → kO
  | 0, _, _, _, _, _, _ => none
  | n + 1, l, x2, x3, x4, x5, t => if l = 0 then cf_127_44 N X (cf_127_L5 N X n) x2 x3 x4 x5 t else none
theorem cr_127_L5 {X : Nat → Option zz_C} {s : mS} {N : Nat} {d : Nat} (hd : 10 ≤ d) : ∀ n : Nat, (∀ {Q : zz_O → zz_H → Prop} {x2 : Int32} {x3 : Int32} {x4 : Int32} {x5 : Int32} {h : zz_H} {t t' : cS} {o : kY}, kR h t s → cf_127_L5 N X n 0 x2 x3 x4 x5 t = some (t', o) → (∀ h', kR h' t' s → kE o Q h') → zz_J zp_P zt_tf zt_fd X d zm_127 44 [(0, .ref 42), (2, .int x2), (3, .int x3), (4, .int x4), (5, .int x5)] [] h Q) := by
  intro n
  induction n with
  | zero => exact (fun _ hf _ => by cases hf)
  | succ n ih =>
    have h0 := @ih
    intro Q _ _ _ _ h t t' o hR hf k
    unfold cf_127_L5 at hf
    rw [if_pos rfl] at hf
    exact cr_127_44 hd h0 hR hf k
def cf_127_39 (N : Nat) (X : Nat → Option zz_C) (x2 : Int32) (x3 : Int32) (y0 : Int32) (t : cS) : kO := cf_127_L5 N X N 0 x2 x3 y0 x2 t
theorem cr_127_39 {X : Nat → Option zz_C} {s : mS} {N : Nat} {d : Nat} (hd : 10 ≤ d) {Q : zz_O → zz_H → Prop} {x2 : Int32} {x3 : Int32} {y0 : Int32} {h : zz_H} {t t' : cS} {o : kY} (hR : kR h t s) (hf : cf_127_39 N X x2 x3 y0 t = some (t', o)) (k : (∀ h', kR h' t' s → kE o Q h')) : zz_J zp_P zt_tf zt_fd X d zm_127 39 [(0, .ref 42), (2, .int x2), (3, .int x3)] [.int y0] h Q := by
  unfold cf_127_39 at hf
  exact cb_127_39 hR  (fun hR => cr_127_L5 hd N hR hf k)
def cf_127_34 (N : Nat) (X : Nat → Option zz_C) (x2 : Int32) (x3 : Int32) (t : cS) : kO := cf_127_39 N X x2 x3 1 t
theorem cr_127_34 {X : Nat → Option zz_C} {s : mS} {N : Nat} {d : Nat} (hd : 10 ≤ d) {Q : zz_O → zz_H → Prop} {x2 : Int32} {x3 : Int32} {h : zz_H} {t t' : cS} {o : kY} (hR : kR h t s) (hf : cf_127_34 N X x2 x3 t = some (t', o)) (k : (∀ h', kR h' t' s → kE o Q h')) : zz_J zp_P zt_tf zt_fd X d zm_127 34 [(0, .ref 42), (2, .int x2), (3, .int x3)] [] h Q := by
  unfold cf_127_34 at hf
  exact cb_127_34 hR  (fun hR => cr_127_39 hd hR hf k)
def cf_127_38 (N : Nat) (X : Nat → Option zz_C) (x2 : Int32) (x3 : Int32) (t : cS) : kO := cf_127_39 N X x2 x3 0 t
theorem cr_127_38 {X : Nat → Option zz_C} {s : mS} {N : Nat} {d : Nat} (hd : 10 ≤ d) {Q : zz_O → zz_H → Prop} {x2 : Int32} {x3 : Int32} {h : zz_H} {t t' : cS} {o : kY} (hR : kR h t s) (hf : cf_127_38 N X x2 x3 t = some (t', o)) (k : (∀ h', kR h' t' s → kE o Q h')) : zz_J zp_P zt_tf zt_fd X d zm_127 38 [(0, .ref 42), (2, .int x2), (3, .int x3)] [] h Q := by
  unfold cf_127_38 at hf
  exact cb_127_38 hR  (fun hR => cr_127_39 hd hR hf k)
def cf_127_29 (N : Nat) (X : Nat → Option zz_C) (x2 : Int32) (x3 : Int32) (t : cS) : kO := if ¬ x3 = 2 then cf_127_38 N X x2 x3 t else cf_127_34 N X x2 x3 t
theorem cr_127_29 {X : Nat → Option zz_C} {s : mS} {N : Nat} {d : Nat} (hd : 10 ≤ d) {Q : zz_O → zz_H → Prop} {x2 : Int32} {x3 : Int32} {h : zz_H} {t t' : cS} {o : kY} (hR : kR h t s) (hf : cf_127_29 N X x2 x3 t = some (t', o)) (k : (∀ h', kR h' t' s → kE o Q h')) : zz_J zp_P zt_tf zt_fd X d zm_127 29 [(0, .ref 42), (2, .int x2), (3, .int x3)] [] h Q := by
  unfold cf_127_29 at hf
  refine cb_127_29 hR  (fun c {h} hR => ?_) (fun c {h} hR => ?_)
  · rw [if_pos c] at hf
    exact cr_127_38 hd hR hf k
  · rw [if_neg c] at hf
    exact cr_127_34 hd hR hf k
def cf_127_23 (N : Nat) (X : Nat → Option zz_C) (x2 : Int32) (y0 : Int32) (t : cS) : kO := if y0 = 1 then cf_127_34 N X x2 y0 t else cf_127_29 N X x2 y0 t
theorem cr_127_23 {X : Nat → Option zz_C} {s : mS} {N : Nat} {d : Nat} (hd : 10 ≤ d) {Q : zz_O → zz_H → Prop} {x2 : Int32} {y0 : Int32} {h : zz_H} {t t' : cS} {o : kY} (hR : kR h t s) (hf : cf_127_23 N X x2 y0 t = some (t', o)) (k : (∀ h', kR h' t' s → kE o Q h')) : zz_J zp_P zt_tf zt_fd X d zm_127 23 [(0, .ref 42), (2, .int x2)] [.int y0] h Q := by
  unfold cf_127_23 at hf
  refine cb_127_23 hR  (fun c {h} hR => ?_) (fun c {h} hR => ?_)
  · rw [if_pos c] at hf
    exact cr_127_34 hd hR hf k
  · rw [if_neg c] at hf
    exact cr_127_29 hd hR hf k
def cf_127_22 (N : Nat) (X : Nat → Option zz_C) (x1 : Int32) (x2 : Int32) (t : cS) : kO := cf_127_23 N X x2 x1 t
theorem cr_127_22 {X : Nat → Option zz_C} {s : mS} {N : Nat} {d : Nat} (hd : 10 ≤ d) {Q : zz_O → zz_H → Prop} {x1 : Int32} {x2 : Int32} {h : zz_H} {t t' : cS} {o : kY} (hR : kR h t s) (hf : cf_127_22 N X x1 x2 t = some (t', o)) (k : (∀ h', kR h' t' s → kE o Q h')) : zz_J zp_P zt_tf zt_fd X d zm_127 22 [(0, .ref 42), (1, .int x1), (2, .int x2)] [] h Q := by
  unfold cf_127_22 at hf
  exact cb_127_22 hR  (fun hR => cr_127_23 hd hR hf k)
def cf_127_17 (N : Nat) (X : Nat → Option zz_C) (x2 : Int32) (y0 : Int32) (t : cS) : kO := cf_127_23 N X x2 (y0 + 1) t
theorem cr_127_17 {X : Nat → Option zz_C} {s : mS} {N : Nat} {d : Nat} (hd : 10 ≤ d) {Q : zz_O → zz_H → Prop} {x2 : Int32} {y0 : Int32} {h : zz_H} {t t' : cS} {o : kY} (hR : kR h t s) (hf : cf_127_17 N X x2 y0 t = some (t', o)) (k : (∀ h', kR h' t' s → kE o Q h')) : zz_J zp_P zt_tf zt_fd X d zm_127 17 [(0, .ref 42), (2, .int x2)] [.int y0] h Q := by
  unfold cf_127_17 at hf
  exact cb_127_17 hR  (fun hR => cr_127_23 hd hR hf k)
def cf_127_8 (N : Nat) (X : Nat → Option zz_C) (x2 : Int32) (t : cS) : kO := if ¬ (x2 < 0 ∨ (kB t 44).1 ≤ (Int32.toNatClampNeg x2)) then (ko_call 1000 (cf_255 N X ((kB t 44).2 (Int32.toNatClampNeg x2)) t) (fun g1 v1 => co_i v1 (fun y => cf_127_17 N X x2 y g1))) else none
theorem cr_127_8 {X : Nat → Option zz_C} {s : mS} {N : Nat} {d : Nat} (hd : 10 ≤ d) {Q : zz_O → zz_H → Prop} {x2 : Int32} {h : zz_H} {t t' : cS} {o : kY} (hR : kR h t s) (hf : cf_127_8 N X x2 t = some (t', o)) (k : (∀ h', kR h' t' s → kE o Q h')) : zz_J zp_P zt_tf zt_fd X d zm_127 8 [(0, .ref 42), (2, .int x2)] [] h Q := by
  unfold cf_127_8 at hf
  obtain ⟨e0, hf⟩ := ko_if hf
  obtain ⟨d', rfl⟩ : ∃ d', d = d' + 1 := ⟨d - 1, by omega⟩
  refine cb_127_8 hR e0 (fun {h} hR => ?_)
  rcases ko_call_ok hf with ⟨g1, v1, er, hf⟩ | ⟨g1, er, hq⟩
  · obtain ⟨y, hv, hf2⟩ := co_i_ok hf
    clear hf
    have hf := hf2
    clear hf2
    subst hv
    refine cr_255 (by omega) hR er (fun h hR => ?_)
    exact cr_127_17 hd hR hf k
  · refine cr_255 (by omega) hR er (fun h hR => ?_)
    exact ko_thrown hq hR k
def cf_127_0 (N : Nat) (X : Nat → Option zz_C) (x1 : Int32) (x2 : Int32) (t : cS) : kO := if (kI t 42 3) ≤ x2 then cf_127_22 N X x1 x2 t else cf_127_8 N X x2 t
theorem cr_127_0 {X : Nat → Option zz_C} {s : mS} {N : Nat} {d : Nat} (hd : 10 ≤ d) {Q : zz_O → zz_H → Prop} {x1 : Int32} {x2 : Int32} {h : zz_H} {t t' : cS} {o : kY} (hR : kR h t s) (hf : cf_127_0 N X x1 x2 t = some (t', o)) (k : (∀ h', kR h' t' s → kE o Q h')) : zz_J zp_P zt_tf zt_fd X d zm_127 0 [(0, .ref 42), (1, .int x1), (2, .int x2)] [] h Q := by
  unfold cf_127_0 at hf
  refine cb_127_0 hR  (fun c {h} hR => ?_) (fun c {h} hR => ?_)
  · rw [if_pos c] at hf
    exact cr_127_22 hd hR hf k
  · rw [if_neg c] at hf
    exact cr_127_8 hd hR hf k
/-- buildAlike -/
def cf_127 (N : Nat) (X : Nat → Option zz_C) (x1 : Int32) (x2 : Int32) (t : cS) : kO := cf_127_0 N X x1 x2 t
theorem cr_127 {X : Nat → Option zz_C} {s : mS} {N : Nat} {d : Nat} (hd : 10 ≤ d) {Q : zz_O → zz_H → Prop} {x1 : Int32} {x2 : Int32} {h : zz_H} {t t' : cS} {o : kY} (hR : kR h t s) (hf : cf_127 N X x1 x2 t = some (t', o)) (k : ∀ h', kR h' t' s → kE o Q h') : zz_J zp_P zt_tf zt_fd X d zm_127 0 [(0, .ref 42), (1, .int x1), (2, .int x2)] [] h Q := by
  unfold cf_127 at hf
  exact zz_J.weak (cr_127_0 hd hR hf k) rfl ⟨rfl, rfl, rfl, trivial⟩
/-! yX2_intsOf (J)I -/
theorem cb_136_0 {X : Nat → Option zz_C} {h : zz_H} {t : cS} {s : mS} {d : Nat} {Q : zz_O → zz_H → Prop} {x1 : Int64} (hR : kR h t s) (k1 : ((Int64.toInt32 x1) + 1) < 0 → (∀ {h : zz_H}, kR h t s → zz_J zp_P zt_tf zt_fd X d zm_136 27 [] [] h Q)) (k2 : ¬ ((Int64.toInt32 x1) + 1) < 0 → (∀ {h : zz_H}, kR h t s → zz_J zp_P zt_tf zt_fd X d zm_136 9 [(0, .ref 42), (3, .int ((Int64.toInt32 x1) + 1))] [] h Q)) : zz_J zp_P zt_tf zt_fd X d zm_136 0 [(0, .ref 42), (1, .long x1)] [] h Q := by
  refine zz_J.n 1 rfl rfl rfl ?_
  refine zz_J.n 2 rfl rfl rfl ?_
  refine zz_J.c 3 (.int 1) rfl rfl rfl rfl ?_
  refine zz_J.n 4 rfl rfl rfl ?_
  refine zz_J.n 5 rfl rfl rfl ?_
  refine zz_J.n 6 rfl rfl rfl ?_
  refine zz_J.b1 27 9 (A := ((Int64.toInt32 x1) + 1) < 0) rfl rfl (by decide) rfl rfl (fun c => ?_) (fun c => ?_)
  · exact zz_J.weak (k1 c hR) rfl trivial
  · exact zz_J.weak (k2 c hR) rfl ⟨rfl, rfl, trivial⟩
theorem cb_136_9 {X : Nat → Option zz_C} {h : zz_H} {t : cS} {s : mS} {d : Nat} {Q : zz_O → zz_H → Prop} {x3 : Int32} (hR : kR h t s) (k1 : (kI t 42 1) ≤ x3 → (∀ {h : zz_H}, kR h t s → zz_J zp_P zt_tf zt_fd X d zm_136 27 [] [] h Q)) (k2 : ¬ (kI t 42 1) ≤ x3 → (∀ {h : zz_H}, kR h t s → zz_J zp_P zt_tf zt_fd X d zm_136 17 [(0, .ref 42), (3, .int x3)] [] h Q)) : zz_J zp_P zt_tf zt_fd X d zm_136 9 [(0, .ref 42), (3, .int x3)] [] h Q := by
  refine zz_J.n 10 rfl rfl rfl ?_
  refine zz_J.n 11 rfl rfl rfl ?_
  refine zz_J.g 14 rfl (hR.gv (v := .int (kI t 42 1)) ko_42 (by decide) rfl) rfl ?_
  refine zz_J.b2 27 17 (A := (kI t 42 1) ≤ x3) rfl rfl (by decide) rfl rfl (fun c => ?_) (fun c => ?_)
  · exact zz_J.weak (k1 c hR) rfl trivial
  · exact zz_J.weak (k2 c hR) rfl ⟨rfl, rfl, trivial⟩
theorem cb_136_17 {X : Nat → Option zz_C} {h : zz_H} {t : cS} {s : mS} {d : Nat} {Q : zz_O → zz_H → Prop} {x3 : Int32} (hR : kR h t s) (e0 : ¬ (x3 < 0 ∨ (kB t 43).1 ≤ (Int32.toNatClampNeg x3))) (k : ∀ {h : zz_H}, kR h t s → zz_J zp_P zt_tf zt_fd X d zm_136 28 [] [.int (Int64.toInt32 ((kB t 43).2 (Int32.toNatClampNeg x3)))] h Q) : zz_J zp_P zt_tf zt_fd X d zm_136 17 [(0, .ref 42), (3, .int x3)] [] h Q := by
  refine zz_J.n 18 rfl rfl rfl ?_
  refine zz_J.g 21 rfl (hR.gv (v := .ref (kD t 43)) ko_42 (by decide) rfl) rfl ?_
  refine zz_J.n 22 rfl rfl rfl ?_
  refine zz_J.al 23 rfl (hR.al (w := ((kB t 43).2 (Int32.toNatClampNeg x3))) ka_43 rfl e0 rfl) rfl ?_
  refine zz_J.n 24 rfl rfl rfl ?_
  refine zz_J.n 28 rfl rfl rfl ?_
  exact zz_J.weak (k hR) rfl trivial
theorem cb_136_27 {X : Nat → Option zz_C} {h : zz_H} {t : cS} {s : mS} {d : Nat} {Q : zz_O → zz_H → Prop}  (hR : kR h t s) (k : ∀ {h : zz_H}, kR h t s → zz_J zp_P zt_tf zt_fd X d zm_136 28 [] [.int 0] h Q) : zz_J zp_P zt_tf zt_fd X d zm_136 27 [] [] h Q := by
  refine zz_J.c 28 (.int 0) rfl rfl rfl rfl ?_
  exact zz_J.weak (k hR) rfl trivial
theorem cb_136_28 {X : Nat → Option zz_C} {h : zz_H} {t : cS} {s : mS} {d : Nat} {Q : zz_O → zz_H → Prop} {y0 : Int32} (hR : kR h t s) (k : ∀ {h : zz_H}, kR h t s → Q (.inl (some (.int y0))) h) : zz_J zp_P zt_tf zt_fd X d zm_136 28 [] [.int y0] h Q := by
  refine zz_J.ret rfl rfl rfl ?_
  exact k hR
def cf_136_28 (N : Nat) (X : Nat → Option zz_C) (y0 : Int32) (t : cS) : kO := some (t, .inl (some (.int y0)))
theorem cr_136_28 {X : Nat → Option zz_C} {s : mS} {N : Nat} {d : Nat} (hd : 0 ≤ d) {Q : zz_O → zz_H → Prop} {y0 : Int32} {h : zz_H} {t t' : cS} {o : kY} (hR : kR h t s) (hf : cf_136_28 N X y0 t = some (t', o)) (k : (∀ h', kR h' t' s → kE o Q h')) : zz_J zp_P zt_tf zt_fd X d zm_136 28 [] [.int y0] h Q := by
  unfold cf_136_28 at hf
  cases hf
  exact cb_136_28 hR  (fun {h} hR => k h hR)
def cf_136_27 (N : Nat) (X : Nat → Option zz_C)  (t : cS) : kO := cf_136_28 N X 0 t
theorem cr_136_27 {X : Nat → Option zz_C} {s : mS} {N : Nat} {d : Nat} (hd : 0 ≤ d) {Q : zz_O → zz_H → Prop}  {h : zz_H} {t t' : cS} {o : kY} (hR : kR h t s) (hf : cf_136_27 N X  t = some (t', o)) (k : (∀ h', kR h' t' s → kE o Q h')) : zz_J zp_P zt_tf zt_fd X d zm_136 27 [] [] h Q := by
  unfold cf_136_27 at hf
  exact cb_136_27 hR  (fun hR => cr_136_28 hd hR hf k)
def cf_136_17 (N : Nat) (X : Nat → Option zz_C) (x3 : Int32) (t : cS) : kO := if ¬ (x3 < 0 ∨ (kB t 43).1 ≤ (Int32.toNatClampNeg x3)) then (cf_136_28 N X (Int64.toInt32 ((kB t 43).2 (Int32.toNatClampNeg x3))) t) else none
theorem cr_136_17 {X : Nat → Option zz_C} {s : mS} {N : Nat} {d : Nat} (hd : 0 ≤ d) {Q : zz_O → zz_H → Prop} {x3 : Int32} {h : zz_H} {t t' : cS} {o : kY} (hR : kR h t s) (hf : cf_136_17 N X x3 t = some (t', o)) (k : (∀ h', kR h' t' s → kE o Q h')) : zz_J zp_P zt_tf zt_fd X d zm_136 17 [(0, .ref 42), (3, .int x3)] [] h Q := by
  unfold cf_136_17 at hf
  obtain ⟨e0, hf⟩ := ko_if hf
  exact cb_136_17 hR e0 (fun hR => cr_136_28 hd hR hf k)
def cf_136_9 (N : Nat) (X : Nat → Option zz_C) (x3 : Int32) (t : cS) : kO := if (kI t 42 1) ≤ x3 then cf_136_27 N X  t else cf_136_17 N X x3 t
theorem cr_136_9 {X : Nat → Option zz_C} {s : mS} {N : Nat} {d : Nat} (hd : 0 ≤ d) {Q : zz_O → zz_H → Prop} {x3 : Int32} {h : zz_H} {t t' : cS} {o : kY} (hR : kR h t s) (hf : cf_136_9 N X x3 t = some (t', o)) (k : (∀ h', kR h' t' s → kE o Q h')) : zz_J zp_P zt_tf zt_fd X d zm_136 9 [(0, .ref 42), (3, .int x3)] [] h Q := by
  unfold cf_136_9 at hf
  refine cb_136_9 hR  (fun c {h} hR => ?_) (fun c {h} hR => ?_)
  · rw [if_pos c] at hf
    exact cr_136_27 hd hR hf k
  · rw [if_neg c] at hf
    exact cr_136_17 hd hR hf k
def cf_136_0 (N : Nat) (X : Nat → Option zz_C) (x1 : Int64) (t : cS) : kO := if ((Int64.toInt32 x1) + 1) < 0 then cf_136_27 N X  t else cf_136_9 N X ((Int64.toInt32 x1) + 1) t
theorem cr_136_0 {X : Nat → Option zz_C} {s : mS} {N : Nat} {d : Nat} (hd : 0 ≤ d) {Q : zz_O → zz_H → Prop} {x1 : Int64} {h : zz_H} {t t' : cS} {o : kY} (hR : kR h t s) (hf : cf_136_0 N X x1 t = some (t', o)) (k : (∀ h', kR h' t' s → kE o Q h')) : zz_J zp_P zt_tf zt_fd X d zm_136 0 [(0, .ref 42), (1, .long x1)] [] h Q := by
  unfold cf_136_0 at hf
  refine cb_136_0 hR  (fun c {h} hR => ?_) (fun c {h} hR => ?_)
  · rw [if_pos c] at hf
    exact cr_136_27 hd hR hf k
  · rw [if_neg c] at hf
    exact cr_136_9 hd hR hf k
/-- intsOf -/
def cf_136 (N : Nat) (X : Nat → Option zz_C) (x1 : Int64) (t : cS) : kO := cf_136_0 N X x1 t
theorem cr_136 {X : Nat → Option zz_C} {s : mS} {N : Nat} {d : Nat} (hd : 0 ≤ d) {Q : zz_O → zz_H → Prop} {x1 : Int64} {h : zz_H} {t t' : cS} {o : kY} (hR : kR h t s) (hf : cf_136 N X x1 t = some (t', o)) (k : ∀ h', kR h' t' s → kE o Q h') : zz_J zp_P zt_tf zt_fd X d zm_136 0 [(0, .ref 42), (1, .long x1)] [] h Q := by
  unfold cf_136 at hf
  exact zz_J.weak (cr_136_0 hd hR hf k) rfl ⟨rfl, rfl, trivial⟩
/-! yX2_madeOf (J)I -/
theorem cb_131_0 {X : Nat → Option zz_C} {h : zz_H} {t : cS} {s : mS} {d : Nat} {Q : zz_O → zz_H → Prop} {x1 : Int64} (hR : kR h t s) (k : ∀ {h : zz_H}, kR h t s → zz_J zp_P zt_tf zt_fd X d zm_255 0 [(0, .long x1)] [] h (zz_after 1000 Q (fun v h' => zz_J zp_P zt_tf zt_fd X (d + 1) zm_131 4 [(0, .ref 42), (1, .long x1)] (v.toList ++ []) h' Q))) : zz_J zp_P zt_tf zt_fd X (d + 1) zm_131 0 [(0, .ref 42), (1, .long x1)] [] h Q := by
  refine zz_J.n 1 rfl rfl rfl ?_
  refine zz_J.cl (M' := zm_255) 4 rfl rfl (by decide) rfl rfl ⟨rfl, Nat.le_of_ble_eq_true rfl⟩ rfl ?_
  refine zz_J.mono (k hR) ?_
  intro o h' hE
  cases o with
  | inl v => exact zz_J.weak hE rfl ⟨rfl, rfl, trivial⟩
  | inr q => exact hE
theorem cb_131_4 {X : Nat → Option zz_C} {h : zz_H} {t : cS} {s : mS} {d : Nat} {Q : zz_O → zz_H → Prop} {x1 : Int64} {y0 : Int32} (hR : kR h t s) (c1 : y0 = 1 → (∀ {h : zz_H}, kR h t s → zz_J zp_P zt_tf zt_fd X d zm_131 32 [(0, .ref 42), (1, .long x1)] [] h Q)) (c2 : y0 = 2 → (∀ {h : zz_H}, kR h t s → zz_J zp_P zt_tf zt_fd X d zm_131 40 [(0, .ref 42), (1, .long x1)] [] h Q)) (c3 : y0 = 3 → (∀ {h : zz_H}, kR h t s → zz_J zp_P zt_tf zt_fd X d zm_131 56 [(0, .ref 42), (1, .long x1)] [] h Q)) (kd : (Int32.toInt y0 < 1 ∨ 3 < Int32.toInt y0) → (∀ {h : zz_H}, kR h t s → zz_J zp_P zt_tf zt_fd X d zm_131 66 [] [] h Q)) : zz_J zp_P zt_tf zt_fd X d zm_131 4 [(0, .ref 42), (1, .long x1)] [.int y0] h Q := by
  by_cases hx : Int32.toInt y0 < 1 ∨ 3 < Int32.toInt y0
  · exact zz_J.td 66 rfl hx (by decide) rfl (zz_J.weak (kd hx hR) rfl trivial)
  · have hv : Int32.toInt y0 = 1 ∨ Int32.toInt y0 = 2 ∨ Int32.toInt y0 = 3 := by omega
    rcases hv with hv | hv | hv
    · have e : y0 = 1 := Int32.toInt_inj.mp (hv.trans rfl)
      exact zz_J.tv 32 rfl e rfl (zz_J.weak (c1 e hR) rfl ⟨rfl, rfl, trivial⟩)
    · have e : y0 = 2 := Int32.toInt_inj.mp (hv.trans rfl)
      exact zz_J.tv 40 rfl e rfl (zz_J.weak (c2 e hR) rfl ⟨rfl, rfl, trivial⟩)
    · have e : y0 = 3 := Int32.toInt_inj.mp (hv.trans rfl)
      exact zz_J.tv 56 rfl e rfl (zz_J.weak (c3 e hR) rfl ⟨rfl, rfl, trivial⟩)
theorem cb_131_32 {X : Nat → Option zz_C} {h : zz_H} {t : cS} {s : mS} {d : Nat} {Q : zz_O → zz_H → Prop} {x1 : Int64} (hR : kR h t s) (k : ∀ {h : zz_H}, kR h t s → zz_J zp_P zt_tf zt_fd X d zm_128 0 [(0, .ref 42), (1, .long x1)] [] h (zz_after 2 Q (fun v h' => zz_J zp_P zt_tf zt_fd X (d + 1) zm_131 38 [] (v.toList ++ [.int 4]) h' Q))) : zz_J zp_P zt_tf zt_fd X (d + 1) zm_131 32 [(0, .ref 42), (1, .long x1)] [] h Q := by
  refine zz_J.c 33 (.int 4) rfl rfl rfl rfl ?_
  refine zz_J.n 34 rfl rfl rfl ?_
  refine zz_J.n 35 rfl rfl rfl ?_
  refine zz_J.cv 38 (as := [.int 4]) rfl rfl (hR.clO ko_42 (by decide) (by decide)) (by decide) (Nat.le_of_ble_eq_true rfl) (Nat.le_of_ble_eq_true rfl) rfl (Nat.le_of_ble_eq_true rfl) rfl ?_
  refine zz_J.mono (k hR) ?_
  intro o h' hE
  cases o with
  | inl v => exact zz_J.weak hE rfl trivial
  | inr q => exact hE
theorem cb_131_38 {X : Nat → Option zz_C} {h : zz_H} {t : cS} {s : mS} {d : Nat} {Q : zz_O → zz_H → Prop} {y0 : Int32} {y1 : Int32} (hR : kR h t s) (k : ∀ {h : zz_H}, kR h t s → Q (.inl (some (.int (y0 + y1)))) h) : zz_J zp_P zt_tf zt_fd X d zm_131 38 [] [.int y1, .int y0] h Q := by
  refine zz_J.n 39 rfl rfl rfl ?_
  refine zz_J.ret rfl rfl rfl ?_
  exact k hR
theorem cb_131_40 {X : Nat → Option zz_C} {h : zz_H} {t : cS} {s : mS} {d : Nat} {Q : zz_O → zz_H → Prop} {x1 : Int64} (hR : kR h t s) (k : ∀ {h : zz_H}, kR h t s → zz_J zp_P zt_tf zt_fd X d zm_128 0 [(0, .ref 42), (1, .long x1)] [] h (zz_after 2 Q (fun v h' => zz_J zp_P zt_tf zt_fd X (d + 1) zm_131 47 [(0, .ref 42), (1, .long x1)] (v.toList ++ [.int 4, .int 4]) h' Q))) : zz_J zp_P zt_tf zt_fd X (d + 1) zm_131 40 [(0, .ref 42), (1, .long x1)] [] h Q := by
  refine zz_J.c 41 (.int 4) rfl rfl rfl rfl ?_
  refine zz_J.c 42 (.int 4) rfl rfl rfl rfl ?_
  refine zz_J.n 43 rfl rfl rfl ?_
  refine zz_J.n 44 rfl rfl rfl ?_
  refine zz_J.cv 47 (as := [.int 4, .int 4]) rfl rfl (hR.clO ko_42 (by decide) (by decide)) (by decide) (Nat.le_of_ble_eq_true rfl) (Nat.le_of_ble_eq_true rfl) rfl (Nat.le_of_ble_eq_true rfl) rfl ?_
  refine zz_J.mono (k hR) ?_
  intro o h' hE
  cases o with
  | inl v => exact zz_J.weak hE rfl ⟨rfl, rfl, trivial⟩
  | inr q => exact hE
theorem cb_131_47 {X : Nat → Option zz_C} {h : zz_H} {t : cS} {s : mS} {d : Nat} {Q : zz_O → zz_H → Prop} {x1 : Int64} {y0 : Int32} {y1 : Int32} {y2 : Int32} (hR : kR h t s) (k : ∀ {h : zz_H}, kR h t s → zz_J zp_P zt_tf zt_fd X d zm_136 0 [(0, .ref 42), (1, .long x1)] [] h (zz_after 2 Q (fun v h' => zz_J zp_P zt_tf zt_fd X (d + 1) zm_131 54 [] (v.toList ++ [.int (y0 + (y1 * y2))]) h' Q))) : zz_J zp_P zt_tf zt_fd X (d + 1) zm_131 47 [(0, .ref 42), (1, .long x1)] [.int y2, .int y1, .int y0] h Q := by
  refine zz_J.n 48 rfl rfl rfl ?_
  refine zz_J.n 49 rfl rfl rfl ?_
  refine zz_J.n 50 rfl rfl rfl ?_
  refine zz_J.n 51 rfl rfl rfl ?_
  refine zz_J.cv 54 (as := [.int (y0 + (y1 * y2))]) rfl rfl (hR.clO ko_42 (by decide) (by decide)) (by decide) (Nat.le_of_ble_eq_true rfl) (Nat.le_of_ble_eq_true rfl) rfl (Nat.le_of_ble_eq_true rfl) rfl ?_
  refine zz_J.mono (k hR) ?_
  intro o h' hE
  cases o with
  | inl v => exact zz_J.weak hE rfl trivial
  | inr q => exact hE
theorem cb_131_54 {X : Nat → Option zz_C} {h : zz_H} {t : cS} {s : mS} {d : Nat} {Q : zz_O → zz_H → Prop} {y0 : Int32} {y1 : Int32} (hR : kR h t s) (k : ∀ {h : zz_H}, kR h t s → Q (.inl (some (.int (y0 + y1)))) h) : zz_J zp_P zt_tf zt_fd X d zm_131 54 [] [.int y1, .int y0] h Q := by
  refine zz_J.n 55 rfl rfl rfl ?_
  refine zz_J.ret rfl rfl rfl ?_
  exact k hR
theorem cb_131_56 {X : Nat → Option zz_C} {h : zz_H} {t : cS} {s : mS} {d : Nat} {Q : zz_O → zz_H → Prop} {x1 : Int64} (hR : kR h t s) (k : ∀ {h : zz_H}, kR h t s → zz_J zp_P zt_tf zt_fd X d zm_128 0 [(0, .ref 42), (1, .long x1)] [] h (zz_after 2 Q (fun v h' => zz_J zp_P zt_tf zt_fd X (d + 1) zm_131 63 [] (v.toList ++ [.int 2, .int 4]) h' Q))) : zz_J zp_P zt_tf zt_fd X (d + 1) zm_131 56 [(0, .ref 42), (1, .long x1)] [] h Q := by
  refine zz_J.c 57 (.int 4) rfl rfl rfl rfl ?_
  refine zz_J.c 58 (.int 2) rfl rfl rfl rfl ?_
  refine zz_J.n 59 rfl rfl rfl ?_
  refine zz_J.n 60 rfl rfl rfl ?_
  refine zz_J.cv 63 (as := [.int 2, .int 4]) rfl rfl (hR.clO ko_42 (by decide) (by decide)) (by decide) (Nat.le_of_ble_eq_true rfl) (Nat.le_of_ble_eq_true rfl) rfl (Nat.le_of_ble_eq_true rfl) rfl ?_
  refine zz_J.mono (k hR) ?_
  intro o h' hE
  cases o with
  | inl v => exact zz_J.weak hE rfl trivial
  | inr q => exact hE
theorem cb_131_63 {X : Nat → Option zz_C} {h : zz_H} {t : cS} {s : mS} {d : Nat} {Q : zz_O → zz_H → Prop} {y0 : Int32} {y1 : Int32} {y2 : Int32} (hR : kR h t s) (k : ∀ {h : zz_H}, kR h t s → Q (.inl (some (.int (y0 + (y1 * y2))))) h) : zz_J zp_P zt_tf zt_fd X d zm_131 63 [] [.int y2, .int y1, .int y0] h Q := by
  refine zz_J.n 64 rfl rfl rfl ?_
  refine zz_J.n 65 rfl rfl rfl ?_
  refine zz_J.ret rfl rfl rfl ?_
  exact k hR
theorem cb_131_66 {X : Nat → Option zz_C} {h : zz_H} {t : cS} {s : mS} {d : Nat} {Q : zz_O → zz_H → Prop}  (hR : kR h t s) (k : ∀ {h : zz_H}, kR h t s → Q (.inl (some (.int 0))) h) : zz_J zp_P zt_tf zt_fd X d zm_131 66 [] [] h Q := by
  refine zz_J.c 67 (.int 0) rfl rfl rfl rfl ?_
  refine zz_J.ret rfl rfl rfl ?_
  exact k hR
def cf_131_38 (N : Nat) (X : Nat → Option zz_C) (y0 : Int32) (y1 : Int32) (t : cS) : kO := some (t, .inl (some (.int (y0 + y1))))
theorem cr_131_38 {X : Nat → Option zz_C} {s : mS} {N : Nat} {d : Nat} (hd : 1 ≤ d) {Q : zz_O → zz_H → Prop} {y0 : Int32} {y1 : Int32} {h : zz_H} {t t' : cS} {o : kY} (hR : kR h t s) (hf : cf_131_38 N X y0 y1 t = some (t', o)) (k : (∀ h', kR h' t' s → kE o Q h')) : zz_J zp_P zt_tf zt_fd X d zm_131 38 [] [.int y1, .int y0] h Q := by
  unfold cf_131_38 at hf
  cases hf
  exact cb_131_38 hR  (fun {h} hR => k h hR)
def cf_131_32 (N : Nat) (X : Nat → Option zz_C) (x1 : Int64) (t : cS) : kO := ko_call 2 (cf_128 N X x1 t) (fun g1 v1 => co_i v1 (fun y => cf_131_38 N X 4 y g1))
theorem cr_131_32 {X : Nat → Option zz_C} {s : mS} {N : Nat} {d : Nat} (hd : 1 ≤ d) {Q : zz_O → zz_H → Prop} {x1 : Int64} {h : zz_H} {t t' : cS} {o : kY} (hR : kR h t s) (hf : cf_131_32 N X x1 t = some (t', o)) (k : (∀ h', kR h' t' s → kE o Q h')) : zz_J zp_P zt_tf zt_fd X d zm_131 32 [(0, .ref 42), (1, .long x1)] [] h Q := by
  unfold cf_131_32 at hf
  obtain ⟨d', rfl⟩ : ∃ d', d = d' + 1 := ⟨d - 1, by omega⟩
  refine cb_131_32 hR  (fun {h} hR => ?_)
  rcases ko_call_ok hf with ⟨g1, v1, er, hf⟩ | ⟨g1, er, hq⟩
  · obtain ⟨y, hv, hf2⟩ := co_i_ok hf
    clear hf
    have hf := hf2
    clear hf2
    subst hv
    refine cr_128 (by omega) hR er (fun h hR => ?_)
    exact cr_131_38 hd hR hf k
  · refine cr_128 (by omega) hR er (fun h hR => ?_)
    exact ko_thrown hq hR k
def cf_131_54 (N : Nat) (X : Nat → Option zz_C) (y0 : Int32) (y1 : Int32) (t : cS) : kO := some (t, .inl (some (.int (y0 + y1))))
theorem cr_131_54 {X : Nat → Option zz_C} {s : mS} {N : Nat} {d : Nat} (hd : 1 ≤ d) {Q : zz_O → zz_H → Prop} {y0 : Int32} {y1 : Int32} {h : zz_H} {t t' : cS} {o : kY} (hR : kR h t s) (hf : cf_131_54 N X y0 y1 t = some (t', o)) (k : (∀ h', kR h' t' s → kE o Q h')) : zz_J zp_P zt_tf zt_fd X d zm_131 54 [] [.int y1, .int y0] h Q := by
  unfold cf_131_54 at hf
  cases hf
  exact cb_131_54 hR  (fun {h} hR => k h hR)
def cf_131_47 (N : Nat) (X : Nat → Option zz_C) (x1 : Int64) (y0 : Int32) (y1 : Int32) (y2 : Int32) (t : cS) : kO := ko_call 2 (cf_136 N X x1 t) (fun g1 v1 => co_i v1 (fun y => cf_131_54 N X (y0 + (y1 * y2)) y g1))
theorem cr_131_47 {X : Nat → Option zz_C} {s : mS} {N : Nat} {d : Nat} (hd : 1 ≤ d) {Q : zz_O → zz_H → Prop} {x1 : Int64} {y0 : Int32} {y1 : Int32} {y2 : Int32} {h : zz_H} {t t' : cS} {o : kY} (hR : kR h t s) (hf : cf_131_47 N X x1 y0 y1 y2 t = some (t', o)) (k : (∀ h', kR h' t' s → kE o Q h')) : zz_J zp_P zt_tf zt_fd X d zm_131 47 [(0, .ref 42), (1, .long x1)] [.int y2, .int y1, .int y0] h Q := by
  unfold cf_131_47 at hf
  obtain ⟨d', rfl⟩ : ∃ d', d = d' + 1 := ⟨d - 1, by omega⟩
  refine cb_131_47 hR  (fun {h} hR => ?_)
  rcases ko_call_ok hf with ⟨g1, v1, er, hf⟩ | ⟨g1, er, hq⟩
  · obtain ⟨y, hv, hf2⟩ := co_i_ok hf
    clear hf
    have hf := hf2
    clear hf2
    subst hv
    refine cr_136 (by omega) hR er (fun h hR => ?_)
    exact cr_131_54 hd hR hf k
  · refine cr_136 (by omega) hR er (fun h hR => ?_)
    exact ko_thrown hq hR k
def cf_131_40 (N : Nat) (X : Nat → Option zz_C) (x1 : Int64) (t : cS) : kO := ko_call 2 (cf_128 N X x1 t) (fun g1 v1 => co_i v1 (fun y => cf_131_47 N X x1 4 4 y g1))
theorem cr_131_40 {X : Nat → Option zz_C} {s : mS} {N : Nat} {d : Nat} (hd : 1 ≤ d) {Q : zz_O → zz_H → Prop} {x1 : Int64} {h : zz_H} {t t' : cS} {o : kY} (hR : kR h t s) (hf : cf_131_40 N X x1 t = some (t', o)) (k : (∀ h', kR h' t' s → kE o Q h')) : zz_J zp_P zt_tf zt_fd X d zm_131 40 [(0, .ref 42), (1, .long x1)] [] h Q := by
  unfold cf_131_40 at hf
  obtain ⟨d', rfl⟩ : ∃ d', d = d' + 1 := ⟨d - 1, by omega⟩
  refine cb_131_40 hR  (fun {h} hR => ?_)
  rcases ko_call_ok hf with ⟨g1, v1, er, hf⟩ | ⟨g1, er, hq⟩
  · obtain ⟨y, hv, hf2⟩ := co_i_ok hf
    clear hf
    have hf := hf2
    clear hf2
    subst hv
    refine cr_128 (by omega) hR er (fun h hR => ?_)
    exact cr_131_47 hd hR hf k
  · refine cr_128 (by omega) hR er (fun h hR => ?_)
    exact ko_thrown hq hR k
def cf_131_63 (N : Nat) (X : Nat → Option zz_C) (y0 : Int32) (y1 : Int32) (y2 : Int32) (t : cS) : kO := some (t, .inl (some (.int (y0 + (y1 * y2)))))
theorem cr_131_63 {X : Nat → Option zz_C} {s : mS} {N : Nat} {d : Nat} (hd : 1 ≤ d) {Q : zz_O → zz_H → Prop} {y0 : Int32} {y1 : Int32} {y2 : Int32} {h : zz_H} {t t' : cS} {o : kY} (hR : kR h t s) (hf : cf_131_63 N X y0 y1 y2 t = some (t', o)) (k : (∀ h', kR h' t' s → kE o Q h')) : zz_J zp_P zt_tf zt_fd X d zm_131 63 [] [.int y2, .int y1, .int y0] h Q := by
  unfold cf_131_63 at hf
  cases hf
  exact cb_131_63 hR  (fun {h} hR => k h hR)
def cf_131_56 (N : Nat) (X : Nat → Option zz_C) (x1 : Int64) (t : cS) : kO := ko_call 2 (cf_128 N X x1 t) (fun g1 v1 => co_i v1 (fun y => cf_131_63 N X 4 2 y g1))
theorem cr_131_56 {X : Nat → Option zz_C} {s : mS} {N : Nat} {d : Nat} (hd : 1 ≤ d) {Q : zz_O → zz_H → Prop} {x1 : Int64} {h : zz_H} {t t' : cS} {o : kY} (hR : kR h t s) (hf : cf_131_56 N X x1 t = some (t', o)) (k : (∀ h', kR h' t' s → kE o Q h')) : zz_J zp_P zt_tf zt_fd X d zm_131 56 [(0, .ref 42), (1, .long x1)] [] h Q := by
  unfold cf_131_56 at hf
  obtain ⟨d', rfl⟩ : ∃ d', d = d' + 1 := ⟨d - 1, by omega⟩
  refine cb_131_56 hR  (fun {h} hR => ?_)
  rcases ko_call_ok hf with ⟨g1, v1, er, hf⟩ | ⟨g1, er, hq⟩
  · obtain ⟨y, hv, hf2⟩ := co_i_ok hf
    clear hf
    have hf := hf2
    clear hf2
    subst hv
    refine cr_128 (by omega) hR er (fun h hR => ?_)
    exact cr_131_63 hd hR hf k
  · refine cr_128 (by omega) hR er (fun h hR => ?_)
    exact ko_thrown hq hR k
def cf_131_66 (N : Nat) (X : Nat → Option zz_C)  (t : cS) : kO := some (t, .inl (some (.int 0)))
theorem cr_131_66 {X : Nat → Option zz_C} {s : mS} {N : Nat} {d : Nat} (hd : 1 ≤ d) {Q : zz_O → zz_H → Prop}  {h : zz_H} {t t' : cS} {o : kY} (hR : kR h t s) (hf : cf_131_66 N X  t = some (t', o)) (k : (∀ h', kR h' t' s → kE o Q h')) : zz_J zp_P zt_tf zt_fd X d zm_131 66 [] [] h Q := by
  unfold cf_131_66 at hf
  cases hf
  exact cb_131_66 hR  (fun {h} hR => k h hR)
def cf_131_4 (N : Nat) (X : Nat → Option zz_C) (x1 : Int64) (y0 : Int32) (t : cS) : kO := if (Int32.toInt y0 < 1 ∨ 3 < Int32.toInt y0) then cf_131_66 N X  t else if y0 = 1 then cf_131_32 N X x1 t else if y0 = 2 then cf_131_40 N X x1 t else if y0 = 3 then cf_131_56 N X x1 t else none
theorem cr_131_4 {X : Nat → Option zz_C} {s : mS} {N : Nat} {d : Nat} (hd : 1 ≤ d) {Q : zz_O → zz_H → Prop} {x1 : Int64} {y0 : Int32} {h : zz_H} {t t' : cS} {o : kY} (hR : kR h t s) (hf : cf_131_4 N X x1 y0 t = some (t', o)) (k : (∀ h', kR h' t' s → kE o Q h')) : zz_J zp_P zt_tf zt_fd X d zm_131 4 [(0, .ref 42), (1, .long x1)] [.int y0] h Q := by
  unfold cf_131_4 at hf
  refine cb_131_4 hR  (fun c {h} hR => ?_) (fun c {h} hR => ?_) (fun c {h} hR => ?_) (fun c {h} hR => ?_)
  · rw [if_neg (by rw [c]; decide)] at hf
    rw [if_pos c] at hf
    exact cr_131_32 hd hR hf k
  · rw [if_neg (by rw [c]; decide)] at hf
    rw [if_neg (by rw [c]; decide)] at hf
    rw [if_pos c] at hf
    exact cr_131_40 hd hR hf k
  · rw [if_neg (by rw [c]; decide)] at hf
    rw [if_neg (by rw [c]; decide)] at hf
    rw [if_neg (by rw [c]; decide)] at hf
    rw [if_pos c] at hf
    exact cr_131_56 hd hR hf k
  · rw [if_pos c] at hf
    exact cr_131_66 hd hR hf k
def cf_131_0 (N : Nat) (X : Nat → Option zz_C) (x1 : Int64) (t : cS) : kO := ko_call 1000 (cf_255 N X x1 t) (fun g1 v1 => co_i v1 (fun y => cf_131_4 N X x1 y g1))
theorem cr_131_0 {X : Nat → Option zz_C} {s : mS} {N : Nat} {d : Nat} (hd : 1 ≤ d) {Q : zz_O → zz_H → Prop} {x1 : Int64} {h : zz_H} {t t' : cS} {o : kY} (hR : kR h t s) (hf : cf_131_0 N X x1 t = some (t', o)) (k : (∀ h', kR h' t' s → kE o Q h')) : zz_J zp_P zt_tf zt_fd X d zm_131 0 [(0, .ref 42), (1, .long x1)] [] h Q := by
  unfold cf_131_0 at hf
  obtain ⟨d', rfl⟩ : ∃ d', d = d' + 1 := ⟨d - 1, by omega⟩
  refine cb_131_0 hR  (fun {h} hR => ?_)
  rcases ko_call_ok hf with ⟨g1, v1, er, hf⟩ | ⟨g1, er, hq⟩
  · obtain ⟨y, hv, hf2⟩ := co_i_ok hf
    clear hf
    have hf := hf2
    clear hf2
    subst hv
    refine cr_255 (by omega) hR er (fun h hR => ?_)
    exact cr_131_4 hd hR hf k
  · refine cr_255 (by omega) hR er (fun h hR => ?_)
    exact ko_thrown hq hR k
/-- madeOf -/
def cf_131 (N : Nat) (X : Nat → Option zz_C) (x1 : Int64) (t : cS) : kO := cf_131_0 N X x1 t
theorem cr_131 {X : Nat → Option zz_C} {s : mS} {N : Nat} {d : Nat} (hd : 1 ≤ d) {Q : zz_O → zz_H → Prop} {x1 : Int64} {h : zz_H} {t t' : cS} {o : kY} (hR : kR h t s) (hf : cf_131 N X x1 t = some (t', o)) (k : ∀ h', kR h' t' s → kE o Q h') : zz_J zp_P zt_tf zt_fd X d zm_131 0 [(0, .ref 42), (1, .long x1)] [] h Q := by
  unfold cf_131 at hf
  exact zz_J.weak (cr_131_0 hd hR hf k) rfl ⟨rfl, rfl, trivial⟩
