/-! yX10_scanOne ([BII)I -/
theorem cb_44_0 {X : Nat → Option zz_C} {h : zz_H} {t : cS} {s : mS} {d : Nat} {Q : zz_O → zz_H → Prop} {x1 : Nat} {x2 : Int32} {x3 : Int32} (hR : kR h t s) (k1 : x3 < x2 → (∀ {h : zz_H}, kR h t s → zz_J zp_P zt_tf zt_fd X d zm_44 14 [(0, .ref 3), (1, .ref x1), (2, .int x2), (3, .int x3)] [] h Q)) (k2 : ¬ x3 < x2 → (∀ {h : zz_H}, kR h t s → zz_J zp_P zt_tf zt_fd X d zm_44 5 [(0, .ref 3), (2, .int x2)] [] h Q)) : zz_J zp_P zt_tf zt_fd X d zm_44 0 [(0, .ref 3), (1, .ref x1), (2, .int x2), (3, .int x3)] [] h Q := by
  refine zz_J.n 1 rfl rfl rfl ?_
  refine zz_J.n 2 rfl rfl rfl ?_
  refine zz_J.b2 14 5 (A := x3 < x2) rfl rfl (by decide) rfl rfl (fun c => ?_) (fun c => ?_)
  · exact zz_J.weak (k1 c hR) rfl ⟨rfl, rfl, rfl, rfl, trivial⟩
  · exact zz_J.weak (k2 c hR) rfl ⟨rfl, rfl, trivial⟩
theorem cb_44_5 {X : Nat → Option zz_C} {h : zz_H} {t : cS} {s : mS} {d : Nat} {Q : zz_O → zz_H → Prop} {x2 : Int32} (hR : kR h t s) (k : ∀ {h : zz_H}, kR h t s → zz_J zp_P zt_tf zt_fd X d zm_45 0 [(0, .ref 3), (1, .int 0), (2, .int x2), (3, .long 0)] [] h (zz_after 10 Q (fun v h' => zz_J zp_P zt_tf zt_fd X (d + 1) zm_44 12 [] (v.toList ++ []) h' Q))) : zz_J zp_P zt_tf zt_fd X (d + 1) zm_44 5 [(0, .ref 3), (2, .int x2)] [] h Q := by
  refine zz_J.n 6 rfl rfl rfl ?_
  refine zz_J.c 7 (.int 0) rfl rfl rfl rfl ?_
  refine zz_J.n 8 rfl rfl rfl ?_
  refine zz_J.c 9 (.long 0) rfl rfl rfl rfl ?_
  refine zz_J.cv 12 (as := []) rfl rfl (hR.clO ko_3 (by decide) (by decide)) (by decide) (Nat.le_of_ble_eq_true rfl) (Nat.le_of_ble_eq_true rfl) rfl (Nat.le_of_ble_eq_true rfl) rfl ?_
  refine zz_J.mono (k hR) ?_
  intro o h' hE
  cases o with
  | inl v => exact zz_J.weak hE rfl trivial
  | inr q => exact hE
theorem cb_44_12 {X : Nat → Option zz_C} {h : zz_H} {t : cS} {s : mS} {d : Nat} {Q : zz_O → zz_H → Prop}  (hR : kR h t s) (k : ∀ {h : zz_H}, kR h t s → Q (.inl (some (.int (-1)))) h) : zz_J zp_P zt_tf zt_fd X d zm_44 12 [] [] h Q := by
  refine zz_J.c 13 (.int (-1)) rfl rfl rfl rfl ?_
  refine zz_J.ret rfl rfl rfl ?_
  exact k hR
theorem cb_44_14 {X : Nat → Option zz_C} {h : zz_H} {t : cS} {s : mS} {d : Nat} {Q : zz_O → zz_H → Prop} {x1 : Nat} {x2 : Int32} {x3 : Int32} (hR : kR h t s) (e0 : kD t 1 = x1) (e1 : ¬ (x3 < 0 ∨ (kA t 1).1 ≤ (Int32.toNatClampNeg x3))) (k1 : ((kA t 1).2 (Int32.toNatClampNeg x3)) < 97 → (∀ {h : zz_H}, kR h t s → zz_J zp_P zt_tf zt_fd X d zm_44 41 [(0, .ref 3), (1, .ref x1), (2, .int x2), (3, .int x3), (4, .int ((kA t 1).2 (Int32.toNatClampNeg x3)))] [] h Q)) (k2 : ¬ ((kA t 1).2 (Int32.toNatClampNeg x3)) < 97 → (∀ {h : zz_H}, kR h t s → zz_J zp_P zt_tf zt_fd X d zm_44 26 [(0, .ref 3), (1, .ref x1), (2, .int x2), (3, .int x3), (4, .int ((kA t 1).2 (Int32.toNatClampNeg x3)))] [] h Q)) : zz_J zp_P zt_tf zt_fd X d zm_44 14 [(0, .ref 3), (1, .ref x1), (2, .int x2), (3, .int x3)] [] h Q := by
  refine zz_J.n 15 rfl rfl rfl ?_
  refine zz_J.n 16 rfl rfl rfl ?_
  refine zz_J.ab 17 rfl (hR.ab (w := ((kA t 1).2 (Int32.toNatClampNeg x3))) ka_1 e0 (by decide) e1 rfl) rfl ?_
  refine zz_J.n 19 rfl rfl rfl ?_
  refine zz_J.n 21 rfl rfl rfl ?_
  refine zz_J.c 23 (.int 97) rfl rfl rfl rfl ?_
  refine zz_J.b2 41 26 (A := ((kA t 1).2 (Int32.toNatClampNeg x3)) < 97) rfl rfl (by decide) rfl rfl (fun c => ?_) (fun c => ?_)
  · exact zz_J.weak (k1 c hR) rfl ⟨rfl, rfl, rfl, rfl, rfl, trivial⟩
  · exact zz_J.weak (k2 c hR) rfl ⟨rfl, rfl, rfl, rfl, rfl, trivial⟩
theorem cb_44_26 {X : Nat → Option zz_C} {h : zz_H} {t : cS} {s : mS} {d : Nat} {Q : zz_O → zz_H → Prop} {x1 : Nat} {x2 : Int32} {x3 : Int32} {x4 : Int32} (hR : kR h t s) (k1 : 122 < x4 → (∀ {h : zz_H}, kR h t s → zz_J zp_P zt_tf zt_fd X d zm_44 41 [(0, .ref 3), (1, .ref x1), (2, .int x2), (3, .int x3), (4, .int x4)] [] h Q)) (k2 : ¬ 122 < x4 → (∀ {h : zz_H}, kR h t s → zz_J zp_P zt_tf zt_fd X d zm_44 33 [(0, .ref 3), (1, .ref x1), (2, .int x2), (3, .int x3)] [] h Q)) : zz_J zp_P zt_tf zt_fd X d zm_44 26 [(0, .ref 3), (1, .ref x1), (2, .int x2), (3, .int x3), (4, .int x4)] [] h Q := by
  refine zz_J.n 28 rfl rfl rfl ?_
  refine zz_J.c 30 (.int 122) rfl rfl rfl rfl ?_
  refine zz_J.b2 41 33 (A := 122 < x4) rfl rfl (by decide) rfl rfl (fun c => ?_) (fun c => ?_)
  · exact zz_J.weak (k1 c hR) rfl ⟨rfl, rfl, rfl, rfl, rfl, trivial⟩
  · exact zz_J.weak (k2 c hR) rfl ⟨rfl, rfl, rfl, rfl, trivial⟩
theorem cb_44_33 {X : Nat → Option zz_C} {h : zz_H} {t : cS} {s : mS} {d : Nat} {Q : zz_O → zz_H → Prop} {x1 : Nat} {x2 : Int32} {x3 : Int32} (hR : kR h t s) (k : ∀ {h : zz_H}, kR h t s → zz_J zp_P zt_tf zt_fd X d zm_245 0 [(0, .ref 3), (1, .ref x1), (2, .int x2), (3, .int x3)] [] h (zz_after 10 Q (fun v h' => zz_J zp_P zt_tf zt_fd X (d + 1) zm_44 40 [] (v.toList ++ []) h' Q))) : zz_J zp_P zt_tf zt_fd X (d + 1) zm_44 33 [(0, .ref 3), (1, .ref x1), (2, .int x2), (3, .int x3)] [] h Q := by
  refine zz_J.n 34 rfl rfl rfl ?_
  refine zz_J.n 35 rfl rfl rfl ?_
  refine zz_J.n 36 rfl rfl rfl ?_
  refine zz_J.n 37 rfl rfl rfl ?_
  refine zz_J.cv 40 (as := []) rfl rfl (hR.clO ko_3 (by decide) (by decide)) (by decide) (Nat.le_of_ble_eq_true rfl) (Nat.le_of_ble_eq_true rfl) rfl (Nat.le_of_ble_eq_true rfl) rfl ?_
  refine zz_J.mono (k hR) ?_
  intro o h' hE
  cases o with
  | inl v => exact zz_J.weak hE rfl trivial
  | inr q => exact hE
theorem cb_44_40 {X : Nat → Option zz_C} {h : zz_H} {t : cS} {s : mS} {d : Nat} {Q : zz_O → zz_H → Prop} {y0 : Int32} (hR : kR h t s) (k : ∀ {h : zz_H}, kR h t s → Q (.inl (some (.int y0))) h) : zz_J zp_P zt_tf zt_fd X d zm_44 40 [] [.int y0] h Q := by
  refine zz_J.ret rfl rfl rfl ?_
  exact k hR
theorem cb_44_41 {X : Nat → Option zz_C} {h : zz_H} {t : cS} {s : mS} {d : Nat} {Q : zz_O → zz_H → Prop} {x1 : Nat} {x2 : Int32} {x3 : Int32} {x4 : Int32} (hR : kR h t s) (k1 : x4 < 48 → (∀ {h : zz_H}, kR h t s → zz_J zp_P zt_tf zt_fd X d zm_44 63 [(0, .ref 3), (1, .ref x1), (2, .int x2), (3, .int x3), (4, .int x4)] [] h Q)) (k2 : ¬ x4 < 48 → (∀ {h : zz_H}, kR h t s → zz_J zp_P zt_tf zt_fd X d zm_44 48 [(0, .ref 3), (1, .ref x1), (2, .int x2), (3, .int x3), (4, .int x4)] [] h Q)) : zz_J zp_P zt_tf zt_fd X d zm_44 41 [(0, .ref 3), (1, .ref x1), (2, .int x2), (3, .int x3), (4, .int x4)] [] h Q := by
  refine zz_J.n 43 rfl rfl rfl ?_
  refine zz_J.c 45 (.int 48) rfl rfl rfl rfl ?_
  refine zz_J.b2 63 48 (A := x4 < 48) rfl rfl (by decide) rfl rfl (fun c => ?_) (fun c => ?_)
  · exact zz_J.weak (k1 c hR) rfl ⟨rfl, rfl, rfl, rfl, rfl, trivial⟩
  · exact zz_J.weak (k2 c hR) rfl ⟨rfl, rfl, rfl, rfl, rfl, trivial⟩
theorem cb_44_48 {X : Nat → Option zz_C} {h : zz_H} {t : cS} {s : mS} {d : Nat} {Q : zz_O → zz_H → Prop} {x1 : Nat} {x2 : Int32} {x3 : Int32} {x4 : Int32} (hR : kR h t s) (k1 : 57 < x4 → (∀ {h : zz_H}, kR h t s → zz_J zp_P zt_tf zt_fd X d zm_44 63 [(0, .ref 3), (1, .ref x1), (2, .int x2), (3, .int x3), (4, .int x4)] [] h Q)) (k2 : ¬ 57 < x4 → (∀ {h : zz_H}, kR h t s → zz_J zp_P zt_tf zt_fd X d zm_44 55 [(0, .ref 3), (1, .ref x1), (2, .int x2), (3, .int x3)] [] h Q)) : zz_J zp_P zt_tf zt_fd X d zm_44 48 [(0, .ref 3), (1, .ref x1), (2, .int x2), (3, .int x3), (4, .int x4)] [] h Q := by
  refine zz_J.n 50 rfl rfl rfl ?_
  refine zz_J.c 52 (.int 57) rfl rfl rfl rfl ?_
  refine zz_J.b2 63 55 (A := 57 < x4) rfl rfl (by decide) rfl rfl (fun c => ?_) (fun c => ?_)
  · exact zz_J.weak (k1 c hR) rfl ⟨rfl, rfl, rfl, rfl, rfl, trivial⟩
  · exact zz_J.weak (k2 c hR) rfl ⟨rfl, rfl, rfl, rfl, trivial⟩
theorem cb_44_55 {X : Nat → Option zz_C} {h : zz_H} {t : cS} {s : mS} {d : Nat} {Q : zz_O → zz_H → Prop} {x1 : Nat} {x2 : Int32} {x3 : Int32} (hR : kR h t s) (k : ∀ {h : zz_H}, kR h t s → zz_J zp_P zt_tf zt_fd X d zm_246 0 [(0, .ref 3), (1, .ref x1), (2, .int x2), (3, .int x3)] [] h (zz_after 10 Q (fun v h' => zz_J zp_P zt_tf zt_fd X (d + 1) zm_44 62 [] (v.toList ++ []) h' Q))) : zz_J zp_P zt_tf zt_fd X (d + 1) zm_44 55 [(0, .ref 3), (1, .ref x1), (2, .int x2), (3, .int x3)] [] h Q := by
  refine zz_J.n 56 rfl rfl rfl ?_
  refine zz_J.n 57 rfl rfl rfl ?_
  refine zz_J.n 58 rfl rfl rfl ?_
  refine zz_J.n 59 rfl rfl rfl ?_
  refine zz_J.cv 62 (as := []) rfl rfl (hR.clO ko_3 (by decide) (by decide)) (by decide) (Nat.le_of_ble_eq_true rfl) (Nat.le_of_ble_eq_true rfl) rfl (Nat.le_of_ble_eq_true rfl) rfl ?_
  refine zz_J.mono (k hR) ?_
  intro o h' hE
  cases o with
  | inl v => exact zz_J.weak hE rfl trivial
  | inr q => exact hE
theorem cb_44_62 {X : Nat → Option zz_C} {h : zz_H} {t : cS} {s : mS} {d : Nat} {Q : zz_O → zz_H → Prop} {y0 : Int32} (hR : kR h t s) (k : ∀ {h : zz_H}, kR h t s → Q (.inl (some (.int y0))) h) : zz_J zp_P zt_tf zt_fd X d zm_44 62 [] [.int y0] h Q := by
  refine zz_J.ret rfl rfl rfl ?_
  exact k hR
theorem cb_44_63 {X : Nat → Option zz_C} {h : zz_H} {t : cS} {s : mS} {d : Nat} {Q : zz_O → zz_H → Prop} {x1 : Nat} {x2 : Int32} {x3 : Int32} {x4 : Int32} (hR : kR h t s) (k1 : x4 < 0 → (∀ {h : zz_H}, kR h t s → zz_J zp_P zt_tf zt_fd X d zm_44 79 [(0, .ref 3), (3, .int x3)] [] h Q)) (k2 : ¬ x4 < 0 → (∀ {h : zz_H}, kR h t s → zz_J zp_P zt_tf zt_fd X d zm_44 68 [(0, .ref 3), (1, .ref x1), (2, .int x2), (3, .int x3), (4, .int x4)] [] h Q)) : zz_J zp_P zt_tf zt_fd X d zm_44 63 [(0, .ref 3), (1, .ref x1), (2, .int x2), (3, .int x3), (4, .int x4)] [] h Q := by
  refine zz_J.n 65 rfl rfl rfl ?_
  refine zz_J.b1 79 68 (A := x4 < 0) rfl rfl (by decide) rfl rfl (fun c => ?_) (fun c => ?_)
  · exact zz_J.weak (k1 c hR) rfl ⟨rfl, rfl, trivial⟩
  · exact zz_J.weak (k2 c hR) rfl ⟨rfl, rfl, rfl, rfl, rfl, trivial⟩
theorem cb_44_68 {X : Nat → Option zz_C} {h : zz_H} {t : cS} {s : mS} {d : Nat} {Q : zz_O → zz_H → Prop} {x1 : Nat} {x2 : Int32} {x3 : Int32} {x4 : Int32} (hR : kR h t s) (e0 : hcl X [] (zz_out + 44) 21 = true) (k : ∀ {h : zz_H}, kR h t s → zz_J zp_P zt_tf zt_fd X d zm_359 0 [(0, .ref (zz_out + 44)), (1, .int (UInt32.toInt32 (Int32.toUInt32 x4 % 65536)))] [] h (zz_after 21 Q (fun v h' => zz_J zp_P zt_tf zt_fd X (d + 1) zm_44 76 [(0, .ref 3), (1, .ref x1), (2, .int x2), (3, .int x3), (4, .int x4)] (v.toList ++ []) h' Q))) : zz_J zp_P zt_tf zt_fd X (d + 1) zm_44 68 [(0, .ref 3), (1, .ref x1), (2, .int x2), (3, .int x3), (4, .int x4)] [] h Q := by
  refine zz_J.c 70 (.ref (zz_out + 44)) rfl rfl rfl rfl ?_
  refine zz_J.n 72 rfl rfl rfl ?_
  refine zz_J.n 73 rfl rfl rfl ?_
  refine zz_J.cv 76 (as := []) rfl rfl ((hx_cl (Nat.not_lt.mpr (Nat.le_add_right _ _))).trans e0) (by decide) (Nat.le_of_ble_eq_true rfl) (Nat.le_of_ble_eq_true rfl) rfl (Nat.le_of_ble_eq_true rfl) rfl ?_
  refine zz_J.mono (k hR) ?_
  intro o h' hE
  cases o with
  | inl v => exact zz_J.weak hE rfl ⟨rfl, rfl, rfl, rfl, rfl, trivial⟩
  | inr q => exact hE
theorem cb_44_76 {X : Nat → Option zz_C} {h : zz_H} {t : cS} {s : mS} {d : Nat} {Q : zz_O → zz_H → Prop} {x1 : Nat} {x2 : Int32} {x3 : Int32} {x4 : Int32} {y0 : Int32} (hR : kR h t s) (k1 : 0 ≤ y0 → (∀ {h : zz_H}, kR h t s → zz_J zp_P zt_tf zt_fd X d zm_44 88 [(0, .ref 3), (1, .ref x1), (2, .int x2), (3, .int x3), (4, .int x4)] [] h Q)) (k2 : ¬ 0 ≤ y0 → (∀ {h : zz_H}, kR h t s → zz_J zp_P zt_tf zt_fd X d zm_44 79 [(0, .ref 3), (3, .int x3)] [] h Q)) : zz_J zp_P zt_tf zt_fd X d zm_44 76 [(0, .ref 3), (1, .ref x1), (2, .int x2), (3, .int x3), (4, .int x4)] [.int y0] h Q := by
  refine zz_J.b1 88 79 (A := 0 ≤ y0) rfl rfl (by decide) rfl rfl (fun c => ?_) (fun c => ?_)
  · exact zz_J.weak (k1 c hR) rfl ⟨rfl, rfl, rfl, rfl, rfl, trivial⟩
  · exact zz_J.weak (k2 c hR) rfl ⟨rfl, rfl, trivial⟩
theorem cb_44_79 {X : Nat → Option zz_C} {h : zz_H} {t : cS} {s : mS} {d : Nat} {Q : zz_O → zz_H → Prop} {x3 : Int32} (hR : kR h t s) (k : ∀ {h : zz_H}, kR h t s → zz_J zp_P zt_tf zt_fd X d zm_45 0 [(0, .ref 3), (1, .int 1), (2, .int x3), (3, .long 0)] [] h (zz_after 10 Q (fun v h' => zz_J zp_P zt_tf zt_fd X (d + 1) zm_44 86 [] (v.toList ++ []) h' Q))) : zz_J zp_P zt_tf zt_fd X (d + 1) zm_44 79 [(0, .ref 3), (3, .int x3)] [] h Q := by
  refine zz_J.n 80 rfl rfl rfl ?_
  refine zz_J.c 81 (.int 1) rfl rfl rfl rfl ?_
  refine zz_J.n 82 rfl rfl rfl ?_
  refine zz_J.c 83 (.long 0) rfl rfl rfl rfl ?_
  refine zz_J.cv 86 (as := []) rfl rfl (hR.clO ko_3 (by decide) (by decide)) (by decide) (Nat.le_of_ble_eq_true rfl) (Nat.le_of_ble_eq_true rfl) rfl (Nat.le_of_ble_eq_true rfl) rfl ?_
  refine zz_J.mono (k hR) ?_
  intro o h' hE
  cases o with
  | inl v => exact zz_J.weak hE rfl trivial
  | inr q => exact hE
theorem cb_44_86 {X : Nat → Option zz_C} {h : zz_H} {t : cS} {s : mS} {d : Nat} {Q : zz_O → zz_H → Prop}  (hR : kR h t s) (k : ∀ {h : zz_H}, kR h t s → Q (.inl (some (.int (-1)))) h) : zz_J zp_P zt_tf zt_fd X d zm_44 86 [] [] h Q := by
  refine zz_J.c 87 (.int (-1)) rfl rfl rfl rfl ?_
  refine zz_J.ret rfl rfl rfl ?_
  exact k hR
theorem cb_44_88 {X : Nat → Option zz_C} {h : zz_H} {t : cS} {s : mS} {d : Nat} {Q : zz_O → zz_H → Prop} {x1 : Nat} {x2 : Int32} {x3 : Int32} {x4 : Int32} (hR : kR h t s) (e0 : hcl X [] (zz_out + 45) 21 = true) (k : ∀ {h : zz_H}, kR h t s → zz_J zp_P zt_tf zt_fd X d zm_359 0 [(0, .ref (zz_out + 45)), (1, .int (UInt32.toInt32 (Int32.toUInt32 x4 % 65536)))] [] h (zz_after 21 Q (fun v h' => zz_J zp_P zt_tf zt_fd X (d + 1) zm_44 96 [(0, .ref 3), (1, .ref x1), (2, .int x2), (3, .int x3), (4, .int x4)] (v.toList ++ []) h' Q))) : zz_J zp_P zt_tf zt_fd X (d + 1) zm_44 88 [(0, .ref 3), (1, .ref x1), (2, .int x2), (3, .int x3), (4, .int x4)] [] h Q := by
  refine zz_J.c 90 (.ref (zz_out + 45)) rfl rfl rfl rfl ?_
  refine zz_J.n 92 rfl rfl rfl ?_
  refine zz_J.n 93 rfl rfl rfl ?_
  refine zz_J.cv 96 (as := []) rfl rfl ((hx_cl (Nat.not_lt.mpr (Nat.le_add_right _ _))).trans e0) (by decide) (Nat.le_of_ble_eq_true rfl) (Nat.le_of_ble_eq_true rfl) rfl (Nat.le_of_ble_eq_true rfl) rfl ?_
  refine zz_J.mono (k hR) ?_
  intro o h' hE
  cases o with
  | inl v => exact zz_J.weak hE rfl ⟨rfl, rfl, rfl, rfl, rfl, trivial⟩
  | inr q => exact hE
theorem cb_44_96 {X : Nat → Option zz_C} {h : zz_H} {t : cS} {s : mS} {d : Nat} {Q : zz_O → zz_H → Prop} {x1 : Nat} {x2 : Int32} {x3 : Int32} {x4 : Int32} {y0 : Int32} (hR : kR h t s) (k1 : y0 < 0 → (∀ {h : zz_H}, kR h t s → zz_J zp_P zt_tf zt_fd X d zm_44 132 [(0, .ref 3), (3, .int x3), (4, .int x4)] [] h Q)) (k2 : ¬ y0 < 0 → (∀ {h : zz_H}, kR h t s → zz_J zp_P zt_tf zt_fd X d zm_44 99 [(0, .ref 3), (1, .ref x1), (2, .int x2), (3, .int x3), (4, .int x4)] [] h Q)) : zz_J zp_P zt_tf zt_fd X d zm_44 96 [(0, .ref 3), (1, .ref x1), (2, .int x2), (3, .int x3), (4, .int x4)] [.int y0] h Q := by
  refine zz_J.b1 132 99 (A := y0 < 0) rfl rfl (by decide) rfl rfl (fun c => ?_) (fun c => ?_)
  · exact zz_J.weak (k1 c hR) rfl ⟨rfl, rfl, rfl, trivial⟩
  · exact zz_J.weak (k2 c hR) rfl ⟨rfl, rfl, rfl, rfl, rfl, trivial⟩
theorem cb_44_99 {X : Nat → Option zz_C} {h : zz_H} {t : cS} {s : mS} {d : Nat} {Q : zz_O → zz_H → Prop} {x1 : Nat} {x2 : Int32} {x3 : Int32} {x4 : Int32} (hR : kR h t s) (k1 : x2 ≤ (x3 + 1) → (∀ {h : zz_H}, kR h t s → zz_J zp_P zt_tf zt_fd X d zm_44 132 [(0, .ref 3), (3, .int x3), (4, .int x4)] [] h Q)) (k2 : ¬ x2 ≤ (x3 + 1) → (∀ {h : zz_H}, kR h t s → zz_J zp_P zt_tf zt_fd X d zm_44 106 [(0, .ref 3), (1, .ref x1), (3, .int x3), (4, .int x4)] [] h Q)) : zz_J zp_P zt_tf zt_fd X d zm_44 99 [(0, .ref 3), (1, .ref x1), (2, .int x2), (3, .int x3), (4, .int x4)] [] h Q := by
  refine zz_J.n 100 rfl rfl rfl ?_
  refine zz_J.c 101 (.int 1) rfl rfl rfl rfl ?_
  refine zz_J.n 102 rfl rfl rfl ?_
  refine zz_J.n 103 rfl rfl rfl ?_
  refine zz_J.b2 132 106 (A := x2 ≤ (x3 + 1)) rfl rfl (by decide) rfl rfl (fun c => ?_) (fun c => ?_)
  · exact zz_J.weak (k1 c hR) rfl ⟨rfl, rfl, rfl, trivial⟩
  · exact zz_J.weak (k2 c hR) rfl ⟨rfl, rfl, rfl, rfl, trivial⟩
theorem cb_44_106 {X : Nat → Option zz_C} {h : zz_H} {t : cS} {s : mS} {d : Nat} {Q : zz_O → zz_H → Prop} {x1 : Nat} {x3 : Int32} {x4 : Int32} (hR : kR h t s) (e0 : kD t 1 = x1) (e1 : ¬ ((x3 + 1) < 0 ∨ (kA t 1).1 ≤ (Int32.toNatClampNeg (x3 + 1)))) (k1 : ¬ ((kA t 1).2 (Int32.toNatClampNeg (x3 + 1))) = 61 → (∀ {h : zz_H}, kR h t s → zz_J zp_P zt_tf zt_fd X d zm_44 132 [(0, .ref 3), (3, .int x3), (4, .int x4)] [] h Q)) (k2 : ¬ ¬ ((kA t 1).2 (Int32.toNatClampNeg (x3 + 1))) = 61 → (∀ {h : zz_H}, kR h t s → zz_J zp_P zt_tf zt_fd X d zm_44 116 [(0, .ref 3), (3, .int x3), (4, .int x4)] [] h Q)) : zz_J zp_P zt_tf zt_fd X d zm_44 106 [(0, .ref 3), (1, .ref x1), (3, .int x3), (4, .int x4)] [] h Q := by
  refine zz_J.n 107 rfl rfl rfl ?_
  refine zz_J.n 108 rfl rfl rfl ?_
  refine zz_J.c 109 (.int 1) rfl rfl rfl rfl ?_
  refine zz_J.n 110 rfl rfl rfl ?_
  refine zz_J.ab 111 rfl (hR.ab (w := ((kA t 1).2 (Int32.toNatClampNeg (x3 + 1)))) ka_1 e0 (by decide) e1 rfl) rfl ?_
  refine zz_J.c 113 (.int 61) rfl rfl rfl rfl ?_
  refine zz_J.b2 132 116 (A := ¬ ((kA t 1).2 (Int32.toNatClampNeg (x3 + 1))) = 61) rfl (zz_cond_ne _ _) (by decide) rfl rfl (fun c => ?_) (fun c => ?_)
  · exact zz_J.weak (k1 c hR) rfl ⟨rfl, rfl, rfl, trivial⟩
  · exact zz_J.weak (k2 c hR) rfl ⟨rfl, rfl, rfl, trivial⟩
theorem cb_44_116 {X : Nat → Option zz_C} {h : zz_H} {t : cS} {s : mS} {d : Nat} {Q : zz_O → zz_H → Prop} {x3 : Int32} {x4 : Int32} (hR : kR h t s) (k : ∀ {h : zz_H}, kR h t s → zz_J zp_P zt_tf zt_fd X d zm_45 0 [(0, .ref 3), (1, .int (x4 + 256)), (2, .int x3), (3, .long 0)] [] h (zz_after 10 Q (fun v h' => zz_J zp_P zt_tf zt_fd X (d + 1) zm_44 128 [(3, .int x3)] (v.toList ++ []) h' Q))) : zz_J zp_P zt_tf zt_fd X (d + 1) zm_44 116 [(0, .ref 3), (3, .int x3), (4, .int x4)] [] h Q := by
  refine zz_J.n 117 rfl rfl rfl ?_
  refine zz_J.n 119 rfl rfl rfl ?_
  refine zz_J.c 122 (.int 256) rfl rfl rfl rfl ?_
  refine zz_J.n 123 rfl rfl rfl ?_
  refine zz_J.n 124 rfl rfl rfl ?_
  refine zz_J.c 125 (.long 0) rfl rfl rfl rfl ?_
  refine zz_J.cv 128 (as := []) rfl rfl (hR.clO ko_3 (by decide) (by decide)) (by decide) (Nat.le_of_ble_eq_true rfl) (Nat.le_of_ble_eq_true rfl) rfl (Nat.le_of_ble_eq_true rfl) rfl ?_
  refine zz_J.mono (k hR) ?_
  intro o h' hE
  cases o with
  | inl v => exact zz_J.weak hE rfl ⟨rfl, trivial⟩
  | inr q => exact hE
theorem cb_44_128 {X : Nat → Option zz_C} {h : zz_H} {t : cS} {s : mS} {d : Nat} {Q : zz_O → zz_H → Prop} {x3 : Int32} (hR : kR h t s) (k : ∀ {h : zz_H}, kR h t s → Q (.inl (some (.int (x3 + 2)))) h) : zz_J zp_P zt_tf zt_fd X d zm_44 128 [(3, .int x3)] [] h Q := by
  refine zz_J.n 129 rfl rfl rfl ?_
  refine zz_J.c 130 (.int 2) rfl rfl rfl rfl ?_
  refine zz_J.n 131 rfl rfl rfl ?_
  refine zz_J.ret rfl rfl rfl ?_
  exact k hR
theorem cb_44_132 {X : Nat → Option zz_C} {h : zz_H} {t : cS} {s : mS} {d : Nat} {Q : zz_O → zz_H → Prop} {x3 : Int32} {x4 : Int32} (hR : kR h t s) (k : ∀ {h : zz_H}, kR h t s → zz_J zp_P zt_tf zt_fd X d zm_45 0 [(0, .ref 3), (1, .int x4), (2, .int x3), (3, .long 0)] [] h (zz_after 10 Q (fun v h' => zz_J zp_P zt_tf zt_fd X (d + 1) zm_44 140 [(3, .int x3)] (v.toList ++ []) h' Q))) : zz_J zp_P zt_tf zt_fd X (d + 1) zm_44 132 [(0, .ref 3), (3, .int x3), (4, .int x4)] [] h Q := by
  refine zz_J.n 133 rfl rfl rfl ?_
  refine zz_J.n 135 rfl rfl rfl ?_
  refine zz_J.n 136 rfl rfl rfl ?_
  refine zz_J.c 137 (.long 0) rfl rfl rfl rfl ?_
  refine zz_J.cv 140 (as := []) rfl rfl (hR.clO ko_3 (by decide) (by decide)) (by decide) (Nat.le_of_ble_eq_true rfl) (Nat.le_of_ble_eq_true rfl) rfl (Nat.le_of_ble_eq_true rfl) rfl ?_
  refine zz_J.mono (k hR) ?_
  intro o h' hE
  cases o with
  | inl v => exact zz_J.weak hE rfl ⟨rfl, trivial⟩
  | inr q => exact hE
theorem cb_44_140 {X : Nat → Option zz_C} {h : zz_H} {t : cS} {s : mS} {d : Nat} {Q : zz_O → zz_H → Prop} {x3 : Int32} (hR : kR h t s) (k : ∀ {h : zz_H}, kR h t s → Q (.inl (some (.int (x3 + 1)))) h) : zz_J zp_P zt_tf zt_fd X d zm_44 140 [(3, .int x3)] [] h Q := by
  refine zz_J.n 141 rfl rfl rfl ?_
  refine zz_J.c 142 (.int 1) rfl rfl rfl rfl ?_
  refine zz_J.n 143 rfl rfl rfl ?_
  refine zz_J.ret rfl rfl rfl ?_
  exact k hR
def cf_44_86 (N : Nat) (X : Nat → Option zz_C)  (t : cS) : kO := some (t, .inl (some (.int (-1))))
theorem cr_44_86 {X : Nat → Option zz_C} {s : mS} {N : Nat} {d : Nat} (hd : 11 ≤ d) {Q : zz_O → zz_H → Prop}  {h : zz_H} {t t' : cS} {o : kY} (hR : kR h t s) (hf : cf_44_86 N X  t = some (t', o)) (k : (∀ h', kR h' t' s → kE o Q h')) : zz_J zp_P zt_tf zt_fd X d zm_44 86 [] [] h Q := by
  unfold cf_44_86 at hf
  cases hf
  exact cb_44_86 hR  (fun {h} hR => k h hR)
def cf_44_79 (N : Nat) (X : Nat → Option zz_C) (x3 : Int32) (t : cS) : kO := ko_call 10 (cf_45 N X 1 x3 0 t) (fun g1 v1 => co_v v1 (cf_44_86 N X  g1))
theorem cr_44_79 {X : Nat → Option zz_C} {s : mS} {N : Nat} {d : Nat} (hd : 11 ≤ d) {Q : zz_O → zz_H → Prop} {x3 : Int32} {h : zz_H} {t t' : cS} {o : kY} (hR : kR h t s) (hf : cf_44_79 N X x3 t = some (t', o)) (k : (∀ h', kR h' t' s → kE o Q h')) : zz_J zp_P zt_tf zt_fd X d zm_44 79 [(0, .ref 3), (3, .int x3)] [] h Q := by
  unfold cf_44_79 at hf
  obtain ⟨d', rfl⟩ : ∃ d', d = d' + 1 := ⟨d - 1, by omega⟩
  refine cb_44_79 hR  (fun {h} hR => ?_)
  rcases ko_call_ok hf with ⟨g1, v1, er, hf⟩ | ⟨g1, er, hq⟩
  · obtain ⟨hv, hf2⟩ := co_v_ok hf
    clear hf
    have hf := hf2
    clear hf2
    subst hv
    refine cr_45 (by omega) hR er (fun h hR => ?_)
    exact cr_44_86 hd hR hf k
  · refine cr_45 (by omega) hR er (fun h hR => ?_)
    exact ko_thrown hq hR k
def cf_44_140 (N : Nat) (X : Nat → Option zz_C) (x3 : Int32) (t : cS) : kO := some (t, .inl (some (.int (x3 + 1))))
theorem cr_44_140 {X : Nat → Option zz_C} {s : mS} {N : Nat} {d : Nat} (hd : 11 ≤ d) {Q : zz_O → zz_H → Prop} {x3 : Int32} {h : zz_H} {t t' : cS} {o : kY} (hR : kR h t s) (hf : cf_44_140 N X x3 t = some (t', o)) (k : (∀ h', kR h' t' s → kE o Q h')) : zz_J zp_P zt_tf zt_fd X d zm_44 140 [(3, .int x3)] [] h Q := by
  unfold cf_44_140 at hf
  cases hf
  exact cb_44_140 hR  (fun {h} hR => k h hR)
def cf_44_132 (N : Nat) (X : Nat → Option zz_C) (x3 : Int32) (x4 : Int32) (t : cS) : kO := ko_call 10 (cf_45 N X x4 x3 0 t) (fun g1 v1 => co_v v1 (cf_44_140 N X x3 g1))
theorem cr_44_132 {X : Nat → Option zz_C} {s : mS} {N : Nat} {d : Nat} (hd : 11 ≤ d) {Q : zz_O → zz_H → Prop} {x3 : Int32} {x4 : Int32} {h : zz_H} {t t' : cS} {o : kY} (hR : kR h t s) (hf : cf_44_132 N X x3 x4 t = some (t', o)) (k : (∀ h', kR h' t' s → kE o Q h')) : zz_J zp_P zt_tf zt_fd X d zm_44 132 [(0, .ref 3), (3, .int x3), (4, .int x4)] [] h Q := by
  unfold cf_44_132 at hf
  obtain ⟨d', rfl⟩ : ∃ d', d = d' + 1 := ⟨d - 1, by omega⟩
  refine cb_44_132 hR  (fun {h} hR => ?_)
  rcases ko_call_ok hf with ⟨g1, v1, er, hf⟩ | ⟨g1, er, hq⟩
  · obtain ⟨hv, hf2⟩ := co_v_ok hf
    clear hf
    have hf := hf2
    clear hf2
    subst hv
    refine cr_45 (by omega) hR er (fun h hR => ?_)
    exact cr_44_140 hd hR hf k
  · refine cr_45 (by omega) hR er (fun h hR => ?_)
    exact ko_thrown hq hR k
def cf_44_128 (N : Nat) (X : Nat → Option zz_C) (x3 : Int32) (t : cS) : kO := some (t, .inl (some (.int (x3 + 2))))
theorem cr_44_128 {X : Nat → Option zz_C} {s : mS} {N : Nat} {d : Nat} (hd : 11 ≤ d) {Q : zz_O → zz_H → Prop} {x3 : Int32} {h : zz_H} {t t' : cS} {o : kY} (hR : kR h t s) (hf : cf_44_128 N X x3 t = some (t', o)) (k : (∀ h', kR h' t' s → kE o Q h')) : zz_J zp_P zt_tf zt_fd X d zm_44 128 [(3, .int x3)] [] h Q := by
  unfold cf_44_128 at hf
  cases hf
  exact cb_44_128 hR  (fun {h} hR => k h hR)
def cf_44_116 (N : Nat) (X : Nat → Option zz_C) (x3 : Int32) (x4 : Int32) (t : cS) : kO := ko_call 10 (cf_45 N X (x4 + 256) x3 0 t) (fun g1 v1 => co_v v1 (cf_44_128 N X x3 g1))
theorem cr_44_116 {X : Nat → Option zz_C} {s : mS} {N : Nat} {d : Nat} (hd : 11 ≤ d) {Q : zz_O → zz_H → Prop} {x3 : Int32} {x4 : Int32} {h : zz_H} {t t' : cS} {o : kY} (hR : kR h t s) (hf : cf_44_116 N X x3 x4 t = some (t', o)) (k : (∀ h', kR h' t' s → kE o Q h')) : zz_J zp_P zt_tf zt_fd X d zm_44 116 [(0, .ref 3), (3, .int x3), (4, .int x4)] [] h Q := by
  unfold cf_44_116 at hf
  obtain ⟨d', rfl⟩ : ∃ d', d = d' + 1 := ⟨d - 1, by omega⟩
  refine cb_44_116 hR  (fun {h} hR => ?_)
  rcases ko_call_ok hf with ⟨g1, v1, er, hf⟩ | ⟨g1, er, hq⟩
  · obtain ⟨hv, hf2⟩ := co_v_ok hf
    clear hf
    have hf := hf2
    clear hf2
    subst hv
    refine cr_45 (by omega) hR er (fun h hR => ?_)
    exact cr_44_128 hd hR hf k
  · refine cr_45 (by omega) hR er (fun h hR => ?_)
    exact ko_thrown hq hR k
def cf_44_106 (N : Nat) (X : Nat → Option zz_C) (x1 : Nat) (x3 : Int32) (x4 : Int32) (t : cS) : kO := if kD t 1 = x1 then (if ¬ ((x3 + 1) < 0 ∨ (kA t 1).1 ≤ (Int32.toNatClampNeg (x3 + 1))) then (if ¬ ((kA t 1).2 (Int32.toNatClampNeg (x3 + 1))) = 61 then cf_44_132 N X x3 x4 t else cf_44_116 N X x3 x4 t) else none) else none
theorem cr_44_106 {X : Nat → Option zz_C} {s : mS} {N : Nat} {d : Nat} (hd : 11 ≤ d) {Q : zz_O → zz_H → Prop} {x1 : Nat} {x3 : Int32} {x4 : Int32} {h : zz_H} {t t' : cS} {o : kY} (hR : kR h t s) (hf : cf_44_106 N X x1 x3 x4 t = some (t', o)) (k : (∀ h', kR h' t' s → kE o Q h')) : zz_J zp_P zt_tf zt_fd X d zm_44 106 [(0, .ref 3), (1, .ref x1), (3, .int x3), (4, .int x4)] [] h Q := by
  unfold cf_44_106 at hf
  obtain ⟨e0, hf⟩ := ko_if hf
  obtain ⟨e1, hf⟩ := ko_if hf
  refine cb_44_106 hR e0 e1 (fun c {h} hR => ?_) (fun c {h} hR => ?_)
  · rw [if_pos c] at hf
    exact cr_44_132 hd hR hf k
  · rw [if_neg c] at hf
    exact cr_44_116 hd hR hf k
def cf_44_99 (N : Nat) (X : Nat → Option zz_C) (x1 : Nat) (x2 : Int32) (x3 : Int32) (x4 : Int32) (t : cS) : kO := if x2 ≤ (x3 + 1) then cf_44_132 N X x3 x4 t else cf_44_106 N X x1 x3 x4 t
theorem cr_44_99 {X : Nat → Option zz_C} {s : mS} {N : Nat} {d : Nat} (hd : 11 ≤ d) {Q : zz_O → zz_H → Prop} {x1 : Nat} {x2 : Int32} {x3 : Int32} {x4 : Int32} {h : zz_H} {t t' : cS} {o : kY} (hR : kR h t s) (hf : cf_44_99 N X x1 x2 x3 x4 t = some (t', o)) (k : (∀ h', kR h' t' s → kE o Q h')) : zz_J zp_P zt_tf zt_fd X d zm_44 99 [(0, .ref 3), (1, .ref x1), (2, .int x2), (3, .int x3), (4, .int x4)] [] h Q := by
  unfold cf_44_99 at hf
  refine cb_44_99 hR  (fun c {h} hR => ?_) (fun c {h} hR => ?_)
  · rw [if_pos c] at hf
    exact cr_44_132 hd hR hf k
  · rw [if_neg c] at hf
    exact cr_44_106 hd hR hf k
def cf_44_96 (N : Nat) (X : Nat → Option zz_C) (x1 : Nat) (x2 : Int32) (x3 : Int32) (x4 : Int32) (y0 : Int32) (t : cS) : kO := if y0 < 0 then cf_44_132 N X x3 x4 t else cf_44_99 N X x1 x2 x3 x4 t
theorem cr_44_96 {X : Nat → Option zz_C} {s : mS} {N : Nat} {d : Nat} (hd : 11 ≤ d) {Q : zz_O → zz_H → Prop} {x1 : Nat} {x2 : Int32} {x3 : Int32} {x4 : Int32} {y0 : Int32} {h : zz_H} {t t' : cS} {o : kY} (hR : kR h t s) (hf : cf_44_96 N X x1 x2 x3 x4 y0 t = some (t', o)) (k : (∀ h', kR h' t' s → kE o Q h')) : zz_J zp_P zt_tf zt_fd X d zm_44 96 [(0, .ref 3), (1, .ref x1), (2, .int x2), (3, .int x3), (4, .int x4)] [.int y0] h Q := by
  unfold cf_44_96 at hf
  refine cb_44_96 hR  (fun c {h} hR => ?_) (fun c {h} hR => ?_)
  · rw [if_pos c] at hf
    exact cr_44_132 hd hR hf k
  · rw [if_neg c] at hf
    exact cr_44_99 hd hR hf k
def cf_44_88 (N : Nat) (X : Nat → Option zz_C) (x1 : Nat) (x2 : Int32) (x3 : Int32) (x4 : Int32) (t : cS) : kO := if hcl X [] (zz_out + 45) 21 = true then (ko_call 21 (cf_359 N X (zz_out + 45) (UInt32.toInt32 (Int32.toUInt32 x4 % 65536)) t) (fun g1 v1 => co_i v1 (fun y => cf_44_96 N X x1 x2 x3 x4 y g1))) else none
theorem cr_44_88 {X : Nat → Option zz_C} {s : mS} {N : Nat} {d : Nat} (hd : 11 ≤ d) {Q : zz_O → zz_H → Prop} {x1 : Nat} {x2 : Int32} {x3 : Int32} {x4 : Int32} {h : zz_H} {t t' : cS} {o : kY} (hR : kR h t s) (hf : cf_44_88 N X x1 x2 x3 x4 t = some (t', o)) (k : (∀ h', kR h' t' s → kE o Q h')) : zz_J zp_P zt_tf zt_fd X d zm_44 88 [(0, .ref 3), (1, .ref x1), (2, .int x2), (3, .int x3), (4, .int x4)] [] h Q := by
  unfold cf_44_88 at hf
  obtain ⟨e0, hf⟩ := ko_if hf
  obtain ⟨d', rfl⟩ : ∃ d', d = d' + 1 := ⟨d - 1, by omega⟩
  refine cb_44_88 hR e0 (fun {h} hR => ?_)
  rcases ko_call_ok hf with ⟨g1, v1, er, hf⟩ | ⟨g1, er, hq⟩
  · obtain ⟨y, hv, hf2⟩ := co_i_ok hf
    clear hf
    have hf := hf2
    clear hf2
    subst hv
    refine cr_359 (by omega) hR er (fun h hR => ?_)
    exact cr_44_96 hd hR hf k
  · refine cr_359 (by omega) hR er (fun h hR => ?_)
    exact ko_thrown hq hR k
def cf_44_76 (N : Nat) (X : Nat → Option zz_C) (x1 : Nat) (x2 : Int32) (x3 : Int32) (x4 : Int32) (y0 : Int32) (t : cS) : kO := if 0 ≤ y0 then cf_44_88 N X x1 x2 x3 x4 t else cf_44_79 N X x3 t
theorem cr_44_76 {X : Nat → Option zz_C} {s : mS} {N : Nat} {d : Nat} (hd : 11 ≤ d) {Q : zz_O → zz_H → Prop} {x1 : Nat} {x2 : Int32} {x3 : Int32} {x4 : Int32} {y0 : Int32} {h : zz_H} {t t' : cS} {o : kY} (hR : kR h t s) (hf : cf_44_76 N X x1 x2 x3 x4 y0 t = some (t', o)) (k : (∀ h', kR h' t' s → kE o Q h')) : zz_J zp_P zt_tf zt_fd X d zm_44 76 [(0, .ref 3), (1, .ref x1), (2, .int x2), (3, .int x3), (4, .int x4)] [.int y0] h Q := by
  unfold cf_44_76 at hf
  refine cb_44_76 hR  (fun c {h} hR => ?_) (fun c {h} hR => ?_)
  · rw [if_pos c] at hf
    exact cr_44_88 hd hR hf k
  · rw [if_neg c] at hf
    exact cr_44_79 hd hR hf k
def cf_44_68 (N : Nat) (X : Nat → Option zz_C) (x1 : Nat) (x2 : Int32) (x3 : Int32) (x4 : Int32) (t : cS) : kO := if hcl X [] (zz_out + 44) 21 = true then (ko_call 21 (cf_359 N X (zz_out + 44) (UInt32.toInt32 (Int32.toUInt32 x4 % 65536)) t) (fun g1 v1 => co_i v1 (fun y => cf_44_76 N X x1 x2 x3 x4 y g1))) else none
theorem cr_44_68 {X : Nat → Option zz_C} {s : mS} {N : Nat} {d : Nat} (hd : 11 ≤ d) {Q : zz_O → zz_H → Prop} {x1 : Nat} {x2 : Int32} {x3 : Int32} {x4 : Int32} {h : zz_H} {t t' : cS} {o : kY} (hR : kR h t s) (hf : cf_44_68 N X x1 x2 x3 x4 t = some (t', o)) (k : (∀ h', kR h' t' s → kE o Q h')) : zz_J zp_P zt_tf zt_fd X d zm_44 68 [(0, .ref 3), (1, .ref x1), (2, .int x2), (3, .int x3), (4, .int x4)] [] h Q := by
  unfold cf_44_68 at hf
  obtain ⟨e0, hf⟩ := ko_if hf
  obtain ⟨d', rfl⟩ : ∃ d', d = d' + 1 := ⟨d - 1, by omega⟩
  refine cb_44_68 hR e0 (fun {h} hR => ?_)
  rcases ko_call_ok hf with ⟨g1, v1, er, hf⟩ | ⟨g1, er, hq⟩
  · obtain ⟨y, hv, hf2⟩ := co_i_ok hf
    clear hf
    have hf := hf2
    clear hf2
    subst hv
    refine cr_359 (by omega) hR er (fun h hR => ?_)
    exact cr_44_76 hd hR hf k
  · refine cr_359 (by omega) hR er (fun h hR => ?_)
    exact ko_thrown hq hR k
def cf_44_63 (N : Nat) (X : Nat → Option zz_C) (x1 : Nat) (x2 : Int32) (x3 : Int32) (x4 : Int32) (t : cS) : kO := if x4 < 0 then cf_44_79 N X x3 t else cf_44_68 N X x1 x2 x3 x4 t
theorem cr_44_63 {X : Nat → Option zz_C} {s : mS} {N : Nat} {d : Nat} (hd : 11 ≤ d) {Q : zz_O → zz_H → Prop} {x1 : Nat} {x2 : Int32} {x3 : Int32} {x4 : Int32} {h : zz_H} {t t' : cS} {o : kY} (hR : kR h t s) (hf : cf_44_63 N X x1 x2 x3 x4 t = some (t', o)) (k : (∀ h', kR h' t' s → kE o Q h')) : zz_J zp_P zt_tf zt_fd X d zm_44 63 [(0, .ref 3), (1, .ref x1), (2, .int x2), (3, .int x3), (4, .int x4)] [] h Q := by
  unfold cf_44_63 at hf
  refine cb_44_63 hR  (fun c {h} hR => ?_) (fun c {h} hR => ?_)
  · rw [if_pos c] at hf
    exact cr_44_79 hd hR hf k
  · rw [if_neg c] at hf
    exact cr_44_68 hd hR hf k
def cf_44_62 (N : Nat) (X : Nat → Option zz_C) (y0 : Int32) (t : cS) : kO := some (t, .inl (some (.int y0)))
theorem cr_44_62 {X : Nat → Option zz_C} {s : mS} {N : Nat} {d : Nat} (hd : 11 ≤ d) {Q : zz_O → zz_H → Prop} {y0 : Int32} {h : zz_H} {t t' : cS} {o : kY} (hR : kR h t s) (hf : cf_44_62 N X y0 t = some (t', o)) (k : (∀ h', kR h' t' s → kE o Q h')) : zz_J zp_P zt_tf zt_fd X d zm_44 62 [] [.int y0] h Q := by
  unfold cf_44_62 at hf
  cases hf
  exact cb_44_62 hR  (fun {h} hR => k h hR)
def cf_44_55 (N : Nat) (X : Nat → Option zz_C) (x1 : Nat) (x2 : Int32) (x3 : Int32) (t : cS) : kO := ko_call 10 (cf_246 N X x1 x2 x3 t) (fun g1 v1 => co_i v1 (fun y => cf_44_62 N X y g1))
theorem cr_44_55 {X : Nat → Option zz_C} {s : mS} {N : Nat} {d : Nat} (hd : 11 ≤ d) {Q : zz_O → zz_H → Prop} {x1 : Nat} {x2 : Int32} {x3 : Int32} {h : zz_H} {t t' : cS} {o : kY} (hR : kR h t s) (hf : cf_44_55 N X x1 x2 x3 t = some (t', o)) (k : (∀ h', kR h' t' s → kE o Q h')) : zz_J zp_P zt_tf zt_fd X d zm_44 55 [(0, .ref 3), (1, .ref x1), (2, .int x2), (3, .int x3)] [] h Q := by
  unfold cf_44_55 at hf
  obtain ⟨d', rfl⟩ : ∃ d', d = d' + 1 := ⟨d - 1, by omega⟩
  refine cb_44_55 hR  (fun {h} hR => ?_)
  rcases ko_call_ok hf with ⟨g1, v1, er, hf⟩ | ⟨g1, er, hq⟩
  · obtain ⟨y, hv, hf2⟩ := co_i_ok hf
    clear hf
    have hf := hf2
    clear hf2
    subst hv
    refine cr_246 (by omega) hR er (fun h hR => ?_)
    exact cr_44_62 hd hR hf k
  · refine cr_246 (by omega) hR er (fun h hR => ?_)
    exact ko_thrown hq hR k
def cf_44_48 (N : Nat) (X : Nat → Option zz_C) (x1 : Nat) (x2 : Int32) (x3 : Int32) (x4 : Int32) (t : cS) : kO := if 57 < x4 then cf_44_63 N X x1 x2 x3 x4 t else cf_44_55 N X x1 x2 x3 t
theorem cr_44_48 {X : Nat → Option zz_C} {s : mS} {N : Nat} {d : Nat} (hd : 11 ≤ d) {Q : zz_O → zz_H → Prop} {x1 : Nat} {x2 : Int32} {x3 : Int32} {x4 : Int32} {h : zz_H} {t t' : cS} {o : kY} (hR : kR h t s) (hf : cf_44_48 N X x1 x2 x3 x4 t = some (t', o)) (k : (∀ h', kR h' t' s → kE o Q h')) : zz_J zp_P zt_tf zt_fd X d zm_44 48 [(0, .ref 3), (1, .ref x1), (2, .int x2), (3, .int x3), (4, .int x4)] [] h Q := by
  unfold cf_44_48 at hf
  refine cb_44_48 hR  (fun c {h} hR => ?_) (fun c {h} hR => ?_)
  · rw [if_pos c] at hf
    exact cr_44_63 hd hR hf k
  · rw [if_neg c] at hf
    exact cr_44_55 hd hR hf k
def cf_44_41 (N : Nat) (X : Nat → Option zz_C) (x1 : Nat) (x2 : Int32) (x3 : Int32) (x4 : Int32) (t : cS) : kO := if x4 < 48 then cf_44_63 N X x1 x2 x3 x4 t else cf_44_48 N X x1 x2 x3 x4 t
theorem cr_44_41 {X : Nat → Option zz_C} {s : mS} {N : Nat} {d : Nat} (hd : 11 ≤ d) {Q : zz_O → zz_H → Prop} {x1 : Nat} {x2 : Int32} {x3 : Int32} {x4 : Int32} {h : zz_H} {t t' : cS} {o : kY} (hR : kR h t s) (hf : cf_44_41 N X x1 x2 x3 x4 t = some (t', o)) (k : (∀ h', kR h' t' s → kE o Q h')) : zz_J zp_P zt_tf zt_fd X d zm_44 41 [(0, .ref 3), (1, .ref x1), (2, .int x2), (3, .int x3), (4, .int x4)] [] h Q := by
  unfold cf_44_41 at hf
  refine cb_44_41 hR  (fun c {h} hR => ?_) (fun c {h} hR => ?_)
  · rw [if_pos c] at hf
    exact cr_44_63 hd hR hf k
  · rw [if_neg c] at hf
    exact cr_44_48 hd hR hf k
def cf_44_40 (N : Nat) (X : Nat → Option zz_C) (y0 : Int32) (t : cS) : kO := some (t, .inl (some (.int y0)))
theorem cr_44_40 {X : Nat → Option zz_C} {s : mS} {N : Nat} {d : Nat} (hd : 11 ≤ d) {Q : zz_O → zz_H → Prop} {y0 : Int32} {h : zz_H} {t t' : cS} {o : kY} (hR : kR h t s) (hf : cf_44_40 N X y0 t = some (t', o)) (k : (∀ h', kR h' t' s → kE o Q h')) : zz_J zp_P zt_tf zt_fd X d zm_44 40 [] [.int y0] h Q := by
  unfold cf_44_40 at hf
  cases hf
  exact cb_44_40 hR  (fun {h} hR => k h hR)
def cf_44_33 (N : Nat) (X : Nat → Option zz_C) (x1 : Nat) (x2 : Int32) (x3 : Int32) (t : cS) : kO := ko_call 10 (cf_245 N X x1 x2 x3 t) (fun g1 v1 => co_i v1 (fun y => cf_44_40 N X y g1))
theorem cr_44_33 {X : Nat → Option zz_C} {s : mS} {N : Nat} {d : Nat} (hd : 11 ≤ d) {Q : zz_O → zz_H → Prop} {x1 : Nat} {x2 : Int32} {x3 : Int32} {h : zz_H} {t t' : cS} {o : kY} (hR : kR h t s) (hf : cf_44_33 N X x1 x2 x3 t = some (t', o)) (k : (∀ h', kR h' t' s → kE o Q h')) : zz_J zp_P zt_tf zt_fd X d zm_44 33 [(0, .ref 3), (1, .ref x1), (2, .int x2), (3, .int x3)] [] h Q := by
  unfold cf_44_33 at hf
  obtain ⟨d', rfl⟩ : ∃ d', d = d' + 1 := ⟨d - 1, by omega⟩
  refine cb_44_33 hR  (fun {h} hR => ?_)
  rcases ko_call_ok hf with ⟨g1, v1, er, hf⟩ | ⟨g1, er, hq⟩
  · obtain ⟨y, hv, hf2⟩ := co_i_ok hf
    clear hf
    have hf := hf2
    clear hf2
    subst hv
    refine cr_245 (by omega) hR er (fun h hR => ?_)
    exact cr_44_40 hd hR hf k
  · refine cr_245 (by omega) hR er (fun h hR => ?_)
    exact ko_thrown hq hR k
def cf_44_26 (N : Nat) (X : Nat → Option zz_C) (x1 : Nat) (x2 : Int32) (x3 : Int32) (x4 : Int32) (t : cS) : kO := if 122 < x4 then cf_44_41 N X x1 x2 x3 x4 t else cf_44_33 N X x1 x2 x3 t
theorem cr_44_26 {X : Nat → Option zz_C} {s : mS} {N : Nat} {d : Nat} (hd : 11 ≤ d) {Q : zz_O → zz_H → Prop} {x1 : Nat} {x2 : Int32} {x3 : Int32} {x4 : Int32} {h : zz_H} {t t' : cS} {o : kY} (hR : kR h t s) (hf : cf_44_26 N X x1 x2 x3 x4 t = some (t', o)) (k : (∀ h', kR h' t' s → kE o Q h')) : zz_J zp_P zt_tf zt_fd X d zm_44 26 [(0, .ref 3), (1, .ref x1), (2, .int x2), (3, .int x3), (4, .int x4)] [] h Q := by
  unfold cf_44_26 at hf
  refine cb_44_26 hR  (fun c {h} hR => ?_) (fun c {h} hR => ?_)
  · rw [if_pos c] at hf
    exact cr_44_41 hd hR hf k
  · rw [if_neg c] at hf
    exact cr_44_33 hd hR hf k
def cf_44_14 (N : Nat) (X : Nat → Option zz_C) (x1 : Nat) (x2 : Int32) (x3 : Int32) (t : cS) : kO := if kD t 1 = x1 then (if ¬ (x3 < 0 ∨ (kA t 1).1 ≤ (Int32.toNatClampNeg x3)) then (if ((kA t 1).2 (Int32.toNatClampNeg x3)) < 97 then cf_44_41 N X x1 x2 x3 ((kA t 1).2 (Int32.toNatClampNeg x3)) t else cf_44_26 N X x1 x2 x3 ((kA t 1).2 (Int32.toNatClampNeg x3)) t) else none) else none
theorem cr_44_14 {X : Nat → Option zz_C} {s : mS} {N : Nat} {d : Nat} (hd : 11 ≤ d) {Q : zz_O → zz_H → Prop} {x1 : Nat} {x2 : Int32} {x3 : Int32} {h : zz_H} {t t' : cS} {o : kY} (hR : kR h t s) (hf : cf_44_14 N X x1 x2 x3 t = some (t', o)) (k : (∀ h', kR h' t' s → kE o Q h')) : zz_J zp_P zt_tf zt_fd X d zm_44 14 [(0, .ref 3), (1, .ref x1), (2, .int x2), (3, .int x3)] [] h Q := by
  unfold cf_44_14 at hf
  obtain ⟨e0, hf⟩ := ko_if hf
  obtain ⟨e1, hf⟩ := ko_if hf
  refine cb_44_14 hR e0 e1 (fun c {h} hR => ?_) (fun c {h} hR => ?_)
  · rw [if_pos c] at hf
    exact cr_44_41 hd hR hf k
  · rw [if_neg c] at hf
    exact cr_44_26 hd hR hf k
def cf_44_12 (N : Nat) (X : Nat → Option zz_C)  (t : cS) : kO := some (t, .inl (some (.int (-1))))
theorem cr_44_12 {X : Nat → Option zz_C} {s : mS} {N : Nat} {d : Nat} (hd : 11 ≤ d) {Q : zz_O → zz_H → Prop}  {h : zz_H} {t t' : cS} {o : kY} (hR : kR h t s) (hf : cf_44_12 N X  t = some (t', o)) (k : (∀ h', kR h' t' s → kE o Q h')) : zz_J zp_P zt_tf zt_fd X d zm_44 12 [] [] h Q := by
  unfold cf_44_12 at hf
  cases hf
  exact cb_44_12 hR  (fun {h} hR => k h hR)
def cf_44_5 (N : Nat) (X : Nat → Option zz_C) (x2 : Int32) (t : cS) : kO := ko_call 10 (cf_45 N X 0 x2 0 t) (fun g1 v1 => co_v v1 (cf_44_12 N X  g1))
theorem cr_44_5 {X : Nat → Option zz_C} {s : mS} {N : Nat} {d : Nat} (hd : 11 ≤ d) {Q : zz_O → zz_H → Prop} {x2 : Int32} {h : zz_H} {t t' : cS} {o : kY} (hR : kR h t s) (hf : cf_44_5 N X x2 t = some (t', o)) (k : (∀ h', kR h' t' s → kE o Q h')) : zz_J zp_P zt_tf zt_fd X d zm_44 5 [(0, .ref 3), (2, .int x2)] [] h Q := by
  unfold cf_44_5 at hf
  obtain ⟨d', rfl⟩ : ∃ d', d = d' + 1 := ⟨d - 1, by omega⟩
  refine cb_44_5 hR  (fun {h} hR => ?_)
  rcases ko_call_ok hf with ⟨g1, v1, er, hf⟩ | ⟨g1, er, hq⟩
  · obtain ⟨hv, hf2⟩ := co_v_ok hf
    clear hf
    have hf := hf2
    clear hf2
    subst hv
    refine cr_45 (by omega) hR er (fun h hR => ?_)
    exact cr_44_12 hd hR hf k
  · refine cr_45 (by omega) hR er (fun h hR => ?_)
    exact ko_thrown hq hR k
def cf_44_0 (N : Nat) (X : Nat → Option zz_C) (x1 : Nat) (x2 : Int32) (x3 : Int32) (t : cS) : kO := if x3 < x2 then cf_44_14 N X x1 x2 x3 t else cf_44_5 N X x2 t
theorem cr_44_0 {X : Nat → Option zz_C} {s : mS} {N : Nat} {d : Nat} (hd : 11 ≤ d) {Q : zz_O → zz_H → Prop} {x1 : Nat} {x2 : Int32} {x3 : Int32} {h : zz_H} {t t' : cS} {o : kY} (hR : kR h t s) (hf : cf_44_0 N X x1 x2 x3 t = some (t', o)) (k : (∀ h', kR h' t' s → kE o Q h')) : zz_J zp_P zt_tf zt_fd X d zm_44 0 [(0, .ref 3), (1, .ref x1), (2, .int x2), (3, .int x3)] [] h Q := by
  unfold cf_44_0 at hf
  refine cb_44_0 hR  (fun c {h} hR => ?_) (fun c {h} hR => ?_)
  · rw [if_pos c] at hf
    exact cr_44_14 hd hR hf k
  · rw [if_neg c] at hf
    exact cr_44_5 hd hR hf k
/-- scanOne -/
def cf_44 (N : Nat) (X : Nat → Option zz_C) (x1 : Nat) (x2 : Int32) (x3 : Int32) (t : cS) : kO := cf_44_0 N X x1 x2 x3 t
theorem cr_44 {X : Nat → Option zz_C} {s : mS} {N : Nat} {d : Nat} (hd : 11 ≤ d) {Q : zz_O → zz_H → Prop} {x1 : Nat} {x2 : Int32} {x3 : Int32} {h : zz_H} {t t' : cS} {o : kY} (hR : kR h t s) (hf : cf_44 N X x1 x2 x3 t = some (t', o)) (k : ∀ h', kR h' t' s → kE o Q h') : zz_J zp_P zt_tf zt_fd X d zm_44 0 [(0, .ref 3), (1, .ref x1), (2, .int x2), (3, .int x3)] [] h Q := by
  unfold cf_44 at hf
  exact zz_J.weak (cr_44_0 hd hR hf k) rfl ⟨rfl, rfl, rfl, rfl, trivial⟩
/-! yX10_scan ([BI)V -/
theorem cb_40_0 {X : Nat → Option zz_C} {h : zz_H} {t : cS} {s : mS} {d : Nat} {Q : zz_O → zz_H → Prop} {x1 : Nat} {x2 : Int32} (hR : kR h t s) (e0 : kD t 1 = x1) (k : ∀ {h : zz_H}, kR h (jI (jI t 3 3 0) 3 4 (-1)) s → zz_J zp_P zt_tf zt_fd X (d + 1) zm_40 23 [(0, .ref 3), (1, .ref x1), (3, .int (if (Int32.ofNat (kA t 1).1) < (x2 : Int32) then (Int32.ofNat (kA t 1).1) else x2)), (4, .int 0), (5, .int 0)] [] h Q) : zz_J zp_P zt_tf zt_fd X (d + 1) zm_40 0 [(0, .ref 3), (1, .ref x1), (2, .int x2)] [] h Q := by
  refine zz_J.n 1 rfl rfl rfl ?_
  refine zz_J.c 2 (.int 0) rfl rfl rfl rfl ?_
  obtain ⟨h1, eq1, hR⟩ := hR.pI (x := (0 : Int32)) (by decide) ko_3 (kpi_3_3 _) (Nat.le_of_ble_eq_true rfl) rfl
  refine zz_J.pv 5 rfl eq1 rfl ?_
  clear eq1
  refine zz_J.n 6 rfl rfl rfl ?_
  refine zz_J.c 7 (.int (-1)) rfl rfl rfl rfl ?_
  obtain ⟨h1, eq1, hR⟩ := hR.pI (x := ((-1) : Int32)) (by decide) ko_3 (kpi_3_4 _) (Nat.le_of_ble_eq_true rfl) rfl
  refine zz_J.pv 10 rfl eq1 rfl ?_
  clear eq1
  refine zz_J.n 11 rfl rfl rfl ?_
  refine zz_J.n 12 rfl rfl rfl ?_
  refine zz_J.ln 13 rfl (hR.ln (w := (Int32.ofNat (kA t 1).1)) ka_1 e0 (by decide) rfl) rfl ?_
  refine zz_J.spec 16 rfl rfl (by decide) rfl rfl rfl ?_
  refine zz_J.n 17 rfl rfl rfl ?_
  refine zz_J.c 18 (.int 0) rfl rfl rfl rfl ?_
  refine zz_J.n 20 rfl rfl rfl ?_
  refine zz_J.c 21 (.int 0) rfl rfl rfl rfl ?_
  refine zz_J.n 23 rfl rfl rfl ?_
  exact zz_J.weak (k hR) rfl ⟨rfl, rfl, rfl, rfl, rfl, trivial⟩
theorem cb_40_23 {X : Nat → Option zz_C} {h : zz_H} {t : cS} {s : mS} {d : Nat} {Q : zz_O → zz_H → Prop} {x1 : Nat} {x3 : Int32} {x4 : Int32} {x5 : Int32} (hR : kR h t s) (k1 : x3 < x5 → (∀ {h : zz_H}, kR h t s → zz_J zp_P zt_tf zt_fd X d zm_40 55 [(0, .ref 3)] [] h Q)) (k2 : ¬ x3 < x5 → (∀ {h : zz_H}, kR h t s → zz_J zp_P zt_tf zt_fd X d zm_40 29 [(0, .ref 3), (1, .ref x1), (3, .int x3), (4, .int x4), (5, .int x5)] [] h Q)) : zz_J zp_P zt_tf zt_fd X d zm_40 23 [(0, .ref 3), (1, .ref x1), (3, .int x3), (4, .int x4), (5, .int x5)] [] h Q := by
  refine zz_J.n 25 rfl rfl rfl ?_
  refine zz_J.n 26 rfl rfl rfl ?_
  refine zz_J.b2 55 29 (A := x3 < x5) rfl rfl (by decide) rfl rfl (fun c => ?_) (fun c => ?_)
  · exact zz_J.weak (k1 c hR) rfl ⟨rfl, trivial⟩
  · exact zz_J.weak (k2 c hR) rfl ⟨rfl, rfl, rfl, rfl, rfl, trivial⟩
theorem cb_40_29 {X : Nat → Option zz_C} {h : zz_H} {t : cS} {s : mS} {d : Nat} {Q : zz_O → zz_H → Prop} {x1 : Nat} {x3 : Int32} {x4 : Int32} {x5 : Int32} (hR : kR h t s) (k1 : x4 < 0 → (∀ {h : zz_H}, kR h t s → zz_J zp_P zt_tf zt_fd X d zm_40 55 [(0, .ref 3)] [] h Q)) (k2 : ¬ x4 < 0 → (∀ {h : zz_H}, kR h t s → zz_J zp_P zt_tf zt_fd X d zm_40 34 [(0, .ref 3), (1, .ref x1), (3, .int x3), (4, .int x4), (5, .int x5)] [] h Q)) : zz_J zp_P zt_tf zt_fd X d zm_40 29 [(0, .ref 3), (1, .ref x1), (3, .int x3), (4, .int x4), (5, .int x5)] [] h Q := by
  refine zz_J.n 31 rfl rfl rfl ?_
  refine zz_J.b1 55 34 (A := x4 < 0) rfl rfl (by decide) rfl rfl (fun c => ?_) (fun c => ?_)
  · exact zz_J.weak (k1 c hR) rfl ⟨rfl, trivial⟩
  · exact zz_J.weak (k2 c hR) rfl ⟨rfl, rfl, rfl, rfl, rfl, trivial⟩
theorem cb_40_34 {X : Nat → Option zz_C} {h : zz_H} {t : cS} {s : mS} {d : Nat} {Q : zz_O → zz_H → Prop} {x1 : Nat} {x3 : Int32} {x4 : Int32} {x5 : Int32} (hR : kR h t s) (k : ∀ {h : zz_H}, kR h t s → zz_J zp_P zt_tf zt_fd X d zm_43 0 [(0, .ref x1), (1, .int x3), (2, .int x4)] [] h (zz_after 0 Q (fun v h' => zz_J zp_P zt_tf zt_fd X (d + 1) zm_40 44 [(0, .ref 3), (1, .ref x1), (3, .int x3), (5, .int x5)] (v.toList ++ [.int x3, .ref x1, .ref 3]) h' Q))) : zz_J zp_P zt_tf zt_fd X (d + 1) zm_40 34 [(0, .ref 3), (1, .ref x1), (3, .int x3), (4, .int x4), (5, .int x5)] [] h Q := by
  refine zz_J.n 35 rfl rfl rfl ?_
  refine zz_J.n 36 rfl rfl rfl ?_
  refine zz_J.n 37 rfl rfl rfl ?_
  refine zz_J.n 38 rfl rfl rfl ?_
  refine zz_J.n 39 rfl rfl rfl ?_
  refine zz_J.n 41 rfl rfl rfl ?_
  refine zz_J.cl (M' := zm_43) 44 rfl rfl (by decide) rfl rfl ⟨rfl, Nat.le_of_ble_eq_true rfl⟩ rfl ?_
  refine zz_J.mono (k hR) ?_
  intro o h' hE
  cases o with
  | inl v => exact zz_J.weak hE rfl ⟨rfl, rfl, rfl, rfl, trivial⟩
  | inr q => exact hE
theorem cb_40_44 {X : Nat → Option zz_C} {h : zz_H} {t : cS} {s : mS} {d : Nat} {Q : zz_O → zz_H → Prop} {x1 : Nat} {x3 : Int32} {x5 : Int32} {y1 : Nat} {y2 : Int32} {y3 : Int32} (hR : kR h t s) (k : ∀ {h : zz_H}, kR h t s → zz_J zp_P zt_tf zt_fd X d zm_44 0 [(0, .ref 3), (1, .ref y1), (2, .int y2), (3, .int y3)] [] h (zz_after 10 Q (fun v h' => zz_J zp_P zt_tf zt_fd X (d + 1) zm_40 47 [(0, .ref 3), (1, .ref x1), (3, .int x3), (5, .int x5)] (v.toList ++ []) h' Q))) : zz_J zp_P zt_tf zt_fd X (d + 1) zm_40 44 [(0, .ref 3), (1, .ref x1), (3, .int x3), (5, .int x5)] [.int y3, .int y2, .ref y1, .ref 3] h Q := by
  refine zz_J.cv 47 (as := []) rfl rfl (hR.clO ko_3 (by decide) (by decide)) (by decide) (Nat.le_of_ble_eq_true rfl) (Nat.le_of_ble_eq_true rfl) rfl (Nat.le_of_ble_eq_true rfl) rfl ?_
  refine zz_J.mono (k hR) ?_
  intro o h' hE
  cases o with
  | inl v => exact zz_J.weak hE rfl ⟨rfl, rfl, rfl, rfl, trivial⟩
  | inr q => exact hE
theorem cb_40_47 {X : Nat → Option zz_C} {h : zz_H} {t : cS} {s : mS} {d : Nat} {Q : zz_O → zz_H → Prop} {x1 : Nat} {x3 : Int32} {x5 : Int32} {y0 : Int32} (hR : kR h t s) (k : ∀ {h : zz_H}, kR h t s → zz_J zp_P zt_tf zt_fd X d zm_40 23 [(0, .ref 3), (1, .ref x1), (3, .int x3), (4, .int y0), (5, .int (x5 + 1))] [] h Q) : zz_J zp_P zt_tf zt_fd X d zm_40 47 [(0, .ref 3), (1, .ref x1), (3, .int x3), (5, .int x5)] [.int y0] h Q := by
  refine zz_J.n 49 rfl rfl rfl ?_
  refine zz_J.n 52 rfl rfl rfl ?_
  refine zz_J.n 23 rfl rfl rfl ?_
  exact zz_J.weak (k hR) rfl ⟨rfl, rfl, rfl, rfl, rfl, trivial⟩
theorem cb_40_55 {X : Nat → Option zz_C} {h : zz_H} {t : cS} {s : mS} {d : Nat} {Q : zz_O → zz_H → Prop}  (hR : kR h t s) (k : ∀ {h : zz_H}, kR h t s → zz_J zp_P zt_tf zt_fd X d zm_46 0 [(0, .ref 3)] [] h (zz_after 10 Q (fun v h' => zz_J zp_P zt_tf zt_fd X (d + 1) zm_40 59 [] (v.toList ++ []) h' Q))) : zz_J zp_P zt_tf zt_fd X (d + 1) zm_40 55 [(0, .ref 3)] [] h Q := by
  refine zz_J.n 56 rfl rfl rfl ?_
  refine zz_J.cv 59 (as := []) rfl rfl (hR.clO ko_3 (by decide) (by decide)) (by decide) (Nat.le_of_ble_eq_true rfl) (Nat.le_of_ble_eq_true rfl) rfl (Nat.le_of_ble_eq_true rfl) rfl ?_
  refine zz_J.mono (k hR) ?_
  intro o h' hE
  cases o with
  | inl v => exact zz_J.weak hE rfl trivial
  | inr q => exact hE
theorem cb_40_59 {X : Nat → Option zz_C} {h : zz_H} {t : cS} {s : mS} {d : Nat} {Q : zz_O → zz_H → Prop}  (hR : kR h t s) (k : ∀ {h : zz_H}, kR h t s → Q (.inl none) h) : zz_J zp_P zt_tf zt_fd X d zm_40 59 [] [] h Q := by
  refine zz_J.ret rfl rfl rfl ?_
  exact k hR
def cf_40_59 (N : Nat) (X : Nat → Option zz_C)  (t : cS) : kO := some (t, .inl none)
theorem cr_40_59 {X : Nat → Option zz_C} {s : mS} {N : Nat} {d : Nat} (hd : 12 ≤ d) {Q : zz_O → zz_H → Prop}  {h : zz_H} {t t' : cS} {o : kY} (hR : kR h t s) (hf : cf_40_59 N X  t = some (t', o)) (k : (∀ h', kR h' t' s → kE o Q h')) : zz_J zp_P zt_tf zt_fd X d zm_40 59 [] [] h Q := by
  unfold cf_40_59 at hf
  cases hf
  exact cb_40_59 hR  (fun {h} hR => k h hR)
def cf_40_55 (N : Nat) (X : Nat → Option zz_C)  (t : cS) : kO := ko_call 10 (cf_46 N X  t) (fun g1 v1 => co_v v1 (cf_40_59 N X  g1))
theorem cr_40_55 {X : Nat → Option zz_C} {s : mS} {N : Nat} {d : Nat} (hd : 12 ≤ d) {Q : zz_O → zz_H → Prop}  {h : zz_H} {t t' : cS} {o : kY} (hR : kR h t s) (hf : cf_40_55 N X  t = some (t', o)) (k : (∀ h', kR h' t' s → kE o Q h')) : zz_J zp_P zt_tf zt_fd X d zm_40 55 [(0, .ref 3)] [] h Q := by
  unfold cf_40_55 at hf
  obtain ⟨d', rfl⟩ : ∃ d', d = d' + 1 := ⟨d - 1, by omega⟩
  refine cb_40_55 hR  (fun {h} hR => ?_)
  rcases ko_call_ok hf with ⟨g1, v1, er, hf⟩ | ⟨g1, er, hq⟩
  · obtain ⟨hv, hf2⟩ := co_v_ok hf
    clear hf
    have hf := hf2
    clear hf2
    subst hv
    refine cr_46 (by omega) hR er (fun h hR => ?_)
    exact cr_40_59 hd hR hf k
  · refine cr_46 (by omega) hR er (fun h hR => ?_)
    exact ko_thrown hq hR k
def cf_40_47 (N : Nat) (X : Nat → Option zz_C) (rc : Nat → Nat → Int32 → Int32 → Int32 → cS → kO) (x1 : Nat) (x3 : Int32) (x5 : Int32) (y0 : Int32) (t : cS) : kO := rc 0 x1 x3 y0 (x5 + 1) t
theorem cr_40_47 {X : Nat → Option zz_C} {s : mS} {N : Nat} {d : Nat} (hd : 12 ≤ d) {rc : Nat → Nat → Int32 → Int32 → Int32 → cS → kO} (hrc0 : ∀ {Q : zz_O → zz_H → Prop} {x1 : Nat} {x3 : Int32} {x4 : Int32} {x5 : Int32} {h : zz_H} {t t' : cS} {o : kY}, kR h t s → rc 0 x1 x3 x4 x5 t = some (t', o) → (∀ h', kR h' t' s → kE o Q h') → zz_J zp_P zt_tf zt_fd X d zm_40 23 [(0, .ref 3), (1, .ref x1), (3, .int x3), (4, .int x4), (5, .int x5)] [] h Q) {Q : zz_O → zz_H → Prop} {x1 : Nat} {x3 : Int32} {x5 : Int32} {y0 : Int32} {h : zz_H} {t t' : cS} {o : kY} (hR : kR h t s) (hf : cf_40_47 N X rc x1 x3 x5 y0 t = some (t', o)) (k : (∀ h', kR h' t' s → kE o Q h')) : zz_J zp_P zt_tf zt_fd X d zm_40 47 [(0, .ref 3), (1, .ref x1), (3, .int x3), (5, .int x5)] [.int y0] h Q := by
  unfold cf_40_47 at hf
  exact cb_40_47 hR  (fun hR => hrc0 hR hf k)
def cf_40_44 (N : Nat) (X : Nat → Option zz_C) (rc : Nat → Nat → Int32 → Int32 → Int32 → cS → kO) (x1 : Nat) (x3 : Int32) (x5 : Int32) (y1 : Nat) (y2 : Int32) (y3 : Int32) (t : cS) : kO := ko_call 10 (cf_44 N X y1 y2 y3 t) (fun g1 v1 => co_i v1 (fun y => cf_40_47 N X rc x1 x3 x5 y g1))
theorem cr_40_44 {X : Nat → Option zz_C} {s : mS} {N : Nat} {d : Nat} (hd : 12 ≤ d) {rc : Nat → Nat → Int32 → Int32 → Int32 → cS → kO} (hrc0 : ∀ {Q : zz_O → zz_H → Prop} {x1 : Nat} {x3 : Int32} {x4 : Int32} {x5 : Int32} {h : zz_H} {t t' : cS} {o : kY}, kR h t s → rc 0 x1 x3 x4 x5 t = some (t', o) → (∀ h', kR h' t' s → kE o Q h') → zz_J zp_P zt_tf zt_fd X d zm_40 23 [(0, .ref 3), (1, .ref x1), (3, .int x3), (4, .int x4), (5, .int x5)] [] h Q) {Q : zz_O → zz_H → Prop} {x1 : Nat} {x3 : Int32} {x5 : Int32} {y1 : Nat} {y2 : Int32} {y3 : Int32} {h : zz_H} {t t' : cS} {o : kY} (hR : kR h t s) (hf : cf_40_44 N X rc x1 x3 x5 y1 y2 y3 t = some (t', o)) (k : (∀ h', kR h' t' s → kE o Q h')) : zz_J zp_P zt_tf zt_fd X d zm_40 44 [(0, .ref 3), (1, .ref x1), (3, .int x3), (5, .int x5)] [.int y3, .int y2, .ref y1, .ref 3] h Q := by
  unfold cf_40_44 at hf
  obtain ⟨d', rfl⟩ : ∃ d', d = d' + 1 := ⟨d - 1, by omega⟩
  refine cb_40_44 hR  (fun {h} hR => ?_)
  rcases ko_call_ok hf with ⟨g1, v1, er, hf⟩ | ⟨g1, er, hq⟩
  · obtain ⟨y, hv, hf2⟩ := co_i_ok hf
    clear hf
    have hf := hf2
    clear hf2
    subst hv
    refine cr_44 (by omega) hR er (fun h hR => ?_)
    exact cr_40_47 hd hrc0 hR hf k
  · refine cr_44 (by omega) hR er (fun h hR => ?_)
    exact ko_thrown hq hR k
def cf_40_34 (N : Nat) (X : Nat → Option zz_C) (rc : Nat → Nat → Int32 → Int32 → Int32 → cS → kO) (x1 : Nat) (x3 : Int32) (x4 : Int32) (x5 : Int32) (t : cS) : kO := ko_call 0 (cf_43 N X x1 x3 x4 t) (fun g1 v1 => co_i v1 (fun y => cf_40_44 N X rc x1 x3 x5 x1 x3 y g1))
theorem cr_40_34 {X : Nat → Option zz_C} {s : mS} {N : Nat} {d : Nat} (hd : 12 ≤ d) {rc : Nat → Nat → Int32 → Int32 → Int32 → cS → kO} (hrc0 : ∀ {Q : zz_O → zz_H → Prop} {x1 : Nat} {x3 : Int32} {x4 : Int32} {x5 : Int32} {h : zz_H} {t t' : cS} {o : kY}, kR h t s → rc 0 x1 x3 x4 x5 t = some (t', o) → (∀ h', kR h' t' s → kE o Q h') → zz_J zp_P zt_tf zt_fd X d zm_40 23 [(0, .ref 3), (1, .ref x1), (3, .int x3), (4, .int x4), (5, .int x5)] [] h Q) {Q : zz_O → zz_H → Prop} {x1 : Nat} {x3 : Int32} {x4 : Int32} {x5 : Int32} {h : zz_H} {t t' : cS} {o : kY} (hR : kR h t s) (hf : cf_40_34 N X rc x1 x3 x4 x5 t = some (t', o)) (k : (∀ h', kR h' t' s → kE o Q h')) : zz_J zp_P zt_tf zt_fd X d zm_40 34 [(0, .ref 3), (1, .ref x1), (3, .int x3), (4, .int x4), (5, .int x5)] [] h Q := by
  unfold cf_40_34 at hf
  obtain ⟨d', rfl⟩ : ∃ d', d = d' + 1 := ⟨d - 1, by omega⟩
  refine cb_40_34 hR  (fun {h} hR => ?_)
  rcases ko_call_ok hf with ⟨g1, v1, er, hf⟩ | ⟨g1, er, hq⟩
  · obtain ⟨y, hv, hf2⟩ := co_i_ok hf
    clear hf
    have hf := hf2
    clear hf2
    subst hv
    refine cr_43 (by omega) hR er (fun h hR => ?_)
    exact cr_40_44 hd hrc0 hR hf k
  · refine cr_43 (by omega) hR er (fun h hR => ?_)
    exact ko_thrown hq hR k
def cf_40_29 (N : Nat) (X : Nat → Option zz_C) (rc : Nat → Nat → Int32 → Int32 → Int32 → cS → kO) (x1 : Nat) (x3 : Int32) (x4 : Int32) (x5 : Int32) (t : cS) : kO := if x4 < 0 then cf_40_55 N X  t else cf_40_34 N X rc x1 x3 x4 x5 t
theorem cr_40_29 {X : Nat → Option zz_C} {s : mS} {N : Nat} {d : Nat} (hd : 12 ≤ d) {rc : Nat → Nat → Int32 → Int32 → Int32 → cS → kO} (hrc0 : ∀ {Q : zz_O → zz_H → Prop} {x1 : Nat} {x3 : Int32} {x4 : Int32} {x5 : Int32} {h : zz_H} {t t' : cS} {o : kY}, kR h t s → rc 0 x1 x3 x4 x5 t = some (t', o) → (∀ h', kR h' t' s → kE o Q h') → zz_J zp_P zt_tf zt_fd X d zm_40 23 [(0, .ref 3), (1, .ref x1), (3, .int x3), (4, .int x4), (5, .int x5)] [] h Q) {Q : zz_O → zz_H → Prop} {x1 : Nat} {x3 : Int32} {x4 : Int32} {x5 : Int32} {h : zz_H} {t t' : cS} {o : kY} (hR : kR h t s) (hf : cf_40_29 N X rc x1 x3 x4 x5 t = some (t', o)) (k : (∀ h', kR h' t' s → kE o Q h')) : zz_J zp_P zt_tf zt_fd X d zm_40 29 [(0, .ref 3), (1, .ref x1), (3, .int x3), (4, .int x4), (5, .int x5)] [] h Q := by
  unfold cf_40_29 at hf
  refine cb_40_29 hR  (fun c {h} hR => ?_) (fun c {h} hR => ?_)
  · rw [if_pos c] at hf
    exact cr_40_55 hd hR hf k
  · rw [if_neg c] at hf
    exact cr_40_34 hd hrc0 hR hf k
def cf_40_23 (N : Nat) (X : Nat → Option zz_C) (rc : Nat → Nat → Int32 → Int32 → Int32 → cS → kO) (x1 : Nat) (x3 : Int32) (x4 : Int32) (x5 : Int32) (t : cS) : kO := if x3 < x5 then cf_40_55 N X  t else cf_40_29 N X rc x1 x3 x4 x5 t
theorem cr_40_23 {X : Nat → Option zz_C} {s : mS} {N : Nat} {d : Nat} (hd : 12 ≤ d) {rc : Nat → Nat → Int32 → Int32 → Int32 → cS → kO} (hrc0 : ∀ {Q : zz_O → zz_H → Prop} {x1 : Nat} {x3 : Int32} {x4 : Int32} {x5 : Int32} {h : zz_H} {t t' : cS} {o : kY}, kR h t s → rc 0 x1 x3 x4 x5 t = some (t', o) → (∀ h', kR h' t' s → kE o Q h') → zz_J zp_P zt_tf zt_fd X d zm_40 23 [(0, .ref 3), (1, .ref x1), (3, .int x3), (4, .int x4), (5, .int x5)] [] h Q) {Q : zz_O → zz_H → Prop} {x1 : Nat} {x3 : Int32} {x4 : Int32} {x5 : Int32} {h : zz_H} {t t' : cS} {o : kY} (hR : kR h t s) (hf : cf_40_23 N X rc x1 x3 x4 x5 t = some (t', o)) (k : (∀ h', kR h' t' s → kE o Q h')) : zz_J zp_P zt_tf zt_fd X d zm_40 23 [(0, .ref 3), (1, .ref x1), (3, .int x3), (4, .int x4), (5, .int x5)] [] h Q := by
  unfold cf_40_23 at hf
  refine cb_40_23 hR  (fun c {h} hR => ?_) (fun c {h} hR => ?_)
  · rw [if_pos c] at hf
    exact cr_40_55 hd hR hf k
  · rw [if_neg c] at hf
    exact cr_40_29 hd hrc0 hR hf k
def cf_40_L2 (N : Nat) (X : Nat → Option zz_C) : Nat → Nat → Nat → Int32 → Int32 → Int32 → cS → kO
  | 0, _, _, _, _, _, _ => none
  | n + 1, l, x1, x3, x4, x5, t => if l = 0 then cf_40_23 N X (cf_40_L2 N X n) x1 x3 x4 x5 t else none
theorem cr_40_L2 {X : Nat → Option zz_C} {s : mS} {N : Nat} {d : Nat} (hd : 12 ≤ d) : ∀ n : Nat, (∀ {Q : zz_O → zz_H → Prop} {x1 : Nat} {x3 : Int32} {x4 : Int32} {x5 : Int32} {h : zz_H} {t t' : cS} {o : kY}, kR h t s → cf_40_L2 N X n 0 x1 x3 x4 x5 t = some (t', o) → (∀ h', kR h' t' s → kE o Q h') → zz_J zp_P zt_tf zt_fd X d zm_40 23 [(0, .ref 3), (1, .ref x1), (3, .int x3), (4, .int x4), (5, .int x5)] [] h Q) := by
  intro n
  induction n with
  | zero => exact (fun _ hf _ => by cases hf)
  | succ n ih =>
    have h0 := @ih
    intro Q _ _ _ _ h t t' o hR hf k
    unfold cf_40_L2 at hf
    rw [if_pos rfl] at hf
    exact cr_40_23 hd h0 hR hf k
def cf_40_0 (N : Nat) (X : Nat → Option zz_C) (x1 : Nat) (x2 : Int32) (t : cS) : kO := if kD t 1 = x1 then (cf_40_L2 N X N 0 x1 (if (Int32.ofNat (kA t 1).1) < (x2 : Int32) then (Int32.ofNat (kA t 1).1) else x2) 0 0 (jI (jI t 3 3 0) 3 4 (-1))) else none
theorem cr_40_0 {X : Nat → Option zz_C} {s : mS} {N : Nat} {d : Nat} (hd : 12 ≤ d) {Q : zz_O → zz_H → Prop} {x1 : Nat} {x2 : Int32} {h : zz_H} {t t' : cS} {o : kY} (hR : kR h t s) (hf : cf_40_0 N X x1 x2 t = some (t', o)) (k : (∀ h', kR h' t' s → kE o Q h')) : zz_J zp_P zt_tf zt_fd X d zm_40 0 [(0, .ref 3), (1, .ref x1), (2, .int x2)] [] h Q := by
  unfold cf_40_0 at hf
  obtain ⟨e0, hf⟩ := ko_if hf
  obtain ⟨d', rfl⟩ : ∃ d', d = d' + 1 := ⟨d - 1, by omega⟩
  exact cb_40_0 hR e0 (fun hR => cr_40_L2 hd N hR hf k)
/-- scan -/
def cf_40 (N : Nat) (X : Nat → Option zz_C) (x1 : Nat) (x2 : Int32) (t : cS) : kO := cf_40_0 N X x1 x2 t
theorem cr_40 {X : Nat → Option zz_C} {s : mS} {N : Nat} {d : Nat} (hd : 12 ≤ d) {Q : zz_O → zz_H → Prop} {x1 : Nat} {x2 : Int32} {h : zz_H} {t t' : cS} {o : kY} (hR : kR h t s) (hf : cf_40 N X x1 x2 t = some (t', o)) (k : ∀ h', kR h' t' s → kE o Q h') : zz_J zp_P zt_tf zt_fd X d zm_40 0 [(0, .ref 3), (1, .ref x1), (2, .int x2)] [] h Q := by
  unfold cf_40 at hf
  exact zz_J.weak (cr_40_0 hd hR hf k) rfl ⟨rfl, rfl, rfl, trivial⟩
/-! yX5_compile ([BILTallySlate$Program;)V -/
theorem cb_35_0 {X : Nat → Option zz_C} {h : zz_H} {t : cS} {s : mS} {d : Nat} {Q : zz_O → zz_H → Prop} {x1 : Nat} {x2 : Int32} {x3 : Nat} (hR : kR h t s) (k : ∀ {h : zz_H}, kR h t s → zz_J zp_P zt_tf zt_fd X d zm_40 0 [(0, .ref 3), (1, .ref x1), (2, .int x2)] [] h (zz_after 10 Q (fun v h' => zz_J zp_P zt_tf zt_fd X (d + 1) zm_35 9 [(0, .ref 2), (3, .ref x3)] (v.toList ++ []) h' Q))) : zz_J zp_P zt_tf zt_fd X (d + 1) zm_35 0 [(0, .ref 2), (1, .ref x1), (2, .int x2), (3, .ref x3)] [] h Q := by
  refine zz_J.n 1 rfl rfl rfl ?_
  refine zz_J.g 4 rfl (hR.gv (v := .ref 3) ko_2 (by decide) rfl) rfl ?_
  refine zz_J.n 5 rfl rfl rfl ?_
  refine zz_J.n 6 rfl rfl rfl ?_
  refine zz_J.cv 9 (as := []) rfl rfl (hR.clO ko_3 (by decide) (by decide)) (by decide) (Nat.le_of_ble_eq_true rfl) (Nat.le_of_ble_eq_true rfl) rfl (Nat.le_of_ble_eq_true rfl) rfl ?_
  refine zz_J.mono (k hR) ?_
  intro o h' hE
  cases o with
  | inl v => exact zz_J.weak hE rfl ⟨rfl, rfl, trivial⟩
  | inr q => exact hE
theorem cb_35_9 {X : Nat → Option zz_C} {h : zz_H} {t : cS} {s : mS} {d : Nat} {Q : zz_O → zz_H → Prop} {x3 : Nat} (hR : kR h t s) (e0 : x3 = 12 ∨ x3 = 21) (k : ∀ {h : zz_H}, kR h (jP t 2 1 (some x3)) s → zz_J zp_P zt_tf zt_fd X d zm_31 0 [(0, .ref x3)] [] h (zz_after 6 Q (fun v h' => zz_J zp_P zt_tf zt_fd X (d + 1) zm_35 21 [(0, .ref 2)] (v.toList ++ []) h' Q))) : zz_J zp_P zt_tf zt_fd X (d + 1) zm_35 9 [(0, .ref 2), (3, .ref x3)] [] h Q := by
  refine zz_J.n 10 rfl rfl rfl ?_
  refine zz_J.n 11 rfl rfl rfl ?_
  obtain ⟨h1, eq1, hR⟩ := hR.pP (x := some x3) (by decide) ko_2 (kpi_2_1 _) (Nat.le_of_ble_eq_true rfl) rfl
  refine zz_J.pv 14 rfl eq1 rfl ?_
  clear eq1
  refine zz_J.n 15 rfl rfl rfl ?_
  refine zz_J.g 18 rfl (hR.gv (v := .ref x3) ko_2 (by decide) rfl) rfl ?_
  refine zz_J.cv 21 (as := []) rfl rfl (hR.clO (ko_P e0) (by decide) (by decide)) (by decide) (Nat.le_of_ble_eq_true rfl) (Nat.le_of_ble_eq_true rfl) rfl (Nat.le_of_ble_eq_true rfl) rfl ?_
  refine zz_J.mono (k hR) ?_
  intro o h' hE
  cases o with
  | inl v => exact zz_J.weak hE rfl ⟨rfl, trivial⟩
  | inr q => exact hE
theorem cb_35_21 {X : Nat → Option zz_C} {h : zz_H} {t : cS} {s : mS} {d : Nat} {Q : zz_O → zz_H → Prop}  (hR : kR h t s) (k : ∀ {h : zz_H}, kR h (jI (jI (jI (jI t 2 2 0) 2 9 0) 2 10 0) 2 11 (-1)) s → zz_J zp_P zt_tf zt_fd X d zm_35 44 [(0, .ref 2), (4, .int 0)] [] h Q) : zz_J zp_P zt_tf zt_fd X d zm_35 21 [(0, .ref 2)] [] h Q := by
  refine zz_J.n 22 rfl rfl rfl ?_
  refine zz_J.c 23 (.int 0) rfl rfl rfl rfl ?_
  obtain ⟨h1, eq1, hR⟩ := hR.pI (x := (0 : Int32)) (by decide) ko_2 (kpi_2_2 _) (Nat.le_of_ble_eq_true rfl) rfl
  refine zz_J.pv 26 rfl eq1 rfl ?_
  clear eq1
  refine zz_J.n 27 rfl rfl rfl ?_
  refine zz_J.c 28 (.int 0) rfl rfl rfl rfl ?_
  obtain ⟨h1, eq1, hR⟩ := hR.pI (x := (0 : Int32)) (by decide) ko_2 (kpi_2_9 _) (Nat.le_of_ble_eq_true rfl) rfl
  refine zz_J.pv 31 rfl eq1 rfl ?_
  clear eq1
  refine zz_J.n 32 rfl rfl rfl ?_
  refine zz_J.c 33 (.int 0) rfl rfl rfl rfl ?_
  obtain ⟨h1, eq1, hR⟩ := hR.pI (x := (0 : Int32)) (by decide) ko_2 (kpi_2_10 _) (Nat.le_of_ble_eq_true rfl) rfl
  refine zz_J.pv 36 rfl eq1 rfl ?_
  clear eq1
  refine zz_J.n 37 rfl rfl rfl ?_
  refine zz_J.c 38 (.int (-1)) rfl rfl rfl rfl ?_
  obtain ⟨h1, eq1, hR⟩ := hR.pI (x := ((-1) : Int32)) (by decide) ko_2 (kpi_2_11 _) (Nat.le_of_ble_eq_true rfl) rfl
  refine zz_J.pv 41 rfl eq1 rfl ?_
  clear eq1
  refine zz_J.c 42 (.int 0) rfl rfl rfl rfl ?_
  refine zz_J.n 44 rfl rfl rfl ?_
  exact zz_J.weak (k hR) rfl ⟨rfl, rfl, trivial⟩
theorem cb_35_44 {X : Nat → Option zz_C} {h : zz_H} {t : cS} {s : mS} {d : Nat} {Q : zz_O → zz_H → Prop} {x4 : Int32} (hR : kR h t s) (k : ∀ {h : zz_H}, kR h t s → zz_J zp_P zt_tf zt_fd X d zm_41 0 [(0, .ref 3)] [] h (zz_after 10 Q (fun v h' => zz_J zp_P zt_tf zt_fd X (d + 1) zm_35 53 [(0, .ref 2), (4, .int x4)] (v.toList ++ [.int x4]) h' Q))) : zz_J zp_P zt_tf zt_fd X (d + 1) zm_35 44 [(0, .ref 2), (4, .int x4)] [] h Q := by
  refine zz_J.n 46 rfl rfl rfl ?_
  refine zz_J.n 47 rfl rfl rfl ?_
  refine zz_J.g 50 rfl (hR.gv (v := .ref 3) ko_2 (by decide) rfl) rfl ?_
  refine zz_J.cv 53 (as := [.int x4]) rfl rfl (hR.clO ko_3 (by decide) (by decide)) (by decide) (Nat.le_of_ble_eq_true rfl) (Nat.le_of_ble_eq_true rfl) rfl (Nat.le_of_ble_eq_true rfl) rfl ?_
  refine zz_J.mono (k hR) ?_
  intro o h' hE
  cases o with
  | inl v => exact zz_J.weak hE rfl ⟨rfl, rfl, trivial⟩
  | inr q => exact hE
theorem cb_35_53 {X : Nat → Option zz_C} {h : zz_H} {t : cS} {s : mS} {d : Nat} {Q : zz_O → zz_H → Prop} {x4 : Int32} {y0 : Int32} {y1 : Int32} (hR : kR h t s) (k1 : y1 ≤ y0 → (∀ {h : zz_H}, kR h t s → zz_J zp_P zt_tf zt_fd X d zm_35 76 [(0, .ref 2)] [] h Q)) (k2 : ¬ y1 ≤ y0 → (∀ {h : zz_H}, kR h t s → zz_J zp_P zt_tf zt_fd X d zm_35 56 [(0, .ref 2), (4, .int x4)] [] h Q)) : zz_J zp_P zt_tf zt_fd X d zm_35 53 [(0, .ref 2), (4, .int x4)] [.int y1, .int y0] h Q := by
  refine zz_J.b2 76 56 (A := y1 ≤ y0) rfl rfl (by decide) rfl rfl (fun c => ?_) (fun c => ?_)
  · exact zz_J.weak (k1 c hR) rfl ⟨rfl, trivial⟩
  · exact zz_J.weak (k2 c hR) rfl ⟨rfl, rfl, trivial⟩
theorem cb_35_56 {X : Nat → Option zz_C} {h : zz_H} {t : cS} {s : mS} {d : Nat} {Q : zz_O → zz_H → Prop} {x4 : Int32} (hR : kR h t s) (k : ∀ {h : zz_H}, kR h t s → zz_J zp_P zt_tf zt_fd X d zm_42 0 [(0, .ref 3)] [] h (zz_after 10 Q (fun v h' => zz_J zp_P zt_tf zt_fd X (d + 1) zm_35 63 [(0, .ref 2), (4, .int x4)] (v.toList ++ []) h' Q))) : zz_J zp_P zt_tf zt_fd X (d + 1) zm_35 56 [(0, .ref 2), (4, .int x4)] [] h Q := by
  refine zz_J.n 57 rfl rfl rfl ?_
  refine zz_J.g 60 rfl (hR.gv (v := .ref 3) ko_2 (by decide) rfl) rfl ?_
  refine zz_J.cv 63 (as := []) rfl rfl (hR.clO ko_3 (by decide) (by decide)) (by decide) (Nat.le_of_ble_eq_true rfl) (Nat.le_of_ble_eq_true rfl) rfl (Nat.le_of_ble_eq_true rfl) rfl ?_
  refine zz_J.mono (k hR) ?_
  intro o h' hE
  cases o with
  | inl v => exact zz_J.weak hE rfl ⟨rfl, rfl, trivial⟩
  | inr q => exact hE
theorem cb_35_63 {X : Nat → Option zz_C} {h : zz_H} {t : cS} {s : mS} {d : Nat} {Q : zz_O → zz_H → Prop} {x4 : Int32} {y0 : Int32} (hR : kR h t s) (k1 : y0 = 0 → (∀ {h : zz_H}, kR h t s → zz_J zp_P zt_tf zt_fd X d zm_35 76 [(0, .ref 2)] [] h Q)) (k2 : ¬ y0 = 0 → (∀ {h : zz_H}, kR h t s → zz_J zp_P zt_tf zt_fd X d zm_35 66 [(0, .ref 2), (4, .int x4)] [] h Q)) : zz_J zp_P zt_tf zt_fd X d zm_35 63 [(0, .ref 2), (4, .int x4)] [.int y0] h Q := by
  refine zz_J.b1 76 66 (A := y0 = 0) rfl rfl (by decide) rfl rfl (fun c => ?_) (fun c => ?_)
  · exact zz_J.weak (k1 c hR) rfl ⟨rfl, trivial⟩
  · exact zz_J.weak (k2 c hR) rfl ⟨rfl, rfl, trivial⟩
theorem cb_35_66 {X : Nat → Option zz_C} {h : zz_H} {t : cS} {s : mS} {d : Nat} {Q : zz_O → zz_H → Prop} {x4 : Int32} (hR : kR h t s) (k : ∀ {h : zz_H}, kR h t s → zz_J zp_P zt_tf zt_fd X d zm_173 0 [(0, .ref 2)] [] h (zz_after 2005 Q (fun v h' => zz_J zp_P zt_tf zt_fd X (d + 1) zm_35 70 [(0, .ref 2), (4, .int x4)] (v.toList ++ []) h' Q))) : zz_J zp_P zt_tf zt_fd X (d + 1) zm_35 66 [(0, .ref 2), (4, .int x4)] [] h Q := by
  refine zz_J.n 67 rfl rfl rfl ?_
  refine zz_J.cv 70 (as := []) rfl rfl (hR.clO ko_2 (by decide) (by decide)) (by decide) (Nat.le_of_ble_eq_true rfl) (Nat.le_of_ble_eq_true rfl) rfl (Nat.le_of_ble_eq_true rfl) rfl ?_
  refine zz_J.mono (k hR) ?_
  intro o h' hE
  cases o with
  | inl v => exact zz_J.weak hE rfl ⟨rfl, rfl, trivial⟩
  | inr q => exact hE
theorem cb_35_70 {X : Nat → Option zz_C} {h : zz_H} {t : cS} {s : mS} {d : Nat} {Q : zz_O → zz_H → Prop} {x4 : Int32} (hR : kR h t s) (k : ∀ {h : zz_H}, kR h t s → zz_J zp_P zt_tf zt_fd X d zm_35 44 [(0, .ref 2), (4, .int (x4 + 1))] [] h Q) : zz_J zp_P zt_tf zt_fd X d zm_35 70 [(0, .ref 2), (4, .int x4)] [] h Q := by
  refine zz_J.n 73 rfl rfl rfl ?_
  refine zz_J.n 44 rfl rfl rfl ?_
  exact zz_J.weak (k hR) rfl ⟨rfl, rfl, trivial⟩
theorem cb_35_76 {X : Nat → Option zz_C} {h : zz_H} {t : cS} {s : mS} {d : Nat} {Q : zz_O → zz_H → Prop}  (hR : kR h t s) (k : ∀ {h : zz_H}, kR h t s → zz_J zp_P zt_tf zt_fd X d zm_35 82 [(0, .ref 2)] [] h Q) : zz_J zp_P zt_tf zt_fd X d zm_35 76 [(0, .ref 2)] [] h Q := by
  refine zz_J.n 82 rfl rfl rfl ?_
  exact zz_J.weak (k hR) rfl ⟨rfl, trivial⟩
theorem cb_35_82 {X : Nat → Option zz_C} {h : zz_H} {t : cS} {s : mS} {d : Nat} {Q : zz_O → zz_H → Prop}  (hR : kR h t s) (k : ∀ {h : zz_H}, kR h t s → zz_J zp_P zt_tf zt_fd X d zm_38 0 [(0, .ref 2)] [] h (zz_after 5 Q (fun v h' => zz_J zp_P zt_tf zt_fd X (d + 1) zm_35 86 [] (v.toList ++ []) h' Q))) : zz_J zp_P zt_tf zt_fd X (d + 1) zm_35 82 [(0, .ref 2)] [] h Q := by
  refine zz_J.n 83 rfl rfl rfl ?_
  refine zz_J.cv 86 (as := []) rfl rfl (hR.clO ko_2 (by decide) (by decide)) (by decide) (Nat.le_of_ble_eq_true rfl) (Nat.le_of_ble_eq_true rfl) rfl (Nat.le_of_ble_eq_true rfl) rfl ?_
  refine zz_J.mono (k hR) ?_
  intro o h' hE
  cases o with
  | inl v => exact zz_J.weak hE rfl trivial
  | inr q => exact hE
theorem cb_35_86 {X : Nat → Option zz_C} {h : zz_H} {t : cS} {s : mS} {d : Nat} {Q : zz_O → zz_H → Prop}  (hR : kR h t s) (k : ∀ {h : zz_H}, kR h t s → Q (.inl none) h) : zz_J zp_P zt_tf zt_fd X d zm_35 86 [] [] h Q := by
  refine zz_J.ret rfl rfl rfl ?_
  exact k hR
def cf_35_86 (N : Nat) (X : Nat → Option zz_C)  (t : cS) : kO := some (t, .inl none)
theorem cr_35_86 {X : Nat → Option zz_C} {s : mS} {N : Nat} {d : Nat} (hd : 314 ≤ d) {Q : zz_O → zz_H → Prop}  {h : zz_H} {t t' : cS} {o : kY} (hR : kR h t s) (hf : cf_35_86 N X  t = some (t', o)) (k : (∀ h', kR h' t' s → kE o Q h')) : zz_J zp_P zt_tf zt_fd X d zm_35 86 [] [] h Q := by
  unfold cf_35_86 at hf
  cases hf
  exact cb_35_86 hR  (fun {h} hR => k h hR)
def cf_35_82 (N : Nat) (X : Nat → Option zz_C)  (t : cS) : kO := ko_call 5 (cf_38 N X  t) (fun g1 v1 => co_v v1 (cf_35_86 N X  g1))
theorem cr_35_82 {X : Nat → Option zz_C} {s : mS} {N : Nat} {d : Nat} (hd : 314 ≤ d) {Q : zz_O → zz_H → Prop}  {h : zz_H} {t t' : cS} {o : kY} (hR : kR h t s) (hf : cf_35_82 N X  t = some (t', o)) (k : (∀ h', kR h' t' s → kE o Q h')) : zz_J zp_P zt_tf zt_fd X d zm_35 82 [(0, .ref 2)] [] h Q := by
  unfold cf_35_82 at hf
  obtain ⟨d', rfl⟩ : ∃ d', d = d' + 1 := ⟨d - 1, by omega⟩
  refine cb_35_82 hR  (fun {h} hR => ?_)
  rcases ko_call_ok hf with ⟨g1, v1, er, hf⟩ | ⟨g1, er, hq⟩
  · obtain ⟨hv, hf2⟩ := co_v_ok hf
    clear hf
    have hf := hf2
    clear hf2
    subst hv
    refine cr_38 (by omega) hR er (fun h hR => ?_)
    exact cr_35_86 hd hR hf k
  · refine cr_38 (by omega) hR er (fun h hR => ?_)
    exact ko_thrown hq hR k
def cf_35_76 (N : Nat) (X : Nat → Option zz_C)  (t : cS) : kO := cf_35_82 N X  t
theorem cr_35_76 {X : Nat → Option zz_C} {s : mS} {N : Nat} {d : Nat} (hd : 314 ≤ d) {Q : zz_O → zz_H → Prop}  {h : zz_H} {t t' : cS} {o : kY} (hR : kR h t s) (hf : cf_35_76 N X  t = some (t', o)) (k : (∀ h', kR h' t' s → kE o Q h')) : zz_J zp_P zt_tf zt_fd X d zm_35 76 [(0, .ref 2)] [] h Q := by
  unfold cf_35_76 at hf
  exact cb_35_76 hR  (fun hR => cr_35_82 hd hR hf k)
def cf_35_70 (N : Nat) (X : Nat → Option zz_C) (rc : Nat → Int32 → cS → kO) (x4 : Int32) (t : cS) : kO := rc 0 (x4 + 1) t
theorem cr_35_70 {X : Nat → Option zz_C} {s : mS} {N : Nat} {d : Nat} (hd : 314 ≤ d) {rc : Nat → Int32 → cS → kO} (hrc0 : ∀ {Q : zz_O → zz_H → Prop} {x4 : Int32} {h : zz_H} {t t' : cS} {o : kY}, kR h t s → rc 0 x4 t = some (t', o) → (∀ h', kR h' t' s → kE o Q h') → zz_J zp_P zt_tf zt_fd X d zm_35 44 [(0, .ref 2), (4, .int x4)] [] h Q) {Q : zz_O → zz_H → Prop} {x4 : Int32} {h : zz_H} {t t' : cS} {o : kY} (hR : kR h t s) (hf : cf_35_70 N X rc x4 t = some (t', o)) (k : (∀ h', kR h' t' s → kE o Q h')) : zz_J zp_P zt_tf zt_fd X d zm_35 70 [(0, .ref 2), (4, .int x4)] [] h Q := by
  unfold cf_35_70 at hf
  exact cb_35_70 hR  (fun hR => hrc0 hR hf k)
def cf_35_66 (N : Nat) (X : Nat → Option zz_C) (rc : Nat → Int32 → cS → kO) (x4 : Int32) (t : cS) : kO := ko_call 2005 (cf_173 N X  t) (fun g1 v1 => co_v v1 (cf_35_70 N X rc x4 g1))
theorem cr_35_66 {X : Nat → Option zz_C} {s : mS} {N : Nat} {d : Nat} (hd : 314 ≤ d) {rc : Nat → Int32 → cS → kO} (hrc0 : ∀ {Q : zz_O → zz_H → Prop} {x4 : Int32} {h : zz_H} {t t' : cS} {o : kY}, kR h t s → rc 0 x4 t = some (t', o) → (∀ h', kR h' t' s → kE o Q h') → zz_J zp_P zt_tf zt_fd X d zm_35 44 [(0, .ref 2), (4, .int x4)] [] h Q) {Q : zz_O → zz_H → Prop} {x4 : Int32} {h : zz_H} {t t' : cS} {o : kY} (hR : kR h t s) (hf : cf_35_66 N X rc x4 t = some (t', o)) (k : (∀ h', kR h' t' s → kE o Q h')) : zz_J zp_P zt_tf zt_fd X d zm_35 66 [(0, .ref 2), (4, .int x4)] [] h Q := by
  unfold cf_35_66 at hf
  obtain ⟨d', rfl⟩ : ∃ d', d = d' + 1 := ⟨d - 1, by omega⟩
  refine cb_35_66 hR  (fun {h} hR => ?_)
  rcases ko_call_ok hf with ⟨g1, v1, er, hf⟩ | ⟨g1, er, hq⟩
  · obtain ⟨hv, hf2⟩ := co_v_ok hf
    clear hf
    have hf := hf2
    clear hf2
    subst hv
    refine cr_173 (by omega) hR er (fun h hR => ?_)
    exact cr_35_70 hd hrc0 hR hf k
  · refine cr_173 (by omega) hR er (fun h hR => ?_)
    exact ko_thrown hq hR k
def cf_35_63 (N : Nat) (X : Nat → Option zz_C) (rc : Nat → Int32 → cS → kO) (x4 : Int32) (y0 : Int32) (t : cS) : kO := if y0 = 0 then cf_35_76 N X  t else cf_35_66 N X rc x4 t
theorem cr_35_63 {X : Nat → Option zz_C} {s : mS} {N : Nat} {d : Nat} (hd : 314 ≤ d) {rc : Nat → Int32 → cS → kO} (hrc0 : ∀ {Q : zz_O → zz_H → Prop} {x4 : Int32} {h : zz_H} {t t' : cS} {o : kY}, kR h t s → rc 0 x4 t = some (t', o) → (∀ h', kR h' t' s → kE o Q h') → zz_J zp_P zt_tf zt_fd X d zm_35 44 [(0, .ref 2), (4, .int x4)] [] h Q) {Q : zz_O → zz_H → Prop} {x4 : Int32} {y0 : Int32} {h : zz_H} {t t' : cS} {o : kY} (hR : kR h t s) (hf : cf_35_63 N X rc x4 y0 t = some (t', o)) (k : (∀ h', kR h' t' s → kE o Q h')) : zz_J zp_P zt_tf zt_fd X d zm_35 63 [(0, .ref 2), (4, .int x4)] [.int y0] h Q := by
  unfold cf_35_63 at hf
  refine cb_35_63 hR  (fun c {h} hR => ?_) (fun c {h} hR => ?_)
  · rw [if_pos c] at hf
    exact cr_35_76 hd hR hf k
  · rw [if_neg c] at hf
    exact cr_35_66 hd hrc0 hR hf k
def cf_35_56 (N : Nat) (X : Nat → Option zz_C) (rc : Nat → Int32 → cS → kO) (x4 : Int32) (t : cS) : kO := ko_call 10 (cf_42 N X  t) (fun g1 v1 => co_i v1 (fun y => cf_35_63 N X rc x4 y g1))
theorem cr_35_56 {X : Nat → Option zz_C} {s : mS} {N : Nat} {d : Nat} (hd : 314 ≤ d) {rc : Nat → Int32 → cS → kO} (hrc0 : ∀ {Q : zz_O → zz_H → Prop} {x4 : Int32} {h : zz_H} {t t' : cS} {o : kY}, kR h t s → rc 0 x4 t = some (t', o) → (∀ h', kR h' t' s → kE o Q h') → zz_J zp_P zt_tf zt_fd X d zm_35 44 [(0, .ref 2), (4, .int x4)] [] h Q) {Q : zz_O → zz_H → Prop} {x4 : Int32} {h : zz_H} {t t' : cS} {o : kY} (hR : kR h t s) (hf : cf_35_56 N X rc x4 t = some (t', o)) (k : (∀ h', kR h' t' s → kE o Q h')) : zz_J zp_P zt_tf zt_fd X d zm_35 56 [(0, .ref 2), (4, .int x4)] [] h Q := by
  unfold cf_35_56 at hf
  obtain ⟨d', rfl⟩ : ∃ d', d = d' + 1 := ⟨d - 1, by omega⟩
  refine cb_35_56 hR  (fun {h} hR => ?_)
  rcases ko_call_ok hf with ⟨g1, v1, er, hf⟩ | ⟨g1, er, hq⟩
  · obtain ⟨y, hv, hf2⟩ := co_i_ok hf
    clear hf
    have hf := hf2
    clear hf2
    subst hv
    refine cr_42 (by omega) hR er (fun h hR => ?_)
    exact cr_35_63 hd hrc0 hR hf k
  · refine cr_42 (by omega) hR er (fun h hR => ?_)
    exact ko_thrown hq hR k
def cf_35_53 (N : Nat) (X : Nat → Option zz_C) (rc : Nat → Int32 → cS → kO) (x4 : Int32) (y0 : Int32) (y1 : Int32) (t : cS) : kO := if y1 ≤ y0 then cf_35_76 N X  t else cf_35_56 N X rc x4 t
theorem cr_35_53 {X : Nat → Option zz_C} {s : mS} {N : Nat} {d : Nat} (hd : 314 ≤ d) {rc : Nat → Int32 → cS → kO} (hrc0 : ∀ {Q : zz_O → zz_H → Prop} {x4 : Int32} {h : zz_H} {t t' : cS} {o : kY}, kR h t s → rc 0 x4 t = some (t', o) → (∀ h', kR h' t' s → kE o Q h') → zz_J zp_P zt_tf zt_fd X d zm_35 44 [(0, .ref 2), (4, .int x4)] [] h Q) {Q : zz_O → zz_H → Prop} {x4 : Int32} {y0 : Int32} {y1 : Int32} {h : zz_H} {t t' : cS} {o : kY} (hR : kR h t s) (hf : cf_35_53 N X rc x4 y0 y1 t = some (t', o)) (k : (∀ h', kR h' t' s → kE o Q h')) : zz_J zp_P zt_tf zt_fd X d zm_35 53 [(0, .ref 2), (4, .int x4)] [.int y1, .int y0] h Q := by
  unfold cf_35_53 at hf
  refine cb_35_53 hR  (fun c {h} hR => ?_) (fun c {h} hR => ?_)
  · rw [if_pos c] at hf
    exact cr_35_76 hd hR hf k
  · rw [if_neg c] at hf
    exact cr_35_56 hd hrc0 hR hf k
def cf_35_44 (N : Nat) (X : Nat → Option zz_C) (rc : Nat → Int32 → cS → kO) (x4 : Int32) (t : cS) : kO := ko_call 10 (cf_41 N X  t) (fun g1 v1 => co_i v1 (fun y => cf_35_53 N X rc x4 x4 y g1))
theorem cr_35_44 {X : Nat → Option zz_C} {s : mS} {N : Nat} {d : Nat} (hd : 314 ≤ d) {rc : Nat → Int32 → cS → kO} (hrc0 : ∀ {Q : zz_O → zz_H → Prop} {x4 : Int32} {h : zz_H} {t t' : cS} {o : kY}, kR h t s → rc 0 x4 t = some (t', o) → (∀ h', kR h' t' s → kE o Q h') → zz_J zp_P zt_tf zt_fd X d zm_35 44 [(0, .ref 2), (4, .int x4)] [] h Q) {Q : zz_O → zz_H → Prop} {x4 : Int32} {h : zz_H} {t t' : cS} {o : kY} (hR : kR h t s) (hf : cf_35_44 N X rc x4 t = some (t', o)) (k : (∀ h', kR h' t' s → kE o Q h')) : zz_J zp_P zt_tf zt_fd X d zm_35 44 [(0, .ref 2), (4, .int x4)] [] h Q := by
  unfold cf_35_44 at hf
  obtain ⟨d', rfl⟩ : ∃ d', d = d' + 1 := ⟨d - 1, by omega⟩
  refine cb_35_44 hR  (fun {h} hR => ?_)
  rcases ko_call_ok hf with ⟨g1, v1, er, hf⟩ | ⟨g1, er, hq⟩
  · obtain ⟨y, hv, hf2⟩ := co_i_ok hf
    clear hf
    have hf := hf2
    clear hf2
    subst hv
    refine cr_41 (by omega) hR er (fun h hR => ?_)
    exact cr_35_53 hd hrc0 hR hf k
  · refine cr_41 (by omega) hR er (fun h hR => ?_)
    exact ko_thrown hq hR k
def cf_35_L3 (N : Nat) (X : Nat → Option zz_C) : Nat → Nat → Int32 → cS → kO
  | 0, _, _, _ => none
  | n + 1, l, x4, t => if l = 0 then cf_35_44 N X (cf_35_L3 N X n) x4 t else none
theorem cr_35_L3 {X : Nat → Option zz_C} {s : mS} {N : Nat} {d : Nat} (hd : 314 ≤ d) : ∀ n : Nat, (∀ {Q : zz_O → zz_H → Prop} {x4 : Int32} {h : zz_H} {t t' : cS} {o : kY}, kR h t s → cf_35_L3 N X n 0 x4 t = some (t', o) → (∀ h', kR h' t' s → kE o Q h') → zz_J zp_P zt_tf zt_fd X d zm_35 44 [(0, .ref 2), (4, .int x4)] [] h Q) := by
  intro n
  induction n with
  | zero => exact (fun _ hf _ => by cases hf)
  | succ n ih =>
    have h0 := @ih
    intro Q _ h t t' o hR hf k
    unfold cf_35_L3 at hf
    rw [if_pos rfl] at hf
    exact cr_35_44 hd h0 hR hf k
def cf_35_21 (N : Nat) (X : Nat → Option zz_C)  (t : cS) : kO := cf_35_L3 N X N 0 0 (jI (jI (jI (jI t 2 2 0) 2 9 0) 2 10 0) 2 11 (-1))
theorem cr_35_21 {X : Nat → Option zz_C} {s : mS} {N : Nat} {d : Nat} (hd : 314 ≤ d) {Q : zz_O → zz_H → Prop}  {h : zz_H} {t t' : cS} {o : kY} (hR : kR h t s) (hf : cf_35_21 N X  t = some (t', o)) (k : (∀ h', kR h' t' s → kE o Q h')) : zz_J zp_P zt_tf zt_fd X d zm_35 21 [(0, .ref 2)] [] h Q := by
  unfold cf_35_21 at hf
  exact cb_35_21 hR  (fun hR => cr_35_L3 hd N hR hf k)
def cf_35_9 (N : Nat) (X : Nat → Option zz_C) (x3 : Nat) (t : cS) : kO := if x3 = 12 ∨ x3 = 21 then (ko_call 6 (cf_31 N X x3 (jP t 2 1 (some x3))) (fun g1 v1 => co_v v1 (cf_35_21 N X  g1))) else none
theorem cr_35_9 {X : Nat → Option zz_C} {s : mS} {N : Nat} {d : Nat} (hd : 314 ≤ d) {Q : zz_O → zz_H → Prop} {x3 : Nat} {h : zz_H} {t t' : cS} {o : kY} (hR : kR h t s) (hf : cf_35_9 N X x3 t = some (t', o)) (k : (∀ h', kR h' t' s → kE o Q h')) : zz_J zp_P zt_tf zt_fd X d zm_35 9 [(0, .ref 2), (3, .ref x3)] [] h Q := by
  unfold cf_35_9 at hf
  obtain ⟨e0, hf⟩ := ko_if hf
  obtain ⟨d', rfl⟩ : ∃ d', d = d' + 1 := ⟨d - 1, by omega⟩
  refine cb_35_9 hR e0 (fun {h} hR => ?_)
  rcases ko_call_ok hf with ⟨g1, v1, er, hf⟩ | ⟨g1, er, hq⟩
  · obtain ⟨hv, hf2⟩ := co_v_ok hf
    clear hf
    have hf := hf2
    clear hf2
    subst hv
    refine cr_31 (by omega) hR er (fun h hR => ?_)
    exact cr_35_21 hd hR hf k
  · refine cr_31 (by omega) hR er (fun h hR => ?_)
    exact ko_thrown hq hR k
def cf_35_0 (N : Nat) (X : Nat → Option zz_C) (x1 : Nat) (x2 : Int32) (x3 : Nat) (t : cS) : kO := ko_call 10 (cf_40 N X x1 x2 t) (fun g1 v1 => co_v v1 (cf_35_9 N X x3 g1))
theorem cr_35_0 {X : Nat → Option zz_C} {s : mS} {N : Nat} {d : Nat} (hd : 314 ≤ d) {Q : zz_O → zz_H → Prop} {x1 : Nat} {x2 : Int32} {x3 : Nat} {h : zz_H} {t t' : cS} {o : kY} (hR : kR h t s) (hf : cf_35_0 N X x1 x2 x3 t = some (t', o)) (k : (∀ h', kR h' t' s → kE o Q h')) : zz_J zp_P zt_tf zt_fd X d zm_35 0 [(0, .ref 2), (1, .ref x1), (2, .int x2), (3, .ref x3)] [] h Q := by
  unfold cf_35_0 at hf
  obtain ⟨d', rfl⟩ : ∃ d', d = d' + 1 := ⟨d - 1, by omega⟩
  refine cb_35_0 hR  (fun {h} hR => ?_)
  rcases ko_call_ok hf with ⟨g1, v1, er, hf⟩ | ⟨g1, er, hq⟩
  · obtain ⟨hv, hf2⟩ := co_v_ok hf
    clear hf
    have hf := hf2
    clear hf2
    subst hv
    refine cr_40 (by omega) hR er (fun h hR => ?_)
    exact cr_35_9 hd hR hf k
  · refine cr_40 (by omega) hR er (fun h hR => ?_)
    exact ko_thrown hq hR k
/-- compile -/
def cf_35 (N : Nat) (X : Nat → Option zz_C) (x1 : Nat) (x2 : Int32) (x3 : Nat) (t : cS) : kO := cf_35_0 N X x1 x2 x3 t
theorem cr_35 {X : Nat → Option zz_C} {s : mS} {N : Nat} {d : Nat} (hd : 314 ≤ d) {Q : zz_O → zz_H → Prop} {x1 : Nat} {x2 : Int32} {x3 : Nat} {h : zz_H} {t t' : cS} {o : kY} (hR : kR h t s) (hf : cf_35 N X x1 x2 x3 t = some (t', o)) (k : ∀ h', kR h' t' s → kE o Q h') : zz_J zp_P zt_tf zt_fd X d zm_35 0 [(0, .ref 2), (1, .ref x1), (2, .int x2), (3, .ref x3)] [] h Q := by
  unfold cf_35 at hf
  exact zz_J.weak (cr_35_0 hd hR hf k) rfl ⟨rfl, rfl, rfl, rfl, trivial⟩
/-! yX5_failKind ()I -/
theorem cb_36_0 {X : Nat → Option zz_C} {h : zz_H} {t : cS} {s : mS} {d : Nat} {Q : zz_O → zz_H → Prop}  (hR : kR h t s) (k : ∀ {h : zz_H}, kR h t s → Q (.inl (some (.int (kI t 2 10)))) h) : zz_J zp_P zt_tf zt_fd X d zm_36 0 [(0, .ref 2)] [] h Q := by
  refine zz_J.n 1 rfl rfl rfl ?_
  refine zz_J.g 4 rfl (hR.gv (v := .int (kI t 2 10)) ko_2 (by decide) rfl) rfl ?_
  refine zz_J.ret rfl rfl rfl ?_
  exact k hR
def cf_36_0 (N : Nat) (X : Nat → Option zz_C)  (t : cS) : kO := some (t, .inl (some (.int (kI t 2 10))))
theorem cr_36_0 {X : Nat → Option zz_C} {s : mS} {N : Nat} {d : Nat} (hd : 0 ≤ d) {Q : zz_O → zz_H → Prop}  {h : zz_H} {t t' : cS} {o : kY} (hR : kR h t s) (hf : cf_36_0 N X  t = some (t', o)) (k : (∀ h', kR h' t' s → kE o Q h')) : zz_J zp_P zt_tf zt_fd X d zm_36 0 [(0, .ref 2)] [] h Q := by
  unfold cf_36_0 at hf
  cases hf
  exact cb_36_0 hR  (fun {h} hR => k h hR)
/-- failKind -/
def cf_36 (N : Nat) (X : Nat → Option zz_C)  (t : cS) : kO := cf_36_0 N X  t
theorem cr_36 {X : Nat → Option zz_C} {s : mS} {N : Nat} {d : Nat} (hd : 0 ≤ d) {Q : zz_O → zz_H → Prop}  {h : zz_H} {t t' : cS} {o : kY} (hR : kR h t s) (hf : cf_36 N X  t = some (t', o)) (k : ∀ h', kR h' t' s → kE o Q h') : zz_J zp_P zt_tf zt_fd X d zm_36 0 [(0, .ref 2)] [] h Q := by
  unfold cf_36 at hf
  exact zz_J.weak (cr_36_0 hd hR hf k) rfl ⟨rfl, trivial⟩
/-! yX5_failPlace ()I -/
theorem cb_37_0 {X : Nat → Option zz_C} {h : zz_H} {t : cS} {s : mS} {d : Nat} {Q : zz_O → zz_H → Prop}  (hR : kR h t s) (k : ∀ {h : zz_H}, kR h t s → Q (.inl (some (.int (kI t 2 11)))) h) : zz_J zp_P zt_tf zt_fd X d zm_37 0 [(0, .ref 2)] [] h Q := by
  refine zz_J.n 1 rfl rfl rfl ?_
  refine zz_J.g 4 rfl (hR.gv (v := .int (kI t 2 11)) ko_2 (by decide) rfl) rfl ?_
  refine zz_J.ret rfl rfl rfl ?_
  exact k hR
def cf_37_0 (N : Nat) (X : Nat → Option zz_C)  (t : cS) : kO := some (t, .inl (some (.int (kI t 2 11))))
theorem cr_37_0 {X : Nat → Option zz_C} {s : mS} {N : Nat} {d : Nat} (hd : 0 ≤ d) {Q : zz_O → zz_H → Prop}  {h : zz_H} {t t' : cS} {o : kY} (hR : kR h t s) (hf : cf_37_0 N X  t = some (t', o)) (k : (∀ h', kR h' t' s → kE o Q h')) : zz_J zp_P zt_tf zt_fd X d zm_37 0 [(0, .ref 2)] [] h Q := by
  unfold cf_37_0 at hf
  cases hf
  exact cb_37_0 hR  (fun {h} hR => k h hR)
/-- failPlace -/
def cf_37 (N : Nat) (X : Nat → Option zz_C)  (t : cS) : kO := cf_37_0 N X  t
theorem cr_37 {X : Nat → Option zz_C} {s : mS} {N : Nat} {d : Nat} (hd : 0 ≤ d) {Q : zz_O → zz_H → Prop}  {h : zz_H} {t t' : cS} {o : kY} (hR : kR h t s) (hf : cf_37 N X  t = some (t', o)) (k : ∀ h', kR h' t' s → kE o Q h') : zz_J zp_P zt_tf zt_fd X d zm_37 0 [(0, .ref 2)] [] h Q := by
  unfold cf_37 at hf
  exact zz_J.weak (cr_37_0 hd hR hf k) rfl ⟨rfl, trivial⟩
/-! yX12_load (I)I -/
theorem cb_3_0 {X : Nat → Option zz_C} {h : zz_H} {t : cS} {s : mS} {d : Nat} {Q : zz_O → zz_H → Prop} {x1 : Int32} (hR : kR h t s) (k1 : x1 < 0 → (∀ {h : zz_H}, kR h t s → zz_J zp_P zt_tf zt_fd X d zm_3 12 [] [] h Q)) (k2 : ¬ x1 < 0 → (∀ {h : zz_H}, kR h t s → zz_J zp_P zt_tf zt_fd X d zm_3 4 [(0, .ref 0), (1, .int x1)] [] h Q)) : zz_J zp_P zt_tf zt_fd X d zm_3 0 [(0, .ref 0), (1, .int x1)] [] h Q := by
  refine zz_J.n 1 rfl rfl rfl ?_
  refine zz_J.b1 12 4 (A := x1 < 0) rfl rfl (by decide) rfl rfl (fun c => ?_) (fun c => ?_)
  · exact zz_J.weak (k1 c hR) rfl trivial
  · exact zz_J.weak (k2 c hR) rfl ⟨rfl, rfl, trivial⟩
theorem cb_3_4 {X : Nat → Option zz_C} {h : zz_H} {t : cS} {s : mS} {d : Nat} {Q : zz_O → zz_H → Prop} {x1 : Int32} (hR : kR h t s) (k1 : x1 ≤ (kI t 0 1) → (∀ {h : zz_H}, kR h t s → zz_J zp_P zt_tf zt_fd X d zm_3 15 [(0, .ref 0), (1, .int x1)] [] h Q)) (k2 : ¬ x1 ≤ (kI t 0 1) → (∀ {h : zz_H}, kR h t s → zz_J zp_P zt_tf zt_fd X d zm_3 12 [] [] h Q)) : zz_J zp_P zt_tf zt_fd X d zm_3 4 [(0, .ref 0), (1, .int x1)] [] h Q := by
  refine zz_J.n 5 rfl rfl rfl ?_
  refine zz_J.n 6 rfl rfl rfl ?_
  refine zz_J.g 9 rfl (hR.gv (v := .int (kI t 0 1)) ko_0 (by decide) rfl) rfl ?_
  refine zz_J.b2 15 12 (A := x1 ≤ (kI t 0 1)) rfl rfl (by decide) rfl rfl (fun c => ?_) (fun c => ?_)
  · exact zz_J.weak (k1 c hR) rfl ⟨rfl, rfl, trivial⟩
  · exact zz_J.weak (k2 c hR) rfl trivial
theorem cb_3_12 {X : Nat → Option zz_C} {h : zz_H} {t : cS} {s : mS} {d : Nat} {Q : zz_O → zz_H → Prop}  (hR : kR h t s) (k : ∀ {h : zz_H}, kR h t s → Q (.inl (some (.int (-2)))) h) : zz_J zp_P zt_tf zt_fd X d zm_3 12 [] [] h Q := by
  refine zz_J.c 14 (.int (-2)) rfl rfl rfl rfl ?_
  refine zz_J.ret rfl rfl rfl ?_
  exact k hR
theorem cb_3_15 {X : Nat → Option zz_C} {h : zz_H} {t : cS} {s : mS} {d : Nat} {Q : zz_O → zz_H → Prop} {x1 : Int32} (hR : kR h t s) (k1 : x1 ≤ 1600 → (∀ {h : zz_H}, kR h (jI t 0 1 0) s → zz_J zp_P zt_tf zt_fd X d zm_3 41 [(0, .ref 0), (1, .int x1)] [] h Q)) (k2 : ¬ x1 ≤ 1600 → (∀ {h : zz_H}, kR h (jI t 0 1 0) s → zz_J zp_P zt_tf zt_fd X d zm_3 27 [(0, .ref 0)] [] h Q)) : zz_J zp_P zt_tf zt_fd X d zm_3 15 [(0, .ref 0), (1, .int x1)] [] h Q := by
  refine zz_J.n 16 rfl rfl rfl ?_
  refine zz_J.c 17 (.int 0) rfl rfl rfl rfl ?_
  obtain ⟨h1, eq1, hR⟩ := hR.pI (x := (0 : Int32)) (by decide) ko_0 (kpi_0_1 _) (Nat.le_of_ble_eq_true rfl) rfl
  refine zz_J.pv 20 rfl eq1 rfl ?_
  clear eq1
  refine zz_J.n 21 rfl rfl rfl ?_
  refine zz_J.c 24 (.int 1600) rfl rfl rfl rfl ?_
  refine zz_J.b2 41 27 (A := x1 ≤ 1600) rfl rfl (by decide) rfl rfl (fun c => ?_) (fun c => ?_)
  · exact zz_J.weak (k1 c hR) rfl ⟨rfl, rfl, trivial⟩
  · exact zz_J.weak (k2 c hR) rfl ⟨rfl, trivial⟩
theorem cb_3_27 {X : Nat → Option zz_C} {h : zz_H} {t : cS} {s : mS} {d : Nat} {Q : zz_O → zz_H → Prop}  (hR : kR h t s) (k : ∀ {h : zz_H}, kR h (jI (jI t 0 5 1) 0 6 1600) s → Q (.inl (some (.int (-1)))) h) : zz_J zp_P zt_tf zt_fd X d zm_3 27 [(0, .ref 0)] [] h Q := by
  refine zz_J.n 28 rfl rfl rfl ?_
  refine zz_J.c 29 (.int 1) rfl rfl rfl rfl ?_
  obtain ⟨h1, eq1, hR⟩ := hR.pI (x := (1 : Int32)) (by decide) ko_0 (kpi_0_5 _) (Nat.le_of_ble_eq_true rfl) rfl
  refine zz_J.pv 32 rfl eq1 rfl ?_
  clear eq1
  refine zz_J.n 33 rfl rfl rfl ?_
  refine zz_J.c 36 (.int 1600) rfl rfl rfl rfl ?_
  obtain ⟨h1, eq1, hR⟩ := hR.pI (x := (1600 : Int32)) (by decide) ko_0 (kpi_0_6 _) (Nat.le_of_ble_eq_true rfl) rfl
  refine zz_J.pv 39 rfl eq1 rfl ?_
  clear eq1
  refine zz_J.c 40 (.int (-1)) rfl rfl rfl rfl ?_
  refine zz_J.ret rfl rfl rfl ?_
  exact k hR
theorem cb_3_41 {X : Nat → Option zz_C} {h : zz_H} {t : cS} {s : mS} {d : Nat} {Q : zz_O → zz_H → Prop} {x1 : Int32} (hR : kR h t s) {w0 : Nat} (e0 : (kP t 0 4) = some w0) (k : ∀ {h : zz_H}, kR h t s → zz_J zp_P zt_tf zt_fd X d zm_35 0 [(0, .ref 2), (1, .ref (kD t 1)), (2, .int x1), (3, .ref w0)] [] h (zz_after 1005 Q (fun v h' => zz_J zp_P zt_tf zt_fd X (d + 1) zm_3 57 [(0, .ref 0)] (v.toList ++ []) h' Q))) : zz_J zp_P zt_tf zt_fd X (d + 1) zm_3 41 [(0, .ref 0), (1, .int x1)] [] h Q := by
  refine zz_J.n 42 rfl rfl rfl ?_
  refine zz_J.g 45 rfl (hR.gv (v := .ref 2) ko_0 (by decide) rfl) rfl ?_
  refine zz_J.n 46 rfl rfl rfl ?_
  refine zz_J.g 49 rfl (hR.gv (v := .ref (kD t 1)) ko_0 (by decide) rfl) rfl ?_
  refine zz_J.n 50 rfl rfl rfl ?_
  refine zz_J.n 51 rfl rfl rfl ?_
  refine zz_J.g 54 rfl (hR.gv (v := .ref w0) ko_0 (by decide) ((congrArg (fun q => some (zz_rv q)) e0).trans rfl)) rfl ?_
  refine zz_J.cv 57 (as := []) rfl rfl (hR.clO ko_2 (by decide) (by decide)) (by decide) (Nat.le_of_ble_eq_true rfl) (Nat.le_of_ble_eq_true rfl) rfl (Nat.le_of_ble_eq_true rfl) rfl ?_
  refine zz_J.mono (k hR) ?_
  intro o h' hE
  cases o with
  | inl v => exact zz_J.weak hE rfl ⟨rfl, trivial⟩
  | inr q => exact hE
theorem cb_3_57 {X : Nat → Option zz_C} {h : zz_H} {t : cS} {s : mS} {d : Nat} {Q : zz_O → zz_H → Prop}  (hR : kR h t s) (k : ∀ {h : zz_H}, kR h t s → zz_J zp_P zt_tf zt_fd X d zm_36 0 [(0, .ref 2)] [] h (zz_after 5 Q (fun v h' => zz_J zp_P zt_tf zt_fd X (d + 1) zm_3 65 [(0, .ref 0)] (v.toList ++ [.ref 0]) h' Q))) : zz_J zp_P zt_tf zt_fd X (d + 1) zm_3 57 [(0, .ref 0)] [] h Q := by
  refine zz_J.n 58 rfl rfl rfl ?_
  refine zz_J.n 59 rfl rfl rfl ?_
  refine zz_J.g 62 rfl (hR.gv (v := .ref 2) ko_0 (by decide) rfl) rfl ?_
  refine zz_J.cv 65 (as := [.ref 0]) rfl rfl (hR.clO ko_2 (by decide) (by decide)) (by decide) (Nat.le_of_ble_eq_true rfl) (Nat.le_of_ble_eq_true rfl) rfl (Nat.le_of_ble_eq_true rfl) rfl ?_
  refine zz_J.mono (k hR) ?_
  intro o h' hE
  cases o with
  | inl v => exact zz_J.weak hE rfl ⟨rfl, trivial⟩
  | inr q => exact hE
theorem cb_3_65 {X : Nat → Option zz_C} {h : zz_H} {t : cS} {s : mS} {d : Nat} {Q : zz_O → zz_H → Prop} {y1 : Int32} (hR : kR h t s) (k : ∀ {h : zz_H}, kR h (jI t 0 5 y1) s → zz_J zp_P zt_tf zt_fd X d zm_37 0 [(0, .ref 2)] [] h (zz_after 5 Q (fun v h' => zz_J zp_P zt_tf zt_fd X (d + 1) zm_3 76 [(0, .ref 0)] (v.toList ++ [.ref 0]) h' Q))) : zz_J zp_P zt_tf zt_fd X (d + 1) zm_3 65 [(0, .ref 0)] [.int y1, .ref 0] h Q := by
  obtain ⟨h1, eq1, hR⟩ := hR.pI (x := y1) (by decide) ko_0 (kpi_0_5 _) (Nat.le_of_ble_eq_true rfl) rfl
  refine zz_J.pv 68 rfl eq1 rfl ?_
  clear eq1
  refine zz_J.n 69 rfl rfl rfl ?_
  refine zz_J.n 70 rfl rfl rfl ?_
  refine zz_J.g 73 rfl (hR.gv (v := .ref 2) ko_0 (by decide) rfl) rfl ?_
  refine zz_J.cv 76 (as := [.ref 0]) rfl rfl (hR.clO ko_2 (by decide) (by decide)) (by decide) (Nat.le_of_ble_eq_true rfl) (Nat.le_of_ble_eq_true rfl) rfl (Nat.le_of_ble_eq_true rfl) rfl ?_
  refine zz_J.mono (k hR) ?_
  intro o h' hE
  cases o with
  | inl v => exact zz_J.weak hE rfl ⟨rfl, trivial⟩
  | inr q => exact hE
theorem cb_3_76 {X : Nat → Option zz_C} {h : zz_H} {t : cS} {s : mS} {d : Nat} {Q : zz_O → zz_H → Prop} {y1 : Int32} (hR : kR h t s) (k1 : (kI t 0 5) = 0 → (∀ {h : zz_H}, kR h (jI t 0 6 y1) s → zz_J zp_P zt_tf zt_fd X d zm_3 88 [(0, .ref 0)] [] h Q)) (k2 : ¬ (kI t 0 5) = 0 → (∀ {h : zz_H}, kR h (jI t 0 6 y1) s → zz_J zp_P zt_tf zt_fd X d zm_3 86 [] [] h Q)) : zz_J zp_P zt_tf zt_fd X d zm_3 76 [(0, .ref 0)] [.int y1, .ref 0] h Q := by
  obtain ⟨h1, eq1, hR⟩ := hR.pI (x := y1) (by decide) ko_0 (kpi_0_6 _) (Nat.le_of_ble_eq_true rfl) rfl
  refine zz_J.pv 79 rfl eq1 rfl ?_
  clear eq1
  refine zz_J.n 80 rfl rfl rfl ?_
  refine zz_J.g 83 rfl (hR.gv (v := .int (kI t 0 5)) ko_0 (by decide) rfl) rfl ?_
  refine zz_J.b1 88 86 (A := (kI t 0 5) = 0) rfl rfl (by decide) rfl rfl (fun c => ?_) (fun c => ?_)
  · exact zz_J.weak (k1 c hR) rfl ⟨rfl, trivial⟩
  · exact zz_J.weak (k2 c hR) rfl trivial
theorem cb_3_86 {X : Nat → Option zz_C} {h : zz_H} {t : cS} {s : mS} {d : Nat} {Q : zz_O → zz_H → Prop}  (hR : kR h t s) (k : ∀ {h : zz_H}, kR h t s → Q (.inl (some (.int (-1)))) h) : zz_J zp_P zt_tf zt_fd X d zm_3 86 [] [] h Q := by
  refine zz_J.c 87 (.int (-1)) rfl rfl rfl rfl ?_
  refine zz_J.ret rfl rfl rfl ?_
  exact k hR
theorem cb_3_88 {X : Nat → Option zz_C} {h : zz_H} {t : cS} {s : mS} {d : Nat} {Q : zz_O → zz_H → Prop}  (hR : kR h t s) {w0 : Nat} (e0 : (kP t 0 3) = some w0) {w1 : Nat} (e1 : (kP t 0 4) = some w1) (e2 : w1 = 12 ∨ w1 = 21) (k : ∀ {h : zz_H}, kR h (jP (jP t 0 3 (some w1)) 0 4 (some w0)) s → zz_J zp_P zt_tf zt_fd X d zm_32 0 [(0, .ref w1)] [] h (zz_after 6 Q (fun v h' => zz_J zp_P zt_tf zt_fd X (d + 1) zm_3 113 [] (v.toList ++ []) h' Q))) : zz_J zp_P zt_tf zt_fd X (d + 1) zm_3 88 [(0, .ref 0)] [] h Q := by
  refine zz_J.n 89 rfl rfl rfl ?_
  refine zz_J.g 92 rfl (hR.gv (v := .ref w0) ko_0 (by decide) ((congrArg (fun q => some (zz_rv q)) e0).trans rfl)) rfl ?_
  refine zz_J.n 93 rfl rfl rfl ?_
  refine zz_J.n 94 rfl rfl rfl ?_
  refine zz_J.n 95 rfl rfl rfl ?_
  refine zz_J.g 98 rfl (hR.gv (v := .ref w1) ko_0 (by decide) ((congrArg (fun q => some (zz_rv q)) e1).trans rfl)) rfl ?_
  obtain ⟨h1, eq1, hR⟩ := hR.pP (x := some w1) (by decide) ko_0 (kpi_0_3 _) (Nat.le_of_ble_eq_true rfl) rfl
  refine zz_J.pv 101 rfl eq1 rfl ?_
  clear eq1
  refine zz_J.n 102 rfl rfl rfl ?_
  refine zz_J.n 103 rfl rfl rfl ?_
  obtain ⟨h1, eq1, hR⟩ := hR.pP (x := some w0) (by decide) ko_0 (kpi_0_4 _) (Nat.le_of_ble_eq_true rfl) rfl
  refine zz_J.pv 106 rfl eq1 rfl ?_
  clear eq1
  refine zz_J.n 107 rfl rfl rfl ?_
  refine zz_J.g 110 rfl (hR.gv (v := .ref w1) ko_0 (by decide) rfl) rfl ?_
  refine zz_J.cv 113 (as := []) rfl rfl (hR.clO (ko_P e2) (by decide) (by decide)) (by decide) (Nat.le_of_ble_eq_true rfl) (Nat.le_of_ble_eq_true rfl) rfl (Nat.le_of_ble_eq_true rfl) rfl ?_
  refine zz_J.mono (k hR) ?_
  intro o h' hE
  cases o with
  | inl v => exact zz_J.weak hE rfl trivial
  | inr q => exact hE
theorem cb_3_113 {X : Nat → Option zz_C} {h : zz_H} {t : cS} {s : mS} {d : Nat} {Q : zz_O → zz_H → Prop} {y0 : Int32} (hR : kR h t s) (k : ∀ {h : zz_H}, kR h t s → Q (.inl (some (.int y0))) h) : zz_J zp_P zt_tf zt_fd X d zm_3 113 [] [.int y0] h Q := by
  refine zz_J.ret rfl rfl rfl ?_
  exact k hR
def cf_3_12 (N : Nat) (X : Nat → Option zz_C)  (t : cS) : kO := some (t, .inl (some (.int (-2))))
theorem cr_3_12 {X : Nat → Option zz_C} {s : mS} {N : Nat} {d : Nat} (hd : 315 ≤ d) {Q : zz_O → zz_H → Prop}  {h : zz_H} {t t' : cS} {o : kY} (hR : kR h t s) (hf : cf_3_12 N X  t = some (t', o)) (k : (∀ h', kR h' t' s → kE o Q h')) : zz_J zp_P zt_tf zt_fd X d zm_3 12 [] [] h Q := by
  unfold cf_3_12 at hf
  cases hf
  exact cb_3_12 hR  (fun {h} hR => k h hR)
def cf_3_113 (N : Nat) (X : Nat → Option zz_C) (y0 : Int32) (t : cS) : kO := some (t, .inl (some (.int y0)))
theorem cr_3_113 {X : Nat → Option zz_C} {s : mS} {N : Nat} {d : Nat} (hd : 315 ≤ d) {Q : zz_O → zz_H → Prop} {y0 : Int32} {h : zz_H} {t t' : cS} {o : kY} (hR : kR h t s) (hf : cf_3_113 N X y0 t = some (t', o)) (k : (∀ h', kR h' t' s → kE o Q h')) : zz_J zp_P zt_tf zt_fd X d zm_3 113 [] [.int y0] h Q := by
  unfold cf_3_113 at hf
  cases hf
  exact cb_3_113 hR  (fun {h} hR => k h hR)
def cf_3_88 (N : Nat) (X : Nat → Option zz_C)  (t : cS) : kO := co_b ((kP t 0 3)) (fun w0 => co_b ((kP t 0 4)) (fun w1 => if w1 = 12 ∨ w1 = 21 then (ko_call 6 (cf_32 N X w1 (jP (jP t 0 3 (some w1)) 0 4 (some w0))) (fun g1 v1 => co_i v1 (fun y => cf_3_113 N X y g1))) else none))
theorem cr_3_88 {X : Nat → Option zz_C} {s : mS} {N : Nat} {d : Nat} (hd : 315 ≤ d) {Q : zz_O → zz_H → Prop}  {h : zz_H} {t t' : cS} {o : kY} (hR : kR h t s) (hf : cf_3_88 N X  t = some (t', o)) (k : (∀ h', kR h' t' s → kE o Q h')) : zz_J zp_P zt_tf zt_fd X d zm_3 88 [(0, .ref 0)] [] h Q := by
  unfold cf_3_88 at hf
  obtain ⟨w0, e0, hf⟩ := co_b_ok hf
  obtain ⟨w1, e1, hf⟩ := co_b_ok hf
  obtain ⟨e2, hf⟩ := ko_if hf
  obtain ⟨d', rfl⟩ : ∃ d', d = d' + 1 := ⟨d - 1, by omega⟩
  refine cb_3_88 hR e0 e1 e2 (fun {h} hR => ?_)
  rcases ko_call_ok hf with ⟨g1, v1, er, hf⟩ | ⟨g1, er, hq⟩
  · obtain ⟨y, hv, hf2⟩ := co_i_ok hf
    clear hf
    have hf := hf2
    clear hf2
    subst hv
    refine cr_32 (by omega) hR er (fun h hR => ?_)
    exact cr_3_113 hd hR hf k
  · refine cr_32 (by omega) hR er (fun h hR => ?_)
    exact ko_thrown hq hR k
def cf_3_86 (N : Nat) (X : Nat → Option zz_C)  (t : cS) : kO := some (t, .inl (some (.int (-1))))
theorem cr_3_86 {X : Nat → Option zz_C} {s : mS} {N : Nat} {d : Nat} (hd : 315 ≤ d) {Q : zz_O → zz_H → Prop}  {h : zz_H} {t t' : cS} {o : kY} (hR : kR h t s) (hf : cf_3_86 N X  t = some (t', o)) (k : (∀ h', kR h' t' s → kE o Q h')) : zz_J zp_P zt_tf zt_fd X d zm_3 86 [] [] h Q := by
  unfold cf_3_86 at hf
  cases hf
  exact cb_3_86 hR  (fun {h} hR => k h hR)
def cf_3_76 (N : Nat) (X : Nat → Option zz_C) (y1 : Int32) (t : cS) : kO := if (kI t 0 5) = 0 then cf_3_88 N X  (jI t 0 6 y1) else cf_3_86 N X  (jI t 0 6 y1)
theorem cr_3_76 {X : Nat → Option zz_C} {s : mS} {N : Nat} {d : Nat} (hd : 315 ≤ d) {Q : zz_O → zz_H → Prop} {y1 : Int32} {h : zz_H} {t t' : cS} {o : kY} (hR : kR h t s) (hf : cf_3_76 N X y1 t = some (t', o)) (k : (∀ h', kR h' t' s → kE o Q h')) : zz_J zp_P zt_tf zt_fd X d zm_3 76 [(0, .ref 0)] [.int y1, .ref 0] h Q := by
  unfold cf_3_76 at hf
  refine cb_3_76 hR  (fun c {h} hR => ?_) (fun c {h} hR => ?_)
  · rw [if_pos c] at hf
    exact cr_3_88 hd hR hf k
  · rw [if_neg c] at hf
    exact cr_3_86 hd hR hf k
def cf_3_65 (N : Nat) (X : Nat → Option zz_C) (y1 : Int32) (t : cS) : kO := ko_call 5 (cf_37 N X  (jI t 0 5 y1)) (fun g1 v1 => co_i v1 (fun y => cf_3_76 N X y g1))
theorem cr_3_65 {X : Nat → Option zz_C} {s : mS} {N : Nat} {d : Nat} (hd : 315 ≤ d) {Q : zz_O → zz_H → Prop} {y1 : Int32} {h : zz_H} {t t' : cS} {o : kY} (hR : kR h t s) (hf : cf_3_65 N X y1 t = some (t', o)) (k : (∀ h', kR h' t' s → kE o Q h')) : zz_J zp_P zt_tf zt_fd X d zm_3 65 [(0, .ref 0)] [.int y1, .ref 0] h Q := by
  unfold cf_3_65 at hf
  obtain ⟨d', rfl⟩ : ∃ d', d = d' + 1 := ⟨d - 1, by omega⟩
  refine cb_3_65 hR  (fun {h} hR => ?_)
  rcases ko_call_ok hf with ⟨g1, v1, er, hf⟩ | ⟨g1, er, hq⟩
  · obtain ⟨y, hv, hf2⟩ := co_i_ok hf
    clear hf
    have hf := hf2
    clear hf2
    subst hv
    refine cr_37 (by omega) hR er (fun h hR => ?_)
    exact cr_3_76 hd hR hf k
  · refine cr_37 (by omega) hR er (fun h hR => ?_)
    exact ko_thrown hq hR k
def cf_3_57 (N : Nat) (X : Nat → Option zz_C)  (t : cS) : kO := ko_call 5 (cf_36 N X  t) (fun g1 v1 => co_i v1 (fun y => cf_3_65 N X y g1))
theorem cr_3_57 {X : Nat → Option zz_C} {s : mS} {N : Nat} {d : Nat} (hd : 315 ≤ d) {Q : zz_O → zz_H → Prop}  {h : zz_H} {t t' : cS} {o : kY} (hR : kR h t s) (hf : cf_3_57 N X  t = some (t', o)) (k : (∀ h', kR h' t' s → kE o Q h')) : zz_J zp_P zt_tf zt_fd X d zm_3 57 [(0, .ref 0)] [] h Q := by
  unfold cf_3_57 at hf
  obtain ⟨d', rfl⟩ : ∃ d', d = d' + 1 := ⟨d - 1, by omega⟩
  refine cb_3_57 hR  (fun {h} hR => ?_)
  rcases ko_call_ok hf with ⟨g1, v1, er, hf⟩ | ⟨g1, er, hq⟩
  · obtain ⟨y, hv, hf2⟩ := co_i_ok hf
    clear hf
    have hf := hf2
    clear hf2
    subst hv
    refine cr_36 (by omega) hR er (fun h hR => ?_)
    exact cr_3_65 hd hR hf k
  · refine cr_36 (by omega) hR er (fun h hR => ?_)
    exact ko_thrown hq hR k
def cf_3_41 (N : Nat) (X : Nat → Option zz_C) (x1 : Int32) (t : cS) : kO := co_b ((kP t 0 4)) (fun w0 => ko_call 1005 (cf_35 N X (kD t 1) x1 w0 t) (fun g1 v1 => co_v v1 (cf_3_57 N X  g1)))
theorem cr_3_41 {X : Nat → Option zz_C} {s : mS} {N : Nat} {d : Nat} (hd : 315 ≤ d) {Q : zz_O → zz_H → Prop} {x1 : Int32} {h : zz_H} {t t' : cS} {o : kY} (hR : kR h t s) (hf : cf_3_41 N X x1 t = some (t', o)) (k : (∀ h', kR h' t' s → kE o Q h')) : zz_J zp_P zt_tf zt_fd X d zm_3 41 [(0, .ref 0), (1, .int x1)] [] h Q := by
  unfold cf_3_41 at hf
  obtain ⟨w0, e0, hf⟩ := co_b_ok hf
  obtain ⟨d', rfl⟩ : ∃ d', d = d' + 1 := ⟨d - 1, by omega⟩
  refine cb_3_41 hR e0 (fun {h} hR => ?_)
  rcases ko_call_ok hf with ⟨g1, v1, er, hf⟩ | ⟨g1, er, hq⟩
  · obtain ⟨hv, hf2⟩ := co_v_ok hf
    clear hf
    have hf := hf2
    clear hf2
    subst hv
    refine cr_35 (by omega) hR er (fun h hR => ?_)
    exact cr_3_57 hd hR hf k
  · refine cr_35 (by omega) hR er (fun h hR => ?_)
    exact ko_thrown hq hR k
def cf_3_27 (N : Nat) (X : Nat → Option zz_C)  (t : cS) : kO := some ((jI (jI t 0 5 1) 0 6 1600), .inl (some (.int (-1))))
theorem cr_3_27 {X : Nat → Option zz_C} {s : mS} {N : Nat} {d : Nat} (hd : 315 ≤ d) {Q : zz_O → zz_H → Prop}  {h : zz_H} {t t' : cS} {o : kY} (hR : kR h t s) (hf : cf_3_27 N X  t = some (t', o)) (k : (∀ h', kR h' t' s → kE o Q h')) : zz_J zp_P zt_tf zt_fd X d zm_3 27 [(0, .ref 0)] [] h Q := by
  unfold cf_3_27 at hf
  cases hf
  exact cb_3_27 hR  (fun {h} hR => k h hR)
def cf_3_15 (N : Nat) (X : Nat → Option zz_C) (x1 : Int32) (t : cS) : kO := if x1 ≤ 1600 then cf_3_41 N X x1 (jI t 0 1 0) else cf_3_27 N X  (jI t 0 1 0)
theorem cr_3_15 {X : Nat → Option zz_C} {s : mS} {N : Nat} {d : Nat} (hd : 315 ≤ d) {Q : zz_O → zz_H → Prop} {x1 : Int32} {h : zz_H} {t t' : cS} {o : kY} (hR : kR h t s) (hf : cf_3_15 N X x1 t = some (t', o)) (k : (∀ h', kR h' t' s → kE o Q h')) : zz_J zp_P zt_tf zt_fd X d zm_3 15 [(0, .ref 0), (1, .int x1)] [] h Q := by
  unfold cf_3_15 at hf
  refine cb_3_15 hR  (fun c {h} hR => ?_) (fun c {h} hR => ?_)
  · rw [if_pos c] at hf
    exact cr_3_41 hd hR hf k
  · rw [if_neg c] at hf
    exact cr_3_27 hd hR hf k
def cf_3_4 (N : Nat) (X : Nat → Option zz_C) (x1 : Int32) (t : cS) : kO := if x1 ≤ (kI t 0 1) then cf_3_15 N X x1 t else cf_3_12 N X  t
theorem cr_3_4 {X : Nat → Option zz_C} {s : mS} {N : Nat} {d : Nat} (hd : 315 ≤ d) {Q : zz_O → zz_H → Prop} {x1 : Int32} {h : zz_H} {t t' : cS} {o : kY} (hR : kR h t s) (hf : cf_3_4 N X x1 t = some (t', o)) (k : (∀ h', kR h' t' s → kE o Q h')) : zz_J zp_P zt_tf zt_fd X d zm_3 4 [(0, .ref 0), (1, .int x1)] [] h Q := by
  unfold cf_3_4 at hf
  refine cb_3_4 hR  (fun c {h} hR => ?_) (fun c {h} hR => ?_)
  · rw [if_pos c] at hf
    exact cr_3_15 hd hR hf k
  · rw [if_neg c] at hf
    exact cr_3_12 hd hR hf k
def cf_3_0 (N : Nat) (X : Nat → Option zz_C) (x1 : Int32) (t : cS) : kO := if x1 < 0 then cf_3_12 N X  t else cf_3_4 N X x1 t
theorem cr_3_0 {X : Nat → Option zz_C} {s : mS} {N : Nat} {d : Nat} (hd : 315 ≤ d) {Q : zz_O → zz_H → Prop} {x1 : Int32} {h : zz_H} {t t' : cS} {o : kY} (hR : kR h t s) (hf : cf_3_0 N X x1 t = some (t', o)) (k : (∀ h', kR h' t' s → kE o Q h')) : zz_J zp_P zt_tf zt_fd X d zm_3 0 [(0, .ref 0), (1, .int x1)] [] h Q := by
  unfold cf_3_0 at hf
  refine cb_3_0 hR  (fun c {h} hR => ?_) (fun c {h} hR => ?_)
  · rw [if_pos c] at hf
    exact cr_3_12 hd hR hf k
  · rw [if_neg c] at hf
    exact cr_3_4 hd hR hf k
/-- load -/
def cf_3 (N : Nat) (X : Nat → Option zz_C) (x1 : Int32) (t : cS) : kO := cf_3_0 N X x1 t
theorem cr_3 {X : Nat → Option zz_C} {s : mS} {N : Nat} {d : Nat} (hd : 315 ≤ d) {Q : zz_O → zz_H → Prop} {x1 : Int32} {h : zz_H} {t t' : cS} {o : kY} (hR : kR h t s) (hf : cf_3 N X x1 t = some (t', o)) (k : ∀ h', kR h' t' s → kE o Q h') : zz_J zp_P zt_tf zt_fd X d zm_3 0 [(0, .ref 0), (1, .int x1)] [] h Q := by
  unfold cf_3 at hf
  exact zz_J.weak (cr_3_0 hd hR hf k) rfl ⟨rfl, rfl, trivial⟩
/-! yX12_fault (I)I -/
theorem cb_4_0 {X : Nat → Option zz_C} {h : zz_H} {t : cS} {s : mS} {d : Nat} {Q : zz_O → zz_H → Prop} {x1 : Int32} (hR : kR h t s) (k1 : ¬ x1 = 0 → (∀ {h : zz_H}, kR h t s → zz_J zp_P zt_tf zt_fd X d zm_4 9 [(0, .ref 0), (1, .int x1)] [] h Q)) (k2 : ¬ ¬ x1 = 0 → (∀ {h : zz_H}, kR h t s → zz_J zp_P zt_tf zt_fd X d zm_4 4 [(0, .ref 0)] [] h Q)) : zz_J zp_P zt_tf zt_fd X d zm_4 0 [(0, .ref 0), (1, .int x1)] [] h Q := by
  refine zz_J.n 1 rfl rfl rfl ?_
  refine zz_J.b1 9 4 (A := ¬ x1 = 0) rfl (zz_cond_ne _ _) (by decide) rfl rfl (fun c => ?_) (fun c => ?_)
  · exact zz_J.weak (k1 c hR) rfl ⟨rfl, rfl, trivial⟩
  · exact zz_J.weak (k2 c hR) rfl ⟨rfl, trivial⟩
theorem cb_4_4 {X : Nat → Option zz_C} {h : zz_H} {t : cS} {s : mS} {d : Nat} {Q : zz_O → zz_H → Prop}  (hR : kR h t s) (k : ∀ {h : zz_H}, kR h t s → Q (.inl (some (.int (kI t 0 5)))) h) : zz_J zp_P zt_tf zt_fd X d zm_4 4 [(0, .ref 0)] [] h Q := by
  refine zz_J.n 5 rfl rfl rfl ?_
  refine zz_J.g 8 rfl (hR.gv (v := .int (kI t 0 5)) ko_0 (by decide) rfl) rfl ?_
  refine zz_J.ret rfl rfl rfl ?_
  exact k hR
theorem cb_4_9 {X : Nat → Option zz_C} {h : zz_H} {t : cS} {s : mS} {d : Nat} {Q : zz_O → zz_H → Prop} {x1 : Int32} (hR : kR h t s) (k1 : ¬ x1 = 1 → (∀ {h : zz_H}, kR h t s → zz_J zp_P zt_tf zt_fd X d zm_4 21 [] [] h Q)) (k2 : ¬ ¬ x1 = 1 → (∀ {h : zz_H}, kR h t s → zz_J zp_P zt_tf zt_fd X d zm_4 14 [(0, .ref 0)] [] h Q)) : zz_J zp_P zt_tf zt_fd X d zm_4 9 [(0, .ref 0), (1, .int x1)] [] h Q := by
  refine zz_J.n 10 rfl rfl rfl ?_
  refine zz_J.c 11 (.int 1) rfl rfl rfl rfl ?_
  refine zz_J.b2 21 14 (A := ¬ x1 = 1) rfl (zz_cond_ne _ _) (by decide) rfl rfl (fun c => ?_) (fun c => ?_)
  · exact zz_J.weak (k1 c hR) rfl trivial
  · exact zz_J.weak (k2 c hR) rfl ⟨rfl, trivial⟩
theorem cb_4_14 {X : Nat → Option zz_C} {h : zz_H} {t : cS} {s : mS} {d : Nat} {Q : zz_O → zz_H → Prop}  (hR : kR h t s) (k : ∀ {h : zz_H}, kR h t s → zz_J zp_P zt_tf zt_fd X d zm_4 22 [] [.int (kI t 0 6)] h Q) : zz_J zp_P zt_tf zt_fd X d zm_4 14 [(0, .ref 0)] [] h Q := by
  refine zz_J.n 15 rfl rfl rfl ?_
  refine zz_J.g 18 rfl (hR.gv (v := .int (kI t 0 6)) ko_0 (by decide) rfl) rfl ?_
  refine zz_J.n 22 rfl rfl rfl ?_
  exact zz_J.weak (k hR) rfl trivial
theorem cb_4_21 {X : Nat → Option zz_C} {h : zz_H} {t : cS} {s : mS} {d : Nat} {Q : zz_O → zz_H → Prop}  (hR : kR h t s) (k : ∀ {h : zz_H}, kR h t s → zz_J zp_P zt_tf zt_fd X d zm_4 22 [] [.int (-1)] h Q) : zz_J zp_P zt_tf zt_fd X d zm_4 21 [] [] h Q := by
  refine zz_J.c 22 (.int (-1)) rfl rfl rfl rfl ?_
  exact zz_J.weak (k hR) rfl trivial
theorem cb_4_22 {X : Nat → Option zz_C} {h : zz_H} {t : cS} {s : mS} {d : Nat} {Q : zz_O → zz_H → Prop} {y0 : Int32} (hR : kR h t s) (k : ∀ {h : zz_H}, kR h t s → Q (.inl (some (.int y0))) h) : zz_J zp_P zt_tf zt_fd X d zm_4 22 [] [.int y0] h Q := by
  refine zz_J.ret rfl rfl rfl ?_
  exact k hR
def cf_4_22 (N : Nat) (X : Nat → Option zz_C) (y0 : Int32) (t : cS) : kO := some (t, .inl (some (.int y0)))
theorem cr_4_22 {X : Nat → Option zz_C} {s : mS} {N : Nat} {d : Nat} (hd : 0 ≤ d) {Q : zz_O → zz_H → Prop} {y0 : Int32} {h : zz_H} {t t' : cS} {o : kY} (hR : kR h t s) (hf : cf_4_22 N X y0 t = some (t', o)) (k : (∀ h', kR h' t' s → kE o Q h')) : zz_J zp_P zt_tf zt_fd X d zm_4 22 [] [.int y0] h Q := by
  unfold cf_4_22 at hf
  cases hf
  exact cb_4_22 hR  (fun {h} hR => k h hR)
def cf_4_21 (N : Nat) (X : Nat → Option zz_C)  (t : cS) : kO := cf_4_22 N X (-1) t
theorem cr_4_21 {X : Nat → Option zz_C} {s : mS} {N : Nat} {d : Nat} (hd : 0 ≤ d) {Q : zz_O → zz_H → Prop}  {h : zz_H} {t t' : cS} {o : kY} (hR : kR h t s) (hf : cf_4_21 N X  t = some (t', o)) (k : (∀ h', kR h' t' s → kE o Q h')) : zz_J zp_P zt_tf zt_fd X d zm_4 21 [] [] h Q := by
  unfold cf_4_21 at hf
  exact cb_4_21 hR  (fun hR => cr_4_22 hd hR hf k)
def cf_4_14 (N : Nat) (X : Nat → Option zz_C)  (t : cS) : kO := cf_4_22 N X (kI t 0 6) t
theorem cr_4_14 {X : Nat → Option zz_C} {s : mS} {N : Nat} {d : Nat} (hd : 0 ≤ d) {Q : zz_O → zz_H → Prop}  {h : zz_H} {t t' : cS} {o : kY} (hR : kR h t s) (hf : cf_4_14 N X  t = some (t', o)) (k : (∀ h', kR h' t' s → kE o Q h')) : zz_J zp_P zt_tf zt_fd X d zm_4 14 [(0, .ref 0)] [] h Q := by
  unfold cf_4_14 at hf
  exact cb_4_14 hR  (fun hR => cr_4_22 hd hR hf k)
def cf_4_9 (N : Nat) (X : Nat → Option zz_C) (x1 : Int32) (t : cS) : kO := if ¬ x1 = 1 then cf_4_21 N X  t else cf_4_14 N X  t
theorem cr_4_9 {X : Nat → Option zz_C} {s : mS} {N : Nat} {d : Nat} (hd : 0 ≤ d) {Q : zz_O → zz_H → Prop} {x1 : Int32} {h : zz_H} {t t' : cS} {o : kY} (hR : kR h t s) (hf : cf_4_9 N X x1 t = some (t', o)) (k : (∀ h', kR h' t' s → kE o Q h')) : zz_J zp_P zt_tf zt_fd X d zm_4 9 [(0, .ref 0), (1, .int x1)] [] h Q := by
  unfold cf_4_9 at hf
  refine cb_4_9 hR  (fun c {h} hR => ?_) (fun c {h} hR => ?_)
  · rw [if_pos c] at hf
    exact cr_4_21 hd hR hf k
  · rw [if_neg c] at hf
    exact cr_4_14 hd hR hf k
def cf_4_4 (N : Nat) (X : Nat → Option zz_C)  (t : cS) : kO := some (t, .inl (some (.int (kI t 0 5))))
theorem cr_4_4 {X : Nat → Option zz_C} {s : mS} {N : Nat} {d : Nat} (hd : 0 ≤ d) {Q : zz_O → zz_H → Prop}  {h : zz_H} {t t' : cS} {o : kY} (hR : kR h t s) (hf : cf_4_4 N X  t = some (t', o)) (k : (∀ h', kR h' t' s → kE o Q h')) : zz_J zp_P zt_tf zt_fd X d zm_4 4 [(0, .ref 0)] [] h Q := by
  unfold cf_4_4 at hf
  cases hf
  exact cb_4_4 hR  (fun {h} hR => k h hR)
def cf_4_0 (N : Nat) (X : Nat → Option zz_C) (x1 : Int32) (t : cS) : kO := if ¬ x1 = 0 then cf_4_9 N X x1 t else cf_4_4 N X  t
theorem cr_4_0 {X : Nat → Option zz_C} {s : mS} {N : Nat} {d : Nat} (hd : 0 ≤ d) {Q : zz_O → zz_H → Prop} {x1 : Int32} {h : zz_H} {t t' : cS} {o : kY} (hR : kR h t s) (hf : cf_4_0 N X x1 t = some (t', o)) (k : (∀ h', kR h' t' s → kE o Q h')) : zz_J zp_P zt_tf zt_fd X d zm_4 0 [(0, .ref 0), (1, .int x1)] [] h Q := by
  unfold cf_4_0 at hf
  refine cb_4_0 hR  (fun c {h} hR => ?_) (fun c {h} hR => ?_)
  · rw [if_pos c] at hf
    exact cr_4_9 hd hR hf k
  · rw [if_neg c] at hf
    exact cr_4_4 hd hR hf k
/-- fault -/
def cf_4 (N : Nat) (X : Nat → Option zz_C) (x1 : Int32) (t : cS) : kO := cf_4_0 N X x1 t
theorem cr_4 {X : Nat → Option zz_C} {s : mS} {N : Nat} {d : Nat} (hd : 0 ≤ d) {Q : zz_O → zz_H → Prop} {x1 : Int32} {h : zz_H} {t t' : cS} {o : kY} (hR : kR h t s) (hf : cf_4 N X x1 t = some (t', o)) (k : ∀ h', kR h' t' s → kE o Q h') : zz_J zp_P zt_tf zt_fd X d zm_4 0 [(0, .ref 0), (1, .int x1)] [] h Q := by
  unfold cf_4 at hf
  exact zz_J.weak (cr_4_0 hd hR hf k) rfl ⟨rfl, rfl, trivial⟩
/-! yX12_function (II)I -/
theorem cb_5_0 {X : Nat → Option zz_C} {h : zz_H} {t : cS} {s : mS} {d : Nat} {Q : zz_O → zz_H → Prop} {x1 : Int32} {x2 : Int32} (hR : kR h t s) {w0 : Nat} (e0 : (kP t 0 3) = some w0) (e1 : w0 = 12 ∨ w0 = 21) (k : ∀ {h : zz_H}, kR h t s → zz_J zp_P zt_tf zt_fd X d zm_33 0 [(0, .ref w0), (1, .int x1), (2, .int x2)] [] h (zz_after 6 Q (fun v h' => zz_J zp_P zt_tf zt_fd X (d + 1) zm_5 9 [] (v.toList ++ []) h' Q))) : zz_J zp_P zt_tf zt_fd X (d + 1) zm_5 0 [(0, .ref 0), (1, .int x1), (2, .int x2)] [] h Q := by
  refine zz_J.n 1 rfl rfl rfl ?_
  refine zz_J.g 4 rfl (hR.gv (v := .ref w0) ko_0 (by decide) ((congrArg (fun q => some (zz_rv q)) e0).trans rfl)) rfl ?_
  refine zz_J.n 5 rfl rfl rfl ?_
  refine zz_J.n 6 rfl rfl rfl ?_
  refine zz_J.cv 9 (as := []) rfl rfl (hR.clO (ko_P e1) (by decide) (by decide)) (by decide) (Nat.le_of_ble_eq_true rfl) (Nat.le_of_ble_eq_true rfl) rfl (Nat.le_of_ble_eq_true rfl) rfl ?_
  refine zz_J.mono (k hR) ?_
  intro o h' hE
  cases o with
  | inl v => exact zz_J.weak hE rfl trivial
  | inr q => exact hE
theorem cb_5_9 {X : Nat → Option zz_C} {h : zz_H} {t : cS} {s : mS} {d : Nat} {Q : zz_O → zz_H → Prop} {y0 : Int32} (hR : kR h t s) (k : ∀ {h : zz_H}, kR h t s → Q (.inl (some (.int y0))) h) : zz_J zp_P zt_tf zt_fd X d zm_5 9 [] [.int y0] h Q := by
  refine zz_J.ret rfl rfl rfl ?_
  exact k hR
def cf_5_9 (N : Nat) (X : Nat → Option zz_C) (y0 : Int32) (t : cS) : kO := some (t, .inl (some (.int y0)))
theorem cr_5_9 {X : Nat → Option zz_C} {s : mS} {N : Nat} {d : Nat} (hd : 1 ≤ d) {Q : zz_O → zz_H → Prop} {y0 : Int32} {h : zz_H} {t t' : cS} {o : kY} (hR : kR h t s) (hf : cf_5_9 N X y0 t = some (t', o)) (k : (∀ h', kR h' t' s → kE o Q h')) : zz_J zp_P zt_tf zt_fd X d zm_5 9 [] [.int y0] h Q := by
  unfold cf_5_9 at hf
  cases hf
  exact cb_5_9 hR  (fun {h} hR => k h hR)
def cf_5_0 (N : Nat) (X : Nat → Option zz_C) (x1 : Int32) (x2 : Int32) (t : cS) : kO := co_b ((kP t 0 3)) (fun w0 => if w0 = 12 ∨ w0 = 21 then (ko_call 6 (cf_33 N X w0 x1 x2 t) (fun g1 v1 => co_i v1 (fun y => cf_5_9 N X y g1))) else none)
theorem cr_5_0 {X : Nat → Option zz_C} {s : mS} {N : Nat} {d : Nat} (hd : 1 ≤ d) {Q : zz_O → zz_H → Prop} {x1 : Int32} {x2 : Int32} {h : zz_H} {t t' : cS} {o : kY} (hR : kR h t s) (hf : cf_5_0 N X x1 x2 t = some (t', o)) (k : (∀ h', kR h' t' s → kE o Q h')) : zz_J zp_P zt_tf zt_fd X d zm_5 0 [(0, .ref 0), (1, .int x1), (2, .int x2)] [] h Q := by
  unfold cf_5_0 at hf
  obtain ⟨w0, e0, hf⟩ := co_b_ok hf
  obtain ⟨e1, hf⟩ := ko_if hf
  obtain ⟨d', rfl⟩ : ∃ d', d = d' + 1 := ⟨d - 1, by omega⟩
  refine cb_5_0 hR e0 e1 (fun {h} hR => ?_)
  rcases ko_call_ok hf with ⟨g1, v1, er, hf⟩ | ⟨g1, er, hq⟩
  · obtain ⟨y, hv, hf2⟩ := co_i_ok hf
    clear hf
    have hf := hf2
    clear hf2
    subst hv
    refine cr_33 (by omega) hR er (fun h hR => ?_)
    exact cr_5_9 hd hR hf k
  · refine cr_33 (by omega) hR er (fun h hR => ?_)
    exact ko_thrown hq hR k
/-- function -/
def cf_5 (N : Nat) (X : Nat → Option zz_C) (x1 : Int32) (x2 : Int32) (t : cS) : kO := cf_5_0 N X x1 x2 t
theorem cr_5 {X : Nat → Option zz_C} {s : mS} {N : Nat} {d : Nat} (hd : 1 ≤ d) {Q : zz_O → zz_H → Prop} {x1 : Int32} {x2 : Int32} {h : zz_H} {t t' : cS} {o : kY} (hR : kR h t s) (hf : cf_5 N X x1 x2 t = some (t', o)) (k : ∀ h', kR h' t' s → kE o Q h') : zz_J zp_P zt_tf zt_fd X d zm_5 0 [(0, .ref 0), (1, .int x1), (2, .int x2)] [] h Q := by
  unfold cf_5 at hf
  exact zz_J.weak (cr_5_0 hd hR hf k) rfl ⟨rfl, rfl, rfl, trivial⟩
/-! yX2_empty ()V -/
theorem cb_120_0 {X : Nat → Option zz_C} {h : zz_H} {t : cS} {s : mS} {d : Nat} {Q : zz_O → zz_H → Prop}  (hR : kR h t s) (k : ∀ {h : zz_H}, kR h (jI (jI t 42 1 0) 42 3 0) s → Q (.inl none) h) : zz_J zp_P zt_tf zt_fd X d zm_120 0 [(0, .ref 42)] [] h Q := by
  refine zz_J.n 1 rfl rfl rfl ?_
  refine zz_J.c 2 (.int 0) rfl rfl rfl rfl ?_
  obtain ⟨h1, eq1, hR⟩ := hR.pI (x := (0 : Int32)) (by decide) ko_42 (kpi_42_1 _) (Nat.le_of_ble_eq_true rfl) rfl
  refine zz_J.pv 5 rfl eq1 rfl ?_
  clear eq1
  refine zz_J.n 6 rfl rfl rfl ?_
  refine zz_J.c 7 (.int 0) rfl rfl rfl rfl ?_
  obtain ⟨h1, eq1, hR⟩ := hR.pI (x := (0 : Int32)) (by decide) ko_42 (kpi_42_3 _) (Nat.le_of_ble_eq_true rfl) rfl
  refine zz_J.pv 10 rfl eq1 rfl ?_
  clear eq1
  refine zz_J.ret rfl rfl rfl ?_
  exact k hR
def cf_120_0 (N : Nat) (X : Nat → Option zz_C)  (t : cS) : kO := some ((jI (jI t 42 1 0) 42 3 0), .inl none)
theorem cr_120_0 {X : Nat → Option zz_C} {s : mS} {N : Nat} {d : Nat} (hd : 0 ≤ d) {Q : zz_O → zz_H → Prop}  {h : zz_H} {t t' : cS} {o : kY} (hR : kR h t s) (hf : cf_120_0 N X  t = some (t', o)) (k : (∀ h', kR h' t' s → kE o Q h')) : zz_J zp_P zt_tf zt_fd X d zm_120 0 [(0, .ref 42)] [] h Q := by
  unfold cf_120_0 at hf
  cases hf
  exact cb_120_0 hR  (fun {h} hR => k h hR)
/-- empty -/
def cf_120 (N : Nat) (X : Nat → Option zz_C)  (t : cS) : kO := cf_120_0 N X  t
theorem cr_120 {X : Nat → Option zz_C} {s : mS} {N : Nat} {d : Nat} (hd : 0 ≤ d) {Q : zz_O → zz_H → Prop}  {h : zz_H} {t t' : cS} {o : kY} (hR : kR h t s) (hf : cf_120 N X  t = some (t', o)) (k : ∀ h', kR h' t' s → kE o Q h') : zz_J zp_P zt_tf zt_fd X d zm_120 0 [(0, .ref 42)] [] h Q := by
  unfold cf_120 at hf
  exact zz_J.weak (cr_120_0 hd hR hf k) rfl ⟨rfl, trivial⟩
/-! yX3_lay (IJ)V -/
theorem cb_137_0 {X : Nat → Option zz_C} {h : zz_H} {t : cS} {s : mS} {d : Nat} {Q : zz_O → zz_H → Prop} {x1 : Int32} {x2 : Int64} (hR : kR h t s) (e0 : ¬ (x1 < 0 ∨ (kB t 50).1 ≤ (Int32.toNatClampNeg x1))) (e1 : ¬ (x1 < 0 ∨ (kA t 51).1 ≤ (Int32.toNatClampNeg x1))) (k : ∀ {h : zz_H}, kR h (jA (jB t 50 (vp_updL (kB t 50).2 (Int32.toNatClampNeg x1) x2)) 51 (upd (kA t 51).2 (Int32.toNatClampNeg x1) (vp_nar (zz_ty 3) 0))) s → Q (.inl none) h) : zz_J zp_P zt_tf zt_fd X d zm_137 0 [(0, .ref 49), (1, .int x1), (2, .long x2)] [] h Q := by
  refine zz_J.n 1 rfl rfl rfl ?_
  refine zz_J.g 4 rfl (hR.gv (v := .ref (kD t 50)) ko_49 (by decide) rfl) rfl ?_
  refine zz_J.n 5 rfl rfl rfl ?_
  refine zz_J.n 6 rfl rfl rfl ?_
  obtain ⟨h1, eq1, hR⟩ := hR.sl (x := x2) ka_50 rfl e0
  refine zz_J.sl 7 rfl eq1 rfl ?_
  clear eq1
  refine zz_J.n 8 rfl rfl rfl ?_
  refine zz_J.g 11 rfl (hR.gv (v := .ref (kD t 51)) ko_49 (by decide) rfl) rfl ?_
  refine zz_J.n 12 rfl rfl rfl ?_
  refine zz_J.c 13 (.int 0) rfl rfl rfl rfl ?_
  obtain ⟨h1, eq1, hR⟩ := hR.sb (x := (0 : Int32)) ka_51 rfl (by decide) e1
  refine zz_J.sb 14 rfl eq1 rfl ?_
  clear eq1
  refine zz_J.ret rfl rfl rfl ?_
  exact k hR
def cf_137_0 (N : Nat) (X : Nat → Option zz_C) (x1 : Int32) (x2 : Int64) (t : cS) : kO := if ¬ (x1 < 0 ∨ (kB t 50).1 ≤ (Int32.toNatClampNeg x1)) then (if ¬ (x1 < 0 ∨ (kA t 51).1 ≤ (Int32.toNatClampNeg x1)) then (some ((jA (jB t 50 (vp_updL (kB t 50).2 (Int32.toNatClampNeg x1) x2)) 51 (upd (kA t 51).2 (Int32.toNatClampNeg x1) (vp_nar (zz_ty 3) 0))), .inl none)) else none) else none
theorem cr_137_0 {X : Nat → Option zz_C} {s : mS} {N : Nat} {d : Nat} (hd : 0 ≤ d) {Q : zz_O → zz_H → Prop} {x1 : Int32} {x2 : Int64} {h : zz_H} {t t' : cS} {o : kY} (hR : kR h t s) (hf : cf_137_0 N X x1 x2 t = some (t', o)) (k : (∀ h', kR h' t' s → kE o Q h')) : zz_J zp_P zt_tf zt_fd X d zm_137 0 [(0, .ref 49), (1, .int x1), (2, .long x2)] [] h Q := by
  unfold cf_137_0 at hf
  obtain ⟨e0, hf⟩ := ko_if hf
  obtain ⟨e1, hf⟩ := ko_if hf
  cases hf
  exact cb_137_0 hR e0 e1 (fun {h} hR => k h hR)
/-- lay -/
def cf_137 (N : Nat) (X : Nat → Option zz_C) (x1 : Int32) (x2 : Int64) (t : cS) : kO := cf_137_0 N X x1 x2 t
theorem cr_137 {X : Nat → Option zz_C} {s : mS} {N : Nat} {d : Nat} (hd : 0 ≤ d) {Q : zz_O → zz_H → Prop} {x1 : Int32} {x2 : Int64} {h : zz_H} {t t' : cS} {o : kY} (hR : kR h t s) (hf : cf_137 N X x1 x2 t = some (t', o)) (k : ∀ h', kR h' t' s → kE o Q h') : zz_J zp_P zt_tf zt_fd X d zm_137 0 [(0, .ref 49), (1, .int x1), (2, .long x2)] [] h Q := by
  unfold cf_137 at hf
  exact zz_J.weak (cr_137_0 hd hR hf k) rfl ⟨rfl, rfl, rfl, trivial⟩
/-! yX3_variableAt (I)I -/
theorem cb_149_0 {X : Nat → Option zz_C} {h : zz_H} {t : cS} {s : mS} {d : Nat} {Q : zz_O → zz_H → Prop} {x1 : Int32} (hR : kR h t s) (k1 : (kI t 49 11) ≤ 0 → (∀ {h : zz_H}, kR h t s → zz_J zp_P zt_tf zt_fd X d zm_149 23 [(1, .int x1)] [] h Q)) (k2 : ¬ (kI t 49 11) ≤ 0 → (∀ {h : zz_H}, kR h t s → zz_J zp_P zt_tf zt_fd X d zm_149 7 [(0, .ref 49), (1, .int x1)] [] h Q)) : zz_J zp_P zt_tf zt_fd X d zm_149 0 [(0, .ref 49), (1, .int x1)] [] h Q := by
  refine zz_J.n 1 rfl rfl rfl ?_
  refine zz_J.g 4 rfl (hR.gv (v := .int (kI t 49 11)) ko_49 (by decide) rfl) rfl ?_
  refine zz_J.b1 23 7 (A := (kI t 49 11) ≤ 0) rfl rfl (by decide) rfl rfl (fun c => ?_) (fun c => ?_)
  · exact zz_J.weak (k1 c hR) rfl ⟨rfl, trivial⟩
  · exact zz_J.weak (k2 c hR) rfl ⟨rfl, rfl, trivial⟩
theorem cb_149_7 {X : Nat → Option zz_C} {h : zz_H} {t : cS} {s : mS} {d : Nat} {Q : zz_O → zz_H → Prop} {x1 : Int32} (hR : kR h t s) (e0 : ¬ (((kI t 49 11) - 1) < 0 ∨ (kA t 53).1 ≤ (Int32.toNatClampNeg ((kI t 49 11) - 1)))) (k : ∀ {h : zz_H}, kR h t s → zz_J zp_P zt_tf zt_fd X d zm_149 24 [] [.int (((kA t 53).2 (Int32.toNatClampNeg ((kI t 49 11) - 1))) + x1)] h Q) : zz_J zp_P zt_tf zt_fd X d zm_149 7 [(0, .ref 49), (1, .int x1)] [] h Q := by
  refine zz_J.n 8 rfl rfl rfl ?_
  refine zz_J.g 11 rfl (hR.gv (v := .ref (kD t 53)) ko_49 (by decide) rfl) rfl ?_
  refine zz_J.n 12 rfl rfl rfl ?_
  refine zz_J.g 15 rfl (hR.gv (v := .int (kI t 49 11)) ko_49 (by decide) rfl) rfl ?_
  refine zz_J.c 16 (.int 1) rfl rfl rfl rfl ?_
  refine zz_J.n 17 rfl rfl rfl ?_
  refine zz_J.ai 18 rfl (hR.ai (w := ((kA t 53).2 (Int32.toNatClampNeg ((kI t 49 11) - 1)))) ka_53 rfl e0 rfl) rfl ?_
  refine zz_J.n 19 rfl rfl rfl ?_
  refine zz_J.n 20 rfl rfl rfl ?_
  refine zz_J.n 24 rfl rfl rfl ?_
  exact zz_J.weak (k hR) rfl trivial
theorem cb_149_23 {X : Nat → Option zz_C} {h : zz_H} {t : cS} {s : mS} {d : Nat} {Q : zz_O → zz_H → Prop} {x1 : Int32} (hR : kR h t s) (k : ∀ {h : zz_H}, kR h t s → zz_J zp_P zt_tf zt_fd X d zm_149 24 [] [.int x1] h Q) : zz_J zp_P zt_tf zt_fd X d zm_149 23 [(1, .int x1)] [] h Q := by
  refine zz_J.n 24 rfl rfl rfl ?_
  exact zz_J.weak (k hR) rfl trivial
theorem cb_149_24 {X : Nat → Option zz_C} {h : zz_H} {t : cS} {s : mS} {d : Nat} {Q : zz_O → zz_H → Prop} {y0 : Int32} (hR : kR h t s) (k : ∀ {h : zz_H}, kR h t s → Q (.inl (some (.int y0))) h) : zz_J zp_P zt_tf zt_fd X d zm_149 24 [] [.int y0] h Q := by
  refine zz_J.ret rfl rfl rfl ?_
  exact k hR
def cf_149_24 (N : Nat) (X : Nat → Option zz_C) (y0 : Int32) (t : cS) : kO := some (t, .inl (some (.int y0)))
theorem cr_149_24 {X : Nat → Option zz_C} {s : mS} {N : Nat} {d : Nat} (hd : 0 ≤ d) {Q : zz_O → zz_H → Prop} {y0 : Int32} {h : zz_H} {t t' : cS} {o : kY} (hR : kR h t s) (hf : cf_149_24 N X y0 t = some (t', o)) (k : (∀ h', kR h' t' s → kE o Q h')) : zz_J zp_P zt_tf zt_fd X d zm_149 24 [] [.int y0] h Q := by
  unfold cf_149_24 at hf
  cases hf
  exact cb_149_24 hR  (fun {h} hR => k h hR)
def cf_149_23 (N : Nat) (X : Nat → Option zz_C) (x1 : Int32) (t : cS) : kO := cf_149_24 N X x1 t
theorem cr_149_23 {X : Nat → Option zz_C} {s : mS} {N : Nat} {d : Nat} (hd : 0 ≤ d) {Q : zz_O → zz_H → Prop} {x1 : Int32} {h : zz_H} {t t' : cS} {o : kY} (hR : kR h t s) (hf : cf_149_23 N X x1 t = some (t', o)) (k : (∀ h', kR h' t' s → kE o Q h')) : zz_J zp_P zt_tf zt_fd X d zm_149 23 [(1, .int x1)] [] h Q := by
  unfold cf_149_23 at hf
  exact cb_149_23 hR  (fun hR => cr_149_24 hd hR hf k)
def cf_149_7 (N : Nat) (X : Nat → Option zz_C) (x1 : Int32) (t : cS) : kO := if ¬ (((kI t 49 11) - 1) < 0 ∨ (kA t 53).1 ≤ (Int32.toNatClampNeg ((kI t 49 11) - 1))) then (cf_149_24 N X (((kA t 53).2 (Int32.toNatClampNeg ((kI t 49 11) - 1))) + x1) t) else none
theorem cr_149_7 {X : Nat → Option zz_C} {s : mS} {N : Nat} {d : Nat} (hd : 0 ≤ d) {Q : zz_O → zz_H → Prop} {x1 : Int32} {h : zz_H} {t t' : cS} {o : kY} (hR : kR h t s) (hf : cf_149_7 N X x1 t = some (t', o)) (k : (∀ h', kR h' t' s → kE o Q h')) : zz_J zp_P zt_tf zt_fd X d zm_149 7 [(0, .ref 49), (1, .int x1)] [] h Q := by
  unfold cf_149_7 at hf
  obtain ⟨e0, hf⟩ := ko_if hf
  exact cb_149_7 hR e0 (fun hR => cr_149_24 hd hR hf k)
def cf_149_0 (N : Nat) (X : Nat → Option zz_C) (x1 : Int32) (t : cS) : kO := if (kI t 49 11) ≤ 0 then cf_149_23 N X x1 t else cf_149_7 N X x1 t
theorem cr_149_0 {X : Nat → Option zz_C} {s : mS} {N : Nat} {d : Nat} (hd : 0 ≤ d) {Q : zz_O → zz_H → Prop} {x1 : Int32} {h : zz_H} {t t' : cS} {o : kY} (hR : kR h t s) (hf : cf_149_0 N X x1 t = some (t', o)) (k : (∀ h', kR h' t' s → kE o Q h')) : zz_J zp_P zt_tf zt_fd X d zm_149 0 [(0, .ref 49), (1, .int x1)] [] h Q := by
  unfold cf_149_0 at hf
  refine cb_149_0 hR  (fun c {h} hR => ?_) (fun c {h} hR => ?_)
  · rw [if_pos c] at hf
    exact cr_149_23 hd hR hf k
  · rw [if_neg c] at hf
    exact cr_149_7 hd hR hf k
/-- variableAt -/
def cf_149 (N : Nat) (X : Nat → Option zz_C) (x1 : Int32) (t : cS) : kO := cf_149_0 N X x1 t
theorem cr_149 {X : Nat → Option zz_C} {s : mS} {N : Nat} {d : Nat} (hd : 0 ≤ d) {Q : zz_O → zz_H → Prop} {x1 : Int32} {h : zz_H} {t t' : cS} {o : kY} (hR : kR h t s) (hf : cf_149 N X x1 t = some (t', o)) (k : ∀ h', kR h' t' s → kE o Q h') : zz_J zp_P zt_tf zt_fd X d zm_149 0 [(0, .ref 49), (1, .int x1)] [] h Q := by
  unfold cf_149 at hf
  exact zz_J.weak (cr_149_0 hd hR hf k) rfl ⟨rfl, rfl, trivial⟩
/-! yX9_fall (III)V -/
theorem cb_238_0 {X : Nat → Option zz_C} {h : zz_H} {t : cS} {s : mS} {d : Nat} {Q : zz_O → zz_H → Prop} {x1 : Int32} {x2 : Int32} {x3 : Int32} (hR : kR h t s) (k : ∀ {h : zz_H}, kR h (jI (jI (jI t 48 6 x1) 48 7 x2) 48 8 x3) s → Q (.inl none) h) : zz_J zp_P zt_tf zt_fd X d zm_238 0 [(0, .ref 48), (1, .int x1), (2, .int x2), (3, .int x3)] [] h Q := by
  refine zz_J.n 1 rfl rfl rfl ?_
  refine zz_J.n 2 rfl rfl rfl ?_
  obtain ⟨h1, eq1, hR⟩ := hR.pI (x := x1) (by decide) ko_48 (kpi_48_6 _) (Nat.le_of_ble_eq_true rfl) rfl
  refine zz_J.pv 5 rfl eq1 rfl ?_
  clear eq1
  refine zz_J.n 6 rfl rfl rfl ?_
  refine zz_J.n 7 rfl rfl rfl ?_
  obtain ⟨h1, eq1, hR⟩ := hR.pI (x := x2) (by decide) ko_48 (kpi_48_7 _) (Nat.le_of_ble_eq_true rfl) rfl
  refine zz_J.pv 10 rfl eq1 rfl ?_
  clear eq1
  refine zz_J.n 11 rfl rfl rfl ?_
  refine zz_J.n 12 rfl rfl rfl ?_
  obtain ⟨h1, eq1, hR⟩ := hR.pI (x := x3) (by decide) ko_48 (kpi_48_8 _) (Nat.le_of_ble_eq_true rfl) rfl
  refine zz_J.pv 15 rfl eq1 rfl ?_
  clear eq1
  refine zz_J.ret rfl rfl rfl ?_
  exact k hR
def cf_238_0 (N : Nat) (X : Nat → Option zz_C) (x1 : Int32) (x2 : Int32) (x3 : Int32) (t : cS) : kO := some ((jI (jI (jI t 48 6 x1) 48 7 x2) 48 8 x3), .inl none)
theorem cr_238_0 {X : Nat → Option zz_C} {s : mS} {N : Nat} {d : Nat} (hd : 0 ≤ d) {Q : zz_O → zz_H → Prop} {x1 : Int32} {x2 : Int32} {x3 : Int32} {h : zz_H} {t t' : cS} {o : kY} (hR : kR h t s) (hf : cf_238_0 N X x1 x2 x3 t = some (t', o)) (k : (∀ h', kR h' t' s → kE o Q h')) : zz_J zp_P zt_tf zt_fd X d zm_238 0 [(0, .ref 48), (1, .int x1), (2, .int x2), (3, .int x3)] [] h Q := by
  unfold cf_238_0 at hf
  cases hf
  exact cb_238_0 hR  (fun {h} hR => k h hR)
/-- fall -/
def cf_238 (N : Nat) (X : Nat → Option zz_C) (x1 : Int32) (x2 : Int32) (x3 : Int32) (t : cS) : kO := cf_238_0 N X x1 x2 x3 t
theorem cr_238 {X : Nat → Option zz_C} {s : mS} {N : Nat} {d : Nat} (hd : 0 ≤ d) {Q : zz_O → zz_H → Prop} {x1 : Int32} {x2 : Int32} {x3 : Int32} {h : zz_H} {t t' : cS} {o : kY} (hR : kR h t s) (hf : cf_238 N X x1 x2 x3 t = some (t', o)) (k : ∀ h', kR h' t' s → kE o Q h') : zz_J zp_P zt_tf zt_fd X d zm_238 0 [(0, .ref 48), (1, .int x1), (2, .int x2), (3, .int x3)] [] h Q := by
  unfold cf_238 at hf
  exact zz_J.weak (cr_238_0 hd hR hf k) rfl ⟨rfl, rfl, rfl, rfl, trivial⟩
/-! yX3_fall (III)V -/
theorem cb_156_0 {X : Nat → Option zz_C} {h : zz_H} {t : cS} {s : mS} {d : Nat} {Q : zz_O → zz_H → Prop} {x1 : Int32} {x2 : Int32} {x3 : Int32} (hR : kR h t s) (k : ∀ {h : zz_H}, kR h t s → zz_J zp_P zt_tf zt_fd X d zm_238 0 [(0, .ref 48), (1, .int x1), (2, .int x2), (3, .int x3)] [] h (zz_after 9 Q (fun v h' => zz_J zp_P zt_tf zt_fd X (d + 1) zm_156 10 [(0, .ref 49), (1, .int x1)] (v.toList ++ []) h' Q))) : zz_J zp_P zt_tf zt_fd X (d + 1) zm_156 0 [(0, .ref 49), (1, .int x1), (2, .int x2), (3, .int x3)] [] h Q := by
  refine zz_J.n 1 rfl rfl rfl ?_
  refine zz_J.g 4 rfl (hR.gv (v := .ref 48) ko_49 (by decide) rfl) rfl ?_
  refine zz_J.n 5 rfl rfl rfl ?_
  refine zz_J.n 6 rfl rfl rfl ?_
  refine zz_J.n 7 rfl rfl rfl ?_
  refine zz_J.cv 10 (as := []) rfl rfl (hR.clO ko_48 (by decide) (by decide)) (by decide) (Nat.le_of_ble_eq_true rfl) (Nat.le_of_ble_eq_true rfl) rfl (Nat.le_of_ble_eq_true rfl) rfl ?_
  refine zz_J.mono (k hR) ?_
  intro o h' hE
  cases o with
  | inl v => exact zz_J.weak hE rfl ⟨rfl, rfl, trivial⟩
  | inr q => exact hE
theorem cb_156_10 {X : Nat → Option zz_C} {h : zz_H} {t : cS} {s : mS} {d : Nat} {Q : zz_O → zz_H → Prop} {x1 : Int32} (hR : kR h t s) (k1 : 10 ≤ x1 → (∀ {h : zz_H}, kR h t s → zz_J zp_P zt_tf zt_fd X d zm_156 23 [(0, .ref 49)] [] h Q)) (k2 : ¬ 10 ≤ x1 → (∀ {h : zz_H}, kR h t s → zz_J zp_P zt_tf zt_fd X d zm_156 16 [(0, .ref 49)] [] h Q)) : zz_J zp_P zt_tf zt_fd X d zm_156 10 [(0, .ref 49), (1, .int x1)] [] h Q := by
  refine zz_J.n 11 rfl rfl rfl ?_
  refine zz_J.c 13 (.int 10) rfl rfl rfl rfl ?_
  refine zz_J.b2 23 16 (A := 10 ≤ x1) rfl rfl (by decide) rfl rfl (fun c => ?_) (fun c => ?_)
  · exact zz_J.weak (k1 c hR) rfl ⟨rfl, trivial⟩
  · exact zz_J.weak (k2 c hR) rfl ⟨rfl, trivial⟩
theorem cb_156_16 {X : Nat → Option zz_C} {h : zz_H} {t : cS} {s : mS} {d : Nat} {Q : zz_O → zz_H → Prop}  (hR : kR h t s) (k1 : ¬ (kI t 49 15) = 0 → (∀ {h : zz_H}, kR h t s → zz_J zp_P zt_tf zt_fd X d zm_156 29 [(0, .ref 49)] [] h Q)) (k2 : ¬ ¬ (kI t 49 15) = 0 → (∀ {h : zz_H}, kR h t s → zz_J zp_P zt_tf zt_fd X d zm_156 23 [(0, .ref 49)] [] h Q)) : zz_J zp_P zt_tf zt_fd X d zm_156 16 [(0, .ref 49)] [] h Q := by
  refine zz_J.n 17 rfl rfl rfl ?_
  refine zz_J.g 20 rfl (hR.gv (v := .int (kI t 49 15)) ko_49 (by decide) rfl) rfl ?_
  refine zz_J.b1 29 23 (A := ¬ (kI t 49 15) = 0) rfl (zz_cond_ne _ _) (by decide) rfl rfl (fun c => ?_) (fun c => ?_)
  · exact zz_J.weak (k1 c hR) rfl ⟨rfl, trivial⟩
  · exact zz_J.weak (k2 c hR) rfl ⟨rfl, trivial⟩
theorem cb_156_23 {X : Nat → Option zz_C} {h : zz_H} {t : cS} {s : mS} {d : Nat} {Q : zz_O → zz_H → Prop}  (hR : kR h t s) (k : ∀ {h : zz_H}, kR h (jI t 49 18 0) s → Q (.inl none) h) : zz_J zp_P zt_tf zt_fd X d zm_156 23 [(0, .ref 49)] [] h Q := by
  refine zz_J.n 24 rfl rfl rfl ?_
  refine zz_J.c 25 (.int 0) rfl rfl rfl rfl ?_
  obtain ⟨h1, eq1, hR⟩ := hR.pI (x := (0 : Int32)) (by decide) ko_49 (kpi_49_18 _) (Nat.le_of_ble_eq_true rfl) rfl
  refine zz_J.pv 28 rfl eq1 rfl ?_
  clear eq1
  refine zz_J.ret rfl rfl rfl ?_
  exact k hR
theorem cb_156_29 {X : Nat → Option zz_C} {h : zz_H} {t : cS} {s : mS} {d : Nat} {Q : zz_O → zz_H → Prop}  (hR : kR h t s) (e0 : ¬ (((kI t 49 15) - 1) < 0 ∨ (kA t 55).1 ≤ (Int32.toNatClampNeg ((kI t 49 15) - 1)))) (e1 : ¬ (((kI t 49 15) - 1) < 0 ∨ (kA t 56).1 ≤ (Int32.toNatClampNeg ((kI t 49 15) - 1)))) (e2 : ¬ (((kI t 49 15) - 1) < 0 ∨ (kA t 57).1 ≤ (Int32.toNatClampNeg ((kI t 49 15) - 1)))) (k : ∀ {h : zz_H}, kR h (jI (jI (jI (jI t 49 15 ((kI t 49 15) - 1)) 49 11 ((kA t 55).2 (Int32.toNatClampNeg ((kI t 49 15) - 1)))) 49 8 ((kA t 56).2 (Int32.toNatClampNeg ((kI t 49 15) - 1)))) 49 17 ((kA t 57).2 (Int32.toNatClampNeg ((kI t 49 15) - 1)))) s → Q (.inl none) h) : zz_J zp_P zt_tf zt_fd X d zm_156 29 [(0, .ref 49)] [] h Q := by
  refine zz_J.n 30 rfl rfl rfl ?_
  refine zz_J.n 31 rfl rfl rfl ?_
  refine zz_J.g 34 rfl (hR.gv (v := .int (kI t 49 15)) ko_49 (by decide) rfl) rfl ?_
  refine zz_J.c 35 (.int 1) rfl rfl rfl rfl ?_
  refine zz_J.n 36 rfl rfl rfl ?_
  obtain ⟨h1, eq1, hR⟩ := hR.pI (x := ((kI t 49 15) - 1)) (by decide) ko_49 (kpi_49_15 _) (Nat.le_of_ble_eq_true rfl) rfl
  refine zz_J.pv 39 rfl eq1 rfl ?_
  clear eq1
  refine zz_J.n 40 rfl rfl rfl ?_
  refine zz_J.n 41 rfl rfl rfl ?_
  refine zz_J.g 44 rfl (hR.gv (v := .ref (kD t 55)) ko_49 (by decide) rfl) rfl ?_
  refine zz_J.n 45 rfl rfl rfl ?_
  refine zz_J.g 48 rfl (hR.gv (v := .int ((kI t 49 15) - 1)) ko_49 (by decide) rfl) rfl ?_
  refine zz_J.ai 49 rfl (hR.ai (w := ((kA t 55).2 (Int32.toNatClampNeg ((kI t 49 15) - 1)))) ka_55 rfl e0 rfl) rfl ?_
  obtain ⟨h1, eq1, hR⟩ := hR.pI (x := ((kA t 55).2 (Int32.toNatClampNeg ((kI t 49 15) - 1)))) (by decide) ko_49 (kpi_49_11 _) (Nat.le_of_ble_eq_true rfl) rfl
  refine zz_J.pv 52 rfl eq1 rfl ?_
  clear eq1
  refine zz_J.n 53 rfl rfl rfl ?_
  refine zz_J.n 54 rfl rfl rfl ?_
  refine zz_J.g 57 rfl (hR.gv (v := .ref (kD t 56)) ko_49 (by decide) rfl) rfl ?_
  refine zz_J.n 58 rfl rfl rfl ?_
  refine zz_J.g 61 rfl (hR.gv (v := .int ((kI t 49 15) - 1)) ko_49 (by decide) rfl) rfl ?_
  refine zz_J.ai 62 rfl (hR.ai (w := ((kA t 56).2 (Int32.toNatClampNeg ((kI t 49 15) - 1)))) ka_56 rfl e1 rfl) rfl ?_
  obtain ⟨h1, eq1, hR⟩ := hR.pI (x := ((kA t 56).2 (Int32.toNatClampNeg ((kI t 49 15) - 1)))) (by decide) ko_49 (kpi_49_8 _) (Nat.le_of_ble_eq_true rfl) rfl
  refine zz_J.pv 65 rfl eq1 rfl ?_
  clear eq1
  refine zz_J.n 66 rfl rfl rfl ?_
  refine zz_J.n 67 rfl rfl rfl ?_
  refine zz_J.g 70 rfl (hR.gv (v := .ref (kD t 57)) ko_49 (by decide) rfl) rfl ?_
  refine zz_J.n 71 rfl rfl rfl ?_
  refine zz_J.g 74 rfl (hR.gv (v := .int ((kI t 49 15) - 1)) ko_49 (by decide) rfl) rfl ?_
  refine zz_J.ai 75 rfl (hR.ai (w := ((kA t 57).2 (Int32.toNatClampNeg ((kI t 49 15) - 1)))) ka_57 rfl e2 rfl) rfl ?_
  obtain ⟨h1, eq1, hR⟩ := hR.pI (x := ((kA t 57).2 (Int32.toNatClampNeg ((kI t 49 15) - 1)))) (by decide) ko_49 (kpi_49_17 _) (Nat.le_of_ble_eq_true rfl) rfl
  refine zz_J.pv 78 rfl eq1 rfl ?_
  clear eq1
  refine zz_J.ret rfl rfl rfl ?_
  exact k hR
def cf_156_23 (N : Nat) (X : Nat → Option zz_C)  (t : cS) : kO := some ((jI t 49 18 0), .inl none)
theorem cr_156_23 {X : Nat → Option zz_C} {s : mS} {N : Nat} {d : Nat} (hd : 1 ≤ d) {Q : zz_O → zz_H → Prop}  {h : zz_H} {t t' : cS} {o : kY} (hR : kR h t s) (hf : cf_156_23 N X  t = some (t', o)) (k : (∀ h', kR h' t' s → kE o Q h')) : zz_J zp_P zt_tf zt_fd X d zm_156 23 [(0, .ref 49)] [] h Q := by
  unfold cf_156_23 at hf
  cases hf
  exact cb_156_23 hR  (fun {h} hR => k h hR)
def cf_156_29 (N : Nat) (X : Nat → Option zz_C)  (t : cS) : kO := if ¬ (((kI t 49 15) - 1) < 0 ∨ (kA t 55).1 ≤ (Int32.toNatClampNeg ((kI t 49 15) - 1))) then (if ¬ (((kI t 49 15) - 1) < 0 ∨ (kA t 56).1 ≤ (Int32.toNatClampNeg ((kI t 49 15) - 1))) then (if ¬ (((kI t 49 15) - 1) < 0 ∨ (kA t 57).1 ≤ (Int32.toNatClampNeg ((kI t 49 15) - 1))) then (some ((jI (jI (jI (jI t 49 15 ((kI t 49 15) - 1)) 49 11 ((kA t 55).2 (Int32.toNatClampNeg ((kI t 49 15) - 1)))) 49 8 ((kA t 56).2 (Int32.toNatClampNeg ((kI t 49 15) - 1)))) 49 17 ((kA t 57).2 (Int32.toNatClampNeg ((kI t 49 15) - 1)))), .inl none)) else none) else none) else none
theorem cr_156_29 {X : Nat → Option zz_C} {s : mS} {N : Nat} {d : Nat} (hd : 1 ≤ d) {Q : zz_O → zz_H → Prop}  {h : zz_H} {t t' : cS} {o : kY} (hR : kR h t s) (hf : cf_156_29 N X  t = some (t', o)) (k : (∀ h', kR h' t' s → kE o Q h')) : zz_J zp_P zt_tf zt_fd X d zm_156 29 [(0, .ref 49)] [] h Q := by
  unfold cf_156_29 at hf
  obtain ⟨e0, hf⟩ := ko_if hf
  obtain ⟨e1, hf⟩ := ko_if hf
  obtain ⟨e2, hf⟩ := ko_if hf
  cases hf
  exact cb_156_29 hR e0 e1 e2 (fun {h} hR => k h hR)
def cf_156_16 (N : Nat) (X : Nat → Option zz_C)  (t : cS) : kO := if ¬ (kI t 49 15) = 0 then cf_156_29 N X  t else cf_156_23 N X  t
theorem cr_156_16 {X : Nat → Option zz_C} {s : mS} {N : Nat} {d : Nat} (hd : 1 ≤ d) {Q : zz_O → zz_H → Prop}  {h : zz_H} {t t' : cS} {o : kY} (hR : kR h t s) (hf : cf_156_16 N X  t = some (t', o)) (k : (∀ h', kR h' t' s → kE o Q h')) : zz_J zp_P zt_tf zt_fd X d zm_156 16 [(0, .ref 49)] [] h Q := by
  unfold cf_156_16 at hf
  refine cb_156_16 hR  (fun c {h} hR => ?_) (fun c {h} hR => ?_)
  · rw [if_pos c] at hf
    exact cr_156_29 hd hR hf k
  · rw [if_neg c] at hf
    exact cr_156_23 hd hR hf k
def cf_156_10 (N : Nat) (X : Nat → Option zz_C) (x1 : Int32) (t : cS) : kO := if 10 ≤ x1 then cf_156_23 N X  t else cf_156_16 N X  t
theorem cr_156_10 {X : Nat → Option zz_C} {s : mS} {N : Nat} {d : Nat} (hd : 1 ≤ d) {Q : zz_O → zz_H → Prop} {x1 : Int32} {h : zz_H} {t t' : cS} {o : kY} (hR : kR h t s) (hf : cf_156_10 N X x1 t = some (t', o)) (k : (∀ h', kR h' t' s → kE o Q h')) : zz_J zp_P zt_tf zt_fd X d zm_156 10 [(0, .ref 49), (1, .int x1)] [] h Q := by
  unfold cf_156_10 at hf
  refine cb_156_10 hR  (fun c {h} hR => ?_) (fun c {h} hR => ?_)
  · rw [if_pos c] at hf
    exact cr_156_23 hd hR hf k
  · rw [if_neg c] at hf
    exact cr_156_16 hd hR hf k
def cf_156_0 (N : Nat) (X : Nat → Option zz_C) (x1 : Int32) (x2 : Int32) (x3 : Int32) (t : cS) : kO := ko_call 9 (cf_238 N X x1 x2 x3 t) (fun g1 v1 => co_v v1 (cf_156_10 N X x1 g1))
theorem cr_156_0 {X : Nat → Option zz_C} {s : mS} {N : Nat} {d : Nat} (hd : 1 ≤ d) {Q : zz_O → zz_H → Prop} {x1 : Int32} {x2 : Int32} {x3 : Int32} {h : zz_H} {t t' : cS} {o : kY} (hR : kR h t s) (hf : cf_156_0 N X x1 x2 x3 t = some (t', o)) (k : (∀ h', kR h' t' s → kE o Q h')) : zz_J zp_P zt_tf zt_fd X d zm_156 0 [(0, .ref 49), (1, .int x1), (2, .int x2), (3, .int x3)] [] h Q := by
  unfold cf_156_0 at hf
  obtain ⟨d', rfl⟩ : ∃ d', d = d' + 1 := ⟨d - 1, by omega⟩
  refine cb_156_0 hR  (fun {h} hR => ?_)
  rcases ko_call_ok hf with ⟨g1, v1, er, hf⟩ | ⟨g1, er, hq⟩
  · obtain ⟨hv, hf2⟩ := co_v_ok hf
    clear hf
    have hf := hf2
    clear hf2
    subst hv
    refine cr_238 (by omega) hR er (fun h hR => ?_)
    exact cr_156_10 hd hR hf k
  · refine cr_238 (by omega) hR er (fun h hR => ?_)
    exact ko_thrown hq hR k
/-- fall -/
def cf_156 (N : Nat) (X : Nat → Option zz_C) (x1 : Int32) (x2 : Int32) (x3 : Int32) (t : cS) : kO := cf_156_0 N X x1 x2 x3 t
theorem cr_156 {X : Nat → Option zz_C} {s : mS} {N : Nat} {d : Nat} (hd : 1 ≤ d) {Q : zz_O → zz_H → Prop} {x1 : Int32} {x2 : Int32} {x3 : Int32} {h : zz_H} {t t' : cS} {o : kY} (hR : kR h t s) (hf : cf_156 N X x1 x2 x3 t = some (t', o)) (k : ∀ h', kR h' t' s → kE o Q h') : zz_J zp_P zt_tf zt_fd X d zm_156 0 [(0, .ref 49), (1, .int x1), (2, .int x2), (3, .int x3)] [] h Q := by
  unfold cf_156 at hf
  exact zz_J.weak (cr_156_0 hd hR hf k) rfl ⟨rfl, rfl, rfl, rfl, trivial⟩
/-! yX3_push (J)V -/
theorem cb_165_0 {X : Nat → Option zz_C} {h : zz_H} {t : cS} {s : mS} {d : Nat} {Q : zz_O → zz_H → Prop} {x1 : Int64} (hR : kR h t s) (k1 : ¬ (kI t 49 8) = (Int32.ofNat (kB t 52).1) → (∀ {h : zz_H}, kR h t s → zz_J zp_P zt_tf zt_fd X d zm_165 29 [(0, .ref 49), (1, .long x1)] [] h Q)) (k2 : ¬ ¬ (kI t 49 8) = (Int32.ofNat (kB t 52).1) → (∀ {h : zz_H}, kR h t s → zz_J zp_P zt_tf zt_fd X d zm_165 12 [(0, .ref 49), (1, .long x1)] [] h Q)) : zz_J zp_P zt_tf zt_fd X d zm_165 0 [(0, .ref 49), (1, .long x1)] [] h Q := by
  refine zz_J.n 1 rfl rfl rfl ?_
  refine zz_J.g 4 rfl (hR.gv (v := .int (kI t 49 8)) ko_49 (by decide) rfl) rfl ?_
  refine zz_J.n 5 rfl rfl rfl ?_
  refine zz_J.g 8 rfl (hR.gv (v := .ref (kD t 52)) ko_49 (by decide) rfl) rfl ?_
  refine zz_J.ln 9 rfl (hR.ln (w := (Int32.ofNat (kB t 52).1)) ka_52 rfl (by decide) rfl) rfl ?_
  refine zz_J.b2 29 12 (A := ¬ (kI t 49 8) = (Int32.ofNat (kB t 52).1)) rfl (zz_cond_ne _ _) (by decide) rfl rfl (fun c => ?_) (fun c => ?_)
  · exact zz_J.weak (k1 c hR) rfl ⟨rfl, rfl, trivial⟩
  · exact zz_J.weak (k2 c hR) rfl ⟨rfl, rfl, trivial⟩
theorem cb_165_12 {X : Nat → Option zz_C} {h : zz_H} {t : cS} {s : mS} {d : Nat} {Q : zz_O → zz_H → Prop} {x1 : Int64} (hR : kR h t s) (e0 : ¬ (2 * (kI t 49 8)) < 0 ∧ (Int32.toNatClampNeg (2 * (kI t 49 8))) ≤ 1000000 ∧ (kB t 52).1 ≤ 1000000 ∧ ¬ (2 * (kI t 49 8)) = Int32.ofNat (kB t 52).1 ∧ (kN t) + 1 < zz_out) (k : ∀ {h : zz_H}, kR h (jMv (jNL t (Int32.toNatClampNeg (2 * (kI t 49 8))) (kcp 0 (kB t 52).2 (Nat.min (kB t 52).1 (Int32.toNatClampNeg (2 * (kI t 49 8)))))) 52) s → zz_J zp_P zt_tf zt_fd X (d + 9) zm_165 29 [(0, .ref 49), (1, .long x1)] [] h Q) : zz_J zp_P zt_tf zt_fd X (d + 9) zm_165 12 [(0, .ref 49), (1, .long x1)] [] h Q := by
  refine zz_J.n 13 rfl rfl rfl ?_
  refine zz_J.n 14 rfl rfl rfl ?_
  refine zz_J.g 17 rfl (hR.gv (v := .ref (kD t 52)) ko_49 (by decide) rfl) rfl ?_
  refine zz_J.c 18 (.int 2) rfl rfl rfl rfl ?_
  refine zz_J.n 19 rfl rfl rfl ?_
  refine zz_J.g 22 rfl (hR.gv (v := .int (kI t 49 8)) ko_49 (by decide) rfl) rfl ?_
  refine zz_J.n 23 rfl rfl rfl ?_
  refine kq_copyl 26 rfl rfl hR (by omega) ka_52 rfl e0 (Nat.le_of_ble_eq_true rfl) (fun {h} hR => ?_)
  obtain ⟨h1, eq1, hR⟩ := hR.pMvl (k := 52) rfl (by decide) ko_49 (kpa_49_7) (Nat.le_of_ble_eq_true rfl) rfl rfl rfl ka_52
  refine zz_J.pv 29 rfl eq1 rfl ?_
  clear eq1
  exact zz_J.weak (k hR) rfl ⟨rfl, rfl, trivial⟩
theorem cb_165_29 {X : Nat → Option zz_C} {h : zz_H} {t : cS} {s : mS} {d : Nat} {Q : zz_O → zz_H → Prop} {x1 : Int64} (hR : kR h t s) (e0 : ¬ ((kI t 49 8) < 0 ∨ (kB t 52).1 ≤ (Int32.toNatClampNeg (kI t 49 8)))) (k : ∀ {h : zz_H}, kR h (jI (jB t 52 (vp_updL (kB t 52).2 (Int32.toNatClampNeg (kI t 49 8)) x1)) 49 8 ((kI t 49 8) + 1)) s → Q (.inl none) h) : zz_J zp_P zt_tf zt_fd X d zm_165 29 [(0, .ref 49), (1, .long x1)] [] h Q := by
  refine zz_J.n 30 rfl rfl rfl ?_
  refine zz_J.g 33 rfl (hR.gv (v := .ref (kD t 52)) ko_49 (by decide) rfl) rfl ?_
  refine zz_J.n 34 rfl rfl rfl ?_
  refine zz_J.g 37 rfl (hR.gv (v := .int (kI t 49 8)) ko_49 (by decide) rfl) rfl ?_
  refine zz_J.n 38 rfl rfl rfl ?_
  obtain ⟨h1, eq1, hR⟩ := hR.sl (x := x1) ka_52 rfl e0
  refine zz_J.sl 39 rfl eq1 rfl ?_
  clear eq1
  refine zz_J.n 40 rfl rfl rfl ?_
  refine zz_J.n 41 rfl rfl rfl ?_
  refine zz_J.g 44 rfl (hR.gv (v := .int (kI t 49 8)) ko_49 (by decide) rfl) rfl ?_
  refine zz_J.c 45 (.int 1) rfl rfl rfl rfl ?_
  refine zz_J.n 46 rfl rfl rfl ?_
  obtain ⟨h1, eq1, hR⟩ := hR.pI (x := ((kI t 49 8) + 1)) (by decide) ko_49 (kpi_49_8 _) (Nat.le_of_ble_eq_true rfl) rfl
  refine zz_J.pv 49 rfl eq1 rfl ?_
  clear eq1
  refine zz_J.ret rfl rfl rfl ?_
  exact k hR
def cf_165_29 (N : Nat) (X : Nat → Option zz_C) (x1 : Int64) (t : cS) : kO := if ¬ ((kI t 49 8) < 0 ∨ (kB t 52).1 ≤ (Int32.toNatClampNeg (kI t 49 8))) then (some ((jI (jB t 52 (vp_updL (kB t 52).2 (Int32.toNatClampNeg (kI t 49 8)) x1)) 49 8 ((kI t 49 8) + 1)), .inl none)) else none
theorem cr_165_29 {X : Nat → Option zz_C} {s : mS} {N : Nat} {d : Nat} (hd : 9 ≤ d) {Q : zz_O → zz_H → Prop} {x1 : Int64} {h : zz_H} {t t' : cS} {o : kY} (hR : kR h t s) (hf : cf_165_29 N X x1 t = some (t', o)) (k : (∀ h', kR h' t' s → kE o Q h')) : zz_J zp_P zt_tf zt_fd X d zm_165 29 [(0, .ref 49), (1, .long x1)] [] h Q := by
  unfold cf_165_29 at hf
  obtain ⟨e0, hf⟩ := ko_if hf
  cases hf
  exact cb_165_29 hR e0 (fun {h} hR => k h hR)
def cf_165_12 (N : Nat) (X : Nat → Option zz_C) (x1 : Int64) (t : cS) : kO := if ¬ (2 * (kI t 49 8)) < 0 ∧ (Int32.toNatClampNeg (2 * (kI t 49 8))) ≤ 1000000 ∧ (kB t 52).1 ≤ 1000000 ∧ ¬ (2 * (kI t 49 8)) = Int32.ofNat (kB t 52).1 ∧ (kN t) + 1 < zz_out then (cf_165_29 N X x1 (jMv (jNL t (Int32.toNatClampNeg (2 * (kI t 49 8))) (kcp 0 (kB t 52).2 (Nat.min (kB t 52).1 (Int32.toNatClampNeg (2 * (kI t 49 8)))))) 52)) else none
theorem cr_165_12 {X : Nat → Option zz_C} {s : mS} {N : Nat} {d : Nat} (hd : 9 ≤ d) {Q : zz_O → zz_H → Prop} {x1 : Int64} {h : zz_H} {t t' : cS} {o : kY} (hR : kR h t s) (hf : cf_165_12 N X x1 t = some (t', o)) (k : (∀ h', kR h' t' s → kE o Q h')) : zz_J zp_P zt_tf zt_fd X d zm_165 12 [(0, .ref 49), (1, .long x1)] [] h Q := by
  unfold cf_165_12 at hf
  obtain ⟨e0, hf⟩ := ko_if hf
  obtain ⟨d', rfl⟩ : ∃ d', d = d' + 9 := ⟨d - 9, by omega⟩
  exact cb_165_12 hR e0 (fun hR => cr_165_29 hd hR hf k)
def cf_165_0 (N : Nat) (X : Nat → Option zz_C) (x1 : Int64) (t : cS) : kO := if ¬ (kI t 49 8) = (Int32.ofNat (kB t 52).1) then cf_165_29 N X x1 t else cf_165_12 N X x1 t
theorem cr_165_0 {X : Nat → Option zz_C} {s : mS} {N : Nat} {d : Nat} (hd : 9 ≤ d) {Q : zz_O → zz_H → Prop} {x1 : Int64} {h : zz_H} {t t' : cS} {o : kY} (hR : kR h t s) (hf : cf_165_0 N X x1 t = some (t', o)) (k : (∀ h', kR h' t' s → kE o Q h')) : zz_J zp_P zt_tf zt_fd X d zm_165 0 [(0, .ref 49), (1, .long x1)] [] h Q := by
  unfold cf_165_0 at hf
  refine cb_165_0 hR  (fun c {h} hR => ?_) (fun c {h} hR => ?_)
  · rw [if_pos c] at hf
    exact cr_165_29 hd hR hf k
  · rw [if_neg c] at hf
    exact cr_165_12 hd hR hf k
/-- push -/
def cf_165 (N : Nat) (X : Nat → Option zz_C) (x1 : Int64) (t : cS) : kO := cf_165_0 N X x1 t
theorem cr_165 {X : Nat → Option zz_C} {s : mS} {N : Nat} {d : Nat} (hd : 9 ≤ d) {Q : zz_O → zz_H → Prop} {x1 : Int64} {h : zz_H} {t t' : cS} {o : kY} (hR : kR h t s) (hf : cf_165 N X x1 t = some (t', o)) (k : ∀ h', kR h' t' s → kE o Q h') : zz_J zp_P zt_tf zt_fd X d zm_165 0 [(0, .ref 49), (1, .long x1)] [] h Q := by
  unfold cf_165 at hf
  exact zz_J.weak (cr_165_0 hd hR hf k) rfl ⟨rfl, rfl, trivial⟩
