/-! yX1_count (JIII)J -/
theorem cb_90_0 {X : Nat → Option zz_C} {h : zz_H} {t : cS} {s : mS} {d : Nat} {Q : zz_O → zz_H → Prop} {x1 : Int64} {x3 : Int32} {x4 : Int32} {x5 : Int32} (hR : kR h t s) (k : ∀ {h : zz_H}, kR h t s → zz_J zp_P zt_tf zt_fd X d zm_255 0 [(0, .long x1)] [] h (zz_after 1000 Q (fun v h' => zz_J zp_P zt_tf zt_fd X (d + 1) zm_90 4 [(0, .ref 59), (1, .long x1), (3, .int x3), (4, .int x4), (5, .int x5)] (v.toList ++ []) h' Q))) : zz_J zp_P zt_tf zt_fd X (d + 1) zm_90 0 [(0, .ref 59), (1, .long x1), (3, .int x3), (4, .int x4), (5, .int x5)] [] h Q := by
  refine zz_J.n 1 rfl rfl rfl ?_
  refine zz_J.cl (M' := zm_255) 4 rfl rfl (by decide) rfl rfl ⟨rfl, Nat.le_of_ble_eq_true rfl⟩ rfl ?_
  refine zz_J.mono (k hR) ?_
  intro o h' hE
  cases o with
  | inl v => exact zz_J.weak hE rfl ⟨rfl, rfl, rfl, rfl, rfl, trivial⟩
  | inr q => exact hE
theorem cb_90_4 {X : Nat → Option zz_C} {h : zz_H} {t : cS} {s : mS} {d : Nat} {Q : zz_O → zz_H → Prop} {x1 : Int64} {x3 : Int32} {x4 : Int32} {x5 : Int32} {y0 : Int32} (hR : kR h t s) (k1 : y0 = 0 → (∀ {h : zz_H}, kR h t s → zz_J zp_P zt_tf zt_fd X d zm_90 12 [(0, .ref 59), (1, .long x1), (3, .int x3), (4, .int x4), (5, .int x5)] [] h Q)) (k2 : ¬ y0 = 0 → (∀ {h : zz_H}, kR h t s → zz_J zp_P zt_tf zt_fd X d zm_90 7 [] [] h Q)) : zz_J zp_P zt_tf zt_fd X d zm_90 4 [(0, .ref 59), (1, .long x1), (3, .int x3), (4, .int x4), (5, .int x5)] [.int y0] h Q := by
  refine zz_J.b1 12 7 (A := y0 = 0) rfl rfl (by decide) rfl rfl (fun c => ?_) (fun c => ?_)
  · exact zz_J.weak (k1 c hR) rfl ⟨rfl, rfl, rfl, rfl, rfl, trivial⟩
  · exact zz_J.weak (k2 c hR) rfl trivial
theorem cb_90_7 {X : Nat → Option zz_C} {h : zz_H} {t : cS} {s : mS} {d : Nat} {Q : zz_O → zz_H → Prop}  (hR : kR h t s) (k : ∀ {h : zz_H}, kR h t s → zz_J zp_P zt_tf zt_fd X d zm_254 0 [(0, .int 3)] [] h (zz_after 1000 Q (fun v h' => zz_J zp_P zt_tf zt_fd X (d + 1) zm_90 11 [] (v.toList ++ []) h' Q))) : zz_J zp_P zt_tf zt_fd X (d + 1) zm_90 7 [] [] h Q := by
  refine zz_J.c 8 (.int 3) rfl rfl rfl rfl ?_
  refine zz_J.cl (M' := zm_254) 11 rfl rfl (by decide) rfl rfl ⟨rfl, Nat.le_of_ble_eq_true rfl⟩ rfl ?_
  refine zz_J.mono (k hR) ?_
  intro o h' hE
  cases o with
  | inl v => exact zz_J.weak hE rfl trivial
  | inr q => exact hE
theorem cb_90_11 {X : Nat → Option zz_C} {h : zz_H} {t : cS} {s : mS} {d : Nat} {Q : zz_O → zz_H → Prop} {y0 : Int64} (hR : kR h t s) (k : ∀ {h : zz_H}, kR h t s → Q (.inl (some (.long y0))) h) : zz_J zp_P zt_tf zt_fd X d zm_90 11 [] [.long y0] h Q := by
  refine zz_J.ret rfl rfl rfl ?_
  exact k hR
theorem cb_90_12 {X : Nat → Option zz_C} {h : zz_H} {t : cS} {s : mS} {d : Nat} {Q : zz_O → zz_H → Prop} {x1 : Int64} {x3 : Int32} {x4 : Int32} {x5 : Int32} (hR : kR h t s) (k : ∀ {h : zz_H}, kR h t s → zz_J zp_P zt_tf zt_fd X d zm_256 0 [(0, .long x1)] [] h (zz_after 1000 Q (fun v h' => zz_J zp_P zt_tf zt_fd X (d + 1) zm_90 16 [(0, .ref 59), (3, .int x3), (4, .int x4), (5, .int x5)] (v.toList ++ []) h' Q))) : zz_J zp_P zt_tf zt_fd X (d + 1) zm_90 12 [(0, .ref 59), (1, .long x1), (3, .int x3), (4, .int x4), (5, .int x5)] [] h Q := by
  refine zz_J.n 13 rfl rfl rfl ?_
  refine zz_J.cl (M' := zm_256) 16 rfl rfl (by decide) rfl rfl ⟨rfl, Nat.le_of_ble_eq_true rfl⟩ rfl ?_
  refine zz_J.mono (k hR) ?_
  intro o h' hE
  cases o with
  | inl v => exact zz_J.weak hE rfl ⟨rfl, rfl, rfl, rfl, trivial⟩
  | inr q => exact hE
theorem cb_90_16 {X : Nat → Option zz_C} {h : zz_H} {t : cS} {s : mS} {d : Nat} {Q : zz_O → zz_H → Prop} {x3 : Int32} {x4 : Int32} {x5 : Int32} {y0 : Int32} (hR : kR h t s) (k1 : y0 ≤ x5 → (∀ {h : zz_H}, kR h t s → zz_J zp_P zt_tf zt_fd X d zm_90 30 [(0, .ref 59), (3, .int x3), (4, .int x4), (6, .int y0)] [] h Q)) (k2 : ¬ y0 ≤ x5 → (∀ {h : zz_H}, kR h t s → zz_J zp_P zt_tf zt_fd X d zm_90 25 [] [] h Q)) : zz_J zp_P zt_tf zt_fd X d zm_90 16 [(0, .ref 59), (3, .int x3), (4, .int x4), (5, .int x5)] [.int y0] h Q := by
  refine zz_J.n 18 rfl rfl rfl ?_
  refine zz_J.n 20 rfl rfl rfl ?_
  refine zz_J.n 22 rfl rfl rfl ?_
  refine zz_J.b2 30 25 (A := y0 ≤ x5) rfl rfl (by decide) rfl rfl (fun c => ?_) (fun c => ?_)
  · exact zz_J.weak (k1 c hR) rfl ⟨rfl, rfl, rfl, rfl, trivial⟩
  · exact zz_J.weak (k2 c hR) rfl trivial
theorem cb_90_25 {X : Nat → Option zz_C} {h : zz_H} {t : cS} {s : mS} {d : Nat} {Q : zz_O → zz_H → Prop}  (hR : kR h t s) (k : ∀ {h : zz_H}, kR h t s → zz_J zp_P zt_tf zt_fd X d zm_254 0 [(0, .int 2)] [] h (zz_after 1000 Q (fun v h' => zz_J zp_P zt_tf zt_fd X (d + 1) zm_90 29 [] (v.toList ++ []) h' Q))) : zz_J zp_P zt_tf zt_fd X (d + 1) zm_90 25 [] [] h Q := by
  refine zz_J.c 26 (.int 2) rfl rfl rfl rfl ?_
  refine zz_J.cl (M' := zm_254) 29 rfl rfl (by decide) rfl rfl ⟨rfl, Nat.le_of_ble_eq_true rfl⟩ rfl ?_
  refine zz_J.mono (k hR) ?_
  intro o h' hE
  cases o with
  | inl v => exact zz_J.weak hE rfl trivial
  | inr q => exact hE
theorem cb_90_29 {X : Nat → Option zz_C} {h : zz_H} {t : cS} {s : mS} {d : Nat} {Q : zz_O → zz_H → Prop} {y0 : Int64} (hR : kR h t s) (k : ∀ {h : zz_H}, kR h t s → Q (.inl (some (.long y0))) h) : zz_J zp_P zt_tf zt_fd X d zm_90 29 [] [.long y0] h Q := by
  refine zz_J.ret rfl rfl rfl ?_
  exact k hR
theorem cb_90_30 {X : Nat → Option zz_C} {h : zz_H} {t : cS} {s : mS} {d : Nat} {Q : zz_O → zz_H → Prop} {x3 : Int32} {x4 : Int32} {x6 : Int32} (hR : kR h t s) (k1 : 0 ≤ x6 → (∀ {h : zz_H}, kR h t s → zz_J zp_P zt_tf zt_fd X d zm_90 40 [(0, .ref 59), (3, .int x3), (4, .int x4), (6, .int x6)] [] h Q)) (k2 : ¬ 0 ≤ x6 → (∀ {h : zz_H}, kR h t s → zz_J zp_P zt_tf zt_fd X d zm_90 35 [] [] h Q)) : zz_J zp_P zt_tf zt_fd X d zm_90 30 [(0, .ref 59), (3, .int x3), (4, .int x4), (6, .int x6)] [] h Q := by
  refine zz_J.n 32 rfl rfl rfl ?_
  refine zz_J.b1 40 35 (A := 0 ≤ x6) rfl rfl (by decide) rfl rfl (fun c => ?_) (fun c => ?_)
  · exact zz_J.weak (k1 c hR) rfl ⟨rfl, rfl, rfl, rfl, trivial⟩
  · exact zz_J.weak (k2 c hR) rfl trivial
theorem cb_90_35 {X : Nat → Option zz_C} {h : zz_H} {t : cS} {s : mS} {d : Nat} {Q : zz_O → zz_H → Prop}  (hR : kR h t s) (k : ∀ {h : zz_H}, kR h t s → zz_J zp_P zt_tf zt_fd X d zm_254 0 [(0, .int 1)] [] h (zz_after 1000 Q (fun v h' => zz_J zp_P zt_tf zt_fd X (d + 1) zm_90 39 [] (v.toList ++ []) h' Q))) : zz_J zp_P zt_tf zt_fd X (d + 1) zm_90 35 [] [] h Q := by
  refine zz_J.c 36 (.int 1) rfl rfl rfl rfl ?_
  refine zz_J.cl (M' := zm_254) 39 rfl rfl (by decide) rfl rfl ⟨rfl, Nat.le_of_ble_eq_true rfl⟩ rfl ?_
  refine zz_J.mono (k hR) ?_
  intro o h' hE
  cases o with
  | inl v => exact zz_J.weak hE rfl trivial
  | inr q => exact hE
theorem cb_90_39 {X : Nat → Option zz_C} {h : zz_H} {t : cS} {s : mS} {d : Nat} {Q : zz_O → zz_H → Prop} {y0 : Int64} (hR : kR h t s) (k : ∀ {h : zz_H}, kR h t s → Q (.inl (some (.long y0))) h) : zz_J zp_P zt_tf zt_fd X d zm_90 39 [] [.long y0] h Q := by
  refine zz_J.ret rfl rfl rfl ?_
  exact k hR
theorem cb_90_40 {X : Nat → Option zz_C} {h : zz_H} {t : cS} {s : mS} {d : Nat} {Q : zz_O → zz_H → Prop} {x3 : Int32} {x4 : Int32} {x6 : Int32} (hR : kR h t s) (k : ∀ {h : zz_H}, kR h t s → zz_J zp_P zt_tf zt_fd X d zm_122 0 [(0, .ref 42)] [] h (zz_after 2 Q (fun v h' => zz_J zp_P zt_tf zt_fd X (d + 1) zm_90 47 [(0, .ref 59), (3, .int x3), (4, .int x4), (6, .int x6)] (v.toList ++ []) h' Q))) : zz_J zp_P zt_tf zt_fd X (d + 1) zm_90 40 [(0, .ref 59), (3, .int x3), (4, .int x4), (6, .int x6)] [] h Q := by
  refine zz_J.n 41 rfl rfl rfl ?_
  refine zz_J.g 44 rfl (hR.gv (v := .ref 42) ko_59 (by decide) rfl) rfl ?_
  refine zz_J.cv 47 (as := []) rfl rfl (hR.clO ko_42 (by decide) (by decide)) (by decide) (Nat.le_of_ble_eq_true rfl) (Nat.le_of_ble_eq_true rfl) rfl (Nat.le_of_ble_eq_true rfl) rfl ?_
  refine zz_J.mono (k hR) ?_
  intro o h' hE
  cases o with
  | inl v => exact zz_J.weak hE rfl ⟨rfl, rfl, rfl, rfl, trivial⟩
  | inr q => exact hE
theorem cb_90_47 {X : Nat → Option zz_C} {h : zz_H} {t : cS} {s : mS} {d : Nat} {Q : zz_O → zz_H → Prop} {x3 : Int32} {x4 : Int32} {x6 : Int32} {y0 : Int32} (hR : kR h t s) (k : ∀ {h : zz_H}, kR h t s → zz_J zp_P zt_tf zt_fd X d zm_90 52 [(0, .ref 59), (3, .int x3), (4, .int x4), (6, .int x6), (7, .int y0), (8, .int 0)] [] h Q) : zz_J zp_P zt_tf zt_fd X d zm_90 47 [(0, .ref 59), (3, .int x3), (4, .int x4), (6, .int x6)] [.int y0] h Q := by
  refine zz_J.n 49 rfl rfl rfl ?_
  refine zz_J.c 50 (.int 0) rfl rfl rfl rfl ?_
  refine zz_J.n 52 rfl rfl rfl ?_
  exact zz_J.weak (k hR) rfl ⟨rfl, rfl, rfl, rfl, rfl, rfl, trivial⟩
theorem cb_90_52 {X : Nat → Option zz_C} {h : zz_H} {t : cS} {s : mS} {d : Nat} {Q : zz_O → zz_H → Prop} {x3 : Int32} {x4 : Int32} {x6 : Int32} {x7 : Int32} {x8 : Int32} (hR : kR h t s) (k1 : x6 ≤ x8 → (∀ {h : zz_H}, kR h t s → zz_J zp_P zt_tf zt_fd X d zm_90 80 [(0, .ref 59), (4, .int x4), (7, .int x7)] [] h Q)) (k2 : ¬ x6 ≤ x8 → (∀ {h : zz_H}, kR h t s → zz_J zp_P zt_tf zt_fd X d zm_90 59 [(0, .ref 59), (3, .int x3), (4, .int x4), (6, .int x6), (7, .int x7), (8, .int x8)] [] h Q)) : zz_J zp_P zt_tf zt_fd X d zm_90 52 [(0, .ref 59), (3, .int x3), (4, .int x4), (6, .int x6), (7, .int x7), (8, .int x8)] [] h Q := by
  refine zz_J.n 54 rfl rfl rfl ?_
  refine zz_J.n 56 rfl rfl rfl ?_
  refine zz_J.b2 80 59 (A := x6 ≤ x8) rfl rfl (by decide) rfl rfl (fun c => ?_) (fun c => ?_)
  · exact zz_J.weak (k1 c hR) rfl ⟨rfl, rfl, rfl, trivial⟩
  · exact zz_J.weak (k2 c hR) rfl ⟨rfl, rfl, rfl, rfl, rfl, rfl, trivial⟩
theorem cb_90_59 {X : Nat → Option zz_C} {h : zz_H} {t : cS} {s : mS} {d : Nat} {Q : zz_O → zz_H → Prop} {x3 : Int32} {x4 : Int32} {x6 : Int32} {x7 : Int32} {x8 : Int32} (hR : kR h t s) (k : ∀ {h : zz_H}, kR h t s → zz_J zp_P zt_tf zt_fd X d zm_253 0 [(0, .int 0), (1, .int (x8 * x3))] [] h (zz_after 1000 Q (fun v h' => zz_J zp_P zt_tf zt_fd X (d + 1) zm_90 71 [(0, .ref 59), (3, .int x3), (4, .int x4), (6, .int x6), (7, .int x7), (8, .int x8)] (v.toList ++ [.ref 42]) h' Q))) : zz_J zp_P zt_tf zt_fd X (d + 1) zm_90 59 [(0, .ref 59), (3, .int x3), (4, .int x4), (6, .int x6), (7, .int x7), (8, .int x8)] [] h Q := by
  refine zz_J.n 60 rfl rfl rfl ?_
  refine zz_J.g 63 rfl (hR.gv (v := .ref 42) ko_59 (by decide) rfl) rfl ?_
  refine zz_J.c 64 (.int 0) rfl rfl rfl rfl ?_
  refine zz_J.n 66 rfl rfl rfl ?_
  refine zz_J.n 67 rfl rfl rfl ?_
  refine zz_J.n 68 rfl rfl rfl ?_
  refine zz_J.cl (M' := zm_253) 71 rfl rfl (by decide) rfl rfl ⟨rfl, Nat.le_of_ble_eq_true rfl⟩ rfl ?_
  refine zz_J.mono (k hR) ?_
  intro o h' hE
  cases o with
  | inl v => exact zz_J.weak hE rfl ⟨rfl, rfl, rfl, rfl, rfl, rfl, trivial⟩
  | inr q => exact hE
theorem cb_90_71 {X : Nat → Option zz_C} {h : zz_H} {t : cS} {s : mS} {d : Nat} {Q : zz_O → zz_H → Prop} {x3 : Int32} {x4 : Int32} {x6 : Int32} {x7 : Int32} {x8 : Int32} {y1 : Int64} (hR : kR h t s) (k : ∀ {h : zz_H}, kR h t s → zz_J zp_P zt_tf zt_fd X d zm_123 0 [(0, .ref 42), (1, .long y1)] [] h (zz_after 2 Q (fun v h' => zz_J zp_P zt_tf zt_fd X (d + 1) zm_90 74 [(0, .ref 59), (3, .int x3), (4, .int x4), (6, .int x6), (7, .int x7), (8, .int x8)] (v.toList ++ []) h' Q))) : zz_J zp_P zt_tf zt_fd X (d + 1) zm_90 71 [(0, .ref 59), (3, .int x3), (4, .int x4), (6, .int x6), (7, .int x7), (8, .int x8)] [.long y1, .ref 42] h Q := by
  refine zz_J.cv 74 (as := []) rfl rfl (hR.clO ko_42 (by decide) (by decide)) (by decide) (Nat.le_of_ble_eq_true rfl) (Nat.le_of_ble_eq_true rfl) rfl (Nat.le_of_ble_eq_true rfl) rfl ?_
  refine zz_J.mono (k hR) ?_
  intro o h' hE
  cases o with
  | inl v => exact zz_J.weak hE rfl ⟨rfl, rfl, rfl, rfl, rfl, rfl, trivial⟩
  | inr q => exact hE
theorem cb_90_74 {X : Nat → Option zz_C} {h : zz_H} {t : cS} {s : mS} {d : Nat} {Q : zz_O → zz_H → Prop} {x3 : Int32} {x4 : Int32} {x6 : Int32} {x7 : Int32} {x8 : Int32} (hR : kR h t s) (k : ∀ {h : zz_H}, kR h t s → zz_J zp_P zt_tf zt_fd X d zm_90 52 [(0, .ref 59), (3, .int x3), (4, .int x4), (6, .int x6), (7, .int x7), (8, .int (x8 + 1))] [] h Q) : zz_J zp_P zt_tf zt_fd X d zm_90 74 [(0, .ref 59), (3, .int x3), (4, .int x4), (6, .int x6), (7, .int x7), (8, .int x8)] [] h Q := by
  refine zz_J.n 77 rfl rfl rfl ?_
  refine zz_J.n 52 rfl rfl rfl ?_
  exact zz_J.weak (k hR) rfl ⟨rfl, rfl, rfl, rfl, rfl, rfl, trivial⟩
theorem cb_90_80 {X : Nat → Option zz_C} {h : zz_H} {t : cS} {s : mS} {d : Nat} {Q : zz_O → zz_H → Prop} {x4 : Int32} {x7 : Int32} (hR : kR h t s) (k : ∀ {h : zz_H}, kR h t s → zz_J zp_P zt_tf zt_fd X d zm_126 0 [(0, .ref 42), (1, .int x4), (2, .int x7)] [] h (zz_after 2 Q (fun v h' => zz_J zp_P zt_tf zt_fd X (d + 1) zm_90 91 [] (v.toList ++ []) h' Q))) : zz_J zp_P zt_tf zt_fd X (d + 1) zm_90 80 [(0, .ref 59), (4, .int x4), (7, .int x7)] [] h Q := by
  refine zz_J.n 81 rfl rfl rfl ?_
  refine zz_J.g 84 rfl (hR.gv (v := .ref 42) ko_59 (by decide) rfl) rfl ?_
  refine zz_J.n 86 rfl rfl rfl ?_
  refine zz_J.n 88 rfl rfl rfl ?_
  refine zz_J.cv 91 (as := []) rfl rfl (hR.clO ko_42 (by decide) (by decide)) (by decide) (Nat.le_of_ble_eq_true rfl) (Nat.le_of_ble_eq_true rfl) rfl (Nat.le_of_ble_eq_true rfl) rfl ?_
  refine zz_J.mono (k hR) ?_
  intro o h' hE
  cases o with
  | inl v => exact zz_J.weak hE rfl trivial
  | inr q => exact hE
theorem cb_90_91 {X : Nat → Option zz_C} {h : zz_H} {t : cS} {s : mS} {d : Nat} {Q : zz_O → zz_H → Prop} {y0 : Int64} (hR : kR h t s) (k : ∀ {h : zz_H}, kR h t s → Q (.inl (some (.long y0))) h) : zz_J zp_P zt_tf zt_fd X d zm_90 91 [] [.long y0] h Q := by
  refine zz_J.ret rfl rfl rfl ?_
  exact k hR
def cf_90_91 (N : Nat) (X : Nat → Option zz_C) (y0 : Int64) (t : cS) : kO := some (t, .inl (some (.long y0)))
theorem cr_90_91 {X : Nat → Option zz_C} {s : mS} {N : Nat} {d : Nat} (hd : 10 ≤ d) {Q : zz_O → zz_H → Prop} {y0 : Int64} {h : zz_H} {t t' : cS} {o : kY} (hR : kR h t s) (hf : cf_90_91 N X y0 t = some (t', o)) (k : (∀ h', kR h' t' s → kE o Q h')) : zz_J zp_P zt_tf zt_fd X d zm_90 91 [] [.long y0] h Q := by
  unfold cf_90_91 at hf
  cases hf
  exact cb_90_91 hR  (fun {h} hR => k h hR)
def cf_90_80 (N : Nat) (X : Nat → Option zz_C) (x4 : Int32) (x7 : Int32) (t : cS) : kO := ko_call 2 (cf_126 N X x4 x7 t) (fun g1 v1 => co_l v1 (fun y => cf_90_91 N X y g1))
theorem cr_90_80 {X : Nat → Option zz_C} {s : mS} {N : Nat} {d : Nat} (hd : 10 ≤ d) {Q : zz_O → zz_H → Prop} {x4 : Int32} {x7 : Int32} {h : zz_H} {t t' : cS} {o : kY} (hR : kR h t s) (hf : cf_90_80 N X x4 x7 t = some (t', o)) (k : (∀ h', kR h' t' s → kE o Q h')) : zz_J zp_P zt_tf zt_fd X d zm_90 80 [(0, .ref 59), (4, .int x4), (7, .int x7)] [] h Q := by
  unfold cf_90_80 at hf
  obtain ⟨d', rfl⟩ : ∃ d', d = d' + 1 := ⟨d - 1, by omega⟩
  refine cb_90_80 hR  (fun {h} hR => ?_)
  rcases ko_call_ok hf with ⟨g1, v1, er, hf⟩ | ⟨g1, er, hq⟩
  · obtain ⟨y, hv, hf2⟩ := co_l_ok hf
    clear hf
    have hf := hf2
    clear hf2
    subst hv
    refine cr_126 (by omega) hR er (fun h hR => ?_)
    exact cr_90_91 hd hR hf k
  · refine cr_126 (by omega) hR er (fun h hR => ?_)
    exact ko_thrown hq hR k
def cf_90_74 (N : Nat) (X : Nat → Option zz_C) (rc : Nat → Int32 → Int32 → Int32 → Int32 → Int32 → cS → kO) (x3 : Int32) (x4 : Int32) (x6 : Int32) (x7 : Int32) (x8 : Int32) (t : cS) : kO := rc 0 x3 x4 x6 x7 (x8 + 1) t
theorem cr_90_74 {X : Nat → Option zz_C} {s : mS} {N : Nat} {d : Nat} (hd : 10 ≤ d) {rc : Nat → Int32 → Int32 → Int32 → Int32 → Int32 → cS → kO} (hrc0 : ∀ {Q : zz_O → zz_H → Prop} {x3 : Int32} {x4 : Int32} {x6 : Int32} {x7 : Int32} {x8 : Int32} {h : zz_H} {t t' : cS} {o : kY}, kR h t s → rc 0 x3 x4 x6 x7 x8 t = some (t', o) → (∀ h', kR h' t' s → kE o Q h') → zz_J zp_P zt_tf zt_fd X d zm_90 52 [(0, .ref 59), (3, .int x3), (4, .int x4), (6, .int x6), (7, .int x7), (8, .int x8)] [] h Q) {Q : zz_O → zz_H → Prop} {x3 : Int32} {x4 : Int32} {x6 : Int32} {x7 : Int32} {x8 : Int32} {h : zz_H} {t t' : cS} {o : kY} (hR : kR h t s) (hf : cf_90_74 N X rc x3 x4 x6 x7 x8 t = some (t', o)) (k : (∀ h', kR h' t' s → kE o Q h')) : zz_J zp_P zt_tf zt_fd X d zm_90 74 [(0, .ref 59), (3, .int x3), (4, .int x4), (6, .int x6), (7, .int x7), (8, .int x8)] [] h Q := by
  unfold cf_90_74 at hf
  exact cb_90_74 hR  (fun hR => hrc0 hR hf k)
def cf_90_71 (N : Nat) (X : Nat → Option zz_C) (rc : Nat → Int32 → Int32 → Int32 → Int32 → Int32 → cS → kO) (x3 : Int32) (x4 : Int32) (x6 : Int32) (x7 : Int32) (x8 : Int32) (y1 : Int64) (t : cS) : kO := ko_call 2 (cf_123 N X y1 t) (fun g1 v1 => co_v v1 (cf_90_74 N X rc x3 x4 x6 x7 x8 g1))
theorem cr_90_71 {X : Nat → Option zz_C} {s : mS} {N : Nat} {d : Nat} (hd : 10 ≤ d) {rc : Nat → Int32 → Int32 → Int32 → Int32 → Int32 → cS → kO} (hrc0 : ∀ {Q : zz_O → zz_H → Prop} {x3 : Int32} {x4 : Int32} {x6 : Int32} {x7 : Int32} {x8 : Int32} {h : zz_H} {t t' : cS} {o : kY}, kR h t s → rc 0 x3 x4 x6 x7 x8 t = some (t', o) → (∀ h', kR h' t' s → kE o Q h') → zz_J zp_P zt_tf zt_fd X d zm_90 52 [(0, .ref 59), (3, .int x3), (4, .int x4), (6, .int x6), (7, .int x7), (8, .int x8)] [] h Q) {Q : zz_O → zz_H → Prop} {x3 : Int32} {x4 : Int32} {x6 : Int32} {x7 : Int32} {x8 : Int32} {y1 : Int64} {h : zz_H} {t t' : cS} {o : kY} (hR : kR h t s) (hf : cf_90_71 N X rc x3 x4 x6 x7 x8 y1 t = some (t', o)) (k : (∀ h', kR h' t' s → kE o Q h')) : zz_J zp_P zt_tf zt_fd X d zm_90 71 [(0, .ref 59), (3, .int x3), (4, .int x4), (6, .int x6), (7, .int x7), (8, .int x8)] [.long y1, .ref 42] h Q := by
  unfold cf_90_71 at hf
  obtain ⟨d', rfl⟩ : ∃ d', d = d' + 1 := ⟨d - 1, by omega⟩
  refine cb_90_71 hR  (fun {h} hR => ?_)
  rcases ko_call_ok hf with ⟨g1, v1, er, hf⟩ | ⟨g1, er, hq⟩
  · obtain ⟨hv, hf2⟩ := co_v_ok hf
    clear hf
    have hf := hf2
    clear hf2
    subst hv
    refine cr_123 (by omega) hR er (fun h hR => ?_)
    exact cr_90_74 hd hrc0 hR hf k
  · refine cr_123 (by omega) hR er (fun h hR => ?_)
    exact ko_thrown hq hR k
def cf_90_59 (N : Nat) (X : Nat → Option zz_C) (rc : Nat → Int32 → Int32 → Int32 → Int32 → Int32 → cS → kO) (x3 : Int32) (x4 : Int32) (x6 : Int32) (x7 : Int32) (x8 : Int32) (t : cS) : kO := ko_call 1000 (cf_253 N X 0 (x8 * x3) t) (fun g1 v1 => co_l v1 (fun y => cf_90_71 N X rc x3 x4 x6 x7 x8 y g1))
theorem cr_90_59 {X : Nat → Option zz_C} {s : mS} {N : Nat} {d : Nat} (hd : 10 ≤ d) {rc : Nat → Int32 → Int32 → Int32 → Int32 → Int32 → cS → kO} (hrc0 : ∀ {Q : zz_O → zz_H → Prop} {x3 : Int32} {x4 : Int32} {x6 : Int32} {x7 : Int32} {x8 : Int32} {h : zz_H} {t t' : cS} {o : kY}, kR h t s → rc 0 x3 x4 x6 x7 x8 t = some (t', o) → (∀ h', kR h' t' s → kE o Q h') → zz_J zp_P zt_tf zt_fd X d zm_90 52 [(0, .ref 59), (3, .int x3), (4, .int x4), (6, .int x6), (7, .int x7), (8, .int x8)] [] h Q) {Q : zz_O → zz_H → Prop} {x3 : Int32} {x4 : Int32} {x6 : Int32} {x7 : Int32} {x8 : Int32} {h : zz_H} {t t' : cS} {o : kY} (hR : kR h t s) (hf : cf_90_59 N X rc x3 x4 x6 x7 x8 t = some (t', o)) (k : (∀ h', kR h' t' s → kE o Q h')) : zz_J zp_P zt_tf zt_fd X d zm_90 59 [(0, .ref 59), (3, .int x3), (4, .int x4), (6, .int x6), (7, .int x7), (8, .int x8)] [] h Q := by
  unfold cf_90_59 at hf
  obtain ⟨d', rfl⟩ : ∃ d', d = d' + 1 := ⟨d - 1, by omega⟩
  refine cb_90_59 hR  (fun {h} hR => ?_)
  rcases ko_call_ok hf with ⟨g1, v1, er, hf⟩ | ⟨g1, er, hq⟩
  · obtain ⟨y, hv, hf2⟩ := co_l_ok hf
    clear hf
    have hf := hf2
    clear hf2
    subst hv
    refine cr_253 (by omega) hR er (fun h hR => ?_)
    exact cr_90_71 hd hrc0 hR hf k
  · refine cr_253 (by omega) hR er (fun h hR => ?_)
    exact ko_thrown hq hR k
def cf_90_52 (N : Nat) (X : Nat → Option zz_C) (rc : Nat → Int32 → Int32 → Int32 → Int32 → Int32 → cS → kO) (x3 : Int32) (x4 : Int32) (x6 : Int32) (x7 : Int32) (x8 : Int32) (t : cS) : kO := if x6 ≤ x8 then cf_90_80 N X x4 x7 t else cf_90_59 N X rc x3 x4 x6 x7 x8 t
theorem cr_90_52 {X : Nat → Option zz_C} {s : mS} {N : Nat} {d : Nat} (hd : 10 ≤ d) {rc : Nat → Int32 → Int32 → Int32 → Int32 → Int32 → cS → kO} (hrc0 : ∀ {Q : zz_O → zz_H → Prop} {x3 : Int32} {x4 : Int32} {x6 : Int32} {x7 : Int32} {x8 : Int32} {h : zz_H} {t t' : cS} {o : kY}, kR h t s → rc 0 x3 x4 x6 x7 x8 t = some (t', o) → (∀ h', kR h' t' s → kE o Q h') → zz_J zp_P zt_tf zt_fd X d zm_90 52 [(0, .ref 59), (3, .int x3), (4, .int x4), (6, .int x6), (7, .int x7), (8, .int x8)] [] h Q) {Q : zz_O → zz_H → Prop} {x3 : Int32} {x4 : Int32} {x6 : Int32} {x7 : Int32} {x8 : Int32} {h : zz_H} {t t' : cS} {o : kY} (hR : kR h t s) (hf : cf_90_52 N X rc x3 x4 x6 x7 x8 t = some (t', o)) (k : (∀ h', kR h' t' s → kE o Q h')) : zz_J zp_P zt_tf zt_fd X d zm_90 52 [(0, .ref 59), (3, .int x3), (4, .int x4), (6, .int x6), (7, .int x7), (8, .int x8)] [] h Q := by
  unfold cf_90_52 at hf
  refine cb_90_52 hR  (fun c {h} hR => ?_) (fun c {h} hR => ?_)
  · rw [if_pos c] at hf
    exact cr_90_80 hd hR hf k
  · rw [if_neg c] at hf
    exact cr_90_59 hd hrc0 hR hf k
def cf_90_L2 (N : Nat) (X : Nat → Option zz_C) : Nat → Nat → Int32 → Int32 → Int32 → Int32 → Int32 → cS → kO
  | 0, _, _, _, _, _, _, _ => none
  | n + 1, l, x3, x4, x6, x7, x8, t => if l = 0 then cf_90_52 N X (cf_90_L2 N X n) x3 x4 x6 x7 x8 t else none
theorem cr_90_L2 {X : Nat → Option zz_C} {s : mS} {N : Nat} {d : Nat} (hd : 10 ≤ d) : ∀ n : Nat, (∀ {Q : zz_O → zz_H → Prop} {x3 : Int32} {x4 : Int32} {x6 : Int32} {x7 : Int32} {x8 : Int32} {h : zz_H} {t t' : cS} {o : kY}, kR h t s → cf_90_L2 N X n 0 x3 x4 x6 x7 x8 t = some (t', o) → (∀ h', kR h' t' s → kE o Q h') → zz_J zp_P zt_tf zt_fd X d zm_90 52 [(0, .ref 59), (3, .int x3), (4, .int x4), (6, .int x6), (7, .int x7), (8, .int x8)] [] h Q) := by
  intro n
  induction n with
  | zero => exact (fun _ hf _ => by cases hf)
  | succ n ih =>
    have h0 := @ih
    intro Q _ _ _ _ _ h t t' o hR hf k
    unfold cf_90_L2 at hf
    rw [if_pos rfl] at hf
    exact cr_90_52 hd h0 hR hf k
def cf_90_47 (N : Nat) (X : Nat → Option zz_C) (x3 : Int32) (x4 : Int32) (x6 : Int32) (y0 : Int32) (t : cS) : kO := cf_90_L2 N X N 0 x3 x4 x6 y0 0 t
theorem cr_90_47 {X : Nat → Option zz_C} {s : mS} {N : Nat} {d : Nat} (hd : 10 ≤ d) {Q : zz_O → zz_H → Prop} {x3 : Int32} {x4 : Int32} {x6 : Int32} {y0 : Int32} {h : zz_H} {t t' : cS} {o : kY} (hR : kR h t s) (hf : cf_90_47 N X x3 x4 x6 y0 t = some (t', o)) (k : (∀ h', kR h' t' s → kE o Q h')) : zz_J zp_P zt_tf zt_fd X d zm_90 47 [(0, .ref 59), (3, .int x3), (4, .int x4), (6, .int x6)] [.int y0] h Q := by
  unfold cf_90_47 at hf
  exact cb_90_47 hR  (fun hR => cr_90_L2 hd N hR hf k)
def cf_90_40 (N : Nat) (X : Nat → Option zz_C) (x3 : Int32) (x4 : Int32) (x6 : Int32) (t : cS) : kO := ko_call 2 (cf_122 N X  t) (fun g1 v1 => co_i v1 (fun y => cf_90_47 N X x3 x4 x6 y g1))
theorem cr_90_40 {X : Nat → Option zz_C} {s : mS} {N : Nat} {d : Nat} (hd : 10 ≤ d) {Q : zz_O → zz_H → Prop} {x3 : Int32} {x4 : Int32} {x6 : Int32} {h : zz_H} {t t' : cS} {o : kY} (hR : kR h t s) (hf : cf_90_40 N X x3 x4 x6 t = some (t', o)) (k : (∀ h', kR h' t' s → kE o Q h')) : zz_J zp_P zt_tf zt_fd X d zm_90 40 [(0, .ref 59), (3, .int x3), (4, .int x4), (6, .int x6)] [] h Q := by
  unfold cf_90_40 at hf
  obtain ⟨d', rfl⟩ : ∃ d', d = d' + 1 := ⟨d - 1, by omega⟩
  refine cb_90_40 hR  (fun {h} hR => ?_)
  rcases ko_call_ok hf with ⟨g1, v1, er, hf⟩ | ⟨g1, er, hq⟩
  · obtain ⟨y, hv, hf2⟩ := co_i_ok hf
    clear hf
    have hf := hf2
    clear hf2
    subst hv
    refine cr_122 (by omega) hR er (fun h hR => ?_)
    exact cr_90_47 hd hR hf k
  · refine cr_122 (by omega) hR er (fun h hR => ?_)
    exact ko_thrown hq hR k
def cf_90_39 (N : Nat) (X : Nat → Option zz_C) (y0 : Int64) (t : cS) : kO := some (t, .inl (some (.long y0)))
theorem cr_90_39 {X : Nat → Option zz_C} {s : mS} {N : Nat} {d : Nat} (hd : 10 ≤ d) {Q : zz_O → zz_H → Prop} {y0 : Int64} {h : zz_H} {t t' : cS} {o : kY} (hR : kR h t s) (hf : cf_90_39 N X y0 t = some (t', o)) (k : (∀ h', kR h' t' s → kE o Q h')) : zz_J zp_P zt_tf zt_fd X d zm_90 39 [] [.long y0] h Q := by
  unfold cf_90_39 at hf
  cases hf
  exact cb_90_39 hR  (fun {h} hR => k h hR)
def cf_90_35 (N : Nat) (X : Nat → Option zz_C)  (t : cS) : kO := ko_call 1000 (cf_254 N X 1 t) (fun g1 v1 => co_l v1 (fun y => cf_90_39 N X y g1))
theorem cr_90_35 {X : Nat → Option zz_C} {s : mS} {N : Nat} {d : Nat} (hd : 10 ≤ d) {Q : zz_O → zz_H → Prop}  {h : zz_H} {t t' : cS} {o : kY} (hR : kR h t s) (hf : cf_90_35 N X  t = some (t', o)) (k : (∀ h', kR h' t' s → kE o Q h')) : zz_J zp_P zt_tf zt_fd X d zm_90 35 [] [] h Q := by
  unfold cf_90_35 at hf
  obtain ⟨d', rfl⟩ : ∃ d', d = d' + 1 := ⟨d - 1, by omega⟩
  refine cb_90_35 hR  (fun {h} hR => ?_)
  rcases ko_call_ok hf with ⟨g1, v1, er, hf⟩ | ⟨g1, er, hq⟩
  · obtain ⟨y, hv, hf2⟩ := co_l_ok hf
    clear hf
    have hf := hf2
    clear hf2
    subst hv
    refine cr_254 (by omega) hR er (fun h hR => ?_)
    exact cr_90_39 hd hR hf k
  · refine cr_254 (by omega) hR er (fun h hR => ?_)
    exact ko_thrown hq hR k
def cf_90_30 (N : Nat) (X : Nat → Option zz_C) (x3 : Int32) (x4 : Int32) (x6 : Int32) (t : cS) : kO := if 0 ≤ x6 then cf_90_40 N X x3 x4 x6 t else cf_90_35 N X  t
theorem cr_90_30 {X : Nat → Option zz_C} {s : mS} {N : Nat} {d : Nat} (hd : 10 ≤ d) {Q : zz_O → zz_H → Prop} {x3 : Int32} {x4 : Int32} {x6 : Int32} {h : zz_H} {t t' : cS} {o : kY} (hR : kR h t s) (hf : cf_90_30 N X x3 x4 x6 t = some (t', o)) (k : (∀ h', kR h' t' s → kE o Q h')) : zz_J zp_P zt_tf zt_fd X d zm_90 30 [(0, .ref 59), (3, .int x3), (4, .int x4), (6, .int x6)] [] h Q := by
  unfold cf_90_30 at hf
  refine cb_90_30 hR  (fun c {h} hR => ?_) (fun c {h} hR => ?_)
  · rw [if_pos c] at hf
    exact cr_90_40 hd hR hf k
  · rw [if_neg c] at hf
    exact cr_90_35 hd hR hf k
def cf_90_29 (N : Nat) (X : Nat → Option zz_C) (y0 : Int64) (t : cS) : kO := some (t, .inl (some (.long y0)))
theorem cr_90_29 {X : Nat → Option zz_C} {s : mS} {N : Nat} {d : Nat} (hd : 10 ≤ d) {Q : zz_O → zz_H → Prop} {y0 : Int64} {h : zz_H} {t t' : cS} {o : kY} (hR : kR h t s) (hf : cf_90_29 N X y0 t = some (t', o)) (k : (∀ h', kR h' t' s → kE o Q h')) : zz_J zp_P zt_tf zt_fd X d zm_90 29 [] [.long y0] h Q := by
  unfold cf_90_29 at hf
  cases hf
  exact cb_90_29 hR  (fun {h} hR => k h hR)
def cf_90_25 (N : Nat) (X : Nat → Option zz_C)  (t : cS) : kO := ko_call 1000 (cf_254 N X 2 t) (fun g1 v1 => co_l v1 (fun y => cf_90_29 N X y g1))
theorem cr_90_25 {X : Nat → Option zz_C} {s : mS} {N : Nat} {d : Nat} (hd : 10 ≤ d) {Q : zz_O → zz_H → Prop}  {h : zz_H} {t t' : cS} {o : kY} (hR : kR h t s) (hf : cf_90_25 N X  t = some (t', o)) (k : (∀ h', kR h' t' s → kE o Q h')) : zz_J zp_P zt_tf zt_fd X d zm_90 25 [] [] h Q := by
  unfold cf_90_25 at hf
  obtain ⟨d', rfl⟩ : ∃ d', d = d' + 1 := ⟨d - 1, by omega⟩
  refine cb_90_25 hR  (fun {h} hR => ?_)
  rcases ko_call_ok hf with ⟨g1, v1, er, hf⟩ | ⟨g1, er, hq⟩
  · obtain ⟨y, hv, hf2⟩ := co_l_ok hf
    clear hf
    have hf := hf2
    clear hf2
    subst hv
    refine cr_254 (by omega) hR er (fun h hR => ?_)
    exact cr_90_29 hd hR hf k
  · refine cr_254 (by omega) hR er (fun h hR => ?_)
    exact ko_thrown hq hR k
def cf_90_16 (N : Nat) (X : Nat → Option zz_C) (x3 : Int32) (x4 : Int32) (x5 : Int32) (y0 : Int32) (t : cS) : kO := if y0 ≤ x5 then cf_90_30 N X x3 x4 y0 t else cf_90_25 N X  t
theorem cr_90_16 {X : Nat → Option zz_C} {s : mS} {N : Nat} {d : Nat} (hd : 10 ≤ d) {Q : zz_O → zz_H → Prop} {x3 : Int32} {x4 : Int32} {x5 : Int32} {y0 : Int32} {h : zz_H} {t t' : cS} {o : kY} (hR : kR h t s) (hf : cf_90_16 N X x3 x4 x5 y0 t = some (t', o)) (k : (∀ h', kR h' t' s → kE o Q h')) : zz_J zp_P zt_tf zt_fd X d zm_90 16 [(0, .ref 59), (3, .int x3), (4, .int x4), (5, .int x5)] [.int y0] h Q := by
  unfold cf_90_16 at hf
  refine cb_90_16 hR  (fun c {h} hR => ?_) (fun c {h} hR => ?_)
  · rw [if_pos c] at hf
    exact cr_90_30 hd hR hf k
  · rw [if_neg c] at hf
    exact cr_90_25 hd hR hf k
def cf_90_12 (N : Nat) (X : Nat → Option zz_C) (x1 : Int64) (x3 : Int32) (x4 : Int32) (x5 : Int32) (t : cS) : kO := ko_call 1000 (cf_256 N X x1 t) (fun g1 v1 => co_i v1 (fun y => cf_90_16 N X x3 x4 x5 y g1))
theorem cr_90_12 {X : Nat → Option zz_C} {s : mS} {N : Nat} {d : Nat} (hd : 10 ≤ d) {Q : zz_O → zz_H → Prop} {x1 : Int64} {x3 : Int32} {x4 : Int32} {x5 : Int32} {h : zz_H} {t t' : cS} {o : kY} (hR : kR h t s) (hf : cf_90_12 N X x1 x3 x4 x5 t = some (t', o)) (k : (∀ h', kR h' t' s → kE o Q h')) : zz_J zp_P zt_tf zt_fd X d zm_90 12 [(0, .ref 59), (1, .long x1), (3, .int x3), (4, .int x4), (5, .int x5)] [] h Q := by
  unfold cf_90_12 at hf
  obtain ⟨d', rfl⟩ : ∃ d', d = d' + 1 := ⟨d - 1, by omega⟩
  refine cb_90_12 hR  (fun {h} hR => ?_)
  rcases ko_call_ok hf with ⟨g1, v1, er, hf⟩ | ⟨g1, er, hq⟩
  · obtain ⟨y, hv, hf2⟩ := co_i_ok hf
    clear hf
    have hf := hf2
    clear hf2
    subst hv
    refine cr_256 (by omega) hR er (fun h hR => ?_)
    exact cr_90_16 hd hR hf k
  · refine cr_256 (by omega) hR er (fun h hR => ?_)
    exact ko_thrown hq hR k
def cf_90_11 (N : Nat) (X : Nat → Option zz_C) (y0 : Int64) (t : cS) : kO := some (t, .inl (some (.long y0)))
theorem cr_90_11 {X : Nat → Option zz_C} {s : mS} {N : Nat} {d : Nat} (hd : 10 ≤ d) {Q : zz_O → zz_H → Prop} {y0 : Int64} {h : zz_H} {t t' : cS} {o : kY} (hR : kR h t s) (hf : cf_90_11 N X y0 t = some (t', o)) (k : (∀ h', kR h' t' s → kE o Q h')) : zz_J zp_P zt_tf zt_fd X d zm_90 11 [] [.long y0] h Q := by
  unfold cf_90_11 at hf
  cases hf
  exact cb_90_11 hR  (fun {h} hR => k h hR)
def cf_90_7 (N : Nat) (X : Nat → Option zz_C)  (t : cS) : kO := ko_call 1000 (cf_254 N X 3 t) (fun g1 v1 => co_l v1 (fun y => cf_90_11 N X y g1))
theorem cr_90_7 {X : Nat → Option zz_C} {s : mS} {N : Nat} {d : Nat} (hd : 10 ≤ d) {Q : zz_O → zz_H → Prop}  {h : zz_H} {t t' : cS} {o : kY} (hR : kR h t s) (hf : cf_90_7 N X  t = some (t', o)) (k : (∀ h', kR h' t' s → kE o Q h')) : zz_J zp_P zt_tf zt_fd X d zm_90 7 [] [] h Q := by
  unfold cf_90_7 at hf
  obtain ⟨d', rfl⟩ : ∃ d', d = d' + 1 := ⟨d - 1, by omega⟩
  refine cb_90_7 hR  (fun {h} hR => ?_)
  rcases ko_call_ok hf with ⟨g1, v1, er, hf⟩ | ⟨g1, er, hq⟩
  · obtain ⟨y, hv, hf2⟩ := co_l_ok hf
    clear hf
    have hf := hf2
    clear hf2
    subst hv
    refine cr_254 (by omega) hR er (fun h hR => ?_)
    exact cr_90_11 hd hR hf k
  · refine cr_254 (by omega) hR er (fun h hR => ?_)
    exact ko_thrown hq hR k
def cf_90_4 (N : Nat) (X : Nat → Option zz_C) (x1 : Int64) (x3 : Int32) (x4 : Int32) (x5 : Int32) (y0 : Int32) (t : cS) : kO := if y0 = 0 then cf_90_12 N X x1 x3 x4 x5 t else cf_90_7 N X  t
theorem cr_90_4 {X : Nat → Option zz_C} {s : mS} {N : Nat} {d : Nat} (hd : 10 ≤ d) {Q : zz_O → zz_H → Prop} {x1 : Int64} {x3 : Int32} {x4 : Int32} {x5 : Int32} {y0 : Int32} {h : zz_H} {t t' : cS} {o : kY} (hR : kR h t s) (hf : cf_90_4 N X x1 x3 x4 x5 y0 t = some (t', o)) (k : (∀ h', kR h' t' s → kE o Q h')) : zz_J zp_P zt_tf zt_fd X d zm_90 4 [(0, .ref 59), (1, .long x1), (3, .int x3), (4, .int x4), (5, .int x5)] [.int y0] h Q := by
  unfold cf_90_4 at hf
  refine cb_90_4 hR  (fun c {h} hR => ?_) (fun c {h} hR => ?_)
  · rw [if_pos c] at hf
    exact cr_90_12 hd hR hf k
  · rw [if_neg c] at hf
    exact cr_90_7 hd hR hf k
def cf_90_0 (N : Nat) (X : Nat → Option zz_C) (x1 : Int64) (x3 : Int32) (x4 : Int32) (x5 : Int32) (t : cS) : kO := ko_call 1000 (cf_255 N X x1 t) (fun g1 v1 => co_i v1 (fun y => cf_90_4 N X x1 x3 x4 x5 y g1))
theorem cr_90_0 {X : Nat → Option zz_C} {s : mS} {N : Nat} {d : Nat} (hd : 10 ≤ d) {Q : zz_O → zz_H → Prop} {x1 : Int64} {x3 : Int32} {x4 : Int32} {x5 : Int32} {h : zz_H} {t t' : cS} {o : kY} (hR : kR h t s) (hf : cf_90_0 N X x1 x3 x4 x5 t = some (t', o)) (k : (∀ h', kR h' t' s → kE o Q h')) : zz_J zp_P zt_tf zt_fd X d zm_90 0 [(0, .ref 59), (1, .long x1), (3, .int x3), (4, .int x4), (5, .int x5)] [] h Q := by
  unfold cf_90_0 at hf
  obtain ⟨d', rfl⟩ : ∃ d', d = d' + 1 := ⟨d - 1, by omega⟩
  refine cb_90_0 hR  (fun {h} hR => ?_)
  rcases ko_call_ok hf with ⟨g1, v1, er, hf⟩ | ⟨g1, er, hq⟩
  · obtain ⟨y, hv, hf2⟩ := co_i_ok hf
    clear hf
    have hf := hf2
    clear hf2
    subst hv
    refine cr_255 (by omega) hR er (fun h hR => ?_)
    exact cr_90_4 hd hR hf k
  · refine cr_255 (by omega) hR er (fun h hR => ?_)
    exact ko_thrown hq hR k
/-- count -/
def cf_90 (N : Nat) (X : Nat → Option zz_C) (x1 : Int64) (x3 : Int32) (x4 : Int32) (x5 : Int32) (t : cS) : kO := cf_90_0 N X x1 x3 x4 x5 t
theorem cr_90 {X : Nat → Option zz_C} {s : mS} {N : Nat} {d : Nat} (hd : 10 ≤ d) {Q : zz_O → zz_H → Prop} {x1 : Int64} {x3 : Int32} {x4 : Int32} {x5 : Int32} {h : zz_H} {t t' : cS} {o : kY} (hR : kR h t s) (hf : cf_90 N X x1 x3 x4 x5 t = some (t', o)) (k : ∀ h', kR h' t' s → kE o Q h') : zz_J zp_P zt_tf zt_fd X d zm_90 0 [(0, .ref 59), (1, .long x1), (3, .int x3), (4, .int x4), (5, .int x5)] [] h Q := by
  unfold cf_90 at hf
  exact zz_J.weak (cr_90_0 hd hR hf k) rfl ⟨rfl, rfl, rfl, rfl, rfl, trivial⟩
/-! yX1_zeros (I)J -/
theorem cb_91_0 {X : Nat → Option zz_C} {h : zz_H} {t : cS} {s : mS} {d : Nat} {Q : zz_O → zz_H → Prop} {x1 : Int32} (hR : kR h t s) (k : ∀ {h : zz_H}, kR h t s → zz_J zp_P zt_tf zt_fd X d zm_122 0 [(0, .ref 42)] [] h (zz_after 2 Q (fun v h' => zz_J zp_P zt_tf zt_fd X (d + 1) zm_91 7 [(0, .ref 59), (1, .int x1)] (v.toList ++ []) h' Q))) : zz_J zp_P zt_tf zt_fd X (d + 1) zm_91 0 [(0, .ref 59), (1, .int x1)] [] h Q := by
  refine zz_J.n 1 rfl rfl rfl ?_
  refine zz_J.g 4 rfl (hR.gv (v := .ref 42) ko_59 (by decide) rfl) rfl ?_
  refine zz_J.cv 7 (as := []) rfl rfl (hR.clO ko_42 (by decide) (by decide)) (by decide) (Nat.le_of_ble_eq_true rfl) (Nat.le_of_ble_eq_true rfl) rfl (Nat.le_of_ble_eq_true rfl) rfl ?_
  refine zz_J.mono (k hR) ?_
  intro o h' hE
  cases o with
  | inl v => exact zz_J.weak hE rfl ⟨rfl, rfl, trivial⟩
  | inr q => exact hE
theorem cb_91_7 {X : Nat → Option zz_C} {h : zz_H} {t : cS} {s : mS} {d : Nat} {Q : zz_O → zz_H → Prop} {x1 : Int32} {y0 : Int32} (hR : kR h t s) (k : ∀ {h : zz_H}, kR h t s → zz_J zp_P zt_tf zt_fd X d zm_91 10 [(0, .ref 59), (1, .int x1), (2, .int y0), (3, .int 0)] [] h Q) : zz_J zp_P zt_tf zt_fd X d zm_91 7 [(0, .ref 59), (1, .int x1)] [.int y0] h Q := by
  refine zz_J.n 8 rfl rfl rfl ?_
  refine zz_J.c 9 (.int 0) rfl rfl rfl rfl ?_
  refine zz_J.n 10 rfl rfl rfl ?_
  exact zz_J.weak (k hR) rfl ⟨rfl, rfl, rfl, rfl, trivial⟩
theorem cb_91_10 {X : Nat → Option zz_C} {h : zz_H} {t : cS} {s : mS} {d : Nat} {Q : zz_O → zz_H → Prop} {x1 : Int32} {x2 : Int32} {x3 : Int32} (hR : kR h t s) (k1 : x1 ≤ x3 → (∀ {h : zz_H}, kR h t s → zz_J zp_P zt_tf zt_fd X d zm_91 33 [(0, .ref 59), (2, .int x2)] [] h Q)) (k2 : ¬ x1 ≤ x3 → (∀ {h : zz_H}, kR h t s → zz_J zp_P zt_tf zt_fd X d zm_91 15 [(0, .ref 59), (1, .int x1), (2, .int x2), (3, .int x3)] [] h Q)) : zz_J zp_P zt_tf zt_fd X d zm_91 10 [(0, .ref 59), (1, .int x1), (2, .int x2), (3, .int x3)] [] h Q := by
  refine zz_J.n 11 rfl rfl rfl ?_
  refine zz_J.n 12 rfl rfl rfl ?_
  refine zz_J.b2 33 15 (A := x1 ≤ x3) rfl rfl (by decide) rfl rfl (fun c => ?_) (fun c => ?_)
  · exact zz_J.weak (k1 c hR) rfl ⟨rfl, rfl, trivial⟩
  · exact zz_J.weak (k2 c hR) rfl ⟨rfl, rfl, rfl, rfl, trivial⟩
theorem cb_91_15 {X : Nat → Option zz_C} {h : zz_H} {t : cS} {s : mS} {d : Nat} {Q : zz_O → zz_H → Prop} {x1 : Int32} {x2 : Int32} {x3 : Int32} (hR : kR h t s) (k : ∀ {h : zz_H}, kR h t s → zz_J zp_P zt_tf zt_fd X d zm_253 0 [(0, .int 0), (1, .int 0)] [] h (zz_after 1000 Q (fun v h' => zz_J zp_P zt_tf zt_fd X (d + 1) zm_91 24 [(0, .ref 59), (1, .int x1), (2, .int x2), (3, .int x3)] (v.toList ++ [.ref 42]) h' Q))) : zz_J zp_P zt_tf zt_fd X (d + 1) zm_91 15 [(0, .ref 59), (1, .int x1), (2, .int x2), (3, .int x3)] [] h Q := by
  refine zz_J.n 16 rfl rfl rfl ?_
  refine zz_J.g 19 rfl (hR.gv (v := .ref 42) ko_59 (by decide) rfl) rfl ?_
  refine zz_J.c 20 (.int 0) rfl rfl rfl rfl ?_
  refine zz_J.c 21 (.int 0) rfl rfl rfl rfl ?_
  refine zz_J.cl (M' := zm_253) 24 rfl rfl (by decide) rfl rfl ⟨rfl, Nat.le_of_ble_eq_true rfl⟩ rfl ?_
  refine zz_J.mono (k hR) ?_
  intro o h' hE
  cases o with
  | inl v => exact zz_J.weak hE rfl ⟨rfl, rfl, rfl, rfl, trivial⟩
  | inr q => exact hE
theorem cb_91_24 {X : Nat → Option zz_C} {h : zz_H} {t : cS} {s : mS} {d : Nat} {Q : zz_O → zz_H → Prop} {x1 : Int32} {x2 : Int32} {x3 : Int32} {y1 : Int64} (hR : kR h t s) (k : ∀ {h : zz_H}, kR h t s → zz_J zp_P zt_tf zt_fd X d zm_123 0 [(0, .ref 42), (1, .long y1)] [] h (zz_after 2 Q (fun v h' => zz_J zp_P zt_tf zt_fd X (d + 1) zm_91 27 [(0, .ref 59), (1, .int x1), (2, .int x2), (3, .int x3)] (v.toList ++ []) h' Q))) : zz_J zp_P zt_tf zt_fd X (d + 1) zm_91 24 [(0, .ref 59), (1, .int x1), (2, .int x2), (3, .int x3)] [.long y1, .ref 42] h Q := by
  refine zz_J.cv 27 (as := []) rfl rfl (hR.clO ko_42 (by decide) (by decide)) (by decide) (Nat.le_of_ble_eq_true rfl) (Nat.le_of_ble_eq_true rfl) rfl (Nat.le_of_ble_eq_true rfl) rfl ?_
  refine zz_J.mono (k hR) ?_
  intro o h' hE
  cases o with
  | inl v => exact zz_J.weak hE rfl ⟨rfl, rfl, rfl, rfl, trivial⟩
  | inr q => exact hE
theorem cb_91_27 {X : Nat → Option zz_C} {h : zz_H} {t : cS} {s : mS} {d : Nat} {Q : zz_O → zz_H → Prop} {x1 : Int32} {x2 : Int32} {x3 : Int32} (hR : kR h t s) (k : ∀ {h : zz_H}, kR h t s → zz_J zp_P zt_tf zt_fd X d zm_91 10 [(0, .ref 59), (1, .int x1), (2, .int x2), (3, .int (x3 + 1))] [] h Q) : zz_J zp_P zt_tf zt_fd X d zm_91 27 [(0, .ref 59), (1, .int x1), (2, .int x2), (3, .int x3)] [] h Q := by
  refine zz_J.n 30 rfl rfl rfl ?_
  refine zz_J.n 10 rfl rfl rfl ?_
  exact zz_J.weak (k hR) rfl ⟨rfl, rfl, rfl, rfl, trivial⟩
theorem cb_91_33 {X : Nat → Option zz_C} {h : zz_H} {t : cS} {s : mS} {d : Nat} {Q : zz_O → zz_H → Prop} {x2 : Int32} (hR : kR h t s) (k : ∀ {h : zz_H}, kR h t s → zz_J zp_P zt_tf zt_fd X d zm_126 0 [(0, .ref 42), (1, .int 1), (2, .int x2)] [] h (zz_after 2 Q (fun v h' => zz_J zp_P zt_tf zt_fd X (d + 1) zm_91 42 [] (v.toList ++ []) h' Q))) : zz_J zp_P zt_tf zt_fd X (d + 1) zm_91 33 [(0, .ref 59), (2, .int x2)] [] h Q := by
  refine zz_J.n 34 rfl rfl rfl ?_
  refine zz_J.g 37 rfl (hR.gv (v := .ref 42) ko_59 (by decide) rfl) rfl ?_
  refine zz_J.c 38 (.int 1) rfl rfl rfl rfl ?_
  refine zz_J.n 39 rfl rfl rfl ?_
  refine zz_J.cv 42 (as := []) rfl rfl (hR.clO ko_42 (by decide) (by decide)) (by decide) (Nat.le_of_ble_eq_true rfl) (Nat.le_of_ble_eq_true rfl) rfl (Nat.le_of_ble_eq_true rfl) rfl ?_
  refine zz_J.mono (k hR) ?_
  intro o h' hE
  cases o with
  | inl v => exact zz_J.weak hE rfl trivial
  | inr q => exact hE
theorem cb_91_42 {X : Nat → Option zz_C} {h : zz_H} {t : cS} {s : mS} {d : Nat} {Q : zz_O → zz_H → Prop} {y0 : Int64} (hR : kR h t s) (k : ∀ {h : zz_H}, kR h t s → Q (.inl (some (.long y0))) h) : zz_J zp_P zt_tf zt_fd X d zm_91 42 [] [.long y0] h Q := by
  refine zz_J.ret rfl rfl rfl ?_
  exact k hR
def cf_91_42 (N : Nat) (X : Nat → Option zz_C) (y0 : Int64) (t : cS) : kO := some (t, .inl (some (.long y0)))
theorem cr_91_42 {X : Nat → Option zz_C} {s : mS} {N : Nat} {d : Nat} (hd : 10 ≤ d) {Q : zz_O → zz_H → Prop} {y0 : Int64} {h : zz_H} {t t' : cS} {o : kY} (hR : kR h t s) (hf : cf_91_42 N X y0 t = some (t', o)) (k : (∀ h', kR h' t' s → kE o Q h')) : zz_J zp_P zt_tf zt_fd X d zm_91 42 [] [.long y0] h Q := by
  unfold cf_91_42 at hf
  cases hf
  exact cb_91_42 hR  (fun {h} hR => k h hR)
def cf_91_33 (N : Nat) (X : Nat → Option zz_C) (x2 : Int32) (t : cS) : kO := ko_call 2 (cf_126 N X 1 x2 t) (fun g1 v1 => co_l v1 (fun y => cf_91_42 N X y g1))
theorem cr_91_33 {X : Nat → Option zz_C} {s : mS} {N : Nat} {d : Nat} (hd : 10 ≤ d) {Q : zz_O → zz_H → Prop} {x2 : Int32} {h : zz_H} {t t' : cS} {o : kY} (hR : kR h t s) (hf : cf_91_33 N X x2 t = some (t', o)) (k : (∀ h', kR h' t' s → kE o Q h')) : zz_J zp_P zt_tf zt_fd X d zm_91 33 [(0, .ref 59), (2, .int x2)] [] h Q := by
  unfold cf_91_33 at hf
  obtain ⟨d', rfl⟩ : ∃ d', d = d' + 1 := ⟨d - 1, by omega⟩
  refine cb_91_33 hR  (fun {h} hR => ?_)
  rcases ko_call_ok hf with ⟨g1, v1, er, hf⟩ | ⟨g1, er, hq⟩
  · obtain ⟨y, hv, hf2⟩ := co_l_ok hf
    clear hf
    have hf := hf2
    clear hf2
    subst hv
    refine cr_126 (by omega) hR er (fun h hR => ?_)
    exact cr_91_42 hd hR hf k
  · refine cr_126 (by omega) hR er (fun h hR => ?_)
    exact ko_thrown hq hR k
def cf_91_27 (N : Nat) (X : Nat → Option zz_C) (rc : Nat → Int32 → Int32 → Int32 → cS → kO) (x1 : Int32) (x2 : Int32) (x3 : Int32) (t : cS) : kO := rc 0 x1 x2 (x3 + 1) t
theorem cr_91_27 {X : Nat → Option zz_C} {s : mS} {N : Nat} {d : Nat} (hd : 10 ≤ d) {rc : Nat → Int32 → Int32 → Int32 → cS → kO} (hrc0 : ∀ {Q : zz_O → zz_H → Prop} {x1 : Int32} {x2 : Int32} {x3 : Int32} {h : zz_H} {t t' : cS} {o : kY}, kR h t s → rc 0 x1 x2 x3 t = some (t', o) → (∀ h', kR h' t' s → kE o Q h') → zz_J zp_P zt_tf zt_fd X d zm_91 10 [(0, .ref 59), (1, .int x1), (2, .int x2), (3, .int x3)] [] h Q) {Q : zz_O → zz_H → Prop} {x1 : Int32} {x2 : Int32} {x3 : Int32} {h : zz_H} {t t' : cS} {o : kY} (hR : kR h t s) (hf : cf_91_27 N X rc x1 x2 x3 t = some (t', o)) (k : (∀ h', kR h' t' s → kE o Q h')) : zz_J zp_P zt_tf zt_fd X d zm_91 27 [(0, .ref 59), (1, .int x1), (2, .int x2), (3, .int x3)] [] h Q := by
  unfold cf_91_27 at hf
  exact cb_91_27 hR  (fun hR => hrc0 hR hf k)
def cf_91_24 (N : Nat) (X : Nat → Option zz_C) (rc : Nat → Int32 → Int32 → Int32 → cS → kO) (x1 : Int32) (x2 : Int32) (x3 : Int32) (y1 : Int64) (t : cS) : kO := ko_call 2 (cf_123 N X y1 t) (fun g1 v1 => co_v v1 (cf_91_27 N X rc x1 x2 x3 g1))
theorem cr_91_24 {X : Nat → Option zz_C} {s : mS} {N : Nat} {d : Nat} (hd : 10 ≤ d) {rc : Nat → Int32 → Int32 → Int32 → cS → kO} (hrc0 : ∀ {Q : zz_O → zz_H → Prop} {x1 : Int32} {x2 : Int32} {x3 : Int32} {h : zz_H} {t t' : cS} {o : kY}, kR h t s → rc 0 x1 x2 x3 t = some (t', o) → (∀ h', kR h' t' s → kE o Q h') → zz_J zp_P zt_tf zt_fd X d zm_91 10 [(0, .ref 59), (1, .int x1), (2, .int x2), (3, .int x3)] [] h Q) {Q : zz_O → zz_H → Prop} {x1 : Int32} {x2 : Int32} {x3 : Int32} {y1 : Int64} {h : zz_H} {t t' : cS} {o : kY} (hR : kR h t s) (hf : cf_91_24 N X rc x1 x2 x3 y1 t = some (t', o)) (k : (∀ h', kR h' t' s → kE o Q h')) : zz_J zp_P zt_tf zt_fd X d zm_91 24 [(0, .ref 59), (1, .int x1), (2, .int x2), (3, .int x3)] [.long y1, .ref 42] h Q := by
  unfold cf_91_24 at hf
  obtain ⟨d', rfl⟩ : ∃ d', d = d' + 1 := ⟨d - 1, by omega⟩
  refine cb_91_24 hR  (fun {h} hR => ?_)
  rcases ko_call_ok hf with ⟨g1, v1, er, hf⟩ | ⟨g1, er, hq⟩
  · obtain ⟨hv, hf2⟩ := co_v_ok hf
    clear hf
    have hf := hf2
    clear hf2
    subst hv
    refine cr_123 (by omega) hR er (fun h hR => ?_)
    exact cr_91_27 hd hrc0 hR hf k
  · refine cr_123 (by omega) hR er (fun h hR => ?_)
    exact ko_thrown hq hR k
def cf_91_15 (N : Nat) (X : Nat → Option zz_C) (rc : Nat → Int32 → Int32 → Int32 → cS → kO) (x1 : Int32) (x2 : Int32) (x3 : Int32) (t : cS) : kO := ko_call 1000 (cf_253 N X 0 0 t) (fun g1 v1 => co_l v1 (fun y => cf_91_24 N X rc x1 x2 x3 y g1))
theorem cr_91_15 {X : Nat → Option zz_C} {s : mS} {N : Nat} {d : Nat} (hd : 10 ≤ d) {rc : Nat → Int32 → Int32 → Int32 → cS → kO} (hrc0 : ∀ {Q : zz_O → zz_H → Prop} {x1 : Int32} {x2 : Int32} {x3 : Int32} {h : zz_H} {t t' : cS} {o : kY}, kR h t s → rc 0 x1 x2 x3 t = some (t', o) → (∀ h', kR h' t' s → kE o Q h') → zz_J zp_P zt_tf zt_fd X d zm_91 10 [(0, .ref 59), (1, .int x1), (2, .int x2), (3, .int x3)] [] h Q) {Q : zz_O → zz_H → Prop} {x1 : Int32} {x2 : Int32} {x3 : Int32} {h : zz_H} {t t' : cS} {o : kY} (hR : kR h t s) (hf : cf_91_15 N X rc x1 x2 x3 t = some (t', o)) (k : (∀ h', kR h' t' s → kE o Q h')) : zz_J zp_P zt_tf zt_fd X d zm_91 15 [(0, .ref 59), (1, .int x1), (2, .int x2), (3, .int x3)] [] h Q := by
  unfold cf_91_15 at hf
  obtain ⟨d', rfl⟩ : ∃ d', d = d' + 1 := ⟨d - 1, by omega⟩
  refine cb_91_15 hR  (fun {h} hR => ?_)
  rcases ko_call_ok hf with ⟨g1, v1, er, hf⟩ | ⟨g1, er, hq⟩
  · obtain ⟨y, hv, hf2⟩ := co_l_ok hf
    clear hf
    have hf := hf2
    clear hf2
    subst hv
    refine cr_253 (by omega) hR er (fun h hR => ?_)
    exact cr_91_24 hd hrc0 hR hf k
  · refine cr_253 (by omega) hR er (fun h hR => ?_)
    exact ko_thrown hq hR k
def cf_91_10 (N : Nat) (X : Nat → Option zz_C) (rc : Nat → Int32 → Int32 → Int32 → cS → kO) (x1 : Int32) (x2 : Int32) (x3 : Int32) (t : cS) : kO := if x1 ≤ x3 then cf_91_33 N X x2 t else cf_91_15 N X rc x1 x2 x3 t
theorem cr_91_10 {X : Nat → Option zz_C} {s : mS} {N : Nat} {d : Nat} (hd : 10 ≤ d) {rc : Nat → Int32 → Int32 → Int32 → cS → kO} (hrc0 : ∀ {Q : zz_O → zz_H → Prop} {x1 : Int32} {x2 : Int32} {x3 : Int32} {h : zz_H} {t t' : cS} {o : kY}, kR h t s → rc 0 x1 x2 x3 t = some (t', o) → (∀ h', kR h' t' s → kE o Q h') → zz_J zp_P zt_tf zt_fd X d zm_91 10 [(0, .ref 59), (1, .int x1), (2, .int x2), (3, .int x3)] [] h Q) {Q : zz_O → zz_H → Prop} {x1 : Int32} {x2 : Int32} {x3 : Int32} {h : zz_H} {t t' : cS} {o : kY} (hR : kR h t s) (hf : cf_91_10 N X rc x1 x2 x3 t = some (t', o)) (k : (∀ h', kR h' t' s → kE o Q h')) : zz_J zp_P zt_tf zt_fd X d zm_91 10 [(0, .ref 59), (1, .int x1), (2, .int x2), (3, .int x3)] [] h Q := by
  unfold cf_91_10 at hf
  refine cb_91_10 hR  (fun c {h} hR => ?_) (fun c {h} hR => ?_)
  · rw [if_pos c] at hf
    exact cr_91_33 hd hR hf k
  · rw [if_neg c] at hf
    exact cr_91_15 hd hrc0 hR hf k
def cf_91_L2 (N : Nat) (X : Nat → Option zz_C) : Nat → Nat → Int32 → Int32 → Int32 → cS → kO
  | 0, _, _, _, _, _ => none
  | n + 1, l, x1, x2, x3, t => if l = 0 then cf_91_10 N X (cf_91_L2 N X n) x1 x2 x3 t else none
theorem cr_91_L2 {X : Nat → Option zz_C} {s : mS} {N : Nat} {d : Nat} (hd : 10 ≤ d) : ∀ n : Nat, (∀ {Q : zz_O → zz_H → Prop} {x1 : Int32} {x2 : Int32} {x3 : Int32} {h : zz_H} {t t' : cS} {o : kY}, kR h t s → cf_91_L2 N X n 0 x1 x2 x3 t = some (t', o) → (∀ h', kR h' t' s → kE o Q h') → zz_J zp_P zt_tf zt_fd X d zm_91 10 [(0, .ref 59), (1, .int x1), (2, .int x2), (3, .int x3)] [] h Q) := by
  intro n
  induction n with
  | zero => exact (fun _ hf _ => by cases hf)
  | succ n ih =>
    have h0 := @ih
    intro Q _ _ _ h t t' o hR hf k
    unfold cf_91_L2 at hf
    rw [if_pos rfl] at hf
    exact cr_91_10 hd h0 hR hf k
def cf_91_7 (N : Nat) (X : Nat → Option zz_C) (x1 : Int32) (y0 : Int32) (t : cS) : kO := cf_91_L2 N X N 0 x1 y0 0 t
theorem cr_91_7 {X : Nat → Option zz_C} {s : mS} {N : Nat} {d : Nat} (hd : 10 ≤ d) {Q : zz_O → zz_H → Prop} {x1 : Int32} {y0 : Int32} {h : zz_H} {t t' : cS} {o : kY} (hR : kR h t s) (hf : cf_91_7 N X x1 y0 t = some (t', o)) (k : (∀ h', kR h' t' s → kE o Q h')) : zz_J zp_P zt_tf zt_fd X d zm_91 7 [(0, .ref 59), (1, .int x1)] [.int y0] h Q := by
  unfold cf_91_7 at hf
  exact cb_91_7 hR  (fun hR => cr_91_L2 hd N hR hf k)
def cf_91_0 (N : Nat) (X : Nat → Option zz_C) (x1 : Int32) (t : cS) : kO := ko_call 2 (cf_122 N X  t) (fun g1 v1 => co_i v1 (fun y => cf_91_7 N X x1 y g1))
theorem cr_91_0 {X : Nat → Option zz_C} {s : mS} {N : Nat} {d : Nat} (hd : 10 ≤ d) {Q : zz_O → zz_H → Prop} {x1 : Int32} {h : zz_H} {t t' : cS} {o : kY} (hR : kR h t s) (hf : cf_91_0 N X x1 t = some (t', o)) (k : (∀ h', kR h' t' s → kE o Q h')) : zz_J zp_P zt_tf zt_fd X d zm_91 0 [(0, .ref 59), (1, .int x1)] [] h Q := by
  unfold cf_91_0 at hf
  obtain ⟨d', rfl⟩ : ∃ d', d = d' + 1 := ⟨d - 1, by omega⟩
  refine cb_91_0 hR  (fun {h} hR => ?_)
  rcases ko_call_ok hf with ⟨g1, v1, er, hf⟩ | ⟨g1, er, hq⟩
  · obtain ⟨y, hv, hf2⟩ := co_i_ok hf
    clear hf
    have hf := hf2
    clear hf2
    subst hv
    refine cr_122 (by omega) hR er (fun h hR => ?_)
    exact cr_91_7 hd hR hf k
  · refine cr_122 (by omega) hR er (fun h hR => ?_)
    exact ko_thrown hq hR k
/-- zeros -/
def cf_91 (N : Nat) (X : Nat → Option zz_C) (x1 : Int32) (t : cS) : kO := cf_91_0 N X x1 t
theorem cr_91 {X : Nat → Option zz_C} {s : mS} {N : Nat} {d : Nat} (hd : 10 ≤ d) {Q : zz_O → zz_H → Prop} {x1 : Int32} {h : zz_H} {t t' : cS} {o : kY} (hR : kR h t s) (hf : cf_91 N X x1 t = some (t', o)) (k : ∀ h', kR h' t' s → kE o Q h') : zz_J zp_P zt_tf zt_fd X d zm_91 0 [(0, .ref 59), (1, .int x1)] [] h Q := by
  unfold cf_91 at hf
  exact zz_J.weak (cr_91_0 hd hR hf k) rfl ⟨rfl, rfl, trivial⟩
/-! yX1_rows (J)J -/
theorem cb_93_0 {X : Nat → Option zz_C} {h : zz_H} {t : cS} {s : mS} {d : Nat} {Q : zz_O → zz_H → Prop} {x1 : Int64} (hR : kR h t s) (k : ∀ {h : zz_H}, kR h t s → zz_J zp_P zt_tf zt_fd X d zm_255 0 [(0, .long x1)] [] h (zz_after 1000 Q (fun v h' => zz_J zp_P zt_tf zt_fd X (d + 1) zm_93 4 [(0, .ref 59), (1, .long x1)] (v.toList ++ []) h' Q))) : zz_J zp_P zt_tf zt_fd X (d + 1) zm_93 0 [(0, .ref 59), (1, .long x1)] [] h Q := by
  refine zz_J.n 1 rfl rfl rfl ?_
  refine zz_J.cl (M' := zm_255) 4 rfl rfl (by decide) rfl rfl ⟨rfl, Nat.le_of_ble_eq_true rfl⟩ rfl ?_
  refine zz_J.mono (k hR) ?_
  intro o h' hE
  cases o with
  | inl v => exact zz_J.weak hE rfl ⟨rfl, rfl, trivial⟩
  | inr q => exact hE
theorem cb_93_4 {X : Nat → Option zz_C} {h : zz_H} {t : cS} {s : mS} {d : Nat} {Q : zz_O → zz_H → Prop} {x1 : Int64} {y0 : Int32} (hR : kR h t s) (k1 : y0 = 1 → (∀ {h : zz_H}, kR h t s → zz_J zp_P zt_tf zt_fd X d zm_93 13 [(0, .ref 59), (1, .long x1)] [] h Q)) (k2 : ¬ y0 = 1 → (∀ {h : zz_H}, kR h t s → zz_J zp_P zt_tf zt_fd X d zm_93 8 [] [] h Q)) : zz_J zp_P zt_tf zt_fd X d zm_93 4 [(0, .ref 59), (1, .long x1)] [.int y0] h Q := by
  refine zz_J.c 5 (.int 1) rfl rfl rfl rfl ?_
  refine zz_J.b2 13 8 (A := y0 = 1) rfl rfl (by decide) rfl rfl (fun c => ?_) (fun c => ?_)
  · exact zz_J.weak (k1 c hR) rfl ⟨rfl, rfl, trivial⟩
  · exact zz_J.weak (k2 c hR) rfl trivial
theorem cb_93_8 {X : Nat → Option zz_C} {h : zz_H} {t : cS} {s : mS} {d : Nat} {Q : zz_O → zz_H → Prop}  (hR : kR h t s) (k : ∀ {h : zz_H}, kR h t s → zz_J zp_P zt_tf zt_fd X d zm_254 0 [(0, .int 3)] [] h (zz_after 1000 Q (fun v h' => zz_J zp_P zt_tf zt_fd X (d + 1) zm_93 12 [] (v.toList ++ []) h' Q))) : zz_J zp_P zt_tf zt_fd X (d + 1) zm_93 8 [] [] h Q := by
  refine zz_J.c 9 (.int 3) rfl rfl rfl rfl ?_
  refine zz_J.cl (M' := zm_254) 12 rfl rfl (by decide) rfl rfl ⟨rfl, Nat.le_of_ble_eq_true rfl⟩ rfl ?_
  refine zz_J.mono (k hR) ?_
  intro o h' hE
  cases o with
  | inl v => exact zz_J.weak hE rfl trivial
  | inr q => exact hE
theorem cb_93_12 {X : Nat → Option zz_C} {h : zz_H} {t : cS} {s : mS} {d : Nat} {Q : zz_O → zz_H → Prop} {y0 : Int64} (hR : kR h t s) (k : ∀ {h : zz_H}, kR h t s → Q (.inl (some (.long y0))) h) : zz_J zp_P zt_tf zt_fd X d zm_93 12 [] [.long y0] h Q := by
  refine zz_J.ret rfl rfl rfl ?_
  exact k hR
theorem cb_93_13 {X : Nat → Option zz_C} {h : zz_H} {t : cS} {s : mS} {d : Nat} {Q : zz_O → zz_H → Prop} {x1 : Int64} (hR : kR h t s) (k : ∀ {h : zz_H}, kR h t s → zz_J zp_P zt_tf zt_fd X d zm_128 0 [(0, .ref 42), (1, .long x1)] [] h (zz_after 2 Q (fun v h' => zz_J zp_P zt_tf zt_fd X (d + 1) zm_93 21 [(0, .ref 59), (1, .long x1)] (v.toList ++ []) h' Q))) : zz_J zp_P zt_tf zt_fd X (d + 1) zm_93 13 [(0, .ref 59), (1, .long x1)] [] h Q := by
  refine zz_J.n 14 rfl rfl rfl ?_
  refine zz_J.g 17 rfl (hR.gv (v := .ref 42) ko_59 (by decide) rfl) rfl ?_
  refine zz_J.n 18 rfl rfl rfl ?_
  refine zz_J.cv 21 (as := []) rfl rfl (hR.clO ko_42 (by decide) (by decide)) (by decide) (Nat.le_of_ble_eq_true rfl) (Nat.le_of_ble_eq_true rfl) rfl (Nat.le_of_ble_eq_true rfl) rfl ?_
  refine zz_J.mono (k hR) ?_
  intro o h' hE
  cases o with
  | inl v => exact zz_J.weak hE rfl ⟨rfl, rfl, trivial⟩
  | inr q => exact hE
theorem cb_93_21 {X : Nat → Option zz_C} {h : zz_H} {t : cS} {s : mS} {d : Nat} {Q : zz_O → zz_H → Prop} {x1 : Int64} {y0 : Int32} (hR : kR h t s) (k : ∀ {h : zz_H}, kR h t s → zz_J zp_P zt_tf zt_fd X d zm_93 34 [(0, .ref 59), (1, .long x1), (3, .int y0), (4, .int 0), (5, .int 0), (6, .long 0), (8, .int 0)] [] h Q) : zz_J zp_P zt_tf zt_fd X d zm_93 21 [(0, .ref 59), (1, .long x1)] [.int y0] h Q := by
  refine zz_J.n 22 rfl rfl rfl ?_
  refine zz_J.c 23 (.int 0) rfl rfl rfl rfl ?_
  refine zz_J.n 25 rfl rfl rfl ?_
  refine zz_J.c 26 (.int 0) rfl rfl rfl rfl ?_
  refine zz_J.n 28 rfl rfl rfl ?_
  refine zz_J.c 29 (.long 0) rfl rfl rfl rfl ?_
  refine zz_J.n 31 rfl rfl rfl ?_
  refine zz_J.c 32 (.int 0) rfl rfl rfl rfl ?_
  refine zz_J.n 34 rfl rfl rfl ?_
  exact zz_J.weak (k hR) rfl ⟨rfl, rfl, rfl, rfl, rfl, rfl, rfl, trivial⟩
theorem cb_93_34 {X : Nat → Option zz_C} {h : zz_H} {t : cS} {s : mS} {d : Nat} {Q : zz_O → zz_H → Prop} {x1 : Int64} {x3 : Int32} {x4 : Int32} {x5 : Int32} {x6 : Int64} {x8 : Int32} (hR : kR h t s) (k1 : x3 ≤ x8 → (∀ {h : zz_H}, kR h t s → zz_J zp_P zt_tf zt_fd X d zm_93 88 [(0, .ref 59), (1, .long x1), (3, .int x3), (4, .int x4), (5, .int x5), (6, .long x6)] [] h Q)) (k2 : ¬ x3 ≤ x8 → (∀ {h : zz_H}, kR h t s → zz_J zp_P zt_tf zt_fd X d zm_93 40 [(0, .ref 59), (1, .long x1), (3, .int x3), (4, .int x4), (5, .int x5), (6, .long x6), (8, .int x8)] [] h Q)) : zz_J zp_P zt_tf zt_fd X d zm_93 34 [(0, .ref 59), (1, .long x1), (3, .int x3), (4, .int x4), (5, .int x5), (6, .long x6), (8, .int x8)] [] h Q := by
  refine zz_J.n 36 rfl rfl rfl ?_
  refine zz_J.n 37 rfl rfl rfl ?_
  refine zz_J.b2 88 40 (A := x3 ≤ x8) rfl rfl (by decide) rfl rfl (fun c => ?_) (fun c => ?_)
  · exact zz_J.weak (k1 c hR) rfl ⟨rfl, rfl, rfl, rfl, rfl, rfl, trivial⟩
  · exact zz_J.weak (k2 c hR) rfl ⟨rfl, rfl, rfl, rfl, rfl, rfl, rfl, trivial⟩
theorem cb_93_40 {X : Nat → Option zz_C} {h : zz_H} {t : cS} {s : mS} {d : Nat} {Q : zz_O → zz_H → Prop} {x1 : Int64} {x3 : Int32} {x4 : Int32} {x5 : Int32} {x6 : Int64} {x8 : Int32} (hR : kR h t s) (k : ∀ {h : zz_H}, kR h t s → zz_J zp_P zt_tf zt_fd X d zm_130 0 [(0, .ref 42), (1, .long x1), (3, .int x8)] [] h (zz_after 2 Q (fun v h' => zz_J zp_P zt_tf zt_fd X (d + 1) zm_93 50 [(0, .ref 59), (1, .long x1), (3, .int x3), (4, .int x4), (5, .int x5), (6, .long x6), (8, .int x8)] (v.toList ++ []) h' Q))) : zz_J zp_P zt_tf zt_fd X (d + 1) zm_93 40 [(0, .ref 59), (1, .long x1), (3, .int x3), (4, .int x4), (5, .int x5), (6, .long x6), (8, .int x8)] [] h Q := by
  refine zz_J.n 41 rfl rfl rfl ?_
  refine zz_J.g 44 rfl (hR.gv (v := .ref 42) ko_59 (by decide) rfl) rfl ?_
  refine zz_J.n 45 rfl rfl rfl ?_
  refine zz_J.n 47 rfl rfl rfl ?_
  refine zz_J.cv 50 (as := []) rfl rfl (hR.clO ko_42 (by decide) (by decide)) (by decide) (Nat.le_of_ble_eq_true rfl) (Nat.le_of_ble_eq_true rfl) rfl (Nat.le_of_ble_eq_true rfl) rfl ?_
  refine zz_J.mono (k hR) ?_
  intro o h' hE
  cases o with
  | inl v => exact zz_J.weak hE rfl ⟨rfl, rfl, rfl, rfl, rfl, rfl, rfl, trivial⟩
  | inr q => exact hE
theorem cb_93_50 {X : Nat → Option zz_C} {h : zz_H} {t : cS} {s : mS} {d : Nat} {Q : zz_O → zz_H → Prop} {x1 : Int64} {x3 : Int32} {x4 : Int32} {x5 : Int32} {x6 : Int64} {x8 : Int32} {y0 : Int32} (hR : kR h t s) (k : ∀ {h : zz_H}, kR h t s → zz_J zp_P zt_tf zt_fd X (d + 1) zm_93 34 [(0, .ref 59), (1, .long x1), (3, .int x3), (4, .int (if (x4 : Int32) < y0 then y0 else x4)), (5, .int (if y0 < (x5 : Int32) then y0 else x5)), (6, .long (x6 + (Int32.toInt64 (if (y0 : Int32) < 0 then 0 else y0)))), (8, .int (x8 + 1))] [] h Q) : zz_J zp_P zt_tf zt_fd X (d + 1) zm_93 50 [(0, .ref 59), (1, .long x1), (3, .int x3), (4, .int x4), (5, .int x5), (6, .long x6), (8, .int x8)] [.int y0] h Q := by
  refine zz_J.n 52 rfl rfl rfl ?_
  refine zz_J.n 54 rfl rfl rfl ?_
  refine zz_J.n 56 rfl rfl rfl ?_
  refine zz_J.spec 59 rfl rfl (by decide) rfl rfl rfl ?_
  refine zz_J.n 61 rfl rfl rfl ?_
  refine zz_J.n 63 rfl rfl rfl ?_
  refine zz_J.n 65 rfl rfl rfl ?_
  refine zz_J.spec 68 rfl rfl (by decide) rfl rfl rfl ?_
  refine zz_J.n 70 rfl rfl rfl ?_
  refine zz_J.n 72 rfl rfl rfl ?_
  refine zz_J.n 74 rfl rfl rfl ?_
  refine zz_J.c 75 (.int 0) rfl rfl rfl rfl ?_
  refine zz_J.spec 78 rfl rfl (by decide) rfl rfl rfl ?_
  refine zz_J.n 79 rfl rfl rfl ?_
  refine zz_J.n 80 rfl rfl rfl ?_
  refine zz_J.n 82 rfl rfl rfl ?_
  refine zz_J.n 85 rfl rfl rfl ?_
  refine zz_J.n 34 rfl rfl rfl ?_
  exact zz_J.weak (k hR) rfl ⟨rfl, rfl, rfl, rfl, rfl, rfl, rfl, trivial⟩
theorem cb_93_88 {X : Nat → Option zz_C} {h : zz_H} {t : cS} {s : mS} {d : Nat} {Q : zz_O → zz_H → Prop} {x1 : Int64} {x3 : Int32} {x4 : Int32} {x5 : Int32} {x6 : Int64} (hR : kR h t s) (k1 : 20 < x3 → (∀ {h : zz_H}, kR h t s → zz_J zp_P zt_tf zt_fd X d zm_93 110 [] [] h Q)) (k2 : ¬ 20 < x3 → (∀ {h : zz_H}, kR h t s → zz_J zp_P zt_tf zt_fd X d zm_93 94 [(0, .ref 59), (1, .long x1), (3, .int x3), (4, .int x4), (5, .int x5), (6, .long x6)] [] h Q)) : zz_J zp_P zt_tf zt_fd X d zm_93 88 [(0, .ref 59), (1, .long x1), (3, .int x3), (4, .int x4), (5, .int x5), (6, .long x6)] [] h Q := by
  refine zz_J.n 89 rfl rfl rfl ?_
  refine zz_J.c 91 (.int 20) rfl rfl rfl rfl ?_
  refine zz_J.b2 110 94 (A := 20 < x3) rfl rfl (by decide) rfl rfl (fun c => ?_) (fun c => ?_)
  · exact zz_J.weak (k1 c hR) rfl trivial
  · exact zz_J.weak (k2 c hR) rfl ⟨rfl, rfl, rfl, rfl, rfl, rfl, trivial⟩
theorem cb_93_94 {X : Nat → Option zz_C} {h : zz_H} {t : cS} {s : mS} {d : Nat} {Q : zz_O → zz_H → Prop} {x1 : Int64} {x3 : Int32} {x4 : Int32} {x5 : Int32} {x6 : Int64} (hR : kR h t s) (k1 : 64 < x4 → (∀ {h : zz_H}, kR h t s → zz_J zp_P zt_tf zt_fd X d zm_93 110 [] [] h Q)) (k2 : ¬ 64 < x4 → (∀ {h : zz_H}, kR h t s → zz_J zp_P zt_tf zt_fd X d zm_93 101 [(0, .ref 59), (1, .long x1), (3, .int x3), (5, .int x5), (6, .long x6)] [] h Q)) : zz_J zp_P zt_tf zt_fd X d zm_93 94 [(0, .ref 59), (1, .long x1), (3, .int x3), (4, .int x4), (5, .int x5), (6, .long x6)] [] h Q := by
  refine zz_J.n 96 rfl rfl rfl ?_
  refine zz_J.c 98 (.int 64) rfl rfl rfl rfl ?_
  refine zz_J.b2 110 101 (A := 64 < x4) rfl rfl (by decide) rfl rfl (fun c => ?_) (fun c => ?_)
  · exact zz_J.weak (k1 c hR) rfl trivial
  · exact zz_J.weak (k2 c hR) rfl ⟨rfl, rfl, rfl, rfl, rfl, trivial⟩
theorem cb_93_101 {X : Nat → Option zz_C} {h : zz_H} {t : cS} {s : mS} {d : Nat} {Q : zz_O → zz_H → Prop} {x1 : Int64} {x3 : Int32} {x5 : Int32} {x6 : Int64} (hR : kR h t s) (k1 : (lg_cmp x6 200) ≤ 0 → (∀ {h : zz_H}, kR h t s → zz_J zp_P zt_tf zt_fd X d zm_93 115 [(0, .ref 59), (1, .long x1), (3, .int x3), (5, .int x5)] [] h Q)) (k2 : ¬ (lg_cmp x6 200) ≤ 0 → (∀ {h : zz_H}, kR h t s → zz_J zp_P zt_tf zt_fd X d zm_93 110 [] [] h Q)) : zz_J zp_P zt_tf zt_fd X d zm_93 101 [(0, .ref 59), (1, .long x1), (3, .int x3), (5, .int x5), (6, .long x6)] [] h Q := by
  refine zz_J.n 103 rfl rfl rfl ?_
  refine zz_J.c 106 (.long 200) rfl rfl rfl rfl ?_
  refine zz_J.n 107 rfl rfl rfl ?_
  refine zz_J.b1 115 110 (A := (lg_cmp x6 200) ≤ 0) rfl rfl (by decide) rfl rfl (fun c => ?_) (fun c => ?_)
  · exact zz_J.weak (k1 c hR) rfl ⟨rfl, rfl, rfl, rfl, trivial⟩
  · exact zz_J.weak (k2 c hR) rfl trivial
theorem cb_93_110 {X : Nat → Option zz_C} {h : zz_H} {t : cS} {s : mS} {d : Nat} {Q : zz_O → zz_H → Prop}  (hR : kR h t s) (k : ∀ {h : zz_H}, kR h t s → zz_J zp_P zt_tf zt_fd X d zm_254 0 [(0, .int 2)] [] h (zz_after 1000 Q (fun v h' => zz_J zp_P zt_tf zt_fd X (d + 1) zm_93 114 [] (v.toList ++ []) h' Q))) : zz_J zp_P zt_tf zt_fd X (d + 1) zm_93 110 [] [] h Q := by
  refine zz_J.c 111 (.int 2) rfl rfl rfl rfl ?_
  refine zz_J.cl (M' := zm_254) 114 rfl rfl (by decide) rfl rfl ⟨rfl, Nat.le_of_ble_eq_true rfl⟩ rfl ?_
  refine zz_J.mono (k hR) ?_
  intro o h' hE
  cases o with
  | inl v => exact zz_J.weak hE rfl trivial
  | inr q => exact hE
theorem cb_93_114 {X : Nat → Option zz_C} {h : zz_H} {t : cS} {s : mS} {d : Nat} {Q : zz_O → zz_H → Prop} {y0 : Int64} (hR : kR h t s) (k : ∀ {h : zz_H}, kR h t s → Q (.inl (some (.long y0))) h) : zz_J zp_P zt_tf zt_fd X d zm_93 114 [] [.long y0] h Q := by
  refine zz_J.ret rfl rfl rfl ?_
  exact k hR
theorem cb_93_115 {X : Nat → Option zz_C} {h : zz_H} {t : cS} {s : mS} {d : Nat} {Q : zz_O → zz_H → Prop} {x1 : Int64} {x3 : Int32} {x5 : Int32} (hR : kR h t s) (k1 : 0 ≤ x5 → (∀ {h : zz_H}, kR h t s → zz_J zp_P zt_tf zt_fd X d zm_93 125 [(0, .ref 59), (1, .long x1), (3, .int x3)] [] h Q)) (k2 : ¬ 0 ≤ x5 → (∀ {h : zz_H}, kR h t s → zz_J zp_P zt_tf zt_fd X d zm_93 120 [] [] h Q)) : zz_J zp_P zt_tf zt_fd X d zm_93 115 [(0, .ref 59), (1, .long x1), (3, .int x3), (5, .int x5)] [] h Q := by
  refine zz_J.n 117 rfl rfl rfl ?_
  refine zz_J.b1 125 120 (A := 0 ≤ x5) rfl rfl (by decide) rfl rfl (fun c => ?_) (fun c => ?_)
  · exact zz_J.weak (k1 c hR) rfl ⟨rfl, rfl, rfl, trivial⟩
  · exact zz_J.weak (k2 c hR) rfl trivial
theorem cb_93_120 {X : Nat → Option zz_C} {h : zz_H} {t : cS} {s : mS} {d : Nat} {Q : zz_O → zz_H → Prop}  (hR : kR h t s) (k : ∀ {h : zz_H}, kR h t s → zz_J zp_P zt_tf zt_fd X d zm_254 0 [(0, .int 1)] [] h (zz_after 1000 Q (fun v h' => zz_J zp_P zt_tf zt_fd X (d + 1) zm_93 124 [] (v.toList ++ []) h' Q))) : zz_J zp_P zt_tf zt_fd X (d + 1) zm_93 120 [] [] h Q := by
  refine zz_J.c 121 (.int 1) rfl rfl rfl rfl ?_
  refine zz_J.cl (M' := zm_254) 124 rfl rfl (by decide) rfl rfl ⟨rfl, Nat.le_of_ble_eq_true rfl⟩ rfl ?_
  refine zz_J.mono (k hR) ?_
  intro o h' hE
  cases o with
  | inl v => exact zz_J.weak hE rfl trivial
  | inr q => exact hE
theorem cb_93_124 {X : Nat → Option zz_C} {h : zz_H} {t : cS} {s : mS} {d : Nat} {Q : zz_O → zz_H → Prop} {y0 : Int64} (hR : kR h t s) (k : ∀ {h : zz_H}, kR h t s → Q (.inl (some (.long y0))) h) : zz_J zp_P zt_tf zt_fd X d zm_93 124 [] [.long y0] h Q := by
  refine zz_J.ret rfl rfl rfl ?_
  exact k hR
theorem cb_93_125 {X : Nat → Option zz_C} {h : zz_H} {t : cS} {s : mS} {d : Nat} {Q : zz_O → zz_H → Prop} {x1 : Int64} {x3 : Int32} (hR : kR h t s) (k : ∀ {h : zz_H}, kR h t s → zz_J zp_P zt_tf zt_fd X d zm_122 0 [(0, .ref 42)] [] h (zz_after 2 Q (fun v h' => zz_J zp_P zt_tf zt_fd X (d + 1) zm_93 132 [(0, .ref 59), (1, .long x1), (3, .int x3)] (v.toList ++ []) h' Q))) : zz_J zp_P zt_tf zt_fd X (d + 1) zm_93 125 [(0, .ref 59), (1, .long x1), (3, .int x3)] [] h Q := by
  refine zz_J.n 126 rfl rfl rfl ?_
  refine zz_J.g 129 rfl (hR.gv (v := .ref 42) ko_59 (by decide) rfl) rfl ?_
  refine zz_J.cv 132 (as := []) rfl rfl (hR.clO ko_42 (by decide) (by decide)) (by decide) (Nat.le_of_ble_eq_true rfl) (Nat.le_of_ble_eq_true rfl) rfl (Nat.le_of_ble_eq_true rfl) rfl ?_
  refine zz_J.mono (k hR) ?_
  intro o h' hE
  cases o with
  | inl v => exact zz_J.weak hE rfl ⟨rfl, rfl, rfl, trivial⟩
  | inr q => exact hE
theorem cb_93_132 {X : Nat → Option zz_C} {h : zz_H} {t : cS} {s : mS} {d : Nat} {Q : zz_O → zz_H → Prop} {x1 : Int64} {x3 : Int32} {y0 : Int32} (hR : kR h t s) (k : ∀ {h : zz_H}, kR h t s → zz_J zp_P zt_tf zt_fd X d zm_93 137 [(0, .ref 59), (1, .long x1), (3, .int x3), (8, .int y0), (9, .int 0)] [] h Q) : zz_J zp_P zt_tf zt_fd X d zm_93 132 [(0, .ref 59), (1, .long x1), (3, .int x3)] [.int y0] h Q := by
  refine zz_J.n 134 rfl rfl rfl ?_
  refine zz_J.c 135 (.int 0) rfl rfl rfl rfl ?_
  refine zz_J.n 137 rfl rfl rfl ?_
  exact zz_J.weak (k hR) rfl ⟨rfl, rfl, rfl, rfl, rfl, trivial⟩
theorem cb_93_137 {X : Nat → Option zz_C} {h : zz_H} {t : cS} {s : mS} {d : Nat} {Q : zz_O → zz_H → Prop} {x1 : Int64} {x3 : Int32} {x8 : Int32} {x9 : Int32} (hR : kR h t s) (k1 : x3 ≤ x9 → (∀ {h : zz_H}, kR h t s → zz_J zp_P zt_tf zt_fd X d zm_93 170 [(0, .ref 59), (8, .int x8)] [] h Q)) (k2 : ¬ x3 ≤ x9 → (∀ {h : zz_H}, kR h t s → zz_J zp_P zt_tf zt_fd X d zm_93 143 [(0, .ref 59), (1, .long x1), (3, .int x3), (8, .int x8), (9, .int x9)] [] h Q)) : zz_J zp_P zt_tf zt_fd X d zm_93 137 [(0, .ref 59), (1, .long x1), (3, .int x3), (8, .int x8), (9, .int x9)] [] h Q := by
  refine zz_J.n 139 rfl rfl rfl ?_
  refine zz_J.n 140 rfl rfl rfl ?_
  refine zz_J.b2 170 143 (A := x3 ≤ x9) rfl rfl (by decide) rfl rfl (fun c => ?_) (fun c => ?_)
  · exact zz_J.weak (k1 c hR) rfl ⟨rfl, rfl, trivial⟩
  · exact zz_J.weak (k2 c hR) rfl ⟨rfl, rfl, rfl, rfl, rfl, trivial⟩
theorem cb_93_143 {X : Nat → Option zz_C} {h : zz_H} {t : cS} {s : mS} {d : Nat} {Q : zz_O → zz_H → Prop} {x1 : Int64} {x3 : Int32} {x8 : Int32} {x9 : Int32} (hR : kR h t s) (k : ∀ {h : zz_H}, kR h t s → zz_J zp_P zt_tf zt_fd X d zm_130 0 [(0, .ref 42), (1, .long x1), (3, .int x9)] [] h (zz_after 2 Q (fun v h' => zz_J zp_P zt_tf zt_fd X (d + 1) zm_93 158 [(0, .ref 59), (1, .long x1), (3, .int x3), (8, .int x8), (9, .int x9)] (v.toList ++ [.ref 59, .ref 42]) h' Q))) : zz_J zp_P zt_tf zt_fd X (d + 1) zm_93 143 [(0, .ref 59), (1, .long x1), (3, .int x3), (8, .int x8), (9, .int x9)] [] h Q := by
  refine zz_J.n 144 rfl rfl rfl ?_
  refine zz_J.g 147 rfl (hR.gv (v := .ref 42) ko_59 (by decide) rfl) rfl ?_
  refine zz_J.n 148 rfl rfl rfl ?_
  refine zz_J.n 149 rfl rfl rfl ?_
  refine zz_J.g 152 rfl (hR.gv (v := .ref 42) ko_59 (by decide) rfl) rfl ?_
  refine zz_J.n 153 rfl rfl rfl ?_
  refine zz_J.n 155 rfl rfl rfl ?_
  refine zz_J.cv 158 (as := [.ref 59, .ref 42]) rfl rfl (hR.clO ko_42 (by decide) (by decide)) (by decide) (Nat.le_of_ble_eq_true rfl) (Nat.le_of_ble_eq_true rfl) rfl (Nat.le_of_ble_eq_true rfl) rfl ?_
  refine zz_J.mono (k hR) ?_
  intro o h' hE
  cases o with
  | inl v => exact zz_J.weak hE rfl ⟨rfl, rfl, rfl, rfl, rfl, trivial⟩
  | inr q => exact hE
theorem cb_93_158 {X : Nat → Option zz_C} {h : zz_H} {t : cS} {s : mS} {d : Nat} {Q : zz_O → zz_H → Prop} {x1 : Int64} {x3 : Int32} {x8 : Int32} {x9 : Int32} {y2 : Int32} (hR : kR h t s) (k : ∀ {h : zz_H}, kR h t s → zz_J zp_P zt_tf zt_fd X d zm_91 0 [(0, .ref 59), (1, .int y2)] [] h (zz_after 1 Q (fun v h' => zz_J zp_P zt_tf zt_fd X (d + 1) zm_93 161 [(0, .ref 59), (1, .long x1), (3, .int x3), (8, .int x8), (9, .int x9)] (v.toList ++ [.ref 42]) h' Q))) : zz_J zp_P zt_tf zt_fd X (d + 1) zm_93 158 [(0, .ref 59), (1, .long x1), (3, .int x3), (8, .int x8), (9, .int x9)] [.int y2, .ref 59, .ref 42] h Q := by
  refine zz_J.cv 161 (as := [.ref 42]) rfl rfl (hR.clO ko_59 (by decide) (by decide)) (by decide) (Nat.le_of_ble_eq_true rfl) (Nat.le_of_ble_eq_true rfl) rfl (Nat.le_of_ble_eq_true rfl) rfl ?_
  refine zz_J.mono (k hR) ?_
  intro o h' hE
  cases o with
  | inl v => exact zz_J.weak hE rfl ⟨rfl, rfl, rfl, rfl, rfl, trivial⟩
  | inr q => exact hE
theorem cb_93_161 {X : Nat → Option zz_C} {h : zz_H} {t : cS} {s : mS} {d : Nat} {Q : zz_O → zz_H → Prop} {x1 : Int64} {x3 : Int32} {x8 : Int32} {x9 : Int32} {y1 : Int64} (hR : kR h t s) (k : ∀ {h : zz_H}, kR h t s → zz_J zp_P zt_tf zt_fd X d zm_123 0 [(0, .ref 42), (1, .long y1)] [] h (zz_after 2 Q (fun v h' => zz_J zp_P zt_tf zt_fd X (d + 1) zm_93 164 [(0, .ref 59), (1, .long x1), (3, .int x3), (8, .int x8), (9, .int x9)] (v.toList ++ []) h' Q))) : zz_J zp_P zt_tf zt_fd X (d + 1) zm_93 161 [(0, .ref 59), (1, .long x1), (3, .int x3), (8, .int x8), (9, .int x9)] [.long y1, .ref 42] h Q := by
  refine zz_J.cv 164 (as := []) rfl rfl (hR.clO ko_42 (by decide) (by decide)) (by decide) (Nat.le_of_ble_eq_true rfl) (Nat.le_of_ble_eq_true rfl) rfl (Nat.le_of_ble_eq_true rfl) rfl ?_
  refine zz_J.mono (k hR) ?_
  intro o h' hE
  cases o with
  | inl v => exact zz_J.weak hE rfl ⟨rfl, rfl, rfl, rfl, rfl, trivial⟩
  | inr q => exact hE
theorem cb_93_164 {X : Nat → Option zz_C} {h : zz_H} {t : cS} {s : mS} {d : Nat} {Q : zz_O → zz_H → Prop} {x1 : Int64} {x3 : Int32} {x8 : Int32} {x9 : Int32} (hR : kR h t s) (k : ∀ {h : zz_H}, kR h t s → zz_J zp_P zt_tf zt_fd X d zm_93 137 [(0, .ref 59), (1, .long x1), (3, .int x3), (8, .int x8), (9, .int (x9 + 1))] [] h Q) : zz_J zp_P zt_tf zt_fd X d zm_93 164 [(0, .ref 59), (1, .long x1), (3, .int x3), (8, .int x8), (9, .int x9)] [] h Q := by
  refine zz_J.n 167 rfl rfl rfl ?_
  refine zz_J.n 137 rfl rfl rfl ?_
  exact zz_J.weak (k hR) rfl ⟨rfl, rfl, rfl, rfl, rfl, trivial⟩
theorem cb_93_170 {X : Nat → Option zz_C} {h : zz_H} {t : cS} {s : mS} {d : Nat} {Q : zz_O → zz_H → Prop} {x8 : Int32} (hR : kR h t s) (k : ∀ {h : zz_H}, kR h t s → zz_J zp_P zt_tf zt_fd X d zm_126 0 [(0, .ref 42), (1, .int 2), (2, .int x8)] [] h (zz_after 2 Q (fun v h' => zz_J zp_P zt_tf zt_fd X (d + 1) zm_93 180 [] (v.toList ++ []) h' Q))) : zz_J zp_P zt_tf zt_fd X (d + 1) zm_93 170 [(0, .ref 59), (8, .int x8)] [] h Q := by
  refine zz_J.n 171 rfl rfl rfl ?_
  refine zz_J.g 174 rfl (hR.gv (v := .ref 42) ko_59 (by decide) rfl) rfl ?_
  refine zz_J.c 175 (.int 2) rfl rfl rfl rfl ?_
  refine zz_J.n 177 rfl rfl rfl ?_
  refine zz_J.cv 180 (as := []) rfl rfl (hR.clO ko_42 (by decide) (by decide)) (by decide) (Nat.le_of_ble_eq_true rfl) (Nat.le_of_ble_eq_true rfl) rfl (Nat.le_of_ble_eq_true rfl) rfl ?_
  refine zz_J.mono (k hR) ?_
  intro o h' hE
  cases o with
  | inl v => exact zz_J.weak hE rfl trivial
  | inr q => exact hE
theorem cb_93_180 {X : Nat → Option zz_C} {h : zz_H} {t : cS} {s : mS} {d : Nat} {Q : zz_O → zz_H → Prop} {y0 : Int64} (hR : kR h t s) (k : ∀ {h : zz_H}, kR h t s → Q (.inl (some (.long y0))) h) : zz_J zp_P zt_tf zt_fd X d zm_93 180 [] [.long y0] h Q := by
  refine zz_J.ret rfl rfl rfl ?_
  exact k hR
def cf_93_114 (N : Nat) (X : Nat → Option zz_C) (y0 : Int64) (t : cS) : kO := some (t, .inl (some (.long y0)))
theorem cr_93_114 {X : Nat → Option zz_C} {s : mS} {N : Nat} {d : Nat} (hd : 11 ≤ d) {Q : zz_O → zz_H → Prop} {y0 : Int64} {h : zz_H} {t t' : cS} {o : kY} (hR : kR h t s) (hf : cf_93_114 N X y0 t = some (t', o)) (k : (∀ h', kR h' t' s → kE o Q h')) : zz_J zp_P zt_tf zt_fd X d zm_93 114 [] [.long y0] h Q := by
  unfold cf_93_114 at hf
  cases hf
  exact cb_93_114 hR  (fun {h} hR => k h hR)
def cf_93_110 (N : Nat) (X : Nat → Option zz_C)  (t : cS) : kO := ko_call 1000 (cf_254 N X 2 t) (fun g1 v1 => co_l v1 (fun y => cf_93_114 N X y g1))
theorem cr_93_110 {X : Nat → Option zz_C} {s : mS} {N : Nat} {d : Nat} (hd : 11 ≤ d) {Q : zz_O → zz_H → Prop}  {h : zz_H} {t t' : cS} {o : kY} (hR : kR h t s) (hf : cf_93_110 N X  t = some (t', o)) (k : (∀ h', kR h' t' s → kE o Q h')) : zz_J zp_P zt_tf zt_fd X d zm_93 110 [] [] h Q := by
  unfold cf_93_110 at hf
  obtain ⟨d', rfl⟩ : ∃ d', d = d' + 1 := ⟨d - 1, by omega⟩
  refine cb_93_110 hR  (fun {h} hR => ?_)
  rcases ko_call_ok hf with ⟨g1, v1, er, hf⟩ | ⟨g1, er, hq⟩
  · obtain ⟨y, hv, hf2⟩ := co_l_ok hf
    clear hf
    have hf := hf2
    clear hf2
    subst hv
    refine cr_254 (by omega) hR er (fun h hR => ?_)
    exact cr_93_114 hd hR hf k
  · refine cr_254 (by omega) hR er (fun h hR => ?_)
    exact ko_thrown hq hR k
def cf_93_180 (N : Nat) (X : Nat → Option zz_C) (y0 : Int64) (t : cS) : kO := some (t, .inl (some (.long y0)))
theorem cr_93_180 {X : Nat → Option zz_C} {s : mS} {N : Nat} {d : Nat} (hd : 11 ≤ d) {Q : zz_O → zz_H → Prop} {y0 : Int64} {h : zz_H} {t t' : cS} {o : kY} (hR : kR h t s) (hf : cf_93_180 N X y0 t = some (t', o)) (k : (∀ h', kR h' t' s → kE o Q h')) : zz_J zp_P zt_tf zt_fd X d zm_93 180 [] [.long y0] h Q := by
  unfold cf_93_180 at hf
  cases hf
  exact cb_93_180 hR  (fun {h} hR => k h hR)
def cf_93_170 (N : Nat) (X : Nat → Option zz_C) (x8 : Int32) (t : cS) : kO := ko_call 2 (cf_126 N X 2 x8 t) (fun g1 v1 => co_l v1 (fun y => cf_93_180 N X y g1))
theorem cr_93_170 {X : Nat → Option zz_C} {s : mS} {N : Nat} {d : Nat} (hd : 11 ≤ d) {Q : zz_O → zz_H → Prop} {x8 : Int32} {h : zz_H} {t t' : cS} {o : kY} (hR : kR h t s) (hf : cf_93_170 N X x8 t = some (t', o)) (k : (∀ h', kR h' t' s → kE o Q h')) : zz_J zp_P zt_tf zt_fd X d zm_93 170 [(0, .ref 59), (8, .int x8)] [] h Q := by
  unfold cf_93_170 at hf
  obtain ⟨d', rfl⟩ : ∃ d', d = d' + 1 := ⟨d - 1, by omega⟩
  refine cb_93_170 hR  (fun {h} hR => ?_)
  rcases ko_call_ok hf with ⟨g1, v1, er, hf⟩ | ⟨g1, er, hq⟩
  · obtain ⟨y, hv, hf2⟩ := co_l_ok hf
    clear hf
    have hf := hf2
    clear hf2
    subst hv
    refine cr_126 (by omega) hR er (fun h hR => ?_)
    exact cr_93_180 hd hR hf k
  · refine cr_126 (by omega) hR er (fun h hR => ?_)
    exact ko_thrown hq hR k
def cf_93_164 (N : Nat) (X : Nat → Option zz_C) (rc : Nat → Int64 → Int32 → Int32 → Int32 → cS → kO) (x1 : Int64) (x3 : Int32) (x8 : Int32) (x9 : Int32) (t : cS) : kO := rc 0 x1 x3 x8 (x9 + 1) t
theorem cr_93_164 {X : Nat → Option zz_C} {s : mS} {N : Nat} {d : Nat} (hd : 11 ≤ d) {rc : Nat → Int64 → Int32 → Int32 → Int32 → cS → kO} (hrc0 : ∀ {Q : zz_O → zz_H → Prop} {x1 : Int64} {x3 : Int32} {x8 : Int32} {x9 : Int32} {h : zz_H} {t t' : cS} {o : kY}, kR h t s → rc 0 x1 x3 x8 x9 t = some (t', o) → (∀ h', kR h' t' s → kE o Q h') → zz_J zp_P zt_tf zt_fd X d zm_93 137 [(0, .ref 59), (1, .long x1), (3, .int x3), (8, .int x8), (9, .int x9)] [] h Q) {Q : zz_O → zz_H → Prop} {x1 : Int64} {x3 : Int32} {x8 : Int32} {x9 : Int32} {h : zz_H} {t t' : cS} {o : kY} (hR : kR h t s) (hf : cf_93_164 N X rc x1 x3 x8 x9 t = some (t', o)) (k : (∀ h', kR h' t' s → kE o Q h')) : zz_J zp_P zt_tf zt_fd X d zm_93 164 [(0, .ref 59), (1, .long x1), (3, .int x3), (8, .int x8), (9, .int x9)] [] h Q := by
  unfold cf_93_164 at hf
  exact cb_93_164 hR  (fun hR => hrc0 hR hf k)
def cf_93_161 (N : Nat) (X : Nat → Option zz_C) (rc : Nat → Int64 → Int32 → Int32 → Int32 → cS → kO) (x1 : Int64) (x3 : Int32) (x8 : Int32) (x9 : Int32) (y1 : Int64) (t : cS) : kO := ko_call 2 (cf_123 N X y1 t) (fun g1 v1 => co_v v1 (cf_93_164 N X rc x1 x3 x8 x9 g1))
theorem cr_93_161 {X : Nat → Option zz_C} {s : mS} {N : Nat} {d : Nat} (hd : 11 ≤ d) {rc : Nat → Int64 → Int32 → Int32 → Int32 → cS → kO} (hrc0 : ∀ {Q : zz_O → zz_H → Prop} {x1 : Int64} {x3 : Int32} {x8 : Int32} {x9 : Int32} {h : zz_H} {t t' : cS} {o : kY}, kR h t s → rc 0 x1 x3 x8 x9 t = some (t', o) → (∀ h', kR h' t' s → kE o Q h') → zz_J zp_P zt_tf zt_fd X d zm_93 137 [(0, .ref 59), (1, .long x1), (3, .int x3), (8, .int x8), (9, .int x9)] [] h Q) {Q : zz_O → zz_H → Prop} {x1 : Int64} {x3 : Int32} {x8 : Int32} {x9 : Int32} {y1 : Int64} {h : zz_H} {t t' : cS} {o : kY} (hR : kR h t s) (hf : cf_93_161 N X rc x1 x3 x8 x9 y1 t = some (t', o)) (k : (∀ h', kR h' t' s → kE o Q h')) : zz_J zp_P zt_tf zt_fd X d zm_93 161 [(0, .ref 59), (1, .long x1), (3, .int x3), (8, .int x8), (9, .int x9)] [.long y1, .ref 42] h Q := by
  unfold cf_93_161 at hf
  obtain ⟨d', rfl⟩ : ∃ d', d = d' + 1 := ⟨d - 1, by omega⟩
  refine cb_93_161 hR  (fun {h} hR => ?_)
  rcases ko_call_ok hf with ⟨g1, v1, er, hf⟩ | ⟨g1, er, hq⟩
  · obtain ⟨hv, hf2⟩ := co_v_ok hf
    clear hf
    have hf := hf2
    clear hf2
    subst hv
    refine cr_123 (by omega) hR er (fun h hR => ?_)
    exact cr_93_164 hd hrc0 hR hf k
  · refine cr_123 (by omega) hR er (fun h hR => ?_)
    exact ko_thrown hq hR k
def cf_93_158 (N : Nat) (X : Nat → Option zz_C) (rc : Nat → Int64 → Int32 → Int32 → Int32 → cS → kO) (x1 : Int64) (x3 : Int32) (x8 : Int32) (x9 : Int32) (y2 : Int32) (t : cS) : kO := ko_call 1 (cf_91 N X y2 t) (fun g1 v1 => co_l v1 (fun y => cf_93_161 N X rc x1 x3 x8 x9 y g1))
theorem cr_93_158 {X : Nat → Option zz_C} {s : mS} {N : Nat} {d : Nat} (hd : 11 ≤ d) {rc : Nat → Int64 → Int32 → Int32 → Int32 → cS → kO} (hrc0 : ∀ {Q : zz_O → zz_H → Prop} {x1 : Int64} {x3 : Int32} {x8 : Int32} {x9 : Int32} {h : zz_H} {t t' : cS} {o : kY}, kR h t s → rc 0 x1 x3 x8 x9 t = some (t', o) → (∀ h', kR h' t' s → kE o Q h') → zz_J zp_P zt_tf zt_fd X d zm_93 137 [(0, .ref 59), (1, .long x1), (3, .int x3), (8, .int x8), (9, .int x9)] [] h Q) {Q : zz_O → zz_H → Prop} {x1 : Int64} {x3 : Int32} {x8 : Int32} {x9 : Int32} {y2 : Int32} {h : zz_H} {t t' : cS} {o : kY} (hR : kR h t s) (hf : cf_93_158 N X rc x1 x3 x8 x9 y2 t = some (t', o)) (k : (∀ h', kR h' t' s → kE o Q h')) : zz_J zp_P zt_tf zt_fd X d zm_93 158 [(0, .ref 59), (1, .long x1), (3, .int x3), (8, .int x8), (9, .int x9)] [.int y2, .ref 59, .ref 42] h Q := by
  unfold cf_93_158 at hf
  obtain ⟨d', rfl⟩ : ∃ d', d = d' + 1 := ⟨d - 1, by omega⟩
  refine cb_93_158 hR  (fun {h} hR => ?_)
  rcases ko_call_ok hf with ⟨g1, v1, er, hf⟩ | ⟨g1, er, hq⟩
  · obtain ⟨y, hv, hf2⟩ := co_l_ok hf
    clear hf
    have hf := hf2
    clear hf2
    subst hv
    refine cr_91 (by omega) hR er (fun h hR => ?_)
    exact cr_93_161 hd hrc0 hR hf k
  · refine cr_91 (by omega) hR er (fun h hR => ?_)
    exact ko_thrown hq hR k
def cf_93_143 (N : Nat) (X : Nat → Option zz_C) (rc : Nat → Int64 → Int32 → Int32 → Int32 → cS → kO) (x1 : Int64) (x3 : Int32) (x8 : Int32) (x9 : Int32) (t : cS) : kO := ko_call 2 (cf_130 N X x1 x9 t) (fun g1 v1 => co_i v1 (fun y => cf_93_158 N X rc x1 x3 x8 x9 y g1))
theorem cr_93_143 {X : Nat → Option zz_C} {s : mS} {N : Nat} {d : Nat} (hd : 11 ≤ d) {rc : Nat → Int64 → Int32 → Int32 → Int32 → cS → kO} (hrc0 : ∀ {Q : zz_O → zz_H → Prop} {x1 : Int64} {x3 : Int32} {x8 : Int32} {x9 : Int32} {h : zz_H} {t t' : cS} {o : kY}, kR h t s → rc 0 x1 x3 x8 x9 t = some (t', o) → (∀ h', kR h' t' s → kE o Q h') → zz_J zp_P zt_tf zt_fd X d zm_93 137 [(0, .ref 59), (1, .long x1), (3, .int x3), (8, .int x8), (9, .int x9)] [] h Q) {Q : zz_O → zz_H → Prop} {x1 : Int64} {x3 : Int32} {x8 : Int32} {x9 : Int32} {h : zz_H} {t t' : cS} {o : kY} (hR : kR h t s) (hf : cf_93_143 N X rc x1 x3 x8 x9 t = some (t', o)) (k : (∀ h', kR h' t' s → kE o Q h')) : zz_J zp_P zt_tf zt_fd X d zm_93 143 [(0, .ref 59), (1, .long x1), (3, .int x3), (8, .int x8), (9, .int x9)] [] h Q := by
  unfold cf_93_143 at hf
  obtain ⟨d', rfl⟩ : ∃ d', d = d' + 1 := ⟨d - 1, by omega⟩
  refine cb_93_143 hR  (fun {h} hR => ?_)
  rcases ko_call_ok hf with ⟨g1, v1, er, hf⟩ | ⟨g1, er, hq⟩
  · obtain ⟨y, hv, hf2⟩ := co_i_ok hf
    clear hf
    have hf := hf2
    clear hf2
    subst hv
    refine cr_130 (by omega) hR er (fun h hR => ?_)
    exact cr_93_158 hd hrc0 hR hf k
  · refine cr_130 (by omega) hR er (fun h hR => ?_)
    exact ko_thrown hq hR k
def cf_93_137 (N : Nat) (X : Nat → Option zz_C) (rc : Nat → Int64 → Int32 → Int32 → Int32 → cS → kO) (x1 : Int64) (x3 : Int32) (x8 : Int32) (x9 : Int32) (t : cS) : kO := if x3 ≤ x9 then cf_93_170 N X x8 t else cf_93_143 N X rc x1 x3 x8 x9 t
theorem cr_93_137 {X : Nat → Option zz_C} {s : mS} {N : Nat} {d : Nat} (hd : 11 ≤ d) {rc : Nat → Int64 → Int32 → Int32 → Int32 → cS → kO} (hrc0 : ∀ {Q : zz_O → zz_H → Prop} {x1 : Int64} {x3 : Int32} {x8 : Int32} {x9 : Int32} {h : zz_H} {t t' : cS} {o : kY}, kR h t s → rc 0 x1 x3 x8 x9 t = some (t', o) → (∀ h', kR h' t' s → kE o Q h') → zz_J zp_P zt_tf zt_fd X d zm_93 137 [(0, .ref 59), (1, .long x1), (3, .int x3), (8, .int x8), (9, .int x9)] [] h Q) {Q : zz_O → zz_H → Prop} {x1 : Int64} {x3 : Int32} {x8 : Int32} {x9 : Int32} {h : zz_H} {t t' : cS} {o : kY} (hR : kR h t s) (hf : cf_93_137 N X rc x1 x3 x8 x9 t = some (t', o)) (k : (∀ h', kR h' t' s → kE o Q h')) : zz_J zp_P zt_tf zt_fd X d zm_93 137 [(0, .ref 59), (1, .long x1), (3, .int x3), (8, .int x8), (9, .int x9)] [] h Q := by
  unfold cf_93_137 at hf
  refine cb_93_137 hR  (fun c {h} hR => ?_) (fun c {h} hR => ?_)
  · rw [if_pos c] at hf
    exact cr_93_170 hd hR hf k
  · rw [if_neg c] at hf
    exact cr_93_143 hd hrc0 hR hf k
def cf_93_L4 (N : Nat) (X : Nat → Option zz_C) : Nat → Nat → Int64 → Int32 → Int32 → Int32 → cS → kO
  | 0, _, _, _, _, _, _ => none
  | n + 1, l, x1, x3, x8, x9, t => if l = 0 then cf_93_137 N X (cf_93_L4 N X n) x1 x3 x8 x9 t else none
theorem cr_93_L4 {X : Nat → Option zz_C} {s : mS} {N : Nat} {d : Nat} (hd : 11 ≤ d) : ∀ n : Nat, (∀ {Q : zz_O → zz_H → Prop} {x1 : Int64} {x3 : Int32} {x8 : Int32} {x9 : Int32} {h : zz_H} {t t' : cS} {o : kY}, kR h t s → cf_93_L4 N X n 0 x1 x3 x8 x9 t = some (t', o) → (∀ h', kR h' t' s → kE o Q h') → zz_J zp_P zt_tf zt_fd X d zm_93 137 [(0, .ref 59), (1, .long x1), (3, .int x3), (8, .int x8), (9, .int x9)] [] h Q) := by
  intro n
  induction n with
  | zero => exact (fun _ hf _ => by cases hf)
  | succ n ih =>
    have h0 := @ih
    intro Q _ _ _ _ h t t' o hR hf k
    unfold cf_93_L4 at hf
    rw [if_pos rfl] at hf
    exact cr_93_137 hd h0 hR hf k
def cf_93_132 (N : Nat) (X : Nat → Option zz_C) (x1 : Int64) (x3 : Int32) (y0 : Int32) (t : cS) : kO := cf_93_L4 N X N 0 x1 x3 y0 0 t
theorem cr_93_132 {X : Nat → Option zz_C} {s : mS} {N : Nat} {d : Nat} (hd : 11 ≤ d) {Q : zz_O → zz_H → Prop} {x1 : Int64} {x3 : Int32} {y0 : Int32} {h : zz_H} {t t' : cS} {o : kY} (hR : kR h t s) (hf : cf_93_132 N X x1 x3 y0 t = some (t', o)) (k : (∀ h', kR h' t' s → kE o Q h')) : zz_J zp_P zt_tf zt_fd X d zm_93 132 [(0, .ref 59), (1, .long x1), (3, .int x3)] [.int y0] h Q := by
  unfold cf_93_132 at hf
  exact cb_93_132 hR  (fun hR => cr_93_L4 hd N hR hf k)
def cf_93_125 (N : Nat) (X : Nat → Option zz_C) (x1 : Int64) (x3 : Int32) (t : cS) : kO := ko_call 2 (cf_122 N X  t) (fun g1 v1 => co_i v1 (fun y => cf_93_132 N X x1 x3 y g1))
theorem cr_93_125 {X : Nat → Option zz_C} {s : mS} {N : Nat} {d : Nat} (hd : 11 ≤ d) {Q : zz_O → zz_H → Prop} {x1 : Int64} {x3 : Int32} {h : zz_H} {t t' : cS} {o : kY} (hR : kR h t s) (hf : cf_93_125 N X x1 x3 t = some (t', o)) (k : (∀ h', kR h' t' s → kE o Q h')) : zz_J zp_P zt_tf zt_fd X d zm_93 125 [(0, .ref 59), (1, .long x1), (3, .int x3)] [] h Q := by
  unfold cf_93_125 at hf
  obtain ⟨d', rfl⟩ : ∃ d', d = d' + 1 := ⟨d - 1, by omega⟩
  refine cb_93_125 hR  (fun {h} hR => ?_)
  rcases ko_call_ok hf with ⟨g1, v1, er, hf⟩ | ⟨g1, er, hq⟩
  · obtain ⟨y, hv, hf2⟩ := co_i_ok hf
    clear hf
    have hf := hf2
    clear hf2
    subst hv
    refine cr_122 (by omega) hR er (fun h hR => ?_)
    exact cr_93_132 hd hR hf k
  · refine cr_122 (by omega) hR er (fun h hR => ?_)
    exact ko_thrown hq hR k
def cf_93_124 (N : Nat) (X : Nat → Option zz_C) (y0 : Int64) (t : cS) : kO := some (t, .inl (some (.long y0)))
theorem cr_93_124 {X : Nat → Option zz_C} {s : mS} {N : Nat} {d : Nat} (hd : 11 ≤ d) {Q : zz_O → zz_H → Prop} {y0 : Int64} {h : zz_H} {t t' : cS} {o : kY} (hR : kR h t s) (hf : cf_93_124 N X y0 t = some (t', o)) (k : (∀ h', kR h' t' s → kE o Q h')) : zz_J zp_P zt_tf zt_fd X d zm_93 124 [] [.long y0] h Q := by
  unfold cf_93_124 at hf
  cases hf
  exact cb_93_124 hR  (fun {h} hR => k h hR)
def cf_93_120 (N : Nat) (X : Nat → Option zz_C)  (t : cS) : kO := ko_call 1000 (cf_254 N X 1 t) (fun g1 v1 => co_l v1 (fun y => cf_93_124 N X y g1))
theorem cr_93_120 {X : Nat → Option zz_C} {s : mS} {N : Nat} {d : Nat} (hd : 11 ≤ d) {Q : zz_O → zz_H → Prop}  {h : zz_H} {t t' : cS} {o : kY} (hR : kR h t s) (hf : cf_93_120 N X  t = some (t', o)) (k : (∀ h', kR h' t' s → kE o Q h')) : zz_J zp_P zt_tf zt_fd X d zm_93 120 [] [] h Q := by
  unfold cf_93_120 at hf
  obtain ⟨d', rfl⟩ : ∃ d', d = d' + 1 := ⟨d - 1, by omega⟩
  refine cb_93_120 hR  (fun {h} hR => ?_)
  rcases ko_call_ok hf with ⟨g1, v1, er, hf⟩ | ⟨g1, er, hq⟩
  · obtain ⟨y, hv, hf2⟩ := co_l_ok hf
    clear hf
    have hf := hf2
    clear hf2
    subst hv
    refine cr_254 (by omega) hR er (fun h hR => ?_)
    exact cr_93_124 hd hR hf k
  · refine cr_254 (by omega) hR er (fun h hR => ?_)
    exact ko_thrown hq hR k
def cf_93_115 (N : Nat) (X : Nat → Option zz_C) (x1 : Int64) (x3 : Int32) (x5 : Int32) (t : cS) : kO := if 0 ≤ x5 then cf_93_125 N X x1 x3 t else cf_93_120 N X  t
theorem cr_93_115 {X : Nat → Option zz_C} {s : mS} {N : Nat} {d : Nat} (hd : 11 ≤ d) {Q : zz_O → zz_H → Prop} {x1 : Int64} {x3 : Int32} {x5 : Int32} {h : zz_H} {t t' : cS} {o : kY} (hR : kR h t s) (hf : cf_93_115 N X x1 x3 x5 t = some (t', o)) (k : (∀ h', kR h' t' s → kE o Q h')) : zz_J zp_P zt_tf zt_fd X d zm_93 115 [(0, .ref 59), (1, .long x1), (3, .int x3), (5, .int x5)] [] h Q := by
  unfold cf_93_115 at hf
  refine cb_93_115 hR  (fun c {h} hR => ?_) (fun c {h} hR => ?_)
  · rw [if_pos c] at hf
    exact cr_93_125 hd hR hf k
  · rw [if_neg c] at hf
    exact cr_93_120 hd hR hf k
def cf_93_101 (N : Nat) (X : Nat → Option zz_C) (x1 : Int64) (x3 : Int32) (x5 : Int32) (x6 : Int64) (t : cS) : kO := if (lg_cmp x6 200) ≤ 0 then cf_93_115 N X x1 x3 x5 t else cf_93_110 N X  t
theorem cr_93_101 {X : Nat → Option zz_C} {s : mS} {N : Nat} {d : Nat} (hd : 11 ≤ d) {Q : zz_O → zz_H → Prop} {x1 : Int64} {x3 : Int32} {x5 : Int32} {x6 : Int64} {h : zz_H} {t t' : cS} {o : kY} (hR : kR h t s) (hf : cf_93_101 N X x1 x3 x5 x6 t = some (t', o)) (k : (∀ h', kR h' t' s → kE o Q h')) : zz_J zp_P zt_tf zt_fd X d zm_93 101 [(0, .ref 59), (1, .long x1), (3, .int x3), (5, .int x5), (6, .long x6)] [] h Q := by
  unfold cf_93_101 at hf
  refine cb_93_101 hR  (fun c {h} hR => ?_) (fun c {h} hR => ?_)
  · rw [if_pos c] at hf
    exact cr_93_115 hd hR hf k
  · rw [if_neg c] at hf
    exact cr_93_110 hd hR hf k
def cf_93_94 (N : Nat) (X : Nat → Option zz_C) (x1 : Int64) (x3 : Int32) (x4 : Int32) (x5 : Int32) (x6 : Int64) (t : cS) : kO := if 64 < x4 then cf_93_110 N X  t else cf_93_101 N X x1 x3 x5 x6 t
theorem cr_93_94 {X : Nat → Option zz_C} {s : mS} {N : Nat} {d : Nat} (hd : 11 ≤ d) {Q : zz_O → zz_H → Prop} {x1 : Int64} {x3 : Int32} {x4 : Int32} {x5 : Int32} {x6 : Int64} {h : zz_H} {t t' : cS} {o : kY} (hR : kR h t s) (hf : cf_93_94 N X x1 x3 x4 x5 x6 t = some (t', o)) (k : (∀ h', kR h' t' s → kE o Q h')) : zz_J zp_P zt_tf zt_fd X d zm_93 94 [(0, .ref 59), (1, .long x1), (3, .int x3), (4, .int x4), (5, .int x5), (6, .long x6)] [] h Q := by
  unfold cf_93_94 at hf
  refine cb_93_94 hR  (fun c {h} hR => ?_) (fun c {h} hR => ?_)
  · rw [if_pos c] at hf
    exact cr_93_110 hd hR hf k
  · rw [if_neg c] at hf
    exact cr_93_101 hd hR hf k
def cf_93_88 (N : Nat) (X : Nat → Option zz_C) (x1 : Int64) (x3 : Int32) (x4 : Int32) (x5 : Int32) (x6 : Int64) (t : cS) : kO := if 20 < x3 then cf_93_110 N X  t else cf_93_94 N X x1 x3 x4 x5 x6 t
theorem cr_93_88 {X : Nat → Option zz_C} {s : mS} {N : Nat} {d : Nat} (hd : 11 ≤ d) {Q : zz_O → zz_H → Prop} {x1 : Int64} {x3 : Int32} {x4 : Int32} {x5 : Int32} {x6 : Int64} {h : zz_H} {t t' : cS} {o : kY} (hR : kR h t s) (hf : cf_93_88 N X x1 x3 x4 x5 x6 t = some (t', o)) (k : (∀ h', kR h' t' s → kE o Q h')) : zz_J zp_P zt_tf zt_fd X d zm_93 88 [(0, .ref 59), (1, .long x1), (3, .int x3), (4, .int x4), (5, .int x5), (6, .long x6)] [] h Q := by
  unfold cf_93_88 at hf
  refine cb_93_88 hR  (fun c {h} hR => ?_) (fun c {h} hR => ?_)
  · rw [if_pos c] at hf
    exact cr_93_110 hd hR hf k
  · rw [if_neg c] at hf
    exact cr_93_94 hd hR hf k
def cf_93_50 (N : Nat) (X : Nat → Option zz_C) (rc : Nat → Int64 → Int32 → Int32 → Int32 → Int64 → Int32 → cS → kO) (x1 : Int64) (x3 : Int32) (x4 : Int32) (x5 : Int32) (x6 : Int64) (x8 : Int32) (y0 : Int32) (t : cS) : kO := rc 0 x1 x3 (if (x4 : Int32) < y0 then y0 else x4) (if y0 < (x5 : Int32) then y0 else x5) (x6 + (Int32.toInt64 (if (y0 : Int32) < 0 then 0 else y0))) (x8 + 1) t
theorem cr_93_50 {X : Nat → Option zz_C} {s : mS} {N : Nat} {d : Nat} (hd : 11 ≤ d) {rc : Nat → Int64 → Int32 → Int32 → Int32 → Int64 → Int32 → cS → kO} (hrc0 : ∀ {Q : zz_O → zz_H → Prop} {x1 : Int64} {x3 : Int32} {x4 : Int32} {x5 : Int32} {x6 : Int64} {x8 : Int32} {h : zz_H} {t t' : cS} {o : kY}, kR h t s → rc 0 x1 x3 x4 x5 x6 x8 t = some (t', o) → (∀ h', kR h' t' s → kE o Q h') → zz_J zp_P zt_tf zt_fd X d zm_93 34 [(0, .ref 59), (1, .long x1), (3, .int x3), (4, .int x4), (5, .int x5), (6, .long x6), (8, .int x8)] [] h Q) {Q : zz_O → zz_H → Prop} {x1 : Int64} {x3 : Int32} {x4 : Int32} {x5 : Int32} {x6 : Int64} {x8 : Int32} {y0 : Int32} {h : zz_H} {t t' : cS} {o : kY} (hR : kR h t s) (hf : cf_93_50 N X rc x1 x3 x4 x5 x6 x8 y0 t = some (t', o)) (k : (∀ h', kR h' t' s → kE o Q h')) : zz_J zp_P zt_tf zt_fd X d zm_93 50 [(0, .ref 59), (1, .long x1), (3, .int x3), (4, .int x4), (5, .int x5), (6, .long x6), (8, .int x8)] [.int y0] h Q := by
  unfold cf_93_50 at hf
  obtain ⟨d', rfl⟩ : ∃ d', d = d' + 1 := ⟨d - 1, by omega⟩
  exact cb_93_50 hR  (fun hR => hrc0 hR hf k)
def cf_93_40 (N : Nat) (X : Nat → Option zz_C) (rc : Nat → Int64 → Int32 → Int32 → Int32 → Int64 → Int32 → cS → kO) (x1 : Int64) (x3 : Int32) (x4 : Int32) (x5 : Int32) (x6 : Int64) (x8 : Int32) (t : cS) : kO := ko_call 2 (cf_130 N X x1 x8 t) (fun g1 v1 => co_i v1 (fun y => cf_93_50 N X rc x1 x3 x4 x5 x6 x8 y g1))
theorem cr_93_40 {X : Nat → Option zz_C} {s : mS} {N : Nat} {d : Nat} (hd : 11 ≤ d) {rc : Nat → Int64 → Int32 → Int32 → Int32 → Int64 → Int32 → cS → kO} (hrc0 : ∀ {Q : zz_O → zz_H → Prop} {x1 : Int64} {x3 : Int32} {x4 : Int32} {x5 : Int32} {x6 : Int64} {x8 : Int32} {h : zz_H} {t t' : cS} {o : kY}, kR h t s → rc 0 x1 x3 x4 x5 x6 x8 t = some (t', o) → (∀ h', kR h' t' s → kE o Q h') → zz_J zp_P zt_tf zt_fd X d zm_93 34 [(0, .ref 59), (1, .long x1), (3, .int x3), (4, .int x4), (5, .int x5), (6, .long x6), (8, .int x8)] [] h Q) {Q : zz_O → zz_H → Prop} {x1 : Int64} {x3 : Int32} {x4 : Int32} {x5 : Int32} {x6 : Int64} {x8 : Int32} {h : zz_H} {t t' : cS} {o : kY} (hR : kR h t s) (hf : cf_93_40 N X rc x1 x3 x4 x5 x6 x8 t = some (t', o)) (k : (∀ h', kR h' t' s → kE o Q h')) : zz_J zp_P zt_tf zt_fd X d zm_93 40 [(0, .ref 59), (1, .long x1), (3, .int x3), (4, .int x4), (5, .int x5), (6, .long x6), (8, .int x8)] [] h Q := by
  unfold cf_93_40 at hf
  obtain ⟨d', rfl⟩ : ∃ d', d = d' + 1 := ⟨d - 1, by omega⟩
  refine cb_93_40 hR  (fun {h} hR => ?_)
  rcases ko_call_ok hf with ⟨g1, v1, er, hf⟩ | ⟨g1, er, hq⟩
  · obtain ⟨y, hv, hf2⟩ := co_i_ok hf
    clear hf
    have hf := hf2
    clear hf2
    subst hv
    refine cr_130 (by omega) hR er (fun h hR => ?_)
    exact cr_93_50 hd hrc0 hR hf k
  · refine cr_130 (by omega) hR er (fun h hR => ?_)
    exact ko_thrown hq hR k
def cf_93_34 (N : Nat) (X : Nat → Option zz_C) (rc : Nat → Int64 → Int32 → Int32 → Int32 → Int64 → Int32 → cS → kO) (x1 : Int64) (x3 : Int32) (x4 : Int32) (x5 : Int32) (x6 : Int64) (x8 : Int32) (t : cS) : kO := if x3 ≤ x8 then cf_93_88 N X x1 x3 x4 x5 x6 t else cf_93_40 N X rc x1 x3 x4 x5 x6 x8 t
theorem cr_93_34 {X : Nat → Option zz_C} {s : mS} {N : Nat} {d : Nat} (hd : 11 ≤ d) {rc : Nat → Int64 → Int32 → Int32 → Int32 → Int64 → Int32 → cS → kO} (hrc0 : ∀ {Q : zz_O → zz_H → Prop} {x1 : Int64} {x3 : Int32} {x4 : Int32} {x5 : Int32} {x6 : Int64} {x8 : Int32} {h : zz_H} {t t' : cS} {o : kY}, kR h t s → rc 0 x1 x3 x4 x5 x6 x8 t = some (t', o) → (∀ h', kR h' t' s → kE o Q h') → zz_J zp_P zt_tf zt_fd X d zm_93 34 [(0, .ref 59), (1, .long x1), (3, .int x3), (4, .int x4), (5, .int x5), (6, .long x6), (8, .int x8)] [] h Q) {Q : zz_O → zz_H → Prop} {x1 : Int64} {x3 : Int32} {x4 : Int32} {x5 : Int32} {x6 : Int64} {x8 : Int32} {h : zz_H} {t t' : cS} {o : kY} (hR : kR h t s) (hf : cf_93_34 N X rc x1 x3 x4 x5 x6 x8 t = some (t', o)) (k : (∀ h', kR h' t' s → kE o Q h')) : zz_J zp_P zt_tf zt_fd X d zm_93 34 [(0, .ref 59), (1, .long x1), (3, .int x3), (4, .int x4), (5, .int x5), (6, .long x6), (8, .int x8)] [] h Q := by
  unfold cf_93_34 at hf
  refine cb_93_34 hR  (fun c {h} hR => ?_) (fun c {h} hR => ?_)
  · rw [if_pos c] at hf
    exact cr_93_88 hd hR hf k
  · rw [if_neg c] at hf
    exact cr_93_40 hd hrc0 hR hf k
def cf_93_L13 (N : Nat) (X : Nat → Option zz_C) : Nat → Nat → Int64 → Int32 → Int32 → Int32 → Int64 → Int32 → cS → kO
  | 0, _, _, _, _, _, _, _, _ => none
  | n + 1, l, x1, x3, x4, x5, x6, x8, t => if l = 0 then cf_93_34 N X (cf_93_L13 N X n) x1 x3 x4 x5 x6 x8 t else none
theorem cr_93_L13 {X : Nat → Option zz_C} {s : mS} {N : Nat} {d : Nat} (hd : 11 ≤ d) : ∀ n : Nat, (∀ {Q : zz_O → zz_H → Prop} {x1 : Int64} {x3 : Int32} {x4 : Int32} {x5 : Int32} {x6 : Int64} {x8 : Int32} {h : zz_H} {t t' : cS} {o : kY}, kR h t s → cf_93_L13 N X n 0 x1 x3 x4 x5 x6 x8 t = some (t', o) → (∀ h', kR h' t' s → kE o Q h') → zz_J zp_P zt_tf zt_fd X d zm_93 34 [(0, .ref 59), (1, .long x1), (3, .int x3), (4, .int x4), (5, .int x5), (6, .long x6), (8, .int x8)] [] h Q) := by
  intro n
  induction n with
  | zero => exact (fun _ hf _ => by cases hf)
  | succ n ih =>
    have h0 := @ih
    intro Q _ _ _ _ _ _ h t t' o hR hf k
    unfold cf_93_L13 at hf
    rw [if_pos rfl] at hf
    exact cr_93_34 hd h0 hR hf k
def cf_93_21 (N : Nat) (X : Nat → Option zz_C) (x1 : Int64) (y0 : Int32) (t : cS) : kO := cf_93_L13 N X N 0 x1 y0 0 0 0 0 t
theorem cr_93_21 {X : Nat → Option zz_C} {s : mS} {N : Nat} {d : Nat} (hd : 11 ≤ d) {Q : zz_O → zz_H → Prop} {x1 : Int64} {y0 : Int32} {h : zz_H} {t t' : cS} {o : kY} (hR : kR h t s) (hf : cf_93_21 N X x1 y0 t = some (t', o)) (k : (∀ h', kR h' t' s → kE o Q h')) : zz_J zp_P zt_tf zt_fd X d zm_93 21 [(0, .ref 59), (1, .long x1)] [.int y0] h Q := by
  unfold cf_93_21 at hf
  exact cb_93_21 hR  (fun hR => cr_93_L13 hd N hR hf k)
def cf_93_13 (N : Nat) (X : Nat → Option zz_C) (x1 : Int64) (t : cS) : kO := ko_call 2 (cf_128 N X x1 t) (fun g1 v1 => co_i v1 (fun y => cf_93_21 N X x1 y g1))
theorem cr_93_13 {X : Nat → Option zz_C} {s : mS} {N : Nat} {d : Nat} (hd : 11 ≤ d) {Q : zz_O → zz_H → Prop} {x1 : Int64} {h : zz_H} {t t' : cS} {o : kY} (hR : kR h t s) (hf : cf_93_13 N X x1 t = some (t', o)) (k : (∀ h', kR h' t' s → kE o Q h')) : zz_J zp_P zt_tf zt_fd X d zm_93 13 [(0, .ref 59), (1, .long x1)] [] h Q := by
  unfold cf_93_13 at hf
  obtain ⟨d', rfl⟩ : ∃ d', d = d' + 1 := ⟨d - 1, by omega⟩
  refine cb_93_13 hR  (fun {h} hR => ?_)
  rcases ko_call_ok hf with ⟨g1, v1, er, hf⟩ | ⟨g1, er, hq⟩
  · obtain ⟨y, hv, hf2⟩ := co_i_ok hf
    clear hf
    have hf := hf2
    clear hf2
    subst hv
    refine cr_128 (by omega) hR er (fun h hR => ?_)
    exact cr_93_21 hd hR hf k
  · refine cr_128 (by omega) hR er (fun h hR => ?_)
    exact ko_thrown hq hR k
def cf_93_12 (N : Nat) (X : Nat → Option zz_C) (y0 : Int64) (t : cS) : kO := some (t, .inl (some (.long y0)))
theorem cr_93_12 {X : Nat → Option zz_C} {s : mS} {N : Nat} {d : Nat} (hd : 11 ≤ d) {Q : zz_O → zz_H → Prop} {y0 : Int64} {h : zz_H} {t t' : cS} {o : kY} (hR : kR h t s) (hf : cf_93_12 N X y0 t = some (t', o)) (k : (∀ h', kR h' t' s → kE o Q h')) : zz_J zp_P zt_tf zt_fd X d zm_93 12 [] [.long y0] h Q := by
  unfold cf_93_12 at hf
  cases hf
  exact cb_93_12 hR  (fun {h} hR => k h hR)
def cf_93_8 (N : Nat) (X : Nat → Option zz_C)  (t : cS) : kO := ko_call 1000 (cf_254 N X 3 t) (fun g1 v1 => co_l v1 (fun y => cf_93_12 N X y g1))
theorem cr_93_8 {X : Nat → Option zz_C} {s : mS} {N : Nat} {d : Nat} (hd : 11 ≤ d) {Q : zz_O → zz_H → Prop}  {h : zz_H} {t t' : cS} {o : kY} (hR : kR h t s) (hf : cf_93_8 N X  t = some (t', o)) (k : (∀ h', kR h' t' s → kE o Q h')) : zz_J zp_P zt_tf zt_fd X d zm_93 8 [] [] h Q := by
  unfold cf_93_8 at hf
  obtain ⟨d', rfl⟩ : ∃ d', d = d' + 1 := ⟨d - 1, by omega⟩
  refine cb_93_8 hR  (fun {h} hR => ?_)
  rcases ko_call_ok hf with ⟨g1, v1, er, hf⟩ | ⟨g1, er, hq⟩
  · obtain ⟨y, hv, hf2⟩ := co_l_ok hf
    clear hf
    have hf := hf2
    clear hf2
    subst hv
    refine cr_254 (by omega) hR er (fun h hR => ?_)
    exact cr_93_12 hd hR hf k
  · refine cr_254 (by omega) hR er (fun h hR => ?_)
    exact ko_thrown hq hR k
def cf_93_4 (N : Nat) (X : Nat → Option zz_C) (x1 : Int64) (y0 : Int32) (t : cS) : kO := if y0 = 1 then cf_93_13 N X x1 t else cf_93_8 N X  t
theorem cr_93_4 {X : Nat → Option zz_C} {s : mS} {N : Nat} {d : Nat} (hd : 11 ≤ d) {Q : zz_O → zz_H → Prop} {x1 : Int64} {y0 : Int32} {h : zz_H} {t t' : cS} {o : kY} (hR : kR h t s) (hf : cf_93_4 N X x1 y0 t = some (t', o)) (k : (∀ h', kR h' t' s → kE o Q h')) : zz_J zp_P zt_tf zt_fd X d zm_93 4 [(0, .ref 59), (1, .long x1)] [.int y0] h Q := by
  unfold cf_93_4 at hf
  refine cb_93_4 hR  (fun c {h} hR => ?_) (fun c {h} hR => ?_)
  · rw [if_pos c] at hf
    exact cr_93_13 hd hR hf k
  · rw [if_neg c] at hf
    exact cr_93_8 hd hR hf k
def cf_93_0 (N : Nat) (X : Nat → Option zz_C) (x1 : Int64) (t : cS) : kO := ko_call 1000 (cf_255 N X x1 t) (fun g1 v1 => co_i v1 (fun y => cf_93_4 N X x1 y g1))
theorem cr_93_0 {X : Nat → Option zz_C} {s : mS} {N : Nat} {d : Nat} (hd : 11 ≤ d) {Q : zz_O → zz_H → Prop} {x1 : Int64} {h : zz_H} {t t' : cS} {o : kY} (hR : kR h t s) (hf : cf_93_0 N X x1 t = some (t', o)) (k : (∀ h', kR h' t' s → kE o Q h')) : zz_J zp_P zt_tf zt_fd X d zm_93 0 [(0, .ref 59), (1, .long x1)] [] h Q := by
  unfold cf_93_0 at hf
  obtain ⟨d', rfl⟩ : ∃ d', d = d' + 1 := ⟨d - 1, by omega⟩
  refine cb_93_0 hR  (fun {h} hR => ?_)
  rcases ko_call_ok hf with ⟨g1, v1, er, hf⟩ | ⟨g1, er, hq⟩
  · obtain ⟨y, hv, hf2⟩ := co_i_ok hf
    clear hf
    have hf := hf2
    clear hf2
    subst hv
    refine cr_255 (by omega) hR er (fun h hR => ?_)
    exact cr_93_4 hd hR hf k
  · refine cr_255 (by omega) hR er (fun h hR => ?_)
    exact ko_thrown hq hR k
/-- rows -/
def cf_93 (N : Nat) (X : Nat → Option zz_C) (x1 : Int64) (t : cS) : kO := cf_93_0 N X x1 t
theorem cr_93 {X : Nat → Option zz_C} {s : mS} {N : Nat} {d : Nat} (hd : 11 ≤ d) {Q : zz_O → zz_H → Prop} {x1 : Int64} {h : zz_H} {t t' : cS} {o : kY} (hR : kR h t s) (hf : cf_93 N X x1 t = some (t', o)) (k : ∀ h', kR h' t' s → kE o Q h') : zz_J zp_P zt_tf zt_fd X d zm_93 0 [(0, .ref 59), (1, .long x1)] [] h Q := by
  unfold cf_93 at hf
  exact zz_J.weak (cr_93_0 hd hR hf k) rfl ⟨rfl, rfl, trivial⟩
/-! yX1_widths (J)J -/
theorem cb_94_0 {X : Nat → Option zz_C} {h : zz_H} {t : cS} {s : mS} {d : Nat} {Q : zz_O → zz_H → Prop} {x1 : Int64} (hR : kR h t s) (k : ∀ {h : zz_H}, kR h t s → zz_J zp_P zt_tf zt_fd X d zm_255 0 [(0, .long x1)] [] h (zz_after 1000 Q (fun v h' => zz_J zp_P zt_tf zt_fd X (d + 1) zm_94 4 [(0, .ref 59), (1, .long x1)] (v.toList ++ []) h' Q))) : zz_J zp_P zt_tf zt_fd X (d + 1) zm_94 0 [(0, .ref 59), (1, .long x1)] [] h Q := by
  refine zz_J.n 1 rfl rfl rfl ?_
  refine zz_J.cl (M' := zm_255) 4 rfl rfl (by decide) rfl rfl ⟨rfl, Nat.le_of_ble_eq_true rfl⟩ rfl ?_
  refine zz_J.mono (k hR) ?_
  intro o h' hE
  cases o with
  | inl v => exact zz_J.weak hE rfl ⟨rfl, rfl, trivial⟩
  | inr q => exact hE
theorem cb_94_4 {X : Nat → Option zz_C} {h : zz_H} {t : cS} {s : mS} {d : Nat} {Q : zz_O → zz_H → Prop} {x1 : Int64} {y0 : Int32} (hR : kR h t s) (k1 : y0 = 2 → (∀ {h : zz_H}, kR h t s → zz_J zp_P zt_tf zt_fd X d zm_94 13 [(0, .ref 59), (1, .long x1)] [] h Q)) (k2 : ¬ y0 = 2 → (∀ {h : zz_H}, kR h t s → zz_J zp_P zt_tf zt_fd X d zm_94 8 [] [] h Q)) : zz_J zp_P zt_tf zt_fd X d zm_94 4 [(0, .ref 59), (1, .long x1)] [.int y0] h Q := by
  refine zz_J.c 5 (.int 2) rfl rfl rfl rfl ?_
  refine zz_J.b2 13 8 (A := y0 = 2) rfl rfl (by decide) rfl rfl (fun c => ?_) (fun c => ?_)
  · exact zz_J.weak (k1 c hR) rfl ⟨rfl, rfl, trivial⟩
  · exact zz_J.weak (k2 c hR) rfl trivial
theorem cb_94_8 {X : Nat → Option zz_C} {h : zz_H} {t : cS} {s : mS} {d : Nat} {Q : zz_O → zz_H → Prop}  (hR : kR h t s) (k : ∀ {h : zz_H}, kR h t s → zz_J zp_P zt_tf zt_fd X d zm_254 0 [(0, .int 3)] [] h (zz_after 1000 Q (fun v h' => zz_J zp_P zt_tf zt_fd X (d + 1) zm_94 12 [] (v.toList ++ []) h' Q))) : zz_J zp_P zt_tf zt_fd X (d + 1) zm_94 8 [] [] h Q := by
  refine zz_J.c 9 (.int 3) rfl rfl rfl rfl ?_
  refine zz_J.cl (M' := zm_254) 12 rfl rfl (by decide) rfl rfl ⟨rfl, Nat.le_of_ble_eq_true rfl⟩ rfl ?_
  refine zz_J.mono (k hR) ?_
  intro o h' hE
  cases o with
  | inl v => exact zz_J.weak hE rfl trivial
  | inr q => exact hE
theorem cb_94_12 {X : Nat → Option zz_C} {h : zz_H} {t : cS} {s : mS} {d : Nat} {Q : zz_O → zz_H → Prop} {y0 : Int64} (hR : kR h t s) (k : ∀ {h : zz_H}, kR h t s → Q (.inl (some (.long y0))) h) : zz_J zp_P zt_tf zt_fd X d zm_94 12 [] [.long y0] h Q := by
  refine zz_J.ret rfl rfl rfl ?_
  exact k hR
theorem cb_94_13 {X : Nat → Option zz_C} {h : zz_H} {t : cS} {s : mS} {d : Nat} {Q : zz_O → zz_H → Prop} {x1 : Int64} (hR : kR h t s) (k : ∀ {h : zz_H}, kR h t s → zz_J zp_P zt_tf zt_fd X d zm_128 0 [(0, .ref 42), (1, .long x1)] [] h (zz_after 2 Q (fun v h' => zz_J zp_P zt_tf zt_fd X (d + 1) zm_94 21 [(0, .ref 59), (1, .long x1)] (v.toList ++ []) h' Q))) : zz_J zp_P zt_tf zt_fd X (d + 1) zm_94 13 [(0, .ref 59), (1, .long x1)] [] h Q := by
  refine zz_J.n 14 rfl rfl rfl ?_
  refine zz_J.g 17 rfl (hR.gv (v := .ref 42) ko_59 (by decide) rfl) rfl ?_
  refine zz_J.n 18 rfl rfl rfl ?_
  refine zz_J.cv 21 (as := []) rfl rfl (hR.clO ko_42 (by decide) (by decide)) (by decide) (Nat.le_of_ble_eq_true rfl) (Nat.le_of_ble_eq_true rfl) rfl (Nat.le_of_ble_eq_true rfl) rfl ?_
  refine zz_J.mono (k hR) ?_
  intro o h' hE
  cases o with
  | inl v => exact zz_J.weak hE rfl ⟨rfl, rfl, trivial⟩
  | inr q => exact hE
theorem cb_94_21 {X : Nat → Option zz_C} {h : zz_H} {t : cS} {s : mS} {d : Nat} {Q : zz_O → zz_H → Prop} {x1 : Int64} {y0 : Int32} (hR : kR h t s) (k : ∀ {h : zz_H}, kR h t s → zz_J zp_P zt_tf zt_fd X d zm_122 0 [(0, .ref 42)] [] h (zz_after 2 Q (fun v h' => zz_J zp_P zt_tf zt_fd X (d + 1) zm_94 29 [(0, .ref 59), (1, .long x1), (3, .int y0)] (v.toList ++ []) h' Q))) : zz_J zp_P zt_tf zt_fd X (d + 1) zm_94 21 [(0, .ref 59), (1, .long x1)] [.int y0] h Q := by
  refine zz_J.n 22 rfl rfl rfl ?_
  refine zz_J.n 23 rfl rfl rfl ?_
  refine zz_J.g 26 rfl (hR.gv (v := .ref 42) ko_59 (by decide) rfl) rfl ?_
  refine zz_J.cv 29 (as := []) rfl rfl (hR.clO ko_42 (by decide) (by decide)) (by decide) (Nat.le_of_ble_eq_true rfl) (Nat.le_of_ble_eq_true rfl) rfl (Nat.le_of_ble_eq_true rfl) rfl ?_
  refine zz_J.mono (k hR) ?_
  intro o h' hE
  cases o with
  | inl v => exact zz_J.weak hE rfl ⟨rfl, rfl, rfl, trivial⟩
  | inr q => exact hE
theorem cb_94_29 {X : Nat → Option zz_C} {h : zz_H} {t : cS} {s : mS} {d : Nat} {Q : zz_O → zz_H → Prop} {x1 : Int64} {x3 : Int32} {y0 : Int32} (hR : kR h t s) (k : ∀ {h : zz_H}, kR h t s → zz_J zp_P zt_tf zt_fd X d zm_94 34 [(0, .ref 59), (1, .long x1), (3, .int x3), (4, .int y0), (5, .int 0)] [] h Q) : zz_J zp_P zt_tf zt_fd X d zm_94 29 [(0, .ref 59), (1, .long x1), (3, .int x3)] [.int y0] h Q := by
  refine zz_J.n 31 rfl rfl rfl ?_
  refine zz_J.c 32 (.int 0) rfl rfl rfl rfl ?_
  refine zz_J.n 34 rfl rfl rfl ?_
  exact zz_J.weak (k hR) rfl ⟨rfl, rfl, rfl, rfl, rfl, trivial⟩
theorem cb_94_34 {X : Nat → Option zz_C} {h : zz_H} {t : cS} {s : mS} {d : Nat} {Q : zz_O → zz_H → Prop} {x1 : Int64} {x3 : Int32} {x4 : Int32} {x5 : Int32} (hR : kR h t s) (k1 : x3 ≤ x5 → (∀ {h : zz_H}, kR h t s → zz_J zp_P zt_tf zt_fd X d zm_94 74 [(0, .ref 59), (4, .int x4)] [] h Q)) (k2 : ¬ x3 ≤ x5 → (∀ {h : zz_H}, kR h t s → zz_J zp_P zt_tf zt_fd X d zm_94 40 [(0, .ref 59), (1, .long x1), (3, .int x3), (4, .int x4), (5, .int x5)] [] h Q)) : zz_J zp_P zt_tf zt_fd X d zm_94 34 [(0, .ref 59), (1, .long x1), (3, .int x3), (4, .int x4), (5, .int x5)] [] h Q := by
  refine zz_J.n 36 rfl rfl rfl ?_
  refine zz_J.n 37 rfl rfl rfl ?_
  refine zz_J.b2 74 40 (A := x3 ≤ x5) rfl rfl (by decide) rfl rfl (fun c => ?_) (fun c => ?_)
  · exact zz_J.weak (k1 c hR) rfl ⟨rfl, rfl, trivial⟩
  · exact zz_J.weak (k2 c hR) rfl ⟨rfl, rfl, rfl, rfl, rfl, trivial⟩
theorem cb_94_40 {X : Nat → Option zz_C} {h : zz_H} {t : cS} {s : mS} {d : Nat} {Q : zz_O → zz_H → Prop} {x1 : Int64} {x3 : Int32} {x4 : Int32} {x5 : Int32} (hR : kR h t s) (k : ∀ {h : zz_H}, kR h t s → zz_J zp_P zt_tf zt_fd X d zm_129 0 [(0, .ref 42), (1, .long x1), (3, .int x5)] [] h (zz_after 2 Q (fun v h' => zz_J zp_P zt_tf zt_fd X (d + 1) zm_94 59 [(0, .ref 59), (1, .long x1), (3, .int x3), (4, .int x4), (5, .int x5)] (v.toList ++ [.ref 42, .int 0, .ref 42]) h' Q))) : zz_J zp_P zt_tf zt_fd X (d + 1) zm_94 40 [(0, .ref 59), (1, .long x1), (3, .int x3), (4, .int x4), (5, .int x5)] [] h Q := by
  refine zz_J.n 41 rfl rfl rfl ?_
  refine zz_J.g 44 rfl (hR.gv (v := .ref 42) ko_59 (by decide) rfl) rfl ?_
  refine zz_J.c 45 (.int 0) rfl rfl rfl rfl ?_
  refine zz_J.n 46 rfl rfl rfl ?_
  refine zz_J.g 49 rfl (hR.gv (v := .ref 42) ko_59 (by decide) rfl) rfl ?_
  refine zz_J.n 50 rfl rfl rfl ?_
  refine zz_J.g 53 rfl (hR.gv (v := .ref 42) ko_59 (by decide) rfl) rfl ?_
  refine zz_J.n 54 rfl rfl rfl ?_
  refine zz_J.n 56 rfl rfl rfl ?_
  refine zz_J.cv 59 (as := [.ref 42, .int 0, .ref 42]) rfl rfl (hR.clO ko_42 (by decide) (by decide)) (by decide) (Nat.le_of_ble_eq_true rfl) (Nat.le_of_ble_eq_true rfl) rfl (Nat.le_of_ble_eq_true rfl) rfl ?_
  refine zz_J.mono (k hR) ?_
  intro o h' hE
  cases o with
  | inl v => exact zz_J.weak hE rfl ⟨rfl, rfl, rfl, rfl, rfl, trivial⟩
  | inr q => exact hE
theorem cb_94_59 {X : Nat → Option zz_C} {h : zz_H} {t : cS} {s : mS} {d : Nat} {Q : zz_O → zz_H → Prop} {x1 : Int64} {x3 : Int32} {x4 : Int32} {x5 : Int32} {y1 : Int32} {y3 : Int64} (hR : kR h t s) (k : ∀ {h : zz_H}, kR h t s → zz_J zp_P zt_tf zt_fd X d zm_128 0 [(0, .ref 42), (1, .long y3)] [] h (zz_after 2 Q (fun v h' => zz_J zp_P zt_tf zt_fd X (d + 1) zm_94 62 [(0, .ref 59), (1, .long x1), (3, .int x3), (4, .int x4), (5, .int x5)] (v.toList ++ [.int y1, .ref 42]) h' Q))) : zz_J zp_P zt_tf zt_fd X (d + 1) zm_94 59 [(0, .ref 59), (1, .long x1), (3, .int x3), (4, .int x4), (5, .int x5)] [.long y3, .ref 42, .int y1, .ref 42] h Q := by
  refine zz_J.cv 62 (as := [.int y1, .ref 42]) rfl rfl (hR.clO ko_42 (by decide) (by decide)) (by decide) (Nat.le_of_ble_eq_true rfl) (Nat.le_of_ble_eq_true rfl) rfl (Nat.le_of_ble_eq_true rfl) rfl ?_
  refine zz_J.mono (k hR) ?_
  intro o h' hE
  cases o with
  | inl v => exact zz_J.weak hE rfl ⟨rfl, rfl, rfl, rfl, rfl, trivial⟩
  | inr q => exact hE
theorem cb_94_62 {X : Nat → Option zz_C} {h : zz_H} {t : cS} {s : mS} {d : Nat} {Q : zz_O → zz_H → Prop} {x1 : Int64} {x3 : Int32} {x4 : Int32} {x5 : Int32} {y1 : Int32} {y2 : Int32} (hR : kR h t s) (k : ∀ {h : zz_H}, kR h t s → zz_J zp_P zt_tf zt_fd X d zm_253 0 [(0, .int y1), (1, .int y2)] [] h (zz_after 1000 Q (fun v h' => zz_J zp_P zt_tf zt_fd X (d + 1) zm_94 65 [(0, .ref 59), (1, .long x1), (3, .int x3), (4, .int x4), (5, .int x5)] (v.toList ++ [.ref 42]) h' Q))) : zz_J zp_P zt_tf zt_fd X (d + 1) zm_94 62 [(0, .ref 59), (1, .long x1), (3, .int x3), (4, .int x4), (5, .int x5)] [.int y2, .int y1, .ref 42] h Q := by
  refine zz_J.cl (M' := zm_253) 65 rfl rfl (by decide) rfl rfl ⟨rfl, Nat.le_of_ble_eq_true rfl⟩ rfl ?_
  refine zz_J.mono (k hR) ?_
  intro o h' hE
  cases o with
  | inl v => exact zz_J.weak hE rfl ⟨rfl, rfl, rfl, rfl, rfl, trivial⟩
  | inr q => exact hE
theorem cb_94_65 {X : Nat → Option zz_C} {h : zz_H} {t : cS} {s : mS} {d : Nat} {Q : zz_O → zz_H → Prop} {x1 : Int64} {x3 : Int32} {x4 : Int32} {x5 : Int32} {y1 : Int64} (hR : kR h t s) (k : ∀ {h : zz_H}, kR h t s → zz_J zp_P zt_tf zt_fd X d zm_123 0 [(0, .ref 42), (1, .long y1)] [] h (zz_after 2 Q (fun v h' => zz_J zp_P zt_tf zt_fd X (d + 1) zm_94 68 [(0, .ref 59), (1, .long x1), (3, .int x3), (4, .int x4), (5, .int x5)] (v.toList ++ []) h' Q))) : zz_J zp_P zt_tf zt_fd X (d + 1) zm_94 65 [(0, .ref 59), (1, .long x1), (3, .int x3), (4, .int x4), (5, .int x5)] [.long y1, .ref 42] h Q := by
  refine zz_J.cv 68 (as := []) rfl rfl (hR.clO ko_42 (by decide) (by decide)) (by decide) (Nat.le_of_ble_eq_true rfl) (Nat.le_of_ble_eq_true rfl) rfl (Nat.le_of_ble_eq_true rfl) rfl ?_
  refine zz_J.mono (k hR) ?_
  intro o h' hE
  cases o with
  | inl v => exact zz_J.weak hE rfl ⟨rfl, rfl, rfl, rfl, rfl, trivial⟩
  | inr q => exact hE
theorem cb_94_68 {X : Nat → Option zz_C} {h : zz_H} {t : cS} {s : mS} {d : Nat} {Q : zz_O → zz_H → Prop} {x1 : Int64} {x3 : Int32} {x4 : Int32} {x5 : Int32} (hR : kR h t s) (k : ∀ {h : zz_H}, kR h t s → zz_J zp_P zt_tf zt_fd X d zm_94 34 [(0, .ref 59), (1, .long x1), (3, .int x3), (4, .int x4), (5, .int (x5 + 1))] [] h Q) : zz_J zp_P zt_tf zt_fd X d zm_94 68 [(0, .ref 59), (1, .long x1), (3, .int x3), (4, .int x4), (5, .int x5)] [] h Q := by
  refine zz_J.n 71 rfl rfl rfl ?_
  refine zz_J.n 34 rfl rfl rfl ?_
  exact zz_J.weak (k hR) rfl ⟨rfl, rfl, rfl, rfl, rfl, trivial⟩
theorem cb_94_74 {X : Nat → Option zz_C} {h : zz_H} {t : cS} {s : mS} {d : Nat} {Q : zz_O → zz_H → Prop} {x4 : Int32} (hR : kR h t s) (k : ∀ {h : zz_H}, kR h t s → zz_J zp_P zt_tf zt_fd X d zm_126 0 [(0, .ref 42), (1, .int 1), (2, .int x4)] [] h (zz_after 2 Q (fun v h' => zz_J zp_P zt_tf zt_fd X (d + 1) zm_94 84 [] (v.toList ++ []) h' Q))) : zz_J zp_P zt_tf zt_fd X (d + 1) zm_94 74 [(0, .ref 59), (4, .int x4)] [] h Q := by
  refine zz_J.n 75 rfl rfl rfl ?_
  refine zz_J.g 78 rfl (hR.gv (v := .ref 42) ko_59 (by decide) rfl) rfl ?_
  refine zz_J.c 79 (.int 1) rfl rfl rfl rfl ?_
  refine zz_J.n 81 rfl rfl rfl ?_
  refine zz_J.cv 84 (as := []) rfl rfl (hR.clO ko_42 (by decide) (by decide)) (by decide) (Nat.le_of_ble_eq_true rfl) (Nat.le_of_ble_eq_true rfl) rfl (Nat.le_of_ble_eq_true rfl) rfl ?_
  refine zz_J.mono (k hR) ?_
  intro o h' hE
  cases o with
  | inl v => exact zz_J.weak hE rfl trivial
  | inr q => exact hE
theorem cb_94_84 {X : Nat → Option zz_C} {h : zz_H} {t : cS} {s : mS} {d : Nat} {Q : zz_O → zz_H → Prop} {y0 : Int64} (hR : kR h t s) (k : ∀ {h : zz_H}, kR h t s → Q (.inl (some (.long y0))) h) : zz_J zp_P zt_tf zt_fd X d zm_94 84 [] [.long y0] h Q := by
  refine zz_J.ret rfl rfl rfl ?_
  exact k hR
def cf_94_84 (N : Nat) (X : Nat → Option zz_C) (y0 : Int64) (t : cS) : kO := some (t, .inl (some (.long y0)))
theorem cr_94_84 {X : Nat → Option zz_C} {s : mS} {N : Nat} {d : Nat} (hd : 10 ≤ d) {Q : zz_O → zz_H → Prop} {y0 : Int64} {h : zz_H} {t t' : cS} {o : kY} (hR : kR h t s) (hf : cf_94_84 N X y0 t = some (t', o)) (k : (∀ h', kR h' t' s → kE o Q h')) : zz_J zp_P zt_tf zt_fd X d zm_94 84 [] [.long y0] h Q := by
  unfold cf_94_84 at hf
  cases hf
  exact cb_94_84 hR  (fun {h} hR => k h hR)
def cf_94_74 (N : Nat) (X : Nat → Option zz_C) (x4 : Int32) (t : cS) : kO := ko_call 2 (cf_126 N X 1 x4 t) (fun g1 v1 => co_l v1 (fun y => cf_94_84 N X y g1))
theorem cr_94_74 {X : Nat → Option zz_C} {s : mS} {N : Nat} {d : Nat} (hd : 10 ≤ d) {Q : zz_O → zz_H → Prop} {x4 : Int32} {h : zz_H} {t t' : cS} {o : kY} (hR : kR h t s) (hf : cf_94_74 N X x4 t = some (t', o)) (k : (∀ h', kR h' t' s → kE o Q h')) : zz_J zp_P zt_tf zt_fd X d zm_94 74 [(0, .ref 59), (4, .int x4)] [] h Q := by
  unfold cf_94_74 at hf
  obtain ⟨d', rfl⟩ : ∃ d', d = d' + 1 := ⟨d - 1, by omega⟩
  refine cb_94_74 hR  (fun {h} hR => ?_)
  rcases ko_call_ok hf with ⟨g1, v1, er, hf⟩ | ⟨g1, er, hq⟩
  · obtain ⟨y, hv, hf2⟩ := co_l_ok hf
    clear hf
    have hf := hf2
    clear hf2
    subst hv
    refine cr_126 (by omega) hR er (fun h hR => ?_)
    exact cr_94_84 hd hR hf k
  · refine cr_126 (by omega) hR er (fun h hR => ?_)
    exact ko_thrown hq hR k
def cf_94_68 (N : Nat) (X : Nat → Option zz_C) (rc : Nat → Int64 → Int32 → Int32 → Int32 → cS → kO) (x1 : Int64) (x3 : Int32) (x4 : Int32) (x5 : Int32) (t : cS) : kO := rc 0 x1 x3 x4 (x5 + 1) t
theorem cr_94_68 {X : Nat → Option zz_C} {s : mS} {N : Nat} {d : Nat} (hd : 10 ≤ d) {rc : Nat → Int64 → Int32 → Int32 → Int32 → cS → kO} (hrc0 : ∀ {Q : zz_O → zz_H → Prop} {x1 : Int64} {x3 : Int32} {x4 : Int32} {x5 : Int32} {h : zz_H} {t t' : cS} {o : kY}, kR h t s → rc 0 x1 x3 x4 x5 t = some (t', o) → (∀ h', kR h' t' s → kE o Q h') → zz_J zp_P zt_tf zt_fd X d zm_94 34 [(0, .ref 59), (1, .long x1), (3, .int x3), (4, .int x4), (5, .int x5)] [] h Q) {Q : zz_O → zz_H → Prop} {x1 : Int64} {x3 : Int32} {x4 : Int32} {x5 : Int32} {h : zz_H} {t t' : cS} {o : kY} (hR : kR h t s) (hf : cf_94_68 N X rc x1 x3 x4 x5 t = some (t', o)) (k : (∀ h', kR h' t' s → kE o Q h')) : zz_J zp_P zt_tf zt_fd X d zm_94 68 [(0, .ref 59), (1, .long x1), (3, .int x3), (4, .int x4), (5, .int x5)] [] h Q := by
  unfold cf_94_68 at hf
  exact cb_94_68 hR  (fun hR => hrc0 hR hf k)
def cf_94_65 (N : Nat) (X : Nat → Option zz_C) (rc : Nat → Int64 → Int32 → Int32 → Int32 → cS → kO) (x1 : Int64) (x3 : Int32) (x4 : Int32) (x5 : Int32) (y1 : Int64) (t : cS) : kO := ko_call 2 (cf_123 N X y1 t) (fun g1 v1 => co_v v1 (cf_94_68 N X rc x1 x3 x4 x5 g1))
theorem cr_94_65 {X : Nat → Option zz_C} {s : mS} {N : Nat} {d : Nat} (hd : 10 ≤ d) {rc : Nat → Int64 → Int32 → Int32 → Int32 → cS → kO} (hrc0 : ∀ {Q : zz_O → zz_H → Prop} {x1 : Int64} {x3 : Int32} {x4 : Int32} {x5 : Int32} {h : zz_H} {t t' : cS} {o : kY}, kR h t s → rc 0 x1 x3 x4 x5 t = some (t', o) → (∀ h', kR h' t' s → kE o Q h') → zz_J zp_P zt_tf zt_fd X d zm_94 34 [(0, .ref 59), (1, .long x1), (3, .int x3), (4, .int x4), (5, .int x5)] [] h Q) {Q : zz_O → zz_H → Prop} {x1 : Int64} {x3 : Int32} {x4 : Int32} {x5 : Int32} {y1 : Int64} {h : zz_H} {t t' : cS} {o : kY} (hR : kR h t s) (hf : cf_94_65 N X rc x1 x3 x4 x5 y1 t = some (t', o)) (k : (∀ h', kR h' t' s → kE o Q h')) : zz_J zp_P zt_tf zt_fd X d zm_94 65 [(0, .ref 59), (1, .long x1), (3, .int x3), (4, .int x4), (5, .int x5)] [.long y1, .ref 42] h Q := by
  unfold cf_94_65 at hf
  obtain ⟨d', rfl⟩ : ∃ d', d = d' + 1 := ⟨d - 1, by omega⟩
  refine cb_94_65 hR  (fun {h} hR => ?_)
  rcases ko_call_ok hf with ⟨g1, v1, er, hf⟩ | ⟨g1, er, hq⟩
  · obtain ⟨hv, hf2⟩ := co_v_ok hf
    clear hf
    have hf := hf2
    clear hf2
    subst hv
    refine cr_123 (by omega) hR er (fun h hR => ?_)
    exact cr_94_68 hd hrc0 hR hf k
  · refine cr_123 (by omega) hR er (fun h hR => ?_)
    exact ko_thrown hq hR k
def cf_94_62 (N : Nat) (X : Nat → Option zz_C) (rc : Nat → Int64 → Int32 → Int32 → Int32 → cS → kO) (x1 : Int64) (x3 : Int32) (x4 : Int32) (x5 : Int32) (y1 : Int32) (y2 : Int32) (t : cS) : kO := ko_call 1000 (cf_253 N X y1 y2 t) (fun g1 v1 => co_l v1 (fun y => cf_94_65 N X rc x1 x3 x4 x5 y g1))
theorem cr_94_62 {X : Nat → Option zz_C} {s : mS} {N : Nat} {d : Nat} (hd : 10 ≤ d) {rc : Nat → Int64 → Int32 → Int32 → Int32 → cS → kO} (hrc0 : ∀ {Q : zz_O → zz_H → Prop} {x1 : Int64} {x3 : Int32} {x4 : Int32} {x5 : Int32} {h : zz_H} {t t' : cS} {o : kY}, kR h t s → rc 0 x1 x3 x4 x5 t = some (t', o) → (∀ h', kR h' t' s → kE o Q h') → zz_J zp_P zt_tf zt_fd X d zm_94 34 [(0, .ref 59), (1, .long x1), (3, .int x3), (4, .int x4), (5, .int x5)] [] h Q) {Q : zz_O → zz_H → Prop} {x1 : Int64} {x3 : Int32} {x4 : Int32} {x5 : Int32} {y1 : Int32} {y2 : Int32} {h : zz_H} {t t' : cS} {o : kY} (hR : kR h t s) (hf : cf_94_62 N X rc x1 x3 x4 x5 y1 y2 t = some (t', o)) (k : (∀ h', kR h' t' s → kE o Q h')) : zz_J zp_P zt_tf zt_fd X d zm_94 62 [(0, .ref 59), (1, .long x1), (3, .int x3), (4, .int x4), (5, .int x5)] [.int y2, .int y1, .ref 42] h Q := by
  unfold cf_94_62 at hf
  obtain ⟨d', rfl⟩ : ∃ d', d = d' + 1 := ⟨d - 1, by omega⟩
  refine cb_94_62 hR  (fun {h} hR => ?_)
  rcases ko_call_ok hf with ⟨g1, v1, er, hf⟩ | ⟨g1, er, hq⟩
  · obtain ⟨y, hv, hf2⟩ := co_l_ok hf
    clear hf
    have hf := hf2
    clear hf2
    subst hv
    refine cr_253 (by omega) hR er (fun h hR => ?_)
    exact cr_94_65 hd hrc0 hR hf k
  · refine cr_253 (by omega) hR er (fun h hR => ?_)
    exact ko_thrown hq hR k
def cf_94_59 (N : Nat) (X : Nat → Option zz_C) (rc : Nat → Int64 → Int32 → Int32 → Int32 → cS → kO) (x1 : Int64) (x3 : Int32) (x4 : Int32) (x5 : Int32) (y1 : Int32) (y3 : Int64) (t : cS) : kO := ko_call 2 (cf_128 N X y3 t) (fun g1 v1 => co_i v1 (fun y => cf_94_62 N X rc x1 x3 x4 x5 y1 y g1))
theorem cr_94_59 {X : Nat → Option zz_C} {s : mS} {N : Nat} {d : Nat} (hd : 10 ≤ d) {rc : Nat → Int64 → Int32 → Int32 → Int32 → cS → kO} (hrc0 : ∀ {Q : zz_O → zz_H → Prop} {x1 : Int64} {x3 : Int32} {x4 : Int32} {x5 : Int32} {h : zz_H} {t t' : cS} {o : kY}, kR h t s → rc 0 x1 x3 x4 x5 t = some (t', o) → (∀ h', kR h' t' s → kE o Q h') → zz_J zp_P zt_tf zt_fd X d zm_94 34 [(0, .ref 59), (1, .long x1), (3, .int x3), (4, .int x4), (5, .int x5)] [] h Q) {Q : zz_O → zz_H → Prop} {x1 : Int64} {x3 : Int32} {x4 : Int32} {x5 : Int32} {y1 : Int32} {y3 : Int64} {h : zz_H} {t t' : cS} {o : kY} (hR : kR h t s) (hf : cf_94_59 N X rc x1 x3 x4 x5 y1 y3 t = some (t', o)) (k : (∀ h', kR h' t' s → kE o Q h')) : zz_J zp_P zt_tf zt_fd X d zm_94 59 [(0, .ref 59), (1, .long x1), (3, .int x3), (4, .int x4), (5, .int x5)] [.long y3, .ref 42, .int y1, .ref 42] h Q := by
  unfold cf_94_59 at hf
  obtain ⟨d', rfl⟩ : ∃ d', d = d' + 1 := ⟨d - 1, by omega⟩
  refine cb_94_59 hR  (fun {h} hR => ?_)
  rcases ko_call_ok hf with ⟨g1, v1, er, hf⟩ | ⟨g1, er, hq⟩
  · obtain ⟨y, hv, hf2⟩ := co_i_ok hf
    clear hf
    have hf := hf2
    clear hf2
    subst hv
    refine cr_128 (by omega) hR er (fun h hR => ?_)
    exact cr_94_62 hd hrc0 hR hf k
  · refine cr_128 (by omega) hR er (fun h hR => ?_)
    exact ko_thrown hq hR k
def cf_94_40 (N : Nat) (X : Nat → Option zz_C) (rc : Nat → Int64 → Int32 → Int32 → Int32 → cS → kO) (x1 : Int64) (x3 : Int32) (x4 : Int32) (x5 : Int32) (t : cS) : kO := ko_call 2 (cf_129 N X x1 x5 t) (fun g1 v1 => co_l v1 (fun y => cf_94_59 N X rc x1 x3 x4 x5 0 y g1))
theorem cr_94_40 {X : Nat → Option zz_C} {s : mS} {N : Nat} {d : Nat} (hd : 10 ≤ d) {rc : Nat → Int64 → Int32 → Int32 → Int32 → cS → kO} (hrc0 : ∀ {Q : zz_O → zz_H → Prop} {x1 : Int64} {x3 : Int32} {x4 : Int32} {x5 : Int32} {h : zz_H} {t t' : cS} {o : kY}, kR h t s → rc 0 x1 x3 x4 x5 t = some (t', o) → (∀ h', kR h' t' s → kE o Q h') → zz_J zp_P zt_tf zt_fd X d zm_94 34 [(0, .ref 59), (1, .long x1), (3, .int x3), (4, .int x4), (5, .int x5)] [] h Q) {Q : zz_O → zz_H → Prop} {x1 : Int64} {x3 : Int32} {x4 : Int32} {x5 : Int32} {h : zz_H} {t t' : cS} {o : kY} (hR : kR h t s) (hf : cf_94_40 N X rc x1 x3 x4 x5 t = some (t', o)) (k : (∀ h', kR h' t' s → kE o Q h')) : zz_J zp_P zt_tf zt_fd X d zm_94 40 [(0, .ref 59), (1, .long x1), (3, .int x3), (4, .int x4), (5, .int x5)] [] h Q := by
  unfold cf_94_40 at hf
  obtain ⟨d', rfl⟩ : ∃ d', d = d' + 1 := ⟨d - 1, by omega⟩
  refine cb_94_40 hR  (fun {h} hR => ?_)
  rcases ko_call_ok hf with ⟨g1, v1, er, hf⟩ | ⟨g1, er, hq⟩
  · obtain ⟨y, hv, hf2⟩ := co_l_ok hf
    clear hf
    have hf := hf2
    clear hf2
    subst hv
    refine cr_129 (by omega) hR er (fun h hR => ?_)
    exact cr_94_59 hd hrc0 hR hf k
  · refine cr_129 (by omega) hR er (fun h hR => ?_)
    exact ko_thrown hq hR k
def cf_94_34 (N : Nat) (X : Nat → Option zz_C) (rc : Nat → Int64 → Int32 → Int32 → Int32 → cS → kO) (x1 : Int64) (x3 : Int32) (x4 : Int32) (x5 : Int32) (t : cS) : kO := if x3 ≤ x5 then cf_94_74 N X x4 t else cf_94_40 N X rc x1 x3 x4 x5 t
theorem cr_94_34 {X : Nat → Option zz_C} {s : mS} {N : Nat} {d : Nat} (hd : 10 ≤ d) {rc : Nat → Int64 → Int32 → Int32 → Int32 → cS → kO} (hrc0 : ∀ {Q : zz_O → zz_H → Prop} {x1 : Int64} {x3 : Int32} {x4 : Int32} {x5 : Int32} {h : zz_H} {t t' : cS} {o : kY}, kR h t s → rc 0 x1 x3 x4 x5 t = some (t', o) → (∀ h', kR h' t' s → kE o Q h') → zz_J zp_P zt_tf zt_fd X d zm_94 34 [(0, .ref 59), (1, .long x1), (3, .int x3), (4, .int x4), (5, .int x5)] [] h Q) {Q : zz_O → zz_H → Prop} {x1 : Int64} {x3 : Int32} {x4 : Int32} {x5 : Int32} {h : zz_H} {t t' : cS} {o : kY} (hR : kR h t s) (hf : cf_94_34 N X rc x1 x3 x4 x5 t = some (t', o)) (k : (∀ h', kR h' t' s → kE o Q h')) : zz_J zp_P zt_tf zt_fd X d zm_94 34 [(0, .ref 59), (1, .long x1), (3, .int x3), (4, .int x4), (5, .int x5)] [] h Q := by
  unfold cf_94_34 at hf
  refine cb_94_34 hR  (fun c {h} hR => ?_) (fun c {h} hR => ?_)
  · rw [if_pos c] at hf
    exact cr_94_74 hd hR hf k
  · rw [if_neg c] at hf
    exact cr_94_40 hd hrc0 hR hf k
def cf_94_L2 (N : Nat) (X : Nat → Option zz_C) : Nat → Nat → Int64 → Int32 → Int32 → Int32 → cS → kO
  | 0, _, _, _, _, _, _ => none
  | n + 1, l, x1, x3, x4, x5, t => if l = 0 then cf_94_34 N X (cf_94_L2 N X n) x1 x3 x4 x5 t else none
theorem cr_94_L2 {X : Nat → Option zz_C} {s : mS} {N : Nat} {d : Nat} (hd : 10 ≤ d) : ∀ n : Nat, (∀ {Q : zz_O → zz_H → Prop} {x1 : Int64} {x3 : Int32} {x4 : Int32} {x5 : Int32} {h : zz_H} {t t' : cS} {o : kY}, kR h t s → cf_94_L2 N X n 0 x1 x3 x4 x5 t = some (t', o) → (∀ h', kR h' t' s → kE o Q h') → zz_J zp_P zt_tf zt_fd X d zm_94 34 [(0, .ref 59), (1, .long x1), (3, .int x3), (4, .int x4), (5, .int x5)] [] h Q) := by
  intro n
  induction n with
  | zero => exact (fun _ hf _ => by cases hf)
  | succ n ih =>
    have h0 := @ih
    intro Q _ _ _ _ h t t' o hR hf k
    unfold cf_94_L2 at hf
    rw [if_pos rfl] at hf
    exact cr_94_34 hd h0 hR hf k
def cf_94_29 (N : Nat) (X : Nat → Option zz_C) (x1 : Int64) (x3 : Int32) (y0 : Int32) (t : cS) : kO := cf_94_L2 N X N 0 x1 x3 y0 0 t
theorem cr_94_29 {X : Nat → Option zz_C} {s : mS} {N : Nat} {d : Nat} (hd : 10 ≤ d) {Q : zz_O → zz_H → Prop} {x1 : Int64} {x3 : Int32} {y0 : Int32} {h : zz_H} {t t' : cS} {o : kY} (hR : kR h t s) (hf : cf_94_29 N X x1 x3 y0 t = some (t', o)) (k : (∀ h', kR h' t' s → kE o Q h')) : zz_J zp_P zt_tf zt_fd X d zm_94 29 [(0, .ref 59), (1, .long x1), (3, .int x3)] [.int y0] h Q := by
  unfold cf_94_29 at hf
  exact cb_94_29 hR  (fun hR => cr_94_L2 hd N hR hf k)
def cf_94_21 (N : Nat) (X : Nat → Option zz_C) (x1 : Int64) (y0 : Int32) (t : cS) : kO := ko_call 2 (cf_122 N X  t) (fun g1 v1 => co_i v1 (fun y => cf_94_29 N X x1 y0 y g1))
theorem cr_94_21 {X : Nat → Option zz_C} {s : mS} {N : Nat} {d : Nat} (hd : 10 ≤ d) {Q : zz_O → zz_H → Prop} {x1 : Int64} {y0 : Int32} {h : zz_H} {t t' : cS} {o : kY} (hR : kR h t s) (hf : cf_94_21 N X x1 y0 t = some (t', o)) (k : (∀ h', kR h' t' s → kE o Q h')) : zz_J zp_P zt_tf zt_fd X d zm_94 21 [(0, .ref 59), (1, .long x1)] [.int y0] h Q := by
  unfold cf_94_21 at hf
  obtain ⟨d', rfl⟩ : ∃ d', d = d' + 1 := ⟨d - 1, by omega⟩
  refine cb_94_21 hR  (fun {h} hR => ?_)
  rcases ko_call_ok hf with ⟨g1, v1, er, hf⟩ | ⟨g1, er, hq⟩
  · obtain ⟨y, hv, hf2⟩ := co_i_ok hf
    clear hf
    have hf := hf2
    clear hf2
    subst hv
    refine cr_122 (by omega) hR er (fun h hR => ?_)
    exact cr_94_29 hd hR hf k
  · refine cr_122 (by omega) hR er (fun h hR => ?_)
    exact ko_thrown hq hR k
def cf_94_13 (N : Nat) (X : Nat → Option zz_C) (x1 : Int64) (t : cS) : kO := ko_call 2 (cf_128 N X x1 t) (fun g1 v1 => co_i v1 (fun y => cf_94_21 N X x1 y g1))
theorem cr_94_13 {X : Nat → Option zz_C} {s : mS} {N : Nat} {d : Nat} (hd : 10 ≤ d) {Q : zz_O → zz_H → Prop} {x1 : Int64} {h : zz_H} {t t' : cS} {o : kY} (hR : kR h t s) (hf : cf_94_13 N X x1 t = some (t', o)) (k : (∀ h', kR h' t' s → kE o Q h')) : zz_J zp_P zt_tf zt_fd X d zm_94 13 [(0, .ref 59), (1, .long x1)] [] h Q := by
  unfold cf_94_13 at hf
  obtain ⟨d', rfl⟩ : ∃ d', d = d' + 1 := ⟨d - 1, by omega⟩
  refine cb_94_13 hR  (fun {h} hR => ?_)
  rcases ko_call_ok hf with ⟨g1, v1, er, hf⟩ | ⟨g1, er, hq⟩
  · obtain ⟨y, hv, hf2⟩ := co_i_ok hf
    clear hf
    have hf := hf2
    clear hf2
    subst hv
    refine cr_128 (by omega) hR er (fun h hR => ?_)
    exact cr_94_21 hd hR hf k
  · refine cr_128 (by omega) hR er (fun h hR => ?_)
    exact ko_thrown hq hR k
def cf_94_12 (N : Nat) (X : Nat → Option zz_C) (y0 : Int64) (t : cS) : kO := some (t, .inl (some (.long y0)))
theorem cr_94_12 {X : Nat → Option zz_C} {s : mS} {N : Nat} {d : Nat} (hd : 10 ≤ d) {Q : zz_O → zz_H → Prop} {y0 : Int64} {h : zz_H} {t t' : cS} {o : kY} (hR : kR h t s) (hf : cf_94_12 N X y0 t = some (t', o)) (k : (∀ h', kR h' t' s → kE o Q h')) : zz_J zp_P zt_tf zt_fd X d zm_94 12 [] [.long y0] h Q := by
  unfold cf_94_12 at hf
  cases hf
  exact cb_94_12 hR  (fun {h} hR => k h hR)
def cf_94_8 (N : Nat) (X : Nat → Option zz_C)  (t : cS) : kO := ko_call 1000 (cf_254 N X 3 t) (fun g1 v1 => co_l v1 (fun y => cf_94_12 N X y g1))
theorem cr_94_8 {X : Nat → Option zz_C} {s : mS} {N : Nat} {d : Nat} (hd : 10 ≤ d) {Q : zz_O → zz_H → Prop}  {h : zz_H} {t t' : cS} {o : kY} (hR : kR h t s) (hf : cf_94_8 N X  t = some (t', o)) (k : (∀ h', kR h' t' s → kE o Q h')) : zz_J zp_P zt_tf zt_fd X d zm_94 8 [] [] h Q := by
  unfold cf_94_8 at hf
  obtain ⟨d', rfl⟩ : ∃ d', d = d' + 1 := ⟨d - 1, by omega⟩
  refine cb_94_8 hR  (fun {h} hR => ?_)
  rcases ko_call_ok hf with ⟨g1, v1, er, hf⟩ | ⟨g1, er, hq⟩
  · obtain ⟨y, hv, hf2⟩ := co_l_ok hf
    clear hf
    have hf := hf2
    clear hf2
    subst hv
    refine cr_254 (by omega) hR er (fun h hR => ?_)
    exact cr_94_12 hd hR hf k
  · refine cr_254 (by omega) hR er (fun h hR => ?_)
    exact ko_thrown hq hR k
def cf_94_4 (N : Nat) (X : Nat → Option zz_C) (x1 : Int64) (y0 : Int32) (t : cS) : kO := if y0 = 2 then cf_94_13 N X x1 t else cf_94_8 N X  t
theorem cr_94_4 {X : Nat → Option zz_C} {s : mS} {N : Nat} {d : Nat} (hd : 10 ≤ d) {Q : zz_O → zz_H → Prop} {x1 : Int64} {y0 : Int32} {h : zz_H} {t t' : cS} {o : kY} (hR : kR h t s) (hf : cf_94_4 N X x1 y0 t = some (t', o)) (k : (∀ h', kR h' t' s → kE o Q h')) : zz_J zp_P zt_tf zt_fd X d zm_94 4 [(0, .ref 59), (1, .long x1)] [.int y0] h Q := by
  unfold cf_94_4 at hf
  refine cb_94_4 hR  (fun c {h} hR => ?_) (fun c {h} hR => ?_)
  · rw [if_pos c] at hf
    exact cr_94_13 hd hR hf k
  · rw [if_neg c] at hf
    exact cr_94_8 hd hR hf k
def cf_94_0 (N : Nat) (X : Nat → Option zz_C) (x1 : Int64) (t : cS) : kO := ko_call 1000 (cf_255 N X x1 t) (fun g1 v1 => co_i v1 (fun y => cf_94_4 N X x1 y g1))
theorem cr_94_0 {X : Nat → Option zz_C} {s : mS} {N : Nat} {d : Nat} (hd : 10 ≤ d) {Q : zz_O → zz_H → Prop} {x1 : Int64} {h : zz_H} {t t' : cS} {o : kY} (hR : kR h t s) (hf : cf_94_0 N X x1 t = some (t', o)) (k : (∀ h', kR h' t' s → kE o Q h')) : zz_J zp_P zt_tf zt_fd X d zm_94 0 [(0, .ref 59), (1, .long x1)] [] h Q := by
  unfold cf_94_0 at hf
  obtain ⟨d', rfl⟩ : ∃ d', d = d' + 1 := ⟨d - 1, by omega⟩
  refine cb_94_0 hR  (fun {h} hR => ?_)
  rcases ko_call_ok hf with ⟨g1, v1, er, hf⟩ | ⟨g1, er, hq⟩
  · obtain ⟨y, hv, hf2⟩ := co_i_ok hf
    clear hf
    have hf := hf2
    clear hf2
    subst hv
    refine cr_255 (by omega) hR er (fun h hR => ?_)
    exact cr_94_4 hd hR hf k
  · refine cr_255 (by omega) hR er (fun h hR => ?_)
    exact ko_thrown hq hR k
/-- widths -/
def cf_94 (N : Nat) (X : Nat → Option zz_C) (x1 : Int64) (t : cS) : kO := cf_94_0 N X x1 t
theorem cr_94 {X : Nat → Option zz_C} {s : mS} {N : Nat} {d : Nat} (hd : 10 ≤ d) {Q : zz_O → zz_H → Prop} {x1 : Int64} {h : zz_H} {t t' : cS} {o : kY} (hR : kR h t s) (hf : cf_94 N X x1 t = some (t', o)) (k : ∀ h', kR h' t' s → kE o Q h') : zz_J zp_P zt_tf zt_fd X d zm_94 0 [(0, .ref 59), (1, .long x1)] [] h Q := by
  unfold cf_94 at hf
  exact zz_J.weak (cr_94_0 hd hR hf k) rfl ⟨rfl, rfl, trivial⟩
