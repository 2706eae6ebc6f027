/-! yX3_nextRound (I)V -/
theorem cb_152_0 {X : Nat → Option zz_C} {h : zz_H} {t : cS} {s : mS} {d : Nat} {Q : zz_O → zz_H → Prop} {x1 : Int32} (hR : kR h t s) (k : ∀ {h : zz_H}, kR h t s → zz_J zp_P zt_tf zt_fd X d zm_167 0 [(0, .ref 49), (1, .int 2)] [] h (zz_after 3 Q (fun v h' => zz_J zp_P zt_tf zt_fd X (d + 1) zm_152 5 [(0, .ref 49), (1, .int x1)] (v.toList ++ []) h' Q))) : zz_J zp_P zt_tf zt_fd X (d + 1) zm_152 0 [(0, .ref 49), (1, .int x1)] [] h Q := by
  refine zz_J.n 1 rfl rfl rfl ?_
  refine zz_J.c 2 (.int 2) rfl rfl rfl rfl ?_
  refine zz_J.cv 5 (as := []) rfl rfl (hR.clO ko_49 (by decide) (by decide)) (by decide) (Nat.le_of_ble_eq_true rfl) (Nat.le_of_ble_eq_true rfl) rfl (Nat.le_of_ble_eq_true rfl) rfl ?_
  refine zz_J.mono (k hR) ?_
  intro o h' hE
  cases o with
  | inl v => exact zz_J.weak hE rfl ⟨rfl, rfl, trivial⟩
  | inr q => exact hE
theorem cb_152_5 {X : Nat → Option zz_C} {h : zz_H} {t : cS} {s : mS} {d : Nat} {Q : zz_O → zz_H → Prop} {x1 : Int32} {y0 : Int64} (hR : kR h t s) (k : ∀ {h : zz_H}, kR h t s → zz_J zp_P zt_tf zt_fd X d zm_167 0 [(0, .ref 49), (1, .int 1)] [] h (zz_after 3 Q (fun v h' => zz_J zp_P zt_tf zt_fd X (d + 1) zm_152 11 [(0, .ref 49), (1, .int x1), (2, .long y0)] (v.toList ++ []) h' Q))) : zz_J zp_P zt_tf zt_fd X (d + 1) zm_152 5 [(0, .ref 49), (1, .int x1)] [.long y0] h Q := by
  refine zz_J.n 6 rfl rfl rfl ?_
  refine zz_J.n 7 rfl rfl rfl ?_
  refine zz_J.c 8 (.int 1) rfl rfl rfl rfl ?_
  refine zz_J.cv 11 (as := []) rfl rfl (hR.clO ko_49 (by decide) (by decide)) (by decide) (Nat.le_of_ble_eq_true rfl) (Nat.le_of_ble_eq_true rfl) rfl (Nat.le_of_ble_eq_true rfl) rfl ?_
  refine zz_J.mono (k hR) ?_
  intro o h' hE
  cases o with
  | inl v => exact zz_J.weak hE rfl ⟨rfl, rfl, rfl, trivial⟩
  | inr q => exact hE
theorem cb_152_11 {X : Nat → Option zz_C} {h : zz_H} {t : cS} {s : mS} {d : Nat} {Q : zz_O → zz_H → Prop} {x1 : Int32} {x2 : Int64} {y0 : Int64} (hR : kR h t s) (k : ∀ {h : zz_H}, kR h t s → zz_J zp_P zt_tf zt_fd X d zm_256 0 [(0, .long y0)] [] h (zz_after 1000 Q (fun v h' => zz_J zp_P zt_tf zt_fd X (d + 1) zm_152 14 [(0, .ref 49), (1, .int x1), (2, .long x2)] (v.toList ++ []) h' Q))) : zz_J zp_P zt_tf zt_fd X (d + 1) zm_152 11 [(0, .ref 49), (1, .int x1), (2, .long x2)] [.long y0] h Q := by
  refine zz_J.cl (M' := zm_256) 14 rfl rfl (by decide) rfl rfl ⟨rfl, Nat.le_of_ble_eq_true rfl⟩ rfl ?_
  refine zz_J.mono (k hR) ?_
  intro o h' hE
  cases o with
  | inl v => exact zz_J.weak hE rfl ⟨rfl, rfl, rfl, trivial⟩
  | inr q => exact hE
theorem cb_152_14 {X : Nat → Option zz_C} {h : zz_H} {t : cS} {s : mS} {d : Nat} {Q : zz_O → zz_H → Prop} {x1 : Int32} {x2 : Int64} {y0 : Int32} (hR : kR h t s) (k : ∀ {h : zz_H}, kR h t s → zz_J zp_P zt_tf zt_fd X d zm_255 0 [(0, .long x2)] [] h (zz_after 1000 Q (fun v h' => zz_J zp_P zt_tf zt_fd X (d + 1) zm_152 20 [(0, .ref 49), (1, .int x1), (2, .long x2), (4, .int y0)] (v.toList ++ []) h' Q))) : zz_J zp_P zt_tf zt_fd X (d + 1) zm_152 14 [(0, .ref 49), (1, .int x1), (2, .long x2)] [.int y0] h Q := by
  refine zz_J.n 16 rfl rfl rfl ?_
  refine zz_J.n 17 rfl rfl rfl ?_
  refine zz_J.cl (M' := zm_255) 20 rfl rfl (by decide) rfl rfl ⟨rfl, Nat.le_of_ble_eq_true rfl⟩ rfl ?_
  refine zz_J.mono (k hR) ?_
  intro o h' hE
  cases o with
  | inl v => exact zz_J.weak hE rfl ⟨rfl, rfl, rfl, rfl, trivial⟩
  | inr q => exact hE
theorem cb_152_20 {X : Nat → Option zz_C} {h : zz_H} {t : cS} {s : mS} {d : Nat} {Q : zz_O → zz_H → Prop} {x1 : Int32} {x2 : Int64} {x4 : Int32} {y0 : Int32} (hR : kR h t s) (k1 : ¬ y0 = 0 → (∀ {h : zz_H}, kR h t s → zz_J zp_P zt_tf zt_fd X d zm_152 30 [(0, .ref 49), (1, .int x1), (2, .long x2), (4, .int x4)] [] h Q)) (k2 : ¬ ¬ y0 = 0 → (∀ {h : zz_H}, kR h t s → zz_J zp_P zt_tf zt_fd X d zm_152 23 [(0, .ref 49), (1, .int x1), (2, .long x2), (4, .int x4)] [] h Q)) : zz_J zp_P zt_tf zt_fd X d zm_152 20 [(0, .ref 49), (1, .int x1), (2, .long x2), (4, .int x4)] [.int y0] h Q := by
  refine zz_J.b1 30 23 (A := ¬ y0 = 0) rfl (zz_cond_ne _ _) (by decide) rfl rfl (fun c => ?_) (fun c => ?_)
  · exact zz_J.weak (k1 c hR) rfl ⟨rfl, rfl, rfl, rfl, trivial⟩
  · exact zz_J.weak (k2 c hR) rfl ⟨rfl, rfl, rfl, rfl, trivial⟩
theorem cb_152_23 {X : Nat → Option zz_C} {h : zz_H} {t : cS} {s : mS} {d : Nat} {Q : zz_O → zz_H → Prop} {x1 : Int32} {x2 : Int64} {x4 : Int32} (hR : kR h t s) (k : ∀ {h : zz_H}, kR h t s → zz_J zp_P zt_tf zt_fd X d zm_256 0 [(0, .long x2)] [] h (zz_after 1000 Q (fun v h' => zz_J zp_P zt_tf zt_fd X (d + 1) zm_152 27 [(0, .ref 49), (1, .int x1), (2, .long x2), (4, .int x4)] (v.toList ++ []) h' Q))) : zz_J zp_P zt_tf zt_fd X (d + 1) zm_152 23 [(0, .ref 49), (1, .int x1), (2, .long x2), (4, .int x4)] [] h Q := by
  refine zz_J.n 24 rfl rfl rfl ?_
  refine zz_J.cl (M' := zm_256) 27 rfl rfl (by decide) rfl rfl ⟨rfl, Nat.le_of_ble_eq_true rfl⟩ rfl ?_
  refine zz_J.mono (k hR) ?_
  intro o h' hE
  cases o with
  | inl v => exact zz_J.weak hE rfl ⟨rfl, rfl, rfl, rfl, trivial⟩
  | inr q => exact hE
theorem cb_152_27 {X : Nat → Option zz_C} {h : zz_H} {t : cS} {s : mS} {d : Nat} {Q : zz_O → zz_H → Prop} {x1 : Int32} {x2 : Int64} {x4 : Int32} {y0 : Int32} (hR : kR h t s) (k : ∀ {h : zz_H}, kR h t s → zz_J zp_P zt_tf zt_fd X d zm_152 38 [(0, .ref 49), (1, .int x1), (2, .long x2), (4, .int x4)] [.int y0] h Q) : zz_J zp_P zt_tf zt_fd X d zm_152 27 [(0, .ref 49), (1, .int x1), (2, .long x2), (4, .int x4)] [.int y0] h Q := by
  refine zz_J.n 38 rfl rfl rfl ?_
  exact zz_J.weak (k hR) rfl ⟨rfl, rfl, rfl, rfl, trivial⟩
theorem cb_152_30 {X : Nat → Option zz_C} {h : zz_H} {t : cS} {s : mS} {d : Nat} {Q : zz_O → zz_H → Prop} {x1 : Int32} {x2 : Int64} {x4 : Int32} (hR : kR h t s) (k : ∀ {h : zz_H}, kR h t s → zz_J zp_P zt_tf zt_fd X d zm_128 0 [(0, .ref 42), (1, .long x2)] [] h (zz_after 2 Q (fun v h' => zz_J zp_P zt_tf zt_fd X (d + 1) zm_152 38 [(0, .ref 49), (1, .int x1), (2, .long x2), (4, .int x4)] (v.toList ++ []) h' Q))) : zz_J zp_P zt_tf zt_fd X (d + 1) zm_152 30 [(0, .ref 49), (1, .int x1), (2, .long x2), (4, .int x4)] [] h Q := by
  refine zz_J.n 31 rfl rfl rfl ?_
  refine zz_J.g 34 rfl (hR.gv (v := .ref 42) ko_49 (by decide) rfl) rfl ?_
  refine zz_J.n 35 rfl rfl rfl ?_
  refine zz_J.cv 38 (as := []) rfl rfl (hR.clO ko_42 (by decide) (by decide)) (by decide) (Nat.le_of_ble_eq_true rfl) (Nat.le_of_ble_eq_true rfl) rfl (Nat.le_of_ble_eq_true rfl) rfl ?_
  refine zz_J.mono (k hR) ?_
  intro o h' hE
  cases o with
  | inl v => exact zz_J.weak hE rfl ⟨rfl, rfl, rfl, rfl, trivial⟩
  | inr q => exact hE
theorem cb_152_38 {X : Nat → Option zz_C} {h : zz_H} {t : cS} {s : mS} {d : Nat} {Q : zz_O → zz_H → Prop} {x1 : Int32} {x2 : Int64} {x4 : Int32} {y0 : Int32} (hR : kR h t s) (k : ∀ {h : zz_H}, kR h t s → zz_J zp_P zt_tf zt_fd X d zm_166 0 [(0, .ref 49)] [] h (zz_after 3 Q (fun v h' => zz_J zp_P zt_tf zt_fd X (d + 1) zm_152 44 [(0, .ref 49), (1, .int x1), (2, .long x2), (4, .int x4), (5, .int y0)] (v.toList ++ []) h' Q))) : zz_J zp_P zt_tf zt_fd X (d + 1) zm_152 38 [(0, .ref 49), (1, .int x1), (2, .long x2), (4, .int x4)] [.int y0] h Q := by
  refine zz_J.n 40 rfl rfl rfl ?_
  refine zz_J.n 41 rfl rfl rfl ?_
  refine zz_J.cv 44 (as := []) rfl rfl (hR.clO ko_49 (by decide) (by decide)) (by decide) (Nat.le_of_ble_eq_true rfl) (Nat.le_of_ble_eq_true rfl) rfl (Nat.le_of_ble_eq_true rfl) rfl ?_
  refine zz_J.mono (k hR) ?_
  intro o h' hE
  cases o with
  | inl v => exact zz_J.weak hE rfl ⟨rfl, rfl, rfl, rfl, rfl, trivial⟩
  | inr q => exact hE
theorem cb_152_44 {X : Nat → Option zz_C} {h : zz_H} {t : cS} {s : mS} {d : Nat} {Q : zz_O → zz_H → Prop} {x1 : Int32} {x2 : Int64} {x4 : Int32} {x5 : Int32} {y0 : Int64} (hR : kR h t s) (k1 : x4 < x5 → (∀ {h : zz_H}, kR h t s → zz_J zp_P zt_tf zt_fd X d zm_152 63 [(0, .ref 49), (2, .long x2), (4, .int x4)] [] h Q)) (k2 : ¬ x4 < x5 → (∀ {h : zz_H}, kR h t s → zz_J zp_P zt_tf zt_fd X d zm_152 52 [(0, .ref 49), (1, .int x1)] [] h Q)) : zz_J zp_P zt_tf zt_fd X d zm_152 44 [(0, .ref 49), (1, .int x1), (2, .long x2), (4, .int x4), (5, .int x5)] [.long y0] h Q := by
  refine zz_J.n 45 rfl rfl rfl ?_
  refine zz_J.n 47 rfl rfl rfl ?_
  refine zz_J.n 49 rfl rfl rfl ?_
  refine zz_J.b2 63 52 (A := x4 < x5) rfl rfl (by decide) rfl rfl (fun c => ?_) (fun c => ?_)
  · exact zz_J.weak (k1 c hR) rfl ⟨rfl, rfl, rfl, trivial⟩
  · exact zz_J.weak (k2 c hR) rfl ⟨rfl, rfl, trivial⟩
theorem cb_152_52 {X : Nat → Option zz_C} {h : zz_H} {t : cS} {s : mS} {d : Nat} {Q : zz_O → zz_H → Prop} {x1 : Int32} (hR : kR h t s) (k : ∀ {h : zz_H}, kR h t s → zz_J zp_P zt_tf zt_fd X d zm_166 0 [(0, .ref 49)] [] h (zz_after 3 Q (fun v h' => zz_J zp_P zt_tf zt_fd X (d + 1) zm_152 56 [(0, .ref 49), (1, .int x1)] (v.toList ++ []) h' Q))) : zz_J zp_P zt_tf zt_fd X (d + 1) zm_152 52 [(0, .ref 49), (1, .int x1)] [] h Q := by
  refine zz_J.n 53 rfl rfl rfl ?_
  refine zz_J.cv 56 (as := []) rfl rfl (hR.clO ko_49 (by decide) (by decide)) (by decide) (Nat.le_of_ble_eq_true rfl) (Nat.le_of_ble_eq_true rfl) rfl (Nat.le_of_ble_eq_true rfl) rfl ?_
  refine zz_J.mono (k hR) ?_
  intro o h' hE
  cases o with
  | inl v => exact zz_J.weak hE rfl ⟨rfl, rfl, trivial⟩
  | inr q => exact hE
theorem cb_152_56 {X : Nat → Option zz_C} {h : zz_H} {t : cS} {s : mS} {d : Nat} {Q : zz_O → zz_H → Prop} {x1 : Int32} {y0 : Int64} (hR : kR h t s) (k : ∀ {h : zz_H}, kR h (jI t 49 17 x1) s → Q (.inl none) h) : zz_J zp_P zt_tf zt_fd X d zm_152 56 [(0, .ref 49), (1, .int x1)] [.long y0] h Q := by
  refine zz_J.n 57 rfl rfl rfl ?_
  refine zz_J.n 58 rfl rfl rfl ?_
  refine zz_J.n 59 rfl rfl rfl ?_
  obtain ⟨h1, eq1, hR⟩ := hR.pI (x := x1) (by decide) ko_49 (kpi_49_17 _) (Nat.le_of_ble_eq_true rfl) rfl
  refine zz_J.pv 62 rfl eq1 rfl ?_
  clear eq1
  refine zz_J.ret rfl rfl rfl ?_
  exact k hR
theorem cb_152_63 {X : Nat → Option zz_C} {h : zz_H} {t : cS} {s : mS} {d : Nat} {Q : zz_O → zz_H → Prop} {x2 : Int64} {x4 : Int32} (hR : kR h t s) (k : ∀ {h : zz_H}, kR h t s → zz_J zp_P zt_tf zt_fd X d zm_253 0 [(0, .int 0), (1, .int (x4 + 1))] [] h (zz_after 1000 Q (fun v h' => zz_J zp_P zt_tf zt_fd X (d + 1) zm_152 72 [(0, .ref 49), (2, .long x2), (4, .int x4)] (v.toList ++ [.ref 49]) h' Q))) : zz_J zp_P zt_tf zt_fd X (d + 1) zm_152 63 [(0, .ref 49), (2, .long x2), (4, .int x4)] [] h Q := by
  refine zz_J.n 64 rfl rfl rfl ?_
  refine zz_J.c 65 (.int 0) rfl rfl rfl rfl ?_
  refine zz_J.n 67 rfl rfl rfl ?_
  refine zz_J.c 68 (.int 1) rfl rfl rfl rfl ?_
  refine zz_J.n 69 rfl rfl rfl ?_
  refine zz_J.cl (M' := zm_253) 72 rfl rfl (by decide) rfl rfl ⟨rfl, Nat.le_of_ble_eq_true rfl⟩ rfl ?_
  refine zz_J.mono (k hR) ?_
  intro o h' hE
  cases o with
  | inl v => exact zz_J.weak hE rfl ⟨rfl, rfl, rfl, trivial⟩
  | inr q => exact hE
theorem cb_152_72 {X : Nat → Option zz_C} {h : zz_H} {t : cS} {s : mS} {d : Nat} {Q : zz_O → zz_H → Prop} {x2 : Int64} {x4 : Int32} {y1 : Int64} (hR : kR h t s) (k : ∀ {h : zz_H}, kR h t s → zz_J zp_P zt_tf zt_fd X d zm_165 0 [(0, .ref 49), (1, .long y1)] [] h (zz_after 3 Q (fun v h' => zz_J zp_P zt_tf zt_fd X (d + 1) zm_152 75 [(0, .ref 49), (2, .long x2), (4, .int x4)] (v.toList ++ []) h' Q))) : zz_J zp_P zt_tf zt_fd X (d + 1) zm_152 72 [(0, .ref 49), (2, .long x2), (4, .int x4)] [.long y1, .ref 49] h Q := by
  refine zz_J.cv 75 (as := []) rfl rfl (hR.clO ko_49 (by decide) (by decide)) (by decide) (Nat.le_of_ble_eq_true rfl) (Nat.le_of_ble_eq_true rfl) rfl (Nat.le_of_ble_eq_true rfl) rfl ?_
  refine zz_J.mono (k hR) ?_
  intro o h' hE
  cases o with
  | inl v => exact zz_J.weak hE rfl ⟨rfl, rfl, rfl, trivial⟩
  | inr q => exact hE
theorem cb_152_75 {X : Nat → Option zz_C} {h : zz_H} {t : cS} {s : mS} {d : Nat} {Q : zz_O → zz_H → Prop} {x2 : Int64} {x4 : Int32} (hR : kR h t s) (k : ∀ {h : zz_H}, kR h t s → zz_J zp_P zt_tf zt_fd X d zm_255 0 [(0, .long x2)] [] h (zz_after 1000 Q (fun v h' => zz_J zp_P zt_tf zt_fd X (d + 1) zm_152 80 [(0, .ref 49), (2, .long x2), (4, .int x4)] (v.toList ++ [.ref 49]) h' Q))) : zz_J zp_P zt_tf zt_fd X (d + 1) zm_152 75 [(0, .ref 49), (2, .long x2), (4, .int x4)] [] h Q := by
  refine zz_J.n 76 rfl rfl rfl ?_
  refine zz_J.n 77 rfl rfl rfl ?_
  refine zz_J.cl (M' := zm_255) 80 rfl rfl (by decide) rfl rfl ⟨rfl, Nat.le_of_ble_eq_true rfl⟩ rfl ?_
  refine zz_J.mono (k hR) ?_
  intro o h' hE
  cases o with
  | inl v => exact zz_J.weak hE rfl ⟨rfl, rfl, rfl, trivial⟩
  | inr q => exact hE
theorem cb_152_80 {X : Nat → Option zz_C} {h : zz_H} {t : cS} {s : mS} {d : Nat} {Q : zz_O → zz_H → Prop} {x2 : Int64} {x4 : Int32} {y1 : Int32} (hR : kR h t s) (k1 : ¬ y1 = 0 → (∀ {h : zz_H}, kR h t s → zz_J zp_P zt_tf zt_fd X d zm_152 92 [(0, .ref 49), (2, .long x2), (4, .int x4)] [.ref 49] h Q)) (k2 : ¬ ¬ y1 = 0 → (∀ {h : zz_H}, kR h t s → zz_J zp_P zt_tf zt_fd X d zm_152 83 [(4, .int x4)] [.ref 49] h Q)) : zz_J zp_P zt_tf zt_fd X d zm_152 80 [(0, .ref 49), (2, .long x2), (4, .int x4)] [.int y1, .ref 49] h Q := by
  refine zz_J.b1 92 83 (A := ¬ y1 = 0) rfl (zz_cond_ne _ _) (by decide) rfl rfl (fun c => ?_) (fun c => ?_)
  · exact zz_J.weak (k1 c hR) rfl ⟨rfl, rfl, rfl, trivial⟩
  · exact zz_J.weak (k2 c hR) rfl ⟨rfl, trivial⟩
theorem cb_152_83 {X : Nat → Option zz_C} {h : zz_H} {t : cS} {s : mS} {d : Nat} {Q : zz_O → zz_H → Prop} {x4 : Int32} (hR : kR h t s) (k : ∀ {h : zz_H}, kR h t s → zz_J zp_P zt_tf zt_fd X d zm_253 0 [(0, .int 0), (1, .int x4)] [] h (zz_after 1000 Q (fun v h' => zz_J zp_P zt_tf zt_fd X (d + 1) zm_152 89 [] (v.toList ++ [.ref 49]) h' Q))) : zz_J zp_P zt_tf zt_fd X (d + 1) zm_152 83 [(4, .int x4)] [.ref 49] h Q := by
  refine zz_J.c 84 (.int 0) rfl rfl rfl rfl ?_
  refine zz_J.n 86 rfl rfl rfl ?_
  refine zz_J.cl (M' := zm_253) 89 rfl rfl (by decide) rfl rfl ⟨rfl, Nat.le_of_ble_eq_true rfl⟩ rfl ?_
  refine zz_J.mono (k hR) ?_
  intro o h' hE
  cases o with
  | inl v => exact zz_J.weak hE rfl trivial
  | inr q => exact hE
theorem cb_152_89 {X : Nat → Option zz_C} {h : zz_H} {t : cS} {s : mS} {d : Nat} {Q : zz_O → zz_H → Prop} {y1 : Int64} (hR : kR h t s) (k : ∀ {h : zz_H}, kR h t s → zz_J zp_P zt_tf zt_fd X d zm_152 102 [] [.long y1, .ref 49] h Q) : zz_J zp_P zt_tf zt_fd X d zm_152 89 [] [.long y1, .ref 49] h Q := by
  refine zz_J.n 102 rfl rfl rfl ?_
  exact zz_J.weak (k hR) rfl trivial
theorem cb_152_92 {X : Nat → Option zz_C} {h : zz_H} {t : cS} {s : mS} {d : Nat} {Q : zz_O → zz_H → Prop} {x2 : Int64} {x4 : Int32} (hR : kR h t s) (k : ∀ {h : zz_H}, kR h t s → zz_J zp_P zt_tf zt_fd X d zm_129 0 [(0, .ref 42), (1, .long x2), (3, .int x4)] [] h (zz_after 2 Q (fun v h' => zz_J zp_P zt_tf zt_fd X (d + 1) zm_152 102 [] (v.toList ++ [.ref 49]) h' Q))) : zz_J zp_P zt_tf zt_fd X (d + 1) zm_152 92 [(0, .ref 49), (2, .long x2), (4, .int x4)] [.ref 49] h Q := by
  refine zz_J.n 93 rfl rfl rfl ?_
  refine zz_J.g 96 rfl (hR.gv (v := .ref 42) ko_49 (by decide) rfl) rfl ?_
  refine zz_J.n 97 rfl rfl rfl ?_
  refine zz_J.n 99 rfl rfl rfl ?_
  refine zz_J.cv 102 (as := [.ref 49]) rfl rfl (hR.clO ko_42 (by decide) (by decide)) (by decide) (Nat.le_of_ble_eq_true rfl) (Nat.le_of_ble_eq_true rfl) rfl (Nat.le_of_ble_eq_true rfl) rfl ?_
  refine zz_J.mono (k hR) ?_
  intro o h' hE
  cases o with
  | inl v => exact zz_J.weak hE rfl trivial
  | inr q => exact hE
theorem cb_152_102 {X : Nat → Option zz_C} {h : zz_H} {t : cS} {s : mS} {d : Nat} {Q : zz_O → zz_H → Prop} {y1 : Int64} (hR : kR h t s) (k : ∀ {h : zz_H}, kR h t s → zz_J zp_P zt_tf zt_fd X d zm_165 0 [(0, .ref 49), (1, .long y1)] [] h (zz_after 3 Q (fun v h' => zz_J zp_P zt_tf zt_fd X (d + 1) zm_152 105 [] (v.toList ++ []) h' Q))) : zz_J zp_P zt_tf zt_fd X (d + 1) zm_152 102 [] [.long y1, .ref 49] h Q := by
  refine zz_J.cv 105 (as := []) rfl rfl (hR.clO ko_49 (by decide) (by decide)) (by decide) (Nat.le_of_ble_eq_true rfl) (Nat.le_of_ble_eq_true rfl) rfl (Nat.le_of_ble_eq_true rfl) rfl ?_
  refine zz_J.mono (k hR) ?_
  intro o h' hE
  cases o with
  | inl v => exact zz_J.weak hE rfl trivial
  | inr q => exact hE
theorem cb_152_105 {X : Nat → Option zz_C} {h : zz_H} {t : cS} {s : mS} {d : Nat} {Q : zz_O → zz_H → Prop}  (hR : kR h t s) (k : ∀ {h : zz_H}, kR h t s → Q (.inl none) h) : zz_J zp_P zt_tf zt_fd X d zm_152 105 [] [] h Q := by
  refine zz_J.ret rfl rfl rfl ?_
  exact k hR
def cf_152_105 (N : Nat) (X : Nat → Option zz_C)  (t : cS) : kO := some (t, .inl none)
theorem cr_152_105 {X : Nat → Option zz_C} {s : mS} {N : Nat} {d : Nat} (hd : 10 ≤ d) {Q : zz_O → zz_H → Prop}  {h : zz_H} {t t' : cS} {o : kY} (hR : kR h t s) (hf : cf_152_105 N X  t = some (t', o)) (k : (∀ h', kR h' t' s → kE o Q h')) : zz_J zp_P zt_tf zt_fd X d zm_152 105 [] [] h Q := by
  unfold cf_152_105 at hf
  cases hf
  exact cb_152_105 hR  (fun {h} hR => k h hR)
def cf_152_102 (N : Nat) (X : Nat → Option zz_C) (y1 : Int64) (t : cS) : kO := ko_call 3 (cf_165 N X y1 t) (fun g1 v1 => co_v v1 (cf_152_105 N X  g1))
theorem cr_152_102 {X : Nat → Option zz_C} {s : mS} {N : Nat} {d : Nat} (hd : 10 ≤ d) {Q : zz_O → zz_H → Prop} {y1 : Int64} {h : zz_H} {t t' : cS} {o : kY} (hR : kR h t s) (hf : cf_152_102 N X y1 t = some (t', o)) (k : (∀ h', kR h' t' s → kE o Q h')) : zz_J zp_P zt_tf zt_fd X d zm_152 102 [] [.long y1, .ref 49] h Q := by
  unfold cf_152_102 at hf
  obtain ⟨d', rfl⟩ : ∃ d', d = d' + 1 := ⟨d - 1, by omega⟩
  refine cb_152_102 hR  (fun {h} hR => ?_)
  rcases ko_call_ok hf with ⟨g1, v1, er, hf⟩ | ⟨g1, er, hq⟩
  · obtain ⟨hv, hf2⟩ := co_v_ok hf
    clear hf
    have hf := hf2
    clear hf2
    subst hv
    refine cr_165 (by omega) hR er (fun h hR => ?_)
    exact cr_152_105 hd hR hf k
  · refine cr_165 (by omega) hR er (fun h hR => ?_)
    exact ko_thrown hq hR k
def cf_152_92 (N : Nat) (X : Nat → Option zz_C) (x2 : Int64) (x4 : Int32) (t : cS) : kO := ko_call 2 (cf_129 N X x2 x4 t) (fun g1 v1 => co_l v1 (fun y => cf_152_102 N X y g1))
theorem cr_152_92 {X : Nat → Option zz_C} {s : mS} {N : Nat} {d : Nat} (hd : 10 ≤ d) {Q : zz_O → zz_H → Prop} {x2 : Int64} {x4 : Int32} {h : zz_H} {t t' : cS} {o : kY} (hR : kR h t s) (hf : cf_152_92 N X x2 x4 t = some (t', o)) (k : (∀ h', kR h' t' s → kE o Q h')) : zz_J zp_P zt_tf zt_fd X d zm_152 92 [(0, .ref 49), (2, .long x2), (4, .int x4)] [.ref 49] h Q := by
  unfold cf_152_92 at hf
  obtain ⟨d', rfl⟩ : ∃ d', d = d' + 1 := ⟨d - 1, by omega⟩
  refine cb_152_92 hR  (fun {h} hR => ?_)
  rcases ko_call_ok hf with ⟨g1, v1, er, hf⟩ | ⟨g1, er, hq⟩
  · obtain ⟨y, hv, hf2⟩ := co_l_ok hf
    clear hf
    have hf := hf2
    clear hf2
    subst hv
    refine cr_129 (by omega) hR er (fun h hR => ?_)
    exact cr_152_102 hd hR hf k
  · refine cr_129 (by omega) hR er (fun h hR => ?_)
    exact ko_thrown hq hR k
def cf_152_89 (N : Nat) (X : Nat → Option zz_C) (y1 : Int64) (t : cS) : kO := cf_152_102 N X y1 t
theorem cr_152_89 {X : Nat → Option zz_C} {s : mS} {N : Nat} {d : Nat} (hd : 10 ≤ d) {Q : zz_O → zz_H → Prop} {y1 : Int64} {h : zz_H} {t t' : cS} {o : kY} (hR : kR h t s) (hf : cf_152_89 N X y1 t = some (t', o)) (k : (∀ h', kR h' t' s → kE o Q h')) : zz_J zp_P zt_tf zt_fd X d zm_152 89 [] [.long y1, .ref 49] h Q := by
  unfold cf_152_89 at hf
  exact cb_152_89 hR  (fun hR => cr_152_102 hd hR hf k)
def cf_152_83 (N : Nat) (X : Nat → Option zz_C) (x4 : Int32) (t : cS) : kO := ko_call 1000 (cf_253 N X 0 x4 t) (fun g1 v1 => co_l v1 (fun y => cf_152_89 N X y g1))
theorem cr_152_83 {X : Nat → Option zz_C} {s : mS} {N : Nat} {d : Nat} (hd : 10 ≤ d) {Q : zz_O → zz_H → Prop} {x4 : Int32} {h : zz_H} {t t' : cS} {o : kY} (hR : kR h t s) (hf : cf_152_83 N X x4 t = some (t', o)) (k : (∀ h', kR h' t' s → kE o Q h')) : zz_J zp_P zt_tf zt_fd X d zm_152 83 [(4, .int x4)] [.ref 49] h Q := by
  unfold cf_152_83 at hf
  obtain ⟨d', rfl⟩ : ∃ d', d = d' + 1 := ⟨d - 1, by omega⟩
  refine cb_152_83 hR  (fun {h} hR => ?_)
  rcases ko_call_ok hf with ⟨g1, v1, er, hf⟩ | ⟨g1, er, hq⟩
  · obtain ⟨y, hv, hf2⟩ := co_l_ok hf
    clear hf
    have hf := hf2
    clear hf2
    subst hv
    refine cr_253 (by omega) hR er (fun h hR => ?_)
    exact cr_152_89 hd hR hf k
  · refine cr_253 (by omega) hR er (fun h hR => ?_)
    exact ko_thrown hq hR k
def cf_152_80 (N : Nat) (X : Nat → Option zz_C) (x2 : Int64) (x4 : Int32) (y1 : Int32) (t : cS) : kO := if ¬ y1 = 0 then cf_152_92 N X x2 x4 t else cf_152_83 N X x4 t
theorem cr_152_80 {X : Nat → Option zz_C} {s : mS} {N : Nat} {d : Nat} (hd : 10 ≤ d) {Q : zz_O → zz_H → Prop} {x2 : Int64} {x4 : Int32} {y1 : Int32} {h : zz_H} {t t' : cS} {o : kY} (hR : kR h t s) (hf : cf_152_80 N X x2 x4 y1 t = some (t', o)) (k : (∀ h', kR h' t' s → kE o Q h')) : zz_J zp_P zt_tf zt_fd X d zm_152 80 [(0, .ref 49), (2, .long x2), (4, .int x4)] [.int y1, .ref 49] h Q := by
  unfold cf_152_80 at hf
  refine cb_152_80 hR  (fun c {h} hR => ?_) (fun c {h} hR => ?_)
  · rw [if_pos c] at hf
    exact cr_152_92 hd hR hf k
  · rw [if_neg c] at hf
    exact cr_152_83 hd hR hf k
def cf_152_75 (N : Nat) (X : Nat → Option zz_C) (x2 : Int64) (x4 : Int32) (t : cS) : kO := ko_call 1000 (cf_255 N X x2 t) (fun g1 v1 => co_i v1 (fun y => cf_152_80 N X x2 x4 y g1))
theorem cr_152_75 {X : Nat → Option zz_C} {s : mS} {N : Nat} {d : Nat} (hd : 10 ≤ d) {Q : zz_O → zz_H → Prop} {x2 : Int64} {x4 : Int32} {h : zz_H} {t t' : cS} {o : kY} (hR : kR h t s) (hf : cf_152_75 N X x2 x4 t = some (t', o)) (k : (∀ h', kR h' t' s → kE o Q h')) : zz_J zp_P zt_tf zt_fd X d zm_152 75 [(0, .ref 49), (2, .long x2), (4, .int x4)] [] h Q := by
  unfold cf_152_75 at hf
  obtain ⟨d', rfl⟩ : ∃ d', d = d' + 1 := ⟨d - 1, by omega⟩
  refine cb_152_75 hR  (fun {h} hR => ?_)
  rcases ko_call_ok hf with ⟨g1, v1, er, hf⟩ | ⟨g1, er, hq⟩
  · obtain ⟨y, hv, hf2⟩ := co_i_ok hf
    clear hf
    have hf := hf2
    clear hf2
    subst hv
    refine cr_255 (by omega) hR er (fun h hR => ?_)
    exact cr_152_80 hd hR hf k
  · refine cr_255 (by omega) hR er (fun h hR => ?_)
    exact ko_thrown hq hR k
def cf_152_72 (N : Nat) (X : Nat → Option zz_C) (x2 : Int64) (x4 : Int32) (y1 : Int64) (t : cS) : kO := ko_call 3 (cf_165 N X y1 t) (fun g1 v1 => co_v v1 (cf_152_75 N X x2 x4 g1))
theorem cr_152_72 {X : Nat → Option zz_C} {s : mS} {N : Nat} {d : Nat} (hd : 10 ≤ d) {Q : zz_O → zz_H → Prop} {x2 : Int64} {x4 : Int32} {y1 : Int64} {h : zz_H} {t t' : cS} {o : kY} (hR : kR h t s) (hf : cf_152_72 N X x2 x4 y1 t = some (t', o)) (k : (∀ h', kR h' t' s → kE o Q h')) : zz_J zp_P zt_tf zt_fd X d zm_152 72 [(0, .ref 49), (2, .long x2), (4, .int x4)] [.long y1, .ref 49] h Q := by
  unfold cf_152_72 at hf
  obtain ⟨d', rfl⟩ : ∃ d', d = d' + 1 := ⟨d - 1, by omega⟩
  refine cb_152_72 hR  (fun {h} hR => ?_)
  rcases ko_call_ok hf with ⟨g1, v1, er, hf⟩ | ⟨g1, er, hq⟩
  · obtain ⟨hv, hf2⟩ := co_v_ok hf
    clear hf
    have hf := hf2
    clear hf2
    subst hv
    refine cr_165 (by omega) hR er (fun h hR => ?_)
    exact cr_152_75 hd hR hf k
  · refine cr_165 (by omega) hR er (fun h hR => ?_)
    exact ko_thrown hq hR k
def cf_152_63 (N : Nat) (X : Nat → Option zz_C) (x2 : Int64) (x4 : Int32) (t : cS) : kO := ko_call 1000 (cf_253 N X 0 (x4 + 1) t) (fun g1 v1 => co_l v1 (fun y => cf_152_72 N X x2 x4 y g1))
theorem cr_152_63 {X : Nat → Option zz_C} {s : mS} {N : Nat} {d : Nat} (hd : 10 ≤ d) {Q : zz_O → zz_H → Prop} {x2 : Int64} {x4 : Int32} {h : zz_H} {t t' : cS} {o : kY} (hR : kR h t s) (hf : cf_152_63 N X x2 x4 t = some (t', o)) (k : (∀ h', kR h' t' s → kE o Q h')) : zz_J zp_P zt_tf zt_fd X d zm_152 63 [(0, .ref 49), (2, .long x2), (4, .int x4)] [] h Q := by
  unfold cf_152_63 at hf
  obtain ⟨d', rfl⟩ : ∃ d', d = d' + 1 := ⟨d - 1, by omega⟩
  refine cb_152_63 hR  (fun {h} hR => ?_)
  rcases ko_call_ok hf with ⟨g1, v1, er, hf⟩ | ⟨g1, er, hq⟩
  · obtain ⟨y, hv, hf2⟩ := co_l_ok hf
    clear hf
    have hf := hf2
    clear hf2
    subst hv
    refine cr_253 (by omega) hR er (fun h hR => ?_)
    exact cr_152_72 hd hR hf k
  · refine cr_253 (by omega) hR er (fun h hR => ?_)
    exact ko_thrown hq hR k
def cf_152_56 (N : Nat) (X : Nat → Option zz_C) (x1 : Int32) (y0 : Int64) (t : cS) : kO := some ((jI t 49 17 x1), .inl none)
theorem cr_152_56 {X : Nat → Option zz_C} {s : mS} {N : Nat} {d : Nat} (hd : 10 ≤ d) {Q : zz_O → zz_H → Prop} {x1 : Int32} {y0 : Int64} {h : zz_H} {t t' : cS} {o : kY} (hR : kR h t s) (hf : cf_152_56 N X x1 y0 t = some (t', o)) (k : (∀ h', kR h' t' s → kE o Q h')) : zz_J zp_P zt_tf zt_fd X d zm_152 56 [(0, .ref 49), (1, .int x1)] [.long y0] h Q := by
  unfold cf_152_56 at hf
  cases hf
  exact cb_152_56 hR  (fun {h} hR => k h hR)
def cf_152_52 (N : Nat) (X : Nat → Option zz_C) (x1 : Int32) (t : cS) : kO := ko_call 3 (cf_166 N X  t) (fun g1 v1 => co_l v1 (fun y => cf_152_56 N X x1 y g1))
theorem cr_152_52 {X : Nat → Option zz_C} {s : mS} {N : Nat} {d : Nat} (hd : 10 ≤ d) {Q : zz_O → zz_H → Prop} {x1 : Int32} {h : zz_H} {t t' : cS} {o : kY} (hR : kR h t s) (hf : cf_152_52 N X x1 t = some (t', o)) (k : (∀ h', kR h' t' s → kE o Q h')) : zz_J zp_P zt_tf zt_fd X d zm_152 52 [(0, .ref 49), (1, .int x1)] [] h Q := by
  unfold cf_152_52 at hf
  obtain ⟨d', rfl⟩ : ∃ d', d = d' + 1 := ⟨d - 1, by omega⟩
  refine cb_152_52 hR  (fun {h} hR => ?_)
  rcases ko_call_ok hf with ⟨g1, v1, er, hf⟩ | ⟨g1, er, hq⟩
  · obtain ⟨y, hv, hf2⟩ := co_l_ok hf
    clear hf
    have hf := hf2
    clear hf2
    subst hv
    refine cr_166 (by omega) hR er (fun h hR => ?_)
    exact cr_152_56 hd hR hf k
  · refine cr_166 (by omega) hR er (fun h hR => ?_)
    exact ko_thrown hq hR k
def cf_152_44 (N : Nat) (X : Nat → Option zz_C) (x1 : Int32) (x2 : Int64) (x4 : Int32) (x5 : Int32) (y0 : Int64) (t : cS) : kO := if x4 < x5 then cf_152_63 N X x2 x4 t else cf_152_52 N X x1 t
theorem cr_152_44 {X : Nat → Option zz_C} {s : mS} {N : Nat} {d : Nat} (hd : 10 ≤ d) {Q : zz_O → zz_H → Prop} {x1 : Int32} {x2 : Int64} {x4 : Int32} {x5 : Int32} {y0 : Int64} {h : zz_H} {t t' : cS} {o : kY} (hR : kR h t s) (hf : cf_152_44 N X x1 x2 x4 x5 y0 t = some (t', o)) (k : (∀ h', kR h' t' s → kE o Q h')) : zz_J zp_P zt_tf zt_fd X d zm_152 44 [(0, .ref 49), (1, .int x1), (2, .long x2), (4, .int x4), (5, .int x5)] [.long y0] h Q := by
  unfold cf_152_44 at hf
  refine cb_152_44 hR  (fun c {h} hR => ?_) (fun c {h} hR => ?_)
  · rw [if_pos c] at hf
    exact cr_152_63 hd hR hf k
  · rw [if_neg c] at hf
    exact cr_152_52 hd hR hf k
def cf_152_38 (N : Nat) (X : Nat → Option zz_C) (x1 : Int32) (x2 : Int64) (x4 : Int32) (y0 : Int32) (t : cS) : kO := ko_call 3 (cf_166 N X  t) (fun g1 v1 => co_l v1 (fun y => cf_152_44 N X x1 x2 x4 y0 y g1))
theorem cr_152_38 {X : Nat → Option zz_C} {s : mS} {N : Nat} {d : Nat} (hd : 10 ≤ d) {Q : zz_O → zz_H → Prop} {x1 : Int32} {x2 : Int64} {x4 : Int32} {y0 : Int32} {h : zz_H} {t t' : cS} {o : kY} (hR : kR h t s) (hf : cf_152_38 N X x1 x2 x4 y0 t = some (t', o)) (k : (∀ h', kR h' t' s → kE o Q h')) : zz_J zp_P zt_tf zt_fd X d zm_152 38 [(0, .ref 49), (1, .int x1), (2, .long x2), (4, .int x4)] [.int y0] h Q := by
  unfold cf_152_38 at hf
  obtain ⟨d', rfl⟩ : ∃ d', d = d' + 1 := ⟨d - 1, by omega⟩
  refine cb_152_38 hR  (fun {h} hR => ?_)
  rcases ko_call_ok hf with ⟨g1, v1, er, hf⟩ | ⟨g1, er, hq⟩
  · obtain ⟨y, hv, hf2⟩ := co_l_ok hf
    clear hf
    have hf := hf2
    clear hf2
    subst hv
    refine cr_166 (by omega) hR er (fun h hR => ?_)
    exact cr_152_44 hd hR hf k
  · refine cr_166 (by omega) hR er (fun h hR => ?_)
    exact ko_thrown hq hR k
def cf_152_30 (N : Nat) (X : Nat → Option zz_C) (x1 : Int32) (x2 : Int64) (x4 : Int32) (t : cS) : kO := ko_call 2 (cf_128 N X x2 t) (fun g1 v1 => co_i v1 (fun y => cf_152_38 N X x1 x2 x4 y g1))
theorem cr_152_30 {X : Nat → Option zz_C} {s : mS} {N : Nat} {d : Nat} (hd : 10 ≤ d) {Q : zz_O → zz_H → Prop} {x1 : Int32} {x2 : Int64} {x4 : Int32} {h : zz_H} {t t' : cS} {o : kY} (hR : kR h t s) (hf : cf_152_30 N X x1 x2 x4 t = some (t', o)) (k : (∀ h', kR h' t' s → kE o Q h')) : zz_J zp_P zt_tf zt_fd X d zm_152 30 [(0, .ref 49), (1, .int x1), (2, .long x2), (4, .int x4)] [] h Q := by
  unfold cf_152_30 at hf
  obtain ⟨d', rfl⟩ : ∃ d', d = d' + 1 := ⟨d - 1, by omega⟩
  refine cb_152_30 hR  (fun {h} hR => ?_)
  rcases ko_call_ok hf with ⟨g1, v1, er, hf⟩ | ⟨g1, er, hq⟩
  · obtain ⟨y, hv, hf2⟩ := co_i_ok hf
    clear hf
    have hf := hf2
    clear hf2
    subst hv
    refine cr_128 (by omega) hR er (fun h hR => ?_)
    exact cr_152_38 hd hR hf k
  · refine cr_128 (by omega) hR er (fun h hR => ?_)
    exact ko_thrown hq hR k
def cf_152_27 (N : Nat) (X : Nat → Option zz_C) (x1 : Int32) (x2 : Int64) (x4 : Int32) (y0 : Int32) (t : cS) : kO := cf_152_38 N X x1 x2 x4 y0 t
theorem cr_152_27 {X : Nat → Option zz_C} {s : mS} {N : Nat} {d : Nat} (hd : 10 ≤ d) {Q : zz_O → zz_H → Prop} {x1 : Int32} {x2 : Int64} {x4 : Int32} {y0 : Int32} {h : zz_H} {t t' : cS} {o : kY} (hR : kR h t s) (hf : cf_152_27 N X x1 x2 x4 y0 t = some (t', o)) (k : (∀ h', kR h' t' s → kE o Q h')) : zz_J zp_P zt_tf zt_fd X d zm_152 27 [(0, .ref 49), (1, .int x1), (2, .long x2), (4, .int x4)] [.int y0] h Q := by
  unfold cf_152_27 at hf
  exact cb_152_27 hR  (fun hR => cr_152_38 hd hR hf k)
def cf_152_23 (N : Nat) (X : Nat → Option zz_C) (x1 : Int32) (x2 : Int64) (x4 : Int32) (t : cS) : kO := ko_call 1000 (cf_256 N X x2 t) (fun g1 v1 => co_i v1 (fun y => cf_152_27 N X x1 x2 x4 y g1))
theorem cr_152_23 {X : Nat → Option zz_C} {s : mS} {N : Nat} {d : Nat} (hd : 10 ≤ d) {Q : zz_O → zz_H → Prop} {x1 : Int32} {x2 : Int64} {x4 : Int32} {h : zz_H} {t t' : cS} {o : kY} (hR : kR h t s) (hf : cf_152_23 N X x1 x2 x4 t = some (t', o)) (k : (∀ h', kR h' t' s → kE o Q h')) : zz_J zp_P zt_tf zt_fd X d zm_152 23 [(0, .ref 49), (1, .int x1), (2, .long x2), (4, .int x4)] [] h Q := by
  unfold cf_152_23 at hf
  obtain ⟨d', rfl⟩ : ∃ d', d = d' + 1 := ⟨d - 1, by omega⟩
  refine cb_152_23 hR  (fun {h} hR => ?_)
  rcases ko_call_ok hf with ⟨g1, v1, er, hf⟩ | ⟨g1, er, hq⟩
  · obtain ⟨y, hv, hf2⟩ := co_i_ok hf
    clear hf
    have hf := hf2
    clear hf2
    subst hv
    refine cr_256 (by omega) hR er (fun h hR => ?_)
    exact cr_152_27 hd hR hf k
  · refine cr_256 (by omega) hR er (fun h hR => ?_)
    exact ko_thrown hq hR k
def cf_152_20 (N : Nat) (X : Nat → Option zz_C) (x1 : Int32) (x2 : Int64) (x4 : Int32) (y0 : Int32) (t : cS) : kO := if ¬ y0 = 0 then cf_152_30 N X x1 x2 x4 t else cf_152_23 N X x1 x2 x4 t
theorem cr_152_20 {X : Nat → Option zz_C} {s : mS} {N : Nat} {d : Nat} (hd : 10 ≤ d) {Q : zz_O → zz_H → Prop} {x1 : Int32} {x2 : Int64} {x4 : Int32} {y0 : Int32} {h : zz_H} {t t' : cS} {o : kY} (hR : kR h t s) (hf : cf_152_20 N X x1 x2 x4 y0 t = some (t', o)) (k : (∀ h', kR h' t' s → kE o Q h')) : zz_J zp_P zt_tf zt_fd X d zm_152 20 [(0, .ref 49), (1, .int x1), (2, .long x2), (4, .int x4)] [.int y0] h Q := by
  unfold cf_152_20 at hf
  refine cb_152_20 hR  (fun c {h} hR => ?_) (fun c {h} hR => ?_)
  · rw [if_pos c] at hf
    exact cr_152_30 hd hR hf k
  · rw [if_neg c] at hf
    exact cr_152_23 hd hR hf k
def cf_152_14 (N : Nat) (X : Nat → Option zz_C) (x1 : Int32) (x2 : Int64) (y0 : Int32) (t : cS) : kO := ko_call 1000 (cf_255 N X x2 t) (fun g1 v1 => co_i v1 (fun y => cf_152_20 N X x1 x2 y0 y g1))
theorem cr_152_14 {X : Nat → Option zz_C} {s : mS} {N : Nat} {d : Nat} (hd : 10 ≤ d) {Q : zz_O → zz_H → Prop} {x1 : Int32} {x2 : Int64} {y0 : Int32} {h : zz_H} {t t' : cS} {o : kY} (hR : kR h t s) (hf : cf_152_14 N X x1 x2 y0 t = some (t', o)) (k : (∀ h', kR h' t' s → kE o Q h')) : zz_J zp_P zt_tf zt_fd X d zm_152 14 [(0, .ref 49), (1, .int x1), (2, .long x2)] [.int y0] h Q := by
  unfold cf_152_14 at hf
  obtain ⟨d', rfl⟩ : ∃ d', d = d' + 1 := ⟨d - 1, by omega⟩
  refine cb_152_14 hR  (fun {h} hR => ?_)
  rcases ko_call_ok hf with ⟨g1, v1, er, hf⟩ | ⟨g1, er, hq⟩
  · obtain ⟨y, hv, hf2⟩ := co_i_ok hf
    clear hf
    have hf := hf2
    clear hf2
    subst hv
    refine cr_255 (by omega) hR er (fun h hR => ?_)
    exact cr_152_20 hd hR hf k
  · refine cr_255 (by omega) hR er (fun h hR => ?_)
    exact ko_thrown hq hR k
def cf_152_11 (N : Nat) (X : Nat → Option zz_C) (x1 : Int32) (x2 : Int64) (y0 : Int64) (t : cS) : kO := ko_call 1000 (cf_256 N X y0 t) (fun g1 v1 => co_i v1 (fun y => cf_152_14 N X x1 x2 y g1))
theorem cr_152_11 {X : Nat → Option zz_C} {s : mS} {N : Nat} {d : Nat} (hd : 10 ≤ d) {Q : zz_O → zz_H → Prop} {x1 : Int32} {x2 : Int64} {y0 : Int64} {h : zz_H} {t t' : cS} {o : kY} (hR : kR h t s) (hf : cf_152_11 N X x1 x2 y0 t = some (t', o)) (k : (∀ h', kR h' t' s → kE o Q h')) : zz_J zp_P zt_tf zt_fd X d zm_152 11 [(0, .ref 49), (1, .int x1), (2, .long x2)] [.long y0] h Q := by
  unfold cf_152_11 at hf
  obtain ⟨d', rfl⟩ : ∃ d', d = d' + 1 := ⟨d - 1, by omega⟩
  refine cb_152_11 hR  (fun {h} hR => ?_)
  rcases ko_call_ok hf with ⟨g1, v1, er, hf⟩ | ⟨g1, er, hq⟩
  · obtain ⟨y, hv, hf2⟩ := co_i_ok hf
    clear hf
    have hf := hf2
    clear hf2
    subst hv
    refine cr_256 (by omega) hR er (fun h hR => ?_)
    exact cr_152_14 hd hR hf k
  · refine cr_256 (by omega) hR er (fun h hR => ?_)
    exact ko_thrown hq hR k
def cf_152_5 (N : Nat) (X : Nat → Option zz_C) (x1 : Int32) (y0 : Int64) (t : cS) : kO := ko_call 3 (cf_167 N X 1 t) (fun g1 v1 => co_l v1 (fun y => cf_152_11 N X x1 y0 y g1))
theorem cr_152_5 {X : Nat → Option zz_C} {s : mS} {N : Nat} {d : Nat} (hd : 10 ≤ d) {Q : zz_O → zz_H → Prop} {x1 : Int32} {y0 : Int64} {h : zz_H} {t t' : cS} {o : kY} (hR : kR h t s) (hf : cf_152_5 N X x1 y0 t = some (t', o)) (k : (∀ h', kR h' t' s → kE o Q h')) : zz_J zp_P zt_tf zt_fd X d zm_152 5 [(0, .ref 49), (1, .int x1)] [.long y0] h Q := by
  unfold cf_152_5 at hf
  obtain ⟨d', rfl⟩ : ∃ d', d = d' + 1 := ⟨d - 1, by omega⟩
  refine cb_152_5 hR  (fun {h} hR => ?_)
  rcases ko_call_ok hf with ⟨g1, v1, er, hf⟩ | ⟨g1, er, hq⟩
  · obtain ⟨y, hv, hf2⟩ := co_l_ok hf
    clear hf
    have hf := hf2
    clear hf2
    subst hv
    refine cr_167 (by omega) hR er (fun h hR => ?_)
    exact cr_152_11 hd hR hf k
  · refine cr_167 (by omega) hR er (fun h hR => ?_)
    exact ko_thrown hq hR k
def cf_152_0 (N : Nat) (X : Nat → Option zz_C) (x1 : Int32) (t : cS) : kO := ko_call 3 (cf_167 N X 2 t) (fun g1 v1 => co_l v1 (fun y => cf_152_5 N X x1 y g1))
theorem cr_152_0 {X : Nat → Option zz_C} {s : mS} {N : Nat} {d : Nat} (hd : 10 ≤ d) {Q : zz_O → zz_H → Prop} {x1 : Int32} {h : zz_H} {t t' : cS} {o : kY} (hR : kR h t s) (hf : cf_152_0 N X x1 t = some (t', o)) (k : (∀ h', kR h' t' s → kE o Q h')) : zz_J zp_P zt_tf zt_fd X d zm_152 0 [(0, .ref 49), (1, .int x1)] [] h Q := by
  unfold cf_152_0 at hf
  obtain ⟨d', rfl⟩ : ∃ d', d = d' + 1 := ⟨d - 1, by omega⟩
  refine cb_152_0 hR  (fun {h} hR => ?_)
  rcases ko_call_ok hf with ⟨g1, v1, er, hf⟩ | ⟨g1, er, hq⟩
  · obtain ⟨y, hv, hf2⟩ := co_l_ok hf
    clear hf
    have hf := hf2
    clear hf2
    subst hv
    refine cr_167 (by omega) hR er (fun h hR => ?_)
    exact cr_152_5 hd hR hf k
  · refine cr_167 (by omega) hR er (fun h hR => ?_)
    exact ko_thrown hq hR k
/-- nextRound -/
def cf_152 (N : Nat) (X : Nat → Option zz_C) (x1 : Int32) (t : cS) : kO := cf_152_0 N X x1 t
theorem cr_152 {X : Nat → Option zz_C} {s : mS} {N : Nat} {d : Nat} (hd : 10 ≤ d) {Q : zz_O → zz_H → Prop} {x1 : Int32} {h : zz_H} {t t' : cS} {o : kY} (hR : kR h t s) (hf : cf_152 N X x1 t = some (t', o)) (k : ∀ h', kR h' t' s → kE o Q h') : zz_J zp_P zt_tf zt_fd X d zm_152 0 [(0, .ref 49), (1, .int x1)] [] h Q := by
  unfold cf_152 at hf
  exact zz_J.weak (cr_152_0 hd hR hf k) rfl ⟨rfl, rfl, trivial⟩
/-! yX3_raise (I)V -/
theorem cb_153_0 {X : Nat → Option zz_C} {h : zz_H} {t : cS} {s : mS} {d : Nat} {Q : zz_O → zz_H → Prop} {x1 : Int32} (hR : kR h t s) (k : ∀ {h : zz_H}, kR h t s → zz_J zp_P zt_tf zt_fd X d zm_166 0 [(0, .ref 49)] [] h (zz_after 3 Q (fun v h' => zz_J zp_P zt_tf zt_fd X (d + 1) zm_153 4 [(0, .ref 49), (1, .int x1)] (v.toList ++ []) h' Q))) : zz_J zp_P zt_tf zt_fd X (d + 1) zm_153 0 [(0, .ref 49), (1, .int x1)] [] h Q := by
  refine zz_J.n 1 rfl rfl rfl ?_
  refine zz_J.cv 4 (as := []) rfl rfl (hR.clO ko_49 (by decide) (by decide)) (by decide) (Nat.le_of_ble_eq_true rfl) (Nat.le_of_ble_eq_true rfl) rfl (Nat.le_of_ble_eq_true rfl) rfl ?_
  refine zz_J.mono (k hR) ?_
  intro o h' hE
  cases o with
  | inl v => exact zz_J.weak hE rfl ⟨rfl, rfl, trivial⟩
  | inr q => exact hE
theorem cb_153_4 {X : Nat → Option zz_C} {h : zz_H} {t : cS} {s : mS} {d : Nat} {Q : zz_O → zz_H → Prop} {x1 : Int32} {y0 : Int64} (hR : kR h t s) (k : ∀ {h : zz_H}, kR h t s → zz_J zp_P zt_tf zt_fd X d zm_255 0 [(0, .long y0)] [] h (zz_after 1000 Q (fun v h' => zz_J zp_P zt_tf zt_fd X (d + 1) zm_153 9 [(0, .ref 49), (1, .int x1), (2, .long y0)] (v.toList ++ []) h' Q))) : zz_J zp_P zt_tf zt_fd X (d + 1) zm_153 4 [(0, .ref 49), (1, .int x1)] [.long y0] h Q := by
  refine zz_J.n 5 rfl rfl rfl ?_
  refine zz_J.n 6 rfl rfl rfl ?_
  refine zz_J.cl (M' := zm_255) 9 rfl rfl (by decide) rfl rfl ⟨rfl, Nat.le_of_ble_eq_true rfl⟩ rfl ?_
  refine zz_J.mono (k hR) ?_
  intro o h' hE
  cases o with
  | inl v => exact zz_J.weak hE rfl ⟨rfl, rfl, rfl, trivial⟩
  | inr q => exact hE
theorem cb_153_9 {X : Nat → Option zz_C} {h : zz_H} {t : cS} {s : mS} {d : Nat} {Q : zz_O → zz_H → Prop} {x1 : Int32} {x2 : Int64} {y0 : Int32} (hR : kR h t s) (k1 : ¬ y0 = 0 → (∀ {h : zz_H}, kR h t s → zz_J zp_P zt_tf zt_fd X d zm_153 26 [(0, .ref 49), (1, .int x1)] [] h Q)) (k2 : ¬ ¬ y0 = 0 → (∀ {h : zz_H}, kR h t s → zz_J zp_P zt_tf zt_fd X d zm_153 12 [(0, .ref 49), (1, .int x1), (2, .long x2)] [] h Q)) : zz_J zp_P zt_tf zt_fd X d zm_153 9 [(0, .ref 49), (1, .int x1), (2, .long x2)] [.int y0] h Q := by
  refine zz_J.b1 26 12 (A := ¬ y0 = 0) rfl (zz_cond_ne _ _) (by decide) rfl rfl (fun c => ?_) (fun c => ?_)
  · exact zz_J.weak (k1 c hR) rfl ⟨rfl, rfl, trivial⟩
  · exact zz_J.weak (k2 c hR) rfl ⟨rfl, rfl, rfl, trivial⟩
theorem cb_153_12 {X : Nat → Option zz_C} {h : zz_H} {t : cS} {s : mS} {d : Nat} {Q : zz_O → zz_H → Prop} {x1 : Int32} {x2 : Int64} (hR : kR h t s) (k : ∀ {h : zz_H}, kR h t s → zz_J zp_P zt_tf zt_fd X d zm_256 0 [(0, .long x2)] [] h (zz_after 1000 Q (fun v h' => zz_J zp_P zt_tf zt_fd X (d + 1) zm_153 20 [] (v.toList ++ [.int x1, .int 9, .ref 49]) h' Q))) : zz_J zp_P zt_tf zt_fd X (d + 1) zm_153 12 [(0, .ref 49), (1, .int x1), (2, .long x2)] [] h Q := by
  refine zz_J.n 13 rfl rfl rfl ?_
  refine zz_J.c 15 (.int 9) rfl rfl rfl rfl ?_
  refine zz_J.n 16 rfl rfl rfl ?_
  refine zz_J.n 17 rfl rfl rfl ?_
  refine zz_J.cl (M' := zm_256) 20 rfl rfl (by decide) rfl rfl ⟨rfl, Nat.le_of_ble_eq_true rfl⟩ rfl ?_
  refine zz_J.mono (k hR) ?_
  intro o h' hE
  cases o with
  | inl v => exact zz_J.weak hE rfl trivial
  | inr q => exact hE
theorem cb_153_20 {X : Nat → Option zz_C} {h : zz_H} {t : cS} {s : mS} {d : Nat} {Q : zz_O → zz_H → Prop} {y1 : Int32} {y2 : Int32} {y3 : Int32} (hR : kR h t s) (k : ∀ {h : zz_H}, kR h t s → zz_J zp_P zt_tf zt_fd X d zm_156 0 [(0, .ref 49), (1, .int y1), (2, .int y2), (3, .int y3)] [] h (zz_after 3 Q (fun v h' => zz_J zp_P zt_tf zt_fd X (d + 1) zm_153 23 [] (v.toList ++ []) h' Q))) : zz_J zp_P zt_tf zt_fd X (d + 1) zm_153 20 [] [.int y3, .int y2, .int y1, .ref 49] h Q := by
  refine zz_J.cv 23 (as := []) rfl rfl (hR.clO ko_49 (by decide) (by decide)) (by decide) (Nat.le_of_ble_eq_true rfl) (Nat.le_of_ble_eq_true rfl) rfl (Nat.le_of_ble_eq_true rfl) rfl ?_
  refine zz_J.mono (k hR) ?_
  intro o h' hE
  cases o with
  | inl v => exact zz_J.weak hE rfl trivial
  | inr q => exact hE
theorem cb_153_23 {X : Nat → Option zz_C} {h : zz_H} {t : cS} {s : mS} {d : Nat} {Q : zz_O → zz_H → Prop}  (hR : kR h t s) (k : ∀ {h : zz_H}, kR h t s → zz_J zp_P zt_tf zt_fd X d zm_153 33 [] [] h Q) : zz_J zp_P zt_tf zt_fd X d zm_153 23 [] [] h Q := by
  refine zz_J.n 33 rfl rfl rfl ?_
  exact zz_J.weak (k hR) rfl trivial
theorem cb_153_26 {X : Nat → Option zz_C} {h : zz_H} {t : cS} {s : mS} {d : Nat} {Q : zz_O → zz_H → Prop} {x1 : Int32} (hR : kR h t s) (k : ∀ {h : zz_H}, kR h t s → zz_J zp_P zt_tf zt_fd X d zm_156 0 [(0, .ref 49), (1, .int 3), (2, .int x1), (3, .int 0)] [] h (zz_after 3 Q (fun v h' => zz_J zp_P zt_tf zt_fd X (d + 1) zm_153 33 [] (v.toList ++ []) h' Q))) : zz_J zp_P zt_tf zt_fd X (d + 1) zm_153 26 [(0, .ref 49), (1, .int x1)] [] h Q := by
  refine zz_J.n 27 rfl rfl rfl ?_
  refine zz_J.c 28 (.int 3) rfl rfl rfl rfl ?_
  refine zz_J.n 29 rfl rfl rfl ?_
  refine zz_J.c 30 (.int 0) rfl rfl rfl rfl ?_
  refine zz_J.cv 33 (as := []) rfl rfl (hR.clO ko_49 (by decide) (by decide)) (by decide) (Nat.le_of_ble_eq_true rfl) (Nat.le_of_ble_eq_true rfl) rfl (Nat.le_of_ble_eq_true rfl) rfl ?_
  refine zz_J.mono (k hR) ?_
  intro o h' hE
  cases o with
  | inl v => exact zz_J.weak hE rfl trivial
  | inr q => exact hE
theorem cb_153_33 {X : Nat → Option zz_C} {h : zz_H} {t : cS} {s : mS} {d : Nat} {Q : zz_O → zz_H → Prop}  (hR : kR h t s) (k : ∀ {h : zz_H}, kR h t s → Q (.inl none) h) : zz_J zp_P zt_tf zt_fd X d zm_153 33 [] [] h Q := by
  refine zz_J.ret rfl rfl rfl ?_
  exact k hR
def cf_153_33 (N : Nat) (X : Nat → Option zz_C)  (t : cS) : kO := some (t, .inl none)
theorem cr_153_33 {X : Nat → Option zz_C} {s : mS} {N : Nat} {d : Nat} (hd : 3 ≤ d) {Q : zz_O → zz_H → Prop}  {h : zz_H} {t t' : cS} {o : kY} (hR : kR h t s) (hf : cf_153_33 N X  t = some (t', o)) (k : (∀ h', kR h' t' s → kE o Q h')) : zz_J zp_P zt_tf zt_fd X d zm_153 33 [] [] h Q := by
  unfold cf_153_33 at hf
  cases hf
  exact cb_153_33 hR  (fun {h} hR => k h hR)
def cf_153_26 (N : Nat) (X : Nat → Option zz_C) (x1 : Int32) (t : cS) : kO := ko_call 3 (cf_156 N X 3 x1 0 t) (fun g1 v1 => co_v v1 (cf_153_33 N X  g1))
theorem cr_153_26 {X : Nat → Option zz_C} {s : mS} {N : Nat} {d : Nat} (hd : 3 ≤ d) {Q : zz_O → zz_H → Prop} {x1 : Int32} {h : zz_H} {t t' : cS} {o : kY} (hR : kR h t s) (hf : cf_153_26 N X x1 t = some (t', o)) (k : (∀ h', kR h' t' s → kE o Q h')) : zz_J zp_P zt_tf zt_fd X d zm_153 26 [(0, .ref 49), (1, .int x1)] [] h Q := by
  unfold cf_153_26 at hf
  obtain ⟨d', rfl⟩ : ∃ d', d = d' + 1 := ⟨d - 1, by omega⟩
  refine cb_153_26 hR  (fun {h} hR => ?_)
  rcases ko_call_ok hf with ⟨g1, v1, er, hf⟩ | ⟨g1, er, hq⟩
  · obtain ⟨hv, hf2⟩ := co_v_ok hf
    clear hf
    have hf := hf2
    clear hf2
    subst hv
    refine cr_156 (by omega) hR er (fun h hR => ?_)
    exact cr_153_33 hd hR hf k
  · refine cr_156 (by omega) hR er (fun h hR => ?_)
    exact ko_thrown hq hR k
def cf_153_23 (N : Nat) (X : Nat → Option zz_C)  (t : cS) : kO := cf_153_33 N X  t
theorem cr_153_23 {X : Nat → Option zz_C} {s : mS} {N : Nat} {d : Nat} (hd : 3 ≤ d) {Q : zz_O → zz_H → Prop}  {h : zz_H} {t t' : cS} {o : kY} (hR : kR h t s) (hf : cf_153_23 N X  t = some (t', o)) (k : (∀ h', kR h' t' s → kE o Q h')) : zz_J zp_P zt_tf zt_fd X d zm_153 23 [] [] h Q := by
  unfold cf_153_23 at hf
  exact cb_153_23 hR  (fun hR => cr_153_33 hd hR hf k)
def cf_153_20 (N : Nat) (X : Nat → Option zz_C) (y1 : Int32) (y2 : Int32) (y3 : Int32) (t : cS) : kO := ko_call 3 (cf_156 N X y1 y2 y3 t) (fun g1 v1 => co_v v1 (cf_153_23 N X  g1))
theorem cr_153_20 {X : Nat → Option zz_C} {s : mS} {N : Nat} {d : Nat} (hd : 3 ≤ d) {Q : zz_O → zz_H → Prop} {y1 : Int32} {y2 : Int32} {y3 : Int32} {h : zz_H} {t t' : cS} {o : kY} (hR : kR h t s) (hf : cf_153_20 N X y1 y2 y3 t = some (t', o)) (k : (∀ h', kR h' t' s → kE o Q h')) : zz_J zp_P zt_tf zt_fd X d zm_153 20 [] [.int y3, .int y2, .int y1, .ref 49] h Q := by
  unfold cf_153_20 at hf
  obtain ⟨d', rfl⟩ : ∃ d', d = d' + 1 := ⟨d - 1, by omega⟩
  refine cb_153_20 hR  (fun {h} hR => ?_)
  rcases ko_call_ok hf with ⟨g1, v1, er, hf⟩ | ⟨g1, er, hq⟩
  · obtain ⟨hv, hf2⟩ := co_v_ok hf
    clear hf
    have hf := hf2
    clear hf2
    subst hv
    refine cr_156 (by omega) hR er (fun h hR => ?_)
    exact cr_153_23 hd hR hf k
  · refine cr_156 (by omega) hR er (fun h hR => ?_)
    exact ko_thrown hq hR k
def cf_153_12 (N : Nat) (X : Nat → Option zz_C) (x1 : Int32) (x2 : Int64) (t : cS) : kO := ko_call 1000 (cf_256 N X x2 t) (fun g1 v1 => co_i v1 (fun y => cf_153_20 N X 9 x1 y g1))
theorem cr_153_12 {X : Nat → Option zz_C} {s : mS} {N : Nat} {d : Nat} (hd : 3 ≤ d) {Q : zz_O → zz_H → Prop} {x1 : Int32} {x2 : Int64} {h : zz_H} {t t' : cS} {o : kY} (hR : kR h t s) (hf : cf_153_12 N X x1 x2 t = some (t', o)) (k : (∀ h', kR h' t' s → kE o Q h')) : zz_J zp_P zt_tf zt_fd X d zm_153 12 [(0, .ref 49), (1, .int x1), (2, .long x2)] [] h Q := by
  unfold cf_153_12 at hf
  obtain ⟨d', rfl⟩ : ∃ d', d = d' + 1 := ⟨d - 1, by omega⟩
  refine cb_153_12 hR  (fun {h} hR => ?_)
  rcases ko_call_ok hf with ⟨g1, v1, er, hf⟩ | ⟨g1, er, hq⟩
  · obtain ⟨y, hv, hf2⟩ := co_i_ok hf
    clear hf
    have hf := hf2
    clear hf2
    subst hv
    refine cr_256 (by omega) hR er (fun h hR => ?_)
    exact cr_153_20 hd hR hf k
  · refine cr_256 (by omega) hR er (fun h hR => ?_)
    exact ko_thrown hq hR k
def cf_153_9 (N : Nat) (X : Nat → Option zz_C) (x1 : Int32) (x2 : Int64) (y0 : Int32) (t : cS) : kO := if ¬ y0 = 0 then cf_153_26 N X x1 t else cf_153_12 N X x1 x2 t
theorem cr_153_9 {X : Nat → Option zz_C} {s : mS} {N : Nat} {d : Nat} (hd : 3 ≤ d) {Q : zz_O → zz_H → Prop} {x1 : Int32} {x2 : Int64} {y0 : Int32} {h : zz_H} {t t' : cS} {o : kY} (hR : kR h t s) (hf : cf_153_9 N X x1 x2 y0 t = some (t', o)) (k : (∀ h', kR h' t' s → kE o Q h')) : zz_J zp_P zt_tf zt_fd X d zm_153 9 [(0, .ref 49), (1, .int x1), (2, .long x2)] [.int y0] h Q := by
  unfold cf_153_9 at hf
  refine cb_153_9 hR  (fun c {h} hR => ?_) (fun c {h} hR => ?_)
  · rw [if_pos c] at hf
    exact cr_153_26 hd hR hf k
  · rw [if_neg c] at hf
    exact cr_153_12 hd hR hf k
def cf_153_4 (N : Nat) (X : Nat → Option zz_C) (x1 : Int32) (y0 : Int64) (t : cS) : kO := ko_call 1000 (cf_255 N X y0 t) (fun g1 v1 => co_i v1 (fun y => cf_153_9 N X x1 y0 y g1))
theorem cr_153_4 {X : Nat → Option zz_C} {s : mS} {N : Nat} {d : Nat} (hd : 3 ≤ d) {Q : zz_O → zz_H → Prop} {x1 : Int32} {y0 : Int64} {h : zz_H} {t t' : cS} {o : kY} (hR : kR h t s) (hf : cf_153_4 N X x1 y0 t = some (t', o)) (k : (∀ h', kR h' t' s → kE o Q h')) : zz_J zp_P zt_tf zt_fd X d zm_153 4 [(0, .ref 49), (1, .int x1)] [.long y0] h Q := by
  unfold cf_153_4 at hf
  obtain ⟨d', rfl⟩ : ∃ d', d = d' + 1 := ⟨d - 1, by omega⟩
  refine cb_153_4 hR  (fun {h} hR => ?_)
  rcases ko_call_ok hf with ⟨g1, v1, er, hf⟩ | ⟨g1, er, hq⟩
  · obtain ⟨y, hv, hf2⟩ := co_i_ok hf
    clear hf
    have hf := hf2
    clear hf2
    subst hv
    refine cr_255 (by omega) hR er (fun h hR => ?_)
    exact cr_153_9 hd hR hf k
  · refine cr_255 (by omega) hR er (fun h hR => ?_)
    exact ko_thrown hq hR k
def cf_153_0 (N : Nat) (X : Nat → Option zz_C) (x1 : Int32) (t : cS) : kO := ko_call 3 (cf_166 N X  t) (fun g1 v1 => co_l v1 (fun y => cf_153_4 N X x1 y g1))
theorem cr_153_0 {X : Nat → Option zz_C} {s : mS} {N : Nat} {d : Nat} (hd : 3 ≤ d) {Q : zz_O → zz_H → Prop} {x1 : Int32} {h : zz_H} {t t' : cS} {o : kY} (hR : kR h t s) (hf : cf_153_0 N X x1 t = some (t', o)) (k : (∀ h', kR h' t' s → kE o Q h')) : zz_J zp_P zt_tf zt_fd X d zm_153 0 [(0, .ref 49), (1, .int x1)] [] h Q := by
  unfold cf_153_0 at hf
  obtain ⟨d', rfl⟩ : ∃ d', d = d' + 1 := ⟨d - 1, by omega⟩
  refine cb_153_0 hR  (fun {h} hR => ?_)
  rcases ko_call_ok hf with ⟨g1, v1, er, hf⟩ | ⟨g1, er, hq⟩
  · obtain ⟨y, hv, hf2⟩ := co_l_ok hf
    clear hf
    have hf := hf2
    clear hf2
    subst hv
    refine cr_166 (by omega) hR er (fun h hR => ?_)
    exact cr_153_4 hd hR hf k
  · refine cr_166 (by omega) hR er (fun h hR => ?_)
    exact ko_thrown hq hR k
/-- raise -/
def cf_153 (N : Nat) (X : Nat → Option zz_C) (x1 : Int32) (t : cS) : kO := cf_153_0 N X x1 t
theorem cr_153 {X : Nat → Option zz_C} {s : mS} {N : Nat} {d : Nat} (hd : 3 ≤ d) {Q : zz_O → zz_H → Prop} {x1 : Int32} {h : zz_H} {t t' : cS} {o : kY} (hR : kR h t s) (hf : cf_153 N X x1 t = some (t', o)) (k : ∀ h', kR h' t' s → kE o Q h') : zz_J zp_P zt_tf zt_fd X d zm_153 0 [(0, .ref 49), (1, .int x1)] [] h Q := by
  unfold cf_153 at hf
  exact zz_J.weak (cr_153_0 hd hR hf k) rfl ⟨rfl, rfl, trivial⟩
/-! yX3_beginTry (I)V -/
theorem cb_154_0 {X : Nat → Option zz_C} {h : zz_H} {t : cS} {s : mS} {d : Nat} {Q : zz_O → zz_H → Prop} {x1 : Int32} (hR : kR h t s) (k1 : ¬ (kI t 49 15) = (Int32.ofNat (kA t 55).1) → (∀ {h : zz_H}, kR h t s → zz_J zp_P zt_tf zt_fd X d zm_154 63 [(0, .ref 49), (1, .int x1)] [] h Q)) (k2 : ¬ ¬ (kI t 49 15) = (Int32.ofNat (kA t 55).1) → (∀ {h : zz_H}, kR h t s → zz_J zp_P zt_tf zt_fd X d zm_154 12 [(0, .ref 49), (1, .int x1)] [] h Q)) : zz_J zp_P zt_tf zt_fd X d zm_154 0 [(0, .ref 49), (1, .int x1)] [] h Q := by
  refine zz_J.n 1 rfl rfl rfl ?_
  refine zz_J.g 4 rfl (hR.gv (v := .int (kI t 49 15)) ko_49 (by decide) rfl) rfl ?_
  refine zz_J.n 5 rfl rfl rfl ?_
  refine zz_J.g 8 rfl (hR.gv (v := .ref (kD t 55)) ko_49 (by decide) rfl) rfl ?_
  refine zz_J.ln 9 rfl (hR.ln (w := (Int32.ofNat (kA t 55).1)) ka_55 rfl (by decide) rfl) rfl ?_
  refine zz_J.b2 63 12 (A := ¬ (kI t 49 15) = (Int32.ofNat (kA t 55).1)) rfl (zz_cond_ne _ _) (by decide) rfl rfl (fun c => ?_) (fun c => ?_)
  · exact zz_J.weak (k1 c hR) rfl ⟨rfl, rfl, trivial⟩
  · exact zz_J.weak (k2 c hR) rfl ⟨rfl, rfl, trivial⟩
theorem cb_154_12 {X : Nat → Option zz_C} {h : zz_H} {t : cS} {s : mS} {d : Nat} {Q : zz_O → zz_H → Prop} {x1 : Int32} (hR : kR h t s) (e0 : ¬ (2 * (kI t 49 15)) < 0 ∧ (Int32.toNatClampNeg (2 * (kI t 49 15))) ≤ 1000000 ∧ (kA t 55).1 ≤ 1000000 ∧ ¬ (2 * (kI t 49 15)) = Int32.ofNat (kA t 55).1 ∧ (kN t) + 1 < zz_out) (k : ∀ {h : zz_H}, kR h (jMv (jNI t 1 (Int32.toNatClampNeg (2 * (kI t 49 15))) (kcp 0 (kA t 55).2 (Nat.min (kA t 55).1 (Int32.toNatClampNeg (2 * (kI t 49 15)))))) 55) s → zz_J zp_P zt_tf zt_fd X (d + 9) zm_154 29 [(0, .ref 49), (1, .int x1)] [] h Q) : zz_J zp_P zt_tf zt_fd X (d + 9) zm_154 12 [(0, .ref 49), (1, .int x1)] [] h Q := by
  refine zz_J.n 13 rfl rfl rfl ?_
  refine zz_J.n 14 rfl rfl rfl ?_
  refine zz_J.g 17 rfl (hR.gv (v := .ref (kD t 55)) ko_49 (by decide) rfl) rfl ?_
  refine zz_J.c 18 (.int 2) rfl rfl rfl rfl ?_
  refine zz_J.n 19 rfl rfl rfl ?_
  refine zz_J.g 22 rfl (hR.gv (v := .int (kI t 49 15)) ko_49 (by decide) rfl) rfl ?_
  refine zz_J.n 23 rfl rfl rfl ?_
  refine kq_copyi 26 rfl rfl hR (by omega) ka_55 rfl e0 (Nat.le_of_ble_eq_true rfl) (fun {h} hR => ?_)
  obtain ⟨h1, eq1, hR⟩ := hR.pMvi (k := 55) rfl (by decide) ko_49 (kpa_49_12) (Nat.le_of_ble_eq_true rfl) rfl rfl rfl ka_55
  refine zz_J.pv 29 rfl eq1 rfl ?_
  clear eq1
  exact zz_J.weak (k hR) rfl ⟨rfl, rfl, trivial⟩
theorem cb_154_29 {X : Nat → Option zz_C} {h : zz_H} {t : cS} {s : mS} {d : Nat} {Q : zz_O → zz_H → Prop} {x1 : Int32} (hR : kR h t s) (e0 : ¬ (2 * (kI t 49 15)) < 0 ∧ (Int32.toNatClampNeg (2 * (kI t 49 15))) ≤ 1000000 ∧ (kA t 56).1 ≤ 1000000 ∧ ¬ (2 * (kI t 49 15)) = Int32.ofNat (kA t 56).1 ∧ (kN t) + 1 < zz_out) (k : ∀ {h : zz_H}, kR h (jMv (jNI t 1 (Int32.toNatClampNeg (2 * (kI t 49 15))) (kcp 0 (kA t 56).2 (Nat.min (kA t 56).1 (Int32.toNatClampNeg (2 * (kI t 49 15)))))) 56) s → zz_J zp_P zt_tf zt_fd X (d + 9) zm_154 46 [(0, .ref 49), (1, .int x1)] [] h Q) : zz_J zp_P zt_tf zt_fd X (d + 9) zm_154 29 [(0, .ref 49), (1, .int x1)] [] h Q := by
  refine zz_J.n 30 rfl rfl rfl ?_
  refine zz_J.n 31 rfl rfl rfl ?_
  refine zz_J.g 34 rfl (hR.gv (v := .ref (kD t 56)) ko_49 (by decide) rfl) rfl ?_
  refine zz_J.c 35 (.int 2) rfl rfl rfl rfl ?_
  refine zz_J.n 36 rfl rfl rfl ?_
  refine zz_J.g 39 rfl (hR.gv (v := .int (kI t 49 15)) ko_49 (by decide) rfl) rfl ?_
  refine zz_J.n 40 rfl rfl rfl ?_
  refine kq_copyi 43 rfl rfl hR (by omega) ka_56 rfl e0 (Nat.le_of_ble_eq_true rfl) (fun {h} hR => ?_)
  obtain ⟨h1, eq1, hR⟩ := hR.pMvi (k := 56) rfl (by decide) ko_49 (kpa_49_13) (Nat.le_of_ble_eq_true rfl) rfl rfl rfl ka_56
  refine zz_J.pv 46 rfl eq1 rfl ?_
  clear eq1
  exact zz_J.weak (k hR) rfl ⟨rfl, rfl, trivial⟩
theorem cb_154_46 {X : Nat → Option zz_C} {h : zz_H} {t : cS} {s : mS} {d : Nat} {Q : zz_O → zz_H → Prop} {x1 : Int32} (hR : kR h t s) (e0 : ¬ (2 * (kI t 49 15)) < 0 ∧ (Int32.toNatClampNeg (2 * (kI t 49 15))) ≤ 1000000 ∧ (kA t 57).1 ≤ 1000000 ∧ ¬ (2 * (kI t 49 15)) = Int32.ofNat (kA t 57).1 ∧ (kN t) + 1 < zz_out) (k : ∀ {h : zz_H}, kR h (jMv (jNI t 1 (Int32.toNatClampNeg (2 * (kI t 49 15))) (kcp 0 (kA t 57).2 (Nat.min (kA t 57).1 (Int32.toNatClampNeg (2 * (kI t 49 15)))))) 57) s → zz_J zp_P zt_tf zt_fd X (d + 9) zm_154 63 [(0, .ref 49), (1, .int x1)] [] h Q) : zz_J zp_P zt_tf zt_fd X (d + 9) zm_154 46 [(0, .ref 49), (1, .int x1)] [] h Q := by
  refine zz_J.n 47 rfl rfl rfl ?_
  refine zz_J.n 48 rfl rfl rfl ?_
  refine zz_J.g 51 rfl (hR.gv (v := .ref (kD t 57)) ko_49 (by decide) rfl) rfl ?_
  refine zz_J.c 52 (.int 2) rfl rfl rfl rfl ?_
  refine zz_J.n 53 rfl rfl rfl ?_
  refine zz_J.g 56 rfl (hR.gv (v := .int (kI t 49 15)) ko_49 (by decide) rfl) rfl ?_
  refine zz_J.n 57 rfl rfl rfl ?_
  refine kq_copyi 60 rfl rfl hR (by omega) ka_57 rfl e0 (Nat.le_of_ble_eq_true rfl) (fun {h} hR => ?_)
  obtain ⟨h1, eq1, hR⟩ := hR.pMvi (k := 57) rfl (by decide) ko_49 (kpa_49_14) (Nat.le_of_ble_eq_true rfl) rfl rfl rfl ka_57
  refine zz_J.pv 63 rfl eq1 rfl ?_
  clear eq1
  exact zz_J.weak (k hR) rfl ⟨rfl, rfl, trivial⟩
theorem cb_154_63 {X : Nat → Option zz_C} {h : zz_H} {t : cS} {s : mS} {d : Nat} {Q : zz_O → zz_H → Prop} {x1 : Int32} (hR : kR h t s) (e0 : ¬ ((kI t 49 15) < 0 ∨ (kA t 55).1 ≤ (Int32.toNatClampNeg (kI t 49 15)))) (e1 : ¬ ((kI t 49 15) < 0 ∨ (kA (jA t 55 (upd (kA t 55).2 (Int32.toNatClampNeg (kI t 49 15)) (kI t 49 11))) 56).1 ≤ (Int32.toNatClampNeg (kI t 49 15)))) (e2 : ¬ ((kI t 49 15) < 0 ∨ (kA (jA (jA t 55 (upd (kA t 55).2 (Int32.toNatClampNeg (kI t 49 15)) (kI t 49 11))) 56 (upd (kA (jA t 55 (upd (kA t 55).2 (Int32.toNatClampNeg (kI t 49 15)) (kI t 49 11))) 56).2 (Int32.toNatClampNeg (kI t 49 15)) (kI t 49 8))) 57).1 ≤ (Int32.toNatClampNeg (kI t 49 15)))) (k : ∀ {h : zz_H}, kR h (jI (jA (jA (jA t 55 (upd (kA t 55).2 (Int32.toNatClampNeg (kI t 49 15)) (kI t 49 11))) 56 (upd (kA (jA t 55 (upd (kA t 55).2 (Int32.toNatClampNeg (kI t 49 15)) (kI t 49 11))) 56).2 (Int32.toNatClampNeg (kI t 49 15)) (kI t 49 8))) 57 (upd (kA (jA (jA t 55 (upd (kA t 55).2 (Int32.toNatClampNeg (kI t 49 15)) (kI t 49 11))) 56 (upd (kA (jA t 55 (upd (kA t 55).2 (Int32.toNatClampNeg (kI t 49 15)) (kI t 49 11))) 56).2 (Int32.toNatClampNeg (kI t 49 15)) (kI t 49 8))) 57).2 (Int32.toNatClampNeg (kI t 49 15)) x1)) 49 15 ((kI t 49 15) + 1)) s → Q (.inl none) h) : zz_J zp_P zt_tf zt_fd X d zm_154 63 [(0, .ref 49), (1, .int x1)] [] h Q := by
  refine zz_J.n 64 rfl rfl rfl ?_
  refine zz_J.g 67 rfl (hR.gv (v := .ref (kD t 55)) ko_49 (by decide) rfl) rfl ?_
  refine zz_J.n 68 rfl rfl rfl ?_
  refine zz_J.g 71 rfl (hR.gv (v := .int (kI t 49 15)) ko_49 (by decide) rfl) rfl ?_
  refine zz_J.n 72 rfl rfl rfl ?_
  refine zz_J.g 75 rfl (hR.gv (v := .int (kI t 49 11)) ko_49 (by decide) rfl) rfl ?_
  obtain ⟨h1, eq1, hR⟩ := hR.si (x := (kI t 49 11)) ka_55 rfl e0
  refine zz_J.si 76 rfl eq1 rfl ?_
  clear eq1
  refine zz_J.n 77 rfl rfl rfl ?_
  refine zz_J.g 80 rfl (hR.gv (v := .ref (kD t 56)) ko_49 (by decide) rfl) rfl ?_
  refine zz_J.n 81 rfl rfl rfl ?_
  refine zz_J.g 84 rfl (hR.gv (v := .int (kI t 49 15)) ko_49 (by decide) rfl) rfl ?_
  refine zz_J.n 85 rfl rfl rfl ?_
  refine zz_J.g 88 rfl (hR.gv (v := .int (kI t 49 8)) ko_49 (by decide) rfl) rfl ?_
  obtain ⟨h1, eq1, hR⟩ := hR.si (x := (kI t 49 8)) ka_56 rfl e1
  refine zz_J.si 89 rfl eq1 rfl ?_
  clear eq1
  refine zz_J.n 90 rfl rfl rfl ?_
  refine zz_J.g 93 rfl (hR.gv (v := .ref (kD t 57)) ko_49 (by decide) rfl) rfl ?_
  refine zz_J.n 94 rfl rfl rfl ?_
  refine zz_J.g 97 rfl (hR.gv (v := .int (kI t 49 15)) ko_49 (by decide) rfl) rfl ?_
  refine zz_J.n 98 rfl rfl rfl ?_
  obtain ⟨h1, eq1, hR⟩ := hR.si (x := x1) ka_57 rfl e2
  refine zz_J.si 99 rfl eq1 rfl ?_
  clear eq1
  refine zz_J.n 100 rfl rfl rfl ?_
  refine zz_J.n 101 rfl rfl rfl ?_
  refine zz_J.g 104 rfl (hR.gv (v := .int (kI t 49 15)) ko_49 (by decide) rfl) rfl ?_
  refine zz_J.c 105 (.int 1) rfl rfl rfl rfl ?_
  refine zz_J.n 106 rfl rfl rfl ?_
  obtain ⟨h1, eq1, hR⟩ := hR.pI (x := ((kI t 49 15) + 1)) (by decide) ko_49 (kpi_49_15 _) (Nat.le_of_ble_eq_true rfl) rfl
  refine zz_J.pv 109 rfl eq1 rfl ?_
  clear eq1
  refine zz_J.ret rfl rfl rfl ?_
  exact k hR
def cf_154_63 (N : Nat) (X : Nat → Option zz_C) (x1 : Int32) (t : cS) : kO := if ¬ ((kI t 49 15) < 0 ∨ (kA t 55).1 ≤ (Int32.toNatClampNeg (kI t 49 15))) then (if ¬ ((kI t 49 15) < 0 ∨ (kA (jA t 55 (upd (kA t 55).2 (Int32.toNatClampNeg (kI t 49 15)) (kI t 49 11))) 56).1 ≤ (Int32.toNatClampNeg (kI t 49 15))) then (if ¬ ((kI t 49 15) < 0 ∨ (kA (jA (jA t 55 (upd (kA t 55).2 (Int32.toNatClampNeg (kI t 49 15)) (kI t 49 11))) 56 (upd (kA (jA t 55 (upd (kA t 55).2 (Int32.toNatClampNeg (kI t 49 15)) (kI t 49 11))) 56).2 (Int32.toNatClampNeg (kI t 49 15)) (kI t 49 8))) 57).1 ≤ (Int32.toNatClampNeg (kI t 49 15))) then (some ((jI (jA (jA (jA t 55 (upd (kA t 55).2 (Int32.toNatClampNeg (kI t 49 15)) (kI t 49 11))) 56 (upd (kA (jA t 55 (upd (kA t 55).2 (Int32.toNatClampNeg (kI t 49 15)) (kI t 49 11))) 56).2 (Int32.toNatClampNeg (kI t 49 15)) (kI t 49 8))) 57 (upd (kA (jA (jA t 55 (upd (kA t 55).2 (Int32.toNatClampNeg (kI t 49 15)) (kI t 49 11))) 56 (upd (kA (jA t 55 (upd (kA t 55).2 (Int32.toNatClampNeg (kI t 49 15)) (kI t 49 11))) 56).2 (Int32.toNatClampNeg (kI t 49 15)) (kI t 49 8))) 57).2 (Int32.toNatClampNeg (kI t 49 15)) x1)) 49 15 ((kI t 49 15) + 1)), .inl none)) else none) else none) else none
theorem cr_154_63 {X : Nat → Option zz_C} {s : mS} {N : Nat} {d : Nat} (hd : 9 ≤ d) {Q : zz_O → zz_H → Prop} {x1 : Int32} {h : zz_H} {t t' : cS} {o : kY} (hR : kR h t s) (hf : cf_154_63 N X x1 t = some (t', o)) (k : (∀ h', kR h' t' s → kE o Q h')) : zz_J zp_P zt_tf zt_fd X d zm_154 63 [(0, .ref 49), (1, .int x1)] [] h Q := by
  unfold cf_154_63 at hf
  obtain ⟨e0, hf⟩ := ko_if hf
  obtain ⟨e1, hf⟩ := ko_if hf
  obtain ⟨e2, hf⟩ := ko_if hf
  cases hf
  exact cb_154_63 hR e0 e1 e2 (fun {h} hR => k h hR)
def cf_154_46 (N : Nat) (X : Nat → Option zz_C) (x1 : Int32) (t : cS) : kO := if ¬ (2 * (kI t 49 15)) < 0 ∧ (Int32.toNatClampNeg (2 * (kI t 49 15))) ≤ 1000000 ∧ (kA t 57).1 ≤ 1000000 ∧ ¬ (2 * (kI t 49 15)) = Int32.ofNat (kA t 57).1 ∧ (kN t) + 1 < zz_out then (cf_154_63 N X x1 (jMv (jNI t 1 (Int32.toNatClampNeg (2 * (kI t 49 15))) (kcp 0 (kA t 57).2 (Nat.min (kA t 57).1 (Int32.toNatClampNeg (2 * (kI t 49 15)))))) 57)) else none
theorem cr_154_46 {X : Nat → Option zz_C} {s : mS} {N : Nat} {d : Nat} (hd : 9 ≤ d) {Q : zz_O → zz_H → Prop} {x1 : Int32} {h : zz_H} {t t' : cS} {o : kY} (hR : kR h t s) (hf : cf_154_46 N X x1 t = some (t', o)) (k : (∀ h', kR h' t' s → kE o Q h')) : zz_J zp_P zt_tf zt_fd X d zm_154 46 [(0, .ref 49), (1, .int x1)] [] h Q := by
  unfold cf_154_46 at hf
  obtain ⟨e0, hf⟩ := ko_if hf
  obtain ⟨d', rfl⟩ : ∃ d', d = d' + 9 := ⟨d - 9, by omega⟩
  exact cb_154_46 hR e0 (fun hR => cr_154_63 hd hR hf k)
def cf_154_29 (N : Nat) (X : Nat → Option zz_C) (x1 : Int32) (t : cS) : kO := if ¬ (2 * (kI t 49 15)) < 0 ∧ (Int32.toNatClampNeg (2 * (kI t 49 15))) ≤ 1000000 ∧ (kA t 56).1 ≤ 1000000 ∧ ¬ (2 * (kI t 49 15)) = Int32.ofNat (kA t 56).1 ∧ (kN t) + 1 < zz_out then (cf_154_46 N X x1 (jMv (jNI t 1 (Int32.toNatClampNeg (2 * (kI t 49 15))) (kcp 0 (kA t 56).2 (Nat.min (kA t 56).1 (Int32.toNatClampNeg (2 * (kI t 49 15)))))) 56)) else none
theorem cr_154_29 {X : Nat → Option zz_C} {s : mS} {N : Nat} {d : Nat} (hd : 9 ≤ d) {Q : zz_O → zz_H → Prop} {x1 : Int32} {h : zz_H} {t t' : cS} {o : kY} (hR : kR h t s) (hf : cf_154_29 N X x1 t = some (t', o)) (k : (∀ h', kR h' t' s → kE o Q h')) : zz_J zp_P zt_tf zt_fd X d zm_154 29 [(0, .ref 49), (1, .int x1)] [] h Q := by
  unfold cf_154_29 at hf
  obtain ⟨e0, hf⟩ := ko_if hf
  obtain ⟨d', rfl⟩ : ∃ d', d = d' + 9 := ⟨d - 9, by omega⟩
  exact cb_154_29 hR e0 (fun hR => cr_154_46 hd hR hf k)
def cf_154_12 (N : Nat) (X : Nat → Option zz_C) (x1 : Int32) (t : cS) : kO := if ¬ (2 * (kI t 49 15)) < 0 ∧ (Int32.toNatClampNeg (2 * (kI t 49 15))) ≤ 1000000 ∧ (kA t 55).1 ≤ 1000000 ∧ ¬ (2 * (kI t 49 15)) = Int32.ofNat (kA t 55).1 ∧ (kN t) + 1 < zz_out then (cf_154_29 N X x1 (jMv (jNI t 1 (Int32.toNatClampNeg (2 * (kI t 49 15))) (kcp 0 (kA t 55).2 (Nat.min (kA t 55).1 (Int32.toNatClampNeg (2 * (kI t 49 15)))))) 55)) else none
theorem cr_154_12 {X : Nat → Option zz_C} {s : mS} {N : Nat} {d : Nat} (hd : 9 ≤ d) {Q : zz_O → zz_H → Prop} {x1 : Int32} {h : zz_H} {t t' : cS} {o : kY} (hR : kR h t s) (hf : cf_154_12 N X x1 t = some (t', o)) (k : (∀ h', kR h' t' s → kE o Q h')) : zz_J zp_P zt_tf zt_fd X d zm_154 12 [(0, .ref 49), (1, .int x1)] [] h Q := by
  unfold cf_154_12 at hf
  obtain ⟨e0, hf⟩ := ko_if hf
  obtain ⟨d', rfl⟩ : ∃ d', d = d' + 9 := ⟨d - 9, by omega⟩
  exact cb_154_12 hR e0 (fun hR => cr_154_29 hd hR hf k)
def cf_154_0 (N : Nat) (X : Nat → Option zz_C) (x1 : Int32) (t : cS) : kO := if ¬ (kI t 49 15) = (Int32.ofNat (kA t 55).1) then cf_154_63 N X x1 t else cf_154_12 N X x1 t
theorem cr_154_0 {X : Nat → Option zz_C} {s : mS} {N : Nat} {d : Nat} (hd : 9 ≤ d) {Q : zz_O → zz_H → Prop} {x1 : Int32} {h : zz_H} {t t' : cS} {o : kY} (hR : kR h t s) (hf : cf_154_0 N X x1 t = some (t', o)) (k : (∀ h', kR h' t' s → kE o Q h')) : zz_J zp_P zt_tf zt_fd X d zm_154 0 [(0, .ref 49), (1, .int x1)] [] h Q := by
  unfold cf_154_0 at hf
  refine cb_154_0 hR  (fun c {h} hR => ?_) (fun c {h} hR => ?_)
  · rw [if_pos c] at hf
    exact cr_154_63 hd hR hf k
  · rw [if_neg c] at hf
    exact cr_154_12 hd hR hf k
/-- beginTry -/
def cf_154 (N : Nat) (X : Nat → Option zz_C) (x1 : Int32) (t : cS) : kO := cf_154_0 N X x1 t
theorem cr_154 {X : Nat → Option zz_C} {s : mS} {N : Nat} {d : Nat} (hd : 9 ≤ d) {Q : zz_O → zz_H → Prop} {x1 : Int32} {h : zz_H} {t t' : cS} {o : kY} (hR : kR h t s) (hf : cf_154 N X x1 t = some (t', o)) (k : ∀ h', kR h' t' s → kE o Q h') : zz_J zp_P zt_tf zt_fd X d zm_154 0 [(0, .ref 49), (1, .int x1)] [] h Q := by
  unfold cf_154 at hf
  exact zz_J.weak (cr_154_0 hd hR hf k) rfl ⟨rfl, rfl, trivial⟩
/-! yX9_make (I)Z -/
theorem cb_236_0 {X : Nat → Option zz_C} {h : zz_H} {t : cS} {s : mS} {d : Nat} {Q : zz_O → zz_H → Prop} {x1 : Int32} (hR : kR h t s) (k1 : 3000 < ((kI t 48 3) + x1) → (∀ {h : zz_H}, kR h (jI t 48 3 ((kI t 48 3) + x1)) s → zz_J zp_P zt_tf zt_fd X d zm_236 24 [] [] h Q)) (k2 : ¬ 3000 < ((kI t 48 3) + x1) → (∀ {h : zz_H}, kR h (jI t 48 3 ((kI t 48 3) + x1)) s → zz_J zp_P zt_tf zt_fd X d zm_236 20 [] [] h Q)) : zz_J zp_P zt_tf zt_fd X d zm_236 0 [(0, .ref 48), (1, .int x1)] [] h Q := by
  refine zz_J.n 1 rfl rfl rfl ?_
  refine zz_J.n 2 rfl rfl rfl ?_
  refine zz_J.g 5 rfl (hR.gv (v := .int (kI t 48 3)) ko_48 (by decide) rfl) rfl ?_
  refine zz_J.n 6 rfl rfl rfl ?_
  refine zz_J.n 7 rfl rfl rfl ?_
  obtain ⟨h1, eq1, hR⟩ := hR.pI (x := ((kI t 48 3) + x1)) (by decide) ko_48 (kpi_48_3 _) (Nat.le_of_ble_eq_true rfl) rfl
  refine zz_J.pv 10 rfl eq1 rfl ?_
  clear eq1
  refine zz_J.n 11 rfl rfl rfl ?_
  refine zz_J.g 14 rfl (hR.gv (v := .int ((kI t 48 3) + x1)) ko_48 (by decide) rfl) rfl ?_
  refine zz_J.c 17 (.int 3000) rfl rfl rfl rfl ?_
  refine zz_J.b2 24 20 (A := 3000 < ((kI t 48 3) + x1)) rfl rfl (by decide) rfl rfl (fun c => ?_) (fun c => ?_)
  · exact zz_J.weak (k1 c hR) rfl trivial
  · exact zz_J.weak (k2 c hR) rfl trivial
theorem cb_236_20 {X : Nat → Option zz_C} {h : zz_H} {t : cS} {s : mS} {d : Nat} {Q : zz_O → zz_H → Prop}  (hR : kR h t s) (k : ∀ {h : zz_H}, kR h t s → zz_J zp_P zt_tf zt_fd X d zm_236 25 [] [.int 1] h Q) : zz_J zp_P zt_tf zt_fd X d zm_236 20 [] [] h Q := by
  refine zz_J.c 21 (.int 1) rfl rfl rfl rfl ?_
  refine zz_J.n 25 rfl rfl rfl ?_
  exact zz_J.weak (k hR) rfl trivial
theorem cb_236_24 {X : Nat → Option zz_C} {h : zz_H} {t : cS} {s : mS} {d : Nat} {Q : zz_O → zz_H → Prop}  (hR : kR h t s) (k : ∀ {h : zz_H}, kR h t s → zz_J zp_P zt_tf zt_fd X d zm_236 25 [] [.int 0] h Q) : zz_J zp_P zt_tf zt_fd X d zm_236 24 [] [] h Q := by
  refine zz_J.c 25 (.int 0) rfl rfl rfl rfl ?_
  exact zz_J.weak (k hR) rfl trivial
theorem cb_236_25 {X : Nat → Option zz_C} {h : zz_H} {t : cS} {s : mS} {d : Nat} {Q : zz_O → zz_H → Prop} {y0 : Int32} (hR : kR h t s) (k : ∀ {h : zz_H}, kR h t s → Q (.inl (some (.int y0))) h) (rb : zz_reti (some .boolean) y0 = true) : zz_J zp_P zt_tf zt_fd X d zm_236 25 [] [.int y0] h Q := by
  refine zz_J.ret rfl rfl (if_pos ⟨rfl, rb⟩) ?_
  exact k hR
def cf_236_25 (N : Nat) (X : Nat → Option zz_C) (y0 : Int32) (t : cS) : kO := if zz_reti (some .boolean) y0 = true then some (t, .inl (some (.int y0))) else none
theorem cr_236_25 {X : Nat → Option zz_C} {s : mS} {N : Nat} {d : Nat} (hd : 0 ≤ d) {Q : zz_O → zz_H → Prop} {y0 : Int32} {h : zz_H} {t t' : cS} {o : kY} (hR : kR h t s) (hf : cf_236_25 N X y0 t = some (t', o)) (k : (∀ h', kR h' t' s → kE o Q h')) : zz_J zp_P zt_tf zt_fd X d zm_236 25 [] [.int y0] h Q := by
  unfold cf_236_25 at hf
  obtain ⟨rb, hf⟩ := ko_if hf
  cases hf
  exact cb_236_25 hR  (fun {h} hR => k h hR) rb
def cf_236_24 (N : Nat) (X : Nat → Option zz_C)  (t : cS) : kO := cf_236_25 N X 0 t
theorem cr_236_24 {X : Nat → Option zz_C} {s : mS} {N : Nat} {d : Nat} (hd : 0 ≤ d) {Q : zz_O → zz_H → Prop}  {h : zz_H} {t t' : cS} {o : kY} (hR : kR h t s) (hf : cf_236_24 N X  t = some (t', o)) (k : (∀ h', kR h' t' s → kE o Q h')) : zz_J zp_P zt_tf zt_fd X d zm_236 24 [] [] h Q := by
  unfold cf_236_24 at hf
  exact cb_236_24 hR  (fun hR => cr_236_25 hd hR hf k)
def cf_236_20 (N : Nat) (X : Nat → Option zz_C)  (t : cS) : kO := cf_236_25 N X 1 t
theorem cr_236_20 {X : Nat → Option zz_C} {s : mS} {N : Nat} {d : Nat} (hd : 0 ≤ d) {Q : zz_O → zz_H → Prop}  {h : zz_H} {t t' : cS} {o : kY} (hR : kR h t s) (hf : cf_236_20 N X  t = some (t', o)) (k : (∀ h', kR h' t' s → kE o Q h')) : zz_J zp_P zt_tf zt_fd X d zm_236 20 [] [] h Q := by
  unfold cf_236_20 at hf
  exact cb_236_20 hR  (fun hR => cr_236_25 hd hR hf k)
def cf_236_0 (N : Nat) (X : Nat → Option zz_C) (x1 : Int32) (t : cS) : kO := if 3000 < ((kI t 48 3) + x1) then cf_236_24 N X  (jI t 48 3 ((kI t 48 3) + x1)) else cf_236_20 N X  (jI t 48 3 ((kI t 48 3) + x1))
theorem cr_236_0 {X : Nat → Option zz_C} {s : mS} {N : Nat} {d : Nat} (hd : 0 ≤ d) {Q : zz_O → zz_H → Prop} {x1 : Int32} {h : zz_H} {t t' : cS} {o : kY} (hR : kR h t s) (hf : cf_236_0 N X x1 t = some (t', o)) (k : (∀ h', kR h' t' s → kE o Q h')) : zz_J zp_P zt_tf zt_fd X d zm_236 0 [(0, .ref 48), (1, .int x1)] [] h Q := by
  unfold cf_236_0 at hf
  refine cb_236_0 hR  (fun c {h} hR => ?_) (fun c {h} hR => ?_)
  · rw [if_pos c] at hf
    exact cr_236_24 hd hR hf k
  · rw [if_neg c] at hf
    exact cr_236_20 hd hR hf k
/-- make -/
def cf_236 (N : Nat) (X : Nat → Option zz_C) (x1 : Int32) (t : cS) : kO := cf_236_0 N X x1 t
theorem cr_236 {X : Nat → Option zz_C} {s : mS} {N : Nat} {d : Nat} (hd : 0 ≤ d) {Q : zz_O → zz_H → Prop} {x1 : Int32} {h : zz_H} {t t' : cS} {o : kY} (hR : kR h t s) (hf : cf_236 N X x1 t = some (t', o)) (k : ∀ h', kR h' t' s → kE o Q h') : zz_J zp_P zt_tf zt_fd X d zm_236 0 [(0, .ref 48), (1, .int x1)] [] h Q := by
  unfold cf_236 at hf
  exact zz_J.weak (cr_236_0 hd hR hf k) rfl ⟨rfl, rfl, trivial⟩
/-! yX9_settle ()V -/
theorem cb_241_0 {X : Nat → Option zz_C} {h : zz_H} {t : cS} {s : mS} {d : Nat} {Q : zz_O → zz_H → Prop}  (hR : kR h t s) (k : ∀ {h : zz_H}, kR h (jI (jI (jI t 48 6 0) 48 7 (-1)) 48 8 0) s → Q (.inl none) h) : zz_J zp_P zt_tf zt_fd X d zm_241 0 [(0, .ref 48)] [] h Q := by
  refine zz_J.n 1 rfl rfl rfl ?_
  refine zz_J.c 2 (.int 0) rfl rfl rfl rfl ?_
  obtain ⟨h1, eq1, hR⟩ := hR.pI (x := (0 : Int32)) (by decide) ko_48 (kpi_48_6 _) (Nat.le_of_ble_eq_true rfl) rfl
  refine zz_J.pv 5 rfl eq1 rfl ?_
  clear eq1
  refine zz_J.n 6 rfl rfl rfl ?_
  refine zz_J.c 7 (.int (-1)) rfl rfl rfl rfl ?_
  obtain ⟨h1, eq1, hR⟩ := hR.pI (x := ((-1) : Int32)) (by decide) ko_48 (kpi_48_7 _) (Nat.le_of_ble_eq_true rfl) rfl
  refine zz_J.pv 10 rfl eq1 rfl ?_
  clear eq1
  refine zz_J.n 11 rfl rfl rfl ?_
  refine zz_J.c 12 (.int 0) rfl rfl rfl rfl ?_
  obtain ⟨h1, eq1, hR⟩ := hR.pI (x := (0 : Int32)) (by decide) ko_48 (kpi_48_8 _) (Nat.le_of_ble_eq_true rfl) rfl
  refine zz_J.pv 15 rfl eq1 rfl ?_
  clear eq1
  refine zz_J.ret rfl rfl rfl ?_
  exact k hR
def cf_241_0 (N : Nat) (X : Nat → Option zz_C)  (t : cS) : kO := some ((jI (jI (jI t 48 6 0) 48 7 (-1)) 48 8 0), .inl none)
theorem cr_241_0 {X : Nat → Option zz_C} {s : mS} {N : Nat} {d : Nat} (hd : 0 ≤ d) {Q : zz_O → zz_H → Prop}  {h : zz_H} {t t' : cS} {o : kY} (hR : kR h t s) (hf : cf_241_0 N X  t = some (t', o)) (k : (∀ h', kR h' t' s → kE o Q h')) : zz_J zp_P zt_tf zt_fd X d zm_241 0 [(0, .ref 48)] [] h Q := by
  unfold cf_241_0 at hf
  cases hf
  exact cb_241_0 hR  (fun {h} hR => k h hR)
/-- settle -/
def cf_241 (N : Nat) (X : Nat → Option zz_C)  (t : cS) : kO := cf_241_0 N X  t
theorem cr_241 {X : Nat → Option zz_C} {s : mS} {N : Nat} {d : Nat} (hd : 0 ≤ d) {Q : zz_O → zz_H → Prop}  {h : zz_H} {t t' : cS} {o : kY} (hR : kR h t s) (hf : cf_241 N X  t = some (t', o)) (k : ∀ h', kR h' t' s → kE o Q h') : zz_J zp_P zt_tf zt_fd X d zm_241 0 [(0, .ref 48)] [] h Q := by
  unfold cf_241 at hf
  exact zz_J.weak (cr_241_0 hd hR hf k) rfl ⟨rfl, trivial⟩
/-! yX9_take ()I -/
theorem cb_239_0 {X : Nat → Option zz_C} {h : zz_H} {t : cS} {s : mS} {d : Nat} {Q : zz_O → zz_H → Prop}  (hR : kR h t s) (k : ∀ {h : zz_H}, kR h (jI t 48 5 ((kI t 48 5) + 1)) s → zz_J zp_P zt_tf zt_fd X d zm_236 0 [(0, .ref 48), (1, .int 300)] [] h (zz_after 9 Q (fun v h' => zz_J zp_P zt_tf zt_fd X (d + 1) zm_239 17 [(0, .ref 48)] (v.toList ++ []) h' Q))) : zz_J zp_P zt_tf zt_fd X (d + 1) zm_239 0 [(0, .ref 48)] [] h Q := by
  refine zz_J.n 1 rfl rfl rfl ?_
  refine zz_J.n 2 rfl rfl rfl ?_
  refine zz_J.g 5 rfl (hR.gv (v := .int (kI t 48 5)) ko_48 (by decide) rfl) rfl ?_
  refine zz_J.c 6 (.int 1) rfl rfl rfl rfl ?_
  refine zz_J.n 7 rfl rfl rfl ?_
  obtain ⟨h1, eq1, hR⟩ := hR.pI (x := ((kI t 48 5) + 1)) (by decide) ko_48 (kpi_48_5 _) (Nat.le_of_ble_eq_true rfl) rfl
  refine zz_J.pv 10 rfl eq1 rfl ?_
  clear eq1
  refine zz_J.n 11 rfl rfl rfl ?_
  refine zz_J.c 14 (.int 300) rfl rfl rfl rfl ?_
  refine zz_J.cv 17 (as := []) rfl rfl (hR.clO ko_48 (by decide) (by decide)) (by decide) (Nat.le_of_ble_eq_true rfl) (Nat.le_of_ble_eq_true rfl) rfl (Nat.le_of_ble_eq_true rfl) rfl ?_
  refine zz_J.mono (k hR) ?_
  intro o h' hE
  cases o with
  | inl v => exact zz_J.weak hE rfl ⟨rfl, trivial⟩
  | inr q => exact hE
theorem cb_239_17 {X : Nat → Option zz_C} {h : zz_H} {t : cS} {s : mS} {d : Nat} {Q : zz_O → zz_H → Prop} {y0 : Int32} (hR : kR h t s) (k1 : ¬ (kI t 48 6) = 9 → (∀ {h : zz_H}, kR h t s → zz_J zp_P zt_tf zt_fd X d zm_239 34 [(0, .ref 48)] [] h Q)) (k2 : ¬ ¬ (kI t 48 6) = 9 → (∀ {h : zz_H}, kR h t s → zz_J zp_P zt_tf zt_fd X d zm_239 27 [(0, .ref 48)] [] h Q)) : zz_J zp_P zt_tf zt_fd X d zm_239 17 [(0, .ref 48)] [.int y0] h Q := by
  refine zz_J.n 18 rfl rfl rfl ?_
  refine zz_J.n 19 rfl rfl rfl ?_
  refine zz_J.g 22 rfl (hR.gv (v := .int (kI t 48 6)) ko_48 (by decide) rfl) rfl ?_
  refine zz_J.c 24 (.int 9) rfl rfl rfl rfl ?_
  refine zz_J.b2 34 27 (A := ¬ (kI t 48 6) = 9) rfl (zz_cond_ne _ _) (by decide) rfl rfl (fun c => ?_) (fun c => ?_)
  · exact zz_J.weak (k1 c hR) rfl ⟨rfl, trivial⟩
  · exact zz_J.weak (k2 c hR) rfl ⟨rfl, trivial⟩
theorem cb_239_27 {X : Nat → Option zz_C} {h : zz_H} {t : cS} {s : mS} {d : Nat} {Q : zz_O → zz_H → Prop}  (hR : kR h t s) (k : ∀ {h : zz_H}, kR h t s → zz_J zp_P zt_tf zt_fd X d zm_239 38 [(0, .ref 48)] [.int (kI t 48 8)] h Q) : zz_J zp_P zt_tf zt_fd X d zm_239 27 [(0, .ref 48)] [] h Q := by
  refine zz_J.n 28 rfl rfl rfl ?_
  refine zz_J.g 31 rfl (hR.gv (v := .int (kI t 48 8)) ko_48 (by decide) rfl) rfl ?_
  refine zz_J.n 38 rfl rfl rfl ?_
  exact zz_J.weak (k hR) rfl ⟨rfl, trivial⟩
theorem cb_239_34 {X : Nat → Option zz_C} {h : zz_H} {t : cS} {s : mS} {d : Nat} {Q : zz_O → zz_H → Prop}  (hR : kR h t s) (k : ∀ {h : zz_H}, kR h t s → zz_J zp_P zt_tf zt_fd X d zm_239 38 [(0, .ref 48)] [.int (kI t 48 6)] h Q) : zz_J zp_P zt_tf zt_fd X d zm_239 34 [(0, .ref 48)] [] h Q := by
  refine zz_J.n 35 rfl rfl rfl ?_
  refine zz_J.g 38 rfl (hR.gv (v := .int (kI t 48 6)) ko_48 (by decide) rfl) rfl ?_
  exact zz_J.weak (k hR) rfl ⟨rfl, trivial⟩
theorem cb_239_38 {X : Nat → Option zz_C} {h : zz_H} {t : cS} {s : mS} {d : Nat} {Q : zz_O → zz_H → Prop} {y0 : Int32} (hR : kR h t s) (k : ∀ {h : zz_H}, kR h t s → zz_J zp_P zt_tf zt_fd X d zm_241 0 [(0, .ref 48)] [] h (zz_after 9 Q (fun v h' => zz_J zp_P zt_tf zt_fd X (d + 1) zm_239 43 [(1, .int y0)] (v.toList ++ []) h' Q))) : zz_J zp_P zt_tf zt_fd X (d + 1) zm_239 38 [(0, .ref 48)] [.int y0] h Q := by
  refine zz_J.n 39 rfl rfl rfl ?_
  refine zz_J.n 40 rfl rfl rfl ?_
  refine zz_J.cv 43 (as := []) rfl rfl (hR.clO ko_48 (by decide) (by decide)) (by decide) (Nat.le_of_ble_eq_true rfl) (Nat.le_of_ble_eq_true rfl) rfl (Nat.le_of_ble_eq_true rfl) rfl ?_
  refine zz_J.mono (k hR) ?_
  intro o h' hE
  cases o with
  | inl v => exact zz_J.weak hE rfl ⟨rfl, trivial⟩
  | inr q => exact hE
theorem cb_239_43 {X : Nat → Option zz_C} {h : zz_H} {t : cS} {s : mS} {d : Nat} {Q : zz_O → zz_H → Prop} {x1 : Int32} (hR : kR h t s) (k : ∀ {h : zz_H}, kR h t s → Q (.inl (some (.int x1))) h) : zz_J zp_P zt_tf zt_fd X d zm_239 43 [(1, .int x1)] [] h Q := by
  refine zz_J.n 44 rfl rfl rfl ?_
  refine zz_J.ret rfl rfl rfl ?_
  exact k hR
def cf_239_43 (N : Nat) (X : Nat → Option zz_C) (x1 : Int32) (t : cS) : kO := some (t, .inl (some (.int x1)))
theorem cr_239_43 {X : Nat → Option zz_C} {s : mS} {N : Nat} {d : Nat} (hd : 1 ≤ d) {Q : zz_O → zz_H → Prop} {x1 : Int32} {h : zz_H} {t t' : cS} {o : kY} (hR : kR h t s) (hf : cf_239_43 N X x1 t = some (t', o)) (k : (∀ h', kR h' t' s → kE o Q h')) : zz_J zp_P zt_tf zt_fd X d zm_239 43 [(1, .int x1)] [] h Q := by
  unfold cf_239_43 at hf
  cases hf
  exact cb_239_43 hR  (fun {h} hR => k h hR)
def cf_239_38 (N : Nat) (X : Nat → Option zz_C) (y0 : Int32) (t : cS) : kO := ko_call 9 (cf_241 N X  t) (fun g1 v1 => co_v v1 (cf_239_43 N X y0 g1))
theorem cr_239_38 {X : Nat → Option zz_C} {s : mS} {N : Nat} {d : Nat} (hd : 1 ≤ d) {Q : zz_O → zz_H → Prop} {y0 : Int32} {h : zz_H} {t t' : cS} {o : kY} (hR : kR h t s) (hf : cf_239_38 N X y0 t = some (t', o)) (k : (∀ h', kR h' t' s → kE o Q h')) : zz_J zp_P zt_tf zt_fd X d zm_239 38 [(0, .ref 48)] [.int y0] h Q := by
  unfold cf_239_38 at hf
  obtain ⟨d', rfl⟩ : ∃ d', d = d' + 1 := ⟨d - 1, by omega⟩
  refine cb_239_38 hR  (fun {h} hR => ?_)
  rcases ko_call_ok hf with ⟨g1, v1, er, hf⟩ | ⟨g1, er, hq⟩
  · obtain ⟨hv, hf2⟩ := co_v_ok hf
    clear hf
    have hf := hf2
    clear hf2
    subst hv
    refine cr_241 (by omega) hR er (fun h hR => ?_)
    exact cr_239_43 hd hR hf k
  · refine cr_241 (by omega) hR er (fun h hR => ?_)
    exact ko_thrown hq hR k
def cf_239_34 (N : Nat) (X : Nat → Option zz_C)  (t : cS) : kO := cf_239_38 N X (kI t 48 6) t
theorem cr_239_34 {X : Nat → Option zz_C} {s : mS} {N : Nat} {d : Nat} (hd : 1 ≤ d) {Q : zz_O → zz_H → Prop}  {h : zz_H} {t t' : cS} {o : kY} (hR : kR h t s) (hf : cf_239_34 N X  t = some (t', o)) (k : (∀ h', kR h' t' s → kE o Q h')) : zz_J zp_P zt_tf zt_fd X d zm_239 34 [(0, .ref 48)] [] h Q := by
  unfold cf_239_34 at hf
  exact cb_239_34 hR  (fun hR => cr_239_38 hd hR hf k)
def cf_239_27 (N : Nat) (X : Nat → Option zz_C)  (t : cS) : kO := cf_239_38 N X (kI t 48 8) t
theorem cr_239_27 {X : Nat → Option zz_C} {s : mS} {N : Nat} {d : Nat} (hd : 1 ≤ d) {Q : zz_O → zz_H → Prop}  {h : zz_H} {t t' : cS} {o : kY} (hR : kR h t s) (hf : cf_239_27 N X  t = some (t', o)) (k : (∀ h', kR h' t' s → kE o Q h')) : zz_J zp_P zt_tf zt_fd X d zm_239 27 [(0, .ref 48)] [] h Q := by
  unfold cf_239_27 at hf
  exact cb_239_27 hR  (fun hR => cr_239_38 hd hR hf k)
def cf_239_17 (N : Nat) (X : Nat → Option zz_C) (y0 : Int32) (t : cS) : kO := if ¬ (kI t 48 6) = 9 then cf_239_34 N X  t else cf_239_27 N X  t
theorem cr_239_17 {X : Nat → Option zz_C} {s : mS} {N : Nat} {d : Nat} (hd : 1 ≤ d) {Q : zz_O → zz_H → Prop} {y0 : Int32} {h : zz_H} {t t' : cS} {o : kY} (hR : kR h t s) (hf : cf_239_17 N X y0 t = some (t', o)) (k : (∀ h', kR h' t' s → kE o Q h')) : zz_J zp_P zt_tf zt_fd X d zm_239 17 [(0, .ref 48)] [.int y0] h Q := by
  unfold cf_239_17 at hf
  refine cb_239_17 hR  (fun c {h} hR => ?_) (fun c {h} hR => ?_)
  · rw [if_pos c] at hf
    exact cr_239_34 hd hR hf k
  · rw [if_neg c] at hf
    exact cr_239_27 hd hR hf k
def cf_239_0 (N : Nat) (X : Nat → Option zz_C)  (t : cS) : kO := ko_call 9 (cf_236 N X 300 (jI t 48 5 ((kI t 48 5) + 1))) (fun g1 v1 => co_i v1 (fun y => cf_239_17 N X y g1))
theorem cr_239_0 {X : Nat → Option zz_C} {s : mS} {N : Nat} {d : Nat} (hd : 1 ≤ d) {Q : zz_O → zz_H → Prop}  {h : zz_H} {t t' : cS} {o : kY} (hR : kR h t s) (hf : cf_239_0 N X  t = some (t', o)) (k : (∀ h', kR h' t' s → kE o Q h')) : zz_J zp_P zt_tf zt_fd X d zm_239 0 [(0, .ref 48)] [] h Q := by
  unfold cf_239_0 at hf
  obtain ⟨d', rfl⟩ : ∃ d', d = d' + 1 := ⟨d - 1, by omega⟩
  refine cb_239_0 hR  (fun {h} hR => ?_)
  rcases ko_call_ok hf with ⟨g1, v1, er, hf⟩ | ⟨g1, er, hq⟩
  · obtain ⟨y, hv, hf2⟩ := co_i_ok hf
    clear hf
    have hf := hf2
    clear hf2
    subst hv
    refine cr_236 (by omega) hR er (fun h hR => ?_)
    exact cr_239_17 hd hR hf k
  · refine cr_236 (by omega) hR er (fun h hR => ?_)
    exact ko_thrown hq hR k
/-- take -/
def cf_239 (N : Nat) (X : Nat → Option zz_C)  (t : cS) : kO := cf_239_0 N X  t
theorem cr_239 {X : Nat → Option zz_C} {s : mS} {N : Nat} {d : Nat} (hd : 1 ≤ d) {Q : zz_O → zz_H → Prop}  {h : zz_H} {t t' : cS} {o : kY} (hR : kR h t s) (hf : cf_239 N X  t = some (t', o)) (k : ∀ h', kR h' t' s → kE o Q h') : zz_J zp_P zt_tf zt_fd X d zm_239 0 [(0, .ref 48)] [] h Q := by
  unfold cf_239 at hf
  exact zz_J.weak (cr_239_0 hd hR hf k) rfl ⟨rfl, trivial⟩
/-! yX9_madeTooMuch ()Z -/
theorem cb_240_0 {X : Nat → Option zz_C} {h : zz_H} {t : cS} {s : mS} {d : Nat} {Q : zz_O → zz_H → Prop}  (hR : kR h t s) (k1 : (kI t 48 3) ≤ 3000 → (∀ {h : zz_H}, kR h t s → zz_J zp_P zt_tf zt_fd X d zm_240 14 [] [] h Q)) (k2 : ¬ (kI t 48 3) ≤ 3000 → (∀ {h : zz_H}, kR h t s → zz_J zp_P zt_tf zt_fd X d zm_240 10 [] [] h Q)) : zz_J zp_P zt_tf zt_fd X d zm_240 0 [(0, .ref 48)] [] h Q := by
  refine zz_J.n 1 rfl rfl rfl ?_
  refine zz_J.g 4 rfl (hR.gv (v := .int (kI t 48 3)) ko_48 (by decide) rfl) rfl ?_
  refine zz_J.c 7 (.int 3000) rfl rfl rfl rfl ?_
  refine zz_J.b2 14 10 (A := (kI t 48 3) ≤ 3000) rfl rfl (by decide) rfl rfl (fun c => ?_) (fun c => ?_)
  · exact zz_J.weak (k1 c hR) rfl trivial
  · exact zz_J.weak (k2 c hR) rfl trivial
theorem cb_240_10 {X : Nat → Option zz_C} {h : zz_H} {t : cS} {s : mS} {d : Nat} {Q : zz_O → zz_H → Prop}  (hR : kR h t s) (k : ∀ {h : zz_H}, kR h t s → zz_J zp_P zt_tf zt_fd X d zm_240 15 [] [.int 1] h Q) : zz_J zp_P zt_tf zt_fd X d zm_240 10 [] [] h Q := by
  refine zz_J.c 11 (.int 1) rfl rfl rfl rfl ?_
  refine zz_J.n 15 rfl rfl rfl ?_
  exact zz_J.weak (k hR) rfl trivial
theorem cb_240_14 {X : Nat → Option zz_C} {h : zz_H} {t : cS} {s : mS} {d : Nat} {Q : zz_O → zz_H → Prop}  (hR : kR h t s) (k : ∀ {h : zz_H}, kR h t s → zz_J zp_P zt_tf zt_fd X d zm_240 15 [] [.int 0] h Q) : zz_J zp_P zt_tf zt_fd X d zm_240 14 [] [] h Q := by
  refine zz_J.c 15 (.int 0) rfl rfl rfl rfl ?_
  exact zz_J.weak (k hR) rfl trivial
theorem cb_240_15 {X : Nat → Option zz_C} {h : zz_H} {t : cS} {s : mS} {d : Nat} {Q : zz_O → zz_H → Prop} {y0 : Int32} (hR : kR h t s) (k : ∀ {h : zz_H}, kR h t s → Q (.inl (some (.int y0))) h) (rb : zz_reti (some .boolean) y0 = true) : zz_J zp_P zt_tf zt_fd X d zm_240 15 [] [.int y0] h Q := by
  refine zz_J.ret rfl rfl (if_pos ⟨rfl, rb⟩) ?_
  exact k hR
def cf_240_15 (N : Nat) (X : Nat → Option zz_C) (y0 : Int32) (t : cS) : kO := if zz_reti (some .boolean) y0 = true then some (t, .inl (some (.int y0))) else none
theorem cr_240_15 {X : Nat → Option zz_C} {s : mS} {N : Nat} {d : Nat} (hd : 0 ≤ d) {Q : zz_O → zz_H → Prop} {y0 : Int32} {h : zz_H} {t t' : cS} {o : kY} (hR : kR h t s) (hf : cf_240_15 N X y0 t = some (t', o)) (k : (∀ h', kR h' t' s → kE o Q h')) : zz_J zp_P zt_tf zt_fd X d zm_240 15 [] [.int y0] h Q := by
  unfold cf_240_15 at hf
  obtain ⟨rb, hf⟩ := ko_if hf
  cases hf
  exact cb_240_15 hR  (fun {h} hR => k h hR) rb
def cf_240_14 (N : Nat) (X : Nat → Option zz_C)  (t : cS) : kO := cf_240_15 N X 0 t
theorem cr_240_14 {X : Nat → Option zz_C} {s : mS} {N : Nat} {d : Nat} (hd : 0 ≤ d) {Q : zz_O → zz_H → Prop}  {h : zz_H} {t t' : cS} {o : kY} (hR : kR h t s) (hf : cf_240_14 N X  t = some (t', o)) (k : (∀ h', kR h' t' s → kE o Q h')) : zz_J zp_P zt_tf zt_fd X d zm_240 14 [] [] h Q := by
  unfold cf_240_14 at hf
  exact cb_240_14 hR  (fun hR => cr_240_15 hd hR hf k)
def cf_240_10 (N : Nat) (X : Nat → Option zz_C)  (t : cS) : kO := cf_240_15 N X 1 t
theorem cr_240_10 {X : Nat → Option zz_C} {s : mS} {N : Nat} {d : Nat} (hd : 0 ≤ d) {Q : zz_O → zz_H → Prop}  {h : zz_H} {t t' : cS} {o : kY} (hR : kR h t s) (hf : cf_240_10 N X  t = some (t', o)) (k : (∀ h', kR h' t' s → kE o Q h')) : zz_J zp_P zt_tf zt_fd X d zm_240 10 [] [] h Q := by
  unfold cf_240_10 at hf
  exact cb_240_10 hR  (fun hR => cr_240_15 hd hR hf k)
def cf_240_0 (N : Nat) (X : Nat → Option zz_C)  (t : cS) : kO := if (kI t 48 3) ≤ 3000 then cf_240_14 N X  t else cf_240_10 N X  t
theorem cr_240_0 {X : Nat → Option zz_C} {s : mS} {N : Nat} {d : Nat} (hd : 0 ≤ d) {Q : zz_O → zz_H → Prop}  {h : zz_H} {t t' : cS} {o : kY} (hR : kR h t s) (hf : cf_240_0 N X  t = some (t', o)) (k : (∀ h', kR h' t' s → kE o Q h')) : zz_J zp_P zt_tf zt_fd X d zm_240 0 [(0, .ref 48)] [] h Q := by
  unfold cf_240_0 at hf
  refine cb_240_0 hR  (fun c {h} hR => ?_) (fun c {h} hR => ?_)
  · rw [if_pos c] at hf
    exact cr_240_14 hd hR hf k
  · rw [if_neg c] at hf
    exact cr_240_10 hd hR hf k
/-- madeTooMuch -/
def cf_240 (N : Nat) (X : Nat → Option zz_C)  (t : cS) : kO := cf_240_0 N X  t
theorem cr_240 {X : Nat → Option zz_C} {s : mS} {N : Nat} {d : Nat} (hd : 0 ≤ d) {Q : zz_O → zz_H → Prop}  {h : zz_H} {t t' : cS} {o : kY} (hR : kR h t s) (hf : cf_240 N X  t = some (t', o)) (k : ∀ h', kR h' t' s → kE o Q h') : zz_J zp_P zt_tf zt_fd X d zm_240 0 [(0, .ref 48)] [] h Q := by
  unfold cf_240 at hf
  exact zz_J.weak (cr_240_0 hd hR hf k) rfl ⟨rfl, trivial⟩
/-! yX3_takeTrouble (I)V -/
theorem cb_155_0 {X : Nat → Option zz_C} {h : zz_H} {t : cS} {s : mS} {d : Nat} {Q : zz_O → zz_H → Prop} {x1 : Int32} (hR : kR h t s) (k : ∀ {h : zz_H}, kR h t s → zz_J zp_P zt_tf zt_fd X d zm_239 0 [(0, .ref 48)] [] h (zz_after 9 Q (fun v h' => zz_J zp_P zt_tf zt_fd X (d + 1) zm_155 8 [(0, .ref 49), (1, .int x1)] (v.toList ++ [.int 0]) h' Q))) : zz_J zp_P zt_tf zt_fd X (d + 1) zm_155 0 [(0, .ref 49), (1, .int x1)] [] h Q := by
  refine zz_J.c 1 (.int 0) rfl rfl rfl rfl ?_
  refine zz_J.n 2 rfl rfl rfl ?_
  refine zz_J.g 5 rfl (hR.gv (v := .ref 48) ko_49 (by decide) rfl) rfl ?_
  refine zz_J.cv 8 (as := [.int 0]) rfl rfl (hR.clO ko_48 (by decide) (by decide)) (by decide) (Nat.le_of_ble_eq_true rfl) (Nat.le_of_ble_eq_true rfl) rfl (Nat.le_of_ble_eq_true rfl) rfl ?_
  refine zz_J.mono (k hR) ?_
  intro o h' hE
  cases o with
  | inl v => exact zz_J.weak hE rfl ⟨rfl, rfl, trivial⟩
  | inr q => exact hE
theorem cb_155_8 {X : Nat → Option zz_C} {h : zz_H} {t : cS} {s : mS} {d : Nat} {Q : zz_O → zz_H → Prop} {x1 : Int32} {y0 : Int32} {y1 : Int32} (hR : kR h t s) (k : ∀ {h : zz_H}, kR h t s → zz_J zp_P zt_tf zt_fd X d zm_253 0 [(0, .int y0), (1, .int y1)] [] h (zz_after 1000 Q (fun v h' => zz_J zp_P zt_tf zt_fd X (d + 1) zm_155 11 [(0, .ref 49), (1, .int x1)] (v.toList ++ []) h' Q))) : zz_J zp_P zt_tf zt_fd X (d + 1) zm_155 8 [(0, .ref 49), (1, .int x1)] [.int y1, .int y0] h Q := by
  refine zz_J.cl (M' := zm_253) 11 rfl rfl (by decide) rfl rfl ⟨rfl, Nat.le_of_ble_eq_true rfl⟩ rfl ?_
  refine zz_J.mono (k hR) ?_
  intro o h' hE
  cases o with
  | inl v => exact zz_J.weak hE rfl ⟨rfl, rfl, trivial⟩
  | inr q => exact hE
theorem cb_155_11 {X : Nat → Option zz_C} {h : zz_H} {t : cS} {s : mS} {d : Nat} {Q : zz_O → zz_H → Prop} {x1 : Int32} {y0 : Int64} (hR : kR h t s) (k : ∀ {h : zz_H}, kR h t s → zz_J zp_P zt_tf zt_fd X d zm_240 0 [(0, .ref 48)] [] h (zz_after 9 Q (fun v h' => zz_J zp_P zt_tf zt_fd X (d + 1) zm_155 19 [(0, .ref 49), (1, .int x1), (2, .long y0)] (v.toList ++ []) h' Q))) : zz_J zp_P zt_tf zt_fd X (d + 1) zm_155 11 [(0, .ref 49), (1, .int x1)] [.long y0] h Q := by
  refine zz_J.n 12 rfl rfl rfl ?_
  refine zz_J.n 13 rfl rfl rfl ?_
  refine zz_J.g 16 rfl (hR.gv (v := .ref 48) ko_49 (by decide) rfl) rfl ?_
  refine zz_J.cv 19 (as := []) rfl rfl (hR.clO ko_48 (by decide) (by decide)) (by decide) (Nat.le_of_ble_eq_true rfl) (Nat.le_of_ble_eq_true rfl) rfl (Nat.le_of_ble_eq_true rfl) rfl ?_
  refine zz_J.mono (k hR) ?_
  intro o h' hE
  cases o with
  | inl v => exact zz_J.weak hE rfl ⟨rfl, rfl, rfl, trivial⟩
  | inr q => exact hE
theorem cb_155_19 {X : Nat → Option zz_C} {h : zz_H} {t : cS} {s : mS} {d : Nat} {Q : zz_O → zz_H → Prop} {x1 : Int32} {x2 : Int64} {y0 : Int32} (hR : kR h t s) (k1 : y0 = 0 → (∀ {h : zz_H}, kR h t s → zz_J zp_P zt_tf zt_fd X d zm_155 33 [(0, .ref 49), (2, .long x2)] [] h Q)) (k2 : ¬ y0 = 0 → (∀ {h : zz_H}, kR h t s → zz_J zp_P zt_tf zt_fd X d zm_155 22 [(0, .ref 49), (1, .int x1)] [] h Q)) : zz_J zp_P zt_tf zt_fd X d zm_155 19 [(0, .ref 49), (1, .int x1), (2, .long x2)] [.int y0] h Q := by
  refine zz_J.b1 33 22 (A := y0 = 0) rfl rfl (by decide) rfl rfl (fun c => ?_) (fun c => ?_)
  · exact zz_J.weak (k1 c hR) rfl ⟨rfl, rfl, trivial⟩
  · exact zz_J.weak (k2 c hR) rfl ⟨rfl, rfl, trivial⟩
theorem cb_155_22 {X : Nat → Option zz_C} {h : zz_H} {t : cS} {s : mS} {d : Nat} {Q : zz_O → zz_H → Prop} {x1 : Int32} (hR : kR h t s) (k : ∀ {h : zz_H}, kR h t s → zz_J zp_P zt_tf zt_fd X d zm_156 0 [(0, .ref 49), (1, .int 11), (2, .int x1), (3, .int 0)] [] h (zz_after 3 Q (fun v h' => zz_J zp_P zt_tf zt_fd X (d + 1) zm_155 30 [] (v.toList ++ []) h' Q))) : zz_J zp_P zt_tf zt_fd X (d + 1) zm_155 22 [(0, .ref 49), (1, .int x1)] [] h Q := by
  refine zz_J.n 23 rfl rfl rfl ?_
  refine zz_J.c 25 (.int 11) rfl rfl rfl rfl ?_
  refine zz_J.n 26 rfl rfl rfl ?_
  refine zz_J.c 27 (.int 0) rfl rfl rfl rfl ?_
  refine zz_J.cv 30 (as := []) rfl rfl (hR.clO ko_49 (by decide) (by decide)) (by decide) (Nat.le_of_ble_eq_true rfl) (Nat.le_of_ble_eq_true rfl) rfl (Nat.le_of_ble_eq_true rfl) rfl ?_
  refine zz_J.mono (k hR) ?_
  intro o h' hE
  cases o with
  | inl v => exact zz_J.weak hE rfl trivial
  | inr q => exact hE
theorem cb_155_30 {X : Nat → Option zz_C} {h : zz_H} {t : cS} {s : mS} {d : Nat} {Q : zz_O → zz_H → Prop}  (hR : kR h t s) (k : ∀ {h : zz_H}, kR h t s → zz_J zp_P zt_tf zt_fd X d zm_155 38 [] [] h Q) : zz_J zp_P zt_tf zt_fd X d zm_155 30 [] [] h Q := by
  refine zz_J.n 38 rfl rfl rfl ?_
  exact zz_J.weak (k hR) rfl trivial
theorem cb_155_33 {X : Nat → Option zz_C} {h : zz_H} {t : cS} {s : mS} {d : Nat} {Q : zz_O → zz_H → Prop} {x2 : Int64} (hR : kR h t s) (k : ∀ {h : zz_H}, kR h t s → zz_J zp_P zt_tf zt_fd X d zm_165 0 [(0, .ref 49), (1, .long x2)] [] h (zz_after 3 Q (fun v h' => zz_J zp_P zt_tf zt_fd X (d + 1) zm_155 38 [] (v.toList ++ []) h' Q))) : zz_J zp_P zt_tf zt_fd X (d + 1) zm_155 33 [(0, .ref 49), (2, .long x2)] [] h Q := by
  refine zz_J.n 34 rfl rfl rfl ?_
  refine zz_J.n 35 rfl rfl rfl ?_
  refine zz_J.cv 38 (as := []) rfl rfl (hR.clO ko_49 (by decide) (by decide)) (by decide) (Nat.le_of_ble_eq_true rfl) (Nat.le_of_ble_eq_true rfl) rfl (Nat.le_of_ble_eq_true rfl) rfl ?_
  refine zz_J.mono (k hR) ?_
  intro o h' hE
  cases o with
  | inl v => exact zz_J.weak hE rfl trivial
  | inr q => exact hE
theorem cb_155_38 {X : Nat → Option zz_C} {h : zz_H} {t : cS} {s : mS} {d : Nat} {Q : zz_O → zz_H → Prop}  (hR : kR h t s) (k : ∀ {h : zz_H}, kR h t s → Q (.inl none) h) : zz_J zp_P zt_tf zt_fd X d zm_155 38 [] [] h Q := by
  refine zz_J.ret rfl rfl rfl ?_
  exact k hR
def cf_155_38 (N : Nat) (X : Nat → Option zz_C)  (t : cS) : kO := some (t, .inl none)
theorem cr_155_38 {X : Nat → Option zz_C} {s : mS} {N : Nat} {d : Nat} (hd : 10 ≤ d) {Q : zz_O → zz_H → Prop}  {h : zz_H} {t t' : cS} {o : kY} (hR : kR h t s) (hf : cf_155_38 N X  t = some (t', o)) (k : (∀ h', kR h' t' s → kE o Q h')) : zz_J zp_P zt_tf zt_fd X d zm_155 38 [] [] h Q := by
  unfold cf_155_38 at hf
  cases hf
  exact cb_155_38 hR  (fun {h} hR => k h hR)
def cf_155_33 (N : Nat) (X : Nat → Option zz_C) (x2 : Int64) (t : cS) : kO := ko_call 3 (cf_165 N X x2 t) (fun g1 v1 => co_v v1 (cf_155_38 N X  g1))
theorem cr_155_33 {X : Nat → Option zz_C} {s : mS} {N : Nat} {d : Nat} (hd : 10 ≤ d) {Q : zz_O → zz_H → Prop} {x2 : Int64} {h : zz_H} {t t' : cS} {o : kY} (hR : kR h t s) (hf : cf_155_33 N X x2 t = some (t', o)) (k : (∀ h', kR h' t' s → kE o Q h')) : zz_J zp_P zt_tf zt_fd X d zm_155 33 [(0, .ref 49), (2, .long x2)] [] h Q := by
  unfold cf_155_33 at hf
  obtain ⟨d', rfl⟩ : ∃ d', d = d' + 1 := ⟨d - 1, by omega⟩
  refine cb_155_33 hR  (fun {h} hR => ?_)
  rcases ko_call_ok hf with ⟨g1, v1, er, hf⟩ | ⟨g1, er, hq⟩
  · obtain ⟨hv, hf2⟩ := co_v_ok hf
    clear hf
    have hf := hf2
    clear hf2
    subst hv
    refine cr_165 (by omega) hR er (fun h hR => ?_)
    exact cr_155_38 hd hR hf k
  · refine cr_165 (by omega) hR er (fun h hR => ?_)
    exact ko_thrown hq hR k
def cf_155_30 (N : Nat) (X : Nat → Option zz_C)  (t : cS) : kO := cf_155_38 N X  t
theorem cr_155_30 {X : Nat → Option zz_C} {s : mS} {N : Nat} {d : Nat} (hd : 10 ≤ d) {Q : zz_O → zz_H → Prop}  {h : zz_H} {t t' : cS} {o : kY} (hR : kR h t s) (hf : cf_155_30 N X  t = some (t', o)) (k : (∀ h', kR h' t' s → kE o Q h')) : zz_J zp_P zt_tf zt_fd X d zm_155 30 [] [] h Q := by
  unfold cf_155_30 at hf
  exact cb_155_30 hR  (fun hR => cr_155_38 hd hR hf k)
def cf_155_22 (N : Nat) (X : Nat → Option zz_C) (x1 : Int32) (t : cS) : kO := ko_call 3 (cf_156 N X 11 x1 0 t) (fun g1 v1 => co_v v1 (cf_155_30 N X  g1))
theorem cr_155_22 {X : Nat → Option zz_C} {s : mS} {N : Nat} {d : Nat} (hd : 10 ≤ d) {Q : zz_O → zz_H → Prop} {x1 : Int32} {h : zz_H} {t t' : cS} {o : kY} (hR : kR h t s) (hf : cf_155_22 N X x1 t = some (t', o)) (k : (∀ h', kR h' t' s → kE o Q h')) : zz_J zp_P zt_tf zt_fd X d zm_155 22 [(0, .ref 49), (1, .int x1)] [] h Q := by
  unfold cf_155_22 at hf
  obtain ⟨d', rfl⟩ : ∃ d', d = d' + 1 := ⟨d - 1, by omega⟩
  refine cb_155_22 hR  (fun {h} hR => ?_)
  rcases ko_call_ok hf with ⟨g1, v1, er, hf⟩ | ⟨g1, er, hq⟩
  · obtain ⟨hv, hf2⟩ := co_v_ok hf
    clear hf
    have hf := hf2
    clear hf2
    subst hv
    refine cr_156 (by omega) hR er (fun h hR => ?_)
    exact cr_155_30 hd hR hf k
  · refine cr_156 (by omega) hR er (fun h hR => ?_)
    exact ko_thrown hq hR k
def cf_155_19 (N : Nat) (X : Nat → Option zz_C) (x1 : Int32) (x2 : Int64) (y0 : Int32) (t : cS) : kO := if y0 = 0 then cf_155_33 N X x2 t else cf_155_22 N X x1 t
theorem cr_155_19 {X : Nat → Option zz_C} {s : mS} {N : Nat} {d : Nat} (hd : 10 ≤ d) {Q : zz_O → zz_H → Prop} {x1 : Int32} {x2 : Int64} {y0 : Int32} {h : zz_H} {t t' : cS} {o : kY} (hR : kR h t s) (hf : cf_155_19 N X x1 x2 y0 t = some (t', o)) (k : (∀ h', kR h' t' s → kE o Q h')) : zz_J zp_P zt_tf zt_fd X d zm_155 19 [(0, .ref 49), (1, .int x1), (2, .long x2)] [.int y0] h Q := by
  unfold cf_155_19 at hf
  refine cb_155_19 hR  (fun c {h} hR => ?_) (fun c {h} hR => ?_)
  · rw [if_pos c] at hf
    exact cr_155_33 hd hR hf k
  · rw [if_neg c] at hf
    exact cr_155_22 hd hR hf k
def cf_155_11 (N : Nat) (X : Nat → Option zz_C) (x1 : Int32) (y0 : Int64) (t : cS) : kO := ko_call 9 (cf_240 N X  t) (fun g1 v1 => co_i v1 (fun y => cf_155_19 N X x1 y0 y g1))
theorem cr_155_11 {X : Nat → Option zz_C} {s : mS} {N : Nat} {d : Nat} (hd : 10 ≤ d) {Q : zz_O → zz_H → Prop} {x1 : Int32} {y0 : Int64} {h : zz_H} {t t' : cS} {o : kY} (hR : kR h t s) (hf : cf_155_11 N X x1 y0 t = some (t', o)) (k : (∀ h', kR h' t' s → kE o Q h')) : zz_J zp_P zt_tf zt_fd X d zm_155 11 [(0, .ref 49), (1, .int x1)] [.long y0] h Q := by
  unfold cf_155_11 at hf
  obtain ⟨d', rfl⟩ : ∃ d', d = d' + 1 := ⟨d - 1, by omega⟩
  refine cb_155_11 hR  (fun {h} hR => ?_)
  rcases ko_call_ok hf with ⟨g1, v1, er, hf⟩ | ⟨g1, er, hq⟩
  · obtain ⟨y, hv, hf2⟩ := co_i_ok hf
    clear hf
    have hf := hf2
    clear hf2
    subst hv
    refine cr_240 (by omega) hR er (fun h hR => ?_)
    exact cr_155_19 hd hR hf k
  · refine cr_240 (by omega) hR er (fun h hR => ?_)
    exact ko_thrown hq hR k
def cf_155_8 (N : Nat) (X : Nat → Option zz_C) (x1 : Int32) (y0 : Int32) (y1 : Int32) (t : cS) : kO := ko_call 1000 (cf_253 N X y0 y1 t) (fun g1 v1 => co_l v1 (fun y => cf_155_11 N X x1 y g1))
theorem cr_155_8 {X : Nat → Option zz_C} {s : mS} {N : Nat} {d : Nat} (hd : 10 ≤ d) {Q : zz_O → zz_H → Prop} {x1 : Int32} {y0 : Int32} {y1 : Int32} {h : zz_H} {t t' : cS} {o : kY} (hR : kR h t s) (hf : cf_155_8 N X x1 y0 y1 t = some (t', o)) (k : (∀ h', kR h' t' s → kE o Q h')) : zz_J zp_P zt_tf zt_fd X d zm_155 8 [(0, .ref 49), (1, .int x1)] [.int y1, .int y0] h Q := by
  unfold cf_155_8 at hf
  obtain ⟨d', rfl⟩ : ∃ d', d = d' + 1 := ⟨d - 1, by omega⟩
  refine cb_155_8 hR  (fun {h} hR => ?_)
  rcases ko_call_ok hf with ⟨g1, v1, er, hf⟩ | ⟨g1, er, hq⟩
  · obtain ⟨y, hv, hf2⟩ := co_l_ok hf
    clear hf
    have hf := hf2
    clear hf2
    subst hv
    refine cr_253 (by omega) hR er (fun h hR => ?_)
    exact cr_155_11 hd hR hf k
  · refine cr_253 (by omega) hR er (fun h hR => ?_)
    exact ko_thrown hq hR k
def cf_155_0 (N : Nat) (X : Nat → Option zz_C) (x1 : Int32) (t : cS) : kO := ko_call 9 (cf_239 N X  t) (fun g1 v1 => co_i v1 (fun y => cf_155_8 N X x1 0 y g1))
theorem cr_155_0 {X : Nat → Option zz_C} {s : mS} {N : Nat} {d : Nat} (hd : 10 ≤ d) {Q : zz_O → zz_H → Prop} {x1 : Int32} {h : zz_H} {t t' : cS} {o : kY} (hR : kR h t s) (hf : cf_155_0 N X x1 t = some (t', o)) (k : (∀ h', kR h' t' s → kE o Q h')) : zz_J zp_P zt_tf zt_fd X d zm_155 0 [(0, .ref 49), (1, .int x1)] [] h Q := by
  unfold cf_155_0 at hf
  obtain ⟨d', rfl⟩ : ∃ d', d = d' + 1 := ⟨d - 1, by omega⟩
  refine cb_155_0 hR  (fun {h} hR => ?_)
  rcases ko_call_ok hf with ⟨g1, v1, er, hf⟩ | ⟨g1, er, hq⟩
  · obtain ⟨y, hv, hf2⟩ := co_i_ok hf
    clear hf
    have hf := hf2
    clear hf2
    subst hv
    refine cr_239 (by omega) hR er (fun h hR => ?_)
    exact cr_155_8 hd hR hf k
  · refine cr_239 (by omega) hR er (fun h hR => ?_)
    exact ko_thrown hq hR k
/-- takeTrouble -/
def cf_155 (N : Nat) (X : Nat → Option zz_C) (x1 : Int32) (t : cS) : kO := cf_155_0 N X x1 t
theorem cr_155 {X : Nat → Option zz_C} {s : mS} {N : Nat} {d : Nat} (hd : 10 ≤ d) {Q : zz_O → zz_H → Prop} {x1 : Int32} {h : zz_H} {t t' : cS} {o : kY} (hR : kR h t s) (hf : cf_155 N X x1 t = some (t', o)) (k : ∀ h', kR h' t' s → kE o Q h') : zz_J zp_P zt_tf zt_fd X d zm_155 0 [(0, .ref 49), (1, .int x1)] [] h Q := by
  unfold cf_155 at hf
  exact zz_J.weak (cr_155_0 hd hR hf k) rfl ⟨rfl, rfl, trivial⟩
/-! yX6_entryOf (I)I -/
theorem cb_204_0 {X : Nat → Option zz_C} {h : zz_H} {t : cS} {s : mS} {d : Nat} {Q : zz_O → zz_H → Prop} {x0 : Nat} {x1 : Int32} (hR : kR h t s) (k1 : x1 < 0 → (∀ {h : zz_H}, kR h t s → zz_J zp_P zt_tf zt_fd X d zm_204 21 [(0, .ref x0)] [] h Q)) (k2 : ¬ x1 < 0 → (∀ {h : zz_H}, kR h t s → zz_J zp_P zt_tf zt_fd X d zm_204 4 [(0, .ref x0), (1, .int x1)] [] h Q)) : zz_J zp_P zt_tf zt_fd X d zm_204 0 [(0, .ref x0), (1, .int x1)] [] h Q := by
  refine zz_J.n 1 rfl rfl rfl ?_
  refine zz_J.b1 21 4 (A := x1 < 0) rfl rfl (by decide) rfl rfl (fun c => ?_) (fun c => ?_)
  · exact zz_J.weak (k1 c hR) rfl ⟨rfl, trivial⟩
  · exact zz_J.weak (k2 c hR) rfl ⟨rfl, rfl, trivial⟩
theorem cb_204_4 {X : Nat → Option zz_C} {h : zz_H} {t : cS} {s : mS} {d : Nat} {Q : zz_O → zz_H → Prop} {x0 : Nat} {x1 : Int32} (hR : kR h t s) (e0 : x0 = 12 ∨ x0 = 21) (k1 : (kI t x0 4) ≤ x1 → (∀ {h : zz_H}, kR h t s → zz_J zp_P zt_tf zt_fd X d zm_204 21 [(0, .ref x0)] [] h Q)) (k2 : ¬ (kI t x0 4) ≤ x1 → (∀ {h : zz_H}, kR h t s → zz_J zp_P zt_tf zt_fd X d zm_204 12 [(0, .ref x0), (1, .int x1)] [] h Q)) : zz_J zp_P zt_tf zt_fd X d zm_204 4 [(0, .ref x0), (1, .int x1)] [] h Q := by
  refine zz_J.n 5 rfl rfl rfl ?_
  refine zz_J.n 6 rfl rfl rfl ?_
  refine zz_J.g 9 rfl (hR.gv (v := .int (kI t x0 4)) (ko_P e0) (by decide) rfl) rfl ?_
  refine zz_J.b2 21 12 (A := (kI t x0 4) ≤ x1) rfl rfl (by decide) rfl rfl (fun c => ?_) (fun c => ?_)
  · exact zz_J.weak (k1 c hR) rfl ⟨rfl, trivial⟩
  · exact zz_J.weak (k2 c hR) rfl ⟨rfl, rfl, trivial⟩
theorem cb_204_12 {X : Nat → Option zz_C} {h : zz_H} {t : cS} {s : mS} {d : Nat} {Q : zz_O → zz_H → Prop} {x0 : Nat} {x1 : Int32} (hR : kR h t s) (e0 : x0 = 12 ∨ x0 = 21) (e1 : ¬ (x1 < 0 ∨ (kA t (x0 + 5)).1 ≤ (Int32.toNatClampNeg x1))) (k : ∀ {h : zz_H}, kR h t s → zz_J zp_P zt_tf zt_fd X d zm_204 25 [] [.int ((kA t (x0 + 5)).2 (Int32.toNatClampNeg x1))] h Q) : zz_J zp_P zt_tf zt_fd X d zm_204 12 [(0, .ref x0), (1, .int x1)] [] h Q := by
  refine zz_J.n 13 rfl rfl rfl ?_
  refine zz_J.g 16 rfl (hR.gv (v := .ref (kD t (x0 + 5))) (ko_P e0) (by decide) rfl) rfl ?_
  refine zz_J.n 17 rfl rfl rfl ?_
  refine zz_J.ai 18 rfl (hR.ai (w := ((kA t (x0 + 5)).2 (Int32.toNatClampNeg x1))) (ka_P5 e0) rfl e1 rfl) rfl ?_
  refine zz_J.n 25 rfl rfl rfl ?_
  exact zz_J.weak (k hR) rfl trivial
theorem cb_204_21 {X : Nat → Option zz_C} {h : zz_H} {t : cS} {s : mS} {d : Nat} {Q : zz_O → zz_H → Prop} {x0 : Nat} (hR : kR h t s) (e0 : x0 = 12 ∨ x0 = 21) (k : ∀ {h : zz_H}, kR h t s → zz_J zp_P zt_tf zt_fd X d zm_204 25 [] [.int (kI t x0 3)] h Q) : zz_J zp_P zt_tf zt_fd X d zm_204 21 [(0, .ref x0)] [] h Q := by
  refine zz_J.n 22 rfl rfl rfl ?_
  refine zz_J.g 25 rfl (hR.gv (v := .int (kI t x0 3)) (ko_P e0) (by decide) rfl) rfl ?_
  exact zz_J.weak (k hR) rfl trivial
theorem cb_204_25 {X : Nat → Option zz_C} {h : zz_H} {t : cS} {s : mS} {d : Nat} {Q : zz_O → zz_H → Prop} {y0 : Int32} (hR : kR h t s) (k : ∀ {h : zz_H}, kR h t s → Q (.inl (some (.int y0))) h) : zz_J zp_P zt_tf zt_fd X d zm_204 25 [] [.int y0] h Q := by
  refine zz_J.ret rfl rfl rfl ?_
  exact k hR
def cf_204_25 (N : Nat) (X : Nat → Option zz_C) (y0 : Int32) (t : cS) : kO := some (t, .inl (some (.int y0)))
theorem cr_204_25 {X : Nat → Option zz_C} {s : mS} {N : Nat} {d : Nat} (hd : 0 ≤ d) {Q : zz_O → zz_H → Prop} {y0 : Int32} {h : zz_H} {t t' : cS} {o : kY} (hR : kR h t s) (hf : cf_204_25 N X y0 t = some (t', o)) (k : (∀ h', kR h' t' s → kE o Q h')) : zz_J zp_P zt_tf zt_fd X d zm_204 25 [] [.int y0] h Q := by
  unfold cf_204_25 at hf
  cases hf
  exact cb_204_25 hR  (fun {h} hR => k h hR)
def cf_204_21 (N : Nat) (X : Nat → Option zz_C) (x0 : Nat) (t : cS) : kO := if x0 = 12 ∨ x0 = 21 then (cf_204_25 N X (kI t x0 3) t) else none
theorem cr_204_21 {X : Nat → Option zz_C} {s : mS} {N : Nat} {d : Nat} (hd : 0 ≤ d) {Q : zz_O → zz_H → Prop} {x0 : Nat} {h : zz_H} {t t' : cS} {o : kY} (hR : kR h t s) (hf : cf_204_21 N X x0 t = some (t', o)) (k : (∀ h', kR h' t' s → kE o Q h')) : zz_J zp_P zt_tf zt_fd X d zm_204 21 [(0, .ref x0)] [] h Q := by
  unfold cf_204_21 at hf
  obtain ⟨e0, hf⟩ := ko_if hf
  exact cb_204_21 hR e0 (fun hR => cr_204_25 hd hR hf k)
def cf_204_12 (N : Nat) (X : Nat → Option zz_C) (x0 : Nat) (x1 : Int32) (t : cS) : kO := if x0 = 12 ∨ x0 = 21 then (if ¬ (x1 < 0 ∨ (kA t (x0 + 5)).1 ≤ (Int32.toNatClampNeg x1)) then (cf_204_25 N X ((kA t (x0 + 5)).2 (Int32.toNatClampNeg x1)) t) else none) else none
theorem cr_204_12 {X : Nat → Option zz_C} {s : mS} {N : Nat} {d : Nat} (hd : 0 ≤ d) {Q : zz_O → zz_H → Prop} {x0 : Nat} {x1 : Int32} {h : zz_H} {t t' : cS} {o : kY} (hR : kR h t s) (hf : cf_204_12 N X x0 x1 t = some (t', o)) (k : (∀ h', kR h' t' s → kE o Q h')) : zz_J zp_P zt_tf zt_fd X d zm_204 12 [(0, .ref x0), (1, .int x1)] [] h Q := by
  unfold cf_204_12 at hf
  obtain ⟨e0, hf⟩ := ko_if hf
  obtain ⟨e1, hf⟩ := ko_if hf
  exact cb_204_12 hR e0 e1 (fun hR => cr_204_25 hd hR hf k)
def cf_204_4 (N : Nat) (X : Nat → Option zz_C) (x0 : Nat) (x1 : Int32) (t : cS) : kO := if x0 = 12 ∨ x0 = 21 then (if (kI t x0 4) ≤ x1 then cf_204_21 N X x0 t else cf_204_12 N X x0 x1 t) else none
theorem cr_204_4 {X : Nat → Option zz_C} {s : mS} {N : Nat} {d : Nat} (hd : 0 ≤ d) {Q : zz_O → zz_H → Prop} {x0 : Nat} {x1 : Int32} {h : zz_H} {t t' : cS} {o : kY} (hR : kR h t s) (hf : cf_204_4 N X x0 x1 t = some (t', o)) (k : (∀ h', kR h' t' s → kE o Q h')) : zz_J zp_P zt_tf zt_fd X d zm_204 4 [(0, .ref x0), (1, .int x1)] [] h Q := by
  unfold cf_204_4 at hf
  obtain ⟨e0, hf⟩ := ko_if hf
  refine cb_204_4 hR e0 (fun c {h} hR => ?_) (fun c {h} hR => ?_)
  · rw [if_pos c] at hf
    exact cr_204_21 hd hR hf k
  · rw [if_neg c] at hf
    exact cr_204_12 hd hR hf k
def cf_204_0 (N : Nat) (X : Nat → Option zz_C) (x0 : Nat) (x1 : Int32) (t : cS) : kO := if x1 < 0 then cf_204_21 N X x0 t else cf_204_4 N X x0 x1 t
theorem cr_204_0 {X : Nat → Option zz_C} {s : mS} {N : Nat} {d : Nat} (hd : 0 ≤ d) {Q : zz_O → zz_H → Prop} {x0 : Nat} {x1 : Int32} {h : zz_H} {t t' : cS} {o : kY} (hR : kR h t s) (hf : cf_204_0 N X x0 x1 t = some (t', o)) (k : (∀ h', kR h' t' s → kE o Q h')) : zz_J zp_P zt_tf zt_fd X d zm_204 0 [(0, .ref x0), (1, .int x1)] [] h Q := by
  unfold cf_204_0 at hf
  refine cb_204_0 hR  (fun c {h} hR => ?_) (fun c {h} hR => ?_)
  · rw [if_pos c] at hf
    exact cr_204_21 hd hR hf k
  · rw [if_neg c] at hf
    exact cr_204_4 hd hR hf k
/-- entryOf -/
def cf_204 (N : Nat) (X : Nat → Option zz_C) (x0 : Nat) (x1 : Int32) (t : cS) : kO := cf_204_0 N X x0 x1 t
theorem cr_204 {X : Nat → Option zz_C} {s : mS} {N : Nat} {d : Nat} (hd : 0 ≤ d) {Q : zz_O → zz_H → Prop} {x0 : Nat} {x1 : Int32} {h : zz_H} {t t' : cS} {o : kY} (hR : kR h t s) (hf : cf_204 N X x0 x1 t = some (t', o)) (k : ∀ h', kR h' t' s → kE o Q h') : zz_J zp_P zt_tf zt_fd X d zm_204 0 [(0, .ref x0), (1, .int x1)] [] h Q := by
  unfold cf_204 at hf
  exact zz_J.weak (cr_204_0 hd hR hf k) rfl ⟨rfl, rfl, trivial⟩
/-! yX9_open (I)V -/
theorem cb_237_0 {X : Nat → Option zz_C} {h : zz_H} {t : cS} {s : mS} {d : Nat} {Q : zz_O → zz_H → Prop} {x1 : Int32} (hR : kR h t s) (k : ∀ {h : zz_H}, kR h (jI t 48 4 (if ((kI t 48 4) : Int32) < x1 then x1 else (kI t 48 4))) s → Q (.inl none) h) : zz_J zp_P zt_tf zt_fd X (d + 1) zm_237 0 [(0, .ref 48), (1, .int x1)] [] h Q := by
  refine zz_J.n 1 rfl rfl rfl ?_
  refine zz_J.n 2 rfl rfl rfl ?_
  refine zz_J.g 5 rfl (hR.gv (v := .int (kI t 48 4)) ko_48 (by decide) rfl) rfl ?_
  refine zz_J.n 6 rfl rfl rfl ?_
  refine zz_J.spec 9 rfl rfl (by decide) rfl rfl rfl ?_
  obtain ⟨h1, eq1, hR⟩ := hR.pI (x := (if ((kI t 48 4) : Int32) < x1 then x1 else (kI t 48 4))) (by decide) ko_48 (kpi_48_4 _) (Nat.le_of_ble_eq_true rfl) rfl
  refine zz_J.pv 12 rfl eq1 rfl ?_
  clear eq1
  refine zz_J.ret rfl rfl rfl ?_
  exact k hR
def cf_237_0 (N : Nat) (X : Nat → Option zz_C) (x1 : Int32) (t : cS) : kO := some ((jI t 48 4 (if ((kI t 48 4) : Int32) < x1 then x1 else (kI t 48 4))), .inl none)
theorem cr_237_0 {X : Nat → Option zz_C} {s : mS} {N : Nat} {d : Nat} (hd : 1 ≤ d) {Q : zz_O → zz_H → Prop} {x1 : Int32} {h : zz_H} {t t' : cS} {o : kY} (hR : kR h t s) (hf : cf_237_0 N X x1 t = some (t', o)) (k : (∀ h', kR h' t' s → kE o Q h')) : zz_J zp_P zt_tf zt_fd X d zm_237 0 [(0, .ref 48), (1, .int x1)] [] h Q := by
  unfold cf_237_0 at hf
  obtain ⟨d', rfl⟩ : ∃ d', d = d' + 1 := ⟨d - 1, by omega⟩
  cases hf
  exact cb_237_0 hR  (fun {h} hR => k h hR)
/-- open -/
def cf_237 (N : Nat) (X : Nat → Option zz_C) (x1 : Int32) (t : cS) : kO := cf_237_0 N X x1 t
theorem cr_237 {X : Nat → Option zz_C} {s : mS} {N : Nat} {d : Nat} (hd : 1 ≤ d) {Q : zz_O → zz_H → Prop} {x1 : Int32} {h : zz_H} {t t' : cS} {o : kY} (hR : kR h t s) (hf : cf_237 N X x1 t = some (t', o)) (k : ∀ h', kR h' t' s → kE o Q h') : zz_J zp_P zt_tf zt_fd X d zm_237 0 [(0, .ref 48), (1, .int x1)] [] h Q := by
  unfold cf_237 at hf
  exact zz_J.weak (cr_237_0 hd hR hf k) rfl ⟨rfl, rfl, trivial⟩
/-! yX3_enter (III)V -/
theorem cb_157_0 {X : Nat → Option zz_C} {h : zz_H} {t : cS} {s : mS} {d : Nat} {Q : zz_O → zz_H → Prop} {x1 : Int32} {x2 : Int32} {x3 : Int32} (hR : kR h t s) (k1 : ¬ (kI t 49 11) = 10 → (∀ {h : zz_H}, kR h t s → zz_J zp_P zt_tf zt_fd X d zm_157 18 [(0, .ref 49), (1, .int x1), (2, .int x2)] [] h Q)) (k2 : ¬ ¬ (kI t 49 11) = 10 → (∀ {h : zz_H}, kR h t s → zz_J zp_P zt_tf zt_fd X d zm_157 9 [(0, .ref 49), (3, .int x3)] [] h Q)) : zz_J zp_P zt_tf zt_fd X d zm_157 0 [(0, .ref 49), (1, .int x1), (2, .int x2), (3, .int x3)] [] h Q := by
  refine zz_J.n 1 rfl rfl rfl ?_
  refine zz_J.g 4 rfl (hR.gv (v := .int (kI t 49 11)) ko_49 (by decide) rfl) rfl ?_
  refine zz_J.c 6 (.int 10) rfl rfl rfl rfl ?_
  refine zz_J.b2 18 9 (A := ¬ (kI t 49 11) = 10) rfl (zz_cond_ne _ _) (by decide) rfl rfl (fun c => ?_) (fun c => ?_)
  · exact zz_J.weak (k1 c hR) rfl ⟨rfl, rfl, rfl, trivial⟩
  · exact zz_J.weak (k2 c hR) rfl ⟨rfl, rfl, trivial⟩
theorem cb_157_9 {X : Nat → Option zz_C} {h : zz_H} {t : cS} {s : mS} {d : Nat} {Q : zz_O → zz_H → Prop} {x3 : Int32} (hR : kR h t s) (k : ∀ {h : zz_H}, kR h t s → zz_J zp_P zt_tf zt_fd X d zm_156 0 [(0, .ref 49), (1, .int 8), (2, .int x3), (3, .int 0)] [] h (zz_after 3 Q (fun v h' => zz_J zp_P zt_tf zt_fd X (d + 1) zm_157 17 [] (v.toList ++ []) h' Q))) : zz_J zp_P zt_tf zt_fd X (d + 1) zm_157 9 [(0, .ref 49), (3, .int x3)] [] h Q := by
  refine zz_J.n 10 rfl rfl rfl ?_
  refine zz_J.c 12 (.int 8) rfl rfl rfl rfl ?_
  refine zz_J.n 13 rfl rfl rfl ?_
  refine zz_J.c 14 (.int 0) rfl rfl rfl rfl ?_
  refine zz_J.cv 17 (as := []) rfl rfl (hR.clO ko_49 (by decide) (by decide)) (by decide) (Nat.le_of_ble_eq_true rfl) (Nat.le_of_ble_eq_true rfl) rfl (Nat.le_of_ble_eq_true rfl) rfl ?_
  refine zz_J.mono (k hR) ?_
  intro o h' hE
  cases o with
  | inl v => exact zz_J.weak hE rfl trivial
  | inr q => exact hE
theorem cb_157_17 {X : Nat → Option zz_C} {h : zz_H} {t : cS} {s : mS} {d : Nat} {Q : zz_O → zz_H → Prop}  (hR : kR h t s) (k : ∀ {h : zz_H}, kR h t s → Q (.inl none) h) : zz_J zp_P zt_tf zt_fd X d zm_157 17 [] [] h Q := by
  refine zz_J.ret rfl rfl rfl ?_
  exact k hR
theorem cb_157_18 {X : Nat → Option zz_C} {h : zz_H} {t : cS} {s : mS} {d : Nat} {Q : zz_O → zz_H → Prop} {x1 : Int32} {x2 : Int32} (hR : kR h t s) (e0 : ¬ ((kI t 49 11) < 0 ∨ (kA t 53).1 ≤ (Int32.toNatClampNeg (kI t 49 11)))) (e1 : ¬ ((kI t 49 11) < 0 ∨ (kA (jA t 53 (upd (kA t 53).2 (Int32.toNatClampNeg (kI t 49 11)) (if (((kI t 49 8) - x2) : Int32) < 0 then 0 else ((kI t 49 8) - x2)))) 54).1 ≤ (Int32.toNatClampNeg (kI t 49 11)))) (k : ∀ {h : zz_H}, kR h (jI (jA (jA t 53 (upd (kA t 53).2 (Int32.toNatClampNeg (kI t 49 11)) (if (((kI t 49 8) - x2) : Int32) < 0 then 0 else ((kI t 49 8) - x2)))) 54 (upd (kA (jA t 53 (upd (kA t 53).2 (Int32.toNatClampNeg (kI t 49 11)) (if (((kI t 49 8) - x2) : Int32) < 0 then 0 else ((kI t 49 8) - x2)))) 54).2 (Int32.toNatClampNeg (kI t 49 11)) (kI t 49 17))) 49 11 ((kI t 49 11) + 1)) s → zz_J zp_P zt_tf zt_fd X d zm_237 0 [(0, .ref 48), (1, .int ((kI t 49 11) + 1))] [] h (zz_after 9 Q (fun v h' => zz_J zp_P zt_tf zt_fd X (d + 1) zm_157 71 [(0, .ref 49), (1, .int x1), (2, .int x2)] (v.toList ++ []) h' Q))) : zz_J zp_P zt_tf zt_fd X (d + 1) zm_157 18 [(0, .ref 49), (1, .int x1), (2, .int x2)] [] h Q := by
  refine zz_J.n 19 rfl rfl rfl ?_
  refine zz_J.g 22 rfl (hR.gv (v := .ref (kD t 53)) ko_49 (by decide) rfl) rfl ?_
  refine zz_J.n 23 rfl rfl rfl ?_
  refine zz_J.g 26 rfl (hR.gv (v := .int (kI t 49 11)) ko_49 (by decide) rfl) rfl ?_
  refine zz_J.n 27 rfl rfl rfl ?_
  refine zz_J.g 30 rfl (hR.gv (v := .int (kI t 49 8)) ko_49 (by decide) rfl) rfl ?_
  refine zz_J.n 31 rfl rfl rfl ?_
  refine zz_J.n 32 rfl rfl rfl ?_
  refine zz_J.c 33 (.int 0) rfl rfl rfl rfl ?_
  refine zz_J.spec 36 rfl rfl (by decide) rfl rfl rfl ?_
  obtain ⟨h1, eq1, hR⟩ := hR.si (x := (if (((kI t 49 8) - x2) : Int32) < 0 then 0 else ((kI t 49 8) - x2))) ka_53 rfl e0
  refine zz_J.si 37 rfl eq1 rfl ?_
  clear eq1
  refine zz_J.n 38 rfl rfl rfl ?_
  refine zz_J.g 41 rfl (hR.gv (v := .ref (kD t 54)) ko_49 (by decide) rfl) rfl ?_
  refine zz_J.n 42 rfl rfl rfl ?_
  refine zz_J.g 45 rfl (hR.gv (v := .int (kI t 49 11)) ko_49 (by decide) rfl) rfl ?_
  refine zz_J.n 46 rfl rfl rfl ?_
  refine zz_J.g 49 rfl (hR.gv (v := .int (kI t 49 17)) ko_49 (by decide) rfl) rfl ?_
  obtain ⟨h1, eq1, hR⟩ := hR.si (x := (kI t 49 17)) ka_54 rfl e1
  refine zz_J.si 50 rfl eq1 rfl ?_
  clear eq1
  refine zz_J.n 51 rfl rfl rfl ?_
  refine zz_J.n 52 rfl rfl rfl ?_
  refine zz_J.g 55 rfl (hR.gv (v := .int (kI t 49 11)) ko_49 (by decide) rfl) rfl ?_
  refine zz_J.c 56 (.int 1) rfl rfl rfl rfl ?_
  refine zz_J.n 57 rfl rfl rfl ?_
  obtain ⟨h1, eq1, hR⟩ := hR.pI (x := ((kI t 49 11) + 1)) (by decide) ko_49 (kpi_49_11 _) (Nat.le_of_ble_eq_true rfl) rfl
  refine zz_J.pv 60 rfl eq1 rfl ?_
  clear eq1
  refine zz_J.n 61 rfl rfl rfl ?_
  refine zz_J.g 64 rfl (hR.gv (v := .ref 48) ko_49 (by decide) rfl) rfl ?_
  refine zz_J.n 65 rfl rfl rfl ?_
  refine zz_J.g 68 rfl (hR.gv (v := .int ((kI t 49 11) + 1)) ko_49 (by decide) rfl) rfl ?_
  refine zz_J.cv 71 (as := []) rfl rfl (hR.clO ko_48 (by decide) (by decide)) (by decide) (Nat.le_of_ble_eq_true rfl) (Nat.le_of_ble_eq_true rfl) rfl (Nat.le_of_ble_eq_true rfl) rfl ?_
  refine zz_J.mono (k hR) ?_
  intro o h' hE
  cases o with
  | inl v => exact zz_J.weak hE rfl ⟨rfl, rfl, rfl, trivial⟩
  | inr q => exact hE
theorem cb_157_71 {X : Nat → Option zz_C} {h : zz_H} {t : cS} {s : mS} {d : Nat} {Q : zz_O → zz_H → Prop} {x1 : Int32} {x2 : Int32} (hR : kR h t s) {w0 : Nat} (e0 : (kP t 49 16) = some w0) (e1 : w0 = 12 ∨ w0 = 21) (k : ∀ {h : zz_H}, kR h t s → zz_J zp_P zt_tf zt_fd X d zm_33 0 [(0, .ref w0), (1, .int x1), (2, .int 1)] [] h (zz_after 6 Q (fun v h' => zz_J zp_P zt_tf zt_fd X (d + 1) zm_157 80 [(0, .ref 49), (1, .int x1), (2, .int x2)] (v.toList ++ []) h' Q))) : zz_J zp_P zt_tf zt_fd X (d + 1) zm_157 71 [(0, .ref 49), (1, .int x1), (2, .int x2)] [] h Q := by
  refine zz_J.n 72 rfl rfl rfl ?_
  refine zz_J.g 75 rfl (hR.gv (v := .ref w0) ko_49 (by decide) ((congrArg (fun q => some (zz_rv q)) e0).trans rfl)) rfl ?_
  refine zz_J.n 76 rfl rfl rfl ?_
  refine zz_J.c 77 (.int 1) rfl rfl rfl rfl ?_
  refine zz_J.cv 80 (as := []) rfl rfl (hR.clO (ko_P e1) (by decide) (by decide)) (by decide) (Nat.le_of_ble_eq_true rfl) (Nat.le_of_ble_eq_true rfl) rfl (Nat.le_of_ble_eq_true rfl) rfl ?_
  refine zz_J.mono (k hR) ?_
  intro o h' hE
  cases o with
  | inl v => exact zz_J.weak hE rfl ⟨rfl, rfl, rfl, trivial⟩
  | inr q => exact hE
theorem cb_157_80 {X : Nat → Option zz_C} {h : zz_H} {t : cS} {s : mS} {d : Nat} {Q : zz_O → zz_H → Prop} {x1 : Int32} {x2 : Int32} {y0 : Int32} (hR : kR h t s) (k : ∀ {h : zz_H}, kR h t s → zz_J zp_P zt_tf zt_fd X d zm_157 85 [(0, .ref 49), (1, .int x1), (4, .int y0), (5, .int x2)] [] h Q) : zz_J zp_P zt_tf zt_fd X d zm_157 80 [(0, .ref 49), (1, .int x1), (2, .int x2)] [.int y0] h Q := by
  refine zz_J.n 82 rfl rfl rfl ?_
  refine zz_J.n 83 rfl rfl rfl ?_
  refine zz_J.n 85 rfl rfl rfl ?_
  exact zz_J.weak (k hR) rfl ⟨rfl, rfl, rfl, rfl, trivial⟩
theorem cb_157_85 {X : Nat → Option zz_C} {h : zz_H} {t : cS} {s : mS} {d : Nat} {Q : zz_O → zz_H → Prop} {x1 : Int32} {x4 : Int32} {x5 : Int32} (hR : kR h t s) (k1 : x4 ≤ x5 → (∀ {h : zz_H}, kR h t s → zz_J zp_P zt_tf zt_fd X d zm_157 107 [(0, .ref 49), (1, .int x1)] [] h Q)) (k2 : ¬ x4 ≤ x5 → (∀ {h : zz_H}, kR h t s → zz_J zp_P zt_tf zt_fd X d zm_157 92 [(0, .ref 49), (1, .int x1), (4, .int x4), (5, .int x5)] [] h Q)) : zz_J zp_P zt_tf zt_fd X d zm_157 85 [(0, .ref 49), (1, .int x1), (4, .int x4), (5, .int x5)] [] h Q := by
  refine zz_J.n 87 rfl rfl rfl ?_
  refine zz_J.n 89 rfl rfl rfl ?_
  refine zz_J.b2 107 92 (A := x4 ≤ x5) rfl rfl (by decide) rfl rfl (fun c => ?_) (fun c => ?_)
  · exact zz_J.weak (k1 c hR) rfl ⟨rfl, rfl, trivial⟩
  · exact zz_J.weak (k2 c hR) rfl ⟨rfl, rfl, rfl, rfl, trivial⟩
theorem cb_157_92 {X : Nat → Option zz_C} {h : zz_H} {t : cS} {s : mS} {d : Nat} {Q : zz_O → zz_H → Prop} {x1 : Int32} {x4 : Int32} {x5 : Int32} (hR : kR h t s) (k : ∀ {h : zz_H}, kR h t s → zz_J zp_P zt_tf zt_fd X d zm_253 0 [(0, .int (-1)), (1, .int 0)] [] h (zz_after 1000 Q (fun v h' => zz_J zp_P zt_tf zt_fd X (d + 1) zm_157 98 [(0, .ref 49), (1, .int x1), (4, .int x4), (5, .int x5)] (v.toList ++ [.ref 49]) h' Q))) : zz_J zp_P zt_tf zt_fd X (d + 1) zm_157 92 [(0, .ref 49), (1, .int x1), (4, .int x4), (5, .int x5)] [] h Q := by
  refine zz_J.n 93 rfl rfl rfl ?_
  refine zz_J.c 94 (.int (-1)) rfl rfl rfl rfl ?_
  refine zz_J.c 95 (.int 0) rfl rfl rfl rfl ?_
  refine zz_J.cl (M' := zm_253) 98 rfl rfl (by decide) rfl rfl ⟨rfl, Nat.le_of_ble_eq_true rfl⟩ rfl ?_
  refine zz_J.mono (k hR) ?_
  intro o h' hE
  cases o with
  | inl v => exact zz_J.weak hE rfl ⟨rfl, rfl, rfl, rfl, trivial⟩
  | inr q => exact hE
theorem cb_157_98 {X : Nat → Option zz_C} {h : zz_H} {t : cS} {s : mS} {d : Nat} {Q : zz_O → zz_H → Prop} {x1 : Int32} {x4 : Int32} {x5 : Int32} {y1 : Int64} (hR : kR h t s) (k : ∀ {h : zz_H}, kR h t s → zz_J zp_P zt_tf zt_fd X d zm_165 0 [(0, .ref 49), (1, .long y1)] [] h (zz_after 3 Q (fun v h' => zz_J zp_P zt_tf zt_fd X (d + 1) zm_157 101 [(0, .ref 49), (1, .int x1), (4, .int x4), (5, .int x5)] (v.toList ++ []) h' Q))) : zz_J zp_P zt_tf zt_fd X (d + 1) zm_157 98 [(0, .ref 49), (1, .int x1), (4, .int x4), (5, .int x5)] [.long y1, .ref 49] h Q := by
  refine zz_J.cv 101 (as := []) rfl rfl (hR.clO ko_49 (by decide) (by decide)) (by decide) (Nat.le_of_ble_eq_true rfl) (Nat.le_of_ble_eq_true rfl) rfl (Nat.le_of_ble_eq_true rfl) rfl ?_
  refine zz_J.mono (k hR) ?_
  intro o h' hE
  cases o with
  | inl v => exact zz_J.weak hE rfl ⟨rfl, rfl, rfl, rfl, trivial⟩
  | inr q => exact hE
theorem cb_157_101 {X : Nat → Option zz_C} {h : zz_H} {t : cS} {s : mS} {d : Nat} {Q : zz_O → zz_H → Prop} {x1 : Int32} {x4 : Int32} {x5 : Int32} (hR : kR h t s) (k : ∀ {h : zz_H}, kR h t s → zz_J zp_P zt_tf zt_fd X d zm_157 85 [(0, .ref 49), (1, .int x1), (4, .int x4), (5, .int (x5 + 1))] [] h Q) : zz_J zp_P zt_tf zt_fd X d zm_157 101 [(0, .ref 49), (1, .int x1), (4, .int x4), (5, .int x5)] [] h Q := by
  refine zz_J.n 104 rfl rfl rfl ?_
  refine zz_J.n 85 rfl rfl rfl ?_
  exact zz_J.weak (k hR) rfl ⟨rfl, rfl, rfl, rfl, trivial⟩
theorem cb_157_107 {X : Nat → Option zz_C} {h : zz_H} {t : cS} {s : mS} {d : Nat} {Q : zz_O → zz_H → Prop} {x1 : Int32} (hR : kR h t s) {w0 : Nat} (e0 : (kP t 49 16) = some w0) (e1 : w0 = 12 ∨ w0 = 21) (k : ∀ {h : zz_H}, kR h t s → zz_J zp_P zt_tf zt_fd X d zm_204 0 [(0, .ref w0), (1, .int x1)] [] h (zz_after 6 Q (fun v h' => zz_J zp_P zt_tf zt_fd X (d + 1) zm_157 116 [] (v.toList ++ [.ref 49]) h' Q))) : zz_J zp_P zt_tf zt_fd X (d + 1) zm_157 107 [(0, .ref 49), (1, .int x1)] [] h Q := by
  refine zz_J.n 108 rfl rfl rfl ?_
  refine zz_J.n 109 rfl rfl rfl ?_
  refine zz_J.g 112 rfl (hR.gv (v := .ref w0) ko_49 (by decide) ((congrArg (fun q => some (zz_rv q)) e0).trans rfl)) rfl ?_
  refine zz_J.n 113 rfl rfl rfl ?_
  refine zz_J.cv 116 (as := [.ref 49]) rfl rfl (hR.clO (ko_P e1) (by decide) (by decide)) (by decide) (Nat.le_of_ble_eq_true rfl) (Nat.le_of_ble_eq_true rfl) rfl (Nat.le_of_ble_eq_true rfl) rfl ?_
  refine zz_J.mono (k hR) ?_
  intro o h' hE
  cases o with
  | inl v => exact zz_J.weak hE rfl trivial
  | inr q => exact hE
theorem cb_157_116 {X : Nat → Option zz_C} {h : zz_H} {t : cS} {s : mS} {d : Nat} {Q : zz_O → zz_H → Prop} {y1 : Int32} (hR : kR h t s) (k : ∀ {h : zz_H}, kR h (jI t 49 17 y1) s → Q (.inl none) h) : zz_J zp_P zt_tf zt_fd X d zm_157 116 [] [.int y1, .ref 49] h Q := by
  obtain ⟨h1, eq1, hR⟩ := hR.pI (x := y1) (by decide) ko_49 (kpi_49_17 _) (Nat.le_of_ble_eq_true rfl) rfl
  refine zz_J.pv 119 rfl eq1 rfl ?_
  clear eq1
  refine zz_J.ret rfl rfl rfl ?_
  exact k hR
def cf_157_116 (N : Nat) (X : Nat → Option zz_C) (y1 : Int32) (t : cS) : kO := some ((jI t 49 17 y1), .inl none)
theorem cr_157_116 {X : Nat → Option zz_C} {s : mS} {N : Nat} {d : Nat} (hd : 10 ≤ d) {Q : zz_O → zz_H → Prop} {y1 : Int32} {h : zz_H} {t t' : cS} {o : kY} (hR : kR h t s) (hf : cf_157_116 N X y1 t = some (t', o)) (k : (∀ h', kR h' t' s → kE o Q h')) : zz_J zp_P zt_tf zt_fd X d zm_157 116 [] [.int y1, .ref 49] h Q := by
  unfold cf_157_116 at hf
  cases hf
  exact cb_157_116 hR  (fun {h} hR => k h hR)
def cf_157_107 (N : Nat) (X : Nat → Option zz_C) (x1 : Int32) (t : cS) : kO := co_b ((kP t 49 16)) (fun w0 => if w0 = 12 ∨ w0 = 21 then (ko_call 6 (cf_204 N X w0 x1 t) (fun g1 v1 => co_i v1 (fun y => cf_157_116 N X y g1))) else none)
theorem cr_157_107 {X : Nat → Option zz_C} {s : mS} {N : Nat} {d : Nat} (hd : 10 ≤ d) {Q : zz_O → zz_H → Prop} {x1 : Int32} {h : zz_H} {t t' : cS} {o : kY} (hR : kR h t s) (hf : cf_157_107 N X x1 t = some (t', o)) (k : (∀ h', kR h' t' s → kE o Q h')) : zz_J zp_P zt_tf zt_fd X d zm_157 107 [(0, .ref 49), (1, .int x1)] [] h Q := by
  unfold cf_157_107 at hf
  obtain ⟨w0, e0, hf⟩ := co_b_ok hf
  obtain ⟨e1, hf⟩ := ko_if hf
  obtain ⟨d', rfl⟩ : ∃ d', d = d' + 1 := ⟨d - 1, by omega⟩
  refine cb_157_107 hR e0 e1 (fun {h} hR => ?_)
  rcases ko_call_ok hf with ⟨g1, v1, er, hf⟩ | ⟨g1, er, hq⟩
  · obtain ⟨y, hv, hf2⟩ := co_i_ok hf
    clear hf
    have hf := hf2
    clear hf2
    subst hv
    refine cr_204 (by omega) hR er (fun h hR => ?_)
    exact cr_157_116 hd hR hf k
  · refine cr_204 (by omega) hR er (fun h hR => ?_)
    exact ko_thrown hq hR k
def cf_157_101 (N : Nat) (X : Nat → Option zz_C) (rc : Nat → Int32 → Int32 → Int32 → cS → kO) (x1 : Int32) (x4 : Int32) (x5 : Int32) (t : cS) : kO := rc 0 x1 x4 (x5 + 1) t
theorem cr_157_101 {X : Nat → Option zz_C} {s : mS} {N : Nat} {d : Nat} (hd : 10 ≤ d) {rc : Nat → Int32 → Int32 → Int32 → cS → kO} (hrc0 : ∀ {Q : zz_O → zz_H → Prop} {x1 : Int32} {x4 : Int32} {x5 : Int32} {h : zz_H} {t t' : cS} {o : kY}, kR h t s → rc 0 x1 x4 x5 t = some (t', o) → (∀ h', kR h' t' s → kE o Q h') → zz_J zp_P zt_tf zt_fd X d zm_157 85 [(0, .ref 49), (1, .int x1), (4, .int x4), (5, .int x5)] [] h Q) {Q : zz_O → zz_H → Prop} {x1 : Int32} {x4 : Int32} {x5 : Int32} {h : zz_H} {t t' : cS} {o : kY} (hR : kR h t s) (hf : cf_157_101 N X rc x1 x4 x5 t = some (t', o)) (k : (∀ h', kR h' t' s → kE o Q h')) : zz_J zp_P zt_tf zt_fd X d zm_157 101 [(0, .ref 49), (1, .int x1), (4, .int x4), (5, .int x5)] [] h Q := by
  unfold cf_157_101 at hf
  exact cb_157_101 hR  (fun hR => hrc0 hR hf k)
def cf_157_98 (N : Nat) (X : Nat → Option zz_C) (rc : Nat → Int32 → Int32 → Int32 → cS → kO) (x1 : Int32) (x4 : Int32) (x5 : Int32) (y1 : Int64) (t : cS) : kO := ko_call 3 (cf_165 N X y1 t) (fun g1 v1 => co_v v1 (cf_157_101 N X rc x1 x4 x5 g1))
theorem cr_157_98 {X : Nat → Option zz_C} {s : mS} {N : Nat} {d : Nat} (hd : 10 ≤ d) {rc : Nat → Int32 → Int32 → Int32 → cS → kO} (hrc0 : ∀ {Q : zz_O → zz_H → Prop} {x1 : Int32} {x4 : Int32} {x5 : Int32} {h : zz_H} {t t' : cS} {o : kY}, kR h t s → rc 0 x1 x4 x5 t = some (t', o) → (∀ h', kR h' t' s → kE o Q h') → zz_J zp_P zt_tf zt_fd X d zm_157 85 [(0, .ref 49), (1, .int x1), (4, .int x4), (5, .int x5)] [] h Q) {Q : zz_O → zz_H → Prop} {x1 : Int32} {x4 : Int32} {x5 : Int32} {y1 : Int64} {h : zz_H} {t t' : cS} {o : kY} (hR : kR h t s) (hf : cf_157_98 N X rc x1 x4 x5 y1 t = some (t', o)) (k : (∀ h', kR h' t' s → kE o Q h')) : zz_J zp_P zt_tf zt_fd X d zm_157 98 [(0, .ref 49), (1, .int x1), (4, .int x4), (5, .int x5)] [.long y1, .ref 49] h Q := by
  unfold cf_157_98 at hf
  obtain ⟨d', rfl⟩ : ∃ d', d = d' + 1 := ⟨d - 1, by omega⟩
  refine cb_157_98 hR  (fun {h} hR => ?_)
  rcases ko_call_ok hf with ⟨g1, v1, er, hf⟩ | ⟨g1, er, hq⟩
  · obtain ⟨hv, hf2⟩ := co_v_ok hf
    clear hf
    have hf := hf2
    clear hf2
    subst hv
    refine cr_165 (by omega) hR er (fun h hR => ?_)
    exact cr_157_101 hd hrc0 hR hf k
  · refine cr_165 (by omega) hR er (fun h hR => ?_)
    exact ko_thrown hq hR k
def cf_157_92 (N : Nat) (X : Nat → Option zz_C) (rc : Nat → Int32 → Int32 → Int32 → cS → kO) (x1 : Int32) (x4 : Int32) (x5 : Int32) (t : cS) : kO := ko_call 1000 (cf_253 N X (-1) 0 t) (fun g1 v1 => co_l v1 (fun y => cf_157_98 N X rc x1 x4 x5 y g1))
theorem cr_157_92 {X : Nat → Option zz_C} {s : mS} {N : Nat} {d : Nat} (hd : 10 ≤ d) {rc : Nat → Int32 → Int32 → Int32 → cS → kO} (hrc0 : ∀ {Q : zz_O → zz_H → Prop} {x1 : Int32} {x4 : Int32} {x5 : Int32} {h : zz_H} {t t' : cS} {o : kY}, kR h t s → rc 0 x1 x4 x5 t = some (t', o) → (∀ h', kR h' t' s → kE o Q h') → zz_J zp_P zt_tf zt_fd X d zm_157 85 [(0, .ref 49), (1, .int x1), (4, .int x4), (5, .int x5)] [] h Q) {Q : zz_O → zz_H → Prop} {x1 : Int32} {x4 : Int32} {x5 : Int32} {h : zz_H} {t t' : cS} {o : kY} (hR : kR h t s) (hf : cf_157_92 N X rc x1 x4 x5 t = some (t', o)) (k : (∀ h', kR h' t' s → kE o Q h')) : zz_J zp_P zt_tf zt_fd X d zm_157 92 [(0, .ref 49), (1, .int x1), (4, .int x4), (5, .int x5)] [] h Q := by
  unfold cf_157_92 at hf
  obtain ⟨d', rfl⟩ : ∃ d', d = d' + 1 := ⟨d - 1, by omega⟩
  refine cb_157_92 hR  (fun {h} hR => ?_)
  rcases ko_call_ok hf with ⟨g1, v1, er, hf⟩ | ⟨g1, er, hq⟩
  · obtain ⟨y, hv, hf2⟩ := co_l_ok hf
    clear hf
    have hf := hf2
    clear hf2
    subst hv
    refine cr_253 (by omega) hR er (fun h hR => ?_)
    exact cr_157_98 hd hrc0 hR hf k
  · refine cr_253 (by omega) hR er (fun h hR => ?_)
    exact ko_thrown hq hR k
def cf_157_85 (N : Nat) (X : Nat → Option zz_C) (rc : Nat → Int32 → Int32 → Int32 → cS → kO) (x1 : Int32) (x4 : Int32) (x5 : Int32) (t : cS) : kO := if x4 ≤ x5 then cf_157_107 N X x1 t else cf_157_92 N X rc x1 x4 x5 t
theorem cr_157_85 {X : Nat → Option zz_C} {s : mS} {N : Nat} {d : Nat} (hd : 10 ≤ d) {rc : Nat → Int32 → Int32 → Int32 → cS → kO} (hrc0 : ∀ {Q : zz_O → zz_H → Prop} {x1 : Int32} {x4 : Int32} {x5 : Int32} {h : zz_H} {t t' : cS} {o : kY}, kR h t s → rc 0 x1 x4 x5 t = some (t', o) → (∀ h', kR h' t' s → kE o Q h') → zz_J zp_P zt_tf zt_fd X d zm_157 85 [(0, .ref 49), (1, .int x1), (4, .int x4), (5, .int x5)] [] h Q) {Q : zz_O → zz_H → Prop} {x1 : Int32} {x4 : Int32} {x5 : Int32} {h : zz_H} {t t' : cS} {o : kY} (hR : kR h t s) (hf : cf_157_85 N X rc x1 x4 x5 t = some (t', o)) (k : (∀ h', kR h' t' s → kE o Q h')) : zz_J zp_P zt_tf zt_fd X d zm_157 85 [(0, .ref 49), (1, .int x1), (4, .int x4), (5, .int x5)] [] h Q := by
  unfold cf_157_85 at hf
  refine cb_157_85 hR  (fun c {h} hR => ?_) (fun c {h} hR => ?_)
  · rw [if_pos c] at hf
    exact cr_157_107 hd hR hf k
  · rw [if_neg c] at hf
    exact cr_157_92 hd hrc0 hR hf k
def cf_157_L2 (N : Nat) (X : Nat → Option zz_C) : Nat → Nat → Int32 → Int32 → Int32 → cS → kO
  | 0, _, _, _, _, _ => none
  | n + 1, l, x1, x4, x5, t => if l = 0 then cf_157_85 N X (cf_157_L2 N X n) x1 x4 x5 t else none
theorem cr_157_L2 {X : Nat → Option zz_C} {s : mS} {N : Nat} {d : Nat} (hd : 10 ≤ d) : ∀ n : Nat, (∀ {Q : zz_O → zz_H → Prop} {x1 : Int32} {x4 : Int32} {x5 : Int32} {h : zz_H} {t t' : cS} {o : kY}, kR h t s → cf_157_L2 N X n 0 x1 x4 x5 t = some (t', o) → (∀ h', kR h' t' s → kE o Q h') → zz_J zp_P zt_tf zt_fd X d zm_157 85 [(0, .ref 49), (1, .int x1), (4, .int x4), (5, .int x5)] [] h Q) := by
  intro n
  induction n with
  | zero => exact (fun _ hf _ => by cases hf)
  | succ n ih =>
    have h0 := @ih
    intro Q _ _ _ h t t' o hR hf k
    unfold cf_157_L2 at hf
    rw [if_pos rfl] at hf
    exact cr_157_85 hd h0 hR hf k
def cf_157_80 (N : Nat) (X : Nat → Option zz_C) (x1 : Int32) (x2 : Int32) (y0 : Int32) (t : cS) : kO := cf_157_L2 N X N 0 x1 y0 x2 t
theorem cr_157_80 {X : Nat → Option zz_C} {s : mS} {N : Nat} {d : Nat} (hd : 10 ≤ d) {Q : zz_O → zz_H → Prop} {x1 : Int32} {x2 : Int32} {y0 : Int32} {h : zz_H} {t t' : cS} {o : kY} (hR : kR h t s) (hf : cf_157_80 N X x1 x2 y0 t = some (t', o)) (k : (∀ h', kR h' t' s → kE o Q h')) : zz_J zp_P zt_tf zt_fd X d zm_157 80 [(0, .ref 49), (1, .int x1), (2, .int x2)] [.int y0] h Q := by
  unfold cf_157_80 at hf
  exact cb_157_80 hR  (fun hR => cr_157_L2 hd N hR hf k)
def cf_157_71 (N : Nat) (X : Nat → Option zz_C) (x1 : Int32) (x2 : Int32) (t : cS) : kO := co_b ((kP t 49 16)) (fun w0 => if w0 = 12 ∨ w0 = 21 then (ko_call 6 (cf_33 N X w0 x1 1 t) (fun g1 v1 => co_i v1 (fun y => cf_157_80 N X x1 x2 y g1))) else none)
theorem cr_157_71 {X : Nat → Option zz_C} {s : mS} {N : Nat} {d : Nat} (hd : 10 ≤ d) {Q : zz_O → zz_H → Prop} {x1 : Int32} {x2 : Int32} {h : zz_H} {t t' : cS} {o : kY} (hR : kR h t s) (hf : cf_157_71 N X x1 x2 t = some (t', o)) (k : (∀ h', kR h' t' s → kE o Q h')) : zz_J zp_P zt_tf zt_fd X d zm_157 71 [(0, .ref 49), (1, .int x1), (2, .int x2)] [] h Q := by
  unfold cf_157_71 at hf
  obtain ⟨w0, e0, hf⟩ := co_b_ok hf
  obtain ⟨e1, hf⟩ := ko_if hf
  obtain ⟨d', rfl⟩ : ∃ d', d = d' + 1 := ⟨d - 1, by omega⟩
  refine cb_157_71 hR e0 e1 (fun {h} hR => ?_)
  rcases ko_call_ok hf with ⟨g1, v1, er, hf⟩ | ⟨g1, er, hq⟩
  · obtain ⟨y, hv, hf2⟩ := co_i_ok hf
    clear hf
    have hf := hf2
    clear hf2
    subst hv
    refine cr_33 (by omega) hR er (fun h hR => ?_)
    exact cr_157_80 hd hR hf k
  · refine cr_33 (by omega) hR er (fun h hR => ?_)
    exact ko_thrown hq hR k
def cf_157_18 (N : Nat) (X : Nat → Option zz_C) (x1 : Int32) (x2 : Int32) (t : cS) : kO := if ¬ ((kI t 49 11) < 0 ∨ (kA t 53).1 ≤ (Int32.toNatClampNeg (kI t 49 11))) then (if ¬ ((kI t 49 11) < 0 ∨ (kA (jA t 53 (upd (kA t 53).2 (Int32.toNatClampNeg (kI t 49 11)) (if (((kI t 49 8) - x2) : Int32) < 0 then 0 else ((kI t 49 8) - x2)))) 54).1 ≤ (Int32.toNatClampNeg (kI t 49 11))) then (ko_call 9 (cf_237 N X ((kI t 49 11) + 1) (jI (jA (jA t 53 (upd (kA t 53).2 (Int32.toNatClampNeg (kI t 49 11)) (if (((kI t 49 8) - x2) : Int32) < 0 then 0 else ((kI t 49 8) - x2)))) 54 (upd (kA (jA t 53 (upd (kA t 53).2 (Int32.toNatClampNeg (kI t 49 11)) (if (((kI t 49 8) - x2) : Int32) < 0 then 0 else ((kI t 49 8) - x2)))) 54).2 (Int32.toNatClampNeg (kI t 49 11)) (kI t 49 17))) 49 11 ((kI t 49 11) + 1))) (fun g1 v1 => co_v v1 (cf_157_71 N X x1 x2 g1))) else none) else none
theorem cr_157_18 {X : Nat → Option zz_C} {s : mS} {N : Nat} {d : Nat} (hd : 10 ≤ d) {Q : zz_O → zz_H → Prop} {x1 : Int32} {x2 : Int32} {h : zz_H} {t t' : cS} {o : kY} (hR : kR h t s) (hf : cf_157_18 N X x1 x2 t = some (t', o)) (k : (∀ h', kR h' t' s → kE o Q h')) : zz_J zp_P zt_tf zt_fd X d zm_157 18 [(0, .ref 49), (1, .int x1), (2, .int x2)] [] h Q := by
  unfold cf_157_18 at hf
  obtain ⟨e0, hf⟩ := ko_if hf
  obtain ⟨e1, hf⟩ := ko_if hf
  obtain ⟨d', rfl⟩ : ∃ d', d = d' + 1 := ⟨d - 1, by omega⟩
  refine cb_157_18 hR e0 e1 (fun {h} hR => ?_)
  rcases ko_call_ok hf with ⟨g1, v1, er, hf⟩ | ⟨g1, er, hq⟩
  · obtain ⟨hv, hf2⟩ := co_v_ok hf
    clear hf
    have hf := hf2
    clear hf2
    subst hv
    refine cr_237 (by omega) hR er (fun h hR => ?_)
    exact cr_157_71 hd hR hf k
  · refine cr_237 (by omega) hR er (fun h hR => ?_)
    exact ko_thrown hq hR k
def cf_157_17 (N : Nat) (X : Nat → Option zz_C)  (t : cS) : kO := some (t, .inl none)
theorem cr_157_17 {X : Nat → Option zz_C} {s : mS} {N : Nat} {d : Nat} (hd : 10 ≤ d) {Q : zz_O → zz_H → Prop}  {h : zz_H} {t t' : cS} {o : kY} (hR : kR h t s) (hf : cf_157_17 N X  t = some (t', o)) (k : (∀ h', kR h' t' s → kE o Q h')) : zz_J zp_P zt_tf zt_fd X d zm_157 17 [] [] h Q := by
  unfold cf_157_17 at hf
  cases hf
  exact cb_157_17 hR  (fun {h} hR => k h hR)
def cf_157_9 (N : Nat) (X : Nat → Option zz_C) (x3 : Int32) (t : cS) : kO := ko_call 3 (cf_156 N X 8 x3 0 t) (fun g1 v1 => co_v v1 (cf_157_17 N X  g1))
theorem cr_157_9 {X : Nat → Option zz_C} {s : mS} {N : Nat} {d : Nat} (hd : 10 ≤ d) {Q : zz_O → zz_H → Prop} {x3 : Int32} {h : zz_H} {t t' : cS} {o : kY} (hR : kR h t s) (hf : cf_157_9 N X x3 t = some (t', o)) (k : (∀ h', kR h' t' s → kE o Q h')) : zz_J zp_P zt_tf zt_fd X d zm_157 9 [(0, .ref 49), (3, .int x3)] [] h Q := by
  unfold cf_157_9 at hf
  obtain ⟨d', rfl⟩ : ∃ d', d = d' + 1 := ⟨d - 1, by omega⟩
  refine cb_157_9 hR  (fun {h} hR => ?_)
  rcases ko_call_ok hf with ⟨g1, v1, er, hf⟩ | ⟨g1, er, hq⟩
  · obtain ⟨hv, hf2⟩ := co_v_ok hf
    clear hf
    have hf := hf2
    clear hf2
    subst hv
    refine cr_156 (by omega) hR er (fun h hR => ?_)
    exact cr_157_17 hd hR hf k
  · refine cr_156 (by omega) hR er (fun h hR => ?_)
    exact ko_thrown hq hR k
def cf_157_0 (N : Nat) (X : Nat → Option zz_C) (x1 : Int32) (x2 : Int32) (x3 : Int32) (t : cS) : kO := if ¬ (kI t 49 11) = 10 then cf_157_18 N X x1 x2 t else cf_157_9 N X x3 t
theorem cr_157_0 {X : Nat → Option zz_C} {s : mS} {N : Nat} {d : Nat} (hd : 10 ≤ d) {Q : zz_O → zz_H → Prop} {x1 : Int32} {x2 : Int32} {x3 : Int32} {h : zz_H} {t t' : cS} {o : kY} (hR : kR h t s) (hf : cf_157_0 N X x1 x2 x3 t = some (t', o)) (k : (∀ h', kR h' t' s → kE o Q h')) : zz_J zp_P zt_tf zt_fd X d zm_157 0 [(0, .ref 49), (1, .int x1), (2, .int x2), (3, .int x3)] [] h Q := by
  unfold cf_157_0 at hf
  refine cb_157_0 hR  (fun c {h} hR => ?_) (fun c {h} hR => ?_)
  · rw [if_pos c] at hf
    exact cr_157_18 hd hR hf k
  · rw [if_neg c] at hf
    exact cr_157_9 hd hR hf k
/-- enter -/
def cf_157 (N : Nat) (X : Nat → Option zz_C) (x1 : Int32) (x2 : Int32) (x3 : Int32) (t : cS) : kO := cf_157_0 N X x1 x2 x3 t
theorem cr_157 {X : Nat → Option zz_C} {s : mS} {N : Nat} {d : Nat} (hd : 10 ≤ d) {Q : zz_O → zz_H → Prop} {x1 : Int32} {x2 : Int32} {x3 : Int32} {h : zz_H} {t t' : cS} {o : kY} (hR : kR h t s) (hf : cf_157 N X x1 x2 x3 t = some (t', o)) (k : ∀ h', kR h' t' s → kE o Q h') : zz_J zp_P zt_tf zt_fd X d zm_157 0 [(0, .ref 49), (1, .int x1), (2, .int x2), (3, .int x3)] [] h Q := by
  unfold cf_157 at hf
  exact zz_J.weak (cr_157_0 hd hR hf k) rfl ⟨rfl, rfl, rfl, rfl, trivial⟩
