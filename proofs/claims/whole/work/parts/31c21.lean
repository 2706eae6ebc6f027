/-! yX1_digestRow (LTallySlate$Word;J)J -/
theorem cb_96_0 {X : Nat → Option zz_C} {h : zz_H} {t : cS} {s : mS} {d : Nat} {Q : zz_O → zz_H → Prop} {x1 : Nat} {x2 : Int64} (hR : kR h t s) (k : ∀ {h : zz_H}, kR h t s → zz_J zp_P zt_tf zt_fd X d zm_128 0 [(0, .ref 42), (1, .long x2)] [] h (zz_after 2 Q (fun v h' => zz_J zp_P zt_tf zt_fd X (d + 1) zm_96 8 [(0, .ref 59), (1, .ref x1), (2, .long x2)] (v.toList ++ []) h' Q))) : zz_J zp_P zt_tf zt_fd X (d + 1) zm_96 0 [(0, .ref 59), (1, .ref x1), (2, .long x2)] [] h Q := by
  refine zz_J.n 1 rfl rfl rfl ?_
  refine zz_J.g 4 rfl (hR.gv (v := .ref 42) ko_59 (by decide) rfl) rfl ?_
  refine zz_J.n 5 rfl rfl rfl ?_
  refine zz_J.cv 8 (as := []) rfl rfl (hR.clO ko_42 (by decide) (by decide)) (by decide) (Nat.le_of_ble_eq_true rfl) (Nat.le_of_ble_eq_true rfl) rfl (Nat.le_of_ble_eq_true rfl) rfl ?_
  refine zz_J.mono (k hR) ?_
  intro o h' hE
  cases o with
  | inl v => exact zz_J.weak hE rfl ⟨rfl, rfl, rfl, trivial⟩
  | inr q => exact hE
theorem cb_96_8 {X : Nat → Option zz_C} {h : zz_H} {t : cS} {s : mS} {d : Nat} {Q : zz_O → zz_H → Prop} {x1 : Nat} {x2 : Int64} {y0 : Int32} (hR : kR h t s) (k1 : ¬ y0 = 0 → (∀ {h : zz_H}, kR h t s → zz_J zp_P zt_tf zt_fd X d zm_96 35 [(0, .ref 59), (1, .ref x1), (2, .long x2), (4, .int y0)] [] h Q)) (k2 : ¬ ¬ y0 = 0 → (∀ {h : zz_H}, kR h t s → zz_J zp_P zt_tf zt_fd X d zm_96 15 [(1, .ref x1)] [] h Q)) : zz_J zp_P zt_tf zt_fd X d zm_96 8 [(0, .ref 59), (1, .ref x1), (2, .long x2)] [.int y0] h Q := by
  refine zz_J.n 10 rfl rfl rfl ?_
  refine zz_J.n 12 rfl rfl rfl ?_
  refine zz_J.b1 35 15 (A := ¬ y0 = 0) rfl (zz_cond_ne _ _) (by decide) rfl rfl (fun c => ?_) (fun c => ?_)
  · exact zz_J.weak (k1 c hR) rfl ⟨rfl, rfl, rfl, rfl, trivial⟩
  · exact zz_J.weak (k2 c hR) rfl ⟨rfl, trivial⟩
theorem cb_96_15 {X : Nat → Option zz_C} {h : zz_H} {t : cS} {s : mS} {d : Nat} {Q : zz_O → zz_H → Prop} {x1 : Nat} (hR : kR h t s) (e0 : (zz_out < x1 ∧ x1 ≤ zz_out + 41) ∧ zz_out < (zz_out + 21) ∧ (zz_out + 21) ≤ zz_out + 41) (k1 : zz_ac .ne x1 (zz_out + 21) = true → (∀ {h : zz_H}, kR h t s → zz_J zp_P zt_tf zt_fd X d zm_96 30 [] [] h Q)) (k2 : ¬ zz_ac .ne x1 (zz_out + 21) = true → (∀ {h : zz_H}, kR h t s → zz_J zp_P zt_tf zt_fd X d zm_96 22 [] [] h Q)) : zz_J zp_P zt_tf zt_fd X d zm_96 15 [(1, .ref x1)] [] h Q := by
  refine zz_J.n 16 rfl rfl rfl ?_
  refine zz_J.c 19 (.ref (zz_out + 21)) rfl rfl rfl rfl ?_
  refine zz_J.ba 30 22 rfl e0 (by decide) rfl rfl (fun c => ?_) (fun c => ?_)
  · exact zz_J.weak (k1 c hR) rfl trivial
  · exact zz_J.weak (k2 c hR) rfl trivial
theorem cb_96_22 {X : Nat → Option zz_C} {h : zz_H} {t : cS} {s : mS} {d : Nat} {Q : zz_O → zz_H → Prop}  (hR : kR h t s) (k : ∀ {h : zz_H}, kR h t s → zz_J zp_P zt_tf zt_fd X d zm_253 0 [(0, .int 0), (1, .int 0)] [] h (zz_after 1000 Q (fun v h' => zz_J zp_P zt_tf zt_fd X (d + 1) zm_96 27 [] (v.toList ++ []) h' Q))) : zz_J zp_P zt_tf zt_fd X (d + 1) zm_96 22 [] [] h Q := by
  refine zz_J.c 23 (.int 0) rfl rfl rfl rfl ?_
  refine zz_J.c 24 (.int 0) rfl rfl rfl rfl ?_
  refine zz_J.cl (M' := zm_253) 27 rfl rfl (by decide) rfl rfl ⟨rfl, Nat.le_of_ble_eq_true rfl⟩ rfl ?_
  refine zz_J.mono (k hR) ?_
  intro o h' hE
  cases o with
  | inl v => exact zz_J.weak hE rfl trivial
  | inr q => exact hE
theorem cb_96_27 {X : Nat → Option zz_C} {h : zz_H} {t : cS} {s : mS} {d : Nat} {Q : zz_O → zz_H → Prop} {y0 : Int64} (hR : kR h t s) (k : ∀ {h : zz_H}, kR h t s → zz_J zp_P zt_tf zt_fd X d zm_96 34 [] [.long y0] h Q) : zz_J zp_P zt_tf zt_fd X d zm_96 27 [] [.long y0] h Q := by
  refine zz_J.n 34 rfl rfl rfl ?_
  exact zz_J.weak (k hR) rfl trivial
theorem cb_96_30 {X : Nat → Option zz_C} {h : zz_H} {t : cS} {s : mS} {d : Nat} {Q : zz_O → zz_H → Prop}  (hR : kR h t s) (k : ∀ {h : zz_H}, kR h t s → zz_J zp_P zt_tf zt_fd X d zm_254 0 [(0, .int 5)] [] h (zz_after 1000 Q (fun v h' => zz_J zp_P zt_tf zt_fd X (d + 1) zm_96 34 [] (v.toList ++ []) h' Q))) : zz_J zp_P zt_tf zt_fd X (d + 1) zm_96 30 [] [] h Q := by
  refine zz_J.c 31 (.int 5) rfl rfl rfl rfl ?_
  refine zz_J.cl (M' := zm_254) 34 rfl rfl (by decide) rfl rfl ⟨rfl, Nat.le_of_ble_eq_true rfl⟩ rfl ?_
  refine zz_J.mono (k hR) ?_
  intro o h' hE
  cases o with
  | inl v => exact zz_J.weak hE rfl trivial
  | inr q => exact hE
theorem cb_96_34 {X : Nat → Option zz_C} {h : zz_H} {t : cS} {s : mS} {d : Nat} {Q : zz_O → zz_H → Prop} {y0 : Int64} (hR : kR h t s) (k : ∀ {h : zz_H}, kR h t s → Q (.inl (some (.long y0))) h) : zz_J zp_P zt_tf zt_fd X d zm_96 34 [] [.long y0] h Q := by
  refine zz_J.ret rfl rfl rfl ?_
  exact k hR
theorem cb_96_35 {X : Nat → Option zz_C} {h : zz_H} {t : cS} {s : mS} {d : Nat} {Q : zz_O → zz_H → Prop} {x1 : Nat} {x2 : Int64} {x4 : Int32} (hR : kR h t s) (k : ∀ {h : zz_H}, kR h t s → zz_J zp_P zt_tf zt_fd X d zm_130 0 [(0, .ref 42), (1, .long x2), (3, .int 0)] [] h (zz_after 2 Q (fun v h' => zz_J zp_P zt_tf zt_fd X (d + 1) zm_96 44 [(0, .ref 59), (1, .ref x1), (2, .long x2), (4, .int x4)] (v.toList ++ []) h' Q))) : zz_J zp_P zt_tf zt_fd X (d + 1) zm_96 35 [(0, .ref 59), (1, .ref x1), (2, .long x2), (4, .int x4)] [] h Q := by
  refine zz_J.n 36 rfl rfl rfl ?_
  refine zz_J.g 39 rfl (hR.gv (v := .ref 42) ko_59 (by decide) rfl) rfl ?_
  refine zz_J.n 40 rfl rfl rfl ?_
  refine zz_J.c 41 (.int 0) rfl rfl rfl rfl ?_
  refine zz_J.cv 44 (as := []) rfl rfl (hR.clO ko_42 (by decide) (by decide)) (by decide) (Nat.le_of_ble_eq_true rfl) (Nat.le_of_ble_eq_true rfl) rfl (Nat.le_of_ble_eq_true rfl) rfl ?_
  refine zz_J.mono (k hR) ?_
  intro o h' hE
  cases o with
  | inl v => exact zz_J.weak hE rfl ⟨rfl, rfl, rfl, rfl, trivial⟩
  | inr q => exact hE
theorem cb_96_44 {X : Nat → Option zz_C} {h : zz_H} {t : cS} {s : mS} {d : Nat} {Q : zz_O → zz_H → Prop} {x1 : Nat} {x2 : Int64} {x4 : Int32} {y0 : Int32} (hR : kR h t s) (k : ∀ {h : zz_H}, kR h t s → zz_J zp_P zt_tf zt_fd X d zm_96 49 [(0, .ref 59), (1, .ref x1), (2, .long x2), (4, .int x4), (5, .int y0), (6, .int 1)] [] h Q) : zz_J zp_P zt_tf zt_fd X d zm_96 44 [(0, .ref 59), (1, .ref x1), (2, .long x2), (4, .int x4)] [.int y0] h Q := by
  refine zz_J.n 46 rfl rfl rfl ?_
  refine zz_J.c 47 (.int 1) rfl rfl rfl rfl ?_
  refine zz_J.n 49 rfl rfl rfl ?_
  exact zz_J.weak (k hR) rfl ⟨rfl, rfl, rfl, rfl, rfl, rfl, trivial⟩
theorem cb_96_49 {X : Nat → Option zz_C} {h : zz_H} {t : cS} {s : mS} {d : Nat} {Q : zz_O → zz_H → Prop} {x1 : Nat} {x2 : Int64} {x4 : Int32} {x5 : Int32} {x6 : Int32} (hR : kR h t s) (k1 : x4 ≤ x6 → (∀ {h : zz_H}, kR h t s → zz_J zp_P zt_tf zt_fd X d zm_96 115 [(5, .int x5)] [] h Q)) (k2 : ¬ x4 ≤ x6 → (∀ {h : zz_H}, kR h t s → zz_J zp_P zt_tf zt_fd X d zm_96 56 [(0, .ref 59), (1, .ref x1), (2, .long x2), (4, .int x4), (5, .int x5), (6, .int x6)] [] h Q)) : zz_J zp_P zt_tf zt_fd X d zm_96 49 [(0, .ref 59), (1, .ref x1), (2, .long x2), (4, .int x4), (5, .int x5), (6, .int x6)] [] h Q := by
  refine zz_J.n 51 rfl rfl rfl ?_
  refine zz_J.n 53 rfl rfl rfl ?_
  refine zz_J.b2 115 56 (A := x4 ≤ x6) rfl rfl (by decide) rfl rfl (fun c => ?_) (fun c => ?_)
  · exact zz_J.weak (k1 c hR) rfl ⟨rfl, trivial⟩
  · exact zz_J.weak (k2 c hR) rfl ⟨rfl, rfl, rfl, rfl, rfl, rfl, trivial⟩
theorem cb_96_56 {X : Nat → Option zz_C} {h : zz_H} {t : cS} {s : mS} {d : Nat} {Q : zz_O → zz_H → Prop} {x1 : Nat} {x2 : Int64} {x4 : Int32} {x5 : Int32} {x6 : Int32} (hR : kR h t s) (k : ∀ {h : zz_H}, kR h t s → zz_J zp_P zt_tf zt_fd X d zm_130 0 [(0, .ref 42), (1, .long x2), (3, .int x6)] [] h (zz_after 2 Q (fun v h' => zz_J zp_P zt_tf zt_fd X (d + 1) zm_96 66 [(0, .ref 59), (1, .ref x1), (2, .long x2), (4, .int x4), (5, .int x5), (6, .int x6)] (v.toList ++ []) h' Q))) : zz_J zp_P zt_tf zt_fd X (d + 1) zm_96 56 [(0, .ref 59), (1, .ref x1), (2, .long x2), (4, .int x4), (5, .int x5), (6, .int x6)] [] h Q := by
  refine zz_J.n 57 rfl rfl rfl ?_
  refine zz_J.g 60 rfl (hR.gv (v := .ref 42) ko_59 (by decide) rfl) rfl ?_
  refine zz_J.n 61 rfl rfl rfl ?_
  refine zz_J.n 63 rfl rfl rfl ?_
  refine zz_J.cv 66 (as := []) rfl rfl (hR.clO ko_42 (by decide) (by decide)) (by decide) (Nat.le_of_ble_eq_true rfl) (Nat.le_of_ble_eq_true rfl) rfl (Nat.le_of_ble_eq_true rfl) rfl ?_
  refine zz_J.mono (k hR) ?_
  intro o h' hE
  cases o with
  | inl v => exact zz_J.weak hE rfl ⟨rfl, rfl, rfl, rfl, rfl, rfl, trivial⟩
  | inr q => exact hE
theorem cb_96_66 {X : Nat → Option zz_C} {h : zz_H} {t : cS} {s : mS} {d : Nat} {Q : zz_O → zz_H → Prop} {x1 : Nat} {x2 : Int64} {x4 : Int32} {x5 : Int32} {x6 : Int32} {y0 : Int32} (hR : kR h t s) (e0 : (zz_out < x1 ∧ x1 ≤ zz_out + 41) ∧ zz_out < (zz_out + 21) ∧ (zz_out + 21) ≤ zz_out + 41) (k1 : zz_ac .ne x1 (zz_out + 21) = true → (∀ {h : zz_H}, kR h t s → zz_J zp_P zt_tf zt_fd X d zm_96 83 [(0, .ref 59), (1, .ref x1), (2, .long x2), (4, .int x4), (5, .int x5), (6, .int x6), (7, .int y0)] [] h Q)) (k2 : ¬ zz_ac .ne x1 (zz_out + 21) = true → (∀ {h : zz_H}, kR h t s → zz_J zp_P zt_tf zt_fd X d zm_96 75 [(0, .ref 59), (1, .ref x1), (2, .long x2), (4, .int x4), (5, .int x5), (6, .int x6), (7, .int y0)] [] h Q)) : zz_J zp_P zt_tf zt_fd X d zm_96 66 [(0, .ref 59), (1, .ref x1), (2, .long x2), (4, .int x4), (5, .int x5), (6, .int x6)] [.int y0] h Q := by
  refine zz_J.n 68 rfl rfl rfl ?_
  refine zz_J.n 69 rfl rfl rfl ?_
  refine zz_J.c 72 (.ref (zz_out + 21)) rfl rfl rfl rfl ?_
  refine zz_J.ba 83 75 rfl e0 (by decide) rfl rfl (fun c => ?_) (fun c => ?_)
  · exact zz_J.weak (k1 c hR) rfl ⟨rfl, rfl, rfl, rfl, rfl, rfl, rfl, trivial⟩
  · exact zz_J.weak (k2 c hR) rfl ⟨rfl, rfl, rfl, rfl, rfl, rfl, rfl, trivial⟩
theorem cb_96_75 {X : Nat → Option zz_C} {h : zz_H} {t : cS} {s : mS} {d : Nat} {Q : zz_O → zz_H → Prop} {x1 : Nat} {x2 : Int64} {x4 : Int32} {x5 : Int32} {x6 : Int32} {x7 : Int32} (hR : kR h t s) (k : ∀ {h : zz_H}, kR h t s → zz_J zp_P zt_tf zt_fd X d zm_96 107 [(0, .ref 59), (1, .ref x1), (2, .long x2), (4, .int x4), (6, .int x6)] [.int (x5 + x7)] h Q) : zz_J zp_P zt_tf zt_fd X d zm_96 75 [(0, .ref 59), (1, .ref x1), (2, .long x2), (4, .int x4), (5, .int x5), (6, .int x6), (7, .int x7)] [] h Q := by
  refine zz_J.n 77 rfl rfl rfl ?_
  refine zz_J.n 79 rfl rfl rfl ?_
  refine zz_J.n 80 rfl rfl rfl ?_
  refine zz_J.n 107 rfl rfl rfl ?_
  exact zz_J.weak (k hR) rfl ⟨rfl, rfl, rfl, rfl, rfl, trivial⟩
theorem cb_96_83 {X : Nat → Option zz_C} {h : zz_H} {t : cS} {s : mS} {d : Nat} {Q : zz_O → zz_H → Prop} {x1 : Nat} {x2 : Int64} {x4 : Int32} {x5 : Int32} {x6 : Int32} {x7 : Int32} (hR : kR h t s) (e0 : (zz_out < x1 ∧ x1 ≤ zz_out + 41) ∧ zz_out < (zz_out + 22) ∧ (zz_out + 22) ≤ zz_out + 41) (k1 : zz_ac .ne x1 (zz_out + 22) = true → (∀ {h : zz_H}, kR h t s → zz_J zp_P zt_tf zt_fd X d zm_96 100 [(0, .ref 59), (1, .ref x1), (2, .long x2), (4, .int x4), (5, .int x5), (6, .int x6), (7, .int x7)] [] h Q)) (k2 : ¬ zz_ac .ne x1 (zz_out + 22) = true → (∀ {h : zz_H}, kR h t s → zz_J zp_P zt_tf zt_fd X d zm_96 90 [(0, .ref 59), (1, .ref x1), (2, .long x2), (4, .int x4), (5, .int x5), (6, .int x6), (7, .int x7)] [] h Q)) : zz_J zp_P zt_tf zt_fd X d zm_96 83 [(0, .ref 59), (1, .ref x1), (2, .long x2), (4, .int x4), (5, .int x5), (6, .int x6), (7, .int x7)] [] h Q := by
  refine zz_J.n 84 rfl rfl rfl ?_
  refine zz_J.c 87 (.ref (zz_out + 22)) rfl rfl rfl rfl ?_
  refine zz_J.ba 100 90 rfl e0 (by decide) rfl rfl (fun c => ?_) (fun c => ?_)
  · exact zz_J.weak (k1 c hR) rfl ⟨rfl, rfl, rfl, rfl, rfl, rfl, rfl, trivial⟩
  · exact zz_J.weak (k2 c hR) rfl ⟨rfl, rfl, rfl, rfl, rfl, rfl, rfl, trivial⟩
theorem cb_96_90 {X : Nat → Option zz_C} {h : zz_H} {t : cS} {s : mS} {d : Nat} {Q : zz_O → zz_H → Prop} {x1 : Nat} {x2 : Int64} {x4 : Int32} {x5 : Int32} {x6 : Int32} {x7 : Int32} (hR : kR h t s) (k : ∀ {h : zz_H}, kR h t s → zz_J zp_P zt_tf zt_fd X (d + 1) zm_96 107 [(0, .ref 59), (1, .ref x1), (2, .long x2), (4, .int x4), (6, .int x6)] [.int (if (x5 : Int32) < x7 then x7 else x5)] h Q) : zz_J zp_P zt_tf zt_fd X (d + 1) zm_96 90 [(0, .ref 59), (1, .ref x1), (2, .long x2), (4, .int x4), (5, .int x5), (6, .int x6), (7, .int x7)] [] h Q := by
  refine zz_J.n 92 rfl rfl rfl ?_
  refine zz_J.n 94 rfl rfl rfl ?_
  refine zz_J.spec 97 rfl rfl (by decide) rfl rfl rfl ?_
  refine zz_J.n 107 rfl rfl rfl ?_
  exact zz_J.weak (k hR) rfl ⟨rfl, rfl, rfl, rfl, rfl, trivial⟩
theorem cb_96_100 {X : Nat → Option zz_C} {h : zz_H} {t : cS} {s : mS} {d : Nat} {Q : zz_O → zz_H → Prop} {x1 : Nat} {x2 : Int64} {x4 : Int32} {x5 : Int32} {x6 : Int32} {x7 : Int32} (hR : kR h t s) (k : ∀ {h : zz_H}, kR h t s → zz_J zp_P zt_tf zt_fd X (d + 1) zm_96 107 [(0, .ref 59), (1, .ref x1), (2, .long x2), (4, .int x4), (6, .int x6)] [.int (if x7 < (x5 : Int32) then x7 else x5)] h Q) : zz_J zp_P zt_tf zt_fd X (d + 1) zm_96 100 [(0, .ref 59), (1, .ref x1), (2, .long x2), (4, .int x4), (5, .int x5), (6, .int x6), (7, .int x7)] [] h Q := by
  refine zz_J.n 102 rfl rfl rfl ?_
  refine zz_J.n 104 rfl rfl rfl ?_
  refine zz_J.spec 107 rfl rfl (by decide) rfl rfl rfl ?_
  exact zz_J.weak (k hR) rfl ⟨rfl, rfl, rfl, rfl, rfl, trivial⟩
theorem cb_96_107 {X : Nat → Option zz_C} {h : zz_H} {t : cS} {s : mS} {d : Nat} {Q : zz_O → zz_H → Prop} {x1 : Nat} {x2 : Int64} {x4 : Int32} {x6 : Int32} {y0 : Int32} (hR : kR h t s) (k : ∀ {h : zz_H}, kR h t s → zz_J zp_P zt_tf zt_fd X d zm_96 49 [(0, .ref 59), (1, .ref x1), (2, .long x2), (4, .int x4), (5, .int y0), (6, .int (x6 + 1))] [] h Q) : zz_J zp_P zt_tf zt_fd X d zm_96 107 [(0, .ref 59), (1, .ref x1), (2, .long x2), (4, .int x4), (6, .int x6)] [.int y0] h Q := by
  refine zz_J.n 109 rfl rfl rfl ?_
  refine zz_J.n 112 rfl rfl rfl ?_
  refine zz_J.n 49 rfl rfl rfl ?_
  exact zz_J.weak (k hR) rfl ⟨rfl, rfl, rfl, rfl, rfl, rfl, trivial⟩
theorem cb_96_115 {X : Nat → Option zz_C} {h : zz_H} {t : cS} {s : mS} {d : Nat} {Q : zz_O → zz_H → Prop} {x5 : Int32} (hR : kR h t s) (k : ∀ {h : zz_H}, kR h t s → zz_J zp_P zt_tf zt_fd X d zm_253 0 [(0, .int 0), (1, .int x5)] [] h (zz_after 1000 Q (fun v h' => zz_J zp_P zt_tf zt_fd X (d + 1) zm_96 121 [] (v.toList ++ []) h' Q))) : zz_J zp_P zt_tf zt_fd X (d + 1) zm_96 115 [(5, .int x5)] [] h Q := by
  refine zz_J.c 116 (.int 0) rfl rfl rfl rfl ?_
  refine zz_J.n 118 rfl rfl rfl ?_
  refine zz_J.cl (M' := zm_253) 121 rfl rfl (by decide) rfl rfl ⟨rfl, Nat.le_of_ble_eq_true rfl⟩ rfl ?_
  refine zz_J.mono (k hR) ?_
  intro o h' hE
  cases o with
  | inl v => exact zz_J.weak hE rfl trivial
  | inr q => exact hE
theorem cb_96_121 {X : Nat → Option zz_C} {h : zz_H} {t : cS} {s : mS} {d : Nat} {Q : zz_O → zz_H → Prop} {y0 : Int64} (hR : kR h t s) (k : ∀ {h : zz_H}, kR h t s → Q (.inl (some (.long y0))) h) : zz_J zp_P zt_tf zt_fd X d zm_96 121 [] [.long y0] h Q := by
  refine zz_J.ret rfl rfl rfl ?_
  exact k hR
def cf_96_121 (N : Nat) (X : Nat → Option zz_C) (y0 : Int64) (t : cS) : kO := some (t, .inl (some (.long y0)))
theorem cr_96_121 {X : Nat → Option zz_C} {s : mS} {N : Nat} {d : Nat} (hd : 1 ≤ d) {Q : zz_O → zz_H → Prop} {y0 : Int64} {h : zz_H} {t t' : cS} {o : kY} (hR : kR h t s) (hf : cf_96_121 N X y0 t = some (t', o)) (k : (∀ h', kR h' t' s → kE o Q h')) : zz_J zp_P zt_tf zt_fd X d zm_96 121 [] [.long y0] h Q := by
  unfold cf_96_121 at hf
  cases hf
  exact cb_96_121 hR  (fun {h} hR => k h hR)
def cf_96_115 (N : Nat) (X : Nat → Option zz_C) (x5 : Int32) (t : cS) : kO := ko_call 1000 (cf_253 N X 0 x5 t) (fun g1 v1 => co_l v1 (fun y => cf_96_121 N X y g1))
theorem cr_96_115 {X : Nat → Option zz_C} {s : mS} {N : Nat} {d : Nat} (hd : 1 ≤ d) {Q : zz_O → zz_H → Prop} {x5 : Int32} {h : zz_H} {t t' : cS} {o : kY} (hR : kR h t s) (hf : cf_96_115 N X x5 t = some (t', o)) (k : (∀ h', kR h' t' s → kE o Q h')) : zz_J zp_P zt_tf zt_fd X d zm_96 115 [(5, .int x5)] [] h Q := by
  unfold cf_96_115 at hf
  obtain ⟨d', rfl⟩ : ∃ d', d = d' + 1 := ⟨d - 1, by omega⟩
  refine cb_96_115 hR  (fun {h} hR => ?_)
  rcases ko_call_ok hf with ⟨g1, v1, er, hf⟩ | ⟨g1, er, hq⟩
  · obtain ⟨y, hv, hf2⟩ := co_l_ok hf
    clear hf
    have hf := hf2
    clear hf2
    subst hv
    refine cr_253 (by omega) hR er (fun h hR => ?_)
    exact cr_96_121 hd hR hf k
  · refine cr_253 (by omega) hR er (fun h hR => ?_)
    exact ko_thrown hq hR k
def cf_96_107 (N : Nat) (X : Nat → Option zz_C) (rc : Nat → Nat → Int64 → Int32 → Int32 → Int32 → cS → kO) (x1 : Nat) (x2 : Int64) (x4 : Int32) (x6 : Int32) (y0 : Int32) (t : cS) : kO := rc 0 x1 x2 x4 y0 (x6 + 1) t
theorem cr_96_107 {X : Nat → Option zz_C} {s : mS} {N : Nat} {d : Nat} (hd : 1 ≤ d) {rc : Nat → Nat → Int64 → Int32 → Int32 → Int32 → cS → kO} (hrc0 : ∀ {Q : zz_O → zz_H → Prop} {x1 : Nat} {x2 : Int64} {x4 : Int32} {x5 : Int32} {x6 : Int32} {h : zz_H} {t t' : cS} {o : kY}, kR h t s → rc 0 x1 x2 x4 x5 x6 t = some (t', o) → (∀ h', kR h' t' s → kE o Q h') → zz_J zp_P zt_tf zt_fd X d zm_96 49 [(0, .ref 59), (1, .ref x1), (2, .long x2), (4, .int x4), (5, .int x5), (6, .int x6)] [] h Q) {Q : zz_O → zz_H → Prop} {x1 : Nat} {x2 : Int64} {x4 : Int32} {x6 : Int32} {y0 : Int32} {h : zz_H} {t t' : cS} {o : kY} (hR : kR h t s) (hf : cf_96_107 N X rc x1 x2 x4 x6 y0 t = some (t', o)) (k : (∀ h', kR h' t' s → kE o Q h')) : zz_J zp_P zt_tf zt_fd X d zm_96 107 [(0, .ref 59), (1, .ref x1), (2, .long x2), (4, .int x4), (6, .int x6)] [.int y0] h Q := by
  unfold cf_96_107 at hf
  exact cb_96_107 hR  (fun hR => hrc0 hR hf k)
def cf_96_75 (N : Nat) (X : Nat → Option zz_C) (rc : Nat → Nat → Int64 → Int32 → Int32 → Int32 → cS → kO) (x1 : Nat) (x2 : Int64) (x4 : Int32) (x5 : Int32) (x6 : Int32) (x7 : Int32) (t : cS) : kO := cf_96_107 N X rc x1 x2 x4 x6 (x5 + x7) t
theorem cr_96_75 {X : Nat → Option zz_C} {s : mS} {N : Nat} {d : Nat} (hd : 1 ≤ d) {rc : Nat → Nat → Int64 → Int32 → Int32 → Int32 → cS → kO} (hrc0 : ∀ {Q : zz_O → zz_H → Prop} {x1 : Nat} {x2 : Int64} {x4 : Int32} {x5 : Int32} {x6 : Int32} {h : zz_H} {t t' : cS} {o : kY}, kR h t s → rc 0 x1 x2 x4 x5 x6 t = some (t', o) → (∀ h', kR h' t' s → kE o Q h') → zz_J zp_P zt_tf zt_fd X d zm_96 49 [(0, .ref 59), (1, .ref x1), (2, .long x2), (4, .int x4), (5, .int x5), (6, .int x6)] [] h Q) {Q : zz_O → zz_H → Prop} {x1 : Nat} {x2 : Int64} {x4 : Int32} {x5 : Int32} {x6 : Int32} {x7 : Int32} {h : zz_H} {t t' : cS} {o : kY} (hR : kR h t s) (hf : cf_96_75 N X rc x1 x2 x4 x5 x6 x7 t = some (t', o)) (k : (∀ h', kR h' t' s → kE o Q h')) : zz_J zp_P zt_tf zt_fd X d zm_96 75 [(0, .ref 59), (1, .ref x1), (2, .long x2), (4, .int x4), (5, .int x5), (6, .int x6), (7, .int x7)] [] h Q := by
  unfold cf_96_75 at hf
  exact cb_96_75 hR  (fun hR => cr_96_107 hd hrc0 hR hf k)
def cf_96_90 (N : Nat) (X : Nat → Option zz_C) (rc : Nat → Nat → Int64 → Int32 → Int32 → Int32 → cS → kO) (x1 : Nat) (x2 : Int64) (x4 : Int32) (x5 : Int32) (x6 : Int32) (x7 : Int32) (t : cS) : kO := cf_96_107 N X rc x1 x2 x4 x6 (if (x5 : Int32) < x7 then x7 else x5) t
theorem cr_96_90 {X : Nat → Option zz_C} {s : mS} {N : Nat} {d : Nat} (hd : 1 ≤ d) {rc : Nat → Nat → Int64 → Int32 → Int32 → Int32 → cS → kO} (hrc0 : ∀ {Q : zz_O → zz_H → Prop} {x1 : Nat} {x2 : Int64} {x4 : Int32} {x5 : Int32} {x6 : Int32} {h : zz_H} {t t' : cS} {o : kY}, kR h t s → rc 0 x1 x2 x4 x5 x6 t = some (t', o) → (∀ h', kR h' t' s → kE o Q h') → zz_J zp_P zt_tf zt_fd X d zm_96 49 [(0, .ref 59), (1, .ref x1), (2, .long x2), (4, .int x4), (5, .int x5), (6, .int x6)] [] h Q) {Q : zz_O → zz_H → Prop} {x1 : Nat} {x2 : Int64} {x4 : Int32} {x5 : Int32} {x6 : Int32} {x7 : Int32} {h : zz_H} {t t' : cS} {o : kY} (hR : kR h t s) (hf : cf_96_90 N X rc x1 x2 x4 x5 x6 x7 t = some (t', o)) (k : (∀ h', kR h' t' s → kE o Q h')) : zz_J zp_P zt_tf zt_fd X d zm_96 90 [(0, .ref 59), (1, .ref x1), (2, .long x2), (4, .int x4), (5, .int x5), (6, .int x6), (7, .int x7)] [] h Q := by
  unfold cf_96_90 at hf
  obtain ⟨d', rfl⟩ : ∃ d', d = d' + 1 := ⟨d - 1, by omega⟩
  exact cb_96_90 hR  (fun hR => cr_96_107 hd hrc0 hR hf k)
def cf_96_100 (N : Nat) (X : Nat → Option zz_C) (rc : Nat → Nat → Int64 → Int32 → Int32 → Int32 → cS → kO) (x1 : Nat) (x2 : Int64) (x4 : Int32) (x5 : Int32) (x6 : Int32) (x7 : Int32) (t : cS) : kO := cf_96_107 N X rc x1 x2 x4 x6 (if x7 < (x5 : Int32) then x7 else x5) t
theorem cr_96_100 {X : Nat → Option zz_C} {s : mS} {N : Nat} {d : Nat} (hd : 1 ≤ d) {rc : Nat → Nat → Int64 → Int32 → Int32 → Int32 → cS → kO} (hrc0 : ∀ {Q : zz_O → zz_H → Prop} {x1 : Nat} {x2 : Int64} {x4 : Int32} {x5 : Int32} {x6 : Int32} {h : zz_H} {t t' : cS} {o : kY}, kR h t s → rc 0 x1 x2 x4 x5 x6 t = some (t', o) → (∀ h', kR h' t' s → kE o Q h') → zz_J zp_P zt_tf zt_fd X d zm_96 49 [(0, .ref 59), (1, .ref x1), (2, .long x2), (4, .int x4), (5, .int x5), (6, .int x6)] [] h Q) {Q : zz_O → zz_H → Prop} {x1 : Nat} {x2 : Int64} {x4 : Int32} {x5 : Int32} {x6 : Int32} {x7 : Int32} {h : zz_H} {t t' : cS} {o : kY} (hR : kR h t s) (hf : cf_96_100 N X rc x1 x2 x4 x5 x6 x7 t = some (t', o)) (k : (∀ h', kR h' t' s → kE o Q h')) : zz_J zp_P zt_tf zt_fd X d zm_96 100 [(0, .ref 59), (1, .ref x1), (2, .long x2), (4, .int x4), (5, .int x5), (6, .int x6), (7, .int x7)] [] h Q := by
  unfold cf_96_100 at hf
  obtain ⟨d', rfl⟩ : ∃ d', d = d' + 1 := ⟨d - 1, by omega⟩
  exact cb_96_100 hR  (fun hR => cr_96_107 hd hrc0 hR hf k)
def cf_96_83 (N : Nat) (X : Nat → Option zz_C) (rc : Nat → Nat → Int64 → Int32 → Int32 → Int32 → cS → kO) (x1 : Nat) (x2 : Int64) (x4 : Int32) (x5 : Int32) (x6 : Int32) (x7 : Int32) (t : cS) : kO := if (zz_out < x1 ∧ x1 ≤ zz_out + 41) ∧ zz_out < (zz_out + 22) ∧ (zz_out + 22) ≤ zz_out + 41 then (if zz_ac .ne x1 (zz_out + 22) = true then cf_96_100 N X rc x1 x2 x4 x5 x6 x7 t else cf_96_90 N X rc x1 x2 x4 x5 x6 x7 t) else none
theorem cr_96_83 {X : Nat → Option zz_C} {s : mS} {N : Nat} {d : Nat} (hd : 1 ≤ d) {rc : Nat → Nat → Int64 → Int32 → Int32 → Int32 → cS → kO} (hrc0 : ∀ {Q : zz_O → zz_H → Prop} {x1 : Nat} {x2 : Int64} {x4 : Int32} {x5 : Int32} {x6 : Int32} {h : zz_H} {t t' : cS} {o : kY}, kR h t s → rc 0 x1 x2 x4 x5 x6 t = some (t', o) → (∀ h', kR h' t' s → kE o Q h') → zz_J zp_P zt_tf zt_fd X d zm_96 49 [(0, .ref 59), (1, .ref x1), (2, .long x2), (4, .int x4), (5, .int x5), (6, .int x6)] [] h Q) {Q : zz_O → zz_H → Prop} {x1 : Nat} {x2 : Int64} {x4 : Int32} {x5 : Int32} {x6 : Int32} {x7 : Int32} {h : zz_H} {t t' : cS} {o : kY} (hR : kR h t s) (hf : cf_96_83 N X rc x1 x2 x4 x5 x6 x7 t = some (t', o)) (k : (∀ h', kR h' t' s → kE o Q h')) : zz_J zp_P zt_tf zt_fd X d zm_96 83 [(0, .ref 59), (1, .ref x1), (2, .long x2), (4, .int x4), (5, .int x5), (6, .int x6), (7, .int x7)] [] h Q := by
  unfold cf_96_83 at hf
  obtain ⟨e0, hf⟩ := ko_if hf
  refine cb_96_83 hR e0 (fun c {h} hR => ?_) (fun c {h} hR => ?_)
  · rw [if_pos c] at hf
    exact cr_96_100 hd hrc0 hR hf k
  · rw [if_neg c] at hf
    exact cr_96_90 hd hrc0 hR hf k
def cf_96_66 (N : Nat) (X : Nat → Option zz_C) (rc : Nat → Nat → Int64 → Int32 → Int32 → Int32 → cS → kO) (x1 : Nat) (x2 : Int64) (x4 : Int32) (x5 : Int32) (x6 : Int32) (y0 : Int32) (t : cS) : kO := if (zz_out < x1 ∧ x1 ≤ zz_out + 41) ∧ zz_out < (zz_out + 21) ∧ (zz_out + 21) ≤ zz_out + 41 then (if zz_ac .ne x1 (zz_out + 21) = true then cf_96_83 N X rc x1 x2 x4 x5 x6 y0 t else cf_96_75 N X rc x1 x2 x4 x5 x6 y0 t) else none
theorem cr_96_66 {X : Nat → Option zz_C} {s : mS} {N : Nat} {d : Nat} (hd : 1 ≤ d) {rc : Nat → Nat → Int64 → Int32 → Int32 → Int32 → cS → kO} (hrc0 : ∀ {Q : zz_O → zz_H → Prop} {x1 : Nat} {x2 : Int64} {x4 : Int32} {x5 : Int32} {x6 : Int32} {h : zz_H} {t t' : cS} {o : kY}, kR h t s → rc 0 x1 x2 x4 x5 x6 t = some (t', o) → (∀ h', kR h' t' s → kE o Q h') → zz_J zp_P zt_tf zt_fd X d zm_96 49 [(0, .ref 59), (1, .ref x1), (2, .long x2), (4, .int x4), (5, .int x5), (6, .int x6)] [] h Q) {Q : zz_O → zz_H → Prop} {x1 : Nat} {x2 : Int64} {x4 : Int32} {x5 : Int32} {x6 : Int32} {y0 : Int32} {h : zz_H} {t t' : cS} {o : kY} (hR : kR h t s) (hf : cf_96_66 N X rc x1 x2 x4 x5 x6 y0 t = some (t', o)) (k : (∀ h', kR h' t' s → kE o Q h')) : zz_J zp_P zt_tf zt_fd X d zm_96 66 [(0, .ref 59), (1, .ref x1), (2, .long x2), (4, .int x4), (5, .int x5), (6, .int x6)] [.int y0] h Q := by
  unfold cf_96_66 at hf
  obtain ⟨e0, hf⟩ := ko_if hf
  refine cb_96_66 hR e0 (fun c {h} hR => ?_) (fun c {h} hR => ?_)
  · rw [if_pos c] at hf
    exact cr_96_83 hd hrc0 hR hf k
  · rw [if_neg c] at hf
    exact cr_96_75 hd hrc0 hR hf k
def cf_96_56 (N : Nat) (X : Nat → Option zz_C) (rc : Nat → Nat → Int64 → Int32 → Int32 → Int32 → cS → kO) (x1 : Nat) (x2 : Int64) (x4 : Int32) (x5 : Int32) (x6 : Int32) (t : cS) : kO := ko_call 2 (cf_130 N X x2 x6 t) (fun g1 v1 => co_i v1 (fun y => cf_96_66 N X rc x1 x2 x4 x5 x6 y g1))
theorem cr_96_56 {X : Nat → Option zz_C} {s : mS} {N : Nat} {d : Nat} (hd : 1 ≤ d) {rc : Nat → Nat → Int64 → Int32 → Int32 → Int32 → cS → kO} (hrc0 : ∀ {Q : zz_O → zz_H → Prop} {x1 : Nat} {x2 : Int64} {x4 : Int32} {x5 : Int32} {x6 : Int32} {h : zz_H} {t t' : cS} {o : kY}, kR h t s → rc 0 x1 x2 x4 x5 x6 t = some (t', o) → (∀ h', kR h' t' s → kE o Q h') → zz_J zp_P zt_tf zt_fd X d zm_96 49 [(0, .ref 59), (1, .ref x1), (2, .long x2), (4, .int x4), (5, .int x5), (6, .int x6)] [] h Q) {Q : zz_O → zz_H → Prop} {x1 : Nat} {x2 : Int64} {x4 : Int32} {x5 : Int32} {x6 : Int32} {h : zz_H} {t t' : cS} {o : kY} (hR : kR h t s) (hf : cf_96_56 N X rc x1 x2 x4 x5 x6 t = some (t', o)) (k : (∀ h', kR h' t' s → kE o Q h')) : zz_J zp_P zt_tf zt_fd X d zm_96 56 [(0, .ref 59), (1, .ref x1), (2, .long x2), (4, .int x4), (5, .int x5), (6, .int x6)] [] h Q := by
  unfold cf_96_56 at hf
  obtain ⟨d', rfl⟩ : ∃ d', d = d' + 1 := ⟨d - 1, by omega⟩
  refine cb_96_56 hR  (fun {h} hR => ?_)
  rcases ko_call_ok hf with ⟨g1, v1, er, hf⟩ | ⟨g1, er, hq⟩
  · obtain ⟨y, hv, hf2⟩ := co_i_ok hf
    clear hf
    have hf := hf2
    clear hf2
    subst hv
    refine cr_130 (by omega) hR er (fun h hR => ?_)
    exact cr_96_66 hd hrc0 hR hf k
  · refine cr_130 (by omega) hR er (fun h hR => ?_)
    exact ko_thrown hq hR k
def cf_96_49 (N : Nat) (X : Nat → Option zz_C) (rc : Nat → Nat → Int64 → Int32 → Int32 → Int32 → cS → kO) (x1 : Nat) (x2 : Int64) (x4 : Int32) (x5 : Int32) (x6 : Int32) (t : cS) : kO := if x4 ≤ x6 then cf_96_115 N X x5 t else cf_96_56 N X rc x1 x2 x4 x5 x6 t
theorem cr_96_49 {X : Nat → Option zz_C} {s : mS} {N : Nat} {d : Nat} (hd : 1 ≤ d) {rc : Nat → Nat → Int64 → Int32 → Int32 → Int32 → cS → kO} (hrc0 : ∀ {Q : zz_O → zz_H → Prop} {x1 : Nat} {x2 : Int64} {x4 : Int32} {x5 : Int32} {x6 : Int32} {h : zz_H} {t t' : cS} {o : kY}, kR h t s → rc 0 x1 x2 x4 x5 x6 t = some (t', o) → (∀ h', kR h' t' s → kE o Q h') → zz_J zp_P zt_tf zt_fd X d zm_96 49 [(0, .ref 59), (1, .ref x1), (2, .long x2), (4, .int x4), (5, .int x5), (6, .int x6)] [] h Q) {Q : zz_O → zz_H → Prop} {x1 : Nat} {x2 : Int64} {x4 : Int32} {x5 : Int32} {x6 : Int32} {h : zz_H} {t t' : cS} {o : kY} (hR : kR h t s) (hf : cf_96_49 N X rc x1 x2 x4 x5 x6 t = some (t', o)) (k : (∀ h', kR h' t' s → kE o Q h')) : zz_J zp_P zt_tf zt_fd X d zm_96 49 [(0, .ref 59), (1, .ref x1), (2, .long x2), (4, .int x4), (5, .int x5), (6, .int x6)] [] h Q := by
  unfold cf_96_49 at hf
  refine cb_96_49 hR  (fun c {h} hR => ?_) (fun c {h} hR => ?_)
  · rw [if_pos c] at hf
    exact cr_96_115 hd hR hf k
  · rw [if_neg c] at hf
    exact cr_96_56 hd hrc0 hR hf k
def cf_96_L2 (N : Nat) (X : Nat → Option zz_C) : Nat → Nat → Nat → Int64 → Int32 → Int32 → Int32 → cS → kO
  | 0, _, _, _, _, _, _, _ => none
  | n + 1, l, x1, x2, x4, x5, x6, t => if l = 0 then cf_96_49 N X (cf_96_L2 N X n) x1 x2 x4 x5 x6 t else none
theorem cr_96_L2 {X : Nat → Option zz_C} {s : mS} {N : Nat} {d : Nat} (hd : 1 ≤ d) : ∀ n : Nat, (∀ {Q : zz_O → zz_H → Prop} {x1 : Nat} {x2 : Int64} {x4 : Int32} {x5 : Int32} {x6 : Int32} {h : zz_H} {t t' : cS} {o : kY}, kR h t s → cf_96_L2 N X n 0 x1 x2 x4 x5 x6 t = some (t', o) → (∀ h', kR h' t' s → kE o Q h') → zz_J zp_P zt_tf zt_fd X d zm_96 49 [(0, .ref 59), (1, .ref x1), (2, .long x2), (4, .int x4), (5, .int x5), (6, .int x6)] [] h Q) := by
  intro n
  induction n with
  | zero => exact (fun _ hf _ => by cases hf)
  | succ n ih =>
    have h0 := @ih
    intro Q _ _ _ _ _ h t t' o hR hf k
    unfold cf_96_L2 at hf
    rw [if_pos rfl] at hf
    exact cr_96_49 hd h0 hR hf k
def cf_96_44 (N : Nat) (X : Nat → Option zz_C) (x1 : Nat) (x2 : Int64) (x4 : Int32) (y0 : Int32) (t : cS) : kO := cf_96_L2 N X N 0 x1 x2 x4 y0 1 t
theorem cr_96_44 {X : Nat → Option zz_C} {s : mS} {N : Nat} {d : Nat} (hd : 1 ≤ d) {Q : zz_O → zz_H → Prop} {x1 : Nat} {x2 : Int64} {x4 : Int32} {y0 : Int32} {h : zz_H} {t t' : cS} {o : kY} (hR : kR h t s) (hf : cf_96_44 N X x1 x2 x4 y0 t = some (t', o)) (k : (∀ h', kR h' t' s → kE o Q h')) : zz_J zp_P zt_tf zt_fd X d zm_96 44 [(0, .ref 59), (1, .ref x1), (2, .long x2), (4, .int x4)] [.int y0] h Q := by
  unfold cf_96_44 at hf
  exact cb_96_44 hR  (fun hR => cr_96_L2 hd N hR hf k)
def cf_96_35 (N : Nat) (X : Nat → Option zz_C) (x1 : Nat) (x2 : Int64) (x4 : Int32) (t : cS) : kO := ko_call 2 (cf_130 N X x2 0 t) (fun g1 v1 => co_i v1 (fun y => cf_96_44 N X x1 x2 x4 y g1))
theorem cr_96_35 {X : Nat → Option zz_C} {s : mS} {N : Nat} {d : Nat} (hd : 1 ≤ d) {Q : zz_O → zz_H → Prop} {x1 : Nat} {x2 : Int64} {x4 : Int32} {h : zz_H} {t t' : cS} {o : kY} (hR : kR h t s) (hf : cf_96_35 N X x1 x2 x4 t = some (t', o)) (k : (∀ h', kR h' t' s → kE o Q h')) : zz_J zp_P zt_tf zt_fd X d zm_96 35 [(0, .ref 59), (1, .ref x1), (2, .long x2), (4, .int x4)] [] h Q := by
  unfold cf_96_35 at hf
  obtain ⟨d', rfl⟩ : ∃ d', d = d' + 1 := ⟨d - 1, by omega⟩
  refine cb_96_35 hR  (fun {h} hR => ?_)
  rcases ko_call_ok hf with ⟨g1, v1, er, hf⟩ | ⟨g1, er, hq⟩
  · obtain ⟨y, hv, hf2⟩ := co_i_ok hf
    clear hf
    have hf := hf2
    clear hf2
    subst hv
    refine cr_130 (by omega) hR er (fun h hR => ?_)
    exact cr_96_44 hd hR hf k
  · refine cr_130 (by omega) hR er (fun h hR => ?_)
    exact ko_thrown hq hR k
def cf_96_34 (N : Nat) (X : Nat → Option zz_C) (y0 : Int64) (t : cS) : kO := some (t, .inl (some (.long y0)))
theorem cr_96_34 {X : Nat → Option zz_C} {s : mS} {N : Nat} {d : Nat} (hd : 1 ≤ d) {Q : zz_O → zz_H → Prop} {y0 : Int64} {h : zz_H} {t t' : cS} {o : kY} (hR : kR h t s) (hf : cf_96_34 N X y0 t = some (t', o)) (k : (∀ h', kR h' t' s → kE o Q h')) : zz_J zp_P zt_tf zt_fd X d zm_96 34 [] [.long y0] h Q := by
  unfold cf_96_34 at hf
  cases hf
  exact cb_96_34 hR  (fun {h} hR => k h hR)
def cf_96_30 (N : Nat) (X : Nat → Option zz_C)  (t : cS) : kO := ko_call 1000 (cf_254 N X 5 t) (fun g1 v1 => co_l v1 (fun y => cf_96_34 N X y g1))
theorem cr_96_30 {X : Nat → Option zz_C} {s : mS} {N : Nat} {d : Nat} (hd : 1 ≤ d) {Q : zz_O → zz_H → Prop}  {h : zz_H} {t t' : cS} {o : kY} (hR : kR h t s) (hf : cf_96_30 N X  t = some (t', o)) (k : (∀ h', kR h' t' s → kE o Q h')) : zz_J zp_P zt_tf zt_fd X d zm_96 30 [] [] h Q := by
  unfold cf_96_30 at hf
  obtain ⟨d', rfl⟩ : ∃ d', d = d' + 1 := ⟨d - 1, by omega⟩
  refine cb_96_30 hR  (fun {h} hR => ?_)
  rcases ko_call_ok hf with ⟨g1, v1, er, hf⟩ | ⟨g1, er, hq⟩
  · obtain ⟨y, hv, hf2⟩ := co_l_ok hf
    clear hf
    have hf := hf2
    clear hf2
    subst hv
    refine cr_254 (by omega) hR er (fun h hR => ?_)
    exact cr_96_34 hd hR hf k
  · refine cr_254 (by omega) hR er (fun h hR => ?_)
    exact ko_thrown hq hR k
def cf_96_27 (N : Nat) (X : Nat → Option zz_C) (y0 : Int64) (t : cS) : kO := cf_96_34 N X y0 t
theorem cr_96_27 {X : Nat → Option zz_C} {s : mS} {N : Nat} {d : Nat} (hd : 1 ≤ d) {Q : zz_O → zz_H → Prop} {y0 : Int64} {h : zz_H} {t t' : cS} {o : kY} (hR : kR h t s) (hf : cf_96_27 N X y0 t = some (t', o)) (k : (∀ h', kR h' t' s → kE o Q h')) : zz_J zp_P zt_tf zt_fd X d zm_96 27 [] [.long y0] h Q := by
  unfold cf_96_27 at hf
  exact cb_96_27 hR  (fun hR => cr_96_34 hd hR hf k)
def cf_96_22 (N : Nat) (X : Nat → Option zz_C)  (t : cS) : kO := ko_call 1000 (cf_253 N X 0 0 t) (fun g1 v1 => co_l v1 (fun y => cf_96_27 N X y g1))
theorem cr_96_22 {X : Nat → Option zz_C} {s : mS} {N : Nat} {d : Nat} (hd : 1 ≤ d) {Q : zz_O → zz_H → Prop}  {h : zz_H} {t t' : cS} {o : kY} (hR : kR h t s) (hf : cf_96_22 N X  t = some (t', o)) (k : (∀ h', kR h' t' s → kE o Q h')) : zz_J zp_P zt_tf zt_fd X d zm_96 22 [] [] h Q := by
  unfold cf_96_22 at hf
  obtain ⟨d', rfl⟩ : ∃ d', d = d' + 1 := ⟨d - 1, by omega⟩
  refine cb_96_22 hR  (fun {h} hR => ?_)
  rcases ko_call_ok hf with ⟨g1, v1, er, hf⟩ | ⟨g1, er, hq⟩
  · obtain ⟨y, hv, hf2⟩ := co_l_ok hf
    clear hf
    have hf := hf2
    clear hf2
    subst hv
    refine cr_253 (by omega) hR er (fun h hR => ?_)
    exact cr_96_27 hd hR hf k
  · refine cr_253 (by omega) hR er (fun h hR => ?_)
    exact ko_thrown hq hR k
def cf_96_15 (N : Nat) (X : Nat → Option zz_C) (x1 : Nat) (t : cS) : kO := if (zz_out < x1 ∧ x1 ≤ zz_out + 41) ∧ zz_out < (zz_out + 21) ∧ (zz_out + 21) ≤ zz_out + 41 then (if zz_ac .ne x1 (zz_out + 21) = true then cf_96_30 N X  t else cf_96_22 N X  t) else none
theorem cr_96_15 {X : Nat → Option zz_C} {s : mS} {N : Nat} {d : Nat} (hd : 1 ≤ d) {Q : zz_O → zz_H → Prop} {x1 : Nat} {h : zz_H} {t t' : cS} {o : kY} (hR : kR h t s) (hf : cf_96_15 N X x1 t = some (t', o)) (k : (∀ h', kR h' t' s → kE o Q h')) : zz_J zp_P zt_tf zt_fd X d zm_96 15 [(1, .ref x1)] [] h Q := by
  unfold cf_96_15 at hf
  obtain ⟨e0, hf⟩ := ko_if hf
  refine cb_96_15 hR e0 (fun c {h} hR => ?_) (fun c {h} hR => ?_)
  · rw [if_pos c] at hf
    exact cr_96_30 hd hR hf k
  · rw [if_neg c] at hf
    exact cr_96_22 hd hR hf k
def cf_96_8 (N : Nat) (X : Nat → Option zz_C) (x1 : Nat) (x2 : Int64) (y0 : Int32) (t : cS) : kO := if ¬ y0 = 0 then cf_96_35 N X x1 x2 y0 t else cf_96_15 N X x1 t
theorem cr_96_8 {X : Nat → Option zz_C} {s : mS} {N : Nat} {d : Nat} (hd : 1 ≤ d) {Q : zz_O → zz_H → Prop} {x1 : Nat} {x2 : Int64} {y0 : Int32} {h : zz_H} {t t' : cS} {o : kY} (hR : kR h t s) (hf : cf_96_8 N X x1 x2 y0 t = some (t', o)) (k : (∀ h', kR h' t' s → kE o Q h')) : zz_J zp_P zt_tf zt_fd X d zm_96 8 [(0, .ref 59), (1, .ref x1), (2, .long x2)] [.int y0] h Q := by
  unfold cf_96_8 at hf
  refine cb_96_8 hR  (fun c {h} hR => ?_) (fun c {h} hR => ?_)
  · rw [if_pos c] at hf
    exact cr_96_35 hd hR hf k
  · rw [if_neg c] at hf
    exact cr_96_15 hd hR hf k
def cf_96_0 (N : Nat) (X : Nat → Option zz_C) (x1 : Nat) (x2 : Int64) (t : cS) : kO := ko_call 2 (cf_128 N X x2 t) (fun g1 v1 => co_i v1 (fun y => cf_96_8 N X x1 x2 y g1))
theorem cr_96_0 {X : Nat → Option zz_C} {s : mS} {N : Nat} {d : Nat} (hd : 1 ≤ d) {Q : zz_O → zz_H → Prop} {x1 : Nat} {x2 : Int64} {h : zz_H} {t t' : cS} {o : kY} (hR : kR h t s) (hf : cf_96_0 N X x1 x2 t = some (t', o)) (k : (∀ h', kR h' t' s → kE o Q h')) : zz_J zp_P zt_tf zt_fd X d zm_96 0 [(0, .ref 59), (1, .ref x1), (2, .long x2)] [] h Q := by
  unfold cf_96_0 at hf
  obtain ⟨d', rfl⟩ : ∃ d', d = d' + 1 := ⟨d - 1, by omega⟩
  refine cb_96_0 hR  (fun {h} hR => ?_)
  rcases ko_call_ok hf with ⟨g1, v1, er, hf⟩ | ⟨g1, er, hq⟩
  · obtain ⟨y, hv, hf2⟩ := co_i_ok hf
    clear hf
    have hf := hf2
    clear hf2
    subst hv
    refine cr_128 (by omega) hR er (fun h hR => ?_)
    exact cr_96_8 hd hR hf k
  · refine cr_128 (by omega) hR er (fun h hR => ?_)
    exact ko_thrown hq hR k
/-- digestRow -/
def cf_96 (N : Nat) (X : Nat → Option zz_C) (x1 : Nat) (x2 : Int64) (t : cS) : kO := cf_96_0 N X x1 x2 t
theorem cr_96 {X : Nat → Option zz_C} {s : mS} {N : Nat} {d : Nat} (hd : 1 ≤ d) {Q : zz_O → zz_H → Prop} {x1 : Nat} {x2 : Int64} {h : zz_H} {t t' : cS} {o : kY} (hR : kR h t s) (hf : cf_96 N X x1 x2 t = some (t', o)) (k : ∀ h', kR h' t' s → kE o Q h') : zz_J zp_P zt_tf zt_fd X d zm_96 0 [(0, .ref 59), (1, .ref x1), (2, .long x2)] [] h Q := by
  unfold cf_96 at hf
  exact zz_J.weak (cr_96_0 hd hR hf k) rfl ⟨rfl, rfl, rfl, trivial⟩
/-! yX1_digest (LTallySlate$Word;J)J -/
theorem cb_95_0 {X : Nat → Option zz_C} {h : zz_H} {t : cS} {s : mS} {d : Nat} {Q : zz_O → zz_H → Prop} {x1 : Nat} {x2 : Int64} (hR : kR h t s) (k : ∀ {h : zz_H}, kR h t s → zz_J zp_P zt_tf zt_fd X d zm_255 0 [(0, .long x2)] [] h (zz_after 1000 Q (fun v h' => zz_J zp_P zt_tf zt_fd X (d + 1) zm_95 4 [(0, .ref 59), (1, .ref x1), (2, .long x2)] (v.toList ++ []) h' Q))) : zz_J zp_P zt_tf zt_fd X (d + 1) zm_95 0 [(0, .ref 59), (1, .ref x1), (2, .long x2)] [] h Q := by
  refine zz_J.n 1 rfl rfl rfl ?_
  refine zz_J.cl (M' := zm_255) 4 rfl rfl (by decide) rfl rfl ⟨rfl, Nat.le_of_ble_eq_true rfl⟩ rfl ?_
  refine zz_J.mono (k hR) ?_
  intro o h' hE
  cases o with
  | inl v => exact zz_J.weak hE rfl ⟨rfl, rfl, rfl, trivial⟩
  | inr q => exact hE
theorem cb_95_4 {X : Nat → Option zz_C} {h : zz_H} {t : cS} {s : mS} {d : Nat} {Q : zz_O → zz_H → Prop} {x1 : Nat} {x2 : Int64} {y0 : Int32} (hR : kR h t s) (k1 : ¬ y0 = 0 → (∀ {h : zz_H}, kR h t s → zz_J zp_P zt_tf zt_fd X d zm_95 16 [(0, .ref 59), (1, .ref x1), (2, .long x2)] [] h Q)) (k2 : ¬ ¬ y0 = 0 → (∀ {h : zz_H}, kR h t s → zz_J zp_P zt_tf zt_fd X d zm_95 7 [(0, .ref 59), (1, .ref x1), (2, .long x2)] [] h Q)) : zz_J zp_P zt_tf zt_fd X d zm_95 4 [(0, .ref 59), (1, .ref x1), (2, .long x2)] [.int y0] h Q := by
  refine zz_J.b1 16 7 (A := ¬ y0 = 0) rfl (zz_cond_ne _ _) (by decide) rfl rfl (fun c => ?_) (fun c => ?_)
  · exact zz_J.weak (k1 c hR) rfl ⟨rfl, rfl, rfl, trivial⟩
  · exact zz_J.weak (k2 c hR) rfl ⟨rfl, rfl, rfl, trivial⟩
theorem cb_95_7 {X : Nat → Option zz_C} {h : zz_H} {t : cS} {s : mS} {d : Nat} {Q : zz_O → zz_H → Prop} {x1 : Nat} {x2 : Int64} (hR : kR h t s) (e0 : (zz_out < x1 ∧ x1 ≤ zz_out + 41) ∧ zz_out < (zz_out + 21) ∧ (zz_out + 21) ≤ zz_out + 41) (k1 : zz_ac .ne x1 (zz_out + 21) = true → (∀ {h : zz_H}, kR h t s → zz_J zp_P zt_tf zt_fd X d zm_95 16 [(0, .ref 59), (1, .ref x1), (2, .long x2)] [] h Q)) (k2 : ¬ zz_ac .ne x1 (zz_out + 21) = true → (∀ {h : zz_H}, kR h t s → zz_J zp_P zt_tf zt_fd X d zm_95 14 [(2, .long x2)] [] h Q)) : zz_J zp_P zt_tf zt_fd X d zm_95 7 [(0, .ref 59), (1, .ref x1), (2, .long x2)] [] h Q := by
  refine zz_J.n 8 rfl rfl rfl ?_
  refine zz_J.c 11 (.ref (zz_out + 21)) rfl rfl rfl rfl ?_
  refine zz_J.ba 16 14 rfl e0 (by decide) rfl rfl (fun c => ?_) (fun c => ?_)
  · exact zz_J.weak (k1 c hR) rfl ⟨rfl, rfl, rfl, trivial⟩
  · exact zz_J.weak (k2 c hR) rfl ⟨rfl, trivial⟩
theorem cb_95_14 {X : Nat → Option zz_C} {h : zz_H} {t : cS} {s : mS} {d : Nat} {Q : zz_O → zz_H → Prop} {x2 : Int64} (hR : kR h t s) (k : ∀ {h : zz_H}, kR h t s → Q (.inl (some (.long x2))) h) : zz_J zp_P zt_tf zt_fd X d zm_95 14 [(2, .long x2)] [] h Q := by
  refine zz_J.n 15 rfl rfl rfl ?_
  refine zz_J.ret rfl rfl rfl ?_
  exact k hR
theorem cb_95_16 {X : Nat → Option zz_C} {h : zz_H} {t : cS} {s : mS} {d : Nat} {Q : zz_O → zz_H → Prop} {x1 : Nat} {x2 : Int64} (hR : kR h t s) (k : ∀ {h : zz_H}, kR h t s → zz_J zp_P zt_tf zt_fd X d zm_255 0 [(0, .long x2)] [] h (zz_after 1000 Q (fun v h' => zz_J zp_P zt_tf zt_fd X (d + 1) zm_95 20 [(0, .ref 59), (1, .ref x1), (2, .long x2)] (v.toList ++ []) h' Q))) : zz_J zp_P zt_tf zt_fd X (d + 1) zm_95 16 [(0, .ref 59), (1, .ref x1), (2, .long x2)] [] h Q := by
  refine zz_J.n 17 rfl rfl rfl ?_
  refine zz_J.cl (M' := zm_255) 20 rfl rfl (by decide) rfl rfl ⟨rfl, Nat.le_of_ble_eq_true rfl⟩ rfl ?_
  refine zz_J.mono (k hR) ?_
  intro o h' hE
  cases o with
  | inl v => exact zz_J.weak hE rfl ⟨rfl, rfl, rfl, trivial⟩
  | inr q => exact hE
theorem cb_95_20 {X : Nat → Option zz_C} {h : zz_H} {t : cS} {s : mS} {d : Nat} {Q : zz_O → zz_H → Prop} {x1 : Nat} {x2 : Int64} {y0 : Int32} (hR : kR h t s) (k1 : ¬ y0 = 1 → (∀ {h : zz_H}, kR h t s → zz_J zp_P zt_tf zt_fd X d zm_95 31 [(0, .ref 59), (1, .ref x1), (2, .long x2)] [] h Q)) (k2 : ¬ ¬ y0 = 1 → (∀ {h : zz_H}, kR h t s → zz_J zp_P zt_tf zt_fd X d zm_95 24 [(0, .ref 59), (1, .ref x1), (2, .long x2)] [] h Q)) : zz_J zp_P zt_tf zt_fd X d zm_95 20 [(0, .ref 59), (1, .ref x1), (2, .long x2)] [.int y0] h Q := by
  refine zz_J.c 21 (.int 1) rfl rfl rfl rfl ?_
  refine zz_J.b2 31 24 (A := ¬ y0 = 1) rfl (zz_cond_ne _ _) (by decide) rfl rfl (fun c => ?_) (fun c => ?_)
  · exact zz_J.weak (k1 c hR) rfl ⟨rfl, rfl, rfl, trivial⟩
  · exact zz_J.weak (k2 c hR) rfl ⟨rfl, rfl, rfl, trivial⟩
theorem cb_95_24 {X : Nat → Option zz_C} {h : zz_H} {t : cS} {s : mS} {d : Nat} {Q : zz_O → zz_H → Prop} {x1 : Nat} {x2 : Int64} (hR : kR h t s) (k : ∀ {h : zz_H}, kR h t s → zz_J zp_P zt_tf zt_fd X d zm_96 0 [(0, .ref 59), (1, .ref x1), (2, .long x2)] [] h (zz_after 1 Q (fun v h' => zz_J zp_P zt_tf zt_fd X (d + 1) zm_95 30 [] (v.toList ++ []) h' Q))) : zz_J zp_P zt_tf zt_fd X (d + 1) zm_95 24 [(0, .ref 59), (1, .ref x1), (2, .long x2)] [] h Q := by
  refine zz_J.n 25 rfl rfl rfl ?_
  refine zz_J.n 26 rfl rfl rfl ?_
  refine zz_J.n 27 rfl rfl rfl ?_
  refine zz_J.cv 30 (as := []) rfl rfl (hR.clO ko_59 (by decide) (by decide)) (by decide) (Nat.le_of_ble_eq_true rfl) (Nat.le_of_ble_eq_true rfl) rfl (Nat.le_of_ble_eq_true rfl) rfl ?_
  refine zz_J.mono (k hR) ?_
  intro o h' hE
  cases o with
  | inl v => exact zz_J.weak hE rfl trivial
  | inr q => exact hE
theorem cb_95_30 {X : Nat → Option zz_C} {h : zz_H} {t : cS} {s : mS} {d : Nat} {Q : zz_O → zz_H → Prop} {y0 : Int64} (hR : kR h t s) (k : ∀ {h : zz_H}, kR h t s → Q (.inl (some (.long y0))) h) : zz_J zp_P zt_tf zt_fd X d zm_95 30 [] [.long y0] h Q := by
  refine zz_J.ret rfl rfl rfl ?_
  exact k hR
theorem cb_95_31 {X : Nat → Option zz_C} {h : zz_H} {t : cS} {s : mS} {d : Nat} {Q : zz_O → zz_H → Prop} {x1 : Nat} {x2 : Int64} (hR : kR h t s) (k : ∀ {h : zz_H}, kR h t s → zz_J zp_P zt_tf zt_fd X d zm_255 0 [(0, .long x2)] [] h (zz_after 1000 Q (fun v h' => zz_J zp_P zt_tf zt_fd X (d + 1) zm_95 35 [(0, .ref 59), (1, .ref x1), (2, .long x2)] (v.toList ++ []) h' Q))) : zz_J zp_P zt_tf zt_fd X (d + 1) zm_95 31 [(0, .ref 59), (1, .ref x1), (2, .long x2)] [] h Q := by
  refine zz_J.n 32 rfl rfl rfl ?_
  refine zz_J.cl (M' := zm_255) 35 rfl rfl (by decide) rfl rfl ⟨rfl, Nat.le_of_ble_eq_true rfl⟩ rfl ?_
  refine zz_J.mono (k hR) ?_
  intro o h' hE
  cases o with
  | inl v => exact zz_J.weak hE rfl ⟨rfl, rfl, rfl, trivial⟩
  | inr q => exact hE
theorem cb_95_35 {X : Nat → Option zz_C} {h : zz_H} {t : cS} {s : mS} {d : Nat} {Q : zz_O → zz_H → Prop} {x1 : Nat} {x2 : Int64} {y0 : Int32} (hR : kR h t s) (k1 : y0 = 2 → (∀ {h : zz_H}, kR h t s → zz_J zp_P zt_tf zt_fd X d zm_95 44 [(0, .ref 59), (1, .ref x1), (2, .long x2)] [] h Q)) (k2 : ¬ y0 = 2 → (∀ {h : zz_H}, kR h t s → zz_J zp_P zt_tf zt_fd X d zm_95 39 [] [] h Q)) : zz_J zp_P zt_tf zt_fd X d zm_95 35 [(0, .ref 59), (1, .ref x1), (2, .long x2)] [.int y0] h Q := by
  refine zz_J.c 36 (.int 2) rfl rfl rfl rfl ?_
  refine zz_J.b2 44 39 (A := y0 = 2) rfl rfl (by decide) rfl rfl (fun c => ?_) (fun c => ?_)
  · exact zz_J.weak (k1 c hR) rfl ⟨rfl, rfl, rfl, trivial⟩
  · exact zz_J.weak (k2 c hR) rfl trivial
theorem cb_95_39 {X : Nat → Option zz_C} {h : zz_H} {t : cS} {s : mS} {d : Nat} {Q : zz_O → zz_H → Prop}  (hR : kR h t s) (k : ∀ {h : zz_H}, kR h t s → zz_J zp_P zt_tf zt_fd X d zm_254 0 [(0, .int 3)] [] h (zz_after 1000 Q (fun v h' => zz_J zp_P zt_tf zt_fd X (d + 1) zm_95 43 [] (v.toList ++ []) h' Q))) : zz_J zp_P zt_tf zt_fd X (d + 1) zm_95 39 [] [] h Q := by
  refine zz_J.c 40 (.int 3) rfl rfl rfl rfl ?_
  refine zz_J.cl (M' := zm_254) 43 rfl rfl (by decide) rfl rfl ⟨rfl, Nat.le_of_ble_eq_true rfl⟩ rfl ?_
  refine zz_J.mono (k hR) ?_
  intro o h' hE
  cases o with
  | inl v => exact zz_J.weak hE rfl trivial
  | inr q => exact hE
theorem cb_95_43 {X : Nat → Option zz_C} {h : zz_H} {t : cS} {s : mS} {d : Nat} {Q : zz_O → zz_H → Prop} {y0 : Int64} (hR : kR h t s) (k : ∀ {h : zz_H}, kR h t s → Q (.inl (some (.long y0))) h) : zz_J zp_P zt_tf zt_fd X d zm_95 43 [] [.long y0] h Q := by
  refine zz_J.ret rfl rfl rfl ?_
  exact k hR
theorem cb_95_44 {X : Nat → Option zz_C} {h : zz_H} {t : cS} {s : mS} {d : Nat} {Q : zz_O → zz_H → Prop} {x1 : Nat} {x2 : Int64} (hR : kR h t s) (k : ∀ {h : zz_H}, kR h t s → zz_J zp_P zt_tf zt_fd X d zm_128 0 [(0, .ref 42), (1, .long x2)] [] h (zz_after 2 Q (fun v h' => zz_J zp_P zt_tf zt_fd X (d + 1) zm_95 52 [(0, .ref 59), (1, .ref x1), (2, .long x2)] (v.toList ++ []) h' Q))) : zz_J zp_P zt_tf zt_fd X (d + 1) zm_95 44 [(0, .ref 59), (1, .ref x1), (2, .long x2)] [] h Q := by
  refine zz_J.n 45 rfl rfl rfl ?_
  refine zz_J.g 48 rfl (hR.gv (v := .ref 42) ko_59 (by decide) rfl) rfl ?_
  refine zz_J.n 49 rfl rfl rfl ?_
  refine zz_J.cv 52 (as := []) rfl rfl (hR.clO ko_42 (by decide) (by decide)) (by decide) (Nat.le_of_ble_eq_true rfl) (Nat.le_of_ble_eq_true rfl) rfl (Nat.le_of_ble_eq_true rfl) rfl ?_
  refine zz_J.mono (k hR) ?_
  intro o h' hE
  cases o with
  | inl v => exact zz_J.weak hE rfl ⟨rfl, rfl, rfl, trivial⟩
  | inr q => exact hE
theorem cb_95_52 {X : Nat → Option zz_C} {h : zz_H} {t : cS} {s : mS} {d : Nat} {Q : zz_O → zz_H → Prop} {x1 : Nat} {x2 : Int64} {y0 : Int32} (hR : kR h t s) (k : ∀ {h : zz_H}, kR h t s → zz_J zp_P zt_tf zt_fd X d zm_122 0 [(0, .ref 42)] [] h (zz_after 2 Q (fun v h' => zz_J zp_P zt_tf zt_fd X (d + 1) zm_95 61 [(0, .ref 59), (1, .ref x1), (2, .long x2), (4, .int y0)] (v.toList ++ []) h' Q))) : zz_J zp_P zt_tf zt_fd X (d + 1) zm_95 52 [(0, .ref 59), (1, .ref x1), (2, .long x2)] [.int y0] h Q := by
  refine zz_J.n 54 rfl rfl rfl ?_
  refine zz_J.n 55 rfl rfl rfl ?_
  refine zz_J.g 58 rfl (hR.gv (v := .ref 42) ko_59 (by decide) rfl) rfl ?_
  refine zz_J.cv 61 (as := []) rfl rfl (hR.clO ko_42 (by decide) (by decide)) (by decide) (Nat.le_of_ble_eq_true rfl) (Nat.le_of_ble_eq_true rfl) rfl (Nat.le_of_ble_eq_true rfl) rfl ?_
  refine zz_J.mono (k hR) ?_
  intro o h' hE
  cases o with
  | inl v => exact zz_J.weak hE rfl ⟨rfl, rfl, rfl, rfl, trivial⟩
  | inr q => exact hE
theorem cb_95_61 {X : Nat → Option zz_C} {h : zz_H} {t : cS} {s : mS} {d : Nat} {Q : zz_O → zz_H → Prop} {x1 : Nat} {x2 : Int64} {x4 : Int32} {y0 : Int32} (hR : kR h t s) (k : ∀ {h : zz_H}, kR h t s → zz_J zp_P zt_tf zt_fd X d zm_95 66 [(0, .ref 59), (1, .ref x1), (2, .long x2), (4, .int x4), (5, .int y0), (6, .int 0)] [] h Q) : zz_J zp_P zt_tf zt_fd X d zm_95 61 [(0, .ref 59), (1, .ref x1), (2, .long x2), (4, .int x4)] [.int y0] h Q := by
  refine zz_J.n 63 rfl rfl rfl ?_
  refine zz_J.c 64 (.int 0) rfl rfl rfl rfl ?_
  refine zz_J.n 66 rfl rfl rfl ?_
  exact zz_J.weak (k hR) rfl ⟨rfl, rfl, rfl, rfl, rfl, rfl, trivial⟩
theorem cb_95_66 {X : Nat → Option zz_C} {h : zz_H} {t : cS} {s : mS} {d : Nat} {Q : zz_O → zz_H → Prop} {x1 : Nat} {x2 : Int64} {x4 : Int32} {x5 : Int32} {x6 : Int32} (hR : kR h t s) (k1 : x4 ≤ x6 → (∀ {h : zz_H}, kR h t s → zz_J zp_P zt_tf zt_fd X d zm_95 117 [(0, .ref 59), (5, .int x5)] [] h Q)) (k2 : ¬ x4 ≤ x6 → (∀ {h : zz_H}, kR h t s → zz_J zp_P zt_tf zt_fd X d zm_95 73 [(0, .ref 59), (1, .ref x1), (2, .long x2), (4, .int x4), (5, .int x5), (6, .int x6)] [] h Q)) : zz_J zp_P zt_tf zt_fd X d zm_95 66 [(0, .ref 59), (1, .ref x1), (2, .long x2), (4, .int x4), (5, .int x5), (6, .int x6)] [] h Q := by
  refine zz_J.n 68 rfl rfl rfl ?_
  refine zz_J.n 70 rfl rfl rfl ?_
  refine zz_J.b2 117 73 (A := x4 ≤ x6) rfl rfl (by decide) rfl rfl (fun c => ?_) (fun c => ?_)
  · exact zz_J.weak (k1 c hR) rfl ⟨rfl, rfl, trivial⟩
  · exact zz_J.weak (k2 c hR) rfl ⟨rfl, rfl, rfl, rfl, rfl, rfl, trivial⟩
theorem cb_95_73 {X : Nat → Option zz_C} {h : zz_H} {t : cS} {s : mS} {d : Nat} {Q : zz_O → zz_H → Prop} {x1 : Nat} {x2 : Int64} {x4 : Int32} {x5 : Int32} {x6 : Int32} (hR : kR h t s) (k : ∀ {h : zz_H}, kR h t s → zz_J zp_P zt_tf zt_fd X d zm_129 0 [(0, .ref 42), (1, .long x2), (3, .int x6)] [] h (zz_after 2 Q (fun v h' => zz_J zp_P zt_tf zt_fd X (d + 1) zm_95 85 [(0, .ref 59), (1, .ref x1), (2, .long x2), (4, .int x4), (5, .int x5), (6, .int x6)] (v.toList ++ [.ref x1, .ref 59]) h' Q))) : zz_J zp_P zt_tf zt_fd X (d + 1) zm_95 73 [(0, .ref 59), (1, .ref x1), (2, .long x2), (4, .int x4), (5, .int x5), (6, .int x6)] [] h Q := by
  refine zz_J.n 74 rfl rfl rfl ?_
  refine zz_J.n 75 rfl rfl rfl ?_
  refine zz_J.n 76 rfl rfl rfl ?_
  refine zz_J.g 79 rfl (hR.gv (v := .ref 42) ko_59 (by decide) rfl) rfl ?_
  refine zz_J.n 80 rfl rfl rfl ?_
  refine zz_J.n 82 rfl rfl rfl ?_
  refine zz_J.cv 85 (as := [.ref x1, .ref 59]) rfl rfl (hR.clO ko_42 (by decide) (by decide)) (by decide) (Nat.le_of_ble_eq_true rfl) (Nat.le_of_ble_eq_true rfl) rfl (Nat.le_of_ble_eq_true rfl) rfl ?_
  refine zz_J.mono (k hR) ?_
  intro o h' hE
  cases o with
  | inl v => exact zz_J.weak hE rfl ⟨rfl, rfl, rfl, rfl, rfl, rfl, trivial⟩
  | inr q => exact hE
theorem cb_95_85 {X : Nat → Option zz_C} {h : zz_H} {t : cS} {s : mS} {d : Nat} {Q : zz_O → zz_H → Prop} {x1 : Nat} {x2 : Int64} {x4 : Int32} {x5 : Int32} {x6 : Int32} {y1 : Nat} {y2 : Int64} (hR : kR h t s) (k : ∀ {h : zz_H}, kR h t s → zz_J zp_P zt_tf zt_fd X d zm_96 0 [(0, .ref 59), (1, .ref y1), (2, .long y2)] [] h (zz_after 1 Q (fun v h' => zz_J zp_P zt_tf zt_fd X (d + 1) zm_95 88 [(0, .ref 59), (1, .ref x1), (2, .long x2), (4, .int x4), (5, .int x5), (6, .int x6)] (v.toList ++ []) h' Q))) : zz_J zp_P zt_tf zt_fd X (d + 1) zm_95 85 [(0, .ref 59), (1, .ref x1), (2, .long x2), (4, .int x4), (5, .int x5), (6, .int x6)] [.long y2, .ref y1, .ref 59] h Q := by
  refine zz_J.cv 88 (as := []) rfl rfl (hR.clO ko_59 (by decide) (by decide)) (by decide) (Nat.le_of_ble_eq_true rfl) (Nat.le_of_ble_eq_true rfl) rfl (Nat.le_of_ble_eq_true rfl) rfl ?_
  refine zz_J.mono (k hR) ?_
  intro o h' hE
  cases o with
  | inl v => exact zz_J.weak hE rfl ⟨rfl, rfl, rfl, rfl, rfl, rfl, trivial⟩
  | inr q => exact hE
theorem cb_95_88 {X : Nat → Option zz_C} {h : zz_H} {t : cS} {s : mS} {d : Nat} {Q : zz_O → zz_H → Prop} {x1 : Nat} {x2 : Int64} {x4 : Int32} {x5 : Int32} {x6 : Int32} {y0 : Int64} (hR : kR h t s) (k : ∀ {h : zz_H}, kR h t s → zz_J zp_P zt_tf zt_fd X d zm_255 0 [(0, .long y0)] [] h (zz_after 1000 Q (fun v h' => zz_J zp_P zt_tf zt_fd X (d + 1) zm_95 95 [(0, .ref 59), (1, .ref x1), (2, .long x2), (4, .int x4), (5, .int x5), (6, .int x6), (7, .long y0)] (v.toList ++ []) h' Q))) : zz_J zp_P zt_tf zt_fd X (d + 1) zm_95 88 [(0, .ref 59), (1, .ref x1), (2, .long x2), (4, .int x4), (5, .int x5), (6, .int x6)] [.long y0] h Q := by
  refine zz_J.n 90 rfl rfl rfl ?_
  refine zz_J.n 92 rfl rfl rfl ?_
  refine zz_J.cl (M' := zm_255) 95 rfl rfl (by decide) rfl rfl ⟨rfl, Nat.le_of_ble_eq_true rfl⟩ rfl ?_
  refine zz_J.mono (k hR) ?_
  intro o h' hE
  cases o with
  | inl v => exact zz_J.weak hE rfl ⟨rfl, rfl, rfl, rfl, rfl, rfl, rfl, trivial⟩
  | inr q => exact hE
theorem cb_95_95 {X : Nat → Option zz_C} {h : zz_H} {t : cS} {s : mS} {d : Nat} {Q : zz_O → zz_H → Prop} {x1 : Nat} {x2 : Int64} {x4 : Int32} {x5 : Int32} {x6 : Int32} {x7 : Int64} {y0 : Int32} (hR : kR h t s) (k1 : ¬ y0 = 4 → (∀ {h : zz_H}, kR h t s → zz_J zp_P zt_tf zt_fd X d zm_95 102 [(0, .ref 59), (1, .ref x1), (2, .long x2), (4, .int x4), (5, .int x5), (6, .int x6), (7, .long x7)] [] h Q)) (k2 : ¬ ¬ y0 = 4 → (∀ {h : zz_H}, kR h t s → zz_J zp_P zt_tf zt_fd X d zm_95 99 [(7, .long x7)] [] h Q)) : zz_J zp_P zt_tf zt_fd X d zm_95 95 [(0, .ref 59), (1, .ref x1), (2, .long x2), (4, .int x4), (5, .int x5), (6, .int x6), (7, .long x7)] [.int y0] h Q := by
  refine zz_J.c 96 (.int 4) rfl rfl rfl rfl ?_
  refine zz_J.b2 102 99 (A := ¬ y0 = 4) rfl (zz_cond_ne _ _) (by decide) rfl rfl (fun c => ?_) (fun c => ?_)
  · exact zz_J.weak (k1 c hR) rfl ⟨rfl, rfl, rfl, rfl, rfl, rfl, rfl, trivial⟩
  · exact zz_J.weak (k2 c hR) rfl ⟨rfl, trivial⟩
theorem cb_95_99 {X : Nat → Option zz_C} {h : zz_H} {t : cS} {s : mS} {d : Nat} {Q : zz_O → zz_H → Prop} {x7 : Int64} (hR : kR h t s) (k : ∀ {h : zz_H}, kR h t s → Q (.inl (some (.long x7))) h) : zz_J zp_P zt_tf zt_fd X d zm_95 99 [(7, .long x7)] [] h Q := by
  refine zz_J.n 101 rfl rfl rfl ?_
  refine zz_J.ret rfl rfl rfl ?_
  exact k hR
theorem cb_95_102 {X : Nat → Option zz_C} {h : zz_H} {t : cS} {s : mS} {d : Nat} {Q : zz_O → zz_H → Prop} {x1 : Nat} {x2 : Int64} {x4 : Int32} {x5 : Int32} {x6 : Int32} {x7 : Int64} (hR : kR h t s) (k : ∀ {h : zz_H}, kR h t s → zz_J zp_P zt_tf zt_fd X d zm_123 0 [(0, .ref 42), (1, .long x7)] [] h (zz_after 2 Q (fun v h' => zz_J zp_P zt_tf zt_fd X (d + 1) zm_95 111 [(0, .ref 59), (1, .ref x1), (2, .long x2), (4, .int x4), (5, .int x5), (6, .int x6)] (v.toList ++ []) h' Q))) : zz_J zp_P zt_tf zt_fd X (d + 1) zm_95 102 [(0, .ref 59), (1, .ref x1), (2, .long x2), (4, .int x4), (5, .int x5), (6, .int x6), (7, .long x7)] [] h Q := by
  refine zz_J.n 103 rfl rfl rfl ?_
  refine zz_J.g 106 rfl (hR.gv (v := .ref 42) ko_59 (by decide) rfl) rfl ?_
  refine zz_J.n 108 rfl rfl rfl ?_
  refine zz_J.cv 111 (as := []) rfl rfl (hR.clO ko_42 (by decide) (by decide)) (by decide) (Nat.le_of_ble_eq_true rfl) (Nat.le_of_ble_eq_true rfl) rfl (Nat.le_of_ble_eq_true rfl) rfl ?_
  refine zz_J.mono (k hR) ?_
  intro o h' hE
  cases o with
  | inl v => exact zz_J.weak hE rfl ⟨rfl, rfl, rfl, rfl, rfl, rfl, trivial⟩
  | inr q => exact hE
theorem cb_95_111 {X : Nat → Option zz_C} {h : zz_H} {t : cS} {s : mS} {d : Nat} {Q : zz_O → zz_H → Prop} {x1 : Nat} {x2 : Int64} {x4 : Int32} {x5 : Int32} {x6 : Int32} (hR : kR h t s) (k : ∀ {h : zz_H}, kR h t s → zz_J zp_P zt_tf zt_fd X d zm_95 66 [(0, .ref 59), (1, .ref x1), (2, .long x2), (4, .int x4), (5, .int x5), (6, .int (x6 + 1))] [] h Q) : zz_J zp_P zt_tf zt_fd X d zm_95 111 [(0, .ref 59), (1, .ref x1), (2, .long x2), (4, .int x4), (5, .int x5), (6, .int x6)] [] h Q := by
  refine zz_J.n 114 rfl rfl rfl ?_
  refine zz_J.n 66 rfl rfl rfl ?_
  exact zz_J.weak (k hR) rfl ⟨rfl, rfl, rfl, rfl, rfl, rfl, trivial⟩
theorem cb_95_117 {X : Nat → Option zz_C} {h : zz_H} {t : cS} {s : mS} {d : Nat} {Q : zz_O → zz_H → Prop} {x5 : Int32} (hR : kR h t s) (k : ∀ {h : zz_H}, kR h t s → zz_J zp_P zt_tf zt_fd X d zm_126 0 [(0, .ref 42), (1, .int 1), (2, .int x5)] [] h (zz_after 2 Q (fun v h' => zz_J zp_P zt_tf zt_fd X (d + 1) zm_95 127 [] (v.toList ++ []) h' Q))) : zz_J zp_P zt_tf zt_fd X (d + 1) zm_95 117 [(0, .ref 59), (5, .int x5)] [] h Q := by
  refine zz_J.n 118 rfl rfl rfl ?_
  refine zz_J.g 121 rfl (hR.gv (v := .ref 42) ko_59 (by decide) rfl) rfl ?_
  refine zz_J.c 122 (.int 1) rfl rfl rfl rfl ?_
  refine zz_J.n 124 rfl rfl rfl ?_
  refine zz_J.cv 127 (as := []) rfl rfl (hR.clO ko_42 (by decide) (by decide)) (by decide) (Nat.le_of_ble_eq_true rfl) (Nat.le_of_ble_eq_true rfl) rfl (Nat.le_of_ble_eq_true rfl) rfl ?_
  refine zz_J.mono (k hR) ?_
  intro o h' hE
  cases o with
  | inl v => exact zz_J.weak hE rfl trivial
  | inr q => exact hE
theorem cb_95_127 {X : Nat → Option zz_C} {h : zz_H} {t : cS} {s : mS} {d : Nat} {Q : zz_O → zz_H → Prop} {y0 : Int64} (hR : kR h t s) (k : ∀ {h : zz_H}, kR h t s → Q (.inl (some (.long y0))) h) : zz_J zp_P zt_tf zt_fd X d zm_95 127 [] [.long y0] h Q := by
  refine zz_J.ret rfl rfl rfl ?_
  exact k hR
def cf_95_127 (N : Nat) (X : Nat → Option zz_C) (y0 : Int64) (t : cS) : kO := some (t, .inl (some (.long y0)))
theorem cr_95_127 {X : Nat → Option zz_C} {s : mS} {N : Nat} {d : Nat} (hd : 10 ≤ d) {Q : zz_O → zz_H → Prop} {y0 : Int64} {h : zz_H} {t t' : cS} {o : kY} (hR : kR h t s) (hf : cf_95_127 N X y0 t = some (t', o)) (k : (∀ h', kR h' t' s → kE o Q h')) : zz_J zp_P zt_tf zt_fd X d zm_95 127 [] [.long y0] h Q := by
  unfold cf_95_127 at hf
  cases hf
  exact cb_95_127 hR  (fun {h} hR => k h hR)
def cf_95_117 (N : Nat) (X : Nat → Option zz_C) (x5 : Int32) (t : cS) : kO := ko_call 2 (cf_126 N X 1 x5 t) (fun g1 v1 => co_l v1 (fun y => cf_95_127 N X y g1))
theorem cr_95_117 {X : Nat → Option zz_C} {s : mS} {N : Nat} {d : Nat} (hd : 10 ≤ d) {Q : zz_O → zz_H → Prop} {x5 : Int32} {h : zz_H} {t t' : cS} {o : kY} (hR : kR h t s) (hf : cf_95_117 N X x5 t = some (t', o)) (k : (∀ h', kR h' t' s → kE o Q h')) : zz_J zp_P zt_tf zt_fd X d zm_95 117 [(0, .ref 59), (5, .int x5)] [] h Q := by
  unfold cf_95_117 at hf
  obtain ⟨d', rfl⟩ : ∃ d', d = d' + 1 := ⟨d - 1, by omega⟩
  refine cb_95_117 hR  (fun {h} hR => ?_)
  rcases ko_call_ok hf with ⟨g1, v1, er, hf⟩ | ⟨g1, er, hq⟩
  · obtain ⟨y, hv, hf2⟩ := co_l_ok hf
    clear hf
    have hf := hf2
    clear hf2
    subst hv
    refine cr_126 (by omega) hR er (fun h hR => ?_)
    exact cr_95_127 hd hR hf k
  · refine cr_126 (by omega) hR er (fun h hR => ?_)
    exact ko_thrown hq hR k
def cf_95_99 (N : Nat) (X : Nat → Option zz_C) (x7 : Int64) (t : cS) : kO := some (t, .inl (some (.long x7)))
theorem cr_95_99 {X : Nat → Option zz_C} {s : mS} {N : Nat} {d : Nat} (hd : 10 ≤ d) {Q : zz_O → zz_H → Prop} {x7 : Int64} {h : zz_H} {t t' : cS} {o : kY} (hR : kR h t s) (hf : cf_95_99 N X x7 t = some (t', o)) (k : (∀ h', kR h' t' s → kE o Q h')) : zz_J zp_P zt_tf zt_fd X d zm_95 99 [(7, .long x7)] [] h Q := by
  unfold cf_95_99 at hf
  cases hf
  exact cb_95_99 hR  (fun {h} hR => k h hR)
def cf_95_111 (N : Nat) (X : Nat → Option zz_C) (rc : Nat → Nat → Int64 → Int32 → Int32 → Int32 → cS → kO) (x1 : Nat) (x2 : Int64) (x4 : Int32) (x5 : Int32) (x6 : Int32) (t : cS) : kO := rc 0 x1 x2 x4 x5 (x6 + 1) t
theorem cr_95_111 {X : Nat → Option zz_C} {s : mS} {N : Nat} {d : Nat} (hd : 10 ≤ d) {rc : Nat → Nat → Int64 → Int32 → Int32 → Int32 → cS → kO} (hrc0 : ∀ {Q : zz_O → zz_H → Prop} {x1 : Nat} {x2 : Int64} {x4 : Int32} {x5 : Int32} {x6 : Int32} {h : zz_H} {t t' : cS} {o : kY}, kR h t s → rc 0 x1 x2 x4 x5 x6 t = some (t', o) → (∀ h', kR h' t' s → kE o Q h') → zz_J zp_P zt_tf zt_fd X d zm_95 66 [(0, .ref 59), (1, .ref x1), (2, .long x2), (4, .int x4), (5, .int x5), (6, .int x6)] [] h Q) {Q : zz_O → zz_H → Prop} {x1 : Nat} {x2 : Int64} {x4 : Int32} {x5 : Int32} {x6 : Int32} {h : zz_H} {t t' : cS} {o : kY} (hR : kR h t s) (hf : cf_95_111 N X rc x1 x2 x4 x5 x6 t = some (t', o)) (k : (∀ h', kR h' t' s → kE o Q h')) : zz_J zp_P zt_tf zt_fd X d zm_95 111 [(0, .ref 59), (1, .ref x1), (2, .long x2), (4, .int x4), (5, .int x5), (6, .int x6)] [] h Q := by
  unfold cf_95_111 at hf
  exact cb_95_111 hR  (fun hR => hrc0 hR hf k)
def cf_95_102 (N : Nat) (X : Nat → Option zz_C) (rc : Nat → Nat → Int64 → Int32 → Int32 → Int32 → cS → kO) (x1 : Nat) (x2 : Int64) (x4 : Int32) (x5 : Int32) (x6 : Int32) (x7 : Int64) (t : cS) : kO := ko_call 2 (cf_123 N X x7 t) (fun g1 v1 => co_v v1 (cf_95_111 N X rc x1 x2 x4 x5 x6 g1))
theorem cr_95_102 {X : Nat → Option zz_C} {s : mS} {N : Nat} {d : Nat} (hd : 10 ≤ d) {rc : Nat → Nat → Int64 → Int32 → Int32 → Int32 → cS → kO} (hrc0 : ∀ {Q : zz_O → zz_H → Prop} {x1 : Nat} {x2 : Int64} {x4 : Int32} {x5 : Int32} {x6 : Int32} {h : zz_H} {t t' : cS} {o : kY}, kR h t s → rc 0 x1 x2 x4 x5 x6 t = some (t', o) → (∀ h', kR h' t' s → kE o Q h') → zz_J zp_P zt_tf zt_fd X d zm_95 66 [(0, .ref 59), (1, .ref x1), (2, .long x2), (4, .int x4), (5, .int x5), (6, .int x6)] [] h Q) {Q : zz_O → zz_H → Prop} {x1 : Nat} {x2 : Int64} {x4 : Int32} {x5 : Int32} {x6 : Int32} {x7 : Int64} {h : zz_H} {t t' : cS} {o : kY} (hR : kR h t s) (hf : cf_95_102 N X rc x1 x2 x4 x5 x6 x7 t = some (t', o)) (k : (∀ h', kR h' t' s → kE o Q h')) : zz_J zp_P zt_tf zt_fd X d zm_95 102 [(0, .ref 59), (1, .ref x1), (2, .long x2), (4, .int x4), (5, .int x5), (6, .int x6), (7, .long x7)] [] h Q := by
  unfold cf_95_102 at hf
  obtain ⟨d', rfl⟩ : ∃ d', d = d' + 1 := ⟨d - 1, by omega⟩
  refine cb_95_102 hR  (fun {h} hR => ?_)
  rcases ko_call_ok hf with ⟨g1, v1, er, hf⟩ | ⟨g1, er, hq⟩
  · obtain ⟨hv, hf2⟩ := co_v_ok hf
    clear hf
    have hf := hf2
    clear hf2
    subst hv
    refine cr_123 (by omega) hR er (fun h hR => ?_)
    exact cr_95_111 hd hrc0 hR hf k
  · refine cr_123 (by omega) hR er (fun h hR => ?_)
    exact ko_thrown hq hR k
def cf_95_95 (N : Nat) (X : Nat → Option zz_C) (rc : Nat → Nat → Int64 → Int32 → Int32 → Int32 → cS → kO) (x1 : Nat) (x2 : Int64) (x4 : Int32) (x5 : Int32) (x6 : Int32) (x7 : Int64) (y0 : Int32) (t : cS) : kO := if ¬ y0 = 4 then cf_95_102 N X rc x1 x2 x4 x5 x6 x7 t else cf_95_99 N X x7 t
theorem cr_95_95 {X : Nat → Option zz_C} {s : mS} {N : Nat} {d : Nat} (hd : 10 ≤ d) {rc : Nat → Nat → Int64 → Int32 → Int32 → Int32 → cS → kO} (hrc0 : ∀ {Q : zz_O → zz_H → Prop} {x1 : Nat} {x2 : Int64} {x4 : Int32} {x5 : Int32} {x6 : Int32} {h : zz_H} {t t' : cS} {o : kY}, kR h t s → rc 0 x1 x2 x4 x5 x6 t = some (t', o) → (∀ h', kR h' t' s → kE o Q h') → zz_J zp_P zt_tf zt_fd X d zm_95 66 [(0, .ref 59), (1, .ref x1), (2, .long x2), (4, .int x4), (5, .int x5), (6, .int x6)] [] h Q) {Q : zz_O → zz_H → Prop} {x1 : Nat} {x2 : Int64} {x4 : Int32} {x5 : Int32} {x6 : Int32} {x7 : Int64} {y0 : Int32} {h : zz_H} {t t' : cS} {o : kY} (hR : kR h t s) (hf : cf_95_95 N X rc x1 x2 x4 x5 x6 x7 y0 t = some (t', o)) (k : (∀ h', kR h' t' s → kE o Q h')) : zz_J zp_P zt_tf zt_fd X d zm_95 95 [(0, .ref 59), (1, .ref x1), (2, .long x2), (4, .int x4), (5, .int x5), (6, .int x6), (7, .long x7)] [.int y0] h Q := by
  unfold cf_95_95 at hf
  refine cb_95_95 hR  (fun c {h} hR => ?_) (fun c {h} hR => ?_)
  · rw [if_pos c] at hf
    exact cr_95_102 hd hrc0 hR hf k
  · rw [if_neg c] at hf
    exact cr_95_99 hd hR hf k
def cf_95_88 (N : Nat) (X : Nat → Option zz_C) (rc : Nat → Nat → Int64 → Int32 → Int32 → Int32 → cS → kO) (x1 : Nat) (x2 : Int64) (x4 : Int32) (x5 : Int32) (x6 : Int32) (y0 : Int64) (t : cS) : kO := ko_call 1000 (cf_255 N X y0 t) (fun g1 v1 => co_i v1 (fun y => cf_95_95 N X rc x1 x2 x4 x5 x6 y0 y g1))
theorem cr_95_88 {X : Nat → Option zz_C} {s : mS} {N : Nat} {d : Nat} (hd : 10 ≤ d) {rc : Nat → Nat → Int64 → Int32 → Int32 → Int32 → cS → kO} (hrc0 : ∀ {Q : zz_O → zz_H → Prop} {x1 : Nat} {x2 : Int64} {x4 : Int32} {x5 : Int32} {x6 : Int32} {h : zz_H} {t t' : cS} {o : kY}, kR h t s → rc 0 x1 x2 x4 x5 x6 t = some (t', o) → (∀ h', kR h' t' s → kE o Q h') → zz_J zp_P zt_tf zt_fd X d zm_95 66 [(0, .ref 59), (1, .ref x1), (2, .long x2), (4, .int x4), (5, .int x5), (6, .int x6)] [] h Q) {Q : zz_O → zz_H → Prop} {x1 : Nat} {x2 : Int64} {x4 : Int32} {x5 : Int32} {x6 : Int32} {y0 : Int64} {h : zz_H} {t t' : cS} {o : kY} (hR : kR h t s) (hf : cf_95_88 N X rc x1 x2 x4 x5 x6 y0 t = some (t', o)) (k : (∀ h', kR h' t' s → kE o Q h')) : zz_J zp_P zt_tf zt_fd X d zm_95 88 [(0, .ref 59), (1, .ref x1), (2, .long x2), (4, .int x4), (5, .int x5), (6, .int x6)] [.long y0] h Q := by
  unfold cf_95_88 at hf
  obtain ⟨d', rfl⟩ : ∃ d', d = d' + 1 := ⟨d - 1, by omega⟩
  refine cb_95_88 hR  (fun {h} hR => ?_)
  rcases ko_call_ok hf with ⟨g1, v1, er, hf⟩ | ⟨g1, er, hq⟩
  · obtain ⟨y, hv, hf2⟩ := co_i_ok hf
    clear hf
    have hf := hf2
    clear hf2
    subst hv
    refine cr_255 (by omega) hR er (fun h hR => ?_)
    exact cr_95_95 hd hrc0 hR hf k
  · refine cr_255 (by omega) hR er (fun h hR => ?_)
    exact ko_thrown hq hR k
def cf_95_85 (N : Nat) (X : Nat → Option zz_C) (rc : Nat → Nat → Int64 → Int32 → Int32 → Int32 → cS → kO) (x1 : Nat) (x2 : Int64) (x4 : Int32) (x5 : Int32) (x6 : Int32) (y1 : Nat) (y2 : Int64) (t : cS) : kO := ko_call 1 (cf_96 N X y1 y2 t) (fun g1 v1 => co_l v1 (fun y => cf_95_88 N X rc x1 x2 x4 x5 x6 y g1))
theorem cr_95_85 {X : Nat → Option zz_C} {s : mS} {N : Nat} {d : Nat} (hd : 10 ≤ d) {rc : Nat → Nat → Int64 → Int32 → Int32 → Int32 → cS → kO} (hrc0 : ∀ {Q : zz_O → zz_H → Prop} {x1 : Nat} {x2 : Int64} {x4 : Int32} {x5 : Int32} {x6 : Int32} {h : zz_H} {t t' : cS} {o : kY}, kR h t s → rc 0 x1 x2 x4 x5 x6 t = some (t', o) → (∀ h', kR h' t' s → kE o Q h') → zz_J zp_P zt_tf zt_fd X d zm_95 66 [(0, .ref 59), (1, .ref x1), (2, .long x2), (4, .int x4), (5, .int x5), (6, .int x6)] [] h Q) {Q : zz_O → zz_H → Prop} {x1 : Nat} {x2 : Int64} {x4 : Int32} {x5 : Int32} {x6 : Int32} {y1 : Nat} {y2 : Int64} {h : zz_H} {t t' : cS} {o : kY} (hR : kR h t s) (hf : cf_95_85 N X rc x1 x2 x4 x5 x6 y1 y2 t = some (t', o)) (k : (∀ h', kR h' t' s → kE o Q h')) : zz_J zp_P zt_tf zt_fd X d zm_95 85 [(0, .ref 59), (1, .ref x1), (2, .long x2), (4, .int x4), (5, .int x5), (6, .int x6)] [.long y2, .ref y1, .ref 59] h Q := by
  unfold cf_95_85 at hf
  obtain ⟨d', rfl⟩ : ∃ d', d = d' + 1 := ⟨d - 1, by omega⟩
  refine cb_95_85 hR  (fun {h} hR => ?_)
  rcases ko_call_ok hf with ⟨g1, v1, er, hf⟩ | ⟨g1, er, hq⟩
  · obtain ⟨y, hv, hf2⟩ := co_l_ok hf
    clear hf
    have hf := hf2
    clear hf2
    subst hv
    refine cr_96 (by omega) hR er (fun h hR => ?_)
    exact cr_95_88 hd hrc0 hR hf k
  · refine cr_96 (by omega) hR er (fun h hR => ?_)
    exact ko_thrown hq hR k
def cf_95_73 (N : Nat) (X : Nat → Option zz_C) (rc : Nat → Nat → Int64 → Int32 → Int32 → Int32 → cS → kO) (x1 : Nat) (x2 : Int64) (x4 : Int32) (x5 : Int32) (x6 : Int32) (t : cS) : kO := ko_call 2 (cf_129 N X x2 x6 t) (fun g1 v1 => co_l v1 (fun y => cf_95_85 N X rc x1 x2 x4 x5 x6 x1 y g1))
theorem cr_95_73 {X : Nat → Option zz_C} {s : mS} {N : Nat} {d : Nat} (hd : 10 ≤ d) {rc : Nat → Nat → Int64 → Int32 → Int32 → Int32 → cS → kO} (hrc0 : ∀ {Q : zz_O → zz_H → Prop} {x1 : Nat} {x2 : Int64} {x4 : Int32} {x5 : Int32} {x6 : Int32} {h : zz_H} {t t' : cS} {o : kY}, kR h t s → rc 0 x1 x2 x4 x5 x6 t = some (t', o) → (∀ h', kR h' t' s → kE o Q h') → zz_J zp_P zt_tf zt_fd X d zm_95 66 [(0, .ref 59), (1, .ref x1), (2, .long x2), (4, .int x4), (5, .int x5), (6, .int x6)] [] h Q) {Q : zz_O → zz_H → Prop} {x1 : Nat} {x2 : Int64} {x4 : Int32} {x5 : Int32} {x6 : Int32} {h : zz_H} {t t' : cS} {o : kY} (hR : kR h t s) (hf : cf_95_73 N X rc x1 x2 x4 x5 x6 t = some (t', o)) (k : (∀ h', kR h' t' s → kE o Q h')) : zz_J zp_P zt_tf zt_fd X d zm_95 73 [(0, .ref 59), (1, .ref x1), (2, .long x2), (4, .int x4), (5, .int x5), (6, .int x6)] [] h Q := by
  unfold cf_95_73 at hf
  obtain ⟨d', rfl⟩ : ∃ d', d = d' + 1 := ⟨d - 1, by omega⟩
  refine cb_95_73 hR  (fun {h} hR => ?_)
  rcases ko_call_ok hf with ⟨g1, v1, er, hf⟩ | ⟨g1, er, hq⟩
  · obtain ⟨y, hv, hf2⟩ := co_l_ok hf
    clear hf
    have hf := hf2
    clear hf2
    subst hv
    refine cr_129 (by omega) hR er (fun h hR => ?_)
    exact cr_95_85 hd hrc0 hR hf k
  · refine cr_129 (by omega) hR er (fun h hR => ?_)
    exact ko_thrown hq hR k
def cf_95_66 (N : Nat) (X : Nat → Option zz_C) (rc : Nat → Nat → Int64 → Int32 → Int32 → Int32 → cS → kO) (x1 : Nat) (x2 : Int64) (x4 : Int32) (x5 : Int32) (x6 : Int32) (t : cS) : kO := if x4 ≤ x6 then cf_95_117 N X x5 t else cf_95_73 N X rc x1 x2 x4 x5 x6 t
theorem cr_95_66 {X : Nat → Option zz_C} {s : mS} {N : Nat} {d : Nat} (hd : 10 ≤ d) {rc : Nat → Nat → Int64 → Int32 → Int32 → Int32 → cS → kO} (hrc0 : ∀ {Q : zz_O → zz_H → Prop} {x1 : Nat} {x2 : Int64} {x4 : Int32} {x5 : Int32} {x6 : Int32} {h : zz_H} {t t' : cS} {o : kY}, kR h t s → rc 0 x1 x2 x4 x5 x6 t = some (t', o) → (∀ h', kR h' t' s → kE o Q h') → zz_J zp_P zt_tf zt_fd X d zm_95 66 [(0, .ref 59), (1, .ref x1), (2, .long x2), (4, .int x4), (5, .int x5), (6, .int x6)] [] h Q) {Q : zz_O → zz_H → Prop} {x1 : Nat} {x2 : Int64} {x4 : Int32} {x5 : Int32} {x6 : Int32} {h : zz_H} {t t' : cS} {o : kY} (hR : kR h t s) (hf : cf_95_66 N X rc x1 x2 x4 x5 x6 t = some (t', o)) (k : (∀ h', kR h' t' s → kE o Q h')) : zz_J zp_P zt_tf zt_fd X d zm_95 66 [(0, .ref 59), (1, .ref x1), (2, .long x2), (4, .int x4), (5, .int x5), (6, .int x6)] [] h Q := by
  unfold cf_95_66 at hf
  refine cb_95_66 hR  (fun c {h} hR => ?_) (fun c {h} hR => ?_)
  · rw [if_pos c] at hf
    exact cr_95_117 hd hR hf k
  · rw [if_neg c] at hf
    exact cr_95_73 hd hrc0 hR hf k
def cf_95_L3 (N : Nat) (X : Nat → Option zz_C) : Nat → Nat → Nat → Int64 → Int32 → Int32 → Int32 → cS → kO
  | 0, _, _, _, _, _, _, _ => none
  | n + 1, l, x1, x2, x4, x5, x6, t => if l = 0 then cf_95_66 N X (cf_95_L3 N X n) x1 x2 x4 x5 x6 t else none
theorem cr_95_L3 {X : Nat → Option zz_C} {s : mS} {N : Nat} {d : Nat} (hd : 10 ≤ d) : ∀ n : Nat, (∀ {Q : zz_O → zz_H → Prop} {x1 : Nat} {x2 : Int64} {x4 : Int32} {x5 : Int32} {x6 : Int32} {h : zz_H} {t t' : cS} {o : kY}, kR h t s → cf_95_L3 N X n 0 x1 x2 x4 x5 x6 t = some (t', o) → (∀ h', kR h' t' s → kE o Q h') → zz_J zp_P zt_tf zt_fd X d zm_95 66 [(0, .ref 59), (1, .ref x1), (2, .long x2), (4, .int x4), (5, .int x5), (6, .int x6)] [] h Q) := by
  intro n
  induction n with
  | zero => exact (fun _ hf _ => by cases hf)
  | succ n ih =>
    have h0 := @ih
    intro Q _ _ _ _ _ h t t' o hR hf k
    unfold cf_95_L3 at hf
    rw [if_pos rfl] at hf
    exact cr_95_66 hd h0 hR hf k
def cf_95_61 (N : Nat) (X : Nat → Option zz_C) (x1 : Nat) (x2 : Int64) (x4 : Int32) (y0 : Int32) (t : cS) : kO := cf_95_L3 N X N 0 x1 x2 x4 y0 0 t
theorem cr_95_61 {X : Nat → Option zz_C} {s : mS} {N : Nat} {d : Nat} (hd : 10 ≤ d) {Q : zz_O → zz_H → Prop} {x1 : Nat} {x2 : Int64} {x4 : Int32} {y0 : Int32} {h : zz_H} {t t' : cS} {o : kY} (hR : kR h t s) (hf : cf_95_61 N X x1 x2 x4 y0 t = some (t', o)) (k : (∀ h', kR h' t' s → kE o Q h')) : zz_J zp_P zt_tf zt_fd X d zm_95 61 [(0, .ref 59), (1, .ref x1), (2, .long x2), (4, .int x4)] [.int y0] h Q := by
  unfold cf_95_61 at hf
  exact cb_95_61 hR  (fun hR => cr_95_L3 hd N hR hf k)
def cf_95_52 (N : Nat) (X : Nat → Option zz_C) (x1 : Nat) (x2 : Int64) (y0 : Int32) (t : cS) : kO := ko_call 2 (cf_122 N X  t) (fun g1 v1 => co_i v1 (fun y => cf_95_61 N X x1 x2 y0 y g1))
theorem cr_95_52 {X : Nat → Option zz_C} {s : mS} {N : Nat} {d : Nat} (hd : 10 ≤ d) {Q : zz_O → zz_H → Prop} {x1 : Nat} {x2 : Int64} {y0 : Int32} {h : zz_H} {t t' : cS} {o : kY} (hR : kR h t s) (hf : cf_95_52 N X x1 x2 y0 t = some (t', o)) (k : (∀ h', kR h' t' s → kE o Q h')) : zz_J zp_P zt_tf zt_fd X d zm_95 52 [(0, .ref 59), (1, .ref x1), (2, .long x2)] [.int y0] h Q := by
  unfold cf_95_52 at hf
  obtain ⟨d', rfl⟩ : ∃ d', d = d' + 1 := ⟨d - 1, by omega⟩
  refine cb_95_52 hR  (fun {h} hR => ?_)
  rcases ko_call_ok hf with ⟨g1, v1, er, hf⟩ | ⟨g1, er, hq⟩
  · obtain ⟨y, hv, hf2⟩ := co_i_ok hf
    clear hf
    have hf := hf2
    clear hf2
    subst hv
    refine cr_122 (by omega) hR er (fun h hR => ?_)
    exact cr_95_61 hd hR hf k
  · refine cr_122 (by omega) hR er (fun h hR => ?_)
    exact ko_thrown hq hR k
def cf_95_44 (N : Nat) (X : Nat → Option zz_C) (x1 : Nat) (x2 : Int64) (t : cS) : kO := ko_call 2 (cf_128 N X x2 t) (fun g1 v1 => co_i v1 (fun y => cf_95_52 N X x1 x2 y g1))
theorem cr_95_44 {X : Nat → Option zz_C} {s : mS} {N : Nat} {d : Nat} (hd : 10 ≤ d) {Q : zz_O → zz_H → Prop} {x1 : Nat} {x2 : Int64} {h : zz_H} {t t' : cS} {o : kY} (hR : kR h t s) (hf : cf_95_44 N X x1 x2 t = some (t', o)) (k : (∀ h', kR h' t' s → kE o Q h')) : zz_J zp_P zt_tf zt_fd X d zm_95 44 [(0, .ref 59), (1, .ref x1), (2, .long x2)] [] h Q := by
  unfold cf_95_44 at hf
  obtain ⟨d', rfl⟩ : ∃ d', d = d' + 1 := ⟨d - 1, by omega⟩
  refine cb_95_44 hR  (fun {h} hR => ?_)
  rcases ko_call_ok hf with ⟨g1, v1, er, hf⟩ | ⟨g1, er, hq⟩
  · obtain ⟨y, hv, hf2⟩ := co_i_ok hf
    clear hf
    have hf := hf2
    clear hf2
    subst hv
    refine cr_128 (by omega) hR er (fun h hR => ?_)
    exact cr_95_52 hd hR hf k
  · refine cr_128 (by omega) hR er (fun h hR => ?_)
    exact ko_thrown hq hR k
def cf_95_43 (N : Nat) (X : Nat → Option zz_C) (y0 : Int64) (t : cS) : kO := some (t, .inl (some (.long y0)))
theorem cr_95_43 {X : Nat → Option zz_C} {s : mS} {N : Nat} {d : Nat} (hd : 10 ≤ d) {Q : zz_O → zz_H → Prop} {y0 : Int64} {h : zz_H} {t t' : cS} {o : kY} (hR : kR h t s) (hf : cf_95_43 N X y0 t = some (t', o)) (k : (∀ h', kR h' t' s → kE o Q h')) : zz_J zp_P zt_tf zt_fd X d zm_95 43 [] [.long y0] h Q := by
  unfold cf_95_43 at hf
  cases hf
  exact cb_95_43 hR  (fun {h} hR => k h hR)
def cf_95_39 (N : Nat) (X : Nat → Option zz_C)  (t : cS) : kO := ko_call 1000 (cf_254 N X 3 t) (fun g1 v1 => co_l v1 (fun y => cf_95_43 N X y g1))
theorem cr_95_39 {X : Nat → Option zz_C} {s : mS} {N : Nat} {d : Nat} (hd : 10 ≤ d) {Q : zz_O → zz_H → Prop}  {h : zz_H} {t t' : cS} {o : kY} (hR : kR h t s) (hf : cf_95_39 N X  t = some (t', o)) (k : (∀ h', kR h' t' s → kE o Q h')) : zz_J zp_P zt_tf zt_fd X d zm_95 39 [] [] h Q := by
  unfold cf_95_39 at hf
  obtain ⟨d', rfl⟩ : ∃ d', d = d' + 1 := ⟨d - 1, by omega⟩
  refine cb_95_39 hR  (fun {h} hR => ?_)
  rcases ko_call_ok hf with ⟨g1, v1, er, hf⟩ | ⟨g1, er, hq⟩
  · obtain ⟨y, hv, hf2⟩ := co_l_ok hf
    clear hf
    have hf := hf2
    clear hf2
    subst hv
    refine cr_254 (by omega) hR er (fun h hR => ?_)
    exact cr_95_43 hd hR hf k
  · refine cr_254 (by omega) hR er (fun h hR => ?_)
    exact ko_thrown hq hR k
def cf_95_35 (N : Nat) (X : Nat → Option zz_C) (x1 : Nat) (x2 : Int64) (y0 : Int32) (t : cS) : kO := if y0 = 2 then cf_95_44 N X x1 x2 t else cf_95_39 N X  t
theorem cr_95_35 {X : Nat → Option zz_C} {s : mS} {N : Nat} {d : Nat} (hd : 10 ≤ d) {Q : zz_O → zz_H → Prop} {x1 : Nat} {x2 : Int64} {y0 : Int32} {h : zz_H} {t t' : cS} {o : kY} (hR : kR h t s) (hf : cf_95_35 N X x1 x2 y0 t = some (t', o)) (k : (∀ h', kR h' t' s → kE o Q h')) : zz_J zp_P zt_tf zt_fd X d zm_95 35 [(0, .ref 59), (1, .ref x1), (2, .long x2)] [.int y0] h Q := by
  unfold cf_95_35 at hf
  refine cb_95_35 hR  (fun c {h} hR => ?_) (fun c {h} hR => ?_)
  · rw [if_pos c] at hf
    exact cr_95_44 hd hR hf k
  · rw [if_neg c] at hf
    exact cr_95_39 hd hR hf k
def cf_95_31 (N : Nat) (X : Nat → Option zz_C) (x1 : Nat) (x2 : Int64) (t : cS) : kO := ko_call 1000 (cf_255 N X x2 t) (fun g1 v1 => co_i v1 (fun y => cf_95_35 N X x1 x2 y g1))
theorem cr_95_31 {X : Nat → Option zz_C} {s : mS} {N : Nat} {d : Nat} (hd : 10 ≤ d) {Q : zz_O → zz_H → Prop} {x1 : Nat} {x2 : Int64} {h : zz_H} {t t' : cS} {o : kY} (hR : kR h t s) (hf : cf_95_31 N X x1 x2 t = some (t', o)) (k : (∀ h', kR h' t' s → kE o Q h')) : zz_J zp_P zt_tf zt_fd X d zm_95 31 [(0, .ref 59), (1, .ref x1), (2, .long x2)] [] h Q := by
  unfold cf_95_31 at hf
  obtain ⟨d', rfl⟩ : ∃ d', d = d' + 1 := ⟨d - 1, by omega⟩
  refine cb_95_31 hR  (fun {h} hR => ?_)
  rcases ko_call_ok hf with ⟨g1, v1, er, hf⟩ | ⟨g1, er, hq⟩
  · obtain ⟨y, hv, hf2⟩ := co_i_ok hf
    clear hf
    have hf := hf2
    clear hf2
    subst hv
    refine cr_255 (by omega) hR er (fun h hR => ?_)
    exact cr_95_35 hd hR hf k
  · refine cr_255 (by omega) hR er (fun h hR => ?_)
    exact ko_thrown hq hR k
def cf_95_30 (N : Nat) (X : Nat → Option zz_C) (y0 : Int64) (t : cS) : kO := some (t, .inl (some (.long y0)))
theorem cr_95_30 {X : Nat → Option zz_C} {s : mS} {N : Nat} {d : Nat} (hd : 10 ≤ d) {Q : zz_O → zz_H → Prop} {y0 : Int64} {h : zz_H} {t t' : cS} {o : kY} (hR : kR h t s) (hf : cf_95_30 N X y0 t = some (t', o)) (k : (∀ h', kR h' t' s → kE o Q h')) : zz_J zp_P zt_tf zt_fd X d zm_95 30 [] [.long y0] h Q := by
  unfold cf_95_30 at hf
  cases hf
  exact cb_95_30 hR  (fun {h} hR => k h hR)
def cf_95_24 (N : Nat) (X : Nat → Option zz_C) (x1 : Nat) (x2 : Int64) (t : cS) : kO := ko_call 1 (cf_96 N X x1 x2 t) (fun g1 v1 => co_l v1 (fun y => cf_95_30 N X y g1))
theorem cr_95_24 {X : Nat → Option zz_C} {s : mS} {N : Nat} {d : Nat} (hd : 10 ≤ d) {Q : zz_O → zz_H → Prop} {x1 : Nat} {x2 : Int64} {h : zz_H} {t t' : cS} {o : kY} (hR : kR h t s) (hf : cf_95_24 N X x1 x2 t = some (t', o)) (k : (∀ h', kR h' t' s → kE o Q h')) : zz_J zp_P zt_tf zt_fd X d zm_95 24 [(0, .ref 59), (1, .ref x1), (2, .long x2)] [] h Q := by
  unfold cf_95_24 at hf
  obtain ⟨d', rfl⟩ : ∃ d', d = d' + 1 := ⟨d - 1, by omega⟩
  refine cb_95_24 hR  (fun {h} hR => ?_)
  rcases ko_call_ok hf with ⟨g1, v1, er, hf⟩ | ⟨g1, er, hq⟩
  · obtain ⟨y, hv, hf2⟩ := co_l_ok hf
    clear hf
    have hf := hf2
    clear hf2
    subst hv
    refine cr_96 (by omega) hR er (fun h hR => ?_)
    exact cr_95_30 hd hR hf k
  · refine cr_96 (by omega) hR er (fun h hR => ?_)
    exact ko_thrown hq hR k
def cf_95_20 (N : Nat) (X : Nat → Option zz_C) (x1 : Nat) (x2 : Int64) (y0 : Int32) (t : cS) : kO := if ¬ y0 = 1 then cf_95_31 N X x1 x2 t else cf_95_24 N X x1 x2 t
theorem cr_95_20 {X : Nat → Option zz_C} {s : mS} {N : Nat} {d : Nat} (hd : 10 ≤ d) {Q : zz_O → zz_H → Prop} {x1 : Nat} {x2 : Int64} {y0 : Int32} {h : zz_H} {t t' : cS} {o : kY} (hR : kR h t s) (hf : cf_95_20 N X x1 x2 y0 t = some (t', o)) (k : (∀ h', kR h' t' s → kE o Q h')) : zz_J zp_P zt_tf zt_fd X d zm_95 20 [(0, .ref 59), (1, .ref x1), (2, .long x2)] [.int y0] h Q := by
  unfold cf_95_20 at hf
  refine cb_95_20 hR  (fun c {h} hR => ?_) (fun c {h} hR => ?_)
  · rw [if_pos c] at hf
    exact cr_95_31 hd hR hf k
  · rw [if_neg c] at hf
    exact cr_95_24 hd hR hf k
def cf_95_16 (N : Nat) (X : Nat → Option zz_C) (x1 : Nat) (x2 : Int64) (t : cS) : kO := ko_call 1000 (cf_255 N X x2 t) (fun g1 v1 => co_i v1 (fun y => cf_95_20 N X x1 x2 y g1))
theorem cr_95_16 {X : Nat → Option zz_C} {s : mS} {N : Nat} {d : Nat} (hd : 10 ≤ d) {Q : zz_O → zz_H → Prop} {x1 : Nat} {x2 : Int64} {h : zz_H} {t t' : cS} {o : kY} (hR : kR h t s) (hf : cf_95_16 N X x1 x2 t = some (t', o)) (k : (∀ h', kR h' t' s → kE o Q h')) : zz_J zp_P zt_tf zt_fd X d zm_95 16 [(0, .ref 59), (1, .ref x1), (2, .long x2)] [] h Q := by
  unfold cf_95_16 at hf
  obtain ⟨d', rfl⟩ : ∃ d', d = d' + 1 := ⟨d - 1, by omega⟩
  refine cb_95_16 hR  (fun {h} hR => ?_)
  rcases ko_call_ok hf with ⟨g1, v1, er, hf⟩ | ⟨g1, er, hq⟩
  · obtain ⟨y, hv, hf2⟩ := co_i_ok hf
    clear hf
    have hf := hf2
    clear hf2
    subst hv
    refine cr_255 (by omega) hR er (fun h hR => ?_)
    exact cr_95_20 hd hR hf k
  · refine cr_255 (by omega) hR er (fun h hR => ?_)
    exact ko_thrown hq hR k
def cf_95_14 (N : Nat) (X : Nat → Option zz_C) (x2 : Int64) (t : cS) : kO := some (t, .inl (some (.long x2)))
theorem cr_95_14 {X : Nat → Option zz_C} {s : mS} {N : Nat} {d : Nat} (hd : 10 ≤ d) {Q : zz_O → zz_H → Prop} {x2 : Int64} {h : zz_H} {t t' : cS} {o : kY} (hR : kR h t s) (hf : cf_95_14 N X x2 t = some (t', o)) (k : (∀ h', kR h' t' s → kE o Q h')) : zz_J zp_P zt_tf zt_fd X d zm_95 14 [(2, .long x2)] [] h Q := by
  unfold cf_95_14 at hf
  cases hf
  exact cb_95_14 hR  (fun {h} hR => k h hR)
def cf_95_7 (N : Nat) (X : Nat → Option zz_C) (x1 : Nat) (x2 : Int64) (t : cS) : kO := if (zz_out < x1 ∧ x1 ≤ zz_out + 41) ∧ zz_out < (zz_out + 21) ∧ (zz_out + 21) ≤ zz_out + 41 then (if zz_ac .ne x1 (zz_out + 21) = true then cf_95_16 N X x1 x2 t else cf_95_14 N X x2 t) else none
theorem cr_95_7 {X : Nat → Option zz_C} {s : mS} {N : Nat} {d : Nat} (hd : 10 ≤ d) {Q : zz_O → zz_H → Prop} {x1 : Nat} {x2 : Int64} {h : zz_H} {t t' : cS} {o : kY} (hR : kR h t s) (hf : cf_95_7 N X x1 x2 t = some (t', o)) (k : (∀ h', kR h' t' s → kE o Q h')) : zz_J zp_P zt_tf zt_fd X d zm_95 7 [(0, .ref 59), (1, .ref x1), (2, .long x2)] [] h Q := by
  unfold cf_95_7 at hf
  obtain ⟨e0, hf⟩ := ko_if hf
  refine cb_95_7 hR e0 (fun c {h} hR => ?_) (fun c {h} hR => ?_)
  · rw [if_pos c] at hf
    exact cr_95_16 hd hR hf k
  · rw [if_neg c] at hf
    exact cr_95_14 hd hR hf k
def cf_95_4 (N : Nat) (X : Nat → Option zz_C) (x1 : Nat) (x2 : Int64) (y0 : Int32) (t : cS) : kO := if ¬ y0 = 0 then cf_95_16 N X x1 x2 t else cf_95_7 N X x1 x2 t
theorem cr_95_4 {X : Nat → Option zz_C} {s : mS} {N : Nat} {d : Nat} (hd : 10 ≤ d) {Q : zz_O → zz_H → Prop} {x1 : Nat} {x2 : Int64} {y0 : Int32} {h : zz_H} {t t' : cS} {o : kY} (hR : kR h t s) (hf : cf_95_4 N X x1 x2 y0 t = some (t', o)) (k : (∀ h', kR h' t' s → kE o Q h')) : zz_J zp_P zt_tf zt_fd X d zm_95 4 [(0, .ref 59), (1, .ref x1), (2, .long x2)] [.int y0] h Q := by
  unfold cf_95_4 at hf
  refine cb_95_4 hR  (fun c {h} hR => ?_) (fun c {h} hR => ?_)
  · rw [if_pos c] at hf
    exact cr_95_16 hd hR hf k
  · rw [if_neg c] at hf
    exact cr_95_7 hd hR hf k
def cf_95_0 (N : Nat) (X : Nat → Option zz_C) (x1 : Nat) (x2 : Int64) (t : cS) : kO := ko_call 1000 (cf_255 N X x2 t) (fun g1 v1 => co_i v1 (fun y => cf_95_4 N X x1 x2 y g1))
theorem cr_95_0 {X : Nat → Option zz_C} {s : mS} {N : Nat} {d : Nat} (hd : 10 ≤ d) {Q : zz_O → zz_H → Prop} {x1 : Nat} {x2 : Int64} {h : zz_H} {t t' : cS} {o : kY} (hR : kR h t s) (hf : cf_95_0 N X x1 x2 t = some (t', o)) (k : (∀ h', kR h' t' s → kE o Q h')) : zz_J zp_P zt_tf zt_fd X d zm_95 0 [(0, .ref 59), (1, .ref x1), (2, .long x2)] [] h Q := by
  unfold cf_95_0 at hf
  obtain ⟨d', rfl⟩ : ∃ d', d = d' + 1 := ⟨d - 1, by omega⟩
  refine cb_95_0 hR  (fun {h} hR => ?_)
  rcases ko_call_ok hf with ⟨g1, v1, er, hf⟩ | ⟨g1, er, hq⟩
  · obtain ⟨y, hv, hf2⟩ := co_i_ok hf
    clear hf
    have hf := hf2
    clear hf2
    subst hv
    refine cr_255 (by omega) hR er (fun h hR => ?_)
    exact cr_95_4 hd hR hf k
  · refine cr_255 (by omega) hR er (fun h hR => ?_)
    exact ko_thrown hq hR k
/-- digest -/
def cf_95 (N : Nat) (X : Nat → Option zz_C) (x1 : Nat) (x2 : Int64) (t : cS) : kO := cf_95_0 N X x1 x2 t
theorem cr_95 {X : Nat → Option zz_C} {s : mS} {N : Nat} {d : Nat} (hd : 10 ≤ d) {Q : zz_O → zz_H → Prop} {x1 : Nat} {x2 : Int64} {h : zz_H} {t t' : cS} {o : kY} (hR : kR h t s) (hf : cf_95 N X x1 x2 t = some (t', o)) (k : ∀ h', kR h' t' s → kE o Q h') : zz_J zp_P zt_tf zt_fd X d zm_95 0 [(0, .ref 59), (1, .ref x1), (2, .long x2)] [] h Q := by
  unfold cf_95 at hf
  exact zz_J.weak (cr_95_0 hd hR hf k) rfl ⟨rfl, rfl, rfl, trivial⟩
/-! yX1_sortPlaces (JI)V -/
theorem cb_100_0 {X : Nat → Option zz_C} {h : zz_H} {t : cS} {s : mS} {d : Nat} {Q : zz_O → zz_H → Prop} {x1 : Int64} {x3 : Int32} (hR : kR h t s) (k : ∀ {h : zz_H}, kR h t s → zz_J zp_P zt_tf zt_fd X d zm_100 3 [(0, .ref 59), (1, .long x1), (3, .int x3), (4, .int 0)] [] h Q) : zz_J zp_P zt_tf zt_fd X d zm_100 0 [(0, .ref 59), (1, .long x1), (3, .int x3)] [] h Q := by
  refine zz_J.c 1 (.int 0) rfl rfl rfl rfl ?_
  refine zz_J.n 3 rfl rfl rfl ?_
  exact zz_J.weak (k hR) rfl ⟨rfl, rfl, rfl, rfl, trivial⟩
theorem cb_100_3 {X : Nat → Option zz_C} {h : zz_H} {t : cS} {s : mS} {d : Nat} {Q : zz_O → zz_H → Prop} {x1 : Int64} {x3 : Int32} {x4 : Int32} (hR : kR h t s) (k1 : x3 ≤ x4 → (∀ {h : zz_H}, kR h t s → zz_J zp_P zt_tf zt_fd X d zm_100 99 [] [] h Q)) (k2 : ¬ x3 ≤ x4 → (∀ {h : zz_H}, kR h t s → zz_J zp_P zt_tf zt_fd X d zm_100 9 [(0, .ref 59), (1, .long x1), (3, .int x3), (4, .int x4)] [] h Q)) : zz_J zp_P zt_tf zt_fd X d zm_100 3 [(0, .ref 59), (1, .long x1), (3, .int x3), (4, .int x4)] [] h Q := by
  refine zz_J.n 5 rfl rfl rfl ?_
  refine zz_J.n 6 rfl rfl rfl ?_
  refine zz_J.b2 99 9 (A := x3 ≤ x4) rfl rfl (by decide) rfl rfl (fun c => ?_) (fun c => ?_)
  · exact zz_J.weak (k1 c hR) rfl trivial
  · exact zz_J.weak (k2 c hR) rfl ⟨rfl, rfl, rfl, rfl, trivial⟩
theorem cb_100_9 {X : Nat → Option zz_C} {h : zz_H} {t : cS} {s : mS} {d : Nat} {Q : zz_O → zz_H → Prop} {x1 : Int64} {x3 : Int32} {x4 : Int32} (hR : kR h t s) (k1 : (Int32.ofNat (kA t 60).1) ≤ x4 → (∀ {h : zz_H}, kR h t s → zz_J zp_P zt_tf zt_fd X d zm_100 99 [] [] h Q)) (k2 : ¬ (Int32.ofNat (kA t 60).1) ≤ x4 → (∀ {h : zz_H}, kR h t s → zz_J zp_P zt_tf zt_fd X d zm_100 19 [(0, .ref 59), (1, .long x1), (3, .int x3), (4, .int x4)] [] h Q)) : zz_J zp_P zt_tf zt_fd X d zm_100 9 [(0, .ref 59), (1, .long x1), (3, .int x3), (4, .int x4)] [] h Q := by
  refine zz_J.n 11 rfl rfl rfl ?_
  refine zz_J.n 12 rfl rfl rfl ?_
  refine zz_J.g 15 rfl (hR.gv (v := .ref (kD t 60)) ko_59 (by decide) rfl) rfl ?_
  refine zz_J.ln 16 rfl (hR.ln (w := (Int32.ofNat (kA t 60).1)) ka_60 rfl (by decide) rfl) rfl ?_
  refine zz_J.b2 99 19 (A := (Int32.ofNat (kA t 60).1) ≤ x4) rfl rfl (by decide) rfl rfl (fun c => ?_) (fun c => ?_)
  · exact zz_J.weak (k1 c hR) rfl trivial
  · exact zz_J.weak (k2 c hR) rfl ⟨rfl, rfl, rfl, rfl, trivial⟩
theorem cb_100_19 {X : Nat → Option zz_C} {h : zz_H} {t : cS} {s : mS} {d : Nat} {Q : zz_O → zz_H → Prop} {x1 : Int64} {x3 : Int32} {x4 : Int32} (hR : kR h t s) (k : ∀ {h : zz_H}, kR h t s → zz_J zp_P zt_tf zt_fd X d zm_130 0 [(0, .ref 42), (1, .long x1), (3, .int x4)] [] h (zz_after 2 Q (fun v h' => zz_J zp_P zt_tf zt_fd X (d + 1) zm_100 29 [(0, .ref 59), (1, .long x1), (3, .int x3), (4, .int x4)] (v.toList ++ []) h' Q))) : zz_J zp_P zt_tf zt_fd X (d + 1) zm_100 19 [(0, .ref 59), (1, .long x1), (3, .int x3), (4, .int x4)] [] h Q := by
  refine zz_J.n 20 rfl rfl rfl ?_
  refine zz_J.g 23 rfl (hR.gv (v := .ref 42) ko_59 (by decide) rfl) rfl ?_
  refine zz_J.n 24 rfl rfl rfl ?_
  refine zz_J.n 26 rfl rfl rfl ?_
  refine zz_J.cv 29 (as := []) rfl rfl (hR.clO ko_42 (by decide) (by decide)) (by decide) (Nat.le_of_ble_eq_true rfl) (Nat.le_of_ble_eq_true rfl) rfl (Nat.le_of_ble_eq_true rfl) rfl ?_
  refine zz_J.mono (k hR) ?_
  intro o h' hE
  cases o with
  | inl v => exact zz_J.weak hE rfl ⟨rfl, rfl, rfl, rfl, trivial⟩
  | inr q => exact hE
theorem cb_100_29 {X : Nat → Option zz_C} {h : zz_H} {t : cS} {s : mS} {d : Nat} {Q : zz_O → zz_H → Prop} {x1 : Int64} {x3 : Int32} {x4 : Int32} {y0 : Int32} (hR : kR h t s) (k : ∀ {h : zz_H}, kR h t s → zz_J zp_P zt_tf zt_fd X d zm_100 35 [(0, .ref 59), (1, .long x1), (3, .int x3), (4, .int x4), (5, .int y0), (6, .int x4)] [] h Q) : zz_J zp_P zt_tf zt_fd X d zm_100 29 [(0, .ref 59), (1, .long x1), (3, .int x3), (4, .int x4)] [.int y0] h Q := by
  refine zz_J.n 31 rfl rfl rfl ?_
  refine zz_J.n 33 rfl rfl rfl ?_
  refine zz_J.n 35 rfl rfl rfl ?_
  exact zz_J.weak (k hR) rfl ⟨rfl, rfl, rfl, rfl, rfl, rfl, trivial⟩
theorem cb_100_35 {X : Nat → Option zz_C} {h : zz_H} {t : cS} {s : mS} {d : Nat} {Q : zz_O → zz_H → Prop} {x1 : Int64} {x3 : Int32} {x4 : Int32} {x5 : Int32} {x6 : Int32} (hR : kR h t s) (k1 : x6 ≤ 0 → (∀ {h : zz_H}, kR h t s → zz_J zp_P zt_tf zt_fd X d zm_100 84 [(0, .ref 59), (1, .long x1), (3, .int x3), (4, .int x4), (6, .int x6)] [] h Q)) (k2 : ¬ x6 ≤ 0 → (∀ {h : zz_H}, kR h t s → zz_J zp_P zt_tf zt_fd X d zm_100 40 [(0, .ref 59), (1, .long x1), (3, .int x3), (4, .int x4), (5, .int x5), (6, .int x6)] [] h Q)) : zz_J zp_P zt_tf zt_fd X d zm_100 35 [(0, .ref 59), (1, .long x1), (3, .int x3), (4, .int x4), (5, .int x5), (6, .int x6)] [] h Q := by
  refine zz_J.n 37 rfl rfl rfl ?_
  refine zz_J.b1 84 40 (A := x6 ≤ 0) rfl rfl (by decide) rfl rfl (fun c => ?_) (fun c => ?_)
  · exact zz_J.weak (k1 c hR) rfl ⟨rfl, rfl, rfl, rfl, rfl, trivial⟩
  · exact zz_J.weak (k2 c hR) rfl ⟨rfl, rfl, rfl, rfl, rfl, rfl, trivial⟩
theorem cb_100_40 {X : Nat → Option zz_C} {h : zz_H} {t : cS} {s : mS} {d : Nat} {Q : zz_O → zz_H → Prop} {x1 : Int64} {x3 : Int32} {x4 : Int32} {x5 : Int32} {x6 : Int32} (hR : kR h t s) (e0 : ¬ ((x6 - 1) < 0 ∨ (kA t 60).1 ≤ (Int32.toNatClampNeg (x6 - 1)))) (k : ∀ {h : zz_H}, kR h t s → zz_J zp_P zt_tf zt_fd X d zm_130 0 [(0, .ref 42), (1, .long x1), (3, .int ((kA t 60).2 (Int32.toNatClampNeg (x6 - 1))))] [] h (zz_after 2 Q (fun v h' => zz_J zp_P zt_tf zt_fd X (d + 1) zm_100 57 [(0, .ref 59), (1, .long x1), (3, .int x3), (4, .int x4), (5, .int x5), (6, .int x6)] (v.toList ++ []) h' Q))) : zz_J zp_P zt_tf zt_fd X (d + 1) zm_100 40 [(0, .ref 59), (1, .long x1), (3, .int x3), (4, .int x4), (5, .int x5), (6, .int x6)] [] h Q := by
  refine zz_J.n 41 rfl rfl rfl ?_
  refine zz_J.g 44 rfl (hR.gv (v := .ref 42) ko_59 (by decide) rfl) rfl ?_
  refine zz_J.n 45 rfl rfl rfl ?_
  refine zz_J.n 46 rfl rfl rfl ?_
  refine zz_J.g 49 rfl (hR.gv (v := .ref (kD t 60)) ko_59 (by decide) rfl) rfl ?_
  refine zz_J.n 51 rfl rfl rfl ?_
  refine zz_J.c 52 (.int 1) rfl rfl rfl rfl ?_
  refine zz_J.n 53 rfl rfl rfl ?_
  refine zz_J.ai 54 rfl (hR.ai (w := ((kA t 60).2 (Int32.toNatClampNeg (x6 - 1)))) ka_60 rfl e0 rfl) rfl ?_
  refine zz_J.cv 57 (as := []) rfl rfl (hR.clO ko_42 (by decide) (by decide)) (by decide) (Nat.le_of_ble_eq_true rfl) (Nat.le_of_ble_eq_true rfl) rfl (Nat.le_of_ble_eq_true rfl) rfl ?_
  refine zz_J.mono (k hR) ?_
  intro o h' hE
  cases o with
  | inl v => exact zz_J.weak hE rfl ⟨rfl, rfl, rfl, rfl, rfl, rfl, trivial⟩
  | inr q => exact hE
theorem cb_100_57 {X : Nat → Option zz_C} {h : zz_H} {t : cS} {s : mS} {d : Nat} {Q : zz_O → zz_H → Prop} {x1 : Int64} {x3 : Int32} {x4 : Int32} {x5 : Int32} {x6 : Int32} {y0 : Int32} (hR : kR h t s) (k1 : y0 ≤ x5 → (∀ {h : zz_H}, kR h t s → zz_J zp_P zt_tf zt_fd X d zm_100 84 [(0, .ref 59), (1, .long x1), (3, .int x3), (4, .int x4), (6, .int x6)] [] h Q)) (k2 : ¬ y0 ≤ x5 → (∀ {h : zz_H}, kR h t s → zz_J zp_P zt_tf zt_fd X d zm_100 62 [(0, .ref 59), (1, .long x1), (3, .int x3), (4, .int x4), (5, .int x5), (6, .int x6)] [] h Q)) : zz_J zp_P zt_tf zt_fd X d zm_100 57 [(0, .ref 59), (1, .long x1), (3, .int x3), (4, .int x4), (5, .int x5), (6, .int x6)] [.int y0] h Q := by
  refine zz_J.n 59 rfl rfl rfl ?_
  refine zz_J.b2 84 62 (A := y0 ≤ x5) rfl rfl (by decide) rfl rfl (fun c => ?_) (fun c => ?_)
  · exact zz_J.weak (k1 c hR) rfl ⟨rfl, rfl, rfl, rfl, rfl, trivial⟩
  · exact zz_J.weak (k2 c hR) rfl ⟨rfl, rfl, rfl, rfl, rfl, rfl, trivial⟩
theorem cb_100_62 {X : Nat → Option zz_C} {h : zz_H} {t : cS} {s : mS} {d : Nat} {Q : zz_O → zz_H → Prop} {x1 : Int64} {x3 : Int32} {x4 : Int32} {x5 : Int32} {x6 : Int32} (hR : kR h t s) (e0 : ¬ ((x6 - 1) < 0 ∨ (kA t 60).1 ≤ (Int32.toNatClampNeg (x6 - 1)))) (e1 : ¬ (x6 < 0 ∨ (kA t 60).1 ≤ (Int32.toNatClampNeg x6))) (k : ∀ {h : zz_H}, kR h (jA t 60 (upd (kA t 60).2 (Int32.toNatClampNeg x6) ((kA t 60).2 (Int32.toNatClampNeg (x6 - 1))))) s → zz_J zp_P zt_tf zt_fd X d zm_100 35 [(0, .ref 59), (1, .long x1), (3, .int x3), (4, .int x4), (5, .int x5), (6, .int (x6 + (-1)))] [] h Q) : zz_J zp_P zt_tf zt_fd X d zm_100 62 [(0, .ref 59), (1, .long x1), (3, .int x3), (4, .int x4), (5, .int x5), (6, .int x6)] [] h Q := by
  refine zz_J.n 63 rfl rfl rfl ?_
  refine zz_J.g 66 rfl (hR.gv (v := .ref (kD t 60)) ko_59 (by decide) rfl) rfl ?_
  refine zz_J.n 68 rfl rfl rfl ?_
  refine zz_J.n 69 rfl rfl rfl ?_
  refine zz_J.g 72 rfl (hR.gv (v := .ref (kD t 60)) ko_59 (by decide) rfl) rfl ?_
  refine zz_J.n 74 rfl rfl rfl ?_
  refine zz_J.c 75 (.int 1) rfl rfl rfl rfl ?_
  refine zz_J.n 76 rfl rfl rfl ?_
  refine zz_J.ai 77 rfl (hR.ai (w := ((kA t 60).2 (Int32.toNatClampNeg (x6 - 1)))) ka_60 rfl e0 rfl) rfl ?_
  obtain ⟨h1, eq1, hR⟩ := hR.si (x := ((kA t 60).2 (Int32.toNatClampNeg (x6 - 1)))) ka_60 rfl e1
  refine zz_J.si 78 rfl eq1 rfl ?_
  clear eq1
  refine zz_J.n 81 rfl rfl rfl ?_
  refine zz_J.n 35 rfl rfl rfl ?_
  exact zz_J.weak (k hR) rfl ⟨rfl, rfl, rfl, rfl, rfl, rfl, trivial⟩
theorem cb_100_84 {X : Nat → Option zz_C} {h : zz_H} {t : cS} {s : mS} {d : Nat} {Q : zz_O → zz_H → Prop} {x1 : Int64} {x3 : Int32} {x4 : Int32} {x6 : Int32} (hR : kR h t s) (e0 : ¬ (x6 < 0 ∨ (kA t 60).1 ≤ (Int32.toNatClampNeg x6))) (k : ∀ {h : zz_H}, kR h (jA t 60 (upd (kA t 60).2 (Int32.toNatClampNeg x6) x4)) s → zz_J zp_P zt_tf zt_fd X d zm_100 3 [(0, .ref 59), (1, .long x1), (3, .int x3), (4, .int (x4 + 1))] [] h Q) : zz_J zp_P zt_tf zt_fd X d zm_100 84 [(0, .ref 59), (1, .long x1), (3, .int x3), (4, .int x4), (6, .int x6)] [] h Q := by
  refine zz_J.n 85 rfl rfl rfl ?_
  refine zz_J.g 88 rfl (hR.gv (v := .ref (kD t 60)) ko_59 (by decide) rfl) rfl ?_
  refine zz_J.n 90 rfl rfl rfl ?_
  refine zz_J.n 92 rfl rfl rfl ?_
  obtain ⟨h1, eq1, hR⟩ := hR.si (x := x4) ka_60 rfl e0
  refine zz_J.si 93 rfl eq1 rfl ?_
  clear eq1
  refine zz_J.n 96 rfl rfl rfl ?_
  refine zz_J.n 3 rfl rfl rfl ?_
  exact zz_J.weak (k hR) rfl ⟨rfl, rfl, rfl, rfl, trivial⟩
theorem cb_100_99 {X : Nat → Option zz_C} {h : zz_H} {t : cS} {s : mS} {d : Nat} {Q : zz_O → zz_H → Prop}  (hR : kR h t s) (k : ∀ {h : zz_H}, kR h t s → Q (.inl none) h) : zz_J zp_P zt_tf zt_fd X d zm_100 99 [] [] h Q := by
  refine zz_J.ret rfl rfl rfl ?_
  exact k hR
def cf_100_99 (N : Nat) (X : Nat → Option zz_C)  (t : cS) : kO := some (t, .inl none)
theorem cr_100_99 {X : Nat → Option zz_C} {s : mS} {N : Nat} {d : Nat} (hd : 1 ≤ d) {Q : zz_O → zz_H → Prop}  {h : zz_H} {t t' : cS} {o : kY} (hR : kR h t s) (hf : cf_100_99 N X  t = some (t', o)) (k : (∀ h', kR h' t' s → kE o Q h')) : zz_J zp_P zt_tf zt_fd X d zm_100 99 [] [] h Q := by
  unfold cf_100_99 at hf
  cases hf
  exact cb_100_99 hR  (fun {h} hR => k h hR)
def cf_100_62 (N : Nat) (X : Nat → Option zz_C) (rc : Nat → Int64 → Int32 → Int32 → Int32 → Int32 → cS → kO) (x1 : Int64) (x3 : Int32) (x4 : Int32) (x5 : Int32) (x6 : Int32) (t : cS) : kO := if ¬ ((x6 - 1) < 0 ∨ (kA t 60).1 ≤ (Int32.toNatClampNeg (x6 - 1))) then (if ¬ (x6 < 0 ∨ (kA t 60).1 ≤ (Int32.toNatClampNeg x6)) then (rc 1 x1 x3 x4 x5 (x6 + (-1)) (jA t 60 (upd (kA t 60).2 (Int32.toNatClampNeg x6) ((kA t 60).2 (Int32.toNatClampNeg (x6 - 1)))))) else none) else none
theorem cr_100_62 {X : Nat → Option zz_C} {s : mS} {N : Nat} {d : Nat} (hd : 1 ≤ d) {rc : Nat → Int64 → Int32 → Int32 → Int32 → Int32 → cS → kO} (hrc0 : ∀ {Q : zz_O → zz_H → Prop} {x1 : Int64} {x3 : Int32} {x4 : Int32} {h : zz_H} {t t' : cS} {o : kY}, kR h t s → rc 0 x1 x3 x4 0 0 t = some (t', o) → (∀ h', kR h' t' s → kE o Q h') → zz_J zp_P zt_tf zt_fd X d zm_100 3 [(0, .ref 59), (1, .long x1), (3, .int x3), (4, .int x4)] [] h Q) (hrc1 : ∀ {Q : zz_O → zz_H → Prop} {x1 : Int64} {x3 : Int32} {x4 : Int32} {x5 : Int32} {x6 : Int32} {h : zz_H} {t t' : cS} {o : kY}, kR h t s → rc 1 x1 x3 x4 x5 x6 t = some (t', o) → (∀ h', kR h' t' s → kE o Q h') → zz_J zp_P zt_tf zt_fd X d zm_100 35 [(0, .ref 59), (1, .long x1), (3, .int x3), (4, .int x4), (5, .int x5), (6, .int x6)] [] h Q) {Q : zz_O → zz_H → Prop} {x1 : Int64} {x3 : Int32} {x4 : Int32} {x5 : Int32} {x6 : Int32} {h : zz_H} {t t' : cS} {o : kY} (hR : kR h t s) (hf : cf_100_62 N X rc x1 x3 x4 x5 x6 t = some (t', o)) (k : (∀ h', kR h' t' s → kE o Q h')) : zz_J zp_P zt_tf zt_fd X d zm_100 62 [(0, .ref 59), (1, .long x1), (3, .int x3), (4, .int x4), (5, .int x5), (6, .int x6)] [] h Q := by
  unfold cf_100_62 at hf
  obtain ⟨e0, hf⟩ := ko_if hf
  obtain ⟨e1, hf⟩ := ko_if hf
  exact cb_100_62 hR e0 e1 (fun hR => hrc1 hR hf k)
def cf_100_84 (N : Nat) (X : Nat → Option zz_C) (rc : Nat → Int64 → Int32 → Int32 → Int32 → Int32 → cS → kO) (x1 : Int64) (x3 : Int32) (x4 : Int32) (x6 : Int32) (t : cS) : kO := if ¬ (x6 < 0 ∨ (kA t 60).1 ≤ (Int32.toNatClampNeg x6)) then (rc 0 x1 x3 (x4 + 1) 0 0 (jA t 60 (upd (kA t 60).2 (Int32.toNatClampNeg x6) x4))) else none
theorem cr_100_84 {X : Nat → Option zz_C} {s : mS} {N : Nat} {d : Nat} (hd : 1 ≤ d) {rc : Nat → Int64 → Int32 → Int32 → Int32 → Int32 → cS → kO} (hrc0 : ∀ {Q : zz_O → zz_H → Prop} {x1 : Int64} {x3 : Int32} {x4 : Int32} {h : zz_H} {t t' : cS} {o : kY}, kR h t s → rc 0 x1 x3 x4 0 0 t = some (t', o) → (∀ h', kR h' t' s → kE o Q h') → zz_J zp_P zt_tf zt_fd X d zm_100 3 [(0, .ref 59), (1, .long x1), (3, .int x3), (4, .int x4)] [] h Q) (hrc1 : ∀ {Q : zz_O → zz_H → Prop} {x1 : Int64} {x3 : Int32} {x4 : Int32} {x5 : Int32} {x6 : Int32} {h : zz_H} {t t' : cS} {o : kY}, kR h t s → rc 1 x1 x3 x4 x5 x6 t = some (t', o) → (∀ h', kR h' t' s → kE o Q h') → zz_J zp_P zt_tf zt_fd X d zm_100 35 [(0, .ref 59), (1, .long x1), (3, .int x3), (4, .int x4), (5, .int x5), (6, .int x6)] [] h Q) {Q : zz_O → zz_H → Prop} {x1 : Int64} {x3 : Int32} {x4 : Int32} {x6 : Int32} {h : zz_H} {t t' : cS} {o : kY} (hR : kR h t s) (hf : cf_100_84 N X rc x1 x3 x4 x6 t = some (t', o)) (k : (∀ h', kR h' t' s → kE o Q h')) : zz_J zp_P zt_tf zt_fd X d zm_100 84 [(0, .ref 59), (1, .long x1), (3, .int x3), (4, .int x4), (6, .int x6)] [] h Q := by
  unfold cf_100_84 at hf
  obtain ⟨e0, hf⟩ := ko_if hf
  exact cb_100_84 hR e0 (fun hR => hrc0 hR hf k)
def cf_100_57 (N : Nat) (X : Nat → Option zz_C) (rc : Nat → Int64 → Int32 → Int32 → Int32 → Int32 → cS → kO) (x1 : Int64) (x3 : Int32) (x4 : Int32) (x5 : Int32) (x6 : Int32) (y0 : Int32) (t : cS) : kO := if y0 ≤ x5 then cf_100_84 N X rc x1 x3 x4 x6 t else cf_100_62 N X rc x1 x3 x4 x5 x6 t
theorem cr_100_57 {X : Nat → Option zz_C} {s : mS} {N : Nat} {d : Nat} (hd : 1 ≤ d) {rc : Nat → Int64 → Int32 → Int32 → Int32 → Int32 → cS → kO} (hrc0 : ∀ {Q : zz_O → zz_H → Prop} {x1 : Int64} {x3 : Int32} {x4 : Int32} {h : zz_H} {t t' : cS} {o : kY}, kR h t s → rc 0 x1 x3 x4 0 0 t = some (t', o) → (∀ h', kR h' t' s → kE o Q h') → zz_J zp_P zt_tf zt_fd X d zm_100 3 [(0, .ref 59), (1, .long x1), (3, .int x3), (4, .int x4)] [] h Q) (hrc1 : ∀ {Q : zz_O → zz_H → Prop} {x1 : Int64} {x3 : Int32} {x4 : Int32} {x5 : Int32} {x6 : Int32} {h : zz_H} {t t' : cS} {o : kY}, kR h t s → rc 1 x1 x3 x4 x5 x6 t = some (t', o) → (∀ h', kR h' t' s → kE o Q h') → zz_J zp_P zt_tf zt_fd X d zm_100 35 [(0, .ref 59), (1, .long x1), (3, .int x3), (4, .int x4), (5, .int x5), (6, .int x6)] [] h Q) {Q : zz_O → zz_H → Prop} {x1 : Int64} {x3 : Int32} {x4 : Int32} {x5 : Int32} {x6 : Int32} {y0 : Int32} {h : zz_H} {t t' : cS} {o : kY} (hR : kR h t s) (hf : cf_100_57 N X rc x1 x3 x4 x5 x6 y0 t = some (t', o)) (k : (∀ h', kR h' t' s → kE o Q h')) : zz_J zp_P zt_tf zt_fd X d zm_100 57 [(0, .ref 59), (1, .long x1), (3, .int x3), (4, .int x4), (5, .int x5), (6, .int x6)] [.int y0] h Q := by
  unfold cf_100_57 at hf
  refine cb_100_57 hR  (fun c {h} hR => ?_) (fun c {h} hR => ?_)
  · rw [if_pos c] at hf
    exact cr_100_84 hd hrc0 hrc1 hR hf k
  · rw [if_neg c] at hf
    exact cr_100_62 hd hrc0 hrc1 hR hf k
def cf_100_40 (N : Nat) (X : Nat → Option zz_C) (rc : Nat → Int64 → Int32 → Int32 → Int32 → Int32 → cS → kO) (x1 : Int64) (x3 : Int32) (x4 : Int32) (x5 : Int32) (x6 : Int32) (t : cS) : kO := if ¬ ((x6 - 1) < 0 ∨ (kA t 60).1 ≤ (Int32.toNatClampNeg (x6 - 1))) then (ko_call 2 (cf_130 N X x1 ((kA t 60).2 (Int32.toNatClampNeg (x6 - 1))) t) (fun g1 v1 => co_i v1 (fun y => cf_100_57 N X rc x1 x3 x4 x5 x6 y g1))) else none
theorem cr_100_40 {X : Nat → Option zz_C} {s : mS} {N : Nat} {d : Nat} (hd : 1 ≤ d) {rc : Nat → Int64 → Int32 → Int32 → Int32 → Int32 → cS → kO} (hrc0 : ∀ {Q : zz_O → zz_H → Prop} {x1 : Int64} {x3 : Int32} {x4 : Int32} {h : zz_H} {t t' : cS} {o : kY}, kR h t s → rc 0 x1 x3 x4 0 0 t = some (t', o) → (∀ h', kR h' t' s → kE o Q h') → zz_J zp_P zt_tf zt_fd X d zm_100 3 [(0, .ref 59), (1, .long x1), (3, .int x3), (4, .int x4)] [] h Q) (hrc1 : ∀ {Q : zz_O → zz_H → Prop} {x1 : Int64} {x3 : Int32} {x4 : Int32} {x5 : Int32} {x6 : Int32} {h : zz_H} {t t' : cS} {o : kY}, kR h t s → rc 1 x1 x3 x4 x5 x6 t = some (t', o) → (∀ h', kR h' t' s → kE o Q h') → zz_J zp_P zt_tf zt_fd X d zm_100 35 [(0, .ref 59), (1, .long x1), (3, .int x3), (4, .int x4), (5, .int x5), (6, .int x6)] [] h Q) {Q : zz_O → zz_H → Prop} {x1 : Int64} {x3 : Int32} {x4 : Int32} {x5 : Int32} {x6 : Int32} {h : zz_H} {t t' : cS} {o : kY} (hR : kR h t s) (hf : cf_100_40 N X rc x1 x3 x4 x5 x6 t = some (t', o)) (k : (∀ h', kR h' t' s → kE o Q h')) : zz_J zp_P zt_tf zt_fd X d zm_100 40 [(0, .ref 59), (1, .long x1), (3, .int x3), (4, .int x4), (5, .int x5), (6, .int x6)] [] h Q := by
  unfold cf_100_40 at hf
  obtain ⟨e0, hf⟩ := ko_if hf
  obtain ⟨d', rfl⟩ : ∃ d', d = d' + 1 := ⟨d - 1, by omega⟩
  refine cb_100_40 hR e0 (fun {h} hR => ?_)
  rcases ko_call_ok hf with ⟨g1, v1, er, hf⟩ | ⟨g1, er, hq⟩
  · obtain ⟨y, hv, hf2⟩ := co_i_ok hf
    clear hf
    have hf := hf2
    clear hf2
    subst hv
    refine cr_130 (by omega) hR er (fun h hR => ?_)
    exact cr_100_57 hd hrc0 hrc1 hR hf k
  · refine cr_130 (by omega) hR er (fun h hR => ?_)
    exact ko_thrown hq hR k
def cf_100_35 (N : Nat) (X : Nat → Option zz_C) (rc : Nat → Int64 → Int32 → Int32 → Int32 → Int32 → cS → kO) (x1 : Int64) (x3 : Int32) (x4 : Int32) (x5 : Int32) (x6 : Int32) (t : cS) : kO := if x6 ≤ 0 then cf_100_84 N X rc x1 x3 x4 x6 t else cf_100_40 N X rc x1 x3 x4 x5 x6 t
theorem cr_100_35 {X : Nat → Option zz_C} {s : mS} {N : Nat} {d : Nat} (hd : 1 ≤ d) {rc : Nat → Int64 → Int32 → Int32 → Int32 → Int32 → cS → kO} (hrc0 : ∀ {Q : zz_O → zz_H → Prop} {x1 : Int64} {x3 : Int32} {x4 : Int32} {h : zz_H} {t t' : cS} {o : kY}, kR h t s → rc 0 x1 x3 x4 0 0 t = some (t', o) → (∀ h', kR h' t' s → kE o Q h') → zz_J zp_P zt_tf zt_fd X d zm_100 3 [(0, .ref 59), (1, .long x1), (3, .int x3), (4, .int x4)] [] h Q) (hrc1 : ∀ {Q : zz_O → zz_H → Prop} {x1 : Int64} {x3 : Int32} {x4 : Int32} {x5 : Int32} {x6 : Int32} {h : zz_H} {t t' : cS} {o : kY}, kR h t s → rc 1 x1 x3 x4 x5 x6 t = some (t', o) → (∀ h', kR h' t' s → kE o Q h') → zz_J zp_P zt_tf zt_fd X d zm_100 35 [(0, .ref 59), (1, .long x1), (3, .int x3), (4, .int x4), (5, .int x5), (6, .int x6)] [] h Q) {Q : zz_O → zz_H → Prop} {x1 : Int64} {x3 : Int32} {x4 : Int32} {x5 : Int32} {x6 : Int32} {h : zz_H} {t t' : cS} {o : kY} (hR : kR h t s) (hf : cf_100_35 N X rc x1 x3 x4 x5 x6 t = some (t', o)) (k : (∀ h', kR h' t' s → kE o Q h')) : zz_J zp_P zt_tf zt_fd X d zm_100 35 [(0, .ref 59), (1, .long x1), (3, .int x3), (4, .int x4), (5, .int x5), (6, .int x6)] [] h Q := by
  unfold cf_100_35 at hf
  refine cb_100_35 hR  (fun c {h} hR => ?_) (fun c {h} hR => ?_)
  · rw [if_pos c] at hf
    exact cr_100_84 hd hrc0 hrc1 hR hf k
  · rw [if_neg c] at hf
    exact cr_100_40 hd hrc0 hrc1 hR hf k
def cf_100_29 (N : Nat) (X : Nat → Option zz_C) (rc : Nat → Int64 → Int32 → Int32 → Int32 → Int32 → cS → kO) (x1 : Int64) (x3 : Int32) (x4 : Int32) (y0 : Int32) (t : cS) : kO := rc 1 x1 x3 x4 y0 x4 t
theorem cr_100_29 {X : Nat → Option zz_C} {s : mS} {N : Nat} {d : Nat} (hd : 1 ≤ d) {rc : Nat → Int64 → Int32 → Int32 → Int32 → Int32 → cS → kO} (hrc0 : ∀ {Q : zz_O → zz_H → Prop} {x1 : Int64} {x3 : Int32} {x4 : Int32} {h : zz_H} {t t' : cS} {o : kY}, kR h t s → rc 0 x1 x3 x4 0 0 t = some (t', o) → (∀ h', kR h' t' s → kE o Q h') → zz_J zp_P zt_tf zt_fd X d zm_100 3 [(0, .ref 59), (1, .long x1), (3, .int x3), (4, .int x4)] [] h Q) (hrc1 : ∀ {Q : zz_O → zz_H → Prop} {x1 : Int64} {x3 : Int32} {x4 : Int32} {x5 : Int32} {x6 : Int32} {h : zz_H} {t t' : cS} {o : kY}, kR h t s → rc 1 x1 x3 x4 x5 x6 t = some (t', o) → (∀ h', kR h' t' s → kE o Q h') → zz_J zp_P zt_tf zt_fd X d zm_100 35 [(0, .ref 59), (1, .long x1), (3, .int x3), (4, .int x4), (5, .int x5), (6, .int x6)] [] h Q) {Q : zz_O → zz_H → Prop} {x1 : Int64} {x3 : Int32} {x4 : Int32} {y0 : Int32} {h : zz_H} {t t' : cS} {o : kY} (hR : kR h t s) (hf : cf_100_29 N X rc x1 x3 x4 y0 t = some (t', o)) (k : (∀ h', kR h' t' s → kE o Q h')) : zz_J zp_P zt_tf zt_fd X d zm_100 29 [(0, .ref 59), (1, .long x1), (3, .int x3), (4, .int x4)] [.int y0] h Q := by
  unfold cf_100_29 at hf
  exact cb_100_29 hR  (fun hR => hrc1 hR hf k)
def cf_100_19 (N : Nat) (X : Nat → Option zz_C) (rc : Nat → Int64 → Int32 → Int32 → Int32 → Int32 → cS → kO) (x1 : Int64) (x3 : Int32) (x4 : Int32) (t : cS) : kO := ko_call 2 (cf_130 N X x1 x4 t) (fun g1 v1 => co_i v1 (fun y => cf_100_29 N X rc x1 x3 x4 y g1))
theorem cr_100_19 {X : Nat → Option zz_C} {s : mS} {N : Nat} {d : Nat} (hd : 1 ≤ d) {rc : Nat → Int64 → Int32 → Int32 → Int32 → Int32 → cS → kO} (hrc0 : ∀ {Q : zz_O → zz_H → Prop} {x1 : Int64} {x3 : Int32} {x4 : Int32} {h : zz_H} {t t' : cS} {o : kY}, kR h t s → rc 0 x1 x3 x4 0 0 t = some (t', o) → (∀ h', kR h' t' s → kE o Q h') → zz_J zp_P zt_tf zt_fd X d zm_100 3 [(0, .ref 59), (1, .long x1), (3, .int x3), (4, .int x4)] [] h Q) (hrc1 : ∀ {Q : zz_O → zz_H → Prop} {x1 : Int64} {x3 : Int32} {x4 : Int32} {x5 : Int32} {x6 : Int32} {h : zz_H} {t t' : cS} {o : kY}, kR h t s → rc 1 x1 x3 x4 x5 x6 t = some (t', o) → (∀ h', kR h' t' s → kE o Q h') → zz_J zp_P zt_tf zt_fd X d zm_100 35 [(0, .ref 59), (1, .long x1), (3, .int x3), (4, .int x4), (5, .int x5), (6, .int x6)] [] h Q) {Q : zz_O → zz_H → Prop} {x1 : Int64} {x3 : Int32} {x4 : Int32} {h : zz_H} {t t' : cS} {o : kY} (hR : kR h t s) (hf : cf_100_19 N X rc x1 x3 x4 t = some (t', o)) (k : (∀ h', kR h' t' s → kE o Q h')) : zz_J zp_P zt_tf zt_fd X d zm_100 19 [(0, .ref 59), (1, .long x1), (3, .int x3), (4, .int x4)] [] h Q := by
  unfold cf_100_19 at hf
  obtain ⟨d', rfl⟩ : ∃ d', d = d' + 1 := ⟨d - 1, by omega⟩
  refine cb_100_19 hR  (fun {h} hR => ?_)
  rcases ko_call_ok hf with ⟨g1, v1, er, hf⟩ | ⟨g1, er, hq⟩
  · obtain ⟨y, hv, hf2⟩ := co_i_ok hf
    clear hf
    have hf := hf2
    clear hf2
    subst hv
    refine cr_130 (by omega) hR er (fun h hR => ?_)
    exact cr_100_29 hd hrc0 hrc1 hR hf k
  · refine cr_130 (by omega) hR er (fun h hR => ?_)
    exact ko_thrown hq hR k
def cf_100_9 (N : Nat) (X : Nat → Option zz_C) (rc : Nat → Int64 → Int32 → Int32 → Int32 → Int32 → cS → kO) (x1 : Int64) (x3 : Int32) (x4 : Int32) (t : cS) : kO := if (Int32.ofNat (kA t 60).1) ≤ x4 then cf_100_99 N X  t else cf_100_19 N X rc x1 x3 x4 t
theorem cr_100_9 {X : Nat → Option zz_C} {s : mS} {N : Nat} {d : Nat} (hd : 1 ≤ d) {rc : Nat → Int64 → Int32 → Int32 → Int32 → Int32 → cS → kO} (hrc0 : ∀ {Q : zz_O → zz_H → Prop} {x1 : Int64} {x3 : Int32} {x4 : Int32} {h : zz_H} {t t' : cS} {o : kY}, kR h t s → rc 0 x1 x3 x4 0 0 t = some (t', o) → (∀ h', kR h' t' s → kE o Q h') → zz_J zp_P zt_tf zt_fd X d zm_100 3 [(0, .ref 59), (1, .long x1), (3, .int x3), (4, .int x4)] [] h Q) (hrc1 : ∀ {Q : zz_O → zz_H → Prop} {x1 : Int64} {x3 : Int32} {x4 : Int32} {x5 : Int32} {x6 : Int32} {h : zz_H} {t t' : cS} {o : kY}, kR h t s → rc 1 x1 x3 x4 x5 x6 t = some (t', o) → (∀ h', kR h' t' s → kE o Q h') → zz_J zp_P zt_tf zt_fd X d zm_100 35 [(0, .ref 59), (1, .long x1), (3, .int x3), (4, .int x4), (5, .int x5), (6, .int x6)] [] h Q) {Q : zz_O → zz_H → Prop} {x1 : Int64} {x3 : Int32} {x4 : Int32} {h : zz_H} {t t' : cS} {o : kY} (hR : kR h t s) (hf : cf_100_9 N X rc x1 x3 x4 t = some (t', o)) (k : (∀ h', kR h' t' s → kE o Q h')) : zz_J zp_P zt_tf zt_fd X d zm_100 9 [(0, .ref 59), (1, .long x1), (3, .int x3), (4, .int x4)] [] h Q := by
  unfold cf_100_9 at hf
  refine cb_100_9 hR  (fun c {h} hR => ?_) (fun c {h} hR => ?_)
  · rw [if_pos c] at hf
    exact cr_100_99 hd hR hf k
  · rw [if_neg c] at hf
    exact cr_100_19 hd hrc0 hrc1 hR hf k
def cf_100_3 (N : Nat) (X : Nat → Option zz_C) (rc : Nat → Int64 → Int32 → Int32 → Int32 → Int32 → cS → kO) (x1 : Int64) (x3 : Int32) (x4 : Int32) (t : cS) : kO := if x3 ≤ x4 then cf_100_99 N X  t else cf_100_9 N X rc x1 x3 x4 t
theorem cr_100_3 {X : Nat → Option zz_C} {s : mS} {N : Nat} {d : Nat} (hd : 1 ≤ d) {rc : Nat → Int64 → Int32 → Int32 → Int32 → Int32 → cS → kO} (hrc0 : ∀ {Q : zz_O → zz_H → Prop} {x1 : Int64} {x3 : Int32} {x4 : Int32} {h : zz_H} {t t' : cS} {o : kY}, kR h t s → rc 0 x1 x3 x4 0 0 t = some (t', o) → (∀ h', kR h' t' s → kE o Q h') → zz_J zp_P zt_tf zt_fd X d zm_100 3 [(0, .ref 59), (1, .long x1), (3, .int x3), (4, .int x4)] [] h Q) (hrc1 : ∀ {Q : zz_O → zz_H → Prop} {x1 : Int64} {x3 : Int32} {x4 : Int32} {x5 : Int32} {x6 : Int32} {h : zz_H} {t t' : cS} {o : kY}, kR h t s → rc 1 x1 x3 x4 x5 x6 t = some (t', o) → (∀ h', kR h' t' s → kE o Q h') → zz_J zp_P zt_tf zt_fd X d zm_100 35 [(0, .ref 59), (1, .long x1), (3, .int x3), (4, .int x4), (5, .int x5), (6, .int x6)] [] h Q) {Q : zz_O → zz_H → Prop} {x1 : Int64} {x3 : Int32} {x4 : Int32} {h : zz_H} {t t' : cS} {o : kY} (hR : kR h t s) (hf : cf_100_3 N X rc x1 x3 x4 t = some (t', o)) (k : (∀ h', kR h' t' s → kE o Q h')) : zz_J zp_P zt_tf zt_fd X d zm_100 3 [(0, .ref 59), (1, .long x1), (3, .int x3), (4, .int x4)] [] h Q := by
  unfold cf_100_3 at hf
  refine cb_100_3 hR  (fun c {h} hR => ?_) (fun c {h} hR => ?_)
  · rw [if_pos c] at hf
    exact cr_100_99 hd hR hf k
  · rw [if_neg c] at hf
    exact cr_100_9 hd hrc0 hrc1 hR hf k
def cf_100_L1 (N : Nat) (X : Nat → Option zz_C) : Nat → Nat → Int64 → Int32 → Int32 → Int32 → Int32 → cS → kO
  | 0, _, _, _, _, _, _, _ => none
  | n + 1, l, x1, x3, x4, x5, x6, t => if l = 0 then cf_100_3 N X (cf_100_L1 N X n) x1 x3 x4 t else if l = 1 then cf_100_35 N X (cf_100_L1 N X n) x1 x3 x4 x5 x6 t else none
theorem cr_100_L1 {X : Nat → Option zz_C} {s : mS} {N : Nat} {d : Nat} (hd : 1 ≤ d) : ∀ n : Nat, (∀ {Q : zz_O → zz_H → Prop} {x1 : Int64} {x3 : Int32} {x4 : Int32} {h : zz_H} {t t' : cS} {o : kY}, kR h t s → cf_100_L1 N X n 0 x1 x3 x4 0 0 t = some (t', o) → (∀ h', kR h' t' s → kE o Q h') → zz_J zp_P zt_tf zt_fd X d zm_100 3 [(0, .ref 59), (1, .long x1), (3, .int x3), (4, .int x4)] [] h Q) ∧ (∀ {Q : zz_O → zz_H → Prop} {x1 : Int64} {x3 : Int32} {x4 : Int32} {x5 : Int32} {x6 : Int32} {h : zz_H} {t t' : cS} {o : kY}, kR h t s → cf_100_L1 N X n 1 x1 x3 x4 x5 x6 t = some (t', o) → (∀ h', kR h' t' s → kE o Q h') → zz_J zp_P zt_tf zt_fd X d zm_100 35 [(0, .ref 59), (1, .long x1), (3, .int x3), (4, .int x4), (5, .int x5), (6, .int x6)] [] h Q) := by
  intro n
  induction n with
  | zero => exact ⟨(fun _ hf _ => by cases hf), (fun _ hf _ => by cases hf)⟩
  | succ n ih =>
    obtain ⟨h0, h1⟩ := ih
    refine ⟨?_, ?_⟩
    · intro Q _ _ _ h t t' o hR hf k
      unfold cf_100_L1 at hf
      rw [if_pos rfl] at hf
      exact cr_100_3 hd h0 h1 hR hf k
    · intro Q _ _ _ _ _ h t t' o hR hf k
      unfold cf_100_L1 at hf
      rw [if_neg (by decide)] at hf
      rw [if_pos rfl] at hf
      exact cr_100_35 hd h0 h1 hR hf k
def cf_100_0 (N : Nat) (X : Nat → Option zz_C) (x1 : Int64) (x3 : Int32) (t : cS) : kO := cf_100_L1 N X N 0 x1 x3 0 0 0 t
theorem cr_100_0 {X : Nat → Option zz_C} {s : mS} {N : Nat} {d : Nat} (hd : 1 ≤ d) {Q : zz_O → zz_H → Prop} {x1 : Int64} {x3 : Int32} {h : zz_H} {t t' : cS} {o : kY} (hR : kR h t s) (hf : cf_100_0 N X x1 x3 t = some (t', o)) (k : (∀ h', kR h' t' s → kE o Q h')) : zz_J zp_P zt_tf zt_fd X d zm_100 0 [(0, .ref 59), (1, .long x1), (3, .int x3)] [] h Q := by
  unfold cf_100_0 at hf
  exact cb_100_0 hR  (fun hR => (cr_100_L1 hd N).1 hR hf k)
/-- sortPlaces -/
def cf_100 (N : Nat) (X : Nat → Option zz_C) (x1 : Int64) (x3 : Int32) (t : cS) : kO := cf_100_0 N X x1 x3 t
theorem cr_100 {X : Nat → Option zz_C} {s : mS} {N : Nat} {d : Nat} (hd : 1 ≤ d) {Q : zz_O → zz_H → Prop} {x1 : Int64} {x3 : Int32} {h : zz_H} {t t' : cS} {o : kY} (hR : kR h t s) (hf : cf_100 N X x1 x3 t = some (t', o)) (k : ∀ h', kR h' t' s → kE o Q h') : zz_J zp_P zt_tf zt_fd X d zm_100 0 [(0, .ref 59), (1, .long x1), (3, .int x3)] [] h Q := by
  unfold cf_100 at hf
  exact zz_J.weak (cr_100_0 hd hR hf k) rfl ⟨rfl, rfl, rfl, trivial⟩
/-! yX1_placeInOrder (I)I -/
theorem cb_101_0 {X : Nat → Option zz_C} {h : zz_H} {t : cS} {s : mS} {d : Nat} {Q : zz_O → zz_H → Prop} {x1 : Int32} (hR : kR h t s) (k1 : x1 < 0 → (∀ {h : zz_H}, kR h t s → zz_J zp_P zt_tf zt_fd X d zm_101 22 [] [] h Q)) (k2 : ¬ x1 < 0 → (∀ {h : zz_H}, kR h t s → zz_J zp_P zt_tf zt_fd X d zm_101 4 [(0, .ref 59), (1, .int x1)] [] h Q)) : zz_J zp_P zt_tf zt_fd X d zm_101 0 [(0, .ref 59), (1, .int x1)] [] h Q := by
  refine zz_J.n 1 rfl rfl rfl ?_
  refine zz_J.b1 22 4 (A := x1 < 0) rfl rfl (by decide) rfl rfl (fun c => ?_) (fun c => ?_)
  · exact zz_J.weak (k1 c hR) rfl trivial
  · exact zz_J.weak (k2 c hR) rfl ⟨rfl, rfl, trivial⟩
theorem cb_101_4 {X : Nat → Option zz_C} {h : zz_H} {t : cS} {s : mS} {d : Nat} {Q : zz_O → zz_H → Prop} {x1 : Int32} (hR : kR h t s) (k1 : (Int32.ofNat (kA t 60).1) ≤ x1 → (∀ {h : zz_H}, kR h t s → zz_J zp_P zt_tf zt_fd X d zm_101 22 [] [] h Q)) (k2 : ¬ (Int32.ofNat (kA t 60).1) ≤ x1 → (∀ {h : zz_H}, kR h t s → zz_J zp_P zt_tf zt_fd X d zm_101 13 [(0, .ref 59), (1, .int x1)] [] h Q)) : zz_J zp_P zt_tf zt_fd X d zm_101 4 [(0, .ref 59), (1, .int x1)] [] h Q := by
  refine zz_J.n 5 rfl rfl rfl ?_
  refine zz_J.n 6 rfl rfl rfl ?_
  refine zz_J.g 9 rfl (hR.gv (v := .ref (kD t 60)) ko_59 (by decide) rfl) rfl ?_
  refine zz_J.ln 10 rfl (hR.ln (w := (Int32.ofNat (kA t 60).1)) ka_60 rfl (by decide) rfl) rfl ?_
  refine zz_J.b2 22 13 (A := (Int32.ofNat (kA t 60).1) ≤ x1) rfl rfl (by decide) rfl rfl (fun c => ?_) (fun c => ?_)
  · exact zz_J.weak (k1 c hR) rfl trivial
  · exact zz_J.weak (k2 c hR) rfl ⟨rfl, rfl, trivial⟩
theorem cb_101_13 {X : Nat → Option zz_C} {h : zz_H} {t : cS} {s : mS} {d : Nat} {Q : zz_O → zz_H → Prop} {x1 : Int32} (hR : kR h t s) (e0 : ¬ (x1 < 0 ∨ (kA t 60).1 ≤ (Int32.toNatClampNeg x1))) (k : ∀ {h : zz_H}, kR h t s → zz_J zp_P zt_tf zt_fd X d zm_101 23 [] [.int ((kA t 60).2 (Int32.toNatClampNeg x1))] h Q) : zz_J zp_P zt_tf zt_fd X d zm_101 13 [(0, .ref 59), (1, .int x1)] [] h Q := by
  refine zz_J.n 14 rfl rfl rfl ?_
  refine zz_J.g 17 rfl (hR.gv (v := .ref (kD t 60)) ko_59 (by decide) rfl) rfl ?_
  refine zz_J.n 18 rfl rfl rfl ?_
  refine zz_J.ai 19 rfl (hR.ai (w := ((kA t 60).2 (Int32.toNatClampNeg x1))) ka_60 rfl e0 rfl) rfl ?_
  refine zz_J.n 23 rfl rfl rfl ?_
  exact zz_J.weak (k hR) rfl trivial
theorem cb_101_22 {X : Nat → Option zz_C} {h : zz_H} {t : cS} {s : mS} {d : Nat} {Q : zz_O → zz_H → Prop}  (hR : kR h t s) (k : ∀ {h : zz_H}, kR h t s → zz_J zp_P zt_tf zt_fd X d zm_101 23 [] [.int 0] h Q) : zz_J zp_P zt_tf zt_fd X d zm_101 22 [] [] h Q := by
  refine zz_J.c 23 (.int 0) rfl rfl rfl rfl ?_
  exact zz_J.weak (k hR) rfl trivial
theorem cb_101_23 {X : Nat → Option zz_C} {h : zz_H} {t : cS} {s : mS} {d : Nat} {Q : zz_O → zz_H → Prop} {y0 : Int32} (hR : kR h t s) (k : ∀ {h : zz_H}, kR h t s → Q (.inl (some (.int y0))) h) : zz_J zp_P zt_tf zt_fd X d zm_101 23 [] [.int y0] h Q := by
  refine zz_J.ret rfl rfl rfl ?_
  exact k hR
def cf_101_23 (N : Nat) (X : Nat → Option zz_C) (y0 : Int32) (t : cS) : kO := some (t, .inl (some (.int y0)))
theorem cr_101_23 {X : Nat → Option zz_C} {s : mS} {N : Nat} {d : Nat} (hd : 0 ≤ d) {Q : zz_O → zz_H → Prop} {y0 : Int32} {h : zz_H} {t t' : cS} {o : kY} (hR : kR h t s) (hf : cf_101_23 N X y0 t = some (t', o)) (k : (∀ h', kR h' t' s → kE o Q h')) : zz_J zp_P zt_tf zt_fd X d zm_101 23 [] [.int y0] h Q := by
  unfold cf_101_23 at hf
  cases hf
  exact cb_101_23 hR  (fun {h} hR => k h hR)
def cf_101_22 (N : Nat) (X : Nat → Option zz_C)  (t : cS) : kO := cf_101_23 N X 0 t
theorem cr_101_22 {X : Nat → Option zz_C} {s : mS} {N : Nat} {d : Nat} (hd : 0 ≤ d) {Q : zz_O → zz_H → Prop}  {h : zz_H} {t t' : cS} {o : kY} (hR : kR h t s) (hf : cf_101_22 N X  t = some (t', o)) (k : (∀ h', kR h' t' s → kE o Q h')) : zz_J zp_P zt_tf zt_fd X d zm_101 22 [] [] h Q := by
  unfold cf_101_22 at hf
  exact cb_101_22 hR  (fun hR => cr_101_23 hd hR hf k)
def cf_101_13 (N : Nat) (X : Nat → Option zz_C) (x1 : Int32) (t : cS) : kO := if ¬ (x1 < 0 ∨ (kA t 60).1 ≤ (Int32.toNatClampNeg x1)) then (cf_101_23 N X ((kA t 60).2 (Int32.toNatClampNeg x1)) t) else none
theorem cr_101_13 {X : Nat → Option zz_C} {s : mS} {N : Nat} {d : Nat} (hd : 0 ≤ d) {Q : zz_O → zz_H → Prop} {x1 : Int32} {h : zz_H} {t t' : cS} {o : kY} (hR : kR h t s) (hf : cf_101_13 N X x1 t = some (t', o)) (k : (∀ h', kR h' t' s → kE o Q h')) : zz_J zp_P zt_tf zt_fd X d zm_101 13 [(0, .ref 59), (1, .int x1)] [] h Q := by
  unfold cf_101_13 at hf
  obtain ⟨e0, hf⟩ := ko_if hf
  exact cb_101_13 hR e0 (fun hR => cr_101_23 hd hR hf k)
def cf_101_4 (N : Nat) (X : Nat → Option zz_C) (x1 : Int32) (t : cS) : kO := if (Int32.ofNat (kA t 60).1) ≤ x1 then cf_101_22 N X  t else cf_101_13 N X x1 t
theorem cr_101_4 {X : Nat → Option zz_C} {s : mS} {N : Nat} {d : Nat} (hd : 0 ≤ d) {Q : zz_O → zz_H → Prop} {x1 : Int32} {h : zz_H} {t t' : cS} {o : kY} (hR : kR h t s) (hf : cf_101_4 N X x1 t = some (t', o)) (k : (∀ h', kR h' t' s → kE o Q h')) : zz_J zp_P zt_tf zt_fd X d zm_101 4 [(0, .ref 59), (1, .int x1)] [] h Q := by
  unfold cf_101_4 at hf
  refine cb_101_4 hR  (fun c {h} hR => ?_) (fun c {h} hR => ?_)
  · rw [if_pos c] at hf
    exact cr_101_22 hd hR hf k
  · rw [if_neg c] at hf
    exact cr_101_13 hd hR hf k
def cf_101_0 (N : Nat) (X : Nat → Option zz_C) (x1 : Int32) (t : cS) : kO := if x1 < 0 then cf_101_22 N X  t else cf_101_4 N X x1 t
theorem cr_101_0 {X : Nat → Option zz_C} {s : mS} {N : Nat} {d : Nat} (hd : 0 ≤ d) {Q : zz_O → zz_H → Prop} {x1 : Int32} {h : zz_H} {t t' : cS} {o : kY} (hR : kR h t s) (hf : cf_101_0 N X x1 t = some (t', o)) (k : (∀ h', kR h' t' s → kE o Q h')) : zz_J zp_P zt_tf zt_fd X d zm_101 0 [(0, .ref 59), (1, .int x1)] [] h Q := by
  unfold cf_101_0 at hf
  refine cb_101_0 hR  (fun c {h} hR => ?_) (fun c {h} hR => ?_)
  · rw [if_pos c] at hf
    exact cr_101_22 hd hR hf k
  · rw [if_neg c] at hf
    exact cr_101_4 hd hR hf k
/-- placeInOrder -/
def cf_101 (N : Nat) (X : Nat → Option zz_C) (x1 : Int32) (t : cS) : kO := cf_101_0 N X x1 t
theorem cr_101 {X : Nat → Option zz_C} {s : mS} {N : Nat} {d : Nat} (hd : 0 ≤ d) {Q : zz_O → zz_H → Prop} {x1 : Int32} {h : zz_H} {t t' : cS} {o : kY} (hR : kR h t s) (hf : cf_101 N X x1 t = some (t', o)) (k : ∀ h', kR h' t' s → kE o Q h') : zz_J zp_P zt_tf zt_fd X d zm_101 0 [(0, .ref 59), (1, .int x1)] [] h Q := by
  unfold cf_101 at hf
  exact zz_J.weak (cr_101_0 hd hR hf k) rfl ⟨rfl, rfl, trivial⟩
