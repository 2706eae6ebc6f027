/-! yX1_one (LTallySlate$Word;J)J -/
theorem cb_88_0 {X : Nat → Option zz_C} {h : zz_H} {t : cS} {s : mS} {d : Nat} {Q : zz_O → zz_H → Prop} {x1 : Nat} {x2 : Int64} (hR : kR h t s) (e0 : ¬ x1 < zz_out) (e1 : hcl X [] x1 20 = true) (k : ∀ {h : zz_H}, kR h t s → zz_J zp_P zt_tf zt_fd X d zm_356 0 [(0, .ref x1)] [] h (zz_after 20 Q (fun v h' => zz_J zp_P zt_tf zt_fd X (d + 1) zm_88 7 [(0, .ref 59), (1, .ref x1), (2, .long x2)] (v.toList ++ [.ref (zz_out + 43)]) h' Q))) : zz_J zp_P zt_tf zt_fd X (d + 1) zm_88 0 [(0, .ref 59), (1, .ref x1), (2, .long x2)] [] h Q := by
  refine zz_J.c 3 (.ref (zz_out + 43)) rfl rfl rfl rfl ?_
  refine zz_J.n 4 rfl rfl rfl ?_
  refine zz_J.cv 7 (as := [.ref (zz_out + 43)]) rfl rfl ((hx_cl e0).trans e1) (by decide) (Nat.le_of_ble_eq_true rfl) (Nat.le_of_ble_eq_true rfl) rfl (Nat.le_of_ble_eq_true rfl) rfl ?_
  refine zz_J.mono (k hR) ?_
  intro o h' hE
  cases o with
  | inl v => exact zz_J.weak hE rfl ⟨rfl, rfl, rfl, trivial⟩
  | inr q => exact hE
theorem cb_88_7 {X : Nat → Option zz_C} {h : zz_H} {t : cS} {s : mS} {d : Nat} {Q : zz_O → zz_H → Prop} {x1 : Nat} {x2 : Int64} {y1 : Int32} (hR : kR h t s) {w0 : Int32} (e0 : hai X [] (zz_out + 43) y1 = some w0) (c8 : w0 = 8 → (∀ {h : zz_H}, kR h t s → zz_J zp_P zt_tf zt_fd X d zm_88 92 [(0, .ref 59), (2, .long x2)] [] h Q)) (c9 : w0 = 9 → (∀ {h : zz_H}, kR h t s → zz_J zp_P zt_tf zt_fd X d zm_88 102 [(0, .ref 59), (2, .long x2)] [] h Q)) (c10 : w0 = 10 → (∀ {h : zz_H}, kR h t s → zz_J zp_P zt_tf zt_fd X d zm_88 112 [(0, .ref 59), (2, .long x2)] [] h Q)) (c11 : w0 = 11 → (∀ {h : zz_H}, kR h t s → zz_J zp_P zt_tf zt_fd X d zm_88 122 [(0, .ref 59), (2, .long x2)] [] h Q)) (c12 : w0 = 12 → (∀ {h : zz_H}, kR h t s → zz_J zp_P zt_tf zt_fd X d zm_88 128 [(0, .ref 59), (2, .long x2)] [] h Q)) (c13 : w0 = 13 → (∀ {h : zz_H}, kR h t s → zz_J zp_P zt_tf zt_fd X d zm_88 155 [(0, .ref 59), (2, .long x2)] [] h Q)) (c14 : w0 = 14 → (∀ {h : zz_H}, kR h t s → zz_J zp_P zt_tf zt_fd X d zm_88 161 [(2, .long x2)] [] h Q)) (c15 : w0 = 15 → (∀ {h : zz_H}, kR h t s → zz_J zp_P zt_tf zt_fd X d zm_88 170 [(0, .ref 59), (1, .ref x1), (2, .long x2)] [] h Q)) (c16 : w0 = 16 → (∀ {h : zz_H}, kR h t s → zz_J zp_P zt_tf zt_fd X d zm_88 170 [(0, .ref 59), (1, .ref x1), (2, .long x2)] [] h Q)) (c17 : w0 = 17 → (∀ {h : zz_H}, kR h t s → zz_J zp_P zt_tf zt_fd X d zm_88 170 [(0, .ref 59), (1, .ref x1), (2, .long x2)] [] h Q)) (c18 : w0 = 18 → (∀ {h : zz_H}, kR h t s → zz_J zp_P zt_tf zt_fd X d zm_88 177 [(0, .ref 59), (1, .ref x1), (2, .long x2)] [] h Q)) (c19 : w0 = 19 → (∀ {h : zz_H}, kR h t s → zz_J zp_P zt_tf zt_fd X d zm_88 177 [(0, .ref 59), (1, .ref x1), (2, .long x2)] [] h Q)) (c20 : w0 = 20 → (∀ {h : zz_H}, kR h t s → zz_J zp_P zt_tf zt_fd X d zm_88 184 [(0, .ref 59), (2, .long x2)] [] h Q)) (c21 : w0 = 21 → (∀ {h : zz_H}, kR h t s → zz_J zp_P zt_tf zt_fd X d zm_88 190 [(0, .ref 59), (2, .long x2)] [] h Q)) (c22 : w0 = 22 → (∀ {h : zz_H}, kR h t s → zz_J zp_P zt_tf zt_fd X d zm_88 196 [(0, .ref 59), (2, .long x2)] [] h Q)) (c23 : w0 = 23 → (∀ {h : zz_H}, kR h t s → zz_J zp_P zt_tf zt_fd X d zm_88 202 [(0, .ref 59), (2, .long x2)] [] h Q)) (c24 : w0 = 24 → (∀ {h : zz_H}, kR h t s → zz_J zp_P zt_tf zt_fd X d zm_88 208 [(0, .ref 59), (2, .long x2)] [] h Q)) (kd : (Int32.toInt w0 < 8 ∨ 24 < Int32.toInt w0) → (∀ {h : zz_H}, kR h t s → zz_J zp_P zt_tf zt_fd X d zm_88 214 [] [] h Q)) : zz_J zp_P zt_tf zt_fd X d zm_88 7 [(0, .ref 59), (1, .ref x1), (2, .long x2)] [.int y1, .ref (zz_out + 43)] h Q := by
  refine zz_J.ai 8 rfl ((hx_ai (Nat.not_lt.mpr (Nat.le_add_right _ _))).trans e0) rfl ?_
  by_cases hx : Int32.toInt w0 < 8 ∨ 24 < Int32.toInt w0
  · exact zz_J.td 214 rfl hx (by decide) rfl (zz_J.weak (kd hx hR) rfl trivial)
  · have hv : Int32.toInt w0 = 8 ∨ Int32.toInt w0 = 9 ∨ Int32.toInt w0 = 10 ∨ Int32.toInt w0 = 11 ∨ Int32.toInt w0 = 12 ∨ Int32.toInt w0 = 13 ∨ Int32.toInt w0 = 14 ∨ Int32.toInt w0 = 15 ∨ Int32.toInt w0 = 16 ∨ Int32.toInt w0 = 17 ∨ Int32.toInt w0 = 18 ∨ Int32.toInt w0 = 19 ∨ Int32.toInt w0 = 20 ∨ Int32.toInt w0 = 21 ∨ Int32.toInt w0 = 22 ∨ Int32.toInt w0 = 23 ∨ Int32.toInt w0 = 24 := by omega
    rcases hv with hv | hv | hv | hv | hv | hv | hv | hv | hv | hv | hv | hv | hv | hv | hv | hv | hv
    · have e : w0 = 8 := Int32.toInt_inj.mp (hv.trans rfl)
      exact zz_J.tv 92 rfl e rfl (zz_J.weak (c8 e hR) rfl ⟨rfl, rfl, trivial⟩)
    · have e : w0 = 9 := Int32.toInt_inj.mp (hv.trans rfl)
      exact zz_J.tv 102 rfl e rfl (zz_J.weak (c9 e hR) rfl ⟨rfl, rfl, trivial⟩)
    · have e : w0 = 10 := Int32.toInt_inj.mp (hv.trans rfl)
      exact zz_J.tv 112 rfl e rfl (zz_J.weak (c10 e hR) rfl ⟨rfl, rfl, trivial⟩)
    · have e : w0 = 11 := Int32.toInt_inj.mp (hv.trans rfl)
      exact zz_J.tv 122 rfl e rfl (zz_J.weak (c11 e hR) rfl ⟨rfl, rfl, trivial⟩)
    · have e : w0 = 12 := Int32.toInt_inj.mp (hv.trans rfl)
      exact zz_J.tv 128 rfl e rfl (zz_J.weak (c12 e hR) rfl ⟨rfl, rfl, trivial⟩)
    · have e : w0 = 13 := Int32.toInt_inj.mp (hv.trans rfl)
      exact zz_J.tv 155 rfl e rfl (zz_J.weak (c13 e hR) rfl ⟨rfl, rfl, trivial⟩)
    · have e : w0 = 14 := Int32.toInt_inj.mp (hv.trans rfl)
      exact zz_J.tv 161 rfl e rfl (zz_J.weak (c14 e hR) rfl ⟨rfl, trivial⟩)
    · have e : w0 = 15 := Int32.toInt_inj.mp (hv.trans rfl)
      exact zz_J.tv 170 rfl e rfl (zz_J.weak (c15 e hR) rfl ⟨rfl, rfl, rfl, trivial⟩)
    · have e : w0 = 16 := Int32.toInt_inj.mp (hv.trans rfl)
      exact zz_J.tv 170 rfl e rfl (zz_J.weak (c16 e hR) rfl ⟨rfl, rfl, rfl, trivial⟩)
    · have e : w0 = 17 := Int32.toInt_inj.mp (hv.trans rfl)
      exact zz_J.tv 170 rfl e rfl (zz_J.weak (c17 e hR) rfl ⟨rfl, rfl, rfl, trivial⟩)
    · have e : w0 = 18 := Int32.toInt_inj.mp (hv.trans rfl)
      exact zz_J.tv 177 rfl e rfl (zz_J.weak (c18 e hR) rfl ⟨rfl, rfl, rfl, trivial⟩)
    · have e : w0 = 19 := Int32.toInt_inj.mp (hv.trans rfl)
      exact zz_J.tv 177 rfl e rfl (zz_J.weak (c19 e hR) rfl ⟨rfl, rfl, rfl, trivial⟩)
    · have e : w0 = 20 := Int32.toInt_inj.mp (hv.trans rfl)
      exact zz_J.tv 184 rfl e rfl (zz_J.weak (c20 e hR) rfl ⟨rfl, rfl, trivial⟩)
    · have e : w0 = 21 := Int32.toInt_inj.mp (hv.trans rfl)
      exact zz_J.tv 190 rfl e rfl (zz_J.weak (c21 e hR) rfl ⟨rfl, rfl, trivial⟩)
    · have e : w0 = 22 := Int32.toInt_inj.mp (hv.trans rfl)
      exact zz_J.tv 196 rfl e rfl (zz_J.weak (c22 e hR) rfl ⟨rfl, rfl, trivial⟩)
    · have e : w0 = 23 := Int32.toInt_inj.mp (hv.trans rfl)
      exact zz_J.tv 202 rfl e rfl (zz_J.weak (c23 e hR) rfl ⟨rfl, rfl, trivial⟩)
    · have e : w0 = 24 := Int32.toInt_inj.mp (hv.trans rfl)
      exact zz_J.tv 208 rfl e rfl (zz_J.weak (c24 e hR) rfl ⟨rfl, rfl, trivial⟩)
theorem cb_88_92 {X : Nat → Option zz_C} {h : zz_H} {t : cS} {s : mS} {d : Nat} {Q : zz_O → zz_H → Prop} {x2 : Int64} (hR : kR h t s) (k : ∀ {h : zz_H}, kR h t s → zz_J zp_P zt_tf zt_fd X d zm_90 0 [(0, .ref 59), (1, .long x2), (3, .int 0), (4, .int 1), (5, .int 64)] [] h (zz_after 1 Q (fun v h' => zz_J zp_P zt_tf zt_fd X (d + 1) zm_88 101 [] (v.toList ++ []) h' Q))) : zz_J zp_P zt_tf zt_fd X (d + 1) zm_88 92 [(0, .ref 59), (2, .long x2)] [] h Q := by
  refine zz_J.n 93 rfl rfl rfl ?_
  refine zz_J.n 94 rfl rfl rfl ?_
  refine zz_J.c 95 (.int 0) rfl rfl rfl rfl ?_
  refine zz_J.c 96 (.int 1) rfl rfl rfl rfl ?_
  refine zz_J.c 98 (.int 64) rfl rfl rfl rfl ?_
  refine zz_J.cv 101 (as := []) rfl rfl (hR.clO ko_59 (by decide) (by decide)) (by decide) (Nat.le_of_ble_eq_true rfl) (Nat.le_of_ble_eq_true rfl) rfl (Nat.le_of_ble_eq_true rfl) rfl ?_
  refine zz_J.mono (k hR) ?_
  intro o h' hE
  cases o with
  | inl v => exact zz_J.weak hE rfl trivial
  | inr q => exact hE
theorem cb_88_101 {X : Nat → Option zz_C} {h : zz_H} {t : cS} {s : mS} {d : Nat} {Q : zz_O → zz_H → Prop} {y0 : Int64} (hR : kR h t s) (k : ∀ {h : zz_H}, kR h t s → Q (.inl (some (.long y0))) h) : zz_J zp_P zt_tf zt_fd X d zm_88 101 [] [.long y0] h Q := by
  refine zz_J.ret rfl rfl rfl ?_
  exact k hR
theorem cb_88_102 {X : Nat → Option zz_C} {h : zz_H} {t : cS} {s : mS} {d : Nat} {Q : zz_O → zz_H → Prop} {x2 : Int64} (hR : kR h t s) (k : ∀ {h : zz_H}, kR h t s → zz_J zp_P zt_tf zt_fd X d zm_90 0 [(0, .ref 59), (1, .long x2), (3, .int 1), (4, .int 1), (5, .int 64)] [] h (zz_after 1 Q (fun v h' => zz_J zp_P zt_tf zt_fd X (d + 1) zm_88 111 [] (v.toList ++ []) h' Q))) : zz_J zp_P zt_tf zt_fd X (d + 1) zm_88 102 [(0, .ref 59), (2, .long x2)] [] h Q := by
  refine zz_J.n 103 rfl rfl rfl ?_
  refine zz_J.n 104 rfl rfl rfl ?_
  refine zz_J.c 105 (.int 1) rfl rfl rfl rfl ?_
  refine zz_J.c 106 (.int 1) rfl rfl rfl rfl ?_
  refine zz_J.c 108 (.int 64) rfl rfl rfl rfl ?_
  refine zz_J.cv 111 (as := []) rfl rfl (hR.clO ko_59 (by decide) (by decide)) (by decide) (Nat.le_of_ble_eq_true rfl) (Nat.le_of_ble_eq_true rfl) rfl (Nat.le_of_ble_eq_true rfl) rfl ?_
  refine zz_J.mono (k hR) ?_
  intro o h' hE
  cases o with
  | inl v => exact zz_J.weak hE rfl trivial
  | inr q => exact hE
theorem cb_88_111 {X : Nat → Option zz_C} {h : zz_H} {t : cS} {s : mS} {d : Nat} {Q : zz_O → zz_H → Prop} {y0 : Int64} (hR : kR h t s) (k : ∀ {h : zz_H}, kR h t s → Q (.inl (some (.long y0))) h) : zz_J zp_P zt_tf zt_fd X d zm_88 111 [] [.long y0] h Q := by
  refine zz_J.ret rfl rfl rfl ?_
  exact k hR
theorem cb_88_112 {X : Nat → Option zz_C} {h : zz_H} {t : cS} {s : mS} {d : Nat} {Q : zz_O → zz_H → Prop} {x2 : Int64} (hR : kR h t s) (k : ∀ {h : zz_H}, kR h t s → zz_J zp_P zt_tf zt_fd X d zm_90 0 [(0, .ref 59), (1, .long x2), (3, .int 0), (4, .int 3), (5, .int 20)] [] h (zz_after 1 Q (fun v h' => zz_J zp_P zt_tf zt_fd X (d + 1) zm_88 121 [] (v.toList ++ []) h' Q))) : zz_J zp_P zt_tf zt_fd X (d + 1) zm_88 112 [(0, .ref 59), (2, .long x2)] [] h Q := by
  refine zz_J.n 113 rfl rfl rfl ?_
  refine zz_J.n 114 rfl rfl rfl ?_
  refine zz_J.c 115 (.int 0) rfl rfl rfl rfl ?_
  refine zz_J.c 116 (.int 3) rfl rfl rfl rfl ?_
  refine zz_J.c 118 (.int 20) rfl rfl rfl rfl ?_
  refine zz_J.cv 121 (as := []) rfl rfl (hR.clO ko_59 (by decide) (by decide)) (by decide) (Nat.le_of_ble_eq_true rfl) (Nat.le_of_ble_eq_true rfl) rfl (Nat.le_of_ble_eq_true rfl) rfl ?_
  refine zz_J.mono (k hR) ?_
  intro o h' hE
  cases o with
  | inl v => exact zz_J.weak hE rfl trivial
  | inr q => exact hE
theorem cb_88_121 {X : Nat → Option zz_C} {h : zz_H} {t : cS} {s : mS} {d : Nat} {Q : zz_O → zz_H → Prop} {y0 : Int64} (hR : kR h t s) (k : ∀ {h : zz_H}, kR h t s → Q (.inl (some (.long y0))) h) : zz_J zp_P zt_tf zt_fd X d zm_88 121 [] [.long y0] h Q := by
  refine zz_J.ret rfl rfl rfl ?_
  exact k hR
theorem cb_88_122 {X : Nat → Option zz_C} {h : zz_H} {t : cS} {s : mS} {d : Nat} {Q : zz_O → zz_H → Prop} {x2 : Int64} (hR : kR h t s) (k : ∀ {h : zz_H}, kR h t s → zz_J zp_P zt_tf zt_fd X d zm_93 0 [(0, .ref 59), (1, .long x2)] [] h (zz_after 1 Q (fun v h' => zz_J zp_P zt_tf zt_fd X (d + 1) zm_88 127 [] (v.toList ++ []) h' Q))) : zz_J zp_P zt_tf zt_fd X (d + 1) zm_88 122 [(0, .ref 59), (2, .long x2)] [] h Q := by
  refine zz_J.n 123 rfl rfl rfl ?_
  refine zz_J.n 124 rfl rfl rfl ?_
  refine zz_J.cv 127 (as := []) rfl rfl (hR.clO ko_59 (by decide) (by decide)) (by decide) (Nat.le_of_ble_eq_true rfl) (Nat.le_of_ble_eq_true rfl) rfl (Nat.le_of_ble_eq_true rfl) rfl ?_
  refine zz_J.mono (k hR) ?_
  intro o h' hE
  cases o with
  | inl v => exact zz_J.weak hE rfl trivial
  | inr q => exact hE
theorem cb_88_127 {X : Nat → Option zz_C} {h : zz_H} {t : cS} {s : mS} {d : Nat} {Q : zz_O → zz_H → Prop} {y0 : Int64} (hR : kR h t s) (k : ∀ {h : zz_H}, kR h t s → Q (.inl (some (.long y0))) h) : zz_J zp_P zt_tf zt_fd X d zm_88 127 [] [.long y0] h Q := by
  refine zz_J.ret rfl rfl rfl ?_
  exact k hR
theorem cb_88_128 {X : Nat → Option zz_C} {h : zz_H} {t : cS} {s : mS} {d : Nat} {Q : zz_O → zz_H → Prop} {x2 : Int64} (hR : kR h t s) (k : ∀ {h : zz_H}, kR h t s → zz_J zp_P zt_tf zt_fd X d zm_255 0 [(0, .long x2)] [] h (zz_after 1000 Q (fun v h' => zz_J zp_P zt_tf zt_fd X (d + 1) zm_88 132 [(0, .ref 59), (2, .long x2)] (v.toList ++ []) h' Q))) : zz_J zp_P zt_tf zt_fd X (d + 1) zm_88 128 [(0, .ref 59), (2, .long x2)] [] h Q := by
  refine zz_J.n 129 rfl rfl rfl ?_
  refine zz_J.cl (M' := zm_255) 132 rfl rfl (by decide) rfl rfl ⟨rfl, Nat.le_of_ble_eq_true rfl⟩ rfl ?_
  refine zz_J.mono (k hR) ?_
  intro o h' hE
  cases o with
  | inl v => exact zz_J.weak hE rfl ⟨rfl, rfl, trivial⟩
  | inr q => exact hE
theorem cb_88_132 {X : Nat → Option zz_C} {h : zz_H} {t : cS} {s : mS} {d : Nat} {Q : zz_O → zz_H → Prop} {x2 : Int64} {y0 : Int32} (hR : kR h t s) (k1 : ¬ y0 = 0 → (∀ {h : zz_H}, kR h t s → zz_J zp_P zt_tf zt_fd X d zm_88 142 [(0, .ref 59), (2, .long x2)] [] h Q)) (k2 : ¬ ¬ y0 = 0 → (∀ {h : zz_H}, kR h t s → zz_J zp_P zt_tf zt_fd X d zm_88 135 [] [] h Q)) : zz_J zp_P zt_tf zt_fd X d zm_88 132 [(0, .ref 59), (2, .long x2)] [.int y0] h Q := by
  refine zz_J.b1 142 135 (A := ¬ y0 = 0) rfl (zz_cond_ne _ _) (by decide) rfl rfl (fun c => ?_) (fun c => ?_)
  · exact zz_J.weak (k1 c hR) rfl ⟨rfl, rfl, trivial⟩
  · exact zz_J.weak (k2 c hR) rfl trivial
theorem cb_88_135 {X : Nat → Option zz_C} {h : zz_H} {t : cS} {s : mS} {d : Nat} {Q : zz_O → zz_H → Prop}  (hR : kR h t s) (k : ∀ {h : zz_H}, kR h t s → zz_J zp_P zt_tf zt_fd X d zm_254 0 [(0, .int 3)] [] h (zz_after 1000 Q (fun v h' => zz_J zp_P zt_tf zt_fd X (d + 1) zm_88 139 [] (v.toList ++ []) h' Q))) : zz_J zp_P zt_tf zt_fd X (d + 1) zm_88 135 [] [] h Q := by
  refine zz_J.c 136 (.int 3) rfl rfl rfl rfl ?_
  refine zz_J.cl (M' := zm_254) 139 rfl rfl (by decide) rfl rfl ⟨rfl, Nat.le_of_ble_eq_true rfl⟩ rfl ?_
  refine zz_J.mono (k hR) ?_
  intro o h' hE
  cases o with
  | inl v => exact zz_J.weak hE rfl trivial
  | inr q => exact hE
theorem cb_88_139 {X : Nat → Option zz_C} {h : zz_H} {t : cS} {s : mS} {d : Nat} {Q : zz_O → zz_H → Prop} {y0 : Int64} (hR : kR h t s) (k : ∀ {h : zz_H}, kR h t s → zz_J zp_P zt_tf zt_fd X d zm_88 154 [] [.long y0] h Q) : zz_J zp_P zt_tf zt_fd X d zm_88 139 [] [.long y0] h Q := by
  refine zz_J.n 154 rfl rfl rfl ?_
  exact zz_J.weak (k hR) rfl trivial
theorem cb_88_142 {X : Nat → Option zz_C} {h : zz_H} {t : cS} {s : mS} {d : Nat} {Q : zz_O → zz_H → Prop} {x2 : Int64} (hR : kR h t s) (k : ∀ {h : zz_H}, kR h t s → zz_J zp_P zt_tf zt_fd X d zm_128 0 [(0, .ref 42), (1, .long x2)] [] h (zz_after 2 Q (fun v h' => zz_J zp_P zt_tf zt_fd X (d + 1) zm_88 151 [] (v.toList ++ [.int 0]) h' Q))) : zz_J zp_P zt_tf zt_fd X (d + 1) zm_88 142 [(0, .ref 59), (2, .long x2)] [] h Q := by
  refine zz_J.c 143 (.int 0) rfl rfl rfl rfl ?_
  refine zz_J.n 144 rfl rfl rfl ?_
  refine zz_J.g 147 rfl (hR.gv (v := .ref 42) ko_59 (by decide) rfl) rfl ?_
  refine zz_J.n 148 rfl rfl rfl ?_
  refine zz_J.cv 151 (as := [.int 0]) rfl rfl (hR.clO ko_42 (by decide) (by decide)) (by decide) (Nat.le_of_ble_eq_true rfl) (Nat.le_of_ble_eq_true rfl) rfl (Nat.le_of_ble_eq_true rfl) rfl ?_
  refine zz_J.mono (k hR) ?_
  intro o h' hE
  cases o with
  | inl v => exact zz_J.weak hE rfl trivial
  | inr q => exact hE
theorem cb_88_151 {X : Nat → Option zz_C} {h : zz_H} {t : cS} {s : mS} {d : Nat} {Q : zz_O → zz_H → Prop} {y0 : Int32} {y1 : Int32} (hR : kR h t s) (k : ∀ {h : zz_H}, kR h t s → zz_J zp_P zt_tf zt_fd X d zm_253 0 [(0, .int y0), (1, .int y1)] [] h (zz_after 1000 Q (fun v h' => zz_J zp_P zt_tf zt_fd X (d + 1) zm_88 154 [] (v.toList ++ []) h' Q))) : zz_J zp_P zt_tf zt_fd X (d + 1) zm_88 151 [] [.int y1, .int y0] h Q := by
  refine zz_J.cl (M' := zm_253) 154 rfl rfl (by decide) rfl rfl ⟨rfl, Nat.le_of_ble_eq_true rfl⟩ rfl ?_
  refine zz_J.mono (k hR) ?_
  intro o h' hE
  cases o with
  | inl v => exact zz_J.weak hE rfl trivial
  | inr q => exact hE
theorem cb_88_154 {X : Nat → Option zz_C} {h : zz_H} {t : cS} {s : mS} {d : Nat} {Q : zz_O → zz_H → Prop} {y0 : Int64} (hR : kR h t s) (k : ∀ {h : zz_H}, kR h t s → Q (.inl (some (.long y0))) h) : zz_J zp_P zt_tf zt_fd X d zm_88 154 [] [.long y0] h Q := by
  refine zz_J.ret rfl rfl rfl ?_
  exact k hR
theorem cb_88_155 {X : Nat → Option zz_C} {h : zz_H} {t : cS} {s : mS} {d : Nat} {Q : zz_O → zz_H → Prop} {x2 : Int64} (hR : kR h t s) (k : ∀ {h : zz_H}, kR h t s → zz_J zp_P zt_tf zt_fd X d zm_94 0 [(0, .ref 59), (1, .long x2)] [] h (zz_after 1 Q (fun v h' => zz_J zp_P zt_tf zt_fd X (d + 1) zm_88 160 [] (v.toList ++ []) h' Q))) : zz_J zp_P zt_tf zt_fd X (d + 1) zm_88 155 [(0, .ref 59), (2, .long x2)] [] h Q := by
  refine zz_J.n 156 rfl rfl rfl ?_
  refine zz_J.n 157 rfl rfl rfl ?_
  refine zz_J.cv 160 (as := []) rfl rfl (hR.clO ko_59 (by decide) (by decide)) (by decide) (Nat.le_of_ble_eq_true rfl) (Nat.le_of_ble_eq_true rfl) rfl (Nat.le_of_ble_eq_true rfl) rfl ?_
  refine zz_J.mono (k hR) ?_
  intro o h' hE
  cases o with
  | inl v => exact zz_J.weak hE rfl trivial
  | inr q => exact hE
theorem cb_88_160 {X : Nat → Option zz_C} {h : zz_H} {t : cS} {s : mS} {d : Nat} {Q : zz_O → zz_H → Prop} {y0 : Int64} (hR : kR h t s) (k : ∀ {h : zz_H}, kR h t s → Q (.inl (some (.long y0))) h) : zz_J zp_P zt_tf zt_fd X d zm_88 160 [] [.long y0] h Q := by
  refine zz_J.ret rfl rfl rfl ?_
  exact k hR
theorem cb_88_161 {X : Nat → Option zz_C} {h : zz_H} {t : cS} {s : mS} {d : Nat} {Q : zz_O → zz_H → Prop} {x2 : Int64} (hR : kR h t s) (k : ∀ {h : zz_H}, kR h t s → zz_J zp_P zt_tf zt_fd X d zm_255 0 [(0, .long x2)] [] h (zz_after 1000 Q (fun v h' => zz_J zp_P zt_tf zt_fd X (d + 1) zm_88 166 [] (v.toList ++ [.int 0]) h' Q))) : zz_J zp_P zt_tf zt_fd X (d + 1) zm_88 161 [(2, .long x2)] [] h Q := by
  refine zz_J.c 162 (.int 0) rfl rfl rfl rfl ?_
  refine zz_J.n 163 rfl rfl rfl ?_
  refine zz_J.cl (M' := zm_255) 166 rfl rfl (by decide) rfl rfl ⟨rfl, Nat.le_of_ble_eq_true rfl⟩ rfl ?_
  refine zz_J.mono (k hR) ?_
  intro o h' hE
  cases o with
  | inl v => exact zz_J.weak hE rfl trivial
  | inr q => exact hE
theorem cb_88_166 {X : Nat → Option zz_C} {h : zz_H} {t : cS} {s : mS} {d : Nat} {Q : zz_O → zz_H → Prop} {y0 : Int32} {y1 : Int32} (hR : kR h t s) (k : ∀ {h : zz_H}, kR h t s → zz_J zp_P zt_tf zt_fd X d zm_253 0 [(0, .int y0), (1, .int y1)] [] h (zz_after 1000 Q (fun v h' => zz_J zp_P zt_tf zt_fd X (d + 1) zm_88 169 [] (v.toList ++ []) h' Q))) : zz_J zp_P zt_tf zt_fd X (d + 1) zm_88 166 [] [.int y1, .int y0] h Q := by
  refine zz_J.cl (M' := zm_253) 169 rfl rfl (by decide) rfl rfl ⟨rfl, Nat.le_of_ble_eq_true rfl⟩ rfl ?_
  refine zz_J.mono (k hR) ?_
  intro o h' hE
  cases o with
  | inl v => exact zz_J.weak hE rfl trivial
  | inr q => exact hE
theorem cb_88_169 {X : Nat → Option zz_C} {h : zz_H} {t : cS} {s : mS} {d : Nat} {Q : zz_O → zz_H → Prop} {y0 : Int64} (hR : kR h t s) (k : ∀ {h : zz_H}, kR h t s → Q (.inl (some (.long y0))) h) : zz_J zp_P zt_tf zt_fd X d zm_88 169 [] [.long y0] h Q := by
  refine zz_J.ret rfl rfl rfl ?_
  exact k hR
theorem cb_88_170 {X : Nat → Option zz_C} {h : zz_H} {t : cS} {s : mS} {d : Nat} {Q : zz_O → zz_H → Prop} {x1 : Nat} {x2 : Int64} (hR : kR h t s) (k : ∀ {h : zz_H}, kR h t s → zz_J zp_P zt_tf zt_fd X d zm_95 0 [(0, .ref 59), (1, .ref x1), (2, .long x2)] [] h (zz_after 1 Q (fun v h' => zz_J zp_P zt_tf zt_fd X (d + 1) zm_88 176 [] (v.toList ++ []) h' Q))) : zz_J zp_P zt_tf zt_fd X (d + 1) zm_88 170 [(0, .ref 59), (1, .ref x1), (2, .long x2)] [] h Q := by
  refine zz_J.n 171 rfl rfl rfl ?_
  refine zz_J.n 172 rfl rfl rfl ?_
  refine zz_J.n 173 rfl rfl rfl ?_
  refine zz_J.cv 176 (as := []) rfl rfl (hR.clO ko_59 (by decide) (by decide)) (by decide) (Nat.le_of_ble_eq_true rfl) (Nat.le_of_ble_eq_true rfl) rfl (Nat.le_of_ble_eq_true rfl) rfl ?_
  refine zz_J.mono (k hR) ?_
  intro o h' hE
  cases o with
  | inl v => exact zz_J.weak hE rfl trivial
  | inr q => exact hE
theorem cb_88_176 {X : Nat → Option zz_C} {h : zz_H} {t : cS} {s : mS} {d : Nat} {Q : zz_O → zz_H → Prop} {y0 : Int64} (hR : kR h t s) (k : ∀ {h : zz_H}, kR h t s → Q (.inl (some (.long y0))) h) : zz_J zp_P zt_tf zt_fd X d zm_88 176 [] [.long y0] h Q := by
  refine zz_J.ret rfl rfl rfl ?_
  exact k hR
theorem cb_88_177 {X : Nat → Option zz_C} {h : zz_H} {t : cS} {s : mS} {d : Nat} {Q : zz_O → zz_H → Prop} {x1 : Nat} {x2 : Int64} (hR : kR h t s) (k : ∀ {h : zz_H}, kR h t s → zz_J zp_P zt_tf zt_fd X d zm_97 0 [(0, .ref 59), (1, .ref x1), (2, .long x2)] [] h (zz_after 1 Q (fun v h' => zz_J zp_P zt_tf zt_fd X (d + 1) zm_88 183 [] (v.toList ++ []) h' Q))) : zz_J zp_P zt_tf zt_fd X (d + 1) zm_88 177 [(0, .ref 59), (1, .ref x1), (2, .long x2)] [] h Q := by
  refine zz_J.n 178 rfl rfl rfl ?_
  refine zz_J.n 179 rfl rfl rfl ?_
  refine zz_J.n 180 rfl rfl rfl ?_
  refine zz_J.cv 183 (as := []) rfl rfl (hR.clO ko_59 (by decide) (by decide)) (by decide) (Nat.le_of_ble_eq_true rfl) (Nat.le_of_ble_eq_true rfl) rfl (Nat.le_of_ble_eq_true rfl) rfl ?_
  refine zz_J.mono (k hR) ?_
  intro o h' hE
  cases o with
  | inl v => exact zz_J.weak hE rfl trivial
  | inr q => exact hE
theorem cb_88_183 {X : Nat → Option zz_C} {h : zz_H} {t : cS} {s : mS} {d : Nat} {Q : zz_O → zz_H → Prop} {y0 : Int64} (hR : kR h t s) (k : ∀ {h : zz_H}, kR h t s → Q (.inl (some (.long y0))) h) : zz_J zp_P zt_tf zt_fd X d zm_88 183 [] [.long y0] h Q := by
  refine zz_J.ret rfl rfl rfl ?_
  exact k hR
theorem cb_88_184 {X : Nat → Option zz_C} {h : zz_H} {t : cS} {s : mS} {d : Nat} {Q : zz_O → zz_H → Prop} {x2 : Int64} (hR : kR h t s) (k : ∀ {h : zz_H}, kR h t s → zz_J zp_P zt_tf zt_fd X d zm_99 0 [(0, .ref 59), (1, .long x2)] [] h (zz_after 1 Q (fun v h' => zz_J zp_P zt_tf zt_fd X (d + 1) zm_88 189 [] (v.toList ++ []) h' Q))) : zz_J zp_P zt_tf zt_fd X (d + 1) zm_88 184 [(0, .ref 59), (2, .long x2)] [] h Q := by
  refine zz_J.n 185 rfl rfl rfl ?_
  refine zz_J.n 186 rfl rfl rfl ?_
  refine zz_J.cv 189 (as := []) rfl rfl (hR.clO ko_59 (by decide) (by decide)) (by decide) (Nat.le_of_ble_eq_true rfl) (Nat.le_of_ble_eq_true rfl) rfl (Nat.le_of_ble_eq_true rfl) rfl ?_
  refine zz_J.mono (k hR) ?_
  intro o h' hE
  cases o with
  | inl v => exact zz_J.weak hE rfl trivial
  | inr q => exact hE
theorem cb_88_189 {X : Nat → Option zz_C} {h : zz_H} {t : cS} {s : mS} {d : Nat} {Q : zz_O → zz_H → Prop} {y0 : Int64} (hR : kR h t s) (k : ∀ {h : zz_H}, kR h t s → Q (.inl (some (.long y0))) h) : zz_J zp_P zt_tf zt_fd X d zm_88 189 [] [.long y0] h Q := by
  refine zz_J.ret rfl rfl rfl ?_
  exact k hR
theorem cb_88_190 {X : Nat → Option zz_C} {h : zz_H} {t : cS} {s : mS} {d : Nat} {Q : zz_O → zz_H → Prop} {x2 : Int64} (hR : kR h t s) (k : ∀ {h : zz_H}, kR h t s → zz_J zp_P zt_tf zt_fd X d zm_102 0 [(0, .ref 59), (1, .long x2)] [] h (zz_after 1 Q (fun v h' => zz_J zp_P zt_tf zt_fd X (d + 1) zm_88 195 [] (v.toList ++ []) h' Q))) : zz_J zp_P zt_tf zt_fd X (d + 1) zm_88 190 [(0, .ref 59), (2, .long x2)] [] h Q := by
  refine zz_J.n 191 rfl rfl rfl ?_
  refine zz_J.n 192 rfl rfl rfl ?_
  refine zz_J.cv 195 (as := []) rfl rfl (hR.clO ko_59 (by decide) (by decide)) (by decide) (Nat.le_of_ble_eq_true rfl) (Nat.le_of_ble_eq_true rfl) rfl (Nat.le_of_ble_eq_true rfl) rfl ?_
  refine zz_J.mono (k hR) ?_
  intro o h' hE
  cases o with
  | inl v => exact zz_J.weak hE rfl trivial
  | inr q => exact hE
theorem cb_88_195 {X : Nat → Option zz_C} {h : zz_H} {t : cS} {s : mS} {d : Nat} {Q : zz_O → zz_H → Prop} {y0 : Int64} (hR : kR h t s) (k : ∀ {h : zz_H}, kR h t s → Q (.inl (some (.long y0))) h) : zz_J zp_P zt_tf zt_fd X d zm_88 195 [] [.long y0] h Q := by
  refine zz_J.ret rfl rfl rfl ?_
  exact k hR
theorem cb_88_196 {X : Nat → Option zz_C} {h : zz_H} {t : cS} {s : mS} {d : Nat} {Q : zz_O → zz_H → Prop} {x2 : Int64} (hR : kR h t s) (k : ∀ {h : zz_H}, kR h t s → zz_J zp_P zt_tf zt_fd X d zm_103 0 [(0, .ref 59), (1, .long x2)] [] h (zz_after 1 Q (fun v h' => zz_J zp_P zt_tf zt_fd X (d + 1) zm_88 201 [] (v.toList ++ []) h' Q))) : zz_J zp_P zt_tf zt_fd X (d + 1) zm_88 196 [(0, .ref 59), (2, .long x2)] [] h Q := by
  refine zz_J.n 197 rfl rfl rfl ?_
  refine zz_J.n 198 rfl rfl rfl ?_
  refine zz_J.cv 201 (as := []) rfl rfl (hR.clO ko_59 (by decide) (by decide)) (by decide) (Nat.le_of_ble_eq_true rfl) (Nat.le_of_ble_eq_true rfl) rfl (Nat.le_of_ble_eq_true rfl) rfl ?_
  refine zz_J.mono (k hR) ?_
  intro o h' hE
  cases o with
  | inl v => exact zz_J.weak hE rfl trivial
  | inr q => exact hE
theorem cb_88_201 {X : Nat → Option zz_C} {h : zz_H} {t : cS} {s : mS} {d : Nat} {Q : zz_O → zz_H → Prop} {y0 : Int64} (hR : kR h t s) (k : ∀ {h : zz_H}, kR h t s → Q (.inl (some (.long y0))) h) : zz_J zp_P zt_tf zt_fd X d zm_88 201 [] [.long y0] h Q := by
  refine zz_J.ret rfl rfl rfl ?_
  exact k hR
theorem cb_88_202 {X : Nat → Option zz_C} {h : zz_H} {t : cS} {s : mS} {d : Nat} {Q : zz_O → zz_H → Prop} {x2 : Int64} (hR : kR h t s) (k : ∀ {h : zz_H}, kR h t s → zz_J zp_P zt_tf zt_fd X d zm_104 0 [(0, .ref 59), (1, .long x2)] [] h (zz_after 1 Q (fun v h' => zz_J zp_P zt_tf zt_fd X (d + 1) zm_88 207 [] (v.toList ++ []) h' Q))) : zz_J zp_P zt_tf zt_fd X (d + 1) zm_88 202 [(0, .ref 59), (2, .long x2)] [] h Q := by
  refine zz_J.n 203 rfl rfl rfl ?_
  refine zz_J.n 204 rfl rfl rfl ?_
  refine zz_J.cv 207 (as := []) rfl rfl (hR.clO ko_59 (by decide) (by decide)) (by decide) (Nat.le_of_ble_eq_true rfl) (Nat.le_of_ble_eq_true rfl) rfl (Nat.le_of_ble_eq_true rfl) rfl ?_
  refine zz_J.mono (k hR) ?_
  intro o h' hE
  cases o with
  | inl v => exact zz_J.weak hE rfl trivial
  | inr q => exact hE
theorem cb_88_207 {X : Nat → Option zz_C} {h : zz_H} {t : cS} {s : mS} {d : Nat} {Q : zz_O → zz_H → Prop} {y0 : Int64} (hR : kR h t s) (k : ∀ {h : zz_H}, kR h t s → Q (.inl (some (.long y0))) h) : zz_J zp_P zt_tf zt_fd X d zm_88 207 [] [.long y0] h Q := by
  refine zz_J.ret rfl rfl rfl ?_
  exact k hR
theorem cb_88_208 {X : Nat → Option zz_C} {h : zz_H} {t : cS} {s : mS} {d : Nat} {Q : zz_O → zz_H → Prop} {x2 : Int64} (hR : kR h t s) (k : ∀ {h : zz_H}, kR h t s → zz_J zp_P zt_tf zt_fd X d zm_106 0 [(0, .ref 59), (1, .long x2)] [] h (zz_after 1 Q (fun v h' => zz_J zp_P zt_tf zt_fd X (d + 1) zm_88 213 [] (v.toList ++ []) h' Q))) : zz_J zp_P zt_tf zt_fd X (d + 1) zm_88 208 [(0, .ref 59), (2, .long x2)] [] h Q := by
  refine zz_J.n 209 rfl rfl rfl ?_
  refine zz_J.n 210 rfl rfl rfl ?_
  refine zz_J.cv 213 (as := []) rfl rfl (hR.clO ko_59 (by decide) (by decide)) (by decide) (Nat.le_of_ble_eq_true rfl) (Nat.le_of_ble_eq_true rfl) rfl (Nat.le_of_ble_eq_true rfl) rfl ?_
  refine zz_J.mono (k hR) ?_
  intro o h' hE
  cases o with
  | inl v => exact zz_J.weak hE rfl trivial
  | inr q => exact hE
theorem cb_88_213 {X : Nat → Option zz_C} {h : zz_H} {t : cS} {s : mS} {d : Nat} {Q : zz_O → zz_H → Prop} {y0 : Int64} (hR : kR h t s) (k : ∀ {h : zz_H}, kR h t s → Q (.inl (some (.long y0))) h) : zz_J zp_P zt_tf zt_fd X d zm_88 213 [] [.long y0] h Q := by
  refine zz_J.ret rfl rfl rfl ?_
  exact k hR
theorem cb_88_214 {X : Nat → Option zz_C} {h : zz_H} {t : cS} {s : mS} {d : Nat} {Q : zz_O → zz_H → Prop}  (hR : kR h t s) (k : ∀ {h : zz_H}, kR h t s → zz_J zp_P zt_tf zt_fd X d zm_254 0 [(0, .int 3)] [] h (zz_after 1000 Q (fun v h' => zz_J zp_P zt_tf zt_fd X (d + 1) zm_88 218 [] (v.toList ++ []) h' Q))) : zz_J zp_P zt_tf zt_fd X (d + 1) zm_88 214 [] [] h Q := by
  refine zz_J.c 215 (.int 3) rfl rfl rfl rfl ?_
  refine zz_J.cl (M' := zm_254) 218 rfl rfl (by decide) rfl rfl ⟨rfl, Nat.le_of_ble_eq_true rfl⟩ rfl ?_
  refine zz_J.mono (k hR) ?_
  intro o h' hE
  cases o with
  | inl v => exact zz_J.weak hE rfl trivial
  | inr q => exact hE
theorem cb_88_218 {X : Nat → Option zz_C} {h : zz_H} {t : cS} {s : mS} {d : Nat} {Q : zz_O → zz_H → Prop} {y0 : Int64} (hR : kR h t s) (k : ∀ {h : zz_H}, kR h t s → Q (.inl (some (.long y0))) h) : zz_J zp_P zt_tf zt_fd X d zm_88 218 [] [.long y0] h Q := by
  refine zz_J.ret rfl rfl rfl ?_
  exact k hR
def cf_88_101 (N : Nat) (X : Nat → Option zz_C) (y0 : Int64) (t : cS) : kO := some (t, .inl (some (.long y0)))
theorem cr_88_101 {X : Nat → Option zz_C} {s : mS} {N : Nat} {d : Nat} (hd : 12 ≤ d) {Q : zz_O → zz_H → Prop} {y0 : Int64} {h : zz_H} {t t' : cS} {o : kY} (hR : kR h t s) (hf : cf_88_101 N X y0 t = some (t', o)) (k : (∀ h', kR h' t' s → kE o Q h')) : zz_J zp_P zt_tf zt_fd X d zm_88 101 [] [.long y0] h Q := by
  unfold cf_88_101 at hf
  cases hf
  exact cb_88_101 hR  (fun {h} hR => k h hR)
def cf_88_92 (N : Nat) (X : Nat → Option zz_C) (x2 : Int64) (t : cS) : kO := ko_call 1 (cf_90 N X x2 0 1 64 t) (fun g1 v1 => co_l v1 (fun y => cf_88_101 N X y g1))
theorem cr_88_92 {X : Nat → Option zz_C} {s : mS} {N : Nat} {d : Nat} (hd : 12 ≤ d) {Q : zz_O → zz_H → Prop} {x2 : Int64} {h : zz_H} {t t' : cS} {o : kY} (hR : kR h t s) (hf : cf_88_92 N X x2 t = some (t', o)) (k : (∀ h', kR h' t' s → kE o Q h')) : zz_J zp_P zt_tf zt_fd X d zm_88 92 [(0, .ref 59), (2, .long x2)] [] h Q := by
  unfold cf_88_92 at hf
  obtain ⟨d', rfl⟩ : ∃ d', d = d' + 1 := ⟨d - 1, by omega⟩
  refine cb_88_92 hR  (fun {h} hR => ?_)
  rcases ko_call_ok hf with ⟨g1, v1, er, hf⟩ | ⟨g1, er, hq⟩
  · obtain ⟨y, hv, hf2⟩ := co_l_ok hf
    clear hf
    have hf := hf2
    clear hf2
    subst hv
    refine cr_90 (by omega) hR er (fun h hR => ?_)
    exact cr_88_101 hd hR hf k
  · refine cr_90 (by omega) hR er (fun h hR => ?_)
    exact ko_thrown hq hR k
def cf_88_111 (N : Nat) (X : Nat → Option zz_C) (y0 : Int64) (t : cS) : kO := some (t, .inl (some (.long y0)))
theorem cr_88_111 {X : Nat → Option zz_C} {s : mS} {N : Nat} {d : Nat} (hd : 12 ≤ d) {Q : zz_O → zz_H → Prop} {y0 : Int64} {h : zz_H} {t t' : cS} {o : kY} (hR : kR h t s) (hf : cf_88_111 N X y0 t = some (t', o)) (k : (∀ h', kR h' t' s → kE o Q h')) : zz_J zp_P zt_tf zt_fd X d zm_88 111 [] [.long y0] h Q := by
  unfold cf_88_111 at hf
  cases hf
  exact cb_88_111 hR  (fun {h} hR => k h hR)
def cf_88_102 (N : Nat) (X : Nat → Option zz_C) (x2 : Int64) (t : cS) : kO := ko_call 1 (cf_90 N X x2 1 1 64 t) (fun g1 v1 => co_l v1 (fun y => cf_88_111 N X y g1))
theorem cr_88_102 {X : Nat → Option zz_C} {s : mS} {N : Nat} {d : Nat} (hd : 12 ≤ d) {Q : zz_O → zz_H → Prop} {x2 : Int64} {h : zz_H} {t t' : cS} {o : kY} (hR : kR h t s) (hf : cf_88_102 N X x2 t = some (t', o)) (k : (∀ h', kR h' t' s → kE o Q h')) : zz_J zp_P zt_tf zt_fd X d zm_88 102 [(0, .ref 59), (2, .long x2)] [] h Q := by
  unfold cf_88_102 at hf
  obtain ⟨d', rfl⟩ : ∃ d', d = d' + 1 := ⟨d - 1, by omega⟩
  refine cb_88_102 hR  (fun {h} hR => ?_)
  rcases ko_call_ok hf with ⟨g1, v1, er, hf⟩ | ⟨g1, er, hq⟩
  · obtain ⟨y, hv, hf2⟩ := co_l_ok hf
    clear hf
    have hf := hf2
    clear hf2
    subst hv
    refine cr_90 (by omega) hR er (fun h hR => ?_)
    exact cr_88_111 hd hR hf k
  · refine cr_90 (by omega) hR er (fun h hR => ?_)
    exact ko_thrown hq hR k
def cf_88_121 (N : Nat) (X : Nat → Option zz_C) (y0 : Int64) (t : cS) : kO := some (t, .inl (some (.long y0)))
theorem cr_88_121 {X : Nat → Option zz_C} {s : mS} {N : Nat} {d : Nat} (hd : 12 ≤ d) {Q : zz_O → zz_H → Prop} {y0 : Int64} {h : zz_H} {t t' : cS} {o : kY} (hR : kR h t s) (hf : cf_88_121 N X y0 t = some (t', o)) (k : (∀ h', kR h' t' s → kE o Q h')) : zz_J zp_P zt_tf zt_fd X d zm_88 121 [] [.long y0] h Q := by
  unfold cf_88_121 at hf
  cases hf
  exact cb_88_121 hR  (fun {h} hR => k h hR)
def cf_88_112 (N : Nat) (X : Nat → Option zz_C) (x2 : Int64) (t : cS) : kO := ko_call 1 (cf_90 N X x2 0 3 20 t) (fun g1 v1 => co_l v1 (fun y => cf_88_121 N X y g1))
theorem cr_88_112 {X : Nat → Option zz_C} {s : mS} {N : Nat} {d : Nat} (hd : 12 ≤ d) {Q : zz_O → zz_H → Prop} {x2 : Int64} {h : zz_H} {t t' : cS} {o : kY} (hR : kR h t s) (hf : cf_88_112 N X x2 t = some (t', o)) (k : (∀ h', kR h' t' s → kE o Q h')) : zz_J zp_P zt_tf zt_fd X d zm_88 112 [(0, .ref 59), (2, .long x2)] [] h Q := by
  unfold cf_88_112 at hf
  obtain ⟨d', rfl⟩ : ∃ d', d = d' + 1 := ⟨d - 1, by omega⟩
  refine cb_88_112 hR  (fun {h} hR => ?_)
  rcases ko_call_ok hf with ⟨g1, v1, er, hf⟩ | ⟨g1, er, hq⟩
  · obtain ⟨y, hv, hf2⟩ := co_l_ok hf
    clear hf
    have hf := hf2
    clear hf2
    subst hv
    refine cr_90 (by omega) hR er (fun h hR => ?_)
    exact cr_88_121 hd hR hf k
  · refine cr_90 (by omega) hR er (fun h hR => ?_)
    exact ko_thrown hq hR k
def cf_88_127 (N : Nat) (X : Nat → Option zz_C) (y0 : Int64) (t : cS) : kO := some (t, .inl (some (.long y0)))
theorem cr_88_127 {X : Nat → Option zz_C} {s : mS} {N : Nat} {d : Nat} (hd : 12 ≤ d) {Q : zz_O → zz_H → Prop} {y0 : Int64} {h : zz_H} {t t' : cS} {o : kY} (hR : kR h t s) (hf : cf_88_127 N X y0 t = some (t', o)) (k : (∀ h', kR h' t' s → kE o Q h')) : zz_J zp_P zt_tf zt_fd X d zm_88 127 [] [.long y0] h Q := by
  unfold cf_88_127 at hf
  cases hf
  exact cb_88_127 hR  (fun {h} hR => k h hR)
def cf_88_122 (N : Nat) (X : Nat → Option zz_C) (x2 : Int64) (t : cS) : kO := ko_call 1 (cf_93 N X x2 t) (fun g1 v1 => co_l v1 (fun y => cf_88_127 N X y g1))
theorem cr_88_122 {X : Nat → Option zz_C} {s : mS} {N : Nat} {d : Nat} (hd : 12 ≤ d) {Q : zz_O → zz_H → Prop} {x2 : Int64} {h : zz_H} {t t' : cS} {o : kY} (hR : kR h t s) (hf : cf_88_122 N X x2 t = some (t', o)) (k : (∀ h', kR h' t' s → kE o Q h')) : zz_J zp_P zt_tf zt_fd X d zm_88 122 [(0, .ref 59), (2, .long x2)] [] h Q := by
  unfold cf_88_122 at hf
  obtain ⟨d', rfl⟩ : ∃ d', d = d' + 1 := ⟨d - 1, by omega⟩
  refine cb_88_122 hR  (fun {h} hR => ?_)
  rcases ko_call_ok hf with ⟨g1, v1, er, hf⟩ | ⟨g1, er, hq⟩
  · obtain ⟨y, hv, hf2⟩ := co_l_ok hf
    clear hf
    have hf := hf2
    clear hf2
    subst hv
    refine cr_93 (by omega) hR er (fun h hR => ?_)
    exact cr_88_127 hd hR hf k
  · refine cr_93 (by omega) hR er (fun h hR => ?_)
    exact ko_thrown hq hR k
def cf_88_154 (N : Nat) (X : Nat → Option zz_C) (y0 : Int64) (t : cS) : kO := some (t, .inl (some (.long y0)))
theorem cr_88_154 {X : Nat → Option zz_C} {s : mS} {N : Nat} {d : Nat} (hd : 12 ≤ d) {Q : zz_O → zz_H → Prop} {y0 : Int64} {h : zz_H} {t t' : cS} {o : kY} (hR : kR h t s) (hf : cf_88_154 N X y0 t = some (t', o)) (k : (∀ h', kR h' t' s → kE o Q h')) : zz_J zp_P zt_tf zt_fd X d zm_88 154 [] [.long y0] h Q := by
  unfold cf_88_154 at hf
  cases hf
  exact cb_88_154 hR  (fun {h} hR => k h hR)
def cf_88_151 (N : Nat) (X : Nat → Option zz_C) (y0 : Int32) (y1 : Int32) (t : cS) : kO := ko_call 1000 (cf_253 N X y0 y1 t) (fun g1 v1 => co_l v1 (fun y => cf_88_154 N X y g1))
theorem cr_88_151 {X : Nat → Option zz_C} {s : mS} {N : Nat} {d : Nat} (hd : 12 ≤ d) {Q : zz_O → zz_H → Prop} {y0 : Int32} {y1 : Int32} {h : zz_H} {t t' : cS} {o : kY} (hR : kR h t s) (hf : cf_88_151 N X y0 y1 t = some (t', o)) (k : (∀ h', kR h' t' s → kE o Q h')) : zz_J zp_P zt_tf zt_fd X d zm_88 151 [] [.int y1, .int y0] h Q := by
  unfold cf_88_151 at hf
  obtain ⟨d', rfl⟩ : ∃ d', d = d' + 1 := ⟨d - 1, by omega⟩
  refine cb_88_151 hR  (fun {h} hR => ?_)
  rcases ko_call_ok hf with ⟨g1, v1, er, hf⟩ | ⟨g1, er, hq⟩
  · obtain ⟨y, hv, hf2⟩ := co_l_ok hf
    clear hf
    have hf := hf2
    clear hf2
    subst hv
    refine cr_253 (by omega) hR er (fun h hR => ?_)
    exact cr_88_154 hd hR hf k
  · refine cr_253 (by omega) hR er (fun h hR => ?_)
    exact ko_thrown hq hR k
def cf_88_142 (N : Nat) (X : Nat → Option zz_C) (x2 : Int64) (t : cS) : kO := ko_call 2 (cf_128 N X x2 t) (fun g1 v1 => co_i v1 (fun y => cf_88_151 N X 0 y g1))
theorem cr_88_142 {X : Nat → Option zz_C} {s : mS} {N : Nat} {d : Nat} (hd : 12 ≤ d) {Q : zz_O → zz_H → Prop} {x2 : Int64} {h : zz_H} {t t' : cS} {o : kY} (hR : kR h t s) (hf : cf_88_142 N X x2 t = some (t', o)) (k : (∀ h', kR h' t' s → kE o Q h')) : zz_J zp_P zt_tf zt_fd X d zm_88 142 [(0, .ref 59), (2, .long x2)] [] h Q := by
  unfold cf_88_142 at hf
  obtain ⟨d', rfl⟩ : ∃ d', d = d' + 1 := ⟨d - 1, by omega⟩
  refine cb_88_142 hR  (fun {h} hR => ?_)
  rcases ko_call_ok hf with ⟨g1, v1, er, hf⟩ | ⟨g1, er, hq⟩
  · obtain ⟨y, hv, hf2⟩ := co_i_ok hf
    clear hf
    have hf := hf2
    clear hf2
    subst hv
    refine cr_128 (by omega) hR er (fun h hR => ?_)
    exact cr_88_151 hd hR hf k
  · refine cr_128 (by omega) hR er (fun h hR => ?_)
    exact ko_thrown hq hR k
def cf_88_139 (N : Nat) (X : Nat → Option zz_C) (y0 : Int64) (t : cS) : kO := cf_88_154 N X y0 t
theorem cr_88_139 {X : Nat → Option zz_C} {s : mS} {N : Nat} {d : Nat} (hd : 12 ≤ d) {Q : zz_O → zz_H → Prop} {y0 : Int64} {h : zz_H} {t t' : cS} {o : kY} (hR : kR h t s) (hf : cf_88_139 N X y0 t = some (t', o)) (k : (∀ h', kR h' t' s → kE o Q h')) : zz_J zp_P zt_tf zt_fd X d zm_88 139 [] [.long y0] h Q := by
  unfold cf_88_139 at hf
  exact cb_88_139 hR  (fun hR => cr_88_154 hd hR hf k)
def cf_88_135 (N : Nat) (X : Nat → Option zz_C)  (t : cS) : kO := ko_call 1000 (cf_254 N X 3 t) (fun g1 v1 => co_l v1 (fun y => cf_88_139 N X y g1))
theorem cr_88_135 {X : Nat → Option zz_C} {s : mS} {N : Nat} {d : Nat} (hd : 12 ≤ d) {Q : zz_O → zz_H → Prop}  {h : zz_H} {t t' : cS} {o : kY} (hR : kR h t s) (hf : cf_88_135 N X  t = some (t', o)) (k : (∀ h', kR h' t' s → kE o Q h')) : zz_J zp_P zt_tf zt_fd X d zm_88 135 [] [] h Q := by
  unfold cf_88_135 at hf
  obtain ⟨d', rfl⟩ : ∃ d', d = d' + 1 := ⟨d - 1, by omega⟩
  refine cb_88_135 hR  (fun {h} hR => ?_)
  rcases ko_call_ok hf with ⟨g1, v1, er, hf⟩ | ⟨g1, er, hq⟩
  · obtain ⟨y, hv, hf2⟩ := co_l_ok hf
    clear hf
    have hf := hf2
    clear hf2
    subst hv
    refine cr_254 (by omega) hR er (fun h hR => ?_)
    exact cr_88_139 hd hR hf k
  · refine cr_254 (by omega) hR er (fun h hR => ?_)
    exact ko_thrown hq hR k
def cf_88_132 (N : Nat) (X : Nat → Option zz_C) (x2 : Int64) (y0 : Int32) (t : cS) : kO := if ¬ y0 = 0 then cf_88_142 N X x2 t else cf_88_135 N X  t
theorem cr_88_132 {X : Nat → Option zz_C} {s : mS} {N : Nat} {d : Nat} (hd : 12 ≤ d) {Q : zz_O → zz_H → Prop} {x2 : Int64} {y0 : Int32} {h : zz_H} {t t' : cS} {o : kY} (hR : kR h t s) (hf : cf_88_132 N X x2 y0 t = some (t', o)) (k : (∀ h', kR h' t' s → kE o Q h')) : zz_J zp_P zt_tf zt_fd X d zm_88 132 [(0, .ref 59), (2, .long x2)] [.int y0] h Q := by
  unfold cf_88_132 at hf
  refine cb_88_132 hR  (fun c {h} hR => ?_) (fun c {h} hR => ?_)
  · rw [if_pos c] at hf
    exact cr_88_142 hd hR hf k
  · rw [if_neg c] at hf
    exact cr_88_135 hd hR hf k
def cf_88_128 (N : Nat) (X : Nat → Option zz_C) (x2 : Int64) (t : cS) : kO := ko_call 1000 (cf_255 N X x2 t) (fun g1 v1 => co_i v1 (fun y => cf_88_132 N X x2 y g1))
theorem cr_88_128 {X : Nat → Option zz_C} {s : mS} {N : Nat} {d : Nat} (hd : 12 ≤ d) {Q : zz_O → zz_H → Prop} {x2 : Int64} {h : zz_H} {t t' : cS} {o : kY} (hR : kR h t s) (hf : cf_88_128 N X x2 t = some (t', o)) (k : (∀ h', kR h' t' s → kE o Q h')) : zz_J zp_P zt_tf zt_fd X d zm_88 128 [(0, .ref 59), (2, .long x2)] [] h Q := by
  unfold cf_88_128 at hf
  obtain ⟨d', rfl⟩ : ∃ d', d = d' + 1 := ⟨d - 1, by omega⟩
  refine cb_88_128 hR  (fun {h} hR => ?_)
  rcases ko_call_ok hf with ⟨g1, v1, er, hf⟩ | ⟨g1, er, hq⟩
  · obtain ⟨y, hv, hf2⟩ := co_i_ok hf
    clear hf
    have hf := hf2
    clear hf2
    subst hv
    refine cr_255 (by omega) hR er (fun h hR => ?_)
    exact cr_88_132 hd hR hf k
  · refine cr_255 (by omega) hR er (fun h hR => ?_)
    exact ko_thrown hq hR k
def cf_88_160 (N : Nat) (X : Nat → Option zz_C) (y0 : Int64) (t : cS) : kO := some (t, .inl (some (.long y0)))
theorem cr_88_160 {X : Nat → Option zz_C} {s : mS} {N : Nat} {d : Nat} (hd : 12 ≤ d) {Q : zz_O → zz_H → Prop} {y0 : Int64} {h : zz_H} {t t' : cS} {o : kY} (hR : kR h t s) (hf : cf_88_160 N X y0 t = some (t', o)) (k : (∀ h', kR h' t' s → kE o Q h')) : zz_J zp_P zt_tf zt_fd X d zm_88 160 [] [.long y0] h Q := by
  unfold cf_88_160 at hf
  cases hf
  exact cb_88_160 hR  (fun {h} hR => k h hR)
def cf_88_155 (N : Nat) (X : Nat → Option zz_C) (x2 : Int64) (t : cS) : kO := ko_call 1 (cf_94 N X x2 t) (fun g1 v1 => co_l v1 (fun y => cf_88_160 N X y g1))
theorem cr_88_155 {X : Nat → Option zz_C} {s : mS} {N : Nat} {d : Nat} (hd : 12 ≤ d) {Q : zz_O → zz_H → Prop} {x2 : Int64} {h : zz_H} {t t' : cS} {o : kY} (hR : kR h t s) (hf : cf_88_155 N X x2 t = some (t', o)) (k : (∀ h', kR h' t' s → kE o Q h')) : zz_J zp_P zt_tf zt_fd X d zm_88 155 [(0, .ref 59), (2, .long x2)] [] h Q := by
  unfold cf_88_155 at hf
  obtain ⟨d', rfl⟩ : ∃ d', d = d' + 1 := ⟨d - 1, by omega⟩
  refine cb_88_155 hR  (fun {h} hR => ?_)
  rcases ko_call_ok hf with ⟨g1, v1, er, hf⟩ | ⟨g1, er, hq⟩
  · obtain ⟨y, hv, hf2⟩ := co_l_ok hf
    clear hf
    have hf := hf2
    clear hf2
    subst hv
    refine cr_94 (by omega) hR er (fun h hR => ?_)
    exact cr_88_160 hd hR hf k
  · refine cr_94 (by omega) hR er (fun h hR => ?_)
    exact ko_thrown hq hR k
def cf_88_169 (N : Nat) (X : Nat → Option zz_C) (y0 : Int64) (t : cS) : kO := some (t, .inl (some (.long y0)))
theorem cr_88_169 {X : Nat → Option zz_C} {s : mS} {N : Nat} {d : Nat} (hd : 12 ≤ d) {Q : zz_O → zz_H → Prop} {y0 : Int64} {h : zz_H} {t t' : cS} {o : kY} (hR : kR h t s) (hf : cf_88_169 N X y0 t = some (t', o)) (k : (∀ h', kR h' t' s → kE o Q h')) : zz_J zp_P zt_tf zt_fd X d zm_88 169 [] [.long y0] h Q := by
  unfold cf_88_169 at hf
  cases hf
  exact cb_88_169 hR  (fun {h} hR => k h hR)
def cf_88_166 (N : Nat) (X : Nat → Option zz_C) (y0 : Int32) (y1 : Int32) (t : cS) : kO := ko_call 1000 (cf_253 N X y0 y1 t) (fun g1 v1 => co_l v1 (fun y => cf_88_169 N X y g1))
theorem cr_88_166 {X : Nat → Option zz_C} {s : mS} {N : Nat} {d : Nat} (hd : 12 ≤ d) {Q : zz_O → zz_H → Prop} {y0 : Int32} {y1 : Int32} {h : zz_H} {t t' : cS} {o : kY} (hR : kR h t s) (hf : cf_88_166 N X y0 y1 t = some (t', o)) (k : (∀ h', kR h' t' s → kE o Q h')) : zz_J zp_P zt_tf zt_fd X d zm_88 166 [] [.int y1, .int y0] h Q := by
  unfold cf_88_166 at hf
  obtain ⟨d', rfl⟩ : ∃ d', d = d' + 1 := ⟨d - 1, by omega⟩
  refine cb_88_166 hR  (fun {h} hR => ?_)
  rcases ko_call_ok hf with ⟨g1, v1, er, hf⟩ | ⟨g1, er, hq⟩
  · obtain ⟨y, hv, hf2⟩ := co_l_ok hf
    clear hf
    have hf := hf2
    clear hf2
    subst hv
    refine cr_253 (by omega) hR er (fun h hR => ?_)
    exact cr_88_169 hd hR hf k
  · refine cr_253 (by omega) hR er (fun h hR => ?_)
    exact ko_thrown hq hR k
def cf_88_161 (N : Nat) (X : Nat → Option zz_C) (x2 : Int64) (t : cS) : kO := ko_call 1000 (cf_255 N X x2 t) (fun g1 v1 => co_i v1 (fun y => cf_88_166 N X 0 y g1))
theorem cr_88_161 {X : Nat → Option zz_C} {s : mS} {N : Nat} {d : Nat} (hd : 12 ≤ d) {Q : zz_O → zz_H → Prop} {x2 : Int64} {h : zz_H} {t t' : cS} {o : kY} (hR : kR h t s) (hf : cf_88_161 N X x2 t = some (t', o)) (k : (∀ h', kR h' t' s → kE o Q h')) : zz_J zp_P zt_tf zt_fd X d zm_88 161 [(2, .long x2)] [] h Q := by
  unfold cf_88_161 at hf
  obtain ⟨d', rfl⟩ : ∃ d', d = d' + 1 := ⟨d - 1, by omega⟩
  refine cb_88_161 hR  (fun {h} hR => ?_)
  rcases ko_call_ok hf with ⟨g1, v1, er, hf⟩ | ⟨g1, er, hq⟩
  · obtain ⟨y, hv, hf2⟩ := co_i_ok hf
    clear hf
    have hf := hf2
    clear hf2
    subst hv
    refine cr_255 (by omega) hR er (fun h hR => ?_)
    exact cr_88_166 hd hR hf k
  · refine cr_255 (by omega) hR er (fun h hR => ?_)
    exact ko_thrown hq hR k
def cf_88_176 (N : Nat) (X : Nat → Option zz_C) (y0 : Int64) (t : cS) : kO := some (t, .inl (some (.long y0)))
theorem cr_88_176 {X : Nat → Option zz_C} {s : mS} {N : Nat} {d : Nat} (hd : 12 ≤ d) {Q : zz_O → zz_H → Prop} {y0 : Int64} {h : zz_H} {t t' : cS} {o : kY} (hR : kR h t s) (hf : cf_88_176 N X y0 t = some (t', o)) (k : (∀ h', kR h' t' s → kE o Q h')) : zz_J zp_P zt_tf zt_fd X d zm_88 176 [] [.long y0] h Q := by
  unfold cf_88_176 at hf
  cases hf
  exact cb_88_176 hR  (fun {h} hR => k h hR)
def cf_88_170 (N : Nat) (X : Nat → Option zz_C) (x1 : Nat) (x2 : Int64) (t : cS) : kO := ko_call 1 (cf_95 N X x1 x2 t) (fun g1 v1 => co_l v1 (fun y => cf_88_176 N X y g1))
theorem cr_88_170 {X : Nat → Option zz_C} {s : mS} {N : Nat} {d : Nat} (hd : 12 ≤ d) {Q : zz_O → zz_H → Prop} {x1 : Nat} {x2 : Int64} {h : zz_H} {t t' : cS} {o : kY} (hR : kR h t s) (hf : cf_88_170 N X x1 x2 t = some (t', o)) (k : (∀ h', kR h' t' s → kE o Q h')) : zz_J zp_P zt_tf zt_fd X d zm_88 170 [(0, .ref 59), (1, .ref x1), (2, .long x2)] [] h Q := by
  unfold cf_88_170 at hf
  obtain ⟨d', rfl⟩ : ∃ d', d = d' + 1 := ⟨d - 1, by omega⟩
  refine cb_88_170 hR  (fun {h} hR => ?_)
  rcases ko_call_ok hf with ⟨g1, v1, er, hf⟩ | ⟨g1, er, hq⟩
  · obtain ⟨y, hv, hf2⟩ := co_l_ok hf
    clear hf
    have hf := hf2
    clear hf2
    subst hv
    refine cr_95 (by omega) hR er (fun h hR => ?_)
    exact cr_88_176 hd hR hf k
  · refine cr_95 (by omega) hR er (fun h hR => ?_)
    exact ko_thrown hq hR k
def cf_88_183 (N : Nat) (X : Nat → Option zz_C) (y0 : Int64) (t : cS) : kO := some (t, .inl (some (.long y0)))
theorem cr_88_183 {X : Nat → Option zz_C} {s : mS} {N : Nat} {d : Nat} (hd : 12 ≤ d) {Q : zz_O → zz_H → Prop} {y0 : Int64} {h : zz_H} {t t' : cS} {o : kY} (hR : kR h t s) (hf : cf_88_183 N X y0 t = some (t', o)) (k : (∀ h', kR h' t' s → kE o Q h')) : zz_J zp_P zt_tf zt_fd X d zm_88 183 [] [.long y0] h Q := by
  unfold cf_88_183 at hf
  cases hf
  exact cb_88_183 hR  (fun {h} hR => k h hR)
def cf_88_177 (N : Nat) (X : Nat → Option zz_C) (x1 : Nat) (x2 : Int64) (t : cS) : kO := ko_call 1 (cf_97 N X x1 x2 t) (fun g1 v1 => co_l v1 (fun y => cf_88_183 N X y g1))
theorem cr_88_177 {X : Nat → Option zz_C} {s : mS} {N : Nat} {d : Nat} (hd : 12 ≤ d) {Q : zz_O → zz_H → Prop} {x1 : Nat} {x2 : Int64} {h : zz_H} {t t' : cS} {o : kY} (hR : kR h t s) (hf : cf_88_177 N X x1 x2 t = some (t', o)) (k : (∀ h', kR h' t' s → kE o Q h')) : zz_J zp_P zt_tf zt_fd X d zm_88 177 [(0, .ref 59), (1, .ref x1), (2, .long x2)] [] h Q := by
  unfold cf_88_177 at hf
  obtain ⟨d', rfl⟩ : ∃ d', d = d' + 1 := ⟨d - 1, by omega⟩
  refine cb_88_177 hR  (fun {h} hR => ?_)
  rcases ko_call_ok hf with ⟨g1, v1, er, hf⟩ | ⟨g1, er, hq⟩
  · obtain ⟨y, hv, hf2⟩ := co_l_ok hf
    clear hf
    have hf := hf2
    clear hf2
    subst hv
    refine cr_97 (by omega) hR er (fun h hR => ?_)
    exact cr_88_183 hd hR hf k
  · refine cr_97 (by omega) hR er (fun h hR => ?_)
    exact ko_thrown hq hR k
def cf_88_189 (N : Nat) (X : Nat → Option zz_C) (y0 : Int64) (t : cS) : kO := some (t, .inl (some (.long y0)))
theorem cr_88_189 {X : Nat → Option zz_C} {s : mS} {N : Nat} {d : Nat} (hd : 12 ≤ d) {Q : zz_O → zz_H → Prop} {y0 : Int64} {h : zz_H} {t t' : cS} {o : kY} (hR : kR h t s) (hf : cf_88_189 N X y0 t = some (t', o)) (k : (∀ h', kR h' t' s → kE o Q h')) : zz_J zp_P zt_tf zt_fd X d zm_88 189 [] [.long y0] h Q := by
  unfold cf_88_189 at hf
  cases hf
  exact cb_88_189 hR  (fun {h} hR => k h hR)
def cf_88_184 (N : Nat) (X : Nat → Option zz_C) (x2 : Int64) (t : cS) : kO := ko_call 1 (cf_99 N X x2 t) (fun g1 v1 => co_l v1 (fun y => cf_88_189 N X y g1))
theorem cr_88_184 {X : Nat → Option zz_C} {s : mS} {N : Nat} {d : Nat} (hd : 12 ≤ d) {Q : zz_O → zz_H → Prop} {x2 : Int64} {h : zz_H} {t t' : cS} {o : kY} (hR : kR h t s) (hf : cf_88_184 N X x2 t = some (t', o)) (k : (∀ h', kR h' t' s → kE o Q h')) : zz_J zp_P zt_tf zt_fd X d zm_88 184 [(0, .ref 59), (2, .long x2)] [] h Q := by
  unfold cf_88_184 at hf
  obtain ⟨d', rfl⟩ : ∃ d', d = d' + 1 := ⟨d - 1, by omega⟩
  refine cb_88_184 hR  (fun {h} hR => ?_)
  rcases ko_call_ok hf with ⟨g1, v1, er, hf⟩ | ⟨g1, er, hq⟩
  · obtain ⟨y, hv, hf2⟩ := co_l_ok hf
    clear hf
    have hf := hf2
    clear hf2
    subst hv
    refine cr_99 (by omega) hR er (fun h hR => ?_)
    exact cr_88_189 hd hR hf k
  · refine cr_99 (by omega) hR er (fun h hR => ?_)
    exact ko_thrown hq hR k
def cf_88_195 (N : Nat) (X : Nat → Option zz_C) (y0 : Int64) (t : cS) : kO := some (t, .inl (some (.long y0)))
theorem cr_88_195 {X : Nat → Option zz_C} {s : mS} {N : Nat} {d : Nat} (hd : 12 ≤ d) {Q : zz_O → zz_H → Prop} {y0 : Int64} {h : zz_H} {t t' : cS} {o : kY} (hR : kR h t s) (hf : cf_88_195 N X y0 t = some (t', o)) (k : (∀ h', kR h' t' s → kE o Q h')) : zz_J zp_P zt_tf zt_fd X d zm_88 195 [] [.long y0] h Q := by
  unfold cf_88_195 at hf
  cases hf
  exact cb_88_195 hR  (fun {h} hR => k h hR)
def cf_88_190 (N : Nat) (X : Nat → Option zz_C) (x2 : Int64) (t : cS) : kO := ko_call 1 (cf_102 N X x2 t) (fun g1 v1 => co_l v1 (fun y => cf_88_195 N X y g1))
theorem cr_88_190 {X : Nat → Option zz_C} {s : mS} {N : Nat} {d : Nat} (hd : 12 ≤ d) {Q : zz_O → zz_H → Prop} {x2 : Int64} {h : zz_H} {t t' : cS} {o : kY} (hR : kR h t s) (hf : cf_88_190 N X x2 t = some (t', o)) (k : (∀ h', kR h' t' s → kE o Q h')) : zz_J zp_P zt_tf zt_fd X d zm_88 190 [(0, .ref 59), (2, .long x2)] [] h Q := by
  unfold cf_88_190 at hf
  obtain ⟨d', rfl⟩ : ∃ d', d = d' + 1 := ⟨d - 1, by omega⟩
  refine cb_88_190 hR  (fun {h} hR => ?_)
  rcases ko_call_ok hf with ⟨g1, v1, er, hf⟩ | ⟨g1, er, hq⟩
  · obtain ⟨y, hv, hf2⟩ := co_l_ok hf
    clear hf
    have hf := hf2
    clear hf2
    subst hv
    refine cr_102 (by omega) hR er (fun h hR => ?_)
    exact cr_88_195 hd hR hf k
  · refine cr_102 (by omega) hR er (fun h hR => ?_)
    exact ko_thrown hq hR k
def cf_88_201 (N : Nat) (X : Nat → Option zz_C) (y0 : Int64) (t : cS) : kO := some (t, .inl (some (.long y0)))
theorem cr_88_201 {X : Nat → Option zz_C} {s : mS} {N : Nat} {d : Nat} (hd : 12 ≤ d) {Q : zz_O → zz_H → Prop} {y0 : Int64} {h : zz_H} {t t' : cS} {o : kY} (hR : kR h t s) (hf : cf_88_201 N X y0 t = some (t', o)) (k : (∀ h', kR h' t' s → kE o Q h')) : zz_J zp_P zt_tf zt_fd X d zm_88 201 [] [.long y0] h Q := by
  unfold cf_88_201 at hf
  cases hf
  exact cb_88_201 hR  (fun {h} hR => k h hR)
def cf_88_196 (N : Nat) (X : Nat → Option zz_C) (x2 : Int64) (t : cS) : kO := ko_call 1 (cf_103 N X x2 t) (fun g1 v1 => co_l v1 (fun y => cf_88_201 N X y g1))
theorem cr_88_196 {X : Nat → Option zz_C} {s : mS} {N : Nat} {d : Nat} (hd : 12 ≤ d) {Q : zz_O → zz_H → Prop} {x2 : Int64} {h : zz_H} {t t' : cS} {o : kY} (hR : kR h t s) (hf : cf_88_196 N X x2 t = some (t', o)) (k : (∀ h', kR h' t' s → kE o Q h')) : zz_J zp_P zt_tf zt_fd X d zm_88 196 [(0, .ref 59), (2, .long x2)] [] h Q := by
  unfold cf_88_196 at hf
  obtain ⟨d', rfl⟩ : ∃ d', d = d' + 1 := ⟨d - 1, by omega⟩
  refine cb_88_196 hR  (fun {h} hR => ?_)
  rcases ko_call_ok hf with ⟨g1, v1, er, hf⟩ | ⟨g1, er, hq⟩
  · obtain ⟨y, hv, hf2⟩ := co_l_ok hf
    clear hf
    have hf := hf2
    clear hf2
    subst hv
    refine cr_103 (by omega) hR er (fun h hR => ?_)
    exact cr_88_201 hd hR hf k
  · refine cr_103 (by omega) hR er (fun h hR => ?_)
    exact ko_thrown hq hR k
def cf_88_207 (N : Nat) (X : Nat → Option zz_C) (y0 : Int64) (t : cS) : kO := some (t, .inl (some (.long y0)))
theorem cr_88_207 {X : Nat → Option zz_C} {s : mS} {N : Nat} {d : Nat} (hd : 12 ≤ d) {Q : zz_O → zz_H → Prop} {y0 : Int64} {h : zz_H} {t t' : cS} {o : kY} (hR : kR h t s) (hf : cf_88_207 N X y0 t = some (t', o)) (k : (∀ h', kR h' t' s → kE o Q h')) : zz_J zp_P zt_tf zt_fd X d zm_88 207 [] [.long y0] h Q := by
  unfold cf_88_207 at hf
  cases hf
  exact cb_88_207 hR  (fun {h} hR => k h hR)
def cf_88_202 (N : Nat) (X : Nat → Option zz_C) (x2 : Int64) (t : cS) : kO := ko_call 1 (cf_104 N X x2 t) (fun g1 v1 => co_l v1 (fun y => cf_88_207 N X y g1))
theorem cr_88_202 {X : Nat → Option zz_C} {s : mS} {N : Nat} {d : Nat} (hd : 12 ≤ d) {Q : zz_O → zz_H → Prop} {x2 : Int64} {h : zz_H} {t t' : cS} {o : kY} (hR : kR h t s) (hf : cf_88_202 N X x2 t = some (t', o)) (k : (∀ h', kR h' t' s → kE o Q h')) : zz_J zp_P zt_tf zt_fd X d zm_88 202 [(0, .ref 59), (2, .long x2)] [] h Q := by
  unfold cf_88_202 at hf
  obtain ⟨d', rfl⟩ : ∃ d', d = d' + 1 := ⟨d - 1, by omega⟩
  refine cb_88_202 hR  (fun {h} hR => ?_)
  rcases ko_call_ok hf with ⟨g1, v1, er, hf⟩ | ⟨g1, er, hq⟩
  · obtain ⟨y, hv, hf2⟩ := co_l_ok hf
    clear hf
    have hf := hf2
    clear hf2
    subst hv
    refine cr_104 (by omega) hR er (fun h hR => ?_)
    exact cr_88_207 hd hR hf k
  · refine cr_104 (by omega) hR er (fun h hR => ?_)
    exact ko_thrown hq hR k
def cf_88_213 (N : Nat) (X : Nat → Option zz_C) (y0 : Int64) (t : cS) : kO := some (t, .inl (some (.long y0)))
theorem cr_88_213 {X : Nat → Option zz_C} {s : mS} {N : Nat} {d : Nat} (hd : 12 ≤ d) {Q : zz_O → zz_H → Prop} {y0 : Int64} {h : zz_H} {t t' : cS} {o : kY} (hR : kR h t s) (hf : cf_88_213 N X y0 t = some (t', o)) (k : (∀ h', kR h' t' s → kE o Q h')) : zz_J zp_P zt_tf zt_fd X d zm_88 213 [] [.long y0] h Q := by
  unfold cf_88_213 at hf
  cases hf
  exact cb_88_213 hR  (fun {h} hR => k h hR)
def cf_88_208 (N : Nat) (X : Nat → Option zz_C) (x2 : Int64) (t : cS) : kO := ko_call 1 (cf_106 N X x2 t) (fun g1 v1 => co_l v1 (fun y => cf_88_213 N X y g1))
theorem cr_88_208 {X : Nat → Option zz_C} {s : mS} {N : Nat} {d : Nat} (hd : 12 ≤ d) {Q : zz_O → zz_H → Prop} {x2 : Int64} {h : zz_H} {t t' : cS} {o : kY} (hR : kR h t s) (hf : cf_88_208 N X x2 t = some (t', o)) (k : (∀ h', kR h' t' s → kE o Q h')) : zz_J zp_P zt_tf zt_fd X d zm_88 208 [(0, .ref 59), (2, .long x2)] [] h Q := by
  unfold cf_88_208 at hf
  obtain ⟨d', rfl⟩ : ∃ d', d = d' + 1 := ⟨d - 1, by omega⟩
  refine cb_88_208 hR  (fun {h} hR => ?_)
  rcases ko_call_ok hf with ⟨g1, v1, er, hf⟩ | ⟨g1, er, hq⟩
  · obtain ⟨y, hv, hf2⟩ := co_l_ok hf
    clear hf
    have hf := hf2
    clear hf2
    subst hv
    refine cr_106 (by omega) hR er (fun h hR => ?_)
    exact cr_88_213 hd hR hf k
  · refine cr_106 (by omega) hR er (fun h hR => ?_)
    exact ko_thrown hq hR k
def cf_88_218 (N : Nat) (X : Nat → Option zz_C) (y0 : Int64) (t : cS) : kO := some (t, .inl (some (.long y0)))
theorem cr_88_218 {X : Nat → Option zz_C} {s : mS} {N : Nat} {d : Nat} (hd : 12 ≤ d) {Q : zz_O → zz_H → Prop} {y0 : Int64} {h : zz_H} {t t' : cS} {o : kY} (hR : kR h t s) (hf : cf_88_218 N X y0 t = some (t', o)) (k : (∀ h', kR h' t' s → kE o Q h')) : zz_J zp_P zt_tf zt_fd X d zm_88 218 [] [.long y0] h Q := by
  unfold cf_88_218 at hf
  cases hf
  exact cb_88_218 hR  (fun {h} hR => k h hR)
def cf_88_214 (N : Nat) (X : Nat → Option zz_C)  (t : cS) : kO := ko_call 1000 (cf_254 N X 3 t) (fun g1 v1 => co_l v1 (fun y => cf_88_218 N X y g1))
theorem cr_88_214 {X : Nat → Option zz_C} {s : mS} {N : Nat} {d : Nat} (hd : 12 ≤ d) {Q : zz_O → zz_H → Prop}  {h : zz_H} {t t' : cS} {o : kY} (hR : kR h t s) (hf : cf_88_214 N X  t = some (t', o)) (k : (∀ h', kR h' t' s → kE o Q h')) : zz_J zp_P zt_tf zt_fd X d zm_88 214 [] [] h Q := by
  unfold cf_88_214 at hf
  obtain ⟨d', rfl⟩ : ∃ d', d = d' + 1 := ⟨d - 1, by omega⟩
  refine cb_88_214 hR  (fun {h} hR => ?_)
  rcases ko_call_ok hf with ⟨g1, v1, er, hf⟩ | ⟨g1, er, hq⟩
  · obtain ⟨y, hv, hf2⟩ := co_l_ok hf
    clear hf
    have hf := hf2
    clear hf2
    subst hv
    refine cr_254 (by omega) hR er (fun h hR => ?_)
    exact cr_88_218 hd hR hf k
  · refine cr_254 (by omega) hR er (fun h hR => ?_)
    exact ko_thrown hq hR k
def cf_88_7 (N : Nat) (X : Nat → Option zz_C) (x1 : Nat) (x2 : Int64) (y1 : Int32) (t : cS) : kO := co_b (hai X [] (zz_out + 43) y1) (fun w0 => if (Int32.toInt w0 < 8 ∨ 24 < Int32.toInt w0) then cf_88_214 N X  t else if w0 = 8 then cf_88_92 N X x2 t else if w0 = 9 then cf_88_102 N X x2 t else if w0 = 10 then cf_88_112 N X x2 t else if w0 = 11 then cf_88_122 N X x2 t else if w0 = 12 then cf_88_128 N X x2 t else if w0 = 13 then cf_88_155 N X x2 t else if w0 = 14 then cf_88_161 N X x2 t else if w0 = 15 then cf_88_170 N X x1 x2 t else if w0 = 16 then cf_88_170 N X x1 x2 t else if w0 = 17 then cf_88_170 N X x1 x2 t else if w0 = 18 then cf_88_177 N X x1 x2 t else if w0 = 19 then cf_88_177 N X x1 x2 t else if w0 = 20 then cf_88_184 N X x2 t else if w0 = 21 then cf_88_190 N X x2 t else if w0 = 22 then cf_88_196 N X x2 t else if w0 = 23 then cf_88_202 N X x2 t else if w0 = 24 then cf_88_208 N X x2 t else none)
theorem cr_88_7 {X : Nat → Option zz_C} {s : mS} {N : Nat} {d : Nat} (hd : 12 ≤ d) {Q : zz_O → zz_H → Prop} {x1 : Nat} {x2 : Int64} {y1 : Int32} {h : zz_H} {t t' : cS} {o : kY} (hR : kR h t s) (hf : cf_88_7 N X x1 x2 y1 t = some (t', o)) (k : (∀ h', kR h' t' s → kE o Q h')) : zz_J zp_P zt_tf zt_fd X d zm_88 7 [(0, .ref 59), (1, .ref x1), (2, .long x2)] [.int y1, .ref (zz_out + 43)] h Q := by
  unfold cf_88_7 at hf
  obtain ⟨w0, e0, hf⟩ := co_b_ok hf
  refine cb_88_7 hR e0 (fun c {h} hR => ?_) (fun c {h} hR => ?_) (fun c {h} hR => ?_) (fun c {h} hR => ?_) (fun c {h} hR => ?_) (fun c {h} hR => ?_) (fun c {h} hR => ?_) (fun c {h} hR => ?_) (fun c {h} hR => ?_) (fun c {h} hR => ?_) (fun c {h} hR => ?_) (fun c {h} hR => ?_) (fun c {h} hR => ?_) (fun c {h} hR => ?_) (fun c {h} hR => ?_) (fun c {h} hR => ?_) (fun c {h} hR => ?_) (fun c {h} hR => ?_)
  · rw [if_neg (by rw [c]; decide)] at hf
    rw [if_pos c] at hf
    exact cr_88_92 hd hR hf k
  · rw [if_neg (by rw [c]; decide)] at hf
    rw [if_neg (by rw [c]; decide)] at hf
    rw [if_pos c] at hf
    exact cr_88_102 hd hR hf k
  · rw [if_neg (by rw [c]; decide)] at hf
    rw [if_neg (by rw [c]; decide)] at hf
    rw [if_neg (by rw [c]; decide)] at hf
    rw [if_pos c] at hf
    exact cr_88_112 hd hR hf k
  · rw [if_neg (by rw [c]; decide)] at hf
    rw [if_neg (by rw [c]; decide)] at hf
    rw [if_neg (by rw [c]; decide)] at hf
    rw [if_neg (by rw [c]; decide)] at hf
    rw [if_pos c] at hf
    exact cr_88_122 hd hR hf k
  · rw [if_neg (by rw [c]; decide)] at hf
    rw [if_neg (by rw [c]; decide)] at hf
    rw [if_neg (by rw [c]; decide)] at hf
    rw [if_neg (by rw [c]; decide)] at hf
    rw [if_neg (by rw [c]; decide)] at hf
    rw [if_pos c] at hf
    exact cr_88_128 hd hR hf k
  · rw [if_neg (by rw [c]; decide)] at hf
    rw [if_neg (by rw [c]; decide)] at hf
    rw [if_neg (by rw [c]; decide)] at hf
    rw [if_neg (by rw [c]; decide)] at hf
    rw [if_neg (by rw [c]; decide)] at hf
    rw [if_neg (by rw [c]; decide)] at hf
    rw [if_pos c] at hf
    exact cr_88_155 hd hR hf k
  · rw [if_neg (by rw [c]; decide)] at hf
    rw [if_neg (by rw [c]; decide)] at hf
    rw [if_neg (by rw [c]; decide)] at hf
    rw [if_neg (by rw [c]; decide)] at hf
    rw [if_neg (by rw [c]; decide)] at hf
    rw [if_neg (by rw [c]; decide)] at hf
    rw [if_neg (by rw [c]; decide)] at hf
    rw [if_pos c] at hf
    exact cr_88_161 hd hR hf k
  · rw [if_neg (by rw [c]; decide)] at hf
    rw [if_neg (by rw [c]; decide)] at hf
    rw [if_neg (by rw [c]; decide)] at hf
    rw [if_neg (by rw [c]; decide)] at hf
    rw [if_neg (by rw [c]; decide)] at hf
    rw [if_neg (by rw [c]; decide)] at hf
    rw [if_neg (by rw [c]; decide)] at hf
    rw [if_neg (by rw [c]; decide)] at hf
    rw [if_pos c] at hf
    exact cr_88_170 hd hR hf k
  · rw [if_neg (by rw [c]; decide)] at hf
    rw [if_neg (by rw [c]; decide)] at hf
    rw [if_neg (by rw [c]; decide)] at hf
    rw [if_neg (by rw [c]; decide)] at hf
    rw [if_neg (by rw [c]; decide)] at hf
    rw [if_neg (by rw [c]; decide)] at hf
    rw [if_neg (by rw [c]; decide)] at hf
    rw [if_neg (by rw [c]; decide)] at hf
    rw [if_neg (by rw [c]; decide)] at hf
    rw [if_pos c] at hf
    exact cr_88_170 hd hR hf k
  · rw [if_neg (by rw [c]; decide)] at hf
    rw [if_neg (by rw [c]; decide)] at hf
    rw [if_neg (by rw [c]; decide)] at hf
    rw [if_neg (by rw [c]; decide)] at hf
    rw [if_neg (by rw [c]; decide)] at hf
    rw [if_neg (by rw [c]; decide)] at hf
    rw [if_neg (by rw [c]; decide)] at hf
    rw [if_neg (by rw [c]; decide)] at hf
    rw [if_neg (by rw [c]; decide)] at hf
    rw [if_neg (by rw [c]; decide)] at hf
    rw [if_pos c] at hf
    exact cr_88_170 hd hR hf k
  · rw [if_neg (by rw [c]; decide)] at hf
    rw [if_neg (by rw [c]; decide)] at hf
    rw [if_neg (by rw [c]; decide)] at hf
    rw [if_neg (by rw [c]; decide)] at hf
    rw [if_neg (by rw [c]; decide)] at hf
    rw [if_neg (by rw [c]; decide)] at hf
    rw [if_neg (by rw [c]; decide)] at hf
    rw [if_neg (by rw [c]; decide)] at hf
    rw [if_neg (by rw [c]; decide)] at hf
    rw [if_neg (by rw [c]; decide)] at hf
    rw [if_neg (by rw [c]; decide)] at hf
    rw [if_pos c] at hf
    exact cr_88_177 hd hR hf k
  · rw [if_neg (by rw [c]; decide)] at hf
    rw [if_neg (by rw [c]; decide)] at hf
    rw [if_neg (by rw [c]; decide)] at hf
    rw [if_neg (by rw [c]; decide)] at hf
    rw [if_neg (by rw [c]; decide)] at hf
    rw [if_neg (by rw [c]; decide)] at hf
    rw [if_neg (by rw [c]; decide)] at hf
    rw [if_neg (by rw [c]; decide)] at hf
    rw [if_neg (by rw [c]; decide)] at hf
    rw [if_neg (by rw [c]; decide)] at hf
    rw [if_neg (by rw [c]; decide)] at hf
    rw [if_neg (by rw [c]; decide)] at hf
    rw [if_pos c] at hf
    exact cr_88_177 hd hR hf k
  · rw [if_neg (by rw [c]; decide)] at hf
    rw [if_neg (by rw [c]; decide)] at hf
    rw [if_neg (by rw [c]; decide)] at hf
    rw [if_neg (by rw [c]; decide)] at hf
    rw [if_neg (by rw [c]; decide)] at hf
    rw [if_neg (by rw [c]; decide)] at hf
    rw [if_neg (by rw [c]; decide)] at hf
    rw [if_neg (by rw [c]; decide)] at hf
    rw [if_neg (by rw [c]; decide)] at hf
    rw [if_neg (by rw [c]; decide)] at hf
    rw [if_neg (by rw [c]; decide)] at hf
    rw [if_neg (by rw [c]; decide)] at hf
    rw [if_neg (by rw [c]; decide)] at hf
    rw [if_pos c] at hf
    exact cr_88_184 hd hR hf k
  · rw [if_neg (by rw [c]; decide)] at hf
    rw [if_neg (by rw [c]; decide)] at hf
    rw [if_neg (by rw [c]; decide)] at hf
    rw [if_neg (by rw [c]; decide)] at hf
    rw [if_neg (by rw [c]; decide)] at hf
    rw [if_neg (by rw [c]; decide)] at hf
    rw [if_neg (by rw [c]; decide)] at hf
    rw [if_neg (by rw [c]; decide)] at hf
    rw [if_neg (by rw [c]; decide)] at hf
    rw [if_neg (by rw [c]; decide)] at hf
    rw [if_neg (by rw [c]; decide)] at hf
    rw [if_neg (by rw [c]; decide)] at hf
    rw [if_neg (by rw [c]; decide)] at hf
    rw [if_neg (by rw [c]; decide)] at hf
    rw [if_pos c] at hf
    exact cr_88_190 hd hR hf k
  · rw [if_neg (by rw [c]; decide)] at hf
    rw [if_neg (by rw [c]; decide)] at hf
    rw [if_neg (by rw [c]; decide)] at hf
    rw [if_neg (by rw [c]; decide)] at hf
    rw [if_neg (by rw [c]; decide)] at hf
    rw [if_neg (by rw [c]; decide)] at hf
    rw [if_neg (by rw [c]; decide)] at hf
    rw [if_neg (by rw [c]; decide)] at hf
    rw [if_neg (by rw [c]; decide)] at hf
    rw [if_neg (by rw [c]; decide)] at hf
    rw [if_neg (by rw [c]; decide)] at hf
    rw [if_neg (by rw [c]; decide)] at hf
    rw [if_neg (by rw [c]; decide)] at hf
    rw [if_neg (by rw [c]; decide)] at hf
    rw [if_neg (by rw [c]; decide)] at hf
    rw [if_pos c] at hf
    exact cr_88_196 hd hR hf k
  · rw [if_neg (by rw [c]; decide)] at hf
    rw [if_neg (by rw [c]; decide)] at hf
    rw [if_neg (by rw [c]; decide)] at hf
    rw [if_neg (by rw [c]; decide)] at hf
    rw [if_neg (by rw [c]; decide)] at hf
    rw [if_neg (by rw [c]; decide)] at hf
    rw [if_neg (by rw [c]; decide)] at hf
    rw [if_neg (by rw [c]; decide)] at hf
    rw [if_neg (by rw [c]; decide)] at hf
    rw [if_neg (by rw [c]; decide)] at hf
    rw [if_neg (by rw [c]; decide)] at hf
    rw [if_neg (by rw [c]; decide)] at hf
    rw [if_neg (by rw [c]; decide)] at hf
    rw [if_neg (by rw [c]; decide)] at hf
    rw [if_neg (by rw [c]; decide)] at hf
    rw [if_neg (by rw [c]; decide)] at hf
    rw [if_pos c] at hf
    exact cr_88_202 hd hR hf k
  · rw [if_neg (by rw [c]; decide)] at hf
    rw [if_neg (by rw [c]; decide)] at hf
    rw [if_neg (by rw [c]; decide)] at hf
    rw [if_neg (by rw [c]; decide)] at hf
    rw [if_neg (by rw [c]; decide)] at hf
    rw [if_neg (by rw [c]; decide)] at hf
    rw [if_neg (by rw [c]; decide)] at hf
    rw [if_neg (by rw [c]; decide)] at hf
    rw [if_neg (by rw [c]; decide)] at hf
    rw [if_neg (by rw [c]; decide)] at hf
    rw [if_neg (by rw [c]; decide)] at hf
    rw [if_neg (by rw [c]; decide)] at hf
    rw [if_neg (by rw [c]; decide)] at hf
    rw [if_neg (by rw [c]; decide)] at hf
    rw [if_neg (by rw [c]; decide)] at hf
    rw [if_neg (by rw [c]; decide)] at hf
    rw [if_neg (by rw [c]; decide)] at hf
    rw [if_pos c] at hf
    exact cr_88_208 hd hR hf k
  · rw [if_pos c] at hf
    exact cr_88_214 hd hR hf k
def cf_88_0 (N : Nat) (X : Nat → Option zz_C) (x1 : Nat) (x2 : Int64) (t : cS) : kO := if ¬ x1 < zz_out then (if hcl X [] x1 20 = true then (ko_call 20 (cf_356 N X x1 t) (fun g1 v1 => co_i v1 (fun y => cf_88_7 N X x1 x2 y g1))) else none) else none
theorem cr_88_0 {X : Nat → Option zz_C} {s : mS} {N : Nat} {d : Nat} (hd : 12 ≤ d) {Q : zz_O → zz_H → Prop} {x1 : Nat} {x2 : Int64} {h : zz_H} {t t' : cS} {o : kY} (hR : kR h t s) (hf : cf_88_0 N X x1 x2 t = some (t', o)) (k : (∀ h', kR h' t' s → kE o Q h')) : zz_J zp_P zt_tf zt_fd X d zm_88 0 [(0, .ref 59), (1, .ref x1), (2, .long x2)] [] h Q := by
  unfold cf_88_0 at hf
  obtain ⟨e0, hf⟩ := ko_if hf
  obtain ⟨e1, hf⟩ := ko_if hf
  obtain ⟨d', rfl⟩ : ∃ d', d = d' + 1 := ⟨d - 1, by omega⟩
  refine cb_88_0 hR e0 e1 (fun {h} hR => ?_)
  rcases ko_call_ok hf with ⟨g1, v1, er, hf⟩ | ⟨g1, er, hq⟩
  · obtain ⟨y, hv, hf2⟩ := co_i_ok hf
    clear hf
    have hf := hf2
    clear hf2
    subst hv
    refine cr_356 (by omega) hR er (fun h hR => ?_)
    exact cr_88_7 hd hR hf k
  · refine cr_356 (by omega) hR er (fun h hR => ?_)
    exact ko_thrown hq hR k
/-- one -/
def cf_88 (N : Nat) (X : Nat → Option zz_C) (x1 : Nat) (x2 : Int64) (t : cS) : kO := cf_88_0 N X x1 x2 t
theorem cr_88 {X : Nat → Option zz_C} {s : mS} {N : Nat} {d : Nat} (hd : 12 ≤ d) {Q : zz_O → zz_H → Prop} {x1 : Nat} {x2 : Int64} {h : zz_H} {t t' : cS} {o : kY} (hR : kR h t s) (hf : cf_88 N X x1 x2 t = some (t', o)) (k : ∀ h', kR h' t' s → kE o Q h') : zz_J zp_P zt_tf zt_fd X d zm_88 0 [(0, .ref 59), (1, .ref x1), (2, .long x2)] [] h Q := by
  unfold cf_88 at hf
  exact zz_J.weak (cr_88_0 hd hR hf k) rfl ⟨rfl, rfl, rfl, trivial⟩
/-! yX1_join (JJ)J -/
theorem cb_108_0 {X : Nat → Option zz_C} {h : zz_H} {t : cS} {s : mS} {d : Nat} {Q : zz_O → zz_H → Prop} {x1 : Int64} {x3 : Int64} (hR : kR h t s) (k : ∀ {h : zz_H}, kR h t s → zz_J zp_P zt_tf zt_fd X d zm_255 0 [(0, .long x1)] [] h (zz_after 1000 Q (fun v h' => zz_J zp_P zt_tf zt_fd X (d + 1) zm_108 5 [(0, .ref 59), (1, .long x1), (3, .long x3)] (v.toList ++ [.int 1]) h' Q))) : zz_J zp_P zt_tf zt_fd X (d + 1) zm_108 0 [(0, .ref 59), (1, .long x1), (3, .long x3)] [] h Q := by
  refine zz_J.c 1 (.int 1) rfl rfl rfl rfl ?_
  refine zz_J.n 2 rfl rfl rfl ?_
  refine zz_J.cl (M' := zm_255) 5 rfl rfl (by decide) rfl rfl ⟨rfl, Nat.le_of_ble_eq_true rfl⟩ rfl ?_
  refine zz_J.mono (k hR) ?_
  intro o h' hE
  cases o with
  | inl v => exact zz_J.weak hE rfl ⟨rfl, rfl, rfl, trivial⟩
  | inr q => exact hE
theorem cb_108_5 {X : Nat → Option zz_C} {h : zz_H} {t : cS} {s : mS} {d : Nat} {Q : zz_O → zz_H → Prop} {x1 : Int64} {x3 : Int64} {y0 : Int32} {y1 : Int32} (hR : kR h t s) (k : ∀ {h : zz_H}, kR h t s → zz_J zp_P zt_tf zt_fd X d zm_255 0 [(0, .long x3)] [] h (zz_after 1000 Q (fun v h' => zz_J zp_P zt_tf zt_fd X (d + 1) zm_108 9 [(0, .ref 59), (1, .long x1), (3, .long x3)] (v.toList ++ [.int y1, .int y0]) h' Q))) : zz_J zp_P zt_tf zt_fd X (d + 1) zm_108 5 [(0, .ref 59), (1, .long x1), (3, .long x3)] [.int y1, .int y0] h Q := by
  refine zz_J.n 6 rfl rfl rfl ?_
  refine zz_J.cl (M' := zm_255) 9 rfl rfl (by decide) rfl rfl ⟨rfl, Nat.le_of_ble_eq_true rfl⟩ rfl ?_
  refine zz_J.mono (k hR) ?_
  intro o h' hE
  cases o with
  | inl v => exact zz_J.weak hE rfl ⟨rfl, rfl, rfl, trivial⟩
  | inr q => exact hE
theorem cb_108_9 {X : Nat → Option zz_C} {h : zz_H} {t : cS} {s : mS} {d : Nat} {Q : zz_O → zz_H → Prop} {x1 : Int64} {x3 : Int64} {y0 : Int32} {y1 : Int32} {y2 : Int32} (hR : kR h t s) (k1 : ¬ (if (y0 : Int32) < (if (y1 : Int32) < y2 then y2 else y1) then (if (y1 : Int32) < y2 then y2 else y1) else y0) = 2 → (∀ {h : zz_H}, kR h t s → zz_J zp_P zt_tf zt_fd X (d + 1) zm_108 42 [(0, .ref 59), (1, .long x1), (3, .long x3), (5, .int (if (y0 : Int32) < (if (y1 : Int32) < y2 then y2 else y1) then (if (y1 : Int32) < y2 then y2 else y1) else y0))] [] h Q)) (k2 : ¬ ¬ (if (y0 : Int32) < (if (y1 : Int32) < y2 then y2 else y1) then (if (y1 : Int32) < y2 then y2 else y1) else y0) = 2 → (∀ {h : zz_H}, kR h t s → zz_J zp_P zt_tf zt_fd X (d + 1) zm_108 23 [(0, .ref 59), (1, .long x1), (3, .long x3), (5, .int (if (y0 : Int32) < (if (y1 : Int32) < y2 then y2 else y1) then (if (y1 : Int32) < y2 then y2 else y1) else y0))] [] h Q)) : zz_J zp_P zt_tf zt_fd X (d + 1) zm_108 9 [(0, .ref 59), (1, .long x1), (3, .long x3)] [.int y2, .int y1, .int y0] h Q := by
  refine zz_J.spec 12 rfl rfl (by decide) rfl rfl rfl ?_
  refine zz_J.spec 15 rfl rfl (by decide) rfl rfl rfl ?_
  refine zz_J.n 17 rfl rfl rfl ?_
  refine zz_J.n 19 rfl rfl rfl ?_
  refine zz_J.c 20 (.int 2) rfl rfl rfl rfl ?_
  refine zz_J.b2 42 23 (A := ¬ (if (y0 : Int32) < (if (y1 : Int32) < y2 then y2 else y1) then (if (y1 : Int32) < y2 then y2 else y1) else y0) = 2) rfl (zz_cond_ne _ _) (by decide) rfl rfl (fun c => ?_) (fun c => ?_)
  · exact zz_J.weak (k1 c hR) rfl ⟨rfl, rfl, rfl, rfl, trivial⟩
  · exact zz_J.weak (k2 c hR) rfl ⟨rfl, rfl, rfl, rfl, trivial⟩
theorem cb_108_23 {X : Nat → Option zz_C} {h : zz_H} {t : cS} {s : mS} {d : Nat} {Q : zz_O → zz_H → Prop} {x1 : Int64} {x3 : Int64} {x5 : Int32} (hR : kR h t s) (k : ∀ {h : zz_H}, kR h t s → zz_J zp_P zt_tf zt_fd X d zm_255 0 [(0, .long x1)] [] h (zz_after 1000 Q (fun v h' => zz_J zp_P zt_tf zt_fd X (d + 1) zm_108 27 [(0, .ref 59), (1, .long x1), (3, .long x3), (5, .int x5)] (v.toList ++ []) h' Q))) : zz_J zp_P zt_tf zt_fd X (d + 1) zm_108 23 [(0, .ref 59), (1, .long x1), (3, .long x3), (5, .int x5)] [] h Q := by
  refine zz_J.n 24 rfl rfl rfl ?_
  refine zz_J.cl (M' := zm_255) 27 rfl rfl (by decide) rfl rfl ⟨rfl, Nat.le_of_ble_eq_true rfl⟩ rfl ?_
  refine zz_J.mono (k hR) ?_
  intro o h' hE
  cases o with
  | inl v => exact zz_J.weak hE rfl ⟨rfl, rfl, rfl, rfl, trivial⟩
  | inr q => exact hE
theorem cb_108_27 {X : Nat → Option zz_C} {h : zz_H} {t : cS} {s : mS} {d : Nat} {Q : zz_O → zz_H → Prop} {x1 : Int64} {x3 : Int64} {x5 : Int32} {y0 : Int32} (hR : kR h t s) (k1 : y0 = 0 → (∀ {h : zz_H}, kR h t s → zz_J zp_P zt_tf zt_fd X d zm_108 37 [] [] h Q)) (k2 : ¬ y0 = 0 → (∀ {h : zz_H}, kR h t s → zz_J zp_P zt_tf zt_fd X d zm_108 30 [(0, .ref 59), (1, .long x1), (3, .long x3), (5, .int x5)] [] h Q)) : zz_J zp_P zt_tf zt_fd X d zm_108 27 [(0, .ref 59), (1, .long x1), (3, .long x3), (5, .int x5)] [.int y0] h Q := by
  refine zz_J.b1 37 30 (A := y0 = 0) rfl rfl (by decide) rfl rfl (fun c => ?_) (fun c => ?_)
  · exact zz_J.weak (k1 c hR) rfl trivial
  · exact zz_J.weak (k2 c hR) rfl ⟨rfl, rfl, rfl, rfl, trivial⟩
theorem cb_108_30 {X : Nat → Option zz_C} {h : zz_H} {t : cS} {s : mS} {d : Nat} {Q : zz_O → zz_H → Prop} {x1 : Int64} {x3 : Int64} {x5 : Int32} (hR : kR h t s) (k : ∀ {h : zz_H}, kR h t s → zz_J zp_P zt_tf zt_fd X d zm_255 0 [(0, .long x3)] [] h (zz_after 1000 Q (fun v h' => zz_J zp_P zt_tf zt_fd X (d + 1) zm_108 34 [(0, .ref 59), (1, .long x1), (3, .long x3), (5, .int x5)] (v.toList ++ []) h' Q))) : zz_J zp_P zt_tf zt_fd X (d + 1) zm_108 30 [(0, .ref 59), (1, .long x1), (3, .long x3), (5, .int x5)] [] h Q := by
  refine zz_J.n 31 rfl rfl rfl ?_
  refine zz_J.cl (M' := zm_255) 34 rfl rfl (by decide) rfl rfl ⟨rfl, Nat.le_of_ble_eq_true rfl⟩ rfl ?_
  refine zz_J.mono (k hR) ?_
  intro o h' hE
  cases o with
  | inl v => exact zz_J.weak hE rfl ⟨rfl, rfl, rfl, rfl, trivial⟩
  | inr q => exact hE
theorem cb_108_34 {X : Nat → Option zz_C} {h : zz_H} {t : cS} {s : mS} {d : Nat} {Q : zz_O → zz_H → Prop} {x1 : Int64} {x3 : Int64} {x5 : Int32} {y0 : Int32} (hR : kR h t s) (k1 : ¬ y0 = 0 → (∀ {h : zz_H}, kR h t s → zz_J zp_P zt_tf zt_fd X d zm_108 42 [(0, .ref 59), (1, .long x1), (3, .long x3), (5, .int x5)] [] h Q)) (k2 : ¬ ¬ y0 = 0 → (∀ {h : zz_H}, kR h t s → zz_J zp_P zt_tf zt_fd X d zm_108 37 [] [] h Q)) : zz_J zp_P zt_tf zt_fd X d zm_108 34 [(0, .ref 59), (1, .long x1), (3, .long x3), (5, .int x5)] [.int y0] h Q := by
  refine zz_J.b1 42 37 (A := ¬ y0 = 0) rfl (zz_cond_ne _ _) (by decide) rfl rfl (fun c => ?_) (fun c => ?_)
  · exact zz_J.weak (k1 c hR) rfl ⟨rfl, rfl, rfl, rfl, trivial⟩
  · exact zz_J.weak (k2 c hR) rfl trivial
theorem cb_108_37 {X : Nat → Option zz_C} {h : zz_H} {t : cS} {s : mS} {d : Nat} {Q : zz_O → zz_H → Prop}  (hR : kR h t s) (k : ∀ {h : zz_H}, kR h t s → zz_J zp_P zt_tf zt_fd X d zm_254 0 [(0, .int 3)] [] h (zz_after 1000 Q (fun v h' => zz_J zp_P zt_tf zt_fd X (d + 1) zm_108 41 [] (v.toList ++ []) h' Q))) : zz_J zp_P zt_tf zt_fd X (d + 1) zm_108 37 [] [] h Q := by
  refine zz_J.c 38 (.int 3) rfl rfl rfl rfl ?_
  refine zz_J.cl (M' := zm_254) 41 rfl rfl (by decide) rfl rfl ⟨rfl, Nat.le_of_ble_eq_true rfl⟩ rfl ?_
  refine zz_J.mono (k hR) ?_
  intro o h' hE
  cases o with
  | inl v => exact zz_J.weak hE rfl trivial
  | inr q => exact hE
theorem cb_108_41 {X : Nat → Option zz_C} {h : zz_H} {t : cS} {s : mS} {d : Nat} {Q : zz_O → zz_H → Prop} {y0 : Int64} (hR : kR h t s) (k : ∀ {h : zz_H}, kR h t s → Q (.inl (some (.long y0))) h) : zz_J zp_P zt_tf zt_fd X d zm_108 41 [] [.long y0] h Q := by
  refine zz_J.ret rfl rfl rfl ?_
  exact k hR
theorem cb_108_42 {X : Nat → Option zz_C} {h : zz_H} {t : cS} {s : mS} {d : Nat} {Q : zz_O → zz_H → Prop} {x1 : Int64} {x3 : Int64} {x5 : Int32} (hR : kR h t s) (k : ∀ {h : zz_H}, kR h t s → zz_J zp_P zt_tf zt_fd X d zm_122 0 [(0, .ref 42)] [] h (zz_after 2 Q (fun v h' => zz_J zp_P zt_tf zt_fd X (d + 1) zm_108 49 [(0, .ref 59), (1, .long x1), (3, .long x3), (5, .int x5)] (v.toList ++ []) h' Q))) : zz_J zp_P zt_tf zt_fd X (d + 1) zm_108 42 [(0, .ref 59), (1, .long x1), (3, .long x3), (5, .int x5)] [] h Q := by
  refine zz_J.n 43 rfl rfl rfl ?_
  refine zz_J.g 46 rfl (hR.gv (v := .ref 42) ko_59 (by decide) rfl) rfl ?_
  refine zz_J.cv 49 (as := []) rfl rfl (hR.clO ko_42 (by decide) (by decide)) (by decide) (Nat.le_of_ble_eq_true rfl) (Nat.le_of_ble_eq_true rfl) rfl (Nat.le_of_ble_eq_true rfl) rfl ?_
  refine zz_J.mono (k hR) ?_
  intro o h' hE
  cases o with
  | inl v => exact zz_J.weak hE rfl ⟨rfl, rfl, rfl, rfl, trivial⟩
  | inr q => exact hE
theorem cb_108_49 {X : Nat → Option zz_C} {h : zz_H} {t : cS} {s : mS} {d : Nat} {Q : zz_O → zz_H → Prop} {x1 : Int64} {x3 : Int64} {x5 : Int32} {y0 : Int32} (hR : kR h t s) (k : ∀ {h : zz_H}, kR h t s → zz_J zp_P zt_tf zt_fd X d zm_125 0 [(0, .ref 42), (1, .int x5), (2, .long x1)] [] h (zz_after 2 Q (fun v h' => zz_J zp_P zt_tf zt_fd X (d + 1) zm_108 61 [(0, .ref 59), (3, .long x3), (5, .int x5), (6, .int y0)] (v.toList ++ []) h' Q))) : zz_J zp_P zt_tf zt_fd X (d + 1) zm_108 49 [(0, .ref 59), (1, .long x1), (3, .long x3), (5, .int x5)] [.int y0] h Q := by
  refine zz_J.n 51 rfl rfl rfl ?_
  refine zz_J.n 52 rfl rfl rfl ?_
  refine zz_J.g 55 rfl (hR.gv (v := .ref 42) ko_59 (by decide) rfl) rfl ?_
  refine zz_J.n 57 rfl rfl rfl ?_
  refine zz_J.n 58 rfl rfl rfl ?_
  refine zz_J.cv 61 (as := []) rfl rfl (hR.clO ko_42 (by decide) (by decide)) (by decide) (Nat.le_of_ble_eq_true rfl) (Nat.le_of_ble_eq_true rfl) rfl (Nat.le_of_ble_eq_true rfl) rfl ?_
  refine zz_J.mono (k hR) ?_
  intro o h' hE
  cases o with
  | inl v => exact zz_J.weak hE rfl ⟨rfl, rfl, rfl, rfl, trivial⟩
  | inr q => exact hE
theorem cb_108_61 {X : Nat → Option zz_C} {h : zz_H} {t : cS} {s : mS} {d : Nat} {Q : zz_O → zz_H → Prop} {x3 : Int64} {x5 : Int32} {x6 : Int32} (hR : kR h t s) (k : ∀ {h : zz_H}, kR h t s → zz_J zp_P zt_tf zt_fd X d zm_125 0 [(0, .ref 42), (1, .int x5), (2, .long x3)] [] h (zz_after 2 Q (fun v h' => zz_J zp_P zt_tf zt_fd X (d + 1) zm_108 71 [(0, .ref 59), (5, .int x5), (6, .int x6)] (v.toList ++ []) h' Q))) : zz_J zp_P zt_tf zt_fd X (d + 1) zm_108 61 [(0, .ref 59), (3, .long x3), (5, .int x5), (6, .int x6)] [] h Q := by
  refine zz_J.n 62 rfl rfl rfl ?_
  refine zz_J.g 65 rfl (hR.gv (v := .ref 42) ko_59 (by decide) rfl) rfl ?_
  refine zz_J.n 67 rfl rfl rfl ?_
  refine zz_J.n 68 rfl rfl rfl ?_
  refine zz_J.cv 71 (as := []) rfl rfl (hR.clO ko_42 (by decide) (by decide)) (by decide) (Nat.le_of_ble_eq_true rfl) (Nat.le_of_ble_eq_true rfl) rfl (Nat.le_of_ble_eq_true rfl) rfl ?_
  refine zz_J.mono (k hR) ?_
  intro o h' hE
  cases o with
  | inl v => exact zz_J.weak hE rfl ⟨rfl, rfl, rfl, trivial⟩
  | inr q => exact hE
theorem cb_108_71 {X : Nat → Option zz_C} {h : zz_H} {t : cS} {s : mS} {d : Nat} {Q : zz_O → zz_H → Prop} {x5 : Int32} {x6 : Int32} (hR : kR h t s) (k : ∀ {h : zz_H}, kR h t s → zz_J zp_P zt_tf zt_fd X d zm_126 0 [(0, .ref 42), (1, .int x5), (2, .int x6)] [] h (zz_after 2 Q (fun v h' => zz_J zp_P zt_tf zt_fd X (d + 1) zm_108 82 [] (v.toList ++ []) h' Q))) : zz_J zp_P zt_tf zt_fd X (d + 1) zm_108 71 [(0, .ref 59), (5, .int x5), (6, .int x6)] [] h Q := by
  refine zz_J.n 72 rfl rfl rfl ?_
  refine zz_J.g 75 rfl (hR.gv (v := .ref 42) ko_59 (by decide) rfl) rfl ?_
  refine zz_J.n 77 rfl rfl rfl ?_
  refine zz_J.n 79 rfl rfl rfl ?_
  refine zz_J.cv 82 (as := []) rfl rfl (hR.clO ko_42 (by decide) (by decide)) (by decide) (Nat.le_of_ble_eq_true rfl) (Nat.le_of_ble_eq_true rfl) rfl (Nat.le_of_ble_eq_true rfl) rfl ?_
  refine zz_J.mono (k hR) ?_
  intro o h' hE
  cases o with
  | inl v => exact zz_J.weak hE rfl trivial
  | inr q => exact hE
theorem cb_108_82 {X : Nat → Option zz_C} {h : zz_H} {t : cS} {s : mS} {d : Nat} {Q : zz_O → zz_H → Prop} {y0 : Int64} (hR : kR h t s) (k : ∀ {h : zz_H}, kR h t s → Q (.inl (some (.long y0))) h) : zz_J zp_P zt_tf zt_fd X d zm_108 82 [] [.long y0] h Q := by
  refine zz_J.ret rfl rfl rfl ?_
  exact k hR
def cf_108_82 (N : Nat) (X : Nat → Option zz_C) (y0 : Int64) (t : cS) : kO := some (t, .inl (some (.long y0)))
theorem cr_108_82 {X : Nat → Option zz_C} {s : mS} {N : Nat} {d : Nat} (hd : 11 ≤ d) {Q : zz_O → zz_H → Prop} {y0 : Int64} {h : zz_H} {t t' : cS} {o : kY} (hR : kR h t s) (hf : cf_108_82 N X y0 t = some (t', o)) (k : (∀ h', kR h' t' s → kE o Q h')) : zz_J zp_P zt_tf zt_fd X d zm_108 82 [] [.long y0] h Q := by
  unfold cf_108_82 at hf
  cases hf
  exact cb_108_82 hR  (fun {h} hR => k h hR)
def cf_108_71 (N : Nat) (X : Nat → Option zz_C) (x5 : Int32) (x6 : Int32) (t : cS) : kO := ko_call 2 (cf_126 N X x5 x6 t) (fun g1 v1 => co_l v1 (fun y => cf_108_82 N X y g1))
theorem cr_108_71 {X : Nat → Option zz_C} {s : mS} {N : Nat} {d : Nat} (hd : 11 ≤ d) {Q : zz_O → zz_H → Prop} {x5 : Int32} {x6 : Int32} {h : zz_H} {t t' : cS} {o : kY} (hR : kR h t s) (hf : cf_108_71 N X x5 x6 t = some (t', o)) (k : (∀ h', kR h' t' s → kE o Q h')) : zz_J zp_P zt_tf zt_fd X d zm_108 71 [(0, .ref 59), (5, .int x5), (6, .int x6)] [] h Q := by
  unfold cf_108_71 at hf
  obtain ⟨d', rfl⟩ : ∃ d', d = d' + 1 := ⟨d - 1, by omega⟩
  refine cb_108_71 hR  (fun {h} hR => ?_)
  rcases ko_call_ok hf with ⟨g1, v1, er, hf⟩ | ⟨g1, er, hq⟩
  · obtain ⟨y, hv, hf2⟩ := co_l_ok hf
    clear hf
    have hf := hf2
    clear hf2
    subst hv
    refine cr_126 (by omega) hR er (fun h hR => ?_)
    exact cr_108_82 hd hR hf k
  · refine cr_126 (by omega) hR er (fun h hR => ?_)
    exact ko_thrown hq hR k
def cf_108_61 (N : Nat) (X : Nat → Option zz_C) (x3 : Int64) (x5 : Int32) (x6 : Int32) (t : cS) : kO := ko_call 2 (cf_125 N X x5 x3 t) (fun g1 v1 => co_v v1 (cf_108_71 N X x5 x6 g1))
theorem cr_108_61 {X : Nat → Option zz_C} {s : mS} {N : Nat} {d : Nat} (hd : 11 ≤ d) {Q : zz_O → zz_H → Prop} {x3 : Int64} {x5 : Int32} {x6 : Int32} {h : zz_H} {t t' : cS} {o : kY} (hR : kR h t s) (hf : cf_108_61 N X x3 x5 x6 t = some (t', o)) (k : (∀ h', kR h' t' s → kE o Q h')) : zz_J zp_P zt_tf zt_fd X d zm_108 61 [(0, .ref 59), (3, .long x3), (5, .int x5), (6, .int x6)] [] h Q := by
  unfold cf_108_61 at hf
  obtain ⟨d', rfl⟩ : ∃ d', d = d' + 1 := ⟨d - 1, by omega⟩
  refine cb_108_61 hR  (fun {h} hR => ?_)
  rcases ko_call_ok hf with ⟨g1, v1, er, hf⟩ | ⟨g1, er, hq⟩
  · obtain ⟨hv, hf2⟩ := co_v_ok hf
    clear hf
    have hf := hf2
    clear hf2
    subst hv
    refine cr_125 (by omega) hR er (fun h hR => ?_)
    exact cr_108_71 hd hR hf k
  · refine cr_125 (by omega) hR er (fun h hR => ?_)
    exact ko_thrown hq hR k
def cf_108_49 (N : Nat) (X : Nat → Option zz_C) (x1 : Int64) (x3 : Int64) (x5 : Int32) (y0 : Int32) (t : cS) : kO := ko_call 2 (cf_125 N X x5 x1 t) (fun g1 v1 => co_v v1 (cf_108_61 N X x3 x5 y0 g1))
theorem cr_108_49 {X : Nat → Option zz_C} {s : mS} {N : Nat} {d : Nat} (hd : 11 ≤ d) {Q : zz_O → zz_H → Prop} {x1 : Int64} {x3 : Int64} {x5 : Int32} {y0 : Int32} {h : zz_H} {t t' : cS} {o : kY} (hR : kR h t s) (hf : cf_108_49 N X x1 x3 x5 y0 t = some (t', o)) (k : (∀ h', kR h' t' s → kE o Q h')) : zz_J zp_P zt_tf zt_fd X d zm_108 49 [(0, .ref 59), (1, .long x1), (3, .long x3), (5, .int x5)] [.int y0] h Q := by
  unfold cf_108_49 at hf
  obtain ⟨d', rfl⟩ : ∃ d', d = d' + 1 := ⟨d - 1, by omega⟩
  refine cb_108_49 hR  (fun {h} hR => ?_)
  rcases ko_call_ok hf with ⟨g1, v1, er, hf⟩ | ⟨g1, er, hq⟩
  · obtain ⟨hv, hf2⟩ := co_v_ok hf
    clear hf
    have hf := hf2
    clear hf2
    subst hv
    refine cr_125 (by omega) hR er (fun h hR => ?_)
    exact cr_108_61 hd hR hf k
  · refine cr_125 (by omega) hR er (fun h hR => ?_)
    exact ko_thrown hq hR k
def cf_108_42 (N : Nat) (X : Nat → Option zz_C) (x1 : Int64) (x3 : Int64) (x5 : Int32) (t : cS) : kO := ko_call 2 (cf_122 N X  t) (fun g1 v1 => co_i v1 (fun y => cf_108_49 N X x1 x3 x5 y g1))
theorem cr_108_42 {X : Nat → Option zz_C} {s : mS} {N : Nat} {d : Nat} (hd : 11 ≤ d) {Q : zz_O → zz_H → Prop} {x1 : Int64} {x3 : Int64} {x5 : Int32} {h : zz_H} {t t' : cS} {o : kY} (hR : kR h t s) (hf : cf_108_42 N X x1 x3 x5 t = some (t', o)) (k : (∀ h', kR h' t' s → kE o Q h')) : zz_J zp_P zt_tf zt_fd X d zm_108 42 [(0, .ref 59), (1, .long x1), (3, .long x3), (5, .int x5)] [] h Q := by
  unfold cf_108_42 at hf
  obtain ⟨d', rfl⟩ : ∃ d', d = d' + 1 := ⟨d - 1, by omega⟩
  refine cb_108_42 hR  (fun {h} hR => ?_)
  rcases ko_call_ok hf with ⟨g1, v1, er, hf⟩ | ⟨g1, er, hq⟩
  · obtain ⟨y, hv, hf2⟩ := co_i_ok hf
    clear hf
    have hf := hf2
    clear hf2
    subst hv
    refine cr_122 (by omega) hR er (fun h hR => ?_)
    exact cr_108_49 hd hR hf k
  · refine cr_122 (by omega) hR er (fun h hR => ?_)
    exact ko_thrown hq hR k
def cf_108_41 (N : Nat) (X : Nat → Option zz_C) (y0 : Int64) (t : cS) : kO := some (t, .inl (some (.long y0)))
theorem cr_108_41 {X : Nat → Option zz_C} {s : mS} {N : Nat} {d : Nat} (hd : 11 ≤ d) {Q : zz_O → zz_H → Prop} {y0 : Int64} {h : zz_H} {t t' : cS} {o : kY} (hR : kR h t s) (hf : cf_108_41 N X y0 t = some (t', o)) (k : (∀ h', kR h' t' s → kE o Q h')) : zz_J zp_P zt_tf zt_fd X d zm_108 41 [] [.long y0] h Q := by
  unfold cf_108_41 at hf
  cases hf
  exact cb_108_41 hR  (fun {h} hR => k h hR)
def cf_108_37 (N : Nat) (X : Nat → Option zz_C)  (t : cS) : kO := ko_call 1000 (cf_254 N X 3 t) (fun g1 v1 => co_l v1 (fun y => cf_108_41 N X y g1))
theorem cr_108_37 {X : Nat → Option zz_C} {s : mS} {N : Nat} {d : Nat} (hd : 11 ≤ d) {Q : zz_O → zz_H → Prop}  {h : zz_H} {t t' : cS} {o : kY} (hR : kR h t s) (hf : cf_108_37 N X  t = some (t', o)) (k : (∀ h', kR h' t' s → kE o Q h')) : zz_J zp_P zt_tf zt_fd X d zm_108 37 [] [] h Q := by
  unfold cf_108_37 at hf
  obtain ⟨d', rfl⟩ : ∃ d', d = d' + 1 := ⟨d - 1, by omega⟩
  refine cb_108_37 hR  (fun {h} hR => ?_)
  rcases ko_call_ok hf with ⟨g1, v1, er, hf⟩ | ⟨g1, er, hq⟩
  · obtain ⟨y, hv, hf2⟩ := co_l_ok hf
    clear hf
    have hf := hf2
    clear hf2
    subst hv
    refine cr_254 (by omega) hR er (fun h hR => ?_)
    exact cr_108_41 hd hR hf k
  · refine cr_254 (by omega) hR er (fun h hR => ?_)
    exact ko_thrown hq hR k
def cf_108_34 (N : Nat) (X : Nat → Option zz_C) (x1 : Int64) (x3 : Int64) (x5 : Int32) (y0 : Int32) (t : cS) : kO := if ¬ y0 = 0 then cf_108_42 N X x1 x3 x5 t else cf_108_37 N X  t
theorem cr_108_34 {X : Nat → Option zz_C} {s : mS} {N : Nat} {d : Nat} (hd : 11 ≤ d) {Q : zz_O → zz_H → Prop} {x1 : Int64} {x3 : Int64} {x5 : Int32} {y0 : Int32} {h : zz_H} {t t' : cS} {o : kY} (hR : kR h t s) (hf : cf_108_34 N X x1 x3 x5 y0 t = some (t', o)) (k : (∀ h', kR h' t' s → kE o Q h')) : zz_J zp_P zt_tf zt_fd X d zm_108 34 [(0, .ref 59), (1, .long x1), (3, .long x3), (5, .int x5)] [.int y0] h Q := by
  unfold cf_108_34 at hf
  refine cb_108_34 hR  (fun c {h} hR => ?_) (fun c {h} hR => ?_)
  · rw [if_pos c] at hf
    exact cr_108_42 hd hR hf k
  · rw [if_neg c] at hf
    exact cr_108_37 hd hR hf k
def cf_108_30 (N : Nat) (X : Nat → Option zz_C) (x1 : Int64) (x3 : Int64) (x5 : Int32) (t : cS) : kO := ko_call 1000 (cf_255 N X x3 t) (fun g1 v1 => co_i v1 (fun y => cf_108_34 N X x1 x3 x5 y g1))
theorem cr_108_30 {X : Nat → Option zz_C} {s : mS} {N : Nat} {d : Nat} (hd : 11 ≤ d) {Q : zz_O → zz_H → Prop} {x1 : Int64} {x3 : Int64} {x5 : Int32} {h : zz_H} {t t' : cS} {o : kY} (hR : kR h t s) (hf : cf_108_30 N X x1 x3 x5 t = some (t', o)) (k : (∀ h', kR h' t' s → kE o Q h')) : zz_J zp_P zt_tf zt_fd X d zm_108 30 [(0, .ref 59), (1, .long x1), (3, .long x3), (5, .int x5)] [] h Q := by
  unfold cf_108_30 at hf
  obtain ⟨d', rfl⟩ : ∃ d', d = d' + 1 := ⟨d - 1, by omega⟩
  refine cb_108_30 hR  (fun {h} hR => ?_)
  rcases ko_call_ok hf with ⟨g1, v1, er, hf⟩ | ⟨g1, er, hq⟩
  · obtain ⟨y, hv, hf2⟩ := co_i_ok hf
    clear hf
    have hf := hf2
    clear hf2
    subst hv
    refine cr_255 (by omega) hR er (fun h hR => ?_)
    exact cr_108_34 hd hR hf k
  · refine cr_255 (by omega) hR er (fun h hR => ?_)
    exact ko_thrown hq hR k
def cf_108_27 (N : Nat) (X : Nat → Option zz_C) (x1 : Int64) (x3 : Int64) (x5 : Int32) (y0 : Int32) (t : cS) : kO := if y0 = 0 then cf_108_37 N X  t else cf_108_30 N X x1 x3 x5 t
theorem cr_108_27 {X : Nat → Option zz_C} {s : mS} {N : Nat} {d : Nat} (hd : 11 ≤ d) {Q : zz_O → zz_H → Prop} {x1 : Int64} {x3 : Int64} {x5 : Int32} {y0 : Int32} {h : zz_H} {t t' : cS} {o : kY} (hR : kR h t s) (hf : cf_108_27 N X x1 x3 x5 y0 t = some (t', o)) (k : (∀ h', kR h' t' s → kE o Q h')) : zz_J zp_P zt_tf zt_fd X d zm_108 27 [(0, .ref 59), (1, .long x1), (3, .long x3), (5, .int x5)] [.int y0] h Q := by
  unfold cf_108_27 at hf
  refine cb_108_27 hR  (fun c {h} hR => ?_) (fun c {h} hR => ?_)
  · rw [if_pos c] at hf
    exact cr_108_37 hd hR hf k
  · rw [if_neg c] at hf
    exact cr_108_30 hd hR hf k
def cf_108_23 (N : Nat) (X : Nat → Option zz_C) (x1 : Int64) (x3 : Int64) (x5 : Int32) (t : cS) : kO := ko_call 1000 (cf_255 N X x1 t) (fun g1 v1 => co_i v1 (fun y => cf_108_27 N X x1 x3 x5 y g1))
theorem cr_108_23 {X : Nat → Option zz_C} {s : mS} {N : Nat} {d : Nat} (hd : 11 ≤ d) {Q : zz_O → zz_H → Prop} {x1 : Int64} {x3 : Int64} {x5 : Int32} {h : zz_H} {t t' : cS} {o : kY} (hR : kR h t s) (hf : cf_108_23 N X x1 x3 x5 t = some (t', o)) (k : (∀ h', kR h' t' s → kE o Q h')) : zz_J zp_P zt_tf zt_fd X d zm_108 23 [(0, .ref 59), (1, .long x1), (3, .long x3), (5, .int x5)] [] h Q := by
  unfold cf_108_23 at hf
  obtain ⟨d', rfl⟩ : ∃ d', d = d' + 1 := ⟨d - 1, by omega⟩
  refine cb_108_23 hR  (fun {h} hR => ?_)
  rcases ko_call_ok hf with ⟨g1, v1, er, hf⟩ | ⟨g1, er, hq⟩
  · obtain ⟨y, hv, hf2⟩ := co_i_ok hf
    clear hf
    have hf := hf2
    clear hf2
    subst hv
    refine cr_255 (by omega) hR er (fun h hR => ?_)
    exact cr_108_27 hd hR hf k
  · refine cr_255 (by omega) hR er (fun h hR => ?_)
    exact ko_thrown hq hR k
def cf_108_9 (N : Nat) (X : Nat → Option zz_C) (x1 : Int64) (x3 : Int64) (y0 : Int32) (y1 : Int32) (y2 : Int32) (t : cS) : kO := if ¬ (if (y0 : Int32) < (if (y1 : Int32) < y2 then y2 else y1) then (if (y1 : Int32) < y2 then y2 else y1) else y0) = 2 then cf_108_42 N X x1 x3 (if (y0 : Int32) < (if (y1 : Int32) < y2 then y2 else y1) then (if (y1 : Int32) < y2 then y2 else y1) else y0) t else cf_108_23 N X x1 x3 (if (y0 : Int32) < (if (y1 : Int32) < y2 then y2 else y1) then (if (y1 : Int32) < y2 then y2 else y1) else y0) t
theorem cr_108_9 {X : Nat → Option zz_C} {s : mS} {N : Nat} {d : Nat} (hd : 11 ≤ d) {Q : zz_O → zz_H → Prop} {x1 : Int64} {x3 : Int64} {y0 : Int32} {y1 : Int32} {y2 : Int32} {h : zz_H} {t t' : cS} {o : kY} (hR : kR h t s) (hf : cf_108_9 N X x1 x3 y0 y1 y2 t = some (t', o)) (k : (∀ h', kR h' t' s → kE o Q h')) : zz_J zp_P zt_tf zt_fd X d zm_108 9 [(0, .ref 59), (1, .long x1), (3, .long x3)] [.int y2, .int y1, .int y0] h Q := by
  unfold cf_108_9 at hf
  obtain ⟨d', rfl⟩ : ∃ d', d = d' + 1 := ⟨d - 1, by omega⟩
  refine cb_108_9 hR  (fun c {h} hR => ?_) (fun c {h} hR => ?_)
  · rw [if_pos c] at hf
    exact cr_108_42 hd hR hf k
  · rw [if_neg c] at hf
    exact cr_108_23 hd hR hf k
def cf_108_5 (N : Nat) (X : Nat → Option zz_C) (x1 : Int64) (x3 : Int64) (y0 : Int32) (y1 : Int32) (t : cS) : kO := ko_call 1000 (cf_255 N X x3 t) (fun g1 v1 => co_i v1 (fun y => cf_108_9 N X x1 x3 y0 y1 y g1))
theorem cr_108_5 {X : Nat → Option zz_C} {s : mS} {N : Nat} {d : Nat} (hd : 11 ≤ d) {Q : zz_O → zz_H → Prop} {x1 : Int64} {x3 : Int64} {y0 : Int32} {y1 : Int32} {h : zz_H} {t t' : cS} {o : kY} (hR : kR h t s) (hf : cf_108_5 N X x1 x3 y0 y1 t = some (t', o)) (k : (∀ h', kR h' t' s → kE o Q h')) : zz_J zp_P zt_tf zt_fd X d zm_108 5 [(0, .ref 59), (1, .long x1), (3, .long x3)] [.int y1, .int y0] h Q := by
  unfold cf_108_5 at hf
  obtain ⟨d', rfl⟩ : ∃ d', d = d' + 1 := ⟨d - 1, by omega⟩
  refine cb_108_5 hR  (fun {h} hR => ?_)
  rcases ko_call_ok hf with ⟨g1, v1, er, hf⟩ | ⟨g1, er, hq⟩
  · obtain ⟨y, hv, hf2⟩ := co_i_ok hf
    clear hf
    have hf := hf2
    clear hf2
    subst hv
    refine cr_255 (by omega) hR er (fun h hR => ?_)
    exact cr_108_9 hd hR hf k
  · refine cr_255 (by omega) hR er (fun h hR => ?_)
    exact ko_thrown hq hR k
def cf_108_0 (N : Nat) (X : Nat → Option zz_C) (x1 : Int64) (x3 : Int64) (t : cS) : kO := ko_call 1000 (cf_255 N X x1 t) (fun g1 v1 => co_i v1 (fun y => cf_108_5 N X x1 x3 1 y g1))
theorem cr_108_0 {X : Nat → Option zz_C} {s : mS} {N : Nat} {d : Nat} (hd : 11 ≤ d) {Q : zz_O → zz_H → Prop} {x1 : Int64} {x3 : Int64} {h : zz_H} {t t' : cS} {o : kY} (hR : kR h t s) (hf : cf_108_0 N X x1 x3 t = some (t', o)) (k : (∀ h', kR h' t' s → kE o Q h')) : zz_J zp_P zt_tf zt_fd X d zm_108 0 [(0, .ref 59), (1, .long x1), (3, .long x3)] [] h Q := by
  unfold cf_108_0 at hf
  obtain ⟨d', rfl⟩ : ∃ d', d = d' + 1 := ⟨d - 1, by omega⟩
  refine cb_108_0 hR  (fun {h} hR => ?_)
  rcases ko_call_ok hf with ⟨g1, v1, er, hf⟩ | ⟨g1, er, hq⟩
  · obtain ⟨y, hv, hf2⟩ := co_i_ok hf
    clear hf
    have hf := hf2
    clear hf2
    subst hv
    refine cr_255 (by omega) hR er (fun h hR => ?_)
    exact cr_108_5 hd hR hf k
  · refine cr_255 (by omega) hR er (fun h hR => ?_)
    exact ko_thrown hq hR k
/-- join -/
def cf_108 (N : Nat) (X : Nat → Option zz_C) (x1 : Int64) (x3 : Int64) (t : cS) : kO := cf_108_0 N X x1 x3 t
theorem cr_108 {X : Nat → Option zz_C} {s : mS} {N : Nat} {d : Nat} (hd : 11 ≤ d) {Q : zz_O → zz_H → Prop} {x1 : Int64} {x3 : Int64} {h : zz_H} {t t' : cS} {o : kY} (hR : kR h t s) (hf : cf_108 N X x1 x3 t = some (t', o)) (k : ∀ h', kR h' t' s → kE o Q h') : zz_J zp_P zt_tf zt_fd X d zm_108 0 [(0, .ref 59), (1, .long x1), (3, .long x3)] [] h Q := by
  unfold cf_108 at hf
  exact zz_J.weak (cr_108_0 hd hR hf k) rfl ⟨rfl, rfl, rfl, trivial⟩
